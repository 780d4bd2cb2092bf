section Z12
variable {θ : Th} {p : Program} {l : Launch} {e : Env} {s : State} {m : MethodId} {args : Array Value} {below : List Frame} {meth : Method} {c : Code}
theorem dX9_whyNotHand_0 : decode cX9_whyNotHand 0 = .ok (.aload_n 0, 1) := by decide +kernel
theorem dX9_whyNotHand_1 : decode cX9_whyNotHand 1 = .ok (.iload_n 2, 1) := by decide +kernel
theorem dX9_whyNotHand_2 : decode cX9_whyNotHand 2 = .ok (.invokevirtual 88, 3) := by decide +kernel
theorem dX9_whyNotHand_5 : decode cX9_whyNotHand 5 = .ok (.ifCond .eq 11, 3) := by decide +kernel
theorem dX9_whyNotHand_8 : decode cX9_whyNotHand 8 = .ok (.aload_n 0, 1) := by decide +kernel
theorem dX9_whyNotHand_9 : decode cX9_whyNotHand 9 = .ok (.iload_n 3, 1) := by decide +kernel
theorem dX9_whyNotHand_10 : decode cX9_whyNotHand 10 = .ok (.invokevirtual 88, 3) := by decide +kernel
theorem dX9_whyNotHand_13 : decode cX9_whyNotHand 13 = .ok (.ifCond .ne 5, 3) := by decide +kernel
theorem dX9_whyNotHand_16 : decode cX9_whyNotHand 16 = .ok (.iconst 0, 1) := by decide +kernel
theorem dX9_whyNotHand_17 : decode cX9_whyNotHand 17 = .ok (.ireturn, 1) := by decide +kernel
theorem dX9_whyNotHand_18 : decode cX9_whyNotHand 18 = .ok (.iload_n 2, 1) := by decide +kernel
theorem dX9_whyNotHand_19 : decode cX9_whyNotHand 19 = .ok (.iload_n 3, 1) := by decide +kernel
theorem dX9_whyNotHand_20 : decode cX9_whyNotHand 20 = .ok (.if_icmp .ne 5, 3) := by decide +kernel
theorem dX9_whyNotHand_23 : decode cX9_whyNotHand 23 = .ok (.iconst 1, 1) := by decide +kernel
theorem dX9_whyNotHand_24 : decode cX9_whyNotHand 24 = .ok (.ireturn, 1) := by decide +kernel
theorem dX9_whyNotHand_25 : decode cX9_whyNotHand 25 = .ok (.aload_n 1, 1) := by decide +kernel
theorem dX9_whyNotHand_26 : decode cX9_whyNotHand 26 = .ok (.getfield 98, 3) := by decide +kernel
theorem dX9_whyNotHand_29 : decode cX9_whyNotHand 29 = .ok (.iload_n 2, 1) := by decide +kernel
theorem dX9_whyNotHand_30 : decode cX9_whyNotHand 30 = .ok (.iaload, 1) := by decide +kernel
theorem dX9_whyNotHand_31 : decode cX9_whyNotHand 31 = .ok (.iconst (-1), 1) := by decide +kernel
theorem dX9_whyNotHand_32 : decode cX9_whyNotHand 32 = .ok (.if_icmp .ne 5, 3) := by decide +kernel
theorem dX9_whyNotHand_35 : decode cX9_whyNotHand 35 = .ok (.iconst 2, 1) := by decide +kernel
theorem dX9_whyNotHand_36 : decode cX9_whyNotHand 36 = .ok (.ireturn, 1) := by decide +kernel
theorem dX9_whyNotHand_37 : decode cX9_whyNotHand 37 = .ok (.aload_n 1, 1) := by decide +kernel
theorem dX9_whyNotHand_38 : decode cX9_whyNotHand 38 = .ok (.getfield 98, 3) := by decide +kernel
theorem dX9_whyNotHand_41 : decode cX9_whyNotHand 41 = .ok (.iload_n 3, 1) := by decide +kernel
theorem dX9_whyNotHand_42 : decode cX9_whyNotHand 42 = .ok (.iaload, 1) := by decide +kernel
theorem dX9_whyNotHand_43 : decode cX9_whyNotHand 43 = .ok (.iconst (-1), 1) := by decide +kernel
theorem dX9_whyNotHand_44 : decode cX9_whyNotHand 44 = .ok (.if_icmp .eq 7, 3) := by decide +kernel
theorem dX9_whyNotHand_47 : decode cX9_whyNotHand 47 = .ok (.iconst 3, 1) := by decide +kernel
theorem dX9_whyNotHand_48 : decode cX9_whyNotHand 48 = .ok (.goto 4, 3) := by decide +kernel
theorem dX9_whyNotHand_51 : decode cX9_whyNotHand 51 = .ok (.iconst (-1), 1) := by decide +kernel
theorem dX9_whyNotHand_52 : decode cX9_whyNotHand 52 = .ok (.ireturn, 1) := by decide +kernel
def f_Trade_whyNotHand (σ : Mem) (x1 : Nat) (x2 : Int32) (x3 : Int32) : Option (Int32) :=
  (f_Trade_isBuyer σ x2).bind fun q1 =>
  if q1 = (0 : Int32) then
    some (0 : Int32)
  else
    (f_Trade_isBuyer σ x3).bind fun q3 =>
    if q3 = (0 : Int32) then
      some (0 : Int32)
    else
      if x2 = x3 then
        some (1 : Int32)
      else
        if inb x2 6 then
          if (mI σ (x1 + 5) x2.toNatClampNeg) = (-1 : Int32) then
            some (2 : Int32)
          else
            if inb x3 6 then
              if (mI σ (x1 + 5) x3.toNatClampNeg) = (-1 : Int32) then
                some (-1 : Int32)
              else
                some (3 : Int32)
            else none
        else none
set_option maxHeartbeats 4000000 in
set_option maxRecDepth 20000 in
theorem g_Trade_whyNotHand (X : Cx θ p s m args c cX9_whyNotHand 4 RX9) (hr : meth.sig.returnType = some .int) (hlk : meth.locks = false)  {σ : Mem} {x1 : Nat} {x2 : Int32} {x3 : Int32} {r : Int32} (h1 : kd x1 = 8) (h : f_Trade_whyNotHand σ x1 x2 x3 = some r) : GB θ p l e 1 s m args below meth c 4 (some (.int r), σ) 0 [(0, .ref (be θ + 428)), (1, .ref (be θ + x1)), (2, .int x2), (3, .int x3)] [] σ := by
  unfold f_Trade_whyNotHand at h
  refine g_aload_n X dX9_whyNotHand_0 rfl 0 rfl ?_
  refine g_iload_n X dX9_whyNotHand_1 rfl 2 rfl ?_
  obtain ⟨q1, hq1, h⟩ := Option.bind_eq_some_iff.mp h
  refine g_cV X (c_Trade_isBuyer  hq1) lk_RX9_88 my_X9_isBuyer (a := 428) (ci := 9) kd_428 (by decide) rfl (As := [.int x2]) (rest := []) rfl rfl (Nat.le_of_ble_eq_true rfl) ⟨(Nat.le_of_ble_eq_true rfl), (Nat.le_of_ble_eq_true rfl)⟩ ⟨(Nat.le_of_ble_eq_true rfl), (Nat.le_of_ble_eq_true rfl)⟩ dX9_whyNotHand_2 (st' := [.int q1]) (σ' := σ) rfl rfl ?_
  refine g_if_eq (tgt := 16) X dX9_whyNotHand_5 (by decide) (fun c2 => ?_) (fun c2 => ?_)
  · replace h := (if_pos c2).symm.trans h
    refine g_iconst X dX9_whyNotHand_16 (v := (0 : Int32)) ic_0 ?_
    exact g_iret X hr hlk dX9_whyNotHand_17 (by cases h; rfl)
  · replace h := (if_neg c2).symm.trans h
    refine g_aload_n X dX9_whyNotHand_8 rfl 0 rfl ?_
    refine g_iload_n X dX9_whyNotHand_9 rfl 3 rfl ?_
    obtain ⟨q3, hq3, h⟩ := Option.bind_eq_some_iff.mp h
    refine g_cV X (c_Trade_isBuyer  hq3) lk_RX9_88 my_X9_isBuyer (a := 428) (ci := 9) kd_428 (by decide) rfl (As := [.int x3]) (rest := []) rfl rfl (Nat.le_of_ble_eq_true rfl) ⟨(Nat.le_of_ble_eq_true rfl), (Nat.le_of_ble_eq_true rfl)⟩ ⟨(Nat.le_of_ble_eq_true rfl), (Nat.le_of_ble_eq_true rfl)⟩ dX9_whyNotHand_10 (st' := [.int q3]) (σ' := σ) rfl rfl ?_
    refine g_if_ne (tgt := 18) X dX9_whyNotHand_13 (by decide) (fun c4 => ?_) (fun c4 => ?_)
    · replace h := (if_neg c4).symm.trans h
      refine g_iload_n X dX9_whyNotHand_18 rfl 2 rfl ?_
      refine g_iload_n X dX9_whyNotHand_19 rfl 3 rfl ?_
      refine g_icmp_ne (tgt := 25) X dX9_whyNotHand_20 (by decide) (fun c5 => ?_) (fun c5 => ?_)
      · replace h := (if_neg c5).symm.trans h
        refine g_aload_n X dX9_whyNotHand_25 rfl 1 rfl ?_
        refine g_get X fl_RX9_98 dX9_whyNotHand_26 h1 (v := .ref (be θ + (x1 + 5))) rfl ?_
        refine g_iload_n X dX9_whyNotHand_29 rfl 2 rfl ?_
        obtain ⟨g6, h⟩ := ite_some h
        refine g_iald X (lk7_4 h1).1 (lk7_4 h1).2 (inb_in g6) dX9_whyNotHand_30 ?_
        refine g_iconst X dX9_whyNotHand_31 (v := (-1 : Int32)) ic_m1 ?_
        refine g_icmp_ne (tgt := 37) X dX9_whyNotHand_32 (by decide) (fun c7 => ?_) (fun c7 => ?_)
        · replace h := (if_neg c7).symm.trans h
          refine g_aload_n X dX9_whyNotHand_37 rfl 1 rfl ?_
          refine g_get X fl_RX9_98 dX9_whyNotHand_38 h1 (v := .ref (be θ + (x1 + 5))) rfl ?_
          refine g_iload_n X dX9_whyNotHand_41 rfl 3 rfl ?_
          obtain ⟨g8, h⟩ := ite_some h
          refine g_iald X (lk7_4 h1).1 (lk7_4 h1).2 (inb_in g8) dX9_whyNotHand_42 ?_
          refine g_iconst X dX9_whyNotHand_43 (v := (-1 : Int32)) ic_m1 ?_
          refine g_icmp_eq (tgt := 51) X dX9_whyNotHand_44 (by decide) (fun c9 => ?_) (fun c9 => ?_)
          · replace h := (if_pos c9).symm.trans h
            refine g_iconst X dX9_whyNotHand_51 (v := (-1 : Int32)) ic_m1 ?_
            exact g_iret X hr hlk dX9_whyNotHand_52 (by cases h; rfl)
          · replace h := (if_neg c9).symm.trans h
            refine g_iconst X dX9_whyNotHand_47 (v := (3 : Int32)) ic_3 ?_
            refine g_goto (tgt := 52) X dX9_whyNotHand_48 (by decide) ?_
            exact g_iret X hr hlk dX9_whyNotHand_52 (by cases h; rfl)
        · replace h := (if_pos c7).symm.trans h
          refine g_iconst X dX9_whyNotHand_35 (v := (2 : Int32)) ic_2 ?_
          exact g_iret X hr hlk dX9_whyNotHand_36 (by cases h; rfl)
      · replace h := (if_pos c5).symm.trans h
        refine g_iconst X dX9_whyNotHand_23 (v := (1 : Int32)) ic_1 ?_
        exact g_iret X hr hlk dX9_whyNotHand_24 (by cases h; rfl)
    · replace h := (if_pos c4).symm.trans h
      refine g_iconst X dX9_whyNotHand_16 (v := (0 : Int32)) ic_0 ?_
      exact g_iret X hr hlk dX9_whyNotHand_17 (by cases h; rfl)
set_option maxHeartbeats 4000000 in
set_option maxRecDepth 20000 in
theorem c_Trade_whyNotHand {θ : Th} {l : Launch} {σ : Mem} {x1 : Nat} {x2 : Int32} {x3 : Int32} {r : Int32} (h1 : kd x1 = 8) (h : f_Trade_whyNotHand σ x1 x2 x3 = some r) : Cn θ l yX9_whyNotHand cX9_whyNotHand 4 (some .int) 1 0 0 [.ref (be θ + 428), .ref (be θ + x1), .int x2, .int x3] σ (some (.int r), σ) :=
  Cn.of (by decide) (Nat.le_of_ble_eq_true rfl) (fun p e s m below meth c X hr hlk => g_Trade_whyNotHand X hr hlk h1 h)
theorem dX9_whyNotBuy_0 : decode cX9_whyNotBuy 0 = .ok (.aload_n 0, 1) := by decide +kernel
theorem dX9_whyNotBuy_1 : decode cX9_whyNotBuy 1 = .ok (.aload_n 1, 1) := by decide +kernel
theorem dX9_whyNotBuy_2 : decode cX9_whyNotBuy 2 = .ok (.iload_n 2, 1) := by decide +kernel
theorem dX9_whyNotBuy_3 : decode cX9_whyNotBuy 3 = .ok (.invokevirtual 101, 3) := by decide +kernel
theorem dX9_whyNotBuy_6 : decode cX9_whyNotBuy 6 = .ok (.istore_n 3, 1) := by decide +kernel
theorem dX9_whyNotBuy_7 : decode cX9_whyNotBuy 7 = .ok (.iload_n 3, 1) := by decide +kernel
theorem dX9_whyNotBuy_8 : decode cX9_whyNotBuy 8 = .ok (.iconst (-1), 1) := by decide +kernel
theorem dX9_whyNotBuy_9 : decode cX9_whyNotBuy 9 = .ok (.if_icmp .eq 5, 3) := by decide +kernel
theorem dX9_whyNotBuy_12 : decode cX9_whyNotBuy 12 = .ok (.iload_n 3, 1) := by decide +kernel
theorem dX9_whyNotBuy_13 : decode cX9_whyNotBuy 13 = .ok (.ireturn, 1) := by decide +kernel
theorem dX9_whyNotBuy_14 : decode cX9_whyNotBuy 14 = .ok (.aload_n 1, 1) := by decide +kernel
theorem dX9_whyNotBuy_15 : decode cX9_whyNotBuy 15 = .ok (.getfield 51, 3) := by decide +kernel
theorem dX9_whyNotBuy_18 : decode cX9_whyNotBuy 18 = .ok (.iload_n 2, 1) := by decide +kernel
theorem dX9_whyNotBuy_19 : decode cX9_whyNotBuy 19 = .ok (.iaload, 1) := by decide +kernel
theorem dX9_whyNotBuy_20 : decode cX9_whyNotBuy 20 = .ok (.aload_n 0, 1) := by decide +kernel
theorem dX9_whyNotBuy_21 : decode cX9_whyNotBuy 21 = .ok (.getfield 24, 3) := by decide +kernel
theorem dX9_whyNotBuy_24 : decode cX9_whyNotBuy 24 = .ok (.aload_n 1, 1) := by decide +kernel
theorem dX9_whyNotBuy_25 : decode cX9_whyNotBuy 25 = .ok (.getfield 98, 3) := by decide +kernel
theorem dX9_whyNotBuy_28 : decode cX9_whyNotBuy 28 = .ok (.iload_n 2, 1) := by decide +kernel
theorem dX9_whyNotBuy_29 : decode cX9_whyNotBuy 29 = .ok (.iaload, 1) := by decide +kernel
theorem dX9_whyNotBuy_30 : decode cX9_whyNotBuy 30 = .ok (.invokevirtual 47, 3) := by decide +kernel
theorem dX9_whyNotBuy_33 : decode cX9_whyNotBuy 33 = .ok (.if_icmp .ge 7, 3) := by decide +kernel
theorem dX9_whyNotBuy_36 : decode cX9_whyNotBuy 36 = .ok (.iconst 4, 1) := by decide +kernel
theorem dX9_whyNotBuy_37 : decode cX9_whyNotBuy 37 = .ok (.goto 4, 3) := by decide +kernel
theorem dX9_whyNotBuy_40 : decode cX9_whyNotBuy 40 = .ok (.iconst (-1), 1) := by decide +kernel
theorem dX9_whyNotBuy_41 : decode cX9_whyNotBuy 41 = .ok (.ireturn, 1) := by decide +kernel
def f_Trade_whyNotBuy (σ : Mem) (x1 : Nat) (x2 : Int32) : Option (Int32) :=
  (f_Trade_whyNotPutBack σ x1 x2).bind fun q1 =>
  if q1 = (-1 : Int32) then
    if inb x2 6 then
      if kd (mR σ 428 1) = 2 then
        (f_City_priceOf σ (mR σ 428 1) (mI σ (x1 + 5) x2.toNatClampNeg)).bind fun q5 =>
        if q5 ≤ (mI σ (x1 + 6) x2.toNatClampNeg) then
          some (-1 : Int32)
        else
          some (4 : Int32)
      else none
    else none
  else
    some q1
set_option maxHeartbeats 4000000 in
set_option maxRecDepth 20000 in
theorem g_Trade_whyNotBuy (X : Cx θ p s m args c cX9_whyNotBuy 4 RX9) (hr : meth.sig.returnType = some .int) (hlk : meth.locks = false)  {σ : Mem} {x1 : Nat} {x2 : Int32} {r : Int32} (h1 : kd x1 = 8) (h : f_Trade_whyNotBuy σ x1 x2 = some r) : GB θ p l e 2 s m args below meth c 4 (some (.int r), σ) 0 [(0, .ref (be θ + 428)), (1, .ref (be θ + x1)), (2, .int x2)] [] σ := by
  unfold f_Trade_whyNotBuy at h
  refine g_aload_n X dX9_whyNotBuy_0 rfl 0 rfl ?_
  refine g_aload_n X dX9_whyNotBuy_1 rfl 1 rfl ?_
  refine g_iload_n X dX9_whyNotBuy_2 rfl 2 rfl ?_
  obtain ⟨q1, hq1, h⟩ := Option.bind_eq_some_iff.mp h
  refine g_cV X (c_Trade_whyNotPutBack h1 hq1) lk_RX9_101 my_X9_whyNotPutBack (a := 428) (ci := 9) kd_428 (by decide) rfl (As := [.ref (be θ + x1), .int x2]) (rest := []) rfl rfl (Nat.le_of_ble_eq_true rfl) ⟨(Nat.le_of_ble_eq_true rfl), (Nat.le_of_ble_eq_true rfl)⟩ ⟨(Nat.le_of_ble_eq_true rfl), (Nat.le_of_ble_eq_true rfl)⟩ dX9_whyNotBuy_3 (st' := [.int q1]) (σ' := σ) rfl rfl ?_
  refine g_istore_n X dX9_whyNotBuy_6 rfl (by decide) (lv' := [(3, .int q1), (0, .ref (be θ + 428)), (1, .ref (be θ + x1)), (2, .int x2)]) rfl ?_
  refine g_iload_n X dX9_whyNotBuy_7 rfl 0 rfl ?_
  refine g_iconst X dX9_whyNotBuy_8 (v := (-1 : Int32)) ic_m1 ?_
  refine g_icmp_eq (tgt := 14) X dX9_whyNotBuy_9 (by decide) (fun c2 => ?_) (fun c2 => ?_)
  · replace h := (if_pos c2).symm.trans h
    refine g_aload_n X dX9_whyNotBuy_14 rfl 2 rfl ?_
    refine g_get X fl_RX9_51 dX9_whyNotBuy_15 h1 (v := .ref (be θ + (x1 + 6))) rfl ?_
    refine g_iload_n X dX9_whyNotBuy_18 rfl 3 rfl ?_
    obtain ⟨g3, h⟩ := ite_some h
    refine g_iald X (lk7_5 h1).1 (lk7_5 h1).2 (inb_in g3) dX9_whyNotBuy_19 ?_
    refine g_aload_n X dX9_whyNotBuy_20 rfl 1 rfl ?_
    refine g_get X fl_RX9_24 dX9_whyNotBuy_21 kd_428 (v := rv (be θ) (mR σ 428 1)) rfl ?_
    refine g_aload_n X dX9_whyNotBuy_24 rfl 2 rfl ?_
    refine g_get X fl_RX9_98 dX9_whyNotBuy_25 h1 (v := .ref (be θ + (x1 + 5))) rfl ?_
    refine g_iload_n X dX9_whyNotBuy_28 rfl 3 rfl ?_
    refine g_iald X (lk7_4 h1).1 (lk7_4 h1).2 (inb_in g3) dX9_whyNotBuy_29 ?_
    obtain ⟨g4, h⟩ := ite_some h
    rw [← rv_of (β := be θ) g4 (by decide)]
    obtain ⟨q5, hq5, h⟩ := Option.bind_eq_some_iff.mp h
    refine g_cV X (c_City_priceOf g4 hq5) lk_RX9_47 my_X1_priceOf (a := (mR σ 428 1)) (ci := 1) g4 (by decide) rfl (As := [.int (mI σ (x1 + 5) x2.toNatClampNeg)]) (rest := [.int (mI σ (x1 + 6) x2.toNatClampNeg)]) rfl rfl (Nat.le_of_ble_eq_true rfl) ⟨(Nat.le_of_ble_eq_true rfl), (Nat.le_of_ble_eq_true rfl)⟩ ⟨(Nat.le_of_ble_eq_true rfl), (Nat.le_of_ble_eq_true rfl)⟩ dX9_whyNotBuy_30 (st' := [.int q5, .int (mI σ (x1 + 6) x2.toNatClampNeg)]) (σ' := σ) rfl rfl ?_
    refine g_icmp_ge (tgt := 40) X dX9_whyNotBuy_33 (by decide) (fun c6 => ?_) (fun c6 => ?_)
    · replace h := (if_pos c6).symm.trans h
      refine g_iconst X dX9_whyNotBuy_40 (v := (-1 : Int32)) ic_m1 ?_
      exact g_iret X hr hlk dX9_whyNotBuy_41 (by cases h; rfl)
    · replace h := (if_neg c6).symm.trans h
      refine g_iconst X dX9_whyNotBuy_36 (v := (4 : Int32)) ic_4 ?_
      refine g_goto (tgt := 41) X dX9_whyNotBuy_37 (by decide) ?_
      exact g_iret X hr hlk dX9_whyNotBuy_41 (by cases h; rfl)
  · replace h := (if_neg c2).symm.trans h
    refine g_iload_n X dX9_whyNotBuy_12 rfl 0 rfl ?_
    exact g_iret X hr hlk dX9_whyNotBuy_13 (by cases h; rfl)
set_option maxHeartbeats 4000000 in
set_option maxRecDepth 20000 in
theorem c_Trade_whyNotBuy {θ : Th} {l : Launch} {σ : Mem} {x1 : Nat} {x2 : Int32} {r : Int32} (h1 : kd x1 = 8) (h : f_Trade_whyNotBuy σ x1 x2 = some r) : Cn θ l yX9_whyNotBuy cX9_whyNotBuy 4 (some .int) 2 0 0 [.ref (be θ + 428), .ref (be θ + x1), .int x2] σ (some (.int r), σ) :=
  Cn.of (by decide) (Nat.le_of_ble_eq_true rfl) (fun p e s m below meth c X hr hlk => g_Trade_whyNotBuy X hr hlk h1 h)
theorem dX9_whyNotHour_0 : decode cX9_whyNotHour 0 = .ok (.aload_n 0, 1) := by decide +kernel
theorem dX9_whyNotHour_1 : decode cX9_whyNotHour 1 = .ok (.invokevirtual 105, 3) := by decide +kernel
theorem dX9_whyNotHour_4 : decode cX9_whyNotHour 4 = .ok (.ifCond .ne 5, 3) := by decide +kernel
theorem dX9_whyNotHour_7 : decode cX9_whyNotHour 7 = .ok (.iconst 0, 1) := by decide +kernel
theorem dX9_whyNotHour_8 : decode cX9_whyNotHour 8 = .ok (.ireturn, 1) := by decide +kernel
theorem dX9_whyNotHour_9 : decode cX9_whyNotHour 9 = .ok (.aload_n 1, 1) := by decide +kernel
theorem dX9_whyNotHour_10 : decode cX9_whyNotHour 10 = .ok (.getfield 57, 3) := by decide +kernel
theorem dX9_whyNotHour_13 : decode cX9_whyNotHour 13 = .ok (.sipush 9999, 3) := by decide +kernel
theorem dX9_whyNotHour_16 : decode cX9_whyNotHour 16 = .ok (.if_icmp .lt 7, 3) := by decide +kernel
theorem dX9_whyNotHour_19 : decode cX9_whyNotHour 19 = .ok (.iconst 5, 1) := by decide +kernel
theorem dX9_whyNotHour_20 : decode cX9_whyNotHour 20 = .ok (.goto 4, 3) := by decide +kernel
theorem dX9_whyNotHour_23 : decode cX9_whyNotHour 23 = .ok (.iconst (-1), 1) := by decide +kernel
theorem dX9_whyNotHour_24 : decode cX9_whyNotHour 24 = .ok (.ireturn, 1) := by decide +kernel
def f_Trade_whyNotHour (σ : Mem) (x1 : Nat) : Option (Int32) :=
  (f_Trade_hasCity σ).bind fun q1 =>
  if q1 = (0 : Int32) then
    some (0 : Int32)
  else
    if (mI σ x1 14) < (9999 : Int32) then
      some (-1 : Int32)
    else
      some (5 : Int32)
set_option maxHeartbeats 4000000 in
set_option maxRecDepth 20000 in
theorem g_Trade_whyNotHour (X : Cx θ p s m args c cX9_whyNotHour 2 RX9) (hr : meth.sig.returnType = some .int) (hlk : meth.locks = false)  {σ : Mem} {x1 : Nat} {r : Int32} (h1 : kd x1 = 8) (h : f_Trade_whyNotHour σ x1 = some r) : GB θ p l e 1 s m args below meth c 2 (some (.int r), σ) 0 [(0, .ref (be θ + 428)), (1, .ref (be θ + x1))] [] σ := by
  unfold f_Trade_whyNotHour at h
  refine g_aload_n X dX9_whyNotHour_0 rfl 0 rfl ?_
  obtain ⟨q1, hq1, h⟩ := Option.bind_eq_some_iff.mp h
  refine g_cV X (c_Trade_hasCity  hq1) lk_RX9_105 my_X9_hasCity (a := 428) (ci := 9) kd_428 (by decide) rfl (As := []) (rest := []) rfl rfl (Nat.le_of_ble_eq_true rfl) ⟨(Nat.le_of_ble_eq_true rfl), (Nat.le_of_ble_eq_true rfl)⟩ ⟨(Nat.le_of_ble_eq_true rfl), (Nat.le_of_ble_eq_true rfl)⟩ dX9_whyNotHour_1 (st' := [.int q1]) (σ' := σ) rfl rfl ?_
  refine g_if_ne (tgt := 9) X dX9_whyNotHour_4 (by decide) (fun c2 => ?_) (fun c2 => ?_)
  · replace h := (if_neg c2).symm.trans h
    refine g_aload_n X dX9_whyNotHour_9 rfl 1 rfl ?_
    refine g_get X fl_RX9_57 dX9_whyNotHour_10 h1 (v := .int (mI σ x1 14)) rfl ?_
    refine g_sipush X dX9_whyNotHour_13 (v := (9999 : Int32)) sp_9999 ?_
    refine g_icmp_lt (tgt := 23) X dX9_whyNotHour_16 (by decide) (fun c3 => ?_) (fun c3 => ?_)
    · replace h := (if_pos c3).symm.trans h
      refine g_iconst X dX9_whyNotHour_23 (v := (-1 : Int32)) ic_m1 ?_
      exact g_iret X hr hlk dX9_whyNotHour_24 (by cases h; rfl)
    · replace h := (if_neg c3).symm.trans h
      refine g_iconst X dX9_whyNotHour_19 (v := (5 : Int32)) ic_5 ?_
      refine g_goto (tgt := 24) X dX9_whyNotHour_20 (by decide) ?_
      exact g_iret X hr hlk dX9_whyNotHour_24 (by cases h; rfl)
  · replace h := (if_pos c2).symm.trans h
    refine g_iconst X dX9_whyNotHour_7 (v := (0 : Int32)) ic_0 ?_
    exact g_iret X hr hlk dX9_whyNotHour_8 (by cases h; rfl)
set_option maxHeartbeats 4000000 in
set_option maxRecDepth 20000 in
theorem c_Trade_whyNotHour {θ : Th} {l : Launch} {σ : Mem} {x1 : Nat} {r : Int32} (h1 : kd x1 = 8) (h : f_Trade_whyNotHour σ x1 = some r) : Cn θ l yX9_whyNotHour cX9_whyNotHour 2 (some .int) 1 0 0 [.ref (be θ + 428), .ref (be θ + x1)] σ (some (.int r), σ) :=
  Cn.of (by decide) (Nat.le_of_ble_eq_true rfl) (fun p e s m below meth c X hr hlk => g_Trade_whyNotHour X hr hlk h1 h)
theorem dX9_whyNotStep_0 : decode cX9_whyNotStep 0 = .ok (.aload_n 2, 1) := by decide +kernel
theorem dX9_whyNotStep_1 : decode cX9_whyNotStep 1 = .ok (.iload_n 3, 1) := by decide +kernel
theorem dX9_whyNotStep_2 : decode cX9_whyNotStep 2 = .ok (.iconst 1, 1) := by decide +kernel
theorem dX9_whyNotStep_3 : decode cX9_whyNotStep 3 = .ok (.invokevirtual 109, 3) := by decide +kernel
theorem dX9_whyNotStep_6 : decode cX9_whyNotStep 6 = .ok (.istore 4, 2) := by decide +kernel
theorem dX9_whyNotStep_8 : decode cX9_whyNotStep 8 = .ok (.aload_n 2, 1) := by decide +kernel
theorem dX9_whyNotStep_9 : decode cX9_whyNotStep 9 = .ok (.iload_n 3, 1) := by decide +kernel
theorem dX9_whyNotStep_10 : decode cX9_whyNotStep 10 = .ok (.iconst 0, 1) := by decide +kernel
theorem dX9_whyNotStep_11 : decode cX9_whyNotStep 11 = .ok (.invokevirtual 109, 3) := by decide +kernel
theorem dX9_whyNotStep_14 : decode cX9_whyNotStep 14 = .ok (.tableswitch 74 0 3 #[30, 44, 52, 66], 30) := by decide +kernel
theorem dX9_whyNotStep_44 : decode cX9_whyNotStep 44 = .ok (.aload_n 0, 1) := by decide +kernel
theorem dX9_whyNotStep_45 : decode cX9_whyNotStep 45 = .ok (.aload_n 1, 1) := by decide +kernel
theorem dX9_whyNotStep_46 : decode cX9_whyNotStep 46 = .ok (.iload 4, 2) := by decide +kernel
theorem dX9_whyNotStep_48 : decode cX9_whyNotStep 48 = .ok (.aload_n 2, 1) := by decide +kernel
theorem dX9_whyNotStep_49 : decode cX9_whyNotStep 49 = .ok (.iload_n 3, 1) := by decide +kernel
theorem dX9_whyNotStep_50 : decode cX9_whyNotStep 50 = .ok (.iconst 2, 1) := by decide +kernel
theorem dX9_whyNotStep_51 : decode cX9_whyNotStep 51 = .ok (.invokevirtual 109, 3) := by decide +kernel
theorem dX9_whyNotStep_54 : decode cX9_whyNotStep 54 = .ok (.invokevirtual 114, 3) := by decide +kernel
theorem dX9_whyNotStep_57 : decode cX9_whyNotStep 57 = .ok (.ireturn, 1) := by decide +kernel
theorem dX9_whyNotStep_58 : decode cX9_whyNotStep 58 = .ok (.aload_n 0, 1) := by decide +kernel
theorem dX9_whyNotStep_59 : decode cX9_whyNotStep 59 = .ok (.aload_n 1, 1) := by decide +kernel
theorem dX9_whyNotStep_60 : decode cX9_whyNotStep 60 = .ok (.iload 4, 2) := by decide +kernel
theorem dX9_whyNotStep_62 : decode cX9_whyNotStep 62 = .ok (.invokevirtual 101, 3) := by decide +kernel
theorem dX9_whyNotStep_65 : decode cX9_whyNotStep 65 = .ok (.ireturn, 1) := by decide +kernel
theorem dX9_whyNotStep_66 : decode cX9_whyNotStep 66 = .ok (.aload_n 0, 1) := by decide +kernel
theorem dX9_whyNotStep_67 : decode cX9_whyNotStep 67 = .ok (.aload_n 1, 1) := by decide +kernel
theorem dX9_whyNotStep_68 : decode cX9_whyNotStep 68 = .ok (.iload 4, 2) := by decide +kernel
theorem dX9_whyNotStep_70 : decode cX9_whyNotStep 70 = .ok (.aload_n 2, 1) := by decide +kernel
theorem dX9_whyNotStep_71 : decode cX9_whyNotStep 71 = .ok (.iload_n 3, 1) := by decide +kernel
theorem dX9_whyNotStep_72 : decode cX9_whyNotStep 72 = .ok (.iconst 2, 1) := by decide +kernel
theorem dX9_whyNotStep_73 : decode cX9_whyNotStep 73 = .ok (.invokevirtual 109, 3) := by decide +kernel
theorem dX9_whyNotStep_76 : decode cX9_whyNotStep 76 = .ok (.invokevirtual 118, 3) := by decide +kernel
theorem dX9_whyNotStep_79 : decode cX9_whyNotStep 79 = .ok (.ireturn, 1) := by decide +kernel
theorem dX9_whyNotStep_80 : decode cX9_whyNotStep 80 = .ok (.aload_n 0, 1) := by decide +kernel
theorem dX9_whyNotStep_81 : decode cX9_whyNotStep 81 = .ok (.aload_n 1, 1) := by decide +kernel
theorem dX9_whyNotStep_82 : decode cX9_whyNotStep 82 = .ok (.iload 4, 2) := by decide +kernel
theorem dX9_whyNotStep_84 : decode cX9_whyNotStep 84 = .ok (.invokevirtual 121, 3) := by decide +kernel
theorem dX9_whyNotStep_87 : decode cX9_whyNotStep 87 = .ok (.ireturn, 1) := by decide +kernel
theorem dX9_whyNotStep_88 : decode cX9_whyNotStep 88 = .ok (.aload_n 0, 1) := by decide +kernel
theorem dX9_whyNotStep_89 : decode cX9_whyNotStep 89 = .ok (.aload_n 1, 1) := by decide +kernel
theorem dX9_whyNotStep_90 : decode cX9_whyNotStep 90 = .ok (.invokevirtual 124, 3) := by decide +kernel
theorem dX9_whyNotStep_93 : decode cX9_whyNotStep 93 = .ok (.ireturn, 1) := by decide +kernel
def f_Trade_whyNotStep (σ : Mem) (x1 : Nat) (x2 : Nat) (x3 : Int32) : Option (Int32) :=
  (f_Day_part σ x2 x3 (1 : Int32)).bind fun q1 =>
  (f_Day_part σ x2 x3 (0 : Int32)).bind fun q2 =>
  if q2 = (0 : Int32) then
    (f_Day_part σ x2 x3 (2 : Int32)).bind fun q4 =>
    (f_Trade_whyNotPick σ x1 q1 q4).bind fun q5 =>
    some q5
  else
  if q2 = (1 : Int32) then
    (f_Trade_whyNotPutBack σ x1 q1).bind fun q7 =>
    some q7
  else
  if q2 = (2 : Int32) then
    (f_Day_part σ x2 x3 (2 : Int32)).bind fun q9 =>
    (f_Trade_whyNotHand σ x1 q1 q9).bind fun q10 =>
    some q10
  else
  if q2 = (3 : Int32) then
    (f_Trade_whyNotBuy σ x1 q1).bind fun q12 =>
    some q12
  else
  (f_Trade_whyNotHour σ x1).bind fun q13 =>
  some q13
set_option maxHeartbeats 4000000 in
set_option maxRecDepth 20000 in
theorem g_Trade_whyNotStep (X : Cx θ p s m args c cX9_whyNotStep 5 RX9) (hr : meth.sig.returnType = some .int) (hlk : meth.locks = false)  {σ : Mem} {x1 : Nat} {x2 : Nat} {x3 : Int32} {r : Int32} (h1 : kd x1 = 8) (h2 : kd x2 = 3) (h : f_Trade_whyNotStep σ x1 x2 x3 = some r) : GB θ p l e 3 s m args below meth c 5 (some (.int r), σ) 0 [(0, .ref (be θ + 428)), (1, .ref (be θ + x1)), (2, .ref (be θ + x2)), (3, .int x3)] [] σ := by
  unfold f_Trade_whyNotStep at h
  refine g_aload_n X dX9_whyNotStep_0 rfl 2 rfl ?_
  refine g_iload_n X dX9_whyNotStep_1 rfl 3 rfl ?_
  refine g_iconst X dX9_whyNotStep_2 (v := (1 : Int32)) ic_1 ?_
  obtain ⟨q1, hq1, h⟩ := Option.bind_eq_some_iff.mp h
  refine g_cV X (c_Day_part h2 hq1) lk_RX9_109 my_X2_part (a := x2) (ci := 2) h2 (by decide) rfl (As := [.int x3, .int (1 : Int32)]) (rest := []) rfl rfl (Nat.le_of_ble_eq_true rfl) ⟨(Nat.le_of_ble_eq_true rfl), (Nat.le_of_ble_eq_true rfl)⟩ ⟨(Nat.le_of_ble_eq_true rfl), (Nat.le_of_ble_eq_true rfl)⟩ dX9_whyNotStep_3 (st' := [.int q1]) (σ' := σ) rfl rfl ?_
  refine g_istore X dX9_whyNotStep_6 (by decide) (lv' := [(4, .int q1), (0, .ref (be θ + 428)), (1, .ref (be θ + x1)), (2, .ref (be θ + x2)), (3, .int x3)]) rfl ?_
  refine g_aload_n X dX9_whyNotStep_8 rfl 3 rfl ?_
  refine g_iload_n X dX9_whyNotStep_9 rfl 4 rfl ?_
  refine g_iconst X dX9_whyNotStep_10 (v := (0 : Int32)) ic_0 ?_
  obtain ⟨q2, hq2, h⟩ := Option.bind_eq_some_iff.mp h
  refine g_cV X (c_Day_part h2 hq2) lk_RX9_109 my_X2_part (a := x2) (ci := 2) h2 (by decide) rfl (As := [.int x3, .int (0 : Int32)]) (rest := []) rfl rfl (Nat.le_of_ble_eq_true rfl) ⟨(Nat.le_of_ble_eq_true rfl), (Nat.le_of_ble_eq_true rfl)⟩ ⟨(Nat.le_of_ble_eq_true rfl), (Nat.le_of_ble_eq_true rfl)⟩ dX9_whyNotStep_11 (st' := [.int q2]) (σ' := σ) rfl rfl ?_
  by_cases c3 : q2 = (0 : Int32)
  · replace h := (if_pos c3).symm.trans h
    refine g_tableIn (tgt := 44) (off := 30) X dX9_whyNotStep_14 (by rw [c3]; decide) (by rw [c3]; decide) (by rw [c3]; rfl) (by decide) ?_
    refine g_aload_n X dX9_whyNotStep_44 rfl 1 rfl ?_
    refine g_aload_n X dX9_whyNotStep_45 rfl 2 rfl ?_
    refine g_iload X dX9_whyNotStep_46 0 rfl ?_
    refine g_aload_n X dX9_whyNotStep_48 rfl 3 rfl ?_
    refine g_iload_n X dX9_whyNotStep_49 rfl 4 rfl ?_
    refine g_iconst X dX9_whyNotStep_50 (v := (2 : Int32)) ic_2 ?_
    obtain ⟨q4, hq4, h⟩ := Option.bind_eq_some_iff.mp h
    refine g_cV X (c_Day_part h2 hq4) lk_RX9_109 my_X2_part (a := x2) (ci := 2) h2 (by decide) rfl (As := [.int x3, .int (2 : Int32)]) (rest := [.int q1, .ref (be θ + x1), .ref (be θ + 428)]) rfl rfl (Nat.le_of_ble_eq_true rfl) ⟨(Nat.le_of_ble_eq_true rfl), (Nat.le_of_ble_eq_true rfl)⟩ ⟨(Nat.le_of_ble_eq_true rfl), (Nat.le_of_ble_eq_true rfl)⟩ dX9_whyNotStep_51 (st' := [.int q4, .int q1, .ref (be θ + x1), .ref (be θ + 428)]) (σ' := σ) rfl rfl ?_
    obtain ⟨q5, hq5, h⟩ := Option.bind_eq_some_iff.mp h
    refine g_cV X (c_Trade_whyNotPick h1 hq5) lk_RX9_114 my_X9_whyNotPick (a := 428) (ci := 9) kd_428 (by decide) rfl (As := [.ref (be θ + x1), .int q1, .int q4]) (rest := []) rfl rfl (Nat.le_of_ble_eq_true rfl) ⟨(Nat.le_of_ble_eq_true rfl), (Nat.le_of_ble_eq_true rfl)⟩ ⟨(Nat.le_of_ble_eq_true rfl), (Nat.le_of_ble_eq_true rfl)⟩ dX9_whyNotStep_54 (st' := [.int q5]) (σ' := σ) rfl rfl ?_
    exact g_iret X hr hlk dX9_whyNotStep_57 (by cases h; rfl)
  replace h := (if_neg c3).symm.trans h
  by_cases c6 : q2 = (1 : Int32)
  · replace h := (if_pos c6).symm.trans h
    refine g_tableIn (tgt := 58) (off := 44) X dX9_whyNotStep_14 (by rw [c6]; decide) (by rw [c6]; decide) (by rw [c6]; rfl) (by decide) ?_
    refine g_aload_n X dX9_whyNotStep_58 rfl 1 rfl ?_
    refine g_aload_n X dX9_whyNotStep_59 rfl 2 rfl ?_
    refine g_iload X dX9_whyNotStep_60 0 rfl ?_
    obtain ⟨q7, hq7, h⟩ := Option.bind_eq_some_iff.mp h
    refine g_cV X (c_Trade_whyNotPutBack h1 hq7) lk_RX9_101 my_X9_whyNotPutBack (a := 428) (ci := 9) kd_428 (by decide) rfl (As := [.ref (be θ + x1), .int q1]) (rest := []) rfl rfl (Nat.le_of_ble_eq_true rfl) ⟨(Nat.le_of_ble_eq_true rfl), (Nat.le_of_ble_eq_true rfl)⟩ ⟨(Nat.le_of_ble_eq_true rfl), (Nat.le_of_ble_eq_true rfl)⟩ dX9_whyNotStep_62 (st' := [.int q7]) (σ' := σ) rfl rfl ?_
    exact g_iret X hr hlk dX9_whyNotStep_65 (by cases h; rfl)
  replace h := (if_neg c6).symm.trans h
  by_cases c8 : q2 = (2 : Int32)
  · replace h := (if_pos c8).symm.trans h
    refine g_tableIn (tgt := 66) (off := 52) X dX9_whyNotStep_14 (by rw [c8]; decide) (by rw [c8]; decide) (by rw [c8]; rfl) (by decide) ?_
    refine g_aload_n X dX9_whyNotStep_66 rfl 1 rfl ?_
    refine g_aload_n X dX9_whyNotStep_67 rfl 2 rfl ?_
    refine g_iload X dX9_whyNotStep_68 0 rfl ?_
    refine g_aload_n X dX9_whyNotStep_70 rfl 3 rfl ?_
    refine g_iload_n X dX9_whyNotStep_71 rfl 4 rfl ?_
    refine g_iconst X dX9_whyNotStep_72 (v := (2 : Int32)) ic_2 ?_
    obtain ⟨q9, hq9, h⟩ := Option.bind_eq_some_iff.mp h
    refine g_cV X (c_Day_part h2 hq9) lk_RX9_109 my_X2_part (a := x2) (ci := 2) h2 (by decide) rfl (As := [.int x3, .int (2 : Int32)]) (rest := [.int q1, .ref (be θ + x1), .ref (be θ + 428)]) rfl rfl (Nat.le_of_ble_eq_true rfl) ⟨(Nat.le_of_ble_eq_true rfl), (Nat.le_of_ble_eq_true rfl)⟩ ⟨(Nat.le_of_ble_eq_true rfl), (Nat.le_of_ble_eq_true rfl)⟩ dX9_whyNotStep_73 (st' := [.int q9, .int q1, .ref (be θ + x1), .ref (be θ + 428)]) (σ' := σ) rfl rfl ?_
    obtain ⟨q10, hq10, h⟩ := Option.bind_eq_some_iff.mp h
    refine g_cV X (c_Trade_whyNotHand h1 hq10) lk_RX9_118 my_X9_whyNotHand (a := 428) (ci := 9) kd_428 (by decide) rfl (As := [.ref (be θ + x1), .int q1, .int q9]) (rest := []) rfl rfl (Nat.le_of_ble_eq_true rfl) ⟨(Nat.le_of_ble_eq_true rfl), (Nat.le_of_ble_eq_true rfl)⟩ ⟨(Nat.le_of_ble_eq_true rfl), (Nat.le_of_ble_eq_true rfl)⟩ dX9_whyNotStep_76 (st' := [.int q10]) (σ' := σ) rfl rfl ?_
    exact g_iret X hr hlk dX9_whyNotStep_79 (by cases h; rfl)
  replace h := (if_neg c8).symm.trans h
  by_cases c11 : q2 = (3 : Int32)
  · replace h := (if_pos c11).symm.trans h
    refine g_tableIn (tgt := 80) (off := 66) X dX9_whyNotStep_14 (by rw [c11]; decide) (by rw [c11]; decide) (by rw [c11]; rfl) (by decide) ?_
    refine g_aload_n X dX9_whyNotStep_80 rfl 1 rfl ?_
    refine g_aload_n X dX9_whyNotStep_81 rfl 2 rfl ?_
    refine g_iload X dX9_whyNotStep_82 0 rfl ?_
    obtain ⟨q12, hq12, h⟩ := Option.bind_eq_some_iff.mp h
    refine g_cV X (c_Trade_whyNotBuy h1 hq12) lk_RX9_121 my_X9_whyNotBuy (a := 428) (ci := 9) kd_428 (by decide) rfl (As := [.ref (be θ + x1), .int q1]) (rest := []) rfl rfl (Nat.le_of_ble_eq_true rfl) ⟨(Nat.le_of_ble_eq_true rfl), (Nat.le_of_ble_eq_true rfl)⟩ ⟨(Nat.le_of_ble_eq_true rfl), (Nat.le_of_ble_eq_true rfl)⟩ dX9_whyNotStep_84 (st' := [.int q12]) (σ' := σ) rfl rfl ?_
    exact g_iret X hr hlk dX9_whyNotStep_87 (by cases h; rfl)
  replace h := (if_neg c11).symm.trans h
  have nc3 := neT c3
  have nc6 := neT c6
  have nc8 := neT c8
  have nc11 := neT c11
  have w14 : q2.toInt < 0 ∨ 3 < q2.toInt := by
    rw [show (0 : Int32).toInt = 0 from rfl] at nc3
    rw [show (1 : Int32).toInt = 1 from rfl] at nc6
    rw [show (2 : Int32).toInt = 2 from rfl] at nc8
    rw [show (3 : Int32).toInt = 3 from rfl] at nc11
    omega
  refine g_tableOut (tgt := 88) X dX9_whyNotStep_14 w14 (by decide) ?_
  refine g_aload_n X dX9_whyNotStep_88 rfl 1 rfl ?_
  refine g_aload_n X dX9_whyNotStep_89 rfl 2 rfl ?_
  obtain ⟨q13, hq13, h⟩ := Option.bind_eq_some_iff.mp h
  refine g_cV X (c_Trade_whyNotHour h1 hq13) lk_RX9_124 my_X9_whyNotHour (a := 428) (ci := 9) kd_428 (by decide) rfl (As := [.ref (be θ + x1)]) (rest := []) rfl rfl (Nat.le_of_ble_eq_true rfl) ⟨(Nat.le_of_ble_eq_true rfl), (Nat.le_of_ble_eq_true rfl)⟩ ⟨(Nat.le_of_ble_eq_true rfl), (Nat.le_of_ble_eq_true rfl)⟩ dX9_whyNotStep_90 (st' := [.int q13]) (σ' := σ) rfl rfl ?_
  exact g_iret X hr hlk dX9_whyNotStep_93 (by cases h; rfl)
set_option maxHeartbeats 4000000 in
set_option maxRecDepth 20000 in
theorem c_Trade_whyNotStep {θ : Th} {l : Launch} {σ : Mem} {x1 : Nat} {x2 : Nat} {x3 : Int32} {r : Int32} (h1 : kd x1 = 8) (h2 : kd x2 = 3) (h : f_Trade_whyNotStep σ x1 x2 x3 = some r) : Cn θ l yX9_whyNotStep cX9_whyNotStep 5 (some .int) 3 0 0 [.ref (be θ + 428), .ref (be θ + x1), .ref (be θ + x2), .int x3] σ (some (.int r), σ) :=
  Cn.of (by decide) (Nat.le_of_ble_eq_true rfl) (fun p e s m below meth c X hr hlk => g_Trade_whyNotStep X hr hlk h1 h2 h)
theorem dX9_passOn_0 : decode cX9_passOn 0 = .ok (.aload_n 1, 1) := by decide +kernel
theorem dX9_passOn_1 : decode cX9_passOn 1 = .ok (.getfield 98, 3) := by decide +kernel
theorem dX9_passOn_4 : decode cX9_passOn 4 = .ok (.iload_n 2, 1) := by decide +kernel
theorem dX9_passOn_5 : decode cX9_passOn 5 = .ok (.iaload, 1) := by decide +kernel
theorem dX9_passOn_6 : decode cX9_passOn 6 = .ok (.istore 4, 2) := by decide +kernel
theorem dX9_passOn_8 : decode cX9_passOn 8 = .ok (.aload_n 1, 1) := by decide +kernel
theorem dX9_passOn_9 : decode cX9_passOn 9 = .ok (.getfield 95, 3) := by decide +kernel
theorem dX9_passOn_12 : decode cX9_passOn 12 = .ok (.iload 4, 2) := by decide +kernel
theorem dX9_passOn_14 : decode cX9_passOn 14 = .ok (.iload_n 3, 1) := by decide +kernel
theorem dX9_passOn_15 : decode cX9_passOn 15 = .ok (.iastore, 1) := by decide +kernel
theorem dX9_passOn_16 : decode cX9_passOn 16 = .ok (.aload_n 1, 1) := by decide +kernel
theorem dX9_passOn_17 : decode cX9_passOn 17 = .ok (.getfield 98, 3) := by decide +kernel
theorem dX9_passOn_20 : decode cX9_passOn 20 = .ok (.iload_n 3, 1) := by decide +kernel
theorem dX9_passOn_21 : decode cX9_passOn 21 = .ok (.iload 4, 2) := by decide +kernel
theorem dX9_passOn_23 : decode cX9_passOn 23 = .ok (.iastore, 1) := by decide +kernel
theorem dX9_passOn_24 : decode cX9_passOn 24 = .ok (.aload_n 1, 1) := by decide +kernel
theorem dX9_passOn_25 : decode cX9_passOn 25 = .ok (.getfield 98, 3) := by decide +kernel
theorem dX9_passOn_28 : decode cX9_passOn 28 = .ok (.iload_n 2, 1) := by decide +kernel
theorem dX9_passOn_29 : decode cX9_passOn 29 = .ok (.iconst (-1), 1) := by decide +kernel
theorem dX9_passOn_30 : decode cX9_passOn 30 = .ok (.iastore, 1) := by decide +kernel
theorem dX9_passOn_31 : decode cX9_passOn 31 = .ok (.iload 4, 2) := by decide +kernel
theorem dX9_passOn_33 : decode cX9_passOn 33 = .ok (.ireturn, 1) := by decide +kernel
def f_Trade_passOn (σ : Mem) (x1 : Nat) (x2 : Int32) (x3 : Int32) : Option (Int32 × Mem) :=
  if inb x2 6 then
    if inb (mI σ (x1 + 5) x2.toNatClampNeg) 8 then
      if inb x3 6 then
        some ((mI σ (x1 + 5) x2.toNatClampNeg), (sI (sI (sI σ (x1 + 1) (mI σ (x1 + 5) x2.toNatClampNeg).toNatClampNeg x3) (x1 + 5) x3.toNatClampNeg (mI σ (x1 + 5) x2.toNatClampNeg)) (x1 + 5) x2.toNatClampNeg (-1 : Int32)))
      else none
    else none
  else none
set_option maxHeartbeats 4000000 in
set_option maxRecDepth 20000 in
theorem g_Trade_passOn (X : Cx θ p s m args c cX9_passOn 5 RX9) (hr : meth.sig.returnType = some .int) (hlk : meth.locks = false)  {σ : Mem} {x1 : Nat} {x2 : Int32} {x3 : Int32} {r : Int32 × Mem} (h1 : kd x1 = 8) (h : f_Trade_passOn σ x1 x2 x3 = some r) : GB θ p l e 0 s m args below meth c 5 (some (.int r.1), r.2) 0 [(0, .ref (be θ + 428)), (1, .ref (be θ + x1)), (2, .int x2), (3, .int x3)] [] σ := by
  unfold f_Trade_passOn at h
  refine g_aload_n X dX9_passOn_0 rfl 1 rfl ?_
  refine g_get X fl_RX9_98 dX9_passOn_1 h1 (v := .ref (be θ + (x1 + 5))) rfl ?_
  refine g_iload_n X dX9_passOn_4 rfl 2 rfl ?_
  obtain ⟨g1, h⟩ := ite_some h
  refine g_iald X (lk7_4 h1).1 (lk7_4 h1).2 (inb_in g1) dX9_passOn_5 ?_
  refine g_istore X dX9_passOn_6 (by decide) (lv' := [(4, .int (mI σ (x1 + 5) x2.toNatClampNeg)), (0, .ref (be θ + 428)), (1, .ref (be θ + x1)), (2, .int x2), (3, .int x3)]) rfl ?_
  refine g_aload_n X dX9_passOn_8 rfl 2 rfl ?_
  refine g_get X fl_RX9_95 dX9_passOn_9 h1 (v := .ref (be θ + (x1 + 1))) rfl ?_
  refine g_iload X dX9_passOn_12 0 rfl ?_
  refine g_iload_n X dX9_passOn_14 rfl 4 rfl ?_
  obtain ⟨g2, h⟩ := ite_some h
  refine g_iast X (lk7_0 h1).1 (lk7_0 h1).2 (inb_in g2) dX9_passOn_15 ?_
  refine g_aload_n X dX9_passOn_16 rfl 2 rfl ?_
  refine g_get X fl_RX9_98 dX9_passOn_17 h1 (v := .ref (be θ + (x1 + 5))) rfl ?_
  refine g_iload_n X dX9_passOn_20 rfl 4 rfl ?_
  refine g_iload X dX9_passOn_21 0 rfl ?_
  obtain ⟨g3, h⟩ := ite_some h
  refine g_iast X (lk7_4 h1).1 (lk7_4 h1).2 (inb_in g3) dX9_passOn_23 ?_
  refine g_aload_n X dX9_passOn_24 rfl 2 rfl ?_
  refine g_get X fl_RX9_98 dX9_passOn_25 h1 (v := .ref (be θ + (x1 + 5))) rfl ?_
  refine g_iload_n X dX9_passOn_28 rfl 3 rfl ?_
  refine g_iconst X dX9_passOn_29 (v := (-1 : Int32)) ic_m1 ?_
  refine g_iast X (lk7_4 h1).1 (lk7_4 h1).2 (inb_in g1) dX9_passOn_30 ?_
  refine g_iload X dX9_passOn_31 0 rfl ?_
  exact g_iret X hr hlk dX9_passOn_33 (by cases h; rfl)
set_option maxHeartbeats 4000000 in
set_option maxRecDepth 20000 in
theorem c_Trade_passOn {θ : Th} {l : Launch} {σ : Mem} {x1 : Nat} {x2 : Int32} {x3 : Int32} {r : Int32 × Mem} (h1 : kd x1 = 8) (h : f_Trade_passOn σ x1 x2 x3 = some r) : Cn θ l yX9_passOn cX9_passOn 5 (some .int) 0 0 0 [.ref (be θ + 428), .ref (be θ + x1), .int x2, .int x3] σ (some (.int r.1), r.2) :=
  Cn.of (by decide) (Nat.le_of_ble_eq_true rfl) (fun p e s m below meth c X hr hlk => g_Trade_passOn X hr hlk h1 h)
theorem dX9_makeStep_0 : decode cX9_makeStep 0 = .ok (.aload_n 2, 1) := by decide +kernel
theorem dX9_makeStep_1 : decode cX9_makeStep 1 = .ok (.iload_n 3, 1) := by decide +kernel
theorem dX9_makeStep_2 : decode cX9_makeStep 2 = .ok (.iconst 1, 1) := by decide +kernel
theorem dX9_makeStep_3 : decode cX9_makeStep 3 = .ok (.invokevirtual 109, 3) := by decide +kernel
theorem dX9_makeStep_6 : decode cX9_makeStep 6 = .ok (.istore 4, 2) := by decide +kernel
theorem dX9_makeStep_8 : decode cX9_makeStep 8 = .ok (.aload_n 2, 1) := by decide +kernel
theorem dX9_makeStep_9 : decode cX9_makeStep 9 = .ok (.iload_n 3, 1) := by decide +kernel
theorem dX9_makeStep_10 : decode cX9_makeStep 10 = .ok (.iconst 0, 1) := by decide +kernel
theorem dX9_makeStep_11 : decode cX9_makeStep 11 = .ok (.invokevirtual 109, 3) := by decide +kernel
theorem dX9_makeStep_14 : decode cX9_makeStep 14 = .ok (.tableswitch 85 0 3 #[30, 46, 57, 74], 30) := by decide +kernel
theorem dX9_makeStep_44 : decode cX9_makeStep 44 = .ok (.aload_n 0, 1) := by decide +kernel
theorem dX9_makeStep_45 : decode cX9_makeStep 45 = .ok (.aload_n 1, 1) := by decide +kernel
theorem dX9_makeStep_46 : decode cX9_makeStep 46 = .ok (.iload 4, 2) := by decide +kernel
theorem dX9_makeStep_48 : decode cX9_makeStep 48 = .ok (.aload_n 2, 1) := by decide +kernel
theorem dX9_makeStep_49 : decode cX9_makeStep 49 = .ok (.iload_n 3, 1) := by decide +kernel
theorem dX9_makeStep_50 : decode cX9_makeStep 50 = .ok (.iconst 2, 1) := by decide +kernel
theorem dX9_makeStep_51 : decode cX9_makeStep 51 = .ok (.invokevirtual 109, 3) := by decide +kernel
theorem dX9_makeStep_54 : decode cX9_makeStep 54 = .ok (.invokevirtual 128, 3) := by decide +kernel
theorem dX9_makeStep_57 : decode cX9_makeStep 57 = .ok (.goto 47, 3) := by decide +kernel
theorem dX9_makeStep_60 : decode cX9_makeStep 60 = .ok (.aload_n 0, 1) := by decide +kernel
theorem dX9_makeStep_61 : decode cX9_makeStep 61 = .ok (.aload_n 1, 1) := by decide +kernel
theorem dX9_makeStep_62 : decode cX9_makeStep 62 = .ok (.iload 4, 2) := by decide +kernel
theorem dX9_makeStep_64 : decode cX9_makeStep 64 = .ok (.invokevirtual 132, 3) := by decide +kernel
theorem dX9_makeStep_67 : decode cX9_makeStep 67 = .ok (.pop, 1) := by decide +kernel
theorem dX9_makeStep_68 : decode cX9_makeStep 68 = .ok (.goto 36, 3) := by decide +kernel
theorem dX9_makeStep_71 : decode cX9_makeStep 71 = .ok (.aload_n 0, 1) := by decide +kernel
theorem dX9_makeStep_72 : decode cX9_makeStep 72 = .ok (.aload_n 1, 1) := by decide +kernel
theorem dX9_makeStep_73 : decode cX9_makeStep 73 = .ok (.iload 4, 2) := by decide +kernel
theorem dX9_makeStep_75 : decode cX9_makeStep 75 = .ok (.aload_n 2, 1) := by decide +kernel
theorem dX9_makeStep_76 : decode cX9_makeStep 76 = .ok (.iload_n 3, 1) := by decide +kernel
theorem dX9_makeStep_77 : decode cX9_makeStep 77 = .ok (.iconst 2, 1) := by decide +kernel
theorem dX9_makeStep_78 : decode cX9_makeStep 78 = .ok (.invokevirtual 109, 3) := by decide +kernel
theorem dX9_makeStep_81 : decode cX9_makeStep 81 = .ok (.invokevirtual 135, 3) := by decide +kernel
theorem dX9_makeStep_84 : decode cX9_makeStep 84 = .ok (.pop, 1) := by decide +kernel
theorem dX9_makeStep_85 : decode cX9_makeStep 85 = .ok (.goto 19, 3) := by decide +kernel
theorem dX9_makeStep_88 : decode cX9_makeStep 88 = .ok (.aload_n 0, 1) := by decide +kernel
theorem dX9_makeStep_89 : decode cX9_makeStep 89 = .ok (.aload_n 1, 1) := by decide +kernel
theorem dX9_makeStep_90 : decode cX9_makeStep 90 = .ok (.iload 4, 2) := by decide +kernel
theorem dX9_makeStep_92 : decode cX9_makeStep 92 = .ok (.invokevirtual 138, 3) := by decide +kernel
theorem dX9_makeStep_95 : decode cX9_makeStep 95 = .ok (.pop, 1) := by decide +kernel
theorem dX9_makeStep_96 : decode cX9_makeStep 96 = .ok (.goto 8, 3) := by decide +kernel
theorem dX9_makeStep_99 : decode cX9_makeStep 99 = .ok (.aload_n 0, 1) := by decide +kernel
theorem dX9_makeStep_100 : decode cX9_makeStep 100 = .ok (.aload_n 1, 1) := by decide +kernel
theorem dX9_makeStep_101 : decode cX9_makeStep 101 = .ok (.invokevirtual 141, 3) := by decide +kernel
theorem dX9_makeStep_104 : decode cX9_makeStep 104 = .ok (.return_, 1) := by decide +kernel
def f_Trade_makeStep (σ : Mem) (x1 : Nat) (x2 : Nat) (x3 : Int32) : Option (Mem) :=
  (f_Day_part σ x2 x3 (1 : Int32)).bind fun q1 =>
  (f_Day_part σ x2 x3 (0 : Int32)).bind fun q2 =>
  if q2 = (0 : Int32) then
    (f_Day_part σ x2 x3 (2 : Int32)).bind fun q4 =>
    (f_Trade_pickUp σ x1 q1 q4).bind fun q5 =>
    some q5
  else
  if q2 = (1 : Int32) then
    (f_Trade_layBack σ x1 q1).bind fun q7 =>
    some q7.2
  else
  if q2 = (2 : Int32) then
    (f_Day_part σ x2 x3 (2 : Int32)).bind fun q9 =>
    (f_Trade_passOn σ x1 q1 q9).bind fun q10 =>
    some q10.2
  else
  if q2 = (3 : Int32) then
    (f_Trade_purchase σ x1 q1).bind fun q12 =>
    some q12.2
  else
  (f_Trade_passHour σ x1).bind fun q13 =>
  some q13
set_option maxHeartbeats 4000000 in
set_option maxRecDepth 20000 in
theorem g_Trade_makeStep (X : Cx θ p s m args c cX9_makeStep 5 RX9) (hr : meth.sig.returnType = none) (hlk : meth.locks = false)  {σ : Mem} {x1 : Nat} {x2 : Nat} {x3 : Int32} {r : Mem} (h1 : kd x1 = 8) (h2 : kd x2 = 3) (h : f_Trade_makeStep σ x1 x2 x3 = some r) : GB θ p l e 5 s m args below meth c 5 (none, r) 0 [(0, .ref (be θ + 428)), (1, .ref (be θ + x1)), (2, .ref (be θ + x2)), (3, .int x3)] [] σ := by
  unfold f_Trade_makeStep at h
  refine g_aload_n X dX9_makeStep_0 rfl 2 rfl ?_
  refine g_iload_n X dX9_makeStep_1 rfl 3 rfl ?_
  refine g_iconst X dX9_makeStep_2 (v := (1 : Int32)) ic_1 ?_
  obtain ⟨q1, hq1, h⟩ := Option.bind_eq_some_iff.mp h
  refine g_cV X (c_Day_part h2 hq1) lk_RX9_109 my_X2_part (a := x2) (ci := 2) h2 (by decide) rfl (As := [.int x3, .int (1 : Int32)]) (rest := []) rfl rfl (Nat.le_of_ble_eq_true rfl) ⟨(Nat.le_of_ble_eq_true rfl), (Nat.le_of_ble_eq_true rfl)⟩ ⟨(Nat.le_of_ble_eq_true rfl), (Nat.le_of_ble_eq_true rfl)⟩ dX9_makeStep_3 (st' := [.int q1]) (σ' := σ) rfl rfl ?_
  refine g_istore X dX9_makeStep_6 (by decide) (lv' := [(4, .int q1), (0, .ref (be θ + 428)), (1, .ref (be θ + x1)), (2, .ref (be θ + x2)), (3, .int x3)]) rfl ?_
  refine g_aload_n X dX9_makeStep_8 rfl 3 rfl ?_
  refine g_iload_n X dX9_makeStep_9 rfl 4 rfl ?_
  refine g_iconst X dX9_makeStep_10 (v := (0 : Int32)) ic_0 ?_
  obtain ⟨q2, hq2, h⟩ := Option.bind_eq_some_iff.mp h
  refine g_cV X (c_Day_part h2 hq2) lk_RX9_109 my_X2_part (a := x2) (ci := 2) h2 (by decide) rfl (As := [.int x3, .int (0 : Int32)]) (rest := []) rfl rfl (Nat.le_of_ble_eq_true rfl) ⟨(Nat.le_of_ble_eq_true rfl), (Nat.le_of_ble_eq_true rfl)⟩ ⟨(Nat.le_of_ble_eq_true rfl), (Nat.le_of_ble_eq_true rfl)⟩ dX9_makeStep_11 (st' := [.int q2]) (σ' := σ) rfl rfl ?_
  by_cases c3 : q2 = (0 : Int32)
  · replace h := (if_pos c3).symm.trans h
    refine g_tableIn (tgt := 44) (off := 30) X dX9_makeStep_14 (by rw [c3]; decide) (by rw [c3]; decide) (by rw [c3]; rfl) (by decide) ?_
    refine g_aload_n X dX9_makeStep_44 rfl 1 rfl ?_
    refine g_aload_n X dX9_makeStep_45 rfl 2 rfl ?_
    refine g_iload X dX9_makeStep_46 0 rfl ?_
    refine g_aload_n X dX9_makeStep_48 rfl 3 rfl ?_
    refine g_iload_n X dX9_makeStep_49 rfl 4 rfl ?_
    refine g_iconst X dX9_makeStep_50 (v := (2 : Int32)) ic_2 ?_
    obtain ⟨q4, hq4, h⟩ := Option.bind_eq_some_iff.mp h
    refine g_cV X (c_Day_part h2 hq4) lk_RX9_109 my_X2_part (a := x2) (ci := 2) h2 (by decide) rfl (As := [.int x3, .int (2 : Int32)]) (rest := [.int q1, .ref (be θ + x1), .ref (be θ + 428)]) rfl rfl (Nat.le_of_ble_eq_true rfl) ⟨(Nat.le_of_ble_eq_true rfl), (Nat.le_of_ble_eq_true rfl)⟩ ⟨(Nat.le_of_ble_eq_true rfl), (Nat.le_of_ble_eq_true rfl)⟩ dX9_makeStep_51 (st' := [.int q4, .int q1, .ref (be θ + x1), .ref (be θ + 428)]) (σ' := σ) rfl rfl ?_
    obtain ⟨q5, hq5, h⟩ := Option.bind_eq_some_iff.mp h
    refine g_cV X (c_Trade_pickUp h1 hq5) lk_RX9_128 my_X9_pickUp (a := 428) (ci := 9) kd_428 (by decide) rfl (As := [.ref (be θ + x1), .int q1, .int q4]) (rest := []) rfl rfl (Nat.le_of_ble_eq_true rfl) ⟨(Nat.le_of_ble_eq_true rfl), (Nat.le_of_ble_eq_true rfl)⟩ ⟨(Nat.le_of_ble_eq_true rfl), (Nat.le_of_ble_eq_true rfl)⟩ dX9_makeStep_54 (st' := []) (σ' := q5) rfl rfl ?_
    refine g_goto (tgt := 104) X dX9_makeStep_57 (by decide) ?_
    exact g_vret X hr hlk dX9_makeStep_104 (by cases h; rfl)
  replace h := (if_neg c3).symm.trans h
  by_cases c6 : q2 = (1 : Int32)
  · replace h := (if_pos c6).symm.trans h
    refine g_tableIn (tgt := 60) (off := 46) X dX9_makeStep_14 (by rw [c6]; decide) (by rw [c6]; decide) (by rw [c6]; rfl) (by decide) ?_
    refine g_aload_n X dX9_makeStep_60 rfl 1 rfl ?_
    refine g_aload_n X dX9_makeStep_61 rfl 2 rfl ?_
    refine g_iload X dX9_makeStep_62 0 rfl ?_
    obtain ⟨q7, hq7, h⟩ := Option.bind_eq_some_iff.mp h
    refine g_cV X (c_Trade_layBack h1 hq7) lk_RX9_132 my_X9_layBack (a := 428) (ci := 9) kd_428 (by decide) rfl (As := [.ref (be θ + x1), .int q1]) (rest := []) rfl rfl (Nat.le_of_ble_eq_true rfl) ⟨(Nat.le_of_ble_eq_true rfl), (Nat.le_of_ble_eq_true rfl)⟩ ⟨(Nat.le_of_ble_eq_true rfl), (Nat.le_of_ble_eq_true rfl)⟩ dX9_makeStep_64 (st' := [.int q7.1]) (σ' := q7.2) rfl rfl ?_
    refine g_pop X dX9_makeStep_67 rfl ?_
    refine g_goto (tgt := 104) X dX9_makeStep_68 (by decide) ?_
    exact g_vret X hr hlk dX9_makeStep_104 (by cases h; rfl)
  replace h := (if_neg c6).symm.trans h
  by_cases c8 : q2 = (2 : Int32)
  · replace h := (if_pos c8).symm.trans h
    refine g_tableIn (tgt := 71) (off := 57) X dX9_makeStep_14 (by rw [c8]; decide) (by rw [c8]; decide) (by rw [c8]; rfl) (by decide) ?_
    refine g_aload_n X dX9_makeStep_71 rfl 1 rfl ?_
    refine g_aload_n X dX9_makeStep_72 rfl 2 rfl ?_
    refine g_iload X dX9_makeStep_73 0 rfl ?_
    refine g_aload_n X dX9_makeStep_75 rfl 3 rfl ?_
    refine g_iload_n X dX9_makeStep_76 rfl 4 rfl ?_
    refine g_iconst X dX9_makeStep_77 (v := (2 : Int32)) ic_2 ?_
    obtain ⟨q9, hq9, h⟩ := Option.bind_eq_some_iff.mp h
    refine g_cV X (c_Day_part h2 hq9) lk_RX9_109 my_X2_part (a := x2) (ci := 2) h2 (by decide) rfl (As := [.int x3, .int (2 : Int32)]) (rest := [.int q1, .ref (be θ + x1), .ref (be θ + 428)]) rfl rfl (Nat.le_of_ble_eq_true rfl) ⟨(Nat.le_of_ble_eq_true rfl), (Nat.le_of_ble_eq_true rfl)⟩ ⟨(Nat.le_of_ble_eq_true rfl), (Nat.le_of_ble_eq_true rfl)⟩ dX9_makeStep_78 (st' := [.int q9, .int q1, .ref (be θ + x1), .ref (be θ + 428)]) (σ' := σ) rfl rfl ?_
    obtain ⟨q10, hq10, h⟩ := Option.bind_eq_some_iff.mp h
    refine g_cV X (c_Trade_passOn h1 hq10) lk_RX9_135 my_X9_passOn (a := 428) (ci := 9) kd_428 (by decide) rfl (As := [.ref (be θ + x1), .int q1, .int q9]) (rest := []) rfl rfl (Nat.le_of_ble_eq_true rfl) ⟨(Nat.le_of_ble_eq_true rfl), (Nat.le_of_ble_eq_true rfl)⟩ ⟨(Nat.le_of_ble_eq_true rfl), (Nat.le_of_ble_eq_true rfl)⟩ dX9_makeStep_81 (st' := [.int q10.1]) (σ' := q10.2) rfl rfl ?_
    refine g_pop X dX9_makeStep_84 rfl ?_
    refine g_goto (tgt := 104) X dX9_makeStep_85 (by decide) ?_
    exact g_vret X hr hlk dX9_makeStep_104 (by cases h; rfl)
  replace h := (if_neg c8).symm.trans h
  by_cases c11 : q2 = (3 : Int32)
  · replace h := (if_pos c11).symm.trans h
    refine g_tableIn (tgt := 88) (off := 74) X dX9_makeStep_14 (by rw [c11]; decide) (by rw [c11]; decide) (by rw [c11]; rfl) (by decide) ?_
    refine g_aload_n X dX9_makeStep_88 rfl 1 rfl ?_
    refine g_aload_n X dX9_makeStep_89 rfl 2 rfl ?_
    refine g_iload X dX9_makeStep_90 0 rfl ?_
    obtain ⟨q12, hq12, h⟩ := Option.bind_eq_some_iff.mp h
    refine g_cV X (c_Trade_purchase h1 hq12) lk_RX9_138 my_X9_purchase (a := 428) (ci := 9) kd_428 (by decide) rfl (As := [.ref (be θ + x1), .int q1]) (rest := []) rfl rfl (Nat.le_of_ble_eq_true rfl) ⟨(Nat.le_of_ble_eq_true rfl), (Nat.le_of_ble_eq_true rfl)⟩ ⟨(Nat.le_of_ble_eq_true rfl), (Nat.le_of_ble_eq_true rfl)⟩ dX9_makeStep_92 (st' := [.int q12.1]) (σ' := q12.2) rfl rfl ?_
    refine g_pop X dX9_makeStep_95 rfl ?_
    refine g_goto (tgt := 104) X dX9_makeStep_96 (by decide) ?_
    exact g_vret X hr hlk dX9_makeStep_104 (by cases h; rfl)
  replace h := (if_neg c11).symm.trans h
  have nc3 := neT c3
  have nc6 := neT c6
  have nc8 := neT c8
  have nc11 := neT c11
  have w14 : q2.toInt < 0 ∨ 3 < q2.toInt := by
    rw [show (0 : Int32).toInt = 0 from rfl] at nc3
    rw [show (1 : Int32).toInt = 1 from rfl] at nc6
    rw [show (2 : Int32).toInt = 2 from rfl] at nc8
    rw [show (3 : Int32).toInt = 3 from rfl] at nc11
    omega
  refine g_tableOut (tgt := 99) X dX9_makeStep_14 w14 (by decide) ?_
  refine g_aload_n X dX9_makeStep_99 rfl 1 rfl ?_
  refine g_aload_n X dX9_makeStep_100 rfl 2 rfl ?_
  obtain ⟨q13, hq13, h⟩ := Option.bind_eq_some_iff.mp h
  refine g_cV X (c_Trade_passHour h1 hq13) lk_RX9_141 my_X9_passHour (a := 428) (ci := 9) kd_428 (by decide) rfl (As := [.ref (be θ + x1)]) (rest := []) rfl rfl (Nat.le_of_ble_eq_true rfl) ⟨(Nat.le_of_ble_eq_true rfl), (Nat.le_of_ble_eq_true rfl)⟩ ⟨(Nat.le_of_ble_eq_true rfl), (Nat.le_of_ble_eq_true rfl)⟩ dX9_makeStep_101 (st' := []) (σ' := q13) rfl rfl ?_
  exact g_vret X hr hlk dX9_makeStep_104 (by cases h; rfl)
set_option maxHeartbeats 4000000 in
set_option maxRecDepth 20000 in
theorem c_Trade_makeStep {θ : Th} {l : Launch} {σ : Mem} {x1 : Nat} {x2 : Nat} {x3 : Int32} {r : Mem} (h1 : kd x1 = 8) (h2 : kd x2 = 3) (h : f_Trade_makeStep σ x1 x2 x3 = some r) : Cn θ l yX9_makeStep cX9_makeStep 5 (none) 5 0 0 [.ref (be θ + 428), .ref (be θ + x1), .ref (be θ + x2), .int x3] σ (none, r) :=
  Cn.of (by decide) (Nat.le_of_ble_eq_true rfl) (fun p e s m below meth c X hr hlk => g_Trade_makeStep X hr hlk h1 h2 h)
theorem dX10_feed_0 : decode cX10_feed 0 = .ok (.aload_n 0, 1) := by decide +kernel
theorem dX10_feed_1 : decode cX10_feed 1 = .ok (.getfield 10, 3) := by decide +kernel
theorem dX10_feed_4 : decode cX10_feed 4 = .ok (.iload_n 1, 1) := by decide +kernel
theorem dX10_feed_5 : decode cX10_feed 5 = .ok (.invokevirtual 107, 3) := by decide +kernel
theorem dX10_feed_8 : decode cX10_feed 8 = .ok (.aload_n 0, 1) := by decide +kernel
theorem dX10_feed_9 : decode cX10_feed 9 = .ok (.getfield 10, 3) := by decide +kernel
theorem dX10_feed_12 : decode cX10_feed 12 = .ok (.iload_n 2, 1) := by decide +kernel
theorem dX10_feed_13 : decode cX10_feed 13 = .ok (.invokevirtual 107, 3) := by decide +kernel
theorem dX10_feed_16 : decode cX10_feed 16 = .ok (.iadd, 1) := by decide +kernel
theorem dX10_feed_17 : decode cX10_feed 17 = .ok (.aload_n 0, 1) := by decide +kernel
theorem dX10_feed_18 : decode cX10_feed 18 = .ok (.getfield 10, 3) := by decide +kernel
theorem dX10_feed_21 : decode cX10_feed 21 = .ok (.iload_n 3, 1) := by decide +kernel
theorem dX10_feed_22 : decode cX10_feed 22 = .ok (.invokevirtual 107, 3) := by decide +kernel
theorem dX10_feed_25 : decode cX10_feed 25 = .ok (.iadd, 1) := by decide +kernel
theorem dX10_feed_26 : decode cX10_feed 26 = .ok (.aload_n 0, 1) := by decide +kernel
theorem dX10_feed_27 : decode cX10_feed 27 = .ok (.getfield 10, 3) := by decide +kernel
theorem dX10_feed_30 : decode cX10_feed 30 = .ok (.iload 4, 2) := by decide +kernel
theorem dX10_feed_32 : decode cX10_feed 32 = .ok (.invokevirtual 107, 3) := by decide +kernel
theorem dX10_feed_35 : decode cX10_feed 35 = .ok (.iadd, 1) := by decide +kernel
theorem dX10_feed_36 : decode cX10_feed 36 = .ok (.aload_n 0, 1) := by decide +kernel
theorem dX10_feed_37 : decode cX10_feed 37 = .ok (.getfield 10, 3) := by decide +kernel
theorem dX10_feed_40 : decode cX10_feed 40 = .ok (.iload 5, 2) := by decide +kernel
theorem dX10_feed_42 : decode cX10_feed 42 = .ok (.invokevirtual 107, 3) := by decide +kernel
theorem dX10_feed_45 : decode cX10_feed 45 = .ok (.iadd, 1) := by decide +kernel
theorem dX10_feed_46 : decode cX10_feed 46 = .ok (.istore 6, 2) := by decide +kernel
theorem dX10_feed_48 : decode cX10_feed 48 = .ok (.aload_n 0, 1) := by decide +kernel
theorem dX10_feed_49 : decode cX10_feed 49 = .ok (.getfield 10, 3) := by decide +kernel
theorem dX10_feed_52 : decode cX10_feed 52 = .ok (.getfield 111, 3) := by decide +kernel
theorem dX10_feed_55 : decode cX10_feed 55 = .ok (.iload 6, 2) := by decide +kernel
theorem dX10_feed_57 : decode cX10_feed 57 = .ok (.iadd, 1) := by decide +kernel
theorem dX10_feed_58 : decode cX10_feed 58 = .ok (.sipush 240, 3) := by decide +kernel
theorem dX10_feed_61 : decode cX10_feed 61 = .ok (.if_icmp .le 5, 3) := by decide +kernel
theorem dX10_feed_64 : decode cX10_feed 64 = .ok (.iconst (-1), 1) := by decide +kernel
theorem dX10_feed_65 : decode cX10_feed 65 = .ok (.ireturn, 1) := by decide +kernel
theorem dX10_feed_66 : decode cX10_feed 66 = .ok (.aload_n 0, 1) := by decide +kernel
theorem dX10_feed_67 : decode cX10_feed 67 = .ok (.getfield 10, 3) := by decide +kernel
theorem dX10_feed_70 : decode cX10_feed 70 = .ok (.iload_n 1, 1) := by decide +kernel
theorem dX10_feed_71 : decode cX10_feed 71 = .ok (.invokevirtual 114, 3) := by decide +kernel
theorem dX10_feed_74 : decode cX10_feed 74 = .ok (.aload_n 0, 1) := by decide +kernel
theorem dX10_feed_75 : decode cX10_feed 75 = .ok (.getfield 10, 3) := by decide +kernel
theorem dX10_feed_78 : decode cX10_feed 78 = .ok (.iload_n 2, 1) := by decide +kernel
theorem dX10_feed_79 : decode cX10_feed 79 = .ok (.invokevirtual 114, 3) := by decide +kernel
theorem dX10_feed_82 : decode cX10_feed 82 = .ok (.aload_n 0, 1) := by decide +kernel
theorem dX10_feed_83 : decode cX10_feed 83 = .ok (.getfield 10, 3) := by decide +kernel
theorem dX10_feed_86 : decode cX10_feed 86 = .ok (.iload_n 3, 1) := by decide +kernel
theorem dX10_feed_87 : decode cX10_feed 87 = .ok (.invokevirtual 114, 3) := by decide +kernel
theorem dX10_feed_90 : decode cX10_feed 90 = .ok (.aload_n 0, 1) := by decide +kernel
theorem dX10_feed_91 : decode cX10_feed 91 = .ok (.getfield 10, 3) := by decide +kernel
theorem dX10_feed_94 : decode cX10_feed 94 = .ok (.iload 4, 2) := by decide +kernel
theorem dX10_feed_96 : decode cX10_feed 96 = .ok (.invokevirtual 114, 3) := by decide +kernel
theorem dX10_feed_99 : decode cX10_feed 99 = .ok (.aload_n 0, 1) := by decide +kernel
theorem dX10_feed_100 : decode cX10_feed 100 = .ok (.getfield 10, 3) := by decide +kernel
theorem dX10_feed_103 : decode cX10_feed 103 = .ok (.iload 5, 2) := by decide +kernel
theorem dX10_feed_105 : decode cX10_feed 105 = .ok (.invokevirtual 114, 3) := by decide +kernel
theorem dX10_feed_108 : decode cX10_feed 108 = .ok (.aload_n 0, 1) := by decide +kernel
theorem dX10_feed_109 : decode cX10_feed 109 = .ok (.getfield 10, 3) := by decide +kernel
theorem dX10_feed_112 : decode cX10_feed 112 = .ok (.getfield 111, 3) := by decide +kernel
theorem dX10_feed_115 : decode cX10_feed 115 = .ok (.ireturn, 1) := by decide +kernel
def f_Game_feed (σ : Mem) (x1 : Int32) (x2 : Int32) (x3 : Int32) (x4 : Int32) (x5 : Int32) : Option (Int32 × Mem) :=
  (f_Tape_bytesIn σ x1).bind fun q1 =>
  (f_Tape_bytesIn σ x2).bind fun q2 =>
  (f_Tape_bytesIn σ x3).bind fun q3 =>
  (f_Tape_bytesIn σ x4).bind fun q4 =>
  (f_Tape_bytesIn σ x5).bind fun q5 =>
  if ((mI σ 1 1) + ((((q1 + q2) + q3) + q4) + q5)) ≤ (240 : Int32) then
    (f_Tape_add σ x1).bind fun q7 =>
    (f_Tape_add q7 x2).bind fun q8 =>
    (f_Tape_add q8 x3).bind fun q9 =>
    (f_Tape_add q9 x4).bind fun q10 =>
    (f_Tape_add q10 x5).bind fun q11 =>
    some ((mI q11 1 1), q11)
  else
    some ((-1 : Int32), σ)
set_option maxHeartbeats 4000000 in
set_option maxRecDepth 20000 in
theorem g_Game_feed (X : Cx θ p s m args c cX10_feed 7 RX10) (hr : meth.sig.returnType = some .int) (hlk : meth.locks = false)  {σ : Mem} {x1 : Int32} {x2 : Int32} {x3 : Int32} {x4 : Int32} {x5 : Int32} {r : Int32 × Mem}  (h : f_Game_feed σ x1 x2 x3 x4 x5 = some r) : GB θ p l e 1 s m args below meth c 7 (some (.int r.1), r.2) 0 [(0, .ref (be θ + 0)), (1, .int x1), (2, .int x2), (3, .int x3), (4, .int x4), (5, .int x5)] [] σ := by
  unfold f_Game_feed at h
  refine g_aload_n X dX10_feed_0 rfl 0 rfl ?_
  refine g_get X fl_RX10_10 dX10_feed_1 kd_0 (v := .ref (be θ + 1)) rfl ?_
  refine g_iload_n X dX10_feed_4 rfl 1 rfl ?_
  obtain ⟨q1, hq1, h⟩ := Option.bind_eq_some_iff.mp h
  refine g_cV X (c_Tape_bytesIn  hq1) lk_RX10_107 my_X8_bytesIn (a := 1) (ci := 8) kd_1 (by decide) rfl (As := [.int x1]) (rest := []) rfl rfl (Nat.le_of_ble_eq_true rfl) ⟨(Nat.le_of_ble_eq_true rfl), (Nat.le_of_ble_eq_true rfl)⟩ ⟨(Nat.le_of_ble_eq_true rfl), (Nat.le_of_ble_eq_true rfl)⟩ dX10_feed_5 (st' := [.int q1]) (σ' := σ) rfl rfl ?_
  refine g_aload_n X dX10_feed_8 rfl 0 rfl ?_
  refine g_get X fl_RX10_10 dX10_feed_9 kd_0 (v := .ref (be θ + 1)) rfl ?_
  refine g_iload_n X dX10_feed_12 rfl 2 rfl ?_
  obtain ⟨q2, hq2, h⟩ := Option.bind_eq_some_iff.mp h
  refine g_cV X (c_Tape_bytesIn  hq2) lk_RX10_107 my_X8_bytesIn (a := 1) (ci := 8) kd_1 (by decide) rfl (As := [.int x2]) (rest := [.int q1]) rfl rfl (Nat.le_of_ble_eq_true rfl) ⟨(Nat.le_of_ble_eq_true rfl), (Nat.le_of_ble_eq_true rfl)⟩ ⟨(Nat.le_of_ble_eq_true rfl), (Nat.le_of_ble_eq_true rfl)⟩ dX10_feed_13 (st' := [.int q2, .int q1]) (σ' := σ) rfl rfl ?_
  refine g_iadd X dX10_feed_16 ?_
  refine g_aload_n X dX10_feed_17 rfl 0 rfl ?_
  refine g_get X fl_RX10_10 dX10_feed_18 kd_0 (v := .ref (be θ + 1)) rfl ?_
  refine g_iload_n X dX10_feed_21 rfl 3 rfl ?_
  obtain ⟨q3, hq3, h⟩ := Option.bind_eq_some_iff.mp h
  refine g_cV X (c_Tape_bytesIn  hq3) lk_RX10_107 my_X8_bytesIn (a := 1) (ci := 8) kd_1 (by decide) rfl (As := [.int x3]) (rest := [.int (q1 + q2)]) rfl rfl (Nat.le_of_ble_eq_true rfl) ⟨(Nat.le_of_ble_eq_true rfl), (Nat.le_of_ble_eq_true rfl)⟩ ⟨(Nat.le_of_ble_eq_true rfl), (Nat.le_of_ble_eq_true rfl)⟩ dX10_feed_22 (st' := [.int q3, .int (q1 + q2)]) (σ' := σ) rfl rfl ?_
  refine g_iadd X dX10_feed_25 ?_
  refine g_aload_n X dX10_feed_26 rfl 0 rfl ?_
  refine g_get X fl_RX10_10 dX10_feed_27 kd_0 (v := .ref (be θ + 1)) rfl ?_
  refine g_iload X dX10_feed_30 4 rfl ?_
  obtain ⟨q4, hq4, h⟩ := Option.bind_eq_some_iff.mp h
  refine g_cV X (c_Tape_bytesIn  hq4) lk_RX10_107 my_X8_bytesIn (a := 1) (ci := 8) kd_1 (by decide) rfl (As := [.int x4]) (rest := [.int ((q1 + q2) + q3)]) rfl rfl (Nat.le_of_ble_eq_true rfl) ⟨(Nat.le_of_ble_eq_true rfl), (Nat.le_of_ble_eq_true rfl)⟩ ⟨(Nat.le_of_ble_eq_true rfl), (Nat.le_of_ble_eq_true rfl)⟩ dX10_feed_32 (st' := [.int q4, .int ((q1 + q2) + q3)]) (σ' := σ) rfl rfl ?_
  refine g_iadd X dX10_feed_35 ?_
  refine g_aload_n X dX10_feed_36 rfl 0 rfl ?_
  refine g_get X fl_RX10_10 dX10_feed_37 kd_0 (v := .ref (be θ + 1)) rfl ?_
  refine g_iload X dX10_feed_40 5 rfl ?_
  obtain ⟨q5, hq5, h⟩ := Option.bind_eq_some_iff.mp h
  refine g_cV X (c_Tape_bytesIn  hq5) lk_RX10_107 my_X8_bytesIn (a := 1) (ci := 8) kd_1 (by decide) rfl (As := [.int x5]) (rest := [.int (((q1 + q2) + q3) + q4)]) rfl rfl (Nat.le_of_ble_eq_true rfl) ⟨(Nat.le_of_ble_eq_true rfl), (Nat.le_of_ble_eq_true rfl)⟩ ⟨(Nat.le_of_ble_eq_true rfl), (Nat.le_of_ble_eq_true rfl)⟩ dX10_feed_42 (st' := [.int q5, .int (((q1 + q2) + q3) + q4)]) (σ' := σ) rfl rfl ?_
  refine g_iadd X dX10_feed_45 ?_
  refine g_istore X dX10_feed_46 (by decide) (lv' := [(6, .int ((((q1 + q2) + q3) + q4) + q5)), (0, .ref (be θ + 0)), (1, .int x1), (2, .int x2), (3, .int x3), (4, .int x4), (5, .int x5)]) rfl ?_
  refine g_aload_n X dX10_feed_48 rfl 1 rfl ?_
  refine g_get X fl_RX10_10 dX10_feed_49 kd_0 (v := .ref (be θ + 1)) rfl ?_
  refine g_get X fl_RX10_111 dX10_feed_52 kd_1 (v := .int (mI σ 1 1)) rfl ?_
  refine g_iload X dX10_feed_55 0 rfl ?_
  refine g_iadd X dX10_feed_57 ?_
  refine g_sipush X dX10_feed_58 (v := (240 : Int32)) sp_240 ?_
  refine g_icmp_le (tgt := 66) X dX10_feed_61 (by decide) (fun c6 => ?_) (fun c6 => ?_)
  · replace h := (if_pos c6).symm.trans h
    refine g_aload_n X dX10_feed_66 rfl 1 rfl ?_
    refine g_get X fl_RX10_10 dX10_feed_67 kd_0 (v := .ref (be θ + 1)) rfl ?_
    refine g_iload_n X dX10_feed_70 rfl 2 rfl ?_
    obtain ⟨q7, hq7, h⟩ := Option.bind_eq_some_iff.mp h
    refine g_cV X (c_Tape_add  hq7) lk_RX10_114 my_X8_add (a := 1) (ci := 8) kd_1 (by decide) rfl (As := [.int x1]) (rest := []) rfl rfl (Nat.le_of_ble_eq_true rfl) ⟨(Nat.le_of_ble_eq_true rfl), (Nat.le_of_ble_eq_true rfl)⟩ ⟨(Nat.le_of_ble_eq_true rfl), (Nat.le_of_ble_eq_true rfl)⟩ dX10_feed_71 (st' := []) (σ' := q7) rfl rfl ?_
    refine g_aload_n X dX10_feed_74 rfl 1 rfl ?_
    refine g_get X fl_RX10_10 dX10_feed_75 kd_0 (v := .ref (be θ + 1)) rfl ?_
    refine g_iload_n X dX10_feed_78 rfl 3 rfl ?_
    obtain ⟨q8, hq8, h⟩ := Option.bind_eq_some_iff.mp h
    refine g_cV X (c_Tape_add  hq8) lk_RX10_114 my_X8_add (a := 1) (ci := 8) kd_1 (by decide) rfl (As := [.int x2]) (rest := []) rfl rfl (Nat.le_of_ble_eq_true rfl) ⟨(Nat.le_of_ble_eq_true rfl), (Nat.le_of_ble_eq_true rfl)⟩ ⟨(Nat.le_of_ble_eq_true rfl), (Nat.le_of_ble_eq_true rfl)⟩ dX10_feed_79 (st' := []) (σ' := q8) rfl rfl ?_
    refine g_aload_n X dX10_feed_82 rfl 1 rfl ?_
    refine g_get X fl_RX10_10 dX10_feed_83 kd_0 (v := .ref (be θ + 1)) rfl ?_
    refine g_iload_n X dX10_feed_86 rfl 4 rfl ?_
    obtain ⟨q9, hq9, h⟩ := Option.bind_eq_some_iff.mp h
    refine g_cV X (c_Tape_add  hq9) lk_RX10_114 my_X8_add (a := 1) (ci := 8) kd_1 (by decide) rfl (As := [.int x3]) (rest := []) rfl rfl (Nat.le_of_ble_eq_true rfl) ⟨(Nat.le_of_ble_eq_true rfl), (Nat.le_of_ble_eq_true rfl)⟩ ⟨(Nat.le_of_ble_eq_true rfl), (Nat.le_of_ble_eq_true rfl)⟩ dX10_feed_87 (st' := []) (σ' := q9) rfl rfl ?_
    refine g_aload_n X dX10_feed_90 rfl 1 rfl ?_
    refine g_get X fl_RX10_10 dX10_feed_91 kd_0 (v := .ref (be θ + 1)) rfl ?_
    refine g_iload X dX10_feed_94 5 rfl ?_
    obtain ⟨q10, hq10, h⟩ := Option.bind_eq_some_iff.mp h
    refine g_cV X (c_Tape_add  hq10) lk_RX10_114 my_X8_add (a := 1) (ci := 8) kd_1 (by decide) rfl (As := [.int x4]) (rest := []) rfl rfl (Nat.le_of_ble_eq_true rfl) ⟨(Nat.le_of_ble_eq_true rfl), (Nat.le_of_ble_eq_true rfl)⟩ ⟨(Nat.le_of_ble_eq_true rfl), (Nat.le_of_ble_eq_true rfl)⟩ dX10_feed_96 (st' := []) (σ' := q10) rfl rfl ?_
    refine g_aload_n X dX10_feed_99 rfl 1 rfl ?_
    refine g_get X fl_RX10_10 dX10_feed_100 kd_0 (v := .ref (be θ + 1)) rfl ?_
    refine g_iload X dX10_feed_103 6 rfl ?_
    obtain ⟨q11, hq11, h⟩ := Option.bind_eq_some_iff.mp h
    refine g_cV X (c_Tape_add  hq11) lk_RX10_114 my_X8_add (a := 1) (ci := 8) kd_1 (by decide) rfl (As := [.int x5]) (rest := []) rfl rfl (Nat.le_of_ble_eq_true rfl) ⟨(Nat.le_of_ble_eq_true rfl), (Nat.le_of_ble_eq_true rfl)⟩ ⟨(Nat.le_of_ble_eq_true rfl), (Nat.le_of_ble_eq_true rfl)⟩ dX10_feed_105 (st' := []) (σ' := q11) rfl rfl ?_
    refine g_aload_n X dX10_feed_108 rfl 1 rfl ?_
    refine g_get X fl_RX10_10 dX10_feed_109 kd_0 (v := .ref (be θ + 1)) rfl ?_
    refine g_get X fl_RX10_111 dX10_feed_112 kd_1 (v := .int (mI q11 1 1)) rfl ?_
    exact g_iret X hr hlk dX10_feed_115 (by cases h; rfl)
  · replace h := (if_neg c6).symm.trans h
    refine g_iconst X dX10_feed_64 (v := (-1 : Int32)) ic_m1 ?_
    exact g_iret X hr hlk dX10_feed_65 (by cases h; rfl)
set_option maxHeartbeats 4000000 in
set_option maxRecDepth 20000 in
theorem c_Game_feed {θ : Th} {l : Launch} {σ : Mem} {x1 : Int32} {x2 : Int32} {x3 : Int32} {x4 : Int32} {x5 : Int32} {r : Int32 × Mem}  (h : f_Game_feed σ x1 x2 x3 x4 x5 = some r) : Cn θ l yX10_feed cX10_feed 7 (some .int) 1 0 0 [.ref (be θ + 0), .int x1, .int x2, .int x3, .int x4, .int x5] σ (some (.int r.1), r.2) :=
  Cn.of (by decide) (Nat.le_of_ble_eq_true rfl) (fun p e s m below meth c X hr hlk => g_Game_feed X hr hlk  h)
theorem dX10_end_0 : decode cX10_end 0 = .ok (.iload_n 1, 1) := by decide +kernel
theorem dX10_end_1 : decode cX10_end 1 = .ok (.ifCond .lt 14, 3) := by decide +kernel
theorem dX10_end_4 : decode cX10_end 4 = .ok (.iload_n 1, 1) := by decide +kernel
theorem dX10_end_5 : decode cX10_end 5 = .ok (.aload_n 0, 1) := by decide +kernel
theorem dX10_end_6 : decode cX10_end 6 = .ok (.getfield 10, 3) := by decide +kernel
theorem dX10_end_9 : decode cX10_end 9 = .ok (.getfield 111, 3) := by decide +kernel
theorem dX10_end_12 : decode cX10_end 12 = .ok (.if_icmp .le 5, 3) := by decide +kernel
theorem dX10_end_15 : decode cX10_end 15 = .ok (.iconst 0, 1) := by decide +kernel
theorem dX10_end_16 : decode cX10_end 16 = .ok (.ireturn, 1) := by decide +kernel
theorem dX10_end_17 : decode cX10_end 17 = .ok (.aload_n 0, 1) := by decide +kernel
theorem dX10_end_18 : decode cX10_end 18 = .ok (.getfield 10, 3) := by decide +kernel
theorem dX10_end_21 : decode cX10_end 21 = .ok (.iload_n 1, 1) := by decide +kernel
theorem dX10_end_22 : decode cX10_end 22 = .ok (.putfield 111, 3) := by decide +kernel
theorem dX10_end_25 : decode cX10_end 25 = .ok (.iconst 1, 1) := by decide +kernel
theorem dX10_end_26 : decode cX10_end 26 = .ok (.ireturn, 1) := by decide +kernel
def f_Game_end (σ : Mem) (x1 : Int32) : Option (Int32 × Mem) :=
  if x1 < (0 : Int32) then
    some ((0 : Int32), σ)
  else
    if x1 ≤ (mI σ 1 1) then
      some ((1 : Int32), (sI σ 1 1 x1))
    else
      some ((0 : Int32), σ)
set_option maxHeartbeats 4000000 in
set_option maxRecDepth 20000 in
theorem g_Game_end (X : Cx θ p s m args c cX10_end 2 RX10) (hr : meth.sig.returnType = some .boolean) (hlk : meth.locks = false)  {σ : Mem} {x1 : Int32} {r : Int32 × Mem}  (h : f_Game_end σ x1 = some r) : GB θ p l e 0 s m args below meth c 2 (some (.int r.1), r.2) 0 [(0, .ref (be θ + 0)), (1, .int x1)] [] σ := by
  unfold f_Game_end at h
  refine g_iload_n X dX10_end_0 rfl 1 rfl ?_
  refine g_if_lt (tgt := 15) X dX10_end_1 (by decide) (fun c1 => ?_) (fun c1 => ?_)
  · replace h := (if_pos c1).symm.trans h
    refine g_iconst X dX10_end_15 (v := (0 : Int32)) ic_0 ?_
    exact g_zret X hr hlk bz0 dX10_end_16 (by cases h; rfl)
  · replace h := (if_neg c1).symm.trans h
    refine g_iload_n X dX10_end_4 rfl 1 rfl ?_
    refine g_aload_n X dX10_end_5 rfl 0 rfl ?_
    refine g_get X fl_RX10_10 dX10_end_6 kd_0 (v := .ref (be θ + 1)) rfl ?_
    refine g_get X fl_RX10_111 dX10_end_9 kd_1 (v := .int (mI σ 1 1)) rfl ?_
    refine g_icmp_le (tgt := 17) X dX10_end_12 (by decide) (fun c2 => ?_) (fun c2 => ?_)
    · replace h := (if_pos c2).symm.trans h
      refine g_aload_n X dX10_end_17 rfl 0 rfl ?_
      refine g_get X fl_RX10_10 dX10_end_18 kd_0 (v := .ref (be θ + 1)) rfl ?_
      refine g_iload_n X dX10_end_21 rfl 1 rfl ?_
      refine g_putI X fl_RX10_111 dX10_end_22 kd_1 rfl rfl rfl ?_
      refine g_iconst X dX10_end_25 (v := (1 : Int32)) ic_1 ?_
      exact g_zret X hr hlk bz1 dX10_end_26 (by cases h; rfl)
    · replace h := (if_neg c2).symm.trans h
      refine g_iconst X dX10_end_15 (v := (0 : Int32)) ic_0 ?_
      exact g_zret X hr hlk bz0 dX10_end_16 (by cases h; rfl)
set_option maxHeartbeats 4000000 in
set_option maxRecDepth 20000 in
theorem c_Game_end {θ : Th} {l : Launch} {σ : Mem} {x1 : Int32} {r : Int32 × Mem}  (h : f_Game_end σ x1 = some r) : Cn θ l yX10_end cX10_end 2 (some .boolean) 0 0 0 [.ref (be θ + 0), .int x1] σ (some (.int r.1), r.2) :=
  Cn.of (by decide) (Nat.le_of_ble_eq_true rfl) (fun p e s m below meth c X hr hlk => g_Game_end X hr hlk  h)
theorem dX10_fault_0 : decode cX10_fault 0 = .ok (.iload_n 1, 1) := by decide +kernel
theorem dX10_fault_1 : decode cX10_fault 1 = .ok (.tableswitch 73 0 2 #[27, 39, 56], 27) := by decide +kernel
theorem dX10_fault_28 : decode cX10_fault 28 = .ok (.aload_n 0, 1) := by decide +kernel
theorem dX10_fault_29 : decode cX10_fault 29 = .ok (.getfield 80, 3) := by decide +kernel
theorem dX10_fault_32 : decode cX10_fault 32 = .ok (.aload_n 0, 1) := by decide +kernel
theorem dX10_fault_33 : decode cX10_fault 33 = .ok (.getfield 10, 3) := by decide +kernel
theorem dX10_fault_36 : decode cX10_fault 36 = .ok (.invokevirtual 118, 3) := by decide +kernel
theorem dX10_fault_39 : decode cX10_fault 39 = .ok (.ireturn, 1) := by decide +kernel
theorem dX10_fault_40 : decode cX10_fault 40 = .ok (.aload_n 0, 1) := by decide +kernel
theorem dX10_fault_41 : decode cX10_fault 41 = .ok (.getfield 18, 3) := by decide +kernel
theorem dX10_fault_44 : decode cX10_fault 44 = .ok (.aload_n 0, 1) := by decide +kernel
theorem dX10_fault_45 : decode cX10_fault 45 = .ok (.getfield 84, 3) := by decide +kernel
theorem dX10_fault_48 : decode cX10_fault 48 = .ok (.aaload, 1) := by decide +kernel
theorem dX10_fault_49 : decode cX10_fault 49 = .ok (.aload_n 0, 1) := by decide +kernel
theorem dX10_fault_50 : decode cX10_fault 50 = .ok (.getfield 10, 3) := by decide +kernel
theorem dX10_fault_53 : decode cX10_fault 53 = .ok (.invokevirtual 122, 3) := by decide +kernel
theorem dX10_fault_56 : decode cX10_fault 56 = .ok (.ireturn, 1) := by decide +kernel
theorem dX10_fault_57 : decode cX10_fault 57 = .ok (.aload_n 0, 1) := by decide +kernel
theorem dX10_fault_58 : decode cX10_fault 58 = .ok (.getfield 24, 3) := by decide +kernel
theorem dX10_fault_61 : decode cX10_fault 61 = .ok (.aload_n 0, 1) := by decide +kernel
theorem dX10_fault_62 : decode cX10_fault 62 = .ok (.getfield 91, 3) := by decide +kernel
theorem dX10_fault_65 : decode cX10_fault 65 = .ok (.aaload, 1) := by decide +kernel
theorem dX10_fault_66 : decode cX10_fault 66 = .ok (.aload_n 0, 1) := by decide +kernel
theorem dX10_fault_67 : decode cX10_fault 67 = .ok (.getfield 10, 3) := by decide +kernel
theorem dX10_fault_70 : decode cX10_fault 70 = .ok (.invokevirtual 123, 3) := by decide +kernel
theorem dX10_fault_73 : decode cX10_fault 73 = .ok (.ireturn, 1) := by decide +kernel
theorem dX10_fault_74 : decode cX10_fault 74 = .ok (.bipush (-2), 2) := by decide +kernel
theorem dX10_fault_76 : decode cX10_fault 76 = .ok (.ireturn, 1) := by decide +kernel
def f_Game_fault (σ : Mem) (x1 : Int32) : Option (Int32 × Mem) :=
  if x1 = (0 : Int32) then
    if kd (mR σ 0 11) = 2 then
      (f_City_read σ (mR σ 0 11)).bind fun q3 =>
      some (q3.1, q3.2)
    else none
  else
  if x1 = (1 : Int32) then
    if inb (mI σ 0 12) 5 then
      (f_Law_read σ (ra 3 ((mI σ 0 12).toNatClampNeg))).bind fun q6 =>
      some (q6.1, q6.2)
    else none
  else
  if x1 = (2 : Int32) then
    if inb (mI σ 0 14) 5 then
      (f_Day_read σ (ra 4 ((mI σ 0 14).toNatClampNeg))).bind fun q9 =>
      some (q9.1, q9.2)
    else none
  else
  some ((-2 : Int32), σ)
set_option maxHeartbeats 4000000 in
set_option maxRecDepth 20000 in
theorem g_Game_fault (X : Cx θ p s m args c cX10_fault 2 RX10) (hr : meth.sig.returnType = some .int) (hlk : meth.locks = false)  {σ : Mem} {x1 : Int32} {r : Int32 × Mem}  (h : f_Game_fault σ x1 = some r) : GB θ p l e 69 s m args below meth c 2 (some (.int r.1), r.2) 0 [(0, .ref (be θ + 0)), (1, .int x1)] [] σ := by
  unfold f_Game_fault at h
  refine g_iload_n X dX10_fault_0 rfl 1 rfl ?_
  by_cases c1 : x1 = (0 : Int32)
  · replace h := (if_pos c1).symm.trans h
    refine g_tableIn (tgt := 28) (off := 27) X dX10_fault_1 (by rw [c1]; decide) (by rw [c1]; decide) (by rw [c1]; rfl) (by decide) ?_
    refine g_aload_n X dX10_fault_28 rfl 0 rfl ?_
    refine g_get X fl_RX10_80 dX10_fault_29 kd_0 (v := rv (be θ) (mR σ 0 11)) rfl ?_
    refine g_aload_n X dX10_fault_32 rfl 0 rfl ?_
    refine g_get X fl_RX10_10 dX10_fault_33 kd_0 (v := .ref (be θ + 1)) rfl ?_
    obtain ⟨g2, h⟩ := ite_some h
    rw [← rv_of (β := be θ) g2 (by decide)]
    obtain ⟨q3, hq3, h⟩ := Option.bind_eq_some_iff.mp h
    refine g_cV X (c_City_read g2 hq3) lk_RX10_118 my_X1_read (a := (mR σ 0 11)) (ci := 1) g2 (by decide) rfl (As := [.ref (be θ + 1)]) (rest := []) rfl rfl (Nat.le_of_ble_eq_true rfl) ⟨(Nat.le_of_ble_eq_true rfl), (Nat.le_of_ble_eq_true rfl)⟩ ⟨(Nat.le_of_ble_eq_true rfl), (Nat.le_of_ble_eq_true rfl)⟩ dX10_fault_36 (st' := [.int q3.1]) (σ' := q3.2) rfl rfl ?_
    exact g_iret X hr hlk dX10_fault_39 (by cases h; rfl)
  replace h := (if_neg c1).symm.trans h
  by_cases c4 : x1 = (1 : Int32)
  · replace h := (if_pos c4).symm.trans h
    refine g_tableIn (tgt := 40) (off := 39) X dX10_fault_1 (by rw [c4]; decide) (by rw [c4]; decide) (by rw [c4]; rfl) (by decide) ?_
    refine g_aload_n X dX10_fault_40 rfl 0 rfl ?_
    refine g_get X fl_RX10_18 dX10_fault_41 kd_0 (v := .ref (be θ + 3)) rfl ?_
    refine g_aload_n X dX10_fault_44 rfl 0 rfl ?_
    refine g_get X fl_RX10_84 dX10_fault_45 kd_0 (v := .int (mI σ 0 12)) rfl ?_
    obtain ⟨g5, h⟩ := ite_some h
    refine g_aald X kd_3 (by decide) ln_3 (inb_in g5) dX10_fault_48 ?_
    refine g_aload_n X dX10_fault_49 rfl 0 rfl ?_
    refine g_get X fl_RX10_10 dX10_fault_50 kd_0 (v := .ref (be θ + 1)) rfl ?_
    obtain ⟨q6, hq6, h⟩ := Option.bind_eq_some_iff.mp h
    refine g_cV X (c_Law_read (ra_3 (in_lt (inb_in g5))) hq6) lk_RX10_122 my_X5_read (a := (ra 3 ((mI σ 0 12).toNatClampNeg))) (ci := 5) (ra_3 (in_lt (inb_in g5))) (by decide) rfl (As := [.ref (be θ + 1)]) (rest := []) rfl rfl (Nat.le_of_ble_eq_true rfl) ⟨(Nat.le_of_ble_eq_true rfl), (Nat.le_of_ble_eq_true rfl)⟩ ⟨(Nat.le_of_ble_eq_true rfl), (Nat.le_of_ble_eq_true rfl)⟩ dX10_fault_53 (st' := [.int q6.1]) (σ' := q6.2) rfl rfl ?_
    exact g_iret X hr hlk dX10_fault_56 (by cases h; rfl)
  replace h := (if_neg c4).symm.trans h
  by_cases c7 : x1 = (2 : Int32)
  · replace h := (if_pos c7).symm.trans h
    refine g_tableIn (tgt := 57) (off := 56) X dX10_fault_1 (by rw [c7]; decide) (by rw [c7]; decide) (by rw [c7]; rfl) (by decide) ?_
    refine g_aload_n X dX10_fault_57 rfl 0 rfl ?_
    refine g_get X fl_RX10_24 dX10_fault_58 kd_0 (v := .ref (be θ + 4)) rfl ?_
    refine g_aload_n X dX10_fault_61 rfl 0 rfl ?_
    refine g_get X fl_RX10_91 dX10_fault_62 kd_0 (v := .int (mI σ 0 14)) rfl ?_
    obtain ⟨g8, h⟩ := ite_some h
    refine g_aald X kd_4 (by decide) ln_4 (inb_in g8) dX10_fault_65 ?_
    refine g_aload_n X dX10_fault_66 rfl 0 rfl ?_
    refine g_get X fl_RX10_10 dX10_fault_67 kd_0 (v := .ref (be θ + 1)) rfl ?_
    obtain ⟨q9, hq9, h⟩ := Option.bind_eq_some_iff.mp h
    refine g_cV X (c_Day_read (ra_4 (in_lt (inb_in g8))) hq9) lk_RX10_123 my_X2_read (a := (ra 4 ((mI σ 0 14).toNatClampNeg))) (ci := 2) (ra_4 (in_lt (inb_in g8))) (by decide) rfl (As := [.ref (be θ + 1)]) (rest := []) rfl rfl (Nat.le_of_ble_eq_true rfl) ⟨(Nat.le_of_ble_eq_true rfl), (Nat.le_of_ble_eq_true rfl)⟩ ⟨(Nat.le_of_ble_eq_true rfl), (Nat.le_of_ble_eq_true rfl)⟩ dX10_fault_70 (st' := [.int q9.1]) (σ' := q9.2) rfl rfl ?_
    exact g_iret X hr hlk dX10_fault_73 (by cases h; rfl)
  replace h := (if_neg c7).symm.trans h
  have nc1 := neT c1
  have nc4 := neT c4
  have nc7 := neT c7
  have w10 : x1.toInt < 0 ∨ 2 < x1.toInt := by
    rw [show (0 : Int32).toInt = 0 from rfl] at nc1
    rw [show (1 : Int32).toInt = 1 from rfl] at nc4
    rw [show (2 : Int32).toInt = 2 from rfl] at nc7
    omega
  refine g_tableOut (tgt := 74) X dX10_fault_1 w10 (by decide) ?_
  refine g_bipush X dX10_fault_74 (v := (-2 : Int32)) bp_m2 ?_
  exact g_iret X hr hlk dX10_fault_76 (by cases h; rfl)
set_option maxHeartbeats 4000000 in
set_option maxRecDepth 20000 in
theorem c_Game_fault {θ : Th} {l : Launch} {σ : Mem} {x1 : Int32} {r : Int32 × Mem}  (h : f_Game_fault σ x1 = some r) : Cn θ l yX10_fault cX10_fault 2 (some .int) 69 0 0 [.ref (be θ + 0), .int x1] σ (some (.int r.1), r.2) :=
  Cn.of (by decide) (Nat.le_of_ble_eq_true rfl) (fun p e s m below meth c X hr hlk => g_Game_fault X hr hlk  h)
theorem dX10_settle_0 : decode cX10_settle 0 = .ok (.aload_n 0, 1) := by decide +kernel
theorem dX10_settle_1 : decode cX10_settle 1 = .ok (.getfield 80, 3) := by decide +kernel
theorem dX10_settle_4 : decode cX10_settle 4 = .ok (.astore_n 1, 1) := by decide +kernel
theorem dX10_settle_5 : decode cX10_settle 5 = .ok (.aload_n 0, 1) := by decide +kernel
theorem dX10_settle_6 : decode cX10_settle 6 = .ok (.aload_n 0, 1) := by decide +kernel
theorem dX10_settle_7 : decode cX10_settle 7 = .ok (.getfield 52, 3) := by decide +kernel
theorem dX10_settle_10 : decode cX10_settle 10 = .ok (.getfield 137, 3) := by decide +kernel
theorem dX10_settle_13 : decode cX10_settle 13 = .ok (.putfield 80, 3) := by decide +kernel
theorem dX10_settle_16 : decode cX10_settle 16 = .ok (.aload_n 0, 1) := by decide +kernel
theorem dX10_settle_17 : decode cX10_settle 17 = .ok (.getfield 52, 3) := by decide +kernel
theorem dX10_settle_20 : decode cX10_settle 20 = .ok (.aload_n 1, 1) := by decide +kernel
theorem dX10_settle_21 : decode cX10_settle 21 = .ok (.putfield 137, 3) := by decide +kernel
theorem dX10_settle_24 : decode cX10_settle 24 = .ok (.aload_n 0, 1) := by decide +kernel
theorem dX10_settle_25 : decode cX10_settle 25 = .ok (.getfield 10, 3) := by decide +kernel
theorem dX10_settle_28 : decode cX10_settle 28 = .ok (.iconst 0, 1) := by decide +kernel
theorem dX10_settle_29 : decode cX10_settle 29 = .ok (.putfield 111, 3) := by decide +kernel
theorem dX10_settle_32 : decode cX10_settle 32 = .ok (.aload_n 0, 1) := by decide +kernel
theorem dX10_settle_33 : decode cX10_settle 33 = .ok (.getfield 35, 3) := by decide +kernel
theorem dX10_settle_36 : decode cX10_settle 36 = .ok (.aload_n 1, 1) := by decide +kernel
theorem dX10_settle_37 : decode cX10_settle 37 = .ok (.invokevirtual 140, 3) := by decide +kernel
theorem dX10_settle_40 : decode cX10_settle 40 = .ok (.aload_n 0, 1) := by decide +kernel
theorem dX10_settle_41 : decode cX10_settle 41 = .ok (.getfield 45, 3) := by decide +kernel
theorem dX10_settle_44 : decode cX10_settle 44 = .ok (.invokevirtual 144, 3) := by decide +kernel
theorem dX10_settle_47 : decode cX10_settle 47 = .ok (.aload_n 0, 1) := by decide +kernel
theorem dX10_settle_48 : decode cX10_settle 48 = .ok (.getfield 66, 3) := by decide +kernel
theorem dX10_settle_51 : decode cX10_settle 51 = .ok (.invokevirtual 147, 3) := by decide +kernel
theorem dX10_settle_54 : decode cX10_settle 54 = .ok (.aload_n 0, 1) := by decide +kernel
theorem dX10_settle_55 : decode cX10_settle 55 = .ok (.iconst 0, 1) := by decide +kernel
theorem dX10_settle_56 : decode cX10_settle 56 = .ok (.putfield 97, 3) := by decide +kernel
theorem dX10_settle_59 : decode cX10_settle 59 = .ok (.aload_n 1, 1) := by decide +kernel
theorem dX10_settle_60 : decode cX10_settle 60 = .ok (.getfield 148, 3) := by decide +kernel
theorem dX10_settle_63 : decode cX10_settle 63 = .ok (.ireturn, 1) := by decide +kernel
def f_Game_settle (σ : Mem)  : Option (Int32 × Mem) :=
  if kd (mR σ 0 11) = 2 then
    (f_State_beginAs (sI (sR (sR σ 0 11 (mR σ 428 1)) 428 1 (mR σ 0 11)) 1 1 (0 : Int32)) 6 (mR σ 0 11)).bind fun q2 =>
    (f_History_forget q2).bind fun q3 =>
    (f_Guess_forget q3).bind fun q4 =>
    some ((mI (sI q4 0 16 (0 : Int32)) (mR σ 0 11) 3), (sI q4 0 16 (0 : Int32)))
  else none
set_option maxHeartbeats 4000000 in
set_option maxRecDepth 20000 in
theorem g_Game_settle (X : Cx θ p s m args c cX10_settle 2 RX10) (hr : meth.sig.returnType = some .int) (hlk : meth.locks = false)  {σ : Mem}  {r : Int32 × Mem}  (h : f_Game_settle σ  = some r) : GB θ p l e 2 s m args below meth c 2 (some (.int r.1), r.2) 0 [(0, .ref (be θ + 0))] [] σ := by
  unfold f_Game_settle at h
  refine g_aload_n X dX10_settle_0 rfl 0 rfl ?_
  refine g_get X fl_RX10_80 dX10_settle_1 kd_0 (v := rv (be θ) (mR σ 0 11)) rfl ?_
  obtain ⟨g1, h⟩ := ite_some h
  rw [← rv_of (β := be θ) g1 (by decide)]
  refine g_astore_n X dX10_settle_4 rfl (by decide) (lv' := [(1, .ref (be θ + (mR σ 0 11))), (0, .ref (be θ + 0))]) rfl ?_
  refine g_aload_n X dX10_settle_5 rfl 1 rfl ?_
  refine g_aload_n X dX10_settle_6 rfl 1 rfl ?_
  refine g_get X fl_RX10_52 dX10_settle_7 kd_0 (v := .ref (be θ + 428)) rfl ?_
  refine g_get X fl_RX10_137 dX10_settle_10 kd_428 (v := rv (be θ) (mR σ 428 1)) rfl ?_
  refine g_putR (v := (mR σ 428 1)) X fl_RX10_80 dX10_settle_13 kd_0 rfl rv_nar rv_fitO rfl rfl ?_
  refine g_aload_n X dX10_settle_16 rfl 1 rfl ?_
  refine g_get X fl_RX10_52 dX10_settle_17 kd_0 (v := .ref (be θ + 428)) rfl ?_
  refine g_aload_n X dX10_settle_20 rfl 0 rfl ?_
  refine g_putR (v := (mR σ 0 11)) X fl_RX10_137 dX10_settle_21 kd_428 rfl rv_nar rv_fitO rfl (rv_of g1 (by decide)) ?_
  refine g_aload_n X dX10_settle_24 rfl 1 rfl ?_
  refine g_get X fl_RX10_10 dX10_settle_25 kd_0 (v := .ref (be θ + 1)) rfl ?_
  refine g_iconst X dX10_settle_28 (v := (0 : Int32)) ic_0 ?_
  refine g_putI X fl_RX10_111 dX10_settle_29 kd_1 rfl rfl rfl ?_
  refine g_aload_n X dX10_settle_32 rfl 1 rfl ?_
  refine g_get X fl_RX10_35 dX10_settle_33 kd_0 (v := .ref (be θ + 6)) rfl ?_
  refine g_aload_n X dX10_settle_36 rfl 0 rfl ?_
  obtain ⟨q2, hq2, h⟩ := Option.bind_eq_some_iff.mp h
  refine g_cV X (c_State_beginAs kd_6 g1 hq2) lk_RX10_140 my_X7_beginAs (a := 6) (ci := 7) kd_6 (by decide) rfl (As := [.ref (be θ + (mR σ 0 11))]) (rest := []) rfl rfl (Nat.le_of_ble_eq_true rfl) ⟨(Nat.le_of_ble_eq_true rfl), (Nat.le_of_ble_eq_true rfl)⟩ ⟨(Nat.le_of_ble_eq_true rfl), (Nat.le_of_ble_eq_true rfl)⟩ dX10_settle_37 (st' := []) (σ' := q2) rfl rfl ?_
  refine g_aload_n X dX10_settle_40 rfl 1 rfl ?_
  refine g_get X fl_RX10_45 dX10_settle_41 kd_0 (v := .ref (be θ + 26)) rfl ?_
  obtain ⟨q3, hq3, h⟩ := Option.bind_eq_some_iff.mp h
  refine g_cV X (c_History_forget  hq3) lk_RX10_144 my_X4_forget (a := 26) (ci := 4) kd_26 (by decide) rfl (As := []) (rest := []) rfl rfl (Nat.le_of_ble_eq_true rfl) ⟨(Nat.le_of_ble_eq_true rfl), (Nat.le_of_ble_eq_true rfl)⟩ ⟨(Nat.le_of_ble_eq_true rfl), (Nat.le_of_ble_eq_true rfl)⟩ dX10_settle_44 (st' := []) (σ' := q3) rfl rfl ?_
  refine g_aload_n X dX10_settle_47 rfl 1 rfl ?_
  refine g_get X fl_RX10_66 dX10_settle_48 kd_0 (v := .ref (be θ + 516)) rfl ?_
  obtain ⟨q4, hq4, h⟩ := Option.bind_eq_some_iff.mp h
  refine g_cV X (c_Guess_forget  hq4) lk_RX10_147 my_X3_forget (a := 516) (ci := 3) kd_516 (by decide) rfl (As := []) (rest := []) rfl rfl (Nat.le_of_ble_eq_true rfl) ⟨(Nat.le_of_ble_eq_true rfl), (Nat.le_of_ble_eq_true rfl)⟩ ⟨(Nat.le_of_ble_eq_true rfl), (Nat.le_of_ble_eq_true rfl)⟩ dX10_settle_51 (st' := []) (σ' := q4) rfl rfl ?_
  refine g_aload_n X dX10_settle_54 rfl 1 rfl ?_
  refine g_iconst X dX10_settle_55 (v := (0 : Int32)) ic_0 ?_
  refine g_putZ X fl_RX10_97 dX10_settle_56 kd_0 rfl rfl rfl bz0 ?_
  refine g_aload_n X dX10_settle_59 rfl 0 rfl ?_
  refine g_get X fl_RX10_148 dX10_settle_60 g1 (v := .int (mI (sI q4 0 16 (0 : Int32)) (mR σ 0 11) 3)) rfl ?_
  exact g_iret X hr hlk dX10_settle_63 (by cases h; rfl)
set_option maxHeartbeats 4000000 in
set_option maxRecDepth 20000 in
theorem c_Game_settle {θ : Th} {l : Launch} {σ : Mem}  {r : Int32 × Mem}  (h : f_Game_settle σ  = some r) : Cn θ l yX10_settle cX10_settle 2 (some .int) 2 0 0 [.ref (be θ + 0)] σ (some (.int r.1), r.2) :=
  Cn.of (by decide) (Nat.le_of_ble_eq_true rfl) (fun p e s m below meth c X hr hlk => g_Game_settle X hr hlk  h)
theorem dX10_keepLaw_0 : decode cX10_keepLaw 0 = .ok (.aload_n 0, 1) := by decide +kernel
theorem dX10_keepLaw_1 : decode cX10_keepLaw 1 = .ok (.getfield 10, 3) := by decide +kernel
theorem dX10_keepLaw_4 : decode cX10_keepLaw 4 = .ok (.iconst 0, 1) := by decide +kernel
theorem dX10_keepLaw_5 : decode cX10_keepLaw 5 = .ok (.putfield 111, 3) := by decide +kernel
theorem dX10_keepLaw_8 : decode cX10_keepLaw 8 = .ok (.aload_n 0, 1) := by decide +kernel
theorem dX10_keepLaw_9 : decode cX10_keepLaw 9 = .ok (.dup, 1) := by decide +kernel
theorem dX10_keepLaw_10 : decode cX10_keepLaw 10 = .ok (.getfield 84, 3) := by decide +kernel
theorem dX10_keepLaw_13 : decode cX10_keepLaw 13 = .ok (.iconst 1, 1) := by decide +kernel
theorem dX10_keepLaw_14 : decode cX10_keepLaw 14 = .ok (.iadd, 1) := by decide +kernel
theorem dX10_keepLaw_15 : decode cX10_keepLaw 15 = .ok (.putfield 84, 3) := by decide +kernel
theorem dX10_keepLaw_18 : decode cX10_keepLaw 18 = .ok (.aload_n 0, 1) := by decide +kernel
theorem dX10_keepLaw_19 : decode cX10_keepLaw 19 = .ok (.getfield 84, 3) := by decide +kernel
theorem dX10_keepLaw_22 : decode cX10_keepLaw 22 = .ok (.iconst 1, 1) := by decide +kernel
theorem dX10_keepLaw_23 : decode cX10_keepLaw 23 = .ok (.isub, 1) := by decide +kernel
theorem dX10_keepLaw_24 : decode cX10_keepLaw 24 = .ok (.ireturn, 1) := by decide +kernel
def f_Game_keepLaw (σ : Mem)  : Option (Int32 × Mem) :=
  some (((mI (sI (sI σ 1 1 (0 : Int32)) 0 12 ((mI (sI σ 1 1 (0 : Int32)) 0 12) + (1 : Int32))) 0 12) - (1 : Int32)), (sI (sI σ 1 1 (0 : Int32)) 0 12 ((mI (sI σ 1 1 (0 : Int32)) 0 12) + (1 : Int32))))
set_option maxHeartbeats 4000000 in
set_option maxRecDepth 20000 in
theorem g_Game_keepLaw (X : Cx θ p s m args c cX10_keepLaw 1 RX10) (hr : meth.sig.returnType = some .int) (hlk : meth.locks = false)  {σ : Mem}  {r : Int32 × Mem}  (h : f_Game_keepLaw σ  = some r) : GB θ p l e 0 s m args below meth c 1 (some (.int r.1), r.2) 0 [(0, .ref (be θ + 0))] [] σ := by
  unfold f_Game_keepLaw at h
  refine g_aload_n X dX10_keepLaw_0 rfl 0 rfl ?_
  refine g_get X fl_RX10_10 dX10_keepLaw_1 kd_0 (v := .ref (be θ + 1)) rfl ?_
  refine g_iconst X dX10_keepLaw_4 (v := (0 : Int32)) ic_0 ?_
  refine g_putI X fl_RX10_111 dX10_keepLaw_5 kd_1 rfl rfl rfl ?_
  refine g_aload_n X dX10_keepLaw_8 rfl 0 rfl ?_
  refine g_dup X dX10_keepLaw_9 rfl ?_
  refine g_get X fl_RX10_84 dX10_keepLaw_10 kd_0 (v := .int (mI (sI σ 1 1 (0 : Int32)) 0 12)) rfl ?_
  refine g_iconst X dX10_keepLaw_13 (v := (1 : Int32)) ic_1 ?_
  refine g_iadd X dX10_keepLaw_14 ?_
  refine g_putI X fl_RX10_84 dX10_keepLaw_15 kd_0 rfl rfl rfl ?_
  refine g_aload_n X dX10_keepLaw_18 rfl 0 rfl ?_
  refine g_get X fl_RX10_84 dX10_keepLaw_19 kd_0 (v := .int (mI (sI (sI σ 1 1 (0 : Int32)) 0 12 ((mI (sI σ 1 1 (0 : Int32)) 0 12) + (1 : Int32))) 0 12)) rfl ?_
  refine g_iconst X dX10_keepLaw_22 (v := (1 : Int32)) ic_1 ?_
  refine g_isub X dX10_keepLaw_23 ?_
  exact g_iret X hr hlk dX10_keepLaw_24 (by cases h; rfl)
set_option maxHeartbeats 4000000 in
set_option maxRecDepth 20000 in
theorem c_Game_keepLaw {θ : Th} {l : Launch} {σ : Mem}  {r : Int32 × Mem}  (h : f_Game_keepLaw σ  = some r) : Cn θ l yX10_keepLaw cX10_keepLaw 1 (some .int) 0 0 0 [.ref (be θ + 0)] σ (some (.int r.1), r.2) :=
  Cn.of (by decide) (Nat.le_of_ble_eq_true rfl) (fun p e s m below meth c X hr hlk => g_Game_keepLaw X hr hlk  h)
theorem dX10_keepDay_0 : decode cX10_keepDay 0 = .ok (.aload_n 0, 1) := by decide +kernel
theorem dX10_keepDay_1 : decode cX10_keepDay 1 = .ok (.getfield 10, 3) := by decide +kernel
theorem dX10_keepDay_4 : decode cX10_keepDay 4 = .ok (.iconst 0, 1) := by decide +kernel
theorem dX10_keepDay_5 : decode cX10_keepDay 5 = .ok (.putfield 111, 3) := by decide +kernel
theorem dX10_keepDay_8 : decode cX10_keepDay 8 = .ok (.aload_n 0, 1) := by decide +kernel
theorem dX10_keepDay_9 : decode cX10_keepDay 9 = .ok (.dup, 1) := by decide +kernel
theorem dX10_keepDay_10 : decode cX10_keepDay 10 = .ok (.getfield 91, 3) := by decide +kernel
theorem dX10_keepDay_13 : decode cX10_keepDay 13 = .ok (.iconst 1, 1) := by decide +kernel
theorem dX10_keepDay_14 : decode cX10_keepDay 14 = .ok (.iadd, 1) := by decide +kernel
theorem dX10_keepDay_15 : decode cX10_keepDay 15 = .ok (.putfield 91, 3) := by decide +kernel
theorem dX10_keepDay_18 : decode cX10_keepDay 18 = .ok (.aload_n 0, 1) := by decide +kernel
theorem dX10_keepDay_19 : decode cX10_keepDay 19 = .ok (.getfield 91, 3) := by decide +kernel
theorem dX10_keepDay_22 : decode cX10_keepDay 22 = .ok (.iconst 1, 1) := by decide +kernel
theorem dX10_keepDay_23 : decode cX10_keepDay 23 = .ok (.isub, 1) := by decide +kernel
theorem dX10_keepDay_24 : decode cX10_keepDay 24 = .ok (.ireturn, 1) := by decide +kernel
def f_Game_keepDay (σ : Mem)  : Option (Int32 × Mem) :=
  some (((mI (sI (sI σ 1 1 (0 : Int32)) 0 14 ((mI (sI σ 1 1 (0 : Int32)) 0 14) + (1 : Int32))) 0 14) - (1 : Int32)), (sI (sI σ 1 1 (0 : Int32)) 0 14 ((mI (sI σ 1 1 (0 : Int32)) 0 14) + (1 : Int32))))
set_option maxHeartbeats 4000000 in
set_option maxRecDepth 20000 in
theorem g_Game_keepDay (X : Cx θ p s m args c cX10_keepDay 1 RX10) (hr : meth.sig.returnType = some .int) (hlk : meth.locks = false)  {σ : Mem}  {r : Int32 × Mem}  (h : f_Game_keepDay σ  = some r) : GB θ p l e 0 s m args below meth c 1 (some (.int r.1), r.2) 0 [(0, .ref (be θ + 0))] [] σ := by
  unfold f_Game_keepDay at h
  refine g_aload_n X dX10_keepDay_0 rfl 0 rfl ?_
  refine g_get X fl_RX10_10 dX10_keepDay_1 kd_0 (v := .ref (be θ + 1)) rfl ?_
  refine g_iconst X dX10_keepDay_4 (v := (0 : Int32)) ic_0 ?_
  refine g_putI X fl_RX10_111 dX10_keepDay_5 kd_1 rfl rfl rfl ?_
  refine g_aload_n X dX10_keepDay_8 rfl 0 rfl ?_
  refine g_dup X dX10_keepDay_9 rfl ?_
  refine g_get X fl_RX10_91 dX10_keepDay_10 kd_0 (v := .int (mI (sI σ 1 1 (0 : Int32)) 0 14)) rfl ?_
  refine g_iconst X dX10_keepDay_13 (v := (1 : Int32)) ic_1 ?_
  refine g_iadd X dX10_keepDay_14 ?_
  refine g_putI X fl_RX10_91 dX10_keepDay_15 kd_0 rfl rfl rfl ?_
  refine g_aload_n X dX10_keepDay_18 rfl 0 rfl ?_
  refine g_get X fl_RX10_91 dX10_keepDay_19 kd_0 (v := .int (mI (sI (sI σ 1 1 (0 : Int32)) 0 14 ((mI (sI σ 1 1 (0 : Int32)) 0 14) + (1 : Int32))) 0 14)) rfl ?_
  refine g_iconst X dX10_keepDay_22 (v := (1 : Int32)) ic_1 ?_
  refine g_isub X dX10_keepDay_23 ?_
  exact g_iret X hr hlk dX10_keepDay_24 (by cases h; rfl)
set_option maxHeartbeats 4000000 in
set_option maxRecDepth 20000 in
theorem c_Game_keepDay {θ : Th} {l : Launch} {σ : Mem}  {r : Int32 × Mem}  (h : f_Game_keepDay σ  = some r) : Cn θ l yX10_keepDay cX10_keepDay 1 (some .int) 0 0 0 [.ref (be θ + 0)] σ (some (.int r.1), r.2) :=
  Cn.of (by decide) (Nat.le_of_ble_eq_true rfl) (fun p e s m below meth c X hr hlk => g_Game_keepDay X hr hlk  h)
theorem dX10_text_0 : decode cX10_text 0 = .ok (.aload_n 0, 1) := by decide +kernel
theorem dX10_text_1 : decode cX10_text 1 = .ok (.iload_n 1, 1) := by decide +kernel
theorem dX10_text_2 : decode cX10_text 2 = .ok (.invokevirtual 124, 3) := by decide +kernel
theorem dX10_text_5 : decode cX10_text 5 = .ok (.iconst (-1), 1) := by decide +kernel
theorem dX10_text_6 : decode cX10_text 6 = .ok (.if_icmp .eq 5, 3) := by decide +kernel
theorem dX10_text_9 : decode cX10_text 9 = .ok (.iconst (-1), 1) := by decide +kernel
theorem dX10_text_10 : decode cX10_text 10 = .ok (.ireturn, 1) := by decide +kernel
theorem dX10_text_11 : decode cX10_text 11 = .ok (.iload_n 1, 1) := by decide +kernel
theorem dX10_text_12 : decode cX10_text 12 = .ok (.lookupswitch 50 #[(0, 28), (1, 33)], 28) := by decide +kernel
theorem dX10_text_40 : decode cX10_text 40 = .ok (.aload_n 0, 1) := by decide +kernel
theorem dX10_text_41 : decode cX10_text 41 = .ok (.invokevirtual 127, 3) := by decide +kernel
theorem dX10_text_44 : decode cX10_text 44 = .ok (.ireturn, 1) := by decide +kernel
theorem dX10_text_45 : decode cX10_text 45 = .ok (.aload_n 0, 1) := by decide +kernel
theorem dX10_text_46 : decode cX10_text 46 = .ok (.getfield 84, 3) := by decide +kernel
theorem dX10_text_49 : decode cX10_text 49 = .ok (.iconst 4, 1) := by decide +kernel
theorem dX10_text_50 : decode cX10_text 50 = .ok (.if_icmp .ge 10, 3) := by decide +kernel
theorem dX10_text_53 : decode cX10_text 53 = .ok (.aload_n 0, 1) := by decide +kernel
theorem dX10_text_54 : decode cX10_text 54 = .ok (.invokevirtual 131, 3) := by decide +kernel
theorem dX10_text_57 : decode cX10_text 57 = .ok (.goto 4, 3) := by decide +kernel
theorem dX10_text_60 : decode cX10_text 60 = .ok (.iconst (-1), 1) := by decide +kernel
theorem dX10_text_61 : decode cX10_text 61 = .ok (.ireturn, 1) := by decide +kernel
theorem dX10_text_62 : decode cX10_text 62 = .ok (.aload_n 0, 1) := by decide +kernel
theorem dX10_text_63 : decode cX10_text 63 = .ok (.getfield 91, 3) := by decide +kernel
theorem dX10_text_66 : decode cX10_text 66 = .ok (.iconst 4, 1) := by decide +kernel
theorem dX10_text_67 : decode cX10_text 67 = .ok (.if_icmp .ge 10, 3) := by decide +kernel
theorem dX10_text_70 : decode cX10_text 70 = .ok (.aload_n 0, 1) := by decide +kernel
theorem dX10_text_71 : decode cX10_text 71 = .ok (.invokevirtual 134, 3) := by decide +kernel
theorem dX10_text_74 : decode cX10_text 74 = .ok (.goto 4, 3) := by decide +kernel
theorem dX10_text_77 : decode cX10_text 77 = .ok (.iconst (-1), 1) := by decide +kernel
theorem dX10_text_78 : decode cX10_text 78 = .ok (.ireturn, 1) := by decide +kernel
def f_Game_text (σ : Mem) (x1 : Int32) : Option (Int32 × Mem) :=
  (f_Game_fault σ x1).bind fun q1 =>
  if q1.1 = (-1 : Int32) then
    if x1 = (0 : Int32) then
      (f_Game_settle q1.2).bind fun q4 =>
      some (q4.1, q4.2)
    else
    if x1 = (1 : Int32) then
      if (4 : Int32) ≤ (mI q1.2 0 12) then
        some ((-1 : Int32), q1.2)
      else
        (f_Game_keepLaw q1.2).bind fun q7 =>
        some (q7.1, q7.2)
    else
    if (4 : Int32) ≤ (mI q1.2 0 14) then
      some ((-1 : Int32), q1.2)
    else
      (f_Game_keepDay q1.2).bind fun q9 =>
      some (q9.1, q9.2)
  else
    some ((-1 : Int32), q1.2)
set_option maxHeartbeats 4000000 in
set_option maxRecDepth 20000 in
theorem g_Game_text (X : Cx θ p s m args c cX10_text 2 RX10) (hr : meth.sig.returnType = some .int) (hlk : meth.locks = false)  {σ : Mem} {x1 : Int32} {r : Int32 × Mem}  (h : f_Game_text σ x1 = some r) : GB θ p l e 70 s m args below meth c 2 (some (.int r.1), r.2) 0 [(0, .ref (be θ + 0)), (1, .int x1)] [] σ := by
  unfold f_Game_text at h
  refine g_aload_n X dX10_text_0 rfl 0 rfl ?_
  refine g_iload_n X dX10_text_1 rfl 1 rfl ?_
  obtain ⟨q1, hq1, h⟩ := Option.bind_eq_some_iff.mp h
  refine g_cV X (c_Game_fault  hq1) lk_RX10_124 my_X10_fault (a := 0) (ci := 10) kd_0 (by decide) rfl (As := [.int x1]) (rest := []) rfl rfl (Nat.le_of_ble_eq_true rfl) ⟨(Nat.le_of_ble_eq_true rfl), (Nat.le_of_ble_eq_true rfl)⟩ ⟨(Nat.le_of_ble_eq_true rfl), (Nat.le_of_ble_eq_true rfl)⟩ dX10_text_2 (st' := [.int q1.1]) (σ' := q1.2) rfl rfl ?_
  refine g_iconst X dX10_text_5 (v := (-1 : Int32)) ic_m1 ?_
  refine g_icmp_eq (tgt := 11) X dX10_text_6 (by decide) (fun c2 => ?_) (fun c2 => ?_)
  · replace h := (if_pos c2).symm.trans h
    refine g_iload_n X dX10_text_11 rfl 1 rfl ?_
    by_cases c3 : x1 = (0 : Int32)
    · replace h := (if_pos c3).symm.trans h
      refine g_lookup (tgt := 40) (off := 28) X dX10_text_12 (by decide) (by rw [c3]; decide) (by decide) ?_
      refine g_aload_n X dX10_text_40 rfl 0 rfl ?_
      obtain ⟨q4, hq4, h⟩ := Option.bind_eq_some_iff.mp h
      refine g_cV X (c_Game_settle  hq4) lk_RX10_127 my_X10_settle (a := 0) (ci := 10) kd_0 (by decide) rfl (As := []) (rest := []) rfl rfl (Nat.le_of_ble_eq_true rfl) ⟨(Nat.le_of_ble_eq_true rfl), (Nat.le_of_ble_eq_true rfl)⟩ ⟨(Nat.le_of_ble_eq_true rfl), (Nat.le_of_ble_eq_true rfl)⟩ dX10_text_41 (st' := [.int q4.1]) (σ' := q4.2) rfl rfl ?_
      exact g_iret X hr hlk dX10_text_44 (by cases h; rfl)
    replace h := (if_neg c3).symm.trans h
    by_cases c5 : x1 = (1 : Int32)
    · replace h := (if_pos c5).symm.trans h
      refine g_lookup (tgt := 45) (off := 33) X dX10_text_12 (by decide) (by rw [c5]; decide) (by decide) ?_
      refine g_aload_n X dX10_text_45 rfl 0 rfl ?_
      refine g_get X fl_RX10_84 dX10_text_46 kd_0 (v := .int (mI q1.2 0 12)) rfl ?_
      refine g_iconst X dX10_text_49 (v := (4 : Int32)) ic_4 ?_
      refine g_icmp_ge (tgt := 60) X dX10_text_50 (by decide) (fun c6 => ?_) (fun c6 => ?_)
      · replace h := (if_pos c6).symm.trans h
        refine g_iconst X dX10_text_60 (v := (-1 : Int32)) ic_m1 ?_
        exact g_iret X hr hlk dX10_text_61 (by cases h; rfl)
      · replace h := (if_neg c6).symm.trans h
        refine g_aload_n X dX10_text_53 rfl 0 rfl ?_
        obtain ⟨q7, hq7, h⟩ := Option.bind_eq_some_iff.mp h
        refine g_cV X (c_Game_keepLaw  hq7) lk_RX10_131 my_X10_keepLaw (a := 0) (ci := 10) kd_0 (by decide) rfl (As := []) (rest := []) rfl rfl (Nat.le_of_ble_eq_true rfl) ⟨(Nat.le_of_ble_eq_true rfl), (Nat.le_of_ble_eq_true rfl)⟩ ⟨(Nat.le_of_ble_eq_true rfl), (Nat.le_of_ble_eq_true rfl)⟩ dX10_text_54 (st' := [.int q7.1]) (σ' := q7.2) rfl rfl ?_
        refine g_goto (tgt := 61) X dX10_text_57 (by decide) ?_
        exact g_iret X hr hlk dX10_text_61 (by cases h; rfl)
    replace h := (if_neg c5).symm.trans h
    refine g_lookup (tgt := 62) (off := 50) X dX10_text_12 (by decide) (by
      show Op.lookupswitch.offset [(0, 28), (1, 33)] 50 _ = _
      rw [lv_osw (a := 0) c3 (by decide), lv_osw (a := 1) c5 (by decide)]; rfl) (by decide) ?_
    refine g_aload_n X dX10_text_62 rfl 0 rfl ?_
    refine g_get X fl_RX10_91 dX10_text_63 kd_0 (v := .int (mI q1.2 0 14)) rfl ?_
    refine g_iconst X dX10_text_66 (v := (4 : Int32)) ic_4 ?_
    refine g_icmp_ge (tgt := 77) X dX10_text_67 (by decide) (fun c8 => ?_) (fun c8 => ?_)
    · replace h := (if_pos c8).symm.trans h
      refine g_iconst X dX10_text_77 (v := (-1 : Int32)) ic_m1 ?_
      exact g_iret X hr hlk dX10_text_78 (by cases h; rfl)
    · replace h := (if_neg c8).symm.trans h
      refine g_aload_n X dX10_text_70 rfl 0 rfl ?_
      obtain ⟨q9, hq9, h⟩ := Option.bind_eq_some_iff.mp h
      refine g_cV X (c_Game_keepDay  hq9) lk_RX10_134 my_X10_keepDay (a := 0) (ci := 10) kd_0 (by decide) rfl (As := []) (rest := []) rfl rfl (Nat.le_of_ble_eq_true rfl) ⟨(Nat.le_of_ble_eq_true rfl), (Nat.le_of_ble_eq_true rfl)⟩ ⟨(Nat.le_of_ble_eq_true rfl), (Nat.le_of_ble_eq_true rfl)⟩ dX10_text_71 (st' := [.int q9.1]) (σ' := q9.2) rfl rfl ?_
      refine g_goto (tgt := 78) X dX10_text_74 (by decide) ?_
      exact g_iret X hr hlk dX10_text_78 (by cases h; rfl)
  · replace h := (if_neg c2).symm.trans h
    refine g_iconst X dX10_text_9 (v := (-1 : Int32)) ic_m1 ?_
    exact g_iret X hr hlk dX10_text_10 (by cases h; rfl)
set_option maxHeartbeats 4000000 in
set_option maxRecDepth 20000 in
theorem c_Game_text {θ : Th} {l : Launch} {σ : Mem} {x1 : Int32} {r : Int32 × Mem}  (h : f_Game_text σ x1 = some r) : Cn θ l yX10_text cX10_text 2 (some .int) 70 0 0 [.ref (be θ + 0), .int x1] σ (some (.int r.1), r.2) :=
  Cn.of (by decide) (Nat.le_of_ble_eq_true rfl) (fun p e s m below meth c X hr hlk => g_Game_text X hr hlk  h)
theorem dX10_thing_0 : decode cX10_thing 0 = .ok (.aload_n 0, 1) := by decide +kernel
theorem dX10_thing_1 : decode cX10_thing 1 = .ok (.getfield 52, 3) := by decide +kernel
theorem dX10_thing_4 : decode cX10_thing 4 = .ok (.iload_n 1, 1) := by decide +kernel
theorem dX10_thing_5 : decode cX10_thing 5 = .ok (.invokevirtual 151, 3) := by decide +kernel
theorem dX10_thing_8 : decode cX10_thing 8 = .ok (.ifCond .ne 6, 3) := by decide +kernel
theorem dX10_thing_11 : decode cX10_thing 11 = .ok (.ldc 155, 2) := by decide +kernel
theorem dX10_thing_13 : decode cX10_thing 13 = .ok (.ireturn, 1) := by decide +kernel
theorem dX10_thing_14 : decode cX10_thing 14 = .ok (.iload_n 2, 1) := by decide +kernel
theorem dX10_thing_15 : decode cX10_thing 15 = .ok (.tableswitch 101 0 5 #[37, 49, 59, 71, 81, 91], 37) := by decide +kernel
theorem dX10_thing_52 : decode cX10_thing 52 = .ok (.aload_n 0, 1) := by decide +kernel
theorem dX10_thing_53 : decode cX10_thing 53 = .ok (.getfield 52, 3) := by decide +kernel
theorem dX10_thing_56 : decode cX10_thing 56 = .ok (.getfield 137, 3) := by decide +kernel
theorem dX10_thing_59 : decode cX10_thing 59 = .ok (.iload_n 1, 1) := by decide +kernel
theorem dX10_thing_60 : decode cX10_thing 60 = .ok (.invokevirtual 156, 3) := by decide +kernel
theorem dX10_thing_63 : decode cX10_thing 63 = .ok (.ireturn, 1) := by decide +kernel
theorem dX10_thing_64 : decode cX10_thing 64 = .ok (.aload_n 0, 1) := by decide +kernel
theorem dX10_thing_65 : decode cX10_thing 65 = .ok (.getfield 35, 3) := by decide +kernel
theorem dX10_thing_68 : decode cX10_thing 68 = .ok (.getfield 159, 3) := by decide +kernel
theorem dX10_thing_71 : decode cX10_thing 71 = .ok (.iload_n 1, 1) := by decide +kernel
theorem dX10_thing_72 : decode cX10_thing 72 = .ok (.iaload, 1) := by decide +kernel
theorem dX10_thing_73 : decode cX10_thing 73 = .ok (.ireturn, 1) := by decide +kernel
theorem dX10_thing_74 : decode cX10_thing 74 = .ok (.aload_n 0, 1) := by decide +kernel
theorem dX10_thing_75 : decode cX10_thing 75 = .ok (.getfield 52, 3) := by decide +kernel
theorem dX10_thing_78 : decode cX10_thing 78 = .ok (.getfield 137, 3) := by decide +kernel
theorem dX10_thing_81 : decode cX10_thing 81 = .ok (.iload_n 1, 1) := by decide +kernel
theorem dX10_thing_82 : decode cX10_thing 82 = .ok (.invokevirtual 162, 3) := by decide +kernel
theorem dX10_thing_85 : decode cX10_thing 85 = .ok (.ireturn, 1) := by decide +kernel
theorem dX10_thing_86 : decode cX10_thing 86 = .ok (.aload_n 0, 1) := by decide +kernel
theorem dX10_thing_87 : decode cX10_thing 87 = .ok (.getfield 35, 3) := by decide +kernel
theorem dX10_thing_90 : decode cX10_thing 90 = .ok (.getfield 165, 3) := by decide +kernel
theorem dX10_thing_93 : decode cX10_thing 93 = .ok (.iload_n 1, 1) := by decide +kernel
theorem dX10_thing_94 : decode cX10_thing 94 = .ok (.iaload, 1) := by decide +kernel
theorem dX10_thing_95 : decode cX10_thing 95 = .ok (.ireturn, 1) := by decide +kernel
theorem dX10_thing_96 : decode cX10_thing 96 = .ok (.aload_n 0, 1) := by decide +kernel
theorem dX10_thing_97 : decode cX10_thing 97 = .ok (.getfield 35, 3) := by decide +kernel
theorem dX10_thing_100 : decode cX10_thing 100 = .ok (.getfield 168, 3) := by decide +kernel
theorem dX10_thing_103 : decode cX10_thing 103 = .ok (.iload_n 1, 1) := by decide +kernel
theorem dX10_thing_104 : decode cX10_thing 104 = .ok (.iaload, 1) := by decide +kernel
theorem dX10_thing_105 : decode cX10_thing 105 = .ok (.ireturn, 1) := by decide +kernel
theorem dX10_thing_106 : decode cX10_thing 106 = .ok (.aload_n 0, 1) := by decide +kernel
theorem dX10_thing_107 : decode cX10_thing 107 = .ok (.getfield 35, 3) := by decide +kernel
theorem dX10_thing_110 : decode cX10_thing 110 = .ok (.getfield 171, 3) := by decide +kernel
theorem dX10_thing_113 : decode cX10_thing 113 = .ok (.iload_n 1, 1) := by decide +kernel
theorem dX10_thing_114 : decode cX10_thing 114 = .ok (.iaload, 1) := by decide +kernel
theorem dX10_thing_115 : decode cX10_thing 115 = .ok (.ireturn, 1) := by decide +kernel
theorem dX10_thing_116 : decode cX10_thing 116 = .ok (.ldc 155, 2) := by decide +kernel
theorem dX10_thing_118 : decode cX10_thing 118 = .ok (.ireturn, 1) := by decide +kernel
def f_Game_thing (σ : Mem) (x1 : Int32) (x2 : Int32) : Option (Int32) :=
  (f_Trade_isThing σ x1).bind fun q1 =>
  if q1 = (0 : Int32) then
    some (-1000000 : Int32)
  else
    if x2 = (0 : Int32) then
      if kd (mR σ 428 1) = 2 then
        (f_City_priceOf σ (mR σ 428 1) x1).bind fun q5 =>
        some q5
      else none
    else
    if x2 = (1 : Int32) then
      if inb x1 8 then
        some (mI σ 10 x1.toNatClampNeg)
      else none
    else
    if x2 = (2 : Int32) then
      if kd (mR σ 428 1) = 2 then
        (f_City_shopOf σ (mR σ 428 1) x1).bind fun q10 =>
        some q10
      else none
    else
    if x2 = (3 : Int32) then
      if inb x1 8 then
        some (mI σ 7 x1.toNatClampNeg)
      else none
    else
    if x2 = (4 : Int32) then
      if inb x1 8 then
        some (mI σ 8 x1.toNatClampNeg)
      else none
    else
    if x2 = (5 : Int32) then
      if inb x1 8 then
        some (mI σ 9 x1.toNatClampNeg)
      else none
    else
    some (-1000000 : Int32)
set_option maxHeartbeats 4000000 in
set_option maxRecDepth 20000 in
theorem g_Game_thing (X : Cx θ p s m args c cX10_thing 3 RX10) (hr : meth.sig.returnType = some .int) (hlk : meth.locks = false)  {σ : Mem} {x1 : Int32} {x2 : Int32} {r : Int32}  (h : f_Game_thing σ x1 x2 = some r) : GB θ p l e 1 s m args below meth c 3 (some (.int r), σ) 0 [(0, .ref (be θ + 0)), (1, .int x1), (2, .int x2)] [] σ := by
  unfold f_Game_thing at h
  refine g_aload_n X dX10_thing_0 rfl 0 rfl ?_
  refine g_get X fl_RX10_52 dX10_thing_1 kd_0 (v := .ref (be θ + 428)) rfl ?_
  refine g_iload_n X dX10_thing_4 rfl 1 rfl ?_
  obtain ⟨q1, hq1, h⟩ := Option.bind_eq_some_iff.mp h
  refine g_cV X (c_Trade_isThing  hq1) lk_RX10_151 my_X9_isThing (a := 428) (ci := 9) kd_428 (by decide) rfl (As := [.int x1]) (rest := []) rfl rfl (Nat.le_of_ble_eq_true rfl) ⟨(Nat.le_of_ble_eq_true rfl), (Nat.le_of_ble_eq_true rfl)⟩ ⟨(Nat.le_of_ble_eq_true rfl), (Nat.le_of_ble_eq_true rfl)⟩ dX10_thing_5 (st' := [.int q1]) (σ' := σ) rfl rfl ?_
  refine g_if_ne (tgt := 14) X dX10_thing_8 (by decide) (fun c2 => ?_) (fun c2 => ?_)
  · replace h := (if_neg c2).symm.trans h
    refine g_iload_n X dX10_thing_14 rfl 2 rfl ?_
    by_cases c3 : x2 = (0 : Int32)
    · replace h := (if_pos c3).symm.trans h
      refine g_tableIn (tgt := 52) (off := 37) X dX10_thing_15 (by rw [c3]; decide) (by rw [c3]; decide) (by rw [c3]; rfl) (by decide) ?_
      refine g_aload_n X dX10_thing_52 rfl 0 rfl ?_
      refine g_get X fl_RX10_52 dX10_thing_53 kd_0 (v := .ref (be θ + 428)) rfl ?_
      refine g_get X fl_RX10_137 dX10_thing_56 kd_428 (v := rv (be θ) (mR σ 428 1)) rfl ?_
      refine g_iload_n X dX10_thing_59 rfl 1 rfl ?_
      obtain ⟨g4, h⟩ := ite_some h
      rw [← rv_of (β := be θ) g4 (by decide)]
      obtain ⟨q5, hq5, h⟩ := Option.bind_eq_some_iff.mp h
      refine g_cV X (c_City_priceOf g4 hq5) lk_RX10_156 my_X1_priceOf (a := (mR σ 428 1)) (ci := 1) g4 (by decide) rfl (As := [.int x1]) (rest := []) rfl rfl (Nat.le_of_ble_eq_true rfl) ⟨(Nat.le_of_ble_eq_true rfl), (Nat.le_of_ble_eq_true rfl)⟩ ⟨(Nat.le_of_ble_eq_true rfl), (Nat.le_of_ble_eq_true rfl)⟩ dX10_thing_60 (st' := [.int q5]) (σ' := σ) rfl rfl ?_
      exact g_iret X hr hlk dX10_thing_63 (by cases h; rfl)
    replace h := (if_neg c3).symm.trans h
    by_cases c6 : x2 = (1 : Int32)
    · replace h := (if_pos c6).symm.trans h
      refine g_tableIn (tgt := 64) (off := 49) X dX10_thing_15 (by rw [c6]; decide) (by rw [c6]; decide) (by rw [c6]; rfl) (by decide) ?_
      refine g_aload_n X dX10_thing_64 rfl 0 rfl ?_
      refine g_get X fl_RX10_35 dX10_thing_65 kd_0 (v := .ref (be θ + 6)) rfl ?_
      refine g_get X fl_RX10_159 dX10_thing_68 kd_6 (v := .ref (be θ + 10)) rfl ?_
      refine g_iload_n X dX10_thing_71 rfl 1 rfl ?_
      obtain ⟨g7, h⟩ := ite_some h
      refine g_iald X kd_10 ln_10 (inb_in g7) dX10_thing_72 ?_
      exact g_iret X hr hlk dX10_thing_73 (by cases h; rfl)
    replace h := (if_neg c6).symm.trans h
    by_cases c8 : x2 = (2 : Int32)
    · replace h := (if_pos c8).symm.trans h
      refine g_tableIn (tgt := 74) (off := 59) X dX10_thing_15 (by rw [c8]; decide) (by rw [c8]; decide) (by rw [c8]; rfl) (by decide) ?_
      refine g_aload_n X dX10_thing_74 rfl 0 rfl ?_
      refine g_get X fl_RX10_52 dX10_thing_75 kd_0 (v := .ref (be θ + 428)) rfl ?_
      refine g_get X fl_RX10_137 dX10_thing_78 kd_428 (v := rv (be θ) (mR σ 428 1)) rfl ?_
      refine g_iload_n X dX10_thing_81 rfl 1 rfl ?_
      obtain ⟨g9, h⟩ := ite_some h
      rw [← rv_of (β := be θ) g9 (by decide)]
      obtain ⟨q10, hq10, h⟩ := Option.bind_eq_some_iff.mp h
      refine g_cV X (c_City_shopOf g9 hq10) lk_RX10_162 my_X1_shopOf (a := (mR σ 428 1)) (ci := 1) g9 (by decide) rfl (As := [.int x1]) (rest := []) rfl rfl (Nat.le_of_ble_eq_true rfl) ⟨(Nat.le_of_ble_eq_true rfl), (Nat.le_of_ble_eq_true rfl)⟩ ⟨(Nat.le_of_ble_eq_true rfl), (Nat.le_of_ble_eq_true rfl)⟩ dX10_thing_82 (st' := [.int q10]) (σ' := σ) rfl rfl ?_
      exact g_iret X hr hlk dX10_thing_85 (by cases h; rfl)
    replace h := (if_neg c8).symm.trans h
    by_cases c11 : x2 = (3 : Int32)
    · replace h := (if_pos c11).symm.trans h
      refine g_tableIn (tgt := 86) (off := 71) X dX10_thing_15 (by rw [c11]; decide) (by rw [c11]; decide) (by rw [c11]; rfl) (by decide) ?_
      refine g_aload_n X dX10_thing_86 rfl 0 rfl ?_
      refine g_get X fl_RX10_35 dX10_thing_87 kd_0 (v := .ref (be θ + 6)) rfl ?_
      refine g_get X fl_RX10_165 dX10_thing_90 kd_6 (v := .ref (be θ + 7)) rfl ?_
      refine g_iload_n X dX10_thing_93 rfl 1 rfl ?_
      obtain ⟨g12, h⟩ := ite_some h
      refine g_iald X kd_7 ln_7 (inb_in g12) dX10_thing_94 ?_
      exact g_iret X hr hlk dX10_thing_95 (by cases h; rfl)
    replace h := (if_neg c11).symm.trans h
    by_cases c13 : x2 = (4 : Int32)
    · replace h := (if_pos c13).symm.trans h
      refine g_tableIn (tgt := 96) (off := 81) X dX10_thing_15 (by rw [c13]; decide) (by rw [c13]; decide) (by rw [c13]; rfl) (by decide) ?_
      refine g_aload_n X dX10_thing_96 rfl 0 rfl ?_
      refine g_get X fl_RX10_35 dX10_thing_97 kd_0 (v := .ref (be θ + 6)) rfl ?_
      refine g_get X fl_RX10_168 dX10_thing_100 kd_6 (v := .ref (be θ + 8)) rfl ?_
      refine g_iload_n X dX10_thing_103 rfl 1 rfl ?_
      obtain ⟨g14, h⟩ := ite_some h
      refine g_iald X kd_8 ln_8 (inb_in g14) dX10_thing_104 ?_
      exact g_iret X hr hlk dX10_thing_105 (by cases h; rfl)
    replace h := (if_neg c13).symm.trans h
    by_cases c15 : x2 = (5 : Int32)
    · replace h := (if_pos c15).symm.trans h
      refine g_tableIn (tgt := 106) (off := 91) X dX10_thing_15 (by rw [c15]; decide) (by rw [c15]; decide) (by rw [c15]; rfl) (by decide) ?_
      refine g_aload_n X dX10_thing_106 rfl 0 rfl ?_
      refine g_get X fl_RX10_35 dX10_thing_107 kd_0 (v := .ref (be θ + 6)) rfl ?_
      refine g_get X fl_RX10_171 dX10_thing_110 kd_6 (v := .ref (be θ + 9)) rfl ?_
      refine g_iload_n X dX10_thing_113 rfl 1 rfl ?_
      obtain ⟨g16, h⟩ := ite_some h
      refine g_iald X kd_9 ln_9 (inb_in g16) dX10_thing_114 ?_
      exact g_iret X hr hlk dX10_thing_115 (by cases h; rfl)
    replace h := (if_neg c15).symm.trans h
    have nc3 := neT c3
    have nc6 := neT c6
    have nc8 := neT c8
    have nc11 := neT c11
    have nc13 := neT c13
    have nc15 := neT c15
    have w17 : x2.toInt < 0 ∨ 5 < x2.toInt := by
      rw [show (0 : Int32).toInt = 0 from rfl] at nc3
      rw [show (1 : Int32).toInt = 1 from rfl] at nc6
      rw [show (2 : Int32).toInt = 2 from rfl] at nc8
      rw [show (3 : Int32).toInt = 3 from rfl] at nc11
      rw [show (4 : Int32).toInt = 4 from rfl] at nc13
      rw [show (5 : Int32).toInt = 5 from rfl] at nc15
      omega
    refine g_tableOut (tgt := 116) X dX10_thing_15 w17 (by decide) ?_
    refine g_ldc X cst_RX10_155 dX10_thing_116 ?_
    exact g_iret X hr hlk dX10_thing_118 (by cases h; rfl)
  · replace h := (if_pos c2).symm.trans h
    refine g_ldc X cst_RX10_155 dX10_thing_11 ?_
    exact g_iret X hr hlk dX10_thing_13 (by cases h; rfl)
set_option maxHeartbeats 4000000 in
set_option maxRecDepth 20000 in
theorem c_Game_thing {θ : Th} {l : Launch} {σ : Mem} {x1 : Int32} {x2 : Int32} {r : Int32}  (h : f_Game_thing σ x1 x2 = some r) : Cn θ l yX10_thing cX10_thing 3 (some .int) 1 0 0 [.ref (be θ + 0), .int x1, .int x2] σ (some (.int r), σ) :=
  Cn.of (by decide) (Nat.le_of_ble_eq_true rfl) (fun p e s m below meth c X hr hlk => g_Game_thing X hr hlk  h)
theorem dX10_liking_0 : decode cX10_liking 0 = .ok (.aload_n 0, 1) := by decide +kernel
theorem dX10_liking_1 : decode cX10_liking 1 = .ok (.getfield 52, 3) := by decide +kernel
theorem dX10_liking_4 : decode cX10_liking 4 = .ok (.iload_n 1, 1) := by decide +kernel
theorem dX10_liking_5 : decode cX10_liking 5 = .ok (.invokevirtual 174, 3) := by decide +kernel
theorem dX10_liking_8 : decode cX10_liking 8 = .ok (.ifCond .eq 14, 3) := by decide +kernel
theorem dX10_liking_11 : decode cX10_liking 11 = .ok (.aload_n 0, 1) := by decide +kernel
theorem dX10_liking_12 : decode cX10_liking 12 = .ok (.getfield 52, 3) := by decide +kernel
theorem dX10_liking_15 : decode cX10_liking 15 = .ok (.iload_n 2, 1) := by decide +kernel
theorem dX10_liking_16 : decode cX10_liking 16 = .ok (.invokevirtual 151, 3) := by decide +kernel
theorem dX10_liking_19 : decode cX10_liking 19 = .ok (.ifCond .ne 5, 3) := by decide +kernel
theorem dX10_liking_22 : decode cX10_liking 22 = .ok (.iconst (-1), 1) := by decide +kernel
theorem dX10_liking_23 : decode cX10_liking 23 = .ok (.ireturn, 1) := by decide +kernel
theorem dX10_liking_24 : decode cX10_liking 24 = .ok (.aload_n 0, 1) := by decide +kernel
theorem dX10_liking_25 : decode cX10_liking 25 = .ok (.getfield 52, 3) := by decide +kernel
theorem dX10_liking_28 : decode cX10_liking 28 = .ok (.aload_n 0, 1) := by decide +kernel
theorem dX10_liking_29 : decode cX10_liking 29 = .ok (.getfield 35, 3) := by decide +kernel
theorem dX10_liking_32 : decode cX10_liking 32 = .ok (.iload_n 1, 1) := by decide +kernel
theorem dX10_liking_33 : decode cX10_liking 33 = .ok (.iload_n 2, 1) := by decide +kernel
theorem dX10_liking_34 : decode cX10_liking 34 = .ok (.invokevirtual 201, 3) := by decide +kernel
theorem dX10_liking_37 : decode cX10_liking 37 = .ok (.ireturn, 1) := by decide +kernel
def f_Game_liking (σ : Mem) (x1 : Int32) (x2 : Int32) : Option (Int32 × Mem) :=
  (f_Trade_isBuyer σ x1).bind fun q1 =>
  if q1 = (0 : Int32) then
    some ((-1 : Int32), σ)
  else
    (f_Trade_isThing σ x2).bind fun q3 =>
    if q3 = (0 : Int32) then
      some ((-1 : Int32), σ)
    else
      (f_Trade_liked σ 6 x1 x2).bind fun q5 =>
      some (q5.1, q5.2)
set_option maxHeartbeats 4000000 in
set_option maxRecDepth 20000 in
theorem g_Game_liking (X : Cx θ p s m args c cX10_liking 3 RX10) (hr : meth.sig.returnType = some .int) (hlk : meth.locks = false)  {σ : Mem} {x1 : Int32} {x2 : Int32} {r : Int32 × Mem}  (h : f_Game_liking σ x1 x2 = some r) : GB θ p l e 3 s m args below meth c 3 (some (.int r.1), r.2) 0 [(0, .ref (be θ + 0)), (1, .int x1), (2, .int x2)] [] σ := by
  unfold f_Game_liking at h
  refine g_aload_n X dX10_liking_0 rfl 0 rfl ?_
  refine g_get X fl_RX10_52 dX10_liking_1 kd_0 (v := .ref (be θ + 428)) rfl ?_
  refine g_iload_n X dX10_liking_4 rfl 1 rfl ?_
  obtain ⟨q1, hq1, h⟩ := Option.bind_eq_some_iff.mp h
  refine g_cV X (c_Trade_isBuyer  hq1) lk_RX10_174 my_X9_isBuyer (a := 428) (ci := 9) kd_428 (by decide) rfl (As := [.int x1]) (rest := []) rfl rfl (Nat.le_of_ble_eq_true rfl) ⟨(Nat.le_of_ble_eq_true rfl), (Nat.le_of_ble_eq_true rfl)⟩ ⟨(Nat.le_of_ble_eq_true rfl), (Nat.le_of_ble_eq_true rfl)⟩ dX10_liking_5 (st' := [.int q1]) (σ' := σ) rfl rfl ?_
  refine g_if_eq (tgt := 22) X dX10_liking_8 (by decide) (fun c2 => ?_) (fun c2 => ?_)
  · replace h := (if_pos c2).symm.trans h
    refine g_iconst X dX10_liking_22 (v := (-1 : Int32)) ic_m1 ?_
    exact g_iret X hr hlk dX10_liking_23 (by cases h; rfl)
  · replace h := (if_neg c2).symm.trans h
    refine g_aload_n X dX10_liking_11 rfl 0 rfl ?_
    refine g_get X fl_RX10_52 dX10_liking_12 kd_0 (v := .ref (be θ + 428)) rfl ?_
    refine g_iload_n X dX10_liking_15 rfl 2 rfl ?_
    obtain ⟨q3, hq3, h⟩ := Option.bind_eq_some_iff.mp h
    refine g_cV X (c_Trade_isThing  hq3) lk_RX10_151 my_X9_isThing (a := 428) (ci := 9) kd_428 (by decide) rfl (As := [.int x2]) (rest := []) rfl rfl (Nat.le_of_ble_eq_true rfl) ⟨(Nat.le_of_ble_eq_true rfl), (Nat.le_of_ble_eq_true rfl)⟩ ⟨(Nat.le_of_ble_eq_true rfl), (Nat.le_of_ble_eq_true rfl)⟩ dX10_liking_16 (st' := [.int q3]) (σ' := σ) rfl rfl ?_
    refine g_if_ne (tgt := 24) X dX10_liking_19 (by decide) (fun c4 => ?_) (fun c4 => ?_)
    · replace h := (if_neg c4).symm.trans h
      refine g_aload_n X dX10_liking_24 rfl 0 rfl ?_
      refine g_get X fl_RX10_52 dX10_liking_25 kd_0 (v := .ref (be θ + 428)) rfl ?_
      refine g_aload_n X dX10_liking_28 rfl 0 rfl ?_
      refine g_get X fl_RX10_35 dX10_liking_29 kd_0 (v := .ref (be θ + 6)) rfl ?_
      refine g_iload_n X dX10_liking_32 rfl 1 rfl ?_
      refine g_iload_n X dX10_liking_33 rfl 2 rfl ?_
      obtain ⟨q5, hq5, h⟩ := Option.bind_eq_some_iff.mp h
      refine g_cV X (c_Trade_liked kd_6 hq5) lk_RX10_201 my_X9_liked (a := 428) (ci := 9) kd_428 (by decide) rfl (As := [.ref (be θ + 6), .int x1, .int x2]) (rest := []) rfl rfl (Nat.le_of_ble_eq_true rfl) ⟨(Nat.le_of_ble_eq_true rfl), (Nat.le_of_ble_eq_true rfl)⟩ ⟨(Nat.le_of_ble_eq_true rfl), (Nat.le_of_ble_eq_true rfl)⟩ dX10_liking_34 (st' := [.int q5.1]) (σ' := q5.2) rfl rfl ?_
      exact g_iret X hr hlk dX10_liking_37 (by cases h; rfl)
    · replace h := (if_pos c4).symm.trans h
      refine g_iconst X dX10_liking_22 (v := (-1 : Int32)) ic_m1 ?_
      exact g_iret X hr hlk dX10_liking_23 (by cases h; rfl)
set_option maxHeartbeats 4000000 in
set_option maxRecDepth 20000 in
theorem c_Game_liking {θ : Th} {l : Launch} {σ : Mem} {x1 : Int32} {x2 : Int32} {r : Int32 × Mem}  (h : f_Game_liking σ x1 x2 = some r) : Cn θ l yX10_liking cX10_liking 3 (some .int) 3 0 0 [.ref (be θ + 0), .int x1, .int x2] σ (some (.int r.1), r.2) :=
  Cn.of (by decide) (Nat.le_of_ble_eq_true rfl) (fun p e s m below meth c X hr hlk => g_Game_liking X hr hlk  h)
theorem dX10_bill_0 : decode cX10_bill 0 = .ok (.aload_n 0, 1) := by decide +kernel
theorem dX10_bill_1 : decode cX10_bill 1 = .ok (.getfield 52, 3) := by decide +kernel
theorem dX10_bill_4 : decode cX10_bill 4 = .ok (.iload_n 1, 1) := by decide +kernel
theorem dX10_bill_5 : decode cX10_bill 5 = .ok (.invokevirtual 174, 3) := by decide +kernel
theorem dX10_bill_8 : decode cX10_bill 8 = .ok (.ifCond .eq 12, 3) := by decide +kernel
theorem dX10_bill_11 : decode cX10_bill 11 = .ok (.iload_n 3, 1) := by decide +kernel
theorem dX10_bill_12 : decode cX10_bill 12 = .ok (.ifCond .lt 8, 3) := by decide +kernel
theorem dX10_bill_15 : decode cX10_bill 15 = .ok (.iload_n 3, 1) := by decide +kernel
theorem dX10_bill_16 : decode cX10_bill 16 = .ok (.iconst 2, 1) := by decide +kernel
theorem dX10_bill_17 : decode cX10_bill 17 = .ok (.if_icmp .le 5, 3) := by decide +kernel
theorem dX10_bill_20 : decode cX10_bill 20 = .ok (.iconst (-1), 1) := by decide +kernel
theorem dX10_bill_21 : decode cX10_bill 21 = .ok (.ireturn, 1) := by decide +kernel
theorem dX10_bill_22 : decode cX10_bill 22 = .ok (.aload_n 0, 1) := by decide +kernel
theorem dX10_bill_23 : decode cX10_bill 23 = .ok (.getfield 35, 3) := by decide +kernel
theorem dX10_bill_26 : decode cX10_bill 26 = .ok (.iload_n 1, 1) := by decide +kernel
theorem dX10_bill_27 : decode cX10_bill 27 = .ok (.iload_n 2, 1) := by decide +kernel
theorem dX10_bill_28 : decode cX10_bill 28 = .ok (.invokevirtual 205, 3) := by decide +kernel
theorem dX10_bill_31 : decode cX10_bill 31 = .ok (.istore 4, 2) := by decide +kernel
theorem dX10_bill_33 : decode cX10_bill 33 = .ok (.iload 4, 2) := by decide +kernel
theorem dX10_bill_35 : decode cX10_bill 35 = .ok (.iconst (-1), 1) := by decide +kernel
theorem dX10_bill_36 : decode cX10_bill 36 = .ok (.if_icmp .ne 7, 3) := by decide +kernel
theorem dX10_bill_39 : decode cX10_bill 39 = .ok (.iconst (-1), 1) := by decide +kernel
theorem dX10_bill_40 : decode cX10_bill 40 = .ok (.goto 17, 3) := by decide +kernel
theorem dX10_bill_43 : decode cX10_bill 43 = .ok (.aload_n 0, 1) := by decide +kernel
theorem dX10_bill_44 : decode cX10_bill 44 = .ok (.getfield 35, 3) := by decide +kernel
theorem dX10_bill_47 : decode cX10_bill 47 = .ok (.getfield 209, 3) := by decide +kernel
theorem dX10_bill_50 : decode cX10_bill 50 = .ok (.iload 4, 2) := by decide +kernel
theorem dX10_bill_52 : decode cX10_bill 52 = .ok (.iconst 1, 1) := by decide +kernel
theorem dX10_bill_53 : decode cX10_bill 53 = .ok (.iadd, 1) := by decide +kernel
theorem dX10_bill_54 : decode cX10_bill 54 = .ok (.iload_n 3, 1) := by decide +kernel
theorem dX10_bill_55 : decode cX10_bill 55 = .ok (.iadd, 1) := by decide +kernel
theorem dX10_bill_56 : decode cX10_bill 56 = .ok (.iaload, 1) := by decide +kernel
theorem dX10_bill_57 : decode cX10_bill 57 = .ok (.ireturn, 1) := by decide +kernel
def f_Game_bill (σ : Mem) (x1 : Int32) (x2 : Int32) (x3 : Int32) : Option (Int32) :=
  (f_Trade_isBuyer σ x1).bind fun q1 =>
  if q1 = (0 : Int32) then
    some (-1 : Int32)
  else
    if x3 < (0 : Int32) then
      some (-1 : Int32)
    else
      if x3 ≤ (2 : Int32) then
        (f_State_billRow σ 6 x1 x2).bind fun q5 =>
        if q5 = (-1 : Int32) then
          some (-1 : Int32)
        else
          if inb ((q5 + (1 : Int32)) + x3) 96 then
            some (mI σ 14 ((q5 + (1 : Int32)) + x3).toNatClampNeg)
          else none
      else
        some (-1 : Int32)
set_option maxHeartbeats 4000000 in
set_option maxRecDepth 20000 in
theorem g_Game_bill (X : Cx θ p s m args c cX10_bill 5 RX10) (hr : meth.sig.returnType = some .int) (hlk : meth.locks = false)  {σ : Mem} {x1 : Int32} {x2 : Int32} {x3 : Int32} {r : Int32}  (h : f_Game_bill σ x1 x2 x3 = some r) : GB θ p l e 1 s m args below meth c 5 (some (.int r), σ) 0 [(0, .ref (be θ + 0)), (1, .int x1), (2, .int x2), (3, .int x3)] [] σ := by
  unfold f_Game_bill at h
  refine g_aload_n X dX10_bill_0 rfl 0 rfl ?_
  refine g_get X fl_RX10_52 dX10_bill_1 kd_0 (v := .ref (be θ + 428)) rfl ?_
  refine g_iload_n X dX10_bill_4 rfl 1 rfl ?_
  obtain ⟨q1, hq1, h⟩ := Option.bind_eq_some_iff.mp h
  refine g_cV X (c_Trade_isBuyer  hq1) lk_RX10_174 my_X9_isBuyer (a := 428) (ci := 9) kd_428 (by decide) rfl (As := [.int x1]) (rest := []) rfl rfl (Nat.le_of_ble_eq_true rfl) ⟨(Nat.le_of_ble_eq_true rfl), (Nat.le_of_ble_eq_true rfl)⟩ ⟨(Nat.le_of_ble_eq_true rfl), (Nat.le_of_ble_eq_true rfl)⟩ dX10_bill_5 (st' := [.int q1]) (σ' := σ) rfl rfl ?_
  refine g_if_eq (tgt := 20) X dX10_bill_8 (by decide) (fun c2 => ?_) (fun c2 => ?_)
  · replace h := (if_pos c2).symm.trans h
    refine g_iconst X dX10_bill_20 (v := (-1 : Int32)) ic_m1 ?_
    exact g_iret X hr hlk dX10_bill_21 (by cases h; rfl)
  · replace h := (if_neg c2).symm.trans h
    refine g_iload_n X dX10_bill_11 rfl 3 rfl ?_
    refine g_if_lt (tgt := 20) X dX10_bill_12 (by decide) (fun c3 => ?_) (fun c3 => ?_)
    · replace h := (if_pos c3).symm.trans h
      refine g_iconst X dX10_bill_20 (v := (-1 : Int32)) ic_m1 ?_
      exact g_iret X hr hlk dX10_bill_21 (by cases h; rfl)
    · replace h := (if_neg c3).symm.trans h
      refine g_iload_n X dX10_bill_15 rfl 3 rfl ?_
      refine g_iconst X dX10_bill_16 (v := (2 : Int32)) ic_2 ?_
      refine g_icmp_le (tgt := 22) X dX10_bill_17 (by decide) (fun c4 => ?_) (fun c4 => ?_)
      · replace h := (if_pos c4).symm.trans h
        refine g_aload_n X dX10_bill_22 rfl 0 rfl ?_
        refine g_get X fl_RX10_35 dX10_bill_23 kd_0 (v := .ref (be θ + 6)) rfl ?_
        refine g_iload_n X dX10_bill_26 rfl 1 rfl ?_
        refine g_iload_n X dX10_bill_27 rfl 2 rfl ?_
        obtain ⟨q5, hq5, h⟩ := Option.bind_eq_some_iff.mp h
        refine g_cV X (c_State_billRow kd_6 hq5) lk_RX10_205 my_X7_billRow (a := 6) (ci := 7) kd_6 (by decide) rfl (As := [.int x1, .int x2]) (rest := []) rfl rfl (Nat.le_of_ble_eq_true rfl) ⟨(Nat.le_of_ble_eq_true rfl), (Nat.le_of_ble_eq_true rfl)⟩ ⟨(Nat.le_of_ble_eq_true rfl), (Nat.le_of_ble_eq_true rfl)⟩ dX10_bill_28 (st' := [.int q5]) (σ' := σ) rfl rfl ?_
        refine g_istore X dX10_bill_31 (by decide) (lv' := [(4, .int q5), (0, .ref (be θ + 0)), (1, .int x1), (2, .int x2), (3, .int x3)]) rfl ?_
        refine g_iload X dX10_bill_33 0 rfl ?_
        refine g_iconst X dX10_bill_35 (v := (-1 : Int32)) ic_m1 ?_
        refine g_icmp_ne (tgt := 43) X dX10_bill_36 (by decide) (fun c6 => ?_) (fun c6 => ?_)
        · replace h := (if_neg c6).symm.trans h
          refine g_aload_n X dX10_bill_43 rfl 1 rfl ?_
          refine g_get X fl_RX10_35 dX10_bill_44 kd_0 (v := .ref (be θ + 6)) rfl ?_
          refine g_get X fl_RX10_209 dX10_bill_47 kd_6 (v := .ref (be θ + 14)) rfl ?_
          refine g_iload X dX10_bill_50 0 rfl ?_
          refine g_iconst X dX10_bill_52 (v := (1 : Int32)) ic_1 ?_
          refine g_iadd X dX10_bill_53 ?_
          refine g_iload_n X dX10_bill_54 rfl 4 rfl ?_
          refine g_iadd X dX10_bill_55 ?_
          obtain ⟨g7, h⟩ := ite_some h
          refine g_iald X kd_14 ln_14 (inb_in g7) dX10_bill_56 ?_
          exact g_iret X hr hlk dX10_bill_57 (by cases h; rfl)
        · replace h := (if_pos c6).symm.trans h
          refine g_iconst X dX10_bill_39 (v := (-1 : Int32)) ic_m1 ?_
          refine g_goto (tgt := 57) X dX10_bill_40 (by decide) ?_
          exact g_iret X hr hlk dX10_bill_57 (by cases h; rfl)
      · replace h := (if_neg c4).symm.trans h
        refine g_iconst X dX10_bill_20 (v := (-1 : Int32)) ic_m1 ?_
        exact g_iret X hr hlk dX10_bill_21 (by cases h; rfl)
set_option maxHeartbeats 4000000 in
set_option maxRecDepth 20000 in
theorem c_Game_bill {θ : Th} {l : Launch} {σ : Mem} {x1 : Int32} {x2 : Int32} {x3 : Int32} {r : Int32}  (h : f_Game_bill σ x1 x2 x3 = some r) : Cn θ l yX10_bill cX10_bill 5 (some .int) 1 0 0 [.ref (be θ + 0), .int x1, .int x2, .int x3] σ (some (.int r), σ) :=
  Cn.of (by decide) (Nat.le_of_ble_eq_true rfl) (fun p e s m below meth c X hr hlk => g_Game_bill X hr hlk  h)
theorem dX10_law_0 : decode cX10_law 0 = .ok (.iload_n 1, 1) := by decide +kernel
theorem dX10_law_1 : decode cX10_law 1 = .ok (.iconst (-1), 1) := by decide +kernel
theorem dX10_law_2 : decode cX10_law 2 = .ok (.if_icmp .lt 11, 3) := by decide +kernel
theorem dX10_law_5 : decode cX10_law 5 = .ok (.iload_n 1, 1) := by decide +kernel
theorem dX10_law_6 : decode cX10_law 6 = .ok (.aload_n 0, 1) := by decide +kernel
theorem dX10_law_7 : decode cX10_law 7 = .ok (.getfield 84, 3) := by decide +kernel
theorem dX10_law_10 : decode cX10_law 10 = .ok (.if_icmp .lt 5, 3) := by decide +kernel
theorem dX10_law_13 : decode cX10_law 13 = .ok (.iconst 0, 1) := by decide +kernel
theorem dX10_law_14 : decode cX10_law 14 = .ok (.ireturn, 1) := by decide +kernel
theorem dX10_law_15 : decode cX10_law 15 = .ok (.aload_n 0, 1) := by decide +kernel
theorem dX10_law_16 : decode cX10_law 16 = .ok (.iload_n 1, 1) := by decide +kernel
theorem dX10_law_17 : decode cX10_law 17 = .ok (.putfield 88, 3) := by decide +kernel
theorem dX10_law_20 : decode cX10_law 20 = .ok (.aload_n 0, 1) := by decide +kernel
theorem dX10_law_21 : decode cX10_law 21 = .ok (.getfield 52, 3) := by decide +kernel
theorem dX10_law_24 : decode cX10_law 24 = .ok (.iload_n 1, 1) := by decide +kernel
theorem dX10_law_25 : decode cX10_law 25 = .ok (.iconst (-1), 1) := by decide +kernel
theorem dX10_law_26 : decode cX10_law 26 = .ok (.if_icmp .ne 7, 3) := by decide +kernel
theorem dX10_law_29 : decode cX10_law 29 = .ok (.aconst_null, 1) := by decide +kernel
theorem dX10_law_30 : decode cX10_law 30 = .ok (.goto 9, 3) := by decide +kernel
theorem dX10_law_33 : decode cX10_law 33 = .ok (.aload_n 0, 1) := by decide +kernel
theorem dX10_law_34 : decode cX10_law 34 = .ok (.getfield 18, 3) := by decide +kernel
theorem dX10_law_37 : decode cX10_law 37 = .ok (.iload_n 1, 1) := by decide +kernel
theorem dX10_law_38 : decode cX10_law 38 = .ok (.aaload, 1) := by decide +kernel
theorem dX10_law_39 : decode cX10_law 39 = .ok (.putfield 212, 3) := by decide +kernel
theorem dX10_law_42 : decode cX10_law 42 = .ok (.iconst 1, 1) := by decide +kernel
theorem dX10_law_43 : decode cX10_law 43 = .ok (.ireturn, 1) := by decide +kernel
def f_Game_law (σ : Mem) (x1 : Int32) : Option (Int32 × Mem) :=
  if x1 < (-1 : Int32) then
    some ((0 : Int32), σ)
  else
    if x1 < (mI σ 0 12) then
      if x1 = (-1 : Int32) then
        some ((1 : Int32), (sR (sI σ 0 13 x1) 428 2 0))
      else
        if inb x1 5 then
          some ((1 : Int32), (sR (sI σ 0 13 x1) 428 2 (ra 3 x1.toNatClampNeg)))
        else none
    else
      some ((0 : Int32), σ)
set_option maxHeartbeats 4000000 in
set_option maxRecDepth 20000 in
theorem g_Game_law (X : Cx θ p s m args c cX10_law 2 RX10) (hr : meth.sig.returnType = some .boolean) (hlk : meth.locks = false)  {σ : Mem} {x1 : Int32} {r : Int32 × Mem}  (h : f_Game_law σ x1 = some r) : GB θ p l e 0 s m args below meth c 2 (some (.int r.1), r.2) 0 [(0, .ref (be θ + 0)), (1, .int x1)] [] σ := by
  unfold f_Game_law at h
  refine g_iload_n X dX10_law_0 rfl 1 rfl ?_
  refine g_iconst X dX10_law_1 (v := (-1 : Int32)) ic_m1 ?_
  refine g_icmp_lt (tgt := 13) X dX10_law_2 (by decide) (fun c1 => ?_) (fun c1 => ?_)
  · replace h := (if_pos c1).symm.trans h
    refine g_iconst X dX10_law_13 (v := (0 : Int32)) ic_0 ?_
    exact g_zret X hr hlk bz0 dX10_law_14 (by cases h; rfl)
  · replace h := (if_neg c1).symm.trans h
    refine g_iload_n X dX10_law_5 rfl 1 rfl ?_
    refine g_aload_n X dX10_law_6 rfl 0 rfl ?_
    refine g_get X fl_RX10_84 dX10_law_7 kd_0 (v := .int (mI σ 0 12)) rfl ?_
    refine g_icmp_lt (tgt := 15) X dX10_law_10 (by decide) (fun c2 => ?_) (fun c2 => ?_)
    · replace h := (if_pos c2).symm.trans h
      refine g_aload_n X dX10_law_15 rfl 0 rfl ?_
      refine g_iload_n X dX10_law_16 rfl 1 rfl ?_
      refine g_putI X fl_RX10_88 dX10_law_17 kd_0 rfl rfl rfl ?_
      refine g_aload_n X dX10_law_20 rfl 0 rfl ?_
      refine g_get X fl_RX10_52 dX10_law_21 kd_0 (v := .ref (be θ + 428)) rfl ?_
      refine g_iload_n X dX10_law_24 rfl 1 rfl ?_
      refine g_iconst X dX10_law_25 (v := (-1 : Int32)) ic_m1 ?_
      refine g_icmp_ne (tgt := 33) X dX10_law_26 (by decide) (fun c3 => ?_) (fun c3 => ?_)
      · replace h := (if_neg c3).symm.trans h
        refine g_aload_n X dX10_law_33 rfl 0 rfl ?_
        refine g_get X fl_RX10_18 dX10_law_34 kd_0 (v := .ref (be θ + 3)) rfl ?_
        refine g_iload_n X dX10_law_37 rfl 1 rfl ?_
        obtain ⟨g4, h⟩ := ite_some h
        refine g_aald X kd_3 (by decide) ln_3 (inb_in g4) dX10_law_38 ?_
        refine g_putR (v := (ra 3 x1.toNatClampNeg)) X fl_RX10_212 dX10_law_39 kd_428 rfl rv_nar rv_fitO rfl (rv_of (ra_3 (in_lt (inb_in g4))) (by decide)) ?_
        refine g_iconst X dX10_law_42 (v := (1 : Int32)) ic_1 ?_
        exact g_zret X hr hlk bz1 dX10_law_43 (by cases h; rfl)
      · replace h := (if_pos c3).symm.trans h
        refine g_null X dX10_law_29 ?_
        refine g_goto (tgt := 39) X dX10_law_30 (by decide) ?_
        refine g_putR (v := 0) X fl_RX10_212 dX10_law_39 kd_428 rfl rv_nar rv_fitO rfl rfl ?_
        refine g_iconst X dX10_law_42 (v := (1 : Int32)) ic_1 ?_
        exact g_zret X hr hlk bz1 dX10_law_43 (by cases h; rfl)
    · replace h := (if_neg c2).symm.trans h
      refine g_iconst X dX10_law_13 (v := (0 : Int32)) ic_0 ?_
      exact g_zret X hr hlk bz0 dX10_law_14 (by cases h; rfl)
set_option maxHeartbeats 4000000 in
set_option maxRecDepth 20000 in
theorem c_Game_law {θ : Th} {l : Launch} {σ : Mem} {x1 : Int32} {r : Int32 × Mem}  (h : f_Game_law σ x1 = some r) : Cn θ l yX10_law cX10_law 2 (some .boolean) 0 0 0 [.ref (be θ + 0), .int x1] σ (some (.int r.1), r.2) :=
  Cn.of (by decide) (Nat.le_of_ble_eq_true rfl) (fun p e s m below meth c X hr hlk => g_Game_law X hr hlk  h)
theorem dX10_tempted_0 : decode cX10_tempted 0 = .ok (.iload_n 1, 1) := by decide +kernel
theorem dX10_tempted_1 : decode cX10_tempted 1 = .ok (.ifCond .lt 17, 3) := by decide +kernel
theorem dX10_tempted_4 : decode cX10_tempted 4 = .ok (.iload_n 1, 1) := by decide +kernel
theorem dX10_tempted_5 : decode cX10_tempted 5 = .ok (.bipush 9, 2) := by decide +kernel
theorem dX10_tempted_7 : decode cX10_tempted 7 = .ok (.if_icmp .gt 11, 3) := by decide +kernel
theorem dX10_tempted_10 : decode cX10_tempted 10 = .ok (.iload_n 1, 1) := by decide +kernel
theorem dX10_tempted_11 : decode cX10_tempted 11 = .ok (.aload_n 0, 1) := by decide +kernel
theorem dX10_tempted_12 : decode cX10_tempted 12 = .ok (.getfield 94, 3) := by decide +kernel
theorem dX10_tempted_15 : decode cX10_tempted 15 = .ok (.if_icmp .ne 5, 3) := by decide +kernel
theorem dX10_tempted_18 : decode cX10_tempted 18 = .ok (.iconst 0, 1) := by decide +kernel
theorem dX10_tempted_19 : decode cX10_tempted 19 = .ok (.ireturn, 1) := by decide +kernel
theorem dX10_tempted_20 : decode cX10_tempted 20 = .ok (.aload_n 0, 1) := by decide +kernel
theorem dX10_tempted_21 : decode cX10_tempted 21 = .ok (.iload_n 1, 1) := by decide +kernel
theorem dX10_tempted_22 : decode cX10_tempted 22 = .ok (.putfield 94, 3) := by decide +kernel
theorem dX10_tempted_25 : decode cX10_tempted 25 = .ok (.iconst 1, 1) := by decide +kernel
theorem dX10_tempted_26 : decode cX10_tempted 26 = .ok (.ireturn, 1) := by decide +kernel
def f_Game_tempted (σ : Mem) (x1 : Int32) : Option (Int32 × Mem) :=
  if x1 < (0 : Int32) then
    some ((0 : Int32), σ)
  else
    if (9 : Int32) < x1 then
      some ((0 : Int32), σ)
    else
      if x1 = (mI σ 0 15) then
        some ((0 : Int32), σ)
      else
        some ((1 : Int32), (sI σ 0 15 x1))
set_option maxHeartbeats 4000000 in
set_option maxRecDepth 20000 in
theorem g_Game_tempted (X : Cx θ p s m args c cX10_tempted 2 RX10) (hr : meth.sig.returnType = some .boolean) (hlk : meth.locks = false)  {σ : Mem} {x1 : Int32} {r : Int32 × Mem}  (h : f_Game_tempted σ x1 = some r) : GB θ p l e 0 s m args below meth c 2 (some (.int r.1), r.2) 0 [(0, .ref (be θ + 0)), (1, .int x1)] [] σ := by
  unfold f_Game_tempted at h
  refine g_iload_n X dX10_tempted_0 rfl 1 rfl ?_
  refine g_if_lt (tgt := 18) X dX10_tempted_1 (by decide) (fun c1 => ?_) (fun c1 => ?_)
  · replace h := (if_pos c1).symm.trans h
    refine g_iconst X dX10_tempted_18 (v := (0 : Int32)) ic_0 ?_
    exact g_zret X hr hlk bz0 dX10_tempted_19 (by cases h; rfl)
  · replace h := (if_neg c1).symm.trans h
    refine g_iload_n X dX10_tempted_4 rfl 1 rfl ?_
    refine g_bipush X dX10_tempted_5 (v := (9 : Int32)) bp_9 ?_
    refine g_icmp_gt (tgt := 18) X dX10_tempted_7 (by decide) (fun c2 => ?_) (fun c2 => ?_)
    · replace h := (if_pos c2).symm.trans h
      refine g_iconst X dX10_tempted_18 (v := (0 : Int32)) ic_0 ?_
      exact g_zret X hr hlk bz0 dX10_tempted_19 (by cases h; rfl)
    · replace h := (if_neg c2).symm.trans h
      refine g_iload_n X dX10_tempted_10 rfl 1 rfl ?_
      refine g_aload_n X dX10_tempted_11 rfl 0 rfl ?_
      refine g_get X fl_RX10_94 dX10_tempted_12 kd_0 (v := .int (mI σ 0 15)) rfl ?_
      refine g_icmp_ne (tgt := 20) X dX10_tempted_15 (by decide) (fun c3 => ?_) (fun c3 => ?_)
      · replace h := (if_neg c3).symm.trans h
        refine g_aload_n X dX10_tempted_20 rfl 0 rfl ?_
        refine g_iload_n X dX10_tempted_21 rfl 1 rfl ?_
        refine g_putI X fl_RX10_94 dX10_tempted_22 kd_0 rfl rfl rfl ?_
        refine g_iconst X dX10_tempted_25 (v := (1 : Int32)) ic_1 ?_
        exact g_zret X hr hlk bz1 dX10_tempted_26 (by cases h; rfl)
      · replace h := (if_pos c3).symm.trans h
        refine g_iconst X dX10_tempted_18 (v := (0 : Int32)) ic_0 ?_
        exact g_zret X hr hlk bz0 dX10_tempted_19 (by cases h; rfl)
set_option maxHeartbeats 4000000 in
set_option maxRecDepth 20000 in
theorem c_Game_tempted {θ : Th} {l : Launch} {σ : Mem} {x1 : Int32} {r : Int32 × Mem}  (h : f_Game_tempted σ x1 = some r) : Cn θ l yX10_tempted cX10_tempted 2 (some .boolean) 0 0 0 [.ref (be θ + 0), .int x1] σ (some (.int r.1), r.2) :=
  Cn.of (by decide) (Nat.le_of_ble_eq_true rfl) (fun p e s m below meth c X hr hlk => g_Game_tempted X hr hlk  h)
theorem dX10_refused_0 : decode cX10_refused 0 = .ok (.iload_n 1, 1) := by decide +kernel
theorem dX10_refused_1 : decode cX10_refused 1 = .ok (.ifCond .lt 9, 3) := by decide +kernel
theorem dX10_refused_4 : decode cX10_refused 4 = .ok (.iload_n 1, 1) := by decide +kernel
theorem dX10_refused_5 : decode cX10_refused 5 = .ok (.bipush 6, 2) := by decide +kernel
theorem dX10_refused_7 : decode cX10_refused 7 = .ok (.if_icmp .lt 5, 3) := by decide +kernel
theorem dX10_refused_10 : decode cX10_refused 10 = .ok (.iconst 0, 1) := by decide +kernel
theorem dX10_refused_11 : decode cX10_refused 11 = .ok (.ireturn, 1) := by decide +kernel
theorem dX10_refused_12 : decode cX10_refused 12 = .ok (.aload_n 0, 1) := by decide +kernel
theorem dX10_refused_13 : decode cX10_refused 13 = .ok (.getfield 28, 3) := by decide +kernel
theorem dX10_refused_16 : decode cX10_refused 16 = .ok (.iload_n 1, 1) := by decide +kernel
theorem dX10_refused_17 : decode cX10_refused 17 = .ok (.dup2, 1) := by decide +kernel
theorem dX10_refused_18 : decode cX10_refused 18 = .ok (.iaload, 1) := by decide +kernel
theorem dX10_refused_19 : decode cX10_refused 19 = .ok (.iconst 1, 1) := by decide +kernel
theorem dX10_refused_20 : decode cX10_refused 20 = .ok (.iadd, 1) := by decide +kernel
theorem dX10_refused_21 : decode cX10_refused 21 = .ok (.iastore, 1) := by decide +kernel
theorem dX10_refused_22 : decode cX10_refused 22 = .ok (.iconst 1, 1) := by decide +kernel
theorem dX10_refused_23 : decode cX10_refused 23 = .ok (.ireturn, 1) := by decide +kernel
def f_Game_refused (σ : Mem) (x1 : Int32) : Option (Int32 × Mem) :=
  if x1 < (0 : Int32) then
    some ((0 : Int32), σ)
  else
    if x1 < (6 : Int32) then
      if inb x1 6 then
        some ((1 : Int32), (sI σ 5 x1.toNatClampNeg ((mI σ 5 x1.toNatClampNeg) + (1 : Int32))))
      else none
    else
      some ((0 : Int32), σ)
set_option maxHeartbeats 4000000 in
set_option maxRecDepth 20000 in
theorem g_Game_refused (X : Cx θ p s m args c cX10_refused 2 RX10) (hr : meth.sig.returnType = some .boolean) (hlk : meth.locks = false)  {σ : Mem} {x1 : Int32} {r : Int32 × Mem}  (h : f_Game_refused σ x1 = some r) : GB θ p l e 0 s m args below meth c 2 (some (.int r.1), r.2) 0 [(0, .ref (be θ + 0)), (1, .int x1)] [] σ := by
  unfold f_Game_refused at h
  refine g_iload_n X dX10_refused_0 rfl 1 rfl ?_
  refine g_if_lt (tgt := 10) X dX10_refused_1 (by decide) (fun c1 => ?_) (fun c1 => ?_)
  · replace h := (if_pos c1).symm.trans h
    refine g_iconst X dX10_refused_10 (v := (0 : Int32)) ic_0 ?_
    exact g_zret X hr hlk bz0 dX10_refused_11 (by cases h; rfl)
  · replace h := (if_neg c1).symm.trans h
    refine g_iload_n X dX10_refused_4 rfl 1 rfl ?_
    refine g_bipush X dX10_refused_5 (v := (6 : Int32)) bp_6 ?_
    refine g_icmp_lt (tgt := 12) X dX10_refused_7 (by decide) (fun c2 => ?_) (fun c2 => ?_)
    · replace h := (if_pos c2).symm.trans h
      refine g_aload_n X dX10_refused_12 rfl 0 rfl ?_
      refine g_get X fl_RX10_28 dX10_refused_13 kd_0 (v := .ref (be θ + 5)) rfl ?_
      refine g_iload_n X dX10_refused_16 rfl 1 rfl ?_
      refine g_dup2 X dX10_refused_17 rfl rfl ?_
      obtain ⟨g3, h⟩ := ite_some h
      refine g_iald X kd_5 ln_5 (inb_in g3) dX10_refused_18 ?_
      refine g_iconst X dX10_refused_19 (v := (1 : Int32)) ic_1 ?_
      refine g_iadd X dX10_refused_20 ?_
      refine g_iast X kd_5 ln_5 (inb_in g3) dX10_refused_21 ?_
      refine g_iconst X dX10_refused_22 (v := (1 : Int32)) ic_1 ?_
      exact g_zret X hr hlk bz1 dX10_refused_23 (by cases h; rfl)
    · replace h := (if_neg c2).symm.trans h
      refine g_iconst X dX10_refused_10 (v := (0 : Int32)) ic_0 ?_
      exact g_zret X hr hlk bz0 dX10_refused_11 (by cases h; rfl)
set_option maxHeartbeats 4000000 in
set_option maxRecDepth 20000 in
theorem c_Game_refused {θ : Th} {l : Launch} {σ : Mem} {x1 : Int32} {r : Int32 × Mem}  (h : f_Game_refused σ x1 = some r) : Cn θ l yX10_refused cX10_refused 2 (some .boolean) 0 0 0 [.ref (be θ + 0), .int x1] σ (some (.int r.1), r.2) :=
  Cn.of (by decide) (Nat.le_of_ble_eq_true rfl) (fun p e s m below meth c X hr hlk => g_Game_refused X hr hlk  h)
theorem dX10_pick_0 : decode cX10_pick 0 = .ok (.aload_n 0, 1) := by decide +kernel
theorem dX10_pick_1 : decode cX10_pick 1 = .ok (.aload_n 0, 1) := by decide +kernel
theorem dX10_pick_2 : decode cX10_pick 2 = .ok (.getfield 52, 3) := by decide +kernel
theorem dX10_pick_5 : decode cX10_pick 5 = .ok (.aload_n 0, 1) := by decide +kernel
theorem dX10_pick_6 : decode cX10_pick 6 = .ok (.getfield 35, 3) := by decide +kernel
theorem dX10_pick_9 : decode cX10_pick 9 = .ok (.iload_n 1, 1) := by decide +kernel
theorem dX10_pick_10 : decode cX10_pick 10 = .ok (.iload_n 2, 1) := by decide +kernel
theorem dX10_pick_11 : decode cX10_pick 11 = .ok (.invokevirtual 216, 3) := by decide +kernel
theorem dX10_pick_14 : decode cX10_pick 14 = .ok (.invokevirtual 219, 3) := by decide +kernel
theorem dX10_pick_17 : decode cX10_pick 17 = .ok (.ifCond .eq 5, 3) := by decide +kernel
theorem dX10_pick_20 : decode cX10_pick 20 = .ok (.iconst (-1), 1) := by decide +kernel
theorem dX10_pick_21 : decode cX10_pick 21 = .ok (.ireturn, 1) := by decide +kernel
theorem dX10_pick_22 : decode cX10_pick 22 = .ok (.aload_n 0, 1) := by decide +kernel
theorem dX10_pick_23 : decode cX10_pick 23 = .ok (.getfield 45, 3) := by decide +kernel
theorem dX10_pick_26 : decode cX10_pick 26 = .ok (.aload_n 0, 1) := by decide +kernel
theorem dX10_pick_27 : decode cX10_pick 27 = .ok (.getfield 35, 3) := by decide +kernel
theorem dX10_pick_30 : decode cX10_pick 30 = .ok (.invokevirtual 222, 3) := by decide +kernel
theorem dX10_pick_33 : decode cX10_pick 33 = .ok (.aload_n 0, 1) := by decide +kernel
theorem dX10_pick_34 : decode cX10_pick 34 = .ok (.getfield 52, 3) := by decide +kernel
theorem dX10_pick_37 : decode cX10_pick 37 = .ok (.aload_n 0, 1) := by decide +kernel
theorem dX10_pick_38 : decode cX10_pick 38 = .ok (.getfield 35, 3) := by decide +kernel
theorem dX10_pick_41 : decode cX10_pick 41 = .ok (.iload_n 1, 1) := by decide +kernel
theorem dX10_pick_42 : decode cX10_pick 42 = .ok (.iload_n 2, 1) := by decide +kernel
theorem dX10_pick_43 : decode cX10_pick 43 = .ok (.invokevirtual 226, 3) := by decide +kernel
theorem dX10_pick_46 : decode cX10_pick 46 = .ok (.aload_n 0, 1) := by decide +kernel
theorem dX10_pick_47 : decode cX10_pick 47 = .ok (.getfield 52, 3) := by decide +kernel
theorem dX10_pick_50 : decode cX10_pick 50 = .ok (.aload_n 0, 1) := by decide +kernel
theorem dX10_pick_51 : decode cX10_pick 51 = .ok (.getfield 35, 3) := by decide +kernel
theorem dX10_pick_54 : decode cX10_pick 54 = .ok (.iload_n 1, 1) := by decide +kernel
theorem dX10_pick_55 : decode cX10_pick 55 = .ok (.iload_n 2, 1) := by decide +kernel
theorem dX10_pick_56 : decode cX10_pick 56 = .ok (.invokevirtual 201, 3) := by decide +kernel
theorem dX10_pick_59 : decode cX10_pick 59 = .ok (.ireturn, 1) := by decide +kernel
def f_Game_pick (σ : Mem) (x1 : Int32) (x2 : Int32) : Option (Int32 × Mem) :=
  (f_Trade_whyNotPick σ 6 x1 x2).bind fun q1 =>
  (f_Game_refused σ q1).bind fun q2 =>
  if q2.1 = (0 : Int32) then
    (f_History_keep q2.2 6).bind fun q4 =>
    (f_Trade_pickUp q4 6 x1 x2).bind fun q5 =>
    (f_Trade_liked q5 6 x1 x2).bind fun q6 =>
    some (q6.1, q6.2)
  else
    some ((-1 : Int32), q2.2)
set_option maxHeartbeats 4000000 in
set_option maxRecDepth 20000 in
theorem g_Game_pick (X : Cx θ p s m args c cX10_pick 3 RX10) (hr : meth.sig.returnType = some .int) (hlk : meth.locks = false)  {σ : Mem} {x1 : Int32} {x2 : Int32} {r : Int32 × Mem}  (h : f_Game_pick σ x1 x2 = some r) : GB θ p l e 3 s m args below meth c 3 (some (.int r.1), r.2) 0 [(0, .ref (be θ + 0)), (1, .int x1), (2, .int x2)] [] σ := by
  unfold f_Game_pick at h
  refine g_aload_n X dX10_pick_0 rfl 0 rfl ?_
  refine g_aload_n X dX10_pick_1 rfl 0 rfl ?_
  refine g_get X fl_RX10_52 dX10_pick_2 kd_0 (v := .ref (be θ + 428)) rfl ?_
  refine g_aload_n X dX10_pick_5 rfl 0 rfl ?_
  refine g_get X fl_RX10_35 dX10_pick_6 kd_0 (v := .ref (be θ + 6)) rfl ?_
  refine g_iload_n X dX10_pick_9 rfl 1 rfl ?_
  refine g_iload_n X dX10_pick_10 rfl 2 rfl ?_
  obtain ⟨q1, hq1, h⟩ := Option.bind_eq_some_iff.mp h
  refine g_cV X (c_Trade_whyNotPick kd_6 hq1) lk_RX10_216 my_X9_whyNotPick (a := 428) (ci := 9) kd_428 (by decide) rfl (As := [.ref (be θ + 6), .int x1, .int x2]) (rest := [.ref (be θ + 0)]) rfl rfl (Nat.le_of_ble_eq_true rfl) ⟨(Nat.le_of_ble_eq_true rfl), (Nat.le_of_ble_eq_true rfl)⟩ ⟨(Nat.le_of_ble_eq_true rfl), (Nat.le_of_ble_eq_true rfl)⟩ dX10_pick_11 (st' := [.int q1, .ref (be θ + 0)]) (σ' := σ) rfl rfl ?_
  obtain ⟨q2, hq2, h⟩ := Option.bind_eq_some_iff.mp h
  refine g_cV X (c_Game_refused  hq2) lk_RX10_219 my_X10_refused (a := 0) (ci := 10) kd_0 (by decide) rfl (As := [.int q1]) (rest := []) rfl rfl (Nat.le_of_ble_eq_true rfl) ⟨(Nat.le_of_ble_eq_true rfl), (Nat.le_of_ble_eq_true rfl)⟩ ⟨(Nat.le_of_ble_eq_true rfl), (Nat.le_of_ble_eq_true rfl)⟩ dX10_pick_14 (st' := [.int q2.1]) (σ' := q2.2) rfl rfl ?_
  refine g_if_eq (tgt := 22) X dX10_pick_17 (by decide) (fun c3 => ?_) (fun c3 => ?_)
  · replace h := (if_pos c3).symm.trans h
    refine g_aload_n X dX10_pick_22 rfl 0 rfl ?_
    refine g_get X fl_RX10_45 dX10_pick_23 kd_0 (v := .ref (be θ + 26)) rfl ?_
    refine g_aload_n X dX10_pick_26 rfl 0 rfl ?_
    refine g_get X fl_RX10_35 dX10_pick_27 kd_0 (v := .ref (be θ + 6)) rfl ?_
    obtain ⟨q4, hq4, h⟩ := Option.bind_eq_some_iff.mp h
    refine g_cV X (c_History_keep kd_6 hq4) lk_RX10_222 my_X4_keep (a := 26) (ci := 4) kd_26 (by decide) rfl (As := [.ref (be θ + 6)]) (rest := []) rfl rfl (Nat.le_of_ble_eq_true rfl) ⟨(Nat.le_of_ble_eq_true rfl), (Nat.le_of_ble_eq_true rfl)⟩ ⟨(Nat.le_of_ble_eq_true rfl), (Nat.le_of_ble_eq_true rfl)⟩ dX10_pick_30 (st' := []) (σ' := q4) rfl rfl ?_
    refine g_aload_n X dX10_pick_33 rfl 0 rfl ?_
    refine g_get X fl_RX10_52 dX10_pick_34 kd_0 (v := .ref (be θ + 428)) rfl ?_
    refine g_aload_n X dX10_pick_37 rfl 0 rfl ?_
    refine g_get X fl_RX10_35 dX10_pick_38 kd_0 (v := .ref (be θ + 6)) rfl ?_
    refine g_iload_n X dX10_pick_41 rfl 1 rfl ?_
    refine g_iload_n X dX10_pick_42 rfl 2 rfl ?_
    obtain ⟨q5, hq5, h⟩ := Option.bind_eq_some_iff.mp h
    refine g_cV X (c_Trade_pickUp kd_6 hq5) lk_RX10_226 my_X9_pickUp (a := 428) (ci := 9) kd_428 (by decide) rfl (As := [.ref (be θ + 6), .int x1, .int x2]) (rest := []) rfl rfl (Nat.le_of_ble_eq_true rfl) ⟨(Nat.le_of_ble_eq_true rfl), (Nat.le_of_ble_eq_true rfl)⟩ ⟨(Nat.le_of_ble_eq_true rfl), (Nat.le_of_ble_eq_true rfl)⟩ dX10_pick_43 (st' := []) (σ' := q5) rfl rfl ?_
    refine g_aload_n X dX10_pick_46 rfl 0 rfl ?_
    refine g_get X fl_RX10_52 dX10_pick_47 kd_0 (v := .ref (be θ + 428)) rfl ?_
    refine g_aload_n X dX10_pick_50 rfl 0 rfl ?_
    refine g_get X fl_RX10_35 dX10_pick_51 kd_0 (v := .ref (be θ + 6)) rfl ?_
    refine g_iload_n X dX10_pick_54 rfl 1 rfl ?_
    refine g_iload_n X dX10_pick_55 rfl 2 rfl ?_
    obtain ⟨q6, hq6, h⟩ := Option.bind_eq_some_iff.mp h
    refine g_cV X (c_Trade_liked kd_6 hq6) lk_RX10_201 my_X9_liked (a := 428) (ci := 9) kd_428 (by decide) rfl (As := [.ref (be θ + 6), .int x1, .int x2]) (rest := []) rfl rfl (Nat.le_of_ble_eq_true rfl) ⟨(Nat.le_of_ble_eq_true rfl), (Nat.le_of_ble_eq_true rfl)⟩ ⟨(Nat.le_of_ble_eq_true rfl), (Nat.le_of_ble_eq_true rfl)⟩ dX10_pick_56 (st' := [.int q6.1]) (σ' := q6.2) rfl rfl ?_
    exact g_iret X hr hlk dX10_pick_59 (by cases h; rfl)
  · replace h := (if_neg c3).symm.trans h
    refine g_iconst X dX10_pick_20 (v := (-1 : Int32)) ic_m1 ?_
    exact g_iret X hr hlk dX10_pick_21 (by cases h; rfl)
set_option maxHeartbeats 4000000 in
set_option maxRecDepth 20000 in
theorem c_Game_pick {θ : Th} {l : Launch} {σ : Mem} {x1 : Int32} {x2 : Int32} {r : Int32 × Mem}  (h : f_Game_pick σ x1 x2 = some r) : Cn θ l yX10_pick cX10_pick 3 (some .int) 3 0 0 [.ref (be θ + 0), .int x1, .int x2] σ (some (.int r.1), r.2) :=
  Cn.of (by decide) (Nat.le_of_ble_eq_true rfl) (fun p e s m below meth c X hr hlk => g_Game_pick X hr hlk  h)
theorem dX10_putBack_0 : decode cX10_putBack 0 = .ok (.aload_n 0, 1) := by decide +kernel
theorem dX10_putBack_1 : decode cX10_putBack 1 = .ok (.aload_n 0, 1) := by decide +kernel
theorem dX10_putBack_2 : decode cX10_putBack 2 = .ok (.getfield 52, 3) := by decide +kernel
theorem dX10_putBack_5 : decode cX10_putBack 5 = .ok (.aload_n 0, 1) := by decide +kernel
theorem dX10_putBack_6 : decode cX10_putBack 6 = .ok (.getfield 35, 3) := by decide +kernel
theorem dX10_putBack_9 : decode cX10_putBack 9 = .ok (.iload_n 1, 1) := by decide +kernel
theorem dX10_putBack_10 : decode cX10_putBack 10 = .ok (.invokevirtual 230, 3) := by decide +kernel
theorem dX10_putBack_13 : decode cX10_putBack 13 = .ok (.invokevirtual 219, 3) := by decide +kernel
theorem dX10_putBack_16 : decode cX10_putBack 16 = .ok (.ifCond .eq 5, 3) := by decide +kernel
theorem dX10_putBack_19 : decode cX10_putBack 19 = .ok (.iconst (-1), 1) := by decide +kernel
theorem dX10_putBack_20 : decode cX10_putBack 20 = .ok (.ireturn, 1) := by decide +kernel
theorem dX10_putBack_21 : decode cX10_putBack 21 = .ok (.aload_n 0, 1) := by decide +kernel
theorem dX10_putBack_22 : decode cX10_putBack 22 = .ok (.getfield 45, 3) := by decide +kernel
theorem dX10_putBack_25 : decode cX10_putBack 25 = .ok (.aload_n 0, 1) := by decide +kernel
theorem dX10_putBack_26 : decode cX10_putBack 26 = .ok (.getfield 35, 3) := by decide +kernel
theorem dX10_putBack_29 : decode cX10_putBack 29 = .ok (.invokevirtual 222, 3) := by decide +kernel
theorem dX10_putBack_32 : decode cX10_putBack 32 = .ok (.aload_n 0, 1) := by decide +kernel
theorem dX10_putBack_33 : decode cX10_putBack 33 = .ok (.getfield 52, 3) := by decide +kernel
theorem dX10_putBack_36 : decode cX10_putBack 36 = .ok (.aload_n 0, 1) := by decide +kernel
theorem dX10_putBack_37 : decode cX10_putBack 37 = .ok (.getfield 35, 3) := by decide +kernel
theorem dX10_putBack_40 : decode cX10_putBack 40 = .ok (.iload_n 1, 1) := by decide +kernel
theorem dX10_putBack_41 : decode cX10_putBack 41 = .ok (.invokevirtual 234, 3) := by decide +kernel
theorem dX10_putBack_44 : decode cX10_putBack 44 = .ok (.ireturn, 1) := by decide +kernel
def f_Game_putBack (σ : Mem) (x1 : Int32) : Option (Int32 × Mem) :=
  (f_Trade_whyNotPutBack σ 6 x1).bind fun q1 =>
  (f_Game_refused σ q1).bind fun q2 =>
  if q2.1 = (0 : Int32) then
    (f_History_keep q2.2 6).bind fun q4 =>
    (f_Trade_layBack q4 6 x1).bind fun q5 =>
    some (q5.1, q5.2)
  else
    some ((-1 : Int32), q2.2)
set_option maxHeartbeats 4000000 in
set_option maxRecDepth 20000 in
theorem g_Game_putBack (X : Cx θ p s m args c cX10_putBack 2 RX10) (hr : meth.sig.returnType = some .int) (hlk : meth.locks = false)  {σ : Mem} {x1 : Int32} {r : Int32 × Mem}  (h : f_Game_putBack σ x1 = some r) : GB θ p l e 3 s m args below meth c 2 (some (.int r.1), r.2) 0 [(0, .ref (be θ + 0)), (1, .int x1)] [] σ := by
  unfold f_Game_putBack at h
  refine g_aload_n X dX10_putBack_0 rfl 0 rfl ?_
  refine g_aload_n X dX10_putBack_1 rfl 0 rfl ?_
  refine g_get X fl_RX10_52 dX10_putBack_2 kd_0 (v := .ref (be θ + 428)) rfl ?_
  refine g_aload_n X dX10_putBack_5 rfl 0 rfl ?_
  refine g_get X fl_RX10_35 dX10_putBack_6 kd_0 (v := .ref (be θ + 6)) rfl ?_
  refine g_iload_n X dX10_putBack_9 rfl 1 rfl ?_
  obtain ⟨q1, hq1, h⟩ := Option.bind_eq_some_iff.mp h
  refine g_cV X (c_Trade_whyNotPutBack kd_6 hq1) lk_RX10_230 my_X9_whyNotPutBack (a := 428) (ci := 9) kd_428 (by decide) rfl (As := [.ref (be θ + 6), .int x1]) (rest := [.ref (be θ + 0)]) rfl rfl (Nat.le_of_ble_eq_true rfl) ⟨(Nat.le_of_ble_eq_true rfl), (Nat.le_of_ble_eq_true rfl)⟩ ⟨(Nat.le_of_ble_eq_true rfl), (Nat.le_of_ble_eq_true rfl)⟩ dX10_putBack_10 (st' := [.int q1, .ref (be θ + 0)]) (σ' := σ) rfl rfl ?_
  obtain ⟨q2, hq2, h⟩ := Option.bind_eq_some_iff.mp h
  refine g_cV X (c_Game_refused  hq2) lk_RX10_219 my_X10_refused (a := 0) (ci := 10) kd_0 (by decide) rfl (As := [.int q1]) (rest := []) rfl rfl (Nat.le_of_ble_eq_true rfl) ⟨(Nat.le_of_ble_eq_true rfl), (Nat.le_of_ble_eq_true rfl)⟩ ⟨(Nat.le_of_ble_eq_true rfl), (Nat.le_of_ble_eq_true rfl)⟩ dX10_putBack_13 (st' := [.int q2.1]) (σ' := q2.2) rfl rfl ?_
  refine g_if_eq (tgt := 21) X dX10_putBack_16 (by decide) (fun c3 => ?_) (fun c3 => ?_)
  · replace h := (if_pos c3).symm.trans h
    refine g_aload_n X dX10_putBack_21 rfl 0 rfl ?_
    refine g_get X fl_RX10_45 dX10_putBack_22 kd_0 (v := .ref (be θ + 26)) rfl ?_
    refine g_aload_n X dX10_putBack_25 rfl 0 rfl ?_
    refine g_get X fl_RX10_35 dX10_putBack_26 kd_0 (v := .ref (be θ + 6)) rfl ?_
    obtain ⟨q4, hq4, h⟩ := Option.bind_eq_some_iff.mp h
    refine g_cV X (c_History_keep kd_6 hq4) lk_RX10_222 my_X4_keep (a := 26) (ci := 4) kd_26 (by decide) rfl (As := [.ref (be θ + 6)]) (rest := []) rfl rfl (Nat.le_of_ble_eq_true rfl) ⟨(Nat.le_of_ble_eq_true rfl), (Nat.le_of_ble_eq_true rfl)⟩ ⟨(Nat.le_of_ble_eq_true rfl), (Nat.le_of_ble_eq_true rfl)⟩ dX10_putBack_29 (st' := []) (σ' := q4) rfl rfl ?_
    refine g_aload_n X dX10_putBack_32 rfl 0 rfl ?_
    refine g_get X fl_RX10_52 dX10_putBack_33 kd_0 (v := .ref (be θ + 428)) rfl ?_
    refine g_aload_n X dX10_putBack_36 rfl 0 rfl ?_
    refine g_get X fl_RX10_35 dX10_putBack_37 kd_0 (v := .ref (be θ + 6)) rfl ?_
    refine g_iload_n X dX10_putBack_40 rfl 1 rfl ?_
    obtain ⟨q5, hq5, h⟩ := Option.bind_eq_some_iff.mp h
    refine g_cV X (c_Trade_layBack kd_6 hq5) lk_RX10_234 my_X9_layBack (a := 428) (ci := 9) kd_428 (by decide) rfl (As := [.ref (be θ + 6), .int x1]) (rest := []) rfl rfl (Nat.le_of_ble_eq_true rfl) ⟨(Nat.le_of_ble_eq_true rfl), (Nat.le_of_ble_eq_true rfl)⟩ ⟨(Nat.le_of_ble_eq_true rfl), (Nat.le_of_ble_eq_true rfl)⟩ dX10_putBack_41 (st' := [.int q5.1]) (σ' := q5.2) rfl rfl ?_
    exact g_iret X hr hlk dX10_putBack_44 (by cases h; rfl)
  · replace h := (if_neg c3).symm.trans h
    refine g_iconst X dX10_putBack_19 (v := (-1 : Int32)) ic_m1 ?_
    exact g_iret X hr hlk dX10_putBack_20 (by cases h; rfl)
set_option maxHeartbeats 4000000 in
set_option maxRecDepth 20000 in
theorem c_Game_putBack {θ : Th} {l : Launch} {σ : Mem} {x1 : Int32} {r : Int32 × Mem}  (h : f_Game_putBack σ x1 = some r) : Cn θ l yX10_putBack cX10_putBack 2 (some .int) 3 0 0 [.ref (be θ + 0), .int x1] σ (some (.int r.1), r.2) :=
  Cn.of (by decide) (Nat.le_of_ble_eq_true rfl) (fun p e s m below meth c X hr hlk => g_Game_putBack X hr hlk  h)
theorem dX10_hand_0 : decode cX10_hand 0 = .ok (.aload_n 0, 1) := by decide +kernel
theorem dX10_hand_1 : decode cX10_hand 1 = .ok (.aload_n 0, 1) := by decide +kernel
theorem dX10_hand_2 : decode cX10_hand 2 = .ok (.getfield 52, 3) := by decide +kernel
theorem dX10_hand_5 : decode cX10_hand 5 = .ok (.aload_n 0, 1) := by decide +kernel
theorem dX10_hand_6 : decode cX10_hand 6 = .ok (.getfield 35, 3) := by decide +kernel
theorem dX10_hand_9 : decode cX10_hand 9 = .ok (.iload_n 1, 1) := by decide +kernel
theorem dX10_hand_10 : decode cX10_hand 10 = .ok (.iload_n 2, 1) := by decide +kernel
theorem dX10_hand_11 : decode cX10_hand 11 = .ok (.invokevirtual 237, 3) := by decide +kernel
theorem dX10_hand_14 : decode cX10_hand 14 = .ok (.invokevirtual 219, 3) := by decide +kernel
theorem dX10_hand_17 : decode cX10_hand 17 = .ok (.ifCond .eq 5, 3) := by decide +kernel
theorem dX10_hand_20 : decode cX10_hand 20 = .ok (.iconst (-1), 1) := by decide +kernel
theorem dX10_hand_21 : decode cX10_hand 21 = .ok (.ireturn, 1) := by decide +kernel
theorem dX10_hand_22 : decode cX10_hand 22 = .ok (.aload_n 0, 1) := by decide +kernel
theorem dX10_hand_23 : decode cX10_hand 23 = .ok (.getfield 45, 3) := by decide +kernel
theorem dX10_hand_26 : decode cX10_hand 26 = .ok (.aload_n 0, 1) := by decide +kernel
theorem dX10_hand_27 : decode cX10_hand 27 = .ok (.getfield 35, 3) := by decide +kernel
theorem dX10_hand_30 : decode cX10_hand 30 = .ok (.invokevirtual 222, 3) := by decide +kernel
theorem dX10_hand_33 : decode cX10_hand 33 = .ok (.aload_n 0, 1) := by decide +kernel
theorem dX10_hand_34 : decode cX10_hand 34 = .ok (.getfield 52, 3) := by decide +kernel
theorem dX10_hand_37 : decode cX10_hand 37 = .ok (.aload_n 0, 1) := by decide +kernel
theorem dX10_hand_38 : decode cX10_hand 38 = .ok (.getfield 35, 3) := by decide +kernel
theorem dX10_hand_41 : decode cX10_hand 41 = .ok (.iload_n 1, 1) := by decide +kernel
theorem dX10_hand_42 : decode cX10_hand 42 = .ok (.iload_n 2, 1) := by decide +kernel
theorem dX10_hand_43 : decode cX10_hand 43 = .ok (.invokevirtual 240, 3) := by decide +kernel
theorem dX10_hand_46 : decode cX10_hand 46 = .ok (.ireturn, 1) := by decide +kernel
def f_Game_hand (σ : Mem) (x1 : Int32) (x2 : Int32) : Option (Int32 × Mem) :=
  (f_Trade_whyNotHand σ 6 x1 x2).bind fun q1 =>
  (f_Game_refused σ q1).bind fun q2 =>
  if q2.1 = (0 : Int32) then
    (f_History_keep q2.2 6).bind fun q4 =>
    (f_Trade_passOn q4 6 x1 x2).bind fun q5 =>
    some (q5.1, q5.2)
  else
    some ((-1 : Int32), q2.2)
set_option maxHeartbeats 4000000 in
set_option maxRecDepth 20000 in
theorem g_Game_hand (X : Cx θ p s m args c cX10_hand 3 RX10) (hr : meth.sig.returnType = some .int) (hlk : meth.locks = false)  {σ : Mem} {x1 : Int32} {x2 : Int32} {r : Int32 × Mem}  (h : f_Game_hand σ x1 x2 = some r) : GB θ p l e 3 s m args below meth c 3 (some (.int r.1), r.2) 0 [(0, .ref (be θ + 0)), (1, .int x1), (2, .int x2)] [] σ := by
  unfold f_Game_hand at h
  refine g_aload_n X dX10_hand_0 rfl 0 rfl ?_
  refine g_aload_n X dX10_hand_1 rfl 0 rfl ?_
  refine g_get X fl_RX10_52 dX10_hand_2 kd_0 (v := .ref (be θ + 428)) rfl ?_
  refine g_aload_n X dX10_hand_5 rfl 0 rfl ?_
  refine g_get X fl_RX10_35 dX10_hand_6 kd_0 (v := .ref (be θ + 6)) rfl ?_
  refine g_iload_n X dX10_hand_9 rfl 1 rfl ?_
  refine g_iload_n X dX10_hand_10 rfl 2 rfl ?_
  obtain ⟨q1, hq1, h⟩ := Option.bind_eq_some_iff.mp h
  refine g_cV X (c_Trade_whyNotHand kd_6 hq1) lk_RX10_237 my_X9_whyNotHand (a := 428) (ci := 9) kd_428 (by decide) rfl (As := [.ref (be θ + 6), .int x1, .int x2]) (rest := [.ref (be θ + 0)]) rfl rfl (Nat.le_of_ble_eq_true rfl) ⟨(Nat.le_of_ble_eq_true rfl), (Nat.le_of_ble_eq_true rfl)⟩ ⟨(Nat.le_of_ble_eq_true rfl), (Nat.le_of_ble_eq_true rfl)⟩ dX10_hand_11 (st' := [.int q1, .ref (be θ + 0)]) (σ' := σ) rfl rfl ?_
  obtain ⟨q2, hq2, h⟩ := Option.bind_eq_some_iff.mp h
  refine g_cV X (c_Game_refused  hq2) lk_RX10_219 my_X10_refused (a := 0) (ci := 10) kd_0 (by decide) rfl (As := [.int q1]) (rest := []) rfl rfl (Nat.le_of_ble_eq_true rfl) ⟨(Nat.le_of_ble_eq_true rfl), (Nat.le_of_ble_eq_true rfl)⟩ ⟨(Nat.le_of_ble_eq_true rfl), (Nat.le_of_ble_eq_true rfl)⟩ dX10_hand_14 (st' := [.int q2.1]) (σ' := q2.2) rfl rfl ?_
  refine g_if_eq (tgt := 22) X dX10_hand_17 (by decide) (fun c3 => ?_) (fun c3 => ?_)
  · replace h := (if_pos c3).symm.trans h
    refine g_aload_n X dX10_hand_22 rfl 0 rfl ?_
    refine g_get X fl_RX10_45 dX10_hand_23 kd_0 (v := .ref (be θ + 26)) rfl ?_
    refine g_aload_n X dX10_hand_26 rfl 0 rfl ?_
    refine g_get X fl_RX10_35 dX10_hand_27 kd_0 (v := .ref (be θ + 6)) rfl ?_
    obtain ⟨q4, hq4, h⟩ := Option.bind_eq_some_iff.mp h
    refine g_cV X (c_History_keep kd_6 hq4) lk_RX10_222 my_X4_keep (a := 26) (ci := 4) kd_26 (by decide) rfl (As := [.ref (be θ + 6)]) (rest := []) rfl rfl (Nat.le_of_ble_eq_true rfl) ⟨(Nat.le_of_ble_eq_true rfl), (Nat.le_of_ble_eq_true rfl)⟩ ⟨(Nat.le_of_ble_eq_true rfl), (Nat.le_of_ble_eq_true rfl)⟩ dX10_hand_30 (st' := []) (σ' := q4) rfl rfl ?_
    refine g_aload_n X dX10_hand_33 rfl 0 rfl ?_
    refine g_get X fl_RX10_52 dX10_hand_34 kd_0 (v := .ref (be θ + 428)) rfl ?_
    refine g_aload_n X dX10_hand_37 rfl 0 rfl ?_
    refine g_get X fl_RX10_35 dX10_hand_38 kd_0 (v := .ref (be θ + 6)) rfl ?_
    refine g_iload_n X dX10_hand_41 rfl 1 rfl ?_
    refine g_iload_n X dX10_hand_42 rfl 2 rfl ?_
    obtain ⟨q5, hq5, h⟩ := Option.bind_eq_some_iff.mp h
    refine g_cV X (c_Trade_passOn kd_6 hq5) lk_RX10_240 my_X9_passOn (a := 428) (ci := 9) kd_428 (by decide) rfl (As := [.ref (be θ + 6), .int x1, .int x2]) (rest := []) rfl rfl (Nat.le_of_ble_eq_true rfl) ⟨(Nat.le_of_ble_eq_true rfl), (Nat.le_of_ble_eq_true rfl)⟩ ⟨(Nat.le_of_ble_eq_true rfl), (Nat.le_of_ble_eq_true rfl)⟩ dX10_hand_43 (st' := [.int q5.1]) (σ' := q5.2) rfl rfl ?_
    exact g_iret X hr hlk dX10_hand_46 (by cases h; rfl)
  · replace h := (if_neg c3).symm.trans h
    refine g_iconst X dX10_hand_20 (v := (-1 : Int32)) ic_m1 ?_
    exact g_iret X hr hlk dX10_hand_21 (by cases h; rfl)
set_option maxHeartbeats 4000000 in
set_option maxRecDepth 20000 in
theorem c_Game_hand {θ : Th} {l : Launch} {σ : Mem} {x1 : Int32} {x2 : Int32} {r : Int32 × Mem}  (h : f_Game_hand σ x1 x2 = some r) : Cn θ l yX10_hand cX10_hand 3 (some .int) 3 0 0 [.ref (be θ + 0), .int x1, .int x2] σ (some (.int r.1), r.2) :=
  Cn.of (by decide) (Nat.le_of_ble_eq_true rfl) (fun p e s m below meth c X hr hlk => g_Game_hand X hr hlk  h)
theorem dX10_buy_0 : decode cX10_buy 0 = .ok (.aload_n 0, 1) := by decide +kernel
theorem dX10_buy_1 : decode cX10_buy 1 = .ok (.aload_n 0, 1) := by decide +kernel
theorem dX10_buy_2 : decode cX10_buy 2 = .ok (.getfield 52, 3) := by decide +kernel
theorem dX10_buy_5 : decode cX10_buy 5 = .ok (.aload_n 0, 1) := by decide +kernel
theorem dX10_buy_6 : decode cX10_buy 6 = .ok (.getfield 35, 3) := by decide +kernel
theorem dX10_buy_9 : decode cX10_buy 9 = .ok (.iload_n 1, 1) := by decide +kernel
theorem dX10_buy_10 : decode cX10_buy 10 = .ok (.invokevirtual 243, 3) := by decide +kernel
theorem dX10_buy_13 : decode cX10_buy 13 = .ok (.invokevirtual 219, 3) := by decide +kernel
theorem dX10_buy_16 : decode cX10_buy 16 = .ok (.ifCond .eq 5, 3) := by decide +kernel
theorem dX10_buy_19 : decode cX10_buy 19 = .ok (.iconst (-1), 1) := by decide +kernel
theorem dX10_buy_20 : decode cX10_buy 20 = .ok (.ireturn, 1) := by decide +kernel
theorem dX10_buy_21 : decode cX10_buy 21 = .ok (.aload_n 0, 1) := by decide +kernel
theorem dX10_buy_22 : decode cX10_buy 22 = .ok (.getfield 45, 3) := by decide +kernel
theorem dX10_buy_25 : decode cX10_buy 25 = .ok (.aload_n 0, 1) := by decide +kernel
theorem dX10_buy_26 : decode cX10_buy 26 = .ok (.getfield 35, 3) := by decide +kernel
theorem dX10_buy_29 : decode cX10_buy 29 = .ok (.invokevirtual 222, 3) := by decide +kernel
theorem dX10_buy_32 : decode cX10_buy 32 = .ok (.aload_n 0, 1) := by decide +kernel
theorem dX10_buy_33 : decode cX10_buy 33 = .ok (.getfield 52, 3) := by decide +kernel
theorem dX10_buy_36 : decode cX10_buy 36 = .ok (.aload_n 0, 1) := by decide +kernel
theorem dX10_buy_37 : decode cX10_buy 37 = .ok (.getfield 35, 3) := by decide +kernel
theorem dX10_buy_40 : decode cX10_buy 40 = .ok (.iload_n 1, 1) := by decide +kernel
theorem dX10_buy_41 : decode cX10_buy 41 = .ok (.invokevirtual 246, 3) := by decide +kernel
theorem dX10_buy_44 : decode cX10_buy 44 = .ok (.ireturn, 1) := by decide +kernel
def f_Game_buy (σ : Mem) (x1 : Int32) : Option (Int32 × Mem) :=
  (f_Trade_whyNotBuy σ 6 x1).bind fun q1 =>
  (f_Game_refused σ q1).bind fun q2 =>
  if q2.1 = (0 : Int32) then
    (f_History_keep q2.2 6).bind fun q4 =>
    (f_Trade_purchase q4 6 x1).bind fun q5 =>
    some (q5.1, q5.2)
  else
    some ((-1 : Int32), q2.2)
set_option maxHeartbeats 4000000 in
set_option maxRecDepth 20000 in
theorem g_Game_buy (X : Cx θ p s m args c cX10_buy 2 RX10) (hr : meth.sig.returnType = some .int) (hlk : meth.locks = false)  {σ : Mem} {x1 : Int32} {r : Int32 × Mem}  (h : f_Game_buy σ x1 = some r) : GB θ p l e 3 s m args below meth c 2 (some (.int r.1), r.2) 0 [(0, .ref (be θ + 0)), (1, .int x1)] [] σ := by
  unfold f_Game_buy at h
  refine g_aload_n X dX10_buy_0 rfl 0 rfl ?_
  refine g_aload_n X dX10_buy_1 rfl 0 rfl ?_
  refine g_get X fl_RX10_52 dX10_buy_2 kd_0 (v := .ref (be θ + 428)) rfl ?_
  refine g_aload_n X dX10_buy_5 rfl 0 rfl ?_
  refine g_get X fl_RX10_35 dX10_buy_6 kd_0 (v := .ref (be θ + 6)) rfl ?_
  refine g_iload_n X dX10_buy_9 rfl 1 rfl ?_
  obtain ⟨q1, hq1, h⟩ := Option.bind_eq_some_iff.mp h
  refine g_cV X (c_Trade_whyNotBuy kd_6 hq1) lk_RX10_243 my_X9_whyNotBuy (a := 428) (ci := 9) kd_428 (by decide) rfl (As := [.ref (be θ + 6), .int x1]) (rest := [.ref (be θ + 0)]) rfl rfl (Nat.le_of_ble_eq_true rfl) ⟨(Nat.le_of_ble_eq_true rfl), (Nat.le_of_ble_eq_true rfl)⟩ ⟨(Nat.le_of_ble_eq_true rfl), (Nat.le_of_ble_eq_true rfl)⟩ dX10_buy_10 (st' := [.int q1, .ref (be θ + 0)]) (σ' := σ) rfl rfl ?_
  obtain ⟨q2, hq2, h⟩ := Option.bind_eq_some_iff.mp h
  refine g_cV X (c_Game_refused  hq2) lk_RX10_219 my_X10_refused (a := 0) (ci := 10) kd_0 (by decide) rfl (As := [.int q1]) (rest := []) rfl rfl (Nat.le_of_ble_eq_true rfl) ⟨(Nat.le_of_ble_eq_true rfl), (Nat.le_of_ble_eq_true rfl)⟩ ⟨(Nat.le_of_ble_eq_true rfl), (Nat.le_of_ble_eq_true rfl)⟩ dX10_buy_13 (st' := [.int q2.1]) (σ' := q2.2) rfl rfl ?_
  refine g_if_eq (tgt := 21) X dX10_buy_16 (by decide) (fun c3 => ?_) (fun c3 => ?_)
  · replace h := (if_pos c3).symm.trans h
    refine g_aload_n X dX10_buy_21 rfl 0 rfl ?_
    refine g_get X fl_RX10_45 dX10_buy_22 kd_0 (v := .ref (be θ + 26)) rfl ?_
    refine g_aload_n X dX10_buy_25 rfl 0 rfl ?_
    refine g_get X fl_RX10_35 dX10_buy_26 kd_0 (v := .ref (be θ + 6)) rfl ?_
    obtain ⟨q4, hq4, h⟩ := Option.bind_eq_some_iff.mp h
    refine g_cV X (c_History_keep kd_6 hq4) lk_RX10_222 my_X4_keep (a := 26) (ci := 4) kd_26 (by decide) rfl (As := [.ref (be θ + 6)]) (rest := []) rfl rfl (Nat.le_of_ble_eq_true rfl) ⟨(Nat.le_of_ble_eq_true rfl), (Nat.le_of_ble_eq_true rfl)⟩ ⟨(Nat.le_of_ble_eq_true rfl), (Nat.le_of_ble_eq_true rfl)⟩ dX10_buy_29 (st' := []) (σ' := q4) rfl rfl ?_
    refine g_aload_n X dX10_buy_32 rfl 0 rfl ?_
    refine g_get X fl_RX10_52 dX10_buy_33 kd_0 (v := .ref (be θ + 428)) rfl ?_
    refine g_aload_n X dX10_buy_36 rfl 0 rfl ?_
    refine g_get X fl_RX10_35 dX10_buy_37 kd_0 (v := .ref (be θ + 6)) rfl ?_
    refine g_iload_n X dX10_buy_40 rfl 1 rfl ?_
    obtain ⟨q5, hq5, h⟩ := Option.bind_eq_some_iff.mp h
    refine g_cV X (c_Trade_purchase kd_6 hq5) lk_RX10_246 my_X9_purchase (a := 428) (ci := 9) kd_428 (by decide) rfl (As := [.ref (be θ + 6), .int x1]) (rest := []) rfl rfl (Nat.le_of_ble_eq_true rfl) ⟨(Nat.le_of_ble_eq_true rfl), (Nat.le_of_ble_eq_true rfl)⟩ ⟨(Nat.le_of_ble_eq_true rfl), (Nat.le_of_ble_eq_true rfl)⟩ dX10_buy_41 (st' := [.int q5.1]) (σ' := q5.2) rfl rfl ?_
    exact g_iret X hr hlk dX10_buy_44 (by cases h; rfl)
  · replace h := (if_neg c3).symm.trans h
    refine g_iconst X dX10_buy_19 (v := (-1 : Int32)) ic_m1 ?_
    exact g_iret X hr hlk dX10_buy_20 (by cases h; rfl)
set_option maxHeartbeats 4000000 in
set_option maxRecDepth 20000 in
theorem c_Game_buy {θ : Th} {l : Launch} {σ : Mem} {x1 : Int32} {r : Int32 × Mem}  (h : f_Game_buy σ x1 = some r) : Cn θ l yX10_buy cX10_buy 2 (some .int) 3 0 0 [.ref (be θ + 0), .int x1] σ (some (.int r.1), r.2) :=
  Cn.of (by decide) (Nat.le_of_ble_eq_true rfl) (fun p e s m below meth c X hr hlk => g_Game_buy X hr hlk  h)
theorem dX10_hour_0 : decode cX10_hour 0 = .ok (.aload_n 0, 1) := by decide +kernel
theorem dX10_hour_1 : decode cX10_hour 1 = .ok (.aload_n 0, 1) := by decide +kernel
theorem dX10_hour_2 : decode cX10_hour 2 = .ok (.getfield 52, 3) := by decide +kernel
theorem dX10_hour_5 : decode cX10_hour 5 = .ok (.aload_n 0, 1) := by decide +kernel
theorem dX10_hour_6 : decode cX10_hour 6 = .ok (.getfield 35, 3) := by decide +kernel
theorem dX10_hour_9 : decode cX10_hour 9 = .ok (.invokevirtual 249, 3) := by decide +kernel
theorem dX10_hour_12 : decode cX10_hour 12 = .ok (.invokevirtual 219, 3) := by decide +kernel
theorem dX10_hour_15 : decode cX10_hour 15 = .ok (.ifCond .eq 5, 3) := by decide +kernel
theorem dX10_hour_18 : decode cX10_hour 18 = .ok (.iconst (-1), 1) := by decide +kernel
theorem dX10_hour_19 : decode cX10_hour 19 = .ok (.ireturn, 1) := by decide +kernel
theorem dX10_hour_20 : decode cX10_hour 20 = .ok (.aload_n 0, 1) := by decide +kernel
theorem dX10_hour_21 : decode cX10_hour 21 = .ok (.getfield 45, 3) := by decide +kernel
theorem dX10_hour_24 : decode cX10_hour 24 = .ok (.aload_n 0, 1) := by decide +kernel
theorem dX10_hour_25 : decode cX10_hour 25 = .ok (.getfield 35, 3) := by decide +kernel
theorem dX10_hour_28 : decode cX10_hour 28 = .ok (.invokevirtual 222, 3) := by decide +kernel
theorem dX10_hour_31 : decode cX10_hour 31 = .ok (.aload_n 0, 1) := by decide +kernel
theorem dX10_hour_32 : decode cX10_hour 32 = .ok (.getfield 52, 3) := by decide +kernel
theorem dX10_hour_35 : decode cX10_hour 35 = .ok (.aload_n 0, 1) := by decide +kernel
theorem dX10_hour_36 : decode cX10_hour 36 = .ok (.getfield 35, 3) := by decide +kernel
theorem dX10_hour_39 : decode cX10_hour 39 = .ok (.invokevirtual 253, 3) := by decide +kernel
theorem dX10_hour_42 : decode cX10_hour 42 = .ok (.aload_n 0, 1) := by decide +kernel
theorem dX10_hour_43 : decode cX10_hour 43 = .ok (.getfield 35, 3) := by decide +kernel
theorem dX10_hour_46 : decode cX10_hour 46 = .ok (.invokevirtual 256, 3) := by decide +kernel
theorem dX10_hour_49 : decode cX10_hour 49 = .ok (.ireturn, 1) := by decide +kernel
def f_Game_hour (σ : Mem)  : Option (Int32 × Mem) :=
  (f_Trade_whyNotHour σ 6).bind fun q1 =>
  (f_Game_refused σ q1).bind fun q2 =>
  if q2.1 = (0 : Int32) then
    (f_History_keep q2.2 6).bind fun q4 =>
    (f_Trade_passHour q4 6).bind fun q5 =>
    (f_State_holders q5 6).bind fun q6 =>
    some (q6, q5)
  else
    some ((-1 : Int32), q2.2)
set_option maxHeartbeats 4000000 in
set_option maxRecDepth 20000 in
theorem g_Game_hour (X : Cx θ p s m args c cX10_hour 1 RX10) (hr : meth.sig.returnType = some .int) (hlk : meth.locks = false)  {σ : Mem}  {r : Int32 × Mem}  (h : f_Game_hour σ  = some r) : GB θ p l e 5 s m args below meth c 1 (some (.int r.1), r.2) 0 [(0, .ref (be θ + 0))] [] σ := by
  unfold f_Game_hour at h
  refine g_aload_n X dX10_hour_0 rfl 0 rfl ?_
  refine g_aload_n X dX10_hour_1 rfl 0 rfl ?_
  refine g_get X fl_RX10_52 dX10_hour_2 kd_0 (v := .ref (be θ + 428)) rfl ?_
  refine g_aload_n X dX10_hour_5 rfl 0 rfl ?_
  refine g_get X fl_RX10_35 dX10_hour_6 kd_0 (v := .ref (be θ + 6)) rfl ?_
  obtain ⟨q1, hq1, h⟩ := Option.bind_eq_some_iff.mp h
  refine g_cV X (c_Trade_whyNotHour kd_6 hq1) lk_RX10_249 my_X9_whyNotHour (a := 428) (ci := 9) kd_428 (by decide) rfl (As := [.ref (be θ + 6)]) (rest := [.ref (be θ + 0)]) rfl rfl (Nat.le_of_ble_eq_true rfl) ⟨(Nat.le_of_ble_eq_true rfl), (Nat.le_of_ble_eq_true rfl)⟩ ⟨(Nat.le_of_ble_eq_true rfl), (Nat.le_of_ble_eq_true rfl)⟩ dX10_hour_9 (st' := [.int q1, .ref (be θ + 0)]) (σ' := σ) rfl rfl ?_
  obtain ⟨q2, hq2, h⟩ := Option.bind_eq_some_iff.mp h
  refine g_cV X (c_Game_refused  hq2) lk_RX10_219 my_X10_refused (a := 0) (ci := 10) kd_0 (by decide) rfl (As := [.int q1]) (rest := []) rfl rfl (Nat.le_of_ble_eq_true rfl) ⟨(Nat.le_of_ble_eq_true rfl), (Nat.le_of_ble_eq_true rfl)⟩ ⟨(Nat.le_of_ble_eq_true rfl), (Nat.le_of_ble_eq_true rfl)⟩ dX10_hour_12 (st' := [.int q2.1]) (σ' := q2.2) rfl rfl ?_
  refine g_if_eq (tgt := 20) X dX10_hour_15 (by decide) (fun c3 => ?_) (fun c3 => ?_)
  · replace h := (if_pos c3).symm.trans h
    refine g_aload_n X dX10_hour_20 rfl 0 rfl ?_
    refine g_get X fl_RX10_45 dX10_hour_21 kd_0 (v := .ref (be θ + 26)) rfl ?_
    refine g_aload_n X dX10_hour_24 rfl 0 rfl ?_
    refine g_get X fl_RX10_35 dX10_hour_25 kd_0 (v := .ref (be θ + 6)) rfl ?_
    obtain ⟨q4, hq4, h⟩ := Option.bind_eq_some_iff.mp h
    refine g_cV X (c_History_keep kd_6 hq4) lk_RX10_222 my_X4_keep (a := 26) (ci := 4) kd_26 (by decide) rfl (As := [.ref (be θ + 6)]) (rest := []) rfl rfl (Nat.le_of_ble_eq_true rfl) ⟨(Nat.le_of_ble_eq_true rfl), (Nat.le_of_ble_eq_true rfl)⟩ ⟨(Nat.le_of_ble_eq_true rfl), (Nat.le_of_ble_eq_true rfl)⟩ dX10_hour_28 (st' := []) (σ' := q4) rfl rfl ?_
    refine g_aload_n X dX10_hour_31 rfl 0 rfl ?_
    refine g_get X fl_RX10_52 dX10_hour_32 kd_0 (v := .ref (be θ + 428)) rfl ?_
    refine g_aload_n X dX10_hour_35 rfl 0 rfl ?_
    refine g_get X fl_RX10_35 dX10_hour_36 kd_0 (v := .ref (be θ + 6)) rfl ?_
    obtain ⟨q5, hq5, h⟩ := Option.bind_eq_some_iff.mp h
    refine g_cV X (c_Trade_passHour kd_6 hq5) lk_RX10_253 my_X9_passHour (a := 428) (ci := 9) kd_428 (by decide) rfl (As := [.ref (be θ + 6)]) (rest := []) rfl rfl (Nat.le_of_ble_eq_true rfl) ⟨(Nat.le_of_ble_eq_true rfl), (Nat.le_of_ble_eq_true rfl)⟩ ⟨(Nat.le_of_ble_eq_true rfl), (Nat.le_of_ble_eq_true rfl)⟩ dX10_hour_39 (st' := []) (σ' := q5) rfl rfl ?_
    refine g_aload_n X dX10_hour_42 rfl 0 rfl ?_
    refine g_get X fl_RX10_35 dX10_hour_43 kd_0 (v := .ref (be θ + 6)) rfl ?_
    obtain ⟨q6, hq6, h⟩ := Option.bind_eq_some_iff.mp h
    refine g_cV X (c_State_holders kd_6 hq6) lk_RX10_256 my_X7_holders (a := 6) (ci := 7) kd_6 (by decide) rfl (As := []) (rest := []) rfl rfl (Nat.le_of_ble_eq_true rfl) ⟨(Nat.le_of_ble_eq_true rfl), (Nat.le_of_ble_eq_true rfl)⟩ ⟨(Nat.le_of_ble_eq_true rfl), (Nat.le_of_ble_eq_true rfl)⟩ dX10_hour_46 (st' := [.int q6]) (σ' := q5) rfl rfl ?_
    exact g_iret X hr hlk dX10_hour_49 (by cases h; rfl)
  · replace h := (if_neg c3).symm.trans h
    refine g_iconst X dX10_hour_18 (v := (-1 : Int32)) ic_m1 ?_
    exact g_iret X hr hlk dX10_hour_19 (by cases h; rfl)
set_option maxHeartbeats 4000000 in
set_option maxRecDepth 20000 in
theorem c_Game_hour {θ : Th} {l : Launch} {σ : Mem}  {r : Int32 × Mem}  (h : f_Game_hour σ  = some r) : Cn θ l yX10_hour cX10_hour 1 (some .int) 5 0 0 [.ref (be θ + 0)] σ (some (.int r.1), r.2) :=
  Cn.of (by decide) (Nat.le_of_ble_eq_true rfl) (fun p e s m below meth c X hr hlk => g_Game_hour X hr hlk  h)
theorem dX10_whyNotClerk_0 : decode cX10_whyNotClerk 0 = .ok (.aload_n 0, 1) := by decide +kernel
theorem dX10_whyNotClerk_1 : decode cX10_whyNotClerk 1 = .ok (.getfield 52, 3) := by decide +kernel
theorem dX10_whyNotClerk_4 : decode cX10_whyNotClerk 4 = .ok (.invokevirtual 265, 3) := by decide +kernel
theorem dX10_whyNotClerk_7 : decode cX10_whyNotClerk 7 = .ok (.ifCond .ne 5, 3) := by decide +kernel
theorem dX10_whyNotClerk_10 : decode cX10_whyNotClerk 10 = .ok (.iconst 0, 1) := by decide +kernel
theorem dX10_whyNotClerk_11 : decode cX10_whyNotClerk 11 = .ok (.ireturn, 1) := by decide +kernel
theorem dX10_whyNotClerk_12 : decode cX10_whyNotClerk 12 = .ok (.iload_n 1, 1) := by decide +kernel
theorem dX10_whyNotClerk_13 : decode cX10_whyNotClerk 13 = .ok (.ifCond .lt 8, 3) := by decide +kernel
theorem dX10_whyNotClerk_16 : decode cX10_whyNotClerk 16 = .ok (.iload_n 1, 1) := by decide +kernel
theorem dX10_whyNotClerk_17 : decode cX10_whyNotClerk 17 = .ok (.iconst 4, 1) := by decide +kernel
theorem dX10_whyNotClerk_18 : decode cX10_whyNotClerk 18 = .ok (.if_icmp .lt 7, 3) := by decide +kernel
theorem dX10_whyNotClerk_21 : decode cX10_whyNotClerk 21 = .ok (.iconst 1, 1) := by decide +kernel
theorem dX10_whyNotClerk_22 : decode cX10_whyNotClerk 22 = .ok (.goto 4, 3) := by decide +kernel
theorem dX10_whyNotClerk_25 : decode cX10_whyNotClerk 25 = .ok (.iconst (-1), 1) := by decide +kernel
theorem dX10_whyNotClerk_26 : decode cX10_whyNotClerk 26 = .ok (.ireturn, 1) := by decide +kernel
def f_Game_whyNotClerk (σ : Mem) (x1 : Int32) : Option (Int32) :=
  (f_Trade_hasCity σ).bind fun q1 =>
  if q1 = (0 : Int32) then
    some (0 : Int32)
  else
    if x1 < (0 : Int32) then
      some (1 : Int32)
    else
      if x1 < (4 : Int32) then
        some (-1 : Int32)
      else
        some (1 : Int32)
set_option maxHeartbeats 4000000 in
set_option maxRecDepth 20000 in
theorem g_Game_whyNotClerk (X : Cx θ p s m args c cX10_whyNotClerk 2 RX10) (hr : meth.sig.returnType = some .int) (hlk : meth.locks = false)  {σ : Mem} {x1 : Int32} {r : Int32}  (h : f_Game_whyNotClerk σ x1 = some r) : GB θ p l e 1 s m args below meth c 2 (some (.int r), σ) 0 [(0, .ref (be θ + 0)), (1, .int x1)] [] σ := by
  unfold f_Game_whyNotClerk at h
  refine g_aload_n X dX10_whyNotClerk_0 rfl 0 rfl ?_
  refine g_get X fl_RX10_52 dX10_whyNotClerk_1 kd_0 (v := .ref (be θ + 428)) rfl ?_
  obtain ⟨q1, hq1, h⟩ := Option.bind_eq_some_iff.mp h
  refine g_cV X (c_Trade_hasCity  hq1) lk_RX10_265 my_X9_hasCity (a := 428) (ci := 9) kd_428 (by decide) rfl (As := []) (rest := []) rfl rfl (Nat.le_of_ble_eq_true rfl) ⟨(Nat.le_of_ble_eq_true rfl), (Nat.le_of_ble_eq_true rfl)⟩ ⟨(Nat.le_of_ble_eq_true rfl), (Nat.le_of_ble_eq_true rfl)⟩ dX10_whyNotClerk_4 (st' := [.int q1]) (σ' := σ) rfl rfl ?_
  refine g_if_ne (tgt := 12) X dX10_whyNotClerk_7 (by decide) (fun c2 => ?_) (fun c2 => ?_)
  · replace h := (if_neg c2).symm.trans h
    refine g_iload_n X dX10_whyNotClerk_12 rfl 1 rfl ?_
    refine g_if_lt (tgt := 21) X dX10_whyNotClerk_13 (by decide) (fun c3 => ?_) (fun c3 => ?_)
    · replace h := (if_pos c3).symm.trans h
      refine g_iconst X dX10_whyNotClerk_21 (v := (1 : Int32)) ic_1 ?_
      refine g_goto (tgt := 26) X dX10_whyNotClerk_22 (by decide) ?_
      exact g_iret X hr hlk dX10_whyNotClerk_26 (by cases h; rfl)
    · replace h := (if_neg c3).symm.trans h
      refine g_iload_n X dX10_whyNotClerk_16 rfl 1 rfl ?_
      refine g_iconst X dX10_whyNotClerk_17 (v := (4 : Int32)) ic_4 ?_
      refine g_icmp_lt (tgt := 25) X dX10_whyNotClerk_18 (by decide) (fun c4 => ?_) (fun c4 => ?_)
      · replace h := (if_pos c4).symm.trans h
        refine g_iconst X dX10_whyNotClerk_25 (v := (-1 : Int32)) ic_m1 ?_
        exact g_iret X hr hlk dX10_whyNotClerk_26 (by cases h; rfl)
      · replace h := (if_neg c4).symm.trans h
        refine g_iconst X dX10_whyNotClerk_21 (v := (1 : Int32)) ic_1 ?_
        refine g_goto (tgt := 26) X dX10_whyNotClerk_22 (by decide) ?_
        exact g_iret X hr hlk dX10_whyNotClerk_26 (by cases h; rfl)
  · replace h := (if_pos c2).symm.trans h
    refine g_iconst X dX10_whyNotClerk_10 (v := (0 : Int32)) ic_0 ?_
    exact g_iret X hr hlk dX10_whyNotClerk_11 (by cases h; rfl)
set_option maxHeartbeats 4000000 in
set_option maxRecDepth 20000 in
theorem c_Game_whyNotClerk {θ : Th} {l : Launch} {σ : Mem} {x1 : Int32} {r : Int32}  (h : f_Game_whyNotClerk σ x1 = some r) : Cn θ l yX10_whyNotClerk cX10_whyNotClerk 2 (some .int) 1 0 0 [.ref (be θ + 0), .int x1] σ (some (.int r), σ) :=
  Cn.of (by decide) (Nat.le_of_ble_eq_true rfl) (fun p e s m below meth c X hr hlk => g_Game_whyNotClerk X hr hlk  h)
theorem dX10_clerk_0 : decode cX10_clerk 0 = .ok (.aload_n 0, 1) := by decide +kernel
theorem dX10_clerk_1 : decode cX10_clerk 1 = .ok (.aload_n 0, 1) := by decide +kernel
theorem dX10_clerk_2 : decode cX10_clerk 2 = .ok (.iload_n 1, 1) := by decide +kernel
theorem dX10_clerk_3 : decode cX10_clerk 3 = .ok (.invokevirtual 259, 3) := by decide +kernel
theorem dX10_clerk_6 : decode cX10_clerk 6 = .ok (.invokevirtual 219, 3) := by decide +kernel
theorem dX10_clerk_9 : decode cX10_clerk 9 = .ok (.ifCond .eq 5, 3) := by decide +kernel
theorem dX10_clerk_12 : decode cX10_clerk 12 = .ok (.iconst (-1), 1) := by decide +kernel
theorem dX10_clerk_13 : decode cX10_clerk 13 = .ok (.ireturn, 1) := by decide +kernel
theorem dX10_clerk_14 : decode cX10_clerk 14 = .ok (.aload_n 0, 1) := by decide +kernel
theorem dX10_clerk_15 : decode cX10_clerk 15 = .ok (.getfield 45, 3) := by decide +kernel
theorem dX10_clerk_18 : decode cX10_clerk 18 = .ok (.aload_n 0, 1) := by decide +kernel
theorem dX10_clerk_19 : decode cX10_clerk 19 = .ok (.getfield 35, 3) := by decide +kernel
theorem dX10_clerk_22 : decode cX10_clerk 22 = .ok (.invokevirtual 222, 3) := by decide +kernel
theorem dX10_clerk_25 : decode cX10_clerk 25 = .ok (.aload_n 0, 1) := by decide +kernel
theorem dX10_clerk_26 : decode cX10_clerk 26 = .ok (.getfield 35, 3) := by decide +kernel
theorem dX10_clerk_29 : decode cX10_clerk 29 = .ok (.dup, 1) := by decide +kernel
theorem dX10_clerk_30 : decode cX10_clerk 30 = .ok (.getfield 262, 3) := by decide +kernel
theorem dX10_clerk_33 : decode cX10_clerk 33 = .ok (.iconst 1, 1) := by decide +kernel
theorem dX10_clerk_34 : decode cX10_clerk 34 = .ok (.iload_n 1, 1) := by decide +kernel
theorem dX10_clerk_35 : decode cX10_clerk 35 = .ok (.ishl, 1) := by decide +kernel
theorem dX10_clerk_36 : decode cX10_clerk 36 = .ok (.ixor, 1) := by decide +kernel
theorem dX10_clerk_37 : decode cX10_clerk 37 = .ok (.putfield 262, 3) := by decide +kernel
theorem dX10_clerk_40 : decode cX10_clerk 40 = .ok (.aload_n 0, 1) := by decide +kernel
theorem dX10_clerk_41 : decode cX10_clerk 41 = .ok (.getfield 35, 3) := by decide +kernel
theorem dX10_clerk_44 : decode cX10_clerk 44 = .ok (.getfield 262, 3) := by decide +kernel
theorem dX10_clerk_47 : decode cX10_clerk 47 = .ok (.iload_n 1, 1) := by decide +kernel
theorem dX10_clerk_48 : decode cX10_clerk 48 = .ok (.ishr, 1) := by decide +kernel
theorem dX10_clerk_49 : decode cX10_clerk 49 = .ok (.iconst 1, 1) := by decide +kernel
theorem dX10_clerk_50 : decode cX10_clerk 50 = .ok (.iand, 1) := by decide +kernel
theorem dX10_clerk_51 : decode cX10_clerk 51 = .ok (.ireturn, 1) := by decide +kernel
def f_Game_clerk (σ : Mem) (x1 : Int32) : Option (Int32 × Mem) :=
  (f_Game_whyNotClerk σ x1).bind fun q1 =>
  (f_Game_refused σ q1).bind fun q2 =>
  if q2.1 = (0 : Int32) then
    (f_History_keep q2.2 6).bind fun q4 =>
    some ((((mI (sI q4 6 12 ((mI q4 6 12) ^^^ ((1 : Int32) <<< (x1 &&& 31)))) 6 12) >>> (x1 &&& 31)) &&& (1 : Int32)), (sI q4 6 12 ((mI q4 6 12) ^^^ ((1 : Int32) <<< (x1 &&& 31)))))
  else
    some ((-1 : Int32), q2.2)
set_option maxHeartbeats 4000000 in
set_option maxRecDepth 20000 in
theorem g_Game_clerk (X : Cx θ p s m args c cX10_clerk 2 RX10) (hr : meth.sig.returnType = some .int) (hlk : meth.locks = false)  {σ : Mem} {x1 : Int32} {r : Int32 × Mem}  (h : f_Game_clerk σ x1 = some r) : GB θ p l e 3 s m args below meth c 2 (some (.int r.1), r.2) 0 [(0, .ref (be θ + 0)), (1, .int x1)] [] σ := by
  unfold f_Game_clerk at h
  refine g_aload_n X dX10_clerk_0 rfl 0 rfl ?_
  refine g_aload_n X dX10_clerk_1 rfl 0 rfl ?_
  refine g_iload_n X dX10_clerk_2 rfl 1 rfl ?_
  obtain ⟨q1, hq1, h⟩ := Option.bind_eq_some_iff.mp h
  refine g_cV X (c_Game_whyNotClerk  hq1) lk_RX10_259 my_X10_whyNotClerk (a := 0) (ci := 10) kd_0 (by decide) rfl (As := [.int x1]) (rest := [.ref (be θ + 0)]) rfl rfl (Nat.le_of_ble_eq_true rfl) ⟨(Nat.le_of_ble_eq_true rfl), (Nat.le_of_ble_eq_true rfl)⟩ ⟨(Nat.le_of_ble_eq_true rfl), (Nat.le_of_ble_eq_true rfl)⟩ dX10_clerk_3 (st' := [.int q1, .ref (be θ + 0)]) (σ' := σ) rfl rfl ?_
  obtain ⟨q2, hq2, h⟩ := Option.bind_eq_some_iff.mp h
  refine g_cV X (c_Game_refused  hq2) lk_RX10_219 my_X10_refused (a := 0) (ci := 10) kd_0 (by decide) rfl (As := [.int q1]) (rest := []) rfl rfl (Nat.le_of_ble_eq_true rfl) ⟨(Nat.le_of_ble_eq_true rfl), (Nat.le_of_ble_eq_true rfl)⟩ ⟨(Nat.le_of_ble_eq_true rfl), (Nat.le_of_ble_eq_true rfl)⟩ dX10_clerk_6 (st' := [.int q2.1]) (σ' := q2.2) rfl rfl ?_
  refine g_if_eq (tgt := 14) X dX10_clerk_9 (by decide) (fun c3 => ?_) (fun c3 => ?_)
  · replace h := (if_pos c3).symm.trans h
    refine g_aload_n X dX10_clerk_14 rfl 0 rfl ?_
    refine g_get X fl_RX10_45 dX10_clerk_15 kd_0 (v := .ref (be θ + 26)) rfl ?_
    refine g_aload_n X dX10_clerk_18 rfl 0 rfl ?_
    refine g_get X fl_RX10_35 dX10_clerk_19 kd_0 (v := .ref (be θ + 6)) rfl ?_
    obtain ⟨q4, hq4, h⟩ := Option.bind_eq_some_iff.mp h
    refine g_cV X (c_History_keep kd_6 hq4) lk_RX10_222 my_X4_keep (a := 26) (ci := 4) kd_26 (by decide) rfl (As := [.ref (be θ + 6)]) (rest := []) rfl rfl (Nat.le_of_ble_eq_true rfl) ⟨(Nat.le_of_ble_eq_true rfl), (Nat.le_of_ble_eq_true rfl)⟩ ⟨(Nat.le_of_ble_eq_true rfl), (Nat.le_of_ble_eq_true rfl)⟩ dX10_clerk_22 (st' := []) (σ' := q4) rfl rfl ?_
    refine g_aload_n X dX10_clerk_25 rfl 0 rfl ?_
    refine g_get X fl_RX10_35 dX10_clerk_26 kd_0 (v := .ref (be θ + 6)) rfl ?_
    refine g_dup X dX10_clerk_29 rfl ?_
    refine g_get X fl_RX10_262 dX10_clerk_30 kd_6 (v := .int (mI q4 6 12)) rfl ?_
    refine g_iconst X dX10_clerk_33 (v := (1 : Int32)) ic_1 ?_
    refine g_iload_n X dX10_clerk_34 rfl 1 rfl ?_
    refine g_ishl X dX10_clerk_35 ?_
    refine g_ixor X dX10_clerk_36 ?_
    refine g_putI X fl_RX10_262 dX10_clerk_37 kd_6 rfl rfl rfl ?_
    refine g_aload_n X dX10_clerk_40 rfl 0 rfl ?_
    refine g_get X fl_RX10_35 dX10_clerk_41 kd_0 (v := .ref (be θ + 6)) rfl ?_
    refine g_get X fl_RX10_262 dX10_clerk_44 kd_6 (v := .int (mI (sI q4 6 12 ((mI q4 6 12) ^^^ ((1 : Int32) <<< (x1 &&& 31)))) 6 12)) rfl ?_
    refine g_iload_n X dX10_clerk_47 rfl 1 rfl ?_
    refine g_ishr X dX10_clerk_48 ?_
    refine g_iconst X dX10_clerk_49 (v := (1 : Int32)) ic_1 ?_
    refine g_iand X dX10_clerk_50 ?_
    exact g_iret X hr hlk dX10_clerk_51 (by cases h; rfl)
  · replace h := (if_neg c3).symm.trans h
    refine g_iconst X dX10_clerk_12 (v := (-1 : Int32)) ic_m1 ?_
    exact g_iret X hr hlk dX10_clerk_13 (by cases h; rfl)
set_option maxHeartbeats 4000000 in
set_option maxRecDepth 20000 in
theorem c_Game_clerk {θ : Th} {l : Launch} {σ : Mem} {x1 : Int32} {r : Int32 × Mem}  (h : f_Game_clerk σ x1 = some r) : Cn θ l yX10_clerk cX10_clerk 2 (some .int) 3 0 0 [.ref (be θ + 0), .int x1] σ (some (.int r.1), r.2) :=
  Cn.of (by decide) (Nat.le_of_ble_eq_true rfl) (fun p e s m below meth c X hr hlk => g_Game_clerk X hr hlk  h)
theorem dX10_whyNotRate_0 : decode cX10_whyNotRate 0 = .ok (.aload_n 0, 1) := by decide +kernel
theorem dX10_whyNotRate_1 : decode cX10_whyNotRate 1 = .ok (.getfield 52, 3) := by decide +kernel
theorem dX10_whyNotRate_4 : decode cX10_whyNotRate 4 = .ok (.invokevirtual 265, 3) := by decide +kernel
theorem dX10_whyNotRate_7 : decode cX10_whyNotRate 7 = .ok (.ifCond .ne 5, 3) := by decide +kernel
theorem dX10_whyNotRate_10 : decode cX10_whyNotRate 10 = .ok (.iconst 0, 1) := by decide +kernel
theorem dX10_whyNotRate_11 : decode cX10_whyNotRate 11 = .ok (.ireturn, 1) := by decide +kernel
theorem dX10_whyNotRate_12 : decode cX10_whyNotRate 12 = .ok (.iload_n 1, 1) := by decide +kernel
theorem dX10_whyNotRate_13 : decode cX10_whyNotRate 13 = .ok (.ifCond .lt 9, 3) := by decide +kernel
theorem dX10_whyNotRate_16 : decode cX10_whyNotRate 16 = .ok (.iload_n 1, 1) := by decide +kernel
theorem dX10_whyNotRate_17 : decode cX10_whyNotRate 17 = .ok (.bipush 8, 2) := by decide +kernel
theorem dX10_whyNotRate_19 : decode cX10_whyNotRate 19 = .ok (.if_icmp .le 5, 3) := by decide +kernel
theorem dX10_whyNotRate_22 : decode cX10_whyNotRate 22 = .ok (.iconst 1, 1) := by decide +kernel
theorem dX10_whyNotRate_23 : decode cX10_whyNotRate 23 = .ok (.ireturn, 1) := by decide +kernel
theorem dX10_whyNotRate_24 : decode cX10_whyNotRate 24 = .ok (.iload_n 1, 1) := by decide +kernel
theorem dX10_whyNotRate_25 : decode cX10_whyNotRate 25 = .ok (.aload_n 0, 1) := by decide +kernel
theorem dX10_whyNotRate_26 : decode cX10_whyNotRate 26 = .ok (.getfield 35, 3) := by decide +kernel
theorem dX10_whyNotRate_29 : decode cX10_whyNotRate 29 = .ok (.getfield 272, 3) := by decide +kernel
theorem dX10_whyNotRate_32 : decode cX10_whyNotRate 32 = .ok (.if_icmp .ne 7, 3) := by decide +kernel
theorem dX10_whyNotRate_35 : decode cX10_whyNotRate 35 = .ok (.iconst 2, 1) := by decide +kernel
theorem dX10_whyNotRate_36 : decode cX10_whyNotRate 36 = .ok (.goto 4, 3) := by decide +kernel
theorem dX10_whyNotRate_39 : decode cX10_whyNotRate 39 = .ok (.iconst (-1), 1) := by decide +kernel
theorem dX10_whyNotRate_40 : decode cX10_whyNotRate 40 = .ok (.ireturn, 1) := by decide +kernel
def f_Game_whyNotRate (σ : Mem) (x1 : Int32) : Option (Int32) :=
  (f_Trade_hasCity σ).bind fun q1 =>
  if q1 = (0 : Int32) then
    some (0 : Int32)
  else
    if x1 < (0 : Int32) then
      some (1 : Int32)
    else
      if x1 ≤ (8 : Int32) then
        if x1 = (mI σ 6 11) then
          some (2 : Int32)
        else
          some (-1 : Int32)
      else
        some (1 : Int32)
set_option maxHeartbeats 4000000 in
set_option maxRecDepth 20000 in
theorem g_Game_whyNotRate (X : Cx θ p s m args c cX10_whyNotRate 2 RX10) (hr : meth.sig.returnType = some .int) (hlk : meth.locks = false)  {σ : Mem} {x1 : Int32} {r : Int32}  (h : f_Game_whyNotRate σ x1 = some r) : GB θ p l e 1 s m args below meth c 2 (some (.int r), σ) 0 [(0, .ref (be θ + 0)), (1, .int x1)] [] σ := by
  unfold f_Game_whyNotRate at h
  refine g_aload_n X dX10_whyNotRate_0 rfl 0 rfl ?_
  refine g_get X fl_RX10_52 dX10_whyNotRate_1 kd_0 (v := .ref (be θ + 428)) rfl ?_
  obtain ⟨q1, hq1, h⟩ := Option.bind_eq_some_iff.mp h
  refine g_cV X (c_Trade_hasCity  hq1) lk_RX10_265 my_X9_hasCity (a := 428) (ci := 9) kd_428 (by decide) rfl (As := []) (rest := []) rfl rfl (Nat.le_of_ble_eq_true rfl) ⟨(Nat.le_of_ble_eq_true rfl), (Nat.le_of_ble_eq_true rfl)⟩ ⟨(Nat.le_of_ble_eq_true rfl), (Nat.le_of_ble_eq_true rfl)⟩ dX10_whyNotRate_4 (st' := [.int q1]) (σ' := σ) rfl rfl ?_
  refine g_if_ne (tgt := 12) X dX10_whyNotRate_7 (by decide) (fun c2 => ?_) (fun c2 => ?_)
  · replace h := (if_neg c2).symm.trans h
    refine g_iload_n X dX10_whyNotRate_12 rfl 1 rfl ?_
    refine g_if_lt (tgt := 22) X dX10_whyNotRate_13 (by decide) (fun c3 => ?_) (fun c3 => ?_)
    · replace h := (if_pos c3).symm.trans h
      refine g_iconst X dX10_whyNotRate_22 (v := (1 : Int32)) ic_1 ?_
      exact g_iret X hr hlk dX10_whyNotRate_23 (by cases h; rfl)
    · replace h := (if_neg c3).symm.trans h
      refine g_iload_n X dX10_whyNotRate_16 rfl 1 rfl ?_
      refine g_bipush X dX10_whyNotRate_17 (v := (8 : Int32)) bp_8 ?_
      refine g_icmp_le (tgt := 24) X dX10_whyNotRate_19 (by decide) (fun c4 => ?_) (fun c4 => ?_)
      · replace h := (if_pos c4).symm.trans h
        refine g_iload_n X dX10_whyNotRate_24 rfl 1 rfl ?_
        refine g_aload_n X dX10_whyNotRate_25 rfl 0 rfl ?_
        refine g_get X fl_RX10_35 dX10_whyNotRate_26 kd_0 (v := .ref (be θ + 6)) rfl ?_
        refine g_get X fl_RX10_272 dX10_whyNotRate_29 kd_6 (v := .int (mI σ 6 11)) rfl ?_
        refine g_icmp_ne (tgt := 39) X dX10_whyNotRate_32 (by decide) (fun c5 => ?_) (fun c5 => ?_)
        · replace h := (if_neg c5).symm.trans h
          refine g_iconst X dX10_whyNotRate_39 (v := (-1 : Int32)) ic_m1 ?_
          exact g_iret X hr hlk dX10_whyNotRate_40 (by cases h; rfl)
        · replace h := (if_pos c5).symm.trans h
          refine g_iconst X dX10_whyNotRate_35 (v := (2 : Int32)) ic_2 ?_
          refine g_goto (tgt := 40) X dX10_whyNotRate_36 (by decide) ?_
          exact g_iret X hr hlk dX10_whyNotRate_40 (by cases h; rfl)
      · replace h := (if_neg c4).symm.trans h
        refine g_iconst X dX10_whyNotRate_22 (v := (1 : Int32)) ic_1 ?_
        exact g_iret X hr hlk dX10_whyNotRate_23 (by cases h; rfl)
  · replace h := (if_pos c2).symm.trans h
    refine g_iconst X dX10_whyNotRate_10 (v := (0 : Int32)) ic_0 ?_
    exact g_iret X hr hlk dX10_whyNotRate_11 (by cases h; rfl)
set_option maxHeartbeats 4000000 in
set_option maxRecDepth 20000 in
theorem c_Game_whyNotRate {θ : Th} {l : Launch} {σ : Mem} {x1 : Int32} {r : Int32}  (h : f_Game_whyNotRate σ x1 = some r) : Cn θ l yX10_whyNotRate cX10_whyNotRate 2 (some .int) 1 0 0 [.ref (be θ + 0), .int x1] σ (some (.int r), σ) :=
  Cn.of (by decide) (Nat.le_of_ble_eq_true rfl) (fun p e s m below meth c X hr hlk => g_Game_whyNotRate X hr hlk  h)
theorem dX10_rate_0 : decode cX10_rate 0 = .ok (.aload_n 0, 1) := by decide +kernel
theorem dX10_rate_1 : decode cX10_rate 1 = .ok (.aload_n 0, 1) := by decide +kernel
theorem dX10_rate_2 : decode cX10_rate 2 = .ok (.iload_n 1, 1) := by decide +kernel
theorem dX10_rate_3 : decode cX10_rate 3 = .ok (.invokevirtual 269, 3) := by decide +kernel
theorem dX10_rate_6 : decode cX10_rate 6 = .ok (.invokevirtual 219, 3) := by decide +kernel
theorem dX10_rate_9 : decode cX10_rate 9 = .ok (.ifCond .eq 5, 3) := by decide +kernel
theorem dX10_rate_12 : decode cX10_rate 12 = .ok (.iconst (-1), 1) := by decide +kernel
theorem dX10_rate_13 : decode cX10_rate 13 = .ok (.ireturn, 1) := by decide +kernel
theorem dX10_rate_14 : decode cX10_rate 14 = .ok (.aload_n 0, 1) := by decide +kernel
theorem dX10_rate_15 : decode cX10_rate 15 = .ok (.getfield 45, 3) := by decide +kernel
theorem dX10_rate_18 : decode cX10_rate 18 = .ok (.aload_n 0, 1) := by decide +kernel
theorem dX10_rate_19 : decode cX10_rate 19 = .ok (.getfield 35, 3) := by decide +kernel
theorem dX10_rate_22 : decode cX10_rate 22 = .ok (.invokevirtual 222, 3) := by decide +kernel
theorem dX10_rate_25 : decode cX10_rate 25 = .ok (.aload_n 0, 1) := by decide +kernel
theorem dX10_rate_26 : decode cX10_rate 26 = .ok (.getfield 35, 3) := by decide +kernel
theorem dX10_rate_29 : decode cX10_rate 29 = .ok (.getfield 272, 3) := by decide +kernel
theorem dX10_rate_32 : decode cX10_rate 32 = .ok (.istore_n 2, 1) := by decide +kernel
theorem dX10_rate_33 : decode cX10_rate 33 = .ok (.aload_n 0, 1) := by decide +kernel
theorem dX10_rate_34 : decode cX10_rate 34 = .ok (.getfield 35, 3) := by decide +kernel
theorem dX10_rate_37 : decode cX10_rate 37 = .ok (.iload_n 1, 1) := by decide +kernel
theorem dX10_rate_38 : decode cX10_rate 38 = .ok (.putfield 272, 3) := by decide +kernel
theorem dX10_rate_41 : decode cX10_rate 41 = .ok (.iload_n 2, 1) := by decide +kernel
theorem dX10_rate_42 : decode cX10_rate 42 = .ok (.ireturn, 1) := by decide +kernel
def f_Game_rate (σ : Mem) (x1 : Int32) : Option (Int32 × Mem) :=
  (f_Game_whyNotRate σ x1).bind fun q1 =>
  (f_Game_refused σ q1).bind fun q2 =>
  if q2.1 = (0 : Int32) then
    (f_History_keep q2.2 6).bind fun q4 =>
    some ((mI q4 6 11), (sI q4 6 11 x1))
  else
    some ((-1 : Int32), q2.2)
set_option maxHeartbeats 4000000 in
set_option maxRecDepth 20000 in
theorem g_Game_rate (X : Cx θ p s m args c cX10_rate 3 RX10) (hr : meth.sig.returnType = some .int) (hlk : meth.locks = false)  {σ : Mem} {x1 : Int32} {r : Int32 × Mem}  (h : f_Game_rate σ x1 = some r) : GB θ p l e 3 s m args below meth c 3 (some (.int r.1), r.2) 0 [(0, .ref (be θ + 0)), (1, .int x1)] [] σ := by
  unfold f_Game_rate at h
  refine g_aload_n X dX10_rate_0 rfl 0 rfl ?_
  refine g_aload_n X dX10_rate_1 rfl 0 rfl ?_
  refine g_iload_n X dX10_rate_2 rfl 1 rfl ?_
  obtain ⟨q1, hq1, h⟩ := Option.bind_eq_some_iff.mp h
  refine g_cV X (c_Game_whyNotRate  hq1) lk_RX10_269 my_X10_whyNotRate (a := 0) (ci := 10) kd_0 (by decide) rfl (As := [.int x1]) (rest := [.ref (be θ + 0)]) rfl rfl (Nat.le_of_ble_eq_true rfl) ⟨(Nat.le_of_ble_eq_true rfl), (Nat.le_of_ble_eq_true rfl)⟩ ⟨(Nat.le_of_ble_eq_true rfl), (Nat.le_of_ble_eq_true rfl)⟩ dX10_rate_3 (st' := [.int q1, .ref (be θ + 0)]) (σ' := σ) rfl rfl ?_
  obtain ⟨q2, hq2, h⟩ := Option.bind_eq_some_iff.mp h
  refine g_cV X (c_Game_refused  hq2) lk_RX10_219 my_X10_refused (a := 0) (ci := 10) kd_0 (by decide) rfl (As := [.int q1]) (rest := []) rfl rfl (Nat.le_of_ble_eq_true rfl) ⟨(Nat.le_of_ble_eq_true rfl), (Nat.le_of_ble_eq_true rfl)⟩ ⟨(Nat.le_of_ble_eq_true rfl), (Nat.le_of_ble_eq_true rfl)⟩ dX10_rate_6 (st' := [.int q2.1]) (σ' := q2.2) rfl rfl ?_
  refine g_if_eq (tgt := 14) X dX10_rate_9 (by decide) (fun c3 => ?_) (fun c3 => ?_)
  · replace h := (if_pos c3).symm.trans h
    refine g_aload_n X dX10_rate_14 rfl 0 rfl ?_
    refine g_get X fl_RX10_45 dX10_rate_15 kd_0 (v := .ref (be θ + 26)) rfl ?_
    refine g_aload_n X dX10_rate_18 rfl 0 rfl ?_
    refine g_get X fl_RX10_35 dX10_rate_19 kd_0 (v := .ref (be θ + 6)) rfl ?_
    obtain ⟨q4, hq4, h⟩ := Option.bind_eq_some_iff.mp h
    refine g_cV X (c_History_keep kd_6 hq4) lk_RX10_222 my_X4_keep (a := 26) (ci := 4) kd_26 (by decide) rfl (As := [.ref (be θ + 6)]) (rest := []) rfl rfl (Nat.le_of_ble_eq_true rfl) ⟨(Nat.le_of_ble_eq_true rfl), (Nat.le_of_ble_eq_true rfl)⟩ ⟨(Nat.le_of_ble_eq_true rfl), (Nat.le_of_ble_eq_true rfl)⟩ dX10_rate_22 (st' := []) (σ' := q4) rfl rfl ?_
    refine g_aload_n X dX10_rate_25 rfl 0 rfl ?_
    refine g_get X fl_RX10_35 dX10_rate_26 kd_0 (v := .ref (be θ + 6)) rfl ?_
    refine g_get X fl_RX10_272 dX10_rate_29 kd_6 (v := .int (mI q4 6 11)) rfl ?_
    refine g_istore_n X dX10_rate_32 rfl (by decide) (lv' := [(2, .int (mI q4 6 11)), (0, .ref (be θ + 0)), (1, .int x1)]) rfl ?_
    refine g_aload_n X dX10_rate_33 rfl 1 rfl ?_
    refine g_get X fl_RX10_35 dX10_rate_34 kd_0 (v := .ref (be θ + 6)) rfl ?_
    refine g_iload_n X dX10_rate_37 rfl 2 rfl ?_
    refine g_putI X fl_RX10_272 dX10_rate_38 kd_6 rfl rfl rfl ?_
    refine g_iload_n X dX10_rate_41 rfl 0 rfl ?_
    exact g_iret X hr hlk dX10_rate_42 (by cases h; rfl)
  · replace h := (if_neg c3).symm.trans h
    refine g_iconst X dX10_rate_12 (v := (-1 : Int32)) ic_m1 ?_
    exact g_iret X hr hlk dX10_rate_13 (by cases h; rfl)
set_option maxHeartbeats 4000000 in
set_option maxRecDepth 20000 in
theorem c_Game_rate {θ : Th} {l : Launch} {σ : Mem} {x1 : Int32} {r : Int32 × Mem}  (h : f_Game_rate σ x1 = some r) : Cn θ l yX10_rate cX10_rate 3 (some .int) 3 0 0 [.ref (be θ + 0), .int x1] σ (some (.int r.1), r.2) :=
  Cn.of (by decide) (Nat.le_of_ble_eq_true rfl) (fun p e s m below meth c X hr hlk => g_Game_rate X hr hlk  h)
theorem dX10_whyNotGift_0 : decode cX10_whyNotGift 0 = .ok (.aload_n 0, 1) := by decide +kernel
theorem dX10_whyNotGift_1 : decode cX10_whyNotGift 1 = .ok (.getfield 52, 3) := by decide +kernel
theorem dX10_whyNotGift_4 : decode cX10_whyNotGift 4 = .ok (.iload_n 1, 1) := by decide +kernel
theorem dX10_whyNotGift_5 : decode cX10_whyNotGift 5 = .ok (.invokevirtual 174, 3) := by decide +kernel
theorem dX10_whyNotGift_8 : decode cX10_whyNotGift 8 = .ok (.ifCond .ne 5, 3) := by decide +kernel
theorem dX10_whyNotGift_11 : decode cX10_whyNotGift 11 = .ok (.iconst 0, 1) := by decide +kernel
theorem dX10_whyNotGift_12 : decode cX10_whyNotGift 12 = .ok (.ireturn, 1) := by decide +kernel
theorem dX10_whyNotGift_13 : decode cX10_whyNotGift 13 = .ok (.iload_n 2, 1) := by decide +kernel
theorem dX10_whyNotGift_14 : decode cX10_whyNotGift 14 = .ok (.iconst 1, 1) := by decide +kernel
theorem dX10_whyNotGift_15 : decode cX10_whyNotGift 15 = .ok (.if_icmp .lt 26, 3) := by decide +kernel
theorem dX10_whyNotGift_18 : decode cX10_whyNotGift 18 = .ok (.iload_n 2, 1) := by decide +kernel
theorem dX10_whyNotGift_19 : decode cX10_whyNotGift 19 = .ok (.bipush 50, 2) := by decide +kernel
theorem dX10_whyNotGift_21 : decode cX10_whyNotGift 21 = .ok (.if_icmp .gt 20, 3) := by decide +kernel
theorem dX10_whyNotGift_24 : decode cX10_whyNotGift 24 = .ok (.aload_n 0, 1) := by decide +kernel
theorem dX10_whyNotGift_25 : decode cX10_whyNotGift 25 = .ok (.getfield 35, 3) := by decide +kernel
theorem dX10_whyNotGift_28 : decode cX10_whyNotGift 28 = .ok (.getfield 180, 3) := by decide +kernel
theorem dX10_whyNotGift_31 : decode cX10_whyNotGift 31 = .ok (.iload_n 1, 1) := by decide +kernel
theorem dX10_whyNotGift_32 : decode cX10_whyNotGift 32 = .ok (.iaload, 1) := by decide +kernel
theorem dX10_whyNotGift_33 : decode cX10_whyNotGift 33 = .ok (.iload_n 2, 1) := by decide +kernel
theorem dX10_whyNotGift_34 : decode cX10_whyNotGift 34 = .ok (.iadd, 1) := by decide +kernel
theorem dX10_whyNotGift_35 : decode cX10_whyNotGift 35 = .ok (.sipush 999, 3) := by decide +kernel
theorem dX10_whyNotGift_38 : decode cX10_whyNotGift 38 = .ok (.if_icmp .le 7, 3) := by decide +kernel
theorem dX10_whyNotGift_41 : decode cX10_whyNotGift 41 = .ok (.iconst 1, 1) := by decide +kernel
theorem dX10_whyNotGift_42 : decode cX10_whyNotGift 42 = .ok (.goto 4, 3) := by decide +kernel
theorem dX10_whyNotGift_45 : decode cX10_whyNotGift 45 = .ok (.iconst (-1), 1) := by decide +kernel
theorem dX10_whyNotGift_46 : decode cX10_whyNotGift 46 = .ok (.ireturn, 1) := by decide +kernel
def f_Game_whyNotGift (σ : Mem) (x1 : Int32) (x2 : Int32) : Option (Int32) :=
  (f_Trade_isBuyer σ x1).bind fun q1 =>
  if q1 = (0 : Int32) then
    some (0 : Int32)
  else
    if x2 < (1 : Int32) then
      some (1 : Int32)
    else
      if (50 : Int32) < x2 then
        some (1 : Int32)
      else
        if inb x1 6 then
          if ((mI σ 12 x1.toNatClampNeg) + x2) ≤ (999 : Int32) then
            some (-1 : Int32)
          else
            some (1 : Int32)
        else none
set_option maxHeartbeats 4000000 in
set_option maxRecDepth 20000 in
theorem g_Game_whyNotGift (X : Cx θ p s m args c cX10_whyNotGift 3 RX10) (hr : meth.sig.returnType = some .int) (hlk : meth.locks = false)  {σ : Mem} {x1 : Int32} {x2 : Int32} {r : Int32}  (h : f_Game_whyNotGift σ x1 x2 = some r) : GB θ p l e 1 s m args below meth c 3 (some (.int r), σ) 0 [(0, .ref (be θ + 0)), (1, .int x1), (2, .int x2)] [] σ := by
  unfold f_Game_whyNotGift at h
  refine g_aload_n X dX10_whyNotGift_0 rfl 0 rfl ?_
  refine g_get X fl_RX10_52 dX10_whyNotGift_1 kd_0 (v := .ref (be θ + 428)) rfl ?_
  refine g_iload_n X dX10_whyNotGift_4 rfl 1 rfl ?_
  obtain ⟨q1, hq1, h⟩ := Option.bind_eq_some_iff.mp h
  refine g_cV X (c_Trade_isBuyer  hq1) lk_RX10_174 my_X9_isBuyer (a := 428) (ci := 9) kd_428 (by decide) rfl (As := [.int x1]) (rest := []) rfl rfl (Nat.le_of_ble_eq_true rfl) ⟨(Nat.le_of_ble_eq_true rfl), (Nat.le_of_ble_eq_true rfl)⟩ ⟨(Nat.le_of_ble_eq_true rfl), (Nat.le_of_ble_eq_true rfl)⟩ dX10_whyNotGift_5 (st' := [.int q1]) (σ' := σ) rfl rfl ?_
  refine g_if_ne (tgt := 13) X dX10_whyNotGift_8 (by decide) (fun c2 => ?_) (fun c2 => ?_)
  · replace h := (if_neg c2).symm.trans h
    refine g_iload_n X dX10_whyNotGift_13 rfl 2 rfl ?_
    refine g_iconst X dX10_whyNotGift_14 (v := (1 : Int32)) ic_1 ?_
    refine g_icmp_lt (tgt := 41) X dX10_whyNotGift_15 (by decide) (fun c3 => ?_) (fun c3 => ?_)
    · replace h := (if_pos c3).symm.trans h
      refine g_iconst X dX10_whyNotGift_41 (v := (1 : Int32)) ic_1 ?_
      refine g_goto (tgt := 46) X dX10_whyNotGift_42 (by decide) ?_
      exact g_iret X hr hlk dX10_whyNotGift_46 (by cases h; rfl)
    · replace h := (if_neg c3).symm.trans h
      refine g_iload_n X dX10_whyNotGift_18 rfl 2 rfl ?_
      refine g_bipush X dX10_whyNotGift_19 (v := (50 : Int32)) bp_50 ?_
      refine g_icmp_gt (tgt := 41) X dX10_whyNotGift_21 (by decide) (fun c4 => ?_) (fun c4 => ?_)
      · replace h := (if_pos c4).symm.trans h
        refine g_iconst X dX10_whyNotGift_41 (v := (1 : Int32)) ic_1 ?_
        refine g_goto (tgt := 46) X dX10_whyNotGift_42 (by decide) ?_
        exact g_iret X hr hlk dX10_whyNotGift_46 (by cases h; rfl)
      · replace h := (if_neg c4).symm.trans h
        refine g_aload_n X dX10_whyNotGift_24 rfl 0 rfl ?_
        refine g_get X fl_RX10_35 dX10_whyNotGift_25 kd_0 (v := .ref (be θ + 6)) rfl ?_
        refine g_get X fl_RX10_180 dX10_whyNotGift_28 kd_6 (v := .ref (be θ + 12)) rfl ?_
        refine g_iload_n X dX10_whyNotGift_31 rfl 1 rfl ?_
        obtain ⟨g5, h⟩ := ite_some h
        refine g_iald X kd_12 ln_12 (inb_in g5) dX10_whyNotGift_32 ?_
        refine g_iload_n X dX10_whyNotGift_33 rfl 2 rfl ?_
        refine g_iadd X dX10_whyNotGift_34 ?_
        refine g_sipush X dX10_whyNotGift_35 (v := (999 : Int32)) sp_999 ?_
        refine g_icmp_le (tgt := 45) X dX10_whyNotGift_38 (by decide) (fun c6 => ?_) (fun c6 => ?_)
        · replace h := (if_pos c6).symm.trans h
          refine g_iconst X dX10_whyNotGift_45 (v := (-1 : Int32)) ic_m1 ?_
          exact g_iret X hr hlk dX10_whyNotGift_46 (by cases h; rfl)
        · replace h := (if_neg c6).symm.trans h
          refine g_iconst X dX10_whyNotGift_41 (v := (1 : Int32)) ic_1 ?_
          refine g_goto (tgt := 46) X dX10_whyNotGift_42 (by decide) ?_
          exact g_iret X hr hlk dX10_whyNotGift_46 (by cases h; rfl)
  · replace h := (if_pos c2).symm.trans h
    refine g_iconst X dX10_whyNotGift_11 (v := (0 : Int32)) ic_0 ?_
    exact g_iret X hr hlk dX10_whyNotGift_12 (by cases h; rfl)
set_option maxHeartbeats 4000000 in
set_option maxRecDepth 20000 in
theorem c_Game_whyNotGift {θ : Th} {l : Launch} {σ : Mem} {x1 : Int32} {x2 : Int32} {r : Int32}  (h : f_Game_whyNotGift σ x1 x2 = some r) : Cn θ l yX10_whyNotGift cX10_whyNotGift 3 (some .int) 1 0 0 [.ref (be θ + 0), .int x1, .int x2] σ (some (.int r), σ) :=
  Cn.of (by decide) (Nat.le_of_ble_eq_true rfl) (fun p e s m below meth c X hr hlk => g_Game_whyNotGift X hr hlk  h)
theorem dX10_gift_0 : decode cX10_gift 0 = .ok (.aload_n 0, 1) := by decide +kernel
theorem dX10_gift_1 : decode cX10_gift 1 = .ok (.aload_n 0, 1) := by decide +kernel
theorem dX10_gift_2 : decode cX10_gift 2 = .ok (.iload_n 1, 1) := by decide +kernel
theorem dX10_gift_3 : decode cX10_gift 3 = .ok (.iload_n 2, 1) := by decide +kernel
theorem dX10_gift_4 : decode cX10_gift 4 = .ok (.invokevirtual 275, 3) := by decide +kernel
theorem dX10_gift_7 : decode cX10_gift 7 = .ok (.invokevirtual 219, 3) := by decide +kernel
theorem dX10_gift_10 : decode cX10_gift 10 = .ok (.ifCond .eq 5, 3) := by decide +kernel
theorem dX10_gift_13 : decode cX10_gift 13 = .ok (.iconst (-1), 1) := by decide +kernel
theorem dX10_gift_14 : decode cX10_gift 14 = .ok (.ireturn, 1) := by decide +kernel
theorem dX10_gift_15 : decode cX10_gift 15 = .ok (.aload_n 0, 1) := by decide +kernel
theorem dX10_gift_16 : decode cX10_gift 16 = .ok (.getfield 45, 3) := by decide +kernel
theorem dX10_gift_19 : decode cX10_gift 19 = .ok (.aload_n 0, 1) := by decide +kernel
theorem dX10_gift_20 : decode cX10_gift 20 = .ok (.getfield 35, 3) := by decide +kernel
theorem dX10_gift_23 : decode cX10_gift 23 = .ok (.invokevirtual 222, 3) := by decide +kernel
theorem dX10_gift_26 : decode cX10_gift 26 = .ok (.aload_n 0, 1) := by decide +kernel
theorem dX10_gift_27 : decode cX10_gift 27 = .ok (.getfield 35, 3) := by decide +kernel
theorem dX10_gift_30 : decode cX10_gift 30 = .ok (.getfield 180, 3) := by decide +kernel
theorem dX10_gift_33 : decode cX10_gift 33 = .ok (.iload_n 1, 1) := by decide +kernel
theorem dX10_gift_34 : decode cX10_gift 34 = .ok (.dup2, 1) := by decide +kernel
theorem dX10_gift_35 : decode cX10_gift 35 = .ok (.iaload, 1) := by decide +kernel
theorem dX10_gift_36 : decode cX10_gift 36 = .ok (.iload_n 2, 1) := by decide +kernel
theorem dX10_gift_37 : decode cX10_gift 37 = .ok (.iadd, 1) := by decide +kernel
theorem dX10_gift_38 : decode cX10_gift 38 = .ok (.iastore, 1) := by decide +kernel
theorem dX10_gift_39 : decode cX10_gift 39 = .ok (.aload_n 0, 1) := by decide +kernel
theorem dX10_gift_40 : decode cX10_gift 40 = .ok (.getfield 35, 3) := by decide +kernel
theorem dX10_gift_43 : decode cX10_gift 43 = .ok (.getfield 180, 3) := by decide +kernel
theorem dX10_gift_46 : decode cX10_gift 46 = .ok (.iload_n 1, 1) := by decide +kernel
theorem dX10_gift_47 : decode cX10_gift 47 = .ok (.iaload, 1) := by decide +kernel
theorem dX10_gift_48 : decode cX10_gift 48 = .ok (.ireturn, 1) := by decide +kernel
def f_Game_gift (σ : Mem) (x1 : Int32) (x2 : Int32) : Option (Int32 × Mem) :=
  (f_Game_whyNotGift σ x1 x2).bind fun q1 =>
  (f_Game_refused σ q1).bind fun q2 =>
  if q2.1 = (0 : Int32) then
    (f_History_keep q2.2 6).bind fun q4 =>
    if inb x1 6 then
      some ((mI (sI q4 12 x1.toNatClampNeg ((mI q4 12 x1.toNatClampNeg) + x2)) 12 x1.toNatClampNeg), (sI q4 12 x1.toNatClampNeg ((mI q4 12 x1.toNatClampNeg) + x2)))
    else none
  else
    some ((-1 : Int32), q2.2)
set_option maxHeartbeats 4000000 in
set_option maxRecDepth 20000 in
theorem g_Game_gift (X : Cx θ p s m args c cX10_gift 3 RX10) (hr : meth.sig.returnType = some .int) (hlk : meth.locks = false)  {σ : Mem} {x1 : Int32} {x2 : Int32} {r : Int32 × Mem}  (h : f_Game_gift σ x1 x2 = some r) : GB θ p l e 3 s m args below meth c 3 (some (.int r.1), r.2) 0 [(0, .ref (be θ + 0)), (1, .int x1), (2, .int x2)] [] σ := by
  unfold f_Game_gift at h
  refine g_aload_n X dX10_gift_0 rfl 0 rfl ?_
  refine g_aload_n X dX10_gift_1 rfl 0 rfl ?_
  refine g_iload_n X dX10_gift_2 rfl 1 rfl ?_
  refine g_iload_n X dX10_gift_3 rfl 2 rfl ?_
  obtain ⟨q1, hq1, h⟩ := Option.bind_eq_some_iff.mp h
  refine g_cV X (c_Game_whyNotGift  hq1) lk_RX10_275 my_X10_whyNotGift (a := 0) (ci := 10) kd_0 (by decide) rfl (As := [.int x1, .int x2]) (rest := [.ref (be θ + 0)]) rfl rfl (Nat.le_of_ble_eq_true rfl) ⟨(Nat.le_of_ble_eq_true rfl), (Nat.le_of_ble_eq_true rfl)⟩ ⟨(Nat.le_of_ble_eq_true rfl), (Nat.le_of_ble_eq_true rfl)⟩ dX10_gift_4 (st' := [.int q1, .ref (be θ + 0)]) (σ' := σ) rfl rfl ?_
  obtain ⟨q2, hq2, h⟩ := Option.bind_eq_some_iff.mp h
  refine g_cV X (c_Game_refused  hq2) lk_RX10_219 my_X10_refused (a := 0) (ci := 10) kd_0 (by decide) rfl (As := [.int q1]) (rest := []) rfl rfl (Nat.le_of_ble_eq_true rfl) ⟨(Nat.le_of_ble_eq_true rfl), (Nat.le_of_ble_eq_true rfl)⟩ ⟨(Nat.le_of_ble_eq_true rfl), (Nat.le_of_ble_eq_true rfl)⟩ dX10_gift_7 (st' := [.int q2.1]) (σ' := q2.2) rfl rfl ?_
  refine g_if_eq (tgt := 15) X dX10_gift_10 (by decide) (fun c3 => ?_) (fun c3 => ?_)
  · replace h := (if_pos c3).symm.trans h
    refine g_aload_n X dX10_gift_15 rfl 0 rfl ?_
    refine g_get X fl_RX10_45 dX10_gift_16 kd_0 (v := .ref (be θ + 26)) rfl ?_
    refine g_aload_n X dX10_gift_19 rfl 0 rfl ?_
    refine g_get X fl_RX10_35 dX10_gift_20 kd_0 (v := .ref (be θ + 6)) rfl ?_
    obtain ⟨q4, hq4, h⟩ := Option.bind_eq_some_iff.mp h
    refine g_cV X (c_History_keep kd_6 hq4) lk_RX10_222 my_X4_keep (a := 26) (ci := 4) kd_26 (by decide) rfl (As := [.ref (be θ + 6)]) (rest := []) rfl rfl (Nat.le_of_ble_eq_true rfl) ⟨(Nat.le_of_ble_eq_true rfl), (Nat.le_of_ble_eq_true rfl)⟩ ⟨(Nat.le_of_ble_eq_true rfl), (Nat.le_of_ble_eq_true rfl)⟩ dX10_gift_23 (st' := []) (σ' := q4) rfl rfl ?_
    refine g_aload_n X dX10_gift_26 rfl 0 rfl ?_
    refine g_get X fl_RX10_35 dX10_gift_27 kd_0 (v := .ref (be θ + 6)) rfl ?_
    refine g_get X fl_RX10_180 dX10_gift_30 kd_6 (v := .ref (be θ + 12)) rfl ?_
    refine g_iload_n X dX10_gift_33 rfl 1 rfl ?_
    refine g_dup2 X dX10_gift_34 rfl rfl ?_
    obtain ⟨g5, h⟩ := ite_some h
    refine g_iald X kd_12 ln_12 (inb_in g5) dX10_gift_35 ?_
    refine g_iload_n X dX10_gift_36 rfl 2 rfl ?_
    refine g_iadd X dX10_gift_37 ?_
    refine g_iast X kd_12 ln_12 (inb_in g5) dX10_gift_38 ?_
    refine g_aload_n X dX10_gift_39 rfl 0 rfl ?_
    refine g_get X fl_RX10_35 dX10_gift_40 kd_0 (v := .ref (be θ + 6)) rfl ?_
    refine g_get X fl_RX10_180 dX10_gift_43 kd_6 (v := .ref (be θ + 12)) rfl ?_
    refine g_iload_n X dX10_gift_46 rfl 1 rfl ?_
    refine g_iald X kd_12 ln_12 (inb_in g5) dX10_gift_47 ?_
    exact g_iret X hr hlk dX10_gift_48 (by cases h; rfl)
  · replace h := (if_neg c3).symm.trans h
    refine g_iconst X dX10_gift_13 (v := (-1 : Int32)) ic_m1 ?_
    exact g_iret X hr hlk dX10_gift_14 (by cases h; rfl)
set_option maxHeartbeats 4000000 in
set_option maxRecDepth 20000 in
theorem c_Game_gift {θ : Th} {l : Launch} {σ : Mem} {x1 : Int32} {x2 : Int32} {r : Int32 × Mem}  (h : f_Game_gift σ x1 x2 = some r) : Cn θ l yX10_gift cX10_gift 3 (some .int) 3 0 0 [.ref (be θ + 0), .int x1, .int x2] σ (some (.int r.1), r.2) :=
  Cn.of (by decide) (Nat.le_of_ble_eq_true rfl) (fun p e s m below meth c X hr hlk => g_Game_gift X hr hlk  h)
theorem dX10_draw_0 : decode cX10_draw 0 = .ok (.aload_n 0, 1) := by decide +kernel
theorem dX10_draw_1 : decode cX10_draw 1 = .ok (.aload_n 0, 1) := by decide +kernel
theorem dX10_draw_2 : decode cX10_draw 2 = .ok (.getfield 101, 3) := by decide +kernel
theorem dX10_draw_5 : decode cX10_draw 5 = .ok (.ldc2_w 295, 3) := by decide +kernel
theorem dX10_draw_8 : decode cX10_draw 8 = .ok (.lmul, 1) := by decide +kernel
theorem dX10_draw_9 : decode cX10_draw 9 = .ok (.ldc2_w 297, 3) := by decide +kernel
theorem dX10_draw_12 : decode cX10_draw 12 = .ok (.ladd, 1) := by decide +kernel
theorem dX10_draw_13 : decode cX10_draw 13 = .ok (.putfield 101, 3) := by decide +kernel
theorem dX10_draw_16 : decode cX10_draw 16 = .ok (.iload_n 1, 1) := by decide +kernel
theorem dX10_draw_17 : decode cX10_draw 17 = .ok (.ifCond .le 17, 3) := by decide +kernel
theorem dX10_draw_20 : decode cX10_draw 20 = .ok (.aload_n 0, 1) := by decide +kernel
theorem dX10_draw_21 : decode cX10_draw 21 = .ok (.getfield 101, 3) := by decide +kernel
theorem dX10_draw_24 : decode cX10_draw 24 = .ok (.bipush 33, 2) := by decide +kernel
theorem dX10_draw_26 : decode cX10_draw 26 = .ok (.lushr, 1) := by decide +kernel
theorem dX10_draw_27 : decode cX10_draw 27 = .ok (.iload_n 1, 1) := by decide +kernel
theorem dX10_draw_28 : decode cX10_draw 28 = .ok (.i2l, 1) := by decide +kernel
theorem dX10_draw_29 : decode cX10_draw 29 = .ok (.lrem, 1) := by decide +kernel
theorem dX10_draw_30 : decode cX10_draw 30 = .ok (.l2i, 1) := by decide +kernel
theorem dX10_draw_31 : decode cX10_draw 31 = .ok (.goto 4, 3) := by decide +kernel
theorem dX10_draw_34 : decode cX10_draw 34 = .ok (.iconst 0, 1) := by decide +kernel
theorem dX10_draw_35 : decode cX10_draw 35 = .ok (.ireturn, 1) := by decide +kernel
def f_Game_draw (σ : Mem) (x1 : Int32) : Option (Int32 × Mem) :=
  if x1 ≤ (0 : Int32) then
    some ((0 : Int32), (sL σ 0 17 (((mL σ 0 17) * (6364136223846793005 : Int64)) + (1442695040888963407 : Int64))))
  else
    if ((x1).toInt64) = 0 then none else
    some (((((lush (mL (sL σ 0 17 (((mL σ 0 17) * (6364136223846793005 : Int64)) + (1442695040888963407 : Int64))) 0 17) (33 : Int32)) - (lush (mL (sL σ 0 17 (((mL σ 0 17) * (6364136223846793005 : Int64)) + (1442695040888963407 : Int64))) 0 17) (33 : Int32)) / ((x1).toInt64) * ((x1).toInt64))).toInt32), (sL σ 0 17 (((mL σ 0 17) * (6364136223846793005 : Int64)) + (1442695040888963407 : Int64))))
set_option maxHeartbeats 4000000 in
set_option maxRecDepth 20000 in
theorem g_Game_draw (X : Cx θ p s m args c cX10_draw 2 RX10) (hr : meth.sig.returnType = some .int) (hlk : meth.locks = false)  {σ : Mem} {x1 : Int32} {r : Int32 × Mem}  (h : f_Game_draw σ x1 = some r) : GB θ p l e 0 s m args below meth c 2 (some (.int r.1), r.2) 0 [(0, .ref (be θ + 0)), (1, .int x1)] [] σ := by
  unfold f_Game_draw at h
  refine g_aload_n X dX10_draw_0 rfl 0 rfl ?_
  refine g_aload_n X dX10_draw_1 rfl 0 rfl ?_
  refine g_get X fl_RX10_101 dX10_draw_2 kd_0 (v := .long (mL σ 0 17)) rfl ?_
  refine g_ldc2 X cst_RX10_295 dX10_draw_5 ?_
  refine g_lmul X dX10_draw_8 ?_
  refine g_ldc2 X cst_RX10_297 dX10_draw_9 ?_
  refine g_ladd X dX10_draw_12 ?_
  refine g_putJ X fl_RX10_101 dX10_draw_13 kd_0 rfl rfl rfl ?_
  refine g_iload_n X dX10_draw_16 rfl 1 rfl ?_
  refine g_if_le (tgt := 34) X dX10_draw_17 (by decide) (fun c1 => ?_) (fun c1 => ?_)
  · replace h := (if_pos c1).symm.trans h
    refine g_iconst X dX10_draw_34 (v := (0 : Int32)) ic_0 ?_
    exact g_iret X hr hlk dX10_draw_35 (by cases h; rfl)
  · replace h := (if_neg c1).symm.trans h
    refine g_aload_n X dX10_draw_20 rfl 0 rfl ?_
    refine g_get X fl_RX10_101 dX10_draw_21 kd_0 (v := .long (mL (sL σ 0 17 (((mL σ 0 17) * (6364136223846793005 : Int64)) + (1442695040888963407 : Int64))) 0 17)) rfl ?_
    refine g_bipush X dX10_draw_24 (v := (33 : Int32)) bp_33 ?_
    refine g_lushr X dX10_draw_26 (v := (lush (mL (sL σ 0 17 (((mL σ 0 17) * (6364136223846793005 : Int64)) + (1442695040888963407 : Int64))) 0 17) (33 : Int32))) rfl ?_
    refine g_iload_n X dX10_draw_27 rfl 1 rfl ?_
    refine g_i2l X dX10_draw_28 (v := ((x1).toInt64)) rfl ?_
    obtain ⟨g2, h⟩ := ite_none h
    refine g_lrem X dX10_draw_29 g2 ?_
    refine g_l2i X dX10_draw_30 (v := ((((lush (mL (sL σ 0 17 (((mL σ 0 17) * (6364136223846793005 : Int64)) + (1442695040888963407 : Int64))) 0 17) (33 : Int32)) - (lush (mL (sL σ 0 17 (((mL σ 0 17) * (6364136223846793005 : Int64)) + (1442695040888963407 : Int64))) 0 17) (33 : Int32)) / ((x1).toInt64) * ((x1).toInt64))).toInt32)) rfl ?_
    refine g_goto (tgt := 35) X dX10_draw_31 (by decide) ?_
    exact g_iret X hr hlk dX10_draw_35 (by cases h; rfl)
set_option maxHeartbeats 4000000 in
set_option maxRecDepth 20000 in
theorem c_Game_draw {θ : Th} {l : Launch} {σ : Mem} {x1 : Int32} {r : Int32 × Mem}  (h : f_Game_draw σ x1 = some r) : Cn θ l yX10_draw cX10_draw 2 (some .int) 0 0 0 [.ref (be θ + 0), .int x1] σ (some (.int r.1), r.2) :=
  Cn.of (by decide) (Nat.le_of_ble_eq_true rfl) (fun p e s m below meth c X hr hlk => g_Game_draw X hr hlk  h)
theorem dX10_drawWhatComes_0 : decode cX10_drawWhatComes 0 = .ok (.aload_n 0, 1) := by decide +kernel
theorem dX10_drawWhatComes_1 : decode cX10_drawWhatComes 1 = .ok (.bipush 10, 2) := by decide +kernel
theorem dX10_drawWhatComes_3 : decode cX10_drawWhatComes 3 = .ok (.invokevirtual 284, 3) := by decide +kernel
theorem dX10_drawWhatComes_6 : decode cX10_drawWhatComes 6 = .ok (.aload_n 0, 1) := by decide +kernel
theorem dX10_drawWhatComes_7 : decode cX10_drawWhatComes 7 = .ok (.getfield 94, 3) := by decide +kernel
theorem dX10_drawWhatComes_10 : decode cX10_drawWhatComes 10 = .ok (.if_icmp .ge 22, 3) := by decide +kernel
theorem dX10_drawWhatComes_13 : decode cX10_drawWhatComes 13 = .ok (.aload_n 0, 1) := by decide +kernel
theorem dX10_drawWhatComes_14 : decode cX10_drawWhatComes 14 = .ok (.getfield 35, 3) := by decide +kernel
theorem dX10_drawWhatComes_17 : decode cX10_drawWhatComes 17 = .ok (.dup, 1) := by decide +kernel
theorem dX10_drawWhatComes_18 : decode cX10_drawWhatComes 18 = .ok (.getfield 262, 3) := by decide +kernel
theorem dX10_drawWhatComes_21 : decode cX10_drawWhatComes 21 = .ok (.iconst 1, 1) := by decide +kernel
theorem dX10_drawWhatComes_22 : decode cX10_drawWhatComes 22 = .ok (.aload_n 0, 1) := by decide +kernel
theorem dX10_drawWhatComes_23 : decode cX10_drawWhatComes 23 = .ok (.iconst 4, 1) := by decide +kernel
theorem dX10_drawWhatComes_24 : decode cX10_drawWhatComes 24 = .ok (.invokevirtual 284, 3) := by decide +kernel
theorem dX10_drawWhatComes_27 : decode cX10_drawWhatComes 27 = .ok (.ishl, 1) := by decide +kernel
theorem dX10_drawWhatComes_28 : decode cX10_drawWhatComes 28 = .ok (.ixor, 1) := by decide +kernel
theorem dX10_drawWhatComes_29 : decode cX10_drawWhatComes 29 = .ok (.putfield 262, 3) := by decide +kernel
theorem dX10_drawWhatComes_32 : decode cX10_drawWhatComes 32 = .ok (.aload_n 0, 1) := by decide +kernel
theorem dX10_drawWhatComes_33 : decode cX10_drawWhatComes 33 = .ok (.bipush 10, 2) := by decide +kernel
theorem dX10_drawWhatComes_35 : decode cX10_drawWhatComes 35 = .ok (.invokevirtual 284, 3) := by decide +kernel
theorem dX10_drawWhatComes_38 : decode cX10_drawWhatComes 38 = .ok (.iconst 2, 1) := by decide +kernel
theorem dX10_drawWhatComes_39 : decode cX10_drawWhatComes 39 = .ok (.if_icmp .ge 53, 3) := by decide +kernel
theorem dX10_drawWhatComes_42 : decode cX10_drawWhatComes 42 = .ok (.aload_n 0, 1) := by decide +kernel
theorem dX10_drawWhatComes_43 : decode cX10_drawWhatComes 43 = .ok (.aload_n 0, 1) := by decide +kernel
theorem dX10_drawWhatComes_44 : decode cX10_drawWhatComes 44 = .ok (.getfield 52, 3) := by decide +kernel
theorem dX10_drawWhatComes_47 : decode cX10_drawWhatComes 47 = .ok (.getfield 137, 3) := by decide +kernel
theorem dX10_drawWhatComes_50 : decode cX10_drawWhatComes 50 = .ok (.getfield 287, 3) := by decide +kernel
theorem dX10_drawWhatComes_53 : decode cX10_drawWhatComes 53 = .ok (.invokevirtual 284, 3) := by decide +kernel
theorem dX10_drawWhatComes_56 : decode cX10_drawWhatComes 56 = .ok (.istore_n 1, 1) := by decide +kernel
theorem dX10_drawWhatComes_57 : decode cX10_drawWhatComes 57 = .ok (.aload_n 0, 1) := by decide +kernel
theorem dX10_drawWhatComes_58 : decode cX10_drawWhatComes 58 = .ok (.bipush 10, 2) := by decide +kernel
theorem dX10_drawWhatComes_60 : decode cX10_drawWhatComes 60 = .ok (.invokevirtual 284, 3) := by decide +kernel
theorem dX10_drawWhatComes_63 : decode cX10_drawWhatComes 63 = .ok (.iconst 1, 1) := by decide +kernel
theorem dX10_drawWhatComes_64 : decode cX10_drawWhatComes 64 = .ok (.iadd, 1) := by decide +kernel
theorem dX10_drawWhatComes_65 : decode cX10_drawWhatComes 65 = .ok (.istore_n 2, 1) := by decide +kernel
theorem dX10_drawWhatComes_66 : decode cX10_drawWhatComes 66 = .ok (.aload_n 0, 1) := by decide +kernel
theorem dX10_drawWhatComes_67 : decode cX10_drawWhatComes 67 = .ok (.getfield 35, 3) := by decide +kernel
theorem dX10_drawWhatComes_70 : decode cX10_drawWhatComes 70 = .ok (.getfield 180, 3) := by decide +kernel
theorem dX10_drawWhatComes_73 : decode cX10_drawWhatComes 73 = .ok (.iload_n 1, 1) := by decide +kernel
theorem dX10_drawWhatComes_74 : decode cX10_drawWhatComes 74 = .ok (.sipush 999, 3) := by decide +kernel
theorem dX10_drawWhatComes_77 : decode cX10_drawWhatComes 77 = .ok (.aload_n 0, 1) := by decide +kernel
theorem dX10_drawWhatComes_78 : decode cX10_drawWhatComes 78 = .ok (.getfield 35, 3) := by decide +kernel
theorem dX10_drawWhatComes_81 : decode cX10_drawWhatComes 81 = .ok (.getfield 180, 3) := by decide +kernel
theorem dX10_drawWhatComes_84 : decode cX10_drawWhatComes 84 = .ok (.iload_n 1, 1) := by decide +kernel
theorem dX10_drawWhatComes_85 : decode cX10_drawWhatComes 85 = .ok (.iaload, 1) := by decide +kernel
theorem dX10_drawWhatComes_86 : decode cX10_drawWhatComes 86 = .ok (.iload_n 2, 1) := by decide +kernel
theorem dX10_drawWhatComes_87 : decode cX10_drawWhatComes 87 = .ok (.iadd, 1) := by decide +kernel
theorem dX10_drawWhatComes_88 : decode cX10_drawWhatComes 88 = .ok (.invokestatic 290, 3) := by decide +kernel
theorem dX10_drawWhatComes_91 : decode cX10_drawWhatComes 91 = .ok (.iastore, 1) := by decide +kernel
theorem dX10_drawWhatComes_92 : decode cX10_drawWhatComes 92 = .ok (.return_, 1) := by decide +kernel
def f_Game_drawWhatComes_J32 (σ : Mem)  : Option (Mem) :=
  (f_Game_draw σ (10 : Int32)).bind fun q3 =>
  if (2 : Int32) ≤ q3.1 then
    some q3.2
  else
    if kd (mR q3.2 428 1) = 2 then
      (f_Game_draw q3.2 (mI q3.2 (mR q3.2 428 1) 4)).bind fun q6 =>
      (f_Game_draw q6.2 (10 : Int32)).bind fun q7 =>
      if inb q6.1 6 then
        some (sI q7.2 12 q6.1.toNatClampNeg (imin (999 : Int32) ((mI q7.2 12 q6.1.toNatClampNeg) + (q7.1 + (1 : Int32)))))
      else none
    else none
def f_Game_drawWhatComes (σ : Mem)  : Option (Mem) :=
  (f_Game_draw σ (10 : Int32)).bind fun q1 =>
  if (mI q1.2 0 15) ≤ q1.1 then
    f_Game_drawWhatComes_J32 q1.2 
  else
    (f_Game_draw q1.2 (4 : Int32)).bind fun q9 =>
    f_Game_drawWhatComes_J32 (sI q9.2 6 12 ((mI q1.2 6 12) ^^^ ((1 : Int32) <<< (q9.1 &&& 31)))) 
set_option maxHeartbeats 4000000 in
set_option maxRecDepth 20000 in
theorem g_Game_drawWhatComes_J32 (X : Cx θ p s m args c cX10_drawWhatComes 3 RX10) (hr : meth.sig.returnType = none) (hlk : meth.locks = false)  {σ : Mem}  {r : Mem}  (h : f_Game_drawWhatComes_J32 σ  = some r) : GB θ p l e 1 s m args below meth c 3 (none, r) 32 [(0, .ref (be θ + 0))] [] σ := by
  unfold f_Game_drawWhatComes_J32 at h
  refine g_aload_n X dX10_drawWhatComes_32 rfl 0 rfl ?_
  refine g_bipush X dX10_drawWhatComes_33 (v := (10 : Int32)) bp_10 ?_
  obtain ⟨q3, hq3, h⟩ := Option.bind_eq_some_iff.mp h
  refine g_cV X (c_Game_draw  hq3) lk_RX10_284 my_X10_draw (a := 0) (ci := 10) kd_0 (by decide) rfl (As := [.int (10 : Int32)]) (rest := []) rfl rfl (Nat.le_of_ble_eq_true rfl) ⟨(Nat.le_of_ble_eq_true rfl), (Nat.le_of_ble_eq_true rfl)⟩ ⟨(Nat.le_of_ble_eq_true rfl), (Nat.le_of_ble_eq_true rfl)⟩ dX10_drawWhatComes_35 (st' := [.int q3.1]) (σ' := q3.2) rfl rfl ?_
  refine g_iconst X dX10_drawWhatComes_38 (v := (2 : Int32)) ic_2 ?_
  refine g_icmp_ge (tgt := 92) X dX10_drawWhatComes_39 (by decide) (fun c4 => ?_) (fun c4 => ?_)
  · replace h := (if_pos c4).symm.trans h
    exact g_vret X hr hlk dX10_drawWhatComes_92 (by cases h; rfl)
  · replace h := (if_neg c4).symm.trans h
    refine g_aload_n X dX10_drawWhatComes_42 rfl 0 rfl ?_
    refine g_aload_n X dX10_drawWhatComes_43 rfl 0 rfl ?_
    refine g_get X fl_RX10_52 dX10_drawWhatComes_44 kd_0 (v := .ref (be θ + 428)) rfl ?_
    refine g_get X fl_RX10_137 dX10_drawWhatComes_47 kd_428 (v := rv (be θ) (mR q3.2 428 1)) rfl ?_
    obtain ⟨g5, h⟩ := ite_some h
    rw [← rv_of (β := be θ) g5 (by decide)]
    refine g_get X fl_RX10_287 dX10_drawWhatComes_50 g5 (v := .int (mI q3.2 (mR q3.2 428 1) 4)) rfl ?_
    obtain ⟨q6, hq6, h⟩ := Option.bind_eq_some_iff.mp h
    refine g_cV X (c_Game_draw  hq6) lk_RX10_284 my_X10_draw (a := 0) (ci := 10) kd_0 (by decide) rfl (As := [.int (mI q3.2 (mR q3.2 428 1) 4)]) (rest := []) rfl rfl (Nat.le_of_ble_eq_true rfl) ⟨(Nat.le_of_ble_eq_true rfl), (Nat.le_of_ble_eq_true rfl)⟩ ⟨(Nat.le_of_ble_eq_true rfl), (Nat.le_of_ble_eq_true rfl)⟩ dX10_drawWhatComes_53 (st' := [.int q6.1]) (σ' := q6.2) rfl rfl ?_
    refine g_istore_n X dX10_drawWhatComes_56 rfl (by decide) (lv' := [(1, .int q6.1), (0, .ref (be θ + 0))]) rfl ?_
    refine g_aload_n X dX10_drawWhatComes_57 rfl 1 rfl ?_
    refine g_bipush X dX10_drawWhatComes_58 (v := (10 : Int32)) bp_10 ?_
    obtain ⟨q7, hq7, h⟩ := Option.bind_eq_some_iff.mp h
    refine g_cV X (c_Game_draw  hq7) lk_RX10_284 my_X10_draw (a := 0) (ci := 10) kd_0 (by decide) rfl (As := [.int (10 : Int32)]) (rest := []) rfl rfl (Nat.le_of_ble_eq_true rfl) ⟨(Nat.le_of_ble_eq_true rfl), (Nat.le_of_ble_eq_true rfl)⟩ ⟨(Nat.le_of_ble_eq_true rfl), (Nat.le_of_ble_eq_true rfl)⟩ dX10_drawWhatComes_60 (st' := [.int q7.1]) (σ' := q7.2) rfl rfl ?_
    refine g_iconst X dX10_drawWhatComes_63 (v := (1 : Int32)) ic_1 ?_
    refine g_iadd X dX10_drawWhatComes_64 ?_
    refine g_istore_n X dX10_drawWhatComes_65 rfl (by decide) (lv' := [(2, .int (q7.1 + (1 : Int32))), (1, .int q6.1), (0, .ref (be θ + 0))]) rfl ?_
    refine g_aload_n X dX10_drawWhatComes_66 rfl 2 rfl ?_
    refine g_get X fl_RX10_35 dX10_drawWhatComes_67 kd_0 (v := .ref (be θ + 6)) rfl ?_
    refine g_get X fl_RX10_180 dX10_drawWhatComes_70 kd_6 (v := .ref (be θ + 12)) rfl ?_
    refine g_iload_n X dX10_drawWhatComes_73 rfl 1 rfl ?_
    refine g_sipush X dX10_drawWhatComes_74 (v := (999 : Int32)) sp_999 ?_
    refine g_aload_n X dX10_drawWhatComes_77 rfl 2 rfl ?_
    refine g_get X fl_RX10_35 dX10_drawWhatComes_78 kd_0 (v := .ref (be θ + 6)) rfl ?_
    refine g_get X fl_RX10_180 dX10_drawWhatComes_81 kd_6 (v := .ref (be θ + 12)) rfl ?_
    refine g_iload_n X dX10_drawWhatComes_84 rfl 1 rfl ?_
    obtain ⟨g8, h⟩ := ite_some h
    refine g_iald X kd_12 ln_12 (inb_in g8) dX10_drawWhatComes_85 ?_
    refine g_iload_n X dX10_drawWhatComes_86 rfl 0 rfl ?_
    refine g_iadd X dX10_drawWhatComes_87 ?_
    refine g_min X lm_RX10_290 ⟨(Nat.le_of_ble_eq_true rfl), (Nat.le_of_ble_eq_true rfl)⟩ ⟨(Nat.le_of_ble_eq_true rfl), (Nat.le_of_ble_eq_true rfl)⟩ dX10_drawWhatComes_88 ?_
    refine g_iast X kd_12 ln_12 (inb_in g8) dX10_drawWhatComes_91 ?_
    exact g_vret X hr hlk dX10_drawWhatComes_92 (by cases h; rfl)
set_option maxHeartbeats 4000000 in
set_option maxRecDepth 20000 in
theorem g_Game_drawWhatComes (X : Cx θ p s m args c cX10_drawWhatComes 3 RX10) (hr : meth.sig.returnType = none) (hlk : meth.locks = false)  {σ : Mem}  {r : Mem}  (h : f_Game_drawWhatComes σ  = some r) : GB θ p l e 1 s m args below meth c 3 (none, r) 0 [(0, .ref (be θ + 0))] [] σ := by
  unfold f_Game_drawWhatComes at h
  refine g_aload_n X dX10_drawWhatComes_0 rfl 0 rfl ?_
  refine g_bipush X dX10_drawWhatComes_1 (v := (10 : Int32)) bp_10 ?_
  obtain ⟨q1, hq1, h⟩ := Option.bind_eq_some_iff.mp h
  refine g_cV X (c_Game_draw  hq1) lk_RX10_284 my_X10_draw (a := 0) (ci := 10) kd_0 (by decide) rfl (As := [.int (10 : Int32)]) (rest := []) rfl rfl (Nat.le_of_ble_eq_true rfl) ⟨(Nat.le_of_ble_eq_true rfl), (Nat.le_of_ble_eq_true rfl)⟩ ⟨(Nat.le_of_ble_eq_true rfl), (Nat.le_of_ble_eq_true rfl)⟩ dX10_drawWhatComes_3 (st' := [.int q1.1]) (σ' := q1.2) rfl rfl ?_
  refine g_aload_n X dX10_drawWhatComes_6 rfl 0 rfl ?_
  refine g_get X fl_RX10_94 dX10_drawWhatComes_7 kd_0 (v := .int (mI q1.2 0 15)) rfl ?_
  refine g_icmp_ge (tgt := 32) X dX10_drawWhatComes_10 (by decide) (fun c2 => ?_) (fun c2 => ?_)
  · replace h := (if_pos c2).symm.trans h
    exact g_sub (lv' := [(0, .ref (be θ + 0))]) [0] rfl (g_Game_drawWhatComes_J32 X hr hlk    h)
  · replace h := (if_neg c2).symm.trans h
    refine g_aload_n X dX10_drawWhatComes_13 rfl 0 rfl ?_
    refine g_get X fl_RX10_35 dX10_drawWhatComes_14 kd_0 (v := .ref (be θ + 6)) rfl ?_
    refine g_dup X dX10_drawWhatComes_17 rfl ?_
    refine g_get X fl_RX10_262 dX10_drawWhatComes_18 kd_6 (v := .int (mI q1.2 6 12)) rfl ?_
    refine g_iconst X dX10_drawWhatComes_21 (v := (1 : Int32)) ic_1 ?_
    refine g_aload_n X dX10_drawWhatComes_22 rfl 0 rfl ?_
    refine g_iconst X dX10_drawWhatComes_23 (v := (4 : Int32)) ic_4 ?_
    obtain ⟨q9, hq9, h⟩ := Option.bind_eq_some_iff.mp h
    refine g_cV X (c_Game_draw  hq9) lk_RX10_284 my_X10_draw (a := 0) (ci := 10) kd_0 (by decide) rfl (As := [.int (4 : Int32)]) (rest := [.int (1 : Int32), .int (mI q1.2 6 12), .ref (be θ + 6)]) rfl rfl (Nat.le_of_ble_eq_true rfl) ⟨(Nat.le_of_ble_eq_true rfl), (Nat.le_of_ble_eq_true rfl)⟩ ⟨(Nat.le_of_ble_eq_true rfl), (Nat.le_of_ble_eq_true rfl)⟩ dX10_drawWhatComes_24 (st' := [.int q9.1, .int (1 : Int32), .int (mI q1.2 6 12), .ref (be θ + 6)]) (σ' := q9.2) rfl rfl ?_
    refine g_ishl X dX10_drawWhatComes_27 ?_
    refine g_ixor X dX10_drawWhatComes_28 ?_
    refine g_putI X fl_RX10_262 dX10_drawWhatComes_29 kd_6 rfl rfl rfl ?_
    exact g_sub (lv' := [(0, .ref (be θ + 0))]) [0] rfl (g_Game_drawWhatComes_J32 X hr hlk    h)
set_option maxHeartbeats 4000000 in
set_option maxRecDepth 20000 in
theorem c_Game_drawWhatComes {θ : Th} {l : Launch} {σ : Mem}  {r : Mem}  (h : f_Game_drawWhatComes σ  = some r) : Cn θ l yX10_drawWhatComes cX10_drawWhatComes 3 (none) 1 0 0 [.ref (be θ + 0)] σ (none, r) :=
  Cn.of (by decide) (Nat.le_of_ble_eq_true rfl) (fun p e s m below meth c X hr hlk => g_Game_drawWhatComes X hr hlk  h)
theorem dX10_years_0 : decode cX10_years 0 = .ok (.aload_n 0, 1) := by decide +kernel
theorem dX10_years_1 : decode cX10_years 1 = .ok (.getfield 52, 3) := by decide +kernel
theorem dX10_years_4 : decode cX10_years 4 = .ok (.invokevirtual 265, 3) := by decide +kernel
theorem dX10_years_7 : decode cX10_years 7 = .ok (.ifCond .eq 29, 3) := by decide +kernel
theorem dX10_years_10 : decode cX10_years 10 = .ok (.iload_n 1, 1) := by decide +kernel
theorem dX10_years_11 : decode cX10_years 11 = .ok (.iconst 1, 1) := by decide +kernel
theorem dX10_years_12 : decode cX10_years 12 = .ok (.if_icmp .lt 24, 3) := by decide +kernel
theorem dX10_years_15 : decode cX10_years 15 = .ok (.iload_n 1, 1) := by decide +kernel
theorem dX10_years_16 : decode cX10_years 16 = .ok (.bipush 30, 2) := by decide +kernel
theorem dX10_years_18 : decode cX10_years 18 = .ok (.if_icmp .gt 18, 3) := by decide +kernel
theorem dX10_years_21 : decode cX10_years 21 = .ok (.aload_n 0, 1) := by decide +kernel
theorem dX10_years_22 : decode cX10_years 22 = .ok (.getfield 35, 3) := by decide +kernel
theorem dX10_years_25 : decode cX10_years 25 = .ok (.getfield 278, 3) := by decide +kernel
theorem dX10_years_28 : decode cX10_years 28 = .ok (.iload_n 1, 1) := by decide +kernel
theorem dX10_years_29 : decode cX10_years 29 = .ok (.iadd, 1) := by decide +kernel
theorem dX10_years_30 : decode cX10_years 30 = .ok (.sipush 9999, 3) := by decide +kernel
theorem dX10_years_33 : decode cX10_years 33 = .ok (.if_icmp .le 5, 3) := by decide +kernel
theorem dX10_years_36 : decode cX10_years 36 = .ok (.iconst (-1), 1) := by decide +kernel
theorem dX10_years_37 : decode cX10_years 37 = .ok (.ireturn, 1) := by decide +kernel
theorem dX10_years_38 : decode cX10_years 38 = .ok (.aload_n 0, 1) := by decide +kernel
theorem dX10_years_39 : decode cX10_years 39 = .ok (.lload_n 2, 1) := by decide +kernel
theorem dX10_years_40 : decode cX10_years 40 = .ok (.putfield 101, 3) := by decide +kernel
theorem dX10_years_43 : decode cX10_years 43 = .ok (.iconst 0, 1) := by decide +kernel
theorem dX10_years_44 : decode cX10_years 44 = .ok (.istore 4, 2) := by decide +kernel
theorem dX10_years_46 : decode cX10_years 46 = .ok (.iload 4, 2) := by decide +kernel
theorem dX10_years_48 : decode cX10_years 48 = .ok (.iload_n 1, 1) := by decide +kernel
theorem dX10_years_49 : decode cX10_years 49 = .ok (.if_icmp .ge 35, 3) := by decide +kernel
theorem dX10_years_52 : decode cX10_years 52 = .ok (.aload_n 0, 1) := by decide +kernel
theorem dX10_years_53 : decode cX10_years 53 = .ok (.getfield 45, 3) := by decide +kernel
theorem dX10_years_56 : decode cX10_years 56 = .ok (.aload_n 0, 1) := by decide +kernel
theorem dX10_years_57 : decode cX10_years 57 = .ok (.getfield 35, 3) := by decide +kernel
theorem dX10_years_60 : decode cX10_years 60 = .ok (.invokevirtual 222, 3) := by decide +kernel
theorem dX10_years_63 : decode cX10_years 63 = .ok (.aload_n 0, 1) := by decide +kernel
theorem dX10_years_64 : decode cX10_years 64 = .ok (.invokevirtual 281, 3) := by decide +kernel
theorem dX10_years_67 : decode cX10_years 67 = .ok (.aload_n 0, 1) := by decide +kernel
theorem dX10_years_68 : decode cX10_years 68 = .ok (.getfield 52, 3) := by decide +kernel
theorem dX10_years_71 : decode cX10_years 71 = .ok (.aload_n 0, 1) := by decide +kernel
theorem dX10_years_72 : decode cX10_years 72 = .ok (.getfield 35, 3) := by decide +kernel
theorem dX10_years_75 : decode cX10_years 75 = .ok (.invokevirtual 253, 3) := by decide +kernel
theorem dX10_years_78 : decode cX10_years 78 = .ok (.iinc 4 1, 3) := by decide +kernel
theorem dX10_years_81 : decode cX10_years 81 = .ok (.goto (-35), 3) := by decide +kernel
theorem dX10_years_84 : decode cX10_years 84 = .ok (.aload_n 0, 1) := by decide +kernel
theorem dX10_years_85 : decode cX10_years 85 = .ok (.getfield 35, 3) := by decide +kernel
theorem dX10_years_88 : decode cX10_years 88 = .ok (.getfield 278, 3) := by decide +kernel
theorem dX10_years_91 : decode cX10_years 91 = .ok (.ireturn, 1) := by decide +kernel
def f_Game_years_L46 (x1 : Int32) (x2 : Int64) (a : Mem × Int32) : Option ((Mem × Int32) ⊕ (Int32 × Mem)) :=
  @Prod.casesOn (Mem) (Int32) (fun _ => Option ((Mem × Int32) ⊕ (Int32 × Mem))) a fun τ z4 =>
  if x1 ≤ z4 then
    some (.inr ((mI τ 6 14), τ))
  else
    (f_History_keep τ 6).bind fun q7 =>
    (f_Game_drawWhatComes q7).bind fun q8 =>
    (f_Trade_passHour q8 6).bind fun q9 =>
    some (.inl (q9, (z4 + (1 : Int32))))
def f_Game_years (σ : Mem) (x1 : Int32) (x2 : Int64) : Option (Int32 × Mem) :=
  (f_Trade_hasCity σ).bind fun q1 =>
  if q1 = (0 : Int32) then
    some ((-1 : Int32), σ)
  else
    if x1 < (1 : Int32) then
      some ((-1 : Int32), σ)
    else
      if (30 : Int32) < x1 then
        some ((-1 : Int32), σ)
      else
        if ((mI σ 6 14) + x1) ≤ (9999 : Int32) then
          loopF (f_Game_years_L46 x1 x2) FU ((sL σ 0 17 x2), (0 : Int32))
        else
          some ((-1 : Int32), σ)
set_option maxHeartbeats 4000000 in
set_option maxRecDepth 20000 in
theorem gs_Game_years_L46 (X : Cx θ p s m args c cX10_years 5 RX10) (hr : meth.sig.returnType = some .int) (hlk : meth.locks = false)  {x1 : Int32} {x2 : Int64} {r : Int32 × Mem}  (τ : Mem) (z4 : Int32) (x : (Mem × Int32) ⊕ (Int32 × Mem)) (h : f_Game_years_L46 x1 x2 (τ, z4) = some x) (hk : Sum.elim (fun a => @Prod.casesOn (Mem) (Int32) (fun _ => Prop) a fun τ z4 => GB θ p l e 5 s m args below meth c 5 (some (.int r.1), r.2) 46 [(0, .ref (be θ + 0)), (1, .int x1), (2, .long x2), (4, .int z4)] [] τ) (fun b => b = r) x) : GB θ p l e 5 s m args below meth c 5 (some (.int r.1), r.2) 46 [(0, .ref (be θ + 0)), (1, .int x1), (2, .long x2), (4, .int z4)] [] τ := by
  unfold f_Game_years_L46 at h
  dsimp only at h
  refine g_iload X dX10_years_46 3 rfl ?_
  refine g_iload_n X dX10_years_48 rfl 1 rfl ?_
  refine g_icmp_ge (tgt := 84) X dX10_years_49 (by decide) (fun c6 => ?_) (fun c6 => ?_)
  · replace h := (if_pos c6).symm.trans h
    refine g_aload_n X dX10_years_84 rfl 0 rfl ?_
    refine g_get X fl_RX10_35 dX10_years_85 kd_0 (v := .ref (be θ + 6)) rfl ?_
    refine g_get X fl_RX10_278 dX10_years_88 kd_6 (v := .int (mI τ 6 14)) rfl ?_
    have hk := inr_hk h hk
    have hk : ((mI τ 6 14), τ) = r := hk
    subst hk
    exact g_iret X hr hlk dX10_years_91 rfl
  · replace h := (if_neg c6).symm.trans h
    refine g_aload_n X dX10_years_52 rfl 0 rfl ?_
    refine g_get X fl_RX10_45 dX10_years_53 kd_0 (v := .ref (be θ + 26)) rfl ?_
    refine g_aload_n X dX10_years_56 rfl 0 rfl ?_
    refine g_get X fl_RX10_35 dX10_years_57 kd_0 (v := .ref (be θ + 6)) rfl ?_
    obtain ⟨q7, hq7, h⟩ := Option.bind_eq_some_iff.mp h
    refine g_cV X (c_History_keep kd_6 hq7) lk_RX10_222 my_X4_keep (a := 26) (ci := 4) kd_26 (by decide) rfl (As := [.ref (be θ + 6)]) (rest := []) rfl rfl (Nat.le_of_ble_eq_true rfl) ⟨(Nat.le_of_ble_eq_true rfl), (Nat.le_of_ble_eq_true rfl)⟩ ⟨(Nat.le_of_ble_eq_true rfl), (Nat.le_of_ble_eq_true rfl)⟩ dX10_years_60 (st' := []) (σ' := q7) rfl rfl ?_
    refine g_aload_n X dX10_years_63 rfl 0 rfl ?_
    obtain ⟨q8, hq8, h⟩ := Option.bind_eq_some_iff.mp h
    refine g_cV X (c_Game_drawWhatComes  hq8) lk_RX10_281 my_X10_drawWhatComes (a := 0) (ci := 10) kd_0 (by decide) rfl (As := []) (rest := []) rfl rfl (Nat.le_of_ble_eq_true rfl) ⟨(Nat.le_of_ble_eq_true rfl), (Nat.le_of_ble_eq_true rfl)⟩ ⟨(Nat.le_of_ble_eq_true rfl), (Nat.le_of_ble_eq_true rfl)⟩ dX10_years_64 (st' := []) (σ' := q8) rfl rfl ?_
    refine g_aload_n X dX10_years_67 rfl 0 rfl ?_
    refine g_get X fl_RX10_52 dX10_years_68 kd_0 (v := .ref (be θ + 428)) rfl ?_
    refine g_aload_n X dX10_years_71 rfl 0 rfl ?_
    refine g_get X fl_RX10_35 dX10_years_72 kd_0 (v := .ref (be θ + 6)) rfl ?_
    obtain ⟨q9, hq9, h⟩ := Option.bind_eq_some_iff.mp h
    refine g_cV X (c_Trade_passHour kd_6 hq9) lk_RX10_253 my_X9_passHour (a := 428) (ci := 9) kd_428 (by decide) rfl (As := [.ref (be θ + 6)]) (rest := []) rfl rfl (Nat.le_of_ble_eq_true rfl) ⟨(Nat.le_of_ble_eq_true rfl), (Nat.le_of_ble_eq_true rfl)⟩ ⟨(Nat.le_of_ble_eq_true rfl), (Nat.le_of_ble_eq_true rfl)⟩ dX10_years_75 (st' := []) (σ' := q9) rfl rfl ?_
    refine g_iinc X dX10_years_78 (kq := 3) rfl (congrArg (HAdd.hAdd _) ic_1) (by decide) (lv' := [(4, .int (z4 + (1 : Int32))), (0, .ref (be θ + 0)), (1, .int x1), (2, .long x2)]) rfl ?_
    refine g_goto (tgt := 46) X dX10_years_81 (by decide) ?_
    have hk := inl_hk h hk
    exact g_sub (lv' := [(0, .ref (be θ + 0)), (1, .int x1), (2, .long x2), (4, .int (z4 + (1 : Int32)))]) [1, 2, 3, 0] rfl hk
set_option maxHeartbeats 4000000 in
set_option maxRecDepth 20000 in
theorem gl_Game_years_L46 (X : Cx θ p s m args c cX10_years 5 RX10) (hr : meth.sig.returnType = some .int) (hlk : meth.locks = false)  {x1 : Int32} {x2 : Int64} {r : Int32 × Mem}  (n : Nat) (a : Mem × Int32) (b : Int32 × Mem) (h : loopF (f_Game_years_L46 x1 x2) n a = some b) (hk : (fun b => b = r) b) : (fun a => @Prod.casesOn (Mem) (Int32) (fun _ => Prop) a fun τ z4 => GB θ p l e 5 s m args below meth c 5 (some (.int r.1), r.2) 46 [(0, .ref (be θ + 0)), (1, .int x1), (2, .long x2), (4, .int z4)] [] τ) a :=
  loopF_by (P := (fun a => @Prod.casesOn (Mem) (Int32) (fun _ => Prop) a fun τ z4 => GB θ p l e 5 s m args below meth c 5 (some (.int r.1), r.2) 46 [(0, .ref (be θ + 0)), (1, .int x1), (2, .long x2), (4, .int z4)] [] τ)) (K := (fun b => b = r)) (fun a x h hk => by obtain ⟨τ, z4⟩ := a; exact gs_Game_years_L46 X hr hlk   τ z4 x h hk) n a b h hk
set_option maxHeartbeats 4000000 in
set_option maxRecDepth 20000 in
theorem g_Game_years (X : Cx θ p s m args c cX10_years 5 RX10) (hr : meth.sig.returnType = some .int) (hlk : meth.locks = false)  {σ : Mem} {x1 : Int32} {x2 : Int64} {r : Int32 × Mem}  (h : f_Game_years σ x1 x2 = some r) : GB θ p l e 5 s m args below meth c 5 (some (.int r.1), r.2) 0 [(0, .ref (be θ + 0)), (1, .int x1), (2, .long x2)] [] σ := by
  unfold f_Game_years at h
  refine g_aload_n X dX10_years_0 rfl 0 rfl ?_
  refine g_get X fl_RX10_52 dX10_years_1 kd_0 (v := .ref (be θ + 428)) rfl ?_
  obtain ⟨q1, hq1, h⟩ := Option.bind_eq_some_iff.mp h
  refine g_cV X (c_Trade_hasCity  hq1) lk_RX10_265 my_X9_hasCity (a := 428) (ci := 9) kd_428 (by decide) rfl (As := []) (rest := []) rfl rfl (Nat.le_of_ble_eq_true rfl) ⟨(Nat.le_of_ble_eq_true rfl), (Nat.le_of_ble_eq_true rfl)⟩ ⟨(Nat.le_of_ble_eq_true rfl), (Nat.le_of_ble_eq_true rfl)⟩ dX10_years_4 (st' := [.int q1]) (σ' := σ) rfl rfl ?_
  refine g_if_eq (tgt := 36) X dX10_years_7 (by decide) (fun c2 => ?_) (fun c2 => ?_)
  · replace h := (if_pos c2).symm.trans h
    refine g_iconst X dX10_years_36 (v := (-1 : Int32)) ic_m1 ?_
    exact g_iret X hr hlk dX10_years_37 (by cases h; rfl)
  · replace h := (if_neg c2).symm.trans h
    refine g_iload_n X dX10_years_10 rfl 1 rfl ?_
    refine g_iconst X dX10_years_11 (v := (1 : Int32)) ic_1 ?_
    refine g_icmp_lt (tgt := 36) X dX10_years_12 (by decide) (fun c3 => ?_) (fun c3 => ?_)
    · replace h := (if_pos c3).symm.trans h
      refine g_iconst X dX10_years_36 (v := (-1 : Int32)) ic_m1 ?_
      exact g_iret X hr hlk dX10_years_37 (by cases h; rfl)
    · replace h := (if_neg c3).symm.trans h
      refine g_iload_n X dX10_years_15 rfl 1 rfl ?_
      refine g_bipush X dX10_years_16 (v := (30 : Int32)) bp_30 ?_
      refine g_icmp_gt (tgt := 36) X dX10_years_18 (by decide) (fun c4 => ?_) (fun c4 => ?_)
      · replace h := (if_pos c4).symm.trans h
        refine g_iconst X dX10_years_36 (v := (-1 : Int32)) ic_m1 ?_
        exact g_iret X hr hlk dX10_years_37 (by cases h; rfl)
      · replace h := (if_neg c4).symm.trans h
        refine g_aload_n X dX10_years_21 rfl 0 rfl ?_
        refine g_get X fl_RX10_35 dX10_years_22 kd_0 (v := .ref (be θ + 6)) rfl ?_
        refine g_get X fl_RX10_278 dX10_years_25 kd_6 (v := .int (mI σ 6 14)) rfl ?_
        refine g_iload_n X dX10_years_28 rfl 1 rfl ?_
        refine g_iadd X dX10_years_29 ?_
        refine g_sipush X dX10_years_30 (v := (9999 : Int32)) sp_9999 ?_
        refine g_icmp_le (tgt := 38) X dX10_years_33 (by decide) (fun c5 => ?_) (fun c5 => ?_)
        · replace h := (if_pos c5).symm.trans h
          refine g_aload_n X dX10_years_38 rfl 0 rfl ?_
          refine g_lload_n X dX10_years_39 rfl 2 rfl ?_
          refine g_putJ X fl_RX10_101 dX10_years_40 kd_0 rfl rfl rfl ?_
          refine g_iconst X dX10_years_43 (v := (0 : Int32)) ic_0 ?_
          refine g_istore X dX10_years_44 (by decide) (lv' := [(4, .int (0 : Int32)), (0, .ref (be θ + 0)), (1, .int x1), (2, .long x2)]) rfl ?_
          exact g_sub (lv' := [(0, .ref (be θ + 0)), (1, .int x1), (2, .long x2), (4, .int (0 : Int32))]) [1, 2, 3, 0] rfl (gl_Game_years_L46 X hr hlk    FU _ _ h rfl)
        · replace h := (if_neg c5).symm.trans h
          refine g_iconst X dX10_years_36 (v := (-1 : Int32)) ic_m1 ?_
          exact g_iret X hr hlk dX10_years_37 (by cases h; rfl)
set_option maxHeartbeats 4000000 in
set_option maxRecDepth 20000 in
theorem c_Game_years {θ : Th} {l : Launch} {σ : Mem} {x1 : Int32} {x2 : Int64} {r : Int32 × Mem}  (h : f_Game_years σ x1 x2 = some r) : Cn θ l yX10_years cX10_years 5 (some .int) 5 0 0 [.ref (be θ + 0), .int x1, .long x2] σ (some (.int r.1), r.2) :=
  Cn.of (by decide) (Nat.le_of_ble_eq_true rfl) (fun p e s m below meth c X hr hlk => g_Game_years X hr hlk  h)
theorem dX10_status_0 : decode cX10_status 0 = .ok (.iload_n 1, 1) := by decide +kernel
theorem dX10_status_1 : decode cX10_status 1 = .ok (.ifCond .lt 9, 3) := by decide +kernel
theorem dX10_status_4 : decode cX10_status 4 = .ok (.iload_n 1, 1) := by decide +kernel
theorem dX10_status_5 : decode cX10_status 5 = .ok (.bipush 6, 2) := by decide +kernel
theorem dX10_status_7 : decode cX10_status 7 = .ok (.if_icmp .lt 7, 3) := by decide +kernel
theorem dX10_status_10 : decode cX10_status 10 = .ok (.iconst (-1), 1) := by decide +kernel
theorem dX10_status_11 : decode cX10_status 11 = .ok (.goto 9, 3) := by decide +kernel
theorem dX10_status_14 : decode cX10_status 14 = .ok (.aload_n 0, 1) := by decide +kernel
theorem dX10_status_15 : decode cX10_status 15 = .ok (.getfield 28, 3) := by decide +kernel
theorem dX10_status_18 : decode cX10_status 18 = .ok (.iload_n 1, 1) := by decide +kernel
theorem dX10_status_19 : decode cX10_status 19 = .ok (.iaload, 1) := by decide +kernel
theorem dX10_status_20 : decode cX10_status 20 = .ok (.ireturn, 1) := by decide +kernel
def f_Game_status (σ : Mem) (x1 : Int32) : Option (Int32) :=
  if x1 < (0 : Int32) then
    some (-1 : Int32)
  else
    if x1 < (6 : Int32) then
      if inb x1 6 then
        some (mI σ 5 x1.toNatClampNeg)
      else none
    else
      some (-1 : Int32)
set_option maxHeartbeats 4000000 in
set_option maxRecDepth 20000 in
theorem g_Game_status (X : Cx θ p s m args c cX10_status 2 RX10) (hr : meth.sig.returnType = some .int) (hlk : meth.locks = false)  {σ : Mem} {x1 : Int32} {r : Int32}  (h : f_Game_status σ x1 = some r) : GB θ p l e 0 s m args below meth c 2 (some (.int r), σ) 0 [(0, .ref (be θ + 0)), (1, .int x1)] [] σ := by
  unfold f_Game_status at h
  refine g_iload_n X dX10_status_0 rfl 1 rfl ?_
  refine g_if_lt (tgt := 10) X dX10_status_1 (by decide) (fun c1 => ?_) (fun c1 => ?_)
  · replace h := (if_pos c1).symm.trans h
    refine g_iconst X dX10_status_10 (v := (-1 : Int32)) ic_m1 ?_
    refine g_goto (tgt := 20) X dX10_status_11 (by decide) ?_
    exact g_iret X hr hlk dX10_status_20 (by cases h; rfl)
  · replace h := (if_neg c1).symm.trans h
    refine g_iload_n X dX10_status_4 rfl 1 rfl ?_
    refine g_bipush X dX10_status_5 (v := (6 : Int32)) bp_6 ?_
    refine g_icmp_lt (tgt := 14) X dX10_status_7 (by decide) (fun c2 => ?_) (fun c2 => ?_)
    · replace h := (if_pos c2).symm.trans h
      refine g_aload_n X dX10_status_14 rfl 0 rfl ?_
      refine g_get X fl_RX10_28 dX10_status_15 kd_0 (v := .ref (be θ + 5)) rfl ?_
      refine g_iload_n X dX10_status_18 rfl 1 rfl ?_
      obtain ⟨g3, h⟩ := ite_some h
      refine g_iald X kd_5 ln_5 (inb_in g3) dX10_status_19 ?_
      exact g_iret X hr hlk dX10_status_20 (by cases h; rfl)
    · replace h := (if_neg c2).symm.trans h
      refine g_iconst X dX10_status_10 (v := (-1 : Int32)) ic_m1 ?_
      refine g_goto (tgt := 20) X dX10_status_11 (by decide) ?_
      exact g_iret X hr hlk dX10_status_20 (by cases h; rfl)
set_option maxHeartbeats 4000000 in
set_option maxRecDepth 20000 in
theorem c_Game_status {θ : Th} {l : Launch} {σ : Mem} {x1 : Int32} {r : Int32}  (h : f_Game_status σ x1 = some r) : Cn θ l yX10_status cX10_status 2 (some .int) 0 0 0 [.ref (be θ + 0), .int x1] σ (some (.int r), σ) :=
  Cn.of (by decide) (Nat.le_of_ble_eq_true rfl) (fun p e s m below meth c X hr hlk => g_Game_status X hr hlk  h)
theorem dX10_undo_0 : decode cX10_undo 0 = .ok (.aload_n 0, 1) := by decide +kernel
theorem dX10_undo_1 : decode cX10_undo 1 = .ok (.getfield 45, 3) := by decide +kernel
theorem dX10_undo_4 : decode cX10_undo 4 = .ok (.getfield 299, 3) := by decide +kernel
theorem dX10_undo_7 : decode cX10_undo 7 = .ok (.ifCond .ne 5, 3) := by decide +kernel
theorem dX10_undo_10 : decode cX10_undo 10 = .ok (.iconst (-1), 1) := by decide +kernel
theorem dX10_undo_11 : decode cX10_undo 11 = .ok (.ireturn, 1) := by decide +kernel
theorem dX10_undo_12 : decode cX10_undo 12 = .ok (.aload_n 0, 1) := by decide +kernel
theorem dX10_undo_13 : decode cX10_undo 13 = .ok (.getfield 45, 3) := by decide +kernel
theorem dX10_undo_16 : decode cX10_undo 16 = .ok (.aload_n 0, 1) := by decide +kernel
theorem dX10_undo_17 : decode cX10_undo 17 = .ok (.getfield 35, 3) := by decide +kernel
theorem dX10_undo_20 : decode cX10_undo 20 = .ok (.invokevirtual 302, 3) := by decide +kernel
theorem dX10_undo_23 : decode cX10_undo 23 = .ok (.aload_n 0, 1) := by decide +kernel
theorem dX10_undo_24 : decode cX10_undo 24 = .ok (.getfield 45, 3) := by decide +kernel
theorem dX10_undo_27 : decode cX10_undo 27 = .ok (.getfield 299, 3) := by decide +kernel
theorem dX10_undo_30 : decode cX10_undo 30 = .ok (.ireturn, 1) := by decide +kernel
def f_Game_undo (σ : Mem)  : Option (Int32 × Mem) :=
  if (mI σ 26 2) = (0 : Int32) then
    some ((-1 : Int32), σ)
  else
    (f_History_restore σ 6).bind fun q2 =>
    some ((mI q2 26 2), q2)
set_option maxHeartbeats 4000000 in
set_option maxRecDepth 20000 in
theorem g_Game_undo (X : Cx θ p s m args c cX10_undo 1 RX10) (hr : meth.sig.returnType = some .int) (hlk : meth.locks = false)  {σ : Mem}  {r : Int32 × Mem}  (h : f_Game_undo σ  = some r) : GB θ p l e 3 s m args below meth c 1 (some (.int r.1), r.2) 0 [(0, .ref (be θ + 0))] [] σ := by
  unfold f_Game_undo at h
  refine g_aload_n X dX10_undo_0 rfl 0 rfl ?_
  refine g_get X fl_RX10_45 dX10_undo_1 kd_0 (v := .ref (be θ + 26)) rfl ?_
  refine g_get X fl_RX10_299 dX10_undo_4 kd_26 (v := .int (mI σ 26 2)) rfl ?_
  refine g_if_ne (tgt := 12) X dX10_undo_7 (by decide) (fun c1 => ?_) (fun c1 => ?_)
  · replace h := (if_neg c1).symm.trans h
    refine g_aload_n X dX10_undo_12 rfl 0 rfl ?_
    refine g_get X fl_RX10_45 dX10_undo_13 kd_0 (v := .ref (be θ + 26)) rfl ?_
    refine g_aload_n X dX10_undo_16 rfl 0 rfl ?_
    refine g_get X fl_RX10_35 dX10_undo_17 kd_0 (v := .ref (be θ + 6)) rfl ?_
    obtain ⟨q2, hq2, h⟩ := Option.bind_eq_some_iff.mp h
    refine g_cV X (c_History_restore kd_6 hq2) lk_RX10_302 my_X4_restore (a := 26) (ci := 4) kd_26 (by decide) rfl (As := [.ref (be θ + 6)]) (rest := []) rfl rfl (Nat.le_of_ble_eq_true rfl) ⟨(Nat.le_of_ble_eq_true rfl), (Nat.le_of_ble_eq_true rfl)⟩ ⟨(Nat.le_of_ble_eq_true rfl), (Nat.le_of_ble_eq_true rfl)⟩ dX10_undo_20 (st' := []) (σ' := q2) rfl rfl ?_
    refine g_aload_n X dX10_undo_23 rfl 0 rfl ?_
    refine g_get X fl_RX10_45 dX10_undo_24 kd_0 (v := .ref (be θ + 26)) rfl ?_
    refine g_get X fl_RX10_299 dX10_undo_27 kd_26 (v := .int (mI q2 26 2)) rfl ?_
    exact g_iret X hr hlk dX10_undo_30 (by cases h; rfl)
  · replace h := (if_pos c1).symm.trans h
    refine g_iconst X dX10_undo_10 (v := (-1 : Int32)) ic_m1 ?_
    exact g_iret X hr hlk dX10_undo_11 (by cases h; rfl)
set_option maxHeartbeats 4000000 in
set_option maxRecDepth 20000 in
theorem c_Game_undo {θ : Th} {l : Launch} {σ : Mem}  {r : Int32 × Mem}  (h : f_Game_undo σ  = some r) : Cn θ l yX10_undo cX10_undo 1 (some .int) 3 0 0 [.ref (be θ + 0)] σ (some (.int r.1), r.2) :=
  Cn.of (by decide) (Nat.le_of_ble_eq_true rfl) (fun p e s m below meth c X hr hlk => g_Game_undo X hr hlk  h)
theorem dX10_log_0 : decode cX10_log 0 = .ok (.iload_n 1, 1) := by decide +kernel
theorem dX10_log_1 : decode cX10_log 1 = .ok (.ifCond .lt 23, 3) := by decide +kernel
theorem dX10_log_4 : decode cX10_log 4 = .ok (.iload_n 1, 1) := by decide +kernel
theorem dX10_log_5 : decode cX10_log 5 = .ok (.aload_n 0, 1) := by decide +kernel
theorem dX10_log_6 : decode cX10_log 6 = .ok (.getfield 35, 3) := by decide +kernel
theorem dX10_log_9 : decode cX10_log 9 = .ok (.getfield 305, 3) := by decide +kernel
theorem dX10_log_12 : decode cX10_log 12 = .ok (.if_icmp .ge 12, 3) := by decide +kernel
theorem dX10_log_15 : decode cX10_log 15 = .ok (.iload_n 2, 1) := by decide +kernel
theorem dX10_log_16 : decode cX10_log 16 = .ok (.ifCond .lt 8, 3) := by decide +kernel
theorem dX10_log_19 : decode cX10_log 19 = .ok (.iload_n 2, 1) := by decide +kernel
theorem dX10_log_20 : decode cX10_log 20 = .ok (.iconst 2, 1) := by decide +kernel
theorem dX10_log_21 : decode cX10_log 21 = .ok (.if_icmp .le 5, 3) := by decide +kernel
theorem dX10_log_24 : decode cX10_log 24 = .ok (.iconst (-1), 1) := by decide +kernel
theorem dX10_log_25 : decode cX10_log 25 = .ok (.ireturn, 1) := by decide +kernel
theorem dX10_log_26 : decode cX10_log 26 = .ok (.aload_n 0, 1) := by decide +kernel
theorem dX10_log_27 : decode cX10_log 27 = .ok (.getfield 35, 3) := by decide +kernel
theorem dX10_log_30 : decode cX10_log 30 = .ok (.getfield 308, 3) := by decide +kernel
theorem dX10_log_33 : decode cX10_log 33 = .ok (.aload_n 0, 1) := by decide +kernel
theorem dX10_log_34 : decode cX10_log 34 = .ok (.getfield 35, 3) := by decide +kernel
theorem dX10_log_37 : decode cX10_log 37 = .ok (.getfield 305, 3) := by decide +kernel
theorem dX10_log_40 : decode cX10_log 40 = .ok (.iconst 1, 1) := by decide +kernel
theorem dX10_log_41 : decode cX10_log 41 = .ok (.isub, 1) := by decide +kernel
theorem dX10_log_42 : decode cX10_log 42 = .ok (.iload_n 1, 1) := by decide +kernel
theorem dX10_log_43 : decode cX10_log 43 = .ok (.isub, 1) := by decide +kernel
theorem dX10_log_44 : decode cX10_log 44 = .ok (.iconst 3, 1) := by decide +kernel
theorem dX10_log_45 : decode cX10_log 45 = .ok (.imul, 1) := by decide +kernel
theorem dX10_log_46 : decode cX10_log 46 = .ok (.iload_n 2, 1) := by decide +kernel
theorem dX10_log_47 : decode cX10_log 47 = .ok (.iadd, 1) := by decide +kernel
theorem dX10_log_48 : decode cX10_log 48 = .ok (.iaload, 1) := by decide +kernel
theorem dX10_log_49 : decode cX10_log 49 = .ok (.ireturn, 1) := by decide +kernel
def f_Game_log (σ : Mem) (x1 : Int32) (x2 : Int32) : Option (Int32) :=
  if x1 < (0 : Int32) then
    some (-1 : Int32)
  else
    if (mI σ 6 10) ≤ x1 then
      some (-1 : Int32)
    else
      if x2 < (0 : Int32) then
        some (-1 : Int32)
      else
        if x2 ≤ (2 : Int32) then
          if inb (((((mI σ 6 10) - (1 : Int32)) - x1) * (3 : Int32)) + x2) 180 then
            some (mI σ 15 (((((mI σ 6 10) - (1 : Int32)) - x1) * (3 : Int32)) + x2).toNatClampNeg)
          else none
        else
          some (-1 : Int32)
set_option maxHeartbeats 4000000 in
set_option maxRecDepth 20000 in
theorem g_Game_log (X : Cx θ p s m args c cX10_log 3 RX10) (hr : meth.sig.returnType = some .int) (hlk : meth.locks = false)  {σ : Mem} {x1 : Int32} {x2 : Int32} {r : Int32}  (h : f_Game_log σ x1 x2 = some r) : GB θ p l e 0 s m args below meth c 3 (some (.int r), σ) 0 [(0, .ref (be θ + 0)), (1, .int x1), (2, .int x2)] [] σ := by
  unfold f_Game_log at h
  refine g_iload_n X dX10_log_0 rfl 1 rfl ?_
  refine g_if_lt (tgt := 24) X dX10_log_1 (by decide) (fun c1 => ?_) (fun c1 => ?_)
  · replace h := (if_pos c1).symm.trans h
    refine g_iconst X dX10_log_24 (v := (-1 : Int32)) ic_m1 ?_
    exact g_iret X hr hlk dX10_log_25 (by cases h; rfl)
  · replace h := (if_neg c1).symm.trans h
    refine g_iload_n X dX10_log_4 rfl 1 rfl ?_
    refine g_aload_n X dX10_log_5 rfl 0 rfl ?_
    refine g_get X fl_RX10_35 dX10_log_6 kd_0 (v := .ref (be θ + 6)) rfl ?_
    refine g_get X fl_RX10_305 dX10_log_9 kd_6 (v := .int (mI σ 6 10)) rfl ?_
    refine g_icmp_ge (tgt := 24) X dX10_log_12 (by decide) (fun c2 => ?_) (fun c2 => ?_)
    · replace h := (if_pos c2).symm.trans h
      refine g_iconst X dX10_log_24 (v := (-1 : Int32)) ic_m1 ?_
      exact g_iret X hr hlk dX10_log_25 (by cases h; rfl)
    · replace h := (if_neg c2).symm.trans h
      refine g_iload_n X dX10_log_15 rfl 2 rfl ?_
      refine g_if_lt (tgt := 24) X dX10_log_16 (by decide) (fun c3 => ?_) (fun c3 => ?_)
      · replace h := (if_pos c3).symm.trans h
        refine g_iconst X dX10_log_24 (v := (-1 : Int32)) ic_m1 ?_
        exact g_iret X hr hlk dX10_log_25 (by cases h; rfl)
      · replace h := (if_neg c3).symm.trans h
        refine g_iload_n X dX10_log_19 rfl 2 rfl ?_
        refine g_iconst X dX10_log_20 (v := (2 : Int32)) ic_2 ?_
        refine g_icmp_le (tgt := 26) X dX10_log_21 (by decide) (fun c4 => ?_) (fun c4 => ?_)
        · replace h := (if_pos c4).symm.trans h
          refine g_aload_n X dX10_log_26 rfl 0 rfl ?_
          refine g_get X fl_RX10_35 dX10_log_27 kd_0 (v := .ref (be θ + 6)) rfl ?_
          refine g_get X fl_RX10_308 dX10_log_30 kd_6 (v := .ref (be θ + 15)) rfl ?_
          refine g_aload_n X dX10_log_33 rfl 0 rfl ?_
          refine g_get X fl_RX10_35 dX10_log_34 kd_0 (v := .ref (be θ + 6)) rfl ?_
          refine g_get X fl_RX10_305 dX10_log_37 kd_6 (v := .int (mI σ 6 10)) rfl ?_
          refine g_iconst X dX10_log_40 (v := (1 : Int32)) ic_1 ?_
          refine g_isub X dX10_log_41 ?_
          refine g_iload_n X dX10_log_42 rfl 1 rfl ?_
          refine g_isub X dX10_log_43 ?_
          refine g_iconst X dX10_log_44 (v := (3 : Int32)) ic_3 ?_
          refine g_imul X dX10_log_45 ?_
          refine g_iload_n X dX10_log_46 rfl 2 rfl ?_
          refine g_iadd X dX10_log_47 ?_
          obtain ⟨g5, h⟩ := ite_some h
          refine g_iald X kd_15 ln_15 (inb_in g5) dX10_log_48 ?_
          exact g_iret X hr hlk dX10_log_49 (by cases h; rfl)
        · replace h := (if_neg c4).symm.trans h
          refine g_iconst X dX10_log_24 (v := (-1 : Int32)) ic_m1 ?_
          exact g_iret X hr hlk dX10_log_25 (by cases h; rfl)
set_option maxHeartbeats 4000000 in
set_option maxRecDepth 20000 in
theorem c_Game_log {θ : Th} {l : Launch} {σ : Mem} {x1 : Int32} {x2 : Int32} {r : Int32}  (h : f_Game_log σ x1 x2 = some r) : Cn θ l yX10_log cX10_log 3 (some .int) 0 0 0 [.ref (be θ + 0), .int x1, .int x2] σ (some (.int r), σ) :=
  Cn.of (by decide) (Nat.le_of_ble_eq_true rfl) (fun p e s m below meth c X hr hlk => g_Game_log X hr hlk  h)
theorem dX10_step_0 : decode cX10_step 0 = .ok (.iload_n 1, 1) := by decide +kernel
theorem dX10_step_1 : decode cX10_step 1 = .ok (.ifCond .lt 37, 3) := by decide +kernel
theorem dX10_step_4 : decode cX10_step 4 = .ok (.iload_n 1, 1) := by decide +kernel
theorem dX10_step_5 : decode cX10_step 5 = .ok (.aload_n 0, 1) := by decide +kernel
theorem dX10_step_6 : decode cX10_step 6 = .ok (.getfield 91, 3) := by decide +kernel
theorem dX10_step_9 : decode cX10_step 9 = .ok (.if_icmp .ge 29, 3) := by decide +kernel
theorem dX10_step_12 : decode cX10_step 12 = .ok (.iload_n 2, 1) := by decide +kernel
theorem dX10_step_13 : decode cX10_step 13 = .ok (.ifCond .lt 25, 3) := by decide +kernel
theorem dX10_step_16 : decode cX10_step 16 = .ok (.iload_n 2, 1) := by decide +kernel
theorem dX10_step_17 : decode cX10_step 17 = .ok (.aload_n 0, 1) := by decide +kernel
theorem dX10_step_18 : decode cX10_step 18 = .ok (.getfield 24, 3) := by decide +kernel
theorem dX10_step_21 : decode cX10_step 21 = .ok (.iload_n 1, 1) := by decide +kernel
theorem dX10_step_22 : decode cX10_step 22 = .ok (.aaload, 1) := by decide +kernel
theorem dX10_step_23 : decode cX10_step 23 = .ok (.getfield 311, 3) := by decide +kernel
theorem dX10_step_26 : decode cX10_step 26 = .ok (.if_icmp .ge 12, 3) := by decide +kernel
theorem dX10_step_29 : decode cX10_step 29 = .ok (.iload_n 3, 1) := by decide +kernel
theorem dX10_step_30 : decode cX10_step 30 = .ok (.ifCond .lt 8, 3) := by decide +kernel
theorem dX10_step_33 : decode cX10_step 33 = .ok (.iload_n 3, 1) := by decide +kernel
theorem dX10_step_34 : decode cX10_step 34 = .ok (.iconst 2, 1) := by decide +kernel
theorem dX10_step_35 : decode cX10_step 35 = .ok (.if_icmp .le 6, 3) := by decide +kernel
theorem dX10_step_38 : decode cX10_step 38 = .ok (.ldc 155, 2) := by decide +kernel
theorem dX10_step_40 : decode cX10_step 40 = .ok (.ireturn, 1) := by decide +kernel
theorem dX10_step_41 : decode cX10_step 41 = .ok (.aload_n 0, 1) := by decide +kernel
theorem dX10_step_42 : decode cX10_step 42 = .ok (.getfield 24, 3) := by decide +kernel
theorem dX10_step_45 : decode cX10_step 45 = .ok (.iload_n 1, 1) := by decide +kernel
theorem dX10_step_46 : decode cX10_step 46 = .ok (.aaload, 1) := by decide +kernel
theorem dX10_step_47 : decode cX10_step 47 = .ok (.iload_n 2, 1) := by decide +kernel
theorem dX10_step_48 : decode cX10_step 48 = .ok (.iload_n 3, 1) := by decide +kernel
theorem dX10_step_49 : decode cX10_step 49 = .ok (.invokevirtual 312, 3) := by decide +kernel
theorem dX10_step_52 : decode cX10_step 52 = .ok (.ireturn, 1) := by decide +kernel
def f_Game_step (σ : Mem) (x1 : Int32) (x2 : Int32) (x3 : Int32) : Option (Int32) :=
  if x1 < (0 : Int32) then
    some (-1000000 : Int32)
  else
    if (mI σ 0 14) ≤ x1 then
      some (-1000000 : Int32)
    else
      if x2 < (0 : Int32) then
        some (-1000000 : Int32)
      else
        if inb x1 5 then
          if (mI σ (ra 4 x1.toNatClampNeg) 1) ≤ x2 then
            some (-1000000 : Int32)
          else
            if x3 < (0 : Int32) then
              some (-1000000 : Int32)
            else
              if x3 ≤ (2 : Int32) then
                (f_Day_part σ (ra 4 x1.toNatClampNeg) x2 x3).bind fun q8 =>
                some q8
              else
                some (-1000000 : Int32)
        else none
set_option maxHeartbeats 4000000 in
set_option maxRecDepth 20000 in
theorem g_Game_step (X : Cx θ p s m args c cX10_step 4 RX10) (hr : meth.sig.returnType = some .int) (hlk : meth.locks = false)  {σ : Mem} {x1 : Int32} {x2 : Int32} {x3 : Int32} {r : Int32}  (h : f_Game_step σ x1 x2 x3 = some r) : GB θ p l e 1 s m args below meth c 4 (some (.int r), σ) 0 [(0, .ref (be θ + 0)), (1, .int x1), (2, .int x2), (3, .int x3)] [] σ := by
  unfold f_Game_step at h
  refine g_iload_n X dX10_step_0 rfl 1 rfl ?_
  refine g_if_lt (tgt := 38) X dX10_step_1 (by decide) (fun c1 => ?_) (fun c1 => ?_)
  · replace h := (if_pos c1).symm.trans h
    refine g_ldc X cst_RX10_155 dX10_step_38 ?_
    exact g_iret X hr hlk dX10_step_40 (by cases h; rfl)
  · replace h := (if_neg c1).symm.trans h
    refine g_iload_n X dX10_step_4 rfl 1 rfl ?_
    refine g_aload_n X dX10_step_5 rfl 0 rfl ?_
    refine g_get X fl_RX10_91 dX10_step_6 kd_0 (v := .int (mI σ 0 14)) rfl ?_
    refine g_icmp_ge (tgt := 38) X dX10_step_9 (by decide) (fun c2 => ?_) (fun c2 => ?_)
    · replace h := (if_pos c2).symm.trans h
      refine g_ldc X cst_RX10_155 dX10_step_38 ?_
      exact g_iret X hr hlk dX10_step_40 (by cases h; rfl)
    · replace h := (if_neg c2).symm.trans h
      refine g_iload_n X dX10_step_12 rfl 2 rfl ?_
      refine g_if_lt (tgt := 38) X dX10_step_13 (by decide) (fun c3 => ?_) (fun c3 => ?_)
      · replace h := (if_pos c3).symm.trans h
        refine g_ldc X cst_RX10_155 dX10_step_38 ?_
        exact g_iret X hr hlk dX10_step_40 (by cases h; rfl)
      · replace h := (if_neg c3).symm.trans h
        refine g_iload_n X dX10_step_16 rfl 2 rfl ?_
        refine g_aload_n X dX10_step_17 rfl 0 rfl ?_
        refine g_get X fl_RX10_24 dX10_step_18 kd_0 (v := .ref (be θ + 4)) rfl ?_
        refine g_iload_n X dX10_step_21 rfl 1 rfl ?_
        obtain ⟨g4, h⟩ := ite_some h
        refine g_aald X kd_4 (by decide) ln_4 (inb_in g4) dX10_step_22 ?_
        refine g_get X fl_RX10_311 dX10_step_23 (ra_4 (in_lt (inb_in g4))) (v := .int (mI σ (ra 4 x1.toNatClampNeg) 1)) rfl ?_
        refine g_icmp_ge (tgt := 38) X dX10_step_26 (by decide) (fun c5 => ?_) (fun c5 => ?_)
        · replace h := (if_pos c5).symm.trans h
          refine g_ldc X cst_RX10_155 dX10_step_38 ?_
          exact g_iret X hr hlk dX10_step_40 (by cases h; rfl)
        · replace h := (if_neg c5).symm.trans h
          refine g_iload_n X dX10_step_29 rfl 3 rfl ?_
          refine g_if_lt (tgt := 38) X dX10_step_30 (by decide) (fun c6 => ?_) (fun c6 => ?_)
          · replace h := (if_pos c6).symm.trans h
            refine g_ldc X cst_RX10_155 dX10_step_38 ?_
            exact g_iret X hr hlk dX10_step_40 (by cases h; rfl)
          · replace h := (if_neg c6).symm.trans h
            refine g_iload_n X dX10_step_33 rfl 3 rfl ?_
            refine g_iconst X dX10_step_34 (v := (2 : Int32)) ic_2 ?_
            refine g_icmp_le (tgt := 41) X dX10_step_35 (by decide) (fun c7 => ?_) (fun c7 => ?_)
            · replace h := (if_pos c7).symm.trans h
              refine g_aload_n X dX10_step_41 rfl 0 rfl ?_
              refine g_get X fl_RX10_24 dX10_step_42 kd_0 (v := .ref (be θ + 4)) rfl ?_
              refine g_iload_n X dX10_step_45 rfl 1 rfl ?_
              refine g_aald X kd_4 (by decide) ln_4 (inb_in g4) dX10_step_46 ?_
              refine g_iload_n X dX10_step_47 rfl 2 rfl ?_
              refine g_iload_n X dX10_step_48 rfl 3 rfl ?_
              obtain ⟨q8, hq8, h⟩ := Option.bind_eq_some_iff.mp h
              refine g_cV X (c_Day_part (ra_4 (in_lt (inb_in g4))) hq8) lk_RX10_312 my_X2_part (a := (ra 4 x1.toNatClampNeg)) (ci := 2) (ra_4 (in_lt (inb_in g4))) (by decide) rfl (As := [.int x2, .int x3]) (rest := []) rfl rfl (Nat.le_of_ble_eq_true rfl) ⟨(Nat.le_of_ble_eq_true rfl), (Nat.le_of_ble_eq_true rfl)⟩ ⟨(Nat.le_of_ble_eq_true rfl), (Nat.le_of_ble_eq_true rfl)⟩ dX10_step_49 (st' := [.int q8]) (σ' := σ) rfl rfl ?_
              exact g_iret X hr hlk dX10_step_52 (by cases h; rfl)
            · replace h := (if_neg c7).symm.trans h
              refine g_ldc X cst_RX10_155 dX10_step_38 ?_
              exact g_iret X hr hlk dX10_step_40 (by cases h; rfl)
set_option maxHeartbeats 4000000 in
set_option maxRecDepth 20000 in
theorem c_Game_step {θ : Th} {l : Launch} {σ : Mem} {x1 : Int32} {x2 : Int32} {x3 : Int32} {r : Int32}  (h : f_Game_step σ x1 x2 x3 = some r) : Cn θ l yX10_step cX10_step 4 (some .int) 1 0 0 [.ref (be θ + 0), .int x1, .int x2, .int x3] σ (some (.int r), σ) :=
  Cn.of (by decide) (Nat.le_of_ble_eq_true rfl) (fun p e s m below meth c X hr hlk => g_Game_step X hr hlk  h)
theorem dX10_run_0 : decode cX10_run 0 = .ok (.aload_n 0, 1) := by decide +kernel
theorem dX10_run_1 : decode cX10_run 1 = .ok (.getfield 52, 3) := by decide +kernel
theorem dX10_run_4 : decode cX10_run 4 = .ok (.invokevirtual 265, 3) := by decide +kernel
theorem dX10_run_7 : decode cX10_run 7 = .ok (.ifCond .eq 24, 3) := by decide +kernel
theorem dX10_run_10 : decode cX10_run 10 = .ok (.iload_n 1, 1) := by decide +kernel
theorem dX10_run_11 : decode cX10_run 11 = .ok (.ifCond .lt 20, 3) := by decide +kernel
theorem dX10_run_14 : decode cX10_run 14 = .ok (.iload_n 1, 1) := by decide +kernel
theorem dX10_run_15 : decode cX10_run 15 = .ok (.aload_n 0, 1) := by decide +kernel
theorem dX10_run_16 : decode cX10_run 16 = .ok (.getfield 91, 3) := by decide +kernel
theorem dX10_run_19 : decode cX10_run 19 = .ok (.if_icmp .ge 12, 3) := by decide +kernel
theorem dX10_run_22 : decode cX10_run 22 = .ok (.iload_n 2, 1) := by decide +kernel
theorem dX10_run_23 : decode cX10_run 23 = .ok (.ifCond .lt 8, 3) := by decide +kernel
theorem dX10_run_26 : decode cX10_run 26 = .ok (.iload_n 2, 1) := by decide +kernel
theorem dX10_run_27 : decode cX10_run 27 = .ok (.iconst 1, 1) := by decide +kernel
theorem dX10_run_28 : decode cX10_run 28 = .ok (.if_icmp .le 6, 3) := by decide +kernel
theorem dX10_run_31 : decode cX10_run 31 = .ok (.ldc 155, 2) := by decide +kernel
theorem dX10_run_33 : decode cX10_run 33 = .ok (.ireturn, 1) := by decide +kernel
theorem dX10_run_34 : decode cX10_run 34 = .ok (.aload_n 0, 1) := by decide +kernel
theorem dX10_run_35 : decode cX10_run 35 = .ok (.getfield 59, 3) := by decide +kernel
theorem dX10_run_38 : decode cX10_run 38 = .ok (.aload_n 0, 1) := by decide +kernel
theorem dX10_run_39 : decode cX10_run 39 = .ok (.getfield 35, 3) := by decide +kernel
theorem dX10_run_42 : decode cX10_run 42 = .ok (.invokevirtual 315, 3) := by decide +kernel
theorem dX10_run_45 : decode cX10_run 45 = .ok (.astore_n 3, 1) := by decide +kernel
theorem dX10_run_46 : decode cX10_run 46 = .ok (.iconst 0, 1) := by decide +kernel
theorem dX10_run_47 : decode cX10_run 47 = .ok (.istore 4, 2) := by decide +kernel
theorem dX10_run_49 : decode cX10_run 49 = .ok (.iconst 0, 1) := by decide +kernel
theorem dX10_run_50 : decode cX10_run 50 = .ok (.istore 5, 2) := by decide +kernel
theorem dX10_run_52 : decode cX10_run 52 = .ok (.iload 5, 2) := by decide +kernel
theorem dX10_run_54 : decode cX10_run 54 = .ok (.aload_n 0, 1) := by decide +kernel
theorem dX10_run_55 : decode cX10_run 55 = .ok (.getfield 24, 3) := by decide +kernel
theorem dX10_run_58 : decode cX10_run 58 = .ok (.iload_n 1, 1) := by decide +kernel
theorem dX10_run_59 : decode cX10_run 59 = .ok (.aaload, 1) := by decide +kernel
theorem dX10_run_60 : decode cX10_run 60 = .ok (.getfield 311, 3) := by decide +kernel
theorem dX10_run_63 : decode cX10_run 63 = .ok (.if_icmp .ge 48, 3) := by decide +kernel
theorem dX10_run_66 : decode cX10_run 66 = .ok (.aload_n 0, 1) := by decide +kernel
theorem dX10_run_67 : decode cX10_run 67 = .ok (.getfield 52, 3) := by decide +kernel
theorem dX10_run_70 : decode cX10_run 70 = .ok (.aload_n 3, 1) := by decide +kernel
theorem dX10_run_71 : decode cX10_run 71 = .ok (.aload_n 0, 1) := by decide +kernel
theorem dX10_run_72 : decode cX10_run 72 = .ok (.getfield 24, 3) := by decide +kernel
theorem dX10_run_75 : decode cX10_run 75 = .ok (.iload_n 1, 1) := by decide +kernel
theorem dX10_run_76 : decode cX10_run 76 = .ok (.aaload, 1) := by decide +kernel
theorem dX10_run_77 : decode cX10_run 77 = .ok (.iload 5, 2) := by decide +kernel
theorem dX10_run_79 : decode cX10_run 79 = .ok (.invokevirtual 319, 3) := by decide +kernel
theorem dX10_run_82 : decode cX10_run 82 = .ok (.iconst (-1), 1) := by decide +kernel
theorem dX10_run_83 : decode cX10_run 83 = .ok (.if_icmp .ne 28, 3) := by decide +kernel
theorem dX10_run_86 : decode cX10_run 86 = .ok (.aload_n 0, 1) := by decide +kernel
theorem dX10_run_87 : decode cX10_run 87 = .ok (.getfield 52, 3) := by decide +kernel
theorem dX10_run_90 : decode cX10_run 90 = .ok (.aload_n 3, 1) := by decide +kernel
theorem dX10_run_91 : decode cX10_run 91 = .ok (.aload_n 0, 1) := by decide +kernel
theorem dX10_run_92 : decode cX10_run 92 = .ok (.getfield 24, 3) := by decide +kernel
theorem dX10_run_95 : decode cX10_run 95 = .ok (.iload_n 1, 1) := by decide +kernel
theorem dX10_run_96 : decode cX10_run 96 = .ok (.aaload, 1) := by decide +kernel
theorem dX10_run_97 : decode cX10_run 97 = .ok (.iload 5, 2) := by decide +kernel
theorem dX10_run_99 : decode cX10_run 99 = .ok (.invokevirtual 323, 3) := by decide +kernel
theorem dX10_run_102 : decode cX10_run 102 = .ok (.iinc 4 1, 3) := by decide +kernel
theorem dX10_run_105 : decode cX10_run 105 = .ok (.iinc 5 1, 3) := by decide +kernel
theorem dX10_run_108 : decode cX10_run 108 = .ok (.goto (-56), 3) := by decide +kernel
theorem dX10_run_111 : decode cX10_run 111 = .ok (.iload_n 2, 1) := by decide +kernel
theorem dX10_run_112 : decode cX10_run 112 = .ok (.iconst 1, 1) := by decide +kernel
theorem dX10_run_113 : decode cX10_run 113 = .ok (.if_icmp .ne 8, 3) := by decide +kernel
theorem dX10_run_116 : decode cX10_run 116 = .ok (.aload_n 3, 1) := by decide +kernel
theorem dX10_run_117 : decode cX10_run 117 = .ok (.invokevirtual 327, 3) := by decide +kernel
theorem dX10_run_120 : decode cX10_run 120 = .ok (.ireturn, 1) := by decide +kernel
theorem dX10_run_121 : decode cX10_run 121 = .ok (.iload 4, 2) := by decide +kernel
theorem dX10_run_123 : decode cX10_run 123 = .ok (.aload_n 0, 1) := by decide +kernel
theorem dX10_run_124 : decode cX10_run 124 = .ok (.getfield 24, 3) := by decide +kernel
theorem dX10_run_127 : decode cX10_run 127 = .ok (.iload_n 1, 1) := by decide +kernel
theorem dX10_run_128 : decode cX10_run 128 = .ok (.aaload, 1) := by decide +kernel
theorem dX10_run_129 : decode cX10_run 129 = .ok (.getfield 311, 3) := by decide +kernel
theorem dX10_run_132 : decode cX10_run 132 = .ok (.if_icmp .ne 7, 3) := by decide +kernel
theorem dX10_run_135 : decode cX10_run 135 = .ok (.iconst (-1), 1) := by decide +kernel
theorem dX10_run_136 : decode cX10_run 136 = .ok (.goto 5, 3) := by decide +kernel
theorem dX10_run_139 : decode cX10_run 139 = .ok (.iload 4, 2) := by decide +kernel
theorem dX10_run_141 : decode cX10_run 141 = .ok (.ireturn, 1) := by decide +kernel
def f_Game_run_L52 (x1 : Int32) (x2 : Int32) (y3 : Nat) (a : Mem × Int32 × Int32) : Option ((Mem × Int32 × Int32) ⊕ (Mem × Int32)) :=
  @Prod.casesOn (Mem) (Int32 × Int32) (fun _ => Option ((Mem × Int32 × Int32) ⊕ (Mem × Int32))) a fun τ b0 =>
  @Prod.casesOn (Int32) (Int32) (fun _ => Option ((Mem × Int32 × Int32) ⊕ (Mem × Int32))) b0 fun z4 z5 =>
  if inb x1 5 then
    if (mI τ (ra 4 x1.toNatClampNeg) 1) ≤ z5 then
      some (.inr (τ, z4))
    else
      (f_Trade_whyNotStep τ y3 (ra 4 x1.toNatClampNeg) z5).bind fun q10 =>
      if q10 = (-1 : Int32) then
        (f_Trade_makeStep τ y3 (ra 4 x1.toNatClampNeg) z5).bind fun q12 =>
        some (.inl (q12, (z4 + (1 : Int32)), (z5 + (1 : Int32))))
      else
        some (.inr (τ, z4))
  else none
def f_Game_run_J111 (σ : Mem) (x1 : Int32) (x2 : Int32) (y3 : Nat) (y4 : Int32) : Option (Int32 × Mem) :=
  if x2 = (1 : Int32) then
    (f_State_dueOfAll σ y3).bind fun q17 =>
    some (q17, σ)
  else
    if inb x1 5 then
      if y4 = (mI σ (ra 4 x1.toNatClampNeg) 1) then
        some ((-1 : Int32), σ)
      else
        some (y4, σ)
    else none
def f_Game_run (σ : Mem) (x1 : Int32) (x2 : Int32) : Option (Int32 × Mem) :=
  (f_Trade_hasCity σ).bind fun q1 =>
  if q1 = (0 : Int32) then
    some ((-1000000 : Int32), σ)
  else
    if x1 < (0 : Int32) then
      some ((-1000000 : Int32), σ)
    else
      if (mI σ 0 14) ≤ x1 then
        some ((-1000000 : Int32), σ)
      else
        if x2 < (0 : Int32) then
          some ((-1000000 : Int32), σ)
        else
          if x2 ≤ (1 : Int32) then
            (f_Outlook_startingAt σ 6).bind fun q7 =>
            (loopF (f_Game_run_L52 x1 x2 435) FU (q7, (0 : Int32), (0 : Int32))).bind fun q13 =>
            @Prod.casesOn (Mem) (Int32) (fun _ => Option (Int32 × Mem)) q13 fun τ13 w13_4 =>
            f_Game_run_J111 τ13 x1 x2 435 w13_4
          else
            some ((-1000000 : Int32), σ)
set_option maxHeartbeats 4000000 in
set_option maxRecDepth 20000 in
theorem gs_Game_run_L52 (X : Cx θ p s m args c cX10_run 6 RX10) (hr : meth.sig.returnType = some .int) (hlk : meth.locks = false)  {x1 : Int32} {x2 : Int32} {y3 : Nat} {r : Int32 × Mem} (k3 : kd y3 = 8) (τ : Mem) (z4 : Int32) (z5 : Int32) (x : (Mem × Int32 × Int32) ⊕ (Mem × Int32)) (h : f_Game_run_L52 x1 x2 y3 (τ, z4, z5) = some x) (hk : Sum.elim (fun a => @Prod.casesOn (Mem) (Int32 × Int32) (fun _ => Prop) a fun τ b0 => @Prod.casesOn (Int32) (Int32) (fun _ => Prop) b0 fun z4 z5 => GB θ p l e 6 s m args below meth c 6 (some (.int r.1), r.2) 52 [(0, .ref (be θ + 0)), (1, .int x1), (2, .int x2), (3, .ref (be θ + y3)), (4, .int z4), (5, .int z5)] [] τ) (fun ex => @Prod.casesOn (Mem) (Int32) (fun _ => Prop) ex fun τ w_4 => GB θ p l e 6 s m args below meth c 6 (some (.int r.1), r.2) 111 [(0, .ref (be θ + 0)), (1, .int x1), (2, .int x2), (3, .ref (be θ + y3)), (4, .int w_4)] [] τ) x) : GB θ p l e 6 s m args below meth c 6 (some (.int r.1), r.2) 52 [(0, .ref (be θ + 0)), (1, .int x1), (2, .int x2), (3, .ref (be θ + y3)), (4, .int z4), (5, .int z5)] [] τ := by
  unfold f_Game_run_L52 at h
  dsimp only at h
  refine g_iload X dX10_run_52 5 rfl ?_
  refine g_aload_n X dX10_run_54 rfl 0 rfl ?_
  refine g_get X fl_RX10_24 dX10_run_55 kd_0 (v := .ref (be θ + 4)) rfl ?_
  refine g_iload_n X dX10_run_58 rfl 1 rfl ?_
  obtain ⟨g8, h⟩ := ite_some h
  refine g_aald X kd_4 (by decide) ln_4 (inb_in g8) dX10_run_59 ?_
  refine g_get X fl_RX10_311 dX10_run_60 (ra_4 (in_lt (inb_in g8))) (v := .int (mI τ (ra 4 x1.toNatClampNeg) 1)) rfl ?_
  refine g_icmp_ge (tgt := 111) X dX10_run_63 (by decide) (fun c9 => ?_) (fun c9 => ?_)
  · replace h := (if_pos c9).symm.trans h
    have hk := inr_hk h hk
    exact g_sub (lv' := [(0, .ref (be θ + 0)), (1, .int x1), (2, .int x2), (3, .ref (be θ + y3)), (4, .int z4)]) [0, 1, 2, 3, 4] rfl hk
  · replace h := (if_neg c9).symm.trans h
    refine g_aload_n X dX10_run_66 rfl 0 rfl ?_
    refine g_get X fl_RX10_52 dX10_run_67 kd_0 (v := .ref (be θ + 428)) rfl ?_
    refine g_aload_n X dX10_run_70 rfl 3 rfl ?_
    refine g_aload_n X dX10_run_71 rfl 0 rfl ?_
    refine g_get X fl_RX10_24 dX10_run_72 kd_0 (v := .ref (be θ + 4)) rfl ?_
    refine g_iload_n X dX10_run_75 rfl 1 rfl ?_
    refine g_aald X kd_4 (by decide) ln_4 (inb_in g8) dX10_run_76 ?_
    refine g_iload X dX10_run_77 5 rfl ?_
    obtain ⟨q10, hq10, h⟩ := Option.bind_eq_some_iff.mp h
    refine g_cV X (c_Trade_whyNotStep k3 (ra_4 (in_lt (inb_in g8))) hq10) lk_RX10_319 my_X9_whyNotStep (a := 428) (ci := 9) kd_428 (by decide) rfl (As := [.ref (be θ + y3), .ref (be θ + (ra 4 x1.toNatClampNeg)), .int z5]) (rest := []) rfl rfl (Nat.le_of_ble_eq_true rfl) ⟨(Nat.le_of_ble_eq_true rfl), (Nat.le_of_ble_eq_true rfl)⟩ ⟨(Nat.le_of_ble_eq_true rfl), (Nat.le_of_ble_eq_true rfl)⟩ dX10_run_79 (st' := [.int q10]) (σ' := τ) rfl rfl ?_
    refine g_iconst X dX10_run_82 (v := (-1 : Int32)) ic_m1 ?_
    refine g_icmp_ne (tgt := 111) X dX10_run_83 (by decide) (fun c11 => ?_) (fun c11 => ?_)
    · replace h := (if_neg c11).symm.trans h
      have hk := inr_hk h hk
      exact g_sub (lv' := [(0, .ref (be θ + 0)), (1, .int x1), (2, .int x2), (3, .ref (be θ + y3)), (4, .int z4)]) [0, 1, 2, 3, 4] rfl hk
    · replace h := (if_pos c11).symm.trans h
      refine g_aload_n X dX10_run_86 rfl 0 rfl ?_
      refine g_get X fl_RX10_52 dX10_run_87 kd_0 (v := .ref (be θ + 428)) rfl ?_
      refine g_aload_n X dX10_run_90 rfl 3 rfl ?_
      refine g_aload_n X dX10_run_91 rfl 0 rfl ?_
      refine g_get X fl_RX10_24 dX10_run_92 kd_0 (v := .ref (be θ + 4)) rfl ?_
      refine g_iload_n X dX10_run_95 rfl 1 rfl ?_
      refine g_aald X kd_4 (by decide) ln_4 (inb_in g8) dX10_run_96 ?_
      refine g_iload X dX10_run_97 5 rfl ?_
      obtain ⟨q12, hq12, h⟩ := Option.bind_eq_some_iff.mp h
      refine g_cV X (c_Trade_makeStep k3 (ra_4 (in_lt (inb_in g8))) hq12) lk_RX10_323 my_X9_makeStep (a := 428) (ci := 9) kd_428 (by decide) rfl (As := [.ref (be θ + y3), .ref (be θ + (ra 4 x1.toNatClampNeg)), .int z5]) (rest := []) rfl rfl (Nat.le_of_ble_eq_true rfl) ⟨(Nat.le_of_ble_eq_true rfl), (Nat.le_of_ble_eq_true rfl)⟩ ⟨(Nat.le_of_ble_eq_true rfl), (Nat.le_of_ble_eq_true rfl)⟩ dX10_run_99 (st' := []) (σ' := q12) rfl rfl ?_
      refine g_iinc X dX10_run_102 (kq := 4) rfl (congrArg (HAdd.hAdd _) ic_1) (by decide) (lv' := [(4, .int (z4 + (1 : Int32))), (0, .ref (be θ + 0)), (1, .int x1), (2, .int x2), (3, .ref (be θ + y3)), (5, .int z5)]) rfl ?_
      refine g_iinc X dX10_run_105 (kq := 5) rfl (congrArg (HAdd.hAdd _) ic_1) (by decide) (lv' := [(5, .int (z5 + (1 : Int32))), (4, .int (z4 + (1 : Int32))), (0, .ref (be θ + 0)), (1, .int x1), (2, .int x2), (3, .ref (be θ + y3))]) rfl ?_
      refine g_goto (tgt := 52) X dX10_run_108 (by decide) ?_
      have hk := inl_hk h hk
      exact g_sub (lv' := [(0, .ref (be θ + 0)), (1, .int x1), (2, .int x2), (3, .ref (be θ + y3)), (4, .int (z4 + (1 : Int32))), (5, .int (z5 + (1 : Int32)))]) [2, 3, 4, 5, 1, 0] rfl hk
set_option maxHeartbeats 4000000 in
set_option maxRecDepth 20000 in
theorem gl_Game_run_L52 (X : Cx θ p s m args c cX10_run 6 RX10) (hr : meth.sig.returnType = some .int) (hlk : meth.locks = false)  {x1 : Int32} {x2 : Int32} {y3 : Nat} {r : Int32 × Mem} (k3 : kd y3 = 8) (n : Nat) (a : Mem × Int32 × Int32) (b : Mem × Int32) (h : loopF (f_Game_run_L52 x1 x2 y3) n a = some b) (hk : (fun ex => @Prod.casesOn (Mem) (Int32) (fun _ => Prop) ex fun τ w_4 => GB θ p l e 6 s m args below meth c 6 (some (.int r.1), r.2) 111 [(0, .ref (be θ + 0)), (1, .int x1), (2, .int x2), (3, .ref (be θ + y3)), (4, .int w_4)] [] τ) b) : (fun a => @Prod.casesOn (Mem) (Int32 × Int32) (fun _ => Prop) a fun τ b0 => @Prod.casesOn (Int32) (Int32) (fun _ => Prop) b0 fun z4 z5 => GB θ p l e 6 s m args below meth c 6 (some (.int r.1), r.2) 52 [(0, .ref (be θ + 0)), (1, .int x1), (2, .int x2), (3, .ref (be θ + y3)), (4, .int z4), (5, .int z5)] [] τ) a :=
  loopF_by (P := (fun a => @Prod.casesOn (Mem) (Int32 × Int32) (fun _ => Prop) a fun τ b0 => @Prod.casesOn (Int32) (Int32) (fun _ => Prop) b0 fun z4 z5 => GB θ p l e 6 s m args below meth c 6 (some (.int r.1), r.2) 52 [(0, .ref (be θ + 0)), (1, .int x1), (2, .int x2), (3, .ref (be θ + y3)), (4, .int z4), (5, .int z5)] [] τ)) (K := (fun ex => @Prod.casesOn (Mem) (Int32) (fun _ => Prop) ex fun τ w_4 => GB θ p l e 6 s m args below meth c 6 (some (.int r.1), r.2) 111 [(0, .ref (be θ + 0)), (1, .int x1), (2, .int x2), (3, .ref (be θ + y3)), (4, .int w_4)] [] τ)) (fun a x h hk => by obtain ⟨τ, z4, z5⟩ := a; exact gs_Game_run_L52 X hr hlk  k3 τ z4 z5 x h hk) n a b h hk
set_option maxHeartbeats 4000000 in
set_option maxRecDepth 20000 in
theorem g_Game_run_J111 (X : Cx θ p s m args c cX10_run 6 RX10) (hr : meth.sig.returnType = some .int) (hlk : meth.locks = false)  {σ : Mem} {x1 : Int32} {x2 : Int32} {y3 : Nat} {y4 : Int32} {r : Int32 × Mem} (k3 : kd y3 = 8) (h : f_Game_run_J111 σ x1 x2 y3 y4 = some r) : GB θ p l e 6 s m args below meth c 6 (some (.int r.1), r.2) 111 [(0, .ref (be θ + 0)), (1, .int x1), (2, .int x2), (3, .ref (be θ + y3)), (4, .int y4)] [] σ := by
  unfold f_Game_run_J111 at h
  refine g_iload_n X dX10_run_111 rfl 2 rfl ?_
  refine g_iconst X dX10_run_112 (v := (1 : Int32)) ic_1 ?_
  refine g_icmp_ne (tgt := 121) X dX10_run_113 (by decide) (fun c14 => ?_) (fun c14 => ?_)
  · replace h := (if_neg c14).symm.trans h
    refine g_iload X dX10_run_121 4 rfl ?_
    refine g_aload_n X dX10_run_123 rfl 0 rfl ?_
    refine g_get X fl_RX10_24 dX10_run_124 kd_0 (v := .ref (be θ + 4)) rfl ?_
    refine g_iload_n X dX10_run_127 rfl 1 rfl ?_
    obtain ⟨g15, h⟩ := ite_some h
    refine g_aald X kd_4 (by decide) ln_4 (inb_in g15) dX10_run_128 ?_
    refine g_get X fl_RX10_311 dX10_run_129 (ra_4 (in_lt (inb_in g15))) (v := .int (mI σ (ra 4 x1.toNatClampNeg) 1)) rfl ?_
    refine g_icmp_ne (tgt := 139) X dX10_run_132 (by decide) (fun c16 => ?_) (fun c16 => ?_)
    · replace h := (if_neg c16).symm.trans h
      refine g_iload X dX10_run_139 4 rfl ?_
      exact g_iret X hr hlk dX10_run_141 (by cases h; rfl)
    · replace h := (if_pos c16).symm.trans h
      refine g_iconst X dX10_run_135 (v := (-1 : Int32)) ic_m1 ?_
      refine g_goto (tgt := 141) X dX10_run_136 (by decide) ?_
      exact g_iret X hr hlk dX10_run_141 (by cases h; rfl)
  · replace h := (if_pos c14).symm.trans h
    refine g_aload_n X dX10_run_116 rfl 3 rfl ?_
    obtain ⟨q17, hq17, h⟩ := Option.bind_eq_some_iff.mp h
    refine g_cV X (c_State_dueOfAll k3 hq17) lk_RX10_327 my_X7_dueOfAll (a := y3) (ci := 7) k3 (by decide) rfl (As := []) (rest := []) rfl rfl (Nat.le_of_ble_eq_true rfl) ⟨(Nat.le_of_ble_eq_true rfl), (Nat.le_of_ble_eq_true rfl)⟩ ⟨(Nat.le_of_ble_eq_true rfl), (Nat.le_of_ble_eq_true rfl)⟩ dX10_run_117 (st' := [.int q17]) (σ' := σ) rfl rfl ?_
    exact g_iret X hr hlk dX10_run_120 (by cases h; rfl)
set_option maxHeartbeats 4000000 in
set_option maxRecDepth 20000 in
theorem g_Game_run (X : Cx θ p s m args c cX10_run 6 RX10) (hr : meth.sig.returnType = some .int) (hlk : meth.locks = false)  {σ : Mem} {x1 : Int32} {x2 : Int32} {r : Int32 × Mem}  (h : f_Game_run σ x1 x2 = some r) : GB θ p l e 6 s m args below meth c 6 (some (.int r.1), r.2) 0 [(0, .ref (be θ + 0)), (1, .int x1), (2, .int x2)] [] σ := by
  unfold f_Game_run at h
  refine g_aload_n X dX10_run_0 rfl 0 rfl ?_
  refine g_get X fl_RX10_52 dX10_run_1 kd_0 (v := .ref (be θ + 428)) rfl ?_
  obtain ⟨q1, hq1, h⟩ := Option.bind_eq_some_iff.mp h
  refine g_cV X (c_Trade_hasCity  hq1) lk_RX10_265 my_X9_hasCity (a := 428) (ci := 9) kd_428 (by decide) rfl (As := []) (rest := []) rfl rfl (Nat.le_of_ble_eq_true rfl) ⟨(Nat.le_of_ble_eq_true rfl), (Nat.le_of_ble_eq_true rfl)⟩ ⟨(Nat.le_of_ble_eq_true rfl), (Nat.le_of_ble_eq_true rfl)⟩ dX10_run_4 (st' := [.int q1]) (σ' := σ) rfl rfl ?_
  refine g_if_eq (tgt := 31) X dX10_run_7 (by decide) (fun c2 => ?_) (fun c2 => ?_)
  · replace h := (if_pos c2).symm.trans h
    refine g_ldc X cst_RX10_155 dX10_run_31 ?_
    exact g_iret X hr hlk dX10_run_33 (by cases h; rfl)
  · replace h := (if_neg c2).symm.trans h
    refine g_iload_n X dX10_run_10 rfl 1 rfl ?_
    refine g_if_lt (tgt := 31) X dX10_run_11 (by decide) (fun c3 => ?_) (fun c3 => ?_)
    · replace h := (if_pos c3).symm.trans h
      refine g_ldc X cst_RX10_155 dX10_run_31 ?_
      exact g_iret X hr hlk dX10_run_33 (by cases h; rfl)
    · replace h := (if_neg c3).symm.trans h
      refine g_iload_n X dX10_run_14 rfl 1 rfl ?_
      refine g_aload_n X dX10_run_15 rfl 0 rfl ?_
      refine g_get X fl_RX10_91 dX10_run_16 kd_0 (v := .int (mI σ 0 14)) rfl ?_
      refine g_icmp_ge (tgt := 31) X dX10_run_19 (by decide) (fun c4 => ?_) (fun c4 => ?_)
      · replace h := (if_pos c4).symm.trans h
        refine g_ldc X cst_RX10_155 dX10_run_31 ?_
        exact g_iret X hr hlk dX10_run_33 (by cases h; rfl)
      · replace h := (if_neg c4).symm.trans h
        refine g_iload_n X dX10_run_22 rfl 2 rfl ?_
        refine g_if_lt (tgt := 31) X dX10_run_23 (by decide) (fun c5 => ?_) (fun c5 => ?_)
        · replace h := (if_pos c5).symm.trans h
          refine g_ldc X cst_RX10_155 dX10_run_31 ?_
          exact g_iret X hr hlk dX10_run_33 (by cases h; rfl)
        · replace h := (if_neg c5).symm.trans h
          refine g_iload_n X dX10_run_26 rfl 2 rfl ?_
          refine g_iconst X dX10_run_27 (v := (1 : Int32)) ic_1 ?_
          refine g_icmp_le (tgt := 34) X dX10_run_28 (by decide) (fun c6 => ?_) (fun c6 => ?_)
          · replace h := (if_pos c6).symm.trans h
            refine g_aload_n X dX10_run_34 rfl 0 rfl ?_
            refine g_get X fl_RX10_59 dX10_run_35 kd_0 (v := .ref (be θ + 434)) rfl ?_
            refine g_aload_n X dX10_run_38 rfl 0 rfl ?_
            refine g_get X fl_RX10_35 dX10_run_39 kd_0 (v := .ref (be θ + 6)) rfl ?_
            obtain ⟨q7, hq7, h⟩ := Option.bind_eq_some_iff.mp h
            refine g_cV X (c_Outlook_startingAt kd_6 hq7) lk_RX10_315 my_X6_startingAt (a := 434) (ci := 6) kd_434 (by decide) rfl (As := [.ref (be θ + 6)]) (rest := []) rfl rfl (Nat.le_of_ble_eq_true rfl) ⟨(Nat.le_of_ble_eq_true rfl), (Nat.le_of_ble_eq_true rfl)⟩ ⟨(Nat.le_of_ble_eq_true rfl), (Nat.le_of_ble_eq_true rfl)⟩ dX10_run_42 (st' := [.ref (be θ + 435)]) (σ' := q7) rfl rfl ?_
            refine g_astore_n X dX10_run_45 rfl (by decide) (lv' := [(3, .ref (be θ + 435)), (0, .ref (be θ + 0)), (1, .int x1), (2, .int x2)]) rfl ?_
            refine g_iconst X dX10_run_46 (v := (0 : Int32)) ic_0 ?_
            refine g_istore X dX10_run_47 (by decide) (lv' := [(4, .int (0 : Int32)), (3, .ref (be θ + 435)), (0, .ref (be θ + 0)), (1, .int x1), (2, .int x2)]) rfl ?_
            refine g_iconst X dX10_run_49 (v := (0 : Int32)) ic_0 ?_
            refine g_istore X dX10_run_50 (by decide) (lv' := [(5, .int (0 : Int32)), (4, .int (0 : Int32)), (3, .ref (be θ + 435)), (0, .ref (be θ + 0)), (1, .int x1), (2, .int x2)]) rfl ?_
            obtain ⟨q13, hq13, h⟩ := Option.bind_eq_some_iff.mp h
            refine g_sub (lv' := [(0, .ref (be θ + 0)), (1, .int x1), (2, .int x2), (3, .ref (be θ + 435)), (4, .int (0 : Int32)), (5, .int (0 : Int32))]) [3, 4, 5, 2, 1, 0] rfl (gl_Game_run_L52 X hr hlk   kd_435 FU _ q13 hq13 ?_)
            obtain ⟨τ13, w13_4⟩ := q13
            dsimp only at h ⊢
            exact g_sub (lv' := [(0, .ref (be θ + 0)), (1, .int x1), (2, .int x2), (3, .ref (be θ + 435)), (4, .int w13_4)]) [0, 1, 2, 3, 4] rfl (g_Game_run_J111 X hr hlk   kd_435 h)
          · replace h := (if_neg c6).symm.trans h
            refine g_ldc X cst_RX10_155 dX10_run_31 ?_
            exact g_iret X hr hlk dX10_run_33 (by cases h; rfl)
set_option maxHeartbeats 4000000 in
set_option maxRecDepth 20000 in
theorem c_Game_run {θ : Th} {l : Launch} {σ : Mem} {x1 : Int32} {x2 : Int32} {r : Int32 × Mem}  (h : f_Game_run σ x1 x2 = some r) : Cn θ l yX10_run cX10_run 6 (some .int) 6 0 0 [.ref (be θ + 0), .int x1, .int x2] σ (some (.int r.1), r.2) :=
  Cn.of (by decide) (Nat.le_of_ble_eq_true rfl) (fun p e s m below meth c X hr hlk => g_Game_run X hr hlk  h)
theorem dX10_perform_0 : decode cX10_perform 0 = .ok (.aload_n 0, 1) := by decide +kernel
theorem dX10_perform_1 : decode cX10_perform 1 = .ok (.getfield 52, 3) := by decide +kernel
theorem dX10_perform_4 : decode cX10_perform 4 = .ok (.invokevirtual 265, 3) := by decide +kernel
theorem dX10_perform_7 : decode cX10_perform 7 = .ok (.ifCond .eq 15, 3) := by decide +kernel
theorem dX10_perform_10 : decode cX10_perform 10 = .ok (.iload_n 1, 1) := by decide +kernel
theorem dX10_perform_11 : decode cX10_perform 11 = .ok (.ifCond .lt 11, 3) := by decide +kernel
theorem dX10_perform_14 : decode cX10_perform 14 = .ok (.iload_n 1, 1) := by decide +kernel
theorem dX10_perform_15 : decode cX10_perform 15 = .ok (.aload_n 0, 1) := by decide +kernel
theorem dX10_perform_16 : decode cX10_perform 16 = .ok (.getfield 91, 3) := by decide +kernel
theorem dX10_perform_19 : decode cX10_perform 19 = .ok (.if_icmp .lt 5, 3) := by decide +kernel
theorem dX10_perform_22 : decode cX10_perform 22 = .ok (.iconst (-1), 1) := by decide +kernel
theorem dX10_perform_23 : decode cX10_perform 23 = .ok (.ireturn, 1) := by decide +kernel
theorem dX10_perform_24 : decode cX10_perform 24 = .ok (.iconst 0, 1) := by decide +kernel
theorem dX10_perform_25 : decode cX10_perform 25 = .ok (.istore_n 2, 1) := by decide +kernel
theorem dX10_perform_26 : decode cX10_perform 26 = .ok (.iconst 0, 1) := by decide +kernel
theorem dX10_perform_27 : decode cX10_perform 27 = .ok (.istore_n 3, 1) := by decide +kernel
theorem dX10_perform_28 : decode cX10_perform 28 = .ok (.iload_n 3, 1) := by decide +kernel
theorem dX10_perform_29 : decode cX10_perform 29 = .ok (.aload_n 0, 1) := by decide +kernel
theorem dX10_perform_30 : decode cX10_perform 30 = .ok (.getfield 24, 3) := by decide +kernel
theorem dX10_perform_33 : decode cX10_perform 33 = .ok (.iload_n 1, 1) := by decide +kernel
theorem dX10_perform_34 : decode cX10_perform 34 = .ok (.aaload, 1) := by decide +kernel
theorem dX10_perform_35 : decode cX10_perform 35 = .ok (.getfield 311, 3) := by decide +kernel
theorem dX10_perform_38 : decode cX10_perform 38 = .ok (.if_icmp .ge 63, 3) := by decide +kernel
theorem dX10_perform_41 : decode cX10_perform 41 = .ok (.aload_n 0, 1) := by decide +kernel
theorem dX10_perform_42 : decode cX10_perform 42 = .ok (.getfield 52, 3) := by decide +kernel
theorem dX10_perform_45 : decode cX10_perform 45 = .ok (.aload_n 0, 1) := by decide +kernel
theorem dX10_perform_46 : decode cX10_perform 46 = .ok (.getfield 35, 3) := by decide +kernel
theorem dX10_perform_49 : decode cX10_perform 49 = .ok (.aload_n 0, 1) := by decide +kernel
theorem dX10_perform_50 : decode cX10_perform 50 = .ok (.getfield 24, 3) := by decide +kernel
theorem dX10_perform_53 : decode cX10_perform 53 = .ok (.iload_n 1, 1) := by decide +kernel
theorem dX10_perform_54 : decode cX10_perform 54 = .ok (.aaload, 1) := by decide +kernel
theorem dX10_perform_55 : decode cX10_perform 55 = .ok (.iload_n 3, 1) := by decide +kernel
theorem dX10_perform_56 : decode cX10_perform 56 = .ok (.invokevirtual 319, 3) := by decide +kernel
theorem dX10_perform_59 : decode cX10_perform 59 = .ok (.iconst (-1), 1) := by decide +kernel
theorem dX10_perform_60 : decode cX10_perform 60 = .ok (.if_icmp .ne 41, 3) := by decide +kernel
theorem dX10_perform_63 : decode cX10_perform 63 = .ok (.aload_n 0, 1) := by decide +kernel
theorem dX10_perform_64 : decode cX10_perform 64 = .ok (.getfield 45, 3) := by decide +kernel
theorem dX10_perform_67 : decode cX10_perform 67 = .ok (.aload_n 0, 1) := by decide +kernel
theorem dX10_perform_68 : decode cX10_perform 68 = .ok (.getfield 35, 3) := by decide +kernel
theorem dX10_perform_71 : decode cX10_perform 71 = .ok (.invokevirtual 222, 3) := by decide +kernel
theorem dX10_perform_74 : decode cX10_perform 74 = .ok (.aload_n 0, 1) := by decide +kernel
theorem dX10_perform_75 : decode cX10_perform 75 = .ok (.getfield 52, 3) := by decide +kernel
theorem dX10_perform_78 : decode cX10_perform 78 = .ok (.aload_n 0, 1) := by decide +kernel
theorem dX10_perform_79 : decode cX10_perform 79 = .ok (.getfield 35, 3) := by decide +kernel
theorem dX10_perform_82 : decode cX10_perform 82 = .ok (.aload_n 0, 1) := by decide +kernel
theorem dX10_perform_83 : decode cX10_perform 83 = .ok (.getfield 24, 3) := by decide +kernel
theorem dX10_perform_86 : decode cX10_perform 86 = .ok (.iload_n 1, 1) := by decide +kernel
theorem dX10_perform_87 : decode cX10_perform 87 = .ok (.aaload, 1) := by decide +kernel
theorem dX10_perform_88 : decode cX10_perform 88 = .ok (.iload_n 3, 1) := by decide +kernel
theorem dX10_perform_89 : decode cX10_perform 89 = .ok (.invokevirtual 323, 3) := by decide +kernel
theorem dX10_perform_92 : decode cX10_perform 92 = .ok (.iinc 2 1, 3) := by decide +kernel
theorem dX10_perform_95 : decode cX10_perform 95 = .ok (.iinc 3 1, 3) := by decide +kernel
theorem dX10_perform_98 : decode cX10_perform 98 = .ok (.goto (-70), 3) := by decide +kernel
theorem dX10_perform_101 : decode cX10_perform 101 = .ok (.iload_n 2, 1) := by decide +kernel
theorem dX10_perform_102 : decode cX10_perform 102 = .ok (.ireturn, 1) := by decide +kernel
def f_Game_perform_L28 (x1 : Int32) (a : Mem × Int32 × Int32) : Option ((Mem × Int32 × Int32) ⊕ (Int32 × Mem)) :=
  @Prod.casesOn (Mem) (Int32 × Int32) (fun _ => Option ((Mem × Int32 × Int32) ⊕ (Int32 × Mem))) a fun τ b0 =>
  @Prod.casesOn (Int32) (Int32) (fun _ => Option ((Mem × Int32 × Int32) ⊕ (Int32 × Mem))) b0 fun z2 z3 =>
  if inb x1 5 then
    if (mI τ (ra 4 x1.toNatClampNeg) 1) ≤ z3 then
      some (.inr (z2, τ))
    else
      (f_Trade_whyNotStep τ 6 (ra 4 x1.toNatClampNeg) z3).bind fun q7 =>
      if q7 = (-1 : Int32) then
        (f_History_keep τ 6).bind fun q9 =>
        (f_Trade_makeStep q9 6 (ra 4 x1.toNatClampNeg) z3).bind fun q10 =>
        some (.inl (q10, (z2 + (1 : Int32)), (z3 + (1 : Int32))))
      else
        some (.inr (z2, τ))
  else none
def f_Game_perform (σ : Mem) (x1 : Int32) : Option (Int32 × Mem) :=
  (f_Trade_hasCity σ).bind fun q1 =>
  if q1 = (0 : Int32) then
    some ((-1 : Int32), σ)
  else
    if x1 < (0 : Int32) then
      some ((-1 : Int32), σ)
    else
      if x1 < (mI σ 0 14) then
        loopF (f_Game_perform_L28 x1) FU (σ, (0 : Int32), (0 : Int32))
      else
        some ((-1 : Int32), σ)
set_option maxHeartbeats 4000000 in
set_option maxRecDepth 20000 in
theorem gs_Game_perform_L28 (X : Cx θ p s m args c cX10_perform 4 RX10) (hr : meth.sig.returnType = some .int) (hlk : meth.locks = false)  {x1 : Int32} {r : Int32 × Mem}  (τ : Mem) (z2 : Int32) (z3 : Int32) (x : (Mem × Int32 × Int32) ⊕ (Int32 × Mem)) (h : f_Game_perform_L28 x1 (τ, z2, z3) = some x) (hk : Sum.elim (fun a => @Prod.casesOn (Mem) (Int32 × Int32) (fun _ => Prop) a fun τ b0 => @Prod.casesOn (Int32) (Int32) (fun _ => Prop) b0 fun z2 z3 => GB θ p l e 6 s m args below meth c 4 (some (.int r.1), r.2) 28 [(0, .ref (be θ + 0)), (1, .int x1), (2, .int z2), (3, .int z3)] [] τ) (fun b => b = r) x) : GB θ p l e 6 s m args below meth c 4 (some (.int r.1), r.2) 28 [(0, .ref (be θ + 0)), (1, .int x1), (2, .int z2), (3, .int z3)] [] τ := by
  unfold f_Game_perform_L28 at h
  dsimp only at h
  refine g_iload_n X dX10_perform_28 rfl 3 rfl ?_
  refine g_aload_n X dX10_perform_29 rfl 0 rfl ?_
  refine g_get X fl_RX10_24 dX10_perform_30 kd_0 (v := .ref (be θ + 4)) rfl ?_
  refine g_iload_n X dX10_perform_33 rfl 1 rfl ?_
  obtain ⟨g5, h⟩ := ite_some h
  refine g_aald X kd_4 (by decide) ln_4 (inb_in g5) dX10_perform_34 ?_
  refine g_get X fl_RX10_311 dX10_perform_35 (ra_4 (in_lt (inb_in g5))) (v := .int (mI τ (ra 4 x1.toNatClampNeg) 1)) rfl ?_
  refine g_icmp_ge (tgt := 101) X dX10_perform_38 (by decide) (fun c6 => ?_) (fun c6 => ?_)
  · replace h := (if_pos c6).symm.trans h
    refine g_iload_n X dX10_perform_101 rfl 2 rfl ?_
    have hk := inr_hk h hk
    have hk : (z2, τ) = r := hk
    subst hk
    exact g_iret X hr hlk dX10_perform_102 rfl
  · replace h := (if_neg c6).symm.trans h
    refine g_aload_n X dX10_perform_41 rfl 0 rfl ?_
    refine g_get X fl_RX10_52 dX10_perform_42 kd_0 (v := .ref (be θ + 428)) rfl ?_
    refine g_aload_n X dX10_perform_45 rfl 0 rfl ?_
    refine g_get X fl_RX10_35 dX10_perform_46 kd_0 (v := .ref (be θ + 6)) rfl ?_
    refine g_aload_n X dX10_perform_49 rfl 0 rfl ?_
    refine g_get X fl_RX10_24 dX10_perform_50 kd_0 (v := .ref (be θ + 4)) rfl ?_
    refine g_iload_n X dX10_perform_53 rfl 1 rfl ?_
    refine g_aald X kd_4 (by decide) ln_4 (inb_in g5) dX10_perform_54 ?_
    refine g_iload_n X dX10_perform_55 rfl 3 rfl ?_
    obtain ⟨q7, hq7, h⟩ := Option.bind_eq_some_iff.mp h
    refine g_cV X (c_Trade_whyNotStep kd_6 (ra_4 (in_lt (inb_in g5))) hq7) lk_RX10_319 my_X9_whyNotStep (a := 428) (ci := 9) kd_428 (by decide) rfl (As := [.ref (be θ + 6), .ref (be θ + (ra 4 x1.toNatClampNeg)), .int z3]) (rest := []) rfl rfl (Nat.le_of_ble_eq_true rfl) ⟨(Nat.le_of_ble_eq_true rfl), (Nat.le_of_ble_eq_true rfl)⟩ ⟨(Nat.le_of_ble_eq_true rfl), (Nat.le_of_ble_eq_true rfl)⟩ dX10_perform_56 (st' := [.int q7]) (σ' := τ) rfl rfl ?_
    refine g_iconst X dX10_perform_59 (v := (-1 : Int32)) ic_m1 ?_
    refine g_icmp_ne (tgt := 101) X dX10_perform_60 (by decide) (fun c8 => ?_) (fun c8 => ?_)
    · replace h := (if_neg c8).symm.trans h
      refine g_iload_n X dX10_perform_101 rfl 2 rfl ?_
      have hk := inr_hk h hk
      have hk : (z2, τ) = r := hk
      subst hk
      exact g_iret X hr hlk dX10_perform_102 rfl
    · replace h := (if_pos c8).symm.trans h
      refine g_aload_n X dX10_perform_63 rfl 0 rfl ?_
      refine g_get X fl_RX10_45 dX10_perform_64 kd_0 (v := .ref (be θ + 26)) rfl ?_
      refine g_aload_n X dX10_perform_67 rfl 0 rfl ?_
      refine g_get X fl_RX10_35 dX10_perform_68 kd_0 (v := .ref (be θ + 6)) rfl ?_
      obtain ⟨q9, hq9, h⟩ := Option.bind_eq_some_iff.mp h
      refine g_cV X (c_History_keep kd_6 hq9) lk_RX10_222 my_X4_keep (a := 26) (ci := 4) kd_26 (by decide) rfl (As := [.ref (be θ + 6)]) (rest := []) rfl rfl (Nat.le_of_ble_eq_true rfl) ⟨(Nat.le_of_ble_eq_true rfl), (Nat.le_of_ble_eq_true rfl)⟩ ⟨(Nat.le_of_ble_eq_true rfl), (Nat.le_of_ble_eq_true rfl)⟩ dX10_perform_71 (st' := []) (σ' := q9) rfl rfl ?_
      refine g_aload_n X dX10_perform_74 rfl 0 rfl ?_
      refine g_get X fl_RX10_52 dX10_perform_75 kd_0 (v := .ref (be θ + 428)) rfl ?_
      refine g_aload_n X dX10_perform_78 rfl 0 rfl ?_
      refine g_get X fl_RX10_35 dX10_perform_79 kd_0 (v := .ref (be θ + 6)) rfl ?_
      refine g_aload_n X dX10_perform_82 rfl 0 rfl ?_
      refine g_get X fl_RX10_24 dX10_perform_83 kd_0 (v := .ref (be θ + 4)) rfl ?_
      refine g_iload_n X dX10_perform_86 rfl 1 rfl ?_
      refine g_aald X kd_4 (by decide) ln_4 (inb_in g5) dX10_perform_87 ?_
      refine g_iload_n X dX10_perform_88 rfl 3 rfl ?_
      obtain ⟨q10, hq10, h⟩ := Option.bind_eq_some_iff.mp h
      refine g_cV X (c_Trade_makeStep kd_6 (ra_4 (in_lt (inb_in g5))) hq10) lk_RX10_323 my_X9_makeStep (a := 428) (ci := 9) kd_428 (by decide) rfl (As := [.ref (be θ + 6), .ref (be θ + (ra 4 x1.toNatClampNeg)), .int z3]) (rest := []) rfl rfl (Nat.le_of_ble_eq_true rfl) ⟨(Nat.le_of_ble_eq_true rfl), (Nat.le_of_ble_eq_true rfl)⟩ ⟨(Nat.le_of_ble_eq_true rfl), (Nat.le_of_ble_eq_true rfl)⟩ dX10_perform_89 (st' := []) (σ' := q10) rfl rfl ?_
      refine g_iinc X dX10_perform_92 (kq := 2) rfl (congrArg (HAdd.hAdd _) ic_1) (by decide) (lv' := [(2, .int (z2 + (1 : Int32))), (0, .ref (be θ + 0)), (1, .int x1), (3, .int z3)]) rfl ?_
      refine g_iinc X dX10_perform_95 (kq := 3) rfl (congrArg (HAdd.hAdd _) ic_1) (by decide) (lv' := [(3, .int (z3 + (1 : Int32))), (2, .int (z2 + (1 : Int32))), (0, .ref (be θ + 0)), (1, .int x1)]) rfl ?_
      refine g_goto (tgt := 28) X dX10_perform_98 (by decide) ?_
      have hk := inl_hk h hk
      exact g_sub (lv' := [(0, .ref (be θ + 0)), (1, .int x1), (2, .int (z2 + (1 : Int32))), (3, .int (z3 + (1 : Int32)))]) [2, 3, 1, 0] rfl hk
set_option maxHeartbeats 4000000 in
set_option maxRecDepth 20000 in
theorem gl_Game_perform_L28 (X : Cx θ p s m args c cX10_perform 4 RX10) (hr : meth.sig.returnType = some .int) (hlk : meth.locks = false)  {x1 : Int32} {r : Int32 × Mem}  (n : Nat) (a : Mem × Int32 × Int32) (b : Int32 × Mem) (h : loopF (f_Game_perform_L28 x1) n a = some b) (hk : (fun b => b = r) b) : (fun a => @Prod.casesOn (Mem) (Int32 × Int32) (fun _ => Prop) a fun τ b0 => @Prod.casesOn (Int32) (Int32) (fun _ => Prop) b0 fun z2 z3 => GB θ p l e 6 s m args below meth c 4 (some (.int r.1), r.2) 28 [(0, .ref (be θ + 0)), (1, .int x1), (2, .int z2), (3, .int z3)] [] τ) a :=
  loopF_by (P := (fun a => @Prod.casesOn (Mem) (Int32 × Int32) (fun _ => Prop) a fun τ b0 => @Prod.casesOn (Int32) (Int32) (fun _ => Prop) b0 fun z2 z3 => GB θ p l e 6 s m args below meth c 4 (some (.int r.1), r.2) 28 [(0, .ref (be θ + 0)), (1, .int x1), (2, .int z2), (3, .int z3)] [] τ)) (K := (fun b => b = r)) (fun a x h hk => by obtain ⟨τ, z2, z3⟩ := a; exact gs_Game_perform_L28 X hr hlk   τ z2 z3 x h hk) n a b h hk
set_option maxHeartbeats 4000000 in
set_option maxRecDepth 20000 in
theorem g_Game_perform (X : Cx θ p s m args c cX10_perform 4 RX10) (hr : meth.sig.returnType = some .int) (hlk : meth.locks = false)  {σ : Mem} {x1 : Int32} {r : Int32 × Mem}  (h : f_Game_perform σ x1 = some r) : GB θ p l e 6 s m args below meth c 4 (some (.int r.1), r.2) 0 [(0, .ref (be θ + 0)), (1, .int x1)] [] σ := by
  unfold f_Game_perform at h
  refine g_aload_n X dX10_perform_0 rfl 0 rfl ?_
  refine g_get X fl_RX10_52 dX10_perform_1 kd_0 (v := .ref (be θ + 428)) rfl ?_
  obtain ⟨q1, hq1, h⟩ := Option.bind_eq_some_iff.mp h
  refine g_cV X (c_Trade_hasCity  hq1) lk_RX10_265 my_X9_hasCity (a := 428) (ci := 9) kd_428 (by decide) rfl (As := []) (rest := []) rfl rfl (Nat.le_of_ble_eq_true rfl) ⟨(Nat.le_of_ble_eq_true rfl), (Nat.le_of_ble_eq_true rfl)⟩ ⟨(Nat.le_of_ble_eq_true rfl), (Nat.le_of_ble_eq_true rfl)⟩ dX10_perform_4 (st' := [.int q1]) (σ' := σ) rfl rfl ?_
  refine g_if_eq (tgt := 22) X dX10_perform_7 (by decide) (fun c2 => ?_) (fun c2 => ?_)
  · replace h := (if_pos c2).symm.trans h
    refine g_iconst X dX10_perform_22 (v := (-1 : Int32)) ic_m1 ?_
    exact g_iret X hr hlk dX10_perform_23 (by cases h; rfl)
  · replace h := (if_neg c2).symm.trans h
    refine g_iload_n X dX10_perform_10 rfl 1 rfl ?_
    refine g_if_lt (tgt := 22) X dX10_perform_11 (by decide) (fun c3 => ?_) (fun c3 => ?_)
    · replace h := (if_pos c3).symm.trans h
      refine g_iconst X dX10_perform_22 (v := (-1 : Int32)) ic_m1 ?_
      exact g_iret X hr hlk dX10_perform_23 (by cases h; rfl)
    · replace h := (if_neg c3).symm.trans h
      refine g_iload_n X dX10_perform_14 rfl 1 rfl ?_
      refine g_aload_n X dX10_perform_15 rfl 0 rfl ?_
      refine g_get X fl_RX10_91 dX10_perform_16 kd_0 (v := .int (mI σ 0 14)) rfl ?_
      refine g_icmp_lt (tgt := 24) X dX10_perform_19 (by decide) (fun c4 => ?_) (fun c4 => ?_)
      · replace h := (if_pos c4).symm.trans h
        refine g_iconst X dX10_perform_24 (v := (0 : Int32)) ic_0 ?_
        refine g_istore_n X dX10_perform_25 rfl (by decide) (lv' := [(2, .int (0 : Int32)), (0, .ref (be θ + 0)), (1, .int x1)]) rfl ?_
        refine g_iconst X dX10_perform_26 (v := (0 : Int32)) ic_0 ?_
        refine g_istore_n X dX10_perform_27 rfl (by decide) (lv' := [(3, .int (0 : Int32)), (2, .int (0 : Int32)), (0, .ref (be θ + 0)), (1, .int x1)]) rfl ?_
        exact g_sub (lv' := [(0, .ref (be θ + 0)), (1, .int x1), (2, .int (0 : Int32)), (3, .int (0 : Int32))]) [2, 3, 1, 0] rfl (gl_Game_perform_L28 X hr hlk    FU _ _ h rfl)
      · replace h := (if_neg c4).symm.trans h
        refine g_iconst X dX10_perform_22 (v := (-1 : Int32)) ic_m1 ?_
        exact g_iret X hr hlk dX10_perform_23 (by cases h; rfl)
set_option maxHeartbeats 4000000 in
set_option maxRecDepth 20000 in
theorem c_Game_perform {θ : Th} {l : Launch} {σ : Mem} {x1 : Int32} {r : Int32 × Mem}  (h : f_Game_perform σ x1 = some r) : Cn θ l yX10_perform cX10_perform 4 (some .int) 6 0 0 [.ref (be θ + 0), .int x1] σ (some (.int r.1), r.2) :=
  Cn.of (by decide) (Nat.le_of_ble_eq_true rfl) (fun p e s m below meth c X hr hlk => g_Game_perform X hr hlk  h)
theorem dX10_treasury_0 : decode cX10_treasury 0 = .ok (.aload_n 0, 1) := by decide +kernel
theorem dX10_treasury_1 : decode cX10_treasury 1 = .ok (.getfield 52, 3) := by decide +kernel
theorem dX10_treasury_4 : decode cX10_treasury 4 = .ok (.invokevirtual 265, 3) := by decide +kernel
theorem dX10_treasury_7 : decode cX10_treasury 7 = .ok (.ifCond .eq 13, 3) := by decide +kernel
theorem dX10_treasury_10 : decode cX10_treasury 10 = .ok (.iload_n 1, 1) := by decide +kernel
theorem dX10_treasury_11 : decode cX10_treasury 11 = .ok (.ifCond .lt 9, 3) := by decide +kernel
theorem dX10_treasury_14 : decode cX10_treasury 14 = .ok (.iload_n 1, 1) := by decide +kernel
theorem dX10_treasury_15 : decode cX10_treasury 15 = .ok (.bipush 60, 2) := by decide +kernel
theorem dX10_treasury_17 : decode cX10_treasury 17 = .ok (.if_icmp .le 5, 3) := by decide +kernel
theorem dX10_treasury_20 : decode cX10_treasury 20 = .ok (.iconst (-1), 1) := by decide +kernel
theorem dX10_treasury_21 : decode cX10_treasury 21 = .ok (.ireturn, 1) := by decide +kernel
theorem dX10_treasury_22 : decode cX10_treasury 22 = .ok (.aload_n 0, 1) := by decide +kernel
theorem dX10_treasury_23 : decode cX10_treasury 23 = .ok (.getfield 59, 3) := by decide +kernel
theorem dX10_treasury_26 : decode cX10_treasury 26 = .ok (.aload_n 0, 1) := by decide +kernel
theorem dX10_treasury_27 : decode cX10_treasury 27 = .ok (.getfield 52, 3) := by decide +kernel
theorem dX10_treasury_30 : decode cX10_treasury 30 = .ok (.aload_n 0, 1) := by decide +kernel
theorem dX10_treasury_31 : decode cX10_treasury 31 = .ok (.getfield 35, 3) := by decide +kernel
theorem dX10_treasury_34 : decode cX10_treasury 34 = .ok (.iload_n 1, 1) := by decide +kernel
theorem dX10_treasury_35 : decode cX10_treasury 35 = .ok (.invokevirtual 330, 3) := by decide +kernel
theorem dX10_treasury_38 : decode cX10_treasury 38 = .ok (.getfield 334, 3) := by decide +kernel
theorem dX10_treasury_41 : decode cX10_treasury 41 = .ok (.ireturn, 1) := by decide +kernel
def f_Game_treasury (σ : Mem) (x1 : Int32) : Option (Int32 × Mem) :=
  (f_Trade_hasCity σ).bind fun q1 =>
  if q1 = (0 : Int32) then
    some ((-1 : Int32), σ)
  else
    if x1 < (0 : Int32) then
      some ((-1 : Int32), σ)
    else
      if x1 ≤ (60 : Int32) then
        (f_Outlook_behind σ 6 x1).bind fun q5 =>
        some ((mI q5 435 13), q5)
      else
        some ((-1 : Int32), σ)
set_option maxHeartbeats 4000000 in
set_option maxRecDepth 20000 in
theorem g_Game_treasury (X : Cx θ p s m args c cX10_treasury 2 RX10) (hr : meth.sig.returnType = some .int) (hlk : meth.locks = false)  {σ : Mem} {x1 : Int32} {r : Int32 × Mem}  (h : f_Game_treasury σ x1 = some r) : GB θ p l e 6 s m args below meth c 2 (some (.int r.1), r.2) 0 [(0, .ref (be θ + 0)), (1, .int x1)] [] σ := by
  unfold f_Game_treasury at h
  refine g_aload_n X dX10_treasury_0 rfl 0 rfl ?_
  refine g_get X fl_RX10_52 dX10_treasury_1 kd_0 (v := .ref (be θ + 428)) rfl ?_
  obtain ⟨q1, hq1, h⟩ := Option.bind_eq_some_iff.mp h
  refine g_cV X (c_Trade_hasCity  hq1) lk_RX10_265 my_X9_hasCity (a := 428) (ci := 9) kd_428 (by decide) rfl (As := []) (rest := []) rfl rfl (Nat.le_of_ble_eq_true rfl) ⟨(Nat.le_of_ble_eq_true rfl), (Nat.le_of_ble_eq_true rfl)⟩ ⟨(Nat.le_of_ble_eq_true rfl), (Nat.le_of_ble_eq_true rfl)⟩ dX10_treasury_4 (st' := [.int q1]) (σ' := σ) rfl rfl ?_
  refine g_if_eq (tgt := 20) X dX10_treasury_7 (by decide) (fun c2 => ?_) (fun c2 => ?_)
  · replace h := (if_pos c2).symm.trans h
    refine g_iconst X dX10_treasury_20 (v := (-1 : Int32)) ic_m1 ?_
    exact g_iret X hr hlk dX10_treasury_21 (by cases h; rfl)
  · replace h := (if_neg c2).symm.trans h
    refine g_iload_n X dX10_treasury_10 rfl 1 rfl ?_
    refine g_if_lt (tgt := 20) X dX10_treasury_11 (by decide) (fun c3 => ?_) (fun c3 => ?_)
    · replace h := (if_pos c3).symm.trans h
      refine g_iconst X dX10_treasury_20 (v := (-1 : Int32)) ic_m1 ?_
      exact g_iret X hr hlk dX10_treasury_21 (by cases h; rfl)
    · replace h := (if_neg c3).symm.trans h
      refine g_iload_n X dX10_treasury_14 rfl 1 rfl ?_
      refine g_bipush X dX10_treasury_15 (v := (60 : Int32)) bp_60 ?_
      refine g_icmp_le (tgt := 22) X dX10_treasury_17 (by decide) (fun c4 => ?_) (fun c4 => ?_)
      · replace h := (if_pos c4).symm.trans h
        refine g_aload_n X dX10_treasury_22 rfl 0 rfl ?_
        refine g_get X fl_RX10_59 dX10_treasury_23 kd_0 (v := .ref (be θ + 434)) rfl ?_
        refine g_aload_n X dX10_treasury_26 rfl 0 rfl ?_
        refine g_get X fl_RX10_52 dX10_treasury_27 kd_0 (v := .ref (be θ + 428)) rfl ?_
        refine g_aload_n X dX10_treasury_30 rfl 0 rfl ?_
        refine g_get X fl_RX10_35 dX10_treasury_31 kd_0 (v := .ref (be θ + 6)) rfl ?_
        refine g_iload_n X dX10_treasury_34 rfl 1 rfl ?_
        obtain ⟨q5, hq5, h⟩ := Option.bind_eq_some_iff.mp h
        refine g_cV X (c_Outlook_behind kd_6 hq5) lk_RX10_330 my_X6_behind (a := 434) (ci := 6) kd_434 (by decide) rfl (As := [.ref (be θ + 428), .ref (be θ + 6), .int x1]) (rest := []) rfl rfl (Nat.le_of_ble_eq_true rfl) ⟨(Nat.le_of_ble_eq_true rfl), (Nat.le_of_ble_eq_true rfl)⟩ ⟨(Nat.le_of_ble_eq_true rfl), (Nat.le_of_ble_eq_true rfl)⟩ dX10_treasury_35 (st' := [.ref (be θ + 435)]) (σ' := q5) rfl rfl ?_
        refine g_get X fl_RX10_334 dX10_treasury_38 kd_435 (v := .int (mI q5 435 13)) rfl ?_
        exact g_iret X hr hlk dX10_treasury_41 (by cases h; rfl)
      · replace h := (if_neg c4).symm.trans h
        refine g_iconst X dX10_treasury_20 (v := (-1 : Int32)) ic_m1 ?_
        exact g_iret X hr hlk dX10_treasury_21 (by cases h; rfl)
set_option maxHeartbeats 4000000 in
set_option maxRecDepth 20000 in
theorem c_Game_treasury {θ : Th} {l : Launch} {σ : Mem} {x1 : Int32} {r : Int32 × Mem}  (h : f_Game_treasury σ x1 = some r) : Cn θ l yX10_treasury cX10_treasury 2 (some .int) 6 0 0 [.ref (be θ + 0), .int x1] σ (some (.int r.1), r.2) :=
  Cn.of (by decide) (Nat.le_of_ble_eq_true rfl) (fun p e s m below meth c X hr hlk => g_Game_treasury X hr hlk  h)
theorem dX10_purse_0 : decode cX10_purse 0 = .ok (.aload_n 0, 1) := by decide +kernel
theorem dX10_purse_1 : decode cX10_purse 1 = .ok (.getfield 52, 3) := by decide +kernel
theorem dX10_purse_4 : decode cX10_purse 4 = .ok (.iload_n 1, 1) := by decide +kernel
theorem dX10_purse_5 : decode cX10_purse 5 = .ok (.invokevirtual 174, 3) := by decide +kernel
theorem dX10_purse_8 : decode cX10_purse 8 = .ok (.ifCond .eq 13, 3) := by decide +kernel
theorem dX10_purse_11 : decode cX10_purse 11 = .ok (.iload_n 2, 1) := by decide +kernel
theorem dX10_purse_12 : decode cX10_purse 12 = .ok (.ifCond .lt 9, 3) := by decide +kernel
theorem dX10_purse_15 : decode cX10_purse 15 = .ok (.iload_n 2, 1) := by decide +kernel
theorem dX10_purse_16 : decode cX10_purse 16 = .ok (.bipush 60, 2) := by decide +kernel
theorem dX10_purse_18 : decode cX10_purse 18 = .ok (.if_icmp .le 5, 3) := by decide +kernel
theorem dX10_purse_21 : decode cX10_purse 21 = .ok (.iconst (-1), 1) := by decide +kernel
theorem dX10_purse_22 : decode cX10_purse 22 = .ok (.ireturn, 1) := by decide +kernel
theorem dX10_purse_23 : decode cX10_purse 23 = .ok (.aload_n 0, 1) := by decide +kernel
theorem dX10_purse_24 : decode cX10_purse 24 = .ok (.getfield 59, 3) := by decide +kernel
theorem dX10_purse_27 : decode cX10_purse 27 = .ok (.aload_n 0, 1) := by decide +kernel
theorem dX10_purse_28 : decode cX10_purse 28 = .ok (.getfield 52, 3) := by decide +kernel
theorem dX10_purse_31 : decode cX10_purse 31 = .ok (.aload_n 0, 1) := by decide +kernel
theorem dX10_purse_32 : decode cX10_purse 32 = .ok (.getfield 35, 3) := by decide +kernel
theorem dX10_purse_35 : decode cX10_purse 35 = .ok (.iload_n 2, 1) := by decide +kernel
theorem dX10_purse_36 : decode cX10_purse 36 = .ok (.invokevirtual 330, 3) := by decide +kernel
theorem dX10_purse_39 : decode cX10_purse 39 = .ok (.getfield 180, 3) := by decide +kernel
theorem dX10_purse_42 : decode cX10_purse 42 = .ok (.iload_n 1, 1) := by decide +kernel
theorem dX10_purse_43 : decode cX10_purse 43 = .ok (.iaload, 1) := by decide +kernel
theorem dX10_purse_44 : decode cX10_purse 44 = .ok (.ireturn, 1) := by decide +kernel
def f_Game_purse (σ : Mem) (x1 : Int32) (x2 : Int32) : Option (Int32 × Mem) :=
  (f_Trade_isBuyer σ x1).bind fun q1 =>
  if q1 = (0 : Int32) then
    some ((-1 : Int32), σ)
  else
    if x2 < (0 : Int32) then
      some ((-1 : Int32), σ)
    else
      if x2 ≤ (60 : Int32) then
        (f_Outlook_behind σ 6 x2).bind fun q5 =>
        if inb x1 6 then
          some ((mI q5 441 x1.toNatClampNeg), q5)
        else none
      else
        some ((-1 : Int32), σ)
set_option maxHeartbeats 4000000 in
set_option maxRecDepth 20000 in
theorem g_Game_purse (X : Cx θ p s m args c cX10_purse 3 RX10) (hr : meth.sig.returnType = some .int) (hlk : meth.locks = false)  {σ : Mem} {x1 : Int32} {x2 : Int32} {r : Int32 × Mem}  (h : f_Game_purse σ x1 x2 = some r) : GB θ p l e 6 s m args below meth c 3 (some (.int r.1), r.2) 0 [(0, .ref (be θ + 0)), (1, .int x1), (2, .int x2)] [] σ := by
  unfold f_Game_purse at h
  refine g_aload_n X dX10_purse_0 rfl 0 rfl ?_
  refine g_get X fl_RX10_52 dX10_purse_1 kd_0 (v := .ref (be θ + 428)) rfl ?_
  refine g_iload_n X dX10_purse_4 rfl 1 rfl ?_
  obtain ⟨q1, hq1, h⟩ := Option.bind_eq_some_iff.mp h
  refine g_cV X (c_Trade_isBuyer  hq1) lk_RX10_174 my_X9_isBuyer (a := 428) (ci := 9) kd_428 (by decide) rfl (As := [.int x1]) (rest := []) rfl rfl (Nat.le_of_ble_eq_true rfl) ⟨(Nat.le_of_ble_eq_true rfl), (Nat.le_of_ble_eq_true rfl)⟩ ⟨(Nat.le_of_ble_eq_true rfl), (Nat.le_of_ble_eq_true rfl)⟩ dX10_purse_5 (st' := [.int q1]) (σ' := σ) rfl rfl ?_
  refine g_if_eq (tgt := 21) X dX10_purse_8 (by decide) (fun c2 => ?_) (fun c2 => ?_)
  · replace h := (if_pos c2).symm.trans h
    refine g_iconst X dX10_purse_21 (v := (-1 : Int32)) ic_m1 ?_
    exact g_iret X hr hlk dX10_purse_22 (by cases h; rfl)
  · replace h := (if_neg c2).symm.trans h
    refine g_iload_n X dX10_purse_11 rfl 2 rfl ?_
    refine g_if_lt (tgt := 21) X dX10_purse_12 (by decide) (fun c3 => ?_) (fun c3 => ?_)
    · replace h := (if_pos c3).symm.trans h
      refine g_iconst X dX10_purse_21 (v := (-1 : Int32)) ic_m1 ?_
      exact g_iret X hr hlk dX10_purse_22 (by cases h; rfl)
    · replace h := (if_neg c3).symm.trans h
      refine g_iload_n X dX10_purse_15 rfl 2 rfl ?_
      refine g_bipush X dX10_purse_16 (v := (60 : Int32)) bp_60 ?_
      refine g_icmp_le (tgt := 23) X dX10_purse_18 (by decide) (fun c4 => ?_) (fun c4 => ?_)
      · replace h := (if_pos c4).symm.trans h
        refine g_aload_n X dX10_purse_23 rfl 0 rfl ?_
        refine g_get X fl_RX10_59 dX10_purse_24 kd_0 (v := .ref (be θ + 434)) rfl ?_
        refine g_aload_n X dX10_purse_27 rfl 0 rfl ?_
        refine g_get X fl_RX10_52 dX10_purse_28 kd_0 (v := .ref (be θ + 428)) rfl ?_
        refine g_aload_n X dX10_purse_31 rfl 0 rfl ?_
        refine g_get X fl_RX10_35 dX10_purse_32 kd_0 (v := .ref (be θ + 6)) rfl ?_
        refine g_iload_n X dX10_purse_35 rfl 2 rfl ?_
        obtain ⟨q5, hq5, h⟩ := Option.bind_eq_some_iff.mp h
        refine g_cV X (c_Outlook_behind kd_6 hq5) lk_RX10_330 my_X6_behind (a := 434) (ci := 6) kd_434 (by decide) rfl (As := [.ref (be θ + 428), .ref (be θ + 6), .int x2]) (rest := []) rfl rfl (Nat.le_of_ble_eq_true rfl) ⟨(Nat.le_of_ble_eq_true rfl), (Nat.le_of_ble_eq_true rfl)⟩ ⟨(Nat.le_of_ble_eq_true rfl), (Nat.le_of_ble_eq_true rfl)⟩ dX10_purse_36 (st' := [.ref (be θ + 435)]) (σ' := q5) rfl rfl ?_
        refine g_get X fl_RX10_180 dX10_purse_39 kd_435 (v := .ref (be θ + 441)) rfl ?_
        refine g_iload_n X dX10_purse_42 rfl 1 rfl ?_
        obtain ⟨g6, h⟩ := ite_some h
        refine g_iald X kd_441 ln_441 (inb_in g6) dX10_purse_43 ?_
        exact g_iret X hr hlk dX10_purse_44 (by cases h; rfl)
      · replace h := (if_neg c4).symm.trans h
        refine g_iconst X dX10_purse_21 (v := (-1 : Int32)) ic_m1 ?_
        exact g_iret X hr hlk dX10_purse_22 (by cases h; rfl)
set_option maxHeartbeats 4000000 in
set_option maxRecDepth 20000 in
theorem c_Game_purse {θ : Th} {l : Launch} {σ : Mem} {x1 : Int32} {x2 : Int32} {r : Int32 × Mem}  (h : f_Game_purse σ x1 x2 = some r) : Cn θ l yX10_purse cX10_purse 3 (some .int) 6 0 0 [.ref (be θ + 0), .int x1, .int x2] σ (some (.int r.1), r.2) :=
  Cn.of (by decide) (Nat.le_of_ble_eq_true rfl) (fun p e s m below meth c X hr hlk => g_Game_purse X hr hlk  h)
theorem dX10_whose_0 : decode cX10_whose 0 = .ok (.aload_n 0, 1) := by decide +kernel
theorem dX10_whose_1 : decode cX10_whose 1 = .ok (.getfield 52, 3) := by decide +kernel
theorem dX10_whose_4 : decode cX10_whose 4 = .ok (.iload_n 1, 1) := by decide +kernel
theorem dX10_whose_5 : decode cX10_whose 5 = .ok (.invokevirtual 151, 3) := by decide +kernel
theorem dX10_whose_8 : decode cX10_whose 8 = .ok (.ifCond .eq 13, 3) := by decide +kernel
theorem dX10_whose_11 : decode cX10_whose 11 = .ok (.iload_n 2, 1) := by decide +kernel
theorem dX10_whose_12 : decode cX10_whose 12 = .ok (.ifCond .lt 9, 3) := by decide +kernel
theorem dX10_whose_15 : decode cX10_whose 15 = .ok (.iload_n 2, 1) := by decide +kernel
theorem dX10_whose_16 : decode cX10_whose 16 = .ok (.bipush 60, 2) := by decide +kernel
theorem dX10_whose_18 : decode cX10_whose 18 = .ok (.if_icmp .le 5, 3) := by decide +kernel
theorem dX10_whose_21 : decode cX10_whose 21 = .ok (.iconst (-1), 1) := by decide +kernel
theorem dX10_whose_22 : decode cX10_whose 22 = .ok (.ireturn, 1) := by decide +kernel
theorem dX10_whose_23 : decode cX10_whose 23 = .ok (.aload_n 0, 1) := by decide +kernel
theorem dX10_whose_24 : decode cX10_whose 24 = .ok (.getfield 59, 3) := by decide +kernel
theorem dX10_whose_27 : decode cX10_whose 27 = .ok (.aload_n 0, 1) := by decide +kernel
theorem dX10_whose_28 : decode cX10_whose 28 = .ok (.getfield 52, 3) := by decide +kernel
theorem dX10_whose_31 : decode cX10_whose 31 = .ok (.aload_n 0, 1) := by decide +kernel
theorem dX10_whose_32 : decode cX10_whose 32 = .ok (.getfield 35, 3) := by decide +kernel
theorem dX10_whose_35 : decode cX10_whose 35 = .ok (.iload_n 2, 1) := by decide +kernel
theorem dX10_whose_36 : decode cX10_whose 36 = .ok (.invokevirtual 330, 3) := by decide +kernel
theorem dX10_whose_39 : decode cX10_whose 39 = .ok (.getfield 165, 3) := by decide +kernel
theorem dX10_whose_42 : decode cX10_whose 42 = .ok (.iload_n 1, 1) := by decide +kernel
theorem dX10_whose_43 : decode cX10_whose 43 = .ok (.iaload, 1) := by decide +kernel
theorem dX10_whose_44 : decode cX10_whose 44 = .ok (.ireturn, 1) := by decide +kernel
def f_Game_whose (σ : Mem) (x1 : Int32) (x2 : Int32) : Option (Int32 × Mem) :=
  (f_Trade_isThing σ x1).bind fun q1 =>
  if q1 = (0 : Int32) then
    some ((-1 : Int32), σ)
  else
    if x2 < (0 : Int32) then
      some ((-1 : Int32), σ)
    else
      if x2 ≤ (60 : Int32) then
        (f_Outlook_behind σ 6 x2).bind fun q5 =>
        if inb x1 8 then
          some ((mI q5 436 x1.toNatClampNeg), q5)
        else none
      else
        some ((-1 : Int32), σ)
set_option maxHeartbeats 4000000 in
set_option maxRecDepth 20000 in
theorem g_Game_whose (X : Cx θ p s m args c cX10_whose 3 RX10) (hr : meth.sig.returnType = some .int) (hlk : meth.locks = false)  {σ : Mem} {x1 : Int32} {x2 : Int32} {r : Int32 × Mem}  (h : f_Game_whose σ x1 x2 = some r) : GB θ p l e 6 s m args below meth c 3 (some (.int r.1), r.2) 0 [(0, .ref (be θ + 0)), (1, .int x1), (2, .int x2)] [] σ := by
  unfold f_Game_whose at h
  refine g_aload_n X dX10_whose_0 rfl 0 rfl ?_
  refine g_get X fl_RX10_52 dX10_whose_1 kd_0 (v := .ref (be θ + 428)) rfl ?_
  refine g_iload_n X dX10_whose_4 rfl 1 rfl ?_
  obtain ⟨q1, hq1, h⟩ := Option.bind_eq_some_iff.mp h
  refine g_cV X (c_Trade_isThing  hq1) lk_RX10_151 my_X9_isThing (a := 428) (ci := 9) kd_428 (by decide) rfl (As := [.int x1]) (rest := []) rfl rfl (Nat.le_of_ble_eq_true rfl) ⟨(Nat.le_of_ble_eq_true rfl), (Nat.le_of_ble_eq_true rfl)⟩ ⟨(Nat.le_of_ble_eq_true rfl), (Nat.le_of_ble_eq_true rfl)⟩ dX10_whose_5 (st' := [.int q1]) (σ' := σ) rfl rfl ?_
  refine g_if_eq (tgt := 21) X dX10_whose_8 (by decide) (fun c2 => ?_) (fun c2 => ?_)
  · replace h := (if_pos c2).symm.trans h
    refine g_iconst X dX10_whose_21 (v := (-1 : Int32)) ic_m1 ?_
    exact g_iret X hr hlk dX10_whose_22 (by cases h; rfl)
  · replace h := (if_neg c2).symm.trans h
    refine g_iload_n X dX10_whose_11 rfl 2 rfl ?_
    refine g_if_lt (tgt := 21) X dX10_whose_12 (by decide) (fun c3 => ?_) (fun c3 => ?_)
    · replace h := (if_pos c3).symm.trans h
      refine g_iconst X dX10_whose_21 (v := (-1 : Int32)) ic_m1 ?_
      exact g_iret X hr hlk dX10_whose_22 (by cases h; rfl)
    · replace h := (if_neg c3).symm.trans h
      refine g_iload_n X dX10_whose_15 rfl 2 rfl ?_
      refine g_bipush X dX10_whose_16 (v := (60 : Int32)) bp_60 ?_
      refine g_icmp_le (tgt := 23) X dX10_whose_18 (by decide) (fun c4 => ?_) (fun c4 => ?_)
      · replace h := (if_pos c4).symm.trans h
        refine g_aload_n X dX10_whose_23 rfl 0 rfl ?_
        refine g_get X fl_RX10_59 dX10_whose_24 kd_0 (v := .ref (be θ + 434)) rfl ?_
        refine g_aload_n X dX10_whose_27 rfl 0 rfl ?_
        refine g_get X fl_RX10_52 dX10_whose_28 kd_0 (v := .ref (be θ + 428)) rfl ?_
        refine g_aload_n X dX10_whose_31 rfl 0 rfl ?_
        refine g_get X fl_RX10_35 dX10_whose_32 kd_0 (v := .ref (be θ + 6)) rfl ?_
        refine g_iload_n X dX10_whose_35 rfl 2 rfl ?_
        obtain ⟨q5, hq5, h⟩ := Option.bind_eq_some_iff.mp h
        refine g_cV X (c_Outlook_behind kd_6 hq5) lk_RX10_330 my_X6_behind (a := 434) (ci := 6) kd_434 (by decide) rfl (As := [.ref (be θ + 428), .ref (be θ + 6), .int x2]) (rest := []) rfl rfl (Nat.le_of_ble_eq_true rfl) ⟨(Nat.le_of_ble_eq_true rfl), (Nat.le_of_ble_eq_true rfl)⟩ ⟨(Nat.le_of_ble_eq_true rfl), (Nat.le_of_ble_eq_true rfl)⟩ dX10_whose_36 (st' := [.ref (be θ + 435)]) (σ' := q5) rfl rfl ?_
        refine g_get X fl_RX10_165 dX10_whose_39 kd_435 (v := .ref (be θ + 436)) rfl ?_
        refine g_iload_n X dX10_whose_42 rfl 1 rfl ?_
        obtain ⟨g6, h⟩ := ite_some h
        refine g_iald X kd_436 ln_436 (inb_in g6) dX10_whose_43 ?_
        exact g_iret X hr hlk dX10_whose_44 (by cases h; rfl)
      · replace h := (if_neg c4).symm.trans h
        refine g_iconst X dX10_whose_21 (v := (-1 : Int32)) ic_m1 ?_
        exact g_iret X hr hlk dX10_whose_22 (by cases h; rfl)
set_option maxHeartbeats 4000000 in
set_option maxRecDepth 20000 in
theorem c_Game_whose {θ : Th} {l : Launch} {σ : Mem} {x1 : Int32} {x2 : Int32} {r : Int32 × Mem}  (h : f_Game_whose σ x1 x2 = some r) : Cn θ l yX10_whose cX10_whose 3 (some .int) 6 0 0 [.ref (be θ + 0), .int x1, .int x2] σ (some (.int r.1), r.2) :=
  Cn.of (by decide) (Nat.le_of_ble_eq_true rfl) (fun p e s m below meth c X hr hlk => g_Game_whose X hr hlk  h)
theorem dX10_seek_0 : decode cX10_seek 0 = .ok (.aload_n 0, 1) := by decide +kernel
theorem dX10_seek_1 : decode cX10_seek 1 = .ok (.getfield 52, 3) := by decide +kernel
theorem dX10_seek_4 : decode cX10_seek 4 = .ok (.iload_n 1, 1) := by decide +kernel
theorem dX10_seek_5 : decode cX10_seek 5 = .ok (.invokevirtual 174, 3) := by decide +kernel
theorem dX10_seek_8 : decode cX10_seek 8 = .ok (.ifCond .eq 35, 3) := by decide +kernel
theorem dX10_seek_11 : decode cX10_seek 11 = .ok (.aload_n 0, 1) := by decide +kernel
theorem dX10_seek_12 : decode cX10_seek 12 = .ok (.getfield 35, 3) := by decide +kernel
theorem dX10_seek_15 : decode cX10_seek 15 = .ok (.getfield 192, 3) := by decide +kernel
theorem dX10_seek_18 : decode cX10_seek 18 = .ok (.iload_n 1, 1) := by decide +kernel
theorem dX10_seek_19 : decode cX10_seek 19 = .ok (.iaload, 1) := by decide +kernel
theorem dX10_seek_20 : decode cX10_seek 20 = .ok (.iconst (-1), 1) := by decide +kernel
theorem dX10_seek_21 : decode cX10_seek 21 = .ok (.if_icmp .ne 22, 3) := by decide +kernel
theorem dX10_seek_24 : decode cX10_seek 24 = .ok (.iload_n 2, 1) := by decide +kernel
theorem dX10_seek_25 : decode cX10_seek 25 = .ok (.iconst 1, 1) := by decide +kernel
theorem dX10_seek_26 : decode cX10_seek 26 = .ok (.if_icmp .lt 17, 3) := by decide +kernel
theorem dX10_seek_29 : decode cX10_seek 29 = .ok (.iload_n 2, 1) := by decide +kernel
theorem dX10_seek_30 : decode cX10_seek 30 = .ok (.iconst 4, 1) := by decide +kernel
theorem dX10_seek_31 : decode cX10_seek 31 = .ok (.if_icmp .gt 12, 3) := by decide +kernel
theorem dX10_seek_34 : decode cX10_seek 34 = .ok (.iload_n 3, 1) := by decide +kernel
theorem dX10_seek_35 : decode cX10_seek 35 = .ok (.ifCond .lt 8, 3) := by decide +kernel
theorem dX10_seek_38 : decode cX10_seek 38 = .ok (.iload_n 3, 1) := by decide +kernel
theorem dX10_seek_39 : decode cX10_seek 39 = .ok (.iconst 1, 1) := by decide +kernel
theorem dX10_seek_40 : decode cX10_seek 40 = .ok (.if_icmp .le 5, 3) := by decide +kernel
theorem dX10_seek_43 : decode cX10_seek 43 = .ok (.iconst (-1), 1) := by decide +kernel
theorem dX10_seek_44 : decode cX10_seek 44 = .ok (.ireturn, 1) := by decide +kernel
theorem dX10_seek_45 : decode cX10_seek 45 = .ok (.aload_n 0, 1) := by decide +kernel
theorem dX10_seek_46 : decode cX10_seek 46 = .ok (.getfield 73, 3) := by decide +kernel
theorem dX10_seek_49 : decode cX10_seek 49 = .ok (.aload_n 0, 1) := by decide +kernel
theorem dX10_seek_50 : decode cX10_seek 50 = .ok (.getfield 52, 3) := by decide +kernel
theorem dX10_seek_53 : decode cX10_seek 53 = .ok (.aload_n 0, 1) := by decide +kernel
theorem dX10_seek_54 : decode cX10_seek 54 = .ok (.getfield 35, 3) := by decide +kernel
theorem dX10_seek_57 : decode cX10_seek 57 = .ok (.iload_n 1, 1) := by decide +kernel
theorem dX10_seek_58 : decode cX10_seek 58 = .ok (.iload_n 2, 1) := by decide +kernel
theorem dX10_seek_59 : decode cX10_seek 59 = .ok (.invokevirtual 337, 3) := by decide +kernel
theorem dX10_seek_62 : decode cX10_seek 62 = .ok (.iload_n 3, 1) := by decide +kernel
theorem dX10_seek_63 : decode cX10_seek 63 = .ok (.ifCond .ne 13, 3) := by decide +kernel
theorem dX10_seek_66 : decode cX10_seek 66 = .ok (.aload_n 0, 1) := by decide +kernel
theorem dX10_seek_67 : decode cX10_seek 67 = .ok (.getfield 73, 3) := by decide +kernel
theorem dX10_seek_70 : decode cX10_seek 70 = .ok (.getfield 341, 3) := by decide +kernel
theorem dX10_seek_73 : decode cX10_seek 73 = .ok (.goto 10, 3) := by decide +kernel
theorem dX10_seek_76 : decode cX10_seek 76 = .ok (.aload_n 0, 1) := by decide +kernel
theorem dX10_seek_77 : decode cX10_seek 77 = .ok (.getfield 73, 3) := by decide +kernel
theorem dX10_seek_80 : decode cX10_seek 80 = .ok (.getfield 344, 3) := by decide +kernel
theorem dX10_seek_83 : decode cX10_seek 83 = .ok (.ireturn, 1) := by decide +kernel
def f_Game_seek (σ : Mem) (x1 : Int32) (x2 : Int32) (x3 : Int32) : Option (Int32 × Mem) :=
  (f_Trade_isBuyer σ x1).bind fun q1 =>
  if q1 = (0 : Int32) then
    some ((-1 : Int32), σ)
  else
    if inb x1 6 then
      if (mI σ 11 x1.toNatClampNeg) = (-1 : Int32) then
        if x2 < (1 : Int32) then
          some ((-1 : Int32), σ)
        else
          if (4 : Int32) < x2 then
            some ((-1 : Int32), σ)
          else
            if x3 < (0 : Int32) then
              some ((-1 : Int32), σ)
            else
              if x3 ≤ (1 : Int32) then
                (f_Bargain_seekOrders σ 6 x1 x2).bind fun q9 =>
                if x3 = (0 : Int32) then
                  some ((mI q9 531 4), q9)
                else
                  some ((mI q9 531 5), q9)
              else
                some ((-1 : Int32), σ)
      else
        some ((-1 : Int32), σ)
    else none
set_option maxHeartbeats 4000000 in
set_option maxRecDepth 20000 in
theorem g_Game_seek (X : Cx θ p s m args c cX10_seek 4 RX10) (hr : meth.sig.returnType = some .int) (hlk : meth.locks = false)  {σ : Mem} {x1 : Int32} {x2 : Int32} {x3 : Int32} {r : Int32 × Mem}  (h : f_Game_seek σ x1 x2 x3 = some r) : GB θ p l e 10 s m args below meth c 4 (some (.int r.1), r.2) 0 [(0, .ref (be θ + 0)), (1, .int x1), (2, .int x2), (3, .int x3)] [] σ := by
  unfold f_Game_seek at h
  refine g_aload_n X dX10_seek_0 rfl 0 rfl ?_
  refine g_get X fl_RX10_52 dX10_seek_1 kd_0 (v := .ref (be θ + 428)) rfl ?_
  refine g_iload_n X dX10_seek_4 rfl 1 rfl ?_
  obtain ⟨q1, hq1, h⟩ := Option.bind_eq_some_iff.mp h
  refine g_cV X (c_Trade_isBuyer  hq1) lk_RX10_174 my_X9_isBuyer (a := 428) (ci := 9) kd_428 (by decide) rfl (As := [.int x1]) (rest := []) rfl rfl (Nat.le_of_ble_eq_true rfl) ⟨(Nat.le_of_ble_eq_true rfl), (Nat.le_of_ble_eq_true rfl)⟩ ⟨(Nat.le_of_ble_eq_true rfl), (Nat.le_of_ble_eq_true rfl)⟩ dX10_seek_5 (st' := [.int q1]) (σ' := σ) rfl rfl ?_
  refine g_if_eq (tgt := 43) X dX10_seek_8 (by decide) (fun c2 => ?_) (fun c2 => ?_)
  · replace h := (if_pos c2).symm.trans h
    refine g_iconst X dX10_seek_43 (v := (-1 : Int32)) ic_m1 ?_
    exact g_iret X hr hlk dX10_seek_44 (by cases h; rfl)
  · replace h := (if_neg c2).symm.trans h
    refine g_aload_n X dX10_seek_11 rfl 0 rfl ?_
    refine g_get X fl_RX10_35 dX10_seek_12 kd_0 (v := .ref (be θ + 6)) rfl ?_
    refine g_get X fl_RX10_192 dX10_seek_15 kd_6 (v := .ref (be θ + 11)) rfl ?_
    refine g_iload_n X dX10_seek_18 rfl 1 rfl ?_
    obtain ⟨g3, h⟩ := ite_some h
    refine g_iald X kd_11 ln_11 (inb_in g3) dX10_seek_19 ?_
    refine g_iconst X dX10_seek_20 (v := (-1 : Int32)) ic_m1 ?_
    refine g_icmp_ne (tgt := 43) X dX10_seek_21 (by decide) (fun c4 => ?_) (fun c4 => ?_)
    · replace h := (if_neg c4).symm.trans h
      refine g_iconst X dX10_seek_43 (v := (-1 : Int32)) ic_m1 ?_
      exact g_iret X hr hlk dX10_seek_44 (by cases h; rfl)
    · replace h := (if_pos c4).symm.trans h
      refine g_iload_n X dX10_seek_24 rfl 2 rfl ?_
      refine g_iconst X dX10_seek_25 (v := (1 : Int32)) ic_1 ?_
      refine g_icmp_lt (tgt := 43) X dX10_seek_26 (by decide) (fun c5 => ?_) (fun c5 => ?_)
      · replace h := (if_pos c5).symm.trans h
        refine g_iconst X dX10_seek_43 (v := (-1 : Int32)) ic_m1 ?_
        exact g_iret X hr hlk dX10_seek_44 (by cases h; rfl)
      · replace h := (if_neg c5).symm.trans h
        refine g_iload_n X dX10_seek_29 rfl 2 rfl ?_
        refine g_iconst X dX10_seek_30 (v := (4 : Int32)) ic_4 ?_
        refine g_icmp_gt (tgt := 43) X dX10_seek_31 (by decide) (fun c6 => ?_) (fun c6 => ?_)
        · replace h := (if_pos c6).symm.trans h
          refine g_iconst X dX10_seek_43 (v := (-1 : Int32)) ic_m1 ?_
          exact g_iret X hr hlk dX10_seek_44 (by cases h; rfl)
        · replace h := (if_neg c6).symm.trans h
          refine g_iload_n X dX10_seek_34 rfl 3 rfl ?_
          refine g_if_lt (tgt := 43) X dX10_seek_35 (by decide) (fun c7 => ?_) (fun c7 => ?_)
          · replace h := (if_pos c7).symm.trans h
            refine g_iconst X dX10_seek_43 (v := (-1 : Int32)) ic_m1 ?_
            exact g_iret X hr hlk dX10_seek_44 (by cases h; rfl)
          · replace h := (if_neg c7).symm.trans h
            refine g_iload_n X dX10_seek_38 rfl 3 rfl ?_
            refine g_iconst X dX10_seek_39 (v := (1 : Int32)) ic_1 ?_
            refine g_icmp_le (tgt := 45) X dX10_seek_40 (by decide) (fun c8 => ?_) (fun c8 => ?_)
            · replace h := (if_pos c8).symm.trans h
              refine g_aload_n X dX10_seek_45 rfl 0 rfl ?_
              refine g_get X fl_RX10_73 dX10_seek_46 kd_0 (v := .ref (be θ + 531)) rfl ?_
              refine g_aload_n X dX10_seek_49 rfl 0 rfl ?_
              refine g_get X fl_RX10_52 dX10_seek_50 kd_0 (v := .ref (be θ + 428)) rfl ?_
              refine g_aload_n X dX10_seek_53 rfl 0 rfl ?_
              refine g_get X fl_RX10_35 dX10_seek_54 kd_0 (v := .ref (be θ + 6)) rfl ?_
              refine g_iload_n X dX10_seek_57 rfl 1 rfl ?_
              refine g_iload_n X dX10_seek_58 rfl 2 rfl ?_
              obtain ⟨q9, hq9, h⟩ := Option.bind_eq_some_iff.mp h
              refine g_cV X (c_Bargain_seekOrders kd_6 hq9) lk_RX10_337 my_X0_seekOrders (a := 531) (ci := 0) kd_531 (by decide) rfl (As := [.ref (be θ + 428), .ref (be θ + 6), .int x1, .int x2]) (rest := []) rfl rfl (Nat.le_of_ble_eq_true rfl) ⟨(Nat.le_of_ble_eq_true rfl), (Nat.le_of_ble_eq_true rfl)⟩ ⟨(Nat.le_of_ble_eq_true rfl), (Nat.le_of_ble_eq_true rfl)⟩ dX10_seek_59 (st' := []) (σ' := q9) rfl rfl ?_
              refine g_iload_n X dX10_seek_62 rfl 3 rfl ?_
              refine g_if_ne (tgt := 76) X dX10_seek_63 (by decide) (fun c10 => ?_) (fun c10 => ?_)
              · replace h := (if_neg c10).symm.trans h
                refine g_aload_n X dX10_seek_76 rfl 0 rfl ?_
                refine g_get X fl_RX10_73 dX10_seek_77 kd_0 (v := .ref (be θ + 531)) rfl ?_
                refine g_get X fl_RX10_344 dX10_seek_80 kd_531 (v := .int (mI q9 531 5)) rfl ?_
                exact g_iret X hr hlk dX10_seek_83 (by cases h; rfl)
              · replace h := (if_pos c10).symm.trans h
                refine g_aload_n X dX10_seek_66 rfl 0 rfl ?_
                refine g_get X fl_RX10_73 dX10_seek_67 kd_0 (v := .ref (be θ + 531)) rfl ?_
                refine g_get X fl_RX10_341 dX10_seek_70 kd_531 (v := .int (mI q9 531 4)) rfl ?_
                refine g_goto (tgt := 83) X dX10_seek_73 (by decide) ?_
                exact g_iret X hr hlk dX10_seek_83 (by cases h; rfl)
            · replace h := (if_neg c8).symm.trans h
              refine g_iconst X dX10_seek_43 (v := (-1 : Int32)) ic_m1 ?_
              exact g_iret X hr hlk dX10_seek_44 (by cases h; rfl)
set_option maxHeartbeats 4000000 in
set_option maxRecDepth 20000 in
theorem c_Game_seek {θ : Th} {l : Launch} {σ : Mem} {x1 : Int32} {x2 : Int32} {x3 : Int32} {r : Int32 × Mem}  (h : f_Game_seek σ x1 x2 x3 = some r) : Cn θ l yX10_seek cX10_seek 4 (some .int) 10 0 0 [.ref (be θ + 0), .int x1, .int x2, .int x3] σ (some (.int r.1), r.2) :=
  Cn.of (by decide) (Nat.le_of_ble_eq_true rfl) (fun p e s m below meth c X hr hlk => g_Game_seek X hr hlk  h)
end Z12
