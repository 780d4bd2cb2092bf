section Z10
variable {θ : Th} {p : Program} {l : Launch} {e : Env} {s : State} {m : MethodId} {args : Array Value} {below : List Frame} {meth : Method} {c : Code}
theorem dX2_stepsRead_0 : decode cX2_stepsRead 0 = .ok (.iconst 0, 1) := by decide +kernel
theorem dX2_stepsRead_1 : decode cX2_stepsRead 1 = .ok (.istore_n 2, 1) := by decide +kernel
theorem dX2_stepsRead_2 : decode cX2_stepsRead 2 = .ok (.iload_n 2, 1) := by decide +kernel
theorem dX2_stepsRead_3 : decode cX2_stepsRead 3 = .ok (.bipush 16, 2) := by decide +kernel
theorem dX2_stepsRead_5 : decode cX2_stepsRead 5 = .ok (.if_icmp .ge 67, 3) := by decide +kernel
theorem dX2_stepsRead_8 : decode cX2_stepsRead 8 = .ok (.aload_n 0, 1) := by decide +kernel
theorem dX2_stepsRead_9 : decode cX2_stepsRead 9 = .ok (.aload_n 1, 1) := by decide +kernel
theorem dX2_stepsRead_10 : decode cX2_stepsRead 10 = .ok (.iload_n 2, 1) := by decide +kernel
theorem dX2_stepsRead_11 : decode cX2_stepsRead 11 = .ok (.iconst 3, 1) := by decide +kernel
theorem dX2_stepsRead_12 : decode cX2_stepsRead 12 = .ok (.imul, 1) := by decide +kernel
theorem dX2_stepsRead_13 : decode cX2_stepsRead 13 = .ok (.invokevirtual 28, 3) := by decide +kernel
theorem dX2_stepsRead_16 : decode cX2_stepsRead 16 = .ok (.ifCond .ne 5, 3) := by decide +kernel
theorem dX2_stepsRead_19 : decode cX2_stepsRead 19 = .ok (.iconst 0, 1) := by decide +kernel
theorem dX2_stepsRead_20 : decode cX2_stepsRead 20 = .ok (.ireturn, 1) := by decide +kernel
theorem dX2_stepsRead_21 : decode cX2_stepsRead 21 = .ok (.aload_n 0, 1) := by decide +kernel
theorem dX2_stepsRead_22 : decode cX2_stepsRead 22 = .ok (.iload_n 2, 1) := by decide +kernel
theorem dX2_stepsRead_23 : decode cX2_stepsRead 23 = .ok (.iconst 1, 1) := by decide +kernel
theorem dX2_stepsRead_24 : decode cX2_stepsRead 24 = .ok (.iadd, 1) := by decide +kernel
theorem dX2_stepsRead_25 : decode cX2_stepsRead 25 = .ok (.putfield 15, 3) := by decide +kernel
theorem dX2_stepsRead_28 : decode cX2_stepsRead 28 = .ok (.aload_n 1, 1) := by decide +kernel
theorem dX2_stepsRead_29 : decode cX2_stepsRead 29 = .ok (.invokevirtual 32, 3) := by decide +kernel
theorem dX2_stepsRead_32 : decode cX2_stepsRead 32 = .ok (.istore_n 3, 1) := by decide +kernel
theorem dX2_stepsRead_33 : decode cX2_stepsRead 33 = .ok (.iload_n 3, 1) := by decide +kernel
theorem dX2_stepsRead_34 : decode cX2_stepsRead 34 = .ok (.ifCond .ne 5, 3) := by decide +kernel
theorem dX2_stepsRead_37 : decode cX2_stepsRead 37 = .ok (.iconst 1, 1) := by decide +kernel
theorem dX2_stepsRead_38 : decode cX2_stepsRead 38 = .ok (.ireturn, 1) := by decide +kernel
theorem dX2_stepsRead_39 : decode cX2_stepsRead 39 = .ok (.iload_n 3, 1) := by decide +kernel
theorem dX2_stepsRead_40 : decode cX2_stepsRead 40 = .ok (.bipush 59, 2) := by decide +kernel
theorem dX2_stepsRead_42 : decode cX2_stepsRead 42 = .ok (.if_icmp .ne 12, 3) := by decide +kernel
theorem dX2_stepsRead_45 : decode cX2_stepsRead 45 = .ok (.aload_n 0, 1) := by decide +kernel
theorem dX2_stepsRead_46 : decode cX2_stepsRead 46 = .ok (.getfield 15, 3) := by decide +kernel
theorem dX2_stepsRead_49 : decode cX2_stepsRead 49 = .ok (.bipush 16, 2) := by decide +kernel
theorem dX2_stepsRead_51 : decode cX2_stepsRead 51 = .ok (.if_icmp .ne 5, 3) := by decide +kernel
theorem dX2_stepsRead_54 : decode cX2_stepsRead 54 = .ok (.iconst 0, 1) := by decide +kernel
theorem dX2_stepsRead_55 : decode cX2_stepsRead 55 = .ok (.ireturn, 1) := by decide +kernel
theorem dX2_stepsRead_56 : decode cX2_stepsRead 56 = .ok (.aload_n 1, 1) := by decide +kernel
theorem dX2_stepsRead_57 : decode cX2_stepsRead 57 = .ok (.dup, 1) := by decide +kernel
theorem dX2_stepsRead_58 : decode cX2_stepsRead 58 = .ok (.getfield 19, 3) := by decide +kernel
theorem dX2_stepsRead_61 : decode cX2_stepsRead 61 = .ok (.iconst 1, 1) := by decide +kernel
theorem dX2_stepsRead_62 : decode cX2_stepsRead 62 = .ok (.iadd, 1) := by decide +kernel
theorem dX2_stepsRead_63 : decode cX2_stepsRead 63 = .ok (.putfield 19, 3) := by decide +kernel
theorem dX2_stepsRead_66 : decode cX2_stepsRead 66 = .ok (.iinc 2 1, 3) := by decide +kernel
theorem dX2_stepsRead_69 : decode cX2_stepsRead 69 = .ok (.goto (-67), 3) := by decide +kernel
theorem dX2_stepsRead_72 : decode cX2_stepsRead 72 = .ok (.iconst 0, 1) := by decide +kernel
theorem dX2_stepsRead_73 : decode cX2_stepsRead 73 = .ok (.ireturn, 1) := by decide +kernel
def f_Day_stepsRead_L2 (x0 : Nat) (a : Mem × Int32) : Option ((Mem × Int32) ⊕ (Int32 × Mem)) :=
  @Prod.casesOn (Mem) (Int32) (fun _ => Option ((Mem × Int32) ⊕ (Int32 × Mem))) a fun τ z2 =>
  if (16 : Int32) ≤ z2 then
    some (.inr ((0 : Int32), τ))
  else
    (f_Day_stepReads τ x0 (z2 * (3 : Int32))).bind fun q2 =>
    if q2.1 = (0 : Int32) then
      some (.inr ((0 : Int32), q2.2))
    else
      (f_Tape_sign (sI q2.2 x0 1 (z2 + (1 : Int32)))).bind fun q4 =>
      if q4.1 = (0 : Int32) then
        some (.inr ((1 : Int32), q4.2))
      else
        if q4.1 = (59 : Int32) then
          if (mI q4.2 x0 1) = (16 : Int32) then
            some (.inr ((0 : Int32), q4.2))
          else
            some (.inl ((sI q4.2 1 2 ((mI q4.2 1 2) + (1 : Int32))), (z2 + (1 : Int32))))
        else
          some (.inr ((0 : Int32), q4.2))
def f_Day_stepsRead (σ : Mem) (x0 : Nat) : Option (Int32 × Mem) :=
  loopF (f_Day_stepsRead_L2 x0) FU (σ, (0 : Int32))
set_option maxHeartbeats 4000000 in
set_option maxRecDepth 20000 in
theorem gs_Day_stepsRead_L2 (X : Cx θ p s m args c cX2_stepsRead 4 RX2) (hr : meth.sig.returnType = some .boolean) (hlk : meth.locks = false)  {x0 : Nat} {r : Int32 × Mem} (h0 : kd x0 = 3) (τ : Mem) (z2 : Int32) (x : (Mem × Int32) ⊕ (Int32 × Mem)) (h : f_Day_stepsRead_L2 x0 (τ, z2) = some x) (hk : Sum.elim (fun a => @Prod.casesOn (Mem) (Int32) (fun _ => Prop) a fun τ z2 => GB θ p l e 3 s m args below meth c 4 (some (.int r.1), r.2) 2 [(0, .ref (be θ + x0)), (1, .ref (be θ + 1)), (2, .int z2)] [] τ) (fun b => b = r) x) : GB θ p l e 3 s m args below meth c 4 (some (.int r.1), r.2) 2 [(0, .ref (be θ + x0)), (1, .ref (be θ + 1)), (2, .int z2)] [] τ := by
  unfold f_Day_stepsRead_L2 at h
  dsimp only at h
  refine g_iload_n X dX2_stepsRead_2 rfl 2 rfl ?_
  refine g_bipush X dX2_stepsRead_3 (v := (16 : Int32)) bp_16 ?_
  refine g_icmp_ge (tgt := 72) X dX2_stepsRead_5 (by decide) (fun c1 => ?_) (fun c1 => ?_)
  · replace h := (if_pos c1).symm.trans h
    refine g_iconst X dX2_stepsRead_72 (v := (0 : Int32)) ic_0 ?_
    have hk := inr_hk h hk
    have hk : ((0 : Int32), τ) = r := hk
    subst hk
    exact g_zret X hr hlk bz0 dX2_stepsRead_73 rfl
  · replace h := (if_neg c1).symm.trans h
    refine g_aload_n X dX2_stepsRead_8 rfl 0 rfl ?_
    refine g_aload_n X dX2_stepsRead_9 rfl 1 rfl ?_
    refine g_iload_n X dX2_stepsRead_10 rfl 2 rfl ?_
    refine g_iconst X dX2_stepsRead_11 (v := (3 : Int32)) ic_3 ?_
    refine g_imul X dX2_stepsRead_12 ?_
    obtain ⟨q2, hq2, h⟩ := Option.bind_eq_some_iff.mp h
    refine g_cV X (c_Day_stepReads h0 hq2) lk_RX2_28 my_X2_stepReads (a := x0) (ci := 2) h0 (by decide) rfl (As := [.ref (be θ + 1), .int (z2 * (3 : Int32))]) (rest := []) rfl rfl (Nat.le_of_ble_eq_true rfl) ⟨(Nat.le_of_ble_eq_true rfl), (Nat.le_of_ble_eq_true rfl)⟩ ⟨(Nat.le_of_ble_eq_true rfl), (Nat.le_of_ble_eq_true rfl)⟩ dX2_stepsRead_13 (st' := [.int q2.1]) (σ' := q2.2) rfl rfl ?_
    refine g_if_ne (tgt := 21) X dX2_stepsRead_16 (by decide) (fun c3 => ?_) (fun c3 => ?_)
    · replace h := (if_neg c3).symm.trans h
      refine g_aload_n X dX2_stepsRead_21 rfl 0 rfl ?_
      refine g_iload_n X dX2_stepsRead_22 rfl 2 rfl ?_
      refine g_iconst X dX2_stepsRead_23 (v := (1 : Int32)) ic_1 ?_
      refine g_iadd X dX2_stepsRead_24 ?_
      refine g_putI X fl_RX2_15 dX2_stepsRead_25 h0 rfl rfl rfl ?_
      refine g_aload_n X dX2_stepsRead_28 rfl 1 rfl ?_
      obtain ⟨q4, hq4, h⟩ := Option.bind_eq_some_iff.mp h
      refine g_cV X (c_Tape_sign  hq4) lk_RX2_32 my_X8_sign (a := 1) (ci := 8) kd_1 (by decide) rfl (As := []) (rest := []) rfl rfl (Nat.le_of_ble_eq_true rfl) ⟨(Nat.le_of_ble_eq_true rfl), (Nat.le_of_ble_eq_true rfl)⟩ ⟨(Nat.le_of_ble_eq_true rfl), (Nat.le_of_ble_eq_true rfl)⟩ dX2_stepsRead_29 (st' := [.int q4.1]) (σ' := q4.2) rfl rfl ?_
      refine g_istore_n X dX2_stepsRead_32 rfl (by decide) (lv' := [(3, .int q4.1), (0, .ref (be θ + x0)), (1, .ref (be θ + 1)), (2, .int z2)]) rfl ?_
      refine g_iload_n X dX2_stepsRead_33 rfl 0 rfl ?_
      refine g_if_ne (tgt := 39) X dX2_stepsRead_34 (by decide) (fun c5 => ?_) (fun c5 => ?_)
      · replace h := (if_neg c5).symm.trans h
        refine g_iload_n X dX2_stepsRead_39 rfl 0 rfl ?_
        refine g_bipush X dX2_stepsRead_40 (v := (59 : Int32)) bp_59 ?_
        refine g_icmp_ne (tgt := 54) X dX2_stepsRead_42 (by decide) (fun c6 => ?_) (fun c6 => ?_)
        · replace h := (if_neg c6).symm.trans h
          refine g_iconst X dX2_stepsRead_54 (v := (0 : Int32)) ic_0 ?_
          have hk := inr_hk h hk
          have hk : ((0 : Int32), q4.2) = r := hk
          subst hk
          exact g_zret X hr hlk bz0 dX2_stepsRead_55 rfl
        · replace h := (if_pos c6).symm.trans h
          refine g_aload_n X dX2_stepsRead_45 rfl 1 rfl ?_
          refine g_get X fl_RX2_15 dX2_stepsRead_46 h0 (v := .int (mI q4.2 x0 1)) rfl ?_
          refine g_bipush X dX2_stepsRead_49 (v := (16 : Int32)) bp_16 ?_
          refine g_icmp_ne (tgt := 56) X dX2_stepsRead_51 (by decide) (fun c7 => ?_) (fun c7 => ?_)
          · replace h := (if_neg c7).symm.trans h
            refine g_aload_n X dX2_stepsRead_56 rfl 2 rfl ?_
            refine g_dup X dX2_stepsRead_57 rfl ?_
            refine g_get X fl_RX2_19 dX2_stepsRead_58 kd_1 (v := .int (mI q4.2 1 2)) rfl ?_
            refine g_iconst X dX2_stepsRead_61 (v := (1 : Int32)) ic_1 ?_
            refine g_iadd X dX2_stepsRead_62 ?_
            refine g_putI X fl_RX2_19 dX2_stepsRead_63 kd_1 rfl rfl rfl ?_
            refine g_iinc X dX2_stepsRead_66 (kq := 3) rfl (congrArg (HAdd.hAdd _) ic_1) (by decide) (lv' := [(2, .int (z2 + (1 : Int32))), (3, .int q4.1), (0, .ref (be θ + x0)), (1, .ref (be θ + 1))]) rfl ?_
            refine g_goto (tgt := 2) X dX2_stepsRead_69 (by decide) ?_
            have hk := inl_hk h hk
            exact g_sub (lv' := [(0, .ref (be θ + x0)), (1, .ref (be θ + 1)), (2, .int (z2 + (1 : Int32)))]) [2, 3, 0] rfl hk
          · replace h := (if_pos c7).symm.trans h
            refine g_iconst X dX2_stepsRead_54 (v := (0 : Int32)) ic_0 ?_
            have hk := inr_hk h hk
            have hk : ((0 : Int32), q4.2) = r := hk
            subst hk
            exact g_zret X hr hlk bz0 dX2_stepsRead_55 rfl
      · replace h := (if_pos c5).symm.trans h
        refine g_iconst X dX2_stepsRead_37 (v := (1 : Int32)) ic_1 ?_
        have hk := inr_hk h hk
        have hk : ((1 : Int32), q4.2) = r := hk
        subst hk
        exact g_zret X hr hlk bz1 dX2_stepsRead_38 rfl
    · replace h := (if_pos c3).symm.trans h
      refine g_iconst X dX2_stepsRead_19 (v := (0 : Int32)) ic_0 ?_
      have hk := inr_hk h hk
      have hk : ((0 : Int32), q2.2) = r := hk
      subst hk
      exact g_zret X hr hlk bz0 dX2_stepsRead_20 rfl
set_option maxHeartbeats 4000000 in
set_option maxRecDepth 20000 in
theorem gl_Day_stepsRead_L2 (X : Cx θ p s m args c cX2_stepsRead 4 RX2) (hr : meth.sig.returnType = some .boolean) (hlk : meth.locks = false)  {x0 : Nat} {r : Int32 × Mem} (h0 : kd x0 = 3) (n : Nat) (a : Mem × Int32) (b : Int32 × Mem) (h : loopF (f_Day_stepsRead_L2 x0) n a = some b) (hk : (fun b => b = r) b) : (fun a => @Prod.casesOn (Mem) (Int32) (fun _ => Prop) a fun τ z2 => GB θ p l e 3 s m args below meth c 4 (some (.int r.1), r.2) 2 [(0, .ref (be θ + x0)), (1, .ref (be θ + 1)), (2, .int z2)] [] τ) a :=
  loopF_by (P := (fun a => @Prod.casesOn (Mem) (Int32) (fun _ => Prop) a fun τ z2 => GB θ p l e 3 s m args below meth c 4 (some (.int r.1), r.2) 2 [(0, .ref (be θ + x0)), (1, .ref (be θ + 1)), (2, .int z2)] [] τ)) (K := (fun b => b = r)) (fun a x h hk => by obtain ⟨τ, z2⟩ := a; exact gs_Day_stepsRead_L2 X hr hlk  h0 τ z2 x h hk) n a b h hk
set_option maxHeartbeats 4000000 in
set_option maxRecDepth 20000 in
theorem g_Day_stepsRead (X : Cx θ p s m args c cX2_stepsRead 4 RX2) (hr : meth.sig.returnType = some .boolean) (hlk : meth.locks = false)  {σ : Mem} {x0 : Nat} {r : Int32 × Mem} (h0 : kd x0 = 3) (h : f_Day_stepsRead σ x0 = some r) : GB θ p l e 3 s m args below meth c 4 (some (.int r.1), r.2) 0 [(0, .ref (be θ + x0)), (1, .ref (be θ + 1))] [] σ := by
  unfold f_Day_stepsRead at h
  refine g_iconst X dX2_stepsRead_0 (v := (0 : Int32)) ic_0 ?_
  refine g_istore_n X dX2_stepsRead_1 rfl (by decide) (lv' := [(2, .int (0 : Int32)), (0, .ref (be θ + x0)), (1, .ref (be θ + 1))]) rfl ?_
  exact g_sub (lv' := [(0, .ref (be θ + x0)), (1, .ref (be θ + 1)), (2, .int (0 : Int32))]) [1, 2, 0] rfl (gl_Day_stepsRead_L2 X hr hlk  h0  FU _ _ h rfl)
set_option maxHeartbeats 4000000 in
set_option maxRecDepth 20000 in
theorem c_Day_stepsRead {θ : Th} {l : Launch} {σ : Mem} {x0 : Nat} {r : Int32 × Mem} (h0 : kd x0 = 3) (h : f_Day_stepsRead σ x0 = some r) : Cn θ l yX2_stepsRead cX2_stepsRead 4 (some .boolean) 3 0 0 [.ref (be θ + x0), .ref (be θ + 1)] σ (some (.int r.1), r.2) :=
  Cn.of (by decide) (Nat.le_of_ble_eq_true rfl) (fun p e s m below meth c X hr hlk => g_Day_stepsRead X hr hlk h0 h)
theorem dX2_read_0 : decode cX2_read 0 = .ok (.aload_n 0, 1) := by decide +kernel
theorem dX2_read_1 : decode cX2_read 1 = .ok (.iconst 0, 1) := by decide +kernel
theorem dX2_read_2 : decode cX2_read 2 = .ok (.putfield 15, 3) := by decide +kernel
theorem dX2_read_5 : decode cX2_read 5 = .ok (.aload_n 1, 1) := by decide +kernel
theorem dX2_read_6 : decode cX2_read 6 = .ok (.iconst 0, 1) := by decide +kernel
theorem dX2_read_7 : decode cX2_read 7 = .ok (.putfield 19, 3) := by decide +kernel
theorem dX2_read_10 : decode cX2_read 10 = .ok (.aload_n 0, 1) := by decide +kernel
theorem dX2_read_11 : decode cX2_read 11 = .ok (.aload_n 1, 1) := by decide +kernel
theorem dX2_read_12 : decode cX2_read 12 = .ok (.invokevirtual 24, 3) := by decide +kernel
theorem dX2_read_15 : decode cX2_read 15 = .ok (.ifCond .eq 7, 3) := by decide +kernel
theorem dX2_read_18 : decode cX2_read 18 = .ok (.iconst (-1), 1) := by decide +kernel
theorem dX2_read_19 : decode cX2_read 19 = .ok (.goto 7, 3) := by decide +kernel
theorem dX2_read_22 : decode cX2_read 22 = .ok (.aload_n 1, 1) := by decide +kernel
theorem dX2_read_23 : decode cX2_read 23 = .ok (.getfield 19, 3) := by decide +kernel
theorem dX2_read_26 : decode cX2_read 26 = .ok (.ireturn, 1) := by decide +kernel
def f_Day_read (σ : Mem) (x0 : Nat) : Option (Int32 × Mem) :=
  (f_Day_stepsRead (sI (sI σ x0 1 (0 : Int32)) 1 2 (0 : Int32)) x0).bind fun q1 =>
  if q1.1 = (0 : Int32) then
    some ((mI q1.2 1 2), q1.2)
  else
    some ((-1 : Int32), q1.2)
set_option maxHeartbeats 4000000 in
set_option maxRecDepth 20000 in
theorem g_Day_read (X : Cx θ p s m args c cX2_read 2 RX2) (hr : meth.sig.returnType = some .int) (hlk : meth.locks = false)  {σ : Mem} {x0 : Nat} {r : Int32 × Mem} (h0 : kd x0 = 3) (h : f_Day_read σ x0 = some r) : GB θ p l e 4 s m args below meth c 2 (some (.int r.1), r.2) 0 [(0, .ref (be θ + x0)), (1, .ref (be θ + 1))] [] σ := by
  unfold f_Day_read at h
  refine g_aload_n X dX2_read_0 rfl 0 rfl ?_
  refine g_iconst X dX2_read_1 (v := (0 : Int32)) ic_0 ?_
  refine g_putI X fl_RX2_15 dX2_read_2 h0 rfl rfl rfl ?_
  refine g_aload_n X dX2_read_5 rfl 1 rfl ?_
  refine g_iconst X dX2_read_6 (v := (0 : Int32)) ic_0 ?_
  refine g_putI X fl_RX2_19 dX2_read_7 kd_1 rfl rfl rfl ?_
  refine g_aload_n X dX2_read_10 rfl 0 rfl ?_
  refine g_aload_n X dX2_read_11 rfl 1 rfl ?_
  obtain ⟨q1, hq1, h⟩ := Option.bind_eq_some_iff.mp h
  refine g_cV X (c_Day_stepsRead h0 hq1) lk_RX2_24 my_X2_stepsRead (a := x0) (ci := 2) h0 (by decide) rfl (As := [.ref (be θ + 1)]) (rest := []) rfl rfl (Nat.le_of_ble_eq_true rfl) ⟨(Nat.le_of_ble_eq_true rfl), (Nat.le_of_ble_eq_true rfl)⟩ ⟨(Nat.le_of_ble_eq_true rfl), (Nat.le_of_ble_eq_true rfl)⟩ dX2_read_12 (st' := [.int q1.1]) (σ' := q1.2) rfl rfl ?_
  refine g_if_eq (tgt := 22) X dX2_read_15 (by decide) (fun c2 => ?_) (fun c2 => ?_)
  · replace h := (if_pos c2).symm.trans h
    refine g_aload_n X dX2_read_22 rfl 1 rfl ?_
    refine g_get X fl_RX2_19 dX2_read_23 kd_1 (v := .int (mI q1.2 1 2)) rfl ?_
    exact g_iret X hr hlk dX2_read_26 (by cases h; rfl)
  · replace h := (if_neg c2).symm.trans h
    refine g_iconst X dX2_read_18 (v := (-1 : Int32)) ic_m1 ?_
    refine g_goto (tgt := 26) X dX2_read_19 (by decide) ?_
    exact g_iret X hr hlk dX2_read_26 (by cases h; rfl)
set_option maxHeartbeats 4000000 in
set_option maxRecDepth 20000 in
theorem c_Day_read {θ : Th} {l : Launch} {σ : Mem} {x0 : Nat} {r : Int32 × Mem} (h0 : kd x0 = 3) (h : f_Day_read σ x0 = some r) : Cn θ l yX2_read cX2_read 2 (some .int) 4 0 0 [.ref (be θ + x0), .ref (be θ + 1)] σ (some (.int r.1), r.2) :=
  Cn.of (by decide) (Nat.le_of_ble_eq_true rfl) (fun p e s m below meth c X hr hlk => g_Day_read X hr hlk h0 h)
theorem dX2_part_0 : decode cX2_part 0 = .ok (.aload_n 0, 1) := by decide +kernel
theorem dX2_part_1 : decode cX2_part 1 = .ok (.getfield 11, 3) := by decide +kernel
theorem dX2_part_4 : decode cX2_part 4 = .ok (.iload_n 1, 1) := by decide +kernel
theorem dX2_part_5 : decode cX2_part 5 = .ok (.iconst 3, 1) := by decide +kernel
theorem dX2_part_6 : decode cX2_part 6 = .ok (.imul, 1) := by decide +kernel
theorem dX2_part_7 : decode cX2_part 7 = .ok (.iload_n 2, 1) := by decide +kernel
theorem dX2_part_8 : decode cX2_part 8 = .ok (.iadd, 1) := by decide +kernel
theorem dX2_part_9 : decode cX2_part 9 = .ok (.iaload, 1) := by decide +kernel
theorem dX2_part_10 : decode cX2_part 10 = .ok (.ireturn, 1) := by decide +kernel
def f_Day_part (σ : Mem) (x0 : Nat) (x1 : Int32) (x2 : Int32) : Option (Int32) :=
  if inb ((x1 * (3 : Int32)) + x2) 48 then
    some (mI σ (x0 + 1) ((x1 * (3 : Int32)) + x2).toNatClampNeg)
  else none
set_option maxHeartbeats 4000000 in
set_option maxRecDepth 20000 in
theorem g_Day_part (X : Cx θ p s m args c cX2_part 3 RX2) (hr : meth.sig.returnType = some .int) (hlk : meth.locks = false)  {σ : Mem} {x0 : Nat} {x1 : Int32} {x2 : Int32} {r : Int32} (h0 : kd x0 = 3) (h : f_Day_part σ x0 x1 x2 = some r) : GB θ p l e 0 s m args below meth c 3 (some (.int r), σ) 0 [(0, .ref (be θ + x0)), (1, .int x1), (2, .int x2)] [] σ := by
  unfold f_Day_part at h
  refine g_aload_n X dX2_part_0 rfl 0 rfl ?_
  refine g_get X fl_RX2_11 dX2_part_1 h0 (v := .ref (be θ + (x0 + 1))) rfl ?_
  refine g_iload_n X dX2_part_4 rfl 1 rfl ?_
  refine g_iconst X dX2_part_5 (v := (3 : Int32)) ic_3 ?_
  refine g_imul X dX2_part_6 ?_
  refine g_iload_n X dX2_part_7 rfl 2 rfl ?_
  refine g_iadd X dX2_part_8 ?_
  obtain ⟨g1, h⟩ := ite_some h
  refine g_iald X (lk2_0 h0).1 (lk2_0 h0).2 (inb_in g1) dX2_part_9 ?_
  exact g_iret X hr hlk dX2_part_10 (by cases h; rfl)
set_option maxHeartbeats 4000000 in
set_option maxRecDepth 20000 in
theorem c_Day_part {θ : Th} {l : Launch} {σ : Mem} {x0 : Nat} {x1 : Int32} {x2 : Int32} {r : Int32} (h0 : kd x0 = 3) (h : f_Day_part σ x0 x1 x2 = some r) : Cn θ l yX2_part cX2_part 3 (some .int) 0 0 0 [.ref (be θ + x0), .int x1, .int x2] σ (some (.int r), σ) :=
  Cn.of (by decide) (Nat.le_of_ble_eq_true rfl) (fun p e s m below meth c X hr hlk => g_Day_part X hr hlk h0 h)
theorem dX3_forget_0 : decode cX3_forget 0 = .ok (.aload_n 0, 1) := by decide +kernel
theorem dX3_forget_1 : decode cX3_forget 1 = .ok (.iconst 0, 1) := by decide +kernel
theorem dX3_forget_2 : decode cX3_forget 2 = .ok (.putfield 32, 3) := by decide +kernel
theorem dX3_forget_5 : decode cX3_forget 5 = .ok (.return_, 1) := by decide +kernel
def f_Guess_forget (σ : Mem)  : Option (Mem) :=
  some (sI σ 516 5 (0 : Int32))
set_option maxHeartbeats 4000000 in
set_option maxRecDepth 20000 in
theorem g_Guess_forget (X : Cx θ p s m args c cX3_forget 1 RX3) (hr : meth.sig.returnType = none) (hlk : meth.locks = false)  {σ : Mem}  {r : Mem}  (h : f_Guess_forget σ  = some r) : GB θ p l e 0 s m args below meth c 1 (none, r) 0 [(0, .ref (be θ + 516))] [] σ := by
  unfold f_Guess_forget at h
  refine g_aload_n X dX3_forget_0 rfl 0 rfl ?_
  refine g_iconst X dX3_forget_1 (v := (0 : Int32)) ic_0 ?_
  refine g_putI X fl_RX3_32 dX3_forget_2 kd_516 rfl rfl rfl ?_
  exact g_vret X hr hlk dX3_forget_5 (by cases h; rfl)
set_option maxHeartbeats 4000000 in
set_option maxRecDepth 20000 in
theorem c_Guess_forget {θ : Th} {l : Launch} {σ : Mem}  {r : Mem}  (h : f_Guess_forget σ  = some r) : Cn θ l yX3_forget cX3_forget 1 (none) 0 0 0 [.ref (be θ + 516)] σ (none, r) :=
  Cn.of (by decide) (Nat.le_of_ble_eq_true rfl) (fun p e s m below meth c X hr hlk => g_Guess_forget X hr hlk  h)
theorem dX3_noteSeen_0 : decode cX3_noteSeen 0 = .ok (.aload_n 0, 1) := by decide +kernel
theorem dX3_noteSeen_1 : decode cX3_noteSeen 1 = .ok (.getfield 32, 3) := by decide +kernel
theorem dX3_noteSeen_4 : decode cX3_noteSeen 4 = .ok (.bipush 10, 2) := by decide +kernel
theorem dX3_noteSeen_6 : decode cX3_noteSeen 6 = .ok (.if_icmp .ge 43, 3) := by decide +kernel
theorem dX3_noteSeen_9 : decode cX3_noteSeen 9 = .ok (.aload_n 0, 1) := by decide +kernel
theorem dX3_noteSeen_10 : decode cX3_noteSeen 10 = .ok (.getfield 18, 3) := by decide +kernel
theorem dX3_noteSeen_13 : decode cX3_noteSeen 13 = .ok (.aload_n 0, 1) := by decide +kernel
theorem dX3_noteSeen_14 : decode cX3_noteSeen 14 = .ok (.getfield 32, 3) := by decide +kernel
theorem dX3_noteSeen_17 : decode cX3_noteSeen 17 = .ok (.iload_n 1, 1) := by decide +kernel
theorem dX3_noteSeen_18 : decode cX3_noteSeen 18 = .ok (.iastore, 1) := by decide +kernel
theorem dX3_noteSeen_19 : decode cX3_noteSeen 19 = .ok (.aload_n 0, 1) := by decide +kernel
theorem dX3_noteSeen_20 : decode cX3_noteSeen 20 = .ok (.getfield 22, 3) := by decide +kernel
theorem dX3_noteSeen_23 : decode cX3_noteSeen 23 = .ok (.aload_n 0, 1) := by decide +kernel
theorem dX3_noteSeen_24 : decode cX3_noteSeen 24 = .ok (.getfield 32, 3) := by decide +kernel
theorem dX3_noteSeen_27 : decode cX3_noteSeen 27 = .ok (.iload_n 2, 1) := by decide +kernel
theorem dX3_noteSeen_28 : decode cX3_noteSeen 28 = .ok (.iastore, 1) := by decide +kernel
theorem dX3_noteSeen_29 : decode cX3_noteSeen 29 = .ok (.aload_n 0, 1) := by decide +kernel
theorem dX3_noteSeen_30 : decode cX3_noteSeen 30 = .ok (.getfield 25, 3) := by decide +kernel
theorem dX3_noteSeen_33 : decode cX3_noteSeen 33 = .ok (.aload_n 0, 1) := by decide +kernel
theorem dX3_noteSeen_34 : decode cX3_noteSeen 34 = .ok (.getfield 32, 3) := by decide +kernel
theorem dX3_noteSeen_37 : decode cX3_noteSeen 37 = .ok (.iload_n 3, 1) := by decide +kernel
theorem dX3_noteSeen_38 : decode cX3_noteSeen 38 = .ok (.bastore, 1) := by decide +kernel
theorem dX3_noteSeen_39 : decode cX3_noteSeen 39 = .ok (.aload_n 0, 1) := by decide +kernel
theorem dX3_noteSeen_40 : decode cX3_noteSeen 40 = .ok (.dup, 1) := by decide +kernel
theorem dX3_noteSeen_41 : decode cX3_noteSeen 41 = .ok (.getfield 32, 3) := by decide +kernel
theorem dX3_noteSeen_44 : decode cX3_noteSeen 44 = .ok (.iconst 1, 1) := by decide +kernel
theorem dX3_noteSeen_45 : decode cX3_noteSeen 45 = .ok (.iadd, 1) := by decide +kernel
theorem dX3_noteSeen_46 : decode cX3_noteSeen 46 = .ok (.putfield 32, 3) := by decide +kernel
theorem dX3_noteSeen_49 : decode cX3_noteSeen 49 = .ok (.aload_n 0, 1) := by decide +kernel
theorem dX3_noteSeen_50 : decode cX3_noteSeen 50 = .ok (.getfield 32, 3) := by decide +kernel
theorem dX3_noteSeen_53 : decode cX3_noteSeen 53 = .ok (.ireturn, 1) := by decide +kernel
def f_Guess_noteSeen (σ : Mem) (x1 : Int32) (x2 : Int32) (x3 : Int32) : Option (Int32 × Mem) :=
  if (10 : Int32) ≤ (mI σ 516 5) then
    some ((mI σ 516 5), σ)
  else
    if inb (mI σ 516 5) 10 then
      if inb (mI (sI σ 527 (mI σ 516 5).toNatClampNeg x1) 516 5) 10 then
        if inb (mI (sI (sI σ 527 (mI σ 516 5).toNatClampNeg x1) 528 (mI (sI σ 527 (mI σ 516 5).toNatClampNeg x1) 516 5).toNatClampNeg x2) 516 5) 10 then
          some ((mI (sI (sI (sI (sI σ 527 (mI σ 516 5).toNatClampNeg x1) 528 (mI (sI σ 527 (mI σ 516 5).toNatClampNeg x1) 516 5).toNatClampNeg x2) 529 (mI (sI (sI σ 527 (mI σ 516 5).toNatClampNeg x1) 528 (mI (sI σ 527 (mI σ 516 5).toNatClampNeg x1) 516 5).toNatClampNeg x2) 516 5).toNatClampNeg (vp_nar .boolean x3)) 516 5 ((mI (sI (sI (sI σ 527 (mI σ 516 5).toNatClampNeg x1) 528 (mI (sI σ 527 (mI σ 516 5).toNatClampNeg x1) 516 5).toNatClampNeg x2) 529 (mI (sI (sI σ 527 (mI σ 516 5).toNatClampNeg x1) 528 (mI (sI σ 527 (mI σ 516 5).toNatClampNeg x1) 516 5).toNatClampNeg x2) 516 5).toNatClampNeg (vp_nar .boolean x3)) 516 5) + (1 : Int32))) 516 5), (sI (sI (sI (sI σ 527 (mI σ 516 5).toNatClampNeg x1) 528 (mI (sI σ 527 (mI σ 516 5).toNatClampNeg x1) 516 5).toNatClampNeg x2) 529 (mI (sI (sI σ 527 (mI σ 516 5).toNatClampNeg x1) 528 (mI (sI σ 527 (mI σ 516 5).toNatClampNeg x1) 516 5).toNatClampNeg x2) 516 5).toNatClampNeg (vp_nar .boolean x3)) 516 5 ((mI (sI (sI (sI σ 527 (mI σ 516 5).toNatClampNeg x1) 528 (mI (sI σ 527 (mI σ 516 5).toNatClampNeg x1) 516 5).toNatClampNeg x2) 529 (mI (sI (sI σ 527 (mI σ 516 5).toNatClampNeg x1) 528 (mI (sI σ 527 (mI σ 516 5).toNatClampNeg x1) 516 5).toNatClampNeg x2) 516 5).toNatClampNeg (vp_nar .boolean x3)) 516 5) + (1 : Int32))))
        else none
      else none
    else none
set_option maxHeartbeats 4000000 in
set_option maxRecDepth 20000 in
theorem g_Guess_noteSeen (X : Cx θ p s m args c cX3_noteSeen 4 RX3) (hr : meth.sig.returnType = some .int) (hlk : meth.locks = false)  {σ : Mem} {x1 : Int32} {x2 : Int32} {x3 : Int32} {r : Int32 × Mem}  (h : f_Guess_noteSeen σ x1 x2 x3 = some r) : GB θ p l e 0 s m args below meth c 4 (some (.int r.1), r.2) 0 [(0, .ref (be θ + 516)), (1, .int x1), (2, .int x2), (3, .int x3)] [] σ := by
  unfold f_Guess_noteSeen at h
  refine g_aload_n X dX3_noteSeen_0 rfl 0 rfl ?_
  refine g_get X fl_RX3_32 dX3_noteSeen_1 kd_516 (v := .int (mI σ 516 5)) rfl ?_
  refine g_bipush X dX3_noteSeen_4 (v := (10 : Int32)) bp_10 ?_
  refine g_icmp_ge (tgt := 49) X dX3_noteSeen_6 (by decide) (fun c1 => ?_) (fun c1 => ?_)
  · replace h := (if_pos c1).symm.trans h
    refine g_aload_n X dX3_noteSeen_49 rfl 0 rfl ?_
    refine g_get X fl_RX3_32 dX3_noteSeen_50 kd_516 (v := .int (mI σ 516 5)) rfl ?_
    exact g_iret X hr hlk dX3_noteSeen_53 (by cases h; rfl)
  · replace h := (if_neg c1).symm.trans h
    refine g_aload_n X dX3_noteSeen_9 rfl 0 rfl ?_
    refine g_get X fl_RX3_18 dX3_noteSeen_10 kd_516 (v := .ref (be θ + 527)) rfl ?_
    refine g_aload_n X dX3_noteSeen_13 rfl 0 rfl ?_
    refine g_get X fl_RX3_32 dX3_noteSeen_14 kd_516 (v := .int (mI σ 516 5)) rfl ?_
    refine g_iload_n X dX3_noteSeen_17 rfl 1 rfl ?_
    obtain ⟨g2, h⟩ := ite_some h
    refine g_iast X kd_527 ln_527 (inb_in g2) dX3_noteSeen_18 ?_
    refine g_aload_n X dX3_noteSeen_19 rfl 0 rfl ?_
    refine g_get X fl_RX3_22 dX3_noteSeen_20 kd_516 (v := .ref (be θ + 528)) rfl ?_
    refine g_aload_n X dX3_noteSeen_23 rfl 0 rfl ?_
    refine g_get X fl_RX3_32 dX3_noteSeen_24 kd_516 (v := .int (mI (sI σ 527 (mI σ 516 5).toNatClampNeg x1) 516 5)) rfl ?_
    refine g_iload_n X dX3_noteSeen_27 rfl 2 rfl ?_
    obtain ⟨g3, h⟩ := ite_some h
    refine g_iast X kd_528 ln_528 (inb_in g3) dX3_noteSeen_28 ?_
    refine g_aload_n X dX3_noteSeen_29 rfl 0 rfl ?_
    refine g_get X fl_RX3_25 dX3_noteSeen_30 kd_516 (v := .ref (be θ + 529)) rfl ?_
    refine g_aload_n X dX3_noteSeen_33 rfl 0 rfl ?_
    refine g_get X fl_RX3_32 dX3_noteSeen_34 kd_516 (v := .int (mI (sI (sI σ 527 (mI σ 516 5).toNatClampNeg x1) 528 (mI (sI σ 527 (mI σ 516 5).toNatClampNeg x1) 516 5).toNatClampNeg x2) 516 5)) rfl ?_
    refine g_iload_n X dX3_noteSeen_37 rfl 3 rfl ?_
    obtain ⟨g4, h⟩ := ite_some h
    refine g_zast X kd_529 ln_529 (inb_in g4) dX3_noteSeen_38 ?_
    refine g_aload_n X dX3_noteSeen_39 rfl 0 rfl ?_
    refine g_dup X dX3_noteSeen_40 rfl ?_
    refine g_get X fl_RX3_32 dX3_noteSeen_41 kd_516 (v := .int (mI (sI (sI (sI σ 527 (mI σ 516 5).toNatClampNeg x1) 528 (mI (sI σ 527 (mI σ 516 5).toNatClampNeg x1) 516 5).toNatClampNeg x2) 529 (mI (sI (sI σ 527 (mI σ 516 5).toNatClampNeg x1) 528 (mI (sI σ 527 (mI σ 516 5).toNatClampNeg x1) 516 5).toNatClampNeg x2) 516 5).toNatClampNeg (vp_nar .boolean x3)) 516 5)) rfl ?_
    refine g_iconst X dX3_noteSeen_44 (v := (1 : Int32)) ic_1 ?_
    refine g_iadd X dX3_noteSeen_45 ?_
    refine g_putI X fl_RX3_32 dX3_noteSeen_46 kd_516 rfl rfl rfl ?_
    refine g_aload_n X dX3_noteSeen_49 rfl 0 rfl ?_
    refine g_get X fl_RX3_32 dX3_noteSeen_50 kd_516 (v := .int (mI (sI (sI (sI (sI σ 527 (mI σ 516 5).toNatClampNeg x1) 528 (mI (sI σ 527 (mI σ 516 5).toNatClampNeg x1) 516 5).toNatClampNeg x2) 529 (mI (sI (sI σ 527 (mI σ 516 5).toNatClampNeg x1) 528 (mI (sI σ 527 (mI σ 516 5).toNatClampNeg x1) 516 5).toNatClampNeg x2) 516 5).toNatClampNeg (vp_nar .boolean x3)) 516 5 ((mI (sI (sI (sI σ 527 (mI σ 516 5).toNatClampNeg x1) 528 (mI (sI σ 527 (mI σ 516 5).toNatClampNeg x1) 516 5).toNatClampNeg x2) 529 (mI (sI (sI σ 527 (mI σ 516 5).toNatClampNeg x1) 528 (mI (sI σ 527 (mI σ 516 5).toNatClampNeg x1) 516 5).toNatClampNeg x2) 516 5).toNatClampNeg (vp_nar .boolean x3)) 516 5) + (1 : Int32))) 516 5)) rfl ?_
    exact g_iret X hr hlk dX3_noteSeen_53 (by cases h; rfl)
set_option maxHeartbeats 4000000 in
set_option maxRecDepth 20000 in
theorem c_Guess_noteSeen {θ : Th} {l : Launch} {σ : Mem} {x1 : Int32} {x2 : Int32} {x3 : Int32} {r : Int32 × Mem}  (h : f_Guess_noteSeen σ x1 x2 x3 = some r) : Cn θ l yX3_noteSeen cX3_noteSeen 4 (some .int) 0 0 0 [.ref (be θ + 516), .int x1, .int x2, .int x3] σ (some (.int r.1), r.2) :=
  Cn.of (by decide) (Nat.le_of_ble_eq_true rfl) (fun p e s m below meth c X hr hlk => g_Guess_noteSeen X hr hlk  h)
theorem dX3_latestSeen_0 : decode cX3_latestSeen 0 = .ok (.iconst 0, 1) := by decide +kernel
theorem dX3_latestSeen_1 : decode cX3_latestSeen 1 = .ok (.istore_n 1, 1) := by decide +kernel
theorem dX3_latestSeen_2 : decode cX3_latestSeen 2 = .ok (.iconst 0, 1) := by decide +kernel
theorem dX3_latestSeen_3 : decode cX3_latestSeen 3 = .ok (.istore_n 2, 1) := by decide +kernel
theorem dX3_latestSeen_4 : decode cX3_latestSeen 4 = .ok (.iload_n 2, 1) := by decide +kernel
theorem dX3_latestSeen_5 : decode cX3_latestSeen 5 = .ok (.aload_n 0, 1) := by decide +kernel
theorem dX3_latestSeen_6 : decode cX3_latestSeen 6 = .ok (.getfield 32, 3) := by decide +kernel
theorem dX3_latestSeen_9 : decode cX3_latestSeen 9 = .ok (.if_icmp .ge 20, 3) := by decide +kernel
theorem dX3_latestSeen_12 : decode cX3_latestSeen 12 = .ok (.iload_n 1, 1) := by decide +kernel
theorem dX3_latestSeen_13 : decode cX3_latestSeen 13 = .ok (.aload_n 0, 1) := by decide +kernel
theorem dX3_latestSeen_14 : decode cX3_latestSeen 14 = .ok (.getfield 18, 3) := by decide +kernel
theorem dX3_latestSeen_17 : decode cX3_latestSeen 17 = .ok (.iload_n 2, 1) := by decide +kernel
theorem dX3_latestSeen_18 : decode cX3_latestSeen 18 = .ok (.iaload, 1) := by decide +kernel
theorem dX3_latestSeen_19 : decode cX3_latestSeen 19 = .ok (.invokestatic 36, 3) := by decide +kernel
theorem dX3_latestSeen_22 : decode cX3_latestSeen 22 = .ok (.istore_n 1, 1) := by decide +kernel
theorem dX3_latestSeen_23 : decode cX3_latestSeen 23 = .ok (.iinc 2 1, 3) := by decide +kernel
theorem dX3_latestSeen_26 : decode cX3_latestSeen 26 = .ok (.goto (-22), 3) := by decide +kernel
theorem dX3_latestSeen_29 : decode cX3_latestSeen 29 = .ok (.iload_n 1, 1) := by decide +kernel
theorem dX3_latestSeen_30 : decode cX3_latestSeen 30 = .ok (.ireturn, 1) := by decide +kernel
def f_Guess_latestSeen_L4 (σ : Mem) (a : Int32 × Int32) : Option ((Int32 × Int32) ⊕ (Int32)) :=
  @Prod.casesOn (Int32) (Int32) (fun _ => Option ((Int32 × Int32) ⊕ (Int32))) a fun z1 z2 =>
  if (mI σ 516 5) ≤ z2 then
    some (.inr z1)
  else
    if inb z2 10 then
      some (.inl ((imax z1 (mI σ 527 z2.toNatClampNeg)), (z2 + (1 : Int32))))
    else none
def f_Guess_latestSeen (σ : Mem)  : Option (Int32) :=
  loopF (f_Guess_latestSeen_L4 σ) FU ((0 : Int32), (0 : Int32))
set_option maxHeartbeats 4000000 in
set_option maxRecDepth 20000 in
theorem gs_Guess_latestSeen_L4 (X : Cx θ p s m args c cX3_latestSeen 3 RX3) (hr : meth.sig.returnType = some .int) (hlk : meth.locks = false)  {σ : Mem} {r : Int32}  (z1 : Int32) (z2 : Int32) (x : (Int32 × Int32) ⊕ (Int32)) (h : f_Guess_latestSeen_L4 σ (z1, z2) = some x) (hk : Sum.elim (fun a => @Prod.casesOn (Int32) (Int32) (fun _ => Prop) a fun z1 z2 => GB θ p l e 1 s m args below meth c 3 (some (.int r), σ) 4 [(0, .ref (be θ + 516)), (1, .int z1), (2, .int z2)] [] σ) (fun b => b = r) x) : GB θ p l e 1 s m args below meth c 3 (some (.int r), σ) 4 [(0, .ref (be θ + 516)), (1, .int z1), (2, .int z2)] [] σ := by
  unfold f_Guess_latestSeen_L4 at h
  dsimp only at h
  refine g_iload_n X dX3_latestSeen_4 rfl 2 rfl ?_
  refine g_aload_n X dX3_latestSeen_5 rfl 0 rfl ?_
  refine g_get X fl_RX3_32 dX3_latestSeen_6 kd_516 (v := .int (mI σ 516 5)) rfl ?_
  refine g_icmp_ge (tgt := 29) X dX3_latestSeen_9 (by decide) (fun c1 => ?_) (fun c1 => ?_)
  · replace h := (if_pos c1).symm.trans h
    refine g_iload_n X dX3_latestSeen_29 rfl 1 rfl ?_
    have hk := inr_hk h hk
    have hk : z1 = r := hk
    subst hk
    exact g_iret X hr hlk dX3_latestSeen_30 rfl
  · replace h := (if_neg c1).symm.trans h
    refine g_iload_n X dX3_latestSeen_12 rfl 1 rfl ?_
    refine g_aload_n X dX3_latestSeen_13 rfl 0 rfl ?_
    refine g_get X fl_RX3_18 dX3_latestSeen_14 kd_516 (v := .ref (be θ + 527)) rfl ?_
    refine g_iload_n X dX3_latestSeen_17 rfl 2 rfl ?_
    obtain ⟨g2, h⟩ := ite_some h
    refine g_iald X kd_527 ln_527 (inb_in g2) dX3_latestSeen_18 ?_
    refine g_max X lm_RX3_36 ⟨(Nat.le_of_ble_eq_true rfl), (Nat.le_of_ble_eq_true rfl)⟩ ⟨(Nat.le_of_ble_eq_true rfl), (Nat.le_of_ble_eq_true rfl)⟩ dX3_latestSeen_19 ?_
    refine g_istore_n X dX3_latestSeen_22 rfl (by decide) (lv' := [(1, .int (imax z1 (mI σ 527 z2.toNatClampNeg))), (0, .ref (be θ + 516)), (2, .int z2)]) rfl ?_
    refine g_iinc X dX3_latestSeen_23 (kq := 2) rfl (congrArg (HAdd.hAdd _) ic_1) (by decide) (lv' := [(2, .int (z2 + (1 : Int32))), (1, .int (imax z1 (mI σ 527 z2.toNatClampNeg))), (0, .ref (be θ + 516))]) rfl ?_
    refine g_goto (tgt := 4) X dX3_latestSeen_26 (by decide) ?_
    have hk := inl_hk h hk
    exact g_sub (lv' := [(0, .ref (be θ + 516)), (1, .int (imax z1 (mI σ 527 z2.toNatClampNeg))), (2, .int (z2 + (1 : Int32)))]) [2, 1, 0] rfl hk
set_option maxHeartbeats 4000000 in
set_option maxRecDepth 20000 in
theorem gl_Guess_latestSeen_L4 (X : Cx θ p s m args c cX3_latestSeen 3 RX3) (hr : meth.sig.returnType = some .int) (hlk : meth.locks = false)  {σ : Mem} {r : Int32}  (n : Nat) (a : Int32 × Int32) (b : Int32) (h : loopF (f_Guess_latestSeen_L4 σ) n a = some b) (hk : (fun b => b = r) b) : (fun a => @Prod.casesOn (Int32) (Int32) (fun _ => Prop) a fun z1 z2 => GB θ p l e 1 s m args below meth c 3 (some (.int r), σ) 4 [(0, .ref (be θ + 516)), (1, .int z1), (2, .int z2)] [] σ) a :=
  loopF_by (P := (fun a => @Prod.casesOn (Int32) (Int32) (fun _ => Prop) a fun z1 z2 => GB θ p l e 1 s m args below meth c 3 (some (.int r), σ) 4 [(0, .ref (be θ + 516)), (1, .int z1), (2, .int z2)] [] σ)) (K := (fun b => b = r)) (fun a x h hk => by obtain ⟨z1, z2⟩ := a; exact gs_Guess_latestSeen_L4 X hr hlk   z1 z2 x h hk) n a b h hk
set_option maxHeartbeats 4000000 in
set_option maxRecDepth 20000 in
theorem g_Guess_latestSeen (X : Cx θ p s m args c cX3_latestSeen 3 RX3) (hr : meth.sig.returnType = some .int) (hlk : meth.locks = false)  {σ : Mem}  {r : Int32}  (h : f_Guess_latestSeen σ  = some r) : GB θ p l e 1 s m args below meth c 3 (some (.int r), σ) 0 [(0, .ref (be θ + 516))] [] σ := by
  unfold f_Guess_latestSeen at h
  refine g_iconst X dX3_latestSeen_0 (v := (0 : Int32)) ic_0 ?_
  refine g_istore_n X dX3_latestSeen_1 rfl (by decide) (lv' := [(1, .int (0 : Int32)), (0, .ref (be θ + 516))]) rfl ?_
  refine g_iconst X dX3_latestSeen_2 (v := (0 : Int32)) ic_0 ?_
  refine g_istore_n X dX3_latestSeen_3 rfl (by decide) (lv' := [(2, .int (0 : Int32)), (1, .int (0 : Int32)), (0, .ref (be θ + 516))]) rfl ?_
  exact g_sub (lv' := [(0, .ref (be θ + 516)), (1, .int (0 : Int32)), (2, .int (0 : Int32))]) [2, 1, 0] rfl (gl_Guess_latestSeen_L4 X hr hlk    FU _ _ h rfl)
set_option maxHeartbeats 4000000 in
set_option maxRecDepth 20000 in
theorem c_Guess_latestSeen {θ : Th} {l : Launch} {σ : Mem}  {r : Int32}  (h : f_Guess_latestSeen σ  = some r) : Cn θ l yX3_latestSeen cX3_latestSeen 3 (some .int) 1 0 0 [.ref (be θ + 516)] σ (some (.int r), σ) :=
  Cn.of (by decide) (Nat.le_of_ble_eq_true rfl) (fun p e s m below meth c X hr hlk => g_Guess_latestSeen X hr hlk  h)
theorem dJ7_fill_53178_0 : decode cJ7_fill_53178 0 = .ok (.iconst 0, 1) := by decide +kernel
theorem dJ7_fill_53178_1 : decode cJ7_fill_53178 1 = .ok (.istore_n 2, 1) := by decide +kernel
theorem dJ7_fill_53178_2 : decode cJ7_fill_53178 2 = .ok (.aload_n 0, 1) := by decide +kernel
theorem dJ7_fill_53178_3 : decode cJ7_fill_53178 3 = .ok (.arraylength, 1) := by decide +kernel
theorem dJ7_fill_53178_4 : decode cJ7_fill_53178 4 = .ok (.istore_n 3, 1) := by decide +kernel
theorem dJ7_fill_53178_5 : decode cJ7_fill_53178 5 = .ok (.iload_n 2, 1) := by decide +kernel
theorem dJ7_fill_53178_6 : decode cJ7_fill_53178 6 = .ok (.iload_n 3, 1) := by decide +kernel
theorem dJ7_fill_53178_7 : decode cJ7_fill_53178 7 = .ok (.if_icmp .ge 13, 3) := by decide +kernel
theorem dJ7_fill_53178_10 : decode cJ7_fill_53178 10 = .ok (.aload_n 0, 1) := by decide +kernel
theorem dJ7_fill_53178_11 : decode cJ7_fill_53178 11 = .ok (.iload_n 2, 1) := by decide +kernel
theorem dJ7_fill_53178_12 : decode cJ7_fill_53178 12 = .ok (.iload_n 1, 1) := by decide +kernel
theorem dJ7_fill_53178_13 : decode cJ7_fill_53178 13 = .ok (.iastore, 1) := by decide +kernel
theorem dJ7_fill_53178_14 : decode cJ7_fill_53178 14 = .ok (.iinc 2 1, 3) := by decide +kernel
theorem dJ7_fill_53178_17 : decode cJ7_fill_53178 17 = .ok (.goto (-12), 3) := by decide +kernel
theorem dJ7_fill_53178_20 : decode cJ7_fill_53178 20 = .ok (.return_, 1) := by decide +kernel
def f_Arrays_fill_L5 (x0 : Nat) (x1 : Int32) (y3 : Int32) (a : Mem × Int32) : Option ((Mem × Int32) ⊕ (Mem)) :=
  @Prod.casesOn (Mem) (Int32) (fun _ => Option ((Mem × Int32) ⊕ (Mem))) a fun τ z2 =>
  if y3 ≤ z2 then
    some (.inr τ)
  else
    if inb z2 (ln x0) then
      some (.inl ((sI τ x0 z2.toNatClampNeg x1), (z2 + (1 : Int32))))
    else none
def f_Arrays_fill (σ : Mem) (x0 : Nat) (x1 : Int32) : Option (Mem) :=
  loopF (f_Arrays_fill_L5 x0 x1 (Int32.ofNat (ln x0))) FU (σ, (0 : Int32))
set_option maxHeartbeats 4000000 in
set_option maxRecDepth 20000 in
theorem gs_Arrays_fill_L5 (X : Cx θ p s m args c cJ7_fill_53178 4 RJ7) (hr : meth.sig.returnType = none) (hlk : meth.locks = false)  {x0 : Nat} {x1 : Int32} {y3 : Int32} {r : Mem} (h0 : kd x0 = 13) (τ : Mem) (z2 : Int32) (x : (Mem × Int32) ⊕ (Mem)) (h : f_Arrays_fill_L5 x0 x1 y3 (τ, z2) = some x) (hk : Sum.elim (fun a => @Prod.casesOn (Mem) (Int32) (fun _ => Prop) a fun τ z2 => GB θ p l e 0 s m args below meth c 4 (none, r) 5 [(0, .ref (be θ + x0)), (1, .int x1), (2, .int z2), (3, .int y3)] [] τ) (fun b => b = r) x) : GB θ p l e 0 s m args below meth c 4 (none, r) 5 [(0, .ref (be θ + x0)), (1, .int x1), (2, .int z2), (3, .int y3)] [] τ := by
  unfold f_Arrays_fill_L5 at h
  dsimp only at h
  refine g_iload_n X dJ7_fill_53178_5 rfl 2 rfl ?_
  refine g_iload_n X dJ7_fill_53178_6 rfl 3 rfl ?_
  refine g_icmp_ge (tgt := 20) X dJ7_fill_53178_7 (by decide) (fun c1 => ?_) (fun c1 => ?_)
  · replace h := (if_pos c1).symm.trans h
    have hk := inr_hk h hk
    have hk : τ = r := hk
    subst hk
    exact g_vret X hr hlk dJ7_fill_53178_20 rfl
  · replace h := (if_neg c1).symm.trans h
    refine g_aload_n X dJ7_fill_53178_10 rfl 0 rfl ?_
    refine g_iload_n X dJ7_fill_53178_11 rfl 2 rfl ?_
    refine g_iload_n X dJ7_fill_53178_12 rfl 1 rfl ?_
    obtain ⟨g2, h⟩ := ite_some h
    refine g_iast X h0 rfl (inb_in g2) dJ7_fill_53178_13 ?_
    refine g_iinc X dJ7_fill_53178_14 (kq := 2) rfl (congrArg (HAdd.hAdd _) ic_1) (by decide) (lv' := [(2, .int (z2 + (1 : Int32))), (0, .ref (be θ + x0)), (1, .int x1), (3, .int y3)]) rfl ?_
    refine g_goto (tgt := 5) X dJ7_fill_53178_17 (by decide) ?_
    have hk := inl_hk h hk
    exact g_sub (lv' := [(0, .ref (be θ + x0)), (1, .int x1), (2, .int (z2 + (1 : Int32))), (3, .int y3)]) [1, 2, 0, 3] rfl hk
set_option maxHeartbeats 4000000 in
set_option maxRecDepth 20000 in
theorem gl_Arrays_fill_L5 (X : Cx θ p s m args c cJ7_fill_53178 4 RJ7) (hr : meth.sig.returnType = none) (hlk : meth.locks = false)  {x0 : Nat} {x1 : Int32} {y3 : Int32} {r : Mem} (h0 : kd x0 = 13) (n : Nat) (a : Mem × Int32) (b : Mem) (h : loopF (f_Arrays_fill_L5 x0 x1 y3) n a = some b) (hk : (fun b => b = r) b) : (fun a => @Prod.casesOn (Mem) (Int32) (fun _ => Prop) a fun τ z2 => GB θ p l e 0 s m args below meth c 4 (none, r) 5 [(0, .ref (be θ + x0)), (1, .int x1), (2, .int z2), (3, .int y3)] [] τ) a :=
  loopF_by (P := (fun a => @Prod.casesOn (Mem) (Int32) (fun _ => Prop) a fun τ z2 => GB θ p l e 0 s m args below meth c 4 (none, r) 5 [(0, .ref (be θ + x0)), (1, .int x1), (2, .int z2), (3, .int y3)] [] τ)) (K := (fun b => b = r)) (fun a x h hk => by obtain ⟨τ, z2⟩ := a; exact gs_Arrays_fill_L5 X hr hlk  h0 τ z2 x h hk) n a b h hk
set_option maxHeartbeats 4000000 in
set_option maxRecDepth 20000 in
theorem g_Arrays_fill (X : Cx θ p s m args c cJ7_fill_53178 4 RJ7) (hr : meth.sig.returnType = none) (hlk : meth.locks = false)  {σ : Mem} {x0 : Nat} {x1 : Int32} {r : Mem} (h0 : kd x0 = 13) (h : f_Arrays_fill σ x0 x1 = some r) : GB θ p l e 0 s m args below meth c 4 (none, r) 0 [(0, .ref (be θ + x0)), (1, .int x1)] [] σ := by
  unfold f_Arrays_fill at h
  refine g_iconst X dJ7_fill_53178_0 (v := (0 : Int32)) ic_0 ?_
  refine g_istore_n X dJ7_fill_53178_1 rfl (by decide) (lv' := [(2, .int (0 : Int32)), (0, .ref (be θ + x0)), (1, .int x1)]) rfl ?_
  refine g_aload_n X dJ7_fill_53178_2 rfl 1 rfl ?_
  refine g_alen X h0 (by decide) rfl (v := (Int32.ofNat (ln x0))) rfl dJ7_fill_53178_3 ?_
  refine g_istore_n X dJ7_fill_53178_4 rfl (by decide) (lv' := [(3, .int (Int32.ofNat (ln x0))), (2, .int (0 : Int32)), (0, .ref (be θ + x0)), (1, .int x1)]) rfl ?_
  exact g_sub (lv' := [(0, .ref (be θ + x0)), (1, .int x1), (2, .int (0 : Int32)), (3, .int (Int32.ofNat (ln x0)))]) [2, 3, 1, 0] rfl (gl_Arrays_fill_L5 X hr hlk  h0  FU _ _ h rfl)
set_option maxHeartbeats 4000000 in
set_option maxRecDepth 20000 in
theorem c_Arrays_fill {θ : Th} {l : Launch} {σ : Mem} {x0 : Nat} {x1 : Int32} {r : Mem} (h0 : kd x0 = 13) (h : f_Arrays_fill σ x0 x1 = some r) : Cn θ l yJ7_fill_53178 cJ7_fill_53178 4 (none) 0 0 0 [.ref (be θ + x0), .int x1] σ (none, r) :=
  Cn.of (by decide) (Nat.le_of_ble_eq_true rfl) (fun p e s m below meth c X hr hlk => g_Arrays_fill X hr hlk h0 h)
theorem dX7_beginAs_0 : decode cX7_beginAs 0 = .ok (.aload_n 0, 1) := by decide +kernel
theorem dX7_beginAs_1 : decode cX7_beginAs 1 = .ok (.getfield 9, 3) := by decide +kernel
theorem dX7_beginAs_4 : decode cX7_beginAs 4 = .ok (.iconst (-1), 1) := by decide +kernel
theorem dX7_beginAs_5 : decode cX7_beginAs 5 = .ok (.invokestatic 58, 3) := by decide +kernel
theorem dX7_beginAs_8 : decode cX7_beginAs 8 = .ok (.aload_n 0, 1) := by decide +kernel
theorem dX7_beginAs_9 : decode cX7_beginAs 9 = .ok (.getfield 15, 3) := by decide +kernel
theorem dX7_beginAs_12 : decode cX7_beginAs 12 = .ok (.iconst 0, 1) := by decide +kernel
theorem dX7_beginAs_13 : decode cX7_beginAs 13 = .ok (.invokestatic 58, 3) := by decide +kernel
theorem dX7_beginAs_16 : decode cX7_beginAs 16 = .ok (.aload_n 0, 1) := by decide +kernel
theorem dX7_beginAs_17 : decode cX7_beginAs 17 = .ok (.getfield 18, 3) := by decide +kernel
theorem dX7_beginAs_20 : decode cX7_beginAs 20 = .ok (.iconst 0, 1) := by decide +kernel
theorem dX7_beginAs_21 : decode cX7_beginAs 21 = .ok (.invokestatic 58, 3) := by decide +kernel
theorem dX7_beginAs_24 : decode cX7_beginAs 24 = .ok (.aload_n 0, 1) := by decide +kernel
theorem dX7_beginAs_25 : decode cX7_beginAs 25 = .ok (.getfield 24, 3) := by decide +kernel
theorem dX7_beginAs_28 : decode cX7_beginAs 28 = .ok (.iconst (-1), 1) := by decide +kernel
theorem dX7_beginAs_29 : decode cX7_beginAs 29 = .ok (.invokestatic 58, 3) := by decide +kernel
theorem dX7_beginAs_32 : decode cX7_beginAs 32 = .ok (.iconst 0, 1) := by decide +kernel
theorem dX7_beginAs_33 : decode cX7_beginAs 33 = .ok (.istore_n 2, 1) := by decide +kernel
theorem dX7_beginAs_34 : decode cX7_beginAs 34 = .ok (.iload_n 2, 1) := by decide +kernel
theorem dX7_beginAs_35 : decode cX7_beginAs 35 = .ok (.aload_n 1, 1) := by decide +kernel
theorem dX7_beginAs_36 : decode cX7_beginAs 36 = .ok (.getfield 64, 3) := by decide +kernel
theorem dX7_beginAs_39 : decode cX7_beginAs 39 = .ok (.if_icmp .ge 20, 3) := by decide +kernel
theorem dX7_beginAs_42 : decode cX7_beginAs 42 = .ok (.aload_n 0, 1) := by decide +kernel
theorem dX7_beginAs_43 : decode cX7_beginAs 43 = .ok (.getfield 21, 3) := by decide +kernel
theorem dX7_beginAs_46 : decode cX7_beginAs 46 = .ok (.iload_n 2, 1) := by decide +kernel
theorem dX7_beginAs_47 : decode cX7_beginAs 47 = .ok (.aload_n 1, 1) := by decide +kernel
theorem dX7_beginAs_48 : decode cX7_beginAs 48 = .ok (.iload_n 2, 1) := by decide +kernel
theorem dX7_beginAs_49 : decode cX7_beginAs 49 = .ok (.invokevirtual 69, 3) := by decide +kernel
theorem dX7_beginAs_52 : decode cX7_beginAs 52 = .ok (.iastore, 1) := by decide +kernel
theorem dX7_beginAs_53 : decode cX7_beginAs 53 = .ok (.iinc 2 1, 3) := by decide +kernel
theorem dX7_beginAs_56 : decode cX7_beginAs 56 = .ok (.goto (-22), 3) := by decide +kernel
theorem dX7_beginAs_59 : decode cX7_beginAs 59 = .ok (.iconst 0, 1) := by decide +kernel
theorem dX7_beginAs_60 : decode cX7_beginAs 60 = .ok (.istore_n 2, 1) := by decide +kernel
theorem dX7_beginAs_61 : decode cX7_beginAs 61 = .ok (.iload_n 2, 1) := by decide +kernel
theorem dX7_beginAs_62 : decode cX7_beginAs 62 = .ok (.aload_n 1, 1) := by decide +kernel
theorem dX7_beginAs_63 : decode cX7_beginAs 63 = .ok (.getfield 73, 3) := by decide +kernel
theorem dX7_beginAs_66 : decode cX7_beginAs 66 = .ok (.if_icmp .ge 31, 3) := by decide +kernel
theorem dX7_beginAs_69 : decode cX7_beginAs 69 = .ok (.aload_n 0, 1) := by decide +kernel
theorem dX7_beginAs_70 : decode cX7_beginAs 70 = .ok (.getfield 27, 3) := by decide +kernel
theorem dX7_beginAs_73 : decode cX7_beginAs 73 = .ok (.iload_n 2, 1) := by decide +kernel
theorem dX7_beginAs_74 : decode cX7_beginAs 74 = .ok (.aload_n 1, 1) := by decide +kernel
theorem dX7_beginAs_75 : decode cX7_beginAs 75 = .ok (.iload_n 2, 1) := by decide +kernel
theorem dX7_beginAs_76 : decode cX7_beginAs 76 = .ok (.invokevirtual 76, 3) := by decide +kernel
theorem dX7_beginAs_79 : decode cX7_beginAs 79 = .ok (.iastore, 1) := by decide +kernel
theorem dX7_beginAs_80 : decode cX7_beginAs 80 = .ok (.aload_n 0, 1) := by decide +kernel
theorem dX7_beginAs_81 : decode cX7_beginAs 81 = .ok (.getfield 30, 3) := by decide +kernel
theorem dX7_beginAs_84 : decode cX7_beginAs 84 = .ok (.iload_n 2, 1) := by decide +kernel
theorem dX7_beginAs_85 : decode cX7_beginAs 85 = .ok (.aload_n 1, 1) := by decide +kernel
theorem dX7_beginAs_86 : decode cX7_beginAs 86 = .ok (.iload_n 2, 1) := by decide +kernel
theorem dX7_beginAs_87 : decode cX7_beginAs 87 = .ok (.invokevirtual 79, 3) := by decide +kernel
theorem dX7_beginAs_90 : decode cX7_beginAs 90 = .ok (.iastore, 1) := by decide +kernel
theorem dX7_beginAs_91 : decode cX7_beginAs 91 = .ok (.iinc 2 1, 3) := by decide +kernel
theorem dX7_beginAs_94 : decode cX7_beginAs 94 = .ok (.goto (-33), 3) := by decide +kernel
theorem dX7_beginAs_97 : decode cX7_beginAs 97 = .ok (.aload_n 0, 1) := by decide +kernel
theorem dX7_beginAs_98 : decode cX7_beginAs 98 = .ok (.iconst 0, 1) := by decide +kernel
theorem dX7_beginAs_99 : decode cX7_beginAs 99 = .ok (.putfield 39, 3) := by decide +kernel
theorem dX7_beginAs_102 : decode cX7_beginAs 102 = .ok (.aload_n 0, 1) := by decide +kernel
theorem dX7_beginAs_103 : decode cX7_beginAs 103 = .ok (.iconst 0, 1) := by decide +kernel
theorem dX7_beginAs_104 : decode cX7_beginAs 104 = .ok (.putfield 43, 3) := by decide +kernel
theorem dX7_beginAs_107 : decode cX7_beginAs 107 = .ok (.aload_n 0, 1) := by decide +kernel
theorem dX7_beginAs_108 : decode cX7_beginAs 108 = .ok (.aload_n 1, 1) := by decide +kernel
theorem dX7_beginAs_109 : decode cX7_beginAs 109 = .ok (.invokevirtual 82, 3) := by decide +kernel
theorem dX7_beginAs_112 : decode cX7_beginAs 112 = .ok (.putfield 46, 3) := by decide +kernel
theorem dX7_beginAs_115 : decode cX7_beginAs 115 = .ok (.aload_n 0, 1) := by decide +kernel
theorem dX7_beginAs_116 : decode cX7_beginAs 116 = .ok (.iconst 0, 1) := by decide +kernel
theorem dX7_beginAs_117 : decode cX7_beginAs 117 = .ok (.putfield 49, 3) := by decide +kernel
theorem dX7_beginAs_120 : decode cX7_beginAs 120 = .ok (.aload_n 0, 1) := by decide +kernel
theorem dX7_beginAs_121 : decode cX7_beginAs 121 = .ok (.iconst 0, 1) := by decide +kernel
theorem dX7_beginAs_122 : decode cX7_beginAs 122 = .ok (.putfield 52, 3) := by decide +kernel
theorem dX7_beginAs_125 : decode cX7_beginAs 125 = .ok (.aload_n 0, 1) := by decide +kernel
theorem dX7_beginAs_126 : decode cX7_beginAs 126 = .ok (.iconst 0, 1) := by decide +kernel
theorem dX7_beginAs_127 : decode cX7_beginAs 127 = .ok (.putfield 55, 3) := by decide +kernel
theorem dX7_beginAs_130 : decode cX7_beginAs 130 = .ok (.return_, 1) := by decide +kernel
def f_State_beginAs_L34 (x0 : Nat) (x1 : Nat) (a : Mem × Int32) : Option ((Mem × Int32) ⊕ (Mem)) :=
  @Prod.casesOn (Mem) (Int32) (fun _ => Option ((Mem × Int32) ⊕ (Mem))) a fun τ z2 =>
  if (mI τ x1 3) ≤ z2 then
    some (.inr τ)
  else
    (f_City_weightTold τ x1 z2).bind fun q6 =>
    if inb z2 8 then
      some (.inl ((sI τ (x0 + 4) z2.toNatClampNeg q6), (z2 + (1 : Int32))))
    else none
def f_State_beginAs_L61 (x0 : Nat) (x1 : Nat) (a : Mem × Int32) : Option ((Mem × Int32) ⊕ (Mem)) :=
  @Prod.casesOn (Mem) (Int32) (fun _ => Option ((Mem × Int32) ⊕ (Mem))) a fun τ z2 =>
  if (mI τ x1 4) ≤ z2 then
    (f_City_rateTold (sI (sI τ x0 9 (0 : Int32)) x0 10 (0 : Int32)) x1).bind fun q10 =>
    some (.inr (sI (sI (sI (sI (sI (sI τ x0 9 (0 : Int32)) x0 10 (0 : Int32)) x0 11 q10) x0 12 (0 : Int32)) x0 13 (0 : Int32)) x0 14 (0 : Int32)))
  else
    (f_City_purseTold τ x1 z2).bind fun q11 =>
    if inb z2 6 then
      (f_City_desireTold (sI τ (x0 + 6) z2.toNatClampNeg q11) x1 z2).bind fun q13 =>
      some (.inl ((sI (sI τ (x0 + 6) z2.toNatClampNeg q11) (x0 + 7) z2.toNatClampNeg q13), (z2 + (1 : Int32))))
    else none
def f_State_beginAs (σ : Mem) (x0 : Nat) (x1 : Nat) : Option (Mem) :=
  (f_Arrays_fill σ (x0 + 1) (-1 : Int32)).bind fun q1 =>
  (f_Arrays_fill q1 (x0 + 2) (0 : Int32)).bind fun q2 =>
  (f_Arrays_fill q2 (x0 + 3) (0 : Int32)).bind fun q3 =>
  (f_Arrays_fill q3 (x0 + 5) (-1 : Int32)).bind fun q4 =>
  (loopF (f_State_beginAs_L34 x0 x1) FU (q4, (0 : Int32))).bind fun w8 =>
  loopF (f_State_beginAs_L61 x0 x1) FU (w8, (0 : Int32))
set_option maxHeartbeats 4000000 in
set_option maxRecDepth 20000 in
theorem gs_State_beginAs_L34 (X : Cx θ p s m args c cX7_beginAs 3 RX7) (hr : meth.sig.returnType = none) (hlk : meth.locks = false)  {x0 : Nat} {x1 : Nat} {r : Mem} (h0 : kd x0 = 8) (h1 : kd x1 = 2) (τ : Mem) (z2 : Int32) (x : (Mem × Int32) ⊕ (Mem)) (h : f_State_beginAs_L34 x0 x1 (τ, z2) = some x) (hk : Sum.elim (fun a => @Prod.casesOn (Mem) (Int32) (fun _ => Prop) a fun τ z2 => GB θ p l e 1 s m args below meth c 3 (none, r) 34 [(0, .ref (be θ + x0)), (1, .ref (be θ + x1)), (2, .int z2)] [] τ) (fun w => GB θ p l e 1 s m args below meth c 3 (none, r) 59 [(0, .ref (be θ + x0)), (1, .ref (be θ + x1))] [] w) x) : GB θ p l e 1 s m args below meth c 3 (none, r) 34 [(0, .ref (be θ + x0)), (1, .ref (be θ + x1)), (2, .int z2)] [] τ := by
  unfold f_State_beginAs_L34 at h
  dsimp only at h
  refine g_iload_n X dX7_beginAs_34 rfl 2 rfl ?_
  refine g_aload_n X dX7_beginAs_35 rfl 1 rfl ?_
  refine g_get X fl_RX7_64 dX7_beginAs_36 h1 (v := .int (mI τ x1 3)) rfl ?_
  refine g_icmp_ge (tgt := 59) X dX7_beginAs_39 (by decide) (fun c5 => ?_) (fun c5 => ?_)
  · replace h := (if_pos c5).symm.trans h
    have hk := inr_hk h hk
    exact g_sub (lv' := [(0, .ref (be θ + x0)), (1, .ref (be θ + x1))]) [0, 1] rfl hk
  · replace h := (if_neg c5).symm.trans h
    refine g_aload_n X dX7_beginAs_42 rfl 0 rfl ?_
    refine g_get X fl_RX7_21 dX7_beginAs_43 h0 (v := .ref (be θ + (x0 + 4))) rfl ?_
    refine g_iload_n X dX7_beginAs_46 rfl 2 rfl ?_
    refine g_aload_n X dX7_beginAs_47 rfl 1 rfl ?_
    refine g_iload_n X dX7_beginAs_48 rfl 2 rfl ?_
    obtain ⟨q6, hq6, h⟩ := Option.bind_eq_some_iff.mp h
    refine g_cV X (c_City_weightTold h1 hq6) lk_RX7_69 my_X1_weightTold (a := x1) (ci := 1) h1 (by decide) rfl (As := [.int z2]) (rest := [.int z2, .ref (be θ + (x0 + 4))]) rfl rfl (Nat.le_of_ble_eq_true rfl) ⟨(Nat.le_of_ble_eq_true rfl), (Nat.le_of_ble_eq_true rfl)⟩ ⟨(Nat.le_of_ble_eq_true rfl), (Nat.le_of_ble_eq_true rfl)⟩ dX7_beginAs_49 (st' := [.int q6, .int z2, .ref (be θ + (x0 + 4))]) (σ' := τ) rfl rfl ?_
    obtain ⟨g7, h⟩ := ite_some h
    refine g_iast X (lk7_3 h0).1 (lk7_3 h0).2 (inb_in g7) dX7_beginAs_52 ?_
    refine g_iinc X dX7_beginAs_53 (kq := 2) rfl (congrArg (HAdd.hAdd _) ic_1) (by decide) (lv' := [(2, .int (z2 + (1 : Int32))), (0, .ref (be θ + x0)), (1, .ref (be θ + x1))]) rfl ?_
    refine g_goto (tgt := 34) X dX7_beginAs_56 (by decide) ?_
    have hk := inl_hk h hk
    exact g_sub (lv' := [(0, .ref (be θ + x0)), (1, .ref (be θ + x1)), (2, .int (z2 + (1 : Int32)))]) [1, 2, 0] rfl hk
set_option maxHeartbeats 4000000 in
set_option maxRecDepth 20000 in
theorem gl_State_beginAs_L34 (X : Cx θ p s m args c cX7_beginAs 3 RX7) (hr : meth.sig.returnType = none) (hlk : meth.locks = false)  {x0 : Nat} {x1 : Nat} {r : Mem} (h0 : kd x0 = 8) (h1 : kd x1 = 2) (n : Nat) (a : Mem × Int32) (b : Mem) (h : loopF (f_State_beginAs_L34 x0 x1) n a = some b) (hk : (fun w => GB θ p l e 1 s m args below meth c 3 (none, r) 59 [(0, .ref (be θ + x0)), (1, .ref (be θ + x1))] [] w) b) : (fun a => @Prod.casesOn (Mem) (Int32) (fun _ => Prop) a fun τ z2 => GB θ p l e 1 s m args below meth c 3 (none, r) 34 [(0, .ref (be θ + x0)), (1, .ref (be θ + x1)), (2, .int z2)] [] τ) a :=
  loopF_by (P := (fun a => @Prod.casesOn (Mem) (Int32) (fun _ => Prop) a fun τ z2 => GB θ p l e 1 s m args below meth c 3 (none, r) 34 [(0, .ref (be θ + x0)), (1, .ref (be θ + x1)), (2, .int z2)] [] τ)) (K := (fun w => GB θ p l e 1 s m args below meth c 3 (none, r) 59 [(0, .ref (be θ + x0)), (1, .ref (be θ + x1))] [] w)) (fun a x h hk => by obtain ⟨τ, z2⟩ := a; exact gs_State_beginAs_L34 X hr hlk  h0 h1 τ z2 x h hk) n a b h hk
set_option maxHeartbeats 4000000 in
set_option maxRecDepth 20000 in
theorem gs_State_beginAs_L61 (X : Cx θ p s m args c cX7_beginAs 3 RX7) (hr : meth.sig.returnType = none) (hlk : meth.locks = false)  {x0 : Nat} {x1 : Nat} {r : Mem} (h0 : kd x0 = 8) (h1 : kd x1 = 2) (τ : Mem) (z2 : Int32) (x : (Mem × Int32) ⊕ (Mem)) (h : f_State_beginAs_L61 x0 x1 (τ, z2) = some x) (hk : Sum.elim (fun a => @Prod.casesOn (Mem) (Int32) (fun _ => Prop) a fun τ z2 => GB θ p l e 1 s m args below meth c 3 (none, r) 61 [(0, .ref (be θ + x0)), (1, .ref (be θ + x1)), (2, .int z2)] [] τ) (fun b => b = r) x) : GB θ p l e 1 s m args below meth c 3 (none, r) 61 [(0, .ref (be θ + x0)), (1, .ref (be θ + x1)), (2, .int z2)] [] τ := by
  unfold f_State_beginAs_L61 at h
  dsimp only at h
  refine g_iload_n X dX7_beginAs_61 rfl 2 rfl ?_
  refine g_aload_n X dX7_beginAs_62 rfl 1 rfl ?_
  refine g_get X fl_RX7_73 dX7_beginAs_63 h1 (v := .int (mI τ x1 4)) rfl ?_
  refine g_icmp_ge (tgt := 97) X dX7_beginAs_66 (by decide) (fun c9 => ?_) (fun c9 => ?_)
  · replace h := (if_pos c9).symm.trans h
    refine g_aload_n X dX7_beginAs_97 rfl 0 rfl ?_
    refine g_iconst X dX7_beginAs_98 (v := (0 : Int32)) ic_0 ?_
    refine g_putI X fl_RX7_39 dX7_beginAs_99 h0 rfl rfl rfl ?_
    refine g_aload_n X dX7_beginAs_102 rfl 0 rfl ?_
    refine g_iconst X dX7_beginAs_103 (v := (0 : Int32)) ic_0 ?_
    refine g_putI X fl_RX7_43 dX7_beginAs_104 h0 rfl rfl rfl ?_
    refine g_aload_n X dX7_beginAs_107 rfl 0 rfl ?_
    refine g_aload_n X dX7_beginAs_108 rfl 1 rfl ?_
    obtain ⟨q10, hq10, h⟩ := Option.bind_eq_some_iff.mp h
    refine g_cV X (c_City_rateTold h1 hq10) lk_RX7_82 my_X1_rateTold (a := x1) (ci := 1) h1 (by decide) rfl (As := []) (rest := [.ref (be θ + x0)]) rfl rfl (Nat.le_of_ble_eq_true rfl) ⟨(Nat.le_of_ble_eq_true rfl), (Nat.le_of_ble_eq_true rfl)⟩ ⟨(Nat.le_of_ble_eq_true rfl), (Nat.le_of_ble_eq_true rfl)⟩ dX7_beginAs_109 (st' := [.int q10, .ref (be θ + x0)]) (σ' := (sI (sI τ x0 9 (0 : Int32)) x0 10 (0 : Int32))) rfl rfl ?_
    refine g_putI X fl_RX7_46 dX7_beginAs_112 h0 rfl rfl rfl ?_
    refine g_aload_n X dX7_beginAs_115 rfl 0 rfl ?_
    refine g_iconst X dX7_beginAs_116 (v := (0 : Int32)) ic_0 ?_
    refine g_putI X fl_RX7_49 dX7_beginAs_117 h0 rfl rfl rfl ?_
    refine g_aload_n X dX7_beginAs_120 rfl 0 rfl ?_
    refine g_iconst X dX7_beginAs_121 (v := (0 : Int32)) ic_0 ?_
    refine g_putI X fl_RX7_52 dX7_beginAs_122 h0 rfl rfl rfl ?_
    refine g_aload_n X dX7_beginAs_125 rfl 0 rfl ?_
    refine g_iconst X dX7_beginAs_126 (v := (0 : Int32)) ic_0 ?_
    refine g_putI X fl_RX7_55 dX7_beginAs_127 h0 rfl rfl rfl ?_
    have hk := inr_hk h hk
    have hk : (sI (sI (sI (sI (sI (sI τ x0 9 (0 : Int32)) x0 10 (0 : Int32)) x0 11 q10) x0 12 (0 : Int32)) x0 13 (0 : Int32)) x0 14 (0 : Int32)) = r := hk
    subst hk
    exact g_vret X hr hlk dX7_beginAs_130 rfl
  · replace h := (if_neg c9).symm.trans h
    refine g_aload_n X dX7_beginAs_69 rfl 0 rfl ?_
    refine g_get X fl_RX7_27 dX7_beginAs_70 h0 (v := .ref (be θ + (x0 + 6))) rfl ?_
    refine g_iload_n X dX7_beginAs_73 rfl 2 rfl ?_
    refine g_aload_n X dX7_beginAs_74 rfl 1 rfl ?_
    refine g_iload_n X dX7_beginAs_75 rfl 2 rfl ?_
    obtain ⟨q11, hq11, h⟩ := Option.bind_eq_some_iff.mp h
    refine g_cV X (c_City_purseTold h1 hq11) lk_RX7_76 my_X1_purseTold (a := x1) (ci := 1) h1 (by decide) rfl (As := [.int z2]) (rest := [.int z2, .ref (be θ + (x0 + 6))]) rfl rfl (Nat.le_of_ble_eq_true rfl) ⟨(Nat.le_of_ble_eq_true rfl), (Nat.le_of_ble_eq_true rfl)⟩ ⟨(Nat.le_of_ble_eq_true rfl), (Nat.le_of_ble_eq_true rfl)⟩ dX7_beginAs_76 (st' := [.int q11, .int z2, .ref (be θ + (x0 + 6))]) (σ' := τ) rfl rfl ?_
    obtain ⟨g12, h⟩ := ite_some h
    refine g_iast X (lk7_5 h0).1 (lk7_5 h0).2 (inb_in g12) dX7_beginAs_79 ?_
    refine g_aload_n X dX7_beginAs_80 rfl 0 rfl ?_
    refine g_get X fl_RX7_30 dX7_beginAs_81 h0 (v := .ref (be θ + (x0 + 7))) rfl ?_
    refine g_iload_n X dX7_beginAs_84 rfl 2 rfl ?_
    refine g_aload_n X dX7_beginAs_85 rfl 1 rfl ?_
    refine g_iload_n X dX7_beginAs_86 rfl 2 rfl ?_
    obtain ⟨q13, hq13, h⟩ := Option.bind_eq_some_iff.mp h
    refine g_cV X (c_City_desireTold h1 hq13) lk_RX7_79 my_X1_desireTold (a := x1) (ci := 1) h1 (by decide) rfl (As := [.int z2]) (rest := [.int z2, .ref (be θ + (x0 + 7))]) rfl rfl (Nat.le_of_ble_eq_true rfl) ⟨(Nat.le_of_ble_eq_true rfl), (Nat.le_of_ble_eq_true rfl)⟩ ⟨(Nat.le_of_ble_eq_true rfl), (Nat.le_of_ble_eq_true rfl)⟩ dX7_beginAs_87 (st' := [.int q13, .int z2, .ref (be θ + (x0 + 7))]) (σ' := (sI τ (x0 + 6) z2.toNatClampNeg q11)) rfl rfl ?_
    refine g_iast X (lk7_6 h0).1 (lk7_6 h0).2 (inb_in g12) dX7_beginAs_90 ?_
    refine g_iinc X dX7_beginAs_91 (kq := 2) rfl (congrArg (HAdd.hAdd _) ic_1) (by decide) (lv' := [(2, .int (z2 + (1 : Int32))), (0, .ref (be θ + x0)), (1, .ref (be θ + x1))]) rfl ?_
    refine g_goto (tgt := 61) X dX7_beginAs_94 (by decide) ?_
    have hk := inl_hk h hk
    exact g_sub (lv' := [(0, .ref (be θ + x0)), (1, .ref (be θ + x1)), (2, .int (z2 + (1 : Int32)))]) [1, 2, 0] rfl hk
set_option maxHeartbeats 4000000 in
set_option maxRecDepth 20000 in
theorem gl_State_beginAs_L61 (X : Cx θ p s m args c cX7_beginAs 3 RX7) (hr : meth.sig.returnType = none) (hlk : meth.locks = false)  {x0 : Nat} {x1 : Nat} {r : Mem} (h0 : kd x0 = 8) (h1 : kd x1 = 2) (n : Nat) (a : Mem × Int32) (b : Mem) (h : loopF (f_State_beginAs_L61 x0 x1) n a = some b) (hk : (fun b => b = r) b) : (fun a => @Prod.casesOn (Mem) (Int32) (fun _ => Prop) a fun τ z2 => GB θ p l e 1 s m args below meth c 3 (none, r) 61 [(0, .ref (be θ + x0)), (1, .ref (be θ + x1)), (2, .int z2)] [] τ) a :=
  loopF_by (P := (fun a => @Prod.casesOn (Mem) (Int32) (fun _ => Prop) a fun τ z2 => GB θ p l e 1 s m args below meth c 3 (none, r) 61 [(0, .ref (be θ + x0)), (1, .ref (be θ + x1)), (2, .int z2)] [] τ)) (K := (fun b => b = r)) (fun a x h hk => by obtain ⟨τ, z2⟩ := a; exact gs_State_beginAs_L61 X hr hlk  h0 h1 τ z2 x h hk) n a b h hk
set_option maxHeartbeats 4000000 in
set_option maxRecDepth 20000 in
theorem g_State_beginAs (X : Cx θ p s m args c cX7_beginAs 3 RX7) (hr : meth.sig.returnType = none) (hlk : meth.locks = false)  {σ : Mem} {x0 : Nat} {x1 : Nat} {r : Mem} (h0 : kd x0 = 8) (h1 : kd x1 = 2) (h : f_State_beginAs σ x0 x1 = some r) : GB θ p l e 1 s m args below meth c 3 (none, r) 0 [(0, .ref (be θ + x0)), (1, .ref (be θ + x1))] [] σ := by
  unfold f_State_beginAs at h
  refine g_aload_n X dX7_beginAs_0 rfl 0 rfl ?_
  refine g_get X fl_RX7_9 dX7_beginAs_1 h0 (v := .ref (be θ + (x0 + 1))) rfl ?_
  refine g_iconst X dX7_beginAs_4 (v := (-1 : Int32)) ic_m1 ?_
  obtain ⟨q1, hq1, h⟩ := Option.bind_eq_some_iff.mp h
  refine g_cS X (c_Arrays_fill ((lk7_0 h0).1) hq1) lk_RX7_58 my_J7_fill_53178 (As := [.ref (be θ + (x0 + 1)), .int (-1 : Int32)]) (rest := []) rfl rfl (Nat.le_of_ble_eq_true rfl) ⟨(Nat.le_of_ble_eq_true rfl), (Nat.le_of_ble_eq_true rfl)⟩ ⟨(Nat.le_of_ble_eq_true rfl), (Nat.le_of_ble_eq_true rfl)⟩ dX7_beginAs_5 (st' := []) (σ' := q1) rfl rfl ?_
  refine g_aload_n X dX7_beginAs_8 rfl 0 rfl ?_
  refine g_get X fl_RX7_15 dX7_beginAs_9 h0 (v := .ref (be θ + (x0 + 2))) rfl ?_
  refine g_iconst X dX7_beginAs_12 (v := (0 : Int32)) ic_0 ?_
  obtain ⟨q2, hq2, h⟩ := Option.bind_eq_some_iff.mp h
  refine g_cS X (c_Arrays_fill ((lk7_1 h0).1) hq2) lk_RX7_58 my_J7_fill_53178 (As := [.ref (be θ + (x0 + 2)), .int (0 : Int32)]) (rest := []) rfl rfl (Nat.le_of_ble_eq_true rfl) ⟨(Nat.le_of_ble_eq_true rfl), (Nat.le_of_ble_eq_true rfl)⟩ ⟨(Nat.le_of_ble_eq_true rfl), (Nat.le_of_ble_eq_true rfl)⟩ dX7_beginAs_13 (st' := []) (σ' := q2) rfl rfl ?_
  refine g_aload_n X dX7_beginAs_16 rfl 0 rfl ?_
  refine g_get X fl_RX7_18 dX7_beginAs_17 h0 (v := .ref (be θ + (x0 + 3))) rfl ?_
  refine g_iconst X dX7_beginAs_20 (v := (0 : Int32)) ic_0 ?_
  obtain ⟨q3, hq3, h⟩ := Option.bind_eq_some_iff.mp h
  refine g_cS X (c_Arrays_fill ((lk7_2 h0).1) hq3) lk_RX7_58 my_J7_fill_53178 (As := [.ref (be θ + (x0 + 3)), .int (0 : Int32)]) (rest := []) rfl rfl (Nat.le_of_ble_eq_true rfl) ⟨(Nat.le_of_ble_eq_true rfl), (Nat.le_of_ble_eq_true rfl)⟩ ⟨(Nat.le_of_ble_eq_true rfl), (Nat.le_of_ble_eq_true rfl)⟩ dX7_beginAs_21 (st' := []) (σ' := q3) rfl rfl ?_
  refine g_aload_n X dX7_beginAs_24 rfl 0 rfl ?_
  refine g_get X fl_RX7_24 dX7_beginAs_25 h0 (v := .ref (be θ + (x0 + 5))) rfl ?_
  refine g_iconst X dX7_beginAs_28 (v := (-1 : Int32)) ic_m1 ?_
  obtain ⟨q4, hq4, h⟩ := Option.bind_eq_some_iff.mp h
  refine g_cS X (c_Arrays_fill ((lk7_4 h0).1) hq4) lk_RX7_58 my_J7_fill_53178 (As := [.ref (be θ + (x0 + 5)), .int (-1 : Int32)]) (rest := []) rfl rfl (Nat.le_of_ble_eq_true rfl) ⟨(Nat.le_of_ble_eq_true rfl), (Nat.le_of_ble_eq_true rfl)⟩ ⟨(Nat.le_of_ble_eq_true rfl), (Nat.le_of_ble_eq_true rfl)⟩ dX7_beginAs_29 (st' := []) (σ' := q4) rfl rfl ?_
  refine g_iconst X dX7_beginAs_32 (v := (0 : Int32)) ic_0 ?_
  refine g_istore_n X dX7_beginAs_33 rfl (by decide) (lv' := [(2, .int (0 : Int32)), (0, .ref (be θ + x0)), (1, .ref (be θ + x1))]) rfl ?_
  obtain ⟨w8, hq8, h⟩ := Option.bind_eq_some_iff.mp h
  refine g_sub (lv' := [(0, .ref (be θ + x0)), (1, .ref (be θ + x1)), (2, .int (0 : Int32))]) [1, 2, 0] rfl (gl_State_beginAs_L34 X hr hlk  h0 h1  FU _ w8 hq8 ?_)
  refine g_iconst X dX7_beginAs_59 (v := (0 : Int32)) ic_0 ?_
  refine g_istore_n X dX7_beginAs_60 rfl (by decide) (lv' := [(2, .int (0 : Int32)), (0, .ref (be θ + x0)), (1, .ref (be θ + x1))]) rfl ?_
  exact g_sub (lv' := [(0, .ref (be θ + x0)), (1, .ref (be θ + x1)), (2, .int (0 : Int32))]) [1, 2, 0] rfl (gl_State_beginAs_L61 X hr hlk  h0 h1  FU _ _ h rfl)
set_option maxHeartbeats 4000000 in
set_option maxRecDepth 20000 in
theorem c_State_beginAs {θ : Th} {l : Launch} {σ : Mem} {x0 : Nat} {x1 : Nat} {r : Mem} (h0 : kd x0 = 8) (h1 : kd x1 = 2) (h : f_State_beginAs σ x0 x1 = some r) : Cn θ l yX7_beginAs cX7_beginAs 3 (none) 1 0 0 [.ref (be θ + x0), .ref (be θ + x1)] σ (none, r) :=
  Cn.of (by decide) (Nat.le_of_ble_eq_true rfl) (fun p e s m below meth c X hr hlk => g_State_beginAs X hr hlk h0 h1 h)
theorem dX7_strikeBills_0 : decode cX7_strikeBills 0 = .ok (.iconst 0, 1) := by decide +kernel
theorem dX7_strikeBills_1 : decode cX7_strikeBills 1 = .ok (.istore 4, 2) := by decide +kernel
theorem dX7_strikeBills_3 : decode cX7_strikeBills 3 = .ok (.iconst 0, 1) := by decide +kernel
theorem dX7_strikeBills_4 : decode cX7_strikeBills 4 = .ok (.istore 5, 2) := by decide +kernel
theorem dX7_strikeBills_6 : decode cX7_strikeBills 6 = .ok (.iload 5, 2) := by decide +kernel
theorem dX7_strikeBills_8 : decode cX7_strikeBills 8 = .ok (.aload_n 0, 1) := by decide +kernel
theorem dX7_strikeBills_9 : decode cX7_strikeBills 9 = .ok (.getfield 39, 3) := by decide +kernel
theorem dX7_strikeBills_12 : decode cX7_strikeBills 12 = .ok (.if_icmp .ge 76, 3) := by decide +kernel
theorem dX7_strikeBills_15 : decode cX7_strikeBills 15 = .ok (.iload 5, 2) := by decide +kernel
theorem dX7_strikeBills_17 : decode cX7_strikeBills 17 = .ok (.iconst 4, 1) := by decide +kernel
theorem dX7_strikeBills_18 : decode cX7_strikeBills 18 = .ok (.imul, 1) := by decide +kernel
theorem dX7_strikeBills_19 : decode cX7_strikeBills 19 = .ok (.istore 6, 2) := by decide +kernel
theorem dX7_strikeBills_21 : decode cX7_strikeBills 21 = .ok (.aload_n 0, 1) := by decide +kernel
theorem dX7_strikeBills_22 : decode cX7_strikeBills 22 = .ok (.getfield 33, 3) := by decide +kernel
theorem dX7_strikeBills_25 : decode cX7_strikeBills 25 = .ok (.iload 6, 2) := by decide +kernel
theorem dX7_strikeBills_27 : decode cX7_strikeBills 27 = .ok (.iaload, 1) := by decide +kernel
theorem dX7_strikeBills_28 : decode cX7_strikeBills 28 = .ok (.iload_n 1, 1) := by decide +kernel
theorem dX7_strikeBills_29 : decode cX7_strikeBills 29 = .ok (.if_icmp .ne 32, 3) := by decide +kernel
theorem dX7_strikeBills_32 : decode cX7_strikeBills 32 = .ok (.aload_n 0, 1) := by decide +kernel
theorem dX7_strikeBills_33 : decode cX7_strikeBills 33 = .ok (.getfield 33, 3) := by decide +kernel
theorem dX7_strikeBills_36 : decode cX7_strikeBills 36 = .ok (.iload 6, 2) := by decide +kernel
theorem dX7_strikeBills_38 : decode cX7_strikeBills 38 = .ok (.iconst 1, 1) := by decide +kernel
theorem dX7_strikeBills_39 : decode cX7_strikeBills 39 = .ok (.iadd, 1) := by decide +kernel
theorem dX7_strikeBills_40 : decode cX7_strikeBills 40 = .ok (.iaload, 1) := by decide +kernel
theorem dX7_strikeBills_41 : decode cX7_strikeBills 41 = .ok (.iload_n 2, 1) := by decide +kernel
theorem dX7_strikeBills_42 : decode cX7_strikeBills 42 = .ok (.if_icmp .ne 19, 3) := by decide +kernel
theorem dX7_strikeBills_45 : decode cX7_strikeBills 45 = .ok (.aload_n 0, 1) := by decide +kernel
theorem dX7_strikeBills_46 : decode cX7_strikeBills 46 = .ok (.getfield 33, 3) := by decide +kernel
theorem dX7_strikeBills_49 : decode cX7_strikeBills 49 = .ok (.iload 6, 2) := by decide +kernel
theorem dX7_strikeBills_51 : decode cX7_strikeBills 51 = .ok (.iconst 2, 1) := by decide +kernel
theorem dX7_strikeBills_52 : decode cX7_strikeBills 52 = .ok (.iadd, 1) := by decide +kernel
theorem dX7_strikeBills_53 : decode cX7_strikeBills 53 = .ok (.iaload, 1) := by decide +kernel
theorem dX7_strikeBills_54 : decode cX7_strikeBills 54 = .ok (.iload_n 3, 1) := by decide +kernel
theorem dX7_strikeBills_55 : decode cX7_strikeBills 55 = .ok (.if_icmp .lt 6, 3) := by decide +kernel
theorem dX7_strikeBills_58 : decode cX7_strikeBills 58 = .ok (.goto 24, 3) := by decide +kernel
theorem dX7_strikeBills_61 : decode cX7_strikeBills 61 = .ok (.aload_n 0, 1) := by decide +kernel
theorem dX7_strikeBills_62 : decode cX7_strikeBills 62 = .ok (.getfield 33, 3) := by decide +kernel
theorem dX7_strikeBills_65 : decode cX7_strikeBills 65 = .ok (.iload 6, 2) := by decide +kernel
theorem dX7_strikeBills_67 : decode cX7_strikeBills 67 = .ok (.aload_n 0, 1) := by decide +kernel
theorem dX7_strikeBills_68 : decode cX7_strikeBills 68 = .ok (.getfield 33, 3) := by decide +kernel
theorem dX7_strikeBills_71 : decode cX7_strikeBills 71 = .ok (.iload 4, 2) := by decide +kernel
theorem dX7_strikeBills_73 : decode cX7_strikeBills 73 = .ok (.iconst 4, 1) := by decide +kernel
theorem dX7_strikeBills_74 : decode cX7_strikeBills 74 = .ok (.imul, 1) := by decide +kernel
theorem dX7_strikeBills_75 : decode cX7_strikeBills 75 = .ok (.iconst 4, 1) := by decide +kernel
theorem dX7_strikeBills_76 : decode cX7_strikeBills 76 = .ok (.invokestatic 86, 3) := by decide +kernel
theorem dX7_strikeBills_79 : decode cX7_strikeBills 79 = .ok (.iinc 4 1, 3) := by decide +kernel
theorem dX7_strikeBills_82 : decode cX7_strikeBills 82 = .ok (.iinc 5 1, 3) := by decide +kernel
theorem dX7_strikeBills_85 : decode cX7_strikeBills 85 = .ok (.goto (-79), 3) := by decide +kernel
theorem dX7_strikeBills_88 : decode cX7_strikeBills 88 = .ok (.aload_n 0, 1) := by decide +kernel
theorem dX7_strikeBills_89 : decode cX7_strikeBills 89 = .ok (.getfield 39, 3) := by decide +kernel
theorem dX7_strikeBills_92 : decode cX7_strikeBills 92 = .ok (.iload 4, 2) := by decide +kernel
theorem dX7_strikeBills_94 : decode cX7_strikeBills 94 = .ok (.isub, 1) := by decide +kernel
theorem dX7_strikeBills_95 : decode cX7_strikeBills 95 = .ok (.istore 5, 2) := by decide +kernel
theorem dX7_strikeBills_97 : decode cX7_strikeBills 97 = .ok (.aload_n 0, 1) := by decide +kernel
theorem dX7_strikeBills_98 : decode cX7_strikeBills 98 = .ok (.iload 4, 2) := by decide +kernel
theorem dX7_strikeBills_100 : decode cX7_strikeBills 100 = .ok (.putfield 39, 3) := by decide +kernel
theorem dX7_strikeBills_103 : decode cX7_strikeBills 103 = .ok (.iload 5, 2) := by decide +kernel
theorem dX7_strikeBills_105 : decode cX7_strikeBills 105 = .ok (.ireturn, 1) := by decide +kernel
def f_State_strikeBills_L6 (x0 : Nat) (x1 : Int32) (x2 : Int32) (x3 : Int32) (a : Mem × Int32 × Int32) : Option ((Mem × Int32 × Int32) ⊕ (Int32 × Mem)) :=
  @Prod.casesOn (Mem) (Int32 × Int32) (fun _ => Option ((Mem × Int32 × Int32) ⊕ (Int32 × Mem))) a fun τ b0 =>
  @Prod.casesOn (Int32) (Int32) (fun _ => Option ((Mem × Int32 × Int32) ⊕ (Int32 × Mem))) b0 fun z4 z5 =>
  if (mI τ x0 9) ≤ z5 then
    some (.inr (((mI τ x0 9) - z4), (sI τ x0 9 z4)))
  else
    if inb (z5 * (4 : Int32)) 96 then
      if (mI τ (x0 + 8) (z5 * (4 : Int32)).toNatClampNeg) = x1 then
        if inb ((z5 * (4 : Int32)) + (1 : Int32)) 96 then
          if (mI τ (x0 + 8) ((z5 * (4 : Int32)) + (1 : Int32)).toNatClampNeg) = x2 then
            if inb ((z5 * (4 : Int32)) + (2 : Int32)) 96 then
              if (mI τ (x0 + 8) ((z5 * (4 : Int32)) + (2 : Int32)).toNatClampNeg) < x3 then
                if cpyB 96 96 (z5 * (4 : Int32)) (z4 * (4 : Int32)) (4 : Int32) then
                  (some (rI τ (x0 + 8) (cpyM (mI τ (x0 + 8)) (mI τ (x0 + 8)) (z5 * (4 : Int32)) (z4 * (4 : Int32)) (4 : Int32)))).bind fun σ13 =>
                  some (.inl (σ13, (z4 + (1 : Int32)), (z5 + (1 : Int32))))
                else none
              else
                some (.inl (τ, z4, (z5 + (1 : Int32))))
            else none
          else
            if cpyB 96 96 (z5 * (4 : Int32)) (z4 * (4 : Int32)) (4 : Int32) then
              (some (rI τ (x0 + 8) (cpyM (mI τ (x0 + 8)) (mI τ (x0 + 8)) (z5 * (4 : Int32)) (z4 * (4 : Int32)) (4 : Int32)))).bind fun σ9 =>
              some (.inl (σ9, (z4 + (1 : Int32)), (z5 + (1 : Int32))))
            else none
        else none
      else
        if cpyB 96 96 (z5 * (4 : Int32)) (z4 * (4 : Int32)) (4 : Int32) then
          (some (rI τ (x0 + 8) (cpyM (mI τ (x0 + 8)) (mI τ (x0 + 8)) (z5 * (4 : Int32)) (z4 * (4 : Int32)) (4 : Int32)))).bind fun σ5 =>
          some (.inl (σ5, (z4 + (1 : Int32)), (z5 + (1 : Int32))))
        else none
    else none
def f_State_strikeBills (σ : Mem) (x0 : Nat) (x1 : Int32) (x2 : Int32) (x3 : Int32) : Option (Int32 × Mem) :=
  loopF (f_State_strikeBills_L6 x0 x1 x2 x3) FU (σ, (0 : Int32), (0 : Int32))
set_option maxHeartbeats 4000000 in
set_option maxRecDepth 20000 in
theorem gs_State_strikeBills_L6 (X : Cx θ p s m args c cX7_strikeBills 7 RX7) (hr : meth.sig.returnType = some .int) (hlk : meth.locks = false)  {x0 : Nat} {x1 : Int32} {x2 : Int32} {x3 : Int32} {r : Int32 × Mem} (h0 : kd x0 = 8) (τ : Mem) (z4 : Int32) (z5 : Int32) (x : (Mem × Int32 × Int32) ⊕ (Int32 × Mem)) (h : f_State_strikeBills_L6 x0 x1 x2 x3 (τ, z4, z5) = some x) (hk : Sum.elim (fun a => @Prod.casesOn (Mem) (Int32 × Int32) (fun _ => Prop) a fun τ b0 => @Prod.casesOn (Int32) (Int32) (fun _ => Prop) b0 fun z4 z5 => GB θ p l e 1 s m args below meth c 7 (some (.int r.1), r.2) 6 [(0, .ref (be θ + x0)), (1, .int x1), (2, .int x2), (3, .int x3), (4, .int z4), (5, .int z5)] [] τ) (fun b => b = r) x) : GB θ p l e 1 s m args below meth c 7 (some (.int r.1), r.2) 6 [(0, .ref (be θ + x0)), (1, .int x1), (2, .int x2), (3, .int x3), (4, .int z4), (5, .int z5)] [] τ := by
  unfold f_State_strikeBills_L6 at h
  dsimp only at h
  refine g_iload X dX7_strikeBills_6 5 rfl ?_
  refine g_aload_n X dX7_strikeBills_8 rfl 0 rfl ?_
  refine g_get X fl_RX7_39 dX7_strikeBills_9 h0 (v := .int (mI τ x0 9)) rfl ?_
  refine g_icmp_ge (tgt := 88) X dX7_strikeBills_12 (by decide) (fun c1 => ?_) (fun c1 => ?_)
  · replace h := (if_pos c1).symm.trans h
    refine g_aload_n X dX7_strikeBills_88 rfl 0 rfl ?_
    refine g_get X fl_RX7_39 dX7_strikeBills_89 h0 (v := .int (mI τ x0 9)) rfl ?_
    refine g_iload X dX7_strikeBills_92 4 rfl ?_
    refine g_isub X dX7_strikeBills_94 ?_
    refine g_istore X dX7_strikeBills_95 (by decide) (lv' := [(5, .int ((mI τ x0 9) - z4)), (0, .ref (be θ + x0)), (1, .int x1), (2, .int x2), (3, .int x3), (4, .int z4)]) rfl ?_
    refine g_aload_n X dX7_strikeBills_97 rfl 1 rfl ?_
    refine g_iload X dX7_strikeBills_98 5 rfl ?_
    refine g_putI X fl_RX7_39 dX7_strikeBills_100 h0 rfl rfl rfl ?_
    refine g_iload X dX7_strikeBills_103 0 rfl ?_
    have hk := inr_hk h hk
    have hk : (((mI τ x0 9) - z4), (sI τ x0 9 z4)) = r := hk
    subst hk
    exact g_iret X hr hlk dX7_strikeBills_105 rfl
  · replace h := (if_neg c1).symm.trans h
    refine g_iload X dX7_strikeBills_15 5 rfl ?_
    refine g_iconst X dX7_strikeBills_17 (v := (4 : Int32)) ic_4 ?_
    refine g_imul X dX7_strikeBills_18 ?_
    refine g_istore X dX7_strikeBills_19 (by decide) (lv' := [(6, .int (z5 * (4 : Int32))), (0, .ref (be θ + x0)), (1, .int x1), (2, .int x2), (3, .int x3), (4, .int z4), (5, .int z5)]) rfl ?_
    refine g_aload_n X dX7_strikeBills_21 rfl 1 rfl ?_
    refine g_get X fl_RX7_33 dX7_strikeBills_22 h0 (v := .ref (be θ + (x0 + 8))) rfl ?_
    refine g_iload X dX7_strikeBills_25 0 rfl ?_
    obtain ⟨g2, h⟩ := ite_some h
    refine g_iald X (lk7_7 h0).1 (lk7_7 h0).2 (inb_in g2) dX7_strikeBills_27 ?_
    refine g_iload_n X dX7_strikeBills_28 rfl 2 rfl ?_
    refine g_icmp_ne (tgt := 61) X dX7_strikeBills_29 (by decide) (fun c3 => ?_) (fun c3 => ?_)
    · replace h := (if_neg c3).symm.trans h
      refine g_aload_n X dX7_strikeBills_61 rfl 1 rfl ?_
      refine g_get X fl_RX7_33 dX7_strikeBills_62 h0 (v := .ref (be θ + (x0 + 8))) rfl ?_
      refine g_iload X dX7_strikeBills_65 0 rfl ?_
      refine g_aload_n X dX7_strikeBills_67 rfl 1 rfl ?_
      refine g_get X fl_RX7_33 dX7_strikeBills_68 h0 (v := .ref (be θ + (x0 + 8))) rfl ?_
      refine g_iload X dX7_strikeBills_71 5 rfl ?_
      refine g_iconst X dX7_strikeBills_73 (v := (4 : Int32)) ic_4 ?_
      refine g_imul X dX7_strikeBills_74 ?_
      refine g_iconst X dX7_strikeBills_75 (v := (4 : Int32)) ic_4 ?_
      obtain ⟨g4, h⟩ := ite_some h
      obtain ⟨σ5, hσ5, h⟩ := Option.bind_eq_some_iff.mp h
      refine g_cp X lc_RX7_86 (lk7_7 h0).1 (lk7_7 h0).1 (lk7_7 h0).2 (lk7_7 h0).2 (cpyB_ok g4) ⟨(Nat.le_of_ble_eq_true rfl), (Nat.le_of_ble_eq_true rfl)⟩ dX7_strikeBills_76 (Option.some.inj hσ5) ?_
      refine g_iinc X dX7_strikeBills_79 (kq := 5) rfl (congrArg (HAdd.hAdd _) ic_1) (by decide) (lv' := [(4, .int (z4 + (1 : Int32))), (6, .int (z5 * (4 : Int32))), (0, .ref (be θ + x0)), (1, .int x1), (2, .int x2), (3, .int x3), (5, .int z5)]) rfl ?_
      refine g_iinc X dX7_strikeBills_82 (kq := 6) rfl (congrArg (HAdd.hAdd _) ic_1) (by decide) (lv' := [(5, .int (z5 + (1 : Int32))), (4, .int (z4 + (1 : Int32))), (6, .int (z5 * (4 : Int32))), (0, .ref (be θ + x0)), (1, .int x1), (2, .int x2), (3, .int x3)]) rfl ?_
      refine g_goto (tgt := 6) X dX7_strikeBills_85 (by decide) ?_
      have hk := inl_hk h hk
      exact g_sub (lv' := [(0, .ref (be θ + x0)), (1, .int x1), (2, .int x2), (3, .int x3), (4, .int (z4 + (1 : Int32))), (5, .int (z5 + (1 : Int32)))]) [3, 4, 5, 6, 1, 0] rfl hk
    · replace h := (if_pos c3).symm.trans h
      refine g_aload_n X dX7_strikeBills_32 rfl 1 rfl ?_
      refine g_get X fl_RX7_33 dX7_strikeBills_33 h0 (v := .ref (be θ + (x0 + 8))) rfl ?_
      refine g_iload X dX7_strikeBills_36 0 rfl ?_
      refine g_iconst X dX7_strikeBills_38 (v := (1 : Int32)) ic_1 ?_
      refine g_iadd X dX7_strikeBills_39 ?_
      obtain ⟨g6, h⟩ := ite_some h
      refine g_iald X (lk7_7 h0).1 (lk7_7 h0).2 (inb_in g6) dX7_strikeBills_40 ?_
      refine g_iload_n X dX7_strikeBills_41 rfl 3 rfl ?_
      refine g_icmp_ne (tgt := 61) X dX7_strikeBills_42 (by decide) (fun c7 => ?_) (fun c7 => ?_)
      · replace h := (if_neg c7).symm.trans h
        refine g_aload_n X dX7_strikeBills_61 rfl 1 rfl ?_
        refine g_get X fl_RX7_33 dX7_strikeBills_62 h0 (v := .ref (be θ + (x0 + 8))) rfl ?_
        refine g_iload X dX7_strikeBills_65 0 rfl ?_
        refine g_aload_n X dX7_strikeBills_67 rfl 1 rfl ?_
        refine g_get X fl_RX7_33 dX7_strikeBills_68 h0 (v := .ref (be θ + (x0 + 8))) rfl ?_
        refine g_iload X dX7_strikeBills_71 5 rfl ?_
        refine g_iconst X dX7_strikeBills_73 (v := (4 : Int32)) ic_4 ?_
        refine g_imul X dX7_strikeBills_74 ?_
        refine g_iconst X dX7_strikeBills_75 (v := (4 : Int32)) ic_4 ?_
        obtain ⟨g8, h⟩ := ite_some h
        obtain ⟨σ9, hσ9, h⟩ := Option.bind_eq_some_iff.mp h
        refine g_cp X lc_RX7_86 (lk7_7 h0).1 (lk7_7 h0).1 (lk7_7 h0).2 (lk7_7 h0).2 (cpyB_ok g8) ⟨(Nat.le_of_ble_eq_true rfl), (Nat.le_of_ble_eq_true rfl)⟩ dX7_strikeBills_76 (Option.some.inj hσ9) ?_
        refine g_iinc X dX7_strikeBills_79 (kq := 5) rfl (congrArg (HAdd.hAdd _) ic_1) (by decide) (lv' := [(4, .int (z4 + (1 : Int32))), (6, .int (z5 * (4 : Int32))), (0, .ref (be θ + x0)), (1, .int x1), (2, .int x2), (3, .int x3), (5, .int z5)]) rfl ?_
        refine g_iinc X dX7_strikeBills_82 (kq := 6) rfl (congrArg (HAdd.hAdd _) ic_1) (by decide) (lv' := [(5, .int (z5 + (1 : Int32))), (4, .int (z4 + (1 : Int32))), (6, .int (z5 * (4 : Int32))), (0, .ref (be θ + x0)), (1, .int x1), (2, .int x2), (3, .int x3)]) rfl ?_
        refine g_goto (tgt := 6) X dX7_strikeBills_85 (by decide) ?_
        have hk := inl_hk h hk
        exact g_sub (lv' := [(0, .ref (be θ + x0)), (1, .int x1), (2, .int x2), (3, .int x3), (4, .int (z4 + (1 : Int32))), (5, .int (z5 + (1 : Int32)))]) [3, 4, 5, 6, 1, 0] rfl hk
      · replace h := (if_pos c7).symm.trans h
        refine g_aload_n X dX7_strikeBills_45 rfl 1 rfl ?_
        refine g_get X fl_RX7_33 dX7_strikeBills_46 h0 (v := .ref (be θ + (x0 + 8))) rfl ?_
        refine g_iload X dX7_strikeBills_49 0 rfl ?_
        refine g_iconst X dX7_strikeBills_51 (v := (2 : Int32)) ic_2 ?_
        refine g_iadd X dX7_strikeBills_52 ?_
        obtain ⟨g10, h⟩ := ite_some h
        refine g_iald X (lk7_7 h0).1 (lk7_7 h0).2 (inb_in g10) dX7_strikeBills_53 ?_
        refine g_iload_n X dX7_strikeBills_54 rfl 4 rfl ?_
        refine g_icmp_lt (tgt := 61) X dX7_strikeBills_55 (by decide) (fun c11 => ?_) (fun c11 => ?_)
        · replace h := (if_pos c11).symm.trans h
          refine g_aload_n X dX7_strikeBills_61 rfl 1 rfl ?_
          refine g_get X fl_RX7_33 dX7_strikeBills_62 h0 (v := .ref (be θ + (x0 + 8))) rfl ?_
          refine g_iload X dX7_strikeBills_65 0 rfl ?_
          refine g_aload_n X dX7_strikeBills_67 rfl 1 rfl ?_
          refine g_get X fl_RX7_33 dX7_strikeBills_68 h0 (v := .ref (be θ + (x0 + 8))) rfl ?_
          refine g_iload X dX7_strikeBills_71 5 rfl ?_
          refine g_iconst X dX7_strikeBills_73 (v := (4 : Int32)) ic_4 ?_
          refine g_imul X dX7_strikeBills_74 ?_
          refine g_iconst X dX7_strikeBills_75 (v := (4 : Int32)) ic_4 ?_
          obtain ⟨g12, h⟩ := ite_some h
          obtain ⟨σ13, hσ13, h⟩ := Option.bind_eq_some_iff.mp h
          refine g_cp X lc_RX7_86 (lk7_7 h0).1 (lk7_7 h0).1 (lk7_7 h0).2 (lk7_7 h0).2 (cpyB_ok g12) ⟨(Nat.le_of_ble_eq_true rfl), (Nat.le_of_ble_eq_true rfl)⟩ dX7_strikeBills_76 (Option.some.inj hσ13) ?_
          refine g_iinc X dX7_strikeBills_79 (kq := 5) rfl (congrArg (HAdd.hAdd _) ic_1) (by decide) (lv' := [(4, .int (z4 + (1 : Int32))), (6, .int (z5 * (4 : Int32))), (0, .ref (be θ + x0)), (1, .int x1), (2, .int x2), (3, .int x3), (5, .int z5)]) rfl ?_
          refine g_iinc X dX7_strikeBills_82 (kq := 6) rfl (congrArg (HAdd.hAdd _) ic_1) (by decide) (lv' := [(5, .int (z5 + (1 : Int32))), (4, .int (z4 + (1 : Int32))), (6, .int (z5 * (4 : Int32))), (0, .ref (be θ + x0)), (1, .int x1), (2, .int x2), (3, .int x3)]) rfl ?_
          refine g_goto (tgt := 6) X dX7_strikeBills_85 (by decide) ?_
          have hk := inl_hk h hk
          exact g_sub (lv' := [(0, .ref (be θ + x0)), (1, .int x1), (2, .int x2), (3, .int x3), (4, .int (z4 + (1 : Int32))), (5, .int (z5 + (1 : Int32)))]) [3, 4, 5, 6, 1, 0] rfl hk
        · replace h := (if_neg c11).symm.trans h
          refine g_goto (tgt := 82) X dX7_strikeBills_58 (by decide) ?_
          refine g_iinc X dX7_strikeBills_82 (kq := 6) rfl (congrArg (HAdd.hAdd _) ic_1) (by decide) (lv' := [(5, .int (z5 + (1 : Int32))), (6, .int (z5 * (4 : Int32))), (0, .ref (be θ + x0)), (1, .int x1), (2, .int x2), (3, .int x3), (4, .int z4)]) rfl ?_
          refine g_goto (tgt := 6) X dX7_strikeBills_85 (by decide) ?_
          have hk := inl_hk h hk
          exact g_sub (lv' := [(0, .ref (be θ + x0)), (1, .int x1), (2, .int x2), (3, .int x3), (4, .int z4), (5, .int (z5 + (1 : Int32)))]) [2, 3, 4, 5, 6, 0] rfl hk
set_option maxHeartbeats 4000000 in
set_option maxRecDepth 20000 in
theorem gl_State_strikeBills_L6 (X : Cx θ p s m args c cX7_strikeBills 7 RX7) (hr : meth.sig.returnType = some .int) (hlk : meth.locks = false)  {x0 : Nat} {x1 : Int32} {x2 : Int32} {x3 : Int32} {r : Int32 × Mem} (h0 : kd x0 = 8) (n : Nat) (a : Mem × Int32 × Int32) (b : Int32 × Mem) (h : loopF (f_State_strikeBills_L6 x0 x1 x2 x3) n a = some b) (hk : (fun b => b = r) b) : (fun a => @Prod.casesOn (Mem) (Int32 × Int32) (fun _ => Prop) a fun τ b0 => @Prod.casesOn (Int32) (Int32) (fun _ => Prop) b0 fun z4 z5 => GB θ p l e 1 s m args below meth c 7 (some (.int r.1), r.2) 6 [(0, .ref (be θ + x0)), (1, .int x1), (2, .int x2), (3, .int x3), (4, .int z4), (5, .int z5)] [] τ) a :=
  loopF_by (P := (fun a => @Prod.casesOn (Mem) (Int32 × Int32) (fun _ => Prop) a fun τ b0 => @Prod.casesOn (Int32) (Int32) (fun _ => Prop) b0 fun z4 z5 => GB θ p l e 1 s m args below meth c 7 (some (.int r.1), r.2) 6 [(0, .ref (be θ + x0)), (1, .int x1), (2, .int x2), (3, .int x3), (4, .int z4), (5, .int z5)] [] τ)) (K := (fun b => b = r)) (fun a x h hk => by obtain ⟨τ, z4, z5⟩ := a; exact gs_State_strikeBills_L6 X hr hlk  h0 τ z4 z5 x h hk) n a b h hk
set_option maxHeartbeats 4000000 in
set_option maxRecDepth 20000 in
theorem g_State_strikeBills (X : Cx θ p s m args c cX7_strikeBills 7 RX7) (hr : meth.sig.returnType = some .int) (hlk : meth.locks = false)  {σ : Mem} {x0 : Nat} {x1 : Int32} {x2 : Int32} {x3 : Int32} {r : Int32 × Mem} (h0 : kd x0 = 8) (h : f_State_strikeBills σ x0 x1 x2 x3 = some r) : GB θ p l e 1 s m args below meth c 7 (some (.int r.1), r.2) 0 [(0, .ref (be θ + x0)), (1, .int x1), (2, .int x2), (3, .int x3)] [] σ := by
  unfold f_State_strikeBills at h
  refine g_iconst X dX7_strikeBills_0 (v := (0 : Int32)) ic_0 ?_
  refine g_istore X dX7_strikeBills_1 (by decide) (lv' := [(4, .int (0 : Int32)), (0, .ref (be θ + x0)), (1, .int x1), (2, .int x2), (3, .int x3)]) rfl ?_
  refine g_iconst X dX7_strikeBills_3 (v := (0 : Int32)) ic_0 ?_
  refine g_istore X dX7_strikeBills_4 (by decide) (lv' := [(5, .int (0 : Int32)), (4, .int (0 : Int32)), (0, .ref (be θ + x0)), (1, .int x1), (2, .int x2), (3, .int x3)]) rfl ?_
  exact g_sub (lv' := [(0, .ref (be θ + x0)), (1, .int x1), (2, .int x2), (3, .int x3), (4, .int (0 : Int32)), (5, .int (0 : Int32))]) [2, 3, 4, 5, 1, 0] rfl (gl_State_strikeBills_L6 X hr hlk  h0  FU _ _ h rfl)
set_option maxHeartbeats 4000000 in
set_option maxRecDepth 20000 in
theorem c_State_strikeBills {θ : Th} {l : Launch} {σ : Mem} {x0 : Nat} {x1 : Int32} {x2 : Int32} {x3 : Int32} {r : Int32 × Mem} (h0 : kd x0 = 8) (h : f_State_strikeBills σ x0 x1 x2 x3 = some r) : Cn θ l yX7_strikeBills cX7_strikeBills 7 (some .int) 1 0 0 [.ref (be θ + x0), .int x1, .int x2, .int x3] σ (some (.int r.1), r.2) :=
  Cn.of (by decide) (Nat.le_of_ble_eq_true rfl) (fun p e s m below meth c X hr hlk => g_State_strikeBills X hr hlk h0 h)
theorem dX9_purchase_0 : decode cX9_purchase 0 = .ok (.aload_n 1, 1) := by decide +kernel
theorem dX9_purchase_1 : decode cX9_purchase 1 = .ok (.getfield 98, 3) := by decide +kernel
theorem dX9_purchase_4 : decode cX9_purchase 4 = .ok (.iload_n 2, 1) := by decide +kernel
theorem dX9_purchase_5 : decode cX9_purchase 5 = .ok (.iaload, 1) := by decide +kernel
theorem dX9_purchase_6 : decode cX9_purchase 6 = .ok (.istore_n 3, 1) := by decide +kernel
theorem dX9_purchase_7 : decode cX9_purchase 7 = .ok (.aload_n 1, 1) := by decide +kernel
theorem dX9_purchase_8 : decode cX9_purchase 8 = .ok (.getfield 51, 3) := by decide +kernel
theorem dX9_purchase_11 : decode cX9_purchase 11 = .ok (.iload_n 2, 1) := by decide +kernel
theorem dX9_purchase_12 : decode cX9_purchase 12 = .ok (.dup2, 1) := by decide +kernel
theorem dX9_purchase_13 : decode cX9_purchase 13 = .ok (.iaload, 1) := by decide +kernel
theorem dX9_purchase_14 : decode cX9_purchase 14 = .ok (.aload_n 0, 1) := by decide +kernel
theorem dX9_purchase_15 : decode cX9_purchase 15 = .ok (.getfield 24, 3) := by decide +kernel
theorem dX9_purchase_18 : decode cX9_purchase 18 = .ok (.iload_n 3, 1) := by decide +kernel
theorem dX9_purchase_19 : decode cX9_purchase 19 = .ok (.invokevirtual 47, 3) := by decide +kernel
theorem dX9_purchase_22 : decode cX9_purchase 22 = .ok (.isub, 1) := by decide +kernel
theorem dX9_purchase_23 : decode cX9_purchase 23 = .ok (.iastore, 1) := by decide +kernel
theorem dX9_purchase_24 : decode cX9_purchase 24 = .ok (.aload_n 1, 1) := by decide +kernel
theorem dX9_purchase_25 : decode cX9_purchase 25 = .ok (.getfield 159, 3) := by decide +kernel
theorem dX9_purchase_28 : decode cX9_purchase 28 = .ok (.iload_n 3, 1) := by decide +kernel
theorem dX9_purchase_29 : decode cX9_purchase 29 = .ok (.iconst 1, 1) := by decide +kernel
theorem dX9_purchase_30 : decode cX9_purchase 30 = .ok (.iastore, 1) := by decide +kernel
theorem dX9_purchase_31 : decode cX9_purchase 31 = .ok (.aload_n 1, 1) := by decide +kernel
theorem dX9_purchase_32 : decode cX9_purchase 32 = .ok (.getfield 145, 3) := by decide +kernel
theorem dX9_purchase_35 : decode cX9_purchase 35 = .ok (.iload_n 3, 1) := by decide +kernel
theorem dX9_purchase_36 : decode cX9_purchase 36 = .ok (.iconst 0, 1) := by decide +kernel
theorem dX9_purchase_37 : decode cX9_purchase 37 = .ok (.iastore, 1) := by decide +kernel
theorem dX9_purchase_38 : decode cX9_purchase 38 = .ok (.aload_n 1, 1) := by decide +kernel
theorem dX9_purchase_39 : decode cX9_purchase 39 = .ok (.getfield 98, 3) := by decide +kernel
theorem dX9_purchase_42 : decode cX9_purchase 42 = .ok (.iload_n 2, 1) := by decide +kernel
theorem dX9_purchase_43 : decode cX9_purchase 43 = .ok (.iconst (-1), 1) := by decide +kernel
theorem dX9_purchase_44 : decode cX9_purchase 44 = .ok (.iastore, 1) := by decide +kernel
theorem dX9_purchase_45 : decode cX9_purchase 45 = .ok (.aload_n 1, 1) := by decide +kernel
theorem dX9_purchase_46 : decode cX9_purchase 46 = .ok (.iload_n 2, 1) := by decide +kernel
theorem dX9_purchase_47 : decode cX9_purchase 47 = .ok (.iload_n 3, 1) := by decide +kernel
theorem dX9_purchase_48 : decode cX9_purchase 48 = .ok (.aload_n 1, 1) := by decide +kernel
theorem dX9_purchase_49 : decode cX9_purchase 49 = .ok (.getfield 57, 3) := by decide +kernel
theorem dX9_purchase_52 : decode cX9_purchase 52 = .ok (.aload_n 0, 1) := by decide +kernel
theorem dX9_purchase_53 : decode cX9_purchase 53 = .ok (.getfield 24, 3) := by decide +kernel
theorem dX9_purchase_56 : decode cX9_purchase 56 = .ok (.invokevirtual 162, 3) := by decide +kernel
theorem dX9_purchase_59 : decode cX9_purchase 59 = .ok (.isub, 1) := by decide +kernel
theorem dX9_purchase_60 : decode cX9_purchase 60 = .ok (.invokevirtual 166, 3) := by decide +kernel
theorem dX9_purchase_63 : decode cX9_purchase 63 = .ok (.ireturn, 1) := by decide +kernel
def f_Trade_purchase (σ : Mem) (x1 : Nat) (x2 : Int32) : Option (Int32 × Mem) :=
  if inb x2 6 then
    if kd (mR σ 428 1) = 2 then
      (f_City_priceOf σ (mR σ 428 1) (mI σ (x1 + 5) x2.toNatClampNeg)).bind fun q3 =>
      if inb (mI σ (x1 + 5) x2.toNatClampNeg) 8 then
        (f_City_hoursToComeBack (sI (sI (sI (sI σ (x1 + 6) x2.toNatClampNeg ((mI σ (x1 + 6) x2.toNatClampNeg) - q3)) (x1 + 2) (mI σ (x1 + 5) x2.toNatClampNeg).toNatClampNeg (1 : Int32)) (x1 + 3) (mI σ (x1 + 5) x2.toNatClampNeg).toNatClampNeg (0 : Int32)) (x1 + 5) x2.toNatClampNeg (-1 : Int32)) (mR σ 428 1)).bind fun q5 =>
        (f_State_strikeBills (sI (sI (sI (sI σ (x1 + 6) x2.toNatClampNeg ((mI σ (x1 + 6) x2.toNatClampNeg) - q3)) (x1 + 2) (mI σ (x1 + 5) x2.toNatClampNeg).toNatClampNeg (1 : Int32)) (x1 + 3) (mI σ (x1 + 5) x2.toNatClampNeg).toNatClampNeg (0 : Int32)) (x1 + 5) x2.toNatClampNeg (-1 : Int32)) x1 x2 (mI σ (x1 + 5) x2.toNatClampNeg) ((mI (sI (sI (sI (sI σ (x1 + 6) x2.toNatClampNeg ((mI σ (x1 + 6) x2.toNatClampNeg) - q3)) (x1 + 2) (mI σ (x1 + 5) x2.toNatClampNeg).toNatClampNeg (1 : Int32)) (x1 + 3) (mI σ (x1 + 5) x2.toNatClampNeg).toNatClampNeg (0 : Int32)) (x1 + 5) x2.toNatClampNeg (-1 : Int32)) x1 14) - q5)).bind fun q6 =>
        some (q6.1, q6.2)
      else none
    else none
  else none
set_option maxHeartbeats 4000000 in
set_option maxRecDepth 20000 in
theorem g_Trade_purchase (X : Cx θ p s m args c cX9_purchase 4 RX9) (hr : meth.sig.returnType = some .int) (hlk : meth.locks = false)  {σ : Mem} {x1 : Nat} {x2 : Int32} {r : Int32 × Mem} (h1 : kd x1 = 8) (h : f_Trade_purchase σ x1 x2 = some r) : GB θ p l e 2 s m args below meth c 4 (some (.int r.1), r.2) 0 [(0, .ref (be θ + 428)), (1, .ref (be θ + x1)), (2, .int x2)] [] σ := by
  unfold f_Trade_purchase at h
  refine g_aload_n X dX9_purchase_0 rfl 1 rfl ?_
  refine g_get X fl_RX9_98 dX9_purchase_1 h1 (v := .ref (be θ + (x1 + 5))) rfl ?_
  refine g_iload_n X dX9_purchase_4 rfl 2 rfl ?_
  obtain ⟨g1, h⟩ := ite_some h
  refine g_iald X (lk7_4 h1).1 (lk7_4 h1).2 (inb_in g1) dX9_purchase_5 ?_
  refine g_istore_n X dX9_purchase_6 rfl (by decide) (lv' := [(3, .int (mI σ (x1 + 5) x2.toNatClampNeg)), (0, .ref (be θ + 428)), (1, .ref (be θ + x1)), (2, .int x2)]) rfl ?_
  refine g_aload_n X dX9_purchase_7 rfl 2 rfl ?_
  refine g_get X fl_RX9_51 dX9_purchase_8 h1 (v := .ref (be θ + (x1 + 6))) rfl ?_
  refine g_iload_n X dX9_purchase_11 rfl 3 rfl ?_
  refine g_dup2 X dX9_purchase_12 rfl rfl ?_
  refine g_iald X (lk7_5 h1).1 (lk7_5 h1).2 (inb_in g1) dX9_purchase_13 ?_
  refine g_aload_n X dX9_purchase_14 rfl 1 rfl ?_
  refine g_get X fl_RX9_24 dX9_purchase_15 kd_428 (v := rv (be θ) (mR σ 428 1)) rfl ?_
  refine g_iload_n X dX9_purchase_18 rfl 0 rfl ?_
  obtain ⟨g2, h⟩ := ite_some h
  rw [← rv_of (β := be θ) g2 (by decide)]
  obtain ⟨q3, hq3, h⟩ := Option.bind_eq_some_iff.mp h
  refine g_cV X (c_City_priceOf g2 hq3) lk_RX9_47 my_X1_priceOf (a := (mR σ 428 1)) (ci := 1) g2 (by decide) rfl (As := [.int (mI σ (x1 + 5) x2.toNatClampNeg)]) (rest := [.int (mI σ (x1 + 6) x2.toNatClampNeg), .int x2, .ref (be θ + (x1 + 6))]) rfl rfl (Nat.le_of_ble_eq_true rfl) ⟨(Nat.le_of_ble_eq_true rfl), (Nat.le_of_ble_eq_true rfl)⟩ ⟨(Nat.le_of_ble_eq_true rfl), (Nat.le_of_ble_eq_true rfl)⟩ dX9_purchase_19 (st' := [.int q3, .int (mI σ (x1 + 6) x2.toNatClampNeg), .int x2, .ref (be θ + (x1 + 6))]) (σ' := σ) rfl rfl ?_
  refine g_isub X dX9_purchase_22 ?_
  refine g_iast X (lk7_5 h1).1 (lk7_5 h1).2 (inb_in g1) dX9_purchase_23 ?_
  refine g_aload_n X dX9_purchase_24 rfl 2 rfl ?_
  refine g_get X fl_RX9_159 dX9_purchase_25 h1 (v := .ref (be θ + (x1 + 2))) rfl ?_
  refine g_iload_n X dX9_purchase_28 rfl 0 rfl ?_
  refine g_iconst X dX9_purchase_29 (v := (1 : Int32)) ic_1 ?_
  obtain ⟨g4, h⟩ := ite_some h
  refine g_iast X (lk7_1 h1).1 (lk7_1 h1).2 (inb_in g4) dX9_purchase_30 ?_
  refine g_aload_n X dX9_purchase_31 rfl 2 rfl ?_
  refine g_get X fl_RX9_145 dX9_purchase_32 h1 (v := .ref (be θ + (x1 + 3))) rfl ?_
  refine g_iload_n X dX9_purchase_35 rfl 0 rfl ?_
  refine g_iconst X dX9_purchase_36 (v := (0 : Int32)) ic_0 ?_
  refine g_iast X (lk7_2 h1).1 (lk7_2 h1).2 (inb_in g4) dX9_purchase_37 ?_
  refine g_aload_n X dX9_purchase_38 rfl 2 rfl ?_
  refine g_get X fl_RX9_98 dX9_purchase_39 h1 (v := .ref (be θ + (x1 + 5))) rfl ?_
  refine g_iload_n X dX9_purchase_42 rfl 3 rfl ?_
  refine g_iconst X dX9_purchase_43 (v := (-1 : Int32)) ic_m1 ?_
  refine g_iast X (lk7_4 h1).1 (lk7_4 h1).2 (inb_in g1) dX9_purchase_44 ?_
  refine g_aload_n X dX9_purchase_45 rfl 2 rfl ?_
  refine g_iload_n X dX9_purchase_46 rfl 3 rfl ?_
  refine g_iload_n X dX9_purchase_47 rfl 0 rfl ?_
  refine g_aload_n X dX9_purchase_48 rfl 2 rfl ?_
  refine g_get X fl_RX9_57 dX9_purchase_49 h1 (v := .int (mI (sI (sI (sI (sI σ (x1 + 6) x2.toNatClampNeg ((mI σ (x1 + 6) x2.toNatClampNeg) - q3)) (x1 + 2) (mI σ (x1 + 5) x2.toNatClampNeg).toNatClampNeg (1 : Int32)) (x1 + 3) (mI σ (x1 + 5) x2.toNatClampNeg).toNatClampNeg (0 : Int32)) (x1 + 5) x2.toNatClampNeg (-1 : Int32)) x1 14)) rfl ?_
  refine g_aload_n X dX9_purchase_52 rfl 1 rfl ?_
  refine g_get X fl_RX9_24 dX9_purchase_53 kd_428 (v := rv (be θ) (mR σ 428 1)) rfl ?_
  rw [← rv_of (β := be θ) g2 (by decide)]
  obtain ⟨q5, hq5, h⟩ := Option.bind_eq_some_iff.mp h
  refine g_cV X (c_City_hoursToComeBack g2 hq5) lk_RX9_162 my_X1_hoursToComeBack (a := (mR σ 428 1)) (ci := 1) g2 (by decide) rfl (As := []) (rest := [.int (mI (sI (sI (sI (sI σ (x1 + 6) x2.toNatClampNeg ((mI σ (x1 + 6) x2.toNatClampNeg) - q3)) (x1 + 2) (mI σ (x1 + 5) x2.toNatClampNeg).toNatClampNeg (1 : Int32)) (x1 + 3) (mI σ (x1 + 5) x2.toNatClampNeg).toNatClampNeg (0 : Int32)) (x1 + 5) x2.toNatClampNeg (-1 : Int32)) x1 14), .int (mI σ (x1 + 5) x2.toNatClampNeg), .int x2, .ref (be θ + x1)]) rfl rfl (Nat.le_of_ble_eq_true rfl) ⟨(Nat.le_of_ble_eq_true rfl), (Nat.le_of_ble_eq_true rfl)⟩ ⟨(Nat.le_of_ble_eq_true rfl), (Nat.le_of_ble_eq_true rfl)⟩ dX9_purchase_56 (st' := [.int q5, .int (mI (sI (sI (sI (sI σ (x1 + 6) x2.toNatClampNeg ((mI σ (x1 + 6) x2.toNatClampNeg) - q3)) (x1 + 2) (mI σ (x1 + 5) x2.toNatClampNeg).toNatClampNeg (1 : Int32)) (x1 + 3) (mI σ (x1 + 5) x2.toNatClampNeg).toNatClampNeg (0 : Int32)) (x1 + 5) x2.toNatClampNeg (-1 : Int32)) x1 14), .int (mI σ (x1 + 5) x2.toNatClampNeg), .int x2, .ref (be θ + x1)]) (σ' := (sI (sI (sI (sI σ (x1 + 6) x2.toNatClampNeg ((mI σ (x1 + 6) x2.toNatClampNeg) - q3)) (x1 + 2) (mI σ (x1 + 5) x2.toNatClampNeg).toNatClampNeg (1 : Int32)) (x1 + 3) (mI σ (x1 + 5) x2.toNatClampNeg).toNatClampNeg (0 : Int32)) (x1 + 5) x2.toNatClampNeg (-1 : Int32))) rfl rfl ?_
  refine g_isub X dX9_purchase_59 ?_
  obtain ⟨q6, hq6, h⟩ := Option.bind_eq_some_iff.mp h
  refine g_cV X (c_State_strikeBills h1 hq6) lk_RX9_166 my_X7_strikeBills (a := x1) (ci := 7) h1 (by decide) rfl (As := [.int x2, .int (mI σ (x1 + 5) x2.toNatClampNeg), .int ((mI (sI (sI (sI (sI σ (x1 + 6) x2.toNatClampNeg ((mI σ (x1 + 6) x2.toNatClampNeg) - q3)) (x1 + 2) (mI σ (x1 + 5) x2.toNatClampNeg).toNatClampNeg (1 : Int32)) (x1 + 3) (mI σ (x1 + 5) x2.toNatClampNeg).toNatClampNeg (0 : Int32)) (x1 + 5) x2.toNatClampNeg (-1 : Int32)) x1 14) - q5)]) (rest := []) rfl rfl (Nat.le_of_ble_eq_true rfl) ⟨(Nat.le_of_ble_eq_true rfl), (Nat.le_of_ble_eq_true rfl)⟩ ⟨(Nat.le_of_ble_eq_true rfl), (Nat.le_of_ble_eq_true rfl)⟩ dX9_purchase_60 (st' := [.int q6.1]) (σ' := q6.2) rfl rfl ?_
  exact g_iret X hr hlk dX9_purchase_63 (by cases h; rfl)
set_option maxHeartbeats 4000000 in
set_option maxRecDepth 20000 in
theorem c_Trade_purchase {θ : Th} {l : Launch} {σ : Mem} {x1 : Nat} {x2 : Int32} {r : Int32 × Mem} (h1 : kd x1 = 8) (h : f_Trade_purchase σ x1 x2 = some r) : Cn θ l yX9_purchase cX9_purchase 4 (some .int) 2 0 0 [.ref (be θ + 428), .ref (be θ + x1), .int x2] σ (some (.int r.1), r.2) :=
  Cn.of (by decide) (Nat.le_of_ble_eq_true rfl) (fun p e s m below meth c X hr hlk => g_Trade_purchase X hr hlk h1 h)
theorem dX9_looksAway_0 : decode cX9_looksAway 0 = .ok (.aload_n 1, 1) := by decide +kernel
theorem dX9_looksAway_1 : decode cX9_looksAway 1 = .ok (.getfield 79, 3) := by decide +kernel
theorem dX9_looksAway_4 : decode cX9_looksAway 4 = .ok (.iload_n 2, 1) := by decide +kernel
theorem dX9_looksAway_5 : decode cX9_looksAway 5 = .ok (.ishr, 1) := by decide +kernel
theorem dX9_looksAway_6 : decode cX9_looksAway 6 = .ok (.iconst 1, 1) := by decide +kernel
theorem dX9_looksAway_7 : decode cX9_looksAway 7 = .ok (.iand, 1) := by decide +kernel
theorem dX9_looksAway_8 : decode cX9_looksAway 8 = .ok (.iconst 1, 1) := by decide +kernel
theorem dX9_looksAway_9 : decode cX9_looksAway 9 = .ok (.if_icmp .ne 7, 3) := by decide +kernel
theorem dX9_looksAway_12 : decode cX9_looksAway 12 = .ok (.iconst 1, 1) := by decide +kernel
theorem dX9_looksAway_13 : decode cX9_looksAway 13 = .ok (.goto 4, 3) := by decide +kernel
theorem dX9_looksAway_16 : decode cX9_looksAway 16 = .ok (.iconst 0, 1) := by decide +kernel
theorem dX9_looksAway_17 : decode cX9_looksAway 17 = .ok (.ireturn, 1) := by decide +kernel
def f_Trade_looksAway (σ : Mem) (x1 : Nat) (x2 : Int32) : Option (Int32) :=
  if (((mI σ x1 12) >>> (x2 &&& 31)) &&& (1 : Int32)) = (1 : Int32) then
    some (1 : Int32)
  else
    some (0 : Int32)
set_option maxHeartbeats 4000000 in
set_option maxRecDepth 20000 in
theorem g_Trade_looksAway (X : Cx θ p s m args c cX9_looksAway 3 RX9) (hr : meth.sig.returnType = some .boolean) (hlk : meth.locks = false)  {σ : Mem} {x1 : Nat} {x2 : Int32} {r : Int32} (h1 : kd x1 = 8) (h : f_Trade_looksAway σ x1 x2 = some r) : GB θ p l e 0 s m args below meth c 3 (some (.int r), σ) 0 [(0, .ref (be θ + 428)), (1, .ref (be θ + x1)), (2, .int x2)] [] σ := by
  unfold f_Trade_looksAway at h
  refine g_aload_n X dX9_looksAway_0 rfl 1 rfl ?_
  refine g_get X fl_RX9_79 dX9_looksAway_1 h1 (v := .int (mI σ x1 12)) rfl ?_
  refine g_iload_n X dX9_looksAway_4 rfl 2 rfl ?_
  refine g_ishr X dX9_looksAway_5 ?_
  refine g_iconst X dX9_looksAway_6 (v := (1 : Int32)) ic_1 ?_
  refine g_iand X dX9_looksAway_7 ?_
  refine g_iconst X dX9_looksAway_8 (v := (1 : Int32)) ic_1 ?_
  refine g_icmp_ne (tgt := 16) X dX9_looksAway_9 (by decide) (fun c1 => ?_) (fun c1 => ?_)
  · replace h := (if_neg c1).symm.trans h
    refine g_iconst X dX9_looksAway_16 (v := (0 : Int32)) ic_0 ?_
    exact g_zret X hr hlk bz0 dX9_looksAway_17 (by cases h; rfl)
  · replace h := (if_pos c1).symm.trans h
    refine g_iconst X dX9_looksAway_12 (v := (1 : Int32)) ic_1 ?_
    refine g_goto (tgt := 17) X dX9_looksAway_13 (by decide) ?_
    exact g_zret X hr hlk bz1 dX9_looksAway_17 (by cases h; rfl)
set_option maxHeartbeats 4000000 in
set_option maxRecDepth 20000 in
theorem c_Trade_looksAway {θ : Th} {l : Launch} {σ : Mem} {x1 : Nat} {x2 : Int32} {r : Int32} (h1 : kd x1 = 8) (h : f_Trade_looksAway σ x1 x2 = some r) : Cn θ l yX9_looksAway cX9_looksAway 3 (some .boolean) 0 0 0 [.ref (be θ + 428), .ref (be θ + x1), .int x2] σ (some (.int r), σ) :=
  Cn.of (by decide) (Nat.le_of_ble_eq_true rfl) (fun p e s m below meth c X hr hlk => g_Trade_looksAway X hr hlk h1 h)
theorem dX7_writeBill_0 : decode cX7_writeBill 0 = .ok (.aload_n 0, 1) := by decide +kernel
theorem dX7_writeBill_1 : decode cX7_writeBill 1 = .ok (.getfield 39, 3) := by decide +kernel
theorem dX7_writeBill_4 : decode cX7_writeBill 4 = .ok (.bipush 24, 2) := by decide +kernel
theorem dX7_writeBill_6 : decode cX7_writeBill 6 = .ok (.if_icmp .lt 24, 3) := by decide +kernel
theorem dX7_writeBill_9 : decode cX7_writeBill 9 = .ok (.aload_n 0, 1) := by decide +kernel
theorem dX7_writeBill_10 : decode cX7_writeBill 10 = .ok (.getfield 33, 3) := by decide +kernel
theorem dX7_writeBill_13 : decode cX7_writeBill 13 = .ok (.iconst 4, 1) := by decide +kernel
theorem dX7_writeBill_14 : decode cX7_writeBill 14 = .ok (.aload_n 0, 1) := by decide +kernel
theorem dX7_writeBill_15 : decode cX7_writeBill 15 = .ok (.getfield 33, 3) := by decide +kernel
theorem dX7_writeBill_18 : decode cX7_writeBill 18 = .ok (.iconst 0, 1) := by decide +kernel
theorem dX7_writeBill_19 : decode cX7_writeBill 19 = .ok (.bipush 92, 2) := by decide +kernel
theorem dX7_writeBill_21 : decode cX7_writeBill 21 = .ok (.invokestatic 86, 3) := by decide +kernel
theorem dX7_writeBill_24 : decode cX7_writeBill 24 = .ok (.aload_n 0, 1) := by decide +kernel
theorem dX7_writeBill_25 : decode cX7_writeBill 25 = .ok (.bipush 23, 2) := by decide +kernel
theorem dX7_writeBill_27 : decode cX7_writeBill 27 = .ok (.putfield 39, 3) := by decide +kernel
theorem dX7_writeBill_30 : decode cX7_writeBill 30 = .ok (.aload_n 0, 1) := by decide +kernel
theorem dX7_writeBill_31 : decode cX7_writeBill 31 = .ok (.getfield 39, 3) := by decide +kernel
theorem dX7_writeBill_34 : decode cX7_writeBill 34 = .ok (.iconst 4, 1) := by decide +kernel
theorem dX7_writeBill_35 : decode cX7_writeBill 35 = .ok (.imul, 1) := by decide +kernel
theorem dX7_writeBill_36 : decode cX7_writeBill 36 = .ok (.istore 4, 2) := by decide +kernel
theorem dX7_writeBill_38 : decode cX7_writeBill 38 = .ok (.aload_n 0, 1) := by decide +kernel
theorem dX7_writeBill_39 : decode cX7_writeBill 39 = .ok (.getfield 33, 3) := by decide +kernel
theorem dX7_writeBill_42 : decode cX7_writeBill 42 = .ok (.iload 4, 2) := by decide +kernel
theorem dX7_writeBill_44 : decode cX7_writeBill 44 = .ok (.iload_n 1, 1) := by decide +kernel
theorem dX7_writeBill_45 : decode cX7_writeBill 45 = .ok (.iastore, 1) := by decide +kernel
theorem dX7_writeBill_46 : decode cX7_writeBill 46 = .ok (.aload_n 0, 1) := by decide +kernel
theorem dX7_writeBill_47 : decode cX7_writeBill 47 = .ok (.getfield 33, 3) := by decide +kernel
theorem dX7_writeBill_50 : decode cX7_writeBill 50 = .ok (.iload 4, 2) := by decide +kernel
theorem dX7_writeBill_52 : decode cX7_writeBill 52 = .ok (.iconst 1, 1) := by decide +kernel
theorem dX7_writeBill_53 : decode cX7_writeBill 53 = .ok (.iadd, 1) := by decide +kernel
theorem dX7_writeBill_54 : decode cX7_writeBill 54 = .ok (.iload_n 2, 1) := by decide +kernel
theorem dX7_writeBill_55 : decode cX7_writeBill 55 = .ok (.iastore, 1) := by decide +kernel
theorem dX7_writeBill_56 : decode cX7_writeBill 56 = .ok (.aload_n 0, 1) := by decide +kernel
theorem dX7_writeBill_57 : decode cX7_writeBill 57 = .ok (.getfield 33, 3) := by decide +kernel
theorem dX7_writeBill_60 : decode cX7_writeBill 60 = .ok (.iload 4, 2) := by decide +kernel
theorem dX7_writeBill_62 : decode cX7_writeBill 62 = .ok (.iconst 2, 1) := by decide +kernel
theorem dX7_writeBill_63 : decode cX7_writeBill 63 = .ok (.iadd, 1) := by decide +kernel
theorem dX7_writeBill_64 : decode cX7_writeBill 64 = .ok (.aload_n 0, 1) := by decide +kernel
theorem dX7_writeBill_65 : decode cX7_writeBill 65 = .ok (.getfield 55, 3) := by decide +kernel
theorem dX7_writeBill_68 : decode cX7_writeBill 68 = .ok (.iastore, 1) := by decide +kernel
theorem dX7_writeBill_69 : decode cX7_writeBill 69 = .ok (.aload_n 0, 1) := by decide +kernel
theorem dX7_writeBill_70 : decode cX7_writeBill 70 = .ok (.getfield 33, 3) := by decide +kernel
theorem dX7_writeBill_73 : decode cX7_writeBill 73 = .ok (.iload 4, 2) := by decide +kernel
theorem dX7_writeBill_75 : decode cX7_writeBill 75 = .ok (.iconst 3, 1) := by decide +kernel
theorem dX7_writeBill_76 : decode cX7_writeBill 76 = .ok (.iadd, 1) := by decide +kernel
theorem dX7_writeBill_77 : decode cX7_writeBill 77 = .ok (.iload_n 3, 1) := by decide +kernel
theorem dX7_writeBill_78 : decode cX7_writeBill 78 = .ok (.iastore, 1) := by decide +kernel
theorem dX7_writeBill_79 : decode cX7_writeBill 79 = .ok (.aload_n 0, 1) := by decide +kernel
theorem dX7_writeBill_80 : decode cX7_writeBill 80 = .ok (.dup, 1) := by decide +kernel
theorem dX7_writeBill_81 : decode cX7_writeBill 81 = .ok (.getfield 39, 3) := by decide +kernel
theorem dX7_writeBill_84 : decode cX7_writeBill 84 = .ok (.iconst 1, 1) := by decide +kernel
theorem dX7_writeBill_85 : decode cX7_writeBill 85 = .ok (.iadd, 1) := by decide +kernel
theorem dX7_writeBill_86 : decode cX7_writeBill 86 = .ok (.putfield 39, 3) := by decide +kernel
theorem dX7_writeBill_89 : decode cX7_writeBill 89 = .ok (.return_, 1) := by decide +kernel
def f_State_writeBill_J30 (σ : Mem) (x0 : Nat) (x1 : Int32) (x2 : Int32) (x3 : Int32) : Option (Mem) :=
  if inb ((mI σ x0 9) * (4 : Int32)) 96 then
    if inb (((mI σ x0 9) * (4 : Int32)) + (1 : Int32)) 96 then
      if inb (((mI σ x0 9) * (4 : Int32)) + (2 : Int32)) 96 then
        if inb (((mI σ x0 9) * (4 : Int32)) + (3 : Int32)) 96 then
          some (sI (sI (sI (sI (sI σ (x0 + 8) ((mI σ x0 9) * (4 : Int32)).toNatClampNeg x1) (x0 + 8) (((mI σ x0 9) * (4 : Int32)) + (1 : Int32)).toNatClampNeg x2) (x0 + 8) (((mI σ x0 9) * (4 : Int32)) + (2 : Int32)).toNatClampNeg (mI (sI (sI σ (x0 + 8) ((mI σ x0 9) * (4 : Int32)).toNatClampNeg x1) (x0 + 8) (((mI σ x0 9) * (4 : Int32)) + (1 : Int32)).toNatClampNeg x2) x0 14)) (x0 + 8) (((mI σ x0 9) * (4 : Int32)) + (3 : Int32)).toNatClampNeg x3) x0 9 ((mI (sI (sI (sI (sI σ (x0 + 8) ((mI σ x0 9) * (4 : Int32)).toNatClampNeg x1) (x0 + 8) (((mI σ x0 9) * (4 : Int32)) + (1 : Int32)).toNatClampNeg x2) (x0 + 8) (((mI σ x0 9) * (4 : Int32)) + (2 : Int32)).toNatClampNeg (mI (sI (sI σ (x0 + 8) ((mI σ x0 9) * (4 : Int32)).toNatClampNeg x1) (x0 + 8) (((mI σ x0 9) * (4 : Int32)) + (1 : Int32)).toNatClampNeg x2) x0 14)) (x0 + 8) (((mI σ x0 9) * (4 : Int32)) + (3 : Int32)).toNatClampNeg x3) x0 9) + (1 : Int32)))
        else none
      else none
    else none
  else none
def f_State_writeBill (σ : Mem) (x0 : Nat) (x1 : Int32) (x2 : Int32) (x3 : Int32) : Option (Mem) :=
  if (mI σ x0 9) < (24 : Int32) then
    f_State_writeBill_J30 σ x0 x1 x2 x3
  else
    if cpyB 96 96 (4 : Int32) (0 : Int32) (92 : Int32) then
      (some (rI σ (x0 + 8) (cpyM (mI σ (x0 + 8)) (mI σ (x0 + 8)) (4 : Int32) (0 : Int32) (92 : Int32)))).bind fun σ7 =>
      f_State_writeBill_J30 (sI σ7 x0 9 (23 : Int32)) x0 x1 x2 x3
    else none
set_option maxHeartbeats 4000000 in
set_option maxRecDepth 20000 in
theorem g_State_writeBill_J30 (X : Cx θ p s m args c cX7_writeBill 5 RX7) (hr : meth.sig.returnType = none) (hlk : meth.locks = false)  {σ : Mem} {x0 : Nat} {x1 : Int32} {x2 : Int32} {x3 : Int32} {r : Mem} (h0 : kd x0 = 8) (h : f_State_writeBill_J30 σ x0 x1 x2 x3 = some r) : GB θ p l e 1 s m args below meth c 5 (none, r) 30 [(0, .ref (be θ + x0)), (1, .int x1), (2, .int x2), (3, .int x3)] [] σ := by
  unfold f_State_writeBill_J30 at h
  refine g_aload_n X dX7_writeBill_30 rfl 0 rfl ?_
  refine g_get X fl_RX7_39 dX7_writeBill_31 h0 (v := .int (mI σ x0 9)) rfl ?_
  refine g_iconst X dX7_writeBill_34 (v := (4 : Int32)) ic_4 ?_
  refine g_imul X dX7_writeBill_35 ?_
  refine g_istore X dX7_writeBill_36 (by decide) (lv' := [(4, .int ((mI σ x0 9) * (4 : Int32))), (0, .ref (be θ + x0)), (1, .int x1), (2, .int x2), (3, .int x3)]) rfl ?_
  refine g_aload_n X dX7_writeBill_38 rfl 1 rfl ?_
  refine g_get X fl_RX7_33 dX7_writeBill_39 h0 (v := .ref (be θ + (x0 + 8))) rfl ?_
  refine g_iload X dX7_writeBill_42 0 rfl ?_
  refine g_iload_n X dX7_writeBill_44 rfl 2 rfl ?_
  obtain ⟨g2, h⟩ := ite_some h
  refine g_iast X (lk7_7 h0).1 (lk7_7 h0).2 (inb_in g2) dX7_writeBill_45 ?_
  refine g_aload_n X dX7_writeBill_46 rfl 1 rfl ?_
  refine g_get X fl_RX7_33 dX7_writeBill_47 h0 (v := .ref (be θ + (x0 + 8))) rfl ?_
  refine g_iload X dX7_writeBill_50 0 rfl ?_
  refine g_iconst X dX7_writeBill_52 (v := (1 : Int32)) ic_1 ?_
  refine g_iadd X dX7_writeBill_53 ?_
  refine g_iload_n X dX7_writeBill_54 rfl 3 rfl ?_
  obtain ⟨g3, h⟩ := ite_some h
  refine g_iast X (lk7_7 h0).1 (lk7_7 h0).2 (inb_in g3) dX7_writeBill_55 ?_
  refine g_aload_n X dX7_writeBill_56 rfl 1 rfl ?_
  refine g_get X fl_RX7_33 dX7_writeBill_57 h0 (v := .ref (be θ + (x0 + 8))) rfl ?_
  refine g_iload X dX7_writeBill_60 0 rfl ?_
  refine g_iconst X dX7_writeBill_62 (v := (2 : Int32)) ic_2 ?_
  refine g_iadd X dX7_writeBill_63 ?_
  refine g_aload_n X dX7_writeBill_64 rfl 1 rfl ?_
  refine g_get X fl_RX7_55 dX7_writeBill_65 h0 (v := .int (mI (sI (sI σ (x0 + 8) ((mI σ x0 9) * (4 : Int32)).toNatClampNeg x1) (x0 + 8) (((mI σ x0 9) * (4 : Int32)) + (1 : Int32)).toNatClampNeg x2) x0 14)) rfl ?_
  obtain ⟨g4, h⟩ := ite_some h
  refine g_iast X (lk7_7 h0).1 (lk7_7 h0).2 (inb_in g4) dX7_writeBill_68 ?_
  refine g_aload_n X dX7_writeBill_69 rfl 1 rfl ?_
  refine g_get X fl_RX7_33 dX7_writeBill_70 h0 (v := .ref (be θ + (x0 + 8))) rfl ?_
  refine g_iload X dX7_writeBill_73 0 rfl ?_
  refine g_iconst X dX7_writeBill_75 (v := (3 : Int32)) ic_3 ?_
  refine g_iadd X dX7_writeBill_76 ?_
  refine g_iload_n X dX7_writeBill_77 rfl 4 rfl ?_
  obtain ⟨g5, h⟩ := ite_some h
  refine g_iast X (lk7_7 h0).1 (lk7_7 h0).2 (inb_in g5) dX7_writeBill_78 ?_
  refine g_aload_n X dX7_writeBill_79 rfl 1 rfl ?_
  refine g_dup X dX7_writeBill_80 rfl ?_
  refine g_get X fl_RX7_39 dX7_writeBill_81 h0 (v := .int (mI (sI (sI (sI (sI σ (x0 + 8) ((mI σ x0 9) * (4 : Int32)).toNatClampNeg x1) (x0 + 8) (((mI σ x0 9) * (4 : Int32)) + (1 : Int32)).toNatClampNeg x2) (x0 + 8) (((mI σ x0 9) * (4 : Int32)) + (2 : Int32)).toNatClampNeg (mI (sI (sI σ (x0 + 8) ((mI σ x0 9) * (4 : Int32)).toNatClampNeg x1) (x0 + 8) (((mI σ x0 9) * (4 : Int32)) + (1 : Int32)).toNatClampNeg x2) x0 14)) (x0 + 8) (((mI σ x0 9) * (4 : Int32)) + (3 : Int32)).toNatClampNeg x3) x0 9)) rfl ?_
  refine g_iconst X dX7_writeBill_84 (v := (1 : Int32)) ic_1 ?_
  refine g_iadd X dX7_writeBill_85 ?_
  refine g_putI X fl_RX7_39 dX7_writeBill_86 h0 rfl rfl rfl ?_
  exact g_vret X hr hlk dX7_writeBill_89 (by cases h; rfl)
set_option maxHeartbeats 4000000 in
set_option maxRecDepth 20000 in
theorem g_State_writeBill (X : Cx θ p s m args c cX7_writeBill 5 RX7) (hr : meth.sig.returnType = none) (hlk : meth.locks = false)  {σ : Mem} {x0 : Nat} {x1 : Int32} {x2 : Int32} {x3 : Int32} {r : Mem} (h0 : kd x0 = 8) (h : f_State_writeBill σ x0 x1 x2 x3 = some r) : GB θ p l e 1 s m args below meth c 5 (none, r) 0 [(0, .ref (be θ + x0)), (1, .int x1), (2, .int x2), (3, .int x3)] [] σ := by
  unfold f_State_writeBill at h
  refine g_aload_n X dX7_writeBill_0 rfl 0 rfl ?_
  refine g_get X fl_RX7_39 dX7_writeBill_1 h0 (v := .int (mI σ x0 9)) rfl ?_
  refine g_bipush X dX7_writeBill_4 (v := (24 : Int32)) bp_24 ?_
  refine g_icmp_lt (tgt := 30) X dX7_writeBill_6 (by decide) (fun c1 => ?_) (fun c1 => ?_)
  · replace h := (if_pos c1).symm.trans h
    exact g_sub (lv' := [(0, .ref (be θ + x0)), (1, .int x1), (2, .int x2), (3, .int x3)]) [0, 1, 2, 3] rfl (g_State_writeBill_J30 X hr hlk  h0  h)
  · replace h := (if_neg c1).symm.trans h
    refine g_aload_n X dX7_writeBill_9 rfl 0 rfl ?_
    refine g_get X fl_RX7_33 dX7_writeBill_10 h0 (v := .ref (be θ + (x0 + 8))) rfl ?_
    refine g_iconst X dX7_writeBill_13 (v := (4 : Int32)) ic_4 ?_
    refine g_aload_n X dX7_writeBill_14 rfl 0 rfl ?_
    refine g_get X fl_RX7_33 dX7_writeBill_15 h0 (v := .ref (be θ + (x0 + 8))) rfl ?_
    refine g_iconst X dX7_writeBill_18 (v := (0 : Int32)) ic_0 ?_
    refine g_bipush X dX7_writeBill_19 (v := (92 : Int32)) bp_92 ?_
    obtain ⟨g6, h⟩ := ite_some h
    obtain ⟨σ7, hσ7, h⟩ := Option.bind_eq_some_iff.mp h
    refine g_cp X lc_RX7_86 (lk7_7 h0).1 (lk7_7 h0).1 (lk7_7 h0).2 (lk7_7 h0).2 (cpyB_ok g6) ⟨(Nat.le_of_ble_eq_true rfl), (Nat.le_of_ble_eq_true rfl)⟩ dX7_writeBill_21 (Option.some.inj hσ7) ?_
    refine g_aload_n X dX7_writeBill_24 rfl 0 rfl ?_
    refine g_bipush X dX7_writeBill_25 (v := (23 : Int32)) bp_23 ?_
    refine g_putI X fl_RX7_39 dX7_writeBill_27 h0 rfl rfl rfl ?_
    exact g_sub (lv' := [(0, .ref (be θ + x0)), (1, .int x1), (2, .int x2), (3, .int x3)]) [0, 1, 2, 3] rfl (g_State_writeBill_J30 X hr hlk  h0  h)
set_option maxHeartbeats 4000000 in
set_option maxRecDepth 20000 in
theorem c_State_writeBill {θ : Th} {l : Launch} {σ : Mem} {x0 : Nat} {x1 : Int32} {x2 : Int32} {x3 : Int32} {r : Mem} (h0 : kd x0 = 8) (h : f_State_writeBill σ x0 x1 x2 x3 = some r) : Cn θ l yX7_writeBill cX7_writeBill 5 (none) 1 0 0 [.ref (be θ + x0), .int x1, .int x2, .int x3] σ (none, r) :=
  Cn.of (by decide) (Nat.le_of_ble_eq_true rfl) (fun p e s m below meth c X hr hlk => g_State_writeBill X hr hlk h0 h)
theorem dX9_layBack_0 : decode cX9_layBack 0 = .ok (.aload_n 1, 1) := by decide +kernel
theorem dX9_layBack_1 : decode cX9_layBack 1 = .ok (.getfield 98, 3) := by decide +kernel
theorem dX9_layBack_4 : decode cX9_layBack 4 = .ok (.iload_n 2, 1) := by decide +kernel
theorem dX9_layBack_5 : decode cX9_layBack 5 = .ok (.iaload, 1) := by decide +kernel
theorem dX9_layBack_6 : decode cX9_layBack 6 = .ok (.istore_n 3, 1) := by decide +kernel
theorem dX9_layBack_7 : decode cX9_layBack 7 = .ok (.aload_n 1, 1) := by decide +kernel
theorem dX9_layBack_8 : decode cX9_layBack 8 = .ok (.getfield 95, 3) := by decide +kernel
theorem dX9_layBack_11 : decode cX9_layBack 11 = .ok (.iload_n 3, 1) := by decide +kernel
theorem dX9_layBack_12 : decode cX9_layBack 12 = .ok (.iconst (-1), 1) := by decide +kernel
theorem dX9_layBack_13 : decode cX9_layBack 13 = .ok (.iastore, 1) := by decide +kernel
theorem dX9_layBack_14 : decode cX9_layBack 14 = .ok (.aload_n 1, 1) := by decide +kernel
theorem dX9_layBack_15 : decode cX9_layBack 15 = .ok (.getfield 145, 3) := by decide +kernel
theorem dX9_layBack_18 : decode cX9_layBack 18 = .ok (.iload_n 3, 1) := by decide +kernel
theorem dX9_layBack_19 : decode cX9_layBack 19 = .ok (.iconst 0, 1) := by decide +kernel
theorem dX9_layBack_20 : decode cX9_layBack 20 = .ok (.iastore, 1) := by decide +kernel
theorem dX9_layBack_21 : decode cX9_layBack 21 = .ok (.aload_n 1, 1) := by decide +kernel
theorem dX9_layBack_22 : decode cX9_layBack 22 = .ok (.getfield 98, 3) := by decide +kernel
theorem dX9_layBack_25 : decode cX9_layBack 25 = .ok (.iload_n 2, 1) := by decide +kernel
theorem dX9_layBack_26 : decode cX9_layBack 26 = .ok (.iconst (-1), 1) := by decide +kernel
theorem dX9_layBack_27 : decode cX9_layBack 27 = .ok (.iastore, 1) := by decide +kernel
theorem dX9_layBack_28 : decode cX9_layBack 28 = .ok (.aload_n 0, 1) := by decide +kernel
theorem dX9_layBack_29 : decode cX9_layBack 29 = .ok (.aload_n 1, 1) := by decide +kernel
theorem dX9_layBack_30 : decode cX9_layBack 30 = .ok (.aload_n 0, 1) := by decide +kernel
theorem dX9_layBack_31 : decode cX9_layBack 31 = .ok (.getfield 24, 3) := by decide +kernel
theorem dX9_layBack_34 : decode cX9_layBack 34 = .ok (.iload_n 3, 1) := by decide +kernel
theorem dX9_layBack_35 : decode cX9_layBack 35 = .ok (.invokevirtual 54, 3) := by decide +kernel
theorem dX9_layBack_38 : decode cX9_layBack 38 = .ok (.invokevirtual 148, 3) := by decide +kernel
theorem dX9_layBack_41 : decode cX9_layBack 41 = .ok (.ifCond .eq 7, 3) := by decide +kernel
theorem dX9_layBack_44 : decode cX9_layBack 44 = .ok (.iconst 0, 1) := by decide +kernel
theorem dX9_layBack_45 : decode cX9_layBack 45 = .ok (.goto 10, 3) := by decide +kernel
theorem dX9_layBack_48 : decode cX9_layBack 48 = .ok (.aload_n 0, 1) := by decide +kernel
theorem dX9_layBack_49 : decode cX9_layBack 49 = .ok (.aload_n 1, 1) := by decide +kernel
theorem dX9_layBack_50 : decode cX9_layBack 50 = .ok (.iload_n 2, 1) := by decide +kernel
theorem dX9_layBack_51 : decode cX9_layBack 51 = .ok (.iload_n 3, 1) := by decide +kernel
theorem dX9_layBack_52 : decode cX9_layBack 52 = .ok (.invokevirtual 152, 3) := by decide +kernel
theorem dX9_layBack_55 : decode cX9_layBack 55 = .ok (.istore 4, 2) := by decide +kernel
theorem dX9_layBack_57 : decode cX9_layBack 57 = .ok (.iload 4, 2) := by decide +kernel
theorem dX9_layBack_59 : decode cX9_layBack 59 = .ok (.ifCond .le 11, 3) := by decide +kernel
theorem dX9_layBack_62 : decode cX9_layBack 62 = .ok (.aload_n 1, 1) := by decide +kernel
theorem dX9_layBack_63 : decode cX9_layBack 63 = .ok (.iload_n 2, 1) := by decide +kernel
theorem dX9_layBack_64 : decode cX9_layBack 64 = .ok (.iload_n 3, 1) := by decide +kernel
theorem dX9_layBack_65 : decode cX9_layBack 65 = .ok (.iload 4, 2) := by decide +kernel
theorem dX9_layBack_67 : decode cX9_layBack 67 = .ok (.invokevirtual 155, 3) := by decide +kernel
theorem dX9_layBack_70 : decode cX9_layBack 70 = .ok (.iload 4, 2) := by decide +kernel
theorem dX9_layBack_72 : decode cX9_layBack 72 = .ok (.ireturn, 1) := by decide +kernel
def f_Trade_layBack (σ : Mem) (x1 : Nat) (x2 : Int32) : Option (Int32 × Mem) :=
  if inb x2 6 then
    if inb (mI σ (x1 + 5) x2.toNatClampNeg) 8 then
      if kd (mR σ 428 1) = 2 then
        (f_City_shopOf (sI (sI (sI σ (x1 + 1) (mI σ (x1 + 5) x2.toNatClampNeg).toNatClampNeg (-1 : Int32)) (x1 + 3) (mI σ (x1 + 5) x2.toNatClampNeg).toNatClampNeg (0 : Int32)) (x1 + 5) x2.toNatClampNeg (-1 : Int32)) (mR σ 428 1) (mI σ (x1 + 5) x2.toNatClampNeg)).bind fun q4 =>
        (f_Trade_looksAway (sI (sI (sI σ (x1 + 1) (mI σ (x1 + 5) x2.toNatClampNeg).toNatClampNeg (-1 : Int32)) (x1 + 3) (mI σ (x1 + 5) x2.toNatClampNeg).toNatClampNeg (0 : Int32)) (x1 + 5) x2.toNatClampNeg (-1 : Int32)) x1 q4).bind fun q5 =>
        if q5 = (0 : Int32) then
          (f_Trade_dueIfPutBack (sI (sI (sI σ (x1 + 1) (mI σ (x1 + 5) x2.toNatClampNeg).toNatClampNeg (-1 : Int32)) (x1 + 3) (mI σ (x1 + 5) x2.toNatClampNeg).toNatClampNeg (0 : Int32)) (x1 + 5) x2.toNatClampNeg (-1 : Int32)) x1 x2 (mI σ (x1 + 5) x2.toNatClampNeg)).bind fun q7 =>
          if q7 ≤ (0 : Int32) then
            some (q7, (sI (sI (sI σ (x1 + 1) (mI σ (x1 + 5) x2.toNatClampNeg).toNatClampNeg (-1 : Int32)) (x1 + 3) (mI σ (x1 + 5) x2.toNatClampNeg).toNatClampNeg (0 : Int32)) (x1 + 5) x2.toNatClampNeg (-1 : Int32)))
          else
            (f_State_writeBill (sI (sI (sI σ (x1 + 1) (mI σ (x1 + 5) x2.toNatClampNeg).toNatClampNeg (-1 : Int32)) (x1 + 3) (mI σ (x1 + 5) x2.toNatClampNeg).toNatClampNeg (0 : Int32)) (x1 + 5) x2.toNatClampNeg (-1 : Int32)) x1 x2 (mI σ (x1 + 5) x2.toNatClampNeg) q7).bind fun q9 =>
            some (q7, q9)
        else
          if (0 : Int32) ≤ (0 : Int32) then
            some ((0 : Int32), (sI (sI (sI σ (x1 + 1) (mI σ (x1 + 5) x2.toNatClampNeg).toNatClampNeg (-1 : Int32)) (x1 + 3) (mI σ (x1 + 5) x2.toNatClampNeg).toNatClampNeg (0 : Int32)) (x1 + 5) x2.toNatClampNeg (-1 : Int32)))
          else
            (f_State_writeBill (sI (sI (sI σ (x1 + 1) (mI σ (x1 + 5) x2.toNatClampNeg).toNatClampNeg (-1 : Int32)) (x1 + 3) (mI σ (x1 + 5) x2.toNatClampNeg).toNatClampNeg (0 : Int32)) (x1 + 5) x2.toNatClampNeg (-1 : Int32)) x1 x2 (mI σ (x1 + 5) x2.toNatClampNeg) (0 : Int32)).bind fun q11 =>
            some ((0 : Int32), q11)
      else none
    else none
  else none
set_option maxHeartbeats 4000000 in
set_option maxRecDepth 20000 in
theorem g_Trade_layBack (X : Cx θ p s m args c cX9_layBack 5 RX9) (hr : meth.sig.returnType = some .int) (hlk : meth.locks = false)  {σ : Mem} {x1 : Nat} {x2 : Int32} {r : Int32 × Mem} (h1 : kd x1 = 8) (h : f_Trade_layBack σ x1 x2 = some r) : GB θ p l e 2 s m args below meth c 5 (some (.int r.1), r.2) 0 [(0, .ref (be θ + 428)), (1, .ref (be θ + x1)), (2, .int x2)] [] σ := by
  unfold f_Trade_layBack at h
  refine g_aload_n X dX9_layBack_0 rfl 1 rfl ?_
  refine g_get X fl_RX9_98 dX9_layBack_1 h1 (v := .ref (be θ + (x1 + 5))) rfl ?_
  refine g_iload_n X dX9_layBack_4 rfl 2 rfl ?_
  obtain ⟨g1, h⟩ := ite_some h
  refine g_iald X (lk7_4 h1).1 (lk7_4 h1).2 (inb_in g1) dX9_layBack_5 ?_
  refine g_istore_n X dX9_layBack_6 rfl (by decide) (lv' := [(3, .int (mI σ (x1 + 5) x2.toNatClampNeg)), (0, .ref (be θ + 428)), (1, .ref (be θ + x1)), (2, .int x2)]) rfl ?_
  refine g_aload_n X dX9_layBack_7 rfl 2 rfl ?_
  refine g_get X fl_RX9_95 dX9_layBack_8 h1 (v := .ref (be θ + (x1 + 1))) rfl ?_
  refine g_iload_n X dX9_layBack_11 rfl 0 rfl ?_
  refine g_iconst X dX9_layBack_12 (v := (-1 : Int32)) ic_m1 ?_
  obtain ⟨g2, h⟩ := ite_some h
  refine g_iast X (lk7_0 h1).1 (lk7_0 h1).2 (inb_in g2) dX9_layBack_13 ?_
  refine g_aload_n X dX9_layBack_14 rfl 2 rfl ?_
  refine g_get X fl_RX9_145 dX9_layBack_15 h1 (v := .ref (be θ + (x1 + 3))) rfl ?_
  refine g_iload_n X dX9_layBack_18 rfl 0 rfl ?_
  refine g_iconst X dX9_layBack_19 (v := (0 : Int32)) ic_0 ?_
  refine g_iast X (lk7_2 h1).1 (lk7_2 h1).2 (inb_in g2) dX9_layBack_20 ?_
  refine g_aload_n X dX9_layBack_21 rfl 2 rfl ?_
  refine g_get X fl_RX9_98 dX9_layBack_22 h1 (v := .ref (be θ + (x1 + 5))) rfl ?_
  refine g_iload_n X dX9_layBack_25 rfl 3 rfl ?_
  refine g_iconst X dX9_layBack_26 (v := (-1 : Int32)) ic_m1 ?_
  refine g_iast X (lk7_4 h1).1 (lk7_4 h1).2 (inb_in g1) dX9_layBack_27 ?_
  refine g_aload_n X dX9_layBack_28 rfl 1 rfl ?_
  refine g_aload_n X dX9_layBack_29 rfl 2 rfl ?_
  refine g_aload_n X dX9_layBack_30 rfl 1 rfl ?_
  refine g_get X fl_RX9_24 dX9_layBack_31 kd_428 (v := rv (be θ) (mR σ 428 1)) rfl ?_
  refine g_iload_n X dX9_layBack_34 rfl 0 rfl ?_
  obtain ⟨g3, h⟩ := ite_some h
  rw [← rv_of (β := be θ) g3 (by decide)]
  obtain ⟨q4, hq4, h⟩ := Option.bind_eq_some_iff.mp h
  refine g_cV X (c_City_shopOf g3 hq4) lk_RX9_54 my_X1_shopOf (a := (mR σ 428 1)) (ci := 1) g3 (by decide) rfl (As := [.int (mI σ (x1 + 5) x2.toNatClampNeg)]) (rest := [.ref (be θ + x1), .ref (be θ + 428)]) rfl rfl (Nat.le_of_ble_eq_true rfl) ⟨(Nat.le_of_ble_eq_true rfl), (Nat.le_of_ble_eq_true rfl)⟩ ⟨(Nat.le_of_ble_eq_true rfl), (Nat.le_of_ble_eq_true rfl)⟩ dX9_layBack_35 (st' := [.int q4, .ref (be θ + x1), .ref (be θ + 428)]) (σ' := (sI (sI (sI σ (x1 + 1) (mI σ (x1 + 5) x2.toNatClampNeg).toNatClampNeg (-1 : Int32)) (x1 + 3) (mI σ (x1 + 5) x2.toNatClampNeg).toNatClampNeg (0 : Int32)) (x1 + 5) x2.toNatClampNeg (-1 : Int32))) rfl rfl ?_
  obtain ⟨q5, hq5, h⟩ := Option.bind_eq_some_iff.mp h
  refine g_cV X (c_Trade_looksAway h1 hq5) lk_RX9_148 my_X9_looksAway (a := 428) (ci := 9) kd_428 (by decide) rfl (As := [.ref (be θ + x1), .int q4]) (rest := []) rfl rfl (Nat.le_of_ble_eq_true rfl) ⟨(Nat.le_of_ble_eq_true rfl), (Nat.le_of_ble_eq_true rfl)⟩ ⟨(Nat.le_of_ble_eq_true rfl), (Nat.le_of_ble_eq_true rfl)⟩ dX9_layBack_38 (st' := [.int q5]) (σ' := (sI (sI (sI σ (x1 + 1) (mI σ (x1 + 5) x2.toNatClampNeg).toNatClampNeg (-1 : Int32)) (x1 + 3) (mI σ (x1 + 5) x2.toNatClampNeg).toNatClampNeg (0 : Int32)) (x1 + 5) x2.toNatClampNeg (-1 : Int32))) rfl rfl ?_
  refine g_if_eq (tgt := 48) X dX9_layBack_41 (by decide) (fun c6 => ?_) (fun c6 => ?_)
  · replace h := (if_pos c6).symm.trans h
    refine g_aload_n X dX9_layBack_48 rfl 1 rfl ?_
    refine g_aload_n X dX9_layBack_49 rfl 2 rfl ?_
    refine g_iload_n X dX9_layBack_50 rfl 3 rfl ?_
    refine g_iload_n X dX9_layBack_51 rfl 0 rfl ?_
    obtain ⟨q7, hq7, h⟩ := Option.bind_eq_some_iff.mp h
    refine g_cV X (c_Trade_dueIfPutBack h1 hq7) lk_RX9_152 my_X9_dueIfPutBack (a := 428) (ci := 9) kd_428 (by decide) rfl (As := [.ref (be θ + x1), .int x2, .int (mI σ (x1 + 5) x2.toNatClampNeg)]) (rest := []) rfl rfl (Nat.le_of_ble_eq_true rfl) ⟨(Nat.le_of_ble_eq_true rfl), (Nat.le_of_ble_eq_true rfl)⟩ ⟨(Nat.le_of_ble_eq_true rfl), (Nat.le_of_ble_eq_true rfl)⟩ dX9_layBack_52 (st' := [.int q7]) (σ' := (sI (sI (sI σ (x1 + 1) (mI σ (x1 + 5) x2.toNatClampNeg).toNatClampNeg (-1 : Int32)) (x1 + 3) (mI σ (x1 + 5) x2.toNatClampNeg).toNatClampNeg (0 : Int32)) (x1 + 5) x2.toNatClampNeg (-1 : Int32))) rfl rfl ?_
    refine g_istore X dX9_layBack_55 (by decide) (lv' := [(4, .int q7), (3, .int (mI σ (x1 + 5) x2.toNatClampNeg)), (0, .ref (be θ + 428)), (1, .ref (be θ + x1)), (2, .int x2)]) rfl ?_
    refine g_iload X dX9_layBack_57 0 rfl ?_
    refine g_if_le (tgt := 70) X dX9_layBack_59 (by decide) (fun c8 => ?_) (fun c8 => ?_)
    · replace h := (if_pos c8).symm.trans h
      refine g_iload X dX9_layBack_70 0 rfl ?_
      exact g_iret X hr hlk dX9_layBack_72 (by cases h; rfl)
    · replace h := (if_neg c8).symm.trans h
      refine g_aload_n X dX9_layBack_62 rfl 3 rfl ?_
      refine g_iload_n X dX9_layBack_63 rfl 4 rfl ?_
      refine g_iload_n X dX9_layBack_64 rfl 1 rfl ?_
      refine g_iload X dX9_layBack_65 0 rfl ?_
      obtain ⟨q9, hq9, h⟩ := Option.bind_eq_some_iff.mp h
      refine g_cV X (c_State_writeBill h1 hq9) lk_RX9_155 my_X7_writeBill (a := x1) (ci := 7) h1 (by decide) rfl (As := [.int x2, .int (mI σ (x1 + 5) x2.toNatClampNeg), .int q7]) (rest := []) rfl rfl (Nat.le_of_ble_eq_true rfl) ⟨(Nat.le_of_ble_eq_true rfl), (Nat.le_of_ble_eq_true rfl)⟩ ⟨(Nat.le_of_ble_eq_true rfl), (Nat.le_of_ble_eq_true rfl)⟩ dX9_layBack_67 (st' := []) (σ' := q9) rfl rfl ?_
      refine g_iload X dX9_layBack_70 0 rfl ?_
      exact g_iret X hr hlk dX9_layBack_72 (by cases h; rfl)
  · replace h := (if_neg c6).symm.trans h
    refine g_iconst X dX9_layBack_44 (v := (0 : Int32)) ic_0 ?_
    refine g_goto (tgt := 55) X dX9_layBack_45 (by decide) ?_
    refine g_istore X dX9_layBack_55 (by decide) (lv' := [(4, .int (0 : Int32)), (3, .int (mI σ (x1 + 5) x2.toNatClampNeg)), (0, .ref (be θ + 428)), (1, .ref (be θ + x1)), (2, .int x2)]) rfl ?_
    refine g_iload X dX9_layBack_57 0 rfl ?_
    refine g_if_le (tgt := 70) X dX9_layBack_59 (by decide) (fun c10 => ?_) (fun c10 => ?_)
    · replace h := (if_pos c10).symm.trans h
      refine g_iload X dX9_layBack_70 0 rfl ?_
      exact g_iret X hr hlk dX9_layBack_72 (by cases h; rfl)
    · replace h := (if_neg c10).symm.trans h
      refine g_aload_n X dX9_layBack_62 rfl 3 rfl ?_
      refine g_iload_n X dX9_layBack_63 rfl 4 rfl ?_
      refine g_iload_n X dX9_layBack_64 rfl 1 rfl ?_
      refine g_iload X dX9_layBack_65 0 rfl ?_
      obtain ⟨q11, hq11, h⟩ := Option.bind_eq_some_iff.mp h
      refine g_cV X (c_State_writeBill h1 hq11) lk_RX9_155 my_X7_writeBill (a := x1) (ci := 7) h1 (by decide) rfl (As := [.int x2, .int (mI σ (x1 + 5) x2.toNatClampNeg), .int (0 : Int32)]) (rest := []) rfl rfl (Nat.le_of_ble_eq_true rfl) ⟨(Nat.le_of_ble_eq_true rfl), (Nat.le_of_ble_eq_true rfl)⟩ ⟨(Nat.le_of_ble_eq_true rfl), (Nat.le_of_ble_eq_true rfl)⟩ dX9_layBack_67 (st' := []) (σ' := q11) rfl rfl ?_
      refine g_iload X dX9_layBack_70 0 rfl ?_
      exact g_iret X hr hlk dX9_layBack_72 (by cases h; rfl)
set_option maxHeartbeats 4000000 in
set_option maxRecDepth 20000 in
theorem c_Trade_layBack {θ : Th} {l : Launch} {σ : Mem} {x1 : Nat} {x2 : Int32} {r : Int32 × Mem} (h1 : kd x1 = 8) (h : f_Trade_layBack σ x1 x2 = some r) : Cn θ l yX9_layBack cX9_layBack 5 (some .int) 2 0 0 [.ref (be θ + 428), .ref (be θ + x1), .int x2] σ (some (.int r.1), r.2) :=
  Cn.of (by decide) (Nat.le_of_ble_eq_true rfl) (fun p e s m below meth c X hr hlk => g_Trade_layBack X hr hlk h1 h)
theorem dX9_decide_0 : decode cX9_decide 0 = .ok (.aload_n 1, 1) := by decide +kernel
theorem dX9_decide_1 : decode cX9_decide 1 = .ok (.getfield 98, 3) := by decide +kernel
theorem dX9_decide_4 : decode cX9_decide 4 = .ok (.iload_n 2, 1) := by decide +kernel
theorem dX9_decide_5 : decode cX9_decide 5 = .ok (.iaload, 1) := by decide +kernel
theorem dX9_decide_6 : decode cX9_decide 6 = .ok (.istore_n 3, 1) := by decide +kernel
theorem dX9_decide_7 : decode cX9_decide 7 = .ok (.aload_n 0, 1) := by decide +kernel
theorem dX9_decide_8 : decode cX9_decide 8 = .ok (.getfield 24, 3) := by decide +kernel
theorem dX9_decide_11 : decode cX9_decide 11 = .ok (.iload_n 3, 1) := by decide +kernel
theorem dX9_decide_12 : decode cX9_decide 12 = .ok (.invokevirtual 47, 3) := by decide +kernel
theorem dX9_decide_15 : decode cX9_decide 15 = .ok (.istore 4, 2) := by decide +kernel
theorem dX9_decide_17 : decode cX9_decide 17 = .ok (.aload_n 1, 1) := by decide +kernel
theorem dX9_decide_18 : decode cX9_decide 18 = .ok (.getfield 51, 3) := by decide +kernel
theorem dX9_decide_21 : decode cX9_decide 21 = .ok (.iload_n 2, 1) := by decide +kernel
theorem dX9_decide_22 : decode cX9_decide 22 = .ok (.iaload, 1) := by decide +kernel
theorem dX9_decide_23 : decode cX9_decide 23 = .ok (.iload 4, 2) := by decide +kernel
theorem dX9_decide_25 : decode cX9_decide 25 = .ok (.if_icmp .lt 25, 3) := by decide +kernel
theorem dX9_decide_28 : decode cX9_decide 28 = .ok (.aload_n 0, 1) := by decide +kernel
theorem dX9_decide_29 : decode cX9_decide 29 = .ok (.aload_n 1, 1) := by decide +kernel
theorem dX9_decide_30 : decode cX9_decide 30 = .ok (.iload_n 2, 1) := by decide +kernel
theorem dX9_decide_31 : decode cX9_decide 31 = .ok (.iload_n 3, 1) := by decide +kernel
theorem dX9_decide_32 : decode cX9_decide 32 = .ok (.invokevirtual 189, 3) := by decide +kernel
theorem dX9_decide_35 : decode cX9_decide 35 = .ok (.iload 4, 2) := by decide +kernel
theorem dX9_decide_37 : decode cX9_decide 37 = .ok (.if_icmp .lt 13, 3) := by decide +kernel
theorem dX9_decide_40 : decode cX9_decide 40 = .ok (.aload_n 0, 1) := by decide +kernel
theorem dX9_decide_41 : decode cX9_decide 41 = .ok (.aload_n 1, 1) := by decide +kernel
theorem dX9_decide_42 : decode cX9_decide 42 = .ok (.iload_n 2, 1) := by decide +kernel
theorem dX9_decide_43 : decode cX9_decide 43 = .ok (.invokevirtual 138, 3) := by decide +kernel
theorem dX9_decide_46 : decode cX9_decide 46 = .ok (.pop, 1) := by decide +kernel
theorem dX9_decide_47 : decode cX9_decide 47 = .ok (.goto 40, 3) := by decide +kernel
theorem dX9_decide_50 : decode cX9_decide 50 = .ok (.aload_n 1, 1) := by decide +kernel
theorem dX9_decide_51 : decode cX9_decide 51 = .ok (.getfield 145, 3) := by decide +kernel
theorem dX9_decide_54 : decode cX9_decide 54 = .ok (.iload_n 3, 1) := by decide +kernel
theorem dX9_decide_55 : decode cX9_decide 55 = .ok (.iaload, 1) := by decide +kernel
theorem dX9_decide_56 : decode cX9_decide 56 = .ok (.aload_n 1, 1) := by decide +kernel
theorem dX9_decide_57 : decode cX9_decide 57 = .ok (.getfield 44, 3) := by decide +kernel
theorem dX9_decide_60 : decode cX9_decide 60 = .ok (.iload_n 3, 1) := by decide +kernel
theorem dX9_decide_61 : decode cX9_decide 61 = .ok (.iaload, 1) := by decide +kernel
theorem dX9_decide_62 : decode cX9_decide 62 = .ok (.iconst 3, 1) := by decide +kernel
theorem dX9_decide_63 : decode cX9_decide 63 = .ok (.idiv, 1) := by decide +kernel
theorem dX9_decide_64 : decode cX9_decide 64 = .ok (.if_icmp .le 13, 3) := by decide +kernel
theorem dX9_decide_67 : decode cX9_decide 67 = .ok (.aload_n 0, 1) := by decide +kernel
theorem dX9_decide_68 : decode cX9_decide 68 = .ok (.aload_n 1, 1) := by decide +kernel
theorem dX9_decide_69 : decode cX9_decide 69 = .ok (.iload_n 2, 1) := by decide +kernel
theorem dX9_decide_70 : decode cX9_decide 70 = .ok (.invokevirtual 132, 3) := by decide +kernel
theorem dX9_decide_73 : decode cX9_decide 73 = .ok (.pop, 1) := by decide +kernel
theorem dX9_decide_74 : decode cX9_decide 74 = .ok (.goto 13, 3) := by decide +kernel
theorem dX9_decide_77 : decode cX9_decide 77 = .ok (.aload_n 1, 1) := by decide +kernel
theorem dX9_decide_78 : decode cX9_decide 78 = .ok (.getfield 145, 3) := by decide +kernel
theorem dX9_decide_81 : decode cX9_decide 81 = .ok (.iload_n 3, 1) := by decide +kernel
theorem dX9_decide_82 : decode cX9_decide 82 = .ok (.dup2, 1) := by decide +kernel
theorem dX9_decide_83 : decode cX9_decide 83 = .ok (.iaload, 1) := by decide +kernel
theorem dX9_decide_84 : decode cX9_decide 84 = .ok (.iconst 1, 1) := by decide +kernel
theorem dX9_decide_85 : decode cX9_decide 85 = .ok (.iadd, 1) := by decide +kernel
theorem dX9_decide_86 : decode cX9_decide 86 = .ok (.iastore, 1) := by decide +kernel
theorem dX9_decide_87 : decode cX9_decide 87 = .ok (.return_, 1) := by decide +kernel
def f_Trade_decide_J50 (σ : Mem) (x1 : Nat) (x2 : Int32) (y3 : Int32) : Option (Mem) :=
  if inb y3 8 then
    if (mI σ (x1 + 3) y3.toNatClampNeg) ≤ ((mI σ (x1 + 4) y3.toNatClampNeg) / (3 : Int32)) then
      some (sI σ (x1 + 3) y3.toNatClampNeg ((mI σ (x1 + 3) y3.toNatClampNeg) + (1 : Int32)))
    else
      (f_Trade_layBack σ x1 x2).bind fun q7 =>
      some q7.2
  else none
def f_Trade_decide (σ : Mem) (x1 : Nat) (x2 : Int32) : Option (Mem) :=
  if inb x2 6 then
    if kd (mR σ 428 1) = 2 then
      (f_City_priceOf σ (mR σ 428 1) (mI σ (x1 + 5) x2.toNatClampNeg)).bind fun q3 =>
      if (mI σ (x1 + 6) x2.toNatClampNeg) < q3 then
        f_Trade_decide_J50 σ x1 x2 (mI σ (x1 + 5) x2.toNatClampNeg)
      else
        (f_Trade_liked σ x1 x2 (mI σ (x1 + 5) x2.toNatClampNeg)).bind fun q8 =>
        if q8.1 < q3 then
          f_Trade_decide_J50 q8.2 x1 x2 (mI σ (x1 + 5) x2.toNatClampNeg)
        else
          (f_Trade_purchase q8.2 x1 x2).bind fun q10 =>
          some q10.2
    else none
  else none
set_option maxHeartbeats 4000000 in
set_option maxRecDepth 20000 in
theorem g_Trade_decide_J50 (X : Cx θ p s m args c cX9_decide 5 RX9) (hr : meth.sig.returnType = none) (hlk : meth.locks = false)  {σ : Mem} {x1 : Nat} {x2 : Int32} {y3 : Int32} {r : Mem} (h1 : kd x1 = 8) (h : f_Trade_decide_J50 σ x1 x2 y3 = some r) : GB θ p l e 3 s m args below meth c 5 (none, r) 50 [(0, .ref (be θ + 428)), (1, .ref (be θ + x1)), (2, .int x2), (3, .int y3)] [] σ := by
  unfold f_Trade_decide_J50 at h
  refine g_aload_n X dX9_decide_50 rfl 1 rfl ?_
  refine g_get X fl_RX9_145 dX9_decide_51 h1 (v := .ref (be θ + (x1 + 3))) rfl ?_
  refine g_iload_n X dX9_decide_54 rfl 3 rfl ?_
  obtain ⟨g5, h⟩ := ite_some h
  refine g_iald X (lk7_2 h1).1 (lk7_2 h1).2 (inb_in g5) dX9_decide_55 ?_
  refine g_aload_n X dX9_decide_56 rfl 1 rfl ?_
  refine g_get X fl_RX9_44 dX9_decide_57 h1 (v := .ref (be θ + (x1 + 4))) rfl ?_
  refine g_iload_n X dX9_decide_60 rfl 3 rfl ?_
  refine g_iald X (lk7_3 h1).1 (lk7_3 h1).2 (inb_in g5) dX9_decide_61 ?_
  refine g_iconst X dX9_decide_62 (v := (3 : Int32)) ic_3 ?_
  refine g_idiv X dX9_decide_63 (by decide) ?_
  refine g_icmp_le (tgt := 77) X dX9_decide_64 (by decide) (fun c6 => ?_) (fun c6 => ?_)
  · replace h := (if_pos c6).symm.trans h
    refine g_aload_n X dX9_decide_77 rfl 1 rfl ?_
    refine g_get X fl_RX9_145 dX9_decide_78 h1 (v := .ref (be θ + (x1 + 3))) rfl ?_
    refine g_iload_n X dX9_decide_81 rfl 3 rfl ?_
    refine g_dup2 X dX9_decide_82 rfl rfl ?_
    refine g_iald X (lk7_2 h1).1 (lk7_2 h1).2 (inb_in g5) dX9_decide_83 ?_
    refine g_iconst X dX9_decide_84 (v := (1 : Int32)) ic_1 ?_
    refine g_iadd X dX9_decide_85 ?_
    refine g_iast X (lk7_2 h1).1 (lk7_2 h1).2 (inb_in g5) dX9_decide_86 ?_
    exact g_vret X hr hlk dX9_decide_87 (by cases h; rfl)
  · replace h := (if_neg c6).symm.trans h
    refine g_aload_n X dX9_decide_67 rfl 0 rfl ?_
    refine g_aload_n X dX9_decide_68 rfl 1 rfl ?_
    refine g_iload_n X dX9_decide_69 rfl 2 rfl ?_
    obtain ⟨q7, hq7, h⟩ := Option.bind_eq_some_iff.mp h
    refine g_cV X (c_Trade_layBack h1 hq7) lk_RX9_132 my_X9_layBack (a := 428) (ci := 9) kd_428 (by decide) rfl (As := [.ref (be θ + x1), .int x2]) (rest := []) rfl rfl (Nat.le_of_ble_eq_true rfl) ⟨(Nat.le_of_ble_eq_true rfl), (Nat.le_of_ble_eq_true rfl)⟩ ⟨(Nat.le_of_ble_eq_true rfl), (Nat.le_of_ble_eq_true rfl)⟩ dX9_decide_70 (st' := [.int q7.1]) (σ' := q7.2) rfl rfl ?_
    refine g_pop X dX9_decide_73 rfl ?_
    refine g_goto (tgt := 87) X dX9_decide_74 (by decide) ?_
    exact g_vret X hr hlk dX9_decide_87 (by cases h; rfl)
set_option maxHeartbeats 4000000 in
set_option maxRecDepth 20000 in
theorem g_Trade_decide (X : Cx θ p s m args c cX9_decide 5 RX9) (hr : meth.sig.returnType = none) (hlk : meth.locks = false)  {σ : Mem} {x1 : Nat} {x2 : Int32} {r : Mem} (h1 : kd x1 = 8) (h : f_Trade_decide σ x1 x2 = some r) : GB θ p l e 3 s m args below meth c 5 (none, r) 0 [(0, .ref (be θ + 428)), (1, .ref (be θ + x1)), (2, .int x2)] [] σ := by
  unfold f_Trade_decide at h
  refine g_aload_n X dX9_decide_0 rfl 1 rfl ?_
  refine g_get X fl_RX9_98 dX9_decide_1 h1 (v := .ref (be θ + (x1 + 5))) rfl ?_
  refine g_iload_n X dX9_decide_4 rfl 2 rfl ?_
  obtain ⟨g1, h⟩ := ite_some h
  refine g_iald X (lk7_4 h1).1 (lk7_4 h1).2 (inb_in g1) dX9_decide_5 ?_
  refine g_istore_n X dX9_decide_6 rfl (by decide) (lv' := [(3, .int (mI σ (x1 + 5) x2.toNatClampNeg)), (0, .ref (be θ + 428)), (1, .ref (be θ + x1)), (2, .int x2)]) rfl ?_
  refine g_aload_n X dX9_decide_7 rfl 1 rfl ?_
  refine g_get X fl_RX9_24 dX9_decide_8 kd_428 (v := rv (be θ) (mR σ 428 1)) rfl ?_
  refine g_iload_n X dX9_decide_11 rfl 0 rfl ?_
  obtain ⟨g2, h⟩ := ite_some h
  rw [← rv_of (β := be θ) g2 (by decide)]
  obtain ⟨q3, hq3, h⟩ := Option.bind_eq_some_iff.mp h
  refine g_cV X (c_City_priceOf g2 hq3) lk_RX9_47 my_X1_priceOf (a := (mR σ 428 1)) (ci := 1) g2 (by decide) rfl (As := [.int (mI σ (x1 + 5) x2.toNatClampNeg)]) (rest := []) rfl rfl (Nat.le_of_ble_eq_true rfl) ⟨(Nat.le_of_ble_eq_true rfl), (Nat.le_of_ble_eq_true rfl)⟩ ⟨(Nat.le_of_ble_eq_true rfl), (Nat.le_of_ble_eq_true rfl)⟩ dX9_decide_12 (st' := [.int q3]) (σ' := σ) rfl rfl ?_
  refine g_istore X dX9_decide_15 (by decide) (lv' := [(4, .int q3), (3, .int (mI σ (x1 + 5) x2.toNatClampNeg)), (0, .ref (be θ + 428)), (1, .ref (be θ + x1)), (2, .int x2)]) rfl ?_
  refine g_aload_n X dX9_decide_17 rfl 3 rfl ?_
  refine g_get X fl_RX9_51 dX9_decide_18 h1 (v := .ref (be θ + (x1 + 6))) rfl ?_
  refine g_iload_n X dX9_decide_21 rfl 4 rfl ?_
  refine g_iald X (lk7_5 h1).1 (lk7_5 h1).2 (inb_in g1) dX9_decide_22 ?_
  refine g_iload X dX9_decide_23 0 rfl ?_
  refine g_icmp_lt (tgt := 50) X dX9_decide_25 (by decide) (fun c4 => ?_) (fun c4 => ?_)
  · replace h := (if_pos c4).symm.trans h
    exact g_sub (lv' := [(0, .ref (be θ + 428)), (1, .ref (be θ + x1)), (2, .int x2), (3, .int (mI σ (x1 + 5) x2.toNatClampNeg))]) [2, 3, 4, 1] rfl (g_Trade_decide_J50 X hr hlk  h1  h)
  · replace h := (if_neg c4).symm.trans h
    refine g_aload_n X dX9_decide_28 rfl 2 rfl ?_
    refine g_aload_n X dX9_decide_29 rfl 3 rfl ?_
    refine g_iload_n X dX9_decide_30 rfl 4 rfl ?_
    refine g_iload_n X dX9_decide_31 rfl 1 rfl ?_
    obtain ⟨q8, hq8, h⟩ := Option.bind_eq_some_iff.mp h
    refine g_cV X (c_Trade_liked h1 hq8) lk_RX9_189 my_X9_liked (a := 428) (ci := 9) kd_428 (by decide) rfl (As := [.ref (be θ + x1), .int x2, .int (mI σ (x1 + 5) x2.toNatClampNeg)]) (rest := []) rfl rfl (Nat.le_of_ble_eq_true rfl) ⟨(Nat.le_of_ble_eq_true rfl), (Nat.le_of_ble_eq_true rfl)⟩ ⟨(Nat.le_of_ble_eq_true rfl), (Nat.le_of_ble_eq_true rfl)⟩ dX9_decide_32 (st' := [.int q8.1]) (σ' := q8.2) rfl rfl ?_
    refine g_iload X dX9_decide_35 0 rfl ?_
    refine g_icmp_lt (tgt := 50) X dX9_decide_37 (by decide) (fun c9 => ?_) (fun c9 => ?_)
    · replace h := (if_pos c9).symm.trans h
      exact g_sub (lv' := [(0, .ref (be θ + 428)), (1, .ref (be θ + x1)), (2, .int x2), (3, .int (mI σ (x1 + 5) x2.toNatClampNeg))]) [2, 3, 4, 1] rfl (g_Trade_decide_J50 X hr hlk  h1  h)
    · replace h := (if_neg c9).symm.trans h
      refine g_aload_n X dX9_decide_40 rfl 2 rfl ?_
      refine g_aload_n X dX9_decide_41 rfl 3 rfl ?_
      refine g_iload_n X dX9_decide_42 rfl 4 rfl ?_
      obtain ⟨q10, hq10, h⟩ := Option.bind_eq_some_iff.mp h
      refine g_cV X (c_Trade_purchase h1 hq10) lk_RX9_138 my_X9_purchase (a := 428) (ci := 9) kd_428 (by decide) rfl (As := [.ref (be θ + x1), .int x2]) (rest := []) rfl rfl (Nat.le_of_ble_eq_true rfl) ⟨(Nat.le_of_ble_eq_true rfl), (Nat.le_of_ble_eq_true rfl)⟩ ⟨(Nat.le_of_ble_eq_true rfl), (Nat.le_of_ble_eq_true rfl)⟩ dX9_decide_43 (st' := [.int q10.1]) (σ' := q10.2) rfl rfl ?_
      refine g_pop X dX9_decide_46 rfl ?_
      refine g_goto (tgt := 87) X dX9_decide_47 (by decide) ?_
      exact g_vret X hr hlk dX9_decide_87 (by cases h; rfl)
set_option maxHeartbeats 4000000 in
set_option maxRecDepth 20000 in
theorem c_Trade_decide {θ : Th} {l : Launch} {σ : Mem} {x1 : Nat} {x2 : Int32} {r : Mem} (h1 : kd x1 = 8) (h : f_Trade_decide σ x1 x2 = some r) : Cn θ l yX9_decide cX9_decide 5 (none) 3 0 0 [.ref (be θ + 428), .ref (be θ + x1), .int x2] σ (none, r) :=
  Cn.of (by decide) (Nat.le_of_ble_eq_true rfl) (fun p e s m below meth c X hr hlk => g_Trade_decide X hr hlk h1 h)
theorem dX7_dueOf_0 : decode cX7_dueOf 0 = .ok (.iconst 0, 1) := by decide +kernel
theorem dX7_dueOf_1 : decode cX7_dueOf 1 = .ok (.istore_n 2, 1) := by decide +kernel
theorem dX7_dueOf_2 : decode cX7_dueOf 2 = .ok (.iconst 0, 1) := by decide +kernel
theorem dX7_dueOf_3 : decode cX7_dueOf 3 = .ok (.istore_n 3, 1) := by decide +kernel
theorem dX7_dueOf_4 : decode cX7_dueOf 4 = .ok (.iload_n 3, 1) := by decide +kernel
theorem dX7_dueOf_5 : decode cX7_dueOf 5 = .ok (.aload_n 0, 1) := by decide +kernel
theorem dX7_dueOf_6 : decode cX7_dueOf 6 = .ok (.getfield 39, 3) := by decide +kernel
theorem dX7_dueOf_9 : decode cX7_dueOf 9 = .ok (.if_icmp .ge 34, 3) := by decide +kernel
theorem dX7_dueOf_12 : decode cX7_dueOf 12 = .ok (.aload_n 0, 1) := by decide +kernel
theorem dX7_dueOf_13 : decode cX7_dueOf 13 = .ok (.getfield 33, 3) := by decide +kernel
theorem dX7_dueOf_16 : decode cX7_dueOf 16 = .ok (.iload_n 3, 1) := by decide +kernel
theorem dX7_dueOf_17 : decode cX7_dueOf 17 = .ok (.iconst 4, 1) := by decide +kernel
theorem dX7_dueOf_18 : decode cX7_dueOf 18 = .ok (.imul, 1) := by decide +kernel
theorem dX7_dueOf_19 : decode cX7_dueOf 19 = .ok (.iaload, 1) := by decide +kernel
theorem dX7_dueOf_20 : decode cX7_dueOf 20 = .ok (.iload_n 1, 1) := by decide +kernel
theorem dX7_dueOf_21 : decode cX7_dueOf 21 = .ok (.if_icmp .ne 16, 3) := by decide +kernel
theorem dX7_dueOf_24 : decode cX7_dueOf 24 = .ok (.iload_n 2, 1) := by decide +kernel
theorem dX7_dueOf_25 : decode cX7_dueOf 25 = .ok (.aload_n 0, 1) := by decide +kernel
theorem dX7_dueOf_26 : decode cX7_dueOf 26 = .ok (.getfield 33, 3) := by decide +kernel
theorem dX7_dueOf_29 : decode cX7_dueOf 29 = .ok (.iload_n 3, 1) := by decide +kernel
theorem dX7_dueOf_30 : decode cX7_dueOf 30 = .ok (.iconst 4, 1) := by decide +kernel
theorem dX7_dueOf_31 : decode cX7_dueOf 31 = .ok (.imul, 1) := by decide +kernel
theorem dX7_dueOf_32 : decode cX7_dueOf 32 = .ok (.iconst 3, 1) := by decide +kernel
theorem dX7_dueOf_33 : decode cX7_dueOf 33 = .ok (.iadd, 1) := by decide +kernel
theorem dX7_dueOf_34 : decode cX7_dueOf 34 = .ok (.iaload, 1) := by decide +kernel
theorem dX7_dueOf_35 : decode cX7_dueOf 35 = .ok (.iadd, 1) := by decide +kernel
theorem dX7_dueOf_36 : decode cX7_dueOf 36 = .ok (.istore_n 2, 1) := by decide +kernel
theorem dX7_dueOf_37 : decode cX7_dueOf 37 = .ok (.iinc 3 1, 3) := by decide +kernel
theorem dX7_dueOf_40 : decode cX7_dueOf 40 = .ok (.goto (-36), 3) := by decide +kernel
theorem dX7_dueOf_43 : decode cX7_dueOf 43 = .ok (.iload_n 2, 1) := by decide +kernel
theorem dX7_dueOf_44 : decode cX7_dueOf 44 = .ok (.ireturn, 1) := by decide +kernel
def f_State_dueOf_L4 (σ : Mem) (x0 : Nat) (x1 : Int32) (a : Int32 × Int32) : Option ((Int32 × Int32) ⊕ (Int32)) :=
  @Prod.casesOn (Int32) (Int32) (fun _ => Option ((Int32 × Int32) ⊕ (Int32))) a fun z2 z3 =>
  if (mI σ x0 9) ≤ z3 then
    some (.inr z2)
  else
    if inb (z3 * (4 : Int32)) 96 then
      if (mI σ (x0 + 8) (z3 * (4 : Int32)).toNatClampNeg) = x1 then
        if inb ((z3 * (4 : Int32)) + (3 : Int32)) 96 then
          some (.inl ((z2 + (mI σ (x0 + 8) ((z3 * (4 : Int32)) + (3 : Int32)).toNatClampNeg)), (z3 + (1 : Int32))))
        else none
      else
        some (.inl (z2, (z3 + (1 : Int32))))
    else none
def f_State_dueOf (σ : Mem) (x0 : Nat) (x1 : Int32) : Option (Int32) :=
  loopF (f_State_dueOf_L4 σ x0 x1) FU ((0 : Int32), (0 : Int32))
set_option maxHeartbeats 4000000 in
set_option maxRecDepth 20000 in
theorem gs_State_dueOf_L4 (X : Cx θ p s m args c cX7_dueOf 4 RX7) (hr : meth.sig.returnType = some .int) (hlk : meth.locks = false)  {σ : Mem} {x0 : Nat} {x1 : Int32} {r : Int32} (h0 : kd x0 = 8) (z2 : Int32) (z3 : Int32) (x : (Int32 × Int32) ⊕ (Int32)) (h : f_State_dueOf_L4 σ x0 x1 (z2, z3) = some x) (hk : Sum.elim (fun a => @Prod.casesOn (Int32) (Int32) (fun _ => Prop) a fun z2 z3 => GB θ p l e 0 s m args below meth c 4 (some (.int r), σ) 4 [(0, .ref (be θ + x0)), (1, .int x1), (2, .int z2), (3, .int z3)] [] σ) (fun b => b = r) x) : GB θ p l e 0 s m args below meth c 4 (some (.int r), σ) 4 [(0, .ref (be θ + x0)), (1, .int x1), (2, .int z2), (3, .int z3)] [] σ := by
  unfold f_State_dueOf_L4 at h
  dsimp only at h
  refine g_iload_n X dX7_dueOf_4 rfl 3 rfl ?_
  refine g_aload_n X dX7_dueOf_5 rfl 0 rfl ?_
  refine g_get X fl_RX7_39 dX7_dueOf_6 h0 (v := .int (mI σ x0 9)) rfl ?_
  refine g_icmp_ge (tgt := 43) X dX7_dueOf_9 (by decide) (fun c1 => ?_) (fun c1 => ?_)
  · replace h := (if_pos c1).symm.trans h
    refine g_iload_n X dX7_dueOf_43 rfl 2 rfl ?_
    have hk := inr_hk h hk
    have hk : z2 = r := hk
    subst hk
    exact g_iret X hr hlk dX7_dueOf_44 rfl
  · replace h := (if_neg c1).symm.trans h
    refine g_aload_n X dX7_dueOf_12 rfl 0 rfl ?_
    refine g_get X fl_RX7_33 dX7_dueOf_13 h0 (v := .ref (be θ + (x0 + 8))) rfl ?_
    refine g_iload_n X dX7_dueOf_16 rfl 3 rfl ?_
    refine g_iconst X dX7_dueOf_17 (v := (4 : Int32)) ic_4 ?_
    refine g_imul X dX7_dueOf_18 ?_
    obtain ⟨g2, h⟩ := ite_some h
    refine g_iald X (lk7_7 h0).1 (lk7_7 h0).2 (inb_in g2) dX7_dueOf_19 ?_
    refine g_iload_n X dX7_dueOf_20 rfl 1 rfl ?_
    refine g_icmp_ne (tgt := 37) X dX7_dueOf_21 (by decide) (fun c3 => ?_) (fun c3 => ?_)
    · replace h := (if_neg c3).symm.trans h
      refine g_iinc X dX7_dueOf_37 (kq := 3) rfl (congrArg (HAdd.hAdd _) ic_1) (by decide) (lv' := [(3, .int (z3 + (1 : Int32))), (0, .ref (be θ + x0)), (1, .int x1), (2, .int z2)]) rfl ?_
      refine g_goto (tgt := 4) X dX7_dueOf_40 (by decide) ?_
      have hk := inl_hk h hk
      exact g_sub (lv' := [(0, .ref (be θ + x0)), (1, .int x1), (2, .int z2), (3, .int (z3 + (1 : Int32)))]) [1, 2, 3, 0] rfl hk
    · replace h := (if_pos c3).symm.trans h
      refine g_iload_n X dX7_dueOf_24 rfl 2 rfl ?_
      refine g_aload_n X dX7_dueOf_25 rfl 0 rfl ?_
      refine g_get X fl_RX7_33 dX7_dueOf_26 h0 (v := .ref (be θ + (x0 + 8))) rfl ?_
      refine g_iload_n X dX7_dueOf_29 rfl 3 rfl ?_
      refine g_iconst X dX7_dueOf_30 (v := (4 : Int32)) ic_4 ?_
      refine g_imul X dX7_dueOf_31 ?_
      refine g_iconst X dX7_dueOf_32 (v := (3 : Int32)) ic_3 ?_
      refine g_iadd X dX7_dueOf_33 ?_
      obtain ⟨g4, h⟩ := ite_some h
      refine g_iald X (lk7_7 h0).1 (lk7_7 h0).2 (inb_in g4) dX7_dueOf_34 ?_
      refine g_iadd X dX7_dueOf_35 ?_
      refine g_istore_n X dX7_dueOf_36 rfl (by decide) (lv' := [(2, .int (z2 + (mI σ (x0 + 8) ((z3 * (4 : Int32)) + (3 : Int32)).toNatClampNeg))), (0, .ref (be θ + x0)), (1, .int x1), (3, .int z3)]) rfl ?_
      refine g_iinc X dX7_dueOf_37 (kq := 3) rfl (congrArg (HAdd.hAdd _) ic_1) (by decide) (lv' := [(3, .int (z3 + (1 : Int32))), (2, .int (z2 + (mI σ (x0 + 8) ((z3 * (4 : Int32)) + (3 : Int32)).toNatClampNeg))), (0, .ref (be θ + x0)), (1, .int x1)]) rfl ?_
      refine g_goto (tgt := 4) X dX7_dueOf_40 (by decide) ?_
      have hk := inl_hk h hk
      exact g_sub (lv' := [(0, .ref (be θ + x0)), (1, .int x1), (2, .int (z2 + (mI σ (x0 + 8) ((z3 * (4 : Int32)) + (3 : Int32)).toNatClampNeg))), (3, .int (z3 + (1 : Int32)))]) [2, 3, 1, 0] rfl hk
set_option maxHeartbeats 4000000 in
set_option maxRecDepth 20000 in
theorem gl_State_dueOf_L4 (X : Cx θ p s m args c cX7_dueOf 4 RX7) (hr : meth.sig.returnType = some .int) (hlk : meth.locks = false)  {σ : Mem} {x0 : Nat} {x1 : Int32} {r : Int32} (h0 : kd x0 = 8) (n : Nat) (a : Int32 × Int32) (b : Int32) (h : loopF (f_State_dueOf_L4 σ x0 x1) n a = some b) (hk : (fun b => b = r) b) : (fun a => @Prod.casesOn (Int32) (Int32) (fun _ => Prop) a fun z2 z3 => GB θ p l e 0 s m args below meth c 4 (some (.int r), σ) 4 [(0, .ref (be θ + x0)), (1, .int x1), (2, .int z2), (3, .int z3)] [] σ) a :=
  loopF_by (P := (fun a => @Prod.casesOn (Int32) (Int32) (fun _ => Prop) a fun z2 z3 => GB θ p l e 0 s m args below meth c 4 (some (.int r), σ) 4 [(0, .ref (be θ + x0)), (1, .int x1), (2, .int z2), (3, .int z3)] [] σ)) (K := (fun b => b = r)) (fun a x h hk => by obtain ⟨z2, z3⟩ := a; exact gs_State_dueOf_L4 X hr hlk  h0 z2 z3 x h hk) n a b h hk
set_option maxHeartbeats 4000000 in
set_option maxRecDepth 20000 in
theorem g_State_dueOf (X : Cx θ p s m args c cX7_dueOf 4 RX7) (hr : meth.sig.returnType = some .int) (hlk : meth.locks = false)  {σ : Mem} {x0 : Nat} {x1 : Int32} {r : Int32} (h0 : kd x0 = 8) (h : f_State_dueOf σ x0 x1 = some r) : GB θ p l e 0 s m args below meth c 4 (some (.int r), σ) 0 [(0, .ref (be θ + x0)), (1, .int x1)] [] σ := by
  unfold f_State_dueOf at h
  refine g_iconst X dX7_dueOf_0 (v := (0 : Int32)) ic_0 ?_
  refine g_istore_n X dX7_dueOf_1 rfl (by decide) (lv' := [(2, .int (0 : Int32)), (0, .ref (be θ + x0)), (1, .int x1)]) rfl ?_
  refine g_iconst X dX7_dueOf_2 (v := (0 : Int32)) ic_0 ?_
  refine g_istore_n X dX7_dueOf_3 rfl (by decide) (lv' := [(3, .int (0 : Int32)), (2, .int (0 : Int32)), (0, .ref (be θ + x0)), (1, .int x1)]) rfl ?_
  exact g_sub (lv' := [(0, .ref (be θ + x0)), (1, .int x1), (2, .int (0 : Int32)), (3, .int (0 : Int32))]) [2, 3, 1, 0] rfl (gl_State_dueOf_L4 X hr hlk  h0  FU _ _ h rfl)
set_option maxHeartbeats 4000000 in
set_option maxRecDepth 20000 in
theorem c_State_dueOf {θ : Th} {l : Launch} {σ : Mem} {x0 : Nat} {x1 : Int32} {r : Int32} (h0 : kd x0 = 8) (h : f_State_dueOf σ x0 x1 = some r) : Cn θ l yX7_dueOf cX7_dueOf 4 (some .int) 0 0 0 [.ref (be θ + x0), .int x1] σ (some (.int r), σ) :=
  Cn.of (by decide) (Nat.le_of_ble_eq_true rfl) (fun p e s m below meth c X hr hlk => g_State_dueOf X hr hlk h0 h)
theorem dX9_isAfraid_0 : decode cX9_isAfraid 0 = .ok (.aload_n 1, 1) := by decide +kernel
theorem dX9_isAfraid_1 : decode cX9_isAfraid 1 = .ok (.iload_n 2, 1) := by decide +kernel
theorem dX9_isAfraid_2 : decode cX9_isAfraid 2 = .ok (.invokevirtual 82, 3) := by decide +kernel
theorem dX9_isAfraid_5 : decode cX9_isAfraid 5 = .ok (.bipush 6, 2) := by decide +kernel
theorem dX9_isAfraid_7 : decode cX9_isAfraid 7 = .ok (.aload_n 0, 1) := by decide +kernel
theorem dX9_isAfraid_8 : decode cX9_isAfraid 8 = .ok (.getfield 24, 3) := by decide +kernel
theorem dX9_isAfraid_11 : decode cX9_isAfraid 11 = .ok (.iload_n 2, 1) := by decide +kernel
theorem dX9_isAfraid_12 : decode cX9_isAfraid 12 = .ok (.invokevirtual 85, 3) := by decide +kernel
theorem dX9_isAfraid_15 : decode cX9_isAfraid 15 = .ok (.imul, 1) := by decide +kernel
theorem dX9_isAfraid_16 : decode cX9_isAfraid 16 = .ok (.if_icmp .le 7, 3) := by decide +kernel
theorem dX9_isAfraid_19 : decode cX9_isAfraid 19 = .ok (.iconst 1, 1) := by decide +kernel
theorem dX9_isAfraid_20 : decode cX9_isAfraid 20 = .ok (.goto 4, 3) := by decide +kernel
theorem dX9_isAfraid_23 : decode cX9_isAfraid 23 = .ok (.iconst 0, 1) := by decide +kernel
theorem dX9_isAfraid_24 : decode cX9_isAfraid 24 = .ok (.ireturn, 1) := by decide +kernel
def f_Trade_isAfraid (σ : Mem) (x1 : Nat) (x2 : Int32) : Option (Int32) :=
  (f_State_dueOf σ x1 x2).bind fun q1 =>
  if kd (mR σ 428 1) = 2 then
    (f_City_nerveOf σ (mR σ 428 1) x2).bind fun q3 =>
    if q1 ≤ ((6 : Int32) * q3) then
      some (0 : Int32)
    else
      some (1 : Int32)
  else none
set_option maxHeartbeats 4000000 in
set_option maxRecDepth 20000 in
theorem g_Trade_isAfraid (X : Cx θ p s m args c cX9_isAfraid 3 RX9) (hr : meth.sig.returnType = some .boolean) (hlk : meth.locks = false)  {σ : Mem} {x1 : Nat} {x2 : Int32} {r : Int32} (h1 : kd x1 = 8) (h : f_Trade_isAfraid σ x1 x2 = some r) : GB θ p l e 1 s m args below meth c 3 (some (.int r), σ) 0 [(0, .ref (be θ + 428)), (1, .ref (be θ + x1)), (2, .int x2)] [] σ := by
  unfold f_Trade_isAfraid at h
  refine g_aload_n X dX9_isAfraid_0 rfl 1 rfl ?_
  refine g_iload_n X dX9_isAfraid_1 rfl 2 rfl ?_
  obtain ⟨q1, hq1, h⟩ := Option.bind_eq_some_iff.mp h
  refine g_cV X (c_State_dueOf h1 hq1) lk_RX9_82 my_X7_dueOf (a := x1) (ci := 7) h1 (by decide) rfl (As := [.int x2]) (rest := []) rfl rfl (Nat.le_of_ble_eq_true rfl) ⟨(Nat.le_of_ble_eq_true rfl), (Nat.le_of_ble_eq_true rfl)⟩ ⟨(Nat.le_of_ble_eq_true rfl), (Nat.le_of_ble_eq_true rfl)⟩ dX9_isAfraid_2 (st' := [.int q1]) (σ' := σ) rfl rfl ?_
  refine g_bipush X dX9_isAfraid_5 (v := (6 : Int32)) bp_6 ?_
  refine g_aload_n X dX9_isAfraid_7 rfl 0 rfl ?_
  refine g_get X fl_RX9_24 dX9_isAfraid_8 kd_428 (v := rv (be θ) (mR σ 428 1)) rfl ?_
  refine g_iload_n X dX9_isAfraid_11 rfl 2 rfl ?_
  obtain ⟨g2, h⟩ := ite_some h
  rw [← rv_of (β := be θ) g2 (by decide)]
  obtain ⟨q3, hq3, h⟩ := Option.bind_eq_some_iff.mp h
  refine g_cV X (c_City_nerveOf g2 hq3) lk_RX9_85 my_X1_nerveOf (a := (mR σ 428 1)) (ci := 1) g2 (by decide) rfl (As := [.int x2]) (rest := [.int (6 : Int32), .int q1]) rfl rfl (Nat.le_of_ble_eq_true rfl) ⟨(Nat.le_of_ble_eq_true rfl), (Nat.le_of_ble_eq_true rfl)⟩ ⟨(Nat.le_of_ble_eq_true rfl), (Nat.le_of_ble_eq_true rfl)⟩ dX9_isAfraid_12 (st' := [.int q3, .int (6 : Int32), .int q1]) (σ' := σ) rfl rfl ?_
  refine g_imul X dX9_isAfraid_15 ?_
  refine g_icmp_le (tgt := 23) X dX9_isAfraid_16 (by decide) (fun c4 => ?_) (fun c4 => ?_)
  · replace h := (if_pos c4).symm.trans h
    refine g_iconst X dX9_isAfraid_23 (v := (0 : Int32)) ic_0 ?_
    exact g_zret X hr hlk bz0 dX9_isAfraid_24 (by cases h; rfl)
  · replace h := (if_neg c4).symm.trans h
    refine g_iconst X dX9_isAfraid_19 (v := (1 : Int32)) ic_1 ?_
    refine g_goto (tgt := 24) X dX9_isAfraid_20 (by decide) ?_
    exact g_zret X hr hlk bz1 dX9_isAfraid_24 (by cases h; rfl)
set_option maxHeartbeats 4000000 in
set_option maxRecDepth 20000 in
theorem c_Trade_isAfraid {θ : Th} {l : Launch} {σ : Mem} {x1 : Nat} {x2 : Int32} {r : Int32} (h1 : kd x1 = 8) (h : f_Trade_isAfraid σ x1 x2 = some r) : Cn θ l yX9_isAfraid cX9_isAfraid 3 (some .boolean) 1 0 0 [.ref (be θ + 428), .ref (be θ + x1), .int x2] σ (some (.int r), σ) :=
  Cn.of (by decide) (Nat.le_of_ble_eq_true rfl) (fun p e s m below meth c X hr hlk => g_Trade_isAfraid X hr hlk h1 h)
theorem dX7_hasBillFor_0 : decode cX7_hasBillFor 0 = .ok (.iconst 0, 1) := by decide +kernel
theorem dX7_hasBillFor_1 : decode cX7_hasBillFor 1 = .ok (.istore_n 3, 1) := by decide +kernel
theorem dX7_hasBillFor_2 : decode cX7_hasBillFor 2 = .ok (.iload_n 3, 1) := by decide +kernel
theorem dX7_hasBillFor_3 : decode cX7_hasBillFor 3 = .ok (.aload_n 0, 1) := by decide +kernel
theorem dX7_hasBillFor_4 : decode cX7_hasBillFor 4 = .ok (.getfield 39, 3) := by decide +kernel
theorem dX7_hasBillFor_7 : decode cX7_hasBillFor 7 = .ok (.if_icmp .ge 37, 3) := by decide +kernel
theorem dX7_hasBillFor_10 : decode cX7_hasBillFor 10 = .ok (.aload_n 0, 1) := by decide +kernel
theorem dX7_hasBillFor_11 : decode cX7_hasBillFor 11 = .ok (.getfield 33, 3) := by decide +kernel
theorem dX7_hasBillFor_14 : decode cX7_hasBillFor 14 = .ok (.iload_n 3, 1) := by decide +kernel
theorem dX7_hasBillFor_15 : decode cX7_hasBillFor 15 = .ok (.iconst 4, 1) := by decide +kernel
theorem dX7_hasBillFor_16 : decode cX7_hasBillFor 16 = .ok (.imul, 1) := by decide +kernel
theorem dX7_hasBillFor_17 : decode cX7_hasBillFor 17 = .ok (.iaload, 1) := by decide +kernel
theorem dX7_hasBillFor_18 : decode cX7_hasBillFor 18 = .ok (.iload_n 1, 1) := by decide +kernel
theorem dX7_hasBillFor_19 : decode cX7_hasBillFor 19 = .ok (.if_icmp .ne 19, 3) := by decide +kernel
theorem dX7_hasBillFor_22 : decode cX7_hasBillFor 22 = .ok (.aload_n 0, 1) := by decide +kernel
theorem dX7_hasBillFor_23 : decode cX7_hasBillFor 23 = .ok (.getfield 33, 3) := by decide +kernel
theorem dX7_hasBillFor_26 : decode cX7_hasBillFor 26 = .ok (.iload_n 3, 1) := by decide +kernel
theorem dX7_hasBillFor_27 : decode cX7_hasBillFor 27 = .ok (.iconst 4, 1) := by decide +kernel
theorem dX7_hasBillFor_28 : decode cX7_hasBillFor 28 = .ok (.imul, 1) := by decide +kernel
theorem dX7_hasBillFor_29 : decode cX7_hasBillFor 29 = .ok (.iconst 1, 1) := by decide +kernel
theorem dX7_hasBillFor_30 : decode cX7_hasBillFor 30 = .ok (.iadd, 1) := by decide +kernel
theorem dX7_hasBillFor_31 : decode cX7_hasBillFor 31 = .ok (.iaload, 1) := by decide +kernel
theorem dX7_hasBillFor_32 : decode cX7_hasBillFor 32 = .ok (.iload_n 2, 1) := by decide +kernel
theorem dX7_hasBillFor_33 : decode cX7_hasBillFor 33 = .ok (.if_icmp .ne 5, 3) := by decide +kernel
theorem dX7_hasBillFor_36 : decode cX7_hasBillFor 36 = .ok (.iconst 1, 1) := by decide +kernel
theorem dX7_hasBillFor_37 : decode cX7_hasBillFor 37 = .ok (.ireturn, 1) := by decide +kernel
theorem dX7_hasBillFor_38 : decode cX7_hasBillFor 38 = .ok (.iinc 3 1, 3) := by decide +kernel
theorem dX7_hasBillFor_41 : decode cX7_hasBillFor 41 = .ok (.goto (-39), 3) := by decide +kernel
theorem dX7_hasBillFor_44 : decode cX7_hasBillFor 44 = .ok (.iconst 0, 1) := by decide +kernel
theorem dX7_hasBillFor_45 : decode cX7_hasBillFor 45 = .ok (.ireturn, 1) := by decide +kernel
def f_State_hasBillFor_L2 (σ : Mem) (x0 : Nat) (x1 : Int32) (x2 : Int32) (a : Int32) : Option ((Int32) ⊕ (Int32)) :=
  if (mI σ x0 9) ≤ a then
    some (.inr (0 : Int32))
  else
    if inb (a * (4 : Int32)) 96 then
      if (mI σ (x0 + 8) (a * (4 : Int32)).toNatClampNeg) = x1 then
        if inb ((a * (4 : Int32)) + (1 : Int32)) 96 then
          if (mI σ (x0 + 8) ((a * (4 : Int32)) + (1 : Int32)).toNatClampNeg) = x2 then
            some (.inr (1 : Int32))
          else
            some (.inl (a + (1 : Int32)))
        else none
      else
        some (.inl (a + (1 : Int32)))
    else none
def f_State_hasBillFor (σ : Mem) (x0 : Nat) (x1 : Int32) (x2 : Int32) : Option (Int32) :=
  loopF (f_State_hasBillFor_L2 σ x0 x1 x2) FU (0 : Int32)
set_option maxHeartbeats 4000000 in
set_option maxRecDepth 20000 in
theorem gs_State_hasBillFor_L2 (X : Cx θ p s m args c cX7_hasBillFor 4 RX7) (hr : meth.sig.returnType = some .boolean) (hlk : meth.locks = false)  {σ : Mem} {x0 : Nat} {x1 : Int32} {x2 : Int32} {r : Int32} (h0 : kd x0 = 8) (a : Int32) (x : (Int32) ⊕ (Int32)) (h : f_State_hasBillFor_L2 σ x0 x1 x2 a = some x) (hk : Sum.elim (fun a => GB θ p l e 0 s m args below meth c 4 (some (.int r), σ) 2 [(0, .ref (be θ + x0)), (1, .int x1), (2, .int x2), (3, .int a)] [] σ) (fun b => b = r) x) : GB θ p l e 0 s m args below meth c 4 (some (.int r), σ) 2 [(0, .ref (be θ + x0)), (1, .int x1), (2, .int x2), (3, .int a)] [] σ := by
  unfold f_State_hasBillFor_L2 at h
  refine g_iload_n X dX7_hasBillFor_2 rfl 3 rfl ?_
  refine g_aload_n X dX7_hasBillFor_3 rfl 0 rfl ?_
  refine g_get X fl_RX7_39 dX7_hasBillFor_4 h0 (v := .int (mI σ x0 9)) rfl ?_
  refine g_icmp_ge (tgt := 44) X dX7_hasBillFor_7 (by decide) (fun c1 => ?_) (fun c1 => ?_)
  · replace h := (if_pos c1).symm.trans h
    refine g_iconst X dX7_hasBillFor_44 (v := (0 : Int32)) ic_0 ?_
    have hk := inr_hk h hk
    have hk : (0 : Int32) = r := hk
    subst hk
    exact g_zret X hr hlk bz0 dX7_hasBillFor_45 rfl
  · replace h := (if_neg c1).symm.trans h
    refine g_aload_n X dX7_hasBillFor_10 rfl 0 rfl ?_
    refine g_get X fl_RX7_33 dX7_hasBillFor_11 h0 (v := .ref (be θ + (x0 + 8))) rfl ?_
    refine g_iload_n X dX7_hasBillFor_14 rfl 3 rfl ?_
    refine g_iconst X dX7_hasBillFor_15 (v := (4 : Int32)) ic_4 ?_
    refine g_imul X dX7_hasBillFor_16 ?_
    obtain ⟨g2, h⟩ := ite_some h
    refine g_iald X (lk7_7 h0).1 (lk7_7 h0).2 (inb_in g2) dX7_hasBillFor_17 ?_
    refine g_iload_n X dX7_hasBillFor_18 rfl 1 rfl ?_
    refine g_icmp_ne (tgt := 38) X dX7_hasBillFor_19 (by decide) (fun c3 => ?_) (fun c3 => ?_)
    · replace h := (if_neg c3).symm.trans h
      refine g_iinc X dX7_hasBillFor_38 (kq := 3) rfl (congrArg (HAdd.hAdd _) ic_1) (by decide) (lv' := [(3, .int (a + (1 : Int32))), (0, .ref (be θ + x0)), (1, .int x1), (2, .int x2)]) rfl ?_
      refine g_goto (tgt := 2) X dX7_hasBillFor_41 (by decide) ?_
      have hk := inl_hk h hk
      exact g_sub (lv' := [(0, .ref (be θ + x0)), (1, .int x1), (2, .int x2), (3, .int (a + (1 : Int32)))]) [1, 2, 3, 0] rfl hk
    · replace h := (if_pos c3).symm.trans h
      refine g_aload_n X dX7_hasBillFor_22 rfl 0 rfl ?_
      refine g_get X fl_RX7_33 dX7_hasBillFor_23 h0 (v := .ref (be θ + (x0 + 8))) rfl ?_
      refine g_iload_n X dX7_hasBillFor_26 rfl 3 rfl ?_
      refine g_iconst X dX7_hasBillFor_27 (v := (4 : Int32)) ic_4 ?_
      refine g_imul X dX7_hasBillFor_28 ?_
      refine g_iconst X dX7_hasBillFor_29 (v := (1 : Int32)) ic_1 ?_
      refine g_iadd X dX7_hasBillFor_30 ?_
      obtain ⟨g4, h⟩ := ite_some h
      refine g_iald X (lk7_7 h0).1 (lk7_7 h0).2 (inb_in g4) dX7_hasBillFor_31 ?_
      refine g_iload_n X dX7_hasBillFor_32 rfl 2 rfl ?_
      refine g_icmp_ne (tgt := 38) X dX7_hasBillFor_33 (by decide) (fun c5 => ?_) (fun c5 => ?_)
      · replace h := (if_neg c5).symm.trans h
        refine g_iinc X dX7_hasBillFor_38 (kq := 3) rfl (congrArg (HAdd.hAdd _) ic_1) (by decide) (lv' := [(3, .int (a + (1 : Int32))), (0, .ref (be θ + x0)), (1, .int x1), (2, .int x2)]) rfl ?_
        refine g_goto (tgt := 2) X dX7_hasBillFor_41 (by decide) ?_
        have hk := inl_hk h hk
        exact g_sub (lv' := [(0, .ref (be θ + x0)), (1, .int x1), (2, .int x2), (3, .int (a + (1 : Int32)))]) [1, 2, 3, 0] rfl hk
      · replace h := (if_pos c5).symm.trans h
        refine g_iconst X dX7_hasBillFor_36 (v := (1 : Int32)) ic_1 ?_
        have hk := inr_hk h hk
        have hk : (1 : Int32) = r := hk
        subst hk
        exact g_zret X hr hlk bz1 dX7_hasBillFor_37 rfl
set_option maxHeartbeats 4000000 in
set_option maxRecDepth 20000 in
theorem gl_State_hasBillFor_L2 (X : Cx θ p s m args c cX7_hasBillFor 4 RX7) (hr : meth.sig.returnType = some .boolean) (hlk : meth.locks = false)  {σ : Mem} {x0 : Nat} {x1 : Int32} {x2 : Int32} {r : Int32} (h0 : kd x0 = 8) (n : Nat) (a : Int32) (b : Int32) (h : loopF (f_State_hasBillFor_L2 σ x0 x1 x2) n a = some b) (hk : (fun b => b = r) b) : (fun a => GB θ p l e 0 s m args below meth c 4 (some (.int r), σ) 2 [(0, .ref (be θ + x0)), (1, .int x1), (2, .int x2), (3, .int a)] [] σ) a :=
  loopF_by (P := (fun a => GB θ p l e 0 s m args below meth c 4 (some (.int r), σ) 2 [(0, .ref (be θ + x0)), (1, .int x1), (2, .int x2), (3, .int a)] [] σ)) (K := (fun b => b = r)) (fun a x h hk => by exact gs_State_hasBillFor_L2 X hr hlk  h0 a x h hk) n a b h hk
set_option maxHeartbeats 4000000 in
set_option maxRecDepth 20000 in
theorem g_State_hasBillFor (X : Cx θ p s m args c cX7_hasBillFor 4 RX7) (hr : meth.sig.returnType = some .boolean) (hlk : meth.locks = false)  {σ : Mem} {x0 : Nat} {x1 : Int32} {x2 : Int32} {r : Int32} (h0 : kd x0 = 8) (h : f_State_hasBillFor σ x0 x1 x2 = some r) : GB θ p l e 0 s m args below meth c 4 (some (.int r), σ) 0 [(0, .ref (be θ + x0)), (1, .int x1), (2, .int x2)] [] σ := by
  unfold f_State_hasBillFor at h
  refine g_iconst X dX7_hasBillFor_0 (v := (0 : Int32)) ic_0 ?_
  refine g_istore_n X dX7_hasBillFor_1 rfl (by decide) (lv' := [(3, .int (0 : Int32)), (0, .ref (be θ + x0)), (1, .int x1), (2, .int x2)]) rfl ?_
  exact g_sub (lv' := [(0, .ref (be θ + x0)), (1, .int x1), (2, .int x2), (3, .int (0 : Int32))]) [1, 2, 3, 0] rfl (gl_State_hasBillFor_L2 X hr hlk  h0  FU _ _ h rfl)
set_option maxHeartbeats 4000000 in
set_option maxRecDepth 20000 in
theorem c_State_hasBillFor {θ : Th} {l : Launch} {σ : Mem} {x0 : Nat} {x1 : Int32} {x2 : Int32} {r : Int32} (h0 : kd x0 = 8) (h : f_State_hasBillFor σ x0 x1 x2 = some r) : Cn θ l yX7_hasBillFor cX7_hasBillFor 4 (some .boolean) 0 0 0 [.ref (be θ + x0), .int x1, .int x2] σ (some (.int r), σ) :=
  Cn.of (by decide) (Nat.le_of_ble_eq_true rfl) (fun p e s m below meth c X hr hlk => g_State_hasBillFor X hr hlk h0 h)
theorem dX9_pickUp_0 : decode cX9_pickUp 0 = .ok (.aload_n 1, 1) := by decide +kernel
theorem dX9_pickUp_1 : decode cX9_pickUp 1 = .ok (.getfield 95, 3) := by decide +kernel
theorem dX9_pickUp_4 : decode cX9_pickUp 4 = .ok (.iload_n 3, 1) := by decide +kernel
theorem dX9_pickUp_5 : decode cX9_pickUp 5 = .ok (.iload_n 2, 1) := by decide +kernel
theorem dX9_pickUp_6 : decode cX9_pickUp 6 = .ok (.iastore, 1) := by decide +kernel
theorem dX9_pickUp_7 : decode cX9_pickUp 7 = .ok (.aload_n 1, 1) := by decide +kernel
theorem dX9_pickUp_8 : decode cX9_pickUp 8 = .ok (.getfield 145, 3) := by decide +kernel
theorem dX9_pickUp_11 : decode cX9_pickUp 11 = .ok (.iload_n 3, 1) := by decide +kernel
theorem dX9_pickUp_12 : decode cX9_pickUp 12 = .ok (.iconst 0, 1) := by decide +kernel
theorem dX9_pickUp_13 : decode cX9_pickUp 13 = .ok (.iastore, 1) := by decide +kernel
theorem dX9_pickUp_14 : decode cX9_pickUp 14 = .ok (.aload_n 1, 1) := by decide +kernel
theorem dX9_pickUp_15 : decode cX9_pickUp 15 = .ok (.getfield 98, 3) := by decide +kernel
theorem dX9_pickUp_18 : decode cX9_pickUp 18 = .ok (.iload_n 2, 1) := by decide +kernel
theorem dX9_pickUp_19 : decode cX9_pickUp 19 = .ok (.iload_n 3, 1) := by decide +kernel
theorem dX9_pickUp_20 : decode cX9_pickUp 20 = .ok (.iastore, 1) := by decide +kernel
theorem dX9_pickUp_21 : decode cX9_pickUp 21 = .ok (.return_, 1) := by decide +kernel
def f_Trade_pickUp (σ : Mem) (x1 : Nat) (x2 : Int32) (x3 : Int32) : Option (Mem) :=
  if inb x3 8 then
    if inb x2 6 then
      some (sI (sI (sI σ (x1 + 1) x3.toNatClampNeg x2) (x1 + 3) x3.toNatClampNeg (0 : Int32)) (x1 + 5) x2.toNatClampNeg x3)
    else none
  else none
set_option maxHeartbeats 4000000 in
set_option maxRecDepth 20000 in
theorem g_Trade_pickUp (X : Cx θ p s m args c cX9_pickUp 4 RX9) (hr : meth.sig.returnType = none) (hlk : meth.locks = false)  {σ : Mem} {x1 : Nat} {x2 : Int32} {x3 : Int32} {r : Mem} (h1 : kd x1 = 8) (h : f_Trade_pickUp σ x1 x2 x3 = some r) : GB θ p l e 0 s m args below meth c 4 (none, r) 0 [(0, .ref (be θ + 428)), (1, .ref (be θ + x1)), (2, .int x2), (3, .int x3)] [] σ := by
  unfold f_Trade_pickUp at h
  refine g_aload_n X dX9_pickUp_0 rfl 1 rfl ?_
  refine g_get X fl_RX9_95 dX9_pickUp_1 h1 (v := .ref (be θ + (x1 + 1))) rfl ?_
  refine g_iload_n X dX9_pickUp_4 rfl 3 rfl ?_
  refine g_iload_n X dX9_pickUp_5 rfl 2 rfl ?_
  obtain ⟨g1, h⟩ := ite_some h
  refine g_iast X (lk7_0 h1).1 (lk7_0 h1).2 (inb_in g1) dX9_pickUp_6 ?_
  refine g_aload_n X dX9_pickUp_7 rfl 1 rfl ?_
  refine g_get X fl_RX9_145 dX9_pickUp_8 h1 (v := .ref (be θ + (x1 + 3))) rfl ?_
  refine g_iload_n X dX9_pickUp_11 rfl 3 rfl ?_
  refine g_iconst X dX9_pickUp_12 (v := (0 : Int32)) ic_0 ?_
  refine g_iast X (lk7_2 h1).1 (lk7_2 h1).2 (inb_in g1) dX9_pickUp_13 ?_
  refine g_aload_n X dX9_pickUp_14 rfl 1 rfl ?_
  refine g_get X fl_RX9_98 dX9_pickUp_15 h1 (v := .ref (be θ + (x1 + 5))) rfl ?_
  refine g_iload_n X dX9_pickUp_18 rfl 2 rfl ?_
  refine g_iload_n X dX9_pickUp_19 rfl 3 rfl ?_
  obtain ⟨g2, h⟩ := ite_some h
  refine g_iast X (lk7_4 h1).1 (lk7_4 h1).2 (inb_in g2) dX9_pickUp_20 ?_
  exact g_vret X hr hlk dX9_pickUp_21 (by cases h; rfl)
set_option maxHeartbeats 4000000 in
set_option maxRecDepth 20000 in
theorem c_Trade_pickUp {θ : Th} {l : Launch} {σ : Mem} {x1 : Nat} {x2 : Int32} {x3 : Int32} {r : Mem} (h1 : kd x1 = 8) (h : f_Trade_pickUp σ x1 x2 x3 = some r) : Cn θ l yX9_pickUp cX9_pickUp 4 (none) 0 0 0 [.ref (be θ + 428), .ref (be θ + x1), .int x2, .int x3] σ (none, r) :=
  Cn.of (by decide) (Nat.le_of_ble_eq_true rfl) (fun p e s m below meth c X hr hlk => g_Trade_pickUp X hr hlk h1 h)
theorem dX9_pickFavourite_0 : decode cX9_pickFavourite 0 = .ok (.iconst (-1), 1) := by decide +kernel
theorem dX9_pickFavourite_1 : decode cX9_pickFavourite 1 = .ok (.istore_n 3, 1) := by decide +kernel
theorem dX9_pickFavourite_2 : decode cX9_pickFavourite 2 = .ok (.iconst 0, 1) := by decide +kernel
theorem dX9_pickFavourite_3 : decode cX9_pickFavourite 3 = .ok (.istore 4, 2) := by decide +kernel
theorem dX9_pickFavourite_5 : decode cX9_pickFavourite 5 = .ok (.iconst 0, 1) := by decide +kernel
theorem dX9_pickFavourite_6 : decode cX9_pickFavourite 6 = .ok (.istore 5, 2) := by decide +kernel
theorem dX9_pickFavourite_8 : decode cX9_pickFavourite 8 = .ok (.iload 5, 2) := by decide +kernel
theorem dX9_pickFavourite_10 : decode cX9_pickFavourite 10 = .ok (.aload_n 0, 1) := by decide +kernel
theorem dX9_pickFavourite_11 : decode cX9_pickFavourite 11 = .ok (.getfield 24, 3) := by decide +kernel
theorem dX9_pickFavourite_14 : decode cX9_pickFavourite 14 = .ok (.getfield 32, 3) := by decide +kernel
theorem dX9_pickFavourite_17 : decode cX9_pickFavourite 17 = .ok (.if_icmp .ge 57, 3) := by decide +kernel
theorem dX9_pickFavourite_20 : decode cX9_pickFavourite 20 = .ok (.aload_n 1, 1) := by decide +kernel
theorem dX9_pickFavourite_21 : decode cX9_pickFavourite 21 = .ok (.getfield 95, 3) := by decide +kernel
theorem dX9_pickFavourite_24 : decode cX9_pickFavourite 24 = .ok (.iload 5, 2) := by decide +kernel
theorem dX9_pickFavourite_26 : decode cX9_pickFavourite 26 = .ok (.iaload, 1) := by decide +kernel
theorem dX9_pickFavourite_27 : decode cX9_pickFavourite 27 = .ok (.iconst (-1), 1) := by decide +kernel
theorem dX9_pickFavourite_28 : decode cX9_pickFavourite 28 = .ok (.if_icmp .ne 40, 3) := by decide +kernel
theorem dX9_pickFavourite_31 : decode cX9_pickFavourite 31 = .ok (.aload_n 1, 1) := by decide +kernel
theorem dX9_pickFavourite_32 : decode cX9_pickFavourite 32 = .ok (.iload_n 2, 1) := by decide +kernel
theorem dX9_pickFavourite_33 : decode cX9_pickFavourite 33 = .ok (.iload 5, 2) := by decide +kernel
theorem dX9_pickFavourite_35 : decode cX9_pickFavourite 35 = .ok (.invokevirtual 192, 3) := by decide +kernel
theorem dX9_pickFavourite_38 : decode cX9_pickFavourite 38 = .ok (.ifCond .eq 6, 3) := by decide +kernel
theorem dX9_pickFavourite_41 : decode cX9_pickFavourite 41 = .ok (.goto 27, 3) := by decide +kernel
theorem dX9_pickFavourite_44 : decode cX9_pickFavourite 44 = .ok (.aload_n 0, 1) := by decide +kernel
theorem dX9_pickFavourite_45 : decode cX9_pickFavourite 45 = .ok (.aload_n 1, 1) := by decide +kernel
theorem dX9_pickFavourite_46 : decode cX9_pickFavourite 46 = .ok (.iload_n 2, 1) := by decide +kernel
theorem dX9_pickFavourite_47 : decode cX9_pickFavourite 47 = .ok (.iload 5, 2) := by decide +kernel
theorem dX9_pickFavourite_49 : decode cX9_pickFavourite 49 = .ok (.invokevirtual 189, 3) := by decide +kernel
theorem dX9_pickFavourite_52 : decode cX9_pickFavourite 52 = .ok (.istore 6, 2) := by decide +kernel
theorem dX9_pickFavourite_54 : decode cX9_pickFavourite 54 = .ok (.iload 6, 2) := by decide +kernel
theorem dX9_pickFavourite_56 : decode cX9_pickFavourite 56 = .ok (.iload 4, 2) := by decide +kernel
theorem dX9_pickFavourite_58 : decode cX9_pickFavourite 58 = .ok (.if_icmp .le 10, 3) := by decide +kernel
theorem dX9_pickFavourite_61 : decode cX9_pickFavourite 61 = .ok (.iload 6, 2) := by decide +kernel
theorem dX9_pickFavourite_63 : decode cX9_pickFavourite 63 = .ok (.istore 4, 2) := by decide +kernel
theorem dX9_pickFavourite_65 : decode cX9_pickFavourite 65 = .ok (.iload 5, 2) := by decide +kernel
theorem dX9_pickFavourite_67 : decode cX9_pickFavourite 67 = .ok (.istore_n 3, 1) := by decide +kernel
theorem dX9_pickFavourite_68 : decode cX9_pickFavourite 68 = .ok (.iinc 5 1, 3) := by decide +kernel
theorem dX9_pickFavourite_71 : decode cX9_pickFavourite 71 = .ok (.goto (-63), 3) := by decide +kernel
theorem dX9_pickFavourite_74 : decode cX9_pickFavourite 74 = .ok (.iload_n 3, 1) := by decide +kernel
theorem dX9_pickFavourite_75 : decode cX9_pickFavourite 75 = .ok (.iconst (-1), 1) := by decide +kernel
theorem dX9_pickFavourite_76 : decode cX9_pickFavourite 76 = .ok (.if_icmp .eq 10, 3) := by decide +kernel
theorem dX9_pickFavourite_79 : decode cX9_pickFavourite 79 = .ok (.aload_n 0, 1) := by decide +kernel
theorem dX9_pickFavourite_80 : decode cX9_pickFavourite 80 = .ok (.aload_n 1, 1) := by decide +kernel
theorem dX9_pickFavourite_81 : decode cX9_pickFavourite 81 = .ok (.iload_n 2, 1) := by decide +kernel
theorem dX9_pickFavourite_82 : decode cX9_pickFavourite 82 = .ok (.iload_n 3, 1) := by decide +kernel
theorem dX9_pickFavourite_83 : decode cX9_pickFavourite 83 = .ok (.invokevirtual 128, 3) := by decide +kernel
theorem dX9_pickFavourite_86 : decode cX9_pickFavourite 86 = .ok (.return_, 1) := by decide +kernel
def f_Trade_pickFavourite_L8 (x1 : Nat) (x2 : Int32) (a : Mem × Int32 × Int32 × Int32) : Option ((Mem × Int32 × Int32 × Int32) ⊕ (Mem × Int32)) :=
  @Prod.casesOn (Mem) (Int32 × Int32 × Int32) (fun _ => Option ((Mem × Int32 × Int32 × Int32) ⊕ (Mem × Int32))) a fun τ b0 =>
  @Prod.casesOn (Int32) (Int32 × Int32) (fun _ => Option ((Mem × Int32 × Int32 × Int32) ⊕ (Mem × Int32))) b0 fun z3 b1 =>
  @Prod.casesOn (Int32) (Int32) (fun _ => Option ((Mem × Int32 × Int32 × Int32) ⊕ (Mem × Int32))) b1 fun z4 z5 =>
  if kd (mR τ 428 1) = 2 then
    if (mI τ (mR τ 428 1) 3) ≤ z5 then
      some (.inr (τ, z3))
    else
      if inb z5 8 then
        if (mI τ (x1 + 1) z5.toNatClampNeg) = (-1 : Int32) then
          (f_State_hasBillFor τ x1 x2 z5).bind fun q5 =>
          if q5 = (0 : Int32) then
            (f_Trade_liked τ x1 x2 z5).bind fun q7 =>
            if q7.1 ≤ z4 then
              some (.inl (q7.2, z3, z4, (z5 + (1 : Int32))))
            else
              some (.inl (q7.2, z5, q7.1, (z5 + (1 : Int32))))
          else
            some (.inl (τ, z3, z4, (z5 + (1 : Int32))))
        else
          some (.inl (τ, z3, z4, (z5 + (1 : Int32))))
      else none
  else none
def f_Trade_pickFavourite (σ : Mem) (x1 : Nat) (x2 : Int32) : Option (Mem) :=
  (loopF (f_Trade_pickFavourite_L8 x1 x2) FU (σ, (-1 : Int32), (0 : Int32), (0 : Int32))).bind fun q9 =>
  @Prod.casesOn (Mem) (Int32) (fun _ => Option (Mem)) q9 fun τ9 w9_3 =>
  if w9_3 = (-1 : Int32) then
    some τ9
  else
    (f_Trade_pickUp τ9 x1 x2 w9_3).bind fun q11 =>
    some q11
set_option maxHeartbeats 4000000 in
set_option maxRecDepth 20000 in
theorem gs_Trade_pickFavourite_L8 (X : Cx θ p s m args c cX9_pickFavourite 7 RX9) (hr : meth.sig.returnType = none) (hlk : meth.locks = false)  {x1 : Nat} {x2 : Int32} {r : Mem} (h1 : kd x1 = 8) (τ : Mem) (z3 : Int32) (z4 : Int32) (z5 : Int32) (x : (Mem × Int32 × Int32 × Int32) ⊕ (Mem × Int32)) (h : f_Trade_pickFavourite_L8 x1 x2 (τ, z3, z4, z5) = some x) (hk : Sum.elim (fun a => @Prod.casesOn (Mem) (Int32 × Int32 × Int32) (fun _ => Prop) a fun τ b0 => @Prod.casesOn (Int32) (Int32 × Int32) (fun _ => Prop) b0 fun z3 b1 => @Prod.casesOn (Int32) (Int32) (fun _ => Prop) b1 fun z4 z5 => GB θ p l e 3 s m args below meth c 7 (none, r) 8 [(0, .ref (be θ + 428)), (1, .ref (be θ + x1)), (2, .int x2), (3, .int z3), (4, .int z4), (5, .int z5)] [] τ) (fun ex => @Prod.casesOn (Mem) (Int32) (fun _ => Prop) ex fun τ w_3 => GB θ p l e 3 s m args below meth c 7 (none, r) 74 [(0, .ref (be θ + 428)), (1, .ref (be θ + x1)), (2, .int x2), (3, .int w_3)] [] τ) x) : GB θ p l e 3 s m args below meth c 7 (none, r) 8 [(0, .ref (be θ + 428)), (1, .ref (be θ + x1)), (2, .int x2), (3, .int z3), (4, .int z4), (5, .int z5)] [] τ := by
  unfold f_Trade_pickFavourite_L8 at h
  dsimp only at h
  refine g_iload X dX9_pickFavourite_8 5 rfl ?_
  refine g_aload_n X dX9_pickFavourite_10 rfl 0 rfl ?_
  refine g_get X fl_RX9_24 dX9_pickFavourite_11 kd_428 (v := rv (be θ) (mR τ 428 1)) rfl ?_
  obtain ⟨g1, h⟩ := ite_some h
  rw [← rv_of (β := be θ) g1 (by decide)]
  refine g_get X fl_RX9_32 dX9_pickFavourite_14 g1 (v := .int (mI τ (mR τ 428 1) 3)) rfl ?_
  refine g_icmp_ge (tgt := 74) X dX9_pickFavourite_17 (by decide) (fun c2 => ?_) (fun c2 => ?_)
  · replace h := (if_pos c2).symm.trans h
    have hk := inr_hk h hk
    exact g_sub (lv' := [(0, .ref (be θ + 428)), (1, .ref (be θ + x1)), (2, .int x2), (3, .int z3)]) [0, 1, 2, 3] rfl hk
  · replace h := (if_neg c2).symm.trans h
    refine g_aload_n X dX9_pickFavourite_20 rfl 1 rfl ?_
    refine g_get X fl_RX9_95 dX9_pickFavourite_21 h1 (v := .ref (be θ + (x1 + 1))) rfl ?_
    refine g_iload X dX9_pickFavourite_24 5 rfl ?_
    obtain ⟨g3, h⟩ := ite_some h
    refine g_iald X (lk7_0 h1).1 (lk7_0 h1).2 (inb_in g3) dX9_pickFavourite_26 ?_
    refine g_iconst X dX9_pickFavourite_27 (v := (-1 : Int32)) ic_m1 ?_
    refine g_icmp_ne (tgt := 68) X dX9_pickFavourite_28 (by decide) (fun c4 => ?_) (fun c4 => ?_)
    · replace h := (if_neg c4).symm.trans h
      refine g_iinc X dX9_pickFavourite_68 (kq := 5) rfl (congrArg (HAdd.hAdd _) ic_1) (by decide) (lv' := [(5, .int (z5 + (1 : Int32))), (0, .ref (be θ + 428)), (1, .ref (be θ + x1)), (2, .int x2), (3, .int z3), (4, .int z4)]) rfl ?_
      refine g_goto (tgt := 8) X dX9_pickFavourite_71 (by decide) ?_
      have hk := inl_hk h hk
      exact g_sub (lv' := [(0, .ref (be θ + 428)), (1, .ref (be θ + x1)), (2, .int x2), (3, .int z3), (4, .int z4), (5, .int (z5 + (1 : Int32)))]) [1, 2, 3, 4, 5, 0] rfl hk
    · replace h := (if_pos c4).symm.trans h
      refine g_aload_n X dX9_pickFavourite_31 rfl 1 rfl ?_
      refine g_iload_n X dX9_pickFavourite_32 rfl 2 rfl ?_
      refine g_iload X dX9_pickFavourite_33 5 rfl ?_
      obtain ⟨q5, hq5, h⟩ := Option.bind_eq_some_iff.mp h
      refine g_cV X (c_State_hasBillFor h1 hq5) lk_RX9_192 my_X7_hasBillFor (a := x1) (ci := 7) h1 (by decide) rfl (As := [.int x2, .int z5]) (rest := []) rfl rfl (Nat.le_of_ble_eq_true rfl) ⟨(Nat.le_of_ble_eq_true rfl), (Nat.le_of_ble_eq_true rfl)⟩ ⟨(Nat.le_of_ble_eq_true rfl), (Nat.le_of_ble_eq_true rfl)⟩ dX9_pickFavourite_35 (st' := [.int q5]) (σ' := τ) rfl rfl ?_
      refine g_if_eq (tgt := 44) X dX9_pickFavourite_38 (by decide) (fun c6 => ?_) (fun c6 => ?_)
      · replace h := (if_pos c6).symm.trans h
        refine g_aload_n X dX9_pickFavourite_44 rfl 0 rfl ?_
        refine g_aload_n X dX9_pickFavourite_45 rfl 1 rfl ?_
        refine g_iload_n X dX9_pickFavourite_46 rfl 2 rfl ?_
        refine g_iload X dX9_pickFavourite_47 5 rfl ?_
        obtain ⟨q7, hq7, h⟩ := Option.bind_eq_some_iff.mp h
        refine g_cV X (c_Trade_liked h1 hq7) lk_RX9_189 my_X9_liked (a := 428) (ci := 9) kd_428 (by decide) rfl (As := [.ref (be θ + x1), .int x2, .int z5]) (rest := []) rfl rfl (Nat.le_of_ble_eq_true rfl) ⟨(Nat.le_of_ble_eq_true rfl), (Nat.le_of_ble_eq_true rfl)⟩ ⟨(Nat.le_of_ble_eq_true rfl), (Nat.le_of_ble_eq_true rfl)⟩ dX9_pickFavourite_49 (st' := [.int q7.1]) (σ' := q7.2) rfl rfl ?_
        refine g_istore X dX9_pickFavourite_52 (by decide) (lv' := [(6, .int q7.1), (0, .ref (be θ + 428)), (1, .ref (be θ + x1)), (2, .int x2), (3, .int z3), (4, .int z4), (5, .int z5)]) rfl ?_
        refine g_iload X dX9_pickFavourite_54 0 rfl ?_
        refine g_iload X dX9_pickFavourite_56 5 rfl ?_
        refine g_icmp_le (tgt := 68) X dX9_pickFavourite_58 (by decide) (fun c8 => ?_) (fun c8 => ?_)
        · replace h := (if_pos c8).symm.trans h
          refine g_iinc X dX9_pickFavourite_68 (kq := 6) rfl (congrArg (HAdd.hAdd _) ic_1) (by decide) (lv' := [(5, .int (z5 + (1 : Int32))), (6, .int q7.1), (0, .ref (be θ + 428)), (1, .ref (be θ + x1)), (2, .int x2), (3, .int z3), (4, .int z4)]) rfl ?_
          refine g_goto (tgt := 8) X dX9_pickFavourite_71 (by decide) ?_
          have hk := inl_hk h hk
          exact g_sub (lv' := [(0, .ref (be θ + 428)), (1, .ref (be θ + x1)), (2, .int x2), (3, .int z3), (4, .int z4), (5, .int (z5 + (1 : Int32)))]) [2, 3, 4, 5, 6, 0] rfl hk
        · replace h := (if_neg c8).symm.trans h
          refine g_iload X dX9_pickFavourite_61 0 rfl ?_
          refine g_istore X dX9_pickFavourite_63 (by decide) (lv' := [(4, .int q7.1), (6, .int q7.1), (0, .ref (be θ + 428)), (1, .ref (be θ + x1)), (2, .int x2), (3, .int z3), (5, .int z5)]) rfl ?_
          refine g_iload X dX9_pickFavourite_65 6 rfl ?_
          refine g_istore_n X dX9_pickFavourite_67 rfl (by decide) (lv' := [(3, .int z5), (4, .int q7.1), (6, .int q7.1), (0, .ref (be θ + 428)), (1, .ref (be θ + x1)), (2, .int x2), (5, .int z5)]) rfl ?_
          refine g_iinc X dX9_pickFavourite_68 (kq := 6) rfl (congrArg (HAdd.hAdd _) ic_1) (by decide) (lv' := [(5, .int (z5 + (1 : Int32))), (3, .int z5), (4, .int q7.1), (6, .int q7.1), (0, .ref (be θ + 428)), (1, .ref (be θ + x1)), (2, .int x2)]) rfl ?_
          refine g_goto (tgt := 8) X dX9_pickFavourite_71 (by decide) ?_
          have hk := inl_hk h hk
          exact g_sub (lv' := [(0, .ref (be θ + 428)), (1, .ref (be θ + x1)), (2, .int x2), (3, .int z5), (4, .int q7.1), (5, .int (z5 + (1 : Int32)))]) [4, 5, 6, 1, 2, 0] rfl hk
      · replace h := (if_neg c6).symm.trans h
        refine g_goto (tgt := 68) X dX9_pickFavourite_41 (by decide) ?_
        refine g_iinc X dX9_pickFavourite_68 (kq := 5) rfl (congrArg (HAdd.hAdd _) ic_1) (by decide) (lv' := [(5, .int (z5 + (1 : Int32))), (0, .ref (be θ + 428)), (1, .ref (be θ + x1)), (2, .int x2), (3, .int z3), (4, .int z4)]) rfl ?_
        refine g_goto (tgt := 8) X dX9_pickFavourite_71 (by decide) ?_
        have hk := inl_hk h hk
        exact g_sub (lv' := [(0, .ref (be θ + 428)), (1, .ref (be θ + x1)), (2, .int x2), (3, .int z3), (4, .int z4), (5, .int (z5 + (1 : Int32)))]) [1, 2, 3, 4, 5, 0] rfl hk
set_option maxHeartbeats 4000000 in
set_option maxRecDepth 20000 in
theorem gl_Trade_pickFavourite_L8 (X : Cx θ p s m args c cX9_pickFavourite 7 RX9) (hr : meth.sig.returnType = none) (hlk : meth.locks = false)  {x1 : Nat} {x2 : Int32} {r : Mem} (h1 : kd x1 = 8) (n : Nat) (a : Mem × Int32 × Int32 × Int32) (b : Mem × Int32) (h : loopF (f_Trade_pickFavourite_L8 x1 x2) n a = some b) (hk : (fun ex => @Prod.casesOn (Mem) (Int32) (fun _ => Prop) ex fun τ w_3 => GB θ p l e 3 s m args below meth c 7 (none, r) 74 [(0, .ref (be θ + 428)), (1, .ref (be θ + x1)), (2, .int x2), (3, .int w_3)] [] τ) b) : (fun a => @Prod.casesOn (Mem) (Int32 × Int32 × Int32) (fun _ => Prop) a fun τ b0 => @Prod.casesOn (Int32) (Int32 × Int32) (fun _ => Prop) b0 fun z3 b1 => @Prod.casesOn (Int32) (Int32) (fun _ => Prop) b1 fun z4 z5 => GB θ p l e 3 s m args below meth c 7 (none, r) 8 [(0, .ref (be θ + 428)), (1, .ref (be θ + x1)), (2, .int x2), (3, .int z3), (4, .int z4), (5, .int z5)] [] τ) a :=
  loopF_by (P := (fun a => @Prod.casesOn (Mem) (Int32 × Int32 × Int32) (fun _ => Prop) a fun τ b0 => @Prod.casesOn (Int32) (Int32 × Int32) (fun _ => Prop) b0 fun z3 b1 => @Prod.casesOn (Int32) (Int32) (fun _ => Prop) b1 fun z4 z5 => GB θ p l e 3 s m args below meth c 7 (none, r) 8 [(0, .ref (be θ + 428)), (1, .ref (be θ + x1)), (2, .int x2), (3, .int z3), (4, .int z4), (5, .int z5)] [] τ)) (K := (fun ex => @Prod.casesOn (Mem) (Int32) (fun _ => Prop) ex fun τ w_3 => GB θ p l e 3 s m args below meth c 7 (none, r) 74 [(0, .ref (be θ + 428)), (1, .ref (be θ + x1)), (2, .int x2), (3, .int w_3)] [] τ)) (fun a x h hk => by obtain ⟨τ, z3, z4, z5⟩ := a; exact gs_Trade_pickFavourite_L8 X hr hlk  h1 τ z3 z4 z5 x h hk) n a b h hk
set_option maxHeartbeats 4000000 in
set_option maxRecDepth 20000 in
theorem g_Trade_pickFavourite (X : Cx θ p s m args c cX9_pickFavourite 7 RX9) (hr : meth.sig.returnType = none) (hlk : meth.locks = false)  {σ : Mem} {x1 : Nat} {x2 : Int32} {r : Mem} (h1 : kd x1 = 8) (h : f_Trade_pickFavourite σ x1 x2 = some r) : GB θ p l e 3 s m args below meth c 7 (none, r) 0 [(0, .ref (be θ + 428)), (1, .ref (be θ + x1)), (2, .int x2)] [] σ := by
  unfold f_Trade_pickFavourite at h
  refine g_iconst X dX9_pickFavourite_0 (v := (-1 : Int32)) ic_m1 ?_
  refine g_istore_n X dX9_pickFavourite_1 rfl (by decide) (lv' := [(3, .int (-1 : Int32)), (0, .ref (be θ + 428)), (1, .ref (be θ + x1)), (2, .int x2)]) rfl ?_
  refine g_iconst X dX9_pickFavourite_2 (v := (0 : Int32)) ic_0 ?_
  refine g_istore X dX9_pickFavourite_3 (by decide) (lv' := [(4, .int (0 : Int32)), (3, .int (-1 : Int32)), (0, .ref (be θ + 428)), (1, .ref (be θ + x1)), (2, .int x2)]) rfl ?_
  refine g_iconst X dX9_pickFavourite_5 (v := (0 : Int32)) ic_0 ?_
  refine g_istore X dX9_pickFavourite_6 (by decide) (lv' := [(5, .int (0 : Int32)), (4, .int (0 : Int32)), (3, .int (-1 : Int32)), (0, .ref (be θ + 428)), (1, .ref (be θ + x1)), (2, .int x2)]) rfl ?_
  obtain ⟨q9, hq9, h⟩ := Option.bind_eq_some_iff.mp h
  refine g_sub (lv' := [(0, .ref (be θ + 428)), (1, .ref (be θ + x1)), (2, .int x2), (3, .int (-1 : Int32)), (4, .int (0 : Int32)), (5, .int (0 : Int32))]) [3, 4, 5, 2, 1, 0] rfl (gl_Trade_pickFavourite_L8 X hr hlk  h1  FU _ q9 hq9 ?_)
  obtain ⟨τ9, w9_3⟩ := q9
  dsimp only at h ⊢
  refine g_iload_n X dX9_pickFavourite_74 rfl 3 rfl ?_
  refine g_iconst X dX9_pickFavourite_75 (v := (-1 : Int32)) ic_m1 ?_
  refine g_icmp_eq (tgt := 86) X dX9_pickFavourite_76 (by decide) (fun c10 => ?_) (fun c10 => ?_)
  · replace h := (if_pos c10).symm.trans h
    exact g_vret X hr hlk dX9_pickFavourite_86 (by cases h; rfl)
  · replace h := (if_neg c10).symm.trans h
    refine g_aload_n X dX9_pickFavourite_79 rfl 0 rfl ?_
    refine g_aload_n X dX9_pickFavourite_80 rfl 1 rfl ?_
    refine g_iload_n X dX9_pickFavourite_81 rfl 2 rfl ?_
    refine g_iload_n X dX9_pickFavourite_82 rfl 3 rfl ?_
    obtain ⟨q11, hq11, h⟩ := Option.bind_eq_some_iff.mp h
    refine g_cV X (c_Trade_pickUp h1 hq11) lk_RX9_128 my_X9_pickUp (a := 428) (ci := 9) kd_428 (by decide) rfl (As := [.ref (be θ + x1), .int x2, .int w9_3]) (rest := []) rfl rfl (Nat.le_of_ble_eq_true rfl) ⟨(Nat.le_of_ble_eq_true rfl), (Nat.le_of_ble_eq_true rfl)⟩ ⟨(Nat.le_of_ble_eq_true rfl), (Nat.le_of_ble_eq_true rfl)⟩ dX9_pickFavourite_83 (st' := []) (σ' := q11) rfl rfl ?_
    exact g_vret X hr hlk dX9_pickFavourite_86 (by cases h; rfl)
set_option maxHeartbeats 4000000 in
set_option maxRecDepth 20000 in
theorem c_Trade_pickFavourite {θ : Th} {l : Launch} {σ : Mem} {x1 : Nat} {x2 : Int32} {r : Mem} (h1 : kd x1 = 8) (h : f_Trade_pickFavourite σ x1 x2 = some r) : Cn θ l yX9_pickFavourite cX9_pickFavourite 7 (none) 3 0 0 [.ref (be θ + 428), .ref (be θ + x1), .int x2] σ (none, r) :=
  Cn.of (by decide) (Nat.le_of_ble_eq_true rfl) (fun p e s m below meth c X hr hlk => g_Trade_pickFavourite X hr hlk h1 h)
theorem dX9_keepMichaelmas_0 : decode cX9_keepMichaelmas 0 = .ok (.iconst 0, 1) := by decide +kernel
theorem dX9_keepMichaelmas_1 : decode cX9_keepMichaelmas 1 = .ok (.istore_n 2, 1) := by decide +kernel
theorem dX9_keepMichaelmas_2 : decode cX9_keepMichaelmas 2 = .ok (.iload_n 2, 1) := by decide +kernel
theorem dX9_keepMichaelmas_3 : decode cX9_keepMichaelmas 3 = .ok (.aload_n 0, 1) := by decide +kernel
theorem dX9_keepMichaelmas_4 : decode cX9_keepMichaelmas 4 = .ok (.getfield 24, 3) := by decide +kernel
theorem dX9_keepMichaelmas_7 : decode cX9_keepMichaelmas 7 = .ok (.getfield 36, 3) := by decide +kernel
theorem dX9_keepMichaelmas_10 : decode cX9_keepMichaelmas 10 = .ok (.if_icmp .ge 68, 3) := by decide +kernel
theorem dX9_keepMichaelmas_13 : decode cX9_keepMichaelmas 13 = .ok (.aload_n 1, 1) := by decide +kernel
theorem dX9_keepMichaelmas_14 : decode cX9_keepMichaelmas 14 = .ok (.iload_n 2, 1) := by decide +kernel
theorem dX9_keepMichaelmas_15 : decode cX9_keepMichaelmas 15 = .ok (.invokevirtual 82, 3) := by decide +kernel
theorem dX9_keepMichaelmas_18 : decode cX9_keepMichaelmas 18 = .ok (.aload_n 1, 1) := by decide +kernel
theorem dX9_keepMichaelmas_19 : decode cX9_keepMichaelmas 19 = .ok (.getfield 51, 3) := by decide +kernel
theorem dX9_keepMichaelmas_22 : decode cX9_keepMichaelmas 22 = .ok (.iload_n 2, 1) := by decide +kernel
theorem dX9_keepMichaelmas_23 : decode cX9_keepMichaelmas 23 = .ok (.iaload, 1) := by decide +kernel
theorem dX9_keepMichaelmas_24 : decode cX9_keepMichaelmas 24 = .ok (.invokestatic 64, 3) := by decide +kernel
theorem dX9_keepMichaelmas_27 : decode cX9_keepMichaelmas 27 = .ok (.istore_n 3, 1) := by decide +kernel
theorem dX9_keepMichaelmas_28 : decode cX9_keepMichaelmas 28 = .ok (.aload_n 1, 1) := by decide +kernel
theorem dX9_keepMichaelmas_29 : decode cX9_keepMichaelmas 29 = .ok (.sipush 9999, 3) := by decide +kernel
theorem dX9_keepMichaelmas_32 : decode cX9_keepMichaelmas 32 = .ok (.aload_n 1, 1) := by decide +kernel
theorem dX9_keepMichaelmas_33 : decode cX9_keepMichaelmas 33 = .ok (.getfield 196, 3) := by decide +kernel
theorem dX9_keepMichaelmas_36 : decode cX9_keepMichaelmas 36 = .ok (.iload_n 3, 1) := by decide +kernel
theorem dX9_keepMichaelmas_37 : decode cX9_keepMichaelmas 37 = .ok (.iadd, 1) := by decide +kernel
theorem dX9_keepMichaelmas_38 : decode cX9_keepMichaelmas 38 = .ok (.invokestatic 64, 3) := by decide +kernel
theorem dX9_keepMichaelmas_41 : decode cX9_keepMichaelmas 41 = .ok (.putfield 196, 3) := by decide +kernel
theorem dX9_keepMichaelmas_44 : decode cX9_keepMichaelmas 44 = .ok (.aload_n 1, 1) := by decide +kernel
theorem dX9_keepMichaelmas_45 : decode cX9_keepMichaelmas 45 = .ok (.getfield 51, 3) := by decide +kernel
theorem dX9_keepMichaelmas_48 : decode cX9_keepMichaelmas 48 = .ok (.iload_n 2, 1) := by decide +kernel
theorem dX9_keepMichaelmas_49 : decode cX9_keepMichaelmas 49 = .ok (.sipush 999, 3) := by decide +kernel
theorem dX9_keepMichaelmas_52 : decode cX9_keepMichaelmas 52 = .ok (.aload_n 1, 1) := by decide +kernel
theorem dX9_keepMichaelmas_53 : decode cX9_keepMichaelmas 53 = .ok (.getfield 51, 3) := by decide +kernel
theorem dX9_keepMichaelmas_56 : decode cX9_keepMichaelmas 56 = .ok (.iload_n 2, 1) := by decide +kernel
theorem dX9_keepMichaelmas_57 : decode cX9_keepMichaelmas 57 = .ok (.iaload, 1) := by decide +kernel
theorem dX9_keepMichaelmas_58 : decode cX9_keepMichaelmas 58 = .ok (.iload_n 3, 1) := by decide +kernel
theorem dX9_keepMichaelmas_59 : decode cX9_keepMichaelmas 59 = .ok (.isub, 1) := by decide +kernel
theorem dX9_keepMichaelmas_60 : decode cX9_keepMichaelmas 60 = .ok (.aload_n 0, 1) := by decide +kernel
theorem dX9_keepMichaelmas_61 : decode cX9_keepMichaelmas 61 = .ok (.getfield 24, 3) := by decide +kernel
theorem dX9_keepMichaelmas_64 : decode cX9_keepMichaelmas 64 = .ok (.invokevirtual 199, 3) := by decide +kernel
theorem dX9_keepMichaelmas_67 : decode cX9_keepMichaelmas 67 = .ok (.iadd, 1) := by decide +kernel
theorem dX9_keepMichaelmas_68 : decode cX9_keepMichaelmas 68 = .ok (.invokestatic 64, 3) := by decide +kernel
theorem dX9_keepMichaelmas_71 : decode cX9_keepMichaelmas 71 = .ok (.iastore, 1) := by decide +kernel
theorem dX9_keepMichaelmas_72 : decode cX9_keepMichaelmas 72 = .ok (.iinc 2 1, 3) := by decide +kernel
theorem dX9_keepMichaelmas_75 : decode cX9_keepMichaelmas 75 = .ok (.goto (-73), 3) := by decide +kernel
theorem dX9_keepMichaelmas_78 : decode cX9_keepMichaelmas 78 = .ok (.aload_n 1, 1) := by decide +kernel
theorem dX9_keepMichaelmas_79 : decode cX9_keepMichaelmas 79 = .ok (.iconst 0, 1) := by decide +kernel
theorem dX9_keepMichaelmas_80 : decode cX9_keepMichaelmas 80 = .ok (.putfield 202, 3) := by decide +kernel
theorem dX9_keepMichaelmas_83 : decode cX9_keepMichaelmas 83 = .ok (.return_, 1) := by decide +kernel
def f_Trade_keepMichaelmas_L2 (x1 : Nat) (a : Mem × Int32) : Option ((Mem × Int32) ⊕ (Mem)) :=
  @Prod.casesOn (Mem) (Int32) (fun _ => Option ((Mem × Int32) ⊕ (Mem))) a fun τ z2 =>
  if kd (mR τ 428 1) = 2 then
    if (mI τ (mR τ 428 1) 4) ≤ z2 then
      some (.inr (sI τ x1 9 (0 : Int32)))
    else
      (f_State_dueOf τ x1 z2).bind fun q3 =>
      if inb z2 6 then
        (f_City_income (sI τ x1 13 (imin (9999 : Int32) ((mI τ x1 13) + (imin q3 (mI τ (x1 + 6) z2.toNatClampNeg))))) (mR τ 428 1)).bind fun q5 =>
        some (.inl ((sI (sI τ x1 13 (imin (9999 : Int32) ((mI τ x1 13) + (imin q3 (mI τ (x1 + 6) z2.toNatClampNeg))))) (x1 + 6) z2.toNatClampNeg (imin (999 : Int32) (((mI (sI τ x1 13 (imin (9999 : Int32) ((mI τ x1 13) + (imin q3 (mI τ (x1 + 6) z2.toNatClampNeg))))) (x1 + 6) z2.toNatClampNeg) - (imin q3 (mI τ (x1 + 6) z2.toNatClampNeg))) + q5))), (z2 + (1 : Int32))))
      else none
  else none
def f_Trade_keepMichaelmas (σ : Mem) (x1 : Nat) : Option (Mem) :=
  loopF (f_Trade_keepMichaelmas_L2 x1) FU (σ, (0 : Int32))
set_option maxHeartbeats 4000000 in
set_option maxRecDepth 20000 in
theorem gs_Trade_keepMichaelmas_L2 (X : Cx θ p s m args c cX9_keepMichaelmas 4 RX9) (hr : meth.sig.returnType = none) (hlk : meth.locks = false)  {x1 : Nat} {r : Mem} (h1 : kd x1 = 8) (τ : Mem) (z2 : Int32) (x : (Mem × Int32) ⊕ (Mem)) (h : f_Trade_keepMichaelmas_L2 x1 (τ, z2) = some x) (hk : Sum.elim (fun a => @Prod.casesOn (Mem) (Int32) (fun _ => Prop) a fun τ z2 => GB θ p l e 1 s m args below meth c 4 (none, r) 2 [(0, .ref (be θ + 428)), (1, .ref (be θ + x1)), (2, .int z2)] [] τ) (fun b => b = r) x) : GB θ p l e 1 s m args below meth c 4 (none, r) 2 [(0, .ref (be θ + 428)), (1, .ref (be θ + x1)), (2, .int z2)] [] τ := by
  unfold f_Trade_keepMichaelmas_L2 at h
  dsimp only at h
  refine g_iload_n X dX9_keepMichaelmas_2 rfl 2 rfl ?_
  refine g_aload_n X dX9_keepMichaelmas_3 rfl 0 rfl ?_
  refine g_get X fl_RX9_24 dX9_keepMichaelmas_4 kd_428 (v := rv (be θ) (mR τ 428 1)) rfl ?_
  obtain ⟨g1, h⟩ := ite_some h
  rw [← rv_of (β := be θ) g1 (by decide)]
  refine g_get X fl_RX9_36 dX9_keepMichaelmas_7 g1 (v := .int (mI τ (mR τ 428 1) 4)) rfl ?_
  refine g_icmp_ge (tgt := 78) X dX9_keepMichaelmas_10 (by decide) (fun c2 => ?_) (fun c2 => ?_)
  · replace h := (if_pos c2).symm.trans h
    refine g_aload_n X dX9_keepMichaelmas_78 rfl 1 rfl ?_
    refine g_iconst X dX9_keepMichaelmas_79 (v := (0 : Int32)) ic_0 ?_
    refine g_putI X fl_RX9_202 dX9_keepMichaelmas_80 h1 rfl rfl rfl ?_
    have hk := inr_hk h hk
    have hk : (sI τ x1 9 (0 : Int32)) = r := hk
    subst hk
    exact g_vret X hr hlk dX9_keepMichaelmas_83 rfl
  · replace h := (if_neg c2).symm.trans h
    refine g_aload_n X dX9_keepMichaelmas_13 rfl 1 rfl ?_
    refine g_iload_n X dX9_keepMichaelmas_14 rfl 2 rfl ?_
    obtain ⟨q3, hq3, h⟩ := Option.bind_eq_some_iff.mp h
    refine g_cV X (c_State_dueOf h1 hq3) lk_RX9_82 my_X7_dueOf (a := x1) (ci := 7) h1 (by decide) rfl (As := [.int z2]) (rest := []) rfl rfl (Nat.le_of_ble_eq_true rfl) ⟨(Nat.le_of_ble_eq_true rfl), (Nat.le_of_ble_eq_true rfl)⟩ ⟨(Nat.le_of_ble_eq_true rfl), (Nat.le_of_ble_eq_true rfl)⟩ dX9_keepMichaelmas_15 (st' := [.int q3]) (σ' := τ) rfl rfl ?_
    refine g_aload_n X dX9_keepMichaelmas_18 rfl 1 rfl ?_
    refine g_get X fl_RX9_51 dX9_keepMichaelmas_19 h1 (v := .ref (be θ + (x1 + 6))) rfl ?_
    refine g_iload_n X dX9_keepMichaelmas_22 rfl 2 rfl ?_
    obtain ⟨g4, h⟩ := ite_some h
    refine g_iald X (lk7_5 h1).1 (lk7_5 h1).2 (inb_in g4) dX9_keepMichaelmas_23 ?_
    refine g_min X lm_RX9_64 ⟨(Nat.le_of_ble_eq_true rfl), (Nat.le_of_ble_eq_true rfl)⟩ ⟨(Nat.le_of_ble_eq_true rfl), (Nat.le_of_ble_eq_true rfl)⟩ dX9_keepMichaelmas_24 ?_
    refine g_istore_n X dX9_keepMichaelmas_27 rfl (by decide) (lv' := [(3, .int (imin q3 (mI τ (x1 + 6) z2.toNatClampNeg))), (0, .ref (be θ + 428)), (1, .ref (be θ + x1)), (2, .int z2)]) rfl ?_
    refine g_aload_n X dX9_keepMichaelmas_28 rfl 2 rfl ?_
    refine g_sipush X dX9_keepMichaelmas_29 (v := (9999 : Int32)) sp_9999 ?_
    refine g_aload_n X dX9_keepMichaelmas_32 rfl 2 rfl ?_
    refine g_get X fl_RX9_196 dX9_keepMichaelmas_33 h1 (v := .int (mI τ x1 13)) rfl ?_
    refine g_iload_n X dX9_keepMichaelmas_36 rfl 0 rfl ?_
    refine g_iadd X dX9_keepMichaelmas_37 ?_
    refine g_min X lm_RX9_64 ⟨(Nat.le_of_ble_eq_true rfl), (Nat.le_of_ble_eq_true rfl)⟩ ⟨(Nat.le_of_ble_eq_true rfl), (Nat.le_of_ble_eq_true rfl)⟩ dX9_keepMichaelmas_38 ?_
    refine g_putI X fl_RX9_196 dX9_keepMichaelmas_41 h1 rfl rfl rfl ?_
    refine g_aload_n X dX9_keepMichaelmas_44 rfl 2 rfl ?_
    refine g_get X fl_RX9_51 dX9_keepMichaelmas_45 h1 (v := .ref (be θ + (x1 + 6))) rfl ?_
    refine g_iload_n X dX9_keepMichaelmas_48 rfl 3 rfl ?_
    refine g_sipush X dX9_keepMichaelmas_49 (v := (999 : Int32)) sp_999 ?_
    refine g_aload_n X dX9_keepMichaelmas_52 rfl 2 rfl ?_
    refine g_get X fl_RX9_51 dX9_keepMichaelmas_53 h1 (v := .ref (be θ + (x1 + 6))) rfl ?_
    refine g_iload_n X dX9_keepMichaelmas_56 rfl 3 rfl ?_
    refine g_iald X (lk7_5 h1).1 (lk7_5 h1).2 (inb_in g4) dX9_keepMichaelmas_57 ?_
    refine g_iload_n X dX9_keepMichaelmas_58 rfl 0 rfl ?_
    refine g_isub X dX9_keepMichaelmas_59 ?_
    refine g_aload_n X dX9_keepMichaelmas_60 rfl 1 rfl ?_
    refine g_get X fl_RX9_24 dX9_keepMichaelmas_61 kd_428 (v := rv (be θ) (mR τ 428 1)) rfl ?_
    rw [← rv_of (β := be θ) g1 (by decide)]
    obtain ⟨q5, hq5, h⟩ := Option.bind_eq_some_iff.mp h
    refine g_cV X (c_City_income g1 hq5) lk_RX9_199 my_X1_income (a := (mR τ 428 1)) (ci := 1) g1 (by decide) rfl (As := []) (rest := [.int ((mI (sI τ x1 13 (imin (9999 : Int32) ((mI τ x1 13) + (imin q3 (mI τ (x1 + 6) z2.toNatClampNeg))))) (x1 + 6) z2.toNatClampNeg) - (imin q3 (mI τ (x1 + 6) z2.toNatClampNeg))), .int (999 : Int32), .int z2, .ref (be θ + (x1 + 6))]) rfl rfl (Nat.le_of_ble_eq_true rfl) ⟨(Nat.le_of_ble_eq_true rfl), (Nat.le_of_ble_eq_true rfl)⟩ ⟨(Nat.le_of_ble_eq_true rfl), (Nat.le_of_ble_eq_true rfl)⟩ dX9_keepMichaelmas_64 (st' := [.int q5, .int ((mI (sI τ x1 13 (imin (9999 : Int32) ((mI τ x1 13) + (imin q3 (mI τ (x1 + 6) z2.toNatClampNeg))))) (x1 + 6) z2.toNatClampNeg) - (imin q3 (mI τ (x1 + 6) z2.toNatClampNeg))), .int (999 : Int32), .int z2, .ref (be θ + (x1 + 6))]) (σ' := (sI τ x1 13 (imin (9999 : Int32) ((mI τ x1 13) + (imin q3 (mI τ (x1 + 6) z2.toNatClampNeg)))))) rfl rfl ?_
    refine g_iadd X dX9_keepMichaelmas_67 ?_
    refine g_min X lm_RX9_64 ⟨(Nat.le_of_ble_eq_true rfl), (Nat.le_of_ble_eq_true rfl)⟩ ⟨(Nat.le_of_ble_eq_true rfl), (Nat.le_of_ble_eq_true rfl)⟩ dX9_keepMichaelmas_68 ?_
    refine g_iast X (lk7_5 h1).1 (lk7_5 h1).2 (inb_in g4) dX9_keepMichaelmas_71 ?_
    refine g_iinc X dX9_keepMichaelmas_72 (kq := 3) rfl (congrArg (HAdd.hAdd _) ic_1) (by decide) (lv' := [(2, .int (z2 + (1 : Int32))), (3, .int (imin q3 (mI τ (x1 + 6) z2.toNatClampNeg))), (0, .ref (be θ + 428)), (1, .ref (be θ + x1))]) rfl ?_
    refine g_goto (tgt := 2) X dX9_keepMichaelmas_75 (by decide) ?_
    have hk := inl_hk h hk
    exact g_sub (lv' := [(0, .ref (be θ + 428)), (1, .ref (be θ + x1)), (2, .int (z2 + (1 : Int32)))]) [2, 3, 0] rfl hk
set_option maxHeartbeats 4000000 in
set_option maxRecDepth 20000 in
theorem gl_Trade_keepMichaelmas_L2 (X : Cx θ p s m args c cX9_keepMichaelmas 4 RX9) (hr : meth.sig.returnType = none) (hlk : meth.locks = false)  {x1 : Nat} {r : Mem} (h1 : kd x1 = 8) (n : Nat) (a : Mem × Int32) (b : Mem) (h : loopF (f_Trade_keepMichaelmas_L2 x1) n a = some b) (hk : (fun b => b = r) b) : (fun a => @Prod.casesOn (Mem) (Int32) (fun _ => Prop) a fun τ z2 => GB θ p l e 1 s m args below meth c 4 (none, r) 2 [(0, .ref (be θ + 428)), (1, .ref (be θ + x1)), (2, .int z2)] [] τ) a :=
  loopF_by (P := (fun a => @Prod.casesOn (Mem) (Int32) (fun _ => Prop) a fun τ z2 => GB θ p l e 1 s m args below meth c 4 (none, r) 2 [(0, .ref (be θ + 428)), (1, .ref (be θ + x1)), (2, .int z2)] [] τ)) (K := (fun b => b = r)) (fun a x h hk => by obtain ⟨τ, z2⟩ := a; exact gs_Trade_keepMichaelmas_L2 X hr hlk  h1 τ z2 x h hk) n a b h hk
set_option maxHeartbeats 4000000 in
set_option maxRecDepth 20000 in
theorem g_Trade_keepMichaelmas (X : Cx θ p s m args c cX9_keepMichaelmas 4 RX9) (hr : meth.sig.returnType = none) (hlk : meth.locks = false)  {σ : Mem} {x1 : Nat} {r : Mem} (h1 : kd x1 = 8) (h : f_Trade_keepMichaelmas σ x1 = some r) : GB θ p l e 1 s m args below meth c 4 (none, r) 0 [(0, .ref (be θ + 428)), (1, .ref (be θ + x1))] [] σ := by
  unfold f_Trade_keepMichaelmas at h
  refine g_iconst X dX9_keepMichaelmas_0 (v := (0 : Int32)) ic_0 ?_
  refine g_istore_n X dX9_keepMichaelmas_1 rfl (by decide) (lv' := [(2, .int (0 : Int32)), (0, .ref (be θ + 428)), (1, .ref (be θ + x1))]) rfl ?_
  exact g_sub (lv' := [(0, .ref (be θ + 428)), (1, .ref (be θ + x1)), (2, .int (0 : Int32))]) [1, 2, 0] rfl (gl_Trade_keepMichaelmas_L2 X hr hlk  h1  FU _ _ h rfl)
set_option maxHeartbeats 4000000 in
set_option maxRecDepth 20000 in
theorem c_Trade_keepMichaelmas {θ : Th} {l : Launch} {σ : Mem} {x1 : Nat} {r : Mem} (h1 : kd x1 = 8) (h : f_Trade_keepMichaelmas σ x1 = some r) : Cn θ l yX9_keepMichaelmas cX9_keepMichaelmas 4 (none) 1 0 0 [.ref (be θ + 428), .ref (be θ + x1)] σ (none, r) :=
  Cn.of (by decide) (Nat.le_of_ble_eq_true rfl) (fun p e s m below meth c X hr hlk => g_Trade_keepMichaelmas X hr hlk h1 h)
theorem dX7_holders_0 : decode cX7_holders 0 = .ok (.iconst 0, 1) := by decide +kernel
theorem dX7_holders_1 : decode cX7_holders 1 = .ok (.istore_n 1, 1) := by decide +kernel
theorem dX7_holders_2 : decode cX7_holders 2 = .ok (.iconst 0, 1) := by decide +kernel
theorem dX7_holders_3 : decode cX7_holders 3 = .ok (.istore_n 2, 1) := by decide +kernel
theorem dX7_holders_4 : decode cX7_holders 4 = .ok (.iload_n 2, 1) := by decide +kernel
theorem dX7_holders_5 : decode cX7_holders 5 = .ok (.bipush 6, 2) := by decide +kernel
theorem dX7_holders_7 : decode cX7_holders 7 = .ok (.if_icmp .ge 25, 3) := by decide +kernel
theorem dX7_holders_10 : decode cX7_holders 10 = .ok (.aload_n 0, 1) := by decide +kernel
theorem dX7_holders_11 : decode cX7_holders 11 = .ok (.getfield 24, 3) := by decide +kernel
theorem dX7_holders_14 : decode cX7_holders 14 = .ok (.iload_n 2, 1) := by decide +kernel
theorem dX7_holders_15 : decode cX7_holders 15 = .ok (.iaload, 1) := by decide +kernel
theorem dX7_holders_16 : decode cX7_holders 16 = .ok (.iconst (-1), 1) := by decide +kernel
theorem dX7_holders_17 : decode cX7_holders 17 = .ok (.if_icmp .eq 9, 3) := by decide +kernel
theorem dX7_holders_20 : decode cX7_holders 20 = .ok (.iload_n 1, 1) := by decide +kernel
theorem dX7_holders_21 : decode cX7_holders 21 = .ok (.iconst 1, 1) := by decide +kernel
theorem dX7_holders_22 : decode cX7_holders 22 = .ok (.iload_n 2, 1) := by decide +kernel
theorem dX7_holders_23 : decode cX7_holders 23 = .ok (.ishl, 1) := by decide +kernel
theorem dX7_holders_24 : decode cX7_holders 24 = .ok (.ior, 1) := by decide +kernel
theorem dX7_holders_25 : decode cX7_holders 25 = .ok (.istore_n 1, 1) := by decide +kernel
theorem dX7_holders_26 : decode cX7_holders 26 = .ok (.iinc 2 1, 3) := by decide +kernel
theorem dX7_holders_29 : decode cX7_holders 29 = .ok (.goto (-25), 3) := by decide +kernel
theorem dX7_holders_32 : decode cX7_holders 32 = .ok (.iload_n 1, 1) := by decide +kernel
theorem dX7_holders_33 : decode cX7_holders 33 = .ok (.ireturn, 1) := by decide +kernel
def f_State_holders_L4 (σ : Mem) (x0 : Nat) (a : Int32 × Int32) : Option ((Int32 × Int32) ⊕ (Int32)) :=
  @Prod.casesOn (Int32) (Int32) (fun _ => Option ((Int32 × Int32) ⊕ (Int32))) a fun z1 z2 =>
  if (6 : Int32) ≤ z2 then
    some (.inr z1)
  else
    if inb z2 6 then
      if (mI σ (x0 + 5) z2.toNatClampNeg) = (-1 : Int32) then
        some (.inl (z1, (z2 + (1 : Int32))))
      else
        some (.inl ((z1 ||| ((1 : Int32) <<< (z2 &&& 31))), (z2 + (1 : Int32))))
    else none
def f_State_holders (σ : Mem) (x0 : Nat) : Option (Int32) :=
  loopF (f_State_holders_L4 σ x0) FU ((0 : Int32), (0 : Int32))
set_option maxHeartbeats 4000000 in
set_option maxRecDepth 20000 in
theorem gs_State_holders_L4 (X : Cx θ p s m args c cX7_holders 3 RX7) (hr : meth.sig.returnType = some .int) (hlk : meth.locks = false)  {σ : Mem} {x0 : Nat} {r : Int32} (h0 : kd x0 = 8) (z1 : Int32) (z2 : Int32) (x : (Int32 × Int32) ⊕ (Int32)) (h : f_State_holders_L4 σ x0 (z1, z2) = some x) (hk : Sum.elim (fun a => @Prod.casesOn (Int32) (Int32) (fun _ => Prop) a fun z1 z2 => GB θ p l e 0 s m args below meth c 3 (some (.int r), σ) 4 [(0, .ref (be θ + x0)), (1, .int z1), (2, .int z2)] [] σ) (fun b => b = r) x) : GB θ p l e 0 s m args below meth c 3 (some (.int r), σ) 4 [(0, .ref (be θ + x0)), (1, .int z1), (2, .int z2)] [] σ := by
  unfold f_State_holders_L4 at h
  dsimp only at h
  refine g_iload_n X dX7_holders_4 rfl 2 rfl ?_
  refine g_bipush X dX7_holders_5 (v := (6 : Int32)) bp_6 ?_
  refine g_icmp_ge (tgt := 32) X dX7_holders_7 (by decide) (fun c1 => ?_) (fun c1 => ?_)
  · replace h := (if_pos c1).symm.trans h
    refine g_iload_n X dX7_holders_32 rfl 1 rfl ?_
    have hk := inr_hk h hk
    have hk : z1 = r := hk
    subst hk
    exact g_iret X hr hlk dX7_holders_33 rfl
  · replace h := (if_neg c1).symm.trans h
    refine g_aload_n X dX7_holders_10 rfl 0 rfl ?_
    refine g_get X fl_RX7_24 dX7_holders_11 h0 (v := .ref (be θ + (x0 + 5))) rfl ?_
    refine g_iload_n X dX7_holders_14 rfl 2 rfl ?_
    obtain ⟨g2, h⟩ := ite_some h
    refine g_iald X (lk7_4 h0).1 (lk7_4 h0).2 (inb_in g2) dX7_holders_15 ?_
    refine g_iconst X dX7_holders_16 (v := (-1 : Int32)) ic_m1 ?_
    refine g_icmp_eq (tgt := 26) X dX7_holders_17 (by decide) (fun c3 => ?_) (fun c3 => ?_)
    · replace h := (if_pos c3).symm.trans h
      refine g_iinc X dX7_holders_26 (kq := 2) rfl (congrArg (HAdd.hAdd _) ic_1) (by decide) (lv' := [(2, .int (z2 + (1 : Int32))), (0, .ref (be θ + x0)), (1, .int z1)]) rfl ?_
      refine g_goto (tgt := 4) X dX7_holders_29 (by decide) ?_
      have hk := inl_hk h hk
      exact g_sub (lv' := [(0, .ref (be θ + x0)), (1, .int z1), (2, .int (z2 + (1 : Int32)))]) [1, 2, 0] rfl hk
    · replace h := (if_neg c3).symm.trans h
      refine g_iload_n X dX7_holders_20 rfl 1 rfl ?_
      refine g_iconst X dX7_holders_21 (v := (1 : Int32)) ic_1 ?_
      refine g_iload_n X dX7_holders_22 rfl 2 rfl ?_
      refine g_ishl X dX7_holders_23 ?_
      refine g_ior X dX7_holders_24 ?_
      refine g_istore_n X dX7_holders_25 rfl (by decide) (lv' := [(1, .int (z1 ||| ((1 : Int32) <<< (z2 &&& 31)))), (0, .ref (be θ + x0)), (2, .int z2)]) rfl ?_
      refine g_iinc X dX7_holders_26 (kq := 2) rfl (congrArg (HAdd.hAdd _) ic_1) (by decide) (lv' := [(2, .int (z2 + (1 : Int32))), (1, .int (z1 ||| ((1 : Int32) <<< (z2 &&& 31)))), (0, .ref (be θ + x0))]) rfl ?_
      refine g_goto (tgt := 4) X dX7_holders_29 (by decide) ?_
      have hk := inl_hk h hk
      exact g_sub (lv' := [(0, .ref (be θ + x0)), (1, .int (z1 ||| ((1 : Int32) <<< (z2 &&& 31)))), (2, .int (z2 + (1 : Int32)))]) [2, 1, 0] rfl hk
set_option maxHeartbeats 4000000 in
set_option maxRecDepth 20000 in
theorem gl_State_holders_L4 (X : Cx θ p s m args c cX7_holders 3 RX7) (hr : meth.sig.returnType = some .int) (hlk : meth.locks = false)  {σ : Mem} {x0 : Nat} {r : Int32} (h0 : kd x0 = 8) (n : Nat) (a : Int32 × Int32) (b : Int32) (h : loopF (f_State_holders_L4 σ x0) n a = some b) (hk : (fun b => b = r) b) : (fun a => @Prod.casesOn (Int32) (Int32) (fun _ => Prop) a fun z1 z2 => GB θ p l e 0 s m args below meth c 3 (some (.int r), σ) 4 [(0, .ref (be θ + x0)), (1, .int z1), (2, .int z2)] [] σ) a :=
  loopF_by (P := (fun a => @Prod.casesOn (Int32) (Int32) (fun _ => Prop) a fun z1 z2 => GB θ p l e 0 s m args below meth c 3 (some (.int r), σ) 4 [(0, .ref (be θ + x0)), (1, .int z1), (2, .int z2)] [] σ)) (K := (fun b => b = r)) (fun a x h hk => by obtain ⟨z1, z2⟩ := a; exact gs_State_holders_L4 X hr hlk  h0 z1 z2 x h hk) n a b h hk
set_option maxHeartbeats 4000000 in
set_option maxRecDepth 20000 in
theorem g_State_holders (X : Cx θ p s m args c cX7_holders 3 RX7) (hr : meth.sig.returnType = some .int) (hlk : meth.locks = false)  {σ : Mem} {x0 : Nat} {r : Int32} (h0 : kd x0 = 8) (h : f_State_holders σ x0 = some r) : GB θ p l e 0 s m args below meth c 3 (some (.int r), σ) 0 [(0, .ref (be θ + x0))] [] σ := by
  unfold f_State_holders at h
  refine g_iconst X dX7_holders_0 (v := (0 : Int32)) ic_0 ?_
  refine g_istore_n X dX7_holders_1 rfl (by decide) (lv' := [(1, .int (0 : Int32)), (0, .ref (be θ + x0))]) rfl ?_
  refine g_iconst X dX7_holders_2 (v := (0 : Int32)) ic_0 ?_
  refine g_istore_n X dX7_holders_3 rfl (by decide) (lv' := [(2, .int (0 : Int32)), (1, .int (0 : Int32)), (0, .ref (be θ + x0))]) rfl ?_
  exact g_sub (lv' := [(0, .ref (be θ + x0)), (1, .int (0 : Int32)), (2, .int (0 : Int32))]) [2, 1, 0] rfl (gl_State_holders_L4 X hr hlk  h0  FU _ _ h rfl)
set_option maxHeartbeats 4000000 in
set_option maxRecDepth 20000 in
theorem c_State_holders {θ : Th} {l : Launch} {σ : Mem} {x0 : Nat} {r : Int32} (h0 : kd x0 = 8) (h : f_State_holders σ x0 = some r) : Cn θ l yX7_holders cX7_holders 3 (some .int) 0 0 0 [.ref (be θ + x0)] σ (some (.int r), σ) :=
  Cn.of (by decide) (Nat.le_of_ble_eq_true rfl) (fun p e s m below meth c X hr hlk => g_State_holders X hr hlk h0 h)
theorem dX7_writeLog_0 : decode cX7_writeLog 0 = .ok (.aload_n 0, 1) := by decide +kernel
theorem dX7_writeLog_1 : decode cX7_writeLog 1 = .ok (.getfield 43, 3) := by decide +kernel
theorem dX7_writeLog_4 : decode cX7_writeLog 4 = .ok (.bipush 60, 2) := by decide +kernel
theorem dX7_writeLog_6 : decode cX7_writeLog 6 = .ok (.if_icmp .lt 25, 3) := by decide +kernel
theorem dX7_writeLog_9 : decode cX7_writeLog 9 = .ok (.aload_n 0, 1) := by decide +kernel
theorem dX7_writeLog_10 : decode cX7_writeLog 10 = .ok (.getfield 36, 3) := by decide +kernel
theorem dX7_writeLog_13 : decode cX7_writeLog 13 = .ok (.iconst 3, 1) := by decide +kernel
theorem dX7_writeLog_14 : decode cX7_writeLog 14 = .ok (.aload_n 0, 1) := by decide +kernel
theorem dX7_writeLog_15 : decode cX7_writeLog 15 = .ok (.getfield 36, 3) := by decide +kernel
theorem dX7_writeLog_18 : decode cX7_writeLog 18 = .ok (.iconst 0, 1) := by decide +kernel
theorem dX7_writeLog_19 : decode cX7_writeLog 19 = .ok (.sipush 177, 3) := by decide +kernel
theorem dX7_writeLog_22 : decode cX7_writeLog 22 = .ok (.invokestatic 86, 3) := by decide +kernel
theorem dX7_writeLog_25 : decode cX7_writeLog 25 = .ok (.aload_n 0, 1) := by decide +kernel
theorem dX7_writeLog_26 : decode cX7_writeLog 26 = .ok (.bipush 59, 2) := by decide +kernel
theorem dX7_writeLog_28 : decode cX7_writeLog 28 = .ok (.putfield 43, 3) := by decide +kernel
theorem dX7_writeLog_31 : decode cX7_writeLog 31 = .ok (.aload_n 0, 1) := by decide +kernel
theorem dX7_writeLog_32 : decode cX7_writeLog 32 = .ok (.getfield 43, 3) := by decide +kernel
theorem dX7_writeLog_35 : decode cX7_writeLog 35 = .ok (.iconst 3, 1) := by decide +kernel
theorem dX7_writeLog_36 : decode cX7_writeLog 36 = .ok (.imul, 1) := by decide +kernel
theorem dX7_writeLog_37 : decode cX7_writeLog 37 = .ok (.istore_n 1, 1) := by decide +kernel
theorem dX7_writeLog_38 : decode cX7_writeLog 38 = .ok (.aload_n 0, 1) := by decide +kernel
theorem dX7_writeLog_39 : decode cX7_writeLog 39 = .ok (.getfield 36, 3) := by decide +kernel
theorem dX7_writeLog_42 : decode cX7_writeLog 42 = .ok (.iload_n 1, 1) := by decide +kernel
theorem dX7_writeLog_43 : decode cX7_writeLog 43 = .ok (.aload_n 0, 1) := by decide +kernel
theorem dX7_writeLog_44 : decode cX7_writeLog 44 = .ok (.invokevirtual 92, 3) := by decide +kernel
theorem dX7_writeLog_47 : decode cX7_writeLog 47 = .ok (.iastore, 1) := by decide +kernel
theorem dX7_writeLog_48 : decode cX7_writeLog 48 = .ok (.aload_n 0, 1) := by decide +kernel
theorem dX7_writeLog_49 : decode cX7_writeLog 49 = .ok (.getfield 36, 3) := by decide +kernel
theorem dX7_writeLog_52 : decode cX7_writeLog 52 = .ok (.iload_n 1, 1) := by decide +kernel
theorem dX7_writeLog_53 : decode cX7_writeLog 53 = .ok (.iconst 1, 1) := by decide +kernel
theorem dX7_writeLog_54 : decode cX7_writeLog 54 = .ok (.iadd, 1) := by decide +kernel
theorem dX7_writeLog_55 : decode cX7_writeLog 55 = .ok (.aload_n 0, 1) := by decide +kernel
theorem dX7_writeLog_56 : decode cX7_writeLog 56 = .ok (.getfield 39, 3) := by decide +kernel
theorem dX7_writeLog_59 : decode cX7_writeLog 59 = .ok (.iastore, 1) := by decide +kernel
theorem dX7_writeLog_60 : decode cX7_writeLog 60 = .ok (.aload_n 0, 1) := by decide +kernel
theorem dX7_writeLog_61 : decode cX7_writeLog 61 = .ok (.getfield 36, 3) := by decide +kernel
theorem dX7_writeLog_64 : decode cX7_writeLog 64 = .ok (.iload_n 1, 1) := by decide +kernel
theorem dX7_writeLog_65 : decode cX7_writeLog 65 = .ok (.iconst 2, 1) := by decide +kernel
theorem dX7_writeLog_66 : decode cX7_writeLog 66 = .ok (.iadd, 1) := by decide +kernel
theorem dX7_writeLog_67 : decode cX7_writeLog 67 = .ok (.aload_n 0, 1) := by decide +kernel
theorem dX7_writeLog_68 : decode cX7_writeLog 68 = .ok (.getfield 52, 3) := by decide +kernel
theorem dX7_writeLog_71 : decode cX7_writeLog 71 = .ok (.iastore, 1) := by decide +kernel
theorem dX7_writeLog_72 : decode cX7_writeLog 72 = .ok (.aload_n 0, 1) := by decide +kernel
theorem dX7_writeLog_73 : decode cX7_writeLog 73 = .ok (.dup, 1) := by decide +kernel
theorem dX7_writeLog_74 : decode cX7_writeLog 74 = .ok (.getfield 43, 3) := by decide +kernel
theorem dX7_writeLog_77 : decode cX7_writeLog 77 = .ok (.iconst 1, 1) := by decide +kernel
theorem dX7_writeLog_78 : decode cX7_writeLog 78 = .ok (.iadd, 1) := by decide +kernel
theorem dX7_writeLog_79 : decode cX7_writeLog 79 = .ok (.putfield 43, 3) := by decide +kernel
theorem dX7_writeLog_82 : decode cX7_writeLog 82 = .ok (.return_, 1) := by decide +kernel
def f_State_writeLog_J31 (σ : Mem) (x0 : Nat) : Option (Mem) :=
  (f_State_holders σ x0).bind fun q2 =>
  if inb ((mI σ x0 10) * (3 : Int32)) 180 then
    if inb (((mI σ x0 10) * (3 : Int32)) + (1 : Int32)) 180 then
      if inb (((mI σ x0 10) * (3 : Int32)) + (2 : Int32)) 180 then
        some (sI (sI (sI (sI σ (x0 + 9) ((mI σ x0 10) * (3 : Int32)).toNatClampNeg q2) (x0 + 9) (((mI σ x0 10) * (3 : Int32)) + (1 : Int32)).toNatClampNeg (mI (sI σ (x0 + 9) ((mI σ x0 10) * (3 : Int32)).toNatClampNeg q2) x0 9)) (x0 + 9) (((mI σ x0 10) * (3 : Int32)) + (2 : Int32)).toNatClampNeg (mI (sI (sI σ (x0 + 9) ((mI σ x0 10) * (3 : Int32)).toNatClampNeg q2) (x0 + 9) (((mI σ x0 10) * (3 : Int32)) + (1 : Int32)).toNatClampNeg (mI (sI σ (x0 + 9) ((mI σ x0 10) * (3 : Int32)).toNatClampNeg q2) x0 9)) x0 13)) x0 10 ((mI (sI (sI (sI σ (x0 + 9) ((mI σ x0 10) * (3 : Int32)).toNatClampNeg q2) (x0 + 9) (((mI σ x0 10) * (3 : Int32)) + (1 : Int32)).toNatClampNeg (mI (sI σ (x0 + 9) ((mI σ x0 10) * (3 : Int32)).toNatClampNeg q2) x0 9)) (x0 + 9) (((mI σ x0 10) * (3 : Int32)) + (2 : Int32)).toNatClampNeg (mI (sI (sI σ (x0 + 9) ((mI σ x0 10) * (3 : Int32)).toNatClampNeg q2) (x0 + 9) (((mI σ x0 10) * (3 : Int32)) + (1 : Int32)).toNatClampNeg (mI (sI σ (x0 + 9) ((mI σ x0 10) * (3 : Int32)).toNatClampNeg q2) x0 9)) x0 13)) x0 10) + (1 : Int32)))
      else none
    else none
  else none
def f_State_writeLog (σ : Mem) (x0 : Nat) : Option (Mem) :=
  if (mI σ x0 10) < (60 : Int32) then
    f_State_writeLog_J31 σ x0
  else
    if cpyB 180 180 (3 : Int32) (0 : Int32) (177 : Int32) then
      (some (rI σ (x0 + 9) (cpyM (mI σ (x0 + 9)) (mI σ (x0 + 9)) (3 : Int32) (0 : Int32) (177 : Int32)))).bind fun σ7 =>
      f_State_writeLog_J31 (sI σ7 x0 10 (59 : Int32)) x0
    else none
set_option maxHeartbeats 4000000 in
set_option maxRecDepth 20000 in
theorem g_State_writeLog_J31 (X : Cx θ p s m args c cX7_writeLog 2 RX7) (hr : meth.sig.returnType = none) (hlk : meth.locks = false)  {σ : Mem} {x0 : Nat} {r : Mem} (h0 : kd x0 = 8) (h : f_State_writeLog_J31 σ x0 = some r) : GB θ p l e 1 s m args below meth c 2 (none, r) 31 [(0, .ref (be θ + x0))] [] σ := by
  unfold f_State_writeLog_J31 at h
  refine g_aload_n X dX7_writeLog_31 rfl 0 rfl ?_
  refine g_get X fl_RX7_43 dX7_writeLog_32 h0 (v := .int (mI σ x0 10)) rfl ?_
  refine g_iconst X dX7_writeLog_35 (v := (3 : Int32)) ic_3 ?_
  refine g_imul X dX7_writeLog_36 ?_
  refine g_istore_n X dX7_writeLog_37 rfl (by decide) (lv' := [(1, .int ((mI σ x0 10) * (3 : Int32))), (0, .ref (be θ + x0))]) rfl ?_
  refine g_aload_n X dX7_writeLog_38 rfl 1 rfl ?_
  refine g_get X fl_RX7_36 dX7_writeLog_39 h0 (v := .ref (be θ + (x0 + 9))) rfl ?_
  refine g_iload_n X dX7_writeLog_42 rfl 0 rfl ?_
  refine g_aload_n X dX7_writeLog_43 rfl 1 rfl ?_
  obtain ⟨q2, hq2, h⟩ := Option.bind_eq_some_iff.mp h
  refine g_cV X (c_State_holders h0 hq2) lk_RX7_92 my_X7_holders (a := x0) (ci := 7) h0 (by decide) rfl (As := []) (rest := [.int ((mI σ x0 10) * (3 : Int32)), .ref (be θ + (x0 + 9))]) rfl rfl (Nat.le_of_ble_eq_true rfl) ⟨(Nat.le_of_ble_eq_true rfl), (Nat.le_of_ble_eq_true rfl)⟩ ⟨(Nat.le_of_ble_eq_true rfl), (Nat.le_of_ble_eq_true rfl)⟩ dX7_writeLog_44 (st' := [.int q2, .int ((mI σ x0 10) * (3 : Int32)), .ref (be θ + (x0 + 9))]) (σ' := σ) rfl rfl ?_
  obtain ⟨g3, h⟩ := ite_some h
  refine g_iast X (lk7_8 h0).1 (lk7_8 h0).2 (inb_in g3) dX7_writeLog_47 ?_
  refine g_aload_n X dX7_writeLog_48 rfl 1 rfl ?_
  refine g_get X fl_RX7_36 dX7_writeLog_49 h0 (v := .ref (be θ + (x0 + 9))) rfl ?_
  refine g_iload_n X dX7_writeLog_52 rfl 0 rfl ?_
  refine g_iconst X dX7_writeLog_53 (v := (1 : Int32)) ic_1 ?_
  refine g_iadd X dX7_writeLog_54 ?_
  refine g_aload_n X dX7_writeLog_55 rfl 1 rfl ?_
  refine g_get X fl_RX7_39 dX7_writeLog_56 h0 (v := .int (mI (sI σ (x0 + 9) ((mI σ x0 10) * (3 : Int32)).toNatClampNeg q2) x0 9)) rfl ?_
  obtain ⟨g4, h⟩ := ite_some h
  refine g_iast X (lk7_8 h0).1 (lk7_8 h0).2 (inb_in g4) dX7_writeLog_59 ?_
  refine g_aload_n X dX7_writeLog_60 rfl 1 rfl ?_
  refine g_get X fl_RX7_36 dX7_writeLog_61 h0 (v := .ref (be θ + (x0 + 9))) rfl ?_
  refine g_iload_n X dX7_writeLog_64 rfl 0 rfl ?_
  refine g_iconst X dX7_writeLog_65 (v := (2 : Int32)) ic_2 ?_
  refine g_iadd X dX7_writeLog_66 ?_
  refine g_aload_n X dX7_writeLog_67 rfl 1 rfl ?_
  refine g_get X fl_RX7_52 dX7_writeLog_68 h0 (v := .int (mI (sI (sI σ (x0 + 9) ((mI σ x0 10) * (3 : Int32)).toNatClampNeg q2) (x0 + 9) (((mI σ x0 10) * (3 : Int32)) + (1 : Int32)).toNatClampNeg (mI (sI σ (x0 + 9) ((mI σ x0 10) * (3 : Int32)).toNatClampNeg q2) x0 9)) x0 13)) rfl ?_
  obtain ⟨g5, h⟩ := ite_some h
  refine g_iast X (lk7_8 h0).1 (lk7_8 h0).2 (inb_in g5) dX7_writeLog_71 ?_
  refine g_aload_n X dX7_writeLog_72 rfl 1 rfl ?_
  refine g_dup X dX7_writeLog_73 rfl ?_
  refine g_get X fl_RX7_43 dX7_writeLog_74 h0 (v := .int (mI (sI (sI (sI σ (x0 + 9) ((mI σ x0 10) * (3 : Int32)).toNatClampNeg q2) (x0 + 9) (((mI σ x0 10) * (3 : Int32)) + (1 : Int32)).toNatClampNeg (mI (sI σ (x0 + 9) ((mI σ x0 10) * (3 : Int32)).toNatClampNeg q2) x0 9)) (x0 + 9) (((mI σ x0 10) * (3 : Int32)) + (2 : Int32)).toNatClampNeg (mI (sI (sI σ (x0 + 9) ((mI σ x0 10) * (3 : Int32)).toNatClampNeg q2) (x0 + 9) (((mI σ x0 10) * (3 : Int32)) + (1 : Int32)).toNatClampNeg (mI (sI σ (x0 + 9) ((mI σ x0 10) * (3 : Int32)).toNatClampNeg q2) x0 9)) x0 13)) x0 10)) rfl ?_
  refine g_iconst X dX7_writeLog_77 (v := (1 : Int32)) ic_1 ?_
  refine g_iadd X dX7_writeLog_78 ?_
  refine g_putI X fl_RX7_43 dX7_writeLog_79 h0 rfl rfl rfl ?_
  exact g_vret X hr hlk dX7_writeLog_82 (by cases h; rfl)
set_option maxHeartbeats 4000000 in
set_option maxRecDepth 20000 in
theorem g_State_writeLog (X : Cx θ p s m args c cX7_writeLog 2 RX7) (hr : meth.sig.returnType = none) (hlk : meth.locks = false)  {σ : Mem} {x0 : Nat} {r : Mem} (h0 : kd x0 = 8) (h : f_State_writeLog σ x0 = some r) : GB θ p l e 1 s m args below meth c 2 (none, r) 0 [(0, .ref (be θ + x0))] [] σ := by
  unfold f_State_writeLog at h
  refine g_aload_n X dX7_writeLog_0 rfl 0 rfl ?_
  refine g_get X fl_RX7_43 dX7_writeLog_1 h0 (v := .int (mI σ x0 10)) rfl ?_
  refine g_bipush X dX7_writeLog_4 (v := (60 : Int32)) bp_60 ?_
  refine g_icmp_lt (tgt := 31) X dX7_writeLog_6 (by decide) (fun c1 => ?_) (fun c1 => ?_)
  · replace h := (if_pos c1).symm.trans h
    exact g_sub (lv' := [(0, .ref (be θ + x0))]) [0] rfl (g_State_writeLog_J31 X hr hlk  h0  h)
  · replace h := (if_neg c1).symm.trans h
    refine g_aload_n X dX7_writeLog_9 rfl 0 rfl ?_
    refine g_get X fl_RX7_36 dX7_writeLog_10 h0 (v := .ref (be θ + (x0 + 9))) rfl ?_
    refine g_iconst X dX7_writeLog_13 (v := (3 : Int32)) ic_3 ?_
    refine g_aload_n X dX7_writeLog_14 rfl 0 rfl ?_
    refine g_get X fl_RX7_36 dX7_writeLog_15 h0 (v := .ref (be θ + (x0 + 9))) rfl ?_
    refine g_iconst X dX7_writeLog_18 (v := (0 : Int32)) ic_0 ?_
    refine g_sipush X dX7_writeLog_19 (v := (177 : Int32)) sp_177 ?_
    obtain ⟨g6, h⟩ := ite_some h
    obtain ⟨σ7, hσ7, h⟩ := Option.bind_eq_some_iff.mp h
    refine g_cp X lc_RX7_86 (lk7_8 h0).1 (lk7_8 h0).1 (lk7_8 h0).2 (lk7_8 h0).2 (cpyB_ok g6) ⟨(Nat.le_of_ble_eq_true rfl), (Nat.le_of_ble_eq_true rfl)⟩ dX7_writeLog_22 (Option.some.inj hσ7) ?_
    refine g_aload_n X dX7_writeLog_25 rfl 0 rfl ?_
    refine g_bipush X dX7_writeLog_26 (v := (59 : Int32)) bp_59 ?_
    refine g_putI X fl_RX7_43 dX7_writeLog_28 h0 rfl rfl rfl ?_
    exact g_sub (lv' := [(0, .ref (be θ + x0))]) [0] rfl (g_State_writeLog_J31 X hr hlk  h0  h)
set_option maxHeartbeats 4000000 in
set_option maxRecDepth 20000 in
theorem c_State_writeLog {θ : Th} {l : Launch} {σ : Mem} {x0 : Nat} {r : Mem} (h0 : kd x0 = 8) (h : f_State_writeLog σ x0 = some r) : Cn θ l yX7_writeLog cX7_writeLog 2 (none) 1 0 0 [.ref (be θ + x0)] σ (none, r) :=
  Cn.of (by decide) (Nat.le_of_ble_eq_true rfl) (fun p e s m below meth c X hr hlk => g_State_writeLog X hr hlk h0 h)
theorem dX9_passHour_0 : decode cX9_passHour 0 = .ok (.iconst 0, 1) := by decide +kernel
theorem dX9_passHour_1 : decode cX9_passHour 1 = .ok (.istore_n 2, 1) := by decide +kernel
theorem dX9_passHour_2 : decode cX9_passHour 2 = .ok (.iload_n 2, 1) := by decide +kernel
theorem dX9_passHour_3 : decode cX9_passHour 3 = .ok (.aload_n 0, 1) := by decide +kernel
theorem dX9_passHour_4 : decode cX9_passHour 4 = .ok (.getfield 24, 3) := by decide +kernel
theorem dX9_passHour_7 : decode cX9_passHour 7 = .ok (.getfield 36, 3) := by decide +kernel
theorem dX9_passHour_10 : decode cX9_passHour 10 = .ok (.if_icmp .ge 25, 3) := by decide +kernel
theorem dX9_passHour_13 : decode cX9_passHour 13 = .ok (.aload_n 1, 1) := by decide +kernel
theorem dX9_passHour_14 : decode cX9_passHour 14 = .ok (.getfield 98, 3) := by decide +kernel
theorem dX9_passHour_17 : decode cX9_passHour 17 = .ok (.iload_n 2, 1) := by decide +kernel
theorem dX9_passHour_18 : decode cX9_passHour 18 = .ok (.iaload, 1) := by decide +kernel
theorem dX9_passHour_19 : decode cX9_passHour 19 = .ok (.iconst (-1), 1) := by decide +kernel
theorem dX9_passHour_20 : decode cX9_passHour 20 = .ok (.if_icmp .eq 9, 3) := by decide +kernel
theorem dX9_passHour_23 : decode cX9_passHour 23 = .ok (.aload_n 0, 1) := by decide +kernel
theorem dX9_passHour_24 : decode cX9_passHour 24 = .ok (.aload_n 1, 1) := by decide +kernel
theorem dX9_passHour_25 : decode cX9_passHour 25 = .ok (.iload_n 2, 1) := by decide +kernel
theorem dX9_passHour_26 : decode cX9_passHour 26 = .ok (.invokevirtual 170, 3) := by decide +kernel
theorem dX9_passHour_29 : decode cX9_passHour 29 = .ok (.iinc 2 1, 3) := by decide +kernel
theorem dX9_passHour_32 : decode cX9_passHour 32 = .ok (.goto (-30), 3) := by decide +kernel
theorem dX9_passHour_35 : decode cX9_passHour 35 = .ok (.iconst 0, 1) := by decide +kernel
theorem dX9_passHour_36 : decode cX9_passHour 36 = .ok (.istore_n 2, 1) := by decide +kernel
theorem dX9_passHour_37 : decode cX9_passHour 37 = .ok (.iload_n 2, 1) := by decide +kernel
theorem dX9_passHour_38 : decode cX9_passHour 38 = .ok (.aload_n 0, 1) := by decide +kernel
theorem dX9_passHour_39 : decode cX9_passHour 39 = .ok (.getfield 24, 3) := by decide +kernel
theorem dX9_passHour_42 : decode cX9_passHour 42 = .ok (.getfield 36, 3) := by decide +kernel
theorem dX9_passHour_45 : decode cX9_passHour 45 = .ok (.if_icmp .ge 34, 3) := by decide +kernel
theorem dX9_passHour_48 : decode cX9_passHour 48 = .ok (.aload_n 1, 1) := by decide +kernel
theorem dX9_passHour_49 : decode cX9_passHour 49 = .ok (.getfield 98, 3) := by decide +kernel
theorem dX9_passHour_52 : decode cX9_passHour 52 = .ok (.iload_n 2, 1) := by decide +kernel
theorem dX9_passHour_53 : decode cX9_passHour 53 = .ok (.iaload, 1) := by decide +kernel
theorem dX9_passHour_54 : decode cX9_passHour 54 = .ok (.iconst (-1), 1) := by decide +kernel
theorem dX9_passHour_55 : decode cX9_passHour 55 = .ok (.if_icmp .ne 18, 3) := by decide +kernel
theorem dX9_passHour_58 : decode cX9_passHour 58 = .ok (.aload_n 0, 1) := by decide +kernel
theorem dX9_passHour_59 : decode cX9_passHour 59 = .ok (.aload_n 1, 1) := by decide +kernel
theorem dX9_passHour_60 : decode cX9_passHour 60 = .ok (.iload_n 2, 1) := by decide +kernel
theorem dX9_passHour_61 : decode cX9_passHour 61 = .ok (.invokevirtual 174, 3) := by decide +kernel
theorem dX9_passHour_64 : decode cX9_passHour 64 = .ok (.ifCond .ne 9, 3) := by decide +kernel
theorem dX9_passHour_67 : decode cX9_passHour 67 = .ok (.aload_n 0, 1) := by decide +kernel
theorem dX9_passHour_68 : decode cX9_passHour 68 = .ok (.aload_n 1, 1) := by decide +kernel
theorem dX9_passHour_69 : decode cX9_passHour 69 = .ok (.iload_n 2, 1) := by decide +kernel
theorem dX9_passHour_70 : decode cX9_passHour 70 = .ok (.invokevirtual 177, 3) := by decide +kernel
theorem dX9_passHour_73 : decode cX9_passHour 73 = .ok (.iinc 2 1, 3) := by decide +kernel
theorem dX9_passHour_76 : decode cX9_passHour 76 = .ok (.goto (-39), 3) := by decide +kernel
theorem dX9_passHour_79 : decode cX9_passHour 79 = .ok (.aload_n 1, 1) := by decide +kernel
theorem dX9_passHour_80 : decode cX9_passHour 80 = .ok (.dup, 1) := by decide +kernel
theorem dX9_passHour_81 : decode cX9_passHour 81 = .ok (.getfield 57, 3) := by decide +kernel
theorem dX9_passHour_84 : decode cX9_passHour 84 = .ok (.iconst 1, 1) := by decide +kernel
theorem dX9_passHour_85 : decode cX9_passHour 85 = .ok (.iadd, 1) := by decide +kernel
theorem dX9_passHour_86 : decode cX9_passHour 86 = .ok (.putfield 57, 3) := by decide +kernel
theorem dX9_passHour_89 : decode cX9_passHour 89 = .ok (.aload_n 0, 1) := by decide +kernel
theorem dX9_passHour_90 : decode cX9_passHour 90 = .ok (.getfield 24, 3) := by decide +kernel
theorem dX9_passHour_93 : decode cX9_passHour 93 = .ok (.invokevirtual 180, 3) := by decide +kernel
theorem dX9_passHour_96 : decode cX9_passHour 96 = .ok (.ifCond .le 23, 3) := by decide +kernel
theorem dX9_passHour_99 : decode cX9_passHour 99 = .ok (.aload_n 1, 1) := by decide +kernel
theorem dX9_passHour_100 : decode cX9_passHour 100 = .ok (.getfield 57, 3) := by decide +kernel
theorem dX9_passHour_103 : decode cX9_passHour 103 = .ok (.aload_n 0, 1) := by decide +kernel
theorem dX9_passHour_104 : decode cX9_passHour 104 = .ok (.getfield 24, 3) := by decide +kernel
theorem dX9_passHour_107 : decode cX9_passHour 107 = .ok (.invokevirtual 180, 3) := by decide +kernel
theorem dX9_passHour_110 : decode cX9_passHour 110 = .ok (.irem, 1) := by decide +kernel
theorem dX9_passHour_111 : decode cX9_passHour 111 = .ok (.ifCond .ne 8, 3) := by decide +kernel
theorem dX9_passHour_114 : decode cX9_passHour 114 = .ok (.aload_n 0, 1) := by decide +kernel
theorem dX9_passHour_115 : decode cX9_passHour 115 = .ok (.aload_n 1, 1) := by decide +kernel
theorem dX9_passHour_116 : decode cX9_passHour 116 = .ok (.invokevirtual 183, 3) := by decide +kernel
theorem dX9_passHour_119 : decode cX9_passHour 119 = .ok (.aload_n 1, 1) := by decide +kernel
theorem dX9_passHour_120 : decode cX9_passHour 120 = .ok (.invokevirtual 186, 3) := by decide +kernel
theorem dX9_passHour_123 : decode cX9_passHour 123 = .ok (.return_, 1) := by decide +kernel
def f_Trade_passHour_L2 (x1 : Nat) (a : Mem × Int32) : Option ((Mem × Int32) ⊕ (Mem)) :=
  @Prod.casesOn (Mem) (Int32) (fun _ => Option ((Mem × Int32) ⊕ (Mem))) a fun τ z2 =>
  if kd (mR τ 428 1) = 2 then
    if (mI τ (mR τ 428 1) 4) ≤ z2 then
      some (.inr τ)
    else
      if inb z2 6 then
        if (mI τ (x1 + 5) z2.toNatClampNeg) = (-1 : Int32) then
          some (.inl (τ, (z2 + (1 : Int32))))
        else
          (f_Trade_decide τ x1 z2).bind fun q5 =>
          some (.inl (q5, (z2 + (1 : Int32))))
      else none
  else none
def f_Trade_passHour_L37 (x1 : Nat) (a : Mem × Int32) : Option ((Mem × Int32) ⊕ (Mem)) :=
  @Prod.casesOn (Mem) (Int32) (fun _ => Option ((Mem × Int32) ⊕ (Mem))) a fun τ z2 =>
  if kd (mR τ 428 1) = 2 then
    if (mI τ (mR τ 428 1) 4) ≤ z2 then
      some (.inr τ)
    else
      if inb z2 6 then
        if (mI τ (x1 + 5) z2.toNatClampNeg) = (-1 : Int32) then
          (f_Trade_isAfraid τ x1 z2).bind fun q11 =>
          if q11 = (0 : Int32) then
            (f_Trade_pickFavourite τ x1 z2).bind fun q13 =>
            some (.inl (q13, (z2 + (1 : Int32))))
          else
            some (.inl (τ, (z2 + (1 : Int32))))
        else
          some (.inl (τ, (z2 + (1 : Int32))))
      else none
  else none
def f_Trade_passHour (σ : Mem) (x1 : Nat) : Option (Mem) :=
  (loopF (f_Trade_passHour_L2 x1) FU (σ, (0 : Int32))).bind fun w6 =>
  (loopF (f_Trade_passHour_L37 x1) FU (w6, (0 : Int32))).bind fun w14 =>
  if kd (mR w14 428 1) = 2 then
    (f_City_michaelmas (sI w14 x1 14 ((mI w14 x1 14) + (1 : Int32))) (mR w14 428 1)).bind fun q16 =>
    if q16 ≤ (0 : Int32) then
      (f_State_writeLog (sI w14 x1 14 ((mI w14 x1 14) + (1 : Int32))) x1).bind fun q18 =>
      some q18
    else
      (f_City_michaelmas (sI w14 x1 14 ((mI w14 x1 14) + (1 : Int32))) (mR w14 428 1)).bind fun q19 =>
      if q19 = 0 then none else
      if ((mI (sI w14 x1 14 ((mI w14 x1 14) + (1 : Int32))) x1 14) - (mI (sI w14 x1 14 ((mI w14 x1 14) + (1 : Int32))) x1 14) / q19 * q19) = (0 : Int32) then
        (f_Trade_keepMichaelmas (sI w14 x1 14 ((mI w14 x1 14) + (1 : Int32))) x1).bind fun q23 =>
        (f_State_writeLog q23 x1).bind fun q24 =>
        some q24
      else
        (f_State_writeLog (sI w14 x1 14 ((mI w14 x1 14) + (1 : Int32))) x1).bind fun q22 =>
        some q22
  else none
set_option maxHeartbeats 4000000 in
set_option maxRecDepth 20000 in
theorem gs_Trade_passHour_L2 (X : Cx θ p s m args c cX9_passHour 3 RX9) (hr : meth.sig.returnType = none) (hlk : meth.locks = false)  {x1 : Nat} {r : Mem} (h1 : kd x1 = 8) (τ : Mem) (z2 : Int32) (x : (Mem × Int32) ⊕ (Mem)) (h : f_Trade_passHour_L2 x1 (τ, z2) = some x) (hk : Sum.elim (fun a => @Prod.casesOn (Mem) (Int32) (fun _ => Prop) a fun τ z2 => GB θ p l e 4 s m args below meth c 3 (none, r) 2 [(0, .ref (be θ + 428)), (1, .ref (be θ + x1)), (2, .int z2)] [] τ) (fun w => GB θ p l e 4 s m args below meth c 3 (none, r) 35 [(0, .ref (be θ + 428)), (1, .ref (be θ + x1))] [] w) x) : GB θ p l e 4 s m args below meth c 3 (none, r) 2 [(0, .ref (be θ + 428)), (1, .ref (be θ + x1)), (2, .int z2)] [] τ := by
  unfold f_Trade_passHour_L2 at h
  dsimp only at h
  refine g_iload_n X dX9_passHour_2 rfl 2 rfl ?_
  refine g_aload_n X dX9_passHour_3 rfl 0 rfl ?_
  refine g_get X fl_RX9_24 dX9_passHour_4 kd_428 (v := rv (be θ) (mR τ 428 1)) rfl ?_
  obtain ⟨g1, h⟩ := ite_some h
  rw [← rv_of (β := be θ) g1 (by decide)]
  refine g_get X fl_RX9_36 dX9_passHour_7 g1 (v := .int (mI τ (mR τ 428 1) 4)) rfl ?_
  refine g_icmp_ge (tgt := 35) X dX9_passHour_10 (by decide) (fun c2 => ?_) (fun c2 => ?_)
  · replace h := (if_pos c2).symm.trans h
    have hk := inr_hk h hk
    exact g_sub (lv' := [(0, .ref (be θ + 428)), (1, .ref (be θ + x1))]) [0, 1] rfl hk
  · replace h := (if_neg c2).symm.trans h
    refine g_aload_n X dX9_passHour_13 rfl 1 rfl ?_
    refine g_get X fl_RX9_98 dX9_passHour_14 h1 (v := .ref (be θ + (x1 + 5))) rfl ?_
    refine g_iload_n X dX9_passHour_17 rfl 2 rfl ?_
    obtain ⟨g3, h⟩ := ite_some h
    refine g_iald X (lk7_4 h1).1 (lk7_4 h1).2 (inb_in g3) dX9_passHour_18 ?_
    refine g_iconst X dX9_passHour_19 (v := (-1 : Int32)) ic_m1 ?_
    refine g_icmp_eq (tgt := 29) X dX9_passHour_20 (by decide) (fun c4 => ?_) (fun c4 => ?_)
    · replace h := (if_pos c4).symm.trans h
      refine g_iinc X dX9_passHour_29 (kq := 2) rfl (congrArg (HAdd.hAdd _) ic_1) (by decide) (lv' := [(2, .int (z2 + (1 : Int32))), (0, .ref (be θ + 428)), (1, .ref (be θ + x1))]) rfl ?_
      refine g_goto (tgt := 2) X dX9_passHour_32 (by decide) ?_
      have hk := inl_hk h hk
      exact g_sub (lv' := [(0, .ref (be θ + 428)), (1, .ref (be θ + x1)), (2, .int (z2 + (1 : Int32)))]) [1, 2, 0] rfl hk
    · replace h := (if_neg c4).symm.trans h
      refine g_aload_n X dX9_passHour_23 rfl 0 rfl ?_
      refine g_aload_n X dX9_passHour_24 rfl 1 rfl ?_
      refine g_iload_n X dX9_passHour_25 rfl 2 rfl ?_
      obtain ⟨q5, hq5, h⟩ := Option.bind_eq_some_iff.mp h
      refine g_cV X (c_Trade_decide h1 hq5) lk_RX9_170 my_X9_decide (a := 428) (ci := 9) kd_428 (by decide) rfl (As := [.ref (be θ + x1), .int z2]) (rest := []) rfl rfl (Nat.le_of_ble_eq_true rfl) ⟨(Nat.le_of_ble_eq_true rfl), (Nat.le_of_ble_eq_true rfl)⟩ ⟨(Nat.le_of_ble_eq_true rfl), (Nat.le_of_ble_eq_true rfl)⟩ dX9_passHour_26 (st' := []) (σ' := q5) rfl rfl ?_
      refine g_iinc X dX9_passHour_29 (kq := 2) rfl (congrArg (HAdd.hAdd _) ic_1) (by decide) (lv' := [(2, .int (z2 + (1 : Int32))), (0, .ref (be θ + 428)), (1, .ref (be θ + x1))]) rfl ?_
      refine g_goto (tgt := 2) X dX9_passHour_32 (by decide) ?_
      have hk := inl_hk h hk
      exact g_sub (lv' := [(0, .ref (be θ + 428)), (1, .ref (be θ + x1)), (2, .int (z2 + (1 : Int32)))]) [1, 2, 0] rfl hk
set_option maxHeartbeats 4000000 in
set_option maxRecDepth 20000 in
theorem gl_Trade_passHour_L2 (X : Cx θ p s m args c cX9_passHour 3 RX9) (hr : meth.sig.returnType = none) (hlk : meth.locks = false)  {x1 : Nat} {r : Mem} (h1 : kd x1 = 8) (n : Nat) (a : Mem × Int32) (b : Mem) (h : loopF (f_Trade_passHour_L2 x1) n a = some b) (hk : (fun w => GB θ p l e 4 s m args below meth c 3 (none, r) 35 [(0, .ref (be θ + 428)), (1, .ref (be θ + x1))] [] w) b) : (fun a => @Prod.casesOn (Mem) (Int32) (fun _ => Prop) a fun τ z2 => GB θ p l e 4 s m args below meth c 3 (none, r) 2 [(0, .ref (be θ + 428)), (1, .ref (be θ + x1)), (2, .int z2)] [] τ) a :=
  loopF_by (P := (fun a => @Prod.casesOn (Mem) (Int32) (fun _ => Prop) a fun τ z2 => GB θ p l e 4 s m args below meth c 3 (none, r) 2 [(0, .ref (be θ + 428)), (1, .ref (be θ + x1)), (2, .int z2)] [] τ)) (K := (fun w => GB θ p l e 4 s m args below meth c 3 (none, r) 35 [(0, .ref (be θ + 428)), (1, .ref (be θ + x1))] [] w)) (fun a x h hk => by obtain ⟨τ, z2⟩ := a; exact gs_Trade_passHour_L2 X hr hlk  h1 τ z2 x h hk) n a b h hk
set_option maxHeartbeats 4000000 in
set_option maxRecDepth 20000 in
theorem gs_Trade_passHour_L37 (X : Cx θ p s m args c cX9_passHour 3 RX9) (hr : meth.sig.returnType = none) (hlk : meth.locks = false)  {x1 : Nat} {r : Mem} (h1 : kd x1 = 8) (τ : Mem) (z2 : Int32) (x : (Mem × Int32) ⊕ (Mem)) (h : f_Trade_passHour_L37 x1 (τ, z2) = some x) (hk : Sum.elim (fun a => @Prod.casesOn (Mem) (Int32) (fun _ => Prop) a fun τ z2 => GB θ p l e 4 s m args below meth c 3 (none, r) 37 [(0, .ref (be θ + 428)), (1, .ref (be θ + x1)), (2, .int z2)] [] τ) (fun w => GB θ p l e 4 s m args below meth c 3 (none, r) 79 [(0, .ref (be θ + 428)), (1, .ref (be θ + x1))] [] w) x) : GB θ p l e 4 s m args below meth c 3 (none, r) 37 [(0, .ref (be θ + 428)), (1, .ref (be θ + x1)), (2, .int z2)] [] τ := by
  unfold f_Trade_passHour_L37 at h
  dsimp only at h
  refine g_iload_n X dX9_passHour_37 rfl 2 rfl ?_
  refine g_aload_n X dX9_passHour_38 rfl 0 rfl ?_
  refine g_get X fl_RX9_24 dX9_passHour_39 kd_428 (v := rv (be θ) (mR τ 428 1)) rfl ?_
  obtain ⟨g7, h⟩ := ite_some h
  rw [← rv_of (β := be θ) g7 (by decide)]
  refine g_get X fl_RX9_36 dX9_passHour_42 g7 (v := .int (mI τ (mR τ 428 1) 4)) rfl ?_
  refine g_icmp_ge (tgt := 79) X dX9_passHour_45 (by decide) (fun c8 => ?_) (fun c8 => ?_)
  · replace h := (if_pos c8).symm.trans h
    have hk := inr_hk h hk
    exact g_sub (lv' := [(0, .ref (be θ + 428)), (1, .ref (be θ + x1))]) [0, 1] rfl hk
  · replace h := (if_neg c8).symm.trans h
    refine g_aload_n X dX9_passHour_48 rfl 1 rfl ?_
    refine g_get X fl_RX9_98 dX9_passHour_49 h1 (v := .ref (be θ + (x1 + 5))) rfl ?_
    refine g_iload_n X dX9_passHour_52 rfl 2 rfl ?_
    obtain ⟨g9, h⟩ := ite_some h
    refine g_iald X (lk7_4 h1).1 (lk7_4 h1).2 (inb_in g9) dX9_passHour_53 ?_
    refine g_iconst X dX9_passHour_54 (v := (-1 : Int32)) ic_m1 ?_
    refine g_icmp_ne (tgt := 73) X dX9_passHour_55 (by decide) (fun c10 => ?_) (fun c10 => ?_)
    · replace h := (if_neg c10).symm.trans h
      refine g_iinc X dX9_passHour_73 (kq := 2) rfl (congrArg (HAdd.hAdd _) ic_1) (by decide) (lv' := [(2, .int (z2 + (1 : Int32))), (0, .ref (be θ + 428)), (1, .ref (be θ + x1))]) rfl ?_
      refine g_goto (tgt := 37) X dX9_passHour_76 (by decide) ?_
      have hk := inl_hk h hk
      exact g_sub (lv' := [(0, .ref (be θ + 428)), (1, .ref (be θ + x1)), (2, .int (z2 + (1 : Int32)))]) [1, 2, 0] rfl hk
    · replace h := (if_pos c10).symm.trans h
      refine g_aload_n X dX9_passHour_58 rfl 0 rfl ?_
      refine g_aload_n X dX9_passHour_59 rfl 1 rfl ?_
      refine g_iload_n X dX9_passHour_60 rfl 2 rfl ?_
      obtain ⟨q11, hq11, h⟩ := Option.bind_eq_some_iff.mp h
      refine g_cV X (c_Trade_isAfraid h1 hq11) lk_RX9_174 my_X9_isAfraid (a := 428) (ci := 9) kd_428 (by decide) rfl (As := [.ref (be θ + x1), .int z2]) (rest := []) rfl rfl (Nat.le_of_ble_eq_true rfl) ⟨(Nat.le_of_ble_eq_true rfl), (Nat.le_of_ble_eq_true rfl)⟩ ⟨(Nat.le_of_ble_eq_true rfl), (Nat.le_of_ble_eq_true rfl)⟩ dX9_passHour_61 (st' := [.int q11]) (σ' := τ) rfl rfl ?_
      refine g_if_ne (tgt := 73) X dX9_passHour_64 (by decide) (fun c12 => ?_) (fun c12 => ?_)
      · replace h := (if_neg c12).symm.trans h
        refine g_iinc X dX9_passHour_73 (kq := 2) rfl (congrArg (HAdd.hAdd _) ic_1) (by decide) (lv' := [(2, .int (z2 + (1 : Int32))), (0, .ref (be θ + 428)), (1, .ref (be θ + x1))]) rfl ?_
        refine g_goto (tgt := 37) X dX9_passHour_76 (by decide) ?_
        have hk := inl_hk h hk
        exact g_sub (lv' := [(0, .ref (be θ + 428)), (1, .ref (be θ + x1)), (2, .int (z2 + (1 : Int32)))]) [1, 2, 0] rfl hk
      · replace h := (if_pos c12).symm.trans h
        refine g_aload_n X dX9_passHour_67 rfl 0 rfl ?_
        refine g_aload_n X dX9_passHour_68 rfl 1 rfl ?_
        refine g_iload_n X dX9_passHour_69 rfl 2 rfl ?_
        obtain ⟨q13, hq13, h⟩ := Option.bind_eq_some_iff.mp h
        refine g_cV X (c_Trade_pickFavourite h1 hq13) lk_RX9_177 my_X9_pickFavourite (a := 428) (ci := 9) kd_428 (by decide) rfl (As := [.ref (be θ + x1), .int z2]) (rest := []) rfl rfl (Nat.le_of_ble_eq_true rfl) ⟨(Nat.le_of_ble_eq_true rfl), (Nat.le_of_ble_eq_true rfl)⟩ ⟨(Nat.le_of_ble_eq_true rfl), (Nat.le_of_ble_eq_true rfl)⟩ dX9_passHour_70 (st' := []) (σ' := q13) rfl rfl ?_
        refine g_iinc X dX9_passHour_73 (kq := 2) rfl (congrArg (HAdd.hAdd _) ic_1) (by decide) (lv' := [(2, .int (z2 + (1 : Int32))), (0, .ref (be θ + 428)), (1, .ref (be θ + x1))]) rfl ?_
        refine g_goto (tgt := 37) X dX9_passHour_76 (by decide) ?_
        have hk := inl_hk h hk
        exact g_sub (lv' := [(0, .ref (be θ + 428)), (1, .ref (be θ + x1)), (2, .int (z2 + (1 : Int32)))]) [1, 2, 0] rfl hk
set_option maxHeartbeats 4000000 in
set_option maxRecDepth 20000 in
theorem gl_Trade_passHour_L37 (X : Cx θ p s m args c cX9_passHour 3 RX9) (hr : meth.sig.returnType = none) (hlk : meth.locks = false)  {x1 : Nat} {r : Mem} (h1 : kd x1 = 8) (n : Nat) (a : Mem × Int32) (b : Mem) (h : loopF (f_Trade_passHour_L37 x1) n a = some b) (hk : (fun w => GB θ p l e 4 s m args below meth c 3 (none, r) 79 [(0, .ref (be θ + 428)), (1, .ref (be θ + x1))] [] w) b) : (fun a => @Prod.casesOn (Mem) (Int32) (fun _ => Prop) a fun τ z2 => GB θ p l e 4 s m args below meth c 3 (none, r) 37 [(0, .ref (be θ + 428)), (1, .ref (be θ + x1)), (2, .int z2)] [] τ) a :=
  loopF_by (P := (fun a => @Prod.casesOn (Mem) (Int32) (fun _ => Prop) a fun τ z2 => GB θ p l e 4 s m args below meth c 3 (none, r) 37 [(0, .ref (be θ + 428)), (1, .ref (be θ + x1)), (2, .int z2)] [] τ)) (K := (fun w => GB θ p l e 4 s m args below meth c 3 (none, r) 79 [(0, .ref (be θ + 428)), (1, .ref (be θ + x1))] [] w)) (fun a x h hk => by obtain ⟨τ, z2⟩ := a; exact gs_Trade_passHour_L37 X hr hlk  h1 τ z2 x h hk) n a b h hk
set_option maxHeartbeats 4000000 in
set_option maxRecDepth 20000 in
theorem g_Trade_passHour (X : Cx θ p s m args c cX9_passHour 3 RX9) (hr : meth.sig.returnType = none) (hlk : meth.locks = false)  {σ : Mem} {x1 : Nat} {r : Mem} (h1 : kd x1 = 8) (h : f_Trade_passHour σ x1 = some r) : GB θ p l e 4 s m args below meth c 3 (none, r) 0 [(0, .ref (be θ + 428)), (1, .ref (be θ + x1))] [] σ := by
  unfold f_Trade_passHour at h
  refine g_iconst X dX9_passHour_0 (v := (0 : Int32)) ic_0 ?_
  refine g_istore_n X dX9_passHour_1 rfl (by decide) (lv' := [(2, .int (0 : Int32)), (0, .ref (be θ + 428)), (1, .ref (be θ + x1))]) rfl ?_
  obtain ⟨w6, hq6, h⟩ := Option.bind_eq_some_iff.mp h
  refine g_sub (lv' := [(0, .ref (be θ + 428)), (1, .ref (be θ + x1)), (2, .int (0 : Int32))]) [1, 2, 0] rfl (gl_Trade_passHour_L2 X hr hlk  h1  FU _ w6 hq6 ?_)
  refine g_iconst X dX9_passHour_35 (v := (0 : Int32)) ic_0 ?_
  refine g_istore_n X dX9_passHour_36 rfl (by decide) (lv' := [(2, .int (0 : Int32)), (0, .ref (be θ + 428)), (1, .ref (be θ + x1))]) rfl ?_
  obtain ⟨w14, hq14, h⟩ := Option.bind_eq_some_iff.mp h
  refine g_sub (lv' := [(0, .ref (be θ + 428)), (1, .ref (be θ + x1)), (2, .int (0 : Int32))]) [1, 2, 0] rfl (gl_Trade_passHour_L37 X hr hlk  h1  FU _ w14 hq14 ?_)
  refine g_aload_n X dX9_passHour_79 rfl 1 rfl ?_
  refine g_dup X dX9_passHour_80 rfl ?_
  refine g_get X fl_RX9_57 dX9_passHour_81 h1 (v := .int (mI w14 x1 14)) rfl ?_
  refine g_iconst X dX9_passHour_84 (v := (1 : Int32)) ic_1 ?_
  refine g_iadd X dX9_passHour_85 ?_
  refine g_putI X fl_RX9_57 dX9_passHour_86 h1 rfl rfl rfl ?_
  refine g_aload_n X dX9_passHour_89 rfl 0 rfl ?_
  refine g_get X fl_RX9_24 dX9_passHour_90 kd_428 (v := rv (be θ) (mR w14 428 1)) rfl ?_
  obtain ⟨g15, h⟩ := ite_some h
  rw [← rv_of (β := be θ) g15 (by decide)]
  obtain ⟨q16, hq16, h⟩ := Option.bind_eq_some_iff.mp h
  refine g_cV X (c_City_michaelmas g15 hq16) lk_RX9_180 my_X1_michaelmas (a := (mR w14 428 1)) (ci := 1) g15 (by decide) rfl (As := []) (rest := []) rfl rfl (Nat.le_of_ble_eq_true rfl) ⟨(Nat.le_of_ble_eq_true rfl), (Nat.le_of_ble_eq_true rfl)⟩ ⟨(Nat.le_of_ble_eq_true rfl), (Nat.le_of_ble_eq_true rfl)⟩ dX9_passHour_93 (st' := [.int q16]) (σ' := (sI w14 x1 14 ((mI w14 x1 14) + (1 : Int32)))) rfl rfl ?_
  refine g_if_le (tgt := 119) X dX9_passHour_96 (by decide) (fun c17 => ?_) (fun c17 => ?_)
  · replace h := (if_pos c17).symm.trans h
    refine g_aload_n X dX9_passHour_119 rfl 1 rfl ?_
    obtain ⟨q18, hq18, h⟩ := Option.bind_eq_some_iff.mp h
    refine g_cV X (c_State_writeLog h1 hq18) lk_RX9_186 my_X7_writeLog (a := x1) (ci := 7) h1 (by decide) rfl (As := []) (rest := []) rfl rfl (Nat.le_of_ble_eq_true rfl) ⟨(Nat.le_of_ble_eq_true rfl), (Nat.le_of_ble_eq_true rfl)⟩ ⟨(Nat.le_of_ble_eq_true rfl), (Nat.le_of_ble_eq_true rfl)⟩ dX9_passHour_120 (st' := []) (σ' := q18) rfl rfl ?_
    exact g_vret X hr hlk dX9_passHour_123 (by cases h; rfl)
  · replace h := (if_neg c17).symm.trans h
    refine g_aload_n X dX9_passHour_99 rfl 1 rfl ?_
    refine g_get X fl_RX9_57 dX9_passHour_100 h1 (v := .int (mI (sI w14 x1 14 ((mI w14 x1 14) + (1 : Int32))) x1 14)) rfl ?_
    refine g_aload_n X dX9_passHour_103 rfl 0 rfl ?_
    refine g_get X fl_RX9_24 dX9_passHour_104 kd_428 (v := rv (be θ) (mR w14 428 1)) rfl ?_
    rw [← rv_of (β := be θ) g15 (by decide)]
    obtain ⟨q19, hq19, h⟩ := Option.bind_eq_some_iff.mp h
    refine g_cV X (c_City_michaelmas g15 hq19) lk_RX9_180 my_X1_michaelmas (a := (mR w14 428 1)) (ci := 1) g15 (by decide) rfl (As := []) (rest := [.int (mI (sI w14 x1 14 ((mI w14 x1 14) + (1 : Int32))) x1 14)]) rfl rfl (Nat.le_of_ble_eq_true rfl) ⟨(Nat.le_of_ble_eq_true rfl), (Nat.le_of_ble_eq_true rfl)⟩ ⟨(Nat.le_of_ble_eq_true rfl), (Nat.le_of_ble_eq_true rfl)⟩ dX9_passHour_107 (st' := [.int q19, .int (mI (sI w14 x1 14 ((mI w14 x1 14) + (1 : Int32))) x1 14)]) (σ' := (sI w14 x1 14 ((mI w14 x1 14) + (1 : Int32)))) rfl rfl ?_
    obtain ⟨g20, h⟩ := ite_none h
    refine g_irem X dX9_passHour_110 g20 ?_
    refine g_if_ne (tgt := 119) X dX9_passHour_111 (by decide) (fun c21 => ?_) (fun c21 => ?_)
    · replace h := (if_neg c21).symm.trans h
      refine g_aload_n X dX9_passHour_119 rfl 1 rfl ?_
      obtain ⟨q22, hq22, h⟩ := Option.bind_eq_some_iff.mp h
      refine g_cV X (c_State_writeLog h1 hq22) lk_RX9_186 my_X7_writeLog (a := x1) (ci := 7) h1 (by decide) rfl (As := []) (rest := []) rfl rfl (Nat.le_of_ble_eq_true rfl) ⟨(Nat.le_of_ble_eq_true rfl), (Nat.le_of_ble_eq_true rfl)⟩ ⟨(Nat.le_of_ble_eq_true rfl), (Nat.le_of_ble_eq_true rfl)⟩ dX9_passHour_120 (st' := []) (σ' := q22) rfl rfl ?_
      exact g_vret X hr hlk dX9_passHour_123 (by cases h; rfl)
    · replace h := (if_pos c21).symm.trans h
      refine g_aload_n X dX9_passHour_114 rfl 0 rfl ?_
      refine g_aload_n X dX9_passHour_115 rfl 1 rfl ?_
      obtain ⟨q23, hq23, h⟩ := Option.bind_eq_some_iff.mp h
      refine g_cV X (c_Trade_keepMichaelmas h1 hq23) lk_RX9_183 my_X9_keepMichaelmas (a := 428) (ci := 9) kd_428 (by decide) rfl (As := [.ref (be θ + x1)]) (rest := []) rfl rfl (Nat.le_of_ble_eq_true rfl) ⟨(Nat.le_of_ble_eq_true rfl), (Nat.le_of_ble_eq_true rfl)⟩ ⟨(Nat.le_of_ble_eq_true rfl), (Nat.le_of_ble_eq_true rfl)⟩ dX9_passHour_116 (st' := []) (σ' := q23) rfl rfl ?_
      refine g_aload_n X dX9_passHour_119 rfl 1 rfl ?_
      obtain ⟨q24, hq24, h⟩ := Option.bind_eq_some_iff.mp h
      refine g_cV X (c_State_writeLog h1 hq24) lk_RX9_186 my_X7_writeLog (a := x1) (ci := 7) h1 (by decide) rfl (As := []) (rest := []) rfl rfl (Nat.le_of_ble_eq_true rfl) ⟨(Nat.le_of_ble_eq_true rfl), (Nat.le_of_ble_eq_true rfl)⟩ ⟨(Nat.le_of_ble_eq_true rfl), (Nat.le_of_ble_eq_true rfl)⟩ dX9_passHour_120 (st' := []) (σ' := q24) rfl rfl ?_
      exact g_vret X hr hlk dX9_passHour_123 (by cases h; rfl)
set_option maxHeartbeats 4000000 in
set_option maxRecDepth 20000 in
theorem c_Trade_passHour {θ : Th} {l : Launch} {σ : Mem} {x1 : Nat} {r : Mem} (h1 : kd x1 = 8) (h : f_Trade_passHour σ x1 = some r) : Cn θ l yX9_passHour cX9_passHour 3 (none) 4 0 0 [.ref (be θ + 428), .ref (be θ + x1)] σ (none, r) :=
  Cn.of (by decide) (Nat.le_of_ble_eq_true rfl) (fun p e s m below meth c X hr hlk => g_Trade_passHour X hr hlk h1 h)
theorem dX7_dueOfAll_0 : decode cX7_dueOfAll 0 = .ok (.iconst 0, 1) := by decide +kernel
theorem dX7_dueOfAll_1 : decode cX7_dueOfAll 1 = .ok (.istore_n 1, 1) := by decide +kernel
theorem dX7_dueOfAll_2 : decode cX7_dueOfAll 2 = .ok (.iconst 0, 1) := by decide +kernel
theorem dX7_dueOfAll_3 : decode cX7_dueOfAll 3 = .ok (.istore_n 2, 1) := by decide +kernel
theorem dX7_dueOfAll_4 : decode cX7_dueOfAll 4 = .ok (.iload_n 2, 1) := by decide +kernel
theorem dX7_dueOfAll_5 : decode cX7_dueOfAll 5 = .ok (.aload_n 0, 1) := by decide +kernel
theorem dX7_dueOfAll_6 : decode cX7_dueOfAll 6 = .ok (.getfield 39, 3) := by decide +kernel
theorem dX7_dueOfAll_9 : decode cX7_dueOfAll 9 = .ok (.if_icmp .ge 22, 3) := by decide +kernel
theorem dX7_dueOfAll_12 : decode cX7_dueOfAll 12 = .ok (.iload_n 1, 1) := by decide +kernel
theorem dX7_dueOfAll_13 : decode cX7_dueOfAll 13 = .ok (.aload_n 0, 1) := by decide +kernel
theorem dX7_dueOfAll_14 : decode cX7_dueOfAll 14 = .ok (.getfield 33, 3) := by decide +kernel
theorem dX7_dueOfAll_17 : decode cX7_dueOfAll 17 = .ok (.iload_n 2, 1) := by decide +kernel
theorem dX7_dueOfAll_18 : decode cX7_dueOfAll 18 = .ok (.iconst 4, 1) := by decide +kernel
theorem dX7_dueOfAll_19 : decode cX7_dueOfAll 19 = .ok (.imul, 1) := by decide +kernel
theorem dX7_dueOfAll_20 : decode cX7_dueOfAll 20 = .ok (.iconst 3, 1) := by decide +kernel
theorem dX7_dueOfAll_21 : decode cX7_dueOfAll 21 = .ok (.iadd, 1) := by decide +kernel
theorem dX7_dueOfAll_22 : decode cX7_dueOfAll 22 = .ok (.iaload, 1) := by decide +kernel
theorem dX7_dueOfAll_23 : decode cX7_dueOfAll 23 = .ok (.iadd, 1) := by decide +kernel
theorem dX7_dueOfAll_24 : decode cX7_dueOfAll 24 = .ok (.istore_n 1, 1) := by decide +kernel
theorem dX7_dueOfAll_25 : decode cX7_dueOfAll 25 = .ok (.iinc 2 1, 3) := by decide +kernel
theorem dX7_dueOfAll_28 : decode cX7_dueOfAll 28 = .ok (.goto (-24), 3) := by decide +kernel
theorem dX7_dueOfAll_31 : decode cX7_dueOfAll 31 = .ok (.iload_n 1, 1) := by decide +kernel
theorem dX7_dueOfAll_32 : decode cX7_dueOfAll 32 = .ok (.ireturn, 1) := by decide +kernel
def f_State_dueOfAll_L4 (σ : Mem) (x0 : Nat) (a : Int32 × Int32) : Option ((Int32 × Int32) ⊕ (Int32)) :=
  @Prod.casesOn (Int32) (Int32) (fun _ => Option ((Int32 × Int32) ⊕ (Int32))) a fun z1 z2 =>
  if (mI σ x0 9) ≤ z2 then
    some (.inr z1)
  else
    if inb ((z2 * (4 : Int32)) + (3 : Int32)) 96 then
      some (.inl ((z1 + (mI σ (x0 + 8) ((z2 * (4 : Int32)) + (3 : Int32)).toNatClampNeg)), (z2 + (1 : Int32))))
    else none
def f_State_dueOfAll (σ : Mem) (x0 : Nat) : Option (Int32) :=
  loopF (f_State_dueOfAll_L4 σ x0) FU ((0 : Int32), (0 : Int32))
set_option maxHeartbeats 4000000 in
set_option maxRecDepth 20000 in
theorem gs_State_dueOfAll_L4 (X : Cx θ p s m args c cX7_dueOfAll 3 RX7) (hr : meth.sig.returnType = some .int) (hlk : meth.locks = false)  {σ : Mem} {x0 : Nat} {r : Int32} (h0 : kd x0 = 8) (z1 : Int32) (z2 : Int32) (x : (Int32 × Int32) ⊕ (Int32)) (h : f_State_dueOfAll_L4 σ x0 (z1, z2) = some x) (hk : Sum.elim (fun a => @Prod.casesOn (Int32) (Int32) (fun _ => Prop) a fun z1 z2 => GB θ p l e 0 s m args below meth c 3 (some (.int r), σ) 4 [(0, .ref (be θ + x0)), (1, .int z1), (2, .int z2)] [] σ) (fun b => b = r) x) : GB θ p l e 0 s m args below meth c 3 (some (.int r), σ) 4 [(0, .ref (be θ + x0)), (1, .int z1), (2, .int z2)] [] σ := by
  unfold f_State_dueOfAll_L4 at h
  dsimp only at h
  refine g_iload_n X dX7_dueOfAll_4 rfl 2 rfl ?_
  refine g_aload_n X dX7_dueOfAll_5 rfl 0 rfl ?_
  refine g_get X fl_RX7_39 dX7_dueOfAll_6 h0 (v := .int (mI σ x0 9)) rfl ?_
  refine g_icmp_ge (tgt := 31) X dX7_dueOfAll_9 (by decide) (fun c1 => ?_) (fun c1 => ?_)
  · replace h := (if_pos c1).symm.trans h
    refine g_iload_n X dX7_dueOfAll_31 rfl 1 rfl ?_
    have hk := inr_hk h hk
    have hk : z1 = r := hk
    subst hk
    exact g_iret X hr hlk dX7_dueOfAll_32 rfl
  · replace h := (if_neg c1).symm.trans h
    refine g_iload_n X dX7_dueOfAll_12 rfl 1 rfl ?_
    refine g_aload_n X dX7_dueOfAll_13 rfl 0 rfl ?_
    refine g_get X fl_RX7_33 dX7_dueOfAll_14 h0 (v := .ref (be θ + (x0 + 8))) rfl ?_
    refine g_iload_n X dX7_dueOfAll_17 rfl 2 rfl ?_
    refine g_iconst X dX7_dueOfAll_18 (v := (4 : Int32)) ic_4 ?_
    refine g_imul X dX7_dueOfAll_19 ?_
    refine g_iconst X dX7_dueOfAll_20 (v := (3 : Int32)) ic_3 ?_
    refine g_iadd X dX7_dueOfAll_21 ?_
    obtain ⟨g2, h⟩ := ite_some h
    refine g_iald X (lk7_7 h0).1 (lk7_7 h0).2 (inb_in g2) dX7_dueOfAll_22 ?_
    refine g_iadd X dX7_dueOfAll_23 ?_
    refine g_istore_n X dX7_dueOfAll_24 rfl (by decide) (lv' := [(1, .int (z1 + (mI σ (x0 + 8) ((z2 * (4 : Int32)) + (3 : Int32)).toNatClampNeg))), (0, .ref (be θ + x0)), (2, .int z2)]) rfl ?_
    refine g_iinc X dX7_dueOfAll_25 (kq := 2) rfl (congrArg (HAdd.hAdd _) ic_1) (by decide) (lv' := [(2, .int (z2 + (1 : Int32))), (1, .int (z1 + (mI σ (x0 + 8) ((z2 * (4 : Int32)) + (3 : Int32)).toNatClampNeg))), (0, .ref (be θ + x0))]) rfl ?_
    refine g_goto (tgt := 4) X dX7_dueOfAll_28 (by decide) ?_
    have hk := inl_hk h hk
    exact g_sub (lv' := [(0, .ref (be θ + x0)), (1, .int (z1 + (mI σ (x0 + 8) ((z2 * (4 : Int32)) + (3 : Int32)).toNatClampNeg))), (2, .int (z2 + (1 : Int32)))]) [2, 1, 0] rfl hk
set_option maxHeartbeats 4000000 in
set_option maxRecDepth 20000 in
theorem gl_State_dueOfAll_L4 (X : Cx θ p s m args c cX7_dueOfAll 3 RX7) (hr : meth.sig.returnType = some .int) (hlk : meth.locks = false)  {σ : Mem} {x0 : Nat} {r : Int32} (h0 : kd x0 = 8) (n : Nat) (a : Int32 × Int32) (b : Int32) (h : loopF (f_State_dueOfAll_L4 σ x0) n a = some b) (hk : (fun b => b = r) b) : (fun a => @Prod.casesOn (Int32) (Int32) (fun _ => Prop) a fun z1 z2 => GB θ p l e 0 s m args below meth c 3 (some (.int r), σ) 4 [(0, .ref (be θ + x0)), (1, .int z1), (2, .int z2)] [] σ) a :=
  loopF_by (P := (fun a => @Prod.casesOn (Int32) (Int32) (fun _ => Prop) a fun z1 z2 => GB θ p l e 0 s m args below meth c 3 (some (.int r), σ) 4 [(0, .ref (be θ + x0)), (1, .int z1), (2, .int z2)] [] σ)) (K := (fun b => b = r)) (fun a x h hk => by obtain ⟨z1, z2⟩ := a; exact gs_State_dueOfAll_L4 X hr hlk  h0 z1 z2 x h hk) n a b h hk
set_option maxHeartbeats 4000000 in
set_option maxRecDepth 20000 in
theorem g_State_dueOfAll (X : Cx θ p s m args c cX7_dueOfAll 3 RX7) (hr : meth.sig.returnType = some .int) (hlk : meth.locks = false)  {σ : Mem} {x0 : Nat} {r : Int32} (h0 : kd x0 = 8) (h : f_State_dueOfAll σ x0 = some r) : GB θ p l e 0 s m args below meth c 3 (some (.int r), σ) 0 [(0, .ref (be θ + x0))] [] σ := by
  unfold f_State_dueOfAll at h
  refine g_iconst X dX7_dueOfAll_0 (v := (0 : Int32)) ic_0 ?_
  refine g_istore_n X dX7_dueOfAll_1 rfl (by decide) (lv' := [(1, .int (0 : Int32)), (0, .ref (be θ + x0))]) rfl ?_
  refine g_iconst X dX7_dueOfAll_2 (v := (0 : Int32)) ic_0 ?_
  refine g_istore_n X dX7_dueOfAll_3 rfl (by decide) (lv' := [(2, .int (0 : Int32)), (1, .int (0 : Int32)), (0, .ref (be θ + x0))]) rfl ?_
  exact g_sub (lv' := [(0, .ref (be θ + x0)), (1, .int (0 : Int32)), (2, .int (0 : Int32))]) [2, 1, 0] rfl (gl_State_dueOfAll_L4 X hr hlk  h0  FU _ _ h rfl)
set_option maxHeartbeats 4000000 in
set_option maxRecDepth 20000 in
theorem c_State_dueOfAll {θ : Th} {l : Launch} {σ : Mem} {x0 : Nat} {r : Int32} (h0 : kd x0 = 8) (h : f_State_dueOfAll σ x0 = some r) : Cn θ l yX7_dueOfAll cX7_dueOfAll 3 (some .int) 0 0 0 [.ref (be θ + x0)] σ (some (.int r), σ) :=
  Cn.of (by decide) (Nat.le_of_ble_eq_true rfl) (fun p e s m below meth c X hr hlk => g_State_dueOfAll X hr hlk h0 h)
theorem dX3_foretell_0 : decode cX3_foretell 0 = .ok (.iconst 0, 1) := by decide +kernel
theorem dX3_foretell_1 : decode cX3_foretell 1 = .ok (.istore 4, 2) := by decide +kernel
theorem dX3_foretell_3 : decode cX3_foretell 3 = .ok (.iload 4, 2) := by decide +kernel
theorem dX3_foretell_5 : decode cX3_foretell 5 = .ok (.bipush 10, 2) := by decide +kernel
theorem dX3_foretell_7 : decode cX3_foretell 7 = .ok (.if_icmp .ge 89, 3) := by decide +kernel
theorem dX3_foretell_10 : decode cX3_foretell 10 = .ok (.aload_n 0, 1) := by decide +kernel
theorem dX3_foretell_11 : decode cX3_foretell 11 = .ok (.getfield 12, 3) := by decide +kernel
theorem dX3_foretell_14 : decode cX3_foretell 14 = .ok (.aload_n 1, 1) := by decide +kernel
theorem dX3_foretell_15 : decode cX3_foretell 15 = .ok (.getfield 42, 3) := by decide +kernel
theorem dX3_foretell_18 : decode cX3_foretell 18 = .ok (.invokevirtual 48, 3) := by decide +kernel
theorem dX3_foretell_21 : decode cX3_foretell 21 = .ok (.aload_n 0, 1) := by decide +kernel
theorem dX3_foretell_22 : decode cX3_foretell 22 = .ok (.getfield 12, 3) := by decide +kernel
theorem dX3_foretell_25 : decode cX3_foretell 25 = .ok (.getfield 52, 3) := by decide +kernel
theorem dX3_foretell_28 : decode cX3_foretell 28 = .ok (.iload_n 2, 1) := by decide +kernel
theorem dX3_foretell_29 : decode cX3_foretell 29 = .ok (.iload 4, 2) := by decide +kernel
theorem dX3_foretell_31 : decode cX3_foretell 31 = .ok (.iastore, 1) := by decide +kernel
theorem dX3_foretell_32 : decode cX3_foretell 32 = .ok (.iconst 1, 1) := by decide +kernel
theorem dX3_foretell_33 : decode cX3_foretell 33 = .ok (.istore 5, 2) := by decide +kernel
theorem dX3_foretell_35 : decode cX3_foretell 35 = .ok (.iload 5, 2) := by decide +kernel
theorem dX3_foretell_37 : decode cX3_foretell 37 = .ok (.iload_n 3, 1) := by decide +kernel
theorem dX3_foretell_38 : decode cX3_foretell 38 = .ok (.if_icmp .gt 52, 3) := by decide +kernel
theorem dX3_foretell_41 : decode cX3_foretell 41 = .ok (.iload 5, 2) := by decide +kernel
theorem dX3_foretell_43 : decode cX3_foretell 43 = .ok (.bipush 61, 2) := by decide +kernel
theorem dX3_foretell_45 : decode cX3_foretell 45 = .ok (.if_icmp .ge 45, 3) := by decide +kernel
theorem dX3_foretell_48 : decode cX3_foretell 48 = .ok (.aload_n 1, 1) := by decide +kernel
theorem dX3_foretell_49 : decode cX3_foretell 49 = .ok (.aload_n 0, 1) := by decide +kernel
theorem dX3_foretell_50 : decode cX3_foretell 50 = .ok (.getfield 12, 3) := by decide +kernel
theorem dX3_foretell_53 : decode cX3_foretell 53 = .ok (.invokevirtual 55, 3) := by decide +kernel
theorem dX3_foretell_56 : decode cX3_foretell 56 = .ok (.aload_n 0, 1) := by decide +kernel
theorem dX3_foretell_57 : decode cX3_foretell 57 = .ok (.getfield 29, 3) := by decide +kernel
theorem dX3_foretell_60 : decode cX3_foretell 60 = .ok (.iload 4, 2) := by decide +kernel
theorem dX3_foretell_62 : decode cX3_foretell 62 = .ok (.bipush 61, 2) := by decide +kernel
theorem dX3_foretell_64 : decode cX3_foretell 64 = .ok (.imul, 1) := by decide +kernel
theorem dX3_foretell_65 : decode cX3_foretell 65 = .ok (.iload 5, 2) := by decide +kernel
theorem dX3_foretell_67 : decode cX3_foretell 67 = .ok (.iadd, 1) := by decide +kernel
theorem dX3_foretell_68 : decode cX3_foretell 68 = .ok (.aload_n 0, 1) := by decide +kernel
theorem dX3_foretell_69 : decode cX3_foretell 69 = .ok (.getfield 12, 3) := by decide +kernel
theorem dX3_foretell_72 : decode cX3_foretell 72 = .ok (.getfield 59, 3) := by decide +kernel
theorem dX3_foretell_75 : decode cX3_foretell 75 = .ok (.aload_n 0, 1) := by decide +kernel
theorem dX3_foretell_76 : decode cX3_foretell 76 = .ok (.getfield 12, 3) := by decide +kernel
theorem dX3_foretell_79 : decode cX3_foretell 79 = .ok (.invokevirtual 62, 3) := by decide +kernel
theorem dX3_foretell_82 : decode cX3_foretell 82 = .ok (.iadd, 1) := by decide +kernel
theorem dX3_foretell_83 : decode cX3_foretell 83 = .ok (.iastore, 1) := by decide +kernel
theorem dX3_foretell_84 : decode cX3_foretell 84 = .ok (.iinc 5 1, 3) := by decide +kernel
theorem dX3_foretell_87 : decode cX3_foretell 87 = .ok (.goto (-52), 3) := by decide +kernel
theorem dX3_foretell_90 : decode cX3_foretell 90 = .ok (.iinc 4 1, 3) := by decide +kernel
theorem dX3_foretell_93 : decode cX3_foretell 93 = .ok (.goto (-90), 3) := by decide +kernel
theorem dX3_foretell_96 : decode cX3_foretell 96 = .ok (.return_, 1) := by decide +kernel
def f_Guess_foretell_L35 (x2 : Int32) (x3 : Int32) (y4 : Int32) (a : Mem × Int32) : Option ((Mem × Int32) ⊕ (Mem)) :=
  @Prod.casesOn (Mem) (Int32) (fun _ => Option ((Mem × Int32) ⊕ (Mem))) a fun τ z5 =>
  if x3 < z5 then
    some (.inr τ)
  else
    if (61 : Int32) ≤ z5 then
      some (.inr τ)
    else
      (f_Trade_passHour τ 517).bind fun q7 =>
      (f_State_dueOfAll q7 517).bind fun q8 =>
      if inb ((y4 * (61 : Int32)) + z5) 610 then
        some (.inl ((sI q7 530 ((y4 * (61 : Int32)) + z5).toNatClampNeg ((mI q7 517 13) + q8)), (z5 + (1 : Int32))))
      else none
def f_Guess_foretell_L3 (x2 : Int32) (x3 : Int32) (a : Mem × Int32) : Option ((Mem × Int32) ⊕ (Mem)) :=
  @Prod.casesOn (Mem) (Int32) (fun _ => Option ((Mem × Int32) ⊕ (Mem))) a fun τ z4 =>
  if (10 : Int32) ≤ z4 then
    some (.inr τ)
  else
    if kd (mR τ 428 1) = 2 then
      (f_State_beginAs τ 517 (mR τ 428 1)).bind fun q3 =>
      if inb x2 6 then
        (loopF (f_Guess_foretell_L35 x2 x3 z4) FU ((sI q3 524 x2.toNatClampNeg z4), (1 : Int32))).bind fun w10 =>
        some (.inl (w10, (z4 + (1 : Int32))))
      else none
    else none
def f_Guess_foretell (σ : Mem) (x2 : Int32) (x3 : Int32) : Option (Mem) :=
  loopF (f_Guess_foretell_L3 x2 x3) FU (σ, (0 : Int32))
set_option maxHeartbeats 4000000 in
set_option maxRecDepth 20000 in
theorem gs_Guess_foretell_L35 (X : Cx θ p s m args c cX3_foretell 6 RX3) (hr : meth.sig.returnType = none) (hlk : meth.locks = false)  {x2 : Int32} {x3 : Int32} {y4 : Int32} {r : Mem}  (τ : Mem) (z5 : Int32) (x : (Mem × Int32) ⊕ (Mem)) (h : f_Guess_foretell_L35 x2 x3 y4 (τ, z5) = some x) (hk : Sum.elim (fun a => @Prod.casesOn (Mem) (Int32) (fun _ => Prop) a fun τ z5 => GB θ p l e 5 s m args below meth c 6 (none, r) 35 [(0, .ref (be θ + 516)), (1, .ref (be θ + 428)), (2, .int x2), (3, .int x3), (4, .int y4), (5, .int z5)] [] τ) (fun w => GB θ p l e 5 s m args below meth c 6 (none, r) 90 [(0, .ref (be θ + 516)), (1, .ref (be θ + 428)), (2, .int x2), (3, .int x3), (4, .int y4)] [] w) x) : GB θ p l e 5 s m args below meth c 6 (none, r) 35 [(0, .ref (be θ + 516)), (1, .ref (be θ + 428)), (2, .int x2), (3, .int x3), (4, .int y4), (5, .int z5)] [] τ := by
  unfold f_Guess_foretell_L35 at h
  dsimp only at h
  refine g_iload X dX3_foretell_35 5 rfl ?_
  refine g_iload_n X dX3_foretell_37 rfl 3 rfl ?_
  refine g_icmp_gt (tgt := 90) X dX3_foretell_38 (by decide) (fun c5 => ?_) (fun c5 => ?_)
  · replace h := (if_pos c5).symm.trans h
    have hk := inr_hk h hk
    exact g_sub (lv' := [(0, .ref (be θ + 516)), (1, .ref (be θ + 428)), (2, .int x2), (3, .int x3), (4, .int y4)]) [0, 1, 2, 3, 4] rfl hk
  · replace h := (if_neg c5).symm.trans h
    refine g_iload X dX3_foretell_41 5 rfl ?_
    refine g_bipush X dX3_foretell_43 (v := (61 : Int32)) bp_61 ?_
    refine g_icmp_ge (tgt := 90) X dX3_foretell_45 (by decide) (fun c6 => ?_) (fun c6 => ?_)
    · replace h := (if_pos c6).symm.trans h
      have hk := inr_hk h hk
      exact g_sub (lv' := [(0, .ref (be θ + 516)), (1, .ref (be θ + 428)), (2, .int x2), (3, .int x3), (4, .int y4)]) [0, 1, 2, 3, 4] rfl hk
    · replace h := (if_neg c6).symm.trans h
      refine g_aload_n X dX3_foretell_48 rfl 1 rfl ?_
      refine g_aload_n X dX3_foretell_49 rfl 0 rfl ?_
      refine g_get X fl_RX3_12 dX3_foretell_50 kd_516 (v := .ref (be θ + 517)) rfl ?_
      obtain ⟨q7, hq7, h⟩ := Option.bind_eq_some_iff.mp h
      refine g_cV X (c_Trade_passHour kd_517 hq7) lk_RX3_55 my_X9_passHour (a := 428) (ci := 9) kd_428 (by decide) rfl (As := [.ref (be θ + 517)]) (rest := []) rfl rfl (Nat.le_of_ble_eq_true rfl) ⟨(Nat.le_of_ble_eq_true rfl), (Nat.le_of_ble_eq_true rfl)⟩ ⟨(Nat.le_of_ble_eq_true rfl), (Nat.le_of_ble_eq_true rfl)⟩ dX3_foretell_53 (st' := []) (σ' := q7) rfl rfl ?_
      refine g_aload_n X dX3_foretell_56 rfl 0 rfl ?_
      refine g_get X fl_RX3_29 dX3_foretell_57 kd_516 (v := .ref (be θ + 530)) rfl ?_
      refine g_iload X dX3_foretell_60 4 rfl ?_
      refine g_bipush X dX3_foretell_62 (v := (61 : Int32)) bp_61 ?_
      refine g_imul X dX3_foretell_64 ?_
      refine g_iload X dX3_foretell_65 5 rfl ?_
      refine g_iadd X dX3_foretell_67 ?_
      refine g_aload_n X dX3_foretell_68 rfl 0 rfl ?_
      refine g_get X fl_RX3_12 dX3_foretell_69 kd_516 (v := .ref (be θ + 517)) rfl ?_
      refine g_get X fl_RX3_59 dX3_foretell_72 kd_517 (v := .int (mI q7 517 13)) rfl ?_
      refine g_aload_n X dX3_foretell_75 rfl 0 rfl ?_
      refine g_get X fl_RX3_12 dX3_foretell_76 kd_516 (v := .ref (be θ + 517)) rfl ?_
      obtain ⟨q8, hq8, h⟩ := Option.bind_eq_some_iff.mp h
      refine g_cV X (c_State_dueOfAll kd_517 hq8) lk_RX3_62 my_X7_dueOfAll (a := 517) (ci := 7) kd_517 (by decide) rfl (As := []) (rest := [.int (mI q7 517 13), .int ((y4 * (61 : Int32)) + z5), .ref (be θ + 530)]) rfl rfl (Nat.le_of_ble_eq_true rfl) ⟨(Nat.le_of_ble_eq_true rfl), (Nat.le_of_ble_eq_true rfl)⟩ ⟨(Nat.le_of_ble_eq_true rfl), (Nat.le_of_ble_eq_true rfl)⟩ dX3_foretell_79 (st' := [.int q8, .int (mI q7 517 13), .int ((y4 * (61 : Int32)) + z5), .ref (be θ + 530)]) (σ' := q7) rfl rfl ?_
      refine g_iadd X dX3_foretell_82 ?_
      obtain ⟨g9, h⟩ := ite_some h
      refine g_iast X kd_530 ln_530 (inb_in g9) dX3_foretell_83 ?_
      refine g_iinc X dX3_foretell_84 (kq := 5) rfl (congrArg (HAdd.hAdd _) ic_1) (by decide) (lv' := [(5, .int (z5 + (1 : Int32))), (0, .ref (be θ + 516)), (1, .ref (be θ + 428)), (2, .int x2), (3, .int x3), (4, .int y4)]) rfl ?_
      refine g_goto (tgt := 35) X dX3_foretell_87 (by decide) ?_
      have hk := inl_hk h hk
      exact g_sub (lv' := [(0, .ref (be θ + 516)), (1, .ref (be θ + 428)), (2, .int x2), (3, .int x3), (4, .int y4), (5, .int (z5 + (1 : Int32)))]) [1, 2, 3, 4, 5, 0] rfl hk
set_option maxHeartbeats 4000000 in
set_option maxRecDepth 20000 in
theorem gl_Guess_foretell_L35 (X : Cx θ p s m args c cX3_foretell 6 RX3) (hr : meth.sig.returnType = none) (hlk : meth.locks = false)  {x2 : Int32} {x3 : Int32} {y4 : Int32} {r : Mem}  (n : Nat) (a : Mem × Int32) (b : Mem) (h : loopF (f_Guess_foretell_L35 x2 x3 y4) n a = some b) (hk : (fun w => GB θ p l e 5 s m args below meth c 6 (none, r) 90 [(0, .ref (be θ + 516)), (1, .ref (be θ + 428)), (2, .int x2), (3, .int x3), (4, .int y4)] [] w) b) : (fun a => @Prod.casesOn (Mem) (Int32) (fun _ => Prop) a fun τ z5 => GB θ p l e 5 s m args below meth c 6 (none, r) 35 [(0, .ref (be θ + 516)), (1, .ref (be θ + 428)), (2, .int x2), (3, .int x3), (4, .int y4), (5, .int z5)] [] τ) a :=
  loopF_by (P := (fun a => @Prod.casesOn (Mem) (Int32) (fun _ => Prop) a fun τ z5 => GB θ p l e 5 s m args below meth c 6 (none, r) 35 [(0, .ref (be θ + 516)), (1, .ref (be θ + 428)), (2, .int x2), (3, .int x3), (4, .int y4), (5, .int z5)] [] τ)) (K := (fun w => GB θ p l e 5 s m args below meth c 6 (none, r) 90 [(0, .ref (be θ + 516)), (1, .ref (be θ + 428)), (2, .int x2), (3, .int x3), (4, .int y4)] [] w)) (fun a x h hk => by obtain ⟨τ, z5⟩ := a; exact gs_Guess_foretell_L35 X hr hlk   τ z5 x h hk) n a b h hk
set_option maxHeartbeats 4000000 in
set_option maxRecDepth 20000 in
theorem gs_Guess_foretell_L3 (X : Cx θ p s m args c cX3_foretell 6 RX3) (hr : meth.sig.returnType = none) (hlk : meth.locks = false)  {x2 : Int32} {x3 : Int32} {r : Mem}  (τ : Mem) (z4 : Int32) (x : (Mem × Int32) ⊕ (Mem)) (h : f_Guess_foretell_L3 x2 x3 (τ, z4) = some x) (hk : Sum.elim (fun a => @Prod.casesOn (Mem) (Int32) (fun _ => Prop) a fun τ z4 => GB θ p l e 5 s m args below meth c 6 (none, r) 3 [(0, .ref (be θ + 516)), (1, .ref (be θ + 428)), (2, .int x2), (3, .int x3), (4, .int z4)] [] τ) (fun b => b = r) x) : GB θ p l e 5 s m args below meth c 6 (none, r) 3 [(0, .ref (be θ + 516)), (1, .ref (be θ + 428)), (2, .int x2), (3, .int x3), (4, .int z4)] [] τ := by
  unfold f_Guess_foretell_L3 at h
  dsimp only at h
  refine g_iload X dX3_foretell_3 4 rfl ?_
  refine g_bipush X dX3_foretell_5 (v := (10 : Int32)) bp_10 ?_
  refine g_icmp_ge (tgt := 96) X dX3_foretell_7 (by decide) (fun c1 => ?_) (fun c1 => ?_)
  · replace h := (if_pos c1).symm.trans h
    have hk := inr_hk h hk
    have hk : τ = r := hk
    subst hk
    exact g_vret X hr hlk dX3_foretell_96 rfl
  · replace h := (if_neg c1).symm.trans h
    refine g_aload_n X dX3_foretell_10 rfl 0 rfl ?_
    refine g_get X fl_RX3_12 dX3_foretell_11 kd_516 (v := .ref (be θ + 517)) rfl ?_
    refine g_aload_n X dX3_foretell_14 rfl 1 rfl ?_
    refine g_get X fl_RX3_42 dX3_foretell_15 kd_428 (v := rv (be θ) (mR τ 428 1)) rfl ?_
    obtain ⟨g2, h⟩ := ite_some h
    rw [← rv_of (β := be θ) g2 (by decide)]
    obtain ⟨q3, hq3, h⟩ := Option.bind_eq_some_iff.mp h
    refine g_cV X (c_State_beginAs kd_517 g2 hq3) lk_RX3_48 my_X7_beginAs (a := 517) (ci := 7) kd_517 (by decide) rfl (As := [.ref (be θ + (mR τ 428 1))]) (rest := []) rfl rfl (Nat.le_of_ble_eq_true rfl) ⟨(Nat.le_of_ble_eq_true rfl), (Nat.le_of_ble_eq_true rfl)⟩ ⟨(Nat.le_of_ble_eq_true rfl), (Nat.le_of_ble_eq_true rfl)⟩ dX3_foretell_18 (st' := []) (σ' := q3) rfl rfl ?_
    refine g_aload_n X dX3_foretell_21 rfl 0 rfl ?_
    refine g_get X fl_RX3_12 dX3_foretell_22 kd_516 (v := .ref (be θ + 517)) rfl ?_
    refine g_get X fl_RX3_52 dX3_foretell_25 kd_517 (v := .ref (be θ + 524)) rfl ?_
    refine g_iload_n X dX3_foretell_28 rfl 2 rfl ?_
    refine g_iload X dX3_foretell_29 4 rfl ?_
    obtain ⟨g4, h⟩ := ite_some h
    refine g_iast X kd_524 ln_524 (inb_in g4) dX3_foretell_31 ?_
    refine g_iconst X dX3_foretell_32 (v := (1 : Int32)) ic_1 ?_
    refine g_istore X dX3_foretell_33 (by decide) (lv' := [(5, .int (1 : Int32)), (0, .ref (be θ + 516)), (1, .ref (be θ + 428)), (2, .int x2), (3, .int x3), (4, .int z4)]) rfl ?_
    obtain ⟨w10, hq10, h⟩ := Option.bind_eq_some_iff.mp h
    refine g_sub (lv' := [(0, .ref (be θ + 516)), (1, .ref (be θ + 428)), (2, .int x2), (3, .int x3), (4, .int z4), (5, .int (1 : Int32))]) [1, 2, 3, 4, 5, 0] rfl (gl_Guess_foretell_L35 X hr hlk    FU _ w10 hq10 ?_)
    refine g_iinc X dX3_foretell_90 (kq := 4) rfl (congrArg (HAdd.hAdd _) ic_1) (by decide) (lv' := [(4, .int (z4 + (1 : Int32))), (0, .ref (be θ + 516)), (1, .ref (be θ + 428)), (2, .int x2), (3, .int x3)]) rfl ?_
    refine g_goto (tgt := 3) X dX3_foretell_93 (by decide) ?_
    have hk := inl_hk h hk
    exact g_sub (lv' := [(0, .ref (be θ + 516)), (1, .ref (be θ + 428)), (2, .int x2), (3, .int x3), (4, .int (z4 + (1 : Int32)))]) [1, 2, 3, 4, 0] rfl hk
set_option maxHeartbeats 4000000 in
set_option maxRecDepth 20000 in
theorem gl_Guess_foretell_L3 (X : Cx θ p s m args c cX3_foretell 6 RX3) (hr : meth.sig.returnType = none) (hlk : meth.locks = false)  {x2 : Int32} {x3 : Int32} {r : Mem}  (n : Nat) (a : Mem × Int32) (b : Mem) (h : loopF (f_Guess_foretell_L3 x2 x3) n a = some b) (hk : (fun b => b = r) b) : (fun a => @Prod.casesOn (Mem) (Int32) (fun _ => Prop) a fun τ z4 => GB θ p l e 5 s m args below meth c 6 (none, r) 3 [(0, .ref (be θ + 516)), (1, .ref (be θ + 428)), (2, .int x2), (3, .int x3), (4, .int z4)] [] τ) a :=
  loopF_by (P := (fun a => @Prod.casesOn (Mem) (Int32) (fun _ => Prop) a fun τ z4 => GB θ p l e 5 s m args below meth c 6 (none, r) 3 [(0, .ref (be θ + 516)), (1, .ref (be θ + 428)), (2, .int x2), (3, .int x3), (4, .int z4)] [] τ)) (K := (fun b => b = r)) (fun a x h hk => by obtain ⟨τ, z4⟩ := a; exact gs_Guess_foretell_L3 X hr hlk   τ z4 x h hk) n a b h hk
set_option maxHeartbeats 4000000 in
set_option maxRecDepth 20000 in
theorem g_Guess_foretell (X : Cx θ p s m args c cX3_foretell 6 RX3) (hr : meth.sig.returnType = none) (hlk : meth.locks = false)  {σ : Mem} {x2 : Int32} {x3 : Int32} {r : Mem}  (h : f_Guess_foretell σ x2 x3 = some r) : GB θ p l e 5 s m args below meth c 6 (none, r) 0 [(0, .ref (be θ + 516)), (1, .ref (be θ + 428)), (2, .int x2), (3, .int x3)] [] σ := by
  unfold f_Guess_foretell at h
  refine g_iconst X dX3_foretell_0 (v := (0 : Int32)) ic_0 ?_
  refine g_istore X dX3_foretell_1 (by decide) (lv' := [(4, .int (0 : Int32)), (0, .ref (be θ + 516)), (1, .ref (be θ + 428)), (2, .int x2), (3, .int x3)]) rfl ?_
  exact g_sub (lv' := [(0, .ref (be θ + 516)), (1, .ref (be θ + 428)), (2, .int x2), (3, .int x3), (4, .int (0 : Int32))]) [1, 2, 3, 4, 0] rfl (gl_Guess_foretell_L3 X hr hlk    FU _ _ h rfl)
set_option maxHeartbeats 4000000 in
set_option maxRecDepth 20000 in
theorem c_Guess_foretell {θ : Th} {l : Launch} {σ : Mem} {x2 : Int32} {x3 : Int32} {r : Mem}  (h : f_Guess_foretell σ x2 x3 = some r) : Cn θ l yX3_foretell cX3_foretell 6 (none) 5 0 0 [.ref (be θ + 516), .ref (be θ + 428), .int x2, .int x3] σ (none, r) :=
  Cn.of (by decide) (Nat.le_of_ble_eq_true rfl) (fun p e s m below meth c X hr hlk => g_Guess_foretell X hr hlk  h)
theorem dX3_fits_0 : decode cX3_fits 0 = .ok (.iconst 0, 1) := by decide +kernel
theorem dX3_fits_1 : decode cX3_fits 1 = .ok (.istore_n 2, 1) := by decide +kernel
theorem dX3_fits_2 : decode cX3_fits 2 = .ok (.iload_n 2, 1) := by decide +kernel
theorem dX3_fits_3 : decode cX3_fits 3 = .ok (.aload_n 0, 1) := by decide +kernel
theorem dX3_fits_4 : decode cX3_fits 4 = .ok (.getfield 32, 3) := by decide +kernel
theorem dX3_fits_7 : decode cX3_fits 7 = .ok (.if_icmp .ge 50, 3) := by decide +kernel
theorem dX3_fits_10 : decode cX3_fits 10 = .ok (.aload_n 0, 1) := by decide +kernel
theorem dX3_fits_11 : decode cX3_fits 11 = .ok (.getfield 29, 3) := by decide +kernel
theorem dX3_fits_14 : decode cX3_fits 14 = .ok (.iload_n 1, 1) := by decide +kernel
theorem dX3_fits_15 : decode cX3_fits 15 = .ok (.bipush 61, 2) := by decide +kernel
theorem dX3_fits_17 : decode cX3_fits 17 = .ok (.imul, 1) := by decide +kernel
theorem dX3_fits_18 : decode cX3_fits 18 = .ok (.aload_n 0, 1) := by decide +kernel
theorem dX3_fits_19 : decode cX3_fits 19 = .ok (.getfield 18, 3) := by decide +kernel
theorem dX3_fits_22 : decode cX3_fits 22 = .ok (.iload_n 2, 1) := by decide +kernel
theorem dX3_fits_23 : decode cX3_fits 23 = .ok (.iaload, 1) := by decide +kernel
theorem dX3_fits_24 : decode cX3_fits 24 = .ok (.iadd, 1) := by decide +kernel
theorem dX3_fits_25 : decode cX3_fits 25 = .ok (.iaload, 1) := by decide +kernel
theorem dX3_fits_26 : decode cX3_fits 26 = .ok (.aload_n 0, 1) := by decide +kernel
theorem dX3_fits_27 : decode cX3_fits 27 = .ok (.getfield 22, 3) := by decide +kernel
theorem dX3_fits_30 : decode cX3_fits 30 = .ok (.iload_n 2, 1) := by decide +kernel
theorem dX3_fits_31 : decode cX3_fits 31 = .ok (.iaload, 1) := by decide +kernel
theorem dX3_fits_32 : decode cX3_fits 32 = .ok (.if_icmp .lt 7, 3) := by decide +kernel
theorem dX3_fits_35 : decode cX3_fits 35 = .ok (.iconst 1, 1) := by decide +kernel
theorem dX3_fits_36 : decode cX3_fits 36 = .ok (.goto 4, 3) := by decide +kernel
theorem dX3_fits_39 : decode cX3_fits 39 = .ok (.iconst 0, 1) := by decide +kernel
theorem dX3_fits_40 : decode cX3_fits 40 = .ok (.aload_n 0, 1) := by decide +kernel
theorem dX3_fits_41 : decode cX3_fits 41 = .ok (.getfield 25, 3) := by decide +kernel
theorem dX3_fits_44 : decode cX3_fits 44 = .ok (.iload_n 2, 1) := by decide +kernel
theorem dX3_fits_45 : decode cX3_fits 45 = .ok (.baload, 1) := by decide +kernel
theorem dX3_fits_46 : decode cX3_fits 46 = .ok (.if_icmp .eq 5, 3) := by decide +kernel
theorem dX3_fits_49 : decode cX3_fits 49 = .ok (.iconst 0, 1) := by decide +kernel
theorem dX3_fits_50 : decode cX3_fits 50 = .ok (.ireturn, 1) := by decide +kernel
theorem dX3_fits_51 : decode cX3_fits 51 = .ok (.iinc 2 1, 3) := by decide +kernel
theorem dX3_fits_54 : decode cX3_fits 54 = .ok (.goto (-52), 3) := by decide +kernel
theorem dX3_fits_57 : decode cX3_fits 57 = .ok (.iconst 1, 1) := by decide +kernel
theorem dX3_fits_58 : decode cX3_fits 58 = .ok (.ireturn, 1) := by decide +kernel
def f_Guess_fits_L2 (σ : Mem) (x1 : Int32) (a : Int32) : Option ((Int32) ⊕ (Int32)) :=
  if (mI σ 516 5) ≤ a then
    some (.inr (1 : Int32))
  else
    if inb a 10 then
      if inb ((x1 * (61 : Int32)) + (mI σ 527 a.toNatClampNeg)) 610 then
        if (mI σ 530 ((x1 * (61 : Int32)) + (mI σ 527 a.toNatClampNeg)).toNatClampNeg) < (mI σ 528 a.toNatClampNeg) then
          if (0 : Int32) = (mI σ 529 a.toNatClampNeg) then
            some (.inl (a + (1 : Int32)))
          else
            some (.inr (0 : Int32))
        else
          if (1 : Int32) = (mI σ 529 a.toNatClampNeg) then
            some (.inl (a + (1 : Int32)))
          else
            some (.inr (0 : Int32))
      else none
    else none
def f_Guess_fits (σ : Mem) (x1 : Int32) : Option (Int32) :=
  loopF (f_Guess_fits_L2 σ x1) FU (0 : Int32)
set_option maxHeartbeats 4000000 in
set_option maxRecDepth 20000 in
theorem gs_Guess_fits_L2 (X : Cx θ p s m args c cX3_fits 3 RX3) (hr : meth.sig.returnType = some .boolean) (hlk : meth.locks = false)  {σ : Mem} {x1 : Int32} {r : Int32}  (a : Int32) (x : (Int32) ⊕ (Int32)) (h : f_Guess_fits_L2 σ x1 a = some x) (hk : Sum.elim (fun a => GB θ p l e 0 s m args below meth c 3 (some (.int r), σ) 2 [(0, .ref (be θ + 516)), (1, .int x1), (2, .int a)] [] σ) (fun b => b = r) x) : GB θ p l e 0 s m args below meth c 3 (some (.int r), σ) 2 [(0, .ref (be θ + 516)), (1, .int x1), (2, .int a)] [] σ := by
  unfold f_Guess_fits_L2 at h
  refine g_iload_n X dX3_fits_2 rfl 2 rfl ?_
  refine g_aload_n X dX3_fits_3 rfl 0 rfl ?_
  refine g_get X fl_RX3_32 dX3_fits_4 kd_516 (v := .int (mI σ 516 5)) rfl ?_
  refine g_icmp_ge (tgt := 57) X dX3_fits_7 (by decide) (fun c1 => ?_) (fun c1 => ?_)
  · replace h := (if_pos c1).symm.trans h
    refine g_iconst X dX3_fits_57 (v := (1 : Int32)) ic_1 ?_
    have hk := inr_hk h hk
    have hk : (1 : Int32) = r := hk
    subst hk
    exact g_zret X hr hlk bz1 dX3_fits_58 rfl
  · replace h := (if_neg c1).symm.trans h
    refine g_aload_n X dX3_fits_10 rfl 0 rfl ?_
    refine g_get X fl_RX3_29 dX3_fits_11 kd_516 (v := .ref (be θ + 530)) rfl ?_
    refine g_iload_n X dX3_fits_14 rfl 1 rfl ?_
    refine g_bipush X dX3_fits_15 (v := (61 : Int32)) bp_61 ?_
    refine g_imul X dX3_fits_17 ?_
    refine g_aload_n X dX3_fits_18 rfl 0 rfl ?_
    refine g_get X fl_RX3_18 dX3_fits_19 kd_516 (v := .ref (be θ + 527)) rfl ?_
    refine g_iload_n X dX3_fits_22 rfl 2 rfl ?_
    obtain ⟨g2, h⟩ := ite_some h
    refine g_iald X kd_527 ln_527 (inb_in g2) dX3_fits_23 ?_
    refine g_iadd X dX3_fits_24 ?_
    obtain ⟨g3, h⟩ := ite_some h
    refine g_iald X kd_530 ln_530 (inb_in g3) dX3_fits_25 ?_
    refine g_aload_n X dX3_fits_26 rfl 0 rfl ?_
    refine g_get X fl_RX3_22 dX3_fits_27 kd_516 (v := .ref (be θ + 528)) rfl ?_
    refine g_iload_n X dX3_fits_30 rfl 2 rfl ?_
    refine g_iald X kd_528 ln_528 (inb_in g2) dX3_fits_31 ?_
    refine g_icmp_lt (tgt := 39) X dX3_fits_32 (by decide) (fun c4 => ?_) (fun c4 => ?_)
    · replace h := (if_pos c4).symm.trans h
      refine g_iconst X dX3_fits_39 (v := (0 : Int32)) ic_0 ?_
      refine g_aload_n X dX3_fits_40 rfl 0 rfl ?_
      refine g_get X fl_RX3_25 dX3_fits_41 kd_516 (v := .ref (be θ + 529)) rfl ?_
      refine g_iload_n X dX3_fits_44 rfl 2 rfl ?_
      refine g_zald X kd_529 ln_529 (inb_in g2) dX3_fits_45 ?_
      refine g_icmp_eq (tgt := 51) X dX3_fits_46 (by decide) (fun c5 => ?_) (fun c5 => ?_)
      · replace h := (if_pos c5).symm.trans h
        refine g_iinc X dX3_fits_51 (kq := 2) rfl (congrArg (HAdd.hAdd _) ic_1) (by decide) (lv' := [(2, .int (a + (1 : Int32))), (0, .ref (be θ + 516)), (1, .int x1)]) rfl ?_
        refine g_goto (tgt := 2) X dX3_fits_54 (by decide) ?_
        have hk := inl_hk h hk
        exact g_sub (lv' := [(0, .ref (be θ + 516)), (1, .int x1), (2, .int (a + (1 : Int32)))]) [1, 2, 0] rfl hk
      · replace h := (if_neg c5).symm.trans h
        refine g_iconst X dX3_fits_49 (v := (0 : Int32)) ic_0 ?_
        have hk := inr_hk h hk
        have hk : (0 : Int32) = r := hk
        subst hk
        exact g_zret X hr hlk bz0 dX3_fits_50 rfl
    · replace h := (if_neg c4).symm.trans h
      refine g_iconst X dX3_fits_35 (v := (1 : Int32)) ic_1 ?_
      refine g_goto (tgt := 40) X dX3_fits_36 (by decide) ?_
      refine g_aload_n X dX3_fits_40 rfl 0 rfl ?_
      refine g_get X fl_RX3_25 dX3_fits_41 kd_516 (v := .ref (be θ + 529)) rfl ?_
      refine g_iload_n X dX3_fits_44 rfl 2 rfl ?_
      refine g_zald X kd_529 ln_529 (inb_in g2) dX3_fits_45 ?_
      refine g_icmp_eq (tgt := 51) X dX3_fits_46 (by decide) (fun c6 => ?_) (fun c6 => ?_)
      · replace h := (if_pos c6).symm.trans h
        refine g_iinc X dX3_fits_51 (kq := 2) rfl (congrArg (HAdd.hAdd _) ic_1) (by decide) (lv' := [(2, .int (a + (1 : Int32))), (0, .ref (be θ + 516)), (1, .int x1)]) rfl ?_
        refine g_goto (tgt := 2) X dX3_fits_54 (by decide) ?_
        have hk := inl_hk h hk
        exact g_sub (lv' := [(0, .ref (be θ + 516)), (1, .int x1), (2, .int (a + (1 : Int32)))]) [1, 2, 0] rfl hk
      · replace h := (if_neg c6).symm.trans h
        refine g_iconst X dX3_fits_49 (v := (0 : Int32)) ic_0 ?_
        have hk := inr_hk h hk
        have hk : (0 : Int32) = r := hk
        subst hk
        exact g_zret X hr hlk bz0 dX3_fits_50 rfl
set_option maxHeartbeats 4000000 in
set_option maxRecDepth 20000 in
theorem gl_Guess_fits_L2 (X : Cx θ p s m args c cX3_fits 3 RX3) (hr : meth.sig.returnType = some .boolean) (hlk : meth.locks = false)  {σ : Mem} {x1 : Int32} {r : Int32}  (n : Nat) (a : Int32) (b : Int32) (h : loopF (f_Guess_fits_L2 σ x1) n a = some b) (hk : (fun b => b = r) b) : (fun a => GB θ p l e 0 s m args below meth c 3 (some (.int r), σ) 2 [(0, .ref (be θ + 516)), (1, .int x1), (2, .int a)] [] σ) a :=
  loopF_by (P := (fun a => GB θ p l e 0 s m args below meth c 3 (some (.int r), σ) 2 [(0, .ref (be θ + 516)), (1, .int x1), (2, .int a)] [] σ)) (K := (fun b => b = r)) (fun a x h hk => by exact gs_Guess_fits_L2 X hr hlk   a x h hk) n a b h hk
set_option maxHeartbeats 4000000 in
set_option maxRecDepth 20000 in
theorem g_Guess_fits (X : Cx θ p s m args c cX3_fits 3 RX3) (hr : meth.sig.returnType = some .boolean) (hlk : meth.locks = false)  {σ : Mem} {x1 : Int32} {r : Int32}  (h : f_Guess_fits σ x1 = some r) : GB θ p l e 0 s m args below meth c 3 (some (.int r), σ) 0 [(0, .ref (be θ + 516)), (1, .int x1)] [] σ := by
  unfold f_Guess_fits at h
  refine g_iconst X dX3_fits_0 (v := (0 : Int32)) ic_0 ?_
  refine g_istore_n X dX3_fits_1 rfl (by decide) (lv' := [(2, .int (0 : Int32)), (0, .ref (be θ + 516)), (1, .int x1)]) rfl ?_
  exact g_sub (lv' := [(0, .ref (be θ + 516)), (1, .int x1), (2, .int (0 : Int32))]) [1, 2, 0] rfl (gl_Guess_fits_L2 X hr hlk    FU _ _ h rfl)
set_option maxHeartbeats 4000000 in
set_option maxRecDepth 20000 in
theorem c_Guess_fits {θ : Th} {l : Launch} {σ : Mem} {x1 : Int32} {r : Int32}  (h : f_Guess_fits σ x1 = some r) : Cn θ l yX3_fits cX3_fits 3 (some .boolean) 0 0 0 [.ref (be θ + 516), .int x1] σ (some (.int r), σ) :=
  Cn.of (by decide) (Nat.le_of_ble_eq_true rfl) (fun p e s m below meth c X hr hlk => g_Guess_fits X hr hlk  h)
theorem dX3_fitting_0 : decode cX3_fitting 0 = .ok (.iconst 0, 1) := by decide +kernel
theorem dX3_fitting_1 : decode cX3_fitting 1 = .ok (.istore_n 1, 1) := by decide +kernel
theorem dX3_fitting_2 : decode cX3_fitting 2 = .ok (.iconst 0, 1) := by decide +kernel
theorem dX3_fitting_3 : decode cX3_fitting 3 = .ok (.istore_n 2, 1) := by decide +kernel
theorem dX3_fitting_4 : decode cX3_fitting 4 = .ok (.iload_n 2, 1) := by decide +kernel
theorem dX3_fitting_5 : decode cX3_fitting 5 = .ok (.bipush 10, 2) := by decide +kernel
theorem dX3_fitting_7 : decode cX3_fitting 7 = .ok (.if_icmp .ge 23, 3) := by decide +kernel
theorem dX3_fitting_10 : decode cX3_fitting 10 = .ok (.aload_n 0, 1) := by decide +kernel
theorem dX3_fitting_11 : decode cX3_fitting 11 = .ok (.iload_n 2, 1) := by decide +kernel
theorem dX3_fitting_12 : decode cX3_fitting 12 = .ok (.invokevirtual 66, 3) := by decide +kernel
theorem dX3_fitting_15 : decode cX3_fitting 15 = .ok (.ifCond .eq 9, 3) := by decide +kernel
theorem dX3_fitting_18 : decode cX3_fitting 18 = .ok (.iload_n 1, 1) := by decide +kernel
theorem dX3_fitting_19 : decode cX3_fitting 19 = .ok (.iconst 1, 1) := by decide +kernel
theorem dX3_fitting_20 : decode cX3_fitting 20 = .ok (.iload_n 2, 1) := by decide +kernel
theorem dX3_fitting_21 : decode cX3_fitting 21 = .ok (.ishl, 1) := by decide +kernel
theorem dX3_fitting_22 : decode cX3_fitting 22 = .ok (.ior, 1) := by decide +kernel
theorem dX3_fitting_23 : decode cX3_fitting 23 = .ok (.istore_n 1, 1) := by decide +kernel
theorem dX3_fitting_24 : decode cX3_fitting 24 = .ok (.iinc 2 1, 3) := by decide +kernel
theorem dX3_fitting_27 : decode cX3_fitting 27 = .ok (.goto (-23), 3) := by decide +kernel
theorem dX3_fitting_30 : decode cX3_fitting 30 = .ok (.iload_n 1, 1) := by decide +kernel
theorem dX3_fitting_31 : decode cX3_fitting 31 = .ok (.ireturn, 1) := by decide +kernel
def f_Guess_fitting_L4 (σ : Mem) (a : Int32 × Int32) : Option ((Int32 × Int32) ⊕ (Int32)) :=
  @Prod.casesOn (Int32) (Int32) (fun _ => Option ((Int32 × Int32) ⊕ (Int32))) a fun z1 z2 =>
  if (10 : Int32) ≤ z2 then
    some (.inr z1)
  else
    (f_Guess_fits σ z2).bind fun q2 =>
    if q2 = (0 : Int32) then
      some (.inl (z1, (z2 + (1 : Int32))))
    else
      some (.inl ((z1 ||| ((1 : Int32) <<< (z2 &&& 31))), (z2 + (1 : Int32))))
def f_Guess_fitting (σ : Mem)  : Option (Int32) :=
  loopF (f_Guess_fitting_L4 σ) FU ((0 : Int32), (0 : Int32))
set_option maxHeartbeats 4000000 in
set_option maxRecDepth 20000 in
theorem gs_Guess_fitting_L4 (X : Cx θ p s m args c cX3_fitting 3 RX3) (hr : meth.sig.returnType = some .int) (hlk : meth.locks = false)  {σ : Mem} {r : Int32}  (z1 : Int32) (z2 : Int32) (x : (Int32 × Int32) ⊕ (Int32)) (h : f_Guess_fitting_L4 σ (z1, z2) = some x) (hk : Sum.elim (fun a => @Prod.casesOn (Int32) (Int32) (fun _ => Prop) a fun z1 z2 => GB θ p l e 1 s m args below meth c 3 (some (.int r), σ) 4 [(0, .ref (be θ + 516)), (1, .int z1), (2, .int z2)] [] σ) (fun b => b = r) x) : GB θ p l e 1 s m args below meth c 3 (some (.int r), σ) 4 [(0, .ref (be θ + 516)), (1, .int z1), (2, .int z2)] [] σ := by
  unfold f_Guess_fitting_L4 at h
  dsimp only at h
  refine g_iload_n X dX3_fitting_4 rfl 2 rfl ?_
  refine g_bipush X dX3_fitting_5 (v := (10 : Int32)) bp_10 ?_
  refine g_icmp_ge (tgt := 30) X dX3_fitting_7 (by decide) (fun c1 => ?_) (fun c1 => ?_)
  · replace h := (if_pos c1).symm.trans h
    refine g_iload_n X dX3_fitting_30 rfl 1 rfl ?_
    have hk := inr_hk h hk
    have hk : z1 = r := hk
    subst hk
    exact g_iret X hr hlk dX3_fitting_31 rfl
  · replace h := (if_neg c1).symm.trans h
    refine g_aload_n X dX3_fitting_10 rfl 0 rfl ?_
    refine g_iload_n X dX3_fitting_11 rfl 2 rfl ?_
    obtain ⟨q2, hq2, h⟩ := Option.bind_eq_some_iff.mp h
    refine g_cV X (c_Guess_fits  hq2) lk_RX3_66 my_X3_fits (a := 516) (ci := 3) kd_516 (by decide) rfl (As := [.int z2]) (rest := []) rfl rfl (Nat.le_of_ble_eq_true rfl) ⟨(Nat.le_of_ble_eq_true rfl), (Nat.le_of_ble_eq_true rfl)⟩ ⟨(Nat.le_of_ble_eq_true rfl), (Nat.le_of_ble_eq_true rfl)⟩ dX3_fitting_12 (st' := [.int q2]) (σ' := σ) rfl rfl ?_
    refine g_if_eq (tgt := 24) X dX3_fitting_15 (by decide) (fun c3 => ?_) (fun c3 => ?_)
    · replace h := (if_pos c3).symm.trans h
      refine g_iinc X dX3_fitting_24 (kq := 2) rfl (congrArg (HAdd.hAdd _) ic_1) (by decide) (lv' := [(2, .int (z2 + (1 : Int32))), (0, .ref (be θ + 516)), (1, .int z1)]) rfl ?_
      refine g_goto (tgt := 4) X dX3_fitting_27 (by decide) ?_
      have hk := inl_hk h hk
      exact g_sub (lv' := [(0, .ref (be θ + 516)), (1, .int z1), (2, .int (z2 + (1 : Int32)))]) [1, 2, 0] rfl hk
    · replace h := (if_neg c3).symm.trans h
      refine g_iload_n X dX3_fitting_18 rfl 1 rfl ?_
      refine g_iconst X dX3_fitting_19 (v := (1 : Int32)) ic_1 ?_
      refine g_iload_n X dX3_fitting_20 rfl 2 rfl ?_
      refine g_ishl X dX3_fitting_21 ?_
      refine g_ior X dX3_fitting_22 ?_
      refine g_istore_n X dX3_fitting_23 rfl (by decide) (lv' := [(1, .int (z1 ||| ((1 : Int32) <<< (z2 &&& 31)))), (0, .ref (be θ + 516)), (2, .int z2)]) rfl ?_
      refine g_iinc X dX3_fitting_24 (kq := 2) rfl (congrArg (HAdd.hAdd _) ic_1) (by decide) (lv' := [(2, .int (z2 + (1 : Int32))), (1, .int (z1 ||| ((1 : Int32) <<< (z2 &&& 31)))), (0, .ref (be θ + 516))]) rfl ?_
      refine g_goto (tgt := 4) X dX3_fitting_27 (by decide) ?_
      have hk := inl_hk h hk
      exact g_sub (lv' := [(0, .ref (be θ + 516)), (1, .int (z1 ||| ((1 : Int32) <<< (z2 &&& 31)))), (2, .int (z2 + (1 : Int32)))]) [2, 1, 0] rfl hk
set_option maxHeartbeats 4000000 in
set_option maxRecDepth 20000 in
theorem gl_Guess_fitting_L4 (X : Cx θ p s m args c cX3_fitting 3 RX3) (hr : meth.sig.returnType = some .int) (hlk : meth.locks = false)  {σ : Mem} {r : Int32}  (n : Nat) (a : Int32 × Int32) (b : Int32) (h : loopF (f_Guess_fitting_L4 σ) n a = some b) (hk : (fun b => b = r) b) : (fun a => @Prod.casesOn (Int32) (Int32) (fun _ => Prop) a fun z1 z2 => GB θ p l e 1 s m args below meth c 3 (some (.int r), σ) 4 [(0, .ref (be θ + 516)), (1, .int z1), (2, .int z2)] [] σ) a :=
  loopF_by (P := (fun a => @Prod.casesOn (Int32) (Int32) (fun _ => Prop) a fun z1 z2 => GB θ p l e 1 s m args below meth c 3 (some (.int r), σ) 4 [(0, .ref (be θ + 516)), (1, .int z1), (2, .int z2)] [] σ)) (K := (fun b => b = r)) (fun a x h hk => by obtain ⟨z1, z2⟩ := a; exact gs_Guess_fitting_L4 X hr hlk   z1 z2 x h hk) n a b h hk
set_option maxHeartbeats 4000000 in
set_option maxRecDepth 20000 in
theorem g_Guess_fitting (X : Cx θ p s m args c cX3_fitting 3 RX3) (hr : meth.sig.returnType = some .int) (hlk : meth.locks = false)  {σ : Mem}  {r : Int32}  (h : f_Guess_fitting σ  = some r) : GB θ p l e 1 s m args below meth c 3 (some (.int r), σ) 0 [(0, .ref (be θ + 516))] [] σ := by
  unfold f_Guess_fitting at h
  refine g_iconst X dX3_fitting_0 (v := (0 : Int32)) ic_0 ?_
  refine g_istore_n X dX3_fitting_1 rfl (by decide) (lv' := [(1, .int (0 : Int32)), (0, .ref (be θ + 516))]) rfl ?_
  refine g_iconst X dX3_fitting_2 (v := (0 : Int32)) ic_0 ?_
  refine g_istore_n X dX3_fitting_3 rfl (by decide) (lv' := [(2, .int (0 : Int32)), (1, .int (0 : Int32)), (0, .ref (be θ + 516))]) rfl ?_
  exact g_sub (lv' := [(0, .ref (be θ + 516)), (1, .int (0 : Int32)), (2, .int (0 : Int32))]) [2, 1, 0] rfl (gl_Guess_fitting_L4 X hr hlk    FU _ _ h rfl)
set_option maxHeartbeats 4000000 in
set_option maxRecDepth 20000 in
theorem c_Guess_fitting {θ : Th} {l : Launch} {σ : Mem}  {r : Int32}  (h : f_Guess_fitting σ  = some r) : Cn θ l yX3_fitting cX3_fitting 3 (some .int) 1 0 0 [.ref (be θ + 516)] σ (some (.int r), σ) :=
  Cn.of (by decide) (Nat.le_of_ble_eq_true rfl) (fun p e s m below meth c X hr hlk => g_Guess_fitting X hr hlk  h)
theorem dX3_mostAgreeing_0 : decode cX3_mostAgreeing 0 = .ok (.iconst 0, 1) := by decide +kernel
theorem dX3_mostAgreeing_1 : decode cX3_mostAgreeing 1 = .ok (.istore_n 3, 1) := by decide +kernel
theorem dX3_mostAgreeing_2 : decode cX3_mostAgreeing 2 = .ok (.iconst 0, 1) := by decide +kernel
theorem dX3_mostAgreeing_3 : decode cX3_mostAgreeing 3 = .ok (.istore 4, 2) := by decide +kernel
theorem dX3_mostAgreeing_5 : decode cX3_mostAgreeing 5 = .ok (.iload 4, 2) := by decide +kernel
theorem dX3_mostAgreeing_7 : decode cX3_mostAgreeing 7 = .ok (.bipush 10, 2) := by decide +kernel
theorem dX3_mostAgreeing_9 : decode cX3_mostAgreeing 9 = .ok (.if_icmp .ge 80, 3) := by decide +kernel
theorem dX3_mostAgreeing_12 : decode cX3_mostAgreeing 12 = .ok (.iconst 0, 1) := by decide +kernel
theorem dX3_mostAgreeing_13 : decode cX3_mostAgreeing 13 = .ok (.istore 5, 2) := by decide +kernel
theorem dX3_mostAgreeing_15 : decode cX3_mostAgreeing 15 = .ok (.iconst 0, 1) := by decide +kernel
theorem dX3_mostAgreeing_16 : decode cX3_mostAgreeing 16 = .ok (.istore 6, 2) := by decide +kernel
theorem dX3_mostAgreeing_18 : decode cX3_mostAgreeing 18 = .ok (.iload 6, 2) := by decide +kernel
theorem dX3_mostAgreeing_20 : decode cX3_mostAgreeing 20 = .ok (.bipush 10, 2) := by decide +kernel
theorem dX3_mostAgreeing_22 : decode cX3_mostAgreeing 22 = .ok (.if_icmp .ge 54, 3) := by decide +kernel
theorem dX3_mostAgreeing_25 : decode cX3_mostAgreeing 25 = .ok (.iload_n 1, 1) := by decide +kernel
theorem dX3_mostAgreeing_26 : decode cX3_mostAgreeing 26 = .ok (.iload 4, 2) := by decide +kernel
theorem dX3_mostAgreeing_28 : decode cX3_mostAgreeing 28 = .ok (.ishr, 1) := by decide +kernel
theorem dX3_mostAgreeing_29 : decode cX3_mostAgreeing 29 = .ok (.iload_n 1, 1) := by decide +kernel
theorem dX3_mostAgreeing_30 : decode cX3_mostAgreeing 30 = .ok (.iload 6, 2) := by decide +kernel
theorem dX3_mostAgreeing_32 : decode cX3_mostAgreeing 32 = .ok (.ishr, 1) := by decide +kernel
theorem dX3_mostAgreeing_33 : decode cX3_mostAgreeing 33 = .ok (.iand, 1) := by decide +kernel
theorem dX3_mostAgreeing_34 : decode cX3_mostAgreeing 34 = .ok (.iconst 1, 1) := by decide +kernel
theorem dX3_mostAgreeing_35 : decode cX3_mostAgreeing 35 = .ok (.iand, 1) := by decide +kernel
theorem dX3_mostAgreeing_36 : decode cX3_mostAgreeing 36 = .ok (.iconst 1, 1) := by decide +kernel
theorem dX3_mostAgreeing_37 : decode cX3_mostAgreeing 37 = .ok (.if_icmp .ne 33, 3) := by decide +kernel
theorem dX3_mostAgreeing_40 : decode cX3_mostAgreeing 40 = .ok (.aload_n 0, 1) := by decide +kernel
theorem dX3_mostAgreeing_41 : decode cX3_mostAgreeing 41 = .ok (.getfield 29, 3) := by decide +kernel
theorem dX3_mostAgreeing_44 : decode cX3_mostAgreeing 44 = .ok (.iload 4, 2) := by decide +kernel
theorem dX3_mostAgreeing_46 : decode cX3_mostAgreeing 46 = .ok (.bipush 61, 2) := by decide +kernel
theorem dX3_mostAgreeing_48 : decode cX3_mostAgreeing 48 = .ok (.imul, 1) := by decide +kernel
theorem dX3_mostAgreeing_49 : decode cX3_mostAgreeing 49 = .ok (.iload_n 2, 1) := by decide +kernel
theorem dX3_mostAgreeing_50 : decode cX3_mostAgreeing 50 = .ok (.iadd, 1) := by decide +kernel
theorem dX3_mostAgreeing_51 : decode cX3_mostAgreeing 51 = .ok (.iaload, 1) := by decide +kernel
theorem dX3_mostAgreeing_52 : decode cX3_mostAgreeing 52 = .ok (.aload_n 0, 1) := by decide +kernel
theorem dX3_mostAgreeing_53 : decode cX3_mostAgreeing 53 = .ok (.getfield 29, 3) := by decide +kernel
theorem dX3_mostAgreeing_56 : decode cX3_mostAgreeing 56 = .ok (.iload 6, 2) := by decide +kernel
theorem dX3_mostAgreeing_58 : decode cX3_mostAgreeing 58 = .ok (.bipush 61, 2) := by decide +kernel
theorem dX3_mostAgreeing_60 : decode cX3_mostAgreeing 60 = .ok (.imul, 1) := by decide +kernel
theorem dX3_mostAgreeing_61 : decode cX3_mostAgreeing 61 = .ok (.iload_n 2, 1) := by decide +kernel
theorem dX3_mostAgreeing_62 : decode cX3_mostAgreeing 62 = .ok (.iadd, 1) := by decide +kernel
theorem dX3_mostAgreeing_63 : decode cX3_mostAgreeing 63 = .ok (.iaload, 1) := by decide +kernel
theorem dX3_mostAgreeing_64 : decode cX3_mostAgreeing 64 = .ok (.if_icmp .ne 6, 3) := by decide +kernel
theorem dX3_mostAgreeing_67 : decode cX3_mostAgreeing 67 = .ok (.iinc 5 1, 3) := by decide +kernel
theorem dX3_mostAgreeing_70 : decode cX3_mostAgreeing 70 = .ok (.iinc 6 1, 3) := by decide +kernel
theorem dX3_mostAgreeing_73 : decode cX3_mostAgreeing 73 = .ok (.goto (-55), 3) := by decide +kernel
theorem dX3_mostAgreeing_76 : decode cX3_mostAgreeing 76 = .ok (.iload_n 3, 1) := by decide +kernel
theorem dX3_mostAgreeing_77 : decode cX3_mostAgreeing 77 = .ok (.iload 5, 2) := by decide +kernel
theorem dX3_mostAgreeing_79 : decode cX3_mostAgreeing 79 = .ok (.invokestatic 36, 3) := by decide +kernel
theorem dX3_mostAgreeing_82 : decode cX3_mostAgreeing 82 = .ok (.istore_n 3, 1) := by decide +kernel
theorem dX3_mostAgreeing_83 : decode cX3_mostAgreeing 83 = .ok (.iinc 4 1, 3) := by decide +kernel
theorem dX3_mostAgreeing_86 : decode cX3_mostAgreeing 86 = .ok (.goto (-81), 3) := by decide +kernel
theorem dX3_mostAgreeing_89 : decode cX3_mostAgreeing 89 = .ok (.iload_n 3, 1) := by decide +kernel
theorem dX3_mostAgreeing_90 : decode cX3_mostAgreeing 90 = .ok (.ireturn, 1) := by decide +kernel
def f_Guess_mostAgreeing_L18 (σ : Mem) (x1 : Int32) (x2 : Int32) (y3 : Int32) (y4 : Int32) (a : Int32 × Int32) : Option ((Int32 × Int32) ⊕ (Int32)) :=
  @Prod.casesOn (Int32) (Int32) (fun _ => Option ((Int32 × Int32) ⊕ (Int32))) a fun z5 z6 =>
  if (10 : Int32) ≤ z6 then
    some (.inr z5)
  else
    if (((x1 >>> (y4 &&& 31)) &&& (x1 >>> (z6 &&& 31))) &&& (1 : Int32)) = (1 : Int32) then
      if inb ((y4 * (61 : Int32)) + x2) 610 then
        if inb ((z6 * (61 : Int32)) + x2) 610 then
          if (mI σ 530 ((y4 * (61 : Int32)) + x2).toNatClampNeg) = (mI σ 530 ((z6 * (61 : Int32)) + x2).toNatClampNeg) then
            some (.inl ((z5 + (1 : Int32)), (z6 + (1 : Int32))))
          else
            some (.inl (z5, (z6 + (1 : Int32))))
        else none
      else none
    else
      some (.inl (z5, (z6 + (1 : Int32))))
def f_Guess_mostAgreeing_L5 (σ : Mem) (x1 : Int32) (x2 : Int32) (a : Int32 × Int32) : Option ((Int32 × Int32) ⊕ (Int32)) :=
  @Prod.casesOn (Int32) (Int32) (fun _ => Option ((Int32 × Int32) ⊕ (Int32))) a fun z3 z4 =>
  if (10 : Int32) ≤ z4 then
    some (.inr z3)
  else
    (loopF (f_Guess_mostAgreeing_L18 σ x1 x2 z3 z4) FU ((0 : Int32), (0 : Int32))).bind fun w7 =>
    some (.inl ((imax z3 w7), (z4 + (1 : Int32))))
def f_Guess_mostAgreeing (σ : Mem) (x1 : Int32) (x2 : Int32) : Option (Int32) :=
  loopF (f_Guess_mostAgreeing_L5 σ x1 x2) FU ((0 : Int32), (0 : Int32))
set_option maxHeartbeats 4000000 in
set_option maxRecDepth 20000 in
theorem gs_Guess_mostAgreeing_L18 (X : Cx θ p s m args c cX3_mostAgreeing 7 RX3) (hr : meth.sig.returnType = some .int) (hlk : meth.locks = false)  {σ : Mem} {x1 : Int32} {x2 : Int32} {y3 : Int32} {y4 : Int32} {r : Int32}  (z5 : Int32) (z6 : Int32) (x : (Int32 × Int32) ⊕ (Int32)) (h : f_Guess_mostAgreeing_L18 σ x1 x2 y3 y4 (z5, z6) = some x) (hk : Sum.elim (fun a => @Prod.casesOn (Int32) (Int32) (fun _ => Prop) a fun z5 z6 => GB θ p l e 1 s m args below meth c 7 (some (.int r), σ) 18 [(0, .ref (be θ + 516)), (1, .int x1), (2, .int x2), (3, .int y3), (4, .int y4), (5, .int z5), (6, .int z6)] [] σ) (fun w => GB θ p l e 1 s m args below meth c 7 (some (.int r), σ) 76 [(0, .ref (be θ + 516)), (1, .int x1), (2, .int x2), (3, .int y3), (4, .int y4), (5, .int w)] [] σ) x) : GB θ p l e 1 s m args below meth c 7 (some (.int r), σ) 18 [(0, .ref (be θ + 516)), (1, .int x1), (2, .int x2), (3, .int y3), (4, .int y4), (5, .int z5), (6, .int z6)] [] σ := by
  unfold f_Guess_mostAgreeing_L18 at h
  dsimp only at h
  refine g_iload X dX3_mostAgreeing_18 6 rfl ?_
  refine g_bipush X dX3_mostAgreeing_20 (v := (10 : Int32)) bp_10 ?_
  refine g_icmp_ge (tgt := 76) X dX3_mostAgreeing_22 (by decide) (fun c2 => ?_) (fun c2 => ?_)
  · replace h := (if_pos c2).symm.trans h
    have hk := inr_hk h hk
    exact g_sub (lv' := [(0, .ref (be θ + 516)), (1, .int x1), (2, .int x2), (3, .int y3), (4, .int y4), (5, .int z5)]) [0, 1, 2, 3, 4, 5] rfl hk
  · replace h := (if_neg c2).symm.trans h
    refine g_iload_n X dX3_mostAgreeing_25 rfl 1 rfl ?_
    refine g_iload X dX3_mostAgreeing_26 4 rfl ?_
    refine g_ishr X dX3_mostAgreeing_28 ?_
    refine g_iload_n X dX3_mostAgreeing_29 rfl 1 rfl ?_
    refine g_iload X dX3_mostAgreeing_30 6 rfl ?_
    refine g_ishr X dX3_mostAgreeing_32 ?_
    refine g_iand X dX3_mostAgreeing_33 ?_
    refine g_iconst X dX3_mostAgreeing_34 (v := (1 : Int32)) ic_1 ?_
    refine g_iand X dX3_mostAgreeing_35 ?_
    refine g_iconst X dX3_mostAgreeing_36 (v := (1 : Int32)) ic_1 ?_
    refine g_icmp_ne (tgt := 70) X dX3_mostAgreeing_37 (by decide) (fun c3 => ?_) (fun c3 => ?_)
    · replace h := (if_neg c3).symm.trans h
      refine g_iinc X dX3_mostAgreeing_70 (kq := 6) rfl (congrArg (HAdd.hAdd _) ic_1) (by decide) (lv' := [(6, .int (z6 + (1 : Int32))), (0, .ref (be θ + 516)), (1, .int x1), (2, .int x2), (3, .int y3), (4, .int y4), (5, .int z5)]) rfl ?_
      refine g_goto (tgt := 18) X dX3_mostAgreeing_73 (by decide) ?_
      have hk := inl_hk h hk
      exact g_sub (lv' := [(0, .ref (be θ + 516)), (1, .int x1), (2, .int x2), (3, .int y3), (4, .int y4), (5, .int z5), (6, .int (z6 + (1 : Int32)))]) [1, 2, 3, 4, 5, 6, 0] rfl hk
    · replace h := (if_pos c3).symm.trans h
      refine g_aload_n X dX3_mostAgreeing_40 rfl 0 rfl ?_
      refine g_get X fl_RX3_29 dX3_mostAgreeing_41 kd_516 (v := .ref (be θ + 530)) rfl ?_
      refine g_iload X dX3_mostAgreeing_44 4 rfl ?_
      refine g_bipush X dX3_mostAgreeing_46 (v := (61 : Int32)) bp_61 ?_
      refine g_imul X dX3_mostAgreeing_48 ?_
      refine g_iload_n X dX3_mostAgreeing_49 rfl 2 rfl ?_
      refine g_iadd X dX3_mostAgreeing_50 ?_
      obtain ⟨g4, h⟩ := ite_some h
      refine g_iald X kd_530 ln_530 (inb_in g4) dX3_mostAgreeing_51 ?_
      refine g_aload_n X dX3_mostAgreeing_52 rfl 0 rfl ?_
      refine g_get X fl_RX3_29 dX3_mostAgreeing_53 kd_516 (v := .ref (be θ + 530)) rfl ?_
      refine g_iload X dX3_mostAgreeing_56 6 rfl ?_
      refine g_bipush X dX3_mostAgreeing_58 (v := (61 : Int32)) bp_61 ?_
      refine g_imul X dX3_mostAgreeing_60 ?_
      refine g_iload_n X dX3_mostAgreeing_61 rfl 2 rfl ?_
      refine g_iadd X dX3_mostAgreeing_62 ?_
      obtain ⟨g5, h⟩ := ite_some h
      refine g_iald X kd_530 ln_530 (inb_in g5) dX3_mostAgreeing_63 ?_
      refine g_icmp_ne (tgt := 70) X dX3_mostAgreeing_64 (by decide) (fun c6 => ?_) (fun c6 => ?_)
      · replace h := (if_neg c6).symm.trans h
        refine g_iinc X dX3_mostAgreeing_70 (kq := 6) rfl (congrArg (HAdd.hAdd _) ic_1) (by decide) (lv' := [(6, .int (z6 + (1 : Int32))), (0, .ref (be θ + 516)), (1, .int x1), (2, .int x2), (3, .int y3), (4, .int y4), (5, .int z5)]) rfl ?_
        refine g_goto (tgt := 18) X dX3_mostAgreeing_73 (by decide) ?_
        have hk := inl_hk h hk
        exact g_sub (lv' := [(0, .ref (be θ + 516)), (1, .int x1), (2, .int x2), (3, .int y3), (4, .int y4), (5, .int z5), (6, .int (z6 + (1 : Int32)))]) [1, 2, 3, 4, 5, 6, 0] rfl hk
      · replace h := (if_pos c6).symm.trans h
        refine g_iinc X dX3_mostAgreeing_67 (kq := 5) rfl (congrArg (HAdd.hAdd _) ic_1) (by decide) (lv' := [(5, .int (z5 + (1 : Int32))), (0, .ref (be θ + 516)), (1, .int x1), (2, .int x2), (3, .int y3), (4, .int y4), (6, .int z6)]) rfl ?_
        refine g_iinc X dX3_mostAgreeing_70 (kq := 6) rfl (congrArg (HAdd.hAdd _) ic_1) (by decide) (lv' := [(6, .int (z6 + (1 : Int32))), (5, .int (z5 + (1 : Int32))), (0, .ref (be θ + 516)), (1, .int x1), (2, .int x2), (3, .int y3), (4, .int y4)]) rfl ?_
        refine g_goto (tgt := 18) X dX3_mostAgreeing_73 (by decide) ?_
        have hk := inl_hk h hk
        exact g_sub (lv' := [(0, .ref (be θ + 516)), (1, .int x1), (2, .int x2), (3, .int y3), (4, .int y4), (5, .int (z5 + (1 : Int32))), (6, .int (z6 + (1 : Int32)))]) [2, 3, 4, 5, 6, 1, 0] rfl hk
set_option maxHeartbeats 4000000 in
set_option maxRecDepth 20000 in
theorem gl_Guess_mostAgreeing_L18 (X : Cx θ p s m args c cX3_mostAgreeing 7 RX3) (hr : meth.sig.returnType = some .int) (hlk : meth.locks = false)  {σ : Mem} {x1 : Int32} {x2 : Int32} {y3 : Int32} {y4 : Int32} {r : Int32}  (n : Nat) (a : Int32 × Int32) (b : Int32) (h : loopF (f_Guess_mostAgreeing_L18 σ x1 x2 y3 y4) n a = some b) (hk : (fun w => GB θ p l e 1 s m args below meth c 7 (some (.int r), σ) 76 [(0, .ref (be θ + 516)), (1, .int x1), (2, .int x2), (3, .int y3), (4, .int y4), (5, .int w)] [] σ) b) : (fun a => @Prod.casesOn (Int32) (Int32) (fun _ => Prop) a fun z5 z6 => GB θ p l e 1 s m args below meth c 7 (some (.int r), σ) 18 [(0, .ref (be θ + 516)), (1, .int x1), (2, .int x2), (3, .int y3), (4, .int y4), (5, .int z5), (6, .int z6)] [] σ) a :=
  loopF_by (P := (fun a => @Prod.casesOn (Int32) (Int32) (fun _ => Prop) a fun z5 z6 => GB θ p l e 1 s m args below meth c 7 (some (.int r), σ) 18 [(0, .ref (be θ + 516)), (1, .int x1), (2, .int x2), (3, .int y3), (4, .int y4), (5, .int z5), (6, .int z6)] [] σ)) (K := (fun w => GB θ p l e 1 s m args below meth c 7 (some (.int r), σ) 76 [(0, .ref (be θ + 516)), (1, .int x1), (2, .int x2), (3, .int y3), (4, .int y4), (5, .int w)] [] σ)) (fun a x h hk => by obtain ⟨z5, z6⟩ := a; exact gs_Guess_mostAgreeing_L18 X hr hlk   z5 z6 x h hk) n a b h hk
set_option maxHeartbeats 4000000 in
set_option maxRecDepth 20000 in
theorem gs_Guess_mostAgreeing_L5 (X : Cx θ p s m args c cX3_mostAgreeing 7 RX3) (hr : meth.sig.returnType = some .int) (hlk : meth.locks = false)  {σ : Mem} {x1 : Int32} {x2 : Int32} {r : Int32}  (z3 : Int32) (z4 : Int32) (x : (Int32 × Int32) ⊕ (Int32)) (h : f_Guess_mostAgreeing_L5 σ x1 x2 (z3, z4) = some x) (hk : Sum.elim (fun a => @Prod.casesOn (Int32) (Int32) (fun _ => Prop) a fun z3 z4 => GB θ p l e 1 s m args below meth c 7 (some (.int r), σ) 5 [(0, .ref (be θ + 516)), (1, .int x1), (2, .int x2), (3, .int z3), (4, .int z4)] [] σ) (fun b => b = r) x) : GB θ p l e 1 s m args below meth c 7 (some (.int r), σ) 5 [(0, .ref (be θ + 516)), (1, .int x1), (2, .int x2), (3, .int z3), (4, .int z4)] [] σ := by
  unfold f_Guess_mostAgreeing_L5 at h
  dsimp only at h
  refine g_iload X dX3_mostAgreeing_5 4 rfl ?_
  refine g_bipush X dX3_mostAgreeing_7 (v := (10 : Int32)) bp_10 ?_
  refine g_icmp_ge (tgt := 89) X dX3_mostAgreeing_9 (by decide) (fun c1 => ?_) (fun c1 => ?_)
  · replace h := (if_pos c1).symm.trans h
    refine g_iload_n X dX3_mostAgreeing_89 rfl 3 rfl ?_
    have hk := inr_hk h hk
    have hk : z3 = r := hk
    subst hk
    exact g_iret X hr hlk dX3_mostAgreeing_90 rfl
  · replace h := (if_neg c1).symm.trans h
    refine g_iconst X dX3_mostAgreeing_12 (v := (0 : Int32)) ic_0 ?_
    refine g_istore X dX3_mostAgreeing_13 (by decide) (lv' := [(5, .int (0 : Int32)), (0, .ref (be θ + 516)), (1, .int x1), (2, .int x2), (3, .int z3), (4, .int z4)]) rfl ?_
    refine g_iconst X dX3_mostAgreeing_15 (v := (0 : Int32)) ic_0 ?_
    refine g_istore X dX3_mostAgreeing_16 (by decide) (lv' := [(6, .int (0 : Int32)), (5, .int (0 : Int32)), (0, .ref (be θ + 516)), (1, .int x1), (2, .int x2), (3, .int z3), (4, .int z4)]) rfl ?_
    obtain ⟨w7, hq7, h⟩ := Option.bind_eq_some_iff.mp h
    refine g_sub (lv' := [(0, .ref (be θ + 516)), (1, .int x1), (2, .int x2), (3, .int z3), (4, .int z4), (5, .int (0 : Int32)), (6, .int (0 : Int32))]) [2, 3, 4, 5, 6, 1, 0] rfl (gl_Guess_mostAgreeing_L18 X hr hlk    FU _ w7 hq7 ?_)
    refine g_iload_n X dX3_mostAgreeing_76 rfl 3 rfl ?_
    refine g_iload X dX3_mostAgreeing_77 5 rfl ?_
    refine g_max X lm_RX3_36 ⟨(Nat.le_of_ble_eq_true rfl), (Nat.le_of_ble_eq_true rfl)⟩ ⟨(Nat.le_of_ble_eq_true rfl), (Nat.le_of_ble_eq_true rfl)⟩ dX3_mostAgreeing_79 ?_
    refine g_istore_n X dX3_mostAgreeing_82 rfl (by decide) (lv' := [(3, .int (imax z3 w7)), (0, .ref (be θ + 516)), (1, .int x1), (2, .int x2), (4, .int z4), (5, .int w7)]) rfl ?_
    refine g_iinc X dX3_mostAgreeing_83 (kq := 4) rfl (congrArg (HAdd.hAdd _) ic_1) (by decide) (lv' := [(4, .int (z4 + (1 : Int32))), (3, .int (imax z3 w7)), (0, .ref (be θ + 516)), (1, .int x1), (2, .int x2), (5, .int w7)]) rfl ?_
    refine g_goto (tgt := 5) X dX3_mostAgreeing_86 (by decide) ?_
    have hk := inl_hk h hk
    exact g_sub (lv' := [(0, .ref (be θ + 516)), (1, .int x1), (2, .int x2), (3, .int (imax z3 w7)), (4, .int (z4 + (1 : Int32)))]) [2, 3, 4, 1, 0] rfl hk
set_option maxHeartbeats 4000000 in
set_option maxRecDepth 20000 in
theorem gl_Guess_mostAgreeing_L5 (X : Cx θ p s m args c cX3_mostAgreeing 7 RX3) (hr : meth.sig.returnType = some .int) (hlk : meth.locks = false)  {σ : Mem} {x1 : Int32} {x2 : Int32} {r : Int32}  (n : Nat) (a : Int32 × Int32) (b : Int32) (h : loopF (f_Guess_mostAgreeing_L5 σ x1 x2) n a = some b) (hk : (fun b => b = r) b) : (fun a => @Prod.casesOn (Int32) (Int32) (fun _ => Prop) a fun z3 z4 => GB θ p l e 1 s m args below meth c 7 (some (.int r), σ) 5 [(0, .ref (be θ + 516)), (1, .int x1), (2, .int x2), (3, .int z3), (4, .int z4)] [] σ) a :=
  loopF_by (P := (fun a => @Prod.casesOn (Int32) (Int32) (fun _ => Prop) a fun z3 z4 => GB θ p l e 1 s m args below meth c 7 (some (.int r), σ) 5 [(0, .ref (be θ + 516)), (1, .int x1), (2, .int x2), (3, .int z3), (4, .int z4)] [] σ)) (K := (fun b => b = r)) (fun a x h hk => by obtain ⟨z3, z4⟩ := a; exact gs_Guess_mostAgreeing_L5 X hr hlk   z3 z4 x h hk) n a b h hk
set_option maxHeartbeats 4000000 in
set_option maxRecDepth 20000 in
theorem g_Guess_mostAgreeing (X : Cx θ p s m args c cX3_mostAgreeing 7 RX3) (hr : meth.sig.returnType = some .int) (hlk : meth.locks = false)  {σ : Mem} {x1 : Int32} {x2 : Int32} {r : Int32}  (h : f_Guess_mostAgreeing σ x1 x2 = some r) : GB θ p l e 1 s m args below meth c 7 (some (.int r), σ) 0 [(0, .ref (be θ + 516)), (1, .int x1), (2, .int x2)] [] σ := by
  unfold f_Guess_mostAgreeing at h
  refine g_iconst X dX3_mostAgreeing_0 (v := (0 : Int32)) ic_0 ?_
  refine g_istore_n X dX3_mostAgreeing_1 rfl (by decide) (lv' := [(3, .int (0 : Int32)), (0, .ref (be θ + 516)), (1, .int x1), (2, .int x2)]) rfl ?_
  refine g_iconst X dX3_mostAgreeing_2 (v := (0 : Int32)) ic_0 ?_
  refine g_istore X dX3_mostAgreeing_3 (by decide) (lv' := [(4, .int (0 : Int32)), (3, .int (0 : Int32)), (0, .ref (be θ + 516)), (1, .int x1), (2, .int x2)]) rfl ?_
  exact g_sub (lv' := [(0, .ref (be θ + 516)), (1, .int x1), (2, .int x2), (3, .int (0 : Int32)), (4, .int (0 : Int32))]) [2, 3, 4, 1, 0] rfl (gl_Guess_mostAgreeing_L5 X hr hlk    FU _ _ h rfl)
set_option maxHeartbeats 4000000 in
set_option maxRecDepth 20000 in
theorem c_Guess_mostAgreeing {θ : Th} {l : Launch} {σ : Mem} {x1 : Int32} {x2 : Int32} {r : Int32}  (h : f_Guess_mostAgreeing σ x1 x2 = some r) : Cn θ l yX3_mostAgreeing cX3_mostAgreeing 7 (some .int) 1 0 0 [.ref (be θ + 516), .int x1, .int x2] σ (some (.int r), σ) :=
  Cn.of (by decide) (Nat.le_of_ble_eq_true rfl) (fun p e s m below meth c X hr hlk => g_Guess_mostAgreeing X hr hlk  h)
theorem dX3_hoursToAsk_0 : decode cX3_hoursToAsk 0 = .ok (.aload_n 0, 1) := by decide +kernel
theorem dX3_hoursToAsk_1 : decode cX3_hoursToAsk 1 = .ok (.invokevirtual 70, 3) := by decide +kernel
theorem dX3_hoursToAsk_4 : decode cX3_hoursToAsk 4 = .ok (.istore_n 1, 1) := by decide +kernel
theorem dX3_hoursToAsk_5 : decode cX3_hoursToAsk 5 = .ok (.iload_n 1, 1) := by decide +kernel
theorem dX3_hoursToAsk_6 : decode cX3_hoursToAsk 6 = .ok (.ifCond .ne 5, 3) := by decide +kernel
theorem dX3_hoursToAsk_9 : decode cX3_hoursToAsk 9 = .ok (.iconst (-1), 1) := by decide +kernel
theorem dX3_hoursToAsk_10 : decode cX3_hoursToAsk 10 = .ok (.ireturn, 1) := by decide +kernel
theorem dX3_hoursToAsk_11 : decode cX3_hoursToAsk 11 = .ok (.iconst (-1), 1) := by decide +kernel
theorem dX3_hoursToAsk_12 : decode cX3_hoursToAsk 12 = .ok (.istore_n 2, 1) := by decide +kernel
theorem dX3_hoursToAsk_13 : decode cX3_hoursToAsk 13 = .ok (.bipush 11, 2) := by decide +kernel
theorem dX3_hoursToAsk_15 : decode cX3_hoursToAsk 15 = .ok (.istore_n 3, 1) := by decide +kernel
theorem dX3_hoursToAsk_16 : decode cX3_hoursToAsk 16 = .ok (.iconst 1, 1) := by decide +kernel
theorem dX3_hoursToAsk_17 : decode cX3_hoursToAsk 17 = .ok (.istore 4, 2) := by decide +kernel
theorem dX3_hoursToAsk_19 : decode cX3_hoursToAsk 19 = .ok (.iload 4, 2) := by decide +kernel
theorem dX3_hoursToAsk_21 : decode cX3_hoursToAsk 21 = .ok (.bipush 60, 2) := by decide +kernel
theorem dX3_hoursToAsk_23 : decode cX3_hoursToAsk 23 = .ok (.if_icmp .gt 30, 3) := by decide +kernel
theorem dX3_hoursToAsk_26 : decode cX3_hoursToAsk 26 = .ok (.aload_n 0, 1) := by decide +kernel
theorem dX3_hoursToAsk_27 : decode cX3_hoursToAsk 27 = .ok (.iload_n 1, 1) := by decide +kernel
theorem dX3_hoursToAsk_28 : decode cX3_hoursToAsk 28 = .ok (.iload 4, 2) := by decide +kernel
theorem dX3_hoursToAsk_30 : decode cX3_hoursToAsk 30 = .ok (.invokevirtual 73, 3) := by decide +kernel
theorem dX3_hoursToAsk_33 : decode cX3_hoursToAsk 33 = .ok (.istore 5, 2) := by decide +kernel
theorem dX3_hoursToAsk_35 : decode cX3_hoursToAsk 35 = .ok (.iload 5, 2) := by decide +kernel
theorem dX3_hoursToAsk_37 : decode cX3_hoursToAsk 37 = .ok (.iload_n 3, 1) := by decide +kernel
theorem dX3_hoursToAsk_38 : decode cX3_hoursToAsk 38 = .ok (.if_icmp .ge 9, 3) := by decide +kernel
theorem dX3_hoursToAsk_41 : decode cX3_hoursToAsk 41 = .ok (.iload 5, 2) := by decide +kernel
theorem dX3_hoursToAsk_43 : decode cX3_hoursToAsk 43 = .ok (.istore_n 3, 1) := by decide +kernel
theorem dX3_hoursToAsk_44 : decode cX3_hoursToAsk 44 = .ok (.iload 4, 2) := by decide +kernel
theorem dX3_hoursToAsk_46 : decode cX3_hoursToAsk 46 = .ok (.istore_n 2, 1) := by decide +kernel
theorem dX3_hoursToAsk_47 : decode cX3_hoursToAsk 47 = .ok (.iinc 4 1, 3) := by decide +kernel
theorem dX3_hoursToAsk_50 : decode cX3_hoursToAsk 50 = .ok (.goto (-31), 3) := by decide +kernel
theorem dX3_hoursToAsk_53 : decode cX3_hoursToAsk 53 = .ok (.iload_n 2, 1) := by decide +kernel
theorem dX3_hoursToAsk_54 : decode cX3_hoursToAsk 54 = .ok (.ireturn, 1) := by decide +kernel
def f_Guess_hoursToAsk_L19 (σ : Mem) (y1 : Int32) (a : Int32 × Int32 × Int32) : Option ((Int32 × Int32 × Int32) ⊕ (Int32)) :=
  @Prod.casesOn (Int32) (Int32 × Int32) (fun _ => Option ((Int32 × Int32 × Int32) ⊕ (Int32))) a fun z2 b0 =>
  @Prod.casesOn (Int32) (Int32) (fun _ => Option ((Int32 × Int32 × Int32) ⊕ (Int32))) b0 fun z3 z4 =>
  if (60 : Int32) < z4 then
    some (.inr z2)
  else
    (f_Guess_mostAgreeing σ y1 z4).bind fun q4 =>
    if z3 ≤ q4 then
      some (.inl (z2, z3, (z4 + (1 : Int32))))
    else
      some (.inl (z4, q4, (z4 + (1 : Int32))))
def f_Guess_hoursToAsk (σ : Mem)  : Option (Int32) :=
  (f_Guess_fitting σ).bind fun q1 =>
  if q1 = (0 : Int32) then
    some (-1 : Int32)
  else
    loopF (f_Guess_hoursToAsk_L19 σ q1) FU ((-1 : Int32), (11 : Int32), (1 : Int32))
set_option maxHeartbeats 4000000 in
set_option maxRecDepth 20000 in
theorem gs_Guess_hoursToAsk_L19 (X : Cx θ p s m args c cX3_hoursToAsk 6 RX3) (hr : meth.sig.returnType = some .int) (hlk : meth.locks = false)  {σ : Mem} {y1 : Int32} {r : Int32}  (z2 : Int32) (z3 : Int32) (z4 : Int32) (x : (Int32 × Int32 × Int32) ⊕ (Int32)) (h : f_Guess_hoursToAsk_L19 σ y1 (z2, z3, z4) = some x) (hk : Sum.elim (fun a => @Prod.casesOn (Int32) (Int32 × Int32) (fun _ => Prop) a fun z2 b0 => @Prod.casesOn (Int32) (Int32) (fun _ => Prop) b0 fun z3 z4 => GB θ p l e 2 s m args below meth c 6 (some (.int r), σ) 19 [(0, .ref (be θ + 516)), (1, .int y1), (2, .int z2), (3, .int z3), (4, .int z4)] [] σ) (fun b => b = r) x) : GB θ p l e 2 s m args below meth c 6 (some (.int r), σ) 19 [(0, .ref (be θ + 516)), (1, .int y1), (2, .int z2), (3, .int z3), (4, .int z4)] [] σ := by
  unfold f_Guess_hoursToAsk_L19 at h
  dsimp only at h
  refine g_iload X dX3_hoursToAsk_19 4 rfl ?_
  refine g_bipush X dX3_hoursToAsk_21 (v := (60 : Int32)) bp_60 ?_
  refine g_icmp_gt (tgt := 53) X dX3_hoursToAsk_23 (by decide) (fun c3 => ?_) (fun c3 => ?_)
  · replace h := (if_pos c3).symm.trans h
    refine g_iload_n X dX3_hoursToAsk_53 rfl 2 rfl ?_
    have hk := inr_hk h hk
    have hk : z2 = r := hk
    subst hk
    exact g_iret X hr hlk dX3_hoursToAsk_54 rfl
  · replace h := (if_neg c3).symm.trans h
    refine g_aload_n X dX3_hoursToAsk_26 rfl 0 rfl ?_
    refine g_iload_n X dX3_hoursToAsk_27 rfl 1 rfl ?_
    refine g_iload X dX3_hoursToAsk_28 4 rfl ?_
    obtain ⟨q4, hq4, h⟩ := Option.bind_eq_some_iff.mp h
    refine g_cV X (c_Guess_mostAgreeing  hq4) lk_RX3_73 my_X3_mostAgreeing (a := 516) (ci := 3) kd_516 (by decide) rfl (As := [.int y1, .int z4]) (rest := []) rfl rfl (Nat.le_of_ble_eq_true rfl) ⟨(Nat.le_of_ble_eq_true rfl), (Nat.le_of_ble_eq_true rfl)⟩ ⟨(Nat.le_of_ble_eq_true rfl), (Nat.le_of_ble_eq_true rfl)⟩ dX3_hoursToAsk_30 (st' := [.int q4]) (σ' := σ) rfl rfl ?_
    refine g_istore X dX3_hoursToAsk_33 (by decide) (lv' := [(5, .int q4), (0, .ref (be θ + 516)), (1, .int y1), (2, .int z2), (3, .int z3), (4, .int z4)]) rfl ?_
    refine g_iload X dX3_hoursToAsk_35 0 rfl ?_
    refine g_iload_n X dX3_hoursToAsk_37 rfl 4 rfl ?_
    refine g_icmp_ge (tgt := 47) X dX3_hoursToAsk_38 (by decide) (fun c5 => ?_) (fun c5 => ?_)
    · replace h := (if_pos c5).symm.trans h
      refine g_iinc X dX3_hoursToAsk_47 (kq := 5) rfl (congrArg (HAdd.hAdd _) ic_1) (by decide) (lv' := [(4, .int (z4 + (1 : Int32))), (5, .int q4), (0, .ref (be θ + 516)), (1, .int y1), (2, .int z2), (3, .int z3)]) rfl ?_
      refine g_goto (tgt := 19) X dX3_hoursToAsk_50 (by decide) ?_
      have hk := inl_hk h hk
      exact g_sub (lv' := [(0, .ref (be θ + 516)), (1, .int y1), (2, .int z2), (3, .int z3), (4, .int (z4 + (1 : Int32)))]) [2, 3, 4, 5, 0] rfl hk
    · replace h := (if_neg c5).symm.trans h
      refine g_iload X dX3_hoursToAsk_41 0 rfl ?_
      refine g_istore_n X dX3_hoursToAsk_43 rfl (by decide) (lv' := [(3, .int q4), (5, .int q4), (0, .ref (be θ + 516)), (1, .int y1), (2, .int z2), (4, .int z4)]) rfl ?_
      refine g_iload X dX3_hoursToAsk_44 5 rfl ?_
      refine g_istore_n X dX3_hoursToAsk_46 rfl (by decide) (lv' := [(2, .int z4), (3, .int q4), (5, .int q4), (0, .ref (be θ + 516)), (1, .int y1), (4, .int z4)]) rfl ?_
      refine g_iinc X dX3_hoursToAsk_47 (kq := 5) rfl (congrArg (HAdd.hAdd _) ic_1) (by decide) (lv' := [(4, .int (z4 + (1 : Int32))), (2, .int z4), (3, .int q4), (5, .int q4), (0, .ref (be θ + 516)), (1, .int y1)]) rfl ?_
      refine g_goto (tgt := 19) X dX3_hoursToAsk_50 (by decide) ?_
      have hk := inl_hk h hk
      exact g_sub (lv' := [(0, .ref (be θ + 516)), (1, .int y1), (2, .int z4), (3, .int q4), (4, .int (z4 + (1 : Int32)))]) [4, 5, 1, 2, 0] rfl hk
set_option maxHeartbeats 4000000 in
set_option maxRecDepth 20000 in
theorem gl_Guess_hoursToAsk_L19 (X : Cx θ p s m args c cX3_hoursToAsk 6 RX3) (hr : meth.sig.returnType = some .int) (hlk : meth.locks = false)  {σ : Mem} {y1 : Int32} {r : Int32}  (n : Nat) (a : Int32 × Int32 × Int32) (b : Int32) (h : loopF (f_Guess_hoursToAsk_L19 σ y1) n a = some b) (hk : (fun b => b = r) b) : (fun a => @Prod.casesOn (Int32) (Int32 × Int32) (fun _ => Prop) a fun z2 b0 => @Prod.casesOn (Int32) (Int32) (fun _ => Prop) b0 fun z3 z4 => GB θ p l e 2 s m args below meth c 6 (some (.int r), σ) 19 [(0, .ref (be θ + 516)), (1, .int y1), (2, .int z2), (3, .int z3), (4, .int z4)] [] σ) a :=
  loopF_by (P := (fun a => @Prod.casesOn (Int32) (Int32 × Int32) (fun _ => Prop) a fun z2 b0 => @Prod.casesOn (Int32) (Int32) (fun _ => Prop) b0 fun z3 z4 => GB θ p l e 2 s m args below meth c 6 (some (.int r), σ) 19 [(0, .ref (be θ + 516)), (1, .int y1), (2, .int z2), (3, .int z3), (4, .int z4)] [] σ)) (K := (fun b => b = r)) (fun a x h hk => by obtain ⟨z2, z3, z4⟩ := a; exact gs_Guess_hoursToAsk_L19 X hr hlk   z2 z3 z4 x h hk) n a b h hk
set_option maxHeartbeats 4000000 in
set_option maxRecDepth 20000 in
theorem g_Guess_hoursToAsk (X : Cx θ p s m args c cX3_hoursToAsk 6 RX3) (hr : meth.sig.returnType = some .int) (hlk : meth.locks = false)  {σ : Mem}  {r : Int32}  (h : f_Guess_hoursToAsk σ  = some r) : GB θ p l e 2 s m args below meth c 6 (some (.int r), σ) 0 [(0, .ref (be θ + 516))] [] σ := by
  unfold f_Guess_hoursToAsk at h
  refine g_aload_n X dX3_hoursToAsk_0 rfl 0 rfl ?_
  obtain ⟨q1, hq1, h⟩ := Option.bind_eq_some_iff.mp h
  refine g_cV X (c_Guess_fitting  hq1) lk_RX3_70 my_X3_fitting (a := 516) (ci := 3) kd_516 (by decide) rfl (As := []) (rest := []) rfl rfl (Nat.le_of_ble_eq_true rfl) ⟨(Nat.le_of_ble_eq_true rfl), (Nat.le_of_ble_eq_true rfl)⟩ ⟨(Nat.le_of_ble_eq_true rfl), (Nat.le_of_ble_eq_true rfl)⟩ dX3_hoursToAsk_1 (st' := [.int q1]) (σ' := σ) rfl rfl ?_
  refine g_istore_n X dX3_hoursToAsk_4 rfl (by decide) (lv' := [(1, .int q1), (0, .ref (be θ + 516))]) rfl ?_
  refine g_iload_n X dX3_hoursToAsk_5 rfl 0 rfl ?_
  refine g_if_ne (tgt := 11) X dX3_hoursToAsk_6 (by decide) (fun c2 => ?_) (fun c2 => ?_)
  · replace h := (if_neg c2).symm.trans h
    refine g_iconst X dX3_hoursToAsk_11 (v := (-1 : Int32)) ic_m1 ?_
    refine g_istore_n X dX3_hoursToAsk_12 rfl (by decide) (lv' := [(2, .int (-1 : Int32)), (1, .int q1), (0, .ref (be θ + 516))]) rfl ?_
    refine g_bipush X dX3_hoursToAsk_13 (v := (11 : Int32)) bp_11 ?_
    refine g_istore_n X dX3_hoursToAsk_15 rfl (by decide) (lv' := [(3, .int (11 : Int32)), (2, .int (-1 : Int32)), (1, .int q1), (0, .ref (be θ + 516))]) rfl ?_
    refine g_iconst X dX3_hoursToAsk_16 (v := (1 : Int32)) ic_1 ?_
    refine g_istore X dX3_hoursToAsk_17 (by decide) (lv' := [(4, .int (1 : Int32)), (3, .int (11 : Int32)), (2, .int (-1 : Int32)), (1, .int q1), (0, .ref (be θ + 516))]) rfl ?_
    exact g_sub (lv' := [(0, .ref (be θ + 516)), (1, .int q1), (2, .int (-1 : Int32)), (3, .int (11 : Int32)), (4, .int (1 : Int32))]) [4, 3, 2, 1, 0] rfl (gl_Guess_hoursToAsk_L19 X hr hlk    FU _ _ h rfl)
  · replace h := (if_pos c2).symm.trans h
    refine g_iconst X dX3_hoursToAsk_9 (v := (-1 : Int32)) ic_m1 ?_
    exact g_iret X hr hlk dX3_hoursToAsk_10 (by cases h; rfl)
set_option maxHeartbeats 4000000 in
set_option maxRecDepth 20000 in
theorem c_Guess_hoursToAsk {θ : Th} {l : Launch} {σ : Mem}  {r : Int32}  (h : f_Guess_hoursToAsk σ  = some r) : Cn θ l yX3_hoursToAsk cX3_hoursToAsk 6 (some .int) 2 0 0 [.ref (be θ + 516)] σ (some (.int r), σ) :=
  Cn.of (by decide) (Nat.le_of_ble_eq_true rfl) (fun p e s m below meth c X hr hlk => g_Guess_hoursToAsk X hr hlk  h)
theorem dX7_copyFrom_0 : decode cX7_copyFrom 0 = .ok (.aload_n 1, 1) := by decide +kernel
theorem dX7_copyFrom_1 : decode cX7_copyFrom 1 = .ok (.getfield 9, 3) := by decide +kernel
theorem dX7_copyFrom_4 : decode cX7_copyFrom 4 = .ok (.iconst 0, 1) := by decide +kernel
theorem dX7_copyFrom_5 : decode cX7_copyFrom 5 = .ok (.aload_n 0, 1) := by decide +kernel
theorem dX7_copyFrom_6 : decode cX7_copyFrom 6 = .ok (.getfield 9, 3) := by decide +kernel
theorem dX7_copyFrom_9 : decode cX7_copyFrom 9 = .ok (.iconst 0, 1) := by decide +kernel
theorem dX7_copyFrom_10 : decode cX7_copyFrom 10 = .ok (.bipush 8, 2) := by decide +kernel
theorem dX7_copyFrom_12 : decode cX7_copyFrom 12 = .ok (.invokestatic 86, 3) := by decide +kernel
theorem dX7_copyFrom_15 : decode cX7_copyFrom 15 = .ok (.aload_n 1, 1) := by decide +kernel
theorem dX7_copyFrom_16 : decode cX7_copyFrom 16 = .ok (.getfield 15, 3) := by decide +kernel
theorem dX7_copyFrom_19 : decode cX7_copyFrom 19 = .ok (.iconst 0, 1) := by decide +kernel
theorem dX7_copyFrom_20 : decode cX7_copyFrom 20 = .ok (.aload_n 0, 1) := by decide +kernel
theorem dX7_copyFrom_21 : decode cX7_copyFrom 21 = .ok (.getfield 15, 3) := by decide +kernel
theorem dX7_copyFrom_24 : decode cX7_copyFrom 24 = .ok (.iconst 0, 1) := by decide +kernel
theorem dX7_copyFrom_25 : decode cX7_copyFrom 25 = .ok (.bipush 8, 2) := by decide +kernel
theorem dX7_copyFrom_27 : decode cX7_copyFrom 27 = .ok (.invokestatic 86, 3) := by decide +kernel
theorem dX7_copyFrom_30 : decode cX7_copyFrom 30 = .ok (.aload_n 1, 1) := by decide +kernel
theorem dX7_copyFrom_31 : decode cX7_copyFrom 31 = .ok (.getfield 18, 3) := by decide +kernel
theorem dX7_copyFrom_34 : decode cX7_copyFrom 34 = .ok (.iconst 0, 1) := by decide +kernel
theorem dX7_copyFrom_35 : decode cX7_copyFrom 35 = .ok (.aload_n 0, 1) := by decide +kernel
theorem dX7_copyFrom_36 : decode cX7_copyFrom 36 = .ok (.getfield 18, 3) := by decide +kernel
theorem dX7_copyFrom_39 : decode cX7_copyFrom 39 = .ok (.iconst 0, 1) := by decide +kernel
theorem dX7_copyFrom_40 : decode cX7_copyFrom 40 = .ok (.bipush 8, 2) := by decide +kernel
theorem dX7_copyFrom_42 : decode cX7_copyFrom 42 = .ok (.invokestatic 86, 3) := by decide +kernel
theorem dX7_copyFrom_45 : decode cX7_copyFrom 45 = .ok (.aload_n 1, 1) := by decide +kernel
theorem dX7_copyFrom_46 : decode cX7_copyFrom 46 = .ok (.getfield 21, 3) := by decide +kernel
theorem dX7_copyFrom_49 : decode cX7_copyFrom 49 = .ok (.iconst 0, 1) := by decide +kernel
theorem dX7_copyFrom_50 : decode cX7_copyFrom 50 = .ok (.aload_n 0, 1) := by decide +kernel
theorem dX7_copyFrom_51 : decode cX7_copyFrom 51 = .ok (.getfield 21, 3) := by decide +kernel
theorem dX7_copyFrom_54 : decode cX7_copyFrom 54 = .ok (.iconst 0, 1) := by decide +kernel
theorem dX7_copyFrom_55 : decode cX7_copyFrom 55 = .ok (.bipush 8, 2) := by decide +kernel
theorem dX7_copyFrom_57 : decode cX7_copyFrom 57 = .ok (.invokestatic 86, 3) := by decide +kernel
theorem dX7_copyFrom_60 : decode cX7_copyFrom 60 = .ok (.aload_n 1, 1) := by decide +kernel
theorem dX7_copyFrom_61 : decode cX7_copyFrom 61 = .ok (.getfield 24, 3) := by decide +kernel
theorem dX7_copyFrom_64 : decode cX7_copyFrom 64 = .ok (.iconst 0, 1) := by decide +kernel
theorem dX7_copyFrom_65 : decode cX7_copyFrom 65 = .ok (.aload_n 0, 1) := by decide +kernel
theorem dX7_copyFrom_66 : decode cX7_copyFrom 66 = .ok (.getfield 24, 3) := by decide +kernel
theorem dX7_copyFrom_69 : decode cX7_copyFrom 69 = .ok (.iconst 0, 1) := by decide +kernel
theorem dX7_copyFrom_70 : decode cX7_copyFrom 70 = .ok (.bipush 6, 2) := by decide +kernel
theorem dX7_copyFrom_72 : decode cX7_copyFrom 72 = .ok (.invokestatic 86, 3) := by decide +kernel
theorem dX7_copyFrom_75 : decode cX7_copyFrom 75 = .ok (.aload_n 1, 1) := by decide +kernel
theorem dX7_copyFrom_76 : decode cX7_copyFrom 76 = .ok (.getfield 27, 3) := by decide +kernel
theorem dX7_copyFrom_79 : decode cX7_copyFrom 79 = .ok (.iconst 0, 1) := by decide +kernel
theorem dX7_copyFrom_80 : decode cX7_copyFrom 80 = .ok (.aload_n 0, 1) := by decide +kernel
theorem dX7_copyFrom_81 : decode cX7_copyFrom 81 = .ok (.getfield 27, 3) := by decide +kernel
theorem dX7_copyFrom_84 : decode cX7_copyFrom 84 = .ok (.iconst 0, 1) := by decide +kernel
theorem dX7_copyFrom_85 : decode cX7_copyFrom 85 = .ok (.bipush 6, 2) := by decide +kernel
theorem dX7_copyFrom_87 : decode cX7_copyFrom 87 = .ok (.invokestatic 86, 3) := by decide +kernel
theorem dX7_copyFrom_90 : decode cX7_copyFrom 90 = .ok (.aload_n 1, 1) := by decide +kernel
theorem dX7_copyFrom_91 : decode cX7_copyFrom 91 = .ok (.getfield 30, 3) := by decide +kernel
theorem dX7_copyFrom_94 : decode cX7_copyFrom 94 = .ok (.iconst 0, 1) := by decide +kernel
theorem dX7_copyFrom_95 : decode cX7_copyFrom 95 = .ok (.aload_n 0, 1) := by decide +kernel
theorem dX7_copyFrom_96 : decode cX7_copyFrom 96 = .ok (.getfield 30, 3) := by decide +kernel
theorem dX7_copyFrom_99 : decode cX7_copyFrom 99 = .ok (.iconst 0, 1) := by decide +kernel
theorem dX7_copyFrom_100 : decode cX7_copyFrom 100 = .ok (.bipush 6, 2) := by decide +kernel
theorem dX7_copyFrom_102 : decode cX7_copyFrom 102 = .ok (.invokestatic 86, 3) := by decide +kernel
theorem dX7_copyFrom_105 : decode cX7_copyFrom 105 = .ok (.aload_n 1, 1) := by decide +kernel
theorem dX7_copyFrom_106 : decode cX7_copyFrom 106 = .ok (.getfield 33, 3) := by decide +kernel
theorem dX7_copyFrom_109 : decode cX7_copyFrom 109 = .ok (.iconst 0, 1) := by decide +kernel
theorem dX7_copyFrom_110 : decode cX7_copyFrom 110 = .ok (.aload_n 0, 1) := by decide +kernel
theorem dX7_copyFrom_111 : decode cX7_copyFrom 111 = .ok (.getfield 33, 3) := by decide +kernel
theorem dX7_copyFrom_114 : decode cX7_copyFrom 114 = .ok (.iconst 0, 1) := by decide +kernel
theorem dX7_copyFrom_115 : decode cX7_copyFrom 115 = .ok (.aload_n 1, 1) := by decide +kernel
theorem dX7_copyFrom_116 : decode cX7_copyFrom 116 = .ok (.getfield 39, 3) := by decide +kernel
theorem dX7_copyFrom_119 : decode cX7_copyFrom 119 = .ok (.iconst 4, 1) := by decide +kernel
theorem dX7_copyFrom_120 : decode cX7_copyFrom 120 = .ok (.imul, 1) := by decide +kernel
theorem dX7_copyFrom_121 : decode cX7_copyFrom 121 = .ok (.invokestatic 86, 3) := by decide +kernel
theorem dX7_copyFrom_124 : decode cX7_copyFrom 124 = .ok (.aload_n 1, 1) := by decide +kernel
theorem dX7_copyFrom_125 : decode cX7_copyFrom 125 = .ok (.getfield 36, 3) := by decide +kernel
theorem dX7_copyFrom_128 : decode cX7_copyFrom 128 = .ok (.iconst 0, 1) := by decide +kernel
theorem dX7_copyFrom_129 : decode cX7_copyFrom 129 = .ok (.aload_n 0, 1) := by decide +kernel
theorem dX7_copyFrom_130 : decode cX7_copyFrom 130 = .ok (.getfield 36, 3) := by decide +kernel
theorem dX7_copyFrom_133 : decode cX7_copyFrom 133 = .ok (.iconst 0, 1) := by decide +kernel
theorem dX7_copyFrom_134 : decode cX7_copyFrom 134 = .ok (.aload_n 1, 1) := by decide +kernel
theorem dX7_copyFrom_135 : decode cX7_copyFrom 135 = .ok (.getfield 43, 3) := by decide +kernel
theorem dX7_copyFrom_138 : decode cX7_copyFrom 138 = .ok (.iconst 3, 1) := by decide +kernel
theorem dX7_copyFrom_139 : decode cX7_copyFrom 139 = .ok (.imul, 1) := by decide +kernel
theorem dX7_copyFrom_140 : decode cX7_copyFrom 140 = .ok (.invokestatic 86, 3) := by decide +kernel
theorem dX7_copyFrom_143 : decode cX7_copyFrom 143 = .ok (.aload_n 0, 1) := by decide +kernel
theorem dX7_copyFrom_144 : decode cX7_copyFrom 144 = .ok (.aload_n 1, 1) := by decide +kernel
theorem dX7_copyFrom_145 : decode cX7_copyFrom 145 = .ok (.getfield 39, 3) := by decide +kernel
theorem dX7_copyFrom_148 : decode cX7_copyFrom 148 = .ok (.putfield 39, 3) := by decide +kernel
theorem dX7_copyFrom_151 : decode cX7_copyFrom 151 = .ok (.aload_n 0, 1) := by decide +kernel
theorem dX7_copyFrom_152 : decode cX7_copyFrom 152 = .ok (.aload_n 1, 1) := by decide +kernel
theorem dX7_copyFrom_153 : decode cX7_copyFrom 153 = .ok (.getfield 43, 3) := by decide +kernel
theorem dX7_copyFrom_156 : decode cX7_copyFrom 156 = .ok (.putfield 43, 3) := by decide +kernel
theorem dX7_copyFrom_159 : decode cX7_copyFrom 159 = .ok (.aload_n 0, 1) := by decide +kernel
theorem dX7_copyFrom_160 : decode cX7_copyFrom 160 = .ok (.aload_n 1, 1) := by decide +kernel
theorem dX7_copyFrom_161 : decode cX7_copyFrom 161 = .ok (.getfield 46, 3) := by decide +kernel
theorem dX7_copyFrom_164 : decode cX7_copyFrom 164 = .ok (.putfield 46, 3) := by decide +kernel
theorem dX7_copyFrom_167 : decode cX7_copyFrom 167 = .ok (.aload_n 0, 1) := by decide +kernel
theorem dX7_copyFrom_168 : decode cX7_copyFrom 168 = .ok (.aload_n 1, 1) := by decide +kernel
theorem dX7_copyFrom_169 : decode cX7_copyFrom 169 = .ok (.getfield 49, 3) := by decide +kernel
theorem dX7_copyFrom_172 : decode cX7_copyFrom 172 = .ok (.putfield 49, 3) := by decide +kernel
theorem dX7_copyFrom_175 : decode cX7_copyFrom 175 = .ok (.aload_n 0, 1) := by decide +kernel
theorem dX7_copyFrom_176 : decode cX7_copyFrom 176 = .ok (.aload_n 1, 1) := by decide +kernel
theorem dX7_copyFrom_177 : decode cX7_copyFrom 177 = .ok (.getfield 52, 3) := by decide +kernel
theorem dX7_copyFrom_180 : decode cX7_copyFrom 180 = .ok (.putfield 52, 3) := by decide +kernel
theorem dX7_copyFrom_183 : decode cX7_copyFrom 183 = .ok (.aload_n 0, 1) := by decide +kernel
theorem dX7_copyFrom_184 : decode cX7_copyFrom 184 = .ok (.aload_n 1, 1) := by decide +kernel
theorem dX7_copyFrom_185 : decode cX7_copyFrom 185 = .ok (.getfield 55, 3) := by decide +kernel
theorem dX7_copyFrom_188 : decode cX7_copyFrom 188 = .ok (.putfield 55, 3) := by decide +kernel
theorem dX7_copyFrom_191 : decode cX7_copyFrom 191 = .ok (.return_, 1) := by decide +kernel
def f_State_copyFrom (σ : Mem) (x0 : Nat) (x1 : Nat) : Option (Mem) :=
  if cpyB 8 8 (0 : Int32) (0 : Int32) (8 : Int32) then
    (some (rI σ (x0 + 1) (cpyM (mI σ (x1 + 1)) (mI σ (x0 + 1)) (0 : Int32) (0 : Int32) (8 : Int32)))).bind fun σ2 =>
    if cpyB 8 8 (0 : Int32) (0 : Int32) (8 : Int32) then
      (some (rI σ2 (x0 + 2) (cpyM (mI σ2 (x1 + 2)) (mI σ2 (x0 + 2)) (0 : Int32) (0 : Int32) (8 : Int32)))).bind fun σ4 =>
      if cpyB 8 8 (0 : Int32) (0 : Int32) (8 : Int32) then
        (some (rI σ4 (x0 + 3) (cpyM (mI σ4 (x1 + 3)) (mI σ4 (x0 + 3)) (0 : Int32) (0 : Int32) (8 : Int32)))).bind fun σ6 =>
        if cpyB 8 8 (0 : Int32) (0 : Int32) (8 : Int32) then
          (some (rI σ6 (x0 + 4) (cpyM (mI σ6 (x1 + 4)) (mI σ6 (x0 + 4)) (0 : Int32) (0 : Int32) (8 : Int32)))).bind fun σ8 =>
          if cpyB 6 6 (0 : Int32) (0 : Int32) (6 : Int32) then
            (some (rI σ8 (x0 + 5) (cpyM (mI σ8 (x1 + 5)) (mI σ8 (x0 + 5)) (0 : Int32) (0 : Int32) (6 : Int32)))).bind fun σ10 =>
            if cpyB 6 6 (0 : Int32) (0 : Int32) (6 : Int32) then
              (some (rI σ10 (x0 + 6) (cpyM (mI σ10 (x1 + 6)) (mI σ10 (x0 + 6)) (0 : Int32) (0 : Int32) (6 : Int32)))).bind fun σ12 =>
              if cpyB 6 6 (0 : Int32) (0 : Int32) (6 : Int32) then
                (some (rI σ12 (x0 + 7) (cpyM (mI σ12 (x1 + 7)) (mI σ12 (x0 + 7)) (0 : Int32) (0 : Int32) (6 : Int32)))).bind fun σ14 =>
                if cpyB 96 96 (0 : Int32) (0 : Int32) ((mI σ14 x1 9) * (4 : Int32)) then
                  (some (rI σ14 (x0 + 8) (cpyM (mI σ14 (x1 + 8)) (mI σ14 (x0 + 8)) (0 : Int32) (0 : Int32) ((mI σ14 x1 9) * (4 : Int32))))).bind fun σ16 =>
                  if cpyB 180 180 (0 : Int32) (0 : Int32) ((mI σ16 x1 10) * (3 : Int32)) then
                    (some (rI σ16 (x0 + 9) (cpyM (mI σ16 (x1 + 9)) (mI σ16 (x0 + 9)) (0 : Int32) (0 : Int32) ((mI σ16 x1 10) * (3 : Int32))))).bind fun σ18 =>
                    some (sI (sI (sI (sI (sI (sI σ18 x0 9 (mI σ18 x1 9)) x0 10 (mI (sI σ18 x0 9 (mI σ18 x1 9)) x1 10)) x0 11 (mI (sI (sI σ18 x0 9 (mI σ18 x1 9)) x0 10 (mI (sI σ18 x0 9 (mI σ18 x1 9)) x1 10)) x1 11)) x0 12 (mI (sI (sI (sI σ18 x0 9 (mI σ18 x1 9)) x0 10 (mI (sI σ18 x0 9 (mI σ18 x1 9)) x1 10)) x0 11 (mI (sI (sI σ18 x0 9 (mI σ18 x1 9)) x0 10 (mI (sI σ18 x0 9 (mI σ18 x1 9)) x1 10)) x1 11)) x1 12)) x0 13 (mI (sI (sI (sI (sI σ18 x0 9 (mI σ18 x1 9)) x0 10 (mI (sI σ18 x0 9 (mI σ18 x1 9)) x1 10)) x0 11 (mI (sI (sI σ18 x0 9 (mI σ18 x1 9)) x0 10 (mI (sI σ18 x0 9 (mI σ18 x1 9)) x1 10)) x1 11)) x0 12 (mI (sI (sI (sI σ18 x0 9 (mI σ18 x1 9)) x0 10 (mI (sI σ18 x0 9 (mI σ18 x1 9)) x1 10)) x0 11 (mI (sI (sI σ18 x0 9 (mI σ18 x1 9)) x0 10 (mI (sI σ18 x0 9 (mI σ18 x1 9)) x1 10)) x1 11)) x1 12)) x1 13)) x0 14 (mI (sI (sI (sI (sI (sI σ18 x0 9 (mI σ18 x1 9)) x0 10 (mI (sI σ18 x0 9 (mI σ18 x1 9)) x1 10)) x0 11 (mI (sI (sI σ18 x0 9 (mI σ18 x1 9)) x0 10 (mI (sI σ18 x0 9 (mI σ18 x1 9)) x1 10)) x1 11)) x0 12 (mI (sI (sI (sI σ18 x0 9 (mI σ18 x1 9)) x0 10 (mI (sI σ18 x0 9 (mI σ18 x1 9)) x1 10)) x0 11 (mI (sI (sI σ18 x0 9 (mI σ18 x1 9)) x0 10 (mI (sI σ18 x0 9 (mI σ18 x1 9)) x1 10)) x1 11)) x1 12)) x0 13 (mI (sI (sI (sI (sI σ18 x0 9 (mI σ18 x1 9)) x0 10 (mI (sI σ18 x0 9 (mI σ18 x1 9)) x1 10)) x0 11 (mI (sI (sI σ18 x0 9 (mI σ18 x1 9)) x0 10 (mI (sI σ18 x0 9 (mI σ18 x1 9)) x1 10)) x1 11)) x0 12 (mI (sI (sI (sI σ18 x0 9 (mI σ18 x1 9)) x0 10 (mI (sI σ18 x0 9 (mI σ18 x1 9)) x1 10)) x0 11 (mI (sI (sI σ18 x0 9 (mI σ18 x1 9)) x0 10 (mI (sI σ18 x0 9 (mI σ18 x1 9)) x1 10)) x1 11)) x1 12)) x1 13)) x1 14))
                  else none
                else none
              else none
            else none
          else none
        else none
      else none
    else none
  else none
set_option maxHeartbeats 4000000 in
set_option maxRecDepth 20000 in
theorem g_State_copyFrom (X : Cx θ p s m args c cX7_copyFrom 2 RX7) (hr : meth.sig.returnType = none) (hlk : meth.locks = false)  {σ : Mem} {x0 : Nat} {x1 : Nat} {r : Mem} (h0 : kd x0 = 8) (h1 : kd x1 = 8) (h : f_State_copyFrom σ x0 x1 = some r) : GB θ p l e 1 s m args below meth c 2 (none, r) 0 [(0, .ref (be θ + x0)), (1, .ref (be θ + x1))] [] σ := by
  unfold f_State_copyFrom at h
  refine g_aload_n X dX7_copyFrom_0 rfl 1 rfl ?_
  refine g_get X fl_RX7_9 dX7_copyFrom_1 h1 (v := .ref (be θ + (x1 + 1))) rfl ?_
  refine g_iconst X dX7_copyFrom_4 (v := (0 : Int32)) ic_0 ?_
  refine g_aload_n X dX7_copyFrom_5 rfl 0 rfl ?_
  refine g_get X fl_RX7_9 dX7_copyFrom_6 h0 (v := .ref (be θ + (x0 + 1))) rfl ?_
  refine g_iconst X dX7_copyFrom_9 (v := (0 : Int32)) ic_0 ?_
  refine g_bipush X dX7_copyFrom_10 (v := (8 : Int32)) bp_8 ?_
  obtain ⟨g1, h⟩ := ite_some h
  obtain ⟨σ2, hσ2, h⟩ := Option.bind_eq_some_iff.mp h
  refine g_cp X lc_RX7_86 (lk7_0 h1).1 (lk7_0 h0).1 (lk7_0 h1).2 (lk7_0 h0).2 (cpyB_ok g1) ⟨(Nat.le_of_ble_eq_true rfl), (Nat.le_of_ble_eq_true rfl)⟩ dX7_copyFrom_12 (Option.some.inj hσ2) ?_
  refine g_aload_n X dX7_copyFrom_15 rfl 1 rfl ?_
  refine g_get X fl_RX7_15 dX7_copyFrom_16 h1 (v := .ref (be θ + (x1 + 2))) rfl ?_
  refine g_iconst X dX7_copyFrom_19 (v := (0 : Int32)) ic_0 ?_
  refine g_aload_n X dX7_copyFrom_20 rfl 0 rfl ?_
  refine g_get X fl_RX7_15 dX7_copyFrom_21 h0 (v := .ref (be θ + (x0 + 2))) rfl ?_
  refine g_iconst X dX7_copyFrom_24 (v := (0 : Int32)) ic_0 ?_
  refine g_bipush X dX7_copyFrom_25 (v := (8 : Int32)) bp_8 ?_
  obtain ⟨g3, h⟩ := ite_some h
  obtain ⟨σ4, hσ4, h⟩ := Option.bind_eq_some_iff.mp h
  refine g_cp X lc_RX7_86 (lk7_1 h1).1 (lk7_1 h0).1 (lk7_1 h1).2 (lk7_1 h0).2 (cpyB_ok g3) ⟨(Nat.le_of_ble_eq_true rfl), (Nat.le_of_ble_eq_true rfl)⟩ dX7_copyFrom_27 (Option.some.inj hσ4) ?_
  refine g_aload_n X dX7_copyFrom_30 rfl 1 rfl ?_
  refine g_get X fl_RX7_18 dX7_copyFrom_31 h1 (v := .ref (be θ + (x1 + 3))) rfl ?_
  refine g_iconst X dX7_copyFrom_34 (v := (0 : Int32)) ic_0 ?_
  refine g_aload_n X dX7_copyFrom_35 rfl 0 rfl ?_
  refine g_get X fl_RX7_18 dX7_copyFrom_36 h0 (v := .ref (be θ + (x0 + 3))) rfl ?_
  refine g_iconst X dX7_copyFrom_39 (v := (0 : Int32)) ic_0 ?_
  refine g_bipush X dX7_copyFrom_40 (v := (8 : Int32)) bp_8 ?_
  obtain ⟨g5, h⟩ := ite_some h
  obtain ⟨σ6, hσ6, h⟩ := Option.bind_eq_some_iff.mp h
  refine g_cp X lc_RX7_86 (lk7_2 h1).1 (lk7_2 h0).1 (lk7_2 h1).2 (lk7_2 h0).2 (cpyB_ok g5) ⟨(Nat.le_of_ble_eq_true rfl), (Nat.le_of_ble_eq_true rfl)⟩ dX7_copyFrom_42 (Option.some.inj hσ6) ?_
  refine g_aload_n X dX7_copyFrom_45 rfl 1 rfl ?_
  refine g_get X fl_RX7_21 dX7_copyFrom_46 h1 (v := .ref (be θ + (x1 + 4))) rfl ?_
  refine g_iconst X dX7_copyFrom_49 (v := (0 : Int32)) ic_0 ?_
  refine g_aload_n X dX7_copyFrom_50 rfl 0 rfl ?_
  refine g_get X fl_RX7_21 dX7_copyFrom_51 h0 (v := .ref (be θ + (x0 + 4))) rfl ?_
  refine g_iconst X dX7_copyFrom_54 (v := (0 : Int32)) ic_0 ?_
  refine g_bipush X dX7_copyFrom_55 (v := (8 : Int32)) bp_8 ?_
  obtain ⟨g7, h⟩ := ite_some h
  obtain ⟨σ8, hσ8, h⟩ := Option.bind_eq_some_iff.mp h
  refine g_cp X lc_RX7_86 (lk7_3 h1).1 (lk7_3 h0).1 (lk7_3 h1).2 (lk7_3 h0).2 (cpyB_ok g7) ⟨(Nat.le_of_ble_eq_true rfl), (Nat.le_of_ble_eq_true rfl)⟩ dX7_copyFrom_57 (Option.some.inj hσ8) ?_
  refine g_aload_n X dX7_copyFrom_60 rfl 1 rfl ?_
  refine g_get X fl_RX7_24 dX7_copyFrom_61 h1 (v := .ref (be θ + (x1 + 5))) rfl ?_
  refine g_iconst X dX7_copyFrom_64 (v := (0 : Int32)) ic_0 ?_
  refine g_aload_n X dX7_copyFrom_65 rfl 0 rfl ?_
  refine g_get X fl_RX7_24 dX7_copyFrom_66 h0 (v := .ref (be θ + (x0 + 5))) rfl ?_
  refine g_iconst X dX7_copyFrom_69 (v := (0 : Int32)) ic_0 ?_
  refine g_bipush X dX7_copyFrom_70 (v := (6 : Int32)) bp_6 ?_
  obtain ⟨g9, h⟩ := ite_some h
  obtain ⟨σ10, hσ10, h⟩ := Option.bind_eq_some_iff.mp h
  refine g_cp X lc_RX7_86 (lk7_4 h1).1 (lk7_4 h0).1 (lk7_4 h1).2 (lk7_4 h0).2 (cpyB_ok g9) ⟨(Nat.le_of_ble_eq_true rfl), (Nat.le_of_ble_eq_true rfl)⟩ dX7_copyFrom_72 (Option.some.inj hσ10) ?_
  refine g_aload_n X dX7_copyFrom_75 rfl 1 rfl ?_
  refine g_get X fl_RX7_27 dX7_copyFrom_76 h1 (v := .ref (be θ + (x1 + 6))) rfl ?_
  refine g_iconst X dX7_copyFrom_79 (v := (0 : Int32)) ic_0 ?_
  refine g_aload_n X dX7_copyFrom_80 rfl 0 rfl ?_
  refine g_get X fl_RX7_27 dX7_copyFrom_81 h0 (v := .ref (be θ + (x0 + 6))) rfl ?_
  refine g_iconst X dX7_copyFrom_84 (v := (0 : Int32)) ic_0 ?_
  refine g_bipush X dX7_copyFrom_85 (v := (6 : Int32)) bp_6 ?_
  obtain ⟨g11, h⟩ := ite_some h
  obtain ⟨σ12, hσ12, h⟩ := Option.bind_eq_some_iff.mp h
  refine g_cp X lc_RX7_86 (lk7_5 h1).1 (lk7_5 h0).1 (lk7_5 h1).2 (lk7_5 h0).2 (cpyB_ok g11) ⟨(Nat.le_of_ble_eq_true rfl), (Nat.le_of_ble_eq_true rfl)⟩ dX7_copyFrom_87 (Option.some.inj hσ12) ?_
  refine g_aload_n X dX7_copyFrom_90 rfl 1 rfl ?_
  refine g_get X fl_RX7_30 dX7_copyFrom_91 h1 (v := .ref (be θ + (x1 + 7))) rfl ?_
  refine g_iconst X dX7_copyFrom_94 (v := (0 : Int32)) ic_0 ?_
  refine g_aload_n X dX7_copyFrom_95 rfl 0 rfl ?_
  refine g_get X fl_RX7_30 dX7_copyFrom_96 h0 (v := .ref (be θ + (x0 + 7))) rfl ?_
  refine g_iconst X dX7_copyFrom_99 (v := (0 : Int32)) ic_0 ?_
  refine g_bipush X dX7_copyFrom_100 (v := (6 : Int32)) bp_6 ?_
  obtain ⟨g13, h⟩ := ite_some h
  obtain ⟨σ14, hσ14, h⟩ := Option.bind_eq_some_iff.mp h
  refine g_cp X lc_RX7_86 (lk7_6 h1).1 (lk7_6 h0).1 (lk7_6 h1).2 (lk7_6 h0).2 (cpyB_ok g13) ⟨(Nat.le_of_ble_eq_true rfl), (Nat.le_of_ble_eq_true rfl)⟩ dX7_copyFrom_102 (Option.some.inj hσ14) ?_
  refine g_aload_n X dX7_copyFrom_105 rfl 1 rfl ?_
  refine g_get X fl_RX7_33 dX7_copyFrom_106 h1 (v := .ref (be θ + (x1 + 8))) rfl ?_
  refine g_iconst X dX7_copyFrom_109 (v := (0 : Int32)) ic_0 ?_
  refine g_aload_n X dX7_copyFrom_110 rfl 0 rfl ?_
  refine g_get X fl_RX7_33 dX7_copyFrom_111 h0 (v := .ref (be θ + (x0 + 8))) rfl ?_
  refine g_iconst X dX7_copyFrom_114 (v := (0 : Int32)) ic_0 ?_
  refine g_aload_n X dX7_copyFrom_115 rfl 1 rfl ?_
  refine g_get X fl_RX7_39 dX7_copyFrom_116 h1 (v := .int (mI σ14 x1 9)) rfl ?_
  refine g_iconst X dX7_copyFrom_119 (v := (4 : Int32)) ic_4 ?_
  refine g_imul X dX7_copyFrom_120 ?_
  obtain ⟨g15, h⟩ := ite_some h
  obtain ⟨σ16, hσ16, h⟩ := Option.bind_eq_some_iff.mp h
  refine g_cp X lc_RX7_86 (lk7_7 h1).1 (lk7_7 h0).1 (lk7_7 h1).2 (lk7_7 h0).2 (cpyB_ok g15) ⟨(Nat.le_of_ble_eq_true rfl), (Nat.le_of_ble_eq_true rfl)⟩ dX7_copyFrom_121 (Option.some.inj hσ16) ?_
  refine g_aload_n X dX7_copyFrom_124 rfl 1 rfl ?_
  refine g_get X fl_RX7_36 dX7_copyFrom_125 h1 (v := .ref (be θ + (x1 + 9))) rfl ?_
  refine g_iconst X dX7_copyFrom_128 (v := (0 : Int32)) ic_0 ?_
  refine g_aload_n X dX7_copyFrom_129 rfl 0 rfl ?_
  refine g_get X fl_RX7_36 dX7_copyFrom_130 h0 (v := .ref (be θ + (x0 + 9))) rfl ?_
  refine g_iconst X dX7_copyFrom_133 (v := (0 : Int32)) ic_0 ?_
  refine g_aload_n X dX7_copyFrom_134 rfl 1 rfl ?_
  refine g_get X fl_RX7_43 dX7_copyFrom_135 h1 (v := .int (mI σ16 x1 10)) rfl ?_
  refine g_iconst X dX7_copyFrom_138 (v := (3 : Int32)) ic_3 ?_
  refine g_imul X dX7_copyFrom_139 ?_
  obtain ⟨g17, h⟩ := ite_some h
  obtain ⟨σ18, hσ18, h⟩ := Option.bind_eq_some_iff.mp h
  refine g_cp X lc_RX7_86 (lk7_8 h1).1 (lk7_8 h0).1 (lk7_8 h1).2 (lk7_8 h0).2 (cpyB_ok g17) ⟨(Nat.le_of_ble_eq_true rfl), (Nat.le_of_ble_eq_true rfl)⟩ dX7_copyFrom_140 (Option.some.inj hσ18) ?_
  refine g_aload_n X dX7_copyFrom_143 rfl 0 rfl ?_
  refine g_aload_n X dX7_copyFrom_144 rfl 1 rfl ?_
  refine g_get X fl_RX7_39 dX7_copyFrom_145 h1 (v := .int (mI σ18 x1 9)) rfl ?_
  refine g_putI X fl_RX7_39 dX7_copyFrom_148 h0 rfl rfl rfl ?_
  refine g_aload_n X dX7_copyFrom_151 rfl 0 rfl ?_
  refine g_aload_n X dX7_copyFrom_152 rfl 1 rfl ?_
  refine g_get X fl_RX7_43 dX7_copyFrom_153 h1 (v := .int (mI (sI σ18 x0 9 (mI σ18 x1 9)) x1 10)) rfl ?_
  refine g_putI X fl_RX7_43 dX7_copyFrom_156 h0 rfl rfl rfl ?_
  refine g_aload_n X dX7_copyFrom_159 rfl 0 rfl ?_
  refine g_aload_n X dX7_copyFrom_160 rfl 1 rfl ?_
  refine g_get X fl_RX7_46 dX7_copyFrom_161 h1 (v := .int (mI (sI (sI σ18 x0 9 (mI σ18 x1 9)) x0 10 (mI (sI σ18 x0 9 (mI σ18 x1 9)) x1 10)) x1 11)) rfl ?_
  refine g_putI X fl_RX7_46 dX7_copyFrom_164 h0 rfl rfl rfl ?_
  refine g_aload_n X dX7_copyFrom_167 rfl 0 rfl ?_
  refine g_aload_n X dX7_copyFrom_168 rfl 1 rfl ?_
  refine g_get X fl_RX7_49 dX7_copyFrom_169 h1 (v := .int (mI (sI (sI (sI σ18 x0 9 (mI σ18 x1 9)) x0 10 (mI (sI σ18 x0 9 (mI σ18 x1 9)) x1 10)) x0 11 (mI (sI (sI σ18 x0 9 (mI σ18 x1 9)) x0 10 (mI (sI σ18 x0 9 (mI σ18 x1 9)) x1 10)) x1 11)) x1 12)) rfl ?_
  refine g_putI X fl_RX7_49 dX7_copyFrom_172 h0 rfl rfl rfl ?_
  refine g_aload_n X dX7_copyFrom_175 rfl 0 rfl ?_
  refine g_aload_n X dX7_copyFrom_176 rfl 1 rfl ?_
  refine g_get X fl_RX7_52 dX7_copyFrom_177 h1 (v := .int (mI (sI (sI (sI (sI σ18 x0 9 (mI σ18 x1 9)) x0 10 (mI (sI σ18 x0 9 (mI σ18 x1 9)) x1 10)) x0 11 (mI (sI (sI σ18 x0 9 (mI σ18 x1 9)) x0 10 (mI (sI σ18 x0 9 (mI σ18 x1 9)) x1 10)) x1 11)) x0 12 (mI (sI (sI (sI σ18 x0 9 (mI σ18 x1 9)) x0 10 (mI (sI σ18 x0 9 (mI σ18 x1 9)) x1 10)) x0 11 (mI (sI (sI σ18 x0 9 (mI σ18 x1 9)) x0 10 (mI (sI σ18 x0 9 (mI σ18 x1 9)) x1 10)) x1 11)) x1 12)) x1 13)) rfl ?_
  refine g_putI X fl_RX7_52 dX7_copyFrom_180 h0 rfl rfl rfl ?_
  refine g_aload_n X dX7_copyFrom_183 rfl 0 rfl ?_
  refine g_aload_n X dX7_copyFrom_184 rfl 1 rfl ?_
  refine g_get X fl_RX7_55 dX7_copyFrom_185 h1 (v := .int (mI (sI (sI (sI (sI (sI σ18 x0 9 (mI σ18 x1 9)) x0 10 (mI (sI σ18 x0 9 (mI σ18 x1 9)) x1 10)) x0 11 (mI (sI (sI σ18 x0 9 (mI σ18 x1 9)) x0 10 (mI (sI σ18 x0 9 (mI σ18 x1 9)) x1 10)) x1 11)) x0 12 (mI (sI (sI (sI σ18 x0 9 (mI σ18 x1 9)) x0 10 (mI (sI σ18 x0 9 (mI σ18 x1 9)) x1 10)) x0 11 (mI (sI (sI σ18 x0 9 (mI σ18 x1 9)) x0 10 (mI (sI σ18 x0 9 (mI σ18 x1 9)) x1 10)) x1 11)) x1 12)) x0 13 (mI (sI (sI (sI (sI σ18 x0 9 (mI σ18 x1 9)) x0 10 (mI (sI σ18 x0 9 (mI σ18 x1 9)) x1 10)) x0 11 (mI (sI (sI σ18 x0 9 (mI σ18 x1 9)) x0 10 (mI (sI σ18 x0 9 (mI σ18 x1 9)) x1 10)) x1 11)) x0 12 (mI (sI (sI (sI σ18 x0 9 (mI σ18 x1 9)) x0 10 (mI (sI σ18 x0 9 (mI σ18 x1 9)) x1 10)) x0 11 (mI (sI (sI σ18 x0 9 (mI σ18 x1 9)) x0 10 (mI (sI σ18 x0 9 (mI σ18 x1 9)) x1 10)) x1 11)) x1 12)) x1 13)) x1 14)) rfl ?_
  refine g_putI X fl_RX7_55 dX7_copyFrom_188 h0 rfl rfl rfl ?_
  exact g_vret X hr hlk dX7_copyFrom_191 (by cases h; rfl)
set_option maxHeartbeats 4000000 in
set_option maxRecDepth 20000 in
theorem c_State_copyFrom {θ : Th} {l : Launch} {σ : Mem} {x0 : Nat} {x1 : Nat} {r : Mem} (h0 : kd x0 = 8) (h1 : kd x1 = 8) (h : f_State_copyFrom σ x0 x1 = some r) : Cn θ l yX7_copyFrom cX7_copyFrom 2 (none) 1 0 0 [.ref (be θ + x0), .ref (be θ + x1)] σ (none, r) :=
  Cn.of (by decide) (Nat.le_of_ble_eq_true rfl) (fun p e s m below meth c X hr hlk => g_State_copyFrom X hr hlk h0 h1 h)
end Z10
