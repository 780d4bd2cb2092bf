section Z13
variable {θ : Th} {p : Program} {l : Launch} {e : Env} {s : State} {m : MethodId} {args : Array Value} {below : List Frame} {meth : Method} {c : Code}
theorem dX10_raises_0 : decode cX10_raises 0 = .ok (.aload_n 0, 1) := by decide +kernel
theorem dX10_raises_1 : decode cX10_raises 1 = .ok (.getfield 52, 3) := by decide +kernel
theorem dX10_raises_4 : decode cX10_raises 4 = .ok (.invokevirtual 265, 3) := by decide +kernel
theorem dX10_raises_7 : decode cX10_raises 7 = .ok (.ifCond .eq 23, 3) := by decide +kernel
theorem dX10_raises_10 : decode cX10_raises 10 = .ok (.iload_n 1, 1) := by decide +kernel
theorem dX10_raises_11 : decode cX10_raises 11 = .ok (.iconst 1, 1) := by decide +kernel
theorem dX10_raises_12 : decode cX10_raises 12 = .ok (.if_icmp .lt 18, 3) := by decide +kernel
theorem dX10_raises_15 : decode cX10_raises 15 = .ok (.iload_n 1, 1) := by decide +kernel
theorem dX10_raises_16 : decode cX10_raises 16 = .ok (.bipush 60, 2) := by decide +kernel
theorem dX10_raises_18 : decode cX10_raises 18 = .ok (.if_icmp .gt 12, 3) := by decide +kernel
theorem dX10_raises_21 : decode cX10_raises 21 = .ok (.iload_n 2, 1) := by decide +kernel
theorem dX10_raises_22 : decode cX10_raises 22 = .ok (.ifCond .lt 8, 3) := by decide +kernel
theorem dX10_raises_25 : decode cX10_raises 25 = .ok (.iload_n 2, 1) := by decide +kernel
theorem dX10_raises_26 : decode cX10_raises 26 = .ok (.iconst 1, 1) := by decide +kernel
theorem dX10_raises_27 : decode cX10_raises 27 = .ok (.if_icmp .le 5, 3) := by decide +kernel
theorem dX10_raises_30 : decode cX10_raises 30 = .ok (.iconst (-1), 1) := by decide +kernel
theorem dX10_raises_31 : decode cX10_raises 31 = .ok (.ireturn, 1) := by decide +kernel
theorem dX10_raises_32 : decode cX10_raises 32 = .ok (.aload_n 0, 1) := by decide +kernel
theorem dX10_raises_33 : decode cX10_raises 33 = .ok (.getfield 59, 3) := by decide +kernel
theorem dX10_raises_36 : decode cX10_raises 36 = .ok (.aload_n 0, 1) := by decide +kernel
theorem dX10_raises_37 : decode cX10_raises 37 = .ok (.getfield 52, 3) := by decide +kernel
theorem dX10_raises_40 : decode cX10_raises 40 = .ok (.aload_n 0, 1) := by decide +kernel
theorem dX10_raises_41 : decode cX10_raises 41 = .ok (.getfield 35, 3) := by decide +kernel
theorem dX10_raises_44 : decode cX10_raises 44 = .ok (.iload_n 1, 1) := by decide +kernel
theorem dX10_raises_45 : decode cX10_raises 45 = .ok (.invokevirtual 347, 3) := by decide +kernel
theorem dX10_raises_48 : decode cX10_raises 48 = .ok (.iload_n 2, 1) := by decide +kernel
theorem dX10_raises_49 : decode cX10_raises 49 = .ok (.ifCond .ne 13, 3) := by decide +kernel
theorem dX10_raises_52 : decode cX10_raises 52 = .ok (.aload_n 0, 1) := by decide +kernel
theorem dX10_raises_53 : decode cX10_raises 53 = .ok (.getfield 59, 3) := by decide +kernel
theorem dX10_raises_56 : decode cX10_raises 56 = .ok (.getfield 351, 3) := by decide +kernel
theorem dX10_raises_59 : decode cX10_raises 59 = .ok (.goto 10, 3) := by decide +kernel
theorem dX10_raises_62 : decode cX10_raises 62 = .ok (.aload_n 0, 1) := by decide +kernel
theorem dX10_raises_63 : decode cX10_raises 63 = .ok (.getfield 59, 3) := by decide +kernel
theorem dX10_raises_66 : decode cX10_raises 66 = .ok (.getfield 354, 3) := by decide +kernel
theorem dX10_raises_69 : decode cX10_raises 69 = .ok (.ireturn, 1) := by decide +kernel
def f_Game_raises (σ : Mem) (x1 : Int32) (x2 : Int32) : Option (Int32 × Mem) :=
  (f_Trade_hasCity σ).bind fun q1 =>
  if q1 = (0 : Int32) then
    some ((-1 : Int32), σ)
  else
    if x1 < (1 : Int32) then
      some ((-1 : Int32), σ)
    else
      if (60 : Int32) < x1 then
        some ((-1 : Int32), σ)
      else
        if x2 < (0 : Int32) then
          some ((-1 : Int32), σ)
        else
          if x2 ≤ (1 : Int32) then
            (f_Outlook_seekRate σ 6 x1).bind fun q7 =>
            if x2 = (0 : Int32) then
              some ((mI q7 434 2), q7)
            else
              some ((mI q7 434 3), q7)
          else
            some ((-1 : Int32), σ)
set_option maxHeartbeats 4000000 in
set_option maxRecDepth 20000 in
theorem g_Game_raises (X : Cx θ p s m args c cX10_raises 3 RX10) (hr : meth.sig.returnType = some .int) (hlk : meth.locks = false)  {σ : Mem} {x1 : Int32} {x2 : Int32} {r : Int32 × Mem}  (h : f_Game_raises σ x1 x2 = some r) : GB θ p l e 6 s m args below meth c 3 (some (.int r.1), r.2) 0 [(0, .ref (be θ + 0)), (1, .int x1), (2, .int x2)] [] σ := by
  unfold f_Game_raises at h
  refine g_aload_n X dX10_raises_0 rfl 0 rfl ?_
  refine g_get X fl_RX10_52 dX10_raises_1 kd_0 (v := .ref (be θ + 428)) rfl ?_
  obtain ⟨q1, hq1, h⟩ := Option.bind_eq_some_iff.mp h
  refine g_cV X (c_Trade_hasCity  hq1) lk_RX10_265 my_X9_hasCity (a := 428) (ci := 9) kd_428 (by decide) rfl (As := []) (rest := []) rfl rfl (Nat.le_of_ble_eq_true rfl) ⟨(Nat.le_of_ble_eq_true rfl), (Nat.le_of_ble_eq_true rfl)⟩ ⟨(Nat.le_of_ble_eq_true rfl), (Nat.le_of_ble_eq_true rfl)⟩ dX10_raises_4 (st' := [.int q1]) (σ' := σ) rfl rfl ?_
  refine g_if_eq (tgt := 30) X dX10_raises_7 (by decide) (fun c2 => ?_) (fun c2 => ?_)
  · replace h := (if_pos c2).symm.trans h
    refine g_iconst X dX10_raises_30 (v := (-1 : Int32)) ic_m1 ?_
    exact g_iret X hr hlk dX10_raises_31 (by cases h; rfl)
  · replace h := (if_neg c2).symm.trans h
    refine g_iload_n X dX10_raises_10 rfl 1 rfl ?_
    refine g_iconst X dX10_raises_11 (v := (1 : Int32)) ic_1 ?_
    refine g_icmp_lt (tgt := 30) X dX10_raises_12 (by decide) (fun c3 => ?_) (fun c3 => ?_)
    · replace h := (if_pos c3).symm.trans h
      refine g_iconst X dX10_raises_30 (v := (-1 : Int32)) ic_m1 ?_
      exact g_iret X hr hlk dX10_raises_31 (by cases h; rfl)
    · replace h := (if_neg c3).symm.trans h
      refine g_iload_n X dX10_raises_15 rfl 1 rfl ?_
      refine g_bipush X dX10_raises_16 (v := (60 : Int32)) bp_60 ?_
      refine g_icmp_gt (tgt := 30) X dX10_raises_18 (by decide) (fun c4 => ?_) (fun c4 => ?_)
      · replace h := (if_pos c4).symm.trans h
        refine g_iconst X dX10_raises_30 (v := (-1 : Int32)) ic_m1 ?_
        exact g_iret X hr hlk dX10_raises_31 (by cases h; rfl)
      · replace h := (if_neg c4).symm.trans h
        refine g_iload_n X dX10_raises_21 rfl 2 rfl ?_
        refine g_if_lt (tgt := 30) X dX10_raises_22 (by decide) (fun c5 => ?_) (fun c5 => ?_)
        · replace h := (if_pos c5).symm.trans h
          refine g_iconst X dX10_raises_30 (v := (-1 : Int32)) ic_m1 ?_
          exact g_iret X hr hlk dX10_raises_31 (by cases h; rfl)
        · replace h := (if_neg c5).symm.trans h
          refine g_iload_n X dX10_raises_25 rfl 2 rfl ?_
          refine g_iconst X dX10_raises_26 (v := (1 : Int32)) ic_1 ?_
          refine g_icmp_le (tgt := 32) X dX10_raises_27 (by decide) (fun c6 => ?_) (fun c6 => ?_)
          · replace h := (if_pos c6).symm.trans h
            refine g_aload_n X dX10_raises_32 rfl 0 rfl ?_
            refine g_get X fl_RX10_59 dX10_raises_33 kd_0 (v := .ref (be θ + 434)) rfl ?_
            refine g_aload_n X dX10_raises_36 rfl 0 rfl ?_
            refine g_get X fl_RX10_52 dX10_raises_37 kd_0 (v := .ref (be θ + 428)) rfl ?_
            refine g_aload_n X dX10_raises_40 rfl 0 rfl ?_
            refine g_get X fl_RX10_35 dX10_raises_41 kd_0 (v := .ref (be θ + 6)) rfl ?_
            refine g_iload_n X dX10_raises_44 rfl 1 rfl ?_
            obtain ⟨q7, hq7, h⟩ := Option.bind_eq_some_iff.mp h
            refine g_cV X (c_Outlook_seekRate kd_6 hq7) lk_RX10_347 my_X6_seekRate (a := 434) (ci := 6) kd_434 (by decide) rfl (As := [.ref (be θ + 428), .ref (be θ + 6), .int x1]) (rest := []) rfl rfl (Nat.le_of_ble_eq_true rfl) ⟨(Nat.le_of_ble_eq_true rfl), (Nat.le_of_ble_eq_true rfl)⟩ ⟨(Nat.le_of_ble_eq_true rfl), (Nat.le_of_ble_eq_true rfl)⟩ dX10_raises_45 (st' := []) (σ' := q7) rfl rfl ?_
            refine g_iload_n X dX10_raises_48 rfl 2 rfl ?_
            refine g_if_ne (tgt := 62) X dX10_raises_49 (by decide) (fun c8 => ?_) (fun c8 => ?_)
            · replace h := (if_neg c8).symm.trans h
              refine g_aload_n X dX10_raises_62 rfl 0 rfl ?_
              refine g_get X fl_RX10_59 dX10_raises_63 kd_0 (v := .ref (be θ + 434)) rfl ?_
              refine g_get X fl_RX10_354 dX10_raises_66 kd_434 (v := .int (mI q7 434 3)) rfl ?_
              exact g_iret X hr hlk dX10_raises_69 (by cases h; rfl)
            · replace h := (if_pos c8).symm.trans h
              refine g_aload_n X dX10_raises_52 rfl 0 rfl ?_
              refine g_get X fl_RX10_59 dX10_raises_53 kd_0 (v := .ref (be θ + 434)) rfl ?_
              refine g_get X fl_RX10_351 dX10_raises_56 kd_434 (v := .int (mI q7 434 2)) rfl ?_
              refine g_goto (tgt := 69) X dX10_raises_59 (by decide) ?_
              exact g_iret X hr hlk dX10_raises_69 (by cases h; rfl)
          · replace h := (if_neg c6).symm.trans h
            refine g_iconst X dX10_raises_30 (v := (-1 : Int32)) ic_m1 ?_
            exact g_iret X hr hlk dX10_raises_31 (by cases h; rfl)
set_option maxHeartbeats 4000000 in
set_option maxRecDepth 20000 in
theorem c_Game_raises {θ : Th} {l : Launch} {σ : Mem} {x1 : Int32} {x2 : Int32} {r : Int32 × Mem}  (h : f_Game_raises σ x1 x2 = some r) : Cn θ l yX10_raises cX10_raises 3 (some .int) 6 0 0 [.ref (be θ + 0), .int x1, .int x2] σ (some (.int r.1), r.2) :=
  Cn.of (by decide) (Nat.le_of_ble_eq_true rfl) (fun p e s m below meth c X hr hlk => g_Game_raises X hr hlk  h)
theorem dX10_selling_0 : decode cX10_selling 0 = .ok (.aload_n 0, 1) := by decide +kernel
theorem dX10_selling_1 : decode cX10_selling 1 = .ok (.getfield 52, 3) := by decide +kernel
theorem dX10_selling_4 : decode cX10_selling 4 = .ok (.iload_n 1, 1) := by decide +kernel
theorem dX10_selling_5 : decode cX10_selling 5 = .ok (.invokevirtual 151, 3) := by decide +kernel
theorem dX10_selling_8 : decode cX10_selling 8 = .ok (.ifCond .eq 25, 3) := by decide +kernel
theorem dX10_selling_11 : decode cX10_selling 11 = .ok (.aload_n 0, 1) := by decide +kernel
theorem dX10_selling_12 : decode cX10_selling 12 = .ok (.getfield 35, 3) := by decide +kernel
theorem dX10_selling_15 : decode cX10_selling 15 = .ok (.getfield 168, 3) := by decide +kernel
theorem dX10_selling_18 : decode cX10_selling 18 = .ok (.iload_n 1, 1) := by decide +kernel
theorem dX10_selling_19 : decode cX10_selling 19 = .ok (.iaload, 1) := by decide +kernel
theorem dX10_selling_20 : decode cX10_selling 20 = .ok (.iconst 1, 1) := by decide +kernel
theorem dX10_selling_21 : decode cX10_selling 21 = .ok (.if_icmp .eq 12, 3) := by decide +kernel
theorem dX10_selling_24 : decode cX10_selling 24 = .ok (.iload_n 2, 1) := by decide +kernel
theorem dX10_selling_25 : decode cX10_selling 25 = .ok (.ifCond .lt 8, 3) := by decide +kernel
theorem dX10_selling_28 : decode cX10_selling 28 = .ok (.iload_n 2, 1) := by decide +kernel
theorem dX10_selling_29 : decode cX10_selling 29 = .ok (.iconst 1, 1) := by decide +kernel
theorem dX10_selling_30 : decode cX10_selling 30 = .ok (.if_icmp .le 5, 3) := by decide +kernel
theorem dX10_selling_33 : decode cX10_selling 33 = .ok (.iconst (-1), 1) := by decide +kernel
theorem dX10_selling_34 : decode cX10_selling 34 = .ok (.ireturn, 1) := by decide +kernel
theorem dX10_selling_35 : decode cX10_selling 35 = .ok (.aload_n 0, 1) := by decide +kernel
theorem dX10_selling_36 : decode cX10_selling 36 = .ok (.getfield 59, 3) := by decide +kernel
theorem dX10_selling_39 : decode cX10_selling 39 = .ok (.aload_n 0, 1) := by decide +kernel
theorem dX10_selling_40 : decode cX10_selling 40 = .ok (.getfield 52, 3) := by decide +kernel
theorem dX10_selling_43 : decode cX10_selling 43 = .ok (.aload_n 0, 1) := by decide +kernel
theorem dX10_selling_44 : decode cX10_selling 44 = .ok (.getfield 35, 3) := by decide +kernel
theorem dX10_selling_47 : decode cX10_selling 47 = .ok (.iload_n 1, 1) := by decide +kernel
theorem dX10_selling_48 : decode cX10_selling 48 = .ok (.invokevirtual 357, 3) := by decide +kernel
theorem dX10_selling_51 : decode cX10_selling 51 = .ok (.iload_n 2, 1) := by decide +kernel
theorem dX10_selling_52 : decode cX10_selling 52 = .ok (.ifCond .ne 13, 3) := by decide +kernel
theorem dX10_selling_55 : decode cX10_selling 55 = .ok (.aload_n 0, 1) := by decide +kernel
theorem dX10_selling_56 : decode cX10_selling 56 = .ok (.getfield 59, 3) := by decide +kernel
theorem dX10_selling_59 : decode cX10_selling 59 = .ok (.getfield 351, 3) := by decide +kernel
theorem dX10_selling_62 : decode cX10_selling 62 = .ok (.goto 10, 3) := by decide +kernel
theorem dX10_selling_65 : decode cX10_selling 65 = .ok (.aload_n 0, 1) := by decide +kernel
theorem dX10_selling_66 : decode cX10_selling 66 = .ok (.getfield 59, 3) := by decide +kernel
theorem dX10_selling_69 : decode cX10_selling 69 = .ok (.getfield 354, 3) := by decide +kernel
theorem dX10_selling_72 : decode cX10_selling 72 = .ok (.ireturn, 1) := by decide +kernel
def f_Game_selling (σ : Mem) (x1 : Int32) (x2 : Int32) : Option (Int32 × Mem) :=
  (f_Trade_isThing σ x1).bind fun q1 =>
  if q1 = (0 : Int32) then
    some ((-1 : Int32), σ)
  else
    if inb x1 8 then
      if (mI σ 8 x1.toNatClampNeg) = (1 : Int32) then
        some ((-1 : Int32), σ)
      else
        if x2 < (0 : Int32) then
          some ((-1 : Int32), σ)
        else
          if x2 ≤ (1 : Int32) then
            (f_Outlook_seekWeight σ 6 x1).bind fun q7 =>
            if x2 = (0 : Int32) then
              some ((mI q7 434 2), q7)
            else
              some ((mI q7 434 3), q7)
          else
            some ((-1 : Int32), σ)
    else none
set_option maxHeartbeats 4000000 in
set_option maxRecDepth 20000 in
theorem g_Game_selling (X : Cx θ p s m args c cX10_selling 3 RX10) (hr : meth.sig.returnType = some .int) (hlk : meth.locks = false)  {σ : Mem} {x1 : Int32} {x2 : Int32} {r : Int32 × Mem}  (h : f_Game_selling σ x1 x2 = some r) : GB θ p l e 7 s m args below meth c 3 (some (.int r.1), r.2) 0 [(0, .ref (be θ + 0)), (1, .int x1), (2, .int x2)] [] σ := by
  unfold f_Game_selling at h
  refine g_aload_n X dX10_selling_0 rfl 0 rfl ?_
  refine g_get X fl_RX10_52 dX10_selling_1 kd_0 (v := .ref (be θ + 428)) rfl ?_
  refine g_iload_n X dX10_selling_4 rfl 1 rfl ?_
  obtain ⟨q1, hq1, h⟩ := Option.bind_eq_some_iff.mp h
  refine g_cV X (c_Trade_isThing  hq1) lk_RX10_151 my_X9_isThing (a := 428) (ci := 9) kd_428 (by decide) rfl (As := [.int x1]) (rest := []) rfl rfl (Nat.le_of_ble_eq_true rfl) ⟨(Nat.le_of_ble_eq_true rfl), (Nat.le_of_ble_eq_true rfl)⟩ ⟨(Nat.le_of_ble_eq_true rfl), (Nat.le_of_ble_eq_true rfl)⟩ dX10_selling_5 (st' := [.int q1]) (σ' := σ) rfl rfl ?_
  refine g_if_eq (tgt := 33) X dX10_selling_8 (by decide) (fun c2 => ?_) (fun c2 => ?_)
  · replace h := (if_pos c2).symm.trans h
    refine g_iconst X dX10_selling_33 (v := (-1 : Int32)) ic_m1 ?_
    exact g_iret X hr hlk dX10_selling_34 (by cases h; rfl)
  · replace h := (if_neg c2).symm.trans h
    refine g_aload_n X dX10_selling_11 rfl 0 rfl ?_
    refine g_get X fl_RX10_35 dX10_selling_12 kd_0 (v := .ref (be θ + 6)) rfl ?_
    refine g_get X fl_RX10_168 dX10_selling_15 kd_6 (v := .ref (be θ + 8)) rfl ?_
    refine g_iload_n X dX10_selling_18 rfl 1 rfl ?_
    obtain ⟨g3, h⟩ := ite_some h
    refine g_iald X kd_8 ln_8 (inb_in g3) dX10_selling_19 ?_
    refine g_iconst X dX10_selling_20 (v := (1 : Int32)) ic_1 ?_
    refine g_icmp_eq (tgt := 33) X dX10_selling_21 (by decide) (fun c4 => ?_) (fun c4 => ?_)
    · replace h := (if_pos c4).symm.trans h
      refine g_iconst X dX10_selling_33 (v := (-1 : Int32)) ic_m1 ?_
      exact g_iret X hr hlk dX10_selling_34 (by cases h; rfl)
    · replace h := (if_neg c4).symm.trans h
      refine g_iload_n X dX10_selling_24 rfl 2 rfl ?_
      refine g_if_lt (tgt := 33) X dX10_selling_25 (by decide) (fun c5 => ?_) (fun c5 => ?_)
      · replace h := (if_pos c5).symm.trans h
        refine g_iconst X dX10_selling_33 (v := (-1 : Int32)) ic_m1 ?_
        exact g_iret X hr hlk dX10_selling_34 (by cases h; rfl)
      · replace h := (if_neg c5).symm.trans h
        refine g_iload_n X dX10_selling_28 rfl 2 rfl ?_
        refine g_iconst X dX10_selling_29 (v := (1 : Int32)) ic_1 ?_
        refine g_icmp_le (tgt := 35) X dX10_selling_30 (by decide) (fun c6 => ?_) (fun c6 => ?_)
        · replace h := (if_pos c6).symm.trans h
          refine g_aload_n X dX10_selling_35 rfl 0 rfl ?_
          refine g_get X fl_RX10_59 dX10_selling_36 kd_0 (v := .ref (be θ + 434)) rfl ?_
          refine g_aload_n X dX10_selling_39 rfl 0 rfl ?_
          refine g_get X fl_RX10_52 dX10_selling_40 kd_0 (v := .ref (be θ + 428)) rfl ?_
          refine g_aload_n X dX10_selling_43 rfl 0 rfl ?_
          refine g_get X fl_RX10_35 dX10_selling_44 kd_0 (v := .ref (be θ + 6)) rfl ?_
          refine g_iload_n X dX10_selling_47 rfl 1 rfl ?_
          obtain ⟨q7, hq7, h⟩ := Option.bind_eq_some_iff.mp h
          refine g_cV X (c_Outlook_seekWeight kd_6 hq7) lk_RX10_357 my_X6_seekWeight (a := 434) (ci := 6) kd_434 (by decide) rfl (As := [.ref (be θ + 428), .ref (be θ + 6), .int x1]) (rest := []) rfl rfl (Nat.le_of_ble_eq_true rfl) ⟨(Nat.le_of_ble_eq_true rfl), (Nat.le_of_ble_eq_true rfl)⟩ ⟨(Nat.le_of_ble_eq_true rfl), (Nat.le_of_ble_eq_true rfl)⟩ dX10_selling_48 (st' := []) (σ' := q7) rfl rfl ?_
          refine g_iload_n X dX10_selling_51 rfl 2 rfl ?_
          refine g_if_ne (tgt := 65) X dX10_selling_52 (by decide) (fun c8 => ?_) (fun c8 => ?_)
          · replace h := (if_neg c8).symm.trans h
            refine g_aload_n X dX10_selling_65 rfl 0 rfl ?_
            refine g_get X fl_RX10_59 dX10_selling_66 kd_0 (v := .ref (be θ + 434)) rfl ?_
            refine g_get X fl_RX10_354 dX10_selling_69 kd_434 (v := .int (mI q7 434 3)) rfl ?_
            exact g_iret X hr hlk dX10_selling_72 (by cases h; rfl)
          · replace h := (if_pos c8).symm.trans h
            refine g_aload_n X dX10_selling_55 rfl 0 rfl ?_
            refine g_get X fl_RX10_59 dX10_selling_56 kd_0 (v := .ref (be θ + 434)) rfl ?_
            refine g_get X fl_RX10_351 dX10_selling_59 kd_434 (v := .int (mI q7 434 2)) rfl ?_
            refine g_goto (tgt := 72) X dX10_selling_62 (by decide) ?_
            exact g_iret X hr hlk dX10_selling_72 (by cases h; rfl)
        · replace h := (if_neg c6).symm.trans h
          refine g_iconst X dX10_selling_33 (v := (-1 : Int32)) ic_m1 ?_
          exact g_iret X hr hlk dX10_selling_34 (by cases h; rfl)
set_option maxHeartbeats 4000000 in
set_option maxRecDepth 20000 in
theorem c_Game_selling {θ : Th} {l : Launch} {σ : Mem} {x1 : Int32} {x2 : Int32} {r : Int32 × Mem}  (h : f_Game_selling σ x1 x2 = some r) : Cn θ l yX10_selling cX10_selling 3 (some .int) 7 0 0 [.ref (be θ + 0), .int x1, .int x2] σ (some (.int r.1), r.2) :=
  Cn.of (by decide) (Nat.le_of_ble_eq_true rfl) (fun p e s m below meth c X hr hlk => g_Game_selling X hr hlk  h)
theorem dX10_seen_0 : decode cX10_seen 0 = .ok (.aload_n 0, 1) := by decide +kernel
theorem dX10_seen_1 : decode cX10_seen 1 = .ok (.getfield 52, 3) := by decide +kernel
theorem dX10_seen_4 : decode cX10_seen 4 = .ok (.invokevirtual 265, 3) := by decide +kernel
theorem dX10_seen_7 : decode cX10_seen 7 = .ok (.ifCond .eq 37, 3) := by decide +kernel
theorem dX10_seen_10 : decode cX10_seen 10 = .ok (.iload_n 1, 1) := by decide +kernel
theorem dX10_seen_11 : decode cX10_seen 11 = .ok (.iconst 1, 1) := by decide +kernel
theorem dX10_seen_12 : decode cX10_seen 12 = .ok (.if_icmp .lt 32, 3) := by decide +kernel
theorem dX10_seen_15 : decode cX10_seen 15 = .ok (.iload_n 1, 1) := by decide +kernel
theorem dX10_seen_16 : decode cX10_seen 16 = .ok (.bipush 60, 2) := by decide +kernel
theorem dX10_seen_18 : decode cX10_seen 18 = .ok (.if_icmp .gt 26, 3) := by decide +kernel
theorem dX10_seen_21 : decode cX10_seen 21 = .ok (.iload_n 2, 1) := by decide +kernel
theorem dX10_seen_22 : decode cX10_seen 22 = .ok (.ifCond .lt 22, 3) := by decide +kernel
theorem dX10_seen_25 : decode cX10_seen 25 = .ok (.iload_n 2, 1) := by decide +kernel
theorem dX10_seen_26 : decode cX10_seen 26 = .ok (.sipush 999, 3) := by decide +kernel
theorem dX10_seen_29 : decode cX10_seen 29 = .ok (.if_icmp .gt 15, 3) := by decide +kernel
theorem dX10_seen_32 : decode cX10_seen 32 = .ok (.aload_n 0, 1) := by decide +kernel
theorem dX10_seen_33 : decode cX10_seen 33 = .ok (.getfield 66, 3) := by decide +kernel
theorem dX10_seen_36 : decode cX10_seen 36 = .ok (.getfield 360, 3) := by decide +kernel
theorem dX10_seen_39 : decode cX10_seen 39 = .ok (.bipush 10, 2) := by decide +kernel
theorem dX10_seen_41 : decode cX10_seen 41 = .ok (.if_icmp .lt 5, 3) := by decide +kernel
theorem dX10_seen_44 : decode cX10_seen 44 = .ok (.iconst (-1), 1) := by decide +kernel
theorem dX10_seen_45 : decode cX10_seen 45 = .ok (.ireturn, 1) := by decide +kernel
theorem dX10_seen_46 : decode cX10_seen 46 = .ok (.aload_n 0, 1) := by decide +kernel
theorem dX10_seen_47 : decode cX10_seen 47 = .ok (.getfield 66, 3) := by decide +kernel
theorem dX10_seen_50 : decode cX10_seen 50 = .ok (.iload_n 1, 1) := by decide +kernel
theorem dX10_seen_51 : decode cX10_seen 51 = .ok (.iload_n 2, 1) := by decide +kernel
theorem dX10_seen_52 : decode cX10_seen 52 = .ok (.iload_n 3, 1) := by decide +kernel
theorem dX10_seen_53 : decode cX10_seen 53 = .ok (.invokevirtual 363, 3) := by decide +kernel
theorem dX10_seen_56 : decode cX10_seen 56 = .ok (.ireturn, 1) := by decide +kernel
def f_Game_seen (σ : Mem) (x1 : Int32) (x2 : Int32) (x3 : Int32) : Option (Int32 × Mem) :=
  (f_Trade_hasCity σ).bind fun q1 =>
  if q1 = (0 : Int32) then
    some ((-1 : Int32), σ)
  else
    if x1 < (1 : Int32) then
      some ((-1 : Int32), σ)
    else
      if (60 : Int32) < x1 then
        some ((-1 : Int32), σ)
      else
        if x2 < (0 : Int32) then
          some ((-1 : Int32), σ)
        else
          if (999 : Int32) < x2 then
            some ((-1 : Int32), σ)
          else
            if (mI σ 516 5) < (10 : Int32) then
              (f_Guess_noteSeen σ x1 x2 x3).bind fun q8 =>
              some (q8.1, q8.2)
            else
              some ((-1 : Int32), σ)
set_option maxHeartbeats 4000000 in
set_option maxRecDepth 20000 in
theorem g_Game_seen (X : Cx θ p s m args c cX10_seen 4 RX10) (hr : meth.sig.returnType = some .int) (hlk : meth.locks = false)  {σ : Mem} {x1 : Int32} {x2 : Int32} {x3 : Int32} {r : Int32 × Mem}  (h : f_Game_seen σ x1 x2 x3 = some r) : GB θ p l e 1 s m args below meth c 4 (some (.int r.1), r.2) 0 [(0, .ref (be θ + 0)), (1, .int x1), (2, .int x2), (3, .int x3)] [] σ := by
  unfold f_Game_seen at h
  refine g_aload_n X dX10_seen_0 rfl 0 rfl ?_
  refine g_get X fl_RX10_52 dX10_seen_1 kd_0 (v := .ref (be θ + 428)) rfl ?_
  obtain ⟨q1, hq1, h⟩ := Option.bind_eq_some_iff.mp h
  refine g_cV X (c_Trade_hasCity  hq1) lk_RX10_265 my_X9_hasCity (a := 428) (ci := 9) kd_428 (by decide) rfl (As := []) (rest := []) rfl rfl (Nat.le_of_ble_eq_true rfl) ⟨(Nat.le_of_ble_eq_true rfl), (Nat.le_of_ble_eq_true rfl)⟩ ⟨(Nat.le_of_ble_eq_true rfl), (Nat.le_of_ble_eq_true rfl)⟩ dX10_seen_4 (st' := [.int q1]) (σ' := σ) rfl rfl ?_
  refine g_if_eq (tgt := 44) X dX10_seen_7 (by decide) (fun c2 => ?_) (fun c2 => ?_)
  · replace h := (if_pos c2).symm.trans h
    refine g_iconst X dX10_seen_44 (v := (-1 : Int32)) ic_m1 ?_
    exact g_iret X hr hlk dX10_seen_45 (by cases h; rfl)
  · replace h := (if_neg c2).symm.trans h
    refine g_iload_n X dX10_seen_10 rfl 1 rfl ?_
    refine g_iconst X dX10_seen_11 (v := (1 : Int32)) ic_1 ?_
    refine g_icmp_lt (tgt := 44) X dX10_seen_12 (by decide) (fun c3 => ?_) (fun c3 => ?_)
    · replace h := (if_pos c3).symm.trans h
      refine g_iconst X dX10_seen_44 (v := (-1 : Int32)) ic_m1 ?_
      exact g_iret X hr hlk dX10_seen_45 (by cases h; rfl)
    · replace h := (if_neg c3).symm.trans h
      refine g_iload_n X dX10_seen_15 rfl 1 rfl ?_
      refine g_bipush X dX10_seen_16 (v := (60 : Int32)) bp_60 ?_
      refine g_icmp_gt (tgt := 44) X dX10_seen_18 (by decide) (fun c4 => ?_) (fun c4 => ?_)
      · replace h := (if_pos c4).symm.trans h
        refine g_iconst X dX10_seen_44 (v := (-1 : Int32)) ic_m1 ?_
        exact g_iret X hr hlk dX10_seen_45 (by cases h; rfl)
      · replace h := (if_neg c4).symm.trans h
        refine g_iload_n X dX10_seen_21 rfl 2 rfl ?_
        refine g_if_lt (tgt := 44) X dX10_seen_22 (by decide) (fun c5 => ?_) (fun c5 => ?_)
        · replace h := (if_pos c5).symm.trans h
          refine g_iconst X dX10_seen_44 (v := (-1 : Int32)) ic_m1 ?_
          exact g_iret X hr hlk dX10_seen_45 (by cases h; rfl)
        · replace h := (if_neg c5).symm.trans h
          refine g_iload_n X dX10_seen_25 rfl 2 rfl ?_
          refine g_sipush X dX10_seen_26 (v := (999 : Int32)) sp_999 ?_
          refine g_icmp_gt (tgt := 44) X dX10_seen_29 (by decide) (fun c6 => ?_) (fun c6 => ?_)
          · replace h := (if_pos c6).symm.trans h
            refine g_iconst X dX10_seen_44 (v := (-1 : Int32)) ic_m1 ?_
            exact g_iret X hr hlk dX10_seen_45 (by cases h; rfl)
          · replace h := (if_neg c6).symm.trans h
            refine g_aload_n X dX10_seen_32 rfl 0 rfl ?_
            refine g_get X fl_RX10_66 dX10_seen_33 kd_0 (v := .ref (be θ + 516)) rfl ?_
            refine g_get X fl_RX10_360 dX10_seen_36 kd_516 (v := .int (mI σ 516 5)) rfl ?_
            refine g_bipush X dX10_seen_39 (v := (10 : Int32)) bp_10 ?_
            refine g_icmp_lt (tgt := 46) X dX10_seen_41 (by decide) (fun c7 => ?_) (fun c7 => ?_)
            · replace h := (if_pos c7).symm.trans h
              refine g_aload_n X dX10_seen_46 rfl 0 rfl ?_
              refine g_get X fl_RX10_66 dX10_seen_47 kd_0 (v := .ref (be θ + 516)) rfl ?_
              refine g_iload_n X dX10_seen_50 rfl 1 rfl ?_
              refine g_iload_n X dX10_seen_51 rfl 2 rfl ?_
              refine g_iload_n X dX10_seen_52 rfl 3 rfl ?_
              obtain ⟨q8, hq8, h⟩ := Option.bind_eq_some_iff.mp h
              refine g_cV X (c_Guess_noteSeen  hq8) lk_RX10_363 my_X3_noteSeen (a := 516) (ci := 3) kd_516 (by decide) rfl (As := [.int x1, .int x2, .int x3]) (rest := []) rfl rfl (Nat.le_of_ble_eq_true rfl) ⟨(Nat.le_of_ble_eq_true rfl), (Nat.le_of_ble_eq_true rfl)⟩ ⟨(Nat.le_of_ble_eq_true rfl), (Nat.le_of_ble_eq_true rfl)⟩ dX10_seen_53 (st' := [.int q8.1]) (σ' := q8.2) rfl rfl ?_
              exact g_iret X hr hlk dX10_seen_56 (by cases h; rfl)
            · replace h := (if_neg c7).symm.trans h
              refine g_iconst X dX10_seen_44 (v := (-1 : Int32)) ic_m1 ?_
              exact g_iret X hr hlk dX10_seen_45 (by cases h; rfl)
set_option maxHeartbeats 4000000 in
set_option maxRecDepth 20000 in
theorem c_Game_seen {θ : Th} {l : Launch} {σ : Mem} {x1 : Int32} {x2 : Int32} {x3 : Int32} {r : Int32 × Mem}  (h : f_Game_seen σ x1 x2 x3 = some r) : Cn θ l yX10_seen cX10_seen 4 (some .int) 1 0 0 [.ref (be θ + 0), .int x1, .int x2, .int x3] σ (some (.int r.1), r.2) :=
  Cn.of (by decide) (Nat.le_of_ble_eq_true rfl) (fun p e s m below meth c X hr hlk => g_Game_seen X hr hlk  h)
theorem dJ6_bitCount_0f7a4_0 : decode cJ6_bitCount_0f7a4 0 = .ok (.iload_n 0, 1) := by decide +kernel
theorem dJ6_bitCount_0f7a4_1 : decode cJ6_bitCount_0f7a4 1 = .ok (.iload_n 0, 1) := by decide +kernel
theorem dJ6_bitCount_0f7a4_2 : decode cJ6_bitCount_0f7a4 2 = .ok (.iconst 1, 1) := by decide +kernel
theorem dJ6_bitCount_0f7a4_3 : decode cJ6_bitCount_0f7a4 3 = .ok (.iushr, 1) := by decide +kernel
theorem dJ6_bitCount_0f7a4_4 : decode cJ6_bitCount_0f7a4 4 = .ok (.ldc_w 265, 3) := by decide +kernel
theorem dJ6_bitCount_0f7a4_7 : decode cJ6_bitCount_0f7a4 7 = .ok (.iand, 1) := by decide +kernel
theorem dJ6_bitCount_0f7a4_8 : decode cJ6_bitCount_0f7a4 8 = .ok (.isub, 1) := by decide +kernel
theorem dJ6_bitCount_0f7a4_9 : decode cJ6_bitCount_0f7a4 9 = .ok (.istore_n 0, 1) := by decide +kernel
theorem dJ6_bitCount_0f7a4_10 : decode cJ6_bitCount_0f7a4 10 = .ok (.iload_n 0, 1) := by decide +kernel
theorem dJ6_bitCount_0f7a4_11 : decode cJ6_bitCount_0f7a4 11 = .ok (.ldc_w 266, 3) := by decide +kernel
theorem dJ6_bitCount_0f7a4_14 : decode cJ6_bitCount_0f7a4 14 = .ok (.iand, 1) := by decide +kernel
theorem dJ6_bitCount_0f7a4_15 : decode cJ6_bitCount_0f7a4 15 = .ok (.iload_n 0, 1) := by decide +kernel
theorem dJ6_bitCount_0f7a4_16 : decode cJ6_bitCount_0f7a4 16 = .ok (.iconst 2, 1) := by decide +kernel
theorem dJ6_bitCount_0f7a4_17 : decode cJ6_bitCount_0f7a4 17 = .ok (.iushr, 1) := by decide +kernel
theorem dJ6_bitCount_0f7a4_18 : decode cJ6_bitCount_0f7a4 18 = .ok (.ldc_w 266, 3) := by decide +kernel
theorem dJ6_bitCount_0f7a4_21 : decode cJ6_bitCount_0f7a4 21 = .ok (.iand, 1) := by decide +kernel
theorem dJ6_bitCount_0f7a4_22 : decode cJ6_bitCount_0f7a4 22 = .ok (.iadd, 1) := by decide +kernel
theorem dJ6_bitCount_0f7a4_23 : decode cJ6_bitCount_0f7a4 23 = .ok (.istore_n 0, 1) := by decide +kernel
theorem dJ6_bitCount_0f7a4_24 : decode cJ6_bitCount_0f7a4 24 = .ok (.iload_n 0, 1) := by decide +kernel
theorem dJ6_bitCount_0f7a4_25 : decode cJ6_bitCount_0f7a4 25 = .ok (.iload_n 0, 1) := by decide +kernel
theorem dJ6_bitCount_0f7a4_26 : decode cJ6_bitCount_0f7a4 26 = .ok (.iconst 4, 1) := by decide +kernel
theorem dJ6_bitCount_0f7a4_27 : decode cJ6_bitCount_0f7a4 27 = .ok (.iushr, 1) := by decide +kernel
theorem dJ6_bitCount_0f7a4_28 : decode cJ6_bitCount_0f7a4 28 = .ok (.iadd, 1) := by decide +kernel
theorem dJ6_bitCount_0f7a4_29 : decode cJ6_bitCount_0f7a4 29 = .ok (.ldc_w 267, 3) := by decide +kernel
theorem dJ6_bitCount_0f7a4_32 : decode cJ6_bitCount_0f7a4 32 = .ok (.iand, 1) := by decide +kernel
theorem dJ6_bitCount_0f7a4_33 : decode cJ6_bitCount_0f7a4 33 = .ok (.istore_n 0, 1) := by decide +kernel
theorem dJ6_bitCount_0f7a4_34 : decode cJ6_bitCount_0f7a4 34 = .ok (.iload_n 0, 1) := by decide +kernel
theorem dJ6_bitCount_0f7a4_35 : decode cJ6_bitCount_0f7a4 35 = .ok (.iload_n 0, 1) := by decide +kernel
theorem dJ6_bitCount_0f7a4_36 : decode cJ6_bitCount_0f7a4 36 = .ok (.bipush 8, 2) := by decide +kernel
theorem dJ6_bitCount_0f7a4_38 : decode cJ6_bitCount_0f7a4 38 = .ok (.iushr, 1) := by decide +kernel
theorem dJ6_bitCount_0f7a4_39 : decode cJ6_bitCount_0f7a4 39 = .ok (.iadd, 1) := by decide +kernel
theorem dJ6_bitCount_0f7a4_40 : decode cJ6_bitCount_0f7a4 40 = .ok (.istore_n 0, 1) := by decide +kernel
theorem dJ6_bitCount_0f7a4_41 : decode cJ6_bitCount_0f7a4 41 = .ok (.iload_n 0, 1) := by decide +kernel
theorem dJ6_bitCount_0f7a4_42 : decode cJ6_bitCount_0f7a4 42 = .ok (.iload_n 0, 1) := by decide +kernel
theorem dJ6_bitCount_0f7a4_43 : decode cJ6_bitCount_0f7a4 43 = .ok (.bipush 16, 2) := by decide +kernel
theorem dJ6_bitCount_0f7a4_45 : decode cJ6_bitCount_0f7a4 45 = .ok (.iushr, 1) := by decide +kernel
theorem dJ6_bitCount_0f7a4_46 : decode cJ6_bitCount_0f7a4 46 = .ok (.iadd, 1) := by decide +kernel
theorem dJ6_bitCount_0f7a4_47 : decode cJ6_bitCount_0f7a4 47 = .ok (.istore_n 0, 1) := by decide +kernel
theorem dJ6_bitCount_0f7a4_48 : decode cJ6_bitCount_0f7a4 48 = .ok (.iload_n 0, 1) := by decide +kernel
theorem dJ6_bitCount_0f7a4_49 : decode cJ6_bitCount_0f7a4 49 = .ok (.bipush 63, 2) := by decide +kernel
theorem dJ6_bitCount_0f7a4_51 : decode cJ6_bitCount_0f7a4 51 = .ok (.iand, 1) := by decide +kernel
theorem dJ6_bitCount_0f7a4_52 : decode cJ6_bitCount_0f7a4 52 = .ok (.ireturn, 1) := by decide +kernel
def f_Integer_bitCount (σ : Mem) (x0 : Int32) : Option (Int32) :=
  some ((((((((x0 - ((iush x0 (1 : Int32)) &&& (1431655765 : Int32))) &&& (858993459 : Int32)) + ((iush (x0 - ((iush x0 (1 : Int32)) &&& (1431655765 : Int32))) (2 : Int32)) &&& (858993459 : Int32))) + (iush (((x0 - ((iush x0 (1 : Int32)) &&& (1431655765 : Int32))) &&& (858993459 : Int32)) + ((iush (x0 - ((iush x0 (1 : Int32)) &&& (1431655765 : Int32))) (2 : Int32)) &&& (858993459 : Int32))) (4 : Int32))) &&& (252645135 : Int32)) + (iush (((((x0 - ((iush x0 (1 : Int32)) &&& (1431655765 : Int32))) &&& (858993459 : Int32)) + ((iush (x0 - ((iush x0 (1 : Int32)) &&& (1431655765 : Int32))) (2 : Int32)) &&& (858993459 : Int32))) + (iush (((x0 - ((iush x0 (1 : Int32)) &&& (1431655765 : Int32))) &&& (858993459 : Int32)) + ((iush (x0 - ((iush x0 (1 : Int32)) &&& (1431655765 : Int32))) (2 : Int32)) &&& (858993459 : Int32))) (4 : Int32))) &&& (252645135 : Int32)) (8 : Int32))) + (iush ((((((x0 - ((iush x0 (1 : Int32)) &&& (1431655765 : Int32))) &&& (858993459 : Int32)) + ((iush (x0 - ((iush x0 (1 : Int32)) &&& (1431655765 : Int32))) (2 : Int32)) &&& (858993459 : Int32))) + (iush (((x0 - ((iush x0 (1 : Int32)) &&& (1431655765 : Int32))) &&& (858993459 : Int32)) + ((iush (x0 - ((iush x0 (1 : Int32)) &&& (1431655765 : Int32))) (2 : Int32)) &&& (858993459 : Int32))) (4 : Int32))) &&& (252645135 : Int32)) + (iush (((((x0 - ((iush x0 (1 : Int32)) &&& (1431655765 : Int32))) &&& (858993459 : Int32)) + ((iush (x0 - ((iush x0 (1 : Int32)) &&& (1431655765 : Int32))) (2 : Int32)) &&& (858993459 : Int32))) + (iush (((x0 - ((iush x0 (1 : Int32)) &&& (1431655765 : Int32))) &&& (858993459 : Int32)) + ((iush (x0 - ((iush x0 (1 : Int32)) &&& (1431655765 : Int32))) (2 : Int32)) &&& (858993459 : Int32))) (4 : Int32))) &&& (252645135 : Int32)) (8 : Int32))) (16 : Int32))) &&& (63 : Int32))
set_option maxHeartbeats 4000000 in
set_option maxRecDepth 20000 in
theorem g_Integer_bitCount (X : Cx θ p s m args c cJ6_bitCount_0f7a4 1 RJ6) (hr : meth.sig.returnType = some .int) (hlk : meth.locks = false)  {σ : Mem} {x0 : Int32} {r : Int32}  (h : f_Integer_bitCount σ x0 = some r) : GB θ p l e 0 s m args below meth c 1 (some (.int r), σ) 0 [(0, .int x0)] [] σ := by
  unfold f_Integer_bitCount at h
  refine g_iload_n X dJ6_bitCount_0f7a4_0 rfl 0 rfl ?_
  refine g_iload_n X dJ6_bitCount_0f7a4_1 rfl 0 rfl ?_
  refine g_iconst X dJ6_bitCount_0f7a4_2 (v := (1 : Int32)) ic_1 ?_
  refine g_iushr X dJ6_bitCount_0f7a4_3 (v := (iush x0 (1 : Int32))) rfl ?_
  refine g_ldcw X cst_RJ6_265 dJ6_bitCount_0f7a4_4 ?_
  refine g_iand X dJ6_bitCount_0f7a4_7 ?_
  refine g_isub X dJ6_bitCount_0f7a4_8 ?_
  refine g_istore_n X dJ6_bitCount_0f7a4_9 rfl (by decide) (lv' := [(0, .int (x0 - ((iush x0 (1 : Int32)) &&& (1431655765 : Int32))))]) rfl ?_
  refine g_iload_n X dJ6_bitCount_0f7a4_10 rfl 0 rfl ?_
  refine g_ldcw X cst_RJ6_266 dJ6_bitCount_0f7a4_11 ?_
  refine g_iand X dJ6_bitCount_0f7a4_14 ?_
  refine g_iload_n X dJ6_bitCount_0f7a4_15 rfl 0 rfl ?_
  refine g_iconst X dJ6_bitCount_0f7a4_16 (v := (2 : Int32)) ic_2 ?_
  refine g_iushr X dJ6_bitCount_0f7a4_17 (v := (iush (x0 - ((iush x0 (1 : Int32)) &&& (1431655765 : Int32))) (2 : Int32))) rfl ?_
  refine g_ldcw X cst_RJ6_266 dJ6_bitCount_0f7a4_18 ?_
  refine g_iand X dJ6_bitCount_0f7a4_21 ?_
  refine g_iadd X dJ6_bitCount_0f7a4_22 ?_
  refine g_istore_n X dJ6_bitCount_0f7a4_23 rfl (by decide) (lv' := [(0, .int (((x0 - ((iush x0 (1 : Int32)) &&& (1431655765 : Int32))) &&& (858993459 : Int32)) + ((iush (x0 - ((iush x0 (1 : Int32)) &&& (1431655765 : Int32))) (2 : Int32)) &&& (858993459 : Int32))))]) rfl ?_
  refine g_iload_n X dJ6_bitCount_0f7a4_24 rfl 0 rfl ?_
  refine g_iload_n X dJ6_bitCount_0f7a4_25 rfl 0 rfl ?_
  refine g_iconst X dJ6_bitCount_0f7a4_26 (v := (4 : Int32)) ic_4 ?_
  refine g_iushr X dJ6_bitCount_0f7a4_27 (v := (iush (((x0 - ((iush x0 (1 : Int32)) &&& (1431655765 : Int32))) &&& (858993459 : Int32)) + ((iush (x0 - ((iush x0 (1 : Int32)) &&& (1431655765 : Int32))) (2 : Int32)) &&& (858993459 : Int32))) (4 : Int32))) rfl ?_
  refine g_iadd X dJ6_bitCount_0f7a4_28 ?_
  refine g_ldcw X cst_RJ6_267 dJ6_bitCount_0f7a4_29 ?_
  refine g_iand X dJ6_bitCount_0f7a4_32 ?_
  refine g_istore_n X dJ6_bitCount_0f7a4_33 rfl (by decide) (lv' := [(0, .int (((((x0 - ((iush x0 (1 : Int32)) &&& (1431655765 : Int32))) &&& (858993459 : Int32)) + ((iush (x0 - ((iush x0 (1 : Int32)) &&& (1431655765 : Int32))) (2 : Int32)) &&& (858993459 : Int32))) + (iush (((x0 - ((iush x0 (1 : Int32)) &&& (1431655765 : Int32))) &&& (858993459 : Int32)) + ((iush (x0 - ((iush x0 (1 : Int32)) &&& (1431655765 : Int32))) (2 : Int32)) &&& (858993459 : Int32))) (4 : Int32))) &&& (252645135 : Int32)))]) rfl ?_
  refine g_iload_n X dJ6_bitCount_0f7a4_34 rfl 0 rfl ?_
  refine g_iload_n X dJ6_bitCount_0f7a4_35 rfl 0 rfl ?_
  refine g_bipush X dJ6_bitCount_0f7a4_36 (v := (8 : Int32)) bp_8 ?_
  refine g_iushr X dJ6_bitCount_0f7a4_38 (v := (iush (((((x0 - ((iush x0 (1 : Int32)) &&& (1431655765 : Int32))) &&& (858993459 : Int32)) + ((iush (x0 - ((iush x0 (1 : Int32)) &&& (1431655765 : Int32))) (2 : Int32)) &&& (858993459 : Int32))) + (iush (((x0 - ((iush x0 (1 : Int32)) &&& (1431655765 : Int32))) &&& (858993459 : Int32)) + ((iush (x0 - ((iush x0 (1 : Int32)) &&& (1431655765 : Int32))) (2 : Int32)) &&& (858993459 : Int32))) (4 : Int32))) &&& (252645135 : Int32)) (8 : Int32))) rfl ?_
  refine g_iadd X dJ6_bitCount_0f7a4_39 ?_
  refine g_istore_n X dJ6_bitCount_0f7a4_40 rfl (by decide) (lv' := [(0, .int ((((((x0 - ((iush x0 (1 : Int32)) &&& (1431655765 : Int32))) &&& (858993459 : Int32)) + ((iush (x0 - ((iush x0 (1 : Int32)) &&& (1431655765 : Int32))) (2 : Int32)) &&& (858993459 : Int32))) + (iush (((x0 - ((iush x0 (1 : Int32)) &&& (1431655765 : Int32))) &&& (858993459 : Int32)) + ((iush (x0 - ((iush x0 (1 : Int32)) &&& (1431655765 : Int32))) (2 : Int32)) &&& (858993459 : Int32))) (4 : Int32))) &&& (252645135 : Int32)) + (iush (((((x0 - ((iush x0 (1 : Int32)) &&& (1431655765 : Int32))) &&& (858993459 : Int32)) + ((iush (x0 - ((iush x0 (1 : Int32)) &&& (1431655765 : Int32))) (2 : Int32)) &&& (858993459 : Int32))) + (iush (((x0 - ((iush x0 (1 : Int32)) &&& (1431655765 : Int32))) &&& (858993459 : Int32)) + ((iush (x0 - ((iush x0 (1 : Int32)) &&& (1431655765 : Int32))) (2 : Int32)) &&& (858993459 : Int32))) (4 : Int32))) &&& (252645135 : Int32)) (8 : Int32))))]) rfl ?_
  refine g_iload_n X dJ6_bitCount_0f7a4_41 rfl 0 rfl ?_
  refine g_iload_n X dJ6_bitCount_0f7a4_42 rfl 0 rfl ?_
  refine g_bipush X dJ6_bitCount_0f7a4_43 (v := (16 : Int32)) bp_16 ?_
  refine g_iushr X dJ6_bitCount_0f7a4_45 (v := (iush ((((((x0 - ((iush x0 (1 : Int32)) &&& (1431655765 : Int32))) &&& (858993459 : Int32)) + ((iush (x0 - ((iush x0 (1 : Int32)) &&& (1431655765 : Int32))) (2 : Int32)) &&& (858993459 : Int32))) + (iush (((x0 - ((iush x0 (1 : Int32)) &&& (1431655765 : Int32))) &&& (858993459 : Int32)) + ((iush (x0 - ((iush x0 (1 : Int32)) &&& (1431655765 : Int32))) (2 : Int32)) &&& (858993459 : Int32))) (4 : Int32))) &&& (252645135 : Int32)) + (iush (((((x0 - ((iush x0 (1 : Int32)) &&& (1431655765 : Int32))) &&& (858993459 : Int32)) + ((iush (x0 - ((iush x0 (1 : Int32)) &&& (1431655765 : Int32))) (2 : Int32)) &&& (858993459 : Int32))) + (iush (((x0 - ((iush x0 (1 : Int32)) &&& (1431655765 : Int32))) &&& (858993459 : Int32)) + ((iush (x0 - ((iush x0 (1 : Int32)) &&& (1431655765 : Int32))) (2 : Int32)) &&& (858993459 : Int32))) (4 : Int32))) &&& (252645135 : Int32)) (8 : Int32))) (16 : Int32))) rfl ?_
  refine g_iadd X dJ6_bitCount_0f7a4_46 ?_
  refine g_istore_n X dJ6_bitCount_0f7a4_47 rfl (by decide) (lv' := [(0, .int (((((((x0 - ((iush x0 (1 : Int32)) &&& (1431655765 : Int32))) &&& (858993459 : Int32)) + ((iush (x0 - ((iush x0 (1 : Int32)) &&& (1431655765 : Int32))) (2 : Int32)) &&& (858993459 : Int32))) + (iush (((x0 - ((iush x0 (1 : Int32)) &&& (1431655765 : Int32))) &&& (858993459 : Int32)) + ((iush (x0 - ((iush x0 (1 : Int32)) &&& (1431655765 : Int32))) (2 : Int32)) &&& (858993459 : Int32))) (4 : Int32))) &&& (252645135 : Int32)) + (iush (((((x0 - ((iush x0 (1 : Int32)) &&& (1431655765 : Int32))) &&& (858993459 : Int32)) + ((iush (x0 - ((iush x0 (1 : Int32)) &&& (1431655765 : Int32))) (2 : Int32)) &&& (858993459 : Int32))) + (iush (((x0 - ((iush x0 (1 : Int32)) &&& (1431655765 : Int32))) &&& (858993459 : Int32)) + ((iush (x0 - ((iush x0 (1 : Int32)) &&& (1431655765 : Int32))) (2 : Int32)) &&& (858993459 : Int32))) (4 : Int32))) &&& (252645135 : Int32)) (8 : Int32))) + (iush ((((((x0 - ((iush x0 (1 : Int32)) &&& (1431655765 : Int32))) &&& (858993459 : Int32)) + ((iush (x0 - ((iush x0 (1 : Int32)) &&& (1431655765 : Int32))) (2 : Int32)) &&& (858993459 : Int32))) + (iush (((x0 - ((iush x0 (1 : Int32)) &&& (1431655765 : Int32))) &&& (858993459 : Int32)) + ((iush (x0 - ((iush x0 (1 : Int32)) &&& (1431655765 : Int32))) (2 : Int32)) &&& (858993459 : Int32))) (4 : Int32))) &&& (252645135 : Int32)) + (iush (((((x0 - ((iush x0 (1 : Int32)) &&& (1431655765 : Int32))) &&& (858993459 : Int32)) + ((iush (x0 - ((iush x0 (1 : Int32)) &&& (1431655765 : Int32))) (2 : Int32)) &&& (858993459 : Int32))) + (iush (((x0 - ((iush x0 (1 : Int32)) &&& (1431655765 : Int32))) &&& (858993459 : Int32)) + ((iush (x0 - ((iush x0 (1 : Int32)) &&& (1431655765 : Int32))) (2 : Int32)) &&& (858993459 : Int32))) (4 : Int32))) &&& (252645135 : Int32)) (8 : Int32))) (16 : Int32))))]) rfl ?_
  refine g_iload_n X dJ6_bitCount_0f7a4_48 rfl 0 rfl ?_
  refine g_bipush X dJ6_bitCount_0f7a4_49 (v := (63 : Int32)) bp_63 ?_
  refine g_iand X dJ6_bitCount_0f7a4_51 ?_
  exact g_iret X hr hlk dJ6_bitCount_0f7a4_52 (by cases h; rfl)
set_option maxHeartbeats 4000000 in
set_option maxRecDepth 20000 in
theorem c_Integer_bitCount {θ : Th} {l : Launch} {σ : Mem} {x0 : Int32} {r : Int32}  (h : f_Integer_bitCount σ x0 = some r) : Cn θ l yJ6_bitCount_0f7a4 cJ6_bitCount_0f7a4 1 (some .int) 0 0 0 [.int x0] σ (some (.int r), σ) :=
  Cn.of (by decide) (Nat.le_of_ble_eq_true rfl) (fun p e s m below meth c X hr hlk => g_Integer_bitCount X hr hlk  h)
theorem dX10_nthOrCount_0 : decode cX10_nthOrCount 0 = .ok (.iload_n 2, 1) := by decide +kernel
theorem dX10_nthOrCount_1 : decode cX10_nthOrCount 1 = .ok (.iconst (-1), 1) := by decide +kernel
theorem dX10_nthOrCount_2 : decode cX10_nthOrCount 2 = .ok (.if_icmp .ne 8, 3) := by decide +kernel
theorem dX10_nthOrCount_5 : decode cX10_nthOrCount 5 = .ok (.iload_n 1, 1) := by decide +kernel
theorem dX10_nthOrCount_6 : decode cX10_nthOrCount 6 = .ok (.invokestatic 380, 3) := by decide +kernel
theorem dX10_nthOrCount_9 : decode cX10_nthOrCount 9 = .ok (.ireturn, 1) := by decide +kernel
theorem dX10_nthOrCount_10 : decode cX10_nthOrCount 10 = .ok (.iload_n 2, 1) := by decide +kernel
theorem dX10_nthOrCount_11 : decode cX10_nthOrCount 11 = .ok (.istore_n 3, 1) := by decide +kernel
theorem dX10_nthOrCount_12 : decode cX10_nthOrCount 12 = .ok (.iconst 0, 1) := by decide +kernel
theorem dX10_nthOrCount_13 : decode cX10_nthOrCount 13 = .ok (.istore 4, 2) := by decide +kernel
theorem dX10_nthOrCount_15 : decode cX10_nthOrCount 15 = .ok (.iload 4, 2) := by decide +kernel
theorem dX10_nthOrCount_17 : decode cX10_nthOrCount 17 = .ok (.bipush 32, 2) := by decide +kernel
theorem dX10_nthOrCount_19 : decode cX10_nthOrCount 19 = .ok (.if_icmp .ge 31, 3) := by decide +kernel
theorem dX10_nthOrCount_22 : decode cX10_nthOrCount 22 = .ok (.iload_n 1, 1) := by decide +kernel
theorem dX10_nthOrCount_23 : decode cX10_nthOrCount 23 = .ok (.iload 4, 2) := by decide +kernel
theorem dX10_nthOrCount_25 : decode cX10_nthOrCount 25 = .ok (.ishr, 1) := by decide +kernel
theorem dX10_nthOrCount_26 : decode cX10_nthOrCount 26 = .ok (.iconst 1, 1) := by decide +kernel
theorem dX10_nthOrCount_27 : decode cX10_nthOrCount 27 = .ok (.iand, 1) := by decide +kernel
theorem dX10_nthOrCount_28 : decode cX10_nthOrCount 28 = .ok (.ifCond .ne 6, 3) := by decide +kernel
theorem dX10_nthOrCount_31 : decode cX10_nthOrCount 31 = .ok (.goto 13, 3) := by decide +kernel
theorem dX10_nthOrCount_34 : decode cX10_nthOrCount 34 = .ok (.iload_n 3, 1) := by decide +kernel
theorem dX10_nthOrCount_35 : decode cX10_nthOrCount 35 = .ok (.ifCond .ne 6, 3) := by decide +kernel
theorem dX10_nthOrCount_38 : decode cX10_nthOrCount 38 = .ok (.iload 4, 2) := by decide +kernel
theorem dX10_nthOrCount_40 : decode cX10_nthOrCount 40 = .ok (.ireturn, 1) := by decide +kernel
theorem dX10_nthOrCount_41 : decode cX10_nthOrCount 41 = .ok (.iinc 3 (-1), 3) := by decide +kernel
theorem dX10_nthOrCount_44 : decode cX10_nthOrCount 44 = .ok (.iinc 4 1, 3) := by decide +kernel
theorem dX10_nthOrCount_47 : decode cX10_nthOrCount 47 = .ok (.goto (-32), 3) := by decide +kernel
theorem dX10_nthOrCount_50 : decode cX10_nthOrCount 50 = .ok (.iconst (-1), 1) := by decide +kernel
theorem dX10_nthOrCount_51 : decode cX10_nthOrCount 51 = .ok (.ireturn, 1) := by decide +kernel
def f_Game_nthOrCount_L15 (σ : Mem) (x1 : Int32) (x2 : Int32) (a : Int32 × Int32) : Option ((Int32 × Int32) ⊕ (Int32)) :=
  @Prod.casesOn (Int32) (Int32) (fun _ => Option ((Int32 × Int32) ⊕ (Int32))) a fun z3 z4 =>
  if (32 : Int32) ≤ z4 then
    some (.inr (-1 : Int32))
  else
    if ((x1 >>> (z4 &&& 31)) &&& (1 : Int32)) = (0 : Int32) then
      some (.inl (z3, (z4 + (1 : Int32))))
    else
      if z3 = (0 : Int32) then
        some (.inr z4)
      else
        some (.inl ((z3 + (-1 : Int32)), (z4 + (1 : Int32))))
def f_Game_nthOrCount (σ : Mem) (x1 : Int32) (x2 : Int32) : Option (Int32) :=
  if x2 = (-1 : Int32) then
    (f_Integer_bitCount σ x1).bind fun q5 =>
    some q5
  else
    loopF (f_Game_nthOrCount_L15 σ x1 x2) FU (x2, (0 : Int32))
set_option maxHeartbeats 4000000 in
set_option maxRecDepth 20000 in
theorem gs_Game_nthOrCount_L15 (X : Cx θ p s m args c cX10_nthOrCount 5 RX10) (hr : meth.sig.returnType = some .int) (hlk : meth.locks = false)  {σ : Mem} {x1 : Int32} {x2 : Int32} {r : Int32}  (z3 : Int32) (z4 : Int32) (x : (Int32 × Int32) ⊕ (Int32)) (h : f_Game_nthOrCount_L15 σ x1 x2 (z3, z4) = some x) (hk : Sum.elim (fun a => @Prod.casesOn (Int32) (Int32) (fun _ => Prop) a fun z3 z4 => GB θ p l e 1 s m args below meth c 5 (some (.int r), σ) 15 [(0, .ref (be θ + 0)), (1, .int x1), (2, .int x2), (3, .int z3), (4, .int z4)] [] σ) (fun b => b = r) x) : GB θ p l e 1 s m args below meth c 5 (some (.int r), σ) 15 [(0, .ref (be θ + 0)), (1, .int x1), (2, .int x2), (3, .int z3), (4, .int z4)] [] σ := by
  unfold f_Game_nthOrCount_L15 at h
  dsimp only at h
  refine g_iload X dX10_nthOrCount_15 4 rfl ?_
  refine g_bipush X dX10_nthOrCount_17 (v := (32 : Int32)) bp_32 ?_
  refine g_icmp_ge (tgt := 50) X dX10_nthOrCount_19 (by decide) (fun c2 => ?_) (fun c2 => ?_)
  · replace h := (if_pos c2).symm.trans h
    refine g_iconst X dX10_nthOrCount_50 (v := (-1 : Int32)) ic_m1 ?_
    have hk := inr_hk h hk
    have hk : (-1 : Int32) = r := hk
    subst hk
    exact g_iret X hr hlk dX10_nthOrCount_51 rfl
  · replace h := (if_neg c2).symm.trans h
    refine g_iload_n X dX10_nthOrCount_22 rfl 1 rfl ?_
    refine g_iload X dX10_nthOrCount_23 4 rfl ?_
    refine g_ishr X dX10_nthOrCount_25 ?_
    refine g_iconst X dX10_nthOrCount_26 (v := (1 : Int32)) ic_1 ?_
    refine g_iand X dX10_nthOrCount_27 ?_
    refine g_if_ne (tgt := 34) X dX10_nthOrCount_28 (by decide) (fun c3 => ?_) (fun c3 => ?_)
    · replace h := (if_neg c3).symm.trans h
      refine g_iload_n X dX10_nthOrCount_34 rfl 3 rfl ?_
      refine g_if_ne (tgt := 41) X dX10_nthOrCount_35 (by decide) (fun c4 => ?_) (fun c4 => ?_)
      · replace h := (if_neg c4).symm.trans h
        refine g_iinc X dX10_nthOrCount_41 (kq := 3) rfl (congrArg (HAdd.hAdd _) ic_m1) (by decide) (lv' := [(3, .int (z3 + (-1 : Int32))), (0, .ref (be θ + 0)), (1, .int x1), (2, .int x2), (4, .int z4)]) rfl ?_
        refine g_iinc X dX10_nthOrCount_44 (kq := 4) rfl (congrArg (HAdd.hAdd _) ic_1) (by decide) (lv' := [(4, .int (z4 + (1 : Int32))), (3, .int (z3 + (-1 : Int32))), (0, .ref (be θ + 0)), (1, .int x1), (2, .int x2)]) rfl ?_
        refine g_goto (tgt := 15) X dX10_nthOrCount_47 (by decide) ?_
        have hk := inl_hk h hk
        exact g_sub (lv' := [(0, .ref (be θ + 0)), (1, .int x1), (2, .int x2), (3, .int (z3 + (-1 : Int32))), (4, .int (z4 + (1 : Int32)))]) [2, 3, 4, 1, 0] rfl hk
      · replace h := (if_pos c4).symm.trans h
        refine g_iload X dX10_nthOrCount_38 4 rfl ?_
        have hk := inr_hk h hk
        have hk : z4 = r := hk
        subst hk
        exact g_iret X hr hlk dX10_nthOrCount_40 rfl
    · replace h := (if_pos c3).symm.trans h
      refine g_goto (tgt := 44) X dX10_nthOrCount_31 (by decide) ?_
      refine g_iinc X dX10_nthOrCount_44 (kq := 4) rfl (congrArg (HAdd.hAdd _) ic_1) (by decide) (lv' := [(4, .int (z4 + (1 : Int32))), (0, .ref (be θ + 0)), (1, .int x1), (2, .int x2), (3, .int z3)]) rfl ?_
      refine g_goto (tgt := 15) X dX10_nthOrCount_47 (by decide) ?_
      have hk := inl_hk h hk
      exact g_sub (lv' := [(0, .ref (be θ + 0)), (1, .int x1), (2, .int x2), (3, .int z3), (4, .int (z4 + (1 : Int32)))]) [1, 2, 3, 4, 0] rfl hk
set_option maxHeartbeats 4000000 in
set_option maxRecDepth 20000 in
theorem gl_Game_nthOrCount_L15 (X : Cx θ p s m args c cX10_nthOrCount 5 RX10) (hr : meth.sig.returnType = some .int) (hlk : meth.locks = false)  {σ : Mem} {x1 : Int32} {x2 : Int32} {r : Int32}  (n : Nat) (a : Int32 × Int32) (b : Int32) (h : loopF (f_Game_nthOrCount_L15 σ x1 x2) n a = some b) (hk : (fun b => b = r) b) : (fun a => @Prod.casesOn (Int32) (Int32) (fun _ => Prop) a fun z3 z4 => GB θ p l e 1 s m args below meth c 5 (some (.int r), σ) 15 [(0, .ref (be θ + 0)), (1, .int x1), (2, .int x2), (3, .int z3), (4, .int z4)] [] σ) a :=
  loopF_by (P := (fun a => @Prod.casesOn (Int32) (Int32) (fun _ => Prop) a fun z3 z4 => GB θ p l e 1 s m args below meth c 5 (some (.int r), σ) 15 [(0, .ref (be θ + 0)), (1, .int x1), (2, .int x2), (3, .int z3), (4, .int z4)] [] σ)) (K := (fun b => b = r)) (fun a x h hk => by obtain ⟨z3, z4⟩ := a; exact gs_Game_nthOrCount_L15 X hr hlk   z3 z4 x h hk) n a b h hk
set_option maxHeartbeats 4000000 in
set_option maxRecDepth 20000 in
theorem g_Game_nthOrCount (X : Cx θ p s m args c cX10_nthOrCount 5 RX10) (hr : meth.sig.returnType = some .int) (hlk : meth.locks = false)  {σ : Mem} {x1 : Int32} {x2 : Int32} {r : Int32}  (h : f_Game_nthOrCount σ x1 x2 = some r) : GB θ p l e 1 s m args below meth c 5 (some (.int r), σ) 0 [(0, .ref (be θ + 0)), (1, .int x1), (2, .int x2)] [] σ := by
  unfold f_Game_nthOrCount at h
  refine g_iload_n X dX10_nthOrCount_0 rfl 2 rfl ?_
  refine g_iconst X dX10_nthOrCount_1 (v := (-1 : Int32)) ic_m1 ?_
  refine g_icmp_ne (tgt := 10) X dX10_nthOrCount_2 (by decide) (fun c1 => ?_) (fun c1 => ?_)
  · replace h := (if_neg c1).symm.trans h
    refine g_iload_n X dX10_nthOrCount_10 rfl 2 rfl ?_
    refine g_istore_n X dX10_nthOrCount_11 rfl (by decide) (lv' := [(3, .int x2), (0, .ref (be θ + 0)), (1, .int x1), (2, .int x2)]) rfl ?_
    refine g_iconst X dX10_nthOrCount_12 (v := (0 : Int32)) ic_0 ?_
    refine g_istore X dX10_nthOrCount_13 (by decide) (lv' := [(4, .int (0 : Int32)), (3, .int x2), (0, .ref (be θ + 0)), (1, .int x1), (2, .int x2)]) rfl ?_
    exact g_sub (lv' := [(0, .ref (be θ + 0)), (1, .int x1), (2, .int x2), (3, .int x2), (4, .int (0 : Int32))]) [2, 3, 4, 1, 0] rfl (gl_Game_nthOrCount_L15 X hr hlk    FU _ _ h rfl)
  · replace h := (if_pos c1).symm.trans h
    refine g_iload_n X dX10_nthOrCount_5 rfl 1 rfl ?_
    obtain ⟨q5, hq5, h⟩ := Option.bind_eq_some_iff.mp h
    refine g_cS X (c_Integer_bitCount  hq5) lk_RX10_380 my_J6_bitCount_0f7a4 (As := [.int x1]) (rest := []) rfl rfl (Nat.le_of_ble_eq_true rfl) ⟨(Nat.le_of_ble_eq_true rfl), (Nat.le_of_ble_eq_true rfl)⟩ ⟨(Nat.le_of_ble_eq_true rfl), (Nat.le_of_ble_eq_true rfl)⟩ dX10_nthOrCount_6 (st' := [.int q5]) (σ' := σ) rfl rfl ?_
    exact g_iret X hr hlk dX10_nthOrCount_9 (by cases h; rfl)
set_option maxHeartbeats 4000000 in
set_option maxRecDepth 20000 in
theorem c_Game_nthOrCount {θ : Th} {l : Launch} {σ : Mem} {x1 : Int32} {x2 : Int32} {r : Int32}  (h : f_Game_nthOrCount σ x1 x2 = some r) : Cn θ l yX10_nthOrCount cX10_nthOrCount 5 (some .int) 1 0 0 [.ref (be θ + 0), .int x1, .int x2] σ (some (.int r), σ) :=
  Cn.of (by decide) (Nat.le_of_ble_eq_true rfl) (fun p e s m below meth c X hr hlk => g_Game_nthOrCount X hr hlk  h)
theorem dX10_desires_0 : decode cX10_desires 0 = .ok (.aload_n 0, 1) := by decide +kernel
theorem dX10_desires_1 : decode cX10_desires 1 = .ok (.getfield 52, 3) := by decide +kernel
theorem dX10_desires_4 : decode cX10_desires 4 = .ok (.iload_n 1, 1) := by decide +kernel
theorem dX10_desires_5 : decode cX10_desires 5 = .ok (.invokevirtual 174, 3) := by decide +kernel
theorem dX10_desires_8 : decode cX10_desires 8 = .ok (.ifCond .eq 14, 3) := by decide +kernel
theorem dX10_desires_11 : decode cX10_desires 11 = .ok (.iload_n 2, 1) := by decide +kernel
theorem dX10_desires_12 : decode cX10_desires 12 = .ok (.iconst (-1), 1) := by decide +kernel
theorem dX10_desires_13 : decode cX10_desires 13 = .ok (.if_icmp .lt 9, 3) := by decide +kernel
theorem dX10_desires_16 : decode cX10_desires 16 = .ok (.iload_n 2, 1) := by decide +kernel
theorem dX10_desires_17 : decode cX10_desires 17 = .ok (.bipush 10, 2) := by decide +kernel
theorem dX10_desires_19 : decode cX10_desires 19 = .ok (.if_icmp .lt 5, 3) := by decide +kernel
theorem dX10_desires_22 : decode cX10_desires 22 = .ok (.iconst (-1), 1) := by decide +kernel
theorem dX10_desires_23 : decode cX10_desires 23 = .ok (.ireturn, 1) := by decide +kernel
theorem dX10_desires_24 : decode cX10_desires 24 = .ok (.aload_n 0, 1) := by decide +kernel
theorem dX10_desires_25 : decode cX10_desires 25 = .ok (.getfield 66, 3) := by decide +kernel
theorem dX10_desires_28 : decode cX10_desires 28 = .ok (.aload_n 0, 1) := by decide +kernel
theorem dX10_desires_29 : decode cX10_desires 29 = .ok (.getfield 52, 3) := by decide +kernel
theorem dX10_desires_32 : decode cX10_desires 32 = .ok (.iload_n 1, 1) := by decide +kernel
theorem dX10_desires_33 : decode cX10_desires 33 = .ok (.aload_n 0, 1) := by decide +kernel
theorem dX10_desires_34 : decode cX10_desires 34 = .ok (.getfield 66, 3) := by decide +kernel
theorem dX10_desires_37 : decode cX10_desires 37 = .ok (.invokevirtual 367, 3) := by decide +kernel
theorem dX10_desires_40 : decode cX10_desires 40 = .ok (.invokevirtual 370, 3) := by decide +kernel
theorem dX10_desires_43 : decode cX10_desires 43 = .ok (.aload_n 0, 1) := by decide +kernel
theorem dX10_desires_44 : decode cX10_desires 44 = .ok (.aload_n 0, 1) := by decide +kernel
theorem dX10_desires_45 : decode cX10_desires 45 = .ok (.getfield 66, 3) := by decide +kernel
theorem dX10_desires_48 : decode cX10_desires 48 = .ok (.invokevirtual 374, 3) := by decide +kernel
theorem dX10_desires_51 : decode cX10_desires 51 = .ok (.iload_n 2, 1) := by decide +kernel
theorem dX10_desires_52 : decode cX10_desires 52 = .ok (.invokevirtual 377, 3) := by decide +kernel
theorem dX10_desires_55 : decode cX10_desires 55 = .ok (.ireturn, 1) := by decide +kernel
def f_Game_desires (σ : Mem) (x1 : Int32) (x2 : Int32) : Option (Int32 × Mem) :=
  (f_Trade_isBuyer σ x1).bind fun q1 =>
  if q1 = (0 : Int32) then
    some ((-1 : Int32), σ)
  else
    if x2 < (-1 : Int32) then
      some ((-1 : Int32), σ)
    else
      if x2 < (10 : Int32) then
        (f_Guess_latestSeen σ).bind fun q5 =>
        (f_Guess_foretell σ x1 q5).bind fun q6 =>
        (f_Guess_fitting q6).bind fun q7 =>
        (f_Game_nthOrCount q6 q7 x2).bind fun q8 =>
        some (q8, q6)
      else
        some ((-1 : Int32), σ)
set_option maxHeartbeats 4000000 in
set_option maxRecDepth 20000 in
theorem g_Game_desires (X : Cx θ p s m args c cX10_desires 3 RX10) (hr : meth.sig.returnType = some .int) (hlk : meth.locks = false)  {σ : Mem} {x1 : Int32} {x2 : Int32} {r : Int32 × Mem}  (h : f_Game_desires σ x1 x2 = some r) : GB θ p l e 6 s m args below meth c 3 (some (.int r.1), r.2) 0 [(0, .ref (be θ + 0)), (1, .int x1), (2, .int x2)] [] σ := by
  unfold f_Game_desires at h
  refine g_aload_n X dX10_desires_0 rfl 0 rfl ?_
  refine g_get X fl_RX10_52 dX10_desires_1 kd_0 (v := .ref (be θ + 428)) rfl ?_
  refine g_iload_n X dX10_desires_4 rfl 1 rfl ?_
  obtain ⟨q1, hq1, h⟩ := Option.bind_eq_some_iff.mp h
  refine g_cV X (c_Trade_isBuyer  hq1) lk_RX10_174 my_X9_isBuyer (a := 428) (ci := 9) kd_428 (by decide) rfl (As := [.int x1]) (rest := []) rfl rfl (Nat.le_of_ble_eq_true rfl) ⟨(Nat.le_of_ble_eq_true rfl), (Nat.le_of_ble_eq_true rfl)⟩ ⟨(Nat.le_of_ble_eq_true rfl), (Nat.le_of_ble_eq_true rfl)⟩ dX10_desires_5 (st' := [.int q1]) (σ' := σ) rfl rfl ?_
  refine g_if_eq (tgt := 22) X dX10_desires_8 (by decide) (fun c2 => ?_) (fun c2 => ?_)
  · replace h := (if_pos c2).symm.trans h
    refine g_iconst X dX10_desires_22 (v := (-1 : Int32)) ic_m1 ?_
    exact g_iret X hr hlk dX10_desires_23 (by cases h; rfl)
  · replace h := (if_neg c2).symm.trans h
    refine g_iload_n X dX10_desires_11 rfl 2 rfl ?_
    refine g_iconst X dX10_desires_12 (v := (-1 : Int32)) ic_m1 ?_
    refine g_icmp_lt (tgt := 22) X dX10_desires_13 (by decide) (fun c3 => ?_) (fun c3 => ?_)
    · replace h := (if_pos c3).symm.trans h
      refine g_iconst X dX10_desires_22 (v := (-1 : Int32)) ic_m1 ?_
      exact g_iret X hr hlk dX10_desires_23 (by cases h; rfl)
    · replace h := (if_neg c3).symm.trans h
      refine g_iload_n X dX10_desires_16 rfl 2 rfl ?_
      refine g_bipush X dX10_desires_17 (v := (10 : Int32)) bp_10 ?_
      refine g_icmp_lt (tgt := 24) X dX10_desires_19 (by decide) (fun c4 => ?_) (fun c4 => ?_)
      · replace h := (if_pos c4).symm.trans h
        refine g_aload_n X dX10_desires_24 rfl 0 rfl ?_
        refine g_get X fl_RX10_66 dX10_desires_25 kd_0 (v := .ref (be θ + 516)) rfl ?_
        refine g_aload_n X dX10_desires_28 rfl 0 rfl ?_
        refine g_get X fl_RX10_52 dX10_desires_29 kd_0 (v := .ref (be θ + 428)) rfl ?_
        refine g_iload_n X dX10_desires_32 rfl 1 rfl ?_
        refine g_aload_n X dX10_desires_33 rfl 0 rfl ?_
        refine g_get X fl_RX10_66 dX10_desires_34 kd_0 (v := .ref (be θ + 516)) rfl ?_
        obtain ⟨q5, hq5, h⟩ := Option.bind_eq_some_iff.mp h
        refine g_cV X (c_Guess_latestSeen  hq5) lk_RX10_367 my_X3_latestSeen (a := 516) (ci := 3) kd_516 (by decide) rfl (As := []) (rest := [.int x1, .ref (be θ + 428), .ref (be θ + 516)]) rfl rfl (Nat.le_of_ble_eq_true rfl) ⟨(Nat.le_of_ble_eq_true rfl), (Nat.le_of_ble_eq_true rfl)⟩ ⟨(Nat.le_of_ble_eq_true rfl), (Nat.le_of_ble_eq_true rfl)⟩ dX10_desires_37 (st' := [.int q5, .int x1, .ref (be θ + 428), .ref (be θ + 516)]) (σ' := σ) rfl rfl ?_
        obtain ⟨q6, hq6, h⟩ := Option.bind_eq_some_iff.mp h
        refine g_cV X (c_Guess_foretell  hq6) lk_RX10_370 my_X3_foretell (a := 516) (ci := 3) kd_516 (by decide) rfl (As := [.ref (be θ + 428), .int x1, .int q5]) (rest := []) rfl rfl (Nat.le_of_ble_eq_true rfl) ⟨(Nat.le_of_ble_eq_true rfl), (Nat.le_of_ble_eq_true rfl)⟩ ⟨(Nat.le_of_ble_eq_true rfl), (Nat.le_of_ble_eq_true rfl)⟩ dX10_desires_40 (st' := []) (σ' := q6) rfl rfl ?_
        refine g_aload_n X dX10_desires_43 rfl 0 rfl ?_
        refine g_aload_n X dX10_desires_44 rfl 0 rfl ?_
        refine g_get X fl_RX10_66 dX10_desires_45 kd_0 (v := .ref (be θ + 516)) rfl ?_
        obtain ⟨q7, hq7, h⟩ := Option.bind_eq_some_iff.mp h
        refine g_cV X (c_Guess_fitting  hq7) lk_RX10_374 my_X3_fitting (a := 516) (ci := 3) kd_516 (by decide) rfl (As := []) (rest := [.ref (be θ + 0)]) rfl rfl (Nat.le_of_ble_eq_true rfl) ⟨(Nat.le_of_ble_eq_true rfl), (Nat.le_of_ble_eq_true rfl)⟩ ⟨(Nat.le_of_ble_eq_true rfl), (Nat.le_of_ble_eq_true rfl)⟩ dX10_desires_48 (st' := [.int q7, .ref (be θ + 0)]) (σ' := q6) rfl rfl ?_
        refine g_iload_n X dX10_desires_51 rfl 2 rfl ?_
        obtain ⟨q8, hq8, h⟩ := Option.bind_eq_some_iff.mp h
        refine g_cV X (c_Game_nthOrCount  hq8) lk_RX10_377 my_X10_nthOrCount (a := 0) (ci := 10) kd_0 (by decide) rfl (As := [.int q7, .int x2]) (rest := []) rfl rfl (Nat.le_of_ble_eq_true rfl) ⟨(Nat.le_of_ble_eq_true rfl), (Nat.le_of_ble_eq_true rfl)⟩ ⟨(Nat.le_of_ble_eq_true rfl), (Nat.le_of_ble_eq_true rfl)⟩ dX10_desires_52 (st' := [.int q8]) (σ' := q6) rfl rfl ?_
        exact g_iret X hr hlk dX10_desires_55 (by cases h; rfl)
      · replace h := (if_neg c4).symm.trans h
        refine g_iconst X dX10_desires_22 (v := (-1 : Int32)) ic_m1 ?_
        exact g_iret X hr hlk dX10_desires_23 (by cases h; rfl)
set_option maxHeartbeats 4000000 in
set_option maxRecDepth 20000 in
theorem c_Game_desires {θ : Th} {l : Launch} {σ : Mem} {x1 : Int32} {x2 : Int32} {r : Int32 × Mem}  (h : f_Game_desires σ x1 x2 = some r) : Cn θ l yX10_desires cX10_desires 3 (some .int) 6 0 0 [.ref (be θ + 0), .int x1, .int x2] σ (some (.int r.1), r.2) :=
  Cn.of (by decide) (Nat.le_of_ble_eq_true rfl) (fun p e s m below meth c X hr hlk => g_Game_desires X hr hlk  h)
theorem dX10_ask_0 : decode cX10_ask 0 = .ok (.aload_n 0, 1) := by decide +kernel
theorem dX10_ask_1 : decode cX10_ask 1 = .ok (.getfield 52, 3) := by decide +kernel
theorem dX10_ask_4 : decode cX10_ask 4 = .ok (.iload_n 1, 1) := by decide +kernel
theorem dX10_ask_5 : decode cX10_ask 5 = .ok (.invokevirtual 174, 3) := by decide +kernel
theorem dX10_ask_8 : decode cX10_ask 8 = .ok (.ifCond .ne 5, 3) := by decide +kernel
theorem dX10_ask_11 : decode cX10_ask 11 = .ok (.iconst (-1), 1) := by decide +kernel
theorem dX10_ask_12 : decode cX10_ask 12 = .ok (.ireturn, 1) := by decide +kernel
theorem dX10_ask_13 : decode cX10_ask 13 = .ok (.aload_n 0, 1) := by decide +kernel
theorem dX10_ask_14 : decode cX10_ask 14 = .ok (.getfield 66, 3) := by decide +kernel
theorem dX10_ask_17 : decode cX10_ask 17 = .ok (.aload_n 0, 1) := by decide +kernel
theorem dX10_ask_18 : decode cX10_ask 18 = .ok (.getfield 52, 3) := by decide +kernel
theorem dX10_ask_21 : decode cX10_ask 21 = .ok (.iload_n 1, 1) := by decide +kernel
theorem dX10_ask_22 : decode cX10_ask 22 = .ok (.bipush 60, 2) := by decide +kernel
theorem dX10_ask_24 : decode cX10_ask 24 = .ok (.invokevirtual 370, 3) := by decide +kernel
theorem dX10_ask_27 : decode cX10_ask 27 = .ok (.aload_n 0, 1) := by decide +kernel
theorem dX10_ask_28 : decode cX10_ask 28 = .ok (.getfield 66, 3) := by decide +kernel
theorem dX10_ask_31 : decode cX10_ask 31 = .ok (.invokevirtual 385, 3) := by decide +kernel
theorem dX10_ask_34 : decode cX10_ask 34 = .ok (.ireturn, 1) := by decide +kernel
def f_Game_ask (σ : Mem) (x1 : Int32) : Option (Int32 × Mem) :=
  (f_Trade_isBuyer σ x1).bind fun q1 =>
  if q1 = (0 : Int32) then
    some ((-1 : Int32), σ)
  else
    (f_Guess_foretell σ x1 (60 : Int32)).bind fun q3 =>
    (f_Guess_hoursToAsk q3).bind fun q4 =>
    some (q4, q3)
set_option maxHeartbeats 4000000 in
set_option maxRecDepth 20000 in
theorem g_Game_ask (X : Cx θ p s m args c cX10_ask 2 RX10) (hr : meth.sig.returnType = some .int) (hlk : meth.locks = false)  {σ : Mem} {x1 : Int32} {r : Int32 × Mem}  (h : f_Game_ask σ x1 = some r) : GB θ p l e 6 s m args below meth c 2 (some (.int r.1), r.2) 0 [(0, .ref (be θ + 0)), (1, .int x1)] [] σ := by
  unfold f_Game_ask at h
  refine g_aload_n X dX10_ask_0 rfl 0 rfl ?_
  refine g_get X fl_RX10_52 dX10_ask_1 kd_0 (v := .ref (be θ + 428)) rfl ?_
  refine g_iload_n X dX10_ask_4 rfl 1 rfl ?_
  obtain ⟨q1, hq1, h⟩ := Option.bind_eq_some_iff.mp h
  refine g_cV X (c_Trade_isBuyer  hq1) lk_RX10_174 my_X9_isBuyer (a := 428) (ci := 9) kd_428 (by decide) rfl (As := [.int x1]) (rest := []) rfl rfl (Nat.le_of_ble_eq_true rfl) ⟨(Nat.le_of_ble_eq_true rfl), (Nat.le_of_ble_eq_true rfl)⟩ ⟨(Nat.le_of_ble_eq_true rfl), (Nat.le_of_ble_eq_true rfl)⟩ dX10_ask_5 (st' := [.int q1]) (σ' := σ) rfl rfl ?_
  refine g_if_ne (tgt := 13) X dX10_ask_8 (by decide) (fun c2 => ?_) (fun c2 => ?_)
  · replace h := (if_neg c2).symm.trans h
    refine g_aload_n X dX10_ask_13 rfl 0 rfl ?_
    refine g_get X fl_RX10_66 dX10_ask_14 kd_0 (v := .ref (be θ + 516)) rfl ?_
    refine g_aload_n X dX10_ask_17 rfl 0 rfl ?_
    refine g_get X fl_RX10_52 dX10_ask_18 kd_0 (v := .ref (be θ + 428)) rfl ?_
    refine g_iload_n X dX10_ask_21 rfl 1 rfl ?_
    refine g_bipush X dX10_ask_22 (v := (60 : Int32)) bp_60 ?_
    obtain ⟨q3, hq3, h⟩ := Option.bind_eq_some_iff.mp h
    refine g_cV X (c_Guess_foretell  hq3) lk_RX10_370 my_X3_foretell (a := 516) (ci := 3) kd_516 (by decide) rfl (As := [.ref (be θ + 428), .int x1, .int (60 : Int32)]) (rest := []) rfl rfl (Nat.le_of_ble_eq_true rfl) ⟨(Nat.le_of_ble_eq_true rfl), (Nat.le_of_ble_eq_true rfl)⟩ ⟨(Nat.le_of_ble_eq_true rfl), (Nat.le_of_ble_eq_true rfl)⟩ dX10_ask_24 (st' := []) (σ' := q3) rfl rfl ?_
    refine g_aload_n X dX10_ask_27 rfl 0 rfl ?_
    refine g_get X fl_RX10_66 dX10_ask_28 kd_0 (v := .ref (be θ + 516)) rfl ?_
    obtain ⟨q4, hq4, h⟩ := Option.bind_eq_some_iff.mp h
    refine g_cV X (c_Guess_hoursToAsk  hq4) lk_RX10_385 my_X3_hoursToAsk (a := 516) (ci := 3) kd_516 (by decide) rfl (As := []) (rest := []) rfl rfl (Nat.le_of_ble_eq_true rfl) ⟨(Nat.le_of_ble_eq_true rfl), (Nat.le_of_ble_eq_true rfl)⟩ ⟨(Nat.le_of_ble_eq_true rfl), (Nat.le_of_ble_eq_true rfl)⟩ dX10_ask_31 (st' := [.int q4]) (σ' := q3) rfl rfl ?_
    exact g_iret X hr hlk dX10_ask_34 (by cases h; rfl)
  · replace h := (if_pos c2).symm.trans h
    refine g_iconst X dX10_ask_11 (v := (-1 : Int32)) ic_m1 ?_
    exact g_iret X hr hlk dX10_ask_12 (by cases h; rfl)
set_option maxHeartbeats 4000000 in
set_option maxRecDepth 20000 in
theorem c_Game_ask {θ : Th} {l : Launch} {σ : Mem} {x1 : Int32} {r : Int32 × Mem}  (h : f_Game_ask σ x1 = some r) : Cn θ l yX10_ask cX10_ask 2 (some .int) 6 0 0 [.ref (be θ + 0), .int x1] σ (some (.int r.1), r.2) :=
  Cn.of (by decide) (Nat.le_of_ble_eq_true rfl) (fun p e s m below meth c X hr hlk => g_Game_ask X hr hlk  h)
theorem dX10_canDeal_0 : decode cX10_canDeal 0 = .ok (.aload_n 0, 1) := by decide +kernel
theorem dX10_canDeal_1 : decode cX10_canDeal 1 = .ok (.getfield 52, 3) := by decide +kernel
theorem dX10_canDeal_4 : decode cX10_canDeal 4 = .ok (.iload_n 1, 1) := by decide +kernel
theorem dX10_canDeal_5 : decode cX10_canDeal 5 = .ok (.invokevirtual 174, 3) := by decide +kernel
theorem dX10_canDeal_8 : decode cX10_canDeal 8 = .ok (.ifCond .eq 30, 3) := by decide +kernel
theorem dX10_canDeal_11 : decode cX10_canDeal 11 = .ok (.aload_n 0, 1) := by decide +kernel
theorem dX10_canDeal_12 : decode cX10_canDeal 12 = .ok (.getfield 52, 3) := by decide +kernel
theorem dX10_canDeal_15 : decode cX10_canDeal 15 = .ok (.iload_n 2, 1) := by decide +kernel
theorem dX10_canDeal_16 : decode cX10_canDeal 16 = .ok (.invokevirtual 151, 3) := by decide +kernel
theorem dX10_canDeal_19 : decode cX10_canDeal 19 = .ok (.ifCond .eq 19, 3) := by decide +kernel
theorem dX10_canDeal_22 : decode cX10_canDeal 22 = .ok (.aload_n 0, 1) := by decide +kernel
theorem dX10_canDeal_23 : decode cX10_canDeal 23 = .ok (.getfield 35, 3) := by decide +kernel
theorem dX10_canDeal_26 : decode cX10_canDeal 26 = .ok (.getfield 168, 3) := by decide +kernel
theorem dX10_canDeal_29 : decode cX10_canDeal 29 = .ok (.iload_n 2, 1) := by decide +kernel
theorem dX10_canDeal_30 : decode cX10_canDeal 30 = .ok (.iaload, 1) := by decide +kernel
theorem dX10_canDeal_31 : decode cX10_canDeal 31 = .ok (.ifCond .ne 7, 3) := by decide +kernel
theorem dX10_canDeal_34 : decode cX10_canDeal 34 = .ok (.iconst 1, 1) := by decide +kernel
theorem dX10_canDeal_35 : decode cX10_canDeal 35 = .ok (.goto 4, 3) := by decide +kernel
theorem dX10_canDeal_38 : decode cX10_canDeal 38 = .ok (.iconst 0, 1) := by decide +kernel
theorem dX10_canDeal_39 : decode cX10_canDeal 39 = .ok (.ireturn, 1) := by decide +kernel
def f_Game_canDeal (σ : Mem) (x1 : Int32) (x2 : Int32) : Option (Int32) :=
  (f_Trade_isBuyer σ x1).bind fun q1 =>
  if q1 = (0 : Int32) then
    some (0 : Int32)
  else
    (f_Trade_isThing σ x2).bind fun q3 =>
    if q3 = (0 : Int32) then
      some (0 : Int32)
    else
      if inb x2 8 then
        if (mI σ 8 x2.toNatClampNeg) = (0 : Int32) then
          some (1 : Int32)
        else
          some (0 : Int32)
      else none
set_option maxHeartbeats 4000000 in
set_option maxRecDepth 20000 in
theorem g_Game_canDeal (X : Cx θ p s m args c cX10_canDeal 3 RX10) (hr : meth.sig.returnType = some .boolean) (hlk : meth.locks = false)  {σ : Mem} {x1 : Int32} {x2 : Int32} {r : Int32}  (h : f_Game_canDeal σ x1 x2 = some r) : GB θ p l e 1 s m args below meth c 3 (some (.int r), σ) 0 [(0, .ref (be θ + 0)), (1, .int x1), (2, .int x2)] [] σ := by
  unfold f_Game_canDeal at h
  refine g_aload_n X dX10_canDeal_0 rfl 0 rfl ?_
  refine g_get X fl_RX10_52 dX10_canDeal_1 kd_0 (v := .ref (be θ + 428)) rfl ?_
  refine g_iload_n X dX10_canDeal_4 rfl 1 rfl ?_
  obtain ⟨q1, hq1, h⟩ := Option.bind_eq_some_iff.mp h
  refine g_cV X (c_Trade_isBuyer  hq1) lk_RX10_174 my_X9_isBuyer (a := 428) (ci := 9) kd_428 (by decide) rfl (As := [.int x1]) (rest := []) rfl rfl (Nat.le_of_ble_eq_true rfl) ⟨(Nat.le_of_ble_eq_true rfl), (Nat.le_of_ble_eq_true rfl)⟩ ⟨(Nat.le_of_ble_eq_true rfl), (Nat.le_of_ble_eq_true rfl)⟩ dX10_canDeal_5 (st' := [.int q1]) (σ' := σ) rfl rfl ?_
  refine g_if_eq (tgt := 38) X dX10_canDeal_8 (by decide) (fun c2 => ?_) (fun c2 => ?_)
  · replace h := (if_pos c2).symm.trans h
    refine g_iconst X dX10_canDeal_38 (v := (0 : Int32)) ic_0 ?_
    exact g_zret X hr hlk bz0 dX10_canDeal_39 (by cases h; rfl)
  · replace h := (if_neg c2).symm.trans h
    refine g_aload_n X dX10_canDeal_11 rfl 0 rfl ?_
    refine g_get X fl_RX10_52 dX10_canDeal_12 kd_0 (v := .ref (be θ + 428)) rfl ?_
    refine g_iload_n X dX10_canDeal_15 rfl 2 rfl ?_
    obtain ⟨q3, hq3, h⟩ := Option.bind_eq_some_iff.mp h
    refine g_cV X (c_Trade_isThing  hq3) lk_RX10_151 my_X9_isThing (a := 428) (ci := 9) kd_428 (by decide) rfl (As := [.int x2]) (rest := []) rfl rfl (Nat.le_of_ble_eq_true rfl) ⟨(Nat.le_of_ble_eq_true rfl), (Nat.le_of_ble_eq_true rfl)⟩ ⟨(Nat.le_of_ble_eq_true rfl), (Nat.le_of_ble_eq_true rfl)⟩ dX10_canDeal_16 (st' := [.int q3]) (σ' := σ) rfl rfl ?_
    refine g_if_eq (tgt := 38) X dX10_canDeal_19 (by decide) (fun c4 => ?_) (fun c4 => ?_)
    · replace h := (if_pos c4).symm.trans h
      refine g_iconst X dX10_canDeal_38 (v := (0 : Int32)) ic_0 ?_
      exact g_zret X hr hlk bz0 dX10_canDeal_39 (by cases h; rfl)
    · replace h := (if_neg c4).symm.trans h
      refine g_aload_n X dX10_canDeal_22 rfl 0 rfl ?_
      refine g_get X fl_RX10_35 dX10_canDeal_23 kd_0 (v := .ref (be θ + 6)) rfl ?_
      refine g_get X fl_RX10_168 dX10_canDeal_26 kd_6 (v := .ref (be θ + 8)) rfl ?_
      refine g_iload_n X dX10_canDeal_29 rfl 2 rfl ?_
      obtain ⟨g5, h⟩ := ite_some h
      refine g_iald X kd_8 ln_8 (inb_in g5) dX10_canDeal_30 ?_
      refine g_if_ne (tgt := 38) X dX10_canDeal_31 (by decide) (fun c6 => ?_) (fun c6 => ?_)
      · replace h := (if_neg c6).symm.trans h
        refine g_iconst X dX10_canDeal_38 (v := (0 : Int32)) ic_0 ?_
        exact g_zret X hr hlk bz0 dX10_canDeal_39 (by cases h; rfl)
      · replace h := (if_pos c6).symm.trans h
        refine g_iconst X dX10_canDeal_34 (v := (1 : Int32)) ic_1 ?_
        refine g_goto (tgt := 39) X dX10_canDeal_35 (by decide) ?_
        exact g_zret X hr hlk bz1 dX10_canDeal_39 (by cases h; rfl)
set_option maxHeartbeats 4000000 in
set_option maxRecDepth 20000 in
theorem c_Game_canDeal {θ : Th} {l : Launch} {σ : Mem} {x1 : Int32} {x2 : Int32} {r : Int32}  (h : f_Game_canDeal σ x1 x2 = some r) : Cn θ l yX10_canDeal cX10_canDeal 3 (some .boolean) 1 0 0 [.ref (be θ + 0), .int x1, .int x2] σ (some (.int r), σ) :=
  Cn.of (by decide) (Nat.le_of_ble_eq_true rfl) (fun p e s m below meth c X hr hlk => g_Game_canDeal X hr hlk  h)
theorem dX10_game_0 : decode cX10_game 0 = .ok (.aload_n 0, 1) := by decide +kernel
theorem dX10_game_1 : decode cX10_game 1 = .ok (.iload_n 1, 1) := by decide +kernel
theorem dX10_game_2 : decode cX10_game 2 = .ok (.iload_n 2, 1) := by decide +kernel
theorem dX10_game_3 : decode cX10_game 3 = .ok (.invokevirtual 388, 3) := by decide +kernel
theorem dX10_game_6 : decode cX10_game 6 = .ok (.ifCond .eq 34, 3) := by decide +kernel
theorem dX10_game_9 : decode cX10_game 9 = .ok (.iload_n 3, 1) := by decide +kernel
theorem dX10_game_10 : decode cX10_game 10 = .ok (.ifCond .lt 30, 3) := by decide +kernel
theorem dX10_game_13 : decode cX10_game 13 = .ok (.iload_n 3, 1) := by decide +kernel
theorem dX10_game_14 : decode cX10_game 14 = .ok (.iconst 3, 1) := by decide +kernel
theorem dX10_game_15 : decode cX10_game 15 = .ok (.if_icmp .gt 25, 3) := by decide +kernel
theorem dX10_game_18 : decode cX10_game 18 = .ok (.iload 4, 2) := by decide +kernel
theorem dX10_game_20 : decode cX10_game 20 = .ok (.ifCond .lt 20, 3) := by decide +kernel
theorem dX10_game_23 : decode cX10_game 23 = .ok (.iload 4, 2) := by decide +kernel
theorem dX10_game_25 : decode cX10_game 25 = .ok (.iconst 2, 1) := by decide +kernel
theorem dX10_game_26 : decode cX10_game 26 = .ok (.if_icmp .gt 14, 3) := by decide +kernel
theorem dX10_game_29 : decode cX10_game 29 = .ok (.iload 5, 2) := by decide +kernel
theorem dX10_game_31 : decode cX10_game 31 = .ok (.ifCond .lt 9, 3) := by decide +kernel
theorem dX10_game_34 : decode cX10_game 34 = .ok (.iload 5, 2) := by decide +kernel
theorem dX10_game_36 : decode cX10_game 36 = .ok (.iconst 1, 1) := by decide +kernel
theorem dX10_game_37 : decode cX10_game 37 = .ok (.if_icmp .le 6, 3) := by decide +kernel
theorem dX10_game_40 : decode cX10_game 40 = .ok (.ldc 155, 2) := by decide +kernel
theorem dX10_game_42 : decode cX10_game 42 = .ok (.ireturn, 1) := by decide +kernel
theorem dX10_game_43 : decode cX10_game 43 = .ok (.aload_n 0, 1) := by decide +kernel
theorem dX10_game_44 : decode cX10_game 44 = .ok (.getfield 73, 3) := by decide +kernel
theorem dX10_game_47 : decode cX10_game 47 = .ok (.aload_n 0, 1) := by decide +kernel
theorem dX10_game_48 : decode cX10_game 48 = .ok (.getfield 52, 3) := by decide +kernel
theorem dX10_game_51 : decode cX10_game 51 = .ok (.aload_n 0, 1) := by decide +kernel
theorem dX10_game_52 : decode cX10_game 52 = .ok (.getfield 35, 3) := by decide +kernel
theorem dX10_game_55 : decode cX10_game 55 = .ok (.iload_n 1, 1) := by decide +kernel
theorem dX10_game_56 : decode cX10_game 56 = .ok (.iload_n 2, 1) := by decide +kernel
theorem dX10_game_57 : decode cX10_game 57 = .ok (.invokevirtual 392, 3) := by decide +kernel
theorem dX10_game_60 : decode cX10_game 60 = .ok (.iload 5, 2) := by decide +kernel
theorem dX10_game_62 : decode cX10_game 62 = .ok (.ifCond .ne 16, 3) := by decide +kernel
theorem dX10_game_65 : decode cX10_game 65 = .ok (.aload_n 0, 1) := by decide +kernel
theorem dX10_game_66 : decode cX10_game 66 = .ok (.getfield 73, 3) := by decide +kernel
theorem dX10_game_69 : decode cX10_game 69 = .ok (.iload_n 3, 1) := by decide +kernel
theorem dX10_game_70 : decode cX10_game 70 = .ok (.iload 4, 2) := by decide +kernel
theorem dX10_game_72 : decode cX10_game 72 = .ok (.invokevirtual 395, 3) := by decide +kernel
theorem dX10_game_75 : decode cX10_game 75 = .ok (.goto 13, 3) := by decide +kernel
theorem dX10_game_78 : decode cX10_game 78 = .ok (.aload_n 0, 1) := by decide +kernel
theorem dX10_game_79 : decode cX10_game 79 = .ok (.getfield 73, 3) := by decide +kernel
theorem dX10_game_82 : decode cX10_game 82 = .ok (.iload_n 3, 1) := by decide +kernel
theorem dX10_game_83 : decode cX10_game 83 = .ok (.iload 4, 2) := by decide +kernel
theorem dX10_game_85 : decode cX10_game 85 = .ok (.invokevirtual 398, 3) := by decide +kernel
theorem dX10_game_88 : decode cX10_game 88 = .ok (.ireturn, 1) := by decide +kernel
def f_Game_game (σ : Mem) (x1 : Int32) (x2 : Int32) (x3 : Int32) (x4 : Int32) (x5 : Int32) : Option (Int32 × Mem) :=
  (f_Game_canDeal σ x1 x2).bind fun q1 =>
  if q1 = (0 : Int32) then
    some ((-1000000 : Int32), σ)
  else
    if x3 < (0 : Int32) then
      some ((-1000000 : Int32), σ)
    else
      if (3 : Int32) < x3 then
        some ((-1000000 : Int32), σ)
      else
        if x4 < (0 : Int32) then
          some ((-1000000 : Int32), σ)
        else
          if (2 : Int32) < x4 then
            some ((-1000000 : Int32), σ)
          else
            if x5 < (0 : Int32) then
              some ((-1000000 : Int32), σ)
            else
              if x5 ≤ (1 : Int32) then
                (f_Bargain_sitDown σ 6 x1 x2).bind fun q9 =>
                if x5 = (0 : Int32) then
                  (f_Bargain_sellerHas q9 x3 x4).bind fun q12 =>
                  some (q12, q9)
                else
                  (f_Bargain_buyerHas q9 x3 x4).bind fun q11 =>
                  some (q11, q9)
              else
                some ((-1000000 : Int32), σ)
set_option maxHeartbeats 4000000 in
set_option maxRecDepth 20000 in
theorem g_Game_game (X : Cx θ p s m args c cX10_game 6 RX10) (hr : meth.sig.returnType = some .int) (hlk : meth.locks = false)  {σ : Mem} {x1 : Int32} {x2 : Int32} {x3 : Int32} {x4 : Int32} {x5 : Int32} {r : Int32 × Mem}  (h : f_Game_game σ x1 x2 x3 x4 x5 = some r) : GB θ p l e 5 s m args below meth c 6 (some (.int r.1), r.2) 0 [(0, .ref (be θ + 0)), (1, .int x1), (2, .int x2), (3, .int x3), (4, .int x4), (5, .int x5)] [] σ := by
  unfold f_Game_game at h
  refine g_aload_n X dX10_game_0 rfl 0 rfl ?_
  refine g_iload_n X dX10_game_1 rfl 1 rfl ?_
  refine g_iload_n X dX10_game_2 rfl 2 rfl ?_
  obtain ⟨q1, hq1, h⟩ := Option.bind_eq_some_iff.mp h
  refine g_cV X (c_Game_canDeal  hq1) lk_RX10_388 my_X10_canDeal (a := 0) (ci := 10) kd_0 (by decide) rfl (As := [.int x1, .int x2]) (rest := []) rfl rfl (Nat.le_of_ble_eq_true rfl) ⟨(Nat.le_of_ble_eq_true rfl), (Nat.le_of_ble_eq_true rfl)⟩ ⟨(Nat.le_of_ble_eq_true rfl), (Nat.le_of_ble_eq_true rfl)⟩ dX10_game_3 (st' := [.int q1]) (σ' := σ) rfl rfl ?_
  refine g_if_eq (tgt := 40) X dX10_game_6 (by decide) (fun c2 => ?_) (fun c2 => ?_)
  · replace h := (if_pos c2).symm.trans h
    refine g_ldc X cst_RX10_155 dX10_game_40 ?_
    exact g_iret X hr hlk dX10_game_42 (by cases h; rfl)
  · replace h := (if_neg c2).symm.trans h
    refine g_iload_n X dX10_game_9 rfl 3 rfl ?_
    refine g_if_lt (tgt := 40) X dX10_game_10 (by decide) (fun c3 => ?_) (fun c3 => ?_)
    · replace h := (if_pos c3).symm.trans h
      refine g_ldc X cst_RX10_155 dX10_game_40 ?_
      exact g_iret X hr hlk dX10_game_42 (by cases h; rfl)
    · replace h := (if_neg c3).symm.trans h
      refine g_iload_n X dX10_game_13 rfl 3 rfl ?_
      refine g_iconst X dX10_game_14 (v := (3 : Int32)) ic_3 ?_
      refine g_icmp_gt (tgt := 40) X dX10_game_15 (by decide) (fun c4 => ?_) (fun c4 => ?_)
      · replace h := (if_pos c4).symm.trans h
        refine g_ldc X cst_RX10_155 dX10_game_40 ?_
        exact g_iret X hr hlk dX10_game_42 (by cases h; rfl)
      · replace h := (if_neg c4).symm.trans h
        refine g_iload X dX10_game_18 4 rfl ?_
        refine g_if_lt (tgt := 40) X dX10_game_20 (by decide) (fun c5 => ?_) (fun c5 => ?_)
        · replace h := (if_pos c5).symm.trans h
          refine g_ldc X cst_RX10_155 dX10_game_40 ?_
          exact g_iret X hr hlk dX10_game_42 (by cases h; rfl)
        · replace h := (if_neg c5).symm.trans h
          refine g_iload X dX10_game_23 4 rfl ?_
          refine g_iconst X dX10_game_25 (v := (2 : Int32)) ic_2 ?_
          refine g_icmp_gt (tgt := 40) X dX10_game_26 (by decide) (fun c6 => ?_) (fun c6 => ?_)
          · replace h := (if_pos c6).symm.trans h
            refine g_ldc X cst_RX10_155 dX10_game_40 ?_
            exact g_iret X hr hlk dX10_game_42 (by cases h; rfl)
          · replace h := (if_neg c6).symm.trans h
            refine g_iload X dX10_game_29 5 rfl ?_
            refine g_if_lt (tgt := 40) X dX10_game_31 (by decide) (fun c7 => ?_) (fun c7 => ?_)
            · replace h := (if_pos c7).symm.trans h
              refine g_ldc X cst_RX10_155 dX10_game_40 ?_
              exact g_iret X hr hlk dX10_game_42 (by cases h; rfl)
            · replace h := (if_neg c7).symm.trans h
              refine g_iload X dX10_game_34 5 rfl ?_
              refine g_iconst X dX10_game_36 (v := (1 : Int32)) ic_1 ?_
              refine g_icmp_le (tgt := 43) X dX10_game_37 (by decide) (fun c8 => ?_) (fun c8 => ?_)
              · replace h := (if_pos c8).symm.trans h
                refine g_aload_n X dX10_game_43 rfl 0 rfl ?_
                refine g_get X fl_RX10_73 dX10_game_44 kd_0 (v := .ref (be θ + 531)) rfl ?_
                refine g_aload_n X dX10_game_47 rfl 0 rfl ?_
                refine g_get X fl_RX10_52 dX10_game_48 kd_0 (v := .ref (be θ + 428)) rfl ?_
                refine g_aload_n X dX10_game_51 rfl 0 rfl ?_
                refine g_get X fl_RX10_35 dX10_game_52 kd_0 (v := .ref (be θ + 6)) rfl ?_
                refine g_iload_n X dX10_game_55 rfl 1 rfl ?_
                refine g_iload_n X dX10_game_56 rfl 2 rfl ?_
                obtain ⟨q9, hq9, h⟩ := Option.bind_eq_some_iff.mp h
                refine g_cV X (c_Bargain_sitDown kd_6 hq9) lk_RX10_392 my_X0_sitDown (a := 531) (ci := 0) kd_531 (by decide) rfl (As := [.ref (be θ + 428), .ref (be θ + 6), .int x1, .int x2]) (rest := []) rfl rfl (Nat.le_of_ble_eq_true rfl) ⟨(Nat.le_of_ble_eq_true rfl), (Nat.le_of_ble_eq_true rfl)⟩ ⟨(Nat.le_of_ble_eq_true rfl), (Nat.le_of_ble_eq_true rfl)⟩ dX10_game_57 (st' := []) (σ' := q9) rfl rfl ?_
                refine g_iload X dX10_game_60 5 rfl ?_
                refine g_if_ne (tgt := 78) X dX10_game_62 (by decide) (fun c10 => ?_) (fun c10 => ?_)
                · replace h := (if_neg c10).symm.trans h
                  refine g_aload_n X dX10_game_78 rfl 0 rfl ?_
                  refine g_get X fl_RX10_73 dX10_game_79 kd_0 (v := .ref (be θ + 531)) rfl ?_
                  refine g_iload_n X dX10_game_82 rfl 3 rfl ?_
                  refine g_iload X dX10_game_83 4 rfl ?_
                  obtain ⟨q11, hq11, h⟩ := Option.bind_eq_some_iff.mp h
                  refine g_cV X (c_Bargain_buyerHas  hq11) lk_RX10_398 my_X0_buyerHas (a := 531) (ci := 0) kd_531 (by decide) rfl (As := [.int x3, .int x4]) (rest := []) rfl rfl (Nat.le_of_ble_eq_true rfl) ⟨(Nat.le_of_ble_eq_true rfl), (Nat.le_of_ble_eq_true rfl)⟩ ⟨(Nat.le_of_ble_eq_true rfl), (Nat.le_of_ble_eq_true rfl)⟩ dX10_game_85 (st' := [.int q11]) (σ' := q9) rfl rfl ?_
                  exact g_iret X hr hlk dX10_game_88 (by cases h; rfl)
                · replace h := (if_pos c10).symm.trans h
                  refine g_aload_n X dX10_game_65 rfl 0 rfl ?_
                  refine g_get X fl_RX10_73 dX10_game_66 kd_0 (v := .ref (be θ + 531)) rfl ?_
                  refine g_iload_n X dX10_game_69 rfl 3 rfl ?_
                  refine g_iload X dX10_game_70 4 rfl ?_
                  obtain ⟨q12, hq12, h⟩ := Option.bind_eq_some_iff.mp h
                  refine g_cV X (c_Bargain_sellerHas  hq12) lk_RX10_395 my_X0_sellerHas (a := 531) (ci := 0) kd_531 (by decide) rfl (As := [.int x3, .int x4]) (rest := []) rfl rfl (Nat.le_of_ble_eq_true rfl) ⟨(Nat.le_of_ble_eq_true rfl), (Nat.le_of_ble_eq_true rfl)⟩ ⟨(Nat.le_of_ble_eq_true rfl), (Nat.le_of_ble_eq_true rfl)⟩ dX10_game_72 (st' := [.int q12]) (σ' := q9) rfl rfl ?_
                  refine g_goto (tgt := 88) X dX10_game_75 (by decide) ?_
                  exact g_iret X hr hlk dX10_game_88 (by cases h; rfl)
              · replace h := (if_neg c8).symm.trans h
                refine g_ldc X cst_RX10_155 dX10_game_40 ?_
                exact g_iret X hr hlk dX10_game_42 (by cases h; rfl)
set_option maxHeartbeats 4000000 in
set_option maxRecDepth 20000 in
theorem c_Game_game {θ : Th} {l : Launch} {σ : Mem} {x1 : Int32} {x2 : Int32} {x3 : Int32} {x4 : Int32} {x5 : Int32} {r : Int32 × Mem}  (h : f_Game_game σ x1 x2 x3 x4 x5 = some r) : Cn θ l yX10_game cX10_game 6 (some .int) 5 0 0 [.ref (be θ + 0), .int x1, .int x2, .int x3, .int x4, .int x5] σ (some (.int r.1), r.2) :=
  Cn.of (by decide) (Nat.le_of_ble_eq_true rfl) (fun p e s m below meth c X hr hlk => g_Game_game X hr hlk  h)
theorem dX10_rests_0 : decode cX10_rests 0 = .ok (.aload_n 0, 1) := by decide +kernel
theorem dX10_rests_1 : decode cX10_rests 1 = .ok (.iload_n 1, 1) := by decide +kernel
theorem dX10_rests_2 : decode cX10_rests 2 = .ok (.iload_n 2, 1) := by decide +kernel
theorem dX10_rests_3 : decode cX10_rests 3 = .ok (.invokevirtual 388, 3) := by decide +kernel
theorem dX10_rests_6 : decode cX10_rests 6 = .ok (.ifCond .eq 8, 3) := by decide +kernel
theorem dX10_rests_9 : decode cX10_rests 9 = .ok (.iload_n 3, 1) := by decide +kernel
theorem dX10_rests_10 : decode cX10_rests 10 = .ok (.iconst (-1), 1) := by decide +kernel
theorem dX10_rests_11 : decode cX10_rests 11 = .ok (.if_icmp .ge 5, 3) := by decide +kernel
theorem dX10_rests_14 : decode cX10_rests 14 = .ok (.iconst (-1), 1) := by decide +kernel
theorem dX10_rests_15 : decode cX10_rests 15 = .ok (.ireturn, 1) := by decide +kernel
theorem dX10_rests_16 : decode cX10_rests 16 = .ok (.aload_n 0, 1) := by decide +kernel
theorem dX10_rests_17 : decode cX10_rests 17 = .ok (.getfield 73, 3) := by decide +kernel
theorem dX10_rests_20 : decode cX10_rests 20 = .ok (.aload_n 0, 1) := by decide +kernel
theorem dX10_rests_21 : decode cX10_rests 21 = .ok (.getfield 52, 3) := by decide +kernel
theorem dX10_rests_24 : decode cX10_rests 24 = .ok (.aload_n 0, 1) := by decide +kernel
theorem dX10_rests_25 : decode cX10_rests 25 = .ok (.getfield 35, 3) := by decide +kernel
theorem dX10_rests_28 : decode cX10_rests 28 = .ok (.iload_n 1, 1) := by decide +kernel
theorem dX10_rests_29 : decode cX10_rests 29 = .ok (.iload_n 2, 1) := by decide +kernel
theorem dX10_rests_30 : decode cX10_rests 30 = .ok (.invokevirtual 392, 3) := by decide +kernel
theorem dX10_rests_33 : decode cX10_rests 33 = .ok (.aload_n 0, 1) := by decide +kernel
theorem dX10_rests_34 : decode cX10_rests 34 = .ok (.getfield 73, 3) := by decide +kernel
theorem dX10_rests_37 : decode cX10_rests 37 = .ok (.iload_n 3, 1) := by decide +kernel
theorem dX10_rests_38 : decode cX10_rests 38 = .ok (.invokevirtual 401, 3) := by decide +kernel
theorem dX10_rests_41 : decode cX10_rests 41 = .ok (.ireturn, 1) := by decide +kernel
def f_Game_rests (σ : Mem) (x1 : Int32) (x2 : Int32) (x3 : Int32) : Option (Int32 × Mem) :=
  (f_Game_canDeal σ x1 x2).bind fun q1 =>
  if q1 = (0 : Int32) then
    some ((-1 : Int32), σ)
  else
    if (-1 : Int32) ≤ x3 then
      (f_Bargain_sitDown σ 6 x1 x2).bind fun q4 =>
      (f_Bargain_nthRest q4 x3).bind fun q5 =>
      some (q5, q4)
    else
      some ((-1 : Int32), σ)
set_option maxHeartbeats 4000000 in
set_option maxRecDepth 20000 in
theorem g_Game_rests (X : Cx θ p s m args c cX10_rests 4 RX10) (hr : meth.sig.returnType = some .int) (hlk : meth.locks = false)  {σ : Mem} {x1 : Int32} {x2 : Int32} {x3 : Int32} {r : Int32 × Mem}  (h : f_Game_rests σ x1 x2 x3 = some r) : GB θ p l e 5 s m args below meth c 4 (some (.int r.1), r.2) 0 [(0, .ref (be θ + 0)), (1, .int x1), (2, .int x2), (3, .int x3)] [] σ := by
  unfold f_Game_rests at h
  refine g_aload_n X dX10_rests_0 rfl 0 rfl ?_
  refine g_iload_n X dX10_rests_1 rfl 1 rfl ?_
  refine g_iload_n X dX10_rests_2 rfl 2 rfl ?_
  obtain ⟨q1, hq1, h⟩ := Option.bind_eq_some_iff.mp h
  refine g_cV X (c_Game_canDeal  hq1) lk_RX10_388 my_X10_canDeal (a := 0) (ci := 10) kd_0 (by decide) rfl (As := [.int x1, .int x2]) (rest := []) rfl rfl (Nat.le_of_ble_eq_true rfl) ⟨(Nat.le_of_ble_eq_true rfl), (Nat.le_of_ble_eq_true rfl)⟩ ⟨(Nat.le_of_ble_eq_true rfl), (Nat.le_of_ble_eq_true rfl)⟩ dX10_rests_3 (st' := [.int q1]) (σ' := σ) rfl rfl ?_
  refine g_if_eq (tgt := 14) X dX10_rests_6 (by decide) (fun c2 => ?_) (fun c2 => ?_)
  · replace h := (if_pos c2).symm.trans h
    refine g_iconst X dX10_rests_14 (v := (-1 : Int32)) ic_m1 ?_
    exact g_iret X hr hlk dX10_rests_15 (by cases h; rfl)
  · replace h := (if_neg c2).symm.trans h
    refine g_iload_n X dX10_rests_9 rfl 3 rfl ?_
    refine g_iconst X dX10_rests_10 (v := (-1 : Int32)) ic_m1 ?_
    refine g_icmp_ge (tgt := 16) X dX10_rests_11 (by decide) (fun c3 => ?_) (fun c3 => ?_)
    · replace h := (if_pos c3).symm.trans h
      refine g_aload_n X dX10_rests_16 rfl 0 rfl ?_
      refine g_get X fl_RX10_73 dX10_rests_17 kd_0 (v := .ref (be θ + 531)) rfl ?_
      refine g_aload_n X dX10_rests_20 rfl 0 rfl ?_
      refine g_get X fl_RX10_52 dX10_rests_21 kd_0 (v := .ref (be θ + 428)) rfl ?_
      refine g_aload_n X dX10_rests_24 rfl 0 rfl ?_
      refine g_get X fl_RX10_35 dX10_rests_25 kd_0 (v := .ref (be θ + 6)) rfl ?_
      refine g_iload_n X dX10_rests_28 rfl 1 rfl ?_
      refine g_iload_n X dX10_rests_29 rfl 2 rfl ?_
      obtain ⟨q4, hq4, h⟩ := Option.bind_eq_some_iff.mp h
      refine g_cV X (c_Bargain_sitDown kd_6 hq4) lk_RX10_392 my_X0_sitDown (a := 531) (ci := 0) kd_531 (by decide) rfl (As := [.ref (be θ + 428), .ref (be θ + 6), .int x1, .int x2]) (rest := []) rfl rfl (Nat.le_of_ble_eq_true rfl) ⟨(Nat.le_of_ble_eq_true rfl), (Nat.le_of_ble_eq_true rfl)⟩ ⟨(Nat.le_of_ble_eq_true rfl), (Nat.le_of_ble_eq_true rfl)⟩ dX10_rests_30 (st' := []) (σ' := q4) rfl rfl ?_
      refine g_aload_n X dX10_rests_33 rfl 0 rfl ?_
      refine g_get X fl_RX10_73 dX10_rests_34 kd_0 (v := .ref (be θ + 531)) rfl ?_
      refine g_iload_n X dX10_rests_37 rfl 3 rfl ?_
      obtain ⟨q5, hq5, h⟩ := Option.bind_eq_some_iff.mp h
      refine g_cV X (c_Bargain_nthRest  hq5) lk_RX10_401 my_X0_nthRest (a := 531) (ci := 0) kd_531 (by decide) rfl (As := [.int x3]) (rest := []) rfl rfl (Nat.le_of_ble_eq_true rfl) ⟨(Nat.le_of_ble_eq_true rfl), (Nat.le_of_ble_eq_true rfl)⟩ ⟨(Nat.le_of_ble_eq_true rfl), (Nat.le_of_ble_eq_true rfl)⟩ dX10_rests_38 (st' := [.int q5]) (σ' := q4) rfl rfl ?_
      exact g_iret X hr hlk dX10_rests_41 (by cases h; rfl)
    · replace h := (if_neg c3).symm.trans h
      refine g_iconst X dX10_rests_14 (v := (-1 : Int32)) ic_m1 ?_
      exact g_iret X hr hlk dX10_rests_15 (by cases h; rfl)
set_option maxHeartbeats 4000000 in
set_option maxRecDepth 20000 in
theorem c_Game_rests {θ : Th} {l : Launch} {σ : Mem} {x1 : Int32} {x2 : Int32} {x3 : Int32} {r : Int32 × Mem}  (h : f_Game_rests σ x1 x2 x3 = some r) : Cn θ l yX10_rests cX10_rests 4 (some .int) 5 0 0 [.ref (be θ + 0), .int x1, .int x2, .int x3] σ (some (.int r.1), r.2) :=
  Cn.of (by decide) (Nat.le_of_ble_eq_true rfl) (fun p e s m below meth c X hr hlk => g_Game_rests X hr hlk  h)
theorem dX10_odds_0 : decode cX10_odds 0 = .ok (.aload_n 0, 1) := by decide +kernel
theorem dX10_odds_1 : decode cX10_odds 1 = .ok (.getfield 52, 3) := by decide +kernel
theorem dX10_odds_4 : decode cX10_odds 4 = .ok (.invokevirtual 265, 3) := by decide +kernel
theorem dX10_odds_7 : decode cX10_odds 7 = .ok (.ifCond .eq 34, 3) := by decide +kernel
theorem dX10_odds_10 : decode cX10_odds 10 = .ok (.iload_n 1, 1) := by decide +kernel
theorem dX10_odds_11 : decode cX10_odds 11 = .ok (.ifCond .lt 30, 3) := by decide +kernel
theorem dX10_odds_14 : decode cX10_odds 14 = .ok (.iload_n 1, 1) := by decide +kernel
theorem dX10_odds_15 : decode cX10_odds 15 = .ok (.bipush 6, 2) := by decide +kernel
theorem dX10_odds_17 : decode cX10_odds 17 = .ok (.if_icmp .gt 24, 3) := by decide +kernel
theorem dX10_odds_20 : decode cX10_odds 20 = .ok (.iload_n 2, 1) := by decide +kernel
theorem dX10_odds_21 : decode cX10_odds 21 = .ok (.ifCond .lt 20, 3) := by decide +kernel
theorem dX10_odds_24 : decode cX10_odds 24 = .ok (.iload_n 2, 1) := by decide +kernel
theorem dX10_odds_25 : decode cX10_odds 25 = .ok (.sipush 999, 3) := by decide +kernel
theorem dX10_odds_28 : decode cX10_odds 28 = .ok (.if_icmp .gt 13, 3) := by decide +kernel
theorem dX10_odds_31 : decode cX10_odds 31 = .ok (.iload_n 3, 1) := by decide +kernel
theorem dX10_odds_32 : decode cX10_odds 32 = .ok (.ifCond .lt 9, 3) := by decide +kernel
theorem dX10_odds_35 : decode cX10_odds 35 = .ok (.iload_n 3, 1) := by decide +kernel
theorem dX10_odds_36 : decode cX10_odds 36 = .ok (.bipush 100, 2) := by decide +kernel
theorem dX10_odds_38 : decode cX10_odds 38 = .ok (.if_icmp .le 5, 3) := by decide +kernel
theorem dX10_odds_41 : decode cX10_odds 41 = .ok (.iconst (-1), 1) := by decide +kernel
theorem dX10_odds_42 : decode cX10_odds 42 = .ok (.ireturn, 1) := by decide +kernel
theorem dX10_odds_43 : decode cX10_odds 43 = .ok (.aload_n 0, 1) := by decide +kernel
theorem dX10_odds_44 : decode cX10_odds 44 = .ok (.getfield 59, 3) := by decide +kernel
theorem dX10_odds_47 : decode cX10_odds 47 = .ok (.aload_n 0, 1) := by decide +kernel
theorem dX10_odds_48 : decode cX10_odds 48 = .ok (.getfield 52, 3) := by decide +kernel
theorem dX10_odds_51 : decode cX10_odds 51 = .ok (.aload_n 0, 1) := by decide +kernel
theorem dX10_odds_52 : decode cX10_odds 52 = .ok (.getfield 35, 3) := by decide +kernel
theorem dX10_odds_55 : decode cX10_odds 55 = .ok (.iload_n 1, 1) := by decide +kernel
theorem dX10_odds_56 : decode cX10_odds 56 = .ok (.ldc_w 404, 3) := by decide +kernel
theorem dX10_odds_59 : decode cX10_odds 59 = .ok (.iload_n 2, 1) := by decide +kernel
theorem dX10_odds_60 : decode cX10_odds 60 = .ok (.iload_n 3, 1) := by decide +kernel
theorem dX10_odds_61 : decode cX10_odds 61 = .ok (.invokevirtual 405, 3) := by decide +kernel
theorem dX10_odds_64 : decode cX10_odds 64 = .ok (.ireturn, 1) := by decide +kernel
def f_Game_odds (σ : Mem) (x1 : Int32) (x2 : Int32) (x3 : Int32) : Option (Int32 × Mem) :=
  (f_Trade_hasCity σ).bind fun q1 =>
  if q1 = (0 : Int32) then
    some ((-1 : Int32), σ)
  else
    if x1 < (0 : Int32) then
      some ((-1 : Int32), σ)
    else
      if (6 : Int32) < x1 then
        some ((-1 : Int32), σ)
      else
        if x2 < (0 : Int32) then
          some ((-1 : Int32), σ)
        else
          if (999 : Int32) < x2 then
            some ((-1 : Int32), σ)
          else
            if x3 < (0 : Int32) then
              some ((-1 : Int32), σ)
            else
              if x3 ≤ (100 : Int32) then
                (f_PR 8 0 σ 6 x1 (1000000000 : Int32) x2 x3).bind fun q9 =>
                some (q9.1, q9.2)
              else
                some ((-1 : Int32), σ)
set_option maxHeartbeats 4000000 in
set_option maxRecDepth 20000 in
theorem g_Game_odds (X : Cx θ p s m args c cX10_odds 4 RX10) (hr : meth.sig.returnType = some .int) (hlk : meth.locks = false)  {σ : Mem} {x1 : Int32} {x2 : Int32} {x3 : Int32} {r : Int32 × Mem}  (h : f_Game_odds σ x1 x2 x3 = some r) : GB θ p l e 13 s m args below meth c 4 (some (.int r.1), r.2) 0 [(0, .ref (be θ + 0)), (1, .int x1), (2, .int x2), (3, .int x3)] [] σ := by
  unfold f_Game_odds at h
  refine g_aload_n X dX10_odds_0 rfl 0 rfl ?_
  refine g_get X fl_RX10_52 dX10_odds_1 kd_0 (v := .ref (be θ + 428)) rfl ?_
  obtain ⟨q1, hq1, h⟩ := Option.bind_eq_some_iff.mp h
  refine g_cV X (c_Trade_hasCity  hq1) lk_RX10_265 my_X9_hasCity (a := 428) (ci := 9) kd_428 (by decide) rfl (As := []) (rest := []) rfl rfl (Nat.le_of_ble_eq_true rfl) ⟨(Nat.le_of_ble_eq_true rfl), (Nat.le_of_ble_eq_true rfl)⟩ ⟨(Nat.le_of_ble_eq_true rfl), (Nat.le_of_ble_eq_true rfl)⟩ dX10_odds_4 (st' := [.int q1]) (σ' := σ) rfl rfl ?_
  refine g_if_eq (tgt := 41) X dX10_odds_7 (by decide) (fun c2 => ?_) (fun c2 => ?_)
  · replace h := (if_pos c2).symm.trans h
    refine g_iconst X dX10_odds_41 (v := (-1 : Int32)) ic_m1 ?_
    exact g_iret X hr hlk dX10_odds_42 (by cases h; rfl)
  · replace h := (if_neg c2).symm.trans h
    refine g_iload_n X dX10_odds_10 rfl 1 rfl ?_
    refine g_if_lt (tgt := 41) X dX10_odds_11 (by decide) (fun c3 => ?_) (fun c3 => ?_)
    · replace h := (if_pos c3).symm.trans h
      refine g_iconst X dX10_odds_41 (v := (-1 : Int32)) ic_m1 ?_
      exact g_iret X hr hlk dX10_odds_42 (by cases h; rfl)
    · replace h := (if_neg c3).symm.trans h
      refine g_iload_n X dX10_odds_14 rfl 1 rfl ?_
      refine g_bipush X dX10_odds_15 (v := (6 : Int32)) bp_6 ?_
      refine g_icmp_gt (tgt := 41) X dX10_odds_17 (by decide) (fun c4 => ?_) (fun c4 => ?_)
      · replace h := (if_pos c4).symm.trans h
        refine g_iconst X dX10_odds_41 (v := (-1 : Int32)) ic_m1 ?_
        exact g_iret X hr hlk dX10_odds_42 (by cases h; rfl)
      · replace h := (if_neg c4).symm.trans h
        refine g_iload_n X dX10_odds_20 rfl 2 rfl ?_
        refine g_if_lt (tgt := 41) X dX10_odds_21 (by decide) (fun c5 => ?_) (fun c5 => ?_)
        · replace h := (if_pos c5).symm.trans h
          refine g_iconst X dX10_odds_41 (v := (-1 : Int32)) ic_m1 ?_
          exact g_iret X hr hlk dX10_odds_42 (by cases h; rfl)
        · replace h := (if_neg c5).symm.trans h
          refine g_iload_n X dX10_odds_24 rfl 2 rfl ?_
          refine g_sipush X dX10_odds_25 (v := (999 : Int32)) sp_999 ?_
          refine g_icmp_gt (tgt := 41) X dX10_odds_28 (by decide) (fun c6 => ?_) (fun c6 => ?_)
          · replace h := (if_pos c6).symm.trans h
            refine g_iconst X dX10_odds_41 (v := (-1 : Int32)) ic_m1 ?_
            exact g_iret X hr hlk dX10_odds_42 (by cases h; rfl)
          · replace h := (if_neg c6).symm.trans h
            refine g_iload_n X dX10_odds_31 rfl 3 rfl ?_
            refine g_if_lt (tgt := 41) X dX10_odds_32 (by decide) (fun c7 => ?_) (fun c7 => ?_)
            · replace h := (if_pos c7).symm.trans h
              refine g_iconst X dX10_odds_41 (v := (-1 : Int32)) ic_m1 ?_
              exact g_iret X hr hlk dX10_odds_42 (by cases h; rfl)
            · replace h := (if_neg c7).symm.trans h
              refine g_iload_n X dX10_odds_35 rfl 3 rfl ?_
              refine g_bipush X dX10_odds_36 (v := (100 : Int32)) bp_100 ?_
              refine g_icmp_le (tgt := 43) X dX10_odds_38 (by decide) (fun c8 => ?_) (fun c8 => ?_)
              · replace h := (if_pos c8).symm.trans h
                refine g_aload_n X dX10_odds_43 rfl 0 rfl ?_
                refine g_get X fl_RX10_59 dX10_odds_44 kd_0 (v := .ref (be θ + 434)) rfl ?_
                refine g_aload_n X dX10_odds_47 rfl 0 rfl ?_
                refine g_get X fl_RX10_52 dX10_odds_48 kd_0 (v := .ref (be θ + 428)) rfl ?_
                refine g_aload_n X dX10_odds_51 rfl 0 rfl ?_
                refine g_get X fl_RX10_35 dX10_odds_52 kd_0 (v := .ref (be θ + 6)) rfl ?_
                refine g_iload_n X dX10_odds_55 rfl 1 rfl ?_
                refine g_ldcw X cst_RX10_404 dX10_odds_56 ?_
                refine g_iload_n X dX10_odds_59 rfl 2 rfl ?_
                refine g_iload_n X dX10_odds_60 rfl 3 rfl ?_
                obtain ⟨q9, hq9, h⟩ := Option.bind_eq_some_iff.mp h
                refine g_cV X (c_PR_0 kd_6 hq9) lk_RX10_405 my_X6_partsReaching (a := 434) (ci := 6) kd_434 (by decide) rfl (As := [.ref (be θ + 428), .ref (be θ + 6), .int x1, .int (1000000000 : Int32), .int x2, .int x3]) (rest := []) rfl rfl (Nat.le_of_ble_eq_true rfl) ⟨(Nat.le_of_ble_eq_true rfl), (Nat.le_of_ble_eq_true rfl)⟩ ⟨(Nat.le_of_ble_eq_true rfl), (Nat.le_of_ble_eq_true rfl)⟩ dX10_odds_61 (st' := [.int q9.1]) (σ' := q9.2) rfl rfl ?_
                exact g_iret X hr hlk dX10_odds_64 (by cases h; rfl)
              · replace h := (if_neg c8).symm.trans h
                refine g_iconst X dX10_odds_41 (v := (-1 : Int32)) ic_m1 ?_
                exact g_iret X hr hlk dX10_odds_42 (by cases h; rfl)
set_option maxHeartbeats 4000000 in
set_option maxRecDepth 20000 in
theorem c_Game_odds {θ : Th} {l : Launch} {σ : Mem} {x1 : Int32} {x2 : Int32} {x3 : Int32} {r : Int32 × Mem}  (h : f_Game_odds σ x1 x2 x3 = some r) : Cn θ l yX10_odds cX10_odds 4 (some .int) 13 0 0 [.ref (be θ + 0), .int x1, .int x2, .int x3] σ (some (.int r.1), r.2) :=
  Cn.of (by decide) (Nat.le_of_ble_eq_true rfl) (fun p e s m below meth c X hr hlk => g_Game_odds X hr hlk  h)
theorem dX10_shares_0 : decode cX10_shares 0 = .ok (.aload_n 0, 1) := by decide +kernel
theorem dX10_shares_1 : decode cX10_shares 1 = .ok (.getfield 52, 3) := by decide +kernel
theorem dX10_shares_4 : decode cX10_shares 4 = .ok (.iload_n 1, 1) := by decide +kernel
theorem dX10_shares_5 : decode cX10_shares 5 = .ok (.invokevirtual 174, 3) := by decide +kernel
theorem dX10_shares_8 : decode cX10_shares 8 = .ok (.ifCond .eq 14, 3) := by decide +kernel
theorem dX10_shares_11 : decode cX10_shares 11 = .ok (.iload_n 2, 1) := by decide +kernel
theorem dX10_shares_12 : decode cX10_shares 12 = .ok (.ifCond .lt 10, 3) := by decide +kernel
theorem dX10_shares_15 : decode cX10_shares 15 = .ok (.iload_n 2, 1) := by decide +kernel
theorem dX10_shares_16 : decode cX10_shares 16 = .ok (.sipush 999, 3) := by decide +kernel
theorem dX10_shares_19 : decode cX10_shares 19 = .ok (.if_icmp .le 5, 3) := by decide +kernel
theorem dX10_shares_22 : decode cX10_shares 22 = .ok (.iconst (-1), 1) := by decide +kernel
theorem dX10_shares_23 : decode cX10_shares 23 = .ok (.ireturn, 1) := by decide +kernel
theorem dX10_shares_24 : decode cX10_shares 24 = .ok (.aload_n 0, 1) := by decide +kernel
theorem dX10_shares_25 : decode cX10_shares 25 = .ok (.getfield 35, 3) := by decide +kernel
theorem dX10_shares_28 : decode cX10_shares 28 = .ok (.invokevirtual 327, 3) := by decide +kernel
theorem dX10_shares_31 : decode cX10_shares 31 = .ok (.istore_n 3, 1) := by decide +kernel
theorem dX10_shares_32 : decode cX10_shares 32 = .ok (.iload_n 3, 1) := by decide +kernel
theorem dX10_shares_33 : decode cX10_shares 33 = .ok (.ifCond .ne 7, 3) := by decide +kernel
theorem dX10_shares_36 : decode cX10_shares 36 = .ok (.iconst 0, 1) := by decide +kernel
theorem dX10_shares_37 : decode cX10_shares 37 = .ok (.goto 15, 3) := by decide +kernel
theorem dX10_shares_40 : decode cX10_shares 40 = .ok (.iload_n 2, 1) := by decide +kernel
theorem dX10_shares_41 : decode cX10_shares 41 = .ok (.aload_n 0, 1) := by decide +kernel
theorem dX10_shares_42 : decode cX10_shares 42 = .ok (.getfield 35, 3) := by decide +kernel
theorem dX10_shares_45 : decode cX10_shares 45 = .ok (.iload_n 1, 1) := by decide +kernel
theorem dX10_shares_46 : decode cX10_shares 46 = .ok (.invokevirtual 195, 3) := by decide +kernel
theorem dX10_shares_49 : decode cX10_shares 49 = .ok (.imul, 1) := by decide +kernel
theorem dX10_shares_50 : decode cX10_shares 50 = .ok (.iload_n 3, 1) := by decide +kernel
theorem dX10_shares_51 : decode cX10_shares 51 = .ok (.idiv, 1) := by decide +kernel
theorem dX10_shares_52 : decode cX10_shares 52 = .ok (.ireturn, 1) := by decide +kernel
def f_Game_shares (σ : Mem) (x1 : Int32) (x2 : Int32) : Option (Int32) :=
  (f_Trade_isBuyer σ x1).bind fun q1 =>
  if q1 = (0 : Int32) then
    some (-1 : Int32)
  else
    if x2 < (0 : Int32) then
      some (-1 : Int32)
    else
      if x2 ≤ (999 : Int32) then
        (f_State_dueOfAll σ 6).bind fun q5 =>
        if q5 = (0 : Int32) then
          some (0 : Int32)
        else
          (f_State_dueOf σ 6 x1).bind fun q7 =>
          if q5 = 0 then none else
          some ((x2 * q7) / q5)
      else
        some (-1 : Int32)
set_option maxHeartbeats 4000000 in
set_option maxRecDepth 20000 in
theorem g_Game_shares (X : Cx θ p s m args c cX10_shares 4 RX10) (hr : meth.sig.returnType = some .int) (hlk : meth.locks = false)  {σ : Mem} {x1 : Int32} {x2 : Int32} {r : Int32}  (h : f_Game_shares σ x1 x2 = some r) : GB θ p l e 1 s m args below meth c 4 (some (.int r), σ) 0 [(0, .ref (be θ + 0)), (1, .int x1), (2, .int x2)] [] σ := by
  unfold f_Game_shares at h
  refine g_aload_n X dX10_shares_0 rfl 0 rfl ?_
  refine g_get X fl_RX10_52 dX10_shares_1 kd_0 (v := .ref (be θ + 428)) rfl ?_
  refine g_iload_n X dX10_shares_4 rfl 1 rfl ?_
  obtain ⟨q1, hq1, h⟩ := Option.bind_eq_some_iff.mp h
  refine g_cV X (c_Trade_isBuyer  hq1) lk_RX10_174 my_X9_isBuyer (a := 428) (ci := 9) kd_428 (by decide) rfl (As := [.int x1]) (rest := []) rfl rfl (Nat.le_of_ble_eq_true rfl) ⟨(Nat.le_of_ble_eq_true rfl), (Nat.le_of_ble_eq_true rfl)⟩ ⟨(Nat.le_of_ble_eq_true rfl), (Nat.le_of_ble_eq_true rfl)⟩ dX10_shares_5 (st' := [.int q1]) (σ' := σ) rfl rfl ?_
  refine g_if_eq (tgt := 22) X dX10_shares_8 (by decide) (fun c2 => ?_) (fun c2 => ?_)
  · replace h := (if_pos c2).symm.trans h
    refine g_iconst X dX10_shares_22 (v := (-1 : Int32)) ic_m1 ?_
    exact g_iret X hr hlk dX10_shares_23 (by cases h; rfl)
  · replace h := (if_neg c2).symm.trans h
    refine g_iload_n X dX10_shares_11 rfl 2 rfl ?_
    refine g_if_lt (tgt := 22) X dX10_shares_12 (by decide) (fun c3 => ?_) (fun c3 => ?_)
    · replace h := (if_pos c3).symm.trans h
      refine g_iconst X dX10_shares_22 (v := (-1 : Int32)) ic_m1 ?_
      exact g_iret X hr hlk dX10_shares_23 (by cases h; rfl)
    · replace h := (if_neg c3).symm.trans h
      refine g_iload_n X dX10_shares_15 rfl 2 rfl ?_
      refine g_sipush X dX10_shares_16 (v := (999 : Int32)) sp_999 ?_
      refine g_icmp_le (tgt := 24) X dX10_shares_19 (by decide) (fun c4 => ?_) (fun c4 => ?_)
      · replace h := (if_pos c4).symm.trans h
        refine g_aload_n X dX10_shares_24 rfl 0 rfl ?_
        refine g_get X fl_RX10_35 dX10_shares_25 kd_0 (v := .ref (be θ + 6)) rfl ?_
        obtain ⟨q5, hq5, h⟩ := Option.bind_eq_some_iff.mp h
        refine g_cV X (c_State_dueOfAll kd_6 hq5) lk_RX10_327 my_X7_dueOfAll (a := 6) (ci := 7) kd_6 (by decide) rfl (As := []) (rest := []) rfl rfl (Nat.le_of_ble_eq_true rfl) ⟨(Nat.le_of_ble_eq_true rfl), (Nat.le_of_ble_eq_true rfl)⟩ ⟨(Nat.le_of_ble_eq_true rfl), (Nat.le_of_ble_eq_true rfl)⟩ dX10_shares_28 (st' := [.int q5]) (σ' := σ) rfl rfl ?_
        refine g_istore_n X dX10_shares_31 rfl (by decide) (lv' := [(3, .int q5), (0, .ref (be θ + 0)), (1, .int x1), (2, .int x2)]) rfl ?_
        refine g_iload_n X dX10_shares_32 rfl 0 rfl ?_
        refine g_if_ne (tgt := 40) X dX10_shares_33 (by decide) (fun c6 => ?_) (fun c6 => ?_)
        · replace h := (if_neg c6).symm.trans h
          refine g_iload_n X dX10_shares_40 rfl 3 rfl ?_
          refine g_aload_n X dX10_shares_41 rfl 1 rfl ?_
          refine g_get X fl_RX10_35 dX10_shares_42 kd_0 (v := .ref (be θ + 6)) rfl ?_
          refine g_iload_n X dX10_shares_45 rfl 2 rfl ?_
          obtain ⟨q7, hq7, h⟩ := Option.bind_eq_some_iff.mp h
          refine g_cV X (c_State_dueOf kd_6 hq7) lk_RX10_195 my_X7_dueOf (a := 6) (ci := 7) kd_6 (by decide) rfl (As := [.int x1]) (rest := [.int x2]) rfl rfl (Nat.le_of_ble_eq_true rfl) ⟨(Nat.le_of_ble_eq_true rfl), (Nat.le_of_ble_eq_true rfl)⟩ ⟨(Nat.le_of_ble_eq_true rfl), (Nat.le_of_ble_eq_true rfl)⟩ dX10_shares_46 (st' := [.int q7, .int x2]) (σ' := σ) rfl rfl ?_
          refine g_imul X dX10_shares_49 ?_
          refine g_iload_n X dX10_shares_50 rfl 0 rfl ?_
          obtain ⟨g8, h⟩ := ite_none h
          refine g_idiv X dX10_shares_51 g8 ?_
          exact g_iret X hr hlk dX10_shares_52 (by cases h; rfl)
        · replace h := (if_pos c6).symm.trans h
          refine g_iconst X dX10_shares_36 (v := (0 : Int32)) ic_0 ?_
          refine g_goto (tgt := 52) X dX10_shares_37 (by decide) ?_
          exact g_iret X hr hlk dX10_shares_52 (by cases h; rfl)
      · replace h := (if_neg c4).symm.trans h
        refine g_iconst X dX10_shares_22 (v := (-1 : Int32)) ic_m1 ?_
        exact g_iret X hr hlk dX10_shares_23 (by cases h; rfl)
set_option maxHeartbeats 4000000 in
set_option maxRecDepth 20000 in
theorem c_Game_shares {θ : Th} {l : Launch} {σ : Mem} {x1 : Int32} {x2 : Int32} {r : Int32}  (h : f_Game_shares σ x1 x2 = some r) : Cn θ l yX10_shares cX10_shares 4 (some .int) 1 0 0 [.ref (be θ + 0), .int x1, .int x2] σ (some (.int r), σ) :=
  Cn.of (by decide) (Nat.le_of_ble_eq_true rfl) (fun p e s m below meth c X hr hlk => g_Game_shares X hr hlk  h)
theorem dX10_likingOfAll_0 : decode cX10_likingOfAll 0 = .ok (.iconst 0, 1) := by decide +kernel
theorem dX10_likingOfAll_1 : decode cX10_likingOfAll 1 = .ok (.istore_n 2, 1) := by decide +kernel
theorem dX10_likingOfAll_2 : decode cX10_likingOfAll 2 = .ok (.iconst 0, 1) := by decide +kernel
theorem dX10_likingOfAll_3 : decode cX10_likingOfAll 3 = .ok (.istore_n 3, 1) := by decide +kernel
theorem dX10_likingOfAll_4 : decode cX10_likingOfAll 4 = .ok (.iload_n 3, 1) := by decide +kernel
theorem dX10_likingOfAll_5 : decode cX10_likingOfAll 5 = .ok (.aload_n 0, 1) := by decide +kernel
theorem dX10_likingOfAll_6 : decode cX10_likingOfAll 6 = .ok (.getfield 52, 3) := by decide +kernel
theorem dX10_likingOfAll_9 : decode cX10_likingOfAll 9 = .ok (.getfield 137, 3) := by decide +kernel
theorem dX10_likingOfAll_12 : decode cX10_likingOfAll 12 = .ok (.getfield 287, 3) := by decide +kernel
theorem dX10_likingOfAll_15 : decode cX10_likingOfAll 15 = .ok (.if_icmp .ge 25, 3) := by decide +kernel
theorem dX10_likingOfAll_18 : decode cX10_likingOfAll 18 = .ok (.iload_n 2, 1) := by decide +kernel
theorem dX10_likingOfAll_19 : decode cX10_likingOfAll 19 = .ok (.aload_n 0, 1) := by decide +kernel
theorem dX10_likingOfAll_20 : decode cX10_likingOfAll 20 = .ok (.getfield 52, 3) := by decide +kernel
theorem dX10_likingOfAll_23 : decode cX10_likingOfAll 23 = .ok (.aload_n 0, 1) := by decide +kernel
theorem dX10_likingOfAll_24 : decode cX10_likingOfAll 24 = .ok (.getfield 35, 3) := by decide +kernel
theorem dX10_likingOfAll_27 : decode cX10_likingOfAll 27 = .ok (.iload_n 3, 1) := by decide +kernel
theorem dX10_likingOfAll_28 : decode cX10_likingOfAll 28 = .ok (.iload_n 1, 1) := by decide +kernel
theorem dX10_likingOfAll_29 : decode cX10_likingOfAll 29 = .ok (.invokevirtual 201, 3) := by decide +kernel
theorem dX10_likingOfAll_32 : decode cX10_likingOfAll 32 = .ok (.iadd, 1) := by decide +kernel
theorem dX10_likingOfAll_33 : decode cX10_likingOfAll 33 = .ok (.istore_n 2, 1) := by decide +kernel
theorem dX10_likingOfAll_34 : decode cX10_likingOfAll 34 = .ok (.iinc 3 1, 3) := by decide +kernel
theorem dX10_likingOfAll_37 : decode cX10_likingOfAll 37 = .ok (.goto (-33), 3) := by decide +kernel
theorem dX10_likingOfAll_40 : decode cX10_likingOfAll 40 = .ok (.iload_n 2, 1) := by decide +kernel
theorem dX10_likingOfAll_41 : decode cX10_likingOfAll 41 = .ok (.ireturn, 1) := by decide +kernel
def f_Game_likingOfAll_L4 (x1 : Int32) (a : Mem × Int32 × Int32) : Option ((Mem × Int32 × Int32) ⊕ (Int32 × Mem)) :=
  @Prod.casesOn (Mem) (Int32 × Int32) (fun _ => Option ((Mem × Int32 × Int32) ⊕ (Int32 × Mem))) a fun τ b0 =>
  @Prod.casesOn (Int32) (Int32) (fun _ => Option ((Mem × Int32 × Int32) ⊕ (Int32 × Mem))) b0 fun z2 z3 =>
  if kd (mR τ 428 1) = 2 then
    if (mI τ (mR τ 428 1) 4) ≤ z3 then
      some (.inr (z2, τ))
    else
      (f_Trade_liked τ 6 z3 x1).bind fun q3 =>
      some (.inl (q3.2, (z2 + q3.1), (z3 + (1 : Int32))))
  else none
def f_Game_likingOfAll (σ : Mem) (x1 : Int32) : Option (Int32 × Mem) :=
  loopF (f_Game_likingOfAll_L4 x1) FU (σ, (0 : Int32), (0 : Int32))
set_option maxHeartbeats 4000000 in
set_option maxRecDepth 20000 in
theorem gs_Game_likingOfAll_L4 (X : Cx θ p s m args c cX10_likingOfAll 4 RX10) (hr : meth.sig.returnType = some .int) (hlk : meth.locks = false)  {x1 : Int32} {r : Int32 × Mem}  (τ : Mem) (z2 : Int32) (z3 : Int32) (x : (Mem × Int32 × Int32) ⊕ (Int32 × Mem)) (h : f_Game_likingOfAll_L4 x1 (τ, z2, z3) = some x) (hk : Sum.elim (fun a => @Prod.casesOn (Mem) (Int32 × Int32) (fun _ => Prop) a fun τ b0 => @Prod.casesOn (Int32) (Int32) (fun _ => Prop) b0 fun z2 z3 => GB θ p l e 3 s m args below meth c 4 (some (.int r.1), r.2) 4 [(0, .ref (be θ + 0)), (1, .int x1), (2, .int z2), (3, .int z3)] [] τ) (fun b => b = r) x) : GB θ p l e 3 s m args below meth c 4 (some (.int r.1), r.2) 4 [(0, .ref (be θ + 0)), (1, .int x1), (2, .int z2), (3, .int z3)] [] τ := by
  unfold f_Game_likingOfAll_L4 at h
  dsimp only at h
  refine g_iload_n X dX10_likingOfAll_4 rfl 3 rfl ?_
  refine g_aload_n X dX10_likingOfAll_5 rfl 0 rfl ?_
  refine g_get X fl_RX10_52 dX10_likingOfAll_6 kd_0 (v := .ref (be θ + 428)) rfl ?_
  refine g_get X fl_RX10_137 dX10_likingOfAll_9 kd_428 (v := rv (be θ) (mR τ 428 1)) rfl ?_
  obtain ⟨g1, h⟩ := ite_some h
  rw [← rv_of (β := be θ) g1 (by decide)]
  refine g_get X fl_RX10_287 dX10_likingOfAll_12 g1 (v := .int (mI τ (mR τ 428 1) 4)) rfl ?_
  refine g_icmp_ge (tgt := 40) X dX10_likingOfAll_15 (by decide) (fun c2 => ?_) (fun c2 => ?_)
  · replace h := (if_pos c2).symm.trans h
    refine g_iload_n X dX10_likingOfAll_40 rfl 2 rfl ?_
    have hk := inr_hk h hk
    have hk : (z2, τ) = r := hk
    subst hk
    exact g_iret X hr hlk dX10_likingOfAll_41 rfl
  · replace h := (if_neg c2).symm.trans h
    refine g_iload_n X dX10_likingOfAll_18 rfl 2 rfl ?_
    refine g_aload_n X dX10_likingOfAll_19 rfl 0 rfl ?_
    refine g_get X fl_RX10_52 dX10_likingOfAll_20 kd_0 (v := .ref (be θ + 428)) rfl ?_
    refine g_aload_n X dX10_likingOfAll_23 rfl 0 rfl ?_
    refine g_get X fl_RX10_35 dX10_likingOfAll_24 kd_0 (v := .ref (be θ + 6)) rfl ?_
    refine g_iload_n X dX10_likingOfAll_27 rfl 3 rfl ?_
    refine g_iload_n X dX10_likingOfAll_28 rfl 1 rfl ?_
    obtain ⟨q3, hq3, h⟩ := Option.bind_eq_some_iff.mp h
    refine g_cV X (c_Trade_liked kd_6 hq3) lk_RX10_201 my_X9_liked (a := 428) (ci := 9) kd_428 (by decide) rfl (As := [.ref (be θ + 6), .int z3, .int x1]) (rest := [.int z2]) rfl rfl (Nat.le_of_ble_eq_true rfl) ⟨(Nat.le_of_ble_eq_true rfl), (Nat.le_of_ble_eq_true rfl)⟩ ⟨(Nat.le_of_ble_eq_true rfl), (Nat.le_of_ble_eq_true rfl)⟩ dX10_likingOfAll_29 (st' := [.int q3.1, .int z2]) (σ' := q3.2) rfl rfl ?_
    refine g_iadd X dX10_likingOfAll_32 ?_
    refine g_istore_n X dX10_likingOfAll_33 rfl (by decide) (lv' := [(2, .int (z2 + q3.1)), (0, .ref (be θ + 0)), (1, .int x1), (3, .int z3)]) rfl ?_
    refine g_iinc X dX10_likingOfAll_34 (kq := 3) rfl (congrArg (HAdd.hAdd _) ic_1) (by decide) (lv' := [(3, .int (z3 + (1 : Int32))), (2, .int (z2 + q3.1)), (0, .ref (be θ + 0)), (1, .int x1)]) rfl ?_
    refine g_goto (tgt := 4) X dX10_likingOfAll_37 (by decide) ?_
    have hk := inl_hk h hk
    exact g_sub (lv' := [(0, .ref (be θ + 0)), (1, .int x1), (2, .int (z2 + q3.1)), (3, .int (z3 + (1 : Int32)))]) [2, 3, 1, 0] rfl hk
set_option maxHeartbeats 4000000 in
set_option maxRecDepth 20000 in
theorem gl_Game_likingOfAll_L4 (X : Cx θ p s m args c cX10_likingOfAll 4 RX10) (hr : meth.sig.returnType = some .int) (hlk : meth.locks = false)  {x1 : Int32} {r : Int32 × Mem}  (n : Nat) (a : Mem × Int32 × Int32) (b : Int32 × Mem) (h : loopF (f_Game_likingOfAll_L4 x1) n a = some b) (hk : (fun b => b = r) b) : (fun a => @Prod.casesOn (Mem) (Int32 × Int32) (fun _ => Prop) a fun τ b0 => @Prod.casesOn (Int32) (Int32) (fun _ => Prop) b0 fun z2 z3 => GB θ p l e 3 s m args below meth c 4 (some (.int r.1), r.2) 4 [(0, .ref (be θ + 0)), (1, .int x1), (2, .int z2), (3, .int z3)] [] τ) a :=
  loopF_by (P := (fun a => @Prod.casesOn (Mem) (Int32 × Int32) (fun _ => Prop) a fun τ b0 => @Prod.casesOn (Int32) (Int32) (fun _ => Prop) b0 fun z2 z3 => GB θ p l e 3 s m args below meth c 4 (some (.int r.1), r.2) 4 [(0, .ref (be θ + 0)), (1, .int x1), (2, .int z2), (3, .int z3)] [] τ)) (K := (fun b => b = r)) (fun a x h hk => by obtain ⟨τ, z2, z3⟩ := a; exact gs_Game_likingOfAll_L4 X hr hlk   τ z2 z3 x h hk) n a b h hk
set_option maxHeartbeats 4000000 in
set_option maxRecDepth 20000 in
theorem g_Game_likingOfAll (X : Cx θ p s m args c cX10_likingOfAll 4 RX10) (hr : meth.sig.returnType = some .int) (hlk : meth.locks = false)  {σ : Mem} {x1 : Int32} {r : Int32 × Mem}  (h : f_Game_likingOfAll σ x1 = some r) : GB θ p l e 3 s m args below meth c 4 (some (.int r.1), r.2) 0 [(0, .ref (be θ + 0)), (1, .int x1)] [] σ := by
  unfold f_Game_likingOfAll at h
  refine g_iconst X dX10_likingOfAll_0 (v := (0 : Int32)) ic_0 ?_
  refine g_istore_n X dX10_likingOfAll_1 rfl (by decide) (lv' := [(2, .int (0 : Int32)), (0, .ref (be θ + 0)), (1, .int x1)]) rfl ?_
  refine g_iconst X dX10_likingOfAll_2 (v := (0 : Int32)) ic_0 ?_
  refine g_istore_n X dX10_likingOfAll_3 rfl (by decide) (lv' := [(3, .int (0 : Int32)), (2, .int (0 : Int32)), (0, .ref (be θ + 0)), (1, .int x1)]) rfl ?_
  exact g_sub (lv' := [(0, .ref (be θ + 0)), (1, .int x1), (2, .int (0 : Int32)), (3, .int (0 : Int32))]) [2, 3, 1, 0] rfl (gl_Game_likingOfAll_L4 X hr hlk    FU _ _ h rfl)
set_option maxHeartbeats 4000000 in
set_option maxRecDepth 20000 in
theorem c_Game_likingOfAll {θ : Th} {l : Launch} {σ : Mem} {x1 : Int32} {r : Int32 × Mem}  (h : f_Game_likingOfAll σ x1 = some r) : Cn θ l yX10_likingOfAll cX10_likingOfAll 4 (some .int) 3 0 0 [.ref (be θ + 0), .int x1] σ (some (.int r.1), r.2) :=
  Cn.of (by decide) (Nat.le_of_ble_eq_true rfl) (fun p e s m below meth c X hr hlk => g_Game_likingOfAll X hr hlk  h)
theorem dX10_measure_0 : decode cX10_measure 0 = .ok (.iload_n 1, 1) := by decide +kernel
theorem dX10_measure_1 : decode cX10_measure 1 = .ok (.tableswitch 102 0 5 #[39, 49, 58, 70, 80, 92], 39) := by decide +kernel
theorem dX10_measure_40 : decode cX10_measure 40 = .ok (.aload_n 0, 1) := by decide +kernel
theorem dX10_measure_41 : decode cX10_measure 41 = .ok (.getfield 35, 3) := by decide +kernel
theorem dX10_measure_44 : decode cX10_measure 44 = .ok (.getfield 180, 3) := by decide +kernel
theorem dX10_measure_47 : decode cX10_measure 47 = .ok (.iload_n 2, 1) := by decide +kernel
theorem dX10_measure_48 : decode cX10_measure 48 = .ok (.iaload, 1) := by decide +kernel
theorem dX10_measure_49 : decode cX10_measure 49 = .ok (.ireturn, 1) := by decide +kernel
theorem dX10_measure_50 : decode cX10_measure 50 = .ok (.aload_n 0, 1) := by decide +kernel
theorem dX10_measure_51 : decode cX10_measure 51 = .ok (.getfield 35, 3) := by decide +kernel
theorem dX10_measure_54 : decode cX10_measure 54 = .ok (.iload_n 2, 1) := by decide +kernel
theorem dX10_measure_55 : decode cX10_measure 55 = .ok (.invokevirtual 195, 3) := by decide +kernel
theorem dX10_measure_58 : decode cX10_measure 58 = .ok (.ireturn, 1) := by decide +kernel
theorem dX10_measure_59 : decode cX10_measure 59 = .ok (.aload_n 0, 1) := by decide +kernel
theorem dX10_measure_60 : decode cX10_measure 60 = .ok (.getfield 52, 3) := by decide +kernel
theorem dX10_measure_63 : decode cX10_measure 63 = .ok (.getfield 137, 3) := by decide +kernel
theorem dX10_measure_66 : decode cX10_measure 66 = .ok (.iload_n 2, 1) := by decide +kernel
theorem dX10_measure_67 : decode cX10_measure 67 = .ok (.invokevirtual 186, 3) := by decide +kernel
theorem dX10_measure_70 : decode cX10_measure 70 = .ok (.ireturn, 1) := by decide +kernel
theorem dX10_measure_71 : decode cX10_measure 71 = .ok (.aload_n 0, 1) := by decide +kernel
theorem dX10_measure_72 : decode cX10_measure 72 = .ok (.getfield 35, 3) := by decide +kernel
theorem dX10_measure_75 : decode cX10_measure 75 = .ok (.getfield 183, 3) := by decide +kernel
theorem dX10_measure_78 : decode cX10_measure 78 = .ok (.iload_n 2, 1) := by decide +kernel
theorem dX10_measure_79 : decode cX10_measure 79 = .ok (.iaload, 1) := by decide +kernel
theorem dX10_measure_80 : decode cX10_measure 80 = .ok (.ireturn, 1) := by decide +kernel
theorem dX10_measure_81 : decode cX10_measure 81 = .ok (.aload_n 0, 1) := by decide +kernel
theorem dX10_measure_82 : decode cX10_measure 82 = .ok (.getfield 52, 3) := by decide +kernel
theorem dX10_measure_85 : decode cX10_measure 85 = .ok (.getfield 137, 3) := by decide +kernel
theorem dX10_measure_88 : decode cX10_measure 88 = .ok (.iload_n 2, 1) := by decide +kernel
theorem dX10_measure_89 : decode cX10_measure 89 = .ok (.invokevirtual 156, 3) := by decide +kernel
theorem dX10_measure_92 : decode cX10_measure 92 = .ok (.ireturn, 1) := by decide +kernel
theorem dX10_measure_93 : decode cX10_measure 93 = .ok (.aload_n 0, 1) := by decide +kernel
theorem dX10_measure_94 : decode cX10_measure 94 = .ok (.getfield 35, 3) := by decide +kernel
theorem dX10_measure_97 : decode cX10_measure 97 = .ok (.getfield 159, 3) := by decide +kernel
theorem dX10_measure_100 : decode cX10_measure 100 = .ok (.iload_n 2, 1) := by decide +kernel
theorem dX10_measure_101 : decode cX10_measure 101 = .ok (.iaload, 1) := by decide +kernel
theorem dX10_measure_102 : decode cX10_measure 102 = .ok (.ireturn, 1) := by decide +kernel
theorem dX10_measure_103 : decode cX10_measure 103 = .ok (.aload_n 0, 1) := by decide +kernel
theorem dX10_measure_104 : decode cX10_measure 104 = .ok (.iload_n 2, 1) := by decide +kernel
theorem dX10_measure_105 : decode cX10_measure 105 = .ok (.invokevirtual 424, 3) := by decide +kernel
theorem dX10_measure_108 : decode cX10_measure 108 = .ok (.ireturn, 1) := by decide +kernel
def f_Game_measure (σ : Mem) (x1 : Int32) (x2 : Int32) : Option (Int32 × Mem) :=
  if x1 = (0 : Int32) then
    if inb x2 6 then
      some ((mI σ 12 x2.toNatClampNeg), σ)
    else none
  else
  if x1 = (1 : Int32) then
    (f_State_dueOf σ 6 x2).bind fun q4 =>
    some (q4, σ)
  else
  if x1 = (2 : Int32) then
    if kd (mR σ 428 1) = 2 then
      (f_City_nerveOf σ (mR σ 428 1) x2).bind fun q7 =>
      some (q7, σ)
    else none
  else
  if x1 = (3 : Int32) then
    if inb x2 6 then
      some ((mI σ 13 x2.toNatClampNeg), σ)
    else none
  else
  if x1 = (4 : Int32) then
    if kd (mR σ 428 1) = 2 then
      (f_City_priceOf σ (mR σ 428 1) x2).bind fun q12 =>
      some (q12, σ)
    else none
  else
  if x1 = (5 : Int32) then
    if inb x2 8 then
      some ((mI σ 10 x2.toNatClampNeg), σ)
    else none
  else
  (f_Game_likingOfAll σ x2).bind fun q15 =>
  some (q15.1, q15.2)
set_option maxHeartbeats 4000000 in
set_option maxRecDepth 20000 in
theorem g_Game_measure (X : Cx θ p s m args c cX10_measure 3 RX10) (hr : meth.sig.returnType = some .int) (hlk : meth.locks = false)  {σ : Mem} {x1 : Int32} {x2 : Int32} {r : Int32 × Mem}  (h : f_Game_measure σ x1 x2 = some r) : GB θ p l e 4 s m args below meth c 3 (some (.int r.1), r.2) 0 [(0, .ref (be θ + 0)), (1, .int x1), (2, .int x2)] [] σ := by
  unfold f_Game_measure at h
  refine g_iload_n X dX10_measure_0 rfl 1 rfl ?_
  by_cases c1 : x1 = (0 : Int32)
  · replace h := (if_pos c1).symm.trans h
    refine g_tableIn (tgt := 40) (off := 39) X dX10_measure_1 (by rw [c1]; decide) (by rw [c1]; decide) (by rw [c1]; rfl) (by decide) ?_
    refine g_aload_n X dX10_measure_40 rfl 0 rfl ?_
    refine g_get X fl_RX10_35 dX10_measure_41 kd_0 (v := .ref (be θ + 6)) rfl ?_
    refine g_get X fl_RX10_180 dX10_measure_44 kd_6 (v := .ref (be θ + 12)) rfl ?_
    refine g_iload_n X dX10_measure_47 rfl 2 rfl ?_
    obtain ⟨g2, h⟩ := ite_some h
    refine g_iald X kd_12 ln_12 (inb_in g2) dX10_measure_48 ?_
    exact g_iret X hr hlk dX10_measure_49 (by cases h; rfl)
  replace h := (if_neg c1).symm.trans h
  by_cases c3 : x1 = (1 : Int32)
  · replace h := (if_pos c3).symm.trans h
    refine g_tableIn (tgt := 50) (off := 49) X dX10_measure_1 (by rw [c3]; decide) (by rw [c3]; decide) (by rw [c3]; rfl) (by decide) ?_
    refine g_aload_n X dX10_measure_50 rfl 0 rfl ?_
    refine g_get X fl_RX10_35 dX10_measure_51 kd_0 (v := .ref (be θ + 6)) rfl ?_
    refine g_iload_n X dX10_measure_54 rfl 2 rfl ?_
    obtain ⟨q4, hq4, h⟩ := Option.bind_eq_some_iff.mp h
    refine g_cV X (c_State_dueOf kd_6 hq4) lk_RX10_195 my_X7_dueOf (a := 6) (ci := 7) kd_6 (by decide) rfl (As := [.int x2]) (rest := []) rfl rfl (Nat.le_of_ble_eq_true rfl) ⟨(Nat.le_of_ble_eq_true rfl), (Nat.le_of_ble_eq_true rfl)⟩ ⟨(Nat.le_of_ble_eq_true rfl), (Nat.le_of_ble_eq_true rfl)⟩ dX10_measure_55 (st' := [.int q4]) (σ' := σ) rfl rfl ?_
    exact g_iret X hr hlk dX10_measure_58 (by cases h; rfl)
  replace h := (if_neg c3).symm.trans h
  by_cases c5 : x1 = (2 : Int32)
  · replace h := (if_pos c5).symm.trans h
    refine g_tableIn (tgt := 59) (off := 58) X dX10_measure_1 (by rw [c5]; decide) (by rw [c5]; decide) (by rw [c5]; rfl) (by decide) ?_
    refine g_aload_n X dX10_measure_59 rfl 0 rfl ?_
    refine g_get X fl_RX10_52 dX10_measure_60 kd_0 (v := .ref (be θ + 428)) rfl ?_
    refine g_get X fl_RX10_137 dX10_measure_63 kd_428 (v := rv (be θ) (mR σ 428 1)) rfl ?_
    refine g_iload_n X dX10_measure_66 rfl 2 rfl ?_
    obtain ⟨g6, h⟩ := ite_some h
    rw [← rv_of (β := be θ) g6 (by decide)]
    obtain ⟨q7, hq7, h⟩ := Option.bind_eq_some_iff.mp h
    refine g_cV X (c_City_nerveOf g6 hq7) lk_RX10_186 my_X1_nerveOf (a := (mR σ 428 1)) (ci := 1) g6 (by decide) rfl (As := [.int x2]) (rest := []) rfl rfl (Nat.le_of_ble_eq_true rfl) ⟨(Nat.le_of_ble_eq_true rfl), (Nat.le_of_ble_eq_true rfl)⟩ ⟨(Nat.le_of_ble_eq_true rfl), (Nat.le_of_ble_eq_true rfl)⟩ dX10_measure_67 (st' := [.int q7]) (σ' := σ) rfl rfl ?_
    exact g_iret X hr hlk dX10_measure_70 (by cases h; rfl)
  replace h := (if_neg c5).symm.trans h
  by_cases c8 : x1 = (3 : Int32)
  · replace h := (if_pos c8).symm.trans h
    refine g_tableIn (tgt := 71) (off := 70) X dX10_measure_1 (by rw [c8]; decide) (by rw [c8]; decide) (by rw [c8]; rfl) (by decide) ?_
    refine g_aload_n X dX10_measure_71 rfl 0 rfl ?_
    refine g_get X fl_RX10_35 dX10_measure_72 kd_0 (v := .ref (be θ + 6)) rfl ?_
    refine g_get X fl_RX10_183 dX10_measure_75 kd_6 (v := .ref (be θ + 13)) rfl ?_
    refine g_iload_n X dX10_measure_78 rfl 2 rfl ?_
    obtain ⟨g9, h⟩ := ite_some h
    refine g_iald X kd_13 ln_13 (inb_in g9) dX10_measure_79 ?_
    exact g_iret X hr hlk dX10_measure_80 (by cases h; rfl)
  replace h := (if_neg c8).symm.trans h
  by_cases c10 : x1 = (4 : Int32)
  · replace h := (if_pos c10).symm.trans h
    refine g_tableIn (tgt := 81) (off := 80) X dX10_measure_1 (by rw [c10]; decide) (by rw [c10]; decide) (by rw [c10]; rfl) (by decide) ?_
    refine g_aload_n X dX10_measure_81 rfl 0 rfl ?_
    refine g_get X fl_RX10_52 dX10_measure_82 kd_0 (v := .ref (be θ + 428)) rfl ?_
    refine g_get X fl_RX10_137 dX10_measure_85 kd_428 (v := rv (be θ) (mR σ 428 1)) rfl ?_
    refine g_iload_n X dX10_measure_88 rfl 2 rfl ?_
    obtain ⟨g11, h⟩ := ite_some h
    rw [← rv_of (β := be θ) g11 (by decide)]
    obtain ⟨q12, hq12, h⟩ := Option.bind_eq_some_iff.mp h
    refine g_cV X (c_City_priceOf g11 hq12) lk_RX10_156 my_X1_priceOf (a := (mR σ 428 1)) (ci := 1) g11 (by decide) rfl (As := [.int x2]) (rest := []) rfl rfl (Nat.le_of_ble_eq_true rfl) ⟨(Nat.le_of_ble_eq_true rfl), (Nat.le_of_ble_eq_true rfl)⟩ ⟨(Nat.le_of_ble_eq_true rfl), (Nat.le_of_ble_eq_true rfl)⟩ dX10_measure_89 (st' := [.int q12]) (σ' := σ) rfl rfl ?_
    exact g_iret X hr hlk dX10_measure_92 (by cases h; rfl)
  replace h := (if_neg c10).symm.trans h
  by_cases c13 : x1 = (5 : Int32)
  · replace h := (if_pos c13).symm.trans h
    refine g_tableIn (tgt := 93) (off := 92) X dX10_measure_1 (by rw [c13]; decide) (by rw [c13]; decide) (by rw [c13]; rfl) (by decide) ?_
    refine g_aload_n X dX10_measure_93 rfl 0 rfl ?_
    refine g_get X fl_RX10_35 dX10_measure_94 kd_0 (v := .ref (be θ + 6)) rfl ?_
    refine g_get X fl_RX10_159 dX10_measure_97 kd_6 (v := .ref (be θ + 10)) rfl ?_
    refine g_iload_n X dX10_measure_100 rfl 2 rfl ?_
    obtain ⟨g14, h⟩ := ite_some h
    refine g_iald X kd_10 ln_10 (inb_in g14) dX10_measure_101 ?_
    exact g_iret X hr hlk dX10_measure_102 (by cases h; rfl)
  replace h := (if_neg c13).symm.trans h
  have nc1 := neT c1
  have nc3 := neT c3
  have nc5 := neT c5
  have nc8 := neT c8
  have nc10 := neT c10
  have nc13 := neT c13
  have w16 : x1.toInt < 0 ∨ 5 < x1.toInt := by
    rw [show (0 : Int32).toInt = 0 from rfl] at nc1
    rw [show (1 : Int32).toInt = 1 from rfl] at nc3
    rw [show (2 : Int32).toInt = 2 from rfl] at nc5
    rw [show (3 : Int32).toInt = 3 from rfl] at nc8
    rw [show (4 : Int32).toInt = 4 from rfl] at nc10
    rw [show (5 : Int32).toInt = 5 from rfl] at nc13
    omega
  refine g_tableOut (tgt := 103) X dX10_measure_1 w16 (by decide) ?_
  refine g_aload_n X dX10_measure_103 rfl 0 rfl ?_
  refine g_iload_n X dX10_measure_104 rfl 2 rfl ?_
  obtain ⟨q15, hq15, h⟩ := Option.bind_eq_some_iff.mp h
  refine g_cV X (c_Game_likingOfAll  hq15) lk_RX10_424 my_X10_likingOfAll (a := 0) (ci := 10) kd_0 (by decide) rfl (As := [.int x2]) (rest := []) rfl rfl (Nat.le_of_ble_eq_true rfl) ⟨(Nat.le_of_ble_eq_true rfl), (Nat.le_of_ble_eq_true rfl)⟩ ⟨(Nat.le_of_ble_eq_true rfl), (Nat.le_of_ble_eq_true rfl)⟩ dX10_measure_105 (st' := [.int q15.1]) (σ' := q15.2) rfl rfl ?_
  exact g_iret X hr hlk dX10_measure_108 (by cases h; rfl)
set_option maxHeartbeats 4000000 in
set_option maxRecDepth 20000 in
theorem c_Game_measure {θ : Th} {l : Launch} {σ : Mem} {x1 : Int32} {x2 : Int32} {r : Int32 × Mem}  (h : f_Game_measure σ x1 x2 = some r) : Cn θ l yX10_measure cX10_measure 3 (some .int) 4 0 0 [.ref (be θ + 0), .int x1, .int x2] σ (some (.int r.1), r.2) :=
  Cn.of (by decide) (Nat.le_of_ble_eq_true rfl) (fun p e s m below meth c X hr hlk => g_Game_measure X hr hlk  h)
theorem dX10_firstWithMost_0 : decode cX10_firstWithMost 0 = .ok (.iconst 0, 1) := by decide +kernel
theorem dX10_firstWithMost_1 : decode cX10_firstWithMost 1 = .ok (.istore_n 3, 1) := by decide +kernel
theorem dX10_firstWithMost_2 : decode cX10_firstWithMost 2 = .ok (.aload_n 0, 1) := by decide +kernel
theorem dX10_firstWithMost_3 : decode cX10_firstWithMost 3 = .ok (.iload_n 1, 1) := by decide +kernel
theorem dX10_firstWithMost_4 : decode cX10_firstWithMost 4 = .ok (.iconst 0, 1) := by decide +kernel
theorem dX10_firstWithMost_5 : decode cX10_firstWithMost 5 = .ok (.invokevirtual 421, 3) := by decide +kernel
theorem dX10_firstWithMost_8 : decode cX10_firstWithMost 8 = .ok (.istore 4, 2) := by decide +kernel
theorem dX10_firstWithMost_10 : decode cX10_firstWithMost 10 = .ok (.iconst 1, 1) := by decide +kernel
theorem dX10_firstWithMost_11 : decode cX10_firstWithMost 11 = .ok (.istore 5, 2) := by decide +kernel
theorem dX10_firstWithMost_13 : decode cX10_firstWithMost 13 = .ok (.iload 5, 2) := by decide +kernel
theorem dX10_firstWithMost_15 : decode cX10_firstWithMost 15 = .ok (.iload_n 2, 1) := by decide +kernel
theorem dX10_firstWithMost_16 : decode cX10_firstWithMost 16 = .ok (.if_icmp .ge 32, 3) := by decide +kernel
theorem dX10_firstWithMost_19 : decode cX10_firstWithMost 19 = .ok (.aload_n 0, 1) := by decide +kernel
theorem dX10_firstWithMost_20 : decode cX10_firstWithMost 20 = .ok (.iload_n 1, 1) := by decide +kernel
theorem dX10_firstWithMost_21 : decode cX10_firstWithMost 21 = .ok (.iload 5, 2) := by decide +kernel
theorem dX10_firstWithMost_23 : decode cX10_firstWithMost 23 = .ok (.invokevirtual 421, 3) := by decide +kernel
theorem dX10_firstWithMost_26 : decode cX10_firstWithMost 26 = .ok (.istore 6, 2) := by decide +kernel
theorem dX10_firstWithMost_28 : decode cX10_firstWithMost 28 = .ok (.iload 6, 2) := by decide +kernel
theorem dX10_firstWithMost_30 : decode cX10_firstWithMost 30 = .ok (.iload 4, 2) := by decide +kernel
theorem dX10_firstWithMost_32 : decode cX10_firstWithMost 32 = .ok (.if_icmp .le 10, 3) := by decide +kernel
theorem dX10_firstWithMost_35 : decode cX10_firstWithMost 35 = .ok (.iload 6, 2) := by decide +kernel
theorem dX10_firstWithMost_37 : decode cX10_firstWithMost 37 = .ok (.istore 4, 2) := by decide +kernel
theorem dX10_firstWithMost_39 : decode cX10_firstWithMost 39 = .ok (.iload 5, 2) := by decide +kernel
theorem dX10_firstWithMost_41 : decode cX10_firstWithMost 41 = .ok (.istore_n 3, 1) := by decide +kernel
theorem dX10_firstWithMost_42 : decode cX10_firstWithMost 42 = .ok (.iinc 5 1, 3) := by decide +kernel
theorem dX10_firstWithMost_45 : decode cX10_firstWithMost 45 = .ok (.goto (-32), 3) := by decide +kernel
theorem dX10_firstWithMost_48 : decode cX10_firstWithMost 48 = .ok (.iload_n 3, 1) := by decide +kernel
theorem dX10_firstWithMost_49 : decode cX10_firstWithMost 49 = .ok (.ireturn, 1) := by decide +kernel
def f_Game_firstWithMost_L13 (x1 : Int32) (x2 : Int32) (a : Mem × Int32 × Int32 × Int32) : Option ((Mem × Int32 × Int32 × Int32) ⊕ (Int32 × Mem)) :=
  @Prod.casesOn (Mem) (Int32 × Int32 × Int32) (fun _ => Option ((Mem × Int32 × Int32 × Int32) ⊕ (Int32 × Mem))) a fun τ b0 =>
  @Prod.casesOn (Int32) (Int32 × Int32) (fun _ => Option ((Mem × Int32 × Int32 × Int32) ⊕ (Int32 × Mem))) b0 fun z3 b1 =>
  @Prod.casesOn (Int32) (Int32) (fun _ => Option ((Mem × Int32 × Int32 × Int32) ⊕ (Int32 × Mem))) b1 fun z4 z5 =>
  if x2 ≤ z5 then
    some (.inr (z3, τ))
  else
    (f_Game_measure τ x1 z5).bind fun q3 =>
    if q3.1 ≤ z4 then
      some (.inl (q3.2, z3, z4, (z5 + (1 : Int32))))
    else
      some (.inl (q3.2, z5, q3.1, (z5 + (1 : Int32))))
def f_Game_firstWithMost (σ : Mem) (x1 : Int32) (x2 : Int32) : Option (Int32 × Mem) :=
  (f_Game_measure σ x1 (0 : Int32)).bind fun q1 =>
  loopF (f_Game_firstWithMost_L13 x1 x2) FU (q1.2, (0 : Int32), q1.1, (1 : Int32))
set_option maxHeartbeats 4000000 in
set_option maxRecDepth 20000 in
theorem gs_Game_firstWithMost_L13 (X : Cx θ p s m args c cX10_firstWithMost 7 RX10) (hr : meth.sig.returnType = some .int) (hlk : meth.locks = false)  {x1 : Int32} {x2 : Int32} {r : Int32 × Mem}  (τ : Mem) (z3 : Int32) (z4 : Int32) (z5 : Int32) (x : (Mem × Int32 × Int32 × Int32) ⊕ (Int32 × Mem)) (h : f_Game_firstWithMost_L13 x1 x2 (τ, z3, z4, z5) = some x) (hk : Sum.elim (fun a => @Prod.casesOn (Mem) (Int32 × Int32 × Int32) (fun _ => Prop) a fun τ b0 => @Prod.casesOn (Int32) (Int32 × Int32) (fun _ => Prop) b0 fun z3 b1 => @Prod.casesOn (Int32) (Int32) (fun _ => Prop) b1 fun z4 z5 => GB θ p l e 5 s m args below meth c 7 (some (.int r.1), r.2) 13 [(0, .ref (be θ + 0)), (1, .int x1), (2, .int x2), (3, .int z3), (4, .int z4), (5, .int z5)] [] τ) (fun b => b = r) x) : GB θ p l e 5 s m args below meth c 7 (some (.int r.1), r.2) 13 [(0, .ref (be θ + 0)), (1, .int x1), (2, .int x2), (3, .int z3), (4, .int z4), (5, .int z5)] [] τ := by
  unfold f_Game_firstWithMost_L13 at h
  dsimp only at h
  refine g_iload X dX10_firstWithMost_13 5 rfl ?_
  refine g_iload_n X dX10_firstWithMost_15 rfl 2 rfl ?_
  refine g_icmp_ge (tgt := 48) X dX10_firstWithMost_16 (by decide) (fun c2 => ?_) (fun c2 => ?_)
  · replace h := (if_pos c2).symm.trans h
    refine g_iload_n X dX10_firstWithMost_48 rfl 3 rfl ?_
    have hk := inr_hk h hk
    have hk : (z3, τ) = r := hk
    subst hk
    exact g_iret X hr hlk dX10_firstWithMost_49 rfl
  · replace h := (if_neg c2).symm.trans h
    refine g_aload_n X dX10_firstWithMost_19 rfl 0 rfl ?_
    refine g_iload_n X dX10_firstWithMost_20 rfl 1 rfl ?_
    refine g_iload X dX10_firstWithMost_21 5 rfl ?_
    obtain ⟨q3, hq3, h⟩ := Option.bind_eq_some_iff.mp h
    refine g_cV X (c_Game_measure  hq3) lk_RX10_421 my_X10_measure (a := 0) (ci := 10) kd_0 (by decide) rfl (As := [.int x1, .int z5]) (rest := []) rfl rfl (Nat.le_of_ble_eq_true rfl) ⟨(Nat.le_of_ble_eq_true rfl), (Nat.le_of_ble_eq_true rfl)⟩ ⟨(Nat.le_of_ble_eq_true rfl), (Nat.le_of_ble_eq_true rfl)⟩ dX10_firstWithMost_23 (st' := [.int q3.1]) (σ' := q3.2) rfl rfl ?_
    refine g_istore X dX10_firstWithMost_26 (by decide) (lv' := [(6, .int q3.1), (0, .ref (be θ + 0)), (1, .int x1), (2, .int x2), (3, .int z3), (4, .int z4), (5, .int z5)]) rfl ?_
    refine g_iload X dX10_firstWithMost_28 0 rfl ?_
    refine g_iload X dX10_firstWithMost_30 5 rfl ?_
    refine g_icmp_le (tgt := 42) X dX10_firstWithMost_32 (by decide) (fun c4 => ?_) (fun c4 => ?_)
    · replace h := (if_pos c4).symm.trans h
      refine g_iinc X dX10_firstWithMost_42 (kq := 6) rfl (congrArg (HAdd.hAdd _) ic_1) (by decide) (lv' := [(5, .int (z5 + (1 : Int32))), (6, .int q3.1), (0, .ref (be θ + 0)), (1, .int x1), (2, .int x2), (3, .int z3), (4, .int z4)]) rfl ?_
      refine g_goto (tgt := 13) X dX10_firstWithMost_45 (by decide) ?_
      have hk := inl_hk h hk
      exact g_sub (lv' := [(0, .ref (be θ + 0)), (1, .int x1), (2, .int x2), (3, .int z3), (4, .int z4), (5, .int (z5 + (1 : Int32)))]) [2, 3, 4, 5, 6, 0] rfl hk
    · replace h := (if_neg c4).symm.trans h
      refine g_iload X dX10_firstWithMost_35 0 rfl ?_
      refine g_istore X dX10_firstWithMost_37 (by decide) (lv' := [(4, .int q3.1), (6, .int q3.1), (0, .ref (be θ + 0)), (1, .int x1), (2, .int x2), (3, .int z3), (5, .int z5)]) rfl ?_
      refine g_iload X dX10_firstWithMost_39 6 rfl ?_
      refine g_istore_n X dX10_firstWithMost_41 rfl (by decide) (lv' := [(3, .int z5), (4, .int q3.1), (6, .int q3.1), (0, .ref (be θ + 0)), (1, .int x1), (2, .int x2), (5, .int z5)]) rfl ?_
      refine g_iinc X dX10_firstWithMost_42 (kq := 6) rfl (congrArg (HAdd.hAdd _) ic_1) (by decide) (lv' := [(5, .int (z5 + (1 : Int32))), (3, .int z5), (4, .int q3.1), (6, .int q3.1), (0, .ref (be θ + 0)), (1, .int x1), (2, .int x2)]) rfl ?_
      refine g_goto (tgt := 13) X dX10_firstWithMost_45 (by decide) ?_
      have hk := inl_hk h hk
      exact g_sub (lv' := [(0, .ref (be θ + 0)), (1, .int x1), (2, .int x2), (3, .int z5), (4, .int q3.1), (5, .int (z5 + (1 : Int32)))]) [4, 5, 6, 1, 2, 0] rfl hk
set_option maxHeartbeats 4000000 in
set_option maxRecDepth 20000 in
theorem gl_Game_firstWithMost_L13 (X : Cx θ p s m args c cX10_firstWithMost 7 RX10) (hr : meth.sig.returnType = some .int) (hlk : meth.locks = false)  {x1 : Int32} {x2 : Int32} {r : Int32 × Mem}  (n : Nat) (a : Mem × Int32 × Int32 × Int32) (b : Int32 × Mem) (h : loopF (f_Game_firstWithMost_L13 x1 x2) n a = some b) (hk : (fun b => b = r) b) : (fun a => @Prod.casesOn (Mem) (Int32 × Int32 × Int32) (fun _ => Prop) a fun τ b0 => @Prod.casesOn (Int32) (Int32 × Int32) (fun _ => Prop) b0 fun z3 b1 => @Prod.casesOn (Int32) (Int32) (fun _ => Prop) b1 fun z4 z5 => GB θ p l e 5 s m args below meth c 7 (some (.int r.1), r.2) 13 [(0, .ref (be θ + 0)), (1, .int x1), (2, .int x2), (3, .int z3), (4, .int z4), (5, .int z5)] [] τ) a :=
  loopF_by (P := (fun a => @Prod.casesOn (Mem) (Int32 × Int32 × Int32) (fun _ => Prop) a fun τ b0 => @Prod.casesOn (Int32) (Int32 × Int32) (fun _ => Prop) b0 fun z3 b1 => @Prod.casesOn (Int32) (Int32) (fun _ => Prop) b1 fun z4 z5 => GB θ p l e 5 s m args below meth c 7 (some (.int r.1), r.2) 13 [(0, .ref (be θ + 0)), (1, .int x1), (2, .int x2), (3, .int z3), (4, .int z4), (5, .int z5)] [] τ)) (K := (fun b => b = r)) (fun a x h hk => by obtain ⟨τ, z3, z4, z5⟩ := a; exact gs_Game_firstWithMost_L13 X hr hlk   τ z3 z4 z5 x h hk) n a b h hk
set_option maxHeartbeats 4000000 in
set_option maxRecDepth 20000 in
theorem g_Game_firstWithMost (X : Cx θ p s m args c cX10_firstWithMost 7 RX10) (hr : meth.sig.returnType = some .int) (hlk : meth.locks = false)  {σ : Mem} {x1 : Int32} {x2 : Int32} {r : Int32 × Mem}  (h : f_Game_firstWithMost σ x1 x2 = some r) : GB θ p l e 5 s m args below meth c 7 (some (.int r.1), r.2) 0 [(0, .ref (be θ + 0)), (1, .int x1), (2, .int x2)] [] σ := by
  unfold f_Game_firstWithMost at h
  refine g_iconst X dX10_firstWithMost_0 (v := (0 : Int32)) ic_0 ?_
  refine g_istore_n X dX10_firstWithMost_1 rfl (by decide) (lv' := [(3, .int (0 : Int32)), (0, .ref (be θ + 0)), (1, .int x1), (2, .int x2)]) rfl ?_
  refine g_aload_n X dX10_firstWithMost_2 rfl 1 rfl ?_
  refine g_iload_n X dX10_firstWithMost_3 rfl 2 rfl ?_
  refine g_iconst X dX10_firstWithMost_4 (v := (0 : Int32)) ic_0 ?_
  obtain ⟨q1, hq1, h⟩ := Option.bind_eq_some_iff.mp h
  refine g_cV X (c_Game_measure  hq1) lk_RX10_421 my_X10_measure (a := 0) (ci := 10) kd_0 (by decide) rfl (As := [.int x1, .int (0 : Int32)]) (rest := []) rfl rfl (Nat.le_of_ble_eq_true rfl) ⟨(Nat.le_of_ble_eq_true rfl), (Nat.le_of_ble_eq_true rfl)⟩ ⟨(Nat.le_of_ble_eq_true rfl), (Nat.le_of_ble_eq_true rfl)⟩ dX10_firstWithMost_5 (st' := [.int q1.1]) (σ' := q1.2) rfl rfl ?_
  refine g_istore X dX10_firstWithMost_8 (by decide) (lv' := [(4, .int q1.1), (3, .int (0 : Int32)), (0, .ref (be θ + 0)), (1, .int x1), (2, .int x2)]) rfl ?_
  refine g_iconst X dX10_firstWithMost_10 (v := (1 : Int32)) ic_1 ?_
  refine g_istore X dX10_firstWithMost_11 (by decide) (lv' := [(5, .int (1 : Int32)), (4, .int q1.1), (3, .int (0 : Int32)), (0, .ref (be θ + 0)), (1, .int x1), (2, .int x2)]) rfl ?_
  exact g_sub (lv' := [(0, .ref (be θ + 0)), (1, .int x1), (2, .int x2), (3, .int (0 : Int32)), (4, .int q1.1), (5, .int (1 : Int32))]) [3, 4, 5, 2, 1, 0] rfl (gl_Game_firstWithMost_L13 X hr hlk    FU _ _ h rfl)
set_option maxHeartbeats 4000000 in
set_option maxRecDepth 20000 in
theorem c_Game_firstWithMost {θ : Th} {l : Launch} {σ : Mem} {x1 : Int32} {x2 : Int32} {r : Int32 × Mem}  (h : f_Game_firstWithMost σ x1 x2 = some r) : Cn θ l yX10_firstWithMost cX10_firstWithMost 7 (some .int) 5 0 0 [.ref (be θ + 0), .int x1, .int x2] σ (some (.int r.1), r.2) :=
  Cn.of (by decide) (Nat.le_of_ble_eq_true rfl) (fun p e s m below meth c X hr hlk => g_Game_firstWithMost X hr hlk  h)
theorem dX10_freeThings_0 : decode cX10_freeThings 0 = .ok (.iconst 0, 1) := by decide +kernel
theorem dX10_freeThings_1 : decode cX10_freeThings 1 = .ok (.istore_n 1, 1) := by decide +kernel
theorem dX10_freeThings_2 : decode cX10_freeThings 2 = .ok (.iconst 0, 1) := by decide +kernel
theorem dX10_freeThings_3 : decode cX10_freeThings 3 = .ok (.istore_n 2, 1) := by decide +kernel
theorem dX10_freeThings_4 : decode cX10_freeThings 4 = .ok (.iload_n 2, 1) := by decide +kernel
theorem dX10_freeThings_5 : decode cX10_freeThings 5 = .ok (.aload_n 0, 1) := by decide +kernel
theorem dX10_freeThings_6 : decode cX10_freeThings 6 = .ok (.getfield 52, 3) := by decide +kernel
theorem dX10_freeThings_9 : decode cX10_freeThings 9 = .ok (.getfield 137, 3) := by decide +kernel
theorem dX10_freeThings_12 : decode cX10_freeThings 12 = .ok (.getfield 148, 3) := by decide +kernel
theorem dX10_freeThings_15 : decode cX10_freeThings 15 = .ok (.if_icmp .ge 28, 3) := by decide +kernel
theorem dX10_freeThings_18 : decode cX10_freeThings 18 = .ok (.aload_n 0, 1) := by decide +kernel
theorem dX10_freeThings_19 : decode cX10_freeThings 19 = .ok (.getfield 35, 3) := by decide +kernel
theorem dX10_freeThings_22 : decode cX10_freeThings 22 = .ok (.getfield 165, 3) := by decide +kernel
theorem dX10_freeThings_25 : decode cX10_freeThings 25 = .ok (.iload_n 2, 1) := by decide +kernel
theorem dX10_freeThings_26 : decode cX10_freeThings 26 = .ok (.iaload, 1) := by decide +kernel
theorem dX10_freeThings_27 : decode cX10_freeThings 27 = .ok (.iconst (-1), 1) := by decide +kernel
theorem dX10_freeThings_28 : decode cX10_freeThings 28 = .ok (.if_icmp .ne 9, 3) := by decide +kernel
theorem dX10_freeThings_31 : decode cX10_freeThings 31 = .ok (.iload_n 1, 1) := by decide +kernel
theorem dX10_freeThings_32 : decode cX10_freeThings 32 = .ok (.iconst 1, 1) := by decide +kernel
theorem dX10_freeThings_33 : decode cX10_freeThings 33 = .ok (.iload_n 2, 1) := by decide +kernel
theorem dX10_freeThings_34 : decode cX10_freeThings 34 = .ok (.ishl, 1) := by decide +kernel
theorem dX10_freeThings_35 : decode cX10_freeThings 35 = .ok (.ior, 1) := by decide +kernel
theorem dX10_freeThings_36 : decode cX10_freeThings 36 = .ok (.istore_n 1, 1) := by decide +kernel
theorem dX10_freeThings_37 : decode cX10_freeThings 37 = .ok (.iinc 2 1, 3) := by decide +kernel
theorem dX10_freeThings_40 : decode cX10_freeThings 40 = .ok (.goto (-36), 3) := by decide +kernel
theorem dX10_freeThings_43 : decode cX10_freeThings 43 = .ok (.iload_n 1, 1) := by decide +kernel
theorem dX10_freeThings_44 : decode cX10_freeThings 44 = .ok (.ireturn, 1) := by decide +kernel
def f_Game_freeThings_L4 (σ : Mem) (a : Int32 × Int32) : Option ((Int32 × Int32) ⊕ (Int32)) :=
  @Prod.casesOn (Int32) (Int32) (fun _ => Option ((Int32 × Int32) ⊕ (Int32))) a fun z1 z2 =>
  if kd (mR σ 428 1) = 2 then
    if (mI σ (mR σ 428 1) 3) ≤ z2 then
      some (.inr z1)
    else
      if inb z2 8 then
        if (mI σ 7 z2.toNatClampNeg) = (-1 : Int32) then
          some (.inl ((z1 ||| ((1 : Int32) <<< (z2 &&& 31))), (z2 + (1 : Int32))))
        else
          some (.inl (z1, (z2 + (1 : Int32))))
      else none
  else none
def f_Game_freeThings (σ : Mem)  : Option (Int32) :=
  loopF (f_Game_freeThings_L4 σ) FU ((0 : Int32), (0 : Int32))
set_option maxHeartbeats 4000000 in
set_option maxRecDepth 20000 in
theorem gs_Game_freeThings_L4 (X : Cx θ p s m args c cX10_freeThings 3 RX10) (hr : meth.sig.returnType = some .int) (hlk : meth.locks = false)  {σ : Mem} {r : Int32}  (z1 : Int32) (z2 : Int32) (x : (Int32 × Int32) ⊕ (Int32)) (h : f_Game_freeThings_L4 σ (z1, z2) = some x) (hk : Sum.elim (fun a => @Prod.casesOn (Int32) (Int32) (fun _ => Prop) a fun z1 z2 => GB θ p l e 0 s m args below meth c 3 (some (.int r), σ) 4 [(0, .ref (be θ + 0)), (1, .int z1), (2, .int z2)] [] σ) (fun b => b = r) x) : GB θ p l e 0 s m args below meth c 3 (some (.int r), σ) 4 [(0, .ref (be θ + 0)), (1, .int z1), (2, .int z2)] [] σ := by
  unfold f_Game_freeThings_L4 at h
  dsimp only at h
  refine g_iload_n X dX10_freeThings_4 rfl 2 rfl ?_
  refine g_aload_n X dX10_freeThings_5 rfl 0 rfl ?_
  refine g_get X fl_RX10_52 dX10_freeThings_6 kd_0 (v := .ref (be θ + 428)) rfl ?_
  refine g_get X fl_RX10_137 dX10_freeThings_9 kd_428 (v := rv (be θ) (mR σ 428 1)) rfl ?_
  obtain ⟨g1, h⟩ := ite_some h
  rw [← rv_of (β := be θ) g1 (by decide)]
  refine g_get X fl_RX10_148 dX10_freeThings_12 g1 (v := .int (mI σ (mR σ 428 1) 3)) rfl ?_
  refine g_icmp_ge (tgt := 43) X dX10_freeThings_15 (by decide) (fun c2 => ?_) (fun c2 => ?_)
  · replace h := (if_pos c2).symm.trans h
    refine g_iload_n X dX10_freeThings_43 rfl 1 rfl ?_
    have hk := inr_hk h hk
    have hk : z1 = r := hk
    subst hk
    exact g_iret X hr hlk dX10_freeThings_44 rfl
  · replace h := (if_neg c2).symm.trans h
    refine g_aload_n X dX10_freeThings_18 rfl 0 rfl ?_
    refine g_get X fl_RX10_35 dX10_freeThings_19 kd_0 (v := .ref (be θ + 6)) rfl ?_
    refine g_get X fl_RX10_165 dX10_freeThings_22 kd_6 (v := .ref (be θ + 7)) rfl ?_
    refine g_iload_n X dX10_freeThings_25 rfl 2 rfl ?_
    obtain ⟨g3, h⟩ := ite_some h
    refine g_iald X kd_7 ln_7 (inb_in g3) dX10_freeThings_26 ?_
    refine g_iconst X dX10_freeThings_27 (v := (-1 : Int32)) ic_m1 ?_
    refine g_icmp_ne (tgt := 37) X dX10_freeThings_28 (by decide) (fun c4 => ?_) (fun c4 => ?_)
    · replace h := (if_neg c4).symm.trans h
      refine g_iinc X dX10_freeThings_37 (kq := 2) rfl (congrArg (HAdd.hAdd _) ic_1) (by decide) (lv' := [(2, .int (z2 + (1 : Int32))), (0, .ref (be θ + 0)), (1, .int z1)]) rfl ?_
      refine g_goto (tgt := 4) X dX10_freeThings_40 (by decide) ?_
      have hk := inl_hk h hk
      exact g_sub (lv' := [(0, .ref (be θ + 0)), (1, .int z1), (2, .int (z2 + (1 : Int32)))]) [1, 2, 0] rfl hk
    · replace h := (if_pos c4).symm.trans h
      refine g_iload_n X dX10_freeThings_31 rfl 1 rfl ?_
      refine g_iconst X dX10_freeThings_32 (v := (1 : Int32)) ic_1 ?_
      refine g_iload_n X dX10_freeThings_33 rfl 2 rfl ?_
      refine g_ishl X dX10_freeThings_34 ?_
      refine g_ior X dX10_freeThings_35 ?_
      refine g_istore_n X dX10_freeThings_36 rfl (by decide) (lv' := [(1, .int (z1 ||| ((1 : Int32) <<< (z2 &&& 31)))), (0, .ref (be θ + 0)), (2, .int z2)]) rfl ?_
      refine g_iinc X dX10_freeThings_37 (kq := 2) rfl (congrArg (HAdd.hAdd _) ic_1) (by decide) (lv' := [(2, .int (z2 + (1 : Int32))), (1, .int (z1 ||| ((1 : Int32) <<< (z2 &&& 31)))), (0, .ref (be θ + 0))]) rfl ?_
      refine g_goto (tgt := 4) X dX10_freeThings_40 (by decide) ?_
      have hk := inl_hk h hk
      exact g_sub (lv' := [(0, .ref (be θ + 0)), (1, .int (z1 ||| ((1 : Int32) <<< (z2 &&& 31)))), (2, .int (z2 + (1 : Int32)))]) [2, 1, 0] rfl hk
set_option maxHeartbeats 4000000 in
set_option maxRecDepth 20000 in
theorem gl_Game_freeThings_L4 (X : Cx θ p s m args c cX10_freeThings 3 RX10) (hr : meth.sig.returnType = some .int) (hlk : meth.locks = false)  {σ : Mem} {r : Int32}  (n : Nat) (a : Int32 × Int32) (b : Int32) (h : loopF (f_Game_freeThings_L4 σ) n a = some b) (hk : (fun b => b = r) b) : (fun a => @Prod.casesOn (Int32) (Int32) (fun _ => Prop) a fun z1 z2 => GB θ p l e 0 s m args below meth c 3 (some (.int r), σ) 4 [(0, .ref (be θ + 0)), (1, .int z1), (2, .int z2)] [] σ) a :=
  loopF_by (P := (fun a => @Prod.casesOn (Int32) (Int32) (fun _ => Prop) a fun z1 z2 => GB θ p l e 0 s m args below meth c 3 (some (.int r), σ) 4 [(0, .ref (be θ + 0)), (1, .int z1), (2, .int z2)] [] σ)) (K := (fun b => b = r)) (fun a x h hk => by obtain ⟨z1, z2⟩ := a; exact gs_Game_freeThings_L4 X hr hlk   z1 z2 x h hk) n a b h hk
set_option maxHeartbeats 4000000 in
set_option maxRecDepth 20000 in
theorem g_Game_freeThings (X : Cx θ p s m args c cX10_freeThings 3 RX10) (hr : meth.sig.returnType = some .int) (hlk : meth.locks = false)  {σ : Mem}  {r : Int32}  (h : f_Game_freeThings σ  = some r) : GB θ p l e 0 s m args below meth c 3 (some (.int r), σ) 0 [(0, .ref (be θ + 0))] [] σ := by
  unfold f_Game_freeThings at h
  refine g_iconst X dX10_freeThings_0 (v := (0 : Int32)) ic_0 ?_
  refine g_istore_n X dX10_freeThings_1 rfl (by decide) (lv' := [(1, .int (0 : Int32)), (0, .ref (be θ + 0))]) rfl ?_
  refine g_iconst X dX10_freeThings_2 (v := (0 : Int32)) ic_0 ?_
  refine g_istore_n X dX10_freeThings_3 rfl (by decide) (lv' := [(2, .int (0 : Int32)), (1, .int (0 : Int32)), (0, .ref (be θ + 0))]) rfl ?_
  exact g_sub (lv' := [(0, .ref (be θ + 0)), (1, .int (0 : Int32)), (2, .int (0 : Int32))]) [2, 1, 0] rfl (gl_Game_freeThings_L4 X hr hlk    FU _ _ h rfl)
set_option maxHeartbeats 4000000 in
set_option maxRecDepth 20000 in
theorem c_Game_freeThings {θ : Th} {l : Launch} {σ : Mem}  {r : Int32}  (h : f_Game_freeThings σ  = some r) : Cn θ l yX10_freeThings cX10_freeThings 3 (some .int) 0 0 0 [.ref (be θ + 0)] σ (some (.int r), σ) :=
  Cn.of (by decide) (Nat.le_of_ble_eq_true rfl) (fun p e s m below meth c X hr hlk => g_Game_freeThings X hr hlk  h)
theorem dX10_soldThings_0 : decode cX10_soldThings 0 = .ok (.iconst 0, 1) := by decide +kernel
theorem dX10_soldThings_1 : decode cX10_soldThings 1 = .ok (.istore_n 1, 1) := by decide +kernel
theorem dX10_soldThings_2 : decode cX10_soldThings 2 = .ok (.iconst 0, 1) := by decide +kernel
theorem dX10_soldThings_3 : decode cX10_soldThings 3 = .ok (.istore_n 2, 1) := by decide +kernel
theorem dX10_soldThings_4 : decode cX10_soldThings 4 = .ok (.iload_n 2, 1) := by decide +kernel
theorem dX10_soldThings_5 : decode cX10_soldThings 5 = .ok (.aload_n 0, 1) := by decide +kernel
theorem dX10_soldThings_6 : decode cX10_soldThings 6 = .ok (.getfield 52, 3) := by decide +kernel
theorem dX10_soldThings_9 : decode cX10_soldThings 9 = .ok (.getfield 137, 3) := by decide +kernel
theorem dX10_soldThings_12 : decode cX10_soldThings 12 = .ok (.getfield 148, 3) := by decide +kernel
theorem dX10_soldThings_15 : decode cX10_soldThings 15 = .ok (.if_icmp .ge 23, 3) := by decide +kernel
theorem dX10_soldThings_18 : decode cX10_soldThings 18 = .ok (.iload_n 1, 1) := by decide +kernel
theorem dX10_soldThings_19 : decode cX10_soldThings 19 = .ok (.aload_n 0, 1) := by decide +kernel
theorem dX10_soldThings_20 : decode cX10_soldThings 20 = .ok (.getfield 35, 3) := by decide +kernel
theorem dX10_soldThings_23 : decode cX10_soldThings 23 = .ok (.getfield 168, 3) := by decide +kernel
theorem dX10_soldThings_26 : decode cX10_soldThings 26 = .ok (.iload_n 2, 1) := by decide +kernel
theorem dX10_soldThings_27 : decode cX10_soldThings 27 = .ok (.iaload, 1) := by decide +kernel
theorem dX10_soldThings_28 : decode cX10_soldThings 28 = .ok (.iload_n 2, 1) := by decide +kernel
theorem dX10_soldThings_29 : decode cX10_soldThings 29 = .ok (.ishl, 1) := by decide +kernel
theorem dX10_soldThings_30 : decode cX10_soldThings 30 = .ok (.ior, 1) := by decide +kernel
theorem dX10_soldThings_31 : decode cX10_soldThings 31 = .ok (.istore_n 1, 1) := by decide +kernel
theorem dX10_soldThings_32 : decode cX10_soldThings 32 = .ok (.iinc 2 1, 3) := by decide +kernel
theorem dX10_soldThings_35 : decode cX10_soldThings 35 = .ok (.goto (-31), 3) := by decide +kernel
theorem dX10_soldThings_38 : decode cX10_soldThings 38 = .ok (.iload_n 1, 1) := by decide +kernel
theorem dX10_soldThings_39 : decode cX10_soldThings 39 = .ok (.ireturn, 1) := by decide +kernel
def f_Game_soldThings_L4 (σ : Mem) (a : Int32 × Int32) : Option ((Int32 × Int32) ⊕ (Int32)) :=
  @Prod.casesOn (Int32) (Int32) (fun _ => Option ((Int32 × Int32) ⊕ (Int32))) a fun z1 z2 =>
  if kd (mR σ 428 1) = 2 then
    if (mI σ (mR σ 428 1) 3) ≤ z2 then
      some (.inr z1)
    else
      if inb z2 8 then
        some (.inl ((z1 ||| ((mI σ 8 z2.toNatClampNeg) <<< (z2 &&& 31))), (z2 + (1 : Int32))))
      else none
  else none
def f_Game_soldThings (σ : Mem)  : Option (Int32) :=
  loopF (f_Game_soldThings_L4 σ) FU ((0 : Int32), (0 : Int32))
set_option maxHeartbeats 4000000 in
set_option maxRecDepth 20000 in
theorem gs_Game_soldThings_L4 (X : Cx θ p s m args c cX10_soldThings 3 RX10) (hr : meth.sig.returnType = some .int) (hlk : meth.locks = false)  {σ : Mem} {r : Int32}  (z1 : Int32) (z2 : Int32) (x : (Int32 × Int32) ⊕ (Int32)) (h : f_Game_soldThings_L4 σ (z1, z2) = some x) (hk : Sum.elim (fun a => @Prod.casesOn (Int32) (Int32) (fun _ => Prop) a fun z1 z2 => GB θ p l e 0 s m args below meth c 3 (some (.int r), σ) 4 [(0, .ref (be θ + 0)), (1, .int z1), (2, .int z2)] [] σ) (fun b => b = r) x) : GB θ p l e 0 s m args below meth c 3 (some (.int r), σ) 4 [(0, .ref (be θ + 0)), (1, .int z1), (2, .int z2)] [] σ := by
  unfold f_Game_soldThings_L4 at h
  dsimp only at h
  refine g_iload_n X dX10_soldThings_4 rfl 2 rfl ?_
  refine g_aload_n X dX10_soldThings_5 rfl 0 rfl ?_
  refine g_get X fl_RX10_52 dX10_soldThings_6 kd_0 (v := .ref (be θ + 428)) rfl ?_
  refine g_get X fl_RX10_137 dX10_soldThings_9 kd_428 (v := rv (be θ) (mR σ 428 1)) rfl ?_
  obtain ⟨g1, h⟩ := ite_some h
  rw [← rv_of (β := be θ) g1 (by decide)]
  refine g_get X fl_RX10_148 dX10_soldThings_12 g1 (v := .int (mI σ (mR σ 428 1) 3)) rfl ?_
  refine g_icmp_ge (tgt := 38) X dX10_soldThings_15 (by decide) (fun c2 => ?_) (fun c2 => ?_)
  · replace h := (if_pos c2).symm.trans h
    refine g_iload_n X dX10_soldThings_38 rfl 1 rfl ?_
    have hk := inr_hk h hk
    have hk : z1 = r := hk
    subst hk
    exact g_iret X hr hlk dX10_soldThings_39 rfl
  · replace h := (if_neg c2).symm.trans h
    refine g_iload_n X dX10_soldThings_18 rfl 1 rfl ?_
    refine g_aload_n X dX10_soldThings_19 rfl 0 rfl ?_
    refine g_get X fl_RX10_35 dX10_soldThings_20 kd_0 (v := .ref (be θ + 6)) rfl ?_
    refine g_get X fl_RX10_168 dX10_soldThings_23 kd_6 (v := .ref (be θ + 8)) rfl ?_
    refine g_iload_n X dX10_soldThings_26 rfl 2 rfl ?_
    obtain ⟨g3, h⟩ := ite_some h
    refine g_iald X kd_8 ln_8 (inb_in g3) dX10_soldThings_27 ?_
    refine g_iload_n X dX10_soldThings_28 rfl 2 rfl ?_
    refine g_ishl X dX10_soldThings_29 ?_
    refine g_ior X dX10_soldThings_30 ?_
    refine g_istore_n X dX10_soldThings_31 rfl (by decide) (lv' := [(1, .int (z1 ||| ((mI σ 8 z2.toNatClampNeg) <<< (z2 &&& 31)))), (0, .ref (be θ + 0)), (2, .int z2)]) rfl ?_
    refine g_iinc X dX10_soldThings_32 (kq := 2) rfl (congrArg (HAdd.hAdd _) ic_1) (by decide) (lv' := [(2, .int (z2 + (1 : Int32))), (1, .int (z1 ||| ((mI σ 8 z2.toNatClampNeg) <<< (z2 &&& 31)))), (0, .ref (be θ + 0))]) rfl ?_
    refine g_goto (tgt := 4) X dX10_soldThings_35 (by decide) ?_
    have hk := inl_hk h hk
    exact g_sub (lv' := [(0, .ref (be θ + 0)), (1, .int (z1 ||| ((mI σ 8 z2.toNatClampNeg) <<< (z2 &&& 31)))), (2, .int (z2 + (1 : Int32)))]) [2, 1, 0] rfl hk
set_option maxHeartbeats 4000000 in
set_option maxRecDepth 20000 in
theorem gl_Game_soldThings_L4 (X : Cx θ p s m args c cX10_soldThings 3 RX10) (hr : meth.sig.returnType = some .int) (hlk : meth.locks = false)  {σ : Mem} {r : Int32}  (n : Nat) (a : Int32 × Int32) (b : Int32) (h : loopF (f_Game_soldThings_L4 σ) n a = some b) (hk : (fun b => b = r) b) : (fun a => @Prod.casesOn (Int32) (Int32) (fun _ => Prop) a fun z1 z2 => GB θ p l e 0 s m args below meth c 3 (some (.int r), σ) 4 [(0, .ref (be θ + 0)), (1, .int z1), (2, .int z2)] [] σ) a :=
  loopF_by (P := (fun a => @Prod.casesOn (Int32) (Int32) (fun _ => Prop) a fun z1 z2 => GB θ p l e 0 s m args below meth c 3 (some (.int r), σ) 4 [(0, .ref (be θ + 0)), (1, .int z1), (2, .int z2)] [] σ)) (K := (fun b => b = r)) (fun a x h hk => by obtain ⟨z1, z2⟩ := a; exact gs_Game_soldThings_L4 X hr hlk   z1 z2 x h hk) n a b h hk
set_option maxHeartbeats 4000000 in
set_option maxRecDepth 20000 in
theorem g_Game_soldThings (X : Cx θ p s m args c cX10_soldThings 3 RX10) (hr : meth.sig.returnType = some .int) (hlk : meth.locks = false)  {σ : Mem}  {r : Int32}  (h : f_Game_soldThings σ  = some r) : GB θ p l e 0 s m args below meth c 3 (some (.int r), σ) 0 [(0, .ref (be θ + 0))] [] σ := by
  unfold f_Game_soldThings at h
  refine g_iconst X dX10_soldThings_0 (v := (0 : Int32)) ic_0 ?_
  refine g_istore_n X dX10_soldThings_1 rfl (by decide) (lv' := [(1, .int (0 : Int32)), (0, .ref (be θ + 0))]) rfl ?_
  refine g_iconst X dX10_soldThings_2 (v := (0 : Int32)) ic_0 ?_
  refine g_istore_n X dX10_soldThings_3 rfl (by decide) (lv' := [(2, .int (0 : Int32)), (1, .int (0 : Int32)), (0, .ref (be θ + 0))]) rfl ?_
  exact g_sub (lv' := [(0, .ref (be θ + 0)), (1, .int (0 : Int32)), (2, .int (0 : Int32))]) [2, 1, 0] rfl (gl_Game_soldThings_L4 X hr hlk    FU _ _ h rfl)
set_option maxHeartbeats 4000000 in
set_option maxRecDepth 20000 in
theorem c_Game_soldThings {θ : Th} {l : Launch} {σ : Mem}  {r : Int32}  (h : f_Game_soldThings σ  = some r) : Cn θ l yX10_soldThings cX10_soldThings 3 (some .int) 0 0 0 [.ref (be θ + 0)] σ (some (.int r), σ) :=
  Cn.of (by decide) (Nat.le_of_ble_eq_true rfl) (fun p e s m below meth c X hr hlk => g_Game_soldThings X hr hlk  h)
theorem dX10_afraid_0 : decode cX10_afraid 0 = .ok (.iconst 0, 1) := by decide +kernel
theorem dX10_afraid_1 : decode cX10_afraid 1 = .ok (.istore_n 1, 1) := by decide +kernel
theorem dX10_afraid_2 : decode cX10_afraid 2 = .ok (.iconst 0, 1) := by decide +kernel
theorem dX10_afraid_3 : decode cX10_afraid 3 = .ok (.istore_n 2, 1) := by decide +kernel
theorem dX10_afraid_4 : decode cX10_afraid 4 = .ok (.iload_n 2, 1) := by decide +kernel
theorem dX10_afraid_5 : decode cX10_afraid 5 = .ok (.aload_n 0, 1) := by decide +kernel
theorem dX10_afraid_6 : decode cX10_afraid 6 = .ok (.getfield 52, 3) := by decide +kernel
theorem dX10_afraid_9 : decode cX10_afraid 9 = .ok (.getfield 137, 3) := by decide +kernel
theorem dX10_afraid_12 : decode cX10_afraid 12 = .ok (.getfield 287, 3) := by decide +kernel
theorem dX10_afraid_15 : decode cX10_afraid 15 = .ok (.if_icmp .ge 30, 3) := by decide +kernel
theorem dX10_afraid_18 : decode cX10_afraid 18 = .ok (.aload_n 0, 1) := by decide +kernel
theorem dX10_afraid_19 : decode cX10_afraid 19 = .ok (.getfield 52, 3) := by decide +kernel
theorem dX10_afraid_22 : decode cX10_afraid 22 = .ok (.aload_n 0, 1) := by decide +kernel
theorem dX10_afraid_23 : decode cX10_afraid 23 = .ok (.getfield 35, 3) := by decide +kernel
theorem dX10_afraid_26 : decode cX10_afraid 26 = .ok (.iload_n 2, 1) := by decide +kernel
theorem dX10_afraid_27 : decode cX10_afraid 27 = .ok (.invokevirtual 427, 3) := by decide +kernel
theorem dX10_afraid_30 : decode cX10_afraid 30 = .ok (.ifCond .eq 9, 3) := by decide +kernel
theorem dX10_afraid_33 : decode cX10_afraid 33 = .ok (.iload_n 1, 1) := by decide +kernel
theorem dX10_afraid_34 : decode cX10_afraid 34 = .ok (.iconst 1, 1) := by decide +kernel
theorem dX10_afraid_35 : decode cX10_afraid 35 = .ok (.iload_n 2, 1) := by decide +kernel
theorem dX10_afraid_36 : decode cX10_afraid 36 = .ok (.ishl, 1) := by decide +kernel
theorem dX10_afraid_37 : decode cX10_afraid 37 = .ok (.ior, 1) := by decide +kernel
theorem dX10_afraid_38 : decode cX10_afraid 38 = .ok (.istore_n 1, 1) := by decide +kernel
theorem dX10_afraid_39 : decode cX10_afraid 39 = .ok (.iinc 2 1, 3) := by decide +kernel
theorem dX10_afraid_42 : decode cX10_afraid 42 = .ok (.goto (-38), 3) := by decide +kernel
theorem dX10_afraid_45 : decode cX10_afraid 45 = .ok (.iload_n 1, 1) := by decide +kernel
theorem dX10_afraid_46 : decode cX10_afraid 46 = .ok (.ireturn, 1) := by decide +kernel
def f_Game_afraid_L4 (σ : Mem) (a : Int32 × Int32) : Option ((Int32 × Int32) ⊕ (Int32)) :=
  @Prod.casesOn (Int32) (Int32) (fun _ => Option ((Int32 × Int32) ⊕ (Int32))) a fun z1 z2 =>
  if kd (mR σ 428 1) = 2 then
    if (mI σ (mR σ 428 1) 4) ≤ z2 then
      some (.inr z1)
    else
      (f_Trade_isAfraid σ 6 z2).bind fun q3 =>
      if q3 = (0 : Int32) then
        some (.inl (z1, (z2 + (1 : Int32))))
      else
        some (.inl ((z1 ||| ((1 : Int32) <<< (z2 &&& 31))), (z2 + (1 : Int32))))
  else none
def f_Game_afraid (σ : Mem)  : Option (Int32) :=
  loopF (f_Game_afraid_L4 σ) FU ((0 : Int32), (0 : Int32))
set_option maxHeartbeats 4000000 in
set_option maxRecDepth 20000 in
theorem gs_Game_afraid_L4 (X : Cx θ p s m args c cX10_afraid 3 RX10) (hr : meth.sig.returnType = some .int) (hlk : meth.locks = false)  {σ : Mem} {r : Int32}  (z1 : Int32) (z2 : Int32) (x : (Int32 × Int32) ⊕ (Int32)) (h : f_Game_afraid_L4 σ (z1, z2) = some x) (hk : Sum.elim (fun a => @Prod.casesOn (Int32) (Int32) (fun _ => Prop) a fun z1 z2 => GB θ p l e 2 s m args below meth c 3 (some (.int r), σ) 4 [(0, .ref (be θ + 0)), (1, .int z1), (2, .int z2)] [] σ) (fun b => b = r) x) : GB θ p l e 2 s m args below meth c 3 (some (.int r), σ) 4 [(0, .ref (be θ + 0)), (1, .int z1), (2, .int z2)] [] σ := by
  unfold f_Game_afraid_L4 at h
  dsimp only at h
  refine g_iload_n X dX10_afraid_4 rfl 2 rfl ?_
  refine g_aload_n X dX10_afraid_5 rfl 0 rfl ?_
  refine g_get X fl_RX10_52 dX10_afraid_6 kd_0 (v := .ref (be θ + 428)) rfl ?_
  refine g_get X fl_RX10_137 dX10_afraid_9 kd_428 (v := rv (be θ) (mR σ 428 1)) rfl ?_
  obtain ⟨g1, h⟩ := ite_some h
  rw [← rv_of (β := be θ) g1 (by decide)]
  refine g_get X fl_RX10_287 dX10_afraid_12 g1 (v := .int (mI σ (mR σ 428 1) 4)) rfl ?_
  refine g_icmp_ge (tgt := 45) X dX10_afraid_15 (by decide) (fun c2 => ?_) (fun c2 => ?_)
  · replace h := (if_pos c2).symm.trans h
    refine g_iload_n X dX10_afraid_45 rfl 1 rfl ?_
    have hk := inr_hk h hk
    have hk : z1 = r := hk
    subst hk
    exact g_iret X hr hlk dX10_afraid_46 rfl
  · replace h := (if_neg c2).symm.trans h
    refine g_aload_n X dX10_afraid_18 rfl 0 rfl ?_
    refine g_get X fl_RX10_52 dX10_afraid_19 kd_0 (v := .ref (be θ + 428)) rfl ?_
    refine g_aload_n X dX10_afraid_22 rfl 0 rfl ?_
    refine g_get X fl_RX10_35 dX10_afraid_23 kd_0 (v := .ref (be θ + 6)) rfl ?_
    refine g_iload_n X dX10_afraid_26 rfl 2 rfl ?_
    obtain ⟨q3, hq3, h⟩ := Option.bind_eq_some_iff.mp h
    refine g_cV X (c_Trade_isAfraid kd_6 hq3) lk_RX10_427 my_X9_isAfraid (a := 428) (ci := 9) kd_428 (by decide) rfl (As := [.ref (be θ + 6), .int z2]) (rest := []) rfl rfl (Nat.le_of_ble_eq_true rfl) ⟨(Nat.le_of_ble_eq_true rfl), (Nat.le_of_ble_eq_true rfl)⟩ ⟨(Nat.le_of_ble_eq_true rfl), (Nat.le_of_ble_eq_true rfl)⟩ dX10_afraid_27 (st' := [.int q3]) (σ' := σ) rfl rfl ?_
    refine g_if_eq (tgt := 39) X dX10_afraid_30 (by decide) (fun c4 => ?_) (fun c4 => ?_)
    · replace h := (if_pos c4).symm.trans h
      refine g_iinc X dX10_afraid_39 (kq := 2) rfl (congrArg (HAdd.hAdd _) ic_1) (by decide) (lv' := [(2, .int (z2 + (1 : Int32))), (0, .ref (be θ + 0)), (1, .int z1)]) rfl ?_
      refine g_goto (tgt := 4) X dX10_afraid_42 (by decide) ?_
      have hk := inl_hk h hk
      exact g_sub (lv' := [(0, .ref (be θ + 0)), (1, .int z1), (2, .int (z2 + (1 : Int32)))]) [1, 2, 0] rfl hk
    · replace h := (if_neg c4).symm.trans h
      refine g_iload_n X dX10_afraid_33 rfl 1 rfl ?_
      refine g_iconst X dX10_afraid_34 (v := (1 : Int32)) ic_1 ?_
      refine g_iload_n X dX10_afraid_35 rfl 2 rfl ?_
      refine g_ishl X dX10_afraid_36 ?_
      refine g_ior X dX10_afraid_37 ?_
      refine g_istore_n X dX10_afraid_38 rfl (by decide) (lv' := [(1, .int (z1 ||| ((1 : Int32) <<< (z2 &&& 31)))), (0, .ref (be θ + 0)), (2, .int z2)]) rfl ?_
      refine g_iinc X dX10_afraid_39 (kq := 2) rfl (congrArg (HAdd.hAdd _) ic_1) (by decide) (lv' := [(2, .int (z2 + (1 : Int32))), (1, .int (z1 ||| ((1 : Int32) <<< (z2 &&& 31)))), (0, .ref (be θ + 0))]) rfl ?_
      refine g_goto (tgt := 4) X dX10_afraid_42 (by decide) ?_
      have hk := inl_hk h hk
      exact g_sub (lv' := [(0, .ref (be θ + 0)), (1, .int (z1 ||| ((1 : Int32) <<< (z2 &&& 31)))), (2, .int (z2 + (1 : Int32)))]) [2, 1, 0] rfl hk
set_option maxHeartbeats 4000000 in
set_option maxRecDepth 20000 in
theorem gl_Game_afraid_L4 (X : Cx θ p s m args c cX10_afraid 3 RX10) (hr : meth.sig.returnType = some .int) (hlk : meth.locks = false)  {σ : Mem} {r : Int32}  (n : Nat) (a : Int32 × Int32) (b : Int32) (h : loopF (f_Game_afraid_L4 σ) n a = some b) (hk : (fun b => b = r) b) : (fun a => @Prod.casesOn (Int32) (Int32) (fun _ => Prop) a fun z1 z2 => GB θ p l e 2 s m args below meth c 3 (some (.int r), σ) 4 [(0, .ref (be θ + 0)), (1, .int z1), (2, .int z2)] [] σ) a :=
  loopF_by (P := (fun a => @Prod.casesOn (Int32) (Int32) (fun _ => Prop) a fun z1 z2 => GB θ p l e 2 s m args below meth c 3 (some (.int r), σ) 4 [(0, .ref (be θ + 0)), (1, .int z1), (2, .int z2)] [] σ)) (K := (fun b => b = r)) (fun a x h hk => by obtain ⟨z1, z2⟩ := a; exact gs_Game_afraid_L4 X hr hlk   z1 z2 x h hk) n a b h hk
set_option maxHeartbeats 4000000 in
set_option maxRecDepth 20000 in
theorem g_Game_afraid (X : Cx θ p s m args c cX10_afraid 3 RX10) (hr : meth.sig.returnType = some .int) (hlk : meth.locks = false)  {σ : Mem}  {r : Int32}  (h : f_Game_afraid σ  = some r) : GB θ p l e 2 s m args below meth c 3 (some (.int r), σ) 0 [(0, .ref (be θ + 0))] [] σ := by
  unfold f_Game_afraid at h
  refine g_iconst X dX10_afraid_0 (v := (0 : Int32)) ic_0 ?_
  refine g_istore_n X dX10_afraid_1 rfl (by decide) (lv' := [(1, .int (0 : Int32)), (0, .ref (be θ + 0))]) rfl ?_
  refine g_iconst X dX10_afraid_2 (v := (0 : Int32)) ic_0 ?_
  refine g_istore_n X dX10_afraid_3 rfl (by decide) (lv' := [(2, .int (0 : Int32)), (1, .int (0 : Int32)), (0, .ref (be θ + 0))]) rfl ?_
  exact g_sub (lv' := [(0, .ref (be θ + 0)), (1, .int (0 : Int32)), (2, .int (0 : Int32))]) [2, 1, 0] rfl (gl_Game_afraid_L4 X hr hlk    FU _ _ h rfl)
set_option maxHeartbeats 4000000 in
set_option maxRecDepth 20000 in
theorem c_Game_afraid {θ : Th} {l : Launch} {σ : Mem}  {r : Int32}  (h : f_Game_afraid σ  = some r) : Cn θ l yX10_afraid cX10_afraid 3 (some .int) 2 0 0 [.ref (be θ + 0)] σ (some (.int r), σ) :=
  Cn.of (by decide) (Nat.le_of_ble_eq_true rfl) (fun p e s m below meth c X hr hlk => g_Game_afraid X hr hlk  h)
theorem dX10_all_0 : decode cX10_all 0 = .ok (.aload_n 0, 1) := by decide +kernel
theorem dX10_all_1 : decode cX10_all 1 = .ok (.getfield 52, 3) := by decide +kernel
theorem dX10_all_4 : decode cX10_all 4 = .ok (.invokevirtual 265, 3) := by decide +kernel
theorem dX10_all_7 : decode cX10_all 7 = .ok (.ifCond .ne 6, 3) := by decide +kernel
theorem dX10_all_10 : decode cX10_all 10 = .ok (.ldc 155, 2) := by decide +kernel
theorem dX10_all_12 : decode cX10_all 12 = .ok (.ireturn, 1) := by decide +kernel
theorem dX10_all_13 : decode cX10_all 13 = .ok (.iload_n 1, 1) := by decide +kernel
theorem dX10_all_14 : decode cX10_all 14 = .ok (.tableswitch 137 0 12 #[66, 66, 66, 66, 82, 82, 98, 106, 111, 116, 121, 129, 82], 66) := by decide +kernel
theorem dX10_all_80 : decode cX10_all 80 = .ok (.aload_n 0, 1) := by decide +kernel
theorem dX10_all_81 : decode cX10_all 81 = .ok (.iload_n 1, 1) := by decide +kernel
theorem dX10_all_82 : decode cX10_all 82 = .ok (.aload_n 0, 1) := by decide +kernel
theorem dX10_all_83 : decode cX10_all 83 = .ok (.getfield 52, 3) := by decide +kernel
theorem dX10_all_86 : decode cX10_all 86 = .ok (.getfield 137, 3) := by decide +kernel
theorem dX10_all_89 : decode cX10_all 89 = .ok (.getfield 287, 3) := by decide +kernel
theorem dX10_all_92 : decode cX10_all 92 = .ok (.invokevirtual 409, 3) := by decide +kernel
theorem dX10_all_95 : decode cX10_all 95 = .ok (.ireturn, 1) := by decide +kernel
theorem dX10_all_96 : decode cX10_all 96 = .ok (.aload_n 0, 1) := by decide +kernel
theorem dX10_all_97 : decode cX10_all 97 = .ok (.iload_n 1, 1) := by decide +kernel
theorem dX10_all_98 : decode cX10_all 98 = .ok (.aload_n 0, 1) := by decide +kernel
theorem dX10_all_99 : decode cX10_all 99 = .ok (.getfield 52, 3) := by decide +kernel
theorem dX10_all_102 : decode cX10_all 102 = .ok (.getfield 137, 3) := by decide +kernel
theorem dX10_all_105 : decode cX10_all 105 = .ok (.getfield 148, 3) := by decide +kernel
theorem dX10_all_108 : decode cX10_all 108 = .ok (.invokevirtual 409, 3) := by decide +kernel
theorem dX10_all_111 : decode cX10_all 111 = .ok (.ireturn, 1) := by decide +kernel
theorem dX10_all_112 : decode cX10_all 112 = .ok (.aload_n 0, 1) := by decide +kernel
theorem dX10_all_113 : decode cX10_all 113 = .ok (.getfield 35, 3) := by decide +kernel
theorem dX10_all_116 : decode cX10_all 116 = .ok (.invokevirtual 256, 3) := by decide +kernel
theorem dX10_all_119 : decode cX10_all 119 = .ok (.ireturn, 1) := by decide +kernel
theorem dX10_all_120 : decode cX10_all 120 = .ok (.aload_n 0, 1) := by decide +kernel
theorem dX10_all_121 : decode cX10_all 121 = .ok (.invokevirtual 412, 3) := by decide +kernel
theorem dX10_all_124 : decode cX10_all 124 = .ok (.ireturn, 1) := by decide +kernel
theorem dX10_all_125 : decode cX10_all 125 = .ok (.aload_n 0, 1) := by decide +kernel
theorem dX10_all_126 : decode cX10_all 126 = .ok (.invokevirtual 415, 3) := by decide +kernel
theorem dX10_all_129 : decode cX10_all 129 = .ok (.ireturn, 1) := by decide +kernel
theorem dX10_all_130 : decode cX10_all 130 = .ok (.aload_n 0, 1) := by decide +kernel
theorem dX10_all_131 : decode cX10_all 131 = .ok (.invokevirtual 418, 3) := by decide +kernel
theorem dX10_all_134 : decode cX10_all 134 = .ok (.ireturn, 1) := by decide +kernel
theorem dX10_all_135 : decode cX10_all 135 = .ok (.aload_n 0, 1) := by decide +kernel
theorem dX10_all_136 : decode cX10_all 136 = .ok (.getfield 35, 3) := by decide +kernel
theorem dX10_all_139 : decode cX10_all 139 = .ok (.invokevirtual 327, 3) := by decide +kernel
theorem dX10_all_142 : decode cX10_all 142 = .ok (.ireturn, 1) := by decide +kernel
theorem dX10_all_143 : decode cX10_all 143 = .ok (.aload_n 0, 1) := by decide +kernel
theorem dX10_all_144 : decode cX10_all 144 = .ok (.getfield 35, 3) := by decide +kernel
theorem dX10_all_147 : decode cX10_all 147 = .ok (.getfield 262, 3) := by decide +kernel
theorem dX10_all_150 : decode cX10_all 150 = .ok (.ireturn, 1) := by decide +kernel
theorem dX10_all_151 : decode cX10_all 151 = .ok (.ldc 155, 2) := by decide +kernel
theorem dX10_all_153 : decode cX10_all 153 = .ok (.ireturn, 1) := by decide +kernel
def f_Game_all (σ : Mem) (x1 : Int32) : Option (Int32 × Mem) :=
  (f_Trade_hasCity σ).bind fun q1 =>
  if q1 = (0 : Int32) then
    some ((-1000000 : Int32), σ)
  else
    if x1 = (0 : Int32) then
      if kd (mR σ 428 1) = 2 then
        (f_Game_firstWithMost σ x1 (mI σ (mR σ 428 1) 4)).bind fun q5 =>
        some (q5.1, q5.2)
      else none
    else
    if x1 = (1 : Int32) then
      if kd (mR σ 428 1) = 2 then
        (f_Game_firstWithMost σ x1 (mI σ (mR σ 428 1) 4)).bind fun q8 =>
        some (q8.1, q8.2)
      else none
    else
    if x1 = (2 : Int32) then
      if kd (mR σ 428 1) = 2 then
        (f_Game_firstWithMost σ x1 (mI σ (mR σ 428 1) 4)).bind fun q11 =>
        some (q11.1, q11.2)
      else none
    else
    if x1 = (3 : Int32) then
      if kd (mR σ 428 1) = 2 then
        (f_Game_firstWithMost σ x1 (mI σ (mR σ 428 1) 4)).bind fun q14 =>
        some (q14.1, q14.2)
      else none
    else
    if x1 = (4 : Int32) then
      if kd (mR σ 428 1) = 2 then
        (f_Game_firstWithMost σ x1 (mI σ (mR σ 428 1) 3)).bind fun q17 =>
        some (q17.1, q17.2)
      else none
    else
    if x1 = (5 : Int32) then
      if kd (mR σ 428 1) = 2 then
        (f_Game_firstWithMost σ x1 (mI σ (mR σ 428 1) 3)).bind fun q20 =>
        some (q20.1, q20.2)
      else none
    else
    if x1 = (6 : Int32) then
      (f_State_holders σ 6).bind fun q22 =>
      some (q22, σ)
    else
    if x1 = (7 : Int32) then
      (f_Game_freeThings σ).bind fun q24 =>
      some (q24, σ)
    else
    if x1 = (8 : Int32) then
      (f_Game_soldThings σ).bind fun q26 =>
      some (q26, σ)
    else
    if x1 = (9 : Int32) then
      (f_Game_afraid σ).bind fun q28 =>
      some (q28, σ)
    else
    if x1 = (10 : Int32) then
      (f_State_dueOfAll σ 6).bind fun q30 =>
      some (q30, σ)
    else
    if x1 = (11 : Int32) then
      some ((mI σ 6 12), σ)
    else
    if x1 = (12 : Int32) then
      if kd (mR σ 428 1) = 2 then
        (f_Game_firstWithMost σ x1 (mI σ (mR σ 428 1) 3)).bind fun q34 =>
        some (q34.1, q34.2)
      else none
    else
    some ((-1000000 : Int32), σ)
set_option maxHeartbeats 4000000 in
set_option maxRecDepth 20000 in
theorem g_Game_all (X : Cx θ p s m args c cX10_all 2 RX10) (hr : meth.sig.returnType = some .int) (hlk : meth.locks = false)  {σ : Mem} {x1 : Int32} {r : Int32 × Mem}  (h : f_Game_all σ x1 = some r) : GB θ p l e 6 s m args below meth c 2 (some (.int r.1), r.2) 0 [(0, .ref (be θ + 0)), (1, .int x1)] [] σ := by
  unfold f_Game_all at h
  refine g_aload_n X dX10_all_0 rfl 0 rfl ?_
  refine g_get X fl_RX10_52 dX10_all_1 kd_0 (v := .ref (be θ + 428)) rfl ?_
  obtain ⟨q1, hq1, h⟩ := Option.bind_eq_some_iff.mp h
  refine g_cV X (c_Trade_hasCity  hq1) lk_RX10_265 my_X9_hasCity (a := 428) (ci := 9) kd_428 (by decide) rfl (As := []) (rest := []) rfl rfl (Nat.le_of_ble_eq_true rfl) ⟨(Nat.le_of_ble_eq_true rfl), (Nat.le_of_ble_eq_true rfl)⟩ ⟨(Nat.le_of_ble_eq_true rfl), (Nat.le_of_ble_eq_true rfl)⟩ dX10_all_4 (st' := [.int q1]) (σ' := σ) rfl rfl ?_
  refine g_if_ne (tgt := 13) X dX10_all_7 (by decide) (fun c2 => ?_) (fun c2 => ?_)
  · replace h := (if_neg c2).symm.trans h
    refine g_iload_n X dX10_all_13 rfl 1 rfl ?_
    by_cases c3 : x1 = (0 : Int32)
    · replace h := (if_pos c3).symm.trans h
      refine g_tableIn (tgt := 80) (off := 66) X dX10_all_14 (by rw [c3]; decide) (by rw [c3]; decide) (by rw [c3]; rfl) (by decide) ?_
      refine g_aload_n X dX10_all_80 rfl 0 rfl ?_
      refine g_iload_n X dX10_all_81 rfl 1 rfl ?_
      refine g_aload_n X dX10_all_82 rfl 0 rfl ?_
      refine g_get X fl_RX10_52 dX10_all_83 kd_0 (v := .ref (be θ + 428)) rfl ?_
      refine g_get X fl_RX10_137 dX10_all_86 kd_428 (v := rv (be θ) (mR σ 428 1)) rfl ?_
      obtain ⟨g4, h⟩ := ite_some h
      rw [← rv_of (β := be θ) g4 (by decide)]
      refine g_get X fl_RX10_287 dX10_all_89 g4 (v := .int (mI σ (mR σ 428 1) 4)) rfl ?_
      obtain ⟨q5, hq5, h⟩ := Option.bind_eq_some_iff.mp h
      refine g_cV X (c_Game_firstWithMost  hq5) lk_RX10_409 my_X10_firstWithMost (a := 0) (ci := 10) kd_0 (by decide) rfl (As := [.int x1, .int (mI σ (mR σ 428 1) 4)]) (rest := []) rfl rfl (Nat.le_of_ble_eq_true rfl) ⟨(Nat.le_of_ble_eq_true rfl), (Nat.le_of_ble_eq_true rfl)⟩ ⟨(Nat.le_of_ble_eq_true rfl), (Nat.le_of_ble_eq_true rfl)⟩ dX10_all_92 (st' := [.int q5.1]) (σ' := q5.2) rfl rfl ?_
      exact g_iret X hr hlk dX10_all_95 (by cases h; rfl)
    replace h := (if_neg c3).symm.trans h
    by_cases c6 : x1 = (1 : Int32)
    · replace h := (if_pos c6).symm.trans h
      refine g_tableIn (tgt := 80) (off := 66) X dX10_all_14 (by rw [c6]; decide) (by rw [c6]; decide) (by rw [c6]; rfl) (by decide) ?_
      refine g_aload_n X dX10_all_80 rfl 0 rfl ?_
      refine g_iload_n X dX10_all_81 rfl 1 rfl ?_
      refine g_aload_n X dX10_all_82 rfl 0 rfl ?_
      refine g_get X fl_RX10_52 dX10_all_83 kd_0 (v := .ref (be θ + 428)) rfl ?_
      refine g_get X fl_RX10_137 dX10_all_86 kd_428 (v := rv (be θ) (mR σ 428 1)) rfl ?_
      obtain ⟨g7, h⟩ := ite_some h
      rw [← rv_of (β := be θ) g7 (by decide)]
      refine g_get X fl_RX10_287 dX10_all_89 g7 (v := .int (mI σ (mR σ 428 1) 4)) rfl ?_
      obtain ⟨q8, hq8, h⟩ := Option.bind_eq_some_iff.mp h
      refine g_cV X (c_Game_firstWithMost  hq8) lk_RX10_409 my_X10_firstWithMost (a := 0) (ci := 10) kd_0 (by decide) rfl (As := [.int x1, .int (mI σ (mR σ 428 1) 4)]) (rest := []) rfl rfl (Nat.le_of_ble_eq_true rfl) ⟨(Nat.le_of_ble_eq_true rfl), (Nat.le_of_ble_eq_true rfl)⟩ ⟨(Nat.le_of_ble_eq_true rfl), (Nat.le_of_ble_eq_true rfl)⟩ dX10_all_92 (st' := [.int q8.1]) (σ' := q8.2) rfl rfl ?_
      exact g_iret X hr hlk dX10_all_95 (by cases h; rfl)
    replace h := (if_neg c6).symm.trans h
    by_cases c9 : x1 = (2 : Int32)
    · replace h := (if_pos c9).symm.trans h
      refine g_tableIn (tgt := 80) (off := 66) X dX10_all_14 (by rw [c9]; decide) (by rw [c9]; decide) (by rw [c9]; rfl) (by decide) ?_
      refine g_aload_n X dX10_all_80 rfl 0 rfl ?_
      refine g_iload_n X dX10_all_81 rfl 1 rfl ?_
      refine g_aload_n X dX10_all_82 rfl 0 rfl ?_
      refine g_get X fl_RX10_52 dX10_all_83 kd_0 (v := .ref (be θ + 428)) rfl ?_
      refine g_get X fl_RX10_137 dX10_all_86 kd_428 (v := rv (be θ) (mR σ 428 1)) rfl ?_
      obtain ⟨g10, h⟩ := ite_some h
      rw [← rv_of (β := be θ) g10 (by decide)]
      refine g_get X fl_RX10_287 dX10_all_89 g10 (v := .int (mI σ (mR σ 428 1) 4)) rfl ?_
      obtain ⟨q11, hq11, h⟩ := Option.bind_eq_some_iff.mp h
      refine g_cV X (c_Game_firstWithMost  hq11) lk_RX10_409 my_X10_firstWithMost (a := 0) (ci := 10) kd_0 (by decide) rfl (As := [.int x1, .int (mI σ (mR σ 428 1) 4)]) (rest := []) rfl rfl (Nat.le_of_ble_eq_true rfl) ⟨(Nat.le_of_ble_eq_true rfl), (Nat.le_of_ble_eq_true rfl)⟩ ⟨(Nat.le_of_ble_eq_true rfl), (Nat.le_of_ble_eq_true rfl)⟩ dX10_all_92 (st' := [.int q11.1]) (σ' := q11.2) rfl rfl ?_
      exact g_iret X hr hlk dX10_all_95 (by cases h; rfl)
    replace h := (if_neg c9).symm.trans h
    by_cases c12 : x1 = (3 : Int32)
    · replace h := (if_pos c12).symm.trans h
      refine g_tableIn (tgt := 80) (off := 66) X dX10_all_14 (by rw [c12]; decide) (by rw [c12]; decide) (by rw [c12]; rfl) (by decide) ?_
      refine g_aload_n X dX10_all_80 rfl 0 rfl ?_
      refine g_iload_n X dX10_all_81 rfl 1 rfl ?_
      refine g_aload_n X dX10_all_82 rfl 0 rfl ?_
      refine g_get X fl_RX10_52 dX10_all_83 kd_0 (v := .ref (be θ + 428)) rfl ?_
      refine g_get X fl_RX10_137 dX10_all_86 kd_428 (v := rv (be θ) (mR σ 428 1)) rfl ?_
      obtain ⟨g13, h⟩ := ite_some h
      rw [← rv_of (β := be θ) g13 (by decide)]
      refine g_get X fl_RX10_287 dX10_all_89 g13 (v := .int (mI σ (mR σ 428 1) 4)) rfl ?_
      obtain ⟨q14, hq14, h⟩ := Option.bind_eq_some_iff.mp h
      refine g_cV X (c_Game_firstWithMost  hq14) lk_RX10_409 my_X10_firstWithMost (a := 0) (ci := 10) kd_0 (by decide) rfl (As := [.int x1, .int (mI σ (mR σ 428 1) 4)]) (rest := []) rfl rfl (Nat.le_of_ble_eq_true rfl) ⟨(Nat.le_of_ble_eq_true rfl), (Nat.le_of_ble_eq_true rfl)⟩ ⟨(Nat.le_of_ble_eq_true rfl), (Nat.le_of_ble_eq_true rfl)⟩ dX10_all_92 (st' := [.int q14.1]) (σ' := q14.2) rfl rfl ?_
      exact g_iret X hr hlk dX10_all_95 (by cases h; rfl)
    replace h := (if_neg c12).symm.trans h
    by_cases c15 : x1 = (4 : Int32)
    · replace h := (if_pos c15).symm.trans h
      refine g_tableIn (tgt := 96) (off := 82) X dX10_all_14 (by rw [c15]; decide) (by rw [c15]; decide) (by rw [c15]; rfl) (by decide) ?_
      refine g_aload_n X dX10_all_96 rfl 0 rfl ?_
      refine g_iload_n X dX10_all_97 rfl 1 rfl ?_
      refine g_aload_n X dX10_all_98 rfl 0 rfl ?_
      refine g_get X fl_RX10_52 dX10_all_99 kd_0 (v := .ref (be θ + 428)) rfl ?_
      refine g_get X fl_RX10_137 dX10_all_102 kd_428 (v := rv (be θ) (mR σ 428 1)) rfl ?_
      obtain ⟨g16, h⟩ := ite_some h
      rw [← rv_of (β := be θ) g16 (by decide)]
      refine g_get X fl_RX10_148 dX10_all_105 g16 (v := .int (mI σ (mR σ 428 1) 3)) rfl ?_
      obtain ⟨q17, hq17, h⟩ := Option.bind_eq_some_iff.mp h
      refine g_cV X (c_Game_firstWithMost  hq17) lk_RX10_409 my_X10_firstWithMost (a := 0) (ci := 10) kd_0 (by decide) rfl (As := [.int x1, .int (mI σ (mR σ 428 1) 3)]) (rest := []) rfl rfl (Nat.le_of_ble_eq_true rfl) ⟨(Nat.le_of_ble_eq_true rfl), (Nat.le_of_ble_eq_true rfl)⟩ ⟨(Nat.le_of_ble_eq_true rfl), (Nat.le_of_ble_eq_true rfl)⟩ dX10_all_108 (st' := [.int q17.1]) (σ' := q17.2) rfl rfl ?_
      exact g_iret X hr hlk dX10_all_111 (by cases h; rfl)
    replace h := (if_neg c15).symm.trans h
    by_cases c18 : x1 = (5 : Int32)
    · replace h := (if_pos c18).symm.trans h
      refine g_tableIn (tgt := 96) (off := 82) X dX10_all_14 (by rw [c18]; decide) (by rw [c18]; decide) (by rw [c18]; rfl) (by decide) ?_
      refine g_aload_n X dX10_all_96 rfl 0 rfl ?_
      refine g_iload_n X dX10_all_97 rfl 1 rfl ?_
      refine g_aload_n X dX10_all_98 rfl 0 rfl ?_
      refine g_get X fl_RX10_52 dX10_all_99 kd_0 (v := .ref (be θ + 428)) rfl ?_
      refine g_get X fl_RX10_137 dX10_all_102 kd_428 (v := rv (be θ) (mR σ 428 1)) rfl ?_
      obtain ⟨g19, h⟩ := ite_some h
      rw [← rv_of (β := be θ) g19 (by decide)]
      refine g_get X fl_RX10_148 dX10_all_105 g19 (v := .int (mI σ (mR σ 428 1) 3)) rfl ?_
      obtain ⟨q20, hq20, h⟩ := Option.bind_eq_some_iff.mp h
      refine g_cV X (c_Game_firstWithMost  hq20) lk_RX10_409 my_X10_firstWithMost (a := 0) (ci := 10) kd_0 (by decide) rfl (As := [.int x1, .int (mI σ (mR σ 428 1) 3)]) (rest := []) rfl rfl (Nat.le_of_ble_eq_true rfl) ⟨(Nat.le_of_ble_eq_true rfl), (Nat.le_of_ble_eq_true rfl)⟩ ⟨(Nat.le_of_ble_eq_true rfl), (Nat.le_of_ble_eq_true rfl)⟩ dX10_all_108 (st' := [.int q20.1]) (σ' := q20.2) rfl rfl ?_
      exact g_iret X hr hlk dX10_all_111 (by cases h; rfl)
    replace h := (if_neg c18).symm.trans h
    by_cases c21 : x1 = (6 : Int32)
    · replace h := (if_pos c21).symm.trans h
      refine g_tableIn (tgt := 112) (off := 98) X dX10_all_14 (by rw [c21]; decide) (by rw [c21]; decide) (by rw [c21]; rfl) (by decide) ?_
      refine g_aload_n X dX10_all_112 rfl 0 rfl ?_
      refine g_get X fl_RX10_35 dX10_all_113 kd_0 (v := .ref (be θ + 6)) rfl ?_
      obtain ⟨q22, hq22, h⟩ := Option.bind_eq_some_iff.mp h
      refine g_cV X (c_State_holders kd_6 hq22) lk_RX10_256 my_X7_holders (a := 6) (ci := 7) kd_6 (by decide) rfl (As := []) (rest := []) rfl rfl (Nat.le_of_ble_eq_true rfl) ⟨(Nat.le_of_ble_eq_true rfl), (Nat.le_of_ble_eq_true rfl)⟩ ⟨(Nat.le_of_ble_eq_true rfl), (Nat.le_of_ble_eq_true rfl)⟩ dX10_all_116 (st' := [.int q22]) (σ' := σ) rfl rfl ?_
      exact g_iret X hr hlk dX10_all_119 (by cases h; rfl)
    replace h := (if_neg c21).symm.trans h
    by_cases c23 : x1 = (7 : Int32)
    · replace h := (if_pos c23).symm.trans h
      refine g_tableIn (tgt := 120) (off := 106) X dX10_all_14 (by rw [c23]; decide) (by rw [c23]; decide) (by rw [c23]; rfl) (by decide) ?_
      refine g_aload_n X dX10_all_120 rfl 0 rfl ?_
      obtain ⟨q24, hq24, h⟩ := Option.bind_eq_some_iff.mp h
      refine g_cV X (c_Game_freeThings  hq24) lk_RX10_412 my_X10_freeThings (a := 0) (ci := 10) kd_0 (by decide) rfl (As := []) (rest := []) rfl rfl (Nat.le_of_ble_eq_true rfl) ⟨(Nat.le_of_ble_eq_true rfl), (Nat.le_of_ble_eq_true rfl)⟩ ⟨(Nat.le_of_ble_eq_true rfl), (Nat.le_of_ble_eq_true rfl)⟩ dX10_all_121 (st' := [.int q24]) (σ' := σ) rfl rfl ?_
      exact g_iret X hr hlk dX10_all_124 (by cases h; rfl)
    replace h := (if_neg c23).symm.trans h
    by_cases c25 : x1 = (8 : Int32)
    · replace h := (if_pos c25).symm.trans h
      refine g_tableIn (tgt := 125) (off := 111) X dX10_all_14 (by rw [c25]; decide) (by rw [c25]; decide) (by rw [c25]; rfl) (by decide) ?_
      refine g_aload_n X dX10_all_125 rfl 0 rfl ?_
      obtain ⟨q26, hq26, h⟩ := Option.bind_eq_some_iff.mp h
      refine g_cV X (c_Game_soldThings  hq26) lk_RX10_415 my_X10_soldThings (a := 0) (ci := 10) kd_0 (by decide) rfl (As := []) (rest := []) rfl rfl (Nat.le_of_ble_eq_true rfl) ⟨(Nat.le_of_ble_eq_true rfl), (Nat.le_of_ble_eq_true rfl)⟩ ⟨(Nat.le_of_ble_eq_true rfl), (Nat.le_of_ble_eq_true rfl)⟩ dX10_all_126 (st' := [.int q26]) (σ' := σ) rfl rfl ?_
      exact g_iret X hr hlk dX10_all_129 (by cases h; rfl)
    replace h := (if_neg c25).symm.trans h
    by_cases c27 : x1 = (9 : Int32)
    · replace h := (if_pos c27).symm.trans h
      refine g_tableIn (tgt := 130) (off := 116) X dX10_all_14 (by rw [c27]; decide) (by rw [c27]; decide) (by rw [c27]; rfl) (by decide) ?_
      refine g_aload_n X dX10_all_130 rfl 0 rfl ?_
      obtain ⟨q28, hq28, h⟩ := Option.bind_eq_some_iff.mp h
      refine g_cV X (c_Game_afraid  hq28) lk_RX10_418 my_X10_afraid (a := 0) (ci := 10) kd_0 (by decide) rfl (As := []) (rest := []) rfl rfl (Nat.le_of_ble_eq_true rfl) ⟨(Nat.le_of_ble_eq_true rfl), (Nat.le_of_ble_eq_true rfl)⟩ ⟨(Nat.le_of_ble_eq_true rfl), (Nat.le_of_ble_eq_true rfl)⟩ dX10_all_131 (st' := [.int q28]) (σ' := σ) rfl rfl ?_
      exact g_iret X hr hlk dX10_all_134 (by cases h; rfl)
    replace h := (if_neg c27).symm.trans h
    by_cases c29 : x1 = (10 : Int32)
    · replace h := (if_pos c29).symm.trans h
      refine g_tableIn (tgt := 135) (off := 121) X dX10_all_14 (by rw [c29]; decide) (by rw [c29]; decide) (by rw [c29]; rfl) (by decide) ?_
      refine g_aload_n X dX10_all_135 rfl 0 rfl ?_
      refine g_get X fl_RX10_35 dX10_all_136 kd_0 (v := .ref (be θ + 6)) rfl ?_
      obtain ⟨q30, hq30, h⟩ := Option.bind_eq_some_iff.mp h
      refine g_cV X (c_State_dueOfAll kd_6 hq30) lk_RX10_327 my_X7_dueOfAll (a := 6) (ci := 7) kd_6 (by decide) rfl (As := []) (rest := []) rfl rfl (Nat.le_of_ble_eq_true rfl) ⟨(Nat.le_of_ble_eq_true rfl), (Nat.le_of_ble_eq_true rfl)⟩ ⟨(Nat.le_of_ble_eq_true rfl), (Nat.le_of_ble_eq_true rfl)⟩ dX10_all_139 (st' := [.int q30]) (σ' := σ) rfl rfl ?_
      exact g_iret X hr hlk dX10_all_142 (by cases h; rfl)
    replace h := (if_neg c29).symm.trans h
    by_cases c31 : x1 = (11 : Int32)
    · replace h := (if_pos c31).symm.trans h
      refine g_tableIn (tgt := 143) (off := 129) X dX10_all_14 (by rw [c31]; decide) (by rw [c31]; decide) (by rw [c31]; rfl) (by decide) ?_
      refine g_aload_n X dX10_all_143 rfl 0 rfl ?_
      refine g_get X fl_RX10_35 dX10_all_144 kd_0 (v := .ref (be θ + 6)) rfl ?_
      refine g_get X fl_RX10_262 dX10_all_147 kd_6 (v := .int (mI σ 6 12)) rfl ?_
      exact g_iret X hr hlk dX10_all_150 (by cases h; rfl)
    replace h := (if_neg c31).symm.trans h
    by_cases c32 : x1 = (12 : Int32)
    · replace h := (if_pos c32).symm.trans h
      refine g_tableIn (tgt := 96) (off := 82) X dX10_all_14 (by rw [c32]; decide) (by rw [c32]; decide) (by rw [c32]; rfl) (by decide) ?_
      refine g_aload_n X dX10_all_96 rfl 0 rfl ?_
      refine g_iload_n X dX10_all_97 rfl 1 rfl ?_
      refine g_aload_n X dX10_all_98 rfl 0 rfl ?_
      refine g_get X fl_RX10_52 dX10_all_99 kd_0 (v := .ref (be θ + 428)) rfl ?_
      refine g_get X fl_RX10_137 dX10_all_102 kd_428 (v := rv (be θ) (mR σ 428 1)) rfl ?_
      obtain ⟨g33, h⟩ := ite_some h
      rw [← rv_of (β := be θ) g33 (by decide)]
      refine g_get X fl_RX10_148 dX10_all_105 g33 (v := .int (mI σ (mR σ 428 1) 3)) rfl ?_
      obtain ⟨q34, hq34, h⟩ := Option.bind_eq_some_iff.mp h
      refine g_cV X (c_Game_firstWithMost  hq34) lk_RX10_409 my_X10_firstWithMost (a := 0) (ci := 10) kd_0 (by decide) rfl (As := [.int x1, .int (mI σ (mR σ 428 1) 3)]) (rest := []) rfl rfl (Nat.le_of_ble_eq_true rfl) ⟨(Nat.le_of_ble_eq_true rfl), (Nat.le_of_ble_eq_true rfl)⟩ ⟨(Nat.le_of_ble_eq_true rfl), (Nat.le_of_ble_eq_true rfl)⟩ dX10_all_108 (st' := [.int q34.1]) (σ' := q34.2) rfl rfl ?_
      exact g_iret X hr hlk dX10_all_111 (by cases h; rfl)
    replace h := (if_neg c32).symm.trans h
    have nc3 := neT c3
    have nc6 := neT c6
    have nc9 := neT c9
    have nc12 := neT c12
    have nc15 := neT c15
    have nc18 := neT c18
    have nc21 := neT c21
    have nc23 := neT c23
    have nc25 := neT c25
    have nc27 := neT c27
    have nc29 := neT c29
    have nc31 := neT c31
    have nc32 := neT c32
    have w35 : x1.toInt < 0 ∨ 12 < x1.toInt := by
      rw [show (0 : Int32).toInt = 0 from rfl] at nc3
      rw [show (1 : Int32).toInt = 1 from rfl] at nc6
      rw [show (2 : Int32).toInt = 2 from rfl] at nc9
      rw [show (3 : Int32).toInt = 3 from rfl] at nc12
      rw [show (4 : Int32).toInt = 4 from rfl] at nc15
      rw [show (5 : Int32).toInt = 5 from rfl] at nc18
      rw [show (6 : Int32).toInt = 6 from rfl] at nc21
      rw [show (7 : Int32).toInt = 7 from rfl] at nc23
      rw [show (8 : Int32).toInt = 8 from rfl] at nc25
      rw [show (9 : Int32).toInt = 9 from rfl] at nc27
      rw [show (10 : Int32).toInt = 10 from rfl] at nc29
      rw [show (11 : Int32).toInt = 11 from rfl] at nc31
      rw [show (12 : Int32).toInt = 12 from rfl] at nc32
      omega
    refine g_tableOut (tgt := 151) X dX10_all_14 w35 (by decide) ?_
    refine g_ldc X cst_RX10_155 dX10_all_151 ?_
    exact g_iret X hr hlk dX10_all_153 (by cases h; rfl)
  · replace h := (if_pos c2).symm.trans h
    refine g_ldc X cst_RX10_155 dX10_all_10 ?_
    exact g_iret X hr hlk dX10_all_12 (by cases h; rfl)
set_option maxHeartbeats 4000000 in
set_option maxRecDepth 20000 in
theorem c_Game_all {θ : Th} {l : Launch} {σ : Mem} {x1 : Int32} {r : Int32 × Mem}  (h : f_Game_all σ x1 = some r) : Cn θ l yX10_all cX10_all 2 (some .int) 6 0 0 [.ref (be θ + 0), .int x1] σ (some (.int r.1), r.2) :=
  Cn.of (by decide) (Nat.le_of_ble_eq_true rfl) (fun p e s m below meth c X hr hlk => g_Game_all X hr hlk  h)
theorem dX10_image_0 : decode cX10_image 0 = .ok (.aload_n 0, 1) := by decide +kernel
theorem dX10_image_1 : decode cX10_image 1 = .ok (.getfield 52, 3) := by decide +kernel
theorem dX10_image_4 : decode cX10_image 4 = .ok (.invokevirtual 265, 3) := by decide +kernel
theorem dX10_image_7 : decode cX10_image 7 = .ok (.ifCond .ne 5, 3) := by decide +kernel
theorem dX10_image_10 : decode cX10_image 10 = .ok (.iconst (-1), 1) := by decide +kernel
theorem dX10_image_11 : decode cX10_image 11 = .ok (.ireturn, 1) := by decide +kernel
theorem dX10_image_12 : decode cX10_image 12 = .ok (.aload_n 0, 1) := by decide +kernel
theorem dX10_image_13 : decode cX10_image 13 = .ok (.getfield 39, 3) := by decide +kernel
theorem dX10_image_16 : decode cX10_image 16 = .ok (.aload_n 0, 1) := by decide +kernel
theorem dX10_image_17 : decode cX10_image 17 = .ok (.getfield 35, 3) := by decide +kernel
theorem dX10_image_20 : decode cX10_image 20 = .ok (.invokevirtual 431, 3) := by decide +kernel
theorem dX10_image_23 : decode cX10_image 23 = .ok (.aload_n 0, 1) := by decide +kernel
theorem dX10_image_24 : decode cX10_image 24 = .ok (.iconst 1, 1) := by decide +kernel
theorem dX10_image_25 : decode cX10_image 25 = .ok (.putfield 97, 3) := by decide +kernel
theorem dX10_image_28 : decode cX10_image 28 = .ok (.aload_n 0, 1) := by decide +kernel
theorem dX10_image_29 : decode cX10_image 29 = .ok (.getfield 35, 3) := by decide +kernel
theorem dX10_image_32 : decode cX10_image 32 = .ok (.getfield 278, 3) := by decide +kernel
theorem dX10_image_35 : decode cX10_image 35 = .ok (.ireturn, 1) := by decide +kernel
def f_Game_image (σ : Mem)  : Option (Int32 × Mem) :=
  (f_Trade_hasCity σ).bind fun q1 =>
  if q1 = (0 : Int32) then
    some ((-1 : Int32), σ)
  else
    (f_State_copyFrom σ 16 6).bind fun q3 =>
    some ((mI (sI q3 0 16 (1 : Int32)) 6 14), (sI q3 0 16 (1 : Int32)))
set_option maxHeartbeats 4000000 in
set_option maxRecDepth 20000 in
theorem g_Game_image (X : Cx θ p s m args c cX10_image 1 RX10) (hr : meth.sig.returnType = some .int) (hlk : meth.locks = false)  {σ : Mem}  {r : Int32 × Mem}  (h : f_Game_image σ  = some r) : GB θ p l e 2 s m args below meth c 1 (some (.int r.1), r.2) 0 [(0, .ref (be θ + 0))] [] σ := by
  unfold f_Game_image at h
  refine g_aload_n X dX10_image_0 rfl 0 rfl ?_
  refine g_get X fl_RX10_52 dX10_image_1 kd_0 (v := .ref (be θ + 428)) rfl ?_
  obtain ⟨q1, hq1, h⟩ := Option.bind_eq_some_iff.mp h
  refine g_cV X (c_Trade_hasCity  hq1) lk_RX10_265 my_X9_hasCity (a := 428) (ci := 9) kd_428 (by decide) rfl (As := []) (rest := []) rfl rfl (Nat.le_of_ble_eq_true rfl) ⟨(Nat.le_of_ble_eq_true rfl), (Nat.le_of_ble_eq_true rfl)⟩ ⟨(Nat.le_of_ble_eq_true rfl), (Nat.le_of_ble_eq_true rfl)⟩ dX10_image_4 (st' := [.int q1]) (σ' := σ) rfl rfl ?_
  refine g_if_ne (tgt := 12) X dX10_image_7 (by decide) (fun c2 => ?_) (fun c2 => ?_)
  · replace h := (if_neg c2).symm.trans h
    refine g_aload_n X dX10_image_12 rfl 0 rfl ?_
    refine g_get X fl_RX10_39 dX10_image_13 kd_0 (v := .ref (be θ + 16)) rfl ?_
    refine g_aload_n X dX10_image_16 rfl 0 rfl ?_
    refine g_get X fl_RX10_35 dX10_image_17 kd_0 (v := .ref (be θ + 6)) rfl ?_
    obtain ⟨q3, hq3, h⟩ := Option.bind_eq_some_iff.mp h
    refine g_cV X (c_State_copyFrom kd_16 kd_6 hq3) lk_RX10_431 my_X7_copyFrom (a := 16) (ci := 7) kd_16 (by decide) rfl (As := [.ref (be θ + 6)]) (rest := []) rfl rfl (Nat.le_of_ble_eq_true rfl) ⟨(Nat.le_of_ble_eq_true rfl), (Nat.le_of_ble_eq_true rfl)⟩ ⟨(Nat.le_of_ble_eq_true rfl), (Nat.le_of_ble_eq_true rfl)⟩ dX10_image_20 (st' := []) (σ' := q3) rfl rfl ?_
    refine g_aload_n X dX10_image_23 rfl 0 rfl ?_
    refine g_iconst X dX10_image_24 (v := (1 : Int32)) ic_1 ?_
    refine g_putZ X fl_RX10_97 dX10_image_25 kd_0 rfl rfl rfl bz1 ?_
    refine g_aload_n X dX10_image_28 rfl 0 rfl ?_
    refine g_get X fl_RX10_35 dX10_image_29 kd_0 (v := .ref (be θ + 6)) rfl ?_
    refine g_get X fl_RX10_278 dX10_image_32 kd_6 (v := .int (mI (sI q3 0 16 (1 : Int32)) 6 14)) rfl ?_
    exact g_iret X hr hlk dX10_image_35 (by cases h; rfl)
  · replace h := (if_pos c2).symm.trans h
    refine g_iconst X dX10_image_10 (v := (-1 : Int32)) ic_m1 ?_
    exact g_iret X hr hlk dX10_image_11 (by cases h; rfl)
set_option maxHeartbeats 4000000 in
set_option maxRecDepth 20000 in
theorem c_Game_image {θ : Th} {l : Launch} {σ : Mem}  {r : Int32 × Mem}  (h : f_Game_image σ  = some r) : Cn θ l yX10_image cX10_image 1 (some .int) 2 0 0 [.ref (be θ + 0)] σ (some (.int r.1), r.2) :=
  Cn.of (by decide) (Nat.le_of_ble_eq_true rfl) (fun p e s m below meth c X hr hlk => g_Game_image X hr hlk  h)
theorem dX10_back_0 : decode cX10_back 0 = .ok (.aload_n 0, 1) := by decide +kernel
theorem dX10_back_1 : decode cX10_back 1 = .ok (.getfield 97, 3) := by decide +kernel
theorem dX10_back_4 : decode cX10_back 4 = .ok (.ifCond .ne 5, 3) := by decide +kernel
theorem dX10_back_7 : decode cX10_back 7 = .ok (.iconst (-1), 1) := by decide +kernel
theorem dX10_back_8 : decode cX10_back 8 = .ok (.ireturn, 1) := by decide +kernel
theorem dX10_back_9 : decode cX10_back 9 = .ok (.aload_n 0, 1) := by decide +kernel
theorem dX10_back_10 : decode cX10_back 10 = .ok (.getfield 35, 3) := by decide +kernel
theorem dX10_back_13 : decode cX10_back 13 = .ok (.aload_n 0, 1) := by decide +kernel
theorem dX10_back_14 : decode cX10_back 14 = .ok (.getfield 39, 3) := by decide +kernel
theorem dX10_back_17 : decode cX10_back 17 = .ok (.invokevirtual 431, 3) := by decide +kernel
theorem dX10_back_20 : decode cX10_back 20 = .ok (.aload_n 0, 1) := by decide +kernel
theorem dX10_back_21 : decode cX10_back 21 = .ok (.getfield 45, 3) := by decide +kernel
theorem dX10_back_24 : decode cX10_back 24 = .ok (.invokevirtual 144, 3) := by decide +kernel
theorem dX10_back_27 : decode cX10_back 27 = .ok (.aload_n 0, 1) := by decide +kernel
theorem dX10_back_28 : decode cX10_back 28 = .ok (.getfield 35, 3) := by decide +kernel
theorem dX10_back_31 : decode cX10_back 31 = .ok (.getfield 278, 3) := by decide +kernel
theorem dX10_back_34 : decode cX10_back 34 = .ok (.ireturn, 1) := by decide +kernel
def f_Game_back (σ : Mem)  : Option (Int32 × Mem) :=
  if (mI σ 0 16) = (0 : Int32) then
    some ((-1 : Int32), σ)
  else
    (f_State_copyFrom σ 6 16).bind fun q2 =>
    (f_History_forget q2).bind fun q3 =>
    some ((mI q3 6 14), q3)
set_option maxHeartbeats 4000000 in
set_option maxRecDepth 20000 in
theorem g_Game_back (X : Cx θ p s m args c cX10_back 1 RX10) (hr : meth.sig.returnType = some .int) (hlk : meth.locks = false)  {σ : Mem}  {r : Int32 × Mem}  (h : f_Game_back σ  = some r) : GB θ p l e 2 s m args below meth c 1 (some (.int r.1), r.2) 0 [(0, .ref (be θ + 0))] [] σ := by
  unfold f_Game_back at h
  refine g_aload_n X dX10_back_0 rfl 0 rfl ?_
  refine g_get X fl_RX10_97 dX10_back_1 kd_0 (v := .int (mI σ 0 16)) rfl ?_
  refine g_if_ne (tgt := 9) X dX10_back_4 (by decide) (fun c1 => ?_) (fun c1 => ?_)
  · replace h := (if_neg c1).symm.trans h
    refine g_aload_n X dX10_back_9 rfl 0 rfl ?_
    refine g_get X fl_RX10_35 dX10_back_10 kd_0 (v := .ref (be θ + 6)) rfl ?_
    refine g_aload_n X dX10_back_13 rfl 0 rfl ?_
    refine g_get X fl_RX10_39 dX10_back_14 kd_0 (v := .ref (be θ + 16)) rfl ?_
    obtain ⟨q2, hq2, h⟩ := Option.bind_eq_some_iff.mp h
    refine g_cV X (c_State_copyFrom kd_6 kd_16 hq2) lk_RX10_431 my_X7_copyFrom (a := 6) (ci := 7) kd_6 (by decide) rfl (As := [.ref (be θ + 16)]) (rest := []) rfl rfl (Nat.le_of_ble_eq_true rfl) ⟨(Nat.le_of_ble_eq_true rfl), (Nat.le_of_ble_eq_true rfl)⟩ ⟨(Nat.le_of_ble_eq_true rfl), (Nat.le_of_ble_eq_true rfl)⟩ dX10_back_17 (st' := []) (σ' := q2) rfl rfl ?_
    refine g_aload_n X dX10_back_20 rfl 0 rfl ?_
    refine g_get X fl_RX10_45 dX10_back_21 kd_0 (v := .ref (be θ + 26)) rfl ?_
    obtain ⟨q3, hq3, h⟩ := Option.bind_eq_some_iff.mp h
    refine g_cV X (c_History_forget  hq3) lk_RX10_144 my_X4_forget (a := 26) (ci := 4) kd_26 (by decide) rfl (As := []) (rest := []) rfl rfl (Nat.le_of_ble_eq_true rfl) ⟨(Nat.le_of_ble_eq_true rfl), (Nat.le_of_ble_eq_true rfl)⟩ ⟨(Nat.le_of_ble_eq_true rfl), (Nat.le_of_ble_eq_true rfl)⟩ dX10_back_24 (st' := []) (σ' := q3) rfl rfl ?_
    refine g_aload_n X dX10_back_27 rfl 0 rfl ?_
    refine g_get X fl_RX10_35 dX10_back_28 kd_0 (v := .ref (be θ + 6)) rfl ?_
    refine g_get X fl_RX10_278 dX10_back_31 kd_6 (v := .int (mI q3 6 14)) rfl ?_
    exact g_iret X hr hlk dX10_back_34 (by cases h; rfl)
  · replace h := (if_pos c1).symm.trans h
    refine g_iconst X dX10_back_7 (v := (-1 : Int32)) ic_m1 ?_
    exact g_iret X hr hlk dX10_back_8 (by cases h; rfl)
set_option maxHeartbeats 4000000 in
set_option maxRecDepth 20000 in
theorem c_Game_back {θ : Th} {l : Launch} {σ : Mem}  {r : Int32 × Mem}  (h : f_Game_back σ  = some r) : Cn θ l yX10_back cX10_back 1 (some .int) 2 0 0 [.ref (be θ + 0)] σ (some (.int r.1), r.2) :=
  Cn.of (by decide) (Nat.le_of_ble_eq_true rfl) (fun p e s m below meth c X hr hlk => g_Game_back X hr hlk  h)
theorem dX10_count_0 : decode cX10_count 0 = .ok (.iload_n 1, 1) := by decide +kernel
theorem dX10_count_1 : decode cX10_count 1 = .ok (.tableswitch 177 0 13 #[71, 82, 93, 98, 103, 111, 116, 124, 132, 140, 148, 153, 161, 169], 71) := by decide +kernel
theorem dX10_count_72 : decode cX10_count 72 = .ok (.aload_n 0, 1) := by decide +kernel
theorem dX10_count_73 : decode cX10_count 73 = .ok (.getfield 52, 3) := by decide +kernel
theorem dX10_count_76 : decode cX10_count 76 = .ok (.getfield 137, 3) := by decide +kernel
theorem dX10_count_79 : decode cX10_count 79 = .ok (.getfield 148, 3) := by decide +kernel
theorem dX10_count_82 : decode cX10_count 82 = .ok (.ireturn, 1) := by decide +kernel
theorem dX10_count_83 : decode cX10_count 83 = .ok (.aload_n 0, 1) := by decide +kernel
theorem dX10_count_84 : decode cX10_count 84 = .ok (.getfield 52, 3) := by decide +kernel
theorem dX10_count_87 : decode cX10_count 87 = .ok (.getfield 137, 3) := by decide +kernel
theorem dX10_count_90 : decode cX10_count 90 = .ok (.getfield 287, 3) := by decide +kernel
theorem dX10_count_93 : decode cX10_count 93 = .ok (.ireturn, 1) := by decide +kernel
theorem dX10_count_94 : decode cX10_count 94 = .ok (.aload_n 0, 1) := by decide +kernel
theorem dX10_count_95 : decode cX10_count 95 = .ok (.getfield 84, 3) := by decide +kernel
theorem dX10_count_98 : decode cX10_count 98 = .ok (.ireturn, 1) := by decide +kernel
theorem dX10_count_99 : decode cX10_count 99 = .ok (.aload_n 0, 1) := by decide +kernel
theorem dX10_count_100 : decode cX10_count 100 = .ok (.getfield 91, 3) := by decide +kernel
theorem dX10_count_103 : decode cX10_count 103 = .ok (.ireturn, 1) := by decide +kernel
theorem dX10_count_104 : decode cX10_count 104 = .ok (.aload_n 0, 1) := by decide +kernel
theorem dX10_count_105 : decode cX10_count 105 = .ok (.getfield 10, 3) := by decide +kernel
theorem dX10_count_108 : decode cX10_count 108 = .ok (.getfield 111, 3) := by decide +kernel
theorem dX10_count_111 : decode cX10_count 111 = .ok (.ireturn, 1) := by decide +kernel
theorem dX10_count_112 : decode cX10_count 112 = .ok (.aload_n 0, 1) := by decide +kernel
theorem dX10_count_113 : decode cX10_count 113 = .ok (.getfield 88, 3) := by decide +kernel
theorem dX10_count_116 : decode cX10_count 116 = .ok (.ireturn, 1) := by decide +kernel
theorem dX10_count_117 : decode cX10_count 117 = .ok (.aload_n 0, 1) := by decide +kernel
theorem dX10_count_118 : decode cX10_count 118 = .ok (.getfield 35, 3) := by decide +kernel
theorem dX10_count_121 : decode cX10_count 121 = .ok (.getfield 278, 3) := by decide +kernel
theorem dX10_count_124 : decode cX10_count 124 = .ok (.ireturn, 1) := by decide +kernel
theorem dX10_count_125 : decode cX10_count 125 = .ok (.aload_n 0, 1) := by decide +kernel
theorem dX10_count_126 : decode cX10_count 126 = .ok (.getfield 35, 3) := by decide +kernel
theorem dX10_count_129 : decode cX10_count 129 = .ok (.getfield 272, 3) := by decide +kernel
theorem dX10_count_132 : decode cX10_count 132 = .ok (.ireturn, 1) := by decide +kernel
theorem dX10_count_133 : decode cX10_count 133 = .ok (.aload_n 0, 1) := by decide +kernel
theorem dX10_count_134 : decode cX10_count 134 = .ok (.getfield 35, 3) := by decide +kernel
theorem dX10_count_137 : decode cX10_count 137 = .ok (.getfield 334, 3) := by decide +kernel
theorem dX10_count_140 : decode cX10_count 140 = .ok (.ireturn, 1) := by decide +kernel
theorem dX10_count_141 : decode cX10_count 141 = .ok (.aload_n 0, 1) := by decide +kernel
theorem dX10_count_142 : decode cX10_count 142 = .ok (.getfield 35, 3) := by decide +kernel
theorem dX10_count_145 : decode cX10_count 145 = .ok (.getfield 434, 3) := by decide +kernel
theorem dX10_count_148 : decode cX10_count 148 = .ok (.ireturn, 1) := by decide +kernel
theorem dX10_count_149 : decode cX10_count 149 = .ok (.aload_n 0, 1) := by decide +kernel
theorem dX10_count_150 : decode cX10_count 150 = .ok (.getfield 94, 3) := by decide +kernel
theorem dX10_count_153 : decode cX10_count 153 = .ok (.ireturn, 1) := by decide +kernel
theorem dX10_count_154 : decode cX10_count 154 = .ok (.aload_n 0, 1) := by decide +kernel
theorem dX10_count_155 : decode cX10_count 155 = .ok (.getfield 66, 3) := by decide +kernel
theorem dX10_count_158 : decode cX10_count 158 = .ok (.getfield 360, 3) := by decide +kernel
theorem dX10_count_161 : decode cX10_count 161 = .ok (.ireturn, 1) := by decide +kernel
theorem dX10_count_162 : decode cX10_count 162 = .ok (.aload_n 0, 1) := by decide +kernel
theorem dX10_count_163 : decode cX10_count 163 = .ok (.getfield 35, 3) := by decide +kernel
theorem dX10_count_166 : decode cX10_count 166 = .ok (.getfield 305, 3) := by decide +kernel
theorem dX10_count_169 : decode cX10_count 169 = .ok (.ireturn, 1) := by decide +kernel
theorem dX10_count_170 : decode cX10_count 170 = .ok (.aload_n 0, 1) := by decide +kernel
theorem dX10_count_171 : decode cX10_count 171 = .ok (.getfield 45, 3) := by decide +kernel
theorem dX10_count_174 : decode cX10_count 174 = .ok (.getfield 299, 3) := by decide +kernel
theorem dX10_count_177 : decode cX10_count 177 = .ok (.ireturn, 1) := by decide +kernel
theorem dX10_count_178 : decode cX10_count 178 = .ok (.ldc 155, 2) := by decide +kernel
theorem dX10_count_180 : decode cX10_count 180 = .ok (.ireturn, 1) := by decide +kernel
def f_Game_count (σ : Mem) (x1 : Int32) : Option (Int32) :=
  if x1 = (0 : Int32) then
    if kd (mR σ 428 1) = 2 then
      some (mI σ (mR σ 428 1) 3)
    else none
  else
  if x1 = (1 : Int32) then
    if kd (mR σ 428 1) = 2 then
      some (mI σ (mR σ 428 1) 4)
    else none
  else
  if x1 = (2 : Int32) then
    some (mI σ 0 12)
  else
  if x1 = (3 : Int32) then
    some (mI σ 0 14)
  else
  if x1 = (4 : Int32) then
    some (mI σ 1 1)
  else
  if x1 = (5 : Int32) then
    some (mI σ 0 13)
  else
  if x1 = (6 : Int32) then
    some (mI σ 6 14)
  else
  if x1 = (7 : Int32) then
    some (mI σ 6 11)
  else
  if x1 = (8 : Int32) then
    some (mI σ 6 13)
  else
  if x1 = (9 : Int32) then
    some (mI σ 6 9)
  else
  if x1 = (10 : Int32) then
    some (mI σ 0 15)
  else
  if x1 = (11 : Int32) then
    some (mI σ 516 5)
  else
  if x1 = (12 : Int32) then
    some (mI σ 6 10)
  else
  if x1 = (13 : Int32) then
    some (mI σ 26 2)
  else
  some (-1000000 : Int32)
set_option maxHeartbeats 4000000 in
set_option maxRecDepth 20000 in
theorem g_Game_count (X : Cx θ p s m args c cX10_count 2 RX10) (hr : meth.sig.returnType = some .int) (hlk : meth.locks = false)  {σ : Mem} {x1 : Int32} {r : Int32}  (h : f_Game_count σ x1 = some r) : GB θ p l e 0 s m args below meth c 2 (some (.int r), σ) 0 [(0, .ref (be θ + 0)), (1, .int x1)] [] σ := by
  unfold f_Game_count at h
  refine g_iload_n X dX10_count_0 rfl 1 rfl ?_
  by_cases c1 : x1 = (0 : Int32)
  · replace h := (if_pos c1).symm.trans h
    refine g_tableIn (tgt := 72) (off := 71) X dX10_count_1 (by rw [c1]; decide) (by rw [c1]; decide) (by rw [c1]; rfl) (by decide) ?_
    refine g_aload_n X dX10_count_72 rfl 0 rfl ?_
    refine g_get X fl_RX10_52 dX10_count_73 kd_0 (v := .ref (be θ + 428)) rfl ?_
    refine g_get X fl_RX10_137 dX10_count_76 kd_428 (v := rv (be θ) (mR σ 428 1)) rfl ?_
    obtain ⟨g2, h⟩ := ite_some h
    rw [← rv_of (β := be θ) g2 (by decide)]
    refine g_get X fl_RX10_148 dX10_count_79 g2 (v := .int (mI σ (mR σ 428 1) 3)) rfl ?_
    exact g_iret X hr hlk dX10_count_82 (by cases h; rfl)
  replace h := (if_neg c1).symm.trans h
  by_cases c3 : x1 = (1 : Int32)
  · replace h := (if_pos c3).symm.trans h
    refine g_tableIn (tgt := 83) (off := 82) X dX10_count_1 (by rw [c3]; decide) (by rw [c3]; decide) (by rw [c3]; rfl) (by decide) ?_
    refine g_aload_n X dX10_count_83 rfl 0 rfl ?_
    refine g_get X fl_RX10_52 dX10_count_84 kd_0 (v := .ref (be θ + 428)) rfl ?_
    refine g_get X fl_RX10_137 dX10_count_87 kd_428 (v := rv (be θ) (mR σ 428 1)) rfl ?_
    obtain ⟨g4, h⟩ := ite_some h
    rw [← rv_of (β := be θ) g4 (by decide)]
    refine g_get X fl_RX10_287 dX10_count_90 g4 (v := .int (mI σ (mR σ 428 1) 4)) rfl ?_
    exact g_iret X hr hlk dX10_count_93 (by cases h; rfl)
  replace h := (if_neg c3).symm.trans h
  by_cases c5 : x1 = (2 : Int32)
  · replace h := (if_pos c5).symm.trans h
    refine g_tableIn (tgt := 94) (off := 93) X dX10_count_1 (by rw [c5]; decide) (by rw [c5]; decide) (by rw [c5]; rfl) (by decide) ?_
    refine g_aload_n X dX10_count_94 rfl 0 rfl ?_
    refine g_get X fl_RX10_84 dX10_count_95 kd_0 (v := .int (mI σ 0 12)) rfl ?_
    exact g_iret X hr hlk dX10_count_98 (by cases h; rfl)
  replace h := (if_neg c5).symm.trans h
  by_cases c6 : x1 = (3 : Int32)
  · replace h := (if_pos c6).symm.trans h
    refine g_tableIn (tgt := 99) (off := 98) X dX10_count_1 (by rw [c6]; decide) (by rw [c6]; decide) (by rw [c6]; rfl) (by decide) ?_
    refine g_aload_n X dX10_count_99 rfl 0 rfl ?_
    refine g_get X fl_RX10_91 dX10_count_100 kd_0 (v := .int (mI σ 0 14)) rfl ?_
    exact g_iret X hr hlk dX10_count_103 (by cases h; rfl)
  replace h := (if_neg c6).symm.trans h
  by_cases c7 : x1 = (4 : Int32)
  · replace h := (if_pos c7).symm.trans h
    refine g_tableIn (tgt := 104) (off := 103) X dX10_count_1 (by rw [c7]; decide) (by rw [c7]; decide) (by rw [c7]; rfl) (by decide) ?_
    refine g_aload_n X dX10_count_104 rfl 0 rfl ?_
    refine g_get X fl_RX10_10 dX10_count_105 kd_0 (v := .ref (be θ + 1)) rfl ?_
    refine g_get X fl_RX10_111 dX10_count_108 kd_1 (v := .int (mI σ 1 1)) rfl ?_
    exact g_iret X hr hlk dX10_count_111 (by cases h; rfl)
  replace h := (if_neg c7).symm.trans h
  by_cases c8 : x1 = (5 : Int32)
  · replace h := (if_pos c8).symm.trans h
    refine g_tableIn (tgt := 112) (off := 111) X dX10_count_1 (by rw [c8]; decide) (by rw [c8]; decide) (by rw [c8]; rfl) (by decide) ?_
    refine g_aload_n X dX10_count_112 rfl 0 rfl ?_
    refine g_get X fl_RX10_88 dX10_count_113 kd_0 (v := .int (mI σ 0 13)) rfl ?_
    exact g_iret X hr hlk dX10_count_116 (by cases h; rfl)
  replace h := (if_neg c8).symm.trans h
  by_cases c9 : x1 = (6 : Int32)
  · replace h := (if_pos c9).symm.trans h
    refine g_tableIn (tgt := 117) (off := 116) X dX10_count_1 (by rw [c9]; decide) (by rw [c9]; decide) (by rw [c9]; rfl) (by decide) ?_
    refine g_aload_n X dX10_count_117 rfl 0 rfl ?_
    refine g_get X fl_RX10_35 dX10_count_118 kd_0 (v := .ref (be θ + 6)) rfl ?_
    refine g_get X fl_RX10_278 dX10_count_121 kd_6 (v := .int (mI σ 6 14)) rfl ?_
    exact g_iret X hr hlk dX10_count_124 (by cases h; rfl)
  replace h := (if_neg c9).symm.trans h
  by_cases c10 : x1 = (7 : Int32)
  · replace h := (if_pos c10).symm.trans h
    refine g_tableIn (tgt := 125) (off := 124) X dX10_count_1 (by rw [c10]; decide) (by rw [c10]; decide) (by rw [c10]; rfl) (by decide) ?_
    refine g_aload_n X dX10_count_125 rfl 0 rfl ?_
    refine g_get X fl_RX10_35 dX10_count_126 kd_0 (v := .ref (be θ + 6)) rfl ?_
    refine g_get X fl_RX10_272 dX10_count_129 kd_6 (v := .int (mI σ 6 11)) rfl ?_
    exact g_iret X hr hlk dX10_count_132 (by cases h; rfl)
  replace h := (if_neg c10).symm.trans h
  by_cases c11 : x1 = (8 : Int32)
  · replace h := (if_pos c11).symm.trans h
    refine g_tableIn (tgt := 133) (off := 132) X dX10_count_1 (by rw [c11]; decide) (by rw [c11]; decide) (by rw [c11]; rfl) (by decide) ?_
    refine g_aload_n X dX10_count_133 rfl 0 rfl ?_
    refine g_get X fl_RX10_35 dX10_count_134 kd_0 (v := .ref (be θ + 6)) rfl ?_
    refine g_get X fl_RX10_334 dX10_count_137 kd_6 (v := .int (mI σ 6 13)) rfl ?_
    exact g_iret X hr hlk dX10_count_140 (by cases h; rfl)
  replace h := (if_neg c11).symm.trans h
  by_cases c12 : x1 = (9 : Int32)
  · replace h := (if_pos c12).symm.trans h
    refine g_tableIn (tgt := 141) (off := 140) X dX10_count_1 (by rw [c12]; decide) (by rw [c12]; decide) (by rw [c12]; rfl) (by decide) ?_
    refine g_aload_n X dX10_count_141 rfl 0 rfl ?_
    refine g_get X fl_RX10_35 dX10_count_142 kd_0 (v := .ref (be θ + 6)) rfl ?_
    refine g_get X fl_RX10_434 dX10_count_145 kd_6 (v := .int (mI σ 6 9)) rfl ?_
    exact g_iret X hr hlk dX10_count_148 (by cases h; rfl)
  replace h := (if_neg c12).symm.trans h
  by_cases c13 : x1 = (10 : Int32)
  · replace h := (if_pos c13).symm.trans h
    refine g_tableIn (tgt := 149) (off := 148) X dX10_count_1 (by rw [c13]; decide) (by rw [c13]; decide) (by rw [c13]; rfl) (by decide) ?_
    refine g_aload_n X dX10_count_149 rfl 0 rfl ?_
    refine g_get X fl_RX10_94 dX10_count_150 kd_0 (v := .int (mI σ 0 15)) rfl ?_
    exact g_iret X hr hlk dX10_count_153 (by cases h; rfl)
  replace h := (if_neg c13).symm.trans h
  by_cases c14 : x1 = (11 : Int32)
  · replace h := (if_pos c14).symm.trans h
    refine g_tableIn (tgt := 154) (off := 153) X dX10_count_1 (by rw [c14]; decide) (by rw [c14]; decide) (by rw [c14]; rfl) (by decide) ?_
    refine g_aload_n X dX10_count_154 rfl 0 rfl ?_
    refine g_get X fl_RX10_66 dX10_count_155 kd_0 (v := .ref (be θ + 516)) rfl ?_
    refine g_get X fl_RX10_360 dX10_count_158 kd_516 (v := .int (mI σ 516 5)) rfl ?_
    exact g_iret X hr hlk dX10_count_161 (by cases h; rfl)
  replace h := (if_neg c14).symm.trans h
  by_cases c15 : x1 = (12 : Int32)
  · replace h := (if_pos c15).symm.trans h
    refine g_tableIn (tgt := 162) (off := 161) X dX10_count_1 (by rw [c15]; decide) (by rw [c15]; decide) (by rw [c15]; rfl) (by decide) ?_
    refine g_aload_n X dX10_count_162 rfl 0 rfl ?_
    refine g_get X fl_RX10_35 dX10_count_163 kd_0 (v := .ref (be θ + 6)) rfl ?_
    refine g_get X fl_RX10_305 dX10_count_166 kd_6 (v := .int (mI σ 6 10)) rfl ?_
    exact g_iret X hr hlk dX10_count_169 (by cases h; rfl)
  replace h := (if_neg c15).symm.trans h
  by_cases c16 : x1 = (13 : Int32)
  · replace h := (if_pos c16).symm.trans h
    refine g_tableIn (tgt := 170) (off := 169) X dX10_count_1 (by rw [c16]; decide) (by rw [c16]; decide) (by rw [c16]; rfl) (by decide) ?_
    refine g_aload_n X dX10_count_170 rfl 0 rfl ?_
    refine g_get X fl_RX10_45 dX10_count_171 kd_0 (v := .ref (be θ + 26)) rfl ?_
    refine g_get X fl_RX10_299 dX10_count_174 kd_26 (v := .int (mI σ 26 2)) rfl ?_
    exact g_iret X hr hlk dX10_count_177 (by cases h; rfl)
  replace h := (if_neg c16).symm.trans h
  have nc1 := neT c1
  have nc3 := neT c3
  have nc5 := neT c5
  have nc6 := neT c6
  have nc7 := neT c7
  have nc8 := neT c8
  have nc9 := neT c9
  have nc10 := neT c10
  have nc11 := neT c11
  have nc12 := neT c12
  have nc13 := neT c13
  have nc14 := neT c14
  have nc15 := neT c15
  have nc16 := neT c16
  have w17 : x1.toInt < 0 ∨ 13 < x1.toInt := by
    rw [show (0 : Int32).toInt = 0 from rfl] at nc1
    rw [show (1 : Int32).toInt = 1 from rfl] at nc3
    rw [show (2 : Int32).toInt = 2 from rfl] at nc5
    rw [show (3 : Int32).toInt = 3 from rfl] at nc6
    rw [show (4 : Int32).toInt = 4 from rfl] at nc7
    rw [show (5 : Int32).toInt = 5 from rfl] at nc8
    rw [show (6 : Int32).toInt = 6 from rfl] at nc9
    rw [show (7 : Int32).toInt = 7 from rfl] at nc10
    rw [show (8 : Int32).toInt = 8 from rfl] at nc11
    rw [show (9 : Int32).toInt = 9 from rfl] at nc12
    rw [show (10 : Int32).toInt = 10 from rfl] at nc13
    rw [show (11 : Int32).toInt = 11 from rfl] at nc14
    rw [show (12 : Int32).toInt = 12 from rfl] at nc15
    rw [show (13 : Int32).toInt = 13 from rfl] at nc16
    omega
  refine g_tableOut (tgt := 178) X dX10_count_1 w17 (by decide) ?_
  refine g_ldc X cst_RX10_155 dX10_count_178 ?_
  exact g_iret X hr hlk dX10_count_180 (by cases h; rfl)
set_option maxHeartbeats 4000000 in
set_option maxRecDepth 20000 in
theorem c_Game_count {θ : Th} {l : Launch} {σ : Mem} {x1 : Int32} {r : Int32}  (h : f_Game_count σ x1 = some r) : Cn θ l yX10_count cX10_count 2 (some .int) 0 0 0 [.ref (be θ + 0), .int x1] σ (some (.int r), σ) :=
  Cn.of (by decide) (Nat.le_of_ble_eq_true rfl) (fun p e s m below meth c X hr hlk => g_Game_count X hr hlk  h)
theorem dX11_thrown_0 : decode cX11_thrown 0 = .ok (.aload_n 0, 1) := by decide +kernel
theorem dX11_thrown_1 : decode cX11_thrown 1 = .ok (.getfield 112, 3) := by decide +kernel
theorem dX11_thrown_4 : decode cX11_thrown 4 = .ok (.ireturn, 1) := by decide +kernel
def f_Model_thrown (σ : Mem)  : Option (Int32) :=
  some (mI σ 565 0)
set_option maxHeartbeats 4000000 in
set_option maxRecDepth 20000 in
theorem g_Model_thrown (X : Cx θ p s m args c cX11_thrown 1 RX11) (hr : meth.sig.returnType = some .int) (hlk : meth.locks = false)  {σ : Mem}  {r : Int32}  (h : f_Model_thrown σ  = some r) : GB θ p l e 0 s m args below meth c 1 (some (.int r), σ) 0 [(0, .ref (be θ + 565))] [] σ := by
  unfold f_Model_thrown at h
  refine g_aload_n X dX11_thrown_0 rfl 0 rfl ?_
  refine g_get X fl_RX11_112 dX11_thrown_1 kd_565 (v := .int (mI σ 565 0)) rfl ?_
  exact g_iret X hr hlk dX11_thrown_4 (by cases h; rfl)
set_option maxHeartbeats 4000000 in
set_option maxRecDepth 20000 in
theorem c_Model_thrown {θ : Th} {l : Launch} {σ : Mem}  {r : Int32}  (h : f_Model_thrown σ  = some r) : Cn θ l yX11_thrown cX11_thrown 1 (some .int) 0 0 0 [.ref (be θ + 565)] σ (some (.int r), σ) :=
  Cn.of (by decide) (Nat.le_of_ble_eq_true rfl) (fun p e s m below meth c X hr hlk => g_Model_thrown X hr hlk  h)
theorem dX11_isIn_0 : decode cX11_isIn 0 = .ok (.lload_n 0, 1) := by decide +kernel
theorem dX11_isIn_1 : decode cX11_isIn 1 = .ok (.lload_n 2, 1) := by decide +kernel
theorem dX11_isIn_2 : decode cX11_isIn 2 = .ok (.lcmp, 1) := by decide +kernel
theorem dX11_isIn_3 : decode cX11_isIn 3 = .ok (.ifCond .lt 14, 3) := by decide +kernel
theorem dX11_isIn_6 : decode cX11_isIn 6 = .ok (.lload_n 0, 1) := by decide +kernel
theorem dX11_isIn_7 : decode cX11_isIn 7 = .ok (.lload 4, 2) := by decide +kernel
theorem dX11_isIn_9 : decode cX11_isIn 9 = .ok (.lcmp, 1) := by decide +kernel
theorem dX11_isIn_10 : decode cX11_isIn 10 = .ok (.ifCond .gt 7, 3) := by decide +kernel
theorem dX11_isIn_13 : decode cX11_isIn 13 = .ok (.iconst 1, 1) := by decide +kernel
theorem dX11_isIn_14 : decode cX11_isIn 14 = .ok (.goto 4, 3) := by decide +kernel
theorem dX11_isIn_17 : decode cX11_isIn 17 = .ok (.iconst 0, 1) := by decide +kernel
theorem dX11_isIn_18 : decode cX11_isIn 18 = .ok (.ireturn, 1) := by decide +kernel
def f_Model_isIn (σ : Mem) (x0 : Int64) (x2 : Int64) (x4 : Int64) : Option (Int32) :=
  if (lg_cmp x0 x2) < (0 : Int32) then
    some (0 : Int32)
  else
    if (0 : Int32) < (lg_cmp x0 x4) then
      some (0 : Int32)
    else
      some (1 : Int32)
set_option maxHeartbeats 4000000 in
set_option maxRecDepth 20000 in
theorem g_Model_isIn (X : Cx θ p s m args c cX11_isIn 6 RX11) (hr : meth.sig.returnType = some .boolean) (hlk : meth.locks = false)  {σ : Mem} {x0 : Int64} {x2 : Int64} {x4 : Int64} {r : Int32}  (h : f_Model_isIn σ x0 x2 x4 = some r) : GB θ p l e 0 s m args below meth c 6 (some (.int r), σ) 0 [(0, .long x0), (2, .long x2), (4, .long x4)] [] σ := by
  unfold f_Model_isIn at h
  refine g_lload_n X dX11_isIn_0 rfl 0 rfl ?_
  refine g_lload_n X dX11_isIn_1 rfl 1 rfl ?_
  refine g_lcmp X dX11_isIn_2 ?_
  refine g_if_lt (tgt := 17) X dX11_isIn_3 (by decide) (fun c1 => ?_) (fun c1 => ?_)
  · replace h := (if_pos c1).symm.trans h
    refine g_iconst X dX11_isIn_17 (v := (0 : Int32)) ic_0 ?_
    exact g_zret X hr hlk bz0 dX11_isIn_18 (by cases h; rfl)
  · replace h := (if_neg c1).symm.trans h
    refine g_lload_n X dX11_isIn_6 rfl 0 rfl ?_
    refine g_lload X dX11_isIn_7 2 rfl ?_
    refine g_lcmp X dX11_isIn_9 ?_
    refine g_if_gt (tgt := 17) X dX11_isIn_10 (by decide) (fun c2 => ?_) (fun c2 => ?_)
    · replace h := (if_pos c2).symm.trans h
      refine g_iconst X dX11_isIn_17 (v := (0 : Int32)) ic_0 ?_
      exact g_zret X hr hlk bz0 dX11_isIn_18 (by cases h; rfl)
    · replace h := (if_neg c2).symm.trans h
      refine g_iconst X dX11_isIn_13 (v := (1 : Int32)) ic_1 ?_
      refine g_goto (tgt := 18) X dX11_isIn_14 (by decide) ?_
      exact g_zret X hr hlk bz1 dX11_isIn_18 (by cases h; rfl)
set_option maxHeartbeats 4000000 in
set_option maxRecDepth 20000 in
theorem c_Model_isIn {θ : Th} {l : Launch} {σ : Mem} {x0 : Int64} {x2 : Int64} {x4 : Int64} {r : Int32}  (h : f_Model_isIn σ x0 x2 x4 = some r) : Cn θ l yX11_isIn cX11_isIn 6 (some .boolean) 0 0 0 [.long x0, .long x2, .long x4] σ (some (.int r), σ) :=
  Cn.of (by decide) (Nat.le_of_ble_eq_true rfl) (fun p e s m below meth c X hr hlk => g_Model_isIn X hr hlk  h)
theorem dX11_has_0 : decode cX11_has 0 = .ok (.iload_n 0, 1) := by decide +kernel
theorem dX11_has_1 : decode cX11_has 1 = .ok (.iload_n 1, 1) := by decide +kernel
theorem dX11_has_2 : decode cX11_has 2 = .ok (.ishr, 1) := by decide +kernel
theorem dX11_has_3 : decode cX11_has 3 = .ok (.iconst 1, 1) := by decide +kernel
theorem dX11_has_4 : decode cX11_has 4 = .ok (.iand, 1) := by decide +kernel
theorem dX11_has_5 : decode cX11_has 5 = .ok (.iconst 1, 1) := by decide +kernel
theorem dX11_has_6 : decode cX11_has 6 = .ok (.if_icmp .ne 7, 3) := by decide +kernel
theorem dX11_has_9 : decode cX11_has 9 = .ok (.iconst 1, 1) := by decide +kernel
theorem dX11_has_10 : decode cX11_has 10 = .ok (.goto 4, 3) := by decide +kernel
theorem dX11_has_13 : decode cX11_has 13 = .ok (.iconst 0, 1) := by decide +kernel
theorem dX11_has_14 : decode cX11_has 14 = .ok (.ireturn, 1) := by decide +kernel
def f_Model_has (σ : Mem) (x0 : Int32) (x1 : Int32) : Option (Int32) :=
  if ((x0 >>> (x1 &&& 31)) &&& (1 : Int32)) = (1 : Int32) then
    some (1 : Int32)
  else
    some (0 : Int32)
set_option maxHeartbeats 4000000 in
set_option maxRecDepth 20000 in
theorem g_Model_has (X : Cx θ p s m args c cX11_has 2 RX11) (hr : meth.sig.returnType = some .boolean) (hlk : meth.locks = false)  {σ : Mem} {x0 : Int32} {x1 : Int32} {r : Int32}  (h : f_Model_has σ x0 x1 = some r) : GB θ p l e 0 s m args below meth c 2 (some (.int r), σ) 0 [(0, .int x0), (1, .int x1)] [] σ := by
  unfold f_Model_has at h
  refine g_iload_n X dX11_has_0 rfl 0 rfl ?_
  refine g_iload_n X dX11_has_1 rfl 1 rfl ?_
  refine g_ishr X dX11_has_2 ?_
  refine g_iconst X dX11_has_3 (v := (1 : Int32)) ic_1 ?_
  refine g_iand X dX11_has_4 ?_
  refine g_iconst X dX11_has_5 (v := (1 : Int32)) ic_1 ?_
  refine g_icmp_ne (tgt := 13) X dX11_has_6 (by decide) (fun c1 => ?_) (fun c1 => ?_)
  · replace h := (if_neg c1).symm.trans h
    refine g_iconst X dX11_has_13 (v := (0 : Int32)) ic_0 ?_
    exact g_zret X hr hlk bz0 dX11_has_14 (by cases h; rfl)
  · replace h := (if_pos c1).symm.trans h
    refine g_iconst X dX11_has_9 (v := (1 : Int32)) ic_1 ?_
    refine g_goto (tgt := 14) X dX11_has_10 (by decide) ?_
    exact g_zret X hr hlk bz1 dX11_has_14 (by cases h; rfl)
set_option maxHeartbeats 4000000 in
set_option maxRecDepth 20000 in
theorem c_Model_has {θ : Th} {l : Launch} {σ : Mem} {x0 : Int32} {x1 : Int32} {r : Int32}  (h : f_Model_has σ x0 x1 = some r) : Cn θ l yX11_has cX11_has 2 (some .boolean) 0 0 0 [.int x0, .int x1] σ (some (.int r), σ) :=
  Cn.of (by decide) (Nat.le_of_ble_eq_true rfl) (fun p e s m below meth c X hr hlk => g_Model_has X hr hlk  h)
theorem dX11_isAmong_0 : decode cX11_isAmong 0 = .ok (.iconst 0, 1) := by decide +kernel
theorem dX11_isAmong_1 : decode cX11_isAmong 1 = .ok (.istore_n 2, 1) := by decide +kernel
theorem dX11_isAmong_2 : decode cX11_isAmong 2 = .ok (.iload_n 2, 1) := by decide +kernel
theorem dX11_isAmong_3 : decode cX11_isAmong 3 = .ok (.aload_n 0, 1) := by decide +kernel
theorem dX11_isAmong_4 : decode cX11_isAmong 4 = .ok (.invokevirtual 115, 3) := by decide +kernel
theorem dX11_isAmong_7 : decode cX11_isAmong 7 = .ok (.if_icmp .ge 20, 3) := by decide +kernel
theorem dX11_isAmong_10 : decode cX11_isAmong 10 = .ok (.aload_n 0, 1) := by decide +kernel
theorem dX11_isAmong_11 : decode cX11_isAmong 11 = .ok (.iload_n 2, 1) := by decide +kernel
theorem dX11_isAmong_12 : decode cX11_isAmong 12 = .ok (.invokevirtual 121, 3) := by decide +kernel
theorem dX11_isAmong_15 : decode cX11_isAmong 15 = .ok (.iload_n 1, 1) := by decide +kernel
theorem dX11_isAmong_16 : decode cX11_isAmong 16 = .ok (.if_icmp .ne 5, 3) := by decide +kernel
theorem dX11_isAmong_19 : decode cX11_isAmong 19 = .ok (.iconst 1, 1) := by decide +kernel
theorem dX11_isAmong_20 : decode cX11_isAmong 20 = .ok (.ireturn, 1) := by decide +kernel
theorem dX11_isAmong_21 : decode cX11_isAmong 21 = .ok (.iinc 2 1, 3) := by decide +kernel
theorem dX11_isAmong_24 : decode cX11_isAmong 24 = .ok (.goto (-22), 3) := by decide +kernel
theorem dX11_isAmong_27 : decode cX11_isAmong 27 = .ok (.iconst 0, 1) := by decide +kernel
theorem dX11_isAmong_28 : decode cX11_isAmong 28 = .ok (.ireturn, 1) := by decide +kernel
def f_Model_isAmong_L2 (σ : Mem) (x0 : Nat) (x1 : Int32) (a : Int32) : Option ((Int32) ⊕ (Int32)) :=
  if (slen x0) ≤ a then
    some (.inr (0 : Int32))
  else
    if inb a (stn.getD x0 0) then
      if (schr x0 a.toNatClampNeg) = x1 then
        some (.inr (1 : Int32))
      else
        some (.inl (a + (1 : Int32)))
    else none
def f_Model_isAmong (σ : Mem) (x0 : Nat) (x1 : Int32) : Option (Int32) :=
  loopF (f_Model_isAmong_L2 σ x0 x1) FU (0 : Int32)
set_option maxHeartbeats 4000000 in
set_option maxRecDepth 20000 in
theorem gs_Model_isAmong_L2 (X : Cx θ p s m args c cX11_isAmong 3 RX11) (hr : meth.sig.returnType = some .boolean) (hlk : meth.locks = false)  {σ : Mem} {x0 : Nat} {x1 : Int32} {r : Int32} (h0 : x0 < 6) (a : Int32) (x : (Int32) ⊕ (Int32)) (h : f_Model_isAmong_L2 σ x0 x1 a = some x) (hk : Sum.elim (fun a => GB θ p l e 4 s m args below meth c 3 (some (.int r), σ) 2 [(0, .ref (sA θ x0)), (1, .int x1), (2, .int a)] [] σ) (fun b => b = r) x) : GB θ p l e 4 s m args below meth c 3 (some (.int r), σ) 2 [(0, .ref (sA θ x0)), (1, .int x1), (2, .int a)] [] σ := by
  unfold f_Model_isAmong_L2 at h
  refine g_iload_n X dX11_isAmong_2 rfl 2 rfl ?_
  refine g_aload_n X dX11_isAmong_3 rfl 0 rfl ?_
  refine g_cT X (c_str_length h0) lk_RX11_115 my_J0_length_8abf5 h0 rfl (As := []) (rest := [.int a]) rfl rfl (Nat.le_of_ble_eq_true rfl) ⟨(Nat.le_of_ble_eq_true rfl), (Nat.le_of_ble_eq_true rfl)⟩ ⟨(Nat.le_of_ble_eq_true rfl), (Nat.le_of_ble_eq_true rfl)⟩ dX11_isAmong_4 (st' := [.int (slen x0), .int a]) (σ' := σ) rfl rfl ?_
  refine g_icmp_ge (tgt := 27) X dX11_isAmong_7 (by decide) (fun c2 => ?_) (fun c2 => ?_)
  · replace h := (if_pos c2).symm.trans h
    refine g_iconst X dX11_isAmong_27 (v := (0 : Int32)) ic_0 ?_
    have hk := inr_hk h hk
    have hk : (0 : Int32) = r := hk
    subst hk
    exact g_zret X hr hlk bz0 dX11_isAmong_28 rfl
  · replace h := (if_neg c2).symm.trans h
    refine g_aload_n X dX11_isAmong_10 rfl 0 rfl ?_
    refine g_iload_n X dX11_isAmong_11 rfl 2 rfl ?_
    obtain ⟨g4, h⟩ := ite_some h
    refine g_cT X (c_str_charAt h0 (inb_in g4)) lk_RX11_121 my_J0_charAt_5068e h0 rfl (As := [.int a]) (rest := []) rfl rfl (Nat.le_of_ble_eq_true rfl) ⟨(Nat.le_of_ble_eq_true rfl), (Nat.le_of_ble_eq_true rfl)⟩ ⟨(Nat.le_of_ble_eq_true rfl), (Nat.le_of_ble_eq_true rfl)⟩ dX11_isAmong_12 (st' := [.int (schr x0 a.toNatClampNeg)]) (σ' := σ) rfl rfl ?_
    refine g_iload_n X dX11_isAmong_15 rfl 1 rfl ?_
    refine g_icmp_ne (tgt := 21) X dX11_isAmong_16 (by decide) (fun c5 => ?_) (fun c5 => ?_)
    · replace h := (if_neg c5).symm.trans h
      refine g_iinc X dX11_isAmong_21 (kq := 2) rfl (congrArg (HAdd.hAdd _) ic_1) (by decide) (lv' := [(2, .int (a + (1 : Int32))), (0, .ref (sA θ x0)), (1, .int x1)]) rfl ?_
      refine g_goto (tgt := 2) X dX11_isAmong_24 (by decide) ?_
      have hk := inl_hk h hk
      exact g_sub (lv' := [(0, .ref (sA θ x0)), (1, .int x1), (2, .int (a + (1 : Int32)))]) [1, 2, 0] rfl hk
    · replace h := (if_pos c5).symm.trans h
      refine g_iconst X dX11_isAmong_19 (v := (1 : Int32)) ic_1 ?_
      have hk := inr_hk h hk
      have hk : (1 : Int32) = r := hk
      subst hk
      exact g_zret X hr hlk bz1 dX11_isAmong_20 rfl
set_option maxHeartbeats 4000000 in
set_option maxRecDepth 20000 in
theorem gl_Model_isAmong_L2 (X : Cx θ p s m args c cX11_isAmong 3 RX11) (hr : meth.sig.returnType = some .boolean) (hlk : meth.locks = false)  {σ : Mem} {x0 : Nat} {x1 : Int32} {r : Int32} (h0 : x0 < 6) (n : Nat) (a : Int32) (b : Int32) (h : loopF (f_Model_isAmong_L2 σ x0 x1) n a = some b) (hk : (fun b => b = r) b) : (fun a => GB θ p l e 4 s m args below meth c 3 (some (.int r), σ) 2 [(0, .ref (sA θ x0)), (1, .int x1), (2, .int a)] [] σ) a :=
  loopF_by (P := (fun a => GB θ p l e 4 s m args below meth c 3 (some (.int r), σ) 2 [(0, .ref (sA θ x0)), (1, .int x1), (2, .int a)] [] σ)) (K := (fun b => b = r)) (fun a x h hk => by exact gs_Model_isAmong_L2 X hr hlk  h0 a x h hk) n a b h hk
set_option maxHeartbeats 4000000 in
set_option maxRecDepth 20000 in
theorem g_Model_isAmong (X : Cx θ p s m args c cX11_isAmong 3 RX11) (hr : meth.sig.returnType = some .boolean) (hlk : meth.locks = false)  {σ : Mem} {x0 : Nat} {x1 : Int32} {r : Int32} (h0 : x0 < 6) (h : f_Model_isAmong σ x0 x1 = some r) : GB θ p l e 4 s m args below meth c 3 (some (.int r), σ) 0 [(0, .ref (sA θ x0)), (1, .int x1)] [] σ := by
  unfold f_Model_isAmong at h
  refine g_iconst X dX11_isAmong_0 (v := (0 : Int32)) ic_0 ?_
  refine g_istore_n X dX11_isAmong_1 rfl (by decide) (lv' := [(2, .int (0 : Int32)), (0, .ref (sA θ x0)), (1, .int x1)]) rfl ?_
  exact g_sub (lv' := [(0, .ref (sA θ x0)), (1, .int x1), (2, .int (0 : Int32))]) [1, 2, 0] rfl (gl_Model_isAmong_L2 X hr hlk  h0  FU _ _ h rfl)
set_option maxHeartbeats 4000000 in
set_option maxRecDepth 20000 in
theorem c_Model_isAmong {θ : Th} {l : Launch} {σ : Mem} {x0 : Nat} {x1 : Int32} {r : Int32} (h0 : x0 < 6) (h : f_Model_isAmong σ x0 x1 = some r) : Cn θ l yX11_isAmong cX11_isAmong 3 (some .boolean) 4 0 0 [.ref (sA θ x0), .int x1] σ (some (.int r), σ) :=
  Cn.of (by decide) (Nat.le_of_ble_eq_true rfl) (fun p e s m below meth c X hr hlk => g_Model_isAmong X hr hlk h0 h)
theorem dX11_bytesIn_0 : decode cX11_bytesIn 0 = .ok (.iconst 0, 1) := by decide +kernel
theorem dX11_bytesIn_1 : decode cX11_bytesIn 1 = .ok (.istore_n 1, 1) := by decide +kernel
theorem dX11_bytesIn_2 : decode cX11_bytesIn 2 = .ok (.bipush 24, 2) := by decide +kernel
theorem dX11_bytesIn_4 : decode cX11_bytesIn 4 = .ok (.istore_n 2, 1) := by decide +kernel
theorem dX11_bytesIn_5 : decode cX11_bytesIn 5 = .ok (.iload_n 2, 1) := by decide +kernel
theorem dX11_bytesIn_6 : decode cX11_bytesIn 6 = .ok (.ifCond .lt 27, 3) := by decide +kernel
theorem dX11_bytesIn_9 : decode cX11_bytesIn 9 = .ok (.iload_n 1, 1) := by decide +kernel
theorem dX11_bytesIn_10 : decode cX11_bytesIn 10 = .ok (.iload_n 0, 1) := by decide +kernel
theorem dX11_bytesIn_11 : decode cX11_bytesIn 11 = .ok (.iload_n 2, 1) := by decide +kernel
theorem dX11_bytesIn_12 : decode cX11_bytesIn 12 = .ok (.ishr, 1) := by decide +kernel
theorem dX11_bytesIn_13 : decode cX11_bytesIn 13 = .ok (.sipush 255, 3) := by decide +kernel
theorem dX11_bytesIn_16 : decode cX11_bytesIn 16 = .ok (.iand, 1) := by decide +kernel
theorem dX11_bytesIn_17 : decode cX11_bytesIn 17 = .ok (.ifCond .eq 7, 3) := by decide +kernel
theorem dX11_bytesIn_20 : decode cX11_bytesIn 20 = .ok (.iconst 1, 1) := by decide +kernel
theorem dX11_bytesIn_21 : decode cX11_bytesIn 21 = .ok (.goto 4, 3) := by decide +kernel
theorem dX11_bytesIn_24 : decode cX11_bytesIn 24 = .ok (.iconst 0, 1) := by decide +kernel
theorem dX11_bytesIn_25 : decode cX11_bytesIn 25 = .ok (.iadd, 1) := by decide +kernel
theorem dX11_bytesIn_26 : decode cX11_bytesIn 26 = .ok (.istore_n 1, 1) := by decide +kernel
theorem dX11_bytesIn_27 : decode cX11_bytesIn 27 = .ok (.iinc 2 (-8), 3) := by decide +kernel
theorem dX11_bytesIn_30 : decode cX11_bytesIn 30 = .ok (.goto (-25), 3) := by decide +kernel
theorem dX11_bytesIn_33 : decode cX11_bytesIn 33 = .ok (.iload_n 1, 1) := by decide +kernel
theorem dX11_bytesIn_34 : decode cX11_bytesIn 34 = .ok (.ireturn, 1) := by decide +kernel
def f_Model_bytesIn_L5 (σ : Mem) (x0 : Int32) (a : Int32 × Int32) : Option ((Int32 × Int32) ⊕ (Int32)) :=
  @Prod.casesOn (Int32) (Int32) (fun _ => Option ((Int32 × Int32) ⊕ (Int32))) a fun z1 z2 =>
  if z2 < (0 : Int32) then
    some (.inr z1)
  else
    if ((x0 >>> (z2 &&& 31)) &&& (255 : Int32)) = (0 : Int32) then
      some (.inl ((z1 + (0 : Int32)), (z2 + (-8 : Int32))))
    else
      some (.inl ((z1 + (1 : Int32)), (z2 + (-8 : Int32))))
def f_Model_bytesIn (σ : Mem) (x0 : Int32) : Option (Int32) :=
  loopF (f_Model_bytesIn_L5 σ x0) FU ((0 : Int32), (24 : Int32))
set_option maxHeartbeats 4000000 in
set_option maxRecDepth 20000 in
theorem gs_Model_bytesIn_L5 (X : Cx θ p s m args c cX11_bytesIn 3 RX11) (hr : meth.sig.returnType = some .int) (hlk : meth.locks = false)  {σ : Mem} {x0 : Int32} {r : Int32}  (z1 : Int32) (z2 : Int32) (x : (Int32 × Int32) ⊕ (Int32)) (h : f_Model_bytesIn_L5 σ x0 (z1, z2) = some x) (hk : Sum.elim (fun a => @Prod.casesOn (Int32) (Int32) (fun _ => Prop) a fun z1 z2 => GB θ p l e 0 s m args below meth c 3 (some (.int r), σ) 5 [(0, .int x0), (1, .int z1), (2, .int z2)] [] σ) (fun b => b = r) x) : GB θ p l e 0 s m args below meth c 3 (some (.int r), σ) 5 [(0, .int x0), (1, .int z1), (2, .int z2)] [] σ := by
  unfold f_Model_bytesIn_L5 at h
  dsimp only at h
  refine g_iload_n X dX11_bytesIn_5 rfl 2 rfl ?_
  refine g_if_lt (tgt := 33) X dX11_bytesIn_6 (by decide) (fun c1 => ?_) (fun c1 => ?_)
  · replace h := (if_pos c1).symm.trans h
    refine g_iload_n X dX11_bytesIn_33 rfl 1 rfl ?_
    have hk := inr_hk h hk
    have hk : z1 = r := hk
    subst hk
    exact g_iret X hr hlk dX11_bytesIn_34 rfl
  · replace h := (if_neg c1).symm.trans h
    refine g_iload_n X dX11_bytesIn_9 rfl 1 rfl ?_
    refine g_iload_n X dX11_bytesIn_10 rfl 0 rfl ?_
    refine g_iload_n X dX11_bytesIn_11 rfl 2 rfl ?_
    refine g_ishr X dX11_bytesIn_12 ?_
    refine g_sipush X dX11_bytesIn_13 (v := (255 : Int32)) sp_255 ?_
    refine g_iand X dX11_bytesIn_16 ?_
    refine g_if_eq (tgt := 24) X dX11_bytesIn_17 (by decide) (fun c2 => ?_) (fun c2 => ?_)
    · replace h := (if_pos c2).symm.trans h
      refine g_iconst X dX11_bytesIn_24 (v := (0 : Int32)) ic_0 ?_
      refine g_iadd X dX11_bytesIn_25 ?_
      refine g_istore_n X dX11_bytesIn_26 rfl (by decide) (lv' := [(1, .int (z1 + (0 : Int32))), (0, .int x0), (2, .int z2)]) rfl ?_
      refine g_iinc X dX11_bytesIn_27 (kq := 2) rfl (congrArg (HAdd.hAdd _) ic_m8) (by decide) (lv' := [(2, .int (z2 + (-8 : Int32))), (1, .int (z1 + (0 : Int32))), (0, .int x0)]) rfl ?_
      refine g_goto (tgt := 5) X dX11_bytesIn_30 (by decide) ?_
      have hk := inl_hk h hk
      exact g_sub (lv' := [(0, .int x0), (1, .int (z1 + (0 : Int32))), (2, .int (z2 + (-8 : Int32)))]) [2, 1, 0] rfl hk
    · replace h := (if_neg c2).symm.trans h
      refine g_iconst X dX11_bytesIn_20 (v := (1 : Int32)) ic_1 ?_
      refine g_goto (tgt := 25) X dX11_bytesIn_21 (by decide) ?_
      refine g_iadd X dX11_bytesIn_25 ?_
      refine g_istore_n X dX11_bytesIn_26 rfl (by decide) (lv' := [(1, .int (z1 + (1 : Int32))), (0, .int x0), (2, .int z2)]) rfl ?_
      refine g_iinc X dX11_bytesIn_27 (kq := 2) rfl (congrArg (HAdd.hAdd _) ic_m8) (by decide) (lv' := [(2, .int (z2 + (-8 : Int32))), (1, .int (z1 + (1 : Int32))), (0, .int x0)]) rfl ?_
      refine g_goto (tgt := 5) X dX11_bytesIn_30 (by decide) ?_
      have hk := inl_hk h hk
      exact g_sub (lv' := [(0, .int x0), (1, .int (z1 + (1 : Int32))), (2, .int (z2 + (-8 : Int32)))]) [2, 1, 0] rfl hk
set_option maxHeartbeats 4000000 in
set_option maxRecDepth 20000 in
theorem gl_Model_bytesIn_L5 (X : Cx θ p s m args c cX11_bytesIn 3 RX11) (hr : meth.sig.returnType = some .int) (hlk : meth.locks = false)  {σ : Mem} {x0 : Int32} {r : Int32}  (n : Nat) (a : Int32 × Int32) (b : Int32) (h : loopF (f_Model_bytesIn_L5 σ x0) n a = some b) (hk : (fun b => b = r) b) : (fun a => @Prod.casesOn (Int32) (Int32) (fun _ => Prop) a fun z1 z2 => GB θ p l e 0 s m args below meth c 3 (some (.int r), σ) 5 [(0, .int x0), (1, .int z1), (2, .int z2)] [] σ) a :=
  loopF_by (P := (fun a => @Prod.casesOn (Int32) (Int32) (fun _ => Prop) a fun z1 z2 => GB θ p l e 0 s m args below meth c 3 (some (.int r), σ) 5 [(0, .int x0), (1, .int z1), (2, .int z2)] [] σ)) (K := (fun b => b = r)) (fun a x h hk => by obtain ⟨z1, z2⟩ := a; exact gs_Model_bytesIn_L5 X hr hlk   z1 z2 x h hk) n a b h hk
set_option maxHeartbeats 4000000 in
set_option maxRecDepth 20000 in
theorem g_Model_bytesIn (X : Cx θ p s m args c cX11_bytesIn 3 RX11) (hr : meth.sig.returnType = some .int) (hlk : meth.locks = false)  {σ : Mem} {x0 : Int32} {r : Int32}  (h : f_Model_bytesIn σ x0 = some r) : GB θ p l e 0 s m args below meth c 3 (some (.int r), σ) 0 [(0, .int x0)] [] σ := by
  unfold f_Model_bytesIn at h
  refine g_iconst X dX11_bytesIn_0 (v := (0 : Int32)) ic_0 ?_
  refine g_istore_n X dX11_bytesIn_1 rfl (by decide) (lv' := [(1, .int (0 : Int32)), (0, .int x0)]) rfl ?_
  refine g_bipush X dX11_bytesIn_2 (v := (24 : Int32)) bp_24 ?_
  refine g_istore_n X dX11_bytesIn_4 rfl (by decide) (lv' := [(2, .int (24 : Int32)), (1, .int (0 : Int32)), (0, .int x0)]) rfl ?_
  exact g_sub (lv' := [(0, .int x0), (1, .int (0 : Int32)), (2, .int (24 : Int32))]) [2, 1, 0] rfl (gl_Model_bytesIn_L5 X hr hlk    FU _ _ h rfl)
set_option maxHeartbeats 4000000 in
set_option maxRecDepth 20000 in
theorem c_Model_bytesIn {θ : Th} {l : Launch} {σ : Mem} {x0 : Int32} {r : Int32}  (h : f_Model_bytesIn σ x0 = some r) : Cn θ l yX11_bytesIn cX11_bytesIn 3 (some .int) 0 0 0 [.int x0] σ (some (.int r), σ) :=
  Cn.of (by decide) (Nat.le_of_ble_eq_true rfl) (fun p e s m below meth c X hr hlk => g_Model_bytesIn X hr hlk  h)
theorem dX11_put_0 : decode cX11_put 0 = .ok (.bipush 24, 2) := by decide +kernel
theorem dX11_put_2 : decode cX11_put 2 = .ok (.istore_n 2, 1) := by decide +kernel
theorem dX11_put_3 : decode cX11_put 3 = .ok (.iload_n 2, 1) := by decide +kernel
theorem dX11_put_4 : decode cX11_put 4 = .ok (.ifCond .lt 45, 3) := by decide +kernel
theorem dX11_put_7 : decode cX11_put 7 = .ok (.iload_n 1, 1) := by decide +kernel
theorem dX11_put_8 : decode cX11_put 8 = .ok (.iload_n 2, 1) := by decide +kernel
theorem dX11_put_9 : decode cX11_put 9 = .ok (.ishr, 1) := by decide +kernel
theorem dX11_put_10 : decode cX11_put 10 = .ok (.sipush 255, 3) := by decide +kernel
theorem dX11_put_13 : decode cX11_put 13 = .ok (.iand, 1) := by decide +kernel
theorem dX11_put_14 : decode cX11_put 14 = .ok (.ifCond .ne 6, 3) := by decide +kernel
theorem dX11_put_17 : decode cX11_put 17 = .ok (.goto 26, 3) := by decide +kernel
theorem dX11_put_20 : decode cX11_put 20 = .ok (.aload_n 0, 1) := by decide +kernel
theorem dX11_put_21 : decode cX11_put 21 = .ok (.getfield 9, 3) := by decide +kernel
theorem dX11_put_24 : decode cX11_put 24 = .ok (.aload_n 0, 1) := by decide +kernel
theorem dX11_put_25 : decode cX11_put 25 = .ok (.getfield 125, 3) := by decide +kernel
theorem dX11_put_28 : decode cX11_put 28 = .ok (.iload_n 1, 1) := by decide +kernel
theorem dX11_put_29 : decode cX11_put 29 = .ok (.iload_n 2, 1) := by decide +kernel
theorem dX11_put_30 : decode cX11_put 30 = .ok (.ishr, 1) := by decide +kernel
theorem dX11_put_31 : decode cX11_put 31 = .ok (.i2b, 1) := by decide +kernel
theorem dX11_put_32 : decode cX11_put 32 = .ok (.bastore, 1) := by decide +kernel
theorem dX11_put_33 : decode cX11_put 33 = .ok (.aload_n 0, 1) := by decide +kernel
theorem dX11_put_34 : decode cX11_put 34 = .ok (.dup, 1) := by decide +kernel
theorem dX11_put_35 : decode cX11_put 35 = .ok (.getfield 125, 3) := by decide +kernel
theorem dX11_put_38 : decode cX11_put 38 = .ok (.iconst 1, 1) := by decide +kernel
theorem dX11_put_39 : decode cX11_put 39 = .ok (.iadd, 1) := by decide +kernel
theorem dX11_put_40 : decode cX11_put 40 = .ok (.putfield 125, 3) := by decide +kernel
theorem dX11_put_43 : decode cX11_put 43 = .ok (.iinc 2 (-8), 3) := by decide +kernel
theorem dX11_put_46 : decode cX11_put 46 = .ok (.goto (-43), 3) := by decide +kernel
theorem dX11_put_49 : decode cX11_put 49 = .ok (.return_, 1) := by decide +kernel
def f_Model_put_L3 (x1 : Int32) (a : Mem × Int32) : Option ((Mem × Int32) ⊕ (Mem)) :=
  @Prod.casesOn (Mem) (Int32) (fun _ => Option ((Mem × Int32) ⊕ (Mem))) a fun τ z2 =>
  if z2 < (0 : Int32) then
    some (.inr τ)
  else
    if ((x1 >>> (z2 &&& 31)) &&& (255 : Int32)) = (0 : Int32) then
      some (.inl (τ, (z2 + (-8 : Int32))))
    else
      if inb (mI τ 565 6) 240 then
        some (.inl ((sI (sI τ 566 (mI τ 565 6).toNatClampNeg (vp_nar .byte (((x1 >>> (z2 &&& 31))).toInt8.toInt32))) 565 6 ((mI (sI τ 566 (mI τ 565 6).toNatClampNeg (vp_nar .byte (((x1 >>> (z2 &&& 31))).toInt8.toInt32))) 565 6) + (1 : Int32))), (z2 + (-8 : Int32))))
      else none
def f_Model_put (σ : Mem) (x1 : Int32) : Option (Mem) :=
  loopF (f_Model_put_L3 x1) FU (σ, (24 : Int32))
set_option maxHeartbeats 4000000 in
set_option maxRecDepth 20000 in
theorem gs_Model_put_L3 (X : Cx θ p s m args c cX11_put 3 RX11) (hr : meth.sig.returnType = none) (hlk : meth.locks = false)  {x1 : Int32} {r : Mem}  (τ : Mem) (z2 : Int32) (x : (Mem × Int32) ⊕ (Mem)) (h : f_Model_put_L3 x1 (τ, z2) = some x) (hk : Sum.elim (fun a => @Prod.casesOn (Mem) (Int32) (fun _ => Prop) a fun τ z2 => GB θ p l e 0 s m args below meth c 3 (none, r) 3 [(0, .ref (be θ + 565)), (1, .int x1), (2, .int z2)] [] τ) (fun b => b = r) x) : GB θ p l e 0 s m args below meth c 3 (none, r) 3 [(0, .ref (be θ + 565)), (1, .int x1), (2, .int z2)] [] τ := by
  unfold f_Model_put_L3 at h
  dsimp only at h
  refine g_iload_n X dX11_put_3 rfl 2 rfl ?_
  refine g_if_lt (tgt := 49) X dX11_put_4 (by decide) (fun c1 => ?_) (fun c1 => ?_)
  · replace h := (if_pos c1).symm.trans h
    have hk := inr_hk h hk
    have hk : τ = r := hk
    subst hk
    exact g_vret X hr hlk dX11_put_49 rfl
  · replace h := (if_neg c1).symm.trans h
    refine g_iload_n X dX11_put_7 rfl 1 rfl ?_
    refine g_iload_n X dX11_put_8 rfl 2 rfl ?_
    refine g_ishr X dX11_put_9 ?_
    refine g_sipush X dX11_put_10 (v := (255 : Int32)) sp_255 ?_
    refine g_iand X dX11_put_13 ?_
    refine g_if_ne (tgt := 20) X dX11_put_14 (by decide) (fun c2 => ?_) (fun c2 => ?_)
    · replace h := (if_neg c2).symm.trans h
      refine g_aload_n X dX11_put_20 rfl 0 rfl ?_
      refine g_get X fl_RX11_9 dX11_put_21 kd_565 (v := .ref (be θ + 566)) rfl ?_
      refine g_aload_n X dX11_put_24 rfl 0 rfl ?_
      refine g_get X fl_RX11_125 dX11_put_25 kd_565 (v := .int (mI τ 565 6)) rfl ?_
      refine g_iload_n X dX11_put_28 rfl 1 rfl ?_
      refine g_iload_n X dX11_put_29 rfl 2 rfl ?_
      refine g_ishr X dX11_put_30 ?_
      refine g_i2b X dX11_put_31 (v := (((x1 >>> (z2 &&& 31))).toInt8.toInt32)) rfl ?_
      obtain ⟨g3, h⟩ := ite_some h
      refine g_bast X kd_566 ln_566 (inb_in g3) dX11_put_32 ?_
      refine g_aload_n X dX11_put_33 rfl 0 rfl ?_
      refine g_dup X dX11_put_34 rfl ?_
      refine g_get X fl_RX11_125 dX11_put_35 kd_565 (v := .int (mI (sI τ 566 (mI τ 565 6).toNatClampNeg (vp_nar .byte (((x1 >>> (z2 &&& 31))).toInt8.toInt32))) 565 6)) rfl ?_
      refine g_iconst X dX11_put_38 (v := (1 : Int32)) ic_1 ?_
      refine g_iadd X dX11_put_39 ?_
      refine g_putI X fl_RX11_125 dX11_put_40 kd_565 rfl rfl rfl ?_
      refine g_iinc X dX11_put_43 (kq := 2) rfl (congrArg (HAdd.hAdd _) ic_m8) (by decide) (lv' := [(2, .int (z2 + (-8 : Int32))), (0, .ref (be θ + 565)), (1, .int x1)]) rfl ?_
      refine g_goto (tgt := 3) X dX11_put_46 (by decide) ?_
      have hk := inl_hk h hk
      exact g_sub (lv' := [(0, .ref (be θ + 565)), (1, .int x1), (2, .int (z2 + (-8 : Int32)))]) [1, 2, 0] rfl hk
    · replace h := (if_pos c2).symm.trans h
      refine g_goto (tgt := 43) X dX11_put_17 (by decide) ?_
      refine g_iinc X dX11_put_43 (kq := 2) rfl (congrArg (HAdd.hAdd _) ic_m8) (by decide) (lv' := [(2, .int (z2 + (-8 : Int32))), (0, .ref (be θ + 565)), (1, .int x1)]) rfl ?_
      refine g_goto (tgt := 3) X dX11_put_46 (by decide) ?_
      have hk := inl_hk h hk
      exact g_sub (lv' := [(0, .ref (be θ + 565)), (1, .int x1), (2, .int (z2 + (-8 : Int32)))]) [1, 2, 0] rfl hk
set_option maxHeartbeats 4000000 in
set_option maxRecDepth 20000 in
theorem gl_Model_put_L3 (X : Cx θ p s m args c cX11_put 3 RX11) (hr : meth.sig.returnType = none) (hlk : meth.locks = false)  {x1 : Int32} {r : Mem}  (n : Nat) (a : Mem × Int32) (b : Mem) (h : loopF (f_Model_put_L3 x1) n a = some b) (hk : (fun b => b = r) b) : (fun a => @Prod.casesOn (Mem) (Int32) (fun _ => Prop) a fun τ z2 => GB θ p l e 0 s m args below meth c 3 (none, r) 3 [(0, .ref (be θ + 565)), (1, .int x1), (2, .int z2)] [] τ) a :=
  loopF_by (P := (fun a => @Prod.casesOn (Mem) (Int32) (fun _ => Prop) a fun τ z2 => GB θ p l e 0 s m args below meth c 3 (none, r) 3 [(0, .ref (be θ + 565)), (1, .int x1), (2, .int z2)] [] τ)) (K := (fun b => b = r)) (fun a x h hk => by obtain ⟨τ, z2⟩ := a; exact gs_Model_put_L3 X hr hlk   τ z2 x h hk) n a b h hk
set_option maxHeartbeats 4000000 in
set_option maxRecDepth 20000 in
theorem g_Model_put (X : Cx θ p s m args c cX11_put 3 RX11) (hr : meth.sig.returnType = none) (hlk : meth.locks = false)  {σ : Mem} {x1 : Int32} {r : Mem}  (h : f_Model_put σ x1 = some r) : GB θ p l e 0 s m args below meth c 3 (none, r) 0 [(0, .ref (be θ + 565)), (1, .int x1)] [] σ := by
  unfold f_Model_put at h
  refine g_bipush X dX11_put_0 (v := (24 : Int32)) bp_24 ?_
  refine g_istore_n X dX11_put_2 rfl (by decide) (lv' := [(2, .int (24 : Int32)), (0, .ref (be θ + 565)), (1, .int x1)]) rfl ?_
  exact g_sub (lv' := [(0, .ref (be θ + 565)), (1, .int x1), (2, .int (24 : Int32))]) [1, 2, 0] rfl (gl_Model_put_L3 X hr hlk    FU _ _ h rfl)
set_option maxHeartbeats 4000000 in
set_option maxRecDepth 20000 in
theorem c_Model_put {θ : Th} {l : Launch} {σ : Mem} {x1 : Int32} {r : Mem}  (h : f_Model_put σ x1 = some r) : Cn θ l yX11_put cX11_put 3 (none) 0 0 0 [.ref (be θ + 565), .int x1] σ (none, r) :=
  Cn.of (by decide) (Nat.le_of_ble_eq_true rfl) (fun p e s m below meth c X hr hlk => g_Model_put X hr hlk  h)
theorem dX11_feed_0 : decode cX11_feed 0 = .ok (.aload_n 0, 1) := by decide +kernel
theorem dX11_feed_1 : decode cX11_feed 1 = .ok (.iconst 0, 1) := by decide +kernel
theorem dX11_feed_2 : decode cX11_feed 2 = .ok (.putfield 112, 3) := by decide +kernel
theorem dX11_feed_5 : decode cX11_feed 5 = .ok (.aload_n 0, 1) := by decide +kernel
theorem dX11_feed_6 : decode cX11_feed 6 = .ok (.getfield 125, 3) := by decide +kernel
theorem dX11_feed_9 : decode cX11_feed 9 = .ok (.iload_n 1, 1) := by decide +kernel
theorem dX11_feed_10 : decode cX11_feed 10 = .ok (.invokestatic 127, 3) := by decide +kernel
theorem dX11_feed_13 : decode cX11_feed 13 = .ok (.iadd, 1) := by decide +kernel
theorem dX11_feed_14 : decode cX11_feed 14 = .ok (.iload_n 2, 1) := by decide +kernel
theorem dX11_feed_15 : decode cX11_feed 15 = .ok (.invokestatic 127, 3) := by decide +kernel
theorem dX11_feed_18 : decode cX11_feed 18 = .ok (.iadd, 1) := by decide +kernel
theorem dX11_feed_19 : decode cX11_feed 19 = .ok (.iload_n 3, 1) := by decide +kernel
theorem dX11_feed_20 : decode cX11_feed 20 = .ok (.invokestatic 127, 3) := by decide +kernel
theorem dX11_feed_23 : decode cX11_feed 23 = .ok (.iadd, 1) := by decide +kernel
theorem dX11_feed_24 : decode cX11_feed 24 = .ok (.iload 4, 2) := by decide +kernel
theorem dX11_feed_26 : decode cX11_feed 26 = .ok (.invokestatic 127, 3) := by decide +kernel
theorem dX11_feed_29 : decode cX11_feed 29 = .ok (.iadd, 1) := by decide +kernel
theorem dX11_feed_30 : decode cX11_feed 30 = .ok (.iload 5, 2) := by decide +kernel
theorem dX11_feed_32 : decode cX11_feed 32 = .ok (.invokestatic 127, 3) := by decide +kernel
theorem dX11_feed_35 : decode cX11_feed 35 = .ok (.iadd, 1) := by decide +kernel
theorem dX11_feed_36 : decode cX11_feed 36 = .ok (.sipush 240, 3) := by decide +kernel
theorem dX11_feed_39 : decode cX11_feed 39 = .ok (.if_icmp .le 5, 3) := by decide +kernel
theorem dX11_feed_42 : decode cX11_feed 42 = .ok (.iconst (-1), 1) := by decide +kernel
theorem dX11_feed_43 : decode cX11_feed 43 = .ok (.ireturn, 1) := by decide +kernel
theorem dX11_feed_44 : decode cX11_feed 44 = .ok (.aload_n 0, 1) := by decide +kernel
theorem dX11_feed_45 : decode cX11_feed 45 = .ok (.iload_n 1, 1) := by decide +kernel
theorem dX11_feed_46 : decode cX11_feed 46 = .ok (.invokevirtual 131, 3) := by decide +kernel
theorem dX11_feed_49 : decode cX11_feed 49 = .ok (.aload_n 0, 1) := by decide +kernel
theorem dX11_feed_50 : decode cX11_feed 50 = .ok (.iload_n 2, 1) := by decide +kernel
theorem dX11_feed_51 : decode cX11_feed 51 = .ok (.invokevirtual 131, 3) := by decide +kernel
theorem dX11_feed_54 : decode cX11_feed 54 = .ok (.aload_n 0, 1) := by decide +kernel
theorem dX11_feed_55 : decode cX11_feed 55 = .ok (.iload_n 3, 1) := by decide +kernel
theorem dX11_feed_56 : decode cX11_feed 56 = .ok (.invokevirtual 131, 3) := by decide +kernel
theorem dX11_feed_59 : decode cX11_feed 59 = .ok (.aload_n 0, 1) := by decide +kernel
theorem dX11_feed_60 : decode cX11_feed 60 = .ok (.iload 4, 2) := by decide +kernel
theorem dX11_feed_62 : decode cX11_feed 62 = .ok (.invokevirtual 131, 3) := by decide +kernel
theorem dX11_feed_65 : decode cX11_feed 65 = .ok (.aload_n 0, 1) := by decide +kernel
theorem dX11_feed_66 : decode cX11_feed 66 = .ok (.iload 5, 2) := by decide +kernel
theorem dX11_feed_68 : decode cX11_feed 68 = .ok (.invokevirtual 131, 3) := by decide +kernel
theorem dX11_feed_71 : decode cX11_feed 71 = .ok (.aload_n 0, 1) := by decide +kernel
theorem dX11_feed_72 : decode cX11_feed 72 = .ok (.getfield 125, 3) := by decide +kernel
theorem dX11_feed_75 : decode cX11_feed 75 = .ok (.ireturn, 1) := by decide +kernel
def f_Model_feed (σ : Mem) (x1 : Int32) (x2 : Int32) (x3 : Int32) (x4 : Int32) (x5 : Int32) : Option (Int32 × Mem) :=
  (f_Model_bytesIn (sI σ 565 0 (0 : Int32)) x1).bind fun q1 =>
  (f_Model_bytesIn (sI σ 565 0 (0 : Int32)) x2).bind fun q2 =>
  (f_Model_bytesIn (sI σ 565 0 (0 : Int32)) x3).bind fun q3 =>
  (f_Model_bytesIn (sI σ 565 0 (0 : Int32)) x4).bind fun q4 =>
  (f_Model_bytesIn (sI σ 565 0 (0 : Int32)) x5).bind fun q5 =>
  if ((((((mI (sI σ 565 0 (0 : Int32)) 565 6) + q1) + q2) + q3) + q4) + q5) ≤ (240 : Int32) then
    (f_Model_put (sI σ 565 0 (0 : Int32)) x1).bind fun q7 =>
    (f_Model_put q7 x2).bind fun q8 =>
    (f_Model_put q8 x3).bind fun q9 =>
    (f_Model_put q9 x4).bind fun q10 =>
    (f_Model_put q10 x5).bind fun q11 =>
    some ((mI q11 565 6), q11)
  else
    some ((-1 : Int32), (sI σ 565 0 (0 : Int32)))
set_option maxHeartbeats 4000000 in
set_option maxRecDepth 20000 in
theorem g_Model_feed (X : Cx θ p s m args c cX11_feed 6 RX11) (hr : meth.sig.returnType = some .int) (hlk : meth.locks = false)  {σ : Mem} {x1 : Int32} {x2 : Int32} {x3 : Int32} {x4 : Int32} {x5 : Int32} {r : Int32 × Mem}  (h : f_Model_feed σ x1 x2 x3 x4 x5 = some r) : GB θ p l e 1 s m args below meth c 6 (some (.int r.1), r.2) 0 [(0, .ref (be θ + 565)), (1, .int x1), (2, .int x2), (3, .int x3), (4, .int x4), (5, .int x5)] [] σ := by
  unfold f_Model_feed at h
  refine g_aload_n X dX11_feed_0 rfl 0 rfl ?_
  refine g_iconst X dX11_feed_1 (v := (0 : Int32)) ic_0 ?_
  refine g_putI X fl_RX11_112 dX11_feed_2 kd_565 rfl rfl rfl ?_
  refine g_aload_n X dX11_feed_5 rfl 0 rfl ?_
  refine g_get X fl_RX11_125 dX11_feed_6 kd_565 (v := .int (mI (sI σ 565 0 (0 : Int32)) 565 6)) rfl ?_
  refine g_iload_n X dX11_feed_9 rfl 1 rfl ?_
  obtain ⟨q1, hq1, h⟩ := Option.bind_eq_some_iff.mp h
  refine g_cS X (c_Model_bytesIn  hq1) lk_RX11_127 my_X11_bytesIn (As := [.int x1]) (rest := [.int (mI (sI σ 565 0 (0 : Int32)) 565 6)]) rfl rfl (Nat.le_of_ble_eq_true rfl) ⟨(Nat.le_of_ble_eq_true rfl), (Nat.le_of_ble_eq_true rfl)⟩ ⟨(Nat.le_of_ble_eq_true rfl), (Nat.le_of_ble_eq_true rfl)⟩ dX11_feed_10 (st' := [.int q1, .int (mI (sI σ 565 0 (0 : Int32)) 565 6)]) (σ' := (sI σ 565 0 (0 : Int32))) rfl rfl ?_
  refine g_iadd X dX11_feed_13 ?_
  refine g_iload_n X dX11_feed_14 rfl 2 rfl ?_
  obtain ⟨q2, hq2, h⟩ := Option.bind_eq_some_iff.mp h
  refine g_cS X (c_Model_bytesIn  hq2) lk_RX11_127 my_X11_bytesIn (As := [.int x2]) (rest := [.int ((mI (sI σ 565 0 (0 : Int32)) 565 6) + q1)]) rfl rfl (Nat.le_of_ble_eq_true rfl) ⟨(Nat.le_of_ble_eq_true rfl), (Nat.le_of_ble_eq_true rfl)⟩ ⟨(Nat.le_of_ble_eq_true rfl), (Nat.le_of_ble_eq_true rfl)⟩ dX11_feed_15 (st' := [.int q2, .int ((mI (sI σ 565 0 (0 : Int32)) 565 6) + q1)]) (σ' := (sI σ 565 0 (0 : Int32))) rfl rfl ?_
  refine g_iadd X dX11_feed_18 ?_
  refine g_iload_n X dX11_feed_19 rfl 3 rfl ?_
  obtain ⟨q3, hq3, h⟩ := Option.bind_eq_some_iff.mp h
  refine g_cS X (c_Model_bytesIn  hq3) lk_RX11_127 my_X11_bytesIn (As := [.int x3]) (rest := [.int (((mI (sI σ 565 0 (0 : Int32)) 565 6) + q1) + q2)]) rfl rfl (Nat.le_of_ble_eq_true rfl) ⟨(Nat.le_of_ble_eq_true rfl), (Nat.le_of_ble_eq_true rfl)⟩ ⟨(Nat.le_of_ble_eq_true rfl), (Nat.le_of_ble_eq_true rfl)⟩ dX11_feed_20 (st' := [.int q3, .int (((mI (sI σ 565 0 (0 : Int32)) 565 6) + q1) + q2)]) (σ' := (sI σ 565 0 (0 : Int32))) rfl rfl ?_
  refine g_iadd X dX11_feed_23 ?_
  refine g_iload X dX11_feed_24 4 rfl ?_
  obtain ⟨q4, hq4, h⟩ := Option.bind_eq_some_iff.mp h
  refine g_cS X (c_Model_bytesIn  hq4) lk_RX11_127 my_X11_bytesIn (As := [.int x4]) (rest := [.int ((((mI (sI σ 565 0 (0 : Int32)) 565 6) + q1) + q2) + q3)]) rfl rfl (Nat.le_of_ble_eq_true rfl) ⟨(Nat.le_of_ble_eq_true rfl), (Nat.le_of_ble_eq_true rfl)⟩ ⟨(Nat.le_of_ble_eq_true rfl), (Nat.le_of_ble_eq_true rfl)⟩ dX11_feed_26 (st' := [.int q4, .int ((((mI (sI σ 565 0 (0 : Int32)) 565 6) + q1) + q2) + q3)]) (σ' := (sI σ 565 0 (0 : Int32))) rfl rfl ?_
  refine g_iadd X dX11_feed_29 ?_
  refine g_iload X dX11_feed_30 5 rfl ?_
  obtain ⟨q5, hq5, h⟩ := Option.bind_eq_some_iff.mp h
  refine g_cS X (c_Model_bytesIn  hq5) lk_RX11_127 my_X11_bytesIn (As := [.int x5]) (rest := [.int (((((mI (sI σ 565 0 (0 : Int32)) 565 6) + q1) + q2) + q3) + q4)]) rfl rfl (Nat.le_of_ble_eq_true rfl) ⟨(Nat.le_of_ble_eq_true rfl), (Nat.le_of_ble_eq_true rfl)⟩ ⟨(Nat.le_of_ble_eq_true rfl), (Nat.le_of_ble_eq_true rfl)⟩ dX11_feed_32 (st' := [.int q5, .int (((((mI (sI σ 565 0 (0 : Int32)) 565 6) + q1) + q2) + q3) + q4)]) (σ' := (sI σ 565 0 (0 : Int32))) rfl rfl ?_
  refine g_iadd X dX11_feed_35 ?_
  refine g_sipush X dX11_feed_36 (v := (240 : Int32)) sp_240 ?_
  refine g_icmp_le (tgt := 44) X dX11_feed_39 (by decide) (fun c6 => ?_) (fun c6 => ?_)
  · replace h := (if_pos c6).symm.trans h
    refine g_aload_n X dX11_feed_44 rfl 0 rfl ?_
    refine g_iload_n X dX11_feed_45 rfl 1 rfl ?_
    obtain ⟨q7, hq7, h⟩ := Option.bind_eq_some_iff.mp h
    refine g_cV X (c_Model_put  hq7) lk_RX11_131 my_X11_put (a := 565) (ci := 11) kd_565 (by decide) rfl (As := [.int x1]) (rest := []) rfl rfl (Nat.le_of_ble_eq_true rfl) ⟨(Nat.le_of_ble_eq_true rfl), (Nat.le_of_ble_eq_true rfl)⟩ ⟨(Nat.le_of_ble_eq_true rfl), (Nat.le_of_ble_eq_true rfl)⟩ dX11_feed_46 (st' := []) (σ' := q7) rfl rfl ?_
    refine g_aload_n X dX11_feed_49 rfl 0 rfl ?_
    refine g_iload_n X dX11_feed_50 rfl 2 rfl ?_
    obtain ⟨q8, hq8, h⟩ := Option.bind_eq_some_iff.mp h
    refine g_cV X (c_Model_put  hq8) lk_RX11_131 my_X11_put (a := 565) (ci := 11) kd_565 (by decide) rfl (As := [.int x2]) (rest := []) rfl rfl (Nat.le_of_ble_eq_true rfl) ⟨(Nat.le_of_ble_eq_true rfl), (Nat.le_of_ble_eq_true rfl)⟩ ⟨(Nat.le_of_ble_eq_true rfl), (Nat.le_of_ble_eq_true rfl)⟩ dX11_feed_51 (st' := []) (σ' := q8) rfl rfl ?_
    refine g_aload_n X dX11_feed_54 rfl 0 rfl ?_
    refine g_iload_n X dX11_feed_55 rfl 3 rfl ?_
    obtain ⟨q9, hq9, h⟩ := Option.bind_eq_some_iff.mp h
    refine g_cV X (c_Model_put  hq9) lk_RX11_131 my_X11_put (a := 565) (ci := 11) kd_565 (by decide) rfl (As := [.int x3]) (rest := []) rfl rfl (Nat.le_of_ble_eq_true rfl) ⟨(Nat.le_of_ble_eq_true rfl), (Nat.le_of_ble_eq_true rfl)⟩ ⟨(Nat.le_of_ble_eq_true rfl), (Nat.le_of_ble_eq_true rfl)⟩ dX11_feed_56 (st' := []) (σ' := q9) rfl rfl ?_
    refine g_aload_n X dX11_feed_59 rfl 0 rfl ?_
    refine g_iload X dX11_feed_60 4 rfl ?_
    obtain ⟨q10, hq10, h⟩ := Option.bind_eq_some_iff.mp h
    refine g_cV X (c_Model_put  hq10) lk_RX11_131 my_X11_put (a := 565) (ci := 11) kd_565 (by decide) rfl (As := [.int x4]) (rest := []) rfl rfl (Nat.le_of_ble_eq_true rfl) ⟨(Nat.le_of_ble_eq_true rfl), (Nat.le_of_ble_eq_true rfl)⟩ ⟨(Nat.le_of_ble_eq_true rfl), (Nat.le_of_ble_eq_true rfl)⟩ dX11_feed_62 (st' := []) (σ' := q10) rfl rfl ?_
    refine g_aload_n X dX11_feed_65 rfl 0 rfl ?_
    refine g_iload X dX11_feed_66 5 rfl ?_
    obtain ⟨q11, hq11, h⟩ := Option.bind_eq_some_iff.mp h
    refine g_cV X (c_Model_put  hq11) lk_RX11_131 my_X11_put (a := 565) (ci := 11) kd_565 (by decide) rfl (As := [.int x5]) (rest := []) rfl rfl (Nat.le_of_ble_eq_true rfl) ⟨(Nat.le_of_ble_eq_true rfl), (Nat.le_of_ble_eq_true rfl)⟩ ⟨(Nat.le_of_ble_eq_true rfl), (Nat.le_of_ble_eq_true rfl)⟩ dX11_feed_68 (st' := []) (σ' := q11) rfl rfl ?_
    refine g_aload_n X dX11_feed_71 rfl 0 rfl ?_
    refine g_get X fl_RX11_125 dX11_feed_72 kd_565 (v := .int (mI q11 565 6)) rfl ?_
    exact g_iret X hr hlk dX11_feed_75 (by cases h; rfl)
  · replace h := (if_neg c6).symm.trans h
    refine g_iconst X dX11_feed_42 (v := (-1 : Int32)) ic_m1 ?_
    exact g_iret X hr hlk dX11_feed_43 (by cases h; rfl)
set_option maxHeartbeats 4000000 in
set_option maxRecDepth 20000 in
theorem c_Model_feed {θ : Th} {l : Launch} {σ : Mem} {x1 : Int32} {x2 : Int32} {x3 : Int32} {x4 : Int32} {x5 : Int32} {r : Int32 × Mem}  (h : f_Model_feed σ x1 x2 x3 x4 x5 = some r) : Cn θ l yX11_feed cX11_feed 6 (some .int) 1 0 0 [.ref (be θ + 565), .int x1, .int x2, .int x3, .int x4, .int x5] σ (some (.int r.1), r.2) :=
  Cn.of (by decide) (Nat.le_of_ble_eq_true rfl) (fun p e s m below meth c X hr hlk => g_Model_feed X hr hlk  h)
theorem dX11_end_0 : decode cX11_end 0 = .ok (.aload_n 0, 1) := by decide +kernel
theorem dX11_end_1 : decode cX11_end 1 = .ok (.iconst 0, 1) := by decide +kernel
theorem dX11_end_2 : decode cX11_end 2 = .ok (.putfield 112, 3) := by decide +kernel
theorem dX11_end_5 : decode cX11_end 5 = .ok (.iload_n 1, 1) := by decide +kernel
theorem dX11_end_6 : decode cX11_end 6 = .ok (.ifCond .lt 11, 3) := by decide +kernel
theorem dX11_end_9 : decode cX11_end 9 = .ok (.iload_n 1, 1) := by decide +kernel
theorem dX11_end_10 : decode cX11_end 10 = .ok (.aload_n 0, 1) := by decide +kernel
theorem dX11_end_11 : decode cX11_end 11 = .ok (.getfield 125, 3) := by decide +kernel
theorem dX11_end_14 : decode cX11_end 14 = .ok (.if_icmp .le 5, 3) := by decide +kernel
theorem dX11_end_17 : decode cX11_end 17 = .ok (.iconst 0, 1) := by decide +kernel
theorem dX11_end_18 : decode cX11_end 18 = .ok (.ireturn, 1) := by decide +kernel
theorem dX11_end_19 : decode cX11_end 19 = .ok (.aload_n 0, 1) := by decide +kernel
theorem dX11_end_20 : decode cX11_end 20 = .ok (.iload_n 1, 1) := by decide +kernel
theorem dX11_end_21 : decode cX11_end 21 = .ok (.putfield 125, 3) := by decide +kernel
theorem dX11_end_24 : decode cX11_end 24 = .ok (.iconst 1, 1) := by decide +kernel
theorem dX11_end_25 : decode cX11_end 25 = .ok (.ireturn, 1) := by decide +kernel
def f_Model_end (σ : Mem) (x1 : Int32) : Option (Int32 × Mem) :=
  if x1 < (0 : Int32) then
    some ((0 : Int32), (sI σ 565 0 (0 : Int32)))
  else
    if x1 ≤ (mI (sI σ 565 0 (0 : Int32)) 565 6) then
      some ((1 : Int32), (sI (sI σ 565 0 (0 : Int32)) 565 6 x1))
    else
      some ((0 : Int32), (sI σ 565 0 (0 : Int32)))
set_option maxHeartbeats 4000000 in
set_option maxRecDepth 20000 in
theorem g_Model_end (X : Cx θ p s m args c cX11_end 2 RX11) (hr : meth.sig.returnType = some .boolean) (hlk : meth.locks = false)  {σ : Mem} {x1 : Int32} {r : Int32 × Mem}  (h : f_Model_end σ x1 = some r) : GB θ p l e 0 s m args below meth c 2 (some (.int r.1), r.2) 0 [(0, .ref (be θ + 565)), (1, .int x1)] [] σ := by
  unfold f_Model_end at h
  refine g_aload_n X dX11_end_0 rfl 0 rfl ?_
  refine g_iconst X dX11_end_1 (v := (0 : Int32)) ic_0 ?_
  refine g_putI X fl_RX11_112 dX11_end_2 kd_565 rfl rfl rfl ?_
  refine g_iload_n X dX11_end_5 rfl 1 rfl ?_
  refine g_if_lt (tgt := 17) X dX11_end_6 (by decide) (fun c1 => ?_) (fun c1 => ?_)
  · replace h := (if_pos c1).symm.trans h
    refine g_iconst X dX11_end_17 (v := (0 : Int32)) ic_0 ?_
    exact g_zret X hr hlk bz0 dX11_end_18 (by cases h; rfl)
  · replace h := (if_neg c1).symm.trans h
    refine g_iload_n X dX11_end_9 rfl 1 rfl ?_
    refine g_aload_n X dX11_end_10 rfl 0 rfl ?_
    refine g_get X fl_RX11_125 dX11_end_11 kd_565 (v := .int (mI (sI σ 565 0 (0 : Int32)) 565 6)) rfl ?_
    refine g_icmp_le (tgt := 19) X dX11_end_14 (by decide) (fun c2 => ?_) (fun c2 => ?_)
    · replace h := (if_pos c2).symm.trans h
      refine g_aload_n X dX11_end_19 rfl 0 rfl ?_
      refine g_iload_n X dX11_end_20 rfl 1 rfl ?_
      refine g_putI X fl_RX11_125 dX11_end_21 kd_565 rfl rfl rfl ?_
      refine g_iconst X dX11_end_24 (v := (1 : Int32)) ic_1 ?_
      exact g_zret X hr hlk bz1 dX11_end_25 (by cases h; rfl)
    · replace h := (if_neg c2).symm.trans h
      refine g_iconst X dX11_end_17 (v := (0 : Int32)) ic_0 ?_
      exact g_zret X hr hlk bz0 dX11_end_18 (by cases h; rfl)
set_option maxHeartbeats 4000000 in
set_option maxRecDepth 20000 in
theorem c_Model_end {θ : Th} {l : Launch} {σ : Mem} {x1 : Int32} {r : Int32 × Mem}  (h : f_Model_end σ x1 = some r) : Cn θ l yX11_end cX11_end 2 (some .boolean) 0 0 0 [.ref (be θ + 565), .int x1] σ (some (.int r.1), r.2) :=
  Cn.of (by decide) (Nat.le_of_ble_eq_true rfl) (fun p e s m below meth c X hr hlk => g_Model_end X hr hlk  h)
theorem dX11_look_0 : decode cX11_look 0 = .ok (.aload_n 0, 1) := by decide +kernel
theorem dX11_look_1 : decode cX11_look 1 = .ok (.getfield 135, 3) := by decide +kernel
theorem dX11_look_4 : decode cX11_look 4 = .ok (.aload_n 0, 1) := by decide +kernel
theorem dX11_look_5 : decode cX11_look 5 = .ok (.getfield 138, 3) := by decide +kernel
theorem dX11_look_8 : decode cX11_look 8 = .ok (.if_icmp .ge 35, 3) := by decide +kernel
theorem dX11_look_11 : decode cX11_look 11 = .ok (.aload_n 0, 1) := by decide +kernel
theorem dX11_look_12 : decode cX11_look 12 = .ok (.getfield 23, 3) := by decide +kernel
theorem dX11_look_15 : decode cX11_look 15 = .ok (.aload_n 0, 1) := by decide +kernel
theorem dX11_look_16 : decode cX11_look 16 = .ok (.getfield 141, 3) := by decide +kernel
theorem dX11_look_19 : decode cX11_look 19 = .ok (.aload_n 0, 1) := by decide +kernel
theorem dX11_look_20 : decode cX11_look 20 = .ok (.getfield 135, 3) := by decide +kernel
theorem dX11_look_23 : decode cX11_look 23 = .ok (.iadd, 1) := by decide +kernel
theorem dX11_look_24 : decode cX11_look 24 = .ok (.baload, 1) := by decide +kernel
theorem dX11_look_25 : decode cX11_look 25 = .ok (.bipush 32, 2) := by decide +kernel
theorem dX11_look_27 : decode cX11_look 27 = .ok (.if_icmp .ne 16, 3) := by decide +kernel
theorem dX11_look_30 : decode cX11_look 30 = .ok (.aload_n 0, 1) := by decide +kernel
theorem dX11_look_31 : decode cX11_look 31 = .ok (.dup, 1) := by decide +kernel
theorem dX11_look_32 : decode cX11_look 32 = .ok (.getfield 135, 3) := by decide +kernel
theorem dX11_look_35 : decode cX11_look 35 = .ok (.iconst 1, 1) := by decide +kernel
theorem dX11_look_36 : decode cX11_look 36 = .ok (.iadd, 1) := by decide +kernel
theorem dX11_look_37 : decode cX11_look 37 = .ok (.putfield 135, 3) := by decide +kernel
theorem dX11_look_40 : decode cX11_look 40 = .ok (.goto (-40), 3) := by decide +kernel
theorem dX11_look_43 : decode cX11_look 43 = .ok (.aload_n 0, 1) := by decide +kernel
theorem dX11_look_44 : decode cX11_look 44 = .ok (.getfield 135, 3) := by decide +kernel
theorem dX11_look_47 : decode cX11_look 47 = .ok (.aload_n 0, 1) := by decide +kernel
theorem dX11_look_48 : decode cX11_look 48 = .ok (.getfield 138, 3) := by decide +kernel
theorem dX11_look_51 : decode cX11_look 51 = .ok (.if_icmp .ge 24, 3) := by decide +kernel
theorem dX11_look_54 : decode cX11_look 54 = .ok (.aload_n 0, 1) := by decide +kernel
theorem dX11_look_55 : decode cX11_look 55 = .ok (.getfield 23, 3) := by decide +kernel
theorem dX11_look_58 : decode cX11_look 58 = .ok (.aload_n 0, 1) := by decide +kernel
theorem dX11_look_59 : decode cX11_look 59 = .ok (.getfield 141, 3) := by decide +kernel
theorem dX11_look_62 : decode cX11_look 62 = .ok (.aload_n 0, 1) := by decide +kernel
theorem dX11_look_63 : decode cX11_look 63 = .ok (.getfield 135, 3) := by decide +kernel
theorem dX11_look_66 : decode cX11_look 66 = .ok (.iadd, 1) := by decide +kernel
theorem dX11_look_67 : decode cX11_look 67 = .ok (.baload, 1) := by decide +kernel
theorem dX11_look_68 : decode cX11_look 68 = .ok (.sipush 255, 3) := by decide +kernel
theorem dX11_look_71 : decode cX11_look 71 = .ok (.iand, 1) := by decide +kernel
theorem dX11_look_72 : decode cX11_look 72 = .ok (.goto 4, 3) := by decide +kernel
theorem dX11_look_75 : decode cX11_look 75 = .ok (.iconst (-1), 1) := by decide +kernel
theorem dX11_look_76 : decode cX11_look 76 = .ok (.ireturn, 1) := by decide +kernel
def f_Model_look_L0  (a : Mem) : Option ((Mem) ⊕ (Mem)) :=
  if (mI a 565 9) ≤ (mI a 565 10) then
    some (.inr a)
  else
    if kd (mR a 565 5) = 14 then
      if inb ((mI a 565 8) + (mI a 565 10)) (ln (mR a 565 5)) then
        if (mI a (mR a 565 5) ((mI a 565 8) + (mI a 565 10)).toNatClampNeg) = (32 : Int32) then
          some (.inl (sI a 565 10 ((mI a 565 10) + (1 : Int32))))
        else
          some (.inr a)
      else none
    else none
def f_Model_look_J43 (σ : Mem)  : Option (Int32 × Mem) :=
  if (mI σ 565 9) ≤ (mI σ 565 10) then
    some ((-1 : Int32), σ)
  else
    if kd (mR σ 565 5) = 14 then
      if inb ((mI σ 565 8) + (mI σ 565 10)) (ln (mR σ 565 5)) then
        some (((mI σ (mR σ 565 5) ((mI σ 565 8) + (mI σ 565 10)).toNatClampNeg) &&& (255 : Int32)), σ)
      else none
    else none
def f_Model_look (σ : Mem)  : Option (Int32 × Mem) :=
  (loopF (f_Model_look_L0 ) FU σ).bind fun w5 =>
  f_Model_look_J43 w5 
set_option maxHeartbeats 4000000 in
set_option maxRecDepth 20000 in
theorem gs_Model_look_L0 (X : Cx θ p s m args c cX11_look 1 RX11) (hr : meth.sig.returnType = some .int) (hlk : meth.locks = false)   {r : Int32 × Mem}  (a : Mem) (x : (Mem) ⊕ (Mem)) (h : f_Model_look_L0  a = some x) (hk : Sum.elim (fun a => GB θ p l e 0 s m args below meth c 1 (some (.int r.1), r.2) 0 [(0, .ref (be θ + 565))] [] a) (fun w => GB θ p l e 0 s m args below meth c 1 (some (.int r.1), r.2) 43 [(0, .ref (be θ + 565))] [] w) x) : GB θ p l e 0 s m args below meth c 1 (some (.int r.1), r.2) 0 [(0, .ref (be θ + 565))] [] a := by
  unfold f_Model_look_L0 at h
  refine g_aload_n X dX11_look_0 rfl 0 rfl ?_
  refine g_get X fl_RX11_135 dX11_look_1 kd_565 (v := .int (mI a 565 10)) rfl ?_
  refine g_aload_n X dX11_look_4 rfl 0 rfl ?_
  refine g_get X fl_RX11_138 dX11_look_5 kd_565 (v := .int (mI a 565 9)) rfl ?_
  refine g_icmp_ge (tgt := 43) X dX11_look_8 (by decide) (fun c1 => ?_) (fun c1 => ?_)
  · replace h := (if_pos c1).symm.trans h
    have hk := inr_hk h hk
    exact g_sub (lv' := [(0, .ref (be θ + 565))]) [0] rfl hk
  · replace h := (if_neg c1).symm.trans h
    refine g_aload_n X dX11_look_11 rfl 0 rfl ?_
    refine g_get X fl_RX11_23 dX11_look_12 kd_565 (v := rv (be θ) (mR a 565 5)) rfl ?_
    refine g_aload_n X dX11_look_15 rfl 0 rfl ?_
    refine g_get X fl_RX11_141 dX11_look_16 kd_565 (v := .int (mI a 565 8)) rfl ?_
    refine g_aload_n X dX11_look_19 rfl 0 rfl ?_
    refine g_get X fl_RX11_135 dX11_look_20 kd_565 (v := .int (mI a 565 10)) rfl ?_
    refine g_iadd X dX11_look_23 ?_
    obtain ⟨g2, h⟩ := ite_some h
    rw [← rv_of (β := be θ) g2 (by decide)]
    obtain ⟨g3, h⟩ := ite_some h
    refine g_bald X g2 rfl (inb_in g3) dX11_look_24 ?_
    refine g_bipush X dX11_look_25 (v := (32 : Int32)) bp_32 ?_
    refine g_icmp_ne (tgt := 43) X dX11_look_27 (by decide) (fun c4 => ?_) (fun c4 => ?_)
    · replace h := (if_neg c4).symm.trans h
      have hk := inr_hk h hk
      exact g_sub (lv' := [(0, .ref (be θ + 565))]) [0] rfl hk
    · replace h := (if_pos c4).symm.trans h
      refine g_aload_n X dX11_look_30 rfl 0 rfl ?_
      refine g_dup X dX11_look_31 rfl ?_
      refine g_get X fl_RX11_135 dX11_look_32 kd_565 (v := .int (mI a 565 10)) rfl ?_
      refine g_iconst X dX11_look_35 (v := (1 : Int32)) ic_1 ?_
      refine g_iadd X dX11_look_36 ?_
      refine g_putI X fl_RX11_135 dX11_look_37 kd_565 rfl rfl rfl ?_
      refine g_goto (tgt := 0) X dX11_look_40 (by decide) ?_
      have hk := inl_hk h hk
      exact g_sub (lv' := [(0, .ref (be θ + 565))]) [0] rfl hk
set_option maxHeartbeats 4000000 in
set_option maxRecDepth 20000 in
theorem gl_Model_look_L0 (X : Cx θ p s m args c cX11_look 1 RX11) (hr : meth.sig.returnType = some .int) (hlk : meth.locks = false)   {r : Int32 × Mem}  (n : Nat) (a : Mem) (b : Mem) (h : loopF (f_Model_look_L0 ) n a = some b) (hk : (fun w => GB θ p l e 0 s m args below meth c 1 (some (.int r.1), r.2) 43 [(0, .ref (be θ + 565))] [] w) b) : (fun a => GB θ p l e 0 s m args below meth c 1 (some (.int r.1), r.2) 0 [(0, .ref (be θ + 565))] [] a) a :=
  loopF_by (P := (fun a => GB θ p l e 0 s m args below meth c 1 (some (.int r.1), r.2) 0 [(0, .ref (be θ + 565))] [] a)) (K := (fun w => GB θ p l e 0 s m args below meth c 1 (some (.int r.1), r.2) 43 [(0, .ref (be θ + 565))] [] w)) (fun a x h hk => by exact gs_Model_look_L0 X hr hlk   a x h hk) n a b h hk
set_option maxHeartbeats 4000000 in
set_option maxRecDepth 20000 in
theorem g_Model_look_J43 (X : Cx θ p s m args c cX11_look 1 RX11) (hr : meth.sig.returnType = some .int) (hlk : meth.locks = false)  {σ : Mem}  {r : Int32 × Mem}  (h : f_Model_look_J43 σ  = some r) : GB θ p l e 0 s m args below meth c 1 (some (.int r.1), r.2) 43 [(0, .ref (be θ + 565))] [] σ := by
  unfold f_Model_look_J43 at h
  refine g_aload_n X dX11_look_43 rfl 0 rfl ?_
  refine g_get X fl_RX11_135 dX11_look_44 kd_565 (v := .int (mI σ 565 10)) rfl ?_
  refine g_aload_n X dX11_look_47 rfl 0 rfl ?_
  refine g_get X fl_RX11_138 dX11_look_48 kd_565 (v := .int (mI σ 565 9)) rfl ?_
  refine g_icmp_ge (tgt := 75) X dX11_look_51 (by decide) (fun c6 => ?_) (fun c6 => ?_)
  · replace h := (if_pos c6).symm.trans h
    refine g_iconst X dX11_look_75 (v := (-1 : Int32)) ic_m1 ?_
    exact g_iret X hr hlk dX11_look_76 (by cases h; rfl)
  · replace h := (if_neg c6).symm.trans h
    refine g_aload_n X dX11_look_54 rfl 0 rfl ?_
    refine g_get X fl_RX11_23 dX11_look_55 kd_565 (v := rv (be θ) (mR σ 565 5)) rfl ?_
    refine g_aload_n X dX11_look_58 rfl 0 rfl ?_
    refine g_get X fl_RX11_141 dX11_look_59 kd_565 (v := .int (mI σ 565 8)) rfl ?_
    refine g_aload_n X dX11_look_62 rfl 0 rfl ?_
    refine g_get X fl_RX11_135 dX11_look_63 kd_565 (v := .int (mI σ 565 10)) rfl ?_
    refine g_iadd X dX11_look_66 ?_
    obtain ⟨g7, h⟩ := ite_some h
    rw [← rv_of (β := be θ) g7 (by decide)]
    obtain ⟨g8, h⟩ := ite_some h
    refine g_bald X g7 rfl (inb_in g8) dX11_look_67 ?_
    refine g_sipush X dX11_look_68 (v := (255 : Int32)) sp_255 ?_
    refine g_iand X dX11_look_71 ?_
    refine g_goto (tgt := 76) X dX11_look_72 (by decide) ?_
    exact g_iret X hr hlk dX11_look_76 (by cases h; rfl)
set_option maxHeartbeats 4000000 in
set_option maxRecDepth 20000 in
theorem g_Model_look (X : Cx θ p s m args c cX11_look 1 RX11) (hr : meth.sig.returnType = some .int) (hlk : meth.locks = false)  {σ : Mem}  {r : Int32 × Mem}  (h : f_Model_look σ  = some r) : GB θ p l e 0 s m args below meth c 1 (some (.int r.1), r.2) 0 [(0, .ref (be θ + 565))] [] σ := by
  unfold f_Model_look at h
  obtain ⟨w5, hq5, h⟩ := Option.bind_eq_some_iff.mp h
  refine g_sub (lv' := [(0, .ref (be θ + 565))]) [0] rfl (gl_Model_look_L0 X hr hlk    FU _ w5 hq5 ?_)
  exact g_sub (lv' := [(0, .ref (be θ + 565))]) [0] rfl (g_Model_look_J43 X hr hlk    h)
set_option maxHeartbeats 4000000 in
set_option maxRecDepth 20000 in
theorem c_Model_look {θ : Th} {l : Launch} {σ : Mem}  {r : Int32 × Mem}  (h : f_Model_look σ  = some r) : Cn θ l yX11_look cX11_look 1 (some .int) 0 0 0 [.ref (be θ + 565)] σ (some (.int r.1), r.2) :=
  Cn.of (by decide) (Nat.le_of_ble_eq_true rfl) (fun p e s m below meth c X hr hlk => g_Model_look X hr hlk  h)
theorem dX11_fails_0 : decode cX11_fails 0 = .ok (.aload_n 0, 1) := by decide +kernel
theorem dX11_fails_1 : decode cX11_fails 1 = .ok (.getfield 144, 3) := by decide +kernel
theorem dX11_fails_4 : decode cX11_fails 4 = .ok (.iconst (-1), 1) := by decide +kernel
theorem dX11_fails_5 : decode cX11_fails 5 = .ok (.if_icmp .ne 11, 3) := by decide +kernel
theorem dX11_fails_8 : decode cX11_fails 8 = .ok (.aload_n 0, 1) := by decide +kernel
theorem dX11_fails_9 : decode cX11_fails 9 = .ok (.aload_n 0, 1) := by decide +kernel
theorem dX11_fails_10 : decode cX11_fails 10 = .ok (.getfield 135, 3) := by decide +kernel
theorem dX11_fails_13 : decode cX11_fails 13 = .ok (.putfield 144, 3) := by decide +kernel
theorem dX11_fails_16 : decode cX11_fails 16 = .ok (.iconst 0, 1) := by decide +kernel
theorem dX11_fails_17 : decode cX11_fails 17 = .ok (.ireturn, 1) := by decide +kernel
def f_Model_fails (σ : Mem)  : Option (Int32 × Mem) :=
  if (mI σ 565 11) = (-1 : Int32) then
    some ((0 : Int32), (sI σ 565 11 (mI σ 565 10)))
  else
    some ((0 : Int32), σ)
set_option maxHeartbeats 4000000 in
set_option maxRecDepth 20000 in
theorem g_Model_fails (X : Cx θ p s m args c cX11_fails 1 RX11) (hr : meth.sig.returnType = some .boolean) (hlk : meth.locks = false)  {σ : Mem}  {r : Int32 × Mem}  (h : f_Model_fails σ  = some r) : GB θ p l e 0 s m args below meth c 1 (some (.int r.1), r.2) 0 [(0, .ref (be θ + 565))] [] σ := by
  unfold f_Model_fails at h
  refine g_aload_n X dX11_fails_0 rfl 0 rfl ?_
  refine g_get X fl_RX11_144 dX11_fails_1 kd_565 (v := .int (mI σ 565 11)) rfl ?_
  refine g_iconst X dX11_fails_4 (v := (-1 : Int32)) ic_m1 ?_
  refine g_icmp_ne (tgt := 16) X dX11_fails_5 (by decide) (fun c1 => ?_) (fun c1 => ?_)
  · replace h := (if_neg c1).symm.trans h
    refine g_iconst X dX11_fails_16 (v := (0 : Int32)) ic_0 ?_
    exact g_zret X hr hlk bz0 dX11_fails_17 (by cases h; rfl)
  · replace h := (if_pos c1).symm.trans h
    refine g_aload_n X dX11_fails_8 rfl 0 rfl ?_
    refine g_aload_n X dX11_fails_9 rfl 0 rfl ?_
    refine g_get X fl_RX11_135 dX11_fails_10 kd_565 (v := .int (mI σ 565 10)) rfl ?_
    refine g_putI X fl_RX11_144 dX11_fails_13 kd_565 rfl rfl rfl ?_
    refine g_iconst X dX11_fails_16 (v := (0 : Int32)) ic_0 ?_
    exact g_zret X hr hlk bz0 dX11_fails_17 (by cases h; rfl)
set_option maxHeartbeats 4000000 in
set_option maxRecDepth 20000 in
theorem c_Model_fails {θ : Th} {l : Launch} {σ : Mem}  {r : Int32 × Mem}  (h : f_Model_fails σ  = some r) : Cn θ l yX11_fails cX11_fails 1 (some .boolean) 0 0 0 [.ref (be θ + 565)] σ (some (.int r.1), r.2) :=
  Cn.of (by decide) (Nat.le_of_ble_eq_true rfl) (fun p e s m below meth c X hr hlk => g_Model_fails X hr hlk  h)
theorem dX11_goesIn_0 : decode cX11_goesIn 0 = .ok (.aload_n 0, 1) := by decide +kernel
theorem dX11_goesIn_1 : decode cX11_goesIn 1 = .ok (.getfield 147, 3) := by decide +kernel
theorem dX11_goesIn_4 : decode cX11_goesIn 4 = .ok (.bipush 6, 2) := by decide +kernel
theorem dX11_goesIn_6 : decode cX11_goesIn 6 = .ok (.if_icmp .ne 8, 3) := by decide +kernel
theorem dX11_goesIn_9 : decode cX11_goesIn 9 = .ok (.aload_n 0, 1) := by decide +kernel
theorem dX11_goesIn_10 : decode cX11_goesIn 10 = .ok (.invokevirtual 150, 3) := by decide +kernel
theorem dX11_goesIn_13 : decode cX11_goesIn 13 = .ok (.ireturn, 1) := by decide +kernel
theorem dX11_goesIn_14 : decode cX11_goesIn 14 = .ok (.aload_n 0, 1) := by decide +kernel
theorem dX11_goesIn_15 : decode cX11_goesIn 15 = .ok (.dup, 1) := by decide +kernel
theorem dX11_goesIn_16 : decode cX11_goesIn 16 = .ok (.getfield 147, 3) := by decide +kernel
theorem dX11_goesIn_19 : decode cX11_goesIn 19 = .ok (.iconst 1, 1) := by decide +kernel
theorem dX11_goesIn_20 : decode cX11_goesIn 20 = .ok (.iadd, 1) := by decide +kernel
theorem dX11_goesIn_21 : decode cX11_goesIn 21 = .ok (.putfield 147, 3) := by decide +kernel
theorem dX11_goesIn_24 : decode cX11_goesIn 24 = .ok (.aload_n 0, 1) := by decide +kernel
theorem dX11_goesIn_25 : decode cX11_goesIn 25 = .ok (.dup, 1) := by decide +kernel
theorem dX11_goesIn_26 : decode cX11_goesIn 26 = .ok (.getfield 135, 3) := by decide +kernel
theorem dX11_goesIn_29 : decode cX11_goesIn 29 = .ok (.iconst 1, 1) := by decide +kernel
theorem dX11_goesIn_30 : decode cX11_goesIn 30 = .ok (.iadd, 1) := by decide +kernel
theorem dX11_goesIn_31 : decode cX11_goesIn 31 = .ok (.putfield 135, 3) := by decide +kernel
theorem dX11_goesIn_34 : decode cX11_goesIn 34 = .ok (.iconst 1, 1) := by decide +kernel
theorem dX11_goesIn_35 : decode cX11_goesIn 35 = .ok (.ireturn, 1) := by decide +kernel
def f_Model_goesIn (σ : Mem)  : Option (Int32 × Mem) :=
  if (mI σ 565 12) = (6 : Int32) then
    (f_Model_fails σ).bind fun q2 =>
    if bzb q2.1 then
      some (q2.1, q2.2)
    else none
  else
    some ((1 : Int32), (sI (sI σ 565 12 ((mI σ 565 12) + (1 : Int32))) 565 10 ((mI (sI σ 565 12 ((mI σ 565 12) + (1 : Int32))) 565 10) + (1 : Int32))))
set_option maxHeartbeats 4000000 in
set_option maxRecDepth 20000 in
theorem g_Model_goesIn (X : Cx θ p s m args c cX11_goesIn 1 RX11) (hr : meth.sig.returnType = some .boolean) (hlk : meth.locks = false)  {σ : Mem}  {r : Int32 × Mem}  (h : f_Model_goesIn σ  = some r) : GB θ p l e 1 s m args below meth c 1 (some (.int r.1), r.2) 0 [(0, .ref (be θ + 565))] [] σ := by
  unfold f_Model_goesIn at h
  refine g_aload_n X dX11_goesIn_0 rfl 0 rfl ?_
  refine g_get X fl_RX11_147 dX11_goesIn_1 kd_565 (v := .int (mI σ 565 12)) rfl ?_
  refine g_bipush X dX11_goesIn_4 (v := (6 : Int32)) bp_6 ?_
  refine g_icmp_ne (tgt := 14) X dX11_goesIn_6 (by decide) (fun c1 => ?_) (fun c1 => ?_)
  · replace h := (if_neg c1).symm.trans h
    refine g_aload_n X dX11_goesIn_14 rfl 0 rfl ?_
    refine g_dup X dX11_goesIn_15 rfl ?_
    refine g_get X fl_RX11_147 dX11_goesIn_16 kd_565 (v := .int (mI σ 565 12)) rfl ?_
    refine g_iconst X dX11_goesIn_19 (v := (1 : Int32)) ic_1 ?_
    refine g_iadd X dX11_goesIn_20 ?_
    refine g_putI X fl_RX11_147 dX11_goesIn_21 kd_565 rfl rfl rfl ?_
    refine g_aload_n X dX11_goesIn_24 rfl 0 rfl ?_
    refine g_dup X dX11_goesIn_25 rfl ?_
    refine g_get X fl_RX11_135 dX11_goesIn_26 kd_565 (v := .int (mI (sI σ 565 12 ((mI σ 565 12) + (1 : Int32))) 565 10)) rfl ?_
    refine g_iconst X dX11_goesIn_29 (v := (1 : Int32)) ic_1 ?_
    refine g_iadd X dX11_goesIn_30 ?_
    refine g_putI X fl_RX11_135 dX11_goesIn_31 kd_565 rfl rfl rfl ?_
    refine g_iconst X dX11_goesIn_34 (v := (1 : Int32)) ic_1 ?_
    exact g_zret X hr hlk bz1 dX11_goesIn_35 (by cases h; rfl)
  · replace h := (if_pos c1).symm.trans h
    refine g_aload_n X dX11_goesIn_9 rfl 0 rfl ?_
    obtain ⟨q2, hq2, h⟩ := Option.bind_eq_some_iff.mp h
    refine g_cV X (c_Model_fails  hq2) lk_RX11_150 my_X11_fails (a := 565) (ci := 11) kd_565 (by decide) rfl (As := []) (rest := []) rfl rfl (Nat.le_of_ble_eq_true rfl) ⟨(Nat.le_of_ble_eq_true rfl), (Nat.le_of_ble_eq_true rfl)⟩ ⟨(Nat.le_of_ble_eq_true rfl), (Nat.le_of_ble_eq_true rfl)⟩ dX11_goesIn_10 (st' := [.int q2.1]) (σ' := q2.2) rfl rfl ?_
    obtain ⟨g3, h⟩ := ite_some h
    exact g_zret X hr hlk (bzb_bz g3) dX11_goesIn_13 (by cases h; rfl)
set_option maxHeartbeats 4000000 in
set_option maxRecDepth 20000 in
theorem c_Model_goesIn {θ : Th} {l : Launch} {σ : Mem}  {r : Int32 × Mem}  (h : f_Model_goesIn σ  = some r) : Cn θ l yX11_goesIn cX11_goesIn 1 (some .boolean) 1 0 0 [.ref (be θ + 565)] σ (some (.int r.1), r.2) :=
  Cn.of (by decide) (Nat.le_of_ble_eq_true rfl) (fun p e s m below meth c X hr hlk => g_Model_goesIn X hr hlk  h)
theorem dX11_takes_0 : decode cX11_takes 0 = .ok (.aload_n 0, 1) := by decide +kernel
theorem dX11_takes_1 : decode cX11_takes 1 = .ok (.getfield 144, 3) := by decide +kernel
theorem dX11_takes_4 : decode cX11_takes 4 = .ok (.iconst (-1), 1) := by decide +kernel
theorem dX11_takes_5 : decode cX11_takes 5 = .ok (.if_icmp .ne 11, 3) := by decide +kernel
theorem dX11_takes_8 : decode cX11_takes 8 = .ok (.aload_n 0, 1) := by decide +kernel
theorem dX11_takes_9 : decode cX11_takes 9 = .ok (.invokevirtual 154, 3) := by decide +kernel
theorem dX11_takes_12 : decode cX11_takes 12 = .ok (.iload_n 1, 1) := by decide +kernel
theorem dX11_takes_13 : decode cX11_takes 13 = .ok (.if_icmp .eq 8, 3) := by decide +kernel
theorem dX11_takes_16 : decode cX11_takes 16 = .ok (.aload_n 0, 1) := by decide +kernel
theorem dX11_takes_17 : decode cX11_takes 17 = .ok (.invokevirtual 150, 3) := by decide +kernel
theorem dX11_takes_20 : decode cX11_takes 20 = .ok (.ireturn, 1) := by decide +kernel
theorem dX11_takes_21 : decode cX11_takes 21 = .ok (.aload_n 0, 1) := by decide +kernel
theorem dX11_takes_22 : decode cX11_takes 22 = .ok (.dup, 1) := by decide +kernel
theorem dX11_takes_23 : decode cX11_takes 23 = .ok (.getfield 135, 3) := by decide +kernel
theorem dX11_takes_26 : decode cX11_takes 26 = .ok (.iconst 1, 1) := by decide +kernel
theorem dX11_takes_27 : decode cX11_takes 27 = .ok (.iadd, 1) := by decide +kernel
theorem dX11_takes_28 : decode cX11_takes 28 = .ok (.putfield 135, 3) := by decide +kernel
theorem dX11_takes_31 : decode cX11_takes 31 = .ok (.iconst 1, 1) := by decide +kernel
theorem dX11_takes_32 : decode cX11_takes 32 = .ok (.ireturn, 1) := by decide +kernel
def f_Model_takes (σ : Mem) (x1 : Int32) : Option (Int32 × Mem) :=
  if (mI σ 565 11) = (-1 : Int32) then
    (f_Model_look σ).bind fun q4 =>
    if q4.1 = x1 then
      some ((1 : Int32), (sI q4.2 565 10 ((mI q4.2 565 10) + (1 : Int32))))
    else
      (f_Model_fails q4.2).bind fun q6 =>
      if bzb q6.1 then
        some (q6.1, q6.2)
      else none
  else
    (f_Model_fails σ).bind fun q2 =>
    if bzb q2.1 then
      some (q2.1, q2.2)
    else none
set_option maxHeartbeats 4000000 in
set_option maxRecDepth 20000 in
theorem g_Model_takes (X : Cx θ p s m args c cX11_takes 2 RX11) (hr : meth.sig.returnType = some .boolean) (hlk : meth.locks = false)  {σ : Mem} {x1 : Int32} {r : Int32 × Mem}  (h : f_Model_takes σ x1 = some r) : GB θ p l e 1 s m args below meth c 2 (some (.int r.1), r.2) 0 [(0, .ref (be θ + 565)), (1, .int x1)] [] σ := by
  unfold f_Model_takes at h
  refine g_aload_n X dX11_takes_0 rfl 0 rfl ?_
  refine g_get X fl_RX11_144 dX11_takes_1 kd_565 (v := .int (mI σ 565 11)) rfl ?_
  refine g_iconst X dX11_takes_4 (v := (-1 : Int32)) ic_m1 ?_
  refine g_icmp_ne (tgt := 16) X dX11_takes_5 (by decide) (fun c1 => ?_) (fun c1 => ?_)
  · replace h := (if_neg c1).symm.trans h
    refine g_aload_n X dX11_takes_16 rfl 0 rfl ?_
    obtain ⟨q2, hq2, h⟩ := Option.bind_eq_some_iff.mp h
    refine g_cV X (c_Model_fails  hq2) lk_RX11_150 my_X11_fails (a := 565) (ci := 11) kd_565 (by decide) rfl (As := []) (rest := []) rfl rfl (Nat.le_of_ble_eq_true rfl) ⟨(Nat.le_of_ble_eq_true rfl), (Nat.le_of_ble_eq_true rfl)⟩ ⟨(Nat.le_of_ble_eq_true rfl), (Nat.le_of_ble_eq_true rfl)⟩ dX11_takes_17 (st' := [.int q2.1]) (σ' := q2.2) rfl rfl ?_
    obtain ⟨g3, h⟩ := ite_some h
    exact g_zret X hr hlk (bzb_bz g3) dX11_takes_20 (by cases h; rfl)
  · replace h := (if_pos c1).symm.trans h
    refine g_aload_n X dX11_takes_8 rfl 0 rfl ?_
    obtain ⟨q4, hq4, h⟩ := Option.bind_eq_some_iff.mp h
    refine g_cV X (c_Model_look  hq4) lk_RX11_154 my_X11_look (a := 565) (ci := 11) kd_565 (by decide) rfl (As := []) (rest := []) rfl rfl (Nat.le_of_ble_eq_true rfl) ⟨(Nat.le_of_ble_eq_true rfl), (Nat.le_of_ble_eq_true rfl)⟩ ⟨(Nat.le_of_ble_eq_true rfl), (Nat.le_of_ble_eq_true rfl)⟩ dX11_takes_9 (st' := [.int q4.1]) (σ' := q4.2) rfl rfl ?_
    refine g_iload_n X dX11_takes_12 rfl 1 rfl ?_
    refine g_icmp_eq (tgt := 21) X dX11_takes_13 (by decide) (fun c5 => ?_) (fun c5 => ?_)
    · replace h := (if_pos c5).symm.trans h
      refine g_aload_n X dX11_takes_21 rfl 0 rfl ?_
      refine g_dup X dX11_takes_22 rfl ?_
      refine g_get X fl_RX11_135 dX11_takes_23 kd_565 (v := .int (mI q4.2 565 10)) rfl ?_
      refine g_iconst X dX11_takes_26 (v := (1 : Int32)) ic_1 ?_
      refine g_iadd X dX11_takes_27 ?_
      refine g_putI X fl_RX11_135 dX11_takes_28 kd_565 rfl rfl rfl ?_
      refine g_iconst X dX11_takes_31 (v := (1 : Int32)) ic_1 ?_
      exact g_zret X hr hlk bz1 dX11_takes_32 (by cases h; rfl)
    · replace h := (if_neg c5).symm.trans h
      refine g_aload_n X dX11_takes_16 rfl 0 rfl ?_
      obtain ⟨q6, hq6, h⟩ := Option.bind_eq_some_iff.mp h
      refine g_cV X (c_Model_fails  hq6) lk_RX11_150 my_X11_fails (a := 565) (ci := 11) kd_565 (by decide) rfl (As := []) (rest := []) rfl rfl (Nat.le_of_ble_eq_true rfl) ⟨(Nat.le_of_ble_eq_true rfl), (Nat.le_of_ble_eq_true rfl)⟩ ⟨(Nat.le_of_ble_eq_true rfl), (Nat.le_of_ble_eq_true rfl)⟩ dX11_takes_17 (st' := [.int q6.1]) (σ' := q6.2) rfl rfl ?_
      obtain ⟨g7, h⟩ := ite_some h
      exact g_zret X hr hlk (bzb_bz g7) dX11_takes_20 (by cases h; rfl)
set_option maxHeartbeats 4000000 in
set_option maxRecDepth 20000 in
theorem c_Model_takes {θ : Th} {l : Launch} {σ : Mem} {x1 : Int32} {r : Int32 × Mem}  (h : f_Model_takes σ x1 = some r) : Cn θ l yX11_takes cX11_takes 2 (some .boolean) 1 0 0 [.ref (be θ + 565), .int x1] σ (some (.int r.1), r.2) :=
  Cn.of (by decide) (Nat.le_of_ble_eq_true rfl) (fun p e s m below meth c X hr hlk => g_Model_takes X hr hlk  h)
theorem dX11_isDigit_0 : decode cX11_isDigit 0 = .ok (.aload_n 0, 1) := by decide +kernel
theorem dX11_isDigit_1 : decode cX11_isDigit 1 = .ok (.getfield 135, 3) := by decide +kernel
theorem dX11_isDigit_4 : decode cX11_isDigit 4 = .ok (.aload_n 0, 1) := by decide +kernel
theorem dX11_isDigit_5 : decode cX11_isDigit 5 = .ok (.getfield 138, 3) := by decide +kernel
theorem dX11_isDigit_8 : decode cX11_isDigit 8 = .ok (.if_icmp .ge 45, 3) := by decide +kernel
theorem dX11_isDigit_11 : decode cX11_isDigit 11 = .ok (.aload_n 0, 1) := by decide +kernel
theorem dX11_isDigit_12 : decode cX11_isDigit 12 = .ok (.getfield 23, 3) := by decide +kernel
theorem dX11_isDigit_15 : decode cX11_isDigit 15 = .ok (.aload_n 0, 1) := by decide +kernel
theorem dX11_isDigit_16 : decode cX11_isDigit 16 = .ok (.getfield 141, 3) := by decide +kernel
theorem dX11_isDigit_19 : decode cX11_isDigit 19 = .ok (.aload_n 0, 1) := by decide +kernel
theorem dX11_isDigit_20 : decode cX11_isDigit 20 = .ok (.getfield 135, 3) := by decide +kernel
theorem dX11_isDigit_23 : decode cX11_isDigit 23 = .ok (.iadd, 1) := by decide +kernel
theorem dX11_isDigit_24 : decode cX11_isDigit 24 = .ok (.baload, 1) := by decide +kernel
theorem dX11_isDigit_25 : decode cX11_isDigit 25 = .ok (.bipush 48, 2) := by decide +kernel
theorem dX11_isDigit_27 : decode cX11_isDigit 27 = .ok (.if_icmp .lt 26, 3) := by decide +kernel
theorem dX11_isDigit_30 : decode cX11_isDigit 30 = .ok (.aload_n 0, 1) := by decide +kernel
theorem dX11_isDigit_31 : decode cX11_isDigit 31 = .ok (.getfield 23, 3) := by decide +kernel
theorem dX11_isDigit_34 : decode cX11_isDigit 34 = .ok (.aload_n 0, 1) := by decide +kernel
theorem dX11_isDigit_35 : decode cX11_isDigit 35 = .ok (.getfield 141, 3) := by decide +kernel
theorem dX11_isDigit_38 : decode cX11_isDigit 38 = .ok (.aload_n 0, 1) := by decide +kernel
theorem dX11_isDigit_39 : decode cX11_isDigit 39 = .ok (.getfield 135, 3) := by decide +kernel
theorem dX11_isDigit_42 : decode cX11_isDigit 42 = .ok (.iadd, 1) := by decide +kernel
theorem dX11_isDigit_43 : decode cX11_isDigit 43 = .ok (.baload, 1) := by decide +kernel
theorem dX11_isDigit_44 : decode cX11_isDigit 44 = .ok (.bipush 57, 2) := by decide +kernel
theorem dX11_isDigit_46 : decode cX11_isDigit 46 = .ok (.if_icmp .gt 7, 3) := by decide +kernel
theorem dX11_isDigit_49 : decode cX11_isDigit 49 = .ok (.iconst 1, 1) := by decide +kernel
theorem dX11_isDigit_50 : decode cX11_isDigit 50 = .ok (.goto 4, 3) := by decide +kernel
theorem dX11_isDigit_53 : decode cX11_isDigit 53 = .ok (.iconst 0, 1) := by decide +kernel
theorem dX11_isDigit_54 : decode cX11_isDigit 54 = .ok (.ireturn, 1) := by decide +kernel
def f_Model_isDigit (σ : Mem)  : Option (Int32) :=
  if (mI σ 565 9) ≤ (mI σ 565 10) then
    some (0 : Int32)
  else
    if kd (mR σ 565 5) = 14 then
      if inb ((mI σ 565 8) + (mI σ 565 10)) (ln (mR σ 565 5)) then
        if (mI σ (mR σ 565 5) ((mI σ 565 8) + (mI σ 565 10)).toNatClampNeg) < (48 : Int32) then
          some (0 : Int32)
        else
          if (57 : Int32) < (mI σ (mR σ 565 5) ((mI σ 565 8) + (mI σ 565 10)).toNatClampNeg) then
            some (0 : Int32)
          else
            some (1 : Int32)
      else none
    else none
set_option maxHeartbeats 4000000 in
set_option maxRecDepth 20000 in
theorem g_Model_isDigit (X : Cx θ p s m args c cX11_isDigit 1 RX11) (hr : meth.sig.returnType = some .boolean) (hlk : meth.locks = false)  {σ : Mem}  {r : Int32}  (h : f_Model_isDigit σ  = some r) : GB θ p l e 0 s m args below meth c 1 (some (.int r), σ) 0 [(0, .ref (be θ + 565))] [] σ := by
  unfold f_Model_isDigit at h
  refine g_aload_n X dX11_isDigit_0 rfl 0 rfl ?_
  refine g_get X fl_RX11_135 dX11_isDigit_1 kd_565 (v := .int (mI σ 565 10)) rfl ?_
  refine g_aload_n X dX11_isDigit_4 rfl 0 rfl ?_
  refine g_get X fl_RX11_138 dX11_isDigit_5 kd_565 (v := .int (mI σ 565 9)) rfl ?_
  refine g_icmp_ge (tgt := 53) X dX11_isDigit_8 (by decide) (fun c1 => ?_) (fun c1 => ?_)
  · replace h := (if_pos c1).symm.trans h
    refine g_iconst X dX11_isDigit_53 (v := (0 : Int32)) ic_0 ?_
    exact g_zret X hr hlk bz0 dX11_isDigit_54 (by cases h; rfl)
  · replace h := (if_neg c1).symm.trans h
    refine g_aload_n X dX11_isDigit_11 rfl 0 rfl ?_
    refine g_get X fl_RX11_23 dX11_isDigit_12 kd_565 (v := rv (be θ) (mR σ 565 5)) rfl ?_
    refine g_aload_n X dX11_isDigit_15 rfl 0 rfl ?_
    refine g_get X fl_RX11_141 dX11_isDigit_16 kd_565 (v := .int (mI σ 565 8)) rfl ?_
    refine g_aload_n X dX11_isDigit_19 rfl 0 rfl ?_
    refine g_get X fl_RX11_135 dX11_isDigit_20 kd_565 (v := .int (mI σ 565 10)) rfl ?_
    refine g_iadd X dX11_isDigit_23 ?_
    obtain ⟨g2, h⟩ := ite_some h
    rw [← rv_of (β := be θ) g2 (by decide)]
    obtain ⟨g3, h⟩ := ite_some h
    refine g_bald X g2 rfl (inb_in g3) dX11_isDigit_24 ?_
    refine g_bipush X dX11_isDigit_25 (v := (48 : Int32)) bp_48 ?_
    refine g_icmp_lt (tgt := 53) X dX11_isDigit_27 (by decide) (fun c4 => ?_) (fun c4 => ?_)
    · replace h := (if_pos c4).symm.trans h
      refine g_iconst X dX11_isDigit_53 (v := (0 : Int32)) ic_0 ?_
      exact g_zret X hr hlk bz0 dX11_isDigit_54 (by cases h; rfl)
    · replace h := (if_neg c4).symm.trans h
      refine g_aload_n X dX11_isDigit_30 rfl 0 rfl ?_
      refine g_get X fl_RX11_23 dX11_isDigit_31 kd_565 (v := rv (be θ) (mR σ 565 5)) rfl ?_
      refine g_aload_n X dX11_isDigit_34 rfl 0 rfl ?_
      refine g_get X fl_RX11_141 dX11_isDigit_35 kd_565 (v := .int (mI σ 565 8)) rfl ?_
      refine g_aload_n X dX11_isDigit_38 rfl 0 rfl ?_
      refine g_get X fl_RX11_135 dX11_isDigit_39 kd_565 (v := .int (mI σ 565 10)) rfl ?_
      refine g_iadd X dX11_isDigit_42 ?_
      rw [← rv_of (β := be θ) g2 (by decide)]
      refine g_bald X g2 rfl (inb_in g3) dX11_isDigit_43 ?_
      refine g_bipush X dX11_isDigit_44 (v := (57 : Int32)) bp_57 ?_
      refine g_icmp_gt (tgt := 53) X dX11_isDigit_46 (by decide) (fun c5 => ?_) (fun c5 => ?_)
      · replace h := (if_pos c5).symm.trans h
        refine g_iconst X dX11_isDigit_53 (v := (0 : Int32)) ic_0 ?_
        exact g_zret X hr hlk bz0 dX11_isDigit_54 (by cases h; rfl)
      · replace h := (if_neg c5).symm.trans h
        refine g_iconst X dX11_isDigit_49 (v := (1 : Int32)) ic_1 ?_
        refine g_goto (tgt := 54) X dX11_isDigit_50 (by decide) ?_
        exact g_zret X hr hlk bz1 dX11_isDigit_54 (by cases h; rfl)
set_option maxHeartbeats 4000000 in
set_option maxRecDepth 20000 in
theorem c_Model_isDigit {θ : Th} {l : Launch} {σ : Mem}  {r : Int32}  (h : f_Model_isDigit σ  = some r) : Cn θ l yX11_isDigit cX11_isDigit 1 (some .boolean) 0 0 0 [.ref (be θ + 565)] σ (some (.int r), σ) :=
  Cn.of (by decide) (Nat.le_of_ble_eq_true rfl) (fun p e s m below meth c X hr hlk => g_Model_isDigit X hr hlk  h)
theorem dX11_within_0 : decode cX11_within 0 = .ok (.ldc2_w 157, 3) := by decide +kernel
theorem dX11_within_3 : decode cX11_within 3 = .ok (.ldc2_w 159, 3) := by decide +kernel
theorem dX11_within_6 : decode cX11_within 6 = .ok (.lload_n 0, 1) := by decide +kernel
theorem dX11_within_7 : decode cX11_within 7 = .ok (.invokestatic 161, 3) := by decide +kernel
theorem dX11_within_10 : decode cX11_within 10 = .ok (.invokestatic 167, 3) := by decide +kernel
theorem dX11_within_13 : decode cX11_within 13 = .ok (.l2i, 1) := by decide +kernel
theorem dX11_within_14 : decode cX11_within 14 = .ok (.ireturn, 1) := by decide +kernel
def f_Model_within (σ : Mem) (x0 : Int64) : Option (Int32) :=
  some (((lmax (-1000000 : Int64) (lmin (1000000 : Int64) x0))).toInt32)
set_option maxHeartbeats 4000000 in
set_option maxRecDepth 20000 in
theorem g_Model_within (X : Cx θ p s m args c cX11_within 2 RX11) (hr : meth.sig.returnType = some .int) (hlk : meth.locks = false)  {σ : Mem} {x0 : Int64} {r : Int32}  (h : f_Model_within σ x0 = some r) : GB θ p l e 1 s m args below meth c 2 (some (.int r), σ) 0 [(0, .long x0)] [] σ := by
  unfold f_Model_within at h
  refine g_ldc2 X cst_RX11_157 dX11_within_0 ?_
  refine g_ldc2 X cst_RX11_159 dX11_within_3 ?_
  refine g_lload_n X dX11_within_6 rfl 0 rfl ?_
  refine g_minl X lm_RX11_161 ⟨(Nat.le_of_ble_eq_true rfl), (Nat.le_of_ble_eq_true rfl)⟩ ⟨(Nat.le_of_ble_eq_true rfl), (Nat.le_of_ble_eq_true rfl)⟩ dX11_within_7 ?_
  refine g_maxl X lm_RX11_167 ⟨(Nat.le_of_ble_eq_true rfl), (Nat.le_of_ble_eq_true rfl)⟩ ⟨(Nat.le_of_ble_eq_true rfl), (Nat.le_of_ble_eq_true rfl)⟩ dX11_within_10 ?_
  refine g_l2i X dX11_within_13 (v := (((lmax (-1000000 : Int64) (lmin (1000000 : Int64) x0))).toInt32)) rfl ?_
  exact g_iret X hr hlk dX11_within_14 (by cases h; rfl)
set_option maxHeartbeats 4000000 in
set_option maxRecDepth 20000 in
theorem c_Model_within {θ : Th} {l : Launch} {σ : Mem} {x0 : Int64} {r : Int32}  (h : f_Model_within σ x0 = some r) : Cn θ l yX11_within cX11_within 2 (some .int) 1 0 0 [.long x0] σ (some (.int r), σ) :=
  Cn.of (by decide) (Nat.le_of_ble_eq_true rfl) (fun p e s m below meth c X hr hlk => g_Model_within X hr hlk  h)
theorem dX11_sum_0 : decode cX11_sum 0 = .ok (.aload_n 0, 1) := by decide +kernel
theorem dX11_sum_1 : decode cX11_sum 1 = .ok (.invokevirtual 194, 3) := by decide +kernel
theorem dX11_sum_4 : decode cX11_sum 4 = .ok (.istore_n 1, 1) := by decide +kernel
theorem dX11_sum_5 : decode cX11_sum 5 = .ok (.aload_n 0, 1) := by decide +kernel
theorem dX11_sum_6 : decode cX11_sum 6 = .ok (.getfield 144, 3) := by decide +kernel
theorem dX11_sum_9 : decode cX11_sum 9 = .ok (.iconst (-1), 1) := by decide +kernel
theorem dX11_sum_10 : decode cX11_sum 10 = .ok (.if_icmp .ne 74, 3) := by decide +kernel
theorem dX11_sum_13 : decode cX11_sum 13 = .ok (.aload_n 0, 1) := by decide +kernel
theorem dX11_sum_14 : decode cX11_sum 14 = .ok (.invokevirtual 154, 3) := by decide +kernel
theorem dX11_sum_17 : decode cX11_sum 17 = .ok (.bipush 43, 2) := by decide +kernel
theorem dX11_sum_19 : decode cX11_sum 19 = .ok (.if_icmp .eq 12, 3) := by decide +kernel
theorem dX11_sum_22 : decode cX11_sum 22 = .ok (.aload_n 0, 1) := by decide +kernel
theorem dX11_sum_23 : decode cX11_sum 23 = .ok (.invokevirtual 154, 3) := by decide +kernel
theorem dX11_sum_26 : decode cX11_sum 26 = .ok (.bipush 45, 2) := by decide +kernel
theorem dX11_sum_28 : decode cX11_sum 28 = .ok (.if_icmp .ne 56, 3) := by decide +kernel
theorem dX11_sum_31 : decode cX11_sum 31 = .ok (.aload_n 0, 1) := by decide +kernel
theorem dX11_sum_32 : decode cX11_sum 32 = .ok (.invokevirtual 154, 3) := by decide +kernel
theorem dX11_sum_35 : decode cX11_sum 35 = .ok (.bipush 43, 2) := by decide +kernel
theorem dX11_sum_37 : decode cX11_sum 37 = .ok (.if_icmp .ne 7, 3) := by decide +kernel
theorem dX11_sum_40 : decode cX11_sum 40 = .ok (.iconst 1, 1) := by decide +kernel
theorem dX11_sum_41 : decode cX11_sum 41 = .ok (.goto 4, 3) := by decide +kernel
theorem dX11_sum_44 : decode cX11_sum 44 = .ok (.iconst 0, 1) := by decide +kernel
theorem dX11_sum_45 : decode cX11_sum 45 = .ok (.istore_n 2, 1) := by decide +kernel
theorem dX11_sum_46 : decode cX11_sum 46 = .ok (.aload_n 0, 1) := by decide +kernel
theorem dX11_sum_47 : decode cX11_sum 47 = .ok (.dup, 1) := by decide +kernel
theorem dX11_sum_48 : decode cX11_sum 48 = .ok (.getfield 135, 3) := by decide +kernel
theorem dX11_sum_51 : decode cX11_sum 51 = .ok (.iconst 1, 1) := by decide +kernel
theorem dX11_sum_52 : decode cX11_sum 52 = .ok (.iadd, 1) := by decide +kernel
theorem dX11_sum_53 : decode cX11_sum 53 = .ok (.putfield 135, 3) := by decide +kernel
theorem dX11_sum_56 : decode cX11_sum 56 = .ok (.aload_n 0, 1) := by decide +kernel
theorem dX11_sum_57 : decode cX11_sum 57 = .ok (.invokevirtual 194, 3) := by decide +kernel
theorem dX11_sum_60 : decode cX11_sum 60 = .ok (.i2l, 1) := by decide +kernel
theorem dX11_sum_61 : decode cX11_sum 61 = .ok (.lstore_n 3, 1) := by decide +kernel
theorem dX11_sum_62 : decode cX11_sum 62 = .ok (.iload_n 2, 1) := by decide +kernel
theorem dX11_sum_63 : decode cX11_sum 63 = .ok (.ifCond .eq 10, 3) := by decide +kernel
theorem dX11_sum_66 : decode cX11_sum 66 = .ok (.iload_n 1, 1) := by decide +kernel
theorem dX11_sum_67 : decode cX11_sum 67 = .ok (.i2l, 1) := by decide +kernel
theorem dX11_sum_68 : decode cX11_sum 68 = .ok (.lload_n 3, 1) := by decide +kernel
theorem dX11_sum_69 : decode cX11_sum 69 = .ok (.ladd, 1) := by decide +kernel
theorem dX11_sum_70 : decode cX11_sum 70 = .ok (.goto 7, 3) := by decide +kernel
theorem dX11_sum_73 : decode cX11_sum 73 = .ok (.iload_n 1, 1) := by decide +kernel
theorem dX11_sum_74 : decode cX11_sum 74 = .ok (.i2l, 1) := by decide +kernel
theorem dX11_sum_75 : decode cX11_sum 75 = .ok (.lload_n 3, 1) := by decide +kernel
theorem dX11_sum_76 : decode cX11_sum 76 = .ok (.lsub, 1) := by decide +kernel
theorem dX11_sum_77 : decode cX11_sum 77 = .ok (.invokestatic 190, 3) := by decide +kernel
theorem dX11_sum_80 : decode cX11_sum 80 = .ok (.istore_n 1, 1) := by decide +kernel
theorem dX11_sum_81 : decode cX11_sum 81 = .ok (.goto (-76), 3) := by decide +kernel
theorem dX11_sum_84 : decode cX11_sum 84 = .ok (.iload_n 1, 1) := by decide +kernel
theorem dX11_sum_85 : decode cX11_sum 85 = .ok (.ireturn, 1) := by decide +kernel
theorem dX11_term_0 : decode cX11_term 0 = .ok (.aload_n 0, 1) := by decide +kernel
theorem dX11_term_1 : decode cX11_term 1 = .ok (.invokevirtual 187, 3) := by decide +kernel
theorem dX11_term_4 : decode cX11_term 4 = .ok (.istore_n 1, 1) := by decide +kernel
theorem dX11_term_5 : decode cX11_term 5 = .ok (.aload_n 0, 1) := by decide +kernel
theorem dX11_term_6 : decode cX11_term 6 = .ok (.getfield 144, 3) := by decide +kernel
theorem dX11_term_9 : decode cX11_term 9 = .ok (.iconst (-1), 1) := by decide +kernel
theorem dX11_term_10 : decode cX11_term 10 = .ok (.if_icmp .ne 84, 3) := by decide +kernel
theorem dX11_term_13 : decode cX11_term 13 = .ok (.aload_n 0, 1) := by decide +kernel
theorem dX11_term_14 : decode cX11_term 14 = .ok (.invokevirtual 154, 3) := by decide +kernel
theorem dX11_term_17 : decode cX11_term 17 = .ok (.bipush 42, 2) := by decide +kernel
theorem dX11_term_19 : decode cX11_term 19 = .ok (.if_icmp .eq 12, 3) := by decide +kernel
theorem dX11_term_22 : decode cX11_term 22 = .ok (.aload_n 0, 1) := by decide +kernel
theorem dX11_term_23 : decode cX11_term 23 = .ok (.invokevirtual 154, 3) := by decide +kernel
theorem dX11_term_26 : decode cX11_term 26 = .ok (.bipush 47, 2) := by decide +kernel
theorem dX11_term_28 : decode cX11_term 28 = .ok (.if_icmp .ne 66, 3) := by decide +kernel
theorem dX11_term_31 : decode cX11_term 31 = .ok (.aload_n 0, 1) := by decide +kernel
theorem dX11_term_32 : decode cX11_term 32 = .ok (.invokevirtual 154, 3) := by decide +kernel
theorem dX11_term_35 : decode cX11_term 35 = .ok (.bipush 42, 2) := by decide +kernel
theorem dX11_term_37 : decode cX11_term 37 = .ok (.if_icmp .ne 7, 3) := by decide +kernel
theorem dX11_term_40 : decode cX11_term 40 = .ok (.iconst 1, 1) := by decide +kernel
theorem dX11_term_41 : decode cX11_term 41 = .ok (.goto 4, 3) := by decide +kernel
theorem dX11_term_44 : decode cX11_term 44 = .ok (.iconst 0, 1) := by decide +kernel
theorem dX11_term_45 : decode cX11_term 45 = .ok (.istore_n 2, 1) := by decide +kernel
theorem dX11_term_46 : decode cX11_term 46 = .ok (.aload_n 0, 1) := by decide +kernel
theorem dX11_term_47 : decode cX11_term 47 = .ok (.dup, 1) := by decide +kernel
theorem dX11_term_48 : decode cX11_term 48 = .ok (.getfield 135, 3) := by decide +kernel
theorem dX11_term_51 : decode cX11_term 51 = .ok (.iconst 1, 1) := by decide +kernel
theorem dX11_term_52 : decode cX11_term 52 = .ok (.iadd, 1) := by decide +kernel
theorem dX11_term_53 : decode cX11_term 53 = .ok (.putfield 135, 3) := by decide +kernel
theorem dX11_term_56 : decode cX11_term 56 = .ok (.aload_n 0, 1) := by decide +kernel
theorem dX11_term_57 : decode cX11_term 57 = .ok (.invokevirtual 187, 3) := by decide +kernel
theorem dX11_term_60 : decode cX11_term 60 = .ok (.i2l, 1) := by decide +kernel
theorem dX11_term_61 : decode cX11_term 61 = .ok (.lstore_n 3, 1) := by decide +kernel
theorem dX11_term_62 : decode cX11_term 62 = .ok (.iload_n 2, 1) := by decide +kernel
theorem dX11_term_63 : decode cX11_term 63 = .ok (.ifCond .eq 10, 3) := by decide +kernel
theorem dX11_term_66 : decode cX11_term 66 = .ok (.iload_n 1, 1) := by decide +kernel
theorem dX11_term_67 : decode cX11_term 67 = .ok (.i2l, 1) := by decide +kernel
theorem dX11_term_68 : decode cX11_term 68 = .ok (.lload_n 3, 1) := by decide +kernel
theorem dX11_term_69 : decode cX11_term 69 = .ok (.lmul, 1) := by decide +kernel
theorem dX11_term_70 : decode cX11_term 70 = .ok (.goto 17, 3) := by decide +kernel
theorem dX11_term_73 : decode cX11_term 73 = .ok (.lload_n 3, 1) := by decide +kernel
theorem dX11_term_74 : decode cX11_term 74 = .ok (.lconst 0, 1) := by decide +kernel
theorem dX11_term_75 : decode cX11_term 75 = .ok (.lcmp, 1) := by decide +kernel
theorem dX11_term_76 : decode cX11_term 76 = .ok (.ifCond .ne 7, 3) := by decide +kernel
theorem dX11_term_79 : decode cX11_term 79 = .ok (.lconst 0, 1) := by decide +kernel
theorem dX11_term_80 : decode cX11_term 80 = .ok (.goto 7, 3) := by decide +kernel
theorem dX11_term_83 : decode cX11_term 83 = .ok (.iload_n 1, 1) := by decide +kernel
theorem dX11_term_84 : decode cX11_term 84 = .ok (.i2l, 1) := by decide +kernel
theorem dX11_term_85 : decode cX11_term 85 = .ok (.lload_n 3, 1) := by decide +kernel
theorem dX11_term_86 : decode cX11_term 86 = .ok (.ldiv, 1) := by decide +kernel
theorem dX11_term_87 : decode cX11_term 87 = .ok (.invokestatic 190, 3) := by decide +kernel
theorem dX11_term_90 : decode cX11_term 90 = .ok (.istore_n 1, 1) := by decide +kernel
theorem dX11_term_91 : decode cX11_term 91 = .ok (.goto (-86), 3) := by decide +kernel
theorem dX11_term_94 : decode cX11_term 94 = .ok (.iload_n 1, 1) := by decide +kernel
theorem dX11_term_95 : decode cX11_term 95 = .ok (.ireturn, 1) := by decide +kernel
theorem dX11_atom_0 : decode cX11_atom 0 = .ok (.aload_n 0, 1) := by decide +kernel
theorem dX11_atom_1 : decode cX11_atom 1 = .ok (.invokevirtual 154, 3) := by decide +kernel
theorem dX11_atom_4 : decode cX11_atom 4 = .ok (.istore_n 1, 1) := by decide +kernel
theorem dX11_atom_5 : decode cX11_atom 5 = .ok (.ldc 32, 2) := by decide +kernel
theorem dX11_atom_7 : decode cX11_atom 7 = .ok (.iload_n 1, 1) := by decide +kernel
theorem dX11_atom_8 : decode cX11_atom 8 = .ok (.invokestatic 170, 3) := by decide +kernel
theorem dX11_atom_11 : decode cX11_atom 11 = .ok (.ifCond .eq 20, 3) := by decide +kernel
theorem dX11_atom_14 : decode cX11_atom 14 = .ok (.aload_n 0, 1) := by decide +kernel
theorem dX11_atom_15 : decode cX11_atom 15 = .ok (.dup, 1) := by decide +kernel
theorem dX11_atom_16 : decode cX11_atom 16 = .ok (.getfield 135, 3) := by decide +kernel
theorem dX11_atom_19 : decode cX11_atom 19 = .ok (.iconst 1, 1) := by decide +kernel
theorem dX11_atom_20 : decode cX11_atom 20 = .ok (.iadd, 1) := by decide +kernel
theorem dX11_atom_21 : decode cX11_atom 21 = .ok (.putfield 135, 3) := by decide +kernel
theorem dX11_atom_24 : decode cX11_atom 24 = .ok (.aload_n 0, 1) := by decide +kernel
theorem dX11_atom_25 : decode cX11_atom 25 = .ok (.getfield 20, 3) := by decide +kernel
theorem dX11_atom_28 : decode cX11_atom 28 = .ok (.iload_n 1, 1) := by decide +kernel
theorem dX11_atom_29 : decode cX11_atom 29 = .ok (.iaload, 1) := by decide +kernel
theorem dX11_atom_30 : decode cX11_atom 30 = .ok (.ireturn, 1) := by decide +kernel
theorem dX11_atom_31 : decode cX11_atom 31 = .ok (.iload_n 1, 1) := by decide +kernel
theorem dX11_atom_32 : decode cX11_atom 32 = .ok (.bipush 91, 2) := by decide +kernel
theorem dX11_atom_34 : decode cX11_atom 34 = .ok (.if_icmp .ne 40, 3) := by decide +kernel
theorem dX11_atom_37 : decode cX11_atom 37 = .ok (.aload_n 0, 1) := by decide +kernel
theorem dX11_atom_38 : decode cX11_atom 38 = .ok (.invokevirtual 174, 3) := by decide +kernel
theorem dX11_atom_41 : decode cX11_atom 41 = .ok (.ifCond .ne 5, 3) := by decide +kernel
theorem dX11_atom_44 : decode cX11_atom 44 = .ok (.iconst 0, 1) := by decide +kernel
theorem dX11_atom_45 : decode cX11_atom 45 = .ok (.ireturn, 1) := by decide +kernel
theorem dX11_atom_46 : decode cX11_atom 46 = .ok (.aload_n 0, 1) := by decide +kernel
theorem dX11_atom_47 : decode cX11_atom 47 = .ok (.invokevirtual 177, 3) := by decide +kernel
theorem dX11_atom_50 : decode cX11_atom 50 = .ok (.istore_n 2, 1) := by decide +kernel
theorem dX11_atom_51 : decode cX11_atom 51 = .ok (.aload_n 0, 1) := by decide +kernel
theorem dX11_atom_52 : decode cX11_atom 52 = .ok (.bipush 93, 2) := by decide +kernel
theorem dX11_atom_54 : decode cX11_atom 54 = .ok (.invokevirtual 180, 3) := by decide +kernel
theorem dX11_atom_57 : decode cX11_atom 57 = .ok (.ifCond .ne 5, 3) := by decide +kernel
theorem dX11_atom_60 : decode cX11_atom 60 = .ok (.iconst 0, 1) := by decide +kernel
theorem dX11_atom_61 : decode cX11_atom 61 = .ok (.ireturn, 1) := by decide +kernel
theorem dX11_atom_62 : decode cX11_atom 62 = .ok (.aload_n 0, 1) := by decide +kernel
theorem dX11_atom_63 : decode cX11_atom 63 = .ok (.dup, 1) := by decide +kernel
theorem dX11_atom_64 : decode cX11_atom 64 = .ok (.getfield 147, 3) := by decide +kernel
theorem dX11_atom_67 : decode cX11_atom 67 = .ok (.iconst 1, 1) := by decide +kernel
theorem dX11_atom_68 : decode cX11_atom 68 = .ok (.isub, 1) := by decide +kernel
theorem dX11_atom_69 : decode cX11_atom 69 = .ok (.putfield 147, 3) := by decide +kernel
theorem dX11_atom_72 : decode cX11_atom 72 = .ok (.iload_n 2, 1) := by decide +kernel
theorem dX11_atom_73 : decode cX11_atom 73 = .ok (.ireturn, 1) := by decide +kernel
theorem dX11_atom_74 : decode cX11_atom 74 = .ok (.aload_n 0, 1) := by decide +kernel
theorem dX11_atom_75 : decode cX11_atom 75 = .ok (.invokevirtual 184, 3) := by decide +kernel
theorem dX11_atom_78 : decode cX11_atom 78 = .ok (.ifCond .ne 8, 3) := by decide +kernel
theorem dX11_atom_81 : decode cX11_atom 81 = .ok (.aload_n 0, 1) := by decide +kernel
theorem dX11_atom_82 : decode cX11_atom 82 = .ok (.invokevirtual 150, 3) := by decide +kernel
theorem dX11_atom_85 : decode cX11_atom 85 = .ok (.pop, 1) := by decide +kernel
theorem dX11_atom_86 : decode cX11_atom 86 = .ok (.iconst 0, 1) := by decide +kernel
theorem dX11_atom_87 : decode cX11_atom 87 = .ok (.istore_n 2, 1) := by decide +kernel
theorem dX11_atom_88 : decode cX11_atom 88 = .ok (.iconst 0, 1) := by decide +kernel
theorem dX11_atom_89 : decode cX11_atom 89 = .ok (.istore_n 3, 1) := by decide +kernel
theorem dX11_atom_90 : decode cX11_atom 90 = .ok (.aload_n 0, 1) := by decide +kernel
theorem dX11_atom_91 : decode cX11_atom 91 = .ok (.invokevirtual 184, 3) := by decide +kernel
theorem dX11_atom_94 : decode cX11_atom 94 = .ok (.ifCond .eq 62, 3) := by decide +kernel
theorem dX11_atom_97 : decode cX11_atom 97 = .ok (.aload_n 0, 1) := by decide +kernel
theorem dX11_atom_98 : decode cX11_atom 98 = .ok (.getfield 144, 3) := by decide +kernel
theorem dX11_atom_101 : decode cX11_atom 101 = .ok (.iconst (-1), 1) := by decide +kernel
theorem dX11_atom_102 : decode cX11_atom 102 = .ok (.if_icmp .ne 54, 3) := by decide +kernel
theorem dX11_atom_105 : decode cX11_atom 105 = .ok (.iload_n 3, 1) := by decide +kernel
theorem dX11_atom_106 : decode cX11_atom 106 = .ok (.iconst 4, 1) := by decide +kernel
theorem dX11_atom_107 : decode cX11_atom 107 = .ok (.if_icmp .ne 10, 3) := by decide +kernel
theorem dX11_atom_110 : decode cX11_atom 110 = .ok (.aload_n 0, 1) := by decide +kernel
theorem dX11_atom_111 : decode cX11_atom 111 = .ok (.invokevirtual 150, 3) := by decide +kernel
theorem dX11_atom_114 : decode cX11_atom 114 = .ok (.pop, 1) := by decide +kernel
theorem dX11_atom_115 : decode cX11_atom 115 = .ok (.iconst 0, 1) := by decide +kernel
theorem dX11_atom_116 : decode cX11_atom 116 = .ok (.ireturn, 1) := by decide +kernel
theorem dX11_atom_117 : decode cX11_atom 117 = .ok (.bipush 10, 2) := by decide +kernel
theorem dX11_atom_119 : decode cX11_atom 119 = .ok (.iload_n 2, 1) := by decide +kernel
theorem dX11_atom_120 : decode cX11_atom 120 = .ok (.imul, 1) := by decide +kernel
theorem dX11_atom_121 : decode cX11_atom 121 = .ok (.aload_n 0, 1) := by decide +kernel
theorem dX11_atom_122 : decode cX11_atom 122 = .ok (.getfield 23, 3) := by decide +kernel
theorem dX11_atom_125 : decode cX11_atom 125 = .ok (.aload_n 0, 1) := by decide +kernel
theorem dX11_atom_126 : decode cX11_atom 126 = .ok (.getfield 141, 3) := by decide +kernel
theorem dX11_atom_129 : decode cX11_atom 129 = .ok (.aload_n 0, 1) := by decide +kernel
theorem dX11_atom_130 : decode cX11_atom 130 = .ok (.getfield 135, 3) := by decide +kernel
theorem dX11_atom_133 : decode cX11_atom 133 = .ok (.iadd, 1) := by decide +kernel
theorem dX11_atom_134 : decode cX11_atom 134 = .ok (.baload, 1) := by decide +kernel
theorem dX11_atom_135 : decode cX11_atom 135 = .ok (.iadd, 1) := by decide +kernel
theorem dX11_atom_136 : decode cX11_atom 136 = .ok (.bipush 48, 2) := by decide +kernel
theorem dX11_atom_138 : decode cX11_atom 138 = .ok (.isub, 1) := by decide +kernel
theorem dX11_atom_139 : decode cX11_atom 139 = .ok (.istore_n 2, 1) := by decide +kernel
theorem dX11_atom_140 : decode cX11_atom 140 = .ok (.aload_n 0, 1) := by decide +kernel
theorem dX11_atom_141 : decode cX11_atom 141 = .ok (.dup, 1) := by decide +kernel
theorem dX11_atom_142 : decode cX11_atom 142 = .ok (.getfield 135, 3) := by decide +kernel
theorem dX11_atom_145 : decode cX11_atom 145 = .ok (.iconst 1, 1) := by decide +kernel
theorem dX11_atom_146 : decode cX11_atom 146 = .ok (.iadd, 1) := by decide +kernel
theorem dX11_atom_147 : decode cX11_atom 147 = .ok (.putfield 135, 3) := by decide +kernel
theorem dX11_atom_150 : decode cX11_atom 150 = .ok (.iinc 3 1, 3) := by decide +kernel
theorem dX11_atom_153 : decode cX11_atom 153 = .ok (.goto (-63), 3) := by decide +kernel
theorem dX11_atom_156 : decode cX11_atom 156 = .ok (.iload_n 2, 1) := by decide +kernel
theorem dX11_atom_157 : decode cX11_atom 157 = .ok (.ireturn, 1) := by decide +kernel
def f_Model_sum_L5 (rc : Nat → Mem → Option (Int32 × Mem))  (a : Mem × Int32) : Option ((Mem × Int32) ⊕ (Int32 × Mem)) :=
  @Prod.casesOn (Mem) (Int32) (fun _ => Option ((Mem × Int32) ⊕ (Int32 × Mem))) a fun τ z1 =>
  if (mI τ 565 11) = (-1 : Int32) then
    (f_Model_look τ).bind fun q3 =>
    if q3.1 = (43 : Int32) then
      (f_Model_look q3.2).bind fun q5 =>
      if q5.1 = (43 : Int32) then
        (rc 1 (sI q5.2 565 10 ((mI q5.2 565 10) + (1 : Int32)))).bind fun q11 =>
        if (1 : Int32) = (0 : Int32) then
          (f_Model_within q11.2 (((z1).toInt64) - ((q11.1).toInt64))).bind fun q13 =>
          some (.inl (q11.2, q13))
        else
          (f_Model_within q11.2 (((z1).toInt64) + ((q11.1).toInt64))).bind fun q14 =>
          some (.inl (q11.2, q14))
      else
        (rc 1 (sI q5.2 565 10 ((mI q5.2 565 10) + (1 : Int32)))).bind fun q7 =>
        if (0 : Int32) = (0 : Int32) then
          (f_Model_within q7.2 (((z1).toInt64) - ((q7.1).toInt64))).bind fun q9 =>
          some (.inl (q7.2, q9))
        else
          (f_Model_within q7.2 (((z1).toInt64) + ((q7.1).toInt64))).bind fun q10 =>
          some (.inl (q7.2, q10))
    else
      (f_Model_look q3.2).bind fun q15 =>
      if q15.1 = (45 : Int32) then
        (f_Model_look q15.2).bind fun q17 =>
        if q17.1 = (43 : Int32) then
          (rc 1 (sI q17.2 565 10 ((mI q17.2 565 10) + (1 : Int32)))).bind fun q23 =>
          if (1 : Int32) = (0 : Int32) then
            (f_Model_within q23.2 (((z1).toInt64) - ((q23.1).toInt64))).bind fun q25 =>
            some (.inl (q23.2, q25))
          else
            (f_Model_within q23.2 (((z1).toInt64) + ((q23.1).toInt64))).bind fun q26 =>
            some (.inl (q23.2, q26))
        else
          (rc 1 (sI q17.2 565 10 ((mI q17.2 565 10) + (1 : Int32)))).bind fun q19 =>
          if (0 : Int32) = (0 : Int32) then
            (f_Model_within q19.2 (((z1).toInt64) - ((q19.1).toInt64))).bind fun q21 =>
            some (.inl (q19.2, q21))
          else
            (f_Model_within q19.2 (((z1).toInt64) + ((q19.1).toInt64))).bind fun q22 =>
            some (.inl (q19.2, q22))
      else
        some (.inr (z1, q15.2))
  else
    some (.inr (z1, τ))
def f_Model_sum (rc : Nat → Mem → Option (Int32 × Mem)) (σ : Mem)  : Option (Int32 × Mem) :=
  (rc 1 σ).bind fun q1 =>
  loopF (f_Model_sum_L5 rc ) FU (q1.2, q1.1)
set_option maxHeartbeats 4000000 in
set_option maxRecDepth 20000 in
theorem gs_Model_sum_L5 (X : Cx θ p s m args c cX11_sum 5 RX11) (hr : meth.sig.returnType = some .int) (hlk : meth.locks = false) {rc : Nat → Mem → Option (Int32 × Mem)} {nr : Nat} (hrec0 : ∀ {σ : Mem}  {r : Int32 × Mem}, rc 0 σ  = some r → Cn θ l yX11_sum cX11_sum 5 (some .int) (4 + nr) 0 0 [.ref (be θ + 565)] σ (some (.int r.1), r.2)) (hrec1 : ∀ {σ : Mem}  {r : Int32 × Mem}, rc 1 σ  = some r → Cn θ l yX11_term cX11_term 5 (some .int) (4 + nr) 0 0 [.ref (be θ + 565)] σ (some (.int r.1), r.2)) (hrec2 : ∀ {σ : Mem}  {r : Int32 × Mem}, rc 2 σ  = some r → Cn θ l yX11_atom cX11_atom 4 (some .int) (4 + nr) 0 0 [.ref (be θ + 565)] σ (some (.int r.1), r.2))   {r : Int32 × Mem}  (τ : Mem) (z1 : Int32) (x : (Mem × Int32) ⊕ (Int32 × Mem)) (h : f_Model_sum_L5 rc  (τ, z1) = some x) (hk : Sum.elim (fun a => @Prod.casesOn (Mem) (Int32) (fun _ => Prop) a fun τ z1 => GB θ p l e (4 + nr + 1) s m args below meth c 5 (some (.int r.1), r.2) 5 [(0, .ref (be θ + 565)), (1, .int z1)] [] τ) (fun b => b = r) x) : GB θ p l e (4 + nr + 1) s m args below meth c 5 (some (.int r.1), r.2) 5 [(0, .ref (be θ + 565)), (1, .int z1)] [] τ := by
  unfold f_Model_sum_L5 at h
  dsimp only at h
  refine g_aload_n X dX11_sum_5 rfl 0 rfl ?_
  refine g_get X fl_RX11_144 dX11_sum_6 kd_565 (v := .int (mI τ 565 11)) rfl ?_
  refine g_iconst X dX11_sum_9 (v := (-1 : Int32)) ic_m1 ?_
  refine g_icmp_ne (tgt := 84) X dX11_sum_10 (by decide) (fun c2 => ?_) (fun c2 => ?_)
  · replace h := (if_neg c2).symm.trans h
    refine g_iload_n X dX11_sum_84 rfl 1 rfl ?_
    have hk := inr_hk h hk
    have hk : (z1, τ) = r := hk
    subst hk
    exact g_iret X hr hlk dX11_sum_85 rfl
  · replace h := (if_pos c2).symm.trans h
    refine g_aload_n X dX11_sum_13 rfl 0 rfl ?_
    obtain ⟨q3, hq3, h⟩ := Option.bind_eq_some_iff.mp h
    refine g_cV X (c_Model_look  hq3) lk_RX11_154 my_X11_look (a := 565) (ci := 11) kd_565 (by decide) rfl (As := []) (rest := []) rfl rfl (Nat.le_of_ble_eq_true rfl) ⟨(by show 0 + 1 ≤ 4 + nr + 1; omega), (by show 8 + (1 + 11) + 40 * 0 ≤ 40 * (4 + nr + 1); omega)⟩ ⟨(Nat.le_of_ble_eq_true rfl), (Nat.le_of_ble_eq_true rfl)⟩ dX11_sum_14 (st' := [.int q3.1]) (σ' := q3.2) rfl rfl ?_
    refine g_bipush X dX11_sum_17 (v := (43 : Int32)) bp_43 ?_
    refine g_icmp_eq (tgt := 31) X dX11_sum_19 (by decide) (fun c4 => ?_) (fun c4 => ?_)
    · replace h := (if_pos c4).symm.trans h
      refine g_aload_n X dX11_sum_31 rfl 0 rfl ?_
      obtain ⟨q5, hq5, h⟩ := Option.bind_eq_some_iff.mp h
      refine g_cV X (c_Model_look  hq5) lk_RX11_154 my_X11_look (a := 565) (ci := 11) kd_565 (by decide) rfl (As := []) (rest := []) rfl rfl (Nat.le_of_ble_eq_true rfl) ⟨(by show 0 + 1 ≤ 4 + nr + 1; omega), (by show 8 + (1 + 11) + 40 * 0 ≤ 40 * (4 + nr + 1); omega)⟩ ⟨(Nat.le_of_ble_eq_true rfl), (Nat.le_of_ble_eq_true rfl)⟩ dX11_sum_32 (st' := [.int q5.1]) (σ' := q5.2) rfl rfl ?_
      refine g_bipush X dX11_sum_35 (v := (43 : Int32)) bp_43 ?_
      refine g_icmp_ne (tgt := 44) X dX11_sum_37 (by decide) (fun c6 => ?_) (fun c6 => ?_)
      · replace h := (if_neg c6).symm.trans h
        refine g_iconst X dX11_sum_44 (v := (0 : Int32)) ic_0 ?_
        refine g_istore_n X dX11_sum_45 rfl (by decide) (lv' := [(2, .int (0 : Int32)), (0, .ref (be θ + 565)), (1, .int z1)]) rfl ?_
        refine g_aload_n X dX11_sum_46 rfl 1 rfl ?_
        refine g_dup X dX11_sum_47 rfl ?_
        refine g_get X fl_RX11_135 dX11_sum_48 kd_565 (v := .int (mI q5.2 565 10)) rfl ?_
        refine g_iconst X dX11_sum_51 (v := (1 : Int32)) ic_1 ?_
        refine g_iadd X dX11_sum_52 ?_
        refine g_putI X fl_RX11_135 dX11_sum_53 kd_565 rfl rfl rfl ?_
        refine g_aload_n X dX11_sum_56 rfl 1 rfl ?_
        obtain ⟨q7, hq7, h⟩ := Option.bind_eq_some_iff.mp h
        refine g_cV X (hrec1  hq7) lk_RX11_194 my_X11_term (a := 565) (ci := 11) kd_565 (by decide) rfl (As := []) (rest := []) rfl rfl (Nat.le_of_ble_eq_true rfl) ⟨Nat.le_refl _, (by show 8 + (5 + 11) + 40 * (4 + nr) ≤ 40 * (4 + nr + 1); omega)⟩ ⟨(Nat.le_of_ble_eq_true rfl), (Nat.le_of_ble_eq_true rfl)⟩ dX11_sum_57 (st' := [.int q7.1]) (σ' := q7.2) rfl rfl ?_
        refine g_i2l X dX11_sum_60 (v := ((q7.1).toInt64)) rfl ?_
        refine g_lstore_n X dX11_sum_61 rfl (by decide) (lv' := [(3, .long ((q7.1).toInt64)), (2, .int (0 : Int32)), (0, .ref (be θ + 565)), (1, .int z1)]) rfl ?_
        refine g_iload_n X dX11_sum_62 rfl 1 rfl ?_
        refine g_if_eq (tgt := 73) X dX11_sum_63 (by decide) (fun c8 => ?_) (fun c8 => ?_)
        · replace h := (if_pos c8).symm.trans h
          refine g_iload_n X dX11_sum_73 rfl 3 rfl ?_
          refine g_i2l X dX11_sum_74 (v := ((z1).toInt64)) rfl ?_
          refine g_lload_n X dX11_sum_75 rfl 0 rfl ?_
          refine g_lsub X dX11_sum_76 ?_
          obtain ⟨q9, hq9, h⟩ := Option.bind_eq_some_iff.mp h
          refine g_cS X (c_Model_within  hq9) lk_RX11_190 my_X11_within (As := [.long (((z1).toInt64) - ((q7.1).toInt64))]) (rest := []) rfl rfl (Nat.le_of_ble_eq_true rfl) ⟨(by show 1 + 1 ≤ 4 + nr + 1; omega), (by show 8 + (2 + 11) + 40 * 1 ≤ 40 * (4 + nr + 1); omega)⟩ ⟨(Nat.le_of_ble_eq_true rfl), (Nat.le_of_ble_eq_true rfl)⟩ dX11_sum_77 (st' := [.int q9]) (σ' := q7.2) rfl rfl ?_
          refine g_istore_n X dX11_sum_80 rfl (by decide) (lv' := [(1, .int q9), (3, .long ((q7.1).toInt64)), (2, .int (0 : Int32)), (0, .ref (be θ + 565))]) rfl ?_
          refine g_goto (tgt := 5) X dX11_sum_81 (by decide) ?_
          have hk := inl_hk h hk
          exact g_sub (lv' := [(0, .ref (be θ + 565)), (1, .int q9)]) [3, 0] rfl hk
        · replace h := (if_neg c8).symm.trans h
          refine g_iload_n X dX11_sum_66 rfl 3 rfl ?_
          refine g_i2l X dX11_sum_67 (v := ((z1).toInt64)) rfl ?_
          refine g_lload_n X dX11_sum_68 rfl 0 rfl ?_
          refine g_ladd X dX11_sum_69 ?_
          refine g_goto (tgt := 77) X dX11_sum_70 (by decide) ?_
          obtain ⟨q10, hq10, h⟩ := Option.bind_eq_some_iff.mp h
          refine g_cS X (c_Model_within  hq10) lk_RX11_190 my_X11_within (As := [.long (((z1).toInt64) + ((q7.1).toInt64))]) (rest := []) rfl rfl (Nat.le_of_ble_eq_true rfl) ⟨(by show 1 + 1 ≤ 4 + nr + 1; omega), (by show 8 + (2 + 11) + 40 * 1 ≤ 40 * (4 + nr + 1); omega)⟩ ⟨(Nat.le_of_ble_eq_true rfl), (Nat.le_of_ble_eq_true rfl)⟩ dX11_sum_77 (st' := [.int q10]) (σ' := q7.2) rfl rfl ?_
          refine g_istore_n X dX11_sum_80 rfl (by decide) (lv' := [(1, .int q10), (3, .long ((q7.1).toInt64)), (2, .int (0 : Int32)), (0, .ref (be θ + 565))]) rfl ?_
          refine g_goto (tgt := 5) X dX11_sum_81 (by decide) ?_
          have hk := inl_hk h hk
          exact g_sub (lv' := [(0, .ref (be θ + 565)), (1, .int q10)]) [3, 0] rfl hk
      · replace h := (if_pos c6).symm.trans h
        refine g_iconst X dX11_sum_40 (v := (1 : Int32)) ic_1 ?_
        refine g_goto (tgt := 45) X dX11_sum_41 (by decide) ?_
        refine g_istore_n X dX11_sum_45 rfl (by decide) (lv' := [(2, .int (1 : Int32)), (0, .ref (be θ + 565)), (1, .int z1)]) rfl ?_
        refine g_aload_n X dX11_sum_46 rfl 1 rfl ?_
        refine g_dup X dX11_sum_47 rfl ?_
        refine g_get X fl_RX11_135 dX11_sum_48 kd_565 (v := .int (mI q5.2 565 10)) rfl ?_
        refine g_iconst X dX11_sum_51 (v := (1 : Int32)) ic_1 ?_
        refine g_iadd X dX11_sum_52 ?_
        refine g_putI X fl_RX11_135 dX11_sum_53 kd_565 rfl rfl rfl ?_
        refine g_aload_n X dX11_sum_56 rfl 1 rfl ?_
        obtain ⟨q11, hq11, h⟩ := Option.bind_eq_some_iff.mp h
        refine g_cV X (hrec1  hq11) lk_RX11_194 my_X11_term (a := 565) (ci := 11) kd_565 (by decide) rfl (As := []) (rest := []) rfl rfl (Nat.le_of_ble_eq_true rfl) ⟨Nat.le_refl _, (by show 8 + (5 + 11) + 40 * (4 + nr) ≤ 40 * (4 + nr + 1); omega)⟩ ⟨(Nat.le_of_ble_eq_true rfl), (Nat.le_of_ble_eq_true rfl)⟩ dX11_sum_57 (st' := [.int q11.1]) (σ' := q11.2) rfl rfl ?_
        refine g_i2l X dX11_sum_60 (v := ((q11.1).toInt64)) rfl ?_
        refine g_lstore_n X dX11_sum_61 rfl (by decide) (lv' := [(3, .long ((q11.1).toInt64)), (2, .int (1 : Int32)), (0, .ref (be θ + 565)), (1, .int z1)]) rfl ?_
        refine g_iload_n X dX11_sum_62 rfl 1 rfl ?_
        refine g_if_eq (tgt := 73) X dX11_sum_63 (by decide) (fun c12 => ?_) (fun c12 => ?_)
        · replace h := (if_pos c12).symm.trans h
          refine g_iload_n X dX11_sum_73 rfl 3 rfl ?_
          refine g_i2l X dX11_sum_74 (v := ((z1).toInt64)) rfl ?_
          refine g_lload_n X dX11_sum_75 rfl 0 rfl ?_
          refine g_lsub X dX11_sum_76 ?_
          obtain ⟨q13, hq13, h⟩ := Option.bind_eq_some_iff.mp h
          refine g_cS X (c_Model_within  hq13) lk_RX11_190 my_X11_within (As := [.long (((z1).toInt64) - ((q11.1).toInt64))]) (rest := []) rfl rfl (Nat.le_of_ble_eq_true rfl) ⟨(by show 1 + 1 ≤ 4 + nr + 1; omega), (by show 8 + (2 + 11) + 40 * 1 ≤ 40 * (4 + nr + 1); omega)⟩ ⟨(Nat.le_of_ble_eq_true rfl), (Nat.le_of_ble_eq_true rfl)⟩ dX11_sum_77 (st' := [.int q13]) (σ' := q11.2) rfl rfl ?_
          refine g_istore_n X dX11_sum_80 rfl (by decide) (lv' := [(1, .int q13), (3, .long ((q11.1).toInt64)), (2, .int (1 : Int32)), (0, .ref (be θ + 565))]) rfl ?_
          refine g_goto (tgt := 5) X dX11_sum_81 (by decide) ?_
          have hk := inl_hk h hk
          exact g_sub (lv' := [(0, .ref (be θ + 565)), (1, .int q13)]) [3, 0] rfl hk
        · replace h := (if_neg c12).symm.trans h
          refine g_iload_n X dX11_sum_66 rfl 3 rfl ?_
          refine g_i2l X dX11_sum_67 (v := ((z1).toInt64)) rfl ?_
          refine g_lload_n X dX11_sum_68 rfl 0 rfl ?_
          refine g_ladd X dX11_sum_69 ?_
          refine g_goto (tgt := 77) X dX11_sum_70 (by decide) ?_
          obtain ⟨q14, hq14, h⟩ := Option.bind_eq_some_iff.mp h
          refine g_cS X (c_Model_within  hq14) lk_RX11_190 my_X11_within (As := [.long (((z1).toInt64) + ((q11.1).toInt64))]) (rest := []) rfl rfl (Nat.le_of_ble_eq_true rfl) ⟨(by show 1 + 1 ≤ 4 + nr + 1; omega), (by show 8 + (2 + 11) + 40 * 1 ≤ 40 * (4 + nr + 1); omega)⟩ ⟨(Nat.le_of_ble_eq_true rfl), (Nat.le_of_ble_eq_true rfl)⟩ dX11_sum_77 (st' := [.int q14]) (σ' := q11.2) rfl rfl ?_
          refine g_istore_n X dX11_sum_80 rfl (by decide) (lv' := [(1, .int q14), (3, .long ((q11.1).toInt64)), (2, .int (1 : Int32)), (0, .ref (be θ + 565))]) rfl ?_
          refine g_goto (tgt := 5) X dX11_sum_81 (by decide) ?_
          have hk := inl_hk h hk
          exact g_sub (lv' := [(0, .ref (be θ + 565)), (1, .int q14)]) [3, 0] rfl hk
    · replace h := (if_neg c4).symm.trans h
      refine g_aload_n X dX11_sum_22 rfl 0 rfl ?_
      obtain ⟨q15, hq15, h⟩ := Option.bind_eq_some_iff.mp h
      refine g_cV X (c_Model_look  hq15) lk_RX11_154 my_X11_look (a := 565) (ci := 11) kd_565 (by decide) rfl (As := []) (rest := []) rfl rfl (Nat.le_of_ble_eq_true rfl) ⟨(by show 0 + 1 ≤ 4 + nr + 1; omega), (by show 8 + (1 + 11) + 40 * 0 ≤ 40 * (4 + nr + 1); omega)⟩ ⟨(Nat.le_of_ble_eq_true rfl), (Nat.le_of_ble_eq_true rfl)⟩ dX11_sum_23 (st' := [.int q15.1]) (σ' := q15.2) rfl rfl ?_
      refine g_bipush X dX11_sum_26 (v := (45 : Int32)) bp_45 ?_
      refine g_icmp_ne (tgt := 84) X dX11_sum_28 (by decide) (fun c16 => ?_) (fun c16 => ?_)
      · replace h := (if_neg c16).symm.trans h
        refine g_iload_n X dX11_sum_84 rfl 1 rfl ?_
        have hk := inr_hk h hk
        have hk : (z1, q15.2) = r := hk
        subst hk
        exact g_iret X hr hlk dX11_sum_85 rfl
      · replace h := (if_pos c16).symm.trans h
        refine g_aload_n X dX11_sum_31 rfl 0 rfl ?_
        obtain ⟨q17, hq17, h⟩ := Option.bind_eq_some_iff.mp h
        refine g_cV X (c_Model_look  hq17) lk_RX11_154 my_X11_look (a := 565) (ci := 11) kd_565 (by decide) rfl (As := []) (rest := []) rfl rfl (Nat.le_of_ble_eq_true rfl) ⟨(by show 0 + 1 ≤ 4 + nr + 1; omega), (by show 8 + (1 + 11) + 40 * 0 ≤ 40 * (4 + nr + 1); omega)⟩ ⟨(Nat.le_of_ble_eq_true rfl), (Nat.le_of_ble_eq_true rfl)⟩ dX11_sum_32 (st' := [.int q17.1]) (σ' := q17.2) rfl rfl ?_
        refine g_bipush X dX11_sum_35 (v := (43 : Int32)) bp_43 ?_
        refine g_icmp_ne (tgt := 44) X dX11_sum_37 (by decide) (fun c18 => ?_) (fun c18 => ?_)
        · replace h := (if_neg c18).symm.trans h
          refine g_iconst X dX11_sum_44 (v := (0 : Int32)) ic_0 ?_
          refine g_istore_n X dX11_sum_45 rfl (by decide) (lv' := [(2, .int (0 : Int32)), (0, .ref (be θ + 565)), (1, .int z1)]) rfl ?_
          refine g_aload_n X dX11_sum_46 rfl 1 rfl ?_
          refine g_dup X dX11_sum_47 rfl ?_
          refine g_get X fl_RX11_135 dX11_sum_48 kd_565 (v := .int (mI q17.2 565 10)) rfl ?_
          refine g_iconst X dX11_sum_51 (v := (1 : Int32)) ic_1 ?_
          refine g_iadd X dX11_sum_52 ?_
          refine g_putI X fl_RX11_135 dX11_sum_53 kd_565 rfl rfl rfl ?_
          refine g_aload_n X dX11_sum_56 rfl 1 rfl ?_
          obtain ⟨q19, hq19, h⟩ := Option.bind_eq_some_iff.mp h
          refine g_cV X (hrec1  hq19) lk_RX11_194 my_X11_term (a := 565) (ci := 11) kd_565 (by decide) rfl (As := []) (rest := []) rfl rfl (Nat.le_of_ble_eq_true rfl) ⟨Nat.le_refl _, (by show 8 + (5 + 11) + 40 * (4 + nr) ≤ 40 * (4 + nr + 1); omega)⟩ ⟨(Nat.le_of_ble_eq_true rfl), (Nat.le_of_ble_eq_true rfl)⟩ dX11_sum_57 (st' := [.int q19.1]) (σ' := q19.2) rfl rfl ?_
          refine g_i2l X dX11_sum_60 (v := ((q19.1).toInt64)) rfl ?_
          refine g_lstore_n X dX11_sum_61 rfl (by decide) (lv' := [(3, .long ((q19.1).toInt64)), (2, .int (0 : Int32)), (0, .ref (be θ + 565)), (1, .int z1)]) rfl ?_
          refine g_iload_n X dX11_sum_62 rfl 1 rfl ?_
          refine g_if_eq (tgt := 73) X dX11_sum_63 (by decide) (fun c20 => ?_) (fun c20 => ?_)
          · replace h := (if_pos c20).symm.trans h
            refine g_iload_n X dX11_sum_73 rfl 3 rfl ?_
            refine g_i2l X dX11_sum_74 (v := ((z1).toInt64)) rfl ?_
            refine g_lload_n X dX11_sum_75 rfl 0 rfl ?_
            refine g_lsub X dX11_sum_76 ?_
            obtain ⟨q21, hq21, h⟩ := Option.bind_eq_some_iff.mp h
            refine g_cS X (c_Model_within  hq21) lk_RX11_190 my_X11_within (As := [.long (((z1).toInt64) - ((q19.1).toInt64))]) (rest := []) rfl rfl (Nat.le_of_ble_eq_true rfl) ⟨(by show 1 + 1 ≤ 4 + nr + 1; omega), (by show 8 + (2 + 11) + 40 * 1 ≤ 40 * (4 + nr + 1); omega)⟩ ⟨(Nat.le_of_ble_eq_true rfl), (Nat.le_of_ble_eq_true rfl)⟩ dX11_sum_77 (st' := [.int q21]) (σ' := q19.2) rfl rfl ?_
            refine g_istore_n X dX11_sum_80 rfl (by decide) (lv' := [(1, .int q21), (3, .long ((q19.1).toInt64)), (2, .int (0 : Int32)), (0, .ref (be θ + 565))]) rfl ?_
            refine g_goto (tgt := 5) X dX11_sum_81 (by decide) ?_
            have hk := inl_hk h hk
            exact g_sub (lv' := [(0, .ref (be θ + 565)), (1, .int q21)]) [3, 0] rfl hk
          · replace h := (if_neg c20).symm.trans h
            refine g_iload_n X dX11_sum_66 rfl 3 rfl ?_
            refine g_i2l X dX11_sum_67 (v := ((z1).toInt64)) rfl ?_
            refine g_lload_n X dX11_sum_68 rfl 0 rfl ?_
            refine g_ladd X dX11_sum_69 ?_
            refine g_goto (tgt := 77) X dX11_sum_70 (by decide) ?_
            obtain ⟨q22, hq22, h⟩ := Option.bind_eq_some_iff.mp h
            refine g_cS X (c_Model_within  hq22) lk_RX11_190 my_X11_within (As := [.long (((z1).toInt64) + ((q19.1).toInt64))]) (rest := []) rfl rfl (Nat.le_of_ble_eq_true rfl) ⟨(by show 1 + 1 ≤ 4 + nr + 1; omega), (by show 8 + (2 + 11) + 40 * 1 ≤ 40 * (4 + nr + 1); omega)⟩ ⟨(Nat.le_of_ble_eq_true rfl), (Nat.le_of_ble_eq_true rfl)⟩ dX11_sum_77 (st' := [.int q22]) (σ' := q19.2) rfl rfl ?_
            refine g_istore_n X dX11_sum_80 rfl (by decide) (lv' := [(1, .int q22), (3, .long ((q19.1).toInt64)), (2, .int (0 : Int32)), (0, .ref (be θ + 565))]) rfl ?_
            refine g_goto (tgt := 5) X dX11_sum_81 (by decide) ?_
            have hk := inl_hk h hk
            exact g_sub (lv' := [(0, .ref (be θ + 565)), (1, .int q22)]) [3, 0] rfl hk
        · replace h := (if_pos c18).symm.trans h
          refine g_iconst X dX11_sum_40 (v := (1 : Int32)) ic_1 ?_
          refine g_goto (tgt := 45) X dX11_sum_41 (by decide) ?_
          refine g_istore_n X dX11_sum_45 rfl (by decide) (lv' := [(2, .int (1 : Int32)), (0, .ref (be θ + 565)), (1, .int z1)]) rfl ?_
          refine g_aload_n X dX11_sum_46 rfl 1 rfl ?_
          refine g_dup X dX11_sum_47 rfl ?_
          refine g_get X fl_RX11_135 dX11_sum_48 kd_565 (v := .int (mI q17.2 565 10)) rfl ?_
          refine g_iconst X dX11_sum_51 (v := (1 : Int32)) ic_1 ?_
          refine g_iadd X dX11_sum_52 ?_
          refine g_putI X fl_RX11_135 dX11_sum_53 kd_565 rfl rfl rfl ?_
          refine g_aload_n X dX11_sum_56 rfl 1 rfl ?_
          obtain ⟨q23, hq23, h⟩ := Option.bind_eq_some_iff.mp h
          refine g_cV X (hrec1  hq23) lk_RX11_194 my_X11_term (a := 565) (ci := 11) kd_565 (by decide) rfl (As := []) (rest := []) rfl rfl (Nat.le_of_ble_eq_true rfl) ⟨Nat.le_refl _, (by show 8 + (5 + 11) + 40 * (4 + nr) ≤ 40 * (4 + nr + 1); omega)⟩ ⟨(Nat.le_of_ble_eq_true rfl), (Nat.le_of_ble_eq_true rfl)⟩ dX11_sum_57 (st' := [.int q23.1]) (σ' := q23.2) rfl rfl ?_
          refine g_i2l X dX11_sum_60 (v := ((q23.1).toInt64)) rfl ?_
          refine g_lstore_n X dX11_sum_61 rfl (by decide) (lv' := [(3, .long ((q23.1).toInt64)), (2, .int (1 : Int32)), (0, .ref (be θ + 565)), (1, .int z1)]) rfl ?_
          refine g_iload_n X dX11_sum_62 rfl 1 rfl ?_
          refine g_if_eq (tgt := 73) X dX11_sum_63 (by decide) (fun c24 => ?_) (fun c24 => ?_)
          · replace h := (if_pos c24).symm.trans h
            refine g_iload_n X dX11_sum_73 rfl 3 rfl ?_
            refine g_i2l X dX11_sum_74 (v := ((z1).toInt64)) rfl ?_
            refine g_lload_n X dX11_sum_75 rfl 0 rfl ?_
            refine g_lsub X dX11_sum_76 ?_
            obtain ⟨q25, hq25, h⟩ := Option.bind_eq_some_iff.mp h
            refine g_cS X (c_Model_within  hq25) lk_RX11_190 my_X11_within (As := [.long (((z1).toInt64) - ((q23.1).toInt64))]) (rest := []) rfl rfl (Nat.le_of_ble_eq_true rfl) ⟨(by show 1 + 1 ≤ 4 + nr + 1; omega), (by show 8 + (2 + 11) + 40 * 1 ≤ 40 * (4 + nr + 1); omega)⟩ ⟨(Nat.le_of_ble_eq_true rfl), (Nat.le_of_ble_eq_true rfl)⟩ dX11_sum_77 (st' := [.int q25]) (σ' := q23.2) rfl rfl ?_
            refine g_istore_n X dX11_sum_80 rfl (by decide) (lv' := [(1, .int q25), (3, .long ((q23.1).toInt64)), (2, .int (1 : Int32)), (0, .ref (be θ + 565))]) rfl ?_
            refine g_goto (tgt := 5) X dX11_sum_81 (by decide) ?_
            have hk := inl_hk h hk
            exact g_sub (lv' := [(0, .ref (be θ + 565)), (1, .int q25)]) [3, 0] rfl hk
          · replace h := (if_neg c24).symm.trans h
            refine g_iload_n X dX11_sum_66 rfl 3 rfl ?_
            refine g_i2l X dX11_sum_67 (v := ((z1).toInt64)) rfl ?_
            refine g_lload_n X dX11_sum_68 rfl 0 rfl ?_
            refine g_ladd X dX11_sum_69 ?_
            refine g_goto (tgt := 77) X dX11_sum_70 (by decide) ?_
            obtain ⟨q26, hq26, h⟩ := Option.bind_eq_some_iff.mp h
            refine g_cS X (c_Model_within  hq26) lk_RX11_190 my_X11_within (As := [.long (((z1).toInt64) + ((q23.1).toInt64))]) (rest := []) rfl rfl (Nat.le_of_ble_eq_true rfl) ⟨(by show 1 + 1 ≤ 4 + nr + 1; omega), (by show 8 + (2 + 11) + 40 * 1 ≤ 40 * (4 + nr + 1); omega)⟩ ⟨(Nat.le_of_ble_eq_true rfl), (Nat.le_of_ble_eq_true rfl)⟩ dX11_sum_77 (st' := [.int q26]) (σ' := q23.2) rfl rfl ?_
            refine g_istore_n X dX11_sum_80 rfl (by decide) (lv' := [(1, .int q26), (3, .long ((q23.1).toInt64)), (2, .int (1 : Int32)), (0, .ref (be θ + 565))]) rfl ?_
            refine g_goto (tgt := 5) X dX11_sum_81 (by decide) ?_
            have hk := inl_hk h hk
            exact g_sub (lv' := [(0, .ref (be θ + 565)), (1, .int q26)]) [3, 0] rfl hk
set_option maxHeartbeats 4000000 in
set_option maxRecDepth 20000 in
theorem gl_Model_sum_L5 (X : Cx θ p s m args c cX11_sum 5 RX11) (hr : meth.sig.returnType = some .int) (hlk : meth.locks = false) {rc : Nat → Mem → Option (Int32 × Mem)} {nr : Nat} (hrec0 : ∀ {σ : Mem}  {r : Int32 × Mem}, rc 0 σ  = some r → Cn θ l yX11_sum cX11_sum 5 (some .int) (4 + nr) 0 0 [.ref (be θ + 565)] σ (some (.int r.1), r.2)) (hrec1 : ∀ {σ : Mem}  {r : Int32 × Mem}, rc 1 σ  = some r → Cn θ l yX11_term cX11_term 5 (some .int) (4 + nr) 0 0 [.ref (be θ + 565)] σ (some (.int r.1), r.2)) (hrec2 : ∀ {σ : Mem}  {r : Int32 × Mem}, rc 2 σ  = some r → Cn θ l yX11_atom cX11_atom 4 (some .int) (4 + nr) 0 0 [.ref (be θ + 565)] σ (some (.int r.1), r.2))   {r : Int32 × Mem}  (n : Nat) (a : Mem × Int32) (b : Int32 × Mem) (h : loopF (f_Model_sum_L5 rc ) n a = some b) (hk : (fun b => b = r) b) : (fun a => @Prod.casesOn (Mem) (Int32) (fun _ => Prop) a fun τ z1 => GB θ p l e (4 + nr + 1) s m args below meth c 5 (some (.int r.1), r.2) 5 [(0, .ref (be θ + 565)), (1, .int z1)] [] τ) a :=
  loopF_by (P := (fun a => @Prod.casesOn (Mem) (Int32) (fun _ => Prop) a fun τ z1 => GB θ p l e (4 + nr + 1) s m args below meth c 5 (some (.int r.1), r.2) 5 [(0, .ref (be θ + 565)), (1, .int z1)] [] τ)) (K := (fun b => b = r)) (fun a x h hk => by obtain ⟨τ, z1⟩ := a; exact gs_Model_sum_L5 X hr hlk hrec0 hrec1 hrec2  τ z1 x h hk) n a b h hk
set_option maxHeartbeats 4000000 in
set_option maxRecDepth 20000 in
theorem g_Model_sum (X : Cx θ p s m args c cX11_sum 5 RX11) (hr : meth.sig.returnType = some .int) (hlk : meth.locks = false) {rc : Nat → Mem → Option (Int32 × Mem)} {nr : Nat} (hrec0 : ∀ {σ : Mem}  {r : Int32 × Mem}, rc 0 σ  = some r → Cn θ l yX11_sum cX11_sum 5 (some .int) (4 + nr) 0 0 [.ref (be θ + 565)] σ (some (.int r.1), r.2)) (hrec1 : ∀ {σ : Mem}  {r : Int32 × Mem}, rc 1 σ  = some r → Cn θ l yX11_term cX11_term 5 (some .int) (4 + nr) 0 0 [.ref (be θ + 565)] σ (some (.int r.1), r.2)) (hrec2 : ∀ {σ : Mem}  {r : Int32 × Mem}, rc 2 σ  = some r → Cn θ l yX11_atom cX11_atom 4 (some .int) (4 + nr) 0 0 [.ref (be θ + 565)] σ (some (.int r.1), r.2))  {σ : Mem}  {r : Int32 × Mem}  (h : f_Model_sum rc σ  = some r) : GB θ p l e (4 + nr + 1) s m args below meth c 5 (some (.int r.1), r.2) 0 [(0, .ref (be θ + 565))] [] σ := by
  unfold f_Model_sum at h
  refine g_aload_n X dX11_sum_0 rfl 0 rfl ?_
  obtain ⟨q1, hq1, h⟩ := Option.bind_eq_some_iff.mp h
  refine g_cV X (hrec1  hq1) lk_RX11_194 my_X11_term (a := 565) (ci := 11) kd_565 (by decide) rfl (As := []) (rest := []) rfl rfl (Nat.le_of_ble_eq_true rfl) ⟨Nat.le_refl _, (by show 8 + (5 + 11) + 40 * (4 + nr) ≤ 40 * (4 + nr + 1); omega)⟩ ⟨(Nat.le_of_ble_eq_true rfl), (Nat.le_of_ble_eq_true rfl)⟩ dX11_sum_1 (st' := [.int q1.1]) (σ' := q1.2) rfl rfl ?_
  refine g_istore_n X dX11_sum_4 rfl (by decide) (lv' := [(1, .int q1.1), (0, .ref (be θ + 565))]) rfl ?_
  exact g_sub (lv' := [(0, .ref (be θ + 565)), (1, .int q1.1)]) [1, 0] rfl (gl_Model_sum_L5 X hr hlk hrec0 hrec1 hrec2   FU _ _ h rfl)
def f_Model_term_L5 (rc : Nat → Mem → Option (Int32 × Mem))  (a : Mem × Int32) : Option ((Mem × Int32) ⊕ (Int32 × Mem)) :=
  @Prod.casesOn (Mem) (Int32) (fun _ => Option ((Mem × Int32) ⊕ (Int32 × Mem))) a fun τ z1 =>
  if (mI τ 565 11) = (-1 : Int32) then
    (f_Model_look τ).bind fun q3 =>
    if q3.1 = (42 : Int32) then
      (f_Model_look q3.2).bind fun q5 =>
      if q5.1 = (42 : Int32) then
        (rc 2 (sI q5.2 565 10 ((mI q5.2 565 10) + (1 : Int32)))).bind fun q14 =>
        if (1 : Int32) = (0 : Int32) then
          if (lg_cmp ((q14.1).toInt64) (0 : Int64)) = (0 : Int32) then
            (f_Model_within q14.2 (0 : Int64)).bind fun q19 =>
            some (.inl (q14.2, q19))
          else
            if ((q14.1).toInt64) = 0 then none else
            (f_Model_within q14.2 (((z1).toInt64) / ((q14.1).toInt64))).bind fun q18 =>
            some (.inl (q14.2, q18))
        else
          (f_Model_within q14.2 (((z1).toInt64) * ((q14.1).toInt64))).bind fun q20 =>
          some (.inl (q14.2, q20))
      else
        (rc 2 (sI q5.2 565 10 ((mI q5.2 565 10) + (1 : Int32)))).bind fun q7 =>
        if (0 : Int32) = (0 : Int32) then
          if (lg_cmp ((q7.1).toInt64) (0 : Int64)) = (0 : Int32) then
            (f_Model_within q7.2 (0 : Int64)).bind fun q12 =>
            some (.inl (q7.2, q12))
          else
            if ((q7.1).toInt64) = 0 then none else
            (f_Model_within q7.2 (((z1).toInt64) / ((q7.1).toInt64))).bind fun q11 =>
            some (.inl (q7.2, q11))
        else
          (f_Model_within q7.2 (((z1).toInt64) * ((q7.1).toInt64))).bind fun q13 =>
          some (.inl (q7.2, q13))
    else
      (f_Model_look q3.2).bind fun q21 =>
      if q21.1 = (47 : Int32) then
        (f_Model_look q21.2).bind fun q23 =>
        if q23.1 = (42 : Int32) then
          (rc 2 (sI q23.2 565 10 ((mI q23.2 565 10) + (1 : Int32)))).bind fun q32 =>
          if (1 : Int32) = (0 : Int32) then
            if (lg_cmp ((q32.1).toInt64) (0 : Int64)) = (0 : Int32) then
              (f_Model_within q32.2 (0 : Int64)).bind fun q37 =>
              some (.inl (q32.2, q37))
            else
              if ((q32.1).toInt64) = 0 then none else
              (f_Model_within q32.2 (((z1).toInt64) / ((q32.1).toInt64))).bind fun q36 =>
              some (.inl (q32.2, q36))
          else
            (f_Model_within q32.2 (((z1).toInt64) * ((q32.1).toInt64))).bind fun q38 =>
            some (.inl (q32.2, q38))
        else
          (rc 2 (sI q23.2 565 10 ((mI q23.2 565 10) + (1 : Int32)))).bind fun q25 =>
          if (0 : Int32) = (0 : Int32) then
            if (lg_cmp ((q25.1).toInt64) (0 : Int64)) = (0 : Int32) then
              (f_Model_within q25.2 (0 : Int64)).bind fun q30 =>
              some (.inl (q25.2, q30))
            else
              if ((q25.1).toInt64) = 0 then none else
              (f_Model_within q25.2 (((z1).toInt64) / ((q25.1).toInt64))).bind fun q29 =>
              some (.inl (q25.2, q29))
          else
            (f_Model_within q25.2 (((z1).toInt64) * ((q25.1).toInt64))).bind fun q31 =>
            some (.inl (q25.2, q31))
      else
        some (.inr (z1, q21.2))
  else
    some (.inr (z1, τ))
def f_Model_term (rc : Nat → Mem → Option (Int32 × Mem)) (σ : Mem)  : Option (Int32 × Mem) :=
  (rc 2 σ).bind fun q1 =>
  loopF (f_Model_term_L5 rc ) FU (q1.2, q1.1)
set_option maxHeartbeats 4000000 in
set_option maxRecDepth 20000 in
theorem gs_Model_term_L5 (X : Cx θ p s m args c cX11_term 5 RX11) (hr : meth.sig.returnType = some .int) (hlk : meth.locks = false) {rc : Nat → Mem → Option (Int32 × Mem)} {nr : Nat} (hrec0 : ∀ {σ : Mem}  {r : Int32 × Mem}, rc 0 σ  = some r → Cn θ l yX11_sum cX11_sum 5 (some .int) (4 + nr) 0 0 [.ref (be θ + 565)] σ (some (.int r.1), r.2)) (hrec1 : ∀ {σ : Mem}  {r : Int32 × Mem}, rc 1 σ  = some r → Cn θ l yX11_term cX11_term 5 (some .int) (4 + nr) 0 0 [.ref (be θ + 565)] σ (some (.int r.1), r.2)) (hrec2 : ∀ {σ : Mem}  {r : Int32 × Mem}, rc 2 σ  = some r → Cn θ l yX11_atom cX11_atom 4 (some .int) (4 + nr) 0 0 [.ref (be θ + 565)] σ (some (.int r.1), r.2))   {r : Int32 × Mem}  (τ : Mem) (z1 : Int32) (x : (Mem × Int32) ⊕ (Int32 × Mem)) (h : f_Model_term_L5 rc  (τ, z1) = some x) (hk : Sum.elim (fun a => @Prod.casesOn (Mem) (Int32) (fun _ => Prop) a fun τ z1 => GB θ p l e (4 + nr + 1) s m args below meth c 5 (some (.int r.1), r.2) 5 [(0, .ref (be θ + 565)), (1, .int z1)] [] τ) (fun b => b = r) x) : GB θ p l e (4 + nr + 1) s m args below meth c 5 (some (.int r.1), r.2) 5 [(0, .ref (be θ + 565)), (1, .int z1)] [] τ := by
  unfold f_Model_term_L5 at h
  dsimp only at h
  refine g_aload_n X dX11_term_5 rfl 0 rfl ?_
  refine g_get X fl_RX11_144 dX11_term_6 kd_565 (v := .int (mI τ 565 11)) rfl ?_
  refine g_iconst X dX11_term_9 (v := (-1 : Int32)) ic_m1 ?_
  refine g_icmp_ne (tgt := 94) X dX11_term_10 (by decide) (fun c2 => ?_) (fun c2 => ?_)
  · replace h := (if_neg c2).symm.trans h
    refine g_iload_n X dX11_term_94 rfl 1 rfl ?_
    have hk := inr_hk h hk
    have hk : (z1, τ) = r := hk
    subst hk
    exact g_iret X hr hlk dX11_term_95 rfl
  · replace h := (if_pos c2).symm.trans h
    refine g_aload_n X dX11_term_13 rfl 0 rfl ?_
    obtain ⟨q3, hq3, h⟩ := Option.bind_eq_some_iff.mp h
    refine g_cV X (c_Model_look  hq3) lk_RX11_154 my_X11_look (a := 565) (ci := 11) kd_565 (by decide) rfl (As := []) (rest := []) rfl rfl (Nat.le_of_ble_eq_true rfl) ⟨(by show 0 + 1 ≤ 4 + nr + 1; omega), (by show 8 + (1 + 11) + 40 * 0 ≤ 40 * (4 + nr + 1); omega)⟩ ⟨(Nat.le_of_ble_eq_true rfl), (Nat.le_of_ble_eq_true rfl)⟩ dX11_term_14 (st' := [.int q3.1]) (σ' := q3.2) rfl rfl ?_
    refine g_bipush X dX11_term_17 (v := (42 : Int32)) bp_42 ?_
    refine g_icmp_eq (tgt := 31) X dX11_term_19 (by decide) (fun c4 => ?_) (fun c4 => ?_)
    · replace h := (if_pos c4).symm.trans h
      refine g_aload_n X dX11_term_31 rfl 0 rfl ?_
      obtain ⟨q5, hq5, h⟩ := Option.bind_eq_some_iff.mp h
      refine g_cV X (c_Model_look  hq5) lk_RX11_154 my_X11_look (a := 565) (ci := 11) kd_565 (by decide) rfl (As := []) (rest := []) rfl rfl (Nat.le_of_ble_eq_true rfl) ⟨(by show 0 + 1 ≤ 4 + nr + 1; omega), (by show 8 + (1 + 11) + 40 * 0 ≤ 40 * (4 + nr + 1); omega)⟩ ⟨(Nat.le_of_ble_eq_true rfl), (Nat.le_of_ble_eq_true rfl)⟩ dX11_term_32 (st' := [.int q5.1]) (σ' := q5.2) rfl rfl ?_
      refine g_bipush X dX11_term_35 (v := (42 : Int32)) bp_42 ?_
      refine g_icmp_ne (tgt := 44) X dX11_term_37 (by decide) (fun c6 => ?_) (fun c6 => ?_)
      · replace h := (if_neg c6).symm.trans h
        refine g_iconst X dX11_term_44 (v := (0 : Int32)) ic_0 ?_
        refine g_istore_n X dX11_term_45 rfl (by decide) (lv' := [(2, .int (0 : Int32)), (0, .ref (be θ + 565)), (1, .int z1)]) rfl ?_
        refine g_aload_n X dX11_term_46 rfl 1 rfl ?_
        refine g_dup X dX11_term_47 rfl ?_
        refine g_get X fl_RX11_135 dX11_term_48 kd_565 (v := .int (mI q5.2 565 10)) rfl ?_
        refine g_iconst X dX11_term_51 (v := (1 : Int32)) ic_1 ?_
        refine g_iadd X dX11_term_52 ?_
        refine g_putI X fl_RX11_135 dX11_term_53 kd_565 rfl rfl rfl ?_
        refine g_aload_n X dX11_term_56 rfl 1 rfl ?_
        obtain ⟨q7, hq7, h⟩ := Option.bind_eq_some_iff.mp h
        refine g_cV X (hrec2  hq7) lk_RX11_187 my_X11_atom (a := 565) (ci := 11) kd_565 (by decide) rfl (As := []) (rest := []) rfl rfl (Nat.le_of_ble_eq_true rfl) ⟨Nat.le_refl _, (by show 8 + (4 + 11) + 40 * (4 + nr) ≤ 40 * (4 + nr + 1); omega)⟩ ⟨(Nat.le_of_ble_eq_true rfl), (Nat.le_of_ble_eq_true rfl)⟩ dX11_term_57 (st' := [.int q7.1]) (σ' := q7.2) rfl rfl ?_
        refine g_i2l X dX11_term_60 (v := ((q7.1).toInt64)) rfl ?_
        refine g_lstore_n X dX11_term_61 rfl (by decide) (lv' := [(3, .long ((q7.1).toInt64)), (2, .int (0 : Int32)), (0, .ref (be θ + 565)), (1, .int z1)]) rfl ?_
        refine g_iload_n X dX11_term_62 rfl 1 rfl ?_
        refine g_if_eq (tgt := 73) X dX11_term_63 (by decide) (fun c8 => ?_) (fun c8 => ?_)
        · replace h := (if_pos c8).symm.trans h
          refine g_lload_n X dX11_term_73 rfl 0 rfl ?_
          refine g_lconst X dX11_term_74 (v := (0 : Int64)) rfl ?_
          refine g_lcmp X dX11_term_75 ?_
          refine g_if_ne (tgt := 83) X dX11_term_76 (by decide) (fun c9 => ?_) (fun c9 => ?_)
          · replace h := (if_neg c9).symm.trans h
            refine g_iload_n X dX11_term_83 rfl 3 rfl ?_
            refine g_i2l X dX11_term_84 (v := ((z1).toInt64)) rfl ?_
            refine g_lload_n X dX11_term_85 rfl 0 rfl ?_
            obtain ⟨g10, h⟩ := ite_none h
            refine g_ldiv X dX11_term_86 g10 ?_
            obtain ⟨q11, hq11, h⟩ := Option.bind_eq_some_iff.mp h
            refine g_cS X (c_Model_within  hq11) lk_RX11_190 my_X11_within (As := [.long (((z1).toInt64) / ((q7.1).toInt64))]) (rest := []) rfl rfl (Nat.le_of_ble_eq_true rfl) ⟨(by show 1 + 1 ≤ 4 + nr + 1; omega), (by show 8 + (2 + 11) + 40 * 1 ≤ 40 * (4 + nr + 1); omega)⟩ ⟨(Nat.le_of_ble_eq_true rfl), (Nat.le_of_ble_eq_true rfl)⟩ dX11_term_87 (st' := [.int q11]) (σ' := q7.2) rfl rfl ?_
            refine g_istore_n X dX11_term_90 rfl (by decide) (lv' := [(1, .int q11), (3, .long ((q7.1).toInt64)), (2, .int (0 : Int32)), (0, .ref (be θ + 565))]) rfl ?_
            refine g_goto (tgt := 5) X dX11_term_91 (by decide) ?_
            have hk := inl_hk h hk
            exact g_sub (lv' := [(0, .ref (be θ + 565)), (1, .int q11)]) [3, 0] rfl hk
          · replace h := (if_pos c9).symm.trans h
            refine g_lconst X dX11_term_79 (v := (0 : Int64)) rfl ?_
            refine g_goto (tgt := 87) X dX11_term_80 (by decide) ?_
            obtain ⟨q12, hq12, h⟩ := Option.bind_eq_some_iff.mp h
            refine g_cS X (c_Model_within  hq12) lk_RX11_190 my_X11_within (As := [.long (0 : Int64)]) (rest := []) rfl rfl (Nat.le_of_ble_eq_true rfl) ⟨(by show 1 + 1 ≤ 4 + nr + 1; omega), (by show 8 + (2 + 11) + 40 * 1 ≤ 40 * (4 + nr + 1); omega)⟩ ⟨(Nat.le_of_ble_eq_true rfl), (Nat.le_of_ble_eq_true rfl)⟩ dX11_term_87 (st' := [.int q12]) (σ' := q7.2) rfl rfl ?_
            refine g_istore_n X dX11_term_90 rfl (by decide) (lv' := [(1, .int q12), (3, .long ((q7.1).toInt64)), (2, .int (0 : Int32)), (0, .ref (be θ + 565))]) rfl ?_
            refine g_goto (tgt := 5) X dX11_term_91 (by decide) ?_
            have hk := inl_hk h hk
            exact g_sub (lv' := [(0, .ref (be θ + 565)), (1, .int q12)]) [3, 0] rfl hk
        · replace h := (if_neg c8).symm.trans h
          refine g_iload_n X dX11_term_66 rfl 3 rfl ?_
          refine g_i2l X dX11_term_67 (v := ((z1).toInt64)) rfl ?_
          refine g_lload_n X dX11_term_68 rfl 0 rfl ?_
          refine g_lmul X dX11_term_69 ?_
          refine g_goto (tgt := 87) X dX11_term_70 (by decide) ?_
          obtain ⟨q13, hq13, h⟩ := Option.bind_eq_some_iff.mp h
          refine g_cS X (c_Model_within  hq13) lk_RX11_190 my_X11_within (As := [.long (((z1).toInt64) * ((q7.1).toInt64))]) (rest := []) rfl rfl (Nat.le_of_ble_eq_true rfl) ⟨(by show 1 + 1 ≤ 4 + nr + 1; omega), (by show 8 + (2 + 11) + 40 * 1 ≤ 40 * (4 + nr + 1); omega)⟩ ⟨(Nat.le_of_ble_eq_true rfl), (Nat.le_of_ble_eq_true rfl)⟩ dX11_term_87 (st' := [.int q13]) (σ' := q7.2) rfl rfl ?_
          refine g_istore_n X dX11_term_90 rfl (by decide) (lv' := [(1, .int q13), (3, .long ((q7.1).toInt64)), (2, .int (0 : Int32)), (0, .ref (be θ + 565))]) rfl ?_
          refine g_goto (tgt := 5) X dX11_term_91 (by decide) ?_
          have hk := inl_hk h hk
          exact g_sub (lv' := [(0, .ref (be θ + 565)), (1, .int q13)]) [3, 0] rfl hk
      · replace h := (if_pos c6).symm.trans h
        refine g_iconst X dX11_term_40 (v := (1 : Int32)) ic_1 ?_
        refine g_goto (tgt := 45) X dX11_term_41 (by decide) ?_
        refine g_istore_n X dX11_term_45 rfl (by decide) (lv' := [(2, .int (1 : Int32)), (0, .ref (be θ + 565)), (1, .int z1)]) rfl ?_
        refine g_aload_n X dX11_term_46 rfl 1 rfl ?_
        refine g_dup X dX11_term_47 rfl ?_
        refine g_get X fl_RX11_135 dX11_term_48 kd_565 (v := .int (mI q5.2 565 10)) rfl ?_
        refine g_iconst X dX11_term_51 (v := (1 : Int32)) ic_1 ?_
        refine g_iadd X dX11_term_52 ?_
        refine g_putI X fl_RX11_135 dX11_term_53 kd_565 rfl rfl rfl ?_
        refine g_aload_n X dX11_term_56 rfl 1 rfl ?_
        obtain ⟨q14, hq14, h⟩ := Option.bind_eq_some_iff.mp h
        refine g_cV X (hrec2  hq14) lk_RX11_187 my_X11_atom (a := 565) (ci := 11) kd_565 (by decide) rfl (As := []) (rest := []) rfl rfl (Nat.le_of_ble_eq_true rfl) ⟨Nat.le_refl _, (by show 8 + (4 + 11) + 40 * (4 + nr) ≤ 40 * (4 + nr + 1); omega)⟩ ⟨(Nat.le_of_ble_eq_true rfl), (Nat.le_of_ble_eq_true rfl)⟩ dX11_term_57 (st' := [.int q14.1]) (σ' := q14.2) rfl rfl ?_
        refine g_i2l X dX11_term_60 (v := ((q14.1).toInt64)) rfl ?_
        refine g_lstore_n X dX11_term_61 rfl (by decide) (lv' := [(3, .long ((q14.1).toInt64)), (2, .int (1 : Int32)), (0, .ref (be θ + 565)), (1, .int z1)]) rfl ?_
        refine g_iload_n X dX11_term_62 rfl 1 rfl ?_
        refine g_if_eq (tgt := 73) X dX11_term_63 (by decide) (fun c15 => ?_) (fun c15 => ?_)
        · replace h := (if_pos c15).symm.trans h
          refine g_lload_n X dX11_term_73 rfl 0 rfl ?_
          refine g_lconst X dX11_term_74 (v := (0 : Int64)) rfl ?_
          refine g_lcmp X dX11_term_75 ?_
          refine g_if_ne (tgt := 83) X dX11_term_76 (by decide) (fun c16 => ?_) (fun c16 => ?_)
          · replace h := (if_neg c16).symm.trans h
            refine g_iload_n X dX11_term_83 rfl 3 rfl ?_
            refine g_i2l X dX11_term_84 (v := ((z1).toInt64)) rfl ?_
            refine g_lload_n X dX11_term_85 rfl 0 rfl ?_
            obtain ⟨g17, h⟩ := ite_none h
            refine g_ldiv X dX11_term_86 g17 ?_
            obtain ⟨q18, hq18, h⟩ := Option.bind_eq_some_iff.mp h
            refine g_cS X (c_Model_within  hq18) lk_RX11_190 my_X11_within (As := [.long (((z1).toInt64) / ((q14.1).toInt64))]) (rest := []) rfl rfl (Nat.le_of_ble_eq_true rfl) ⟨(by show 1 + 1 ≤ 4 + nr + 1; omega), (by show 8 + (2 + 11) + 40 * 1 ≤ 40 * (4 + nr + 1); omega)⟩ ⟨(Nat.le_of_ble_eq_true rfl), (Nat.le_of_ble_eq_true rfl)⟩ dX11_term_87 (st' := [.int q18]) (σ' := q14.2) rfl rfl ?_
            refine g_istore_n X dX11_term_90 rfl (by decide) (lv' := [(1, .int q18), (3, .long ((q14.1).toInt64)), (2, .int (1 : Int32)), (0, .ref (be θ + 565))]) rfl ?_
            refine g_goto (tgt := 5) X dX11_term_91 (by decide) ?_
            have hk := inl_hk h hk
            exact g_sub (lv' := [(0, .ref (be θ + 565)), (1, .int q18)]) [3, 0] rfl hk
          · replace h := (if_pos c16).symm.trans h
            refine g_lconst X dX11_term_79 (v := (0 : Int64)) rfl ?_
            refine g_goto (tgt := 87) X dX11_term_80 (by decide) ?_
            obtain ⟨q19, hq19, h⟩ := Option.bind_eq_some_iff.mp h
            refine g_cS X (c_Model_within  hq19) lk_RX11_190 my_X11_within (As := [.long (0 : Int64)]) (rest := []) rfl rfl (Nat.le_of_ble_eq_true rfl) ⟨(by show 1 + 1 ≤ 4 + nr + 1; omega), (by show 8 + (2 + 11) + 40 * 1 ≤ 40 * (4 + nr + 1); omega)⟩ ⟨(Nat.le_of_ble_eq_true rfl), (Nat.le_of_ble_eq_true rfl)⟩ dX11_term_87 (st' := [.int q19]) (σ' := q14.2) rfl rfl ?_
            refine g_istore_n X dX11_term_90 rfl (by decide) (lv' := [(1, .int q19), (3, .long ((q14.1).toInt64)), (2, .int (1 : Int32)), (0, .ref (be θ + 565))]) rfl ?_
            refine g_goto (tgt := 5) X dX11_term_91 (by decide) ?_
            have hk := inl_hk h hk
            exact g_sub (lv' := [(0, .ref (be θ + 565)), (1, .int q19)]) [3, 0] rfl hk
        · replace h := (if_neg c15).symm.trans h
          refine g_iload_n X dX11_term_66 rfl 3 rfl ?_
          refine g_i2l X dX11_term_67 (v := ((z1).toInt64)) rfl ?_
          refine g_lload_n X dX11_term_68 rfl 0 rfl ?_
          refine g_lmul X dX11_term_69 ?_
          refine g_goto (tgt := 87) X dX11_term_70 (by decide) ?_
          obtain ⟨q20, hq20, h⟩ := Option.bind_eq_some_iff.mp h
          refine g_cS X (c_Model_within  hq20) lk_RX11_190 my_X11_within (As := [.long (((z1).toInt64) * ((q14.1).toInt64))]) (rest := []) rfl rfl (Nat.le_of_ble_eq_true rfl) ⟨(by show 1 + 1 ≤ 4 + nr + 1; omega), (by show 8 + (2 + 11) + 40 * 1 ≤ 40 * (4 + nr + 1); omega)⟩ ⟨(Nat.le_of_ble_eq_true rfl), (Nat.le_of_ble_eq_true rfl)⟩ dX11_term_87 (st' := [.int q20]) (σ' := q14.2) rfl rfl ?_
          refine g_istore_n X dX11_term_90 rfl (by decide) (lv' := [(1, .int q20), (3, .long ((q14.1).toInt64)), (2, .int (1 : Int32)), (0, .ref (be θ + 565))]) rfl ?_
          refine g_goto (tgt := 5) X dX11_term_91 (by decide) ?_
          have hk := inl_hk h hk
          exact g_sub (lv' := [(0, .ref (be θ + 565)), (1, .int q20)]) [3, 0] rfl hk
    · replace h := (if_neg c4).symm.trans h
      refine g_aload_n X dX11_term_22 rfl 0 rfl ?_
      obtain ⟨q21, hq21, h⟩ := Option.bind_eq_some_iff.mp h
      refine g_cV X (c_Model_look  hq21) lk_RX11_154 my_X11_look (a := 565) (ci := 11) kd_565 (by decide) rfl (As := []) (rest := []) rfl rfl (Nat.le_of_ble_eq_true rfl) ⟨(by show 0 + 1 ≤ 4 + nr + 1; omega), (by show 8 + (1 + 11) + 40 * 0 ≤ 40 * (4 + nr + 1); omega)⟩ ⟨(Nat.le_of_ble_eq_true rfl), (Nat.le_of_ble_eq_true rfl)⟩ dX11_term_23 (st' := [.int q21.1]) (σ' := q21.2) rfl rfl ?_
      refine g_bipush X dX11_term_26 (v := (47 : Int32)) bp_47 ?_
      refine g_icmp_ne (tgt := 94) X dX11_term_28 (by decide) (fun c22 => ?_) (fun c22 => ?_)
      · replace h := (if_neg c22).symm.trans h
        refine g_iload_n X dX11_term_94 rfl 1 rfl ?_
        have hk := inr_hk h hk
        have hk : (z1, q21.2) = r := hk
        subst hk
        exact g_iret X hr hlk dX11_term_95 rfl
      · replace h := (if_pos c22).symm.trans h
        refine g_aload_n X dX11_term_31 rfl 0 rfl ?_
        obtain ⟨q23, hq23, h⟩ := Option.bind_eq_some_iff.mp h
        refine g_cV X (c_Model_look  hq23) lk_RX11_154 my_X11_look (a := 565) (ci := 11) kd_565 (by decide) rfl (As := []) (rest := []) rfl rfl (Nat.le_of_ble_eq_true rfl) ⟨(by show 0 + 1 ≤ 4 + nr + 1; omega), (by show 8 + (1 + 11) + 40 * 0 ≤ 40 * (4 + nr + 1); omega)⟩ ⟨(Nat.le_of_ble_eq_true rfl), (Nat.le_of_ble_eq_true rfl)⟩ dX11_term_32 (st' := [.int q23.1]) (σ' := q23.2) rfl rfl ?_
        refine g_bipush X dX11_term_35 (v := (42 : Int32)) bp_42 ?_
        refine g_icmp_ne (tgt := 44) X dX11_term_37 (by decide) (fun c24 => ?_) (fun c24 => ?_)
        · replace h := (if_neg c24).symm.trans h
          refine g_iconst X dX11_term_44 (v := (0 : Int32)) ic_0 ?_
          refine g_istore_n X dX11_term_45 rfl (by decide) (lv' := [(2, .int (0 : Int32)), (0, .ref (be θ + 565)), (1, .int z1)]) rfl ?_
          refine g_aload_n X dX11_term_46 rfl 1 rfl ?_
          refine g_dup X dX11_term_47 rfl ?_
          refine g_get X fl_RX11_135 dX11_term_48 kd_565 (v := .int (mI q23.2 565 10)) rfl ?_
          refine g_iconst X dX11_term_51 (v := (1 : Int32)) ic_1 ?_
          refine g_iadd X dX11_term_52 ?_
          refine g_putI X fl_RX11_135 dX11_term_53 kd_565 rfl rfl rfl ?_
          refine g_aload_n X dX11_term_56 rfl 1 rfl ?_
          obtain ⟨q25, hq25, h⟩ := Option.bind_eq_some_iff.mp h
          refine g_cV X (hrec2  hq25) lk_RX11_187 my_X11_atom (a := 565) (ci := 11) kd_565 (by decide) rfl (As := []) (rest := []) rfl rfl (Nat.le_of_ble_eq_true rfl) ⟨Nat.le_refl _, (by show 8 + (4 + 11) + 40 * (4 + nr) ≤ 40 * (4 + nr + 1); omega)⟩ ⟨(Nat.le_of_ble_eq_true rfl), (Nat.le_of_ble_eq_true rfl)⟩ dX11_term_57 (st' := [.int q25.1]) (σ' := q25.2) rfl rfl ?_
          refine g_i2l X dX11_term_60 (v := ((q25.1).toInt64)) rfl ?_
          refine g_lstore_n X dX11_term_61 rfl (by decide) (lv' := [(3, .long ((q25.1).toInt64)), (2, .int (0 : Int32)), (0, .ref (be θ + 565)), (1, .int z1)]) rfl ?_
          refine g_iload_n X dX11_term_62 rfl 1 rfl ?_
          refine g_if_eq (tgt := 73) X dX11_term_63 (by decide) (fun c26 => ?_) (fun c26 => ?_)
          · replace h := (if_pos c26).symm.trans h
            refine g_lload_n X dX11_term_73 rfl 0 rfl ?_
            refine g_lconst X dX11_term_74 (v := (0 : Int64)) rfl ?_
            refine g_lcmp X dX11_term_75 ?_
            refine g_if_ne (tgt := 83) X dX11_term_76 (by decide) (fun c27 => ?_) (fun c27 => ?_)
            · replace h := (if_neg c27).symm.trans h
              refine g_iload_n X dX11_term_83 rfl 3 rfl ?_
              refine g_i2l X dX11_term_84 (v := ((z1).toInt64)) rfl ?_
              refine g_lload_n X dX11_term_85 rfl 0 rfl ?_
              obtain ⟨g28, h⟩ := ite_none h
              refine g_ldiv X dX11_term_86 g28 ?_
              obtain ⟨q29, hq29, h⟩ := Option.bind_eq_some_iff.mp h
              refine g_cS X (c_Model_within  hq29) lk_RX11_190 my_X11_within (As := [.long (((z1).toInt64) / ((q25.1).toInt64))]) (rest := []) rfl rfl (Nat.le_of_ble_eq_true rfl) ⟨(by show 1 + 1 ≤ 4 + nr + 1; omega), (by show 8 + (2 + 11) + 40 * 1 ≤ 40 * (4 + nr + 1); omega)⟩ ⟨(Nat.le_of_ble_eq_true rfl), (Nat.le_of_ble_eq_true rfl)⟩ dX11_term_87 (st' := [.int q29]) (σ' := q25.2) rfl rfl ?_
              refine g_istore_n X dX11_term_90 rfl (by decide) (lv' := [(1, .int q29), (3, .long ((q25.1).toInt64)), (2, .int (0 : Int32)), (0, .ref (be θ + 565))]) rfl ?_
              refine g_goto (tgt := 5) X dX11_term_91 (by decide) ?_
              have hk := inl_hk h hk
              exact g_sub (lv' := [(0, .ref (be θ + 565)), (1, .int q29)]) [3, 0] rfl hk
            · replace h := (if_pos c27).symm.trans h
              refine g_lconst X dX11_term_79 (v := (0 : Int64)) rfl ?_
              refine g_goto (tgt := 87) X dX11_term_80 (by decide) ?_
              obtain ⟨q30, hq30, h⟩ := Option.bind_eq_some_iff.mp h
              refine g_cS X (c_Model_within  hq30) lk_RX11_190 my_X11_within (As := [.long (0 : Int64)]) (rest := []) rfl rfl (Nat.le_of_ble_eq_true rfl) ⟨(by show 1 + 1 ≤ 4 + nr + 1; omega), (by show 8 + (2 + 11) + 40 * 1 ≤ 40 * (4 + nr + 1); omega)⟩ ⟨(Nat.le_of_ble_eq_true rfl), (Nat.le_of_ble_eq_true rfl)⟩ dX11_term_87 (st' := [.int q30]) (σ' := q25.2) rfl rfl ?_
              refine g_istore_n X dX11_term_90 rfl (by decide) (lv' := [(1, .int q30), (3, .long ((q25.1).toInt64)), (2, .int (0 : Int32)), (0, .ref (be θ + 565))]) rfl ?_
              refine g_goto (tgt := 5) X dX11_term_91 (by decide) ?_
              have hk := inl_hk h hk
              exact g_sub (lv' := [(0, .ref (be θ + 565)), (1, .int q30)]) [3, 0] rfl hk
          · replace h := (if_neg c26).symm.trans h
            refine g_iload_n X dX11_term_66 rfl 3 rfl ?_
            refine g_i2l X dX11_term_67 (v := ((z1).toInt64)) rfl ?_
            refine g_lload_n X dX11_term_68 rfl 0 rfl ?_
            refine g_lmul X dX11_term_69 ?_
            refine g_goto (tgt := 87) X dX11_term_70 (by decide) ?_
            obtain ⟨q31, hq31, h⟩ := Option.bind_eq_some_iff.mp h
            refine g_cS X (c_Model_within  hq31) lk_RX11_190 my_X11_within (As := [.long (((z1).toInt64) * ((q25.1).toInt64))]) (rest := []) rfl rfl (Nat.le_of_ble_eq_true rfl) ⟨(by show 1 + 1 ≤ 4 + nr + 1; omega), (by show 8 + (2 + 11) + 40 * 1 ≤ 40 * (4 + nr + 1); omega)⟩ ⟨(Nat.le_of_ble_eq_true rfl), (Nat.le_of_ble_eq_true rfl)⟩ dX11_term_87 (st' := [.int q31]) (σ' := q25.2) rfl rfl ?_
            refine g_istore_n X dX11_term_90 rfl (by decide) (lv' := [(1, .int q31), (3, .long ((q25.1).toInt64)), (2, .int (0 : Int32)), (0, .ref (be θ + 565))]) rfl ?_
            refine g_goto (tgt := 5) X dX11_term_91 (by decide) ?_
            have hk := inl_hk h hk
            exact g_sub (lv' := [(0, .ref (be θ + 565)), (1, .int q31)]) [3, 0] rfl hk
        · replace h := (if_pos c24).symm.trans h
          refine g_iconst X dX11_term_40 (v := (1 : Int32)) ic_1 ?_
          refine g_goto (tgt := 45) X dX11_term_41 (by decide) ?_
          refine g_istore_n X dX11_term_45 rfl (by decide) (lv' := [(2, .int (1 : Int32)), (0, .ref (be θ + 565)), (1, .int z1)]) rfl ?_
          refine g_aload_n X dX11_term_46 rfl 1 rfl ?_
          refine g_dup X dX11_term_47 rfl ?_
          refine g_get X fl_RX11_135 dX11_term_48 kd_565 (v := .int (mI q23.2 565 10)) rfl ?_
          refine g_iconst X dX11_term_51 (v := (1 : Int32)) ic_1 ?_
          refine g_iadd X dX11_term_52 ?_
          refine g_putI X fl_RX11_135 dX11_term_53 kd_565 rfl rfl rfl ?_
          refine g_aload_n X dX11_term_56 rfl 1 rfl ?_
          obtain ⟨q32, hq32, h⟩ := Option.bind_eq_some_iff.mp h
          refine g_cV X (hrec2  hq32) lk_RX11_187 my_X11_atom (a := 565) (ci := 11) kd_565 (by decide) rfl (As := []) (rest := []) rfl rfl (Nat.le_of_ble_eq_true rfl) ⟨Nat.le_refl _, (by show 8 + (4 + 11) + 40 * (4 + nr) ≤ 40 * (4 + nr + 1); omega)⟩ ⟨(Nat.le_of_ble_eq_true rfl), (Nat.le_of_ble_eq_true rfl)⟩ dX11_term_57 (st' := [.int q32.1]) (σ' := q32.2) rfl rfl ?_
          refine g_i2l X dX11_term_60 (v := ((q32.1).toInt64)) rfl ?_
          refine g_lstore_n X dX11_term_61 rfl (by decide) (lv' := [(3, .long ((q32.1).toInt64)), (2, .int (1 : Int32)), (0, .ref (be θ + 565)), (1, .int z1)]) rfl ?_
          refine g_iload_n X dX11_term_62 rfl 1 rfl ?_
          refine g_if_eq (tgt := 73) X dX11_term_63 (by decide) (fun c33 => ?_) (fun c33 => ?_)
          · replace h := (if_pos c33).symm.trans h
            refine g_lload_n X dX11_term_73 rfl 0 rfl ?_
            refine g_lconst X dX11_term_74 (v := (0 : Int64)) rfl ?_
            refine g_lcmp X dX11_term_75 ?_
            refine g_if_ne (tgt := 83) X dX11_term_76 (by decide) (fun c34 => ?_) (fun c34 => ?_)
            · replace h := (if_neg c34).symm.trans h
              refine g_iload_n X dX11_term_83 rfl 3 rfl ?_
              refine g_i2l X dX11_term_84 (v := ((z1).toInt64)) rfl ?_
              refine g_lload_n X dX11_term_85 rfl 0 rfl ?_
              obtain ⟨g35, h⟩ := ite_none h
              refine g_ldiv X dX11_term_86 g35 ?_
              obtain ⟨q36, hq36, h⟩ := Option.bind_eq_some_iff.mp h
              refine g_cS X (c_Model_within  hq36) lk_RX11_190 my_X11_within (As := [.long (((z1).toInt64) / ((q32.1).toInt64))]) (rest := []) rfl rfl (Nat.le_of_ble_eq_true rfl) ⟨(by show 1 + 1 ≤ 4 + nr + 1; omega), (by show 8 + (2 + 11) + 40 * 1 ≤ 40 * (4 + nr + 1); omega)⟩ ⟨(Nat.le_of_ble_eq_true rfl), (Nat.le_of_ble_eq_true rfl)⟩ dX11_term_87 (st' := [.int q36]) (σ' := q32.2) rfl rfl ?_
              refine g_istore_n X dX11_term_90 rfl (by decide) (lv' := [(1, .int q36), (3, .long ((q32.1).toInt64)), (2, .int (1 : Int32)), (0, .ref (be θ + 565))]) rfl ?_
              refine g_goto (tgt := 5) X dX11_term_91 (by decide) ?_
              have hk := inl_hk h hk
              exact g_sub (lv' := [(0, .ref (be θ + 565)), (1, .int q36)]) [3, 0] rfl hk
            · replace h := (if_pos c34).symm.trans h
              refine g_lconst X dX11_term_79 (v := (0 : Int64)) rfl ?_
              refine g_goto (tgt := 87) X dX11_term_80 (by decide) ?_
              obtain ⟨q37, hq37, h⟩ := Option.bind_eq_some_iff.mp h
              refine g_cS X (c_Model_within  hq37) lk_RX11_190 my_X11_within (As := [.long (0 : Int64)]) (rest := []) rfl rfl (Nat.le_of_ble_eq_true rfl) ⟨(by show 1 + 1 ≤ 4 + nr + 1; omega), (by show 8 + (2 + 11) + 40 * 1 ≤ 40 * (4 + nr + 1); omega)⟩ ⟨(Nat.le_of_ble_eq_true rfl), (Nat.le_of_ble_eq_true rfl)⟩ dX11_term_87 (st' := [.int q37]) (σ' := q32.2) rfl rfl ?_
              refine g_istore_n X dX11_term_90 rfl (by decide) (lv' := [(1, .int q37), (3, .long ((q32.1).toInt64)), (2, .int (1 : Int32)), (0, .ref (be θ + 565))]) rfl ?_
              refine g_goto (tgt := 5) X dX11_term_91 (by decide) ?_
              have hk := inl_hk h hk
              exact g_sub (lv' := [(0, .ref (be θ + 565)), (1, .int q37)]) [3, 0] rfl hk
          · replace h := (if_neg c33).symm.trans h
            refine g_iload_n X dX11_term_66 rfl 3 rfl ?_
            refine g_i2l X dX11_term_67 (v := ((z1).toInt64)) rfl ?_
            refine g_lload_n X dX11_term_68 rfl 0 rfl ?_
            refine g_lmul X dX11_term_69 ?_
            refine g_goto (tgt := 87) X dX11_term_70 (by decide) ?_
            obtain ⟨q38, hq38, h⟩ := Option.bind_eq_some_iff.mp h
            refine g_cS X (c_Model_within  hq38) lk_RX11_190 my_X11_within (As := [.long (((z1).toInt64) * ((q32.1).toInt64))]) (rest := []) rfl rfl (Nat.le_of_ble_eq_true rfl) ⟨(by show 1 + 1 ≤ 4 + nr + 1; omega), (by show 8 + (2 + 11) + 40 * 1 ≤ 40 * (4 + nr + 1); omega)⟩ ⟨(Nat.le_of_ble_eq_true rfl), (Nat.le_of_ble_eq_true rfl)⟩ dX11_term_87 (st' := [.int q38]) (σ' := q32.2) rfl rfl ?_
            refine g_istore_n X dX11_term_90 rfl (by decide) (lv' := [(1, .int q38), (3, .long ((q32.1).toInt64)), (2, .int (1 : Int32)), (0, .ref (be θ + 565))]) rfl ?_
            refine g_goto (tgt := 5) X dX11_term_91 (by decide) ?_
            have hk := inl_hk h hk
            exact g_sub (lv' := [(0, .ref (be θ + 565)), (1, .int q38)]) [3, 0] rfl hk
set_option maxHeartbeats 4000000 in
set_option maxRecDepth 20000 in
theorem gl_Model_term_L5 (X : Cx θ p s m args c cX11_term 5 RX11) (hr : meth.sig.returnType = some .int) (hlk : meth.locks = false) {rc : Nat → Mem → Option (Int32 × Mem)} {nr : Nat} (hrec0 : ∀ {σ : Mem}  {r : Int32 × Mem}, rc 0 σ  = some r → Cn θ l yX11_sum cX11_sum 5 (some .int) (4 + nr) 0 0 [.ref (be θ + 565)] σ (some (.int r.1), r.2)) (hrec1 : ∀ {σ : Mem}  {r : Int32 × Mem}, rc 1 σ  = some r → Cn θ l yX11_term cX11_term 5 (some .int) (4 + nr) 0 0 [.ref (be θ + 565)] σ (some (.int r.1), r.2)) (hrec2 : ∀ {σ : Mem}  {r : Int32 × Mem}, rc 2 σ  = some r → Cn θ l yX11_atom cX11_atom 4 (some .int) (4 + nr) 0 0 [.ref (be θ + 565)] σ (some (.int r.1), r.2))   {r : Int32 × Mem}  (n : Nat) (a : Mem × Int32) (b : Int32 × Mem) (h : loopF (f_Model_term_L5 rc ) n a = some b) (hk : (fun b => b = r) b) : (fun a => @Prod.casesOn (Mem) (Int32) (fun _ => Prop) a fun τ z1 => GB θ p l e (4 + nr + 1) s m args below meth c 5 (some (.int r.1), r.2) 5 [(0, .ref (be θ + 565)), (1, .int z1)] [] τ) a :=
  loopF_by (P := (fun a => @Prod.casesOn (Mem) (Int32) (fun _ => Prop) a fun τ z1 => GB θ p l e (4 + nr + 1) s m args below meth c 5 (some (.int r.1), r.2) 5 [(0, .ref (be θ + 565)), (1, .int z1)] [] τ)) (K := (fun b => b = r)) (fun a x h hk => by obtain ⟨τ, z1⟩ := a; exact gs_Model_term_L5 X hr hlk hrec0 hrec1 hrec2  τ z1 x h hk) n a b h hk
set_option maxHeartbeats 4000000 in
set_option maxRecDepth 20000 in
theorem g_Model_term (X : Cx θ p s m args c cX11_term 5 RX11) (hr : meth.sig.returnType = some .int) (hlk : meth.locks = false) {rc : Nat → Mem → Option (Int32 × Mem)} {nr : Nat} (hrec0 : ∀ {σ : Mem}  {r : Int32 × Mem}, rc 0 σ  = some r → Cn θ l yX11_sum cX11_sum 5 (some .int) (4 + nr) 0 0 [.ref (be θ + 565)] σ (some (.int r.1), r.2)) (hrec1 : ∀ {σ : Mem}  {r : Int32 × Mem}, rc 1 σ  = some r → Cn θ l yX11_term cX11_term 5 (some .int) (4 + nr) 0 0 [.ref (be θ + 565)] σ (some (.int r.1), r.2)) (hrec2 : ∀ {σ : Mem}  {r : Int32 × Mem}, rc 2 σ  = some r → Cn θ l yX11_atom cX11_atom 4 (some .int) (4 + nr) 0 0 [.ref (be θ + 565)] σ (some (.int r.1), r.2))  {σ : Mem}  {r : Int32 × Mem}  (h : f_Model_term rc σ  = some r) : GB θ p l e (4 + nr + 1) s m args below meth c 5 (some (.int r.1), r.2) 0 [(0, .ref (be θ + 565))] [] σ := by
  unfold f_Model_term at h
  refine g_aload_n X dX11_term_0 rfl 0 rfl ?_
  obtain ⟨q1, hq1, h⟩ := Option.bind_eq_some_iff.mp h
  refine g_cV X (hrec2  hq1) lk_RX11_187 my_X11_atom (a := 565) (ci := 11) kd_565 (by decide) rfl (As := []) (rest := []) rfl rfl (Nat.le_of_ble_eq_true rfl) ⟨Nat.le_refl _, (by show 8 + (4 + 11) + 40 * (4 + nr) ≤ 40 * (4 + nr + 1); omega)⟩ ⟨(Nat.le_of_ble_eq_true rfl), (Nat.le_of_ble_eq_true rfl)⟩ dX11_term_1 (st' := [.int q1.1]) (σ' := q1.2) rfl rfl ?_
  refine g_istore_n X dX11_term_4 rfl (by decide) (lv' := [(1, .int q1.1), (0, .ref (be θ + 565))]) rfl ?_
  exact g_sub (lv' := [(0, .ref (be θ + 565)), (1, .int q1.1)]) [1, 0] rfl (gl_Model_term_L5 X hr hlk hrec0 hrec1 hrec2   FU _ _ h rfl)
def f_Model_atom_L90 (rc : Nat → Mem → Option (Int32 × Mem))  (a : Mem × Int32 × Int32) : Option ((Mem × Int32 × Int32) ⊕ (Int32 × Mem)) :=
  @Prod.casesOn (Mem) (Int32 × Int32) (fun _ => Option ((Mem × Int32 × Int32) ⊕ (Int32 × Mem))) a fun τ b0 =>
  @Prod.casesOn (Int32) (Int32) (fun _ => Option ((Mem × Int32 × Int32) ⊕ (Int32 × Mem))) b0 fun z2 z3 =>
  (f_Model_isDigit τ).bind fun q7 =>
  if q7 = (0 : Int32) then
    some (.inr (z2, τ))
  else
    if (mI τ 565 11) = (-1 : Int32) then
      if z3 = (4 : Int32) then
        (f_Model_fails τ).bind fun q13 =>
        some (.inr ((0 : Int32), q13.2))
      else
        if kd (mR τ 565 5) = 14 then
          if inb ((mI τ 565 8) + (mI τ 565 10)) (ln (mR τ 565 5)) then
            some (.inl ((sI τ 565 10 ((mI τ 565 10) + (1 : Int32))), ((((10 : Int32) * z2) + (mI τ (mR τ 565 5) ((mI τ 565 8) + (mI τ 565 10)).toNatClampNeg)) - (48 : Int32)), (z3 + (1 : Int32))))
          else none
        else none
    else
      some (.inr (z2, τ))
def f_Model_atom (rc : Nat → Mem → Option (Int32 × Mem)) (σ : Mem)  : Option (Int32 × Mem) :=
  (f_Model_look σ).bind fun q1 =>
  (f_Model_isAmong q1.2 1 q1.1).bind fun q2 =>
  if q2 = (0 : Int32) then
    if q1.1 = (91 : Int32) then
      (f_Model_goesIn q1.2).bind fun q15 =>
      if q15.1 = (0 : Int32) then
        some ((0 : Int32), q15.2)
      else
        (rc 0 q15.2).bind fun q17 =>
        (f_Model_takes q17.2 (93 : Int32)).bind fun q18 =>
        if q18.1 = (0 : Int32) then
          some ((0 : Int32), q18.2)
        else
          some (q17.1, (sI q18.2 565 12 ((mI q18.2 565 12) - (1 : Int32))))
    else
      (f_Model_isDigit q1.2).bind fun q5 =>
      if q5 = (0 : Int32) then
        (f_Model_fails q1.2).bind fun q14 =>
        loopF (f_Model_atom_L90 rc ) FU (q14.2, (0 : Int32), (0 : Int32))
      else
        loopF (f_Model_atom_L90 rc ) FU (q1.2, (0 : Int32), (0 : Int32))
  else
    if inb q1.1 128 then
      some ((mI (sI q1.2 565 10 ((mI q1.2 565 10) + (1 : Int32))) 569 q1.1.toNatClampNeg), (sI q1.2 565 10 ((mI q1.2 565 10) + (1 : Int32))))
    else none
set_option maxHeartbeats 4000000 in
set_option maxRecDepth 20000 in
theorem gs_Model_atom_L90 (X : Cx θ p s m args c cX11_atom 4 RX11) (hr : meth.sig.returnType = some .int) (hlk : meth.locks = false) {rc : Nat → Mem → Option (Int32 × Mem)} {nr : Nat} (hrec0 : ∀ {σ : Mem}  {r : Int32 × Mem}, rc 0 σ  = some r → Cn θ l yX11_sum cX11_sum 5 (some .int) (4 + nr) 0 0 [.ref (be θ + 565)] σ (some (.int r.1), r.2)) (hrec1 : ∀ {σ : Mem}  {r : Int32 × Mem}, rc 1 σ  = some r → Cn θ l yX11_term cX11_term 5 (some .int) (4 + nr) 0 0 [.ref (be θ + 565)] σ (some (.int r.1), r.2)) (hrec2 : ∀ {σ : Mem}  {r : Int32 × Mem}, rc 2 σ  = some r → Cn θ l yX11_atom cX11_atom 4 (some .int) (4 + nr) 0 0 [.ref (be θ + 565)] σ (some (.int r.1), r.2))   {r : Int32 × Mem}  (τ : Mem) (z2 : Int32) (z3 : Int32) (x : (Mem × Int32 × Int32) ⊕ (Int32 × Mem)) (h : f_Model_atom_L90 rc  (τ, z2, z3) = some x) (hk : Sum.elim (fun a => @Prod.casesOn (Mem) (Int32 × Int32) (fun _ => Prop) a fun τ b0 => @Prod.casesOn (Int32) (Int32) (fun _ => Prop) b0 fun z2 z3 => GB θ p l e (4 + nr + 1) s m args below meth c 4 (some (.int r.1), r.2) 90 [(0, .ref (be θ + 565)), (2, .int z2), (3, .int z3)] [] τ) (fun b => b = r) x) : GB θ p l e (4 + nr + 1) s m args below meth c 4 (some (.int r.1), r.2) 90 [(0, .ref (be θ + 565)), (2, .int z2), (3, .int z3)] [] τ := by
  unfold f_Model_atom_L90 at h
  dsimp only at h
  refine g_aload_n X dX11_atom_90 rfl 0 rfl ?_
  obtain ⟨q7, hq7, h⟩ := Option.bind_eq_some_iff.mp h
  refine g_cV X (c_Model_isDigit  hq7) lk_RX11_184 my_X11_isDigit (a := 565) (ci := 11) kd_565 (by decide) rfl (As := []) (rest := []) rfl rfl (Nat.le_of_ble_eq_true rfl) ⟨(by show 0 + 1 ≤ 4 + nr + 1; omega), (by show 8 + (1 + 11) + 40 * 0 ≤ 40 * (4 + nr + 1); omega)⟩ ⟨(Nat.le_of_ble_eq_true rfl), (Nat.le_of_ble_eq_true rfl)⟩ dX11_atom_91 (st' := [.int q7]) (σ' := τ) rfl rfl ?_
  refine g_if_eq (tgt := 156) X dX11_atom_94 (by decide) (fun c8 => ?_) (fun c8 => ?_)
  · replace h := (if_pos c8).symm.trans h
    refine g_iload_n X dX11_atom_156 rfl 1 rfl ?_
    have hk := inr_hk h hk
    have hk : (z2, τ) = r := hk
    subst hk
    exact g_iret X hr hlk dX11_atom_157 rfl
  · replace h := (if_neg c8).symm.trans h
    refine g_aload_n X dX11_atom_97 rfl 0 rfl ?_
    refine g_get X fl_RX11_144 dX11_atom_98 kd_565 (v := .int (mI τ 565 11)) rfl ?_
    refine g_iconst X dX11_atom_101 (v := (-1 : Int32)) ic_m1 ?_
    refine g_icmp_ne (tgt := 156) X dX11_atom_102 (by decide) (fun c9 => ?_) (fun c9 => ?_)
    · replace h := (if_neg c9).symm.trans h
      refine g_iload_n X dX11_atom_156 rfl 1 rfl ?_
      have hk := inr_hk h hk
      have hk : (z2, τ) = r := hk
      subst hk
      exact g_iret X hr hlk dX11_atom_157 rfl
    · replace h := (if_pos c9).symm.trans h
      refine g_iload_n X dX11_atom_105 rfl 2 rfl ?_
      refine g_iconst X dX11_atom_106 (v := (4 : Int32)) ic_4 ?_
      refine g_icmp_ne (tgt := 117) X dX11_atom_107 (by decide) (fun c10 => ?_) (fun c10 => ?_)
      · replace h := (if_neg c10).symm.trans h
        refine g_bipush X dX11_atom_117 (v := (10 : Int32)) bp_10 ?_
        refine g_iload_n X dX11_atom_119 rfl 1 rfl ?_
        refine g_imul X dX11_atom_120 ?_
        refine g_aload_n X dX11_atom_121 rfl 0 rfl ?_
        refine g_get X fl_RX11_23 dX11_atom_122 kd_565 (v := rv (be θ) (mR τ 565 5)) rfl ?_
        refine g_aload_n X dX11_atom_125 rfl 0 rfl ?_
        refine g_get X fl_RX11_141 dX11_atom_126 kd_565 (v := .int (mI τ 565 8)) rfl ?_
        refine g_aload_n X dX11_atom_129 rfl 0 rfl ?_
        refine g_get X fl_RX11_135 dX11_atom_130 kd_565 (v := .int (mI τ 565 10)) rfl ?_
        refine g_iadd X dX11_atom_133 ?_
        obtain ⟨g11, h⟩ := ite_some h
        rw [← rv_of (β := be θ) g11 (by decide)]
        obtain ⟨g12, h⟩ := ite_some h
        refine g_bald X g11 rfl (inb_in g12) dX11_atom_134 ?_
        refine g_iadd X dX11_atom_135 ?_
        refine g_bipush X dX11_atom_136 (v := (48 : Int32)) bp_48 ?_
        refine g_isub X dX11_atom_138 ?_
        refine g_istore_n X dX11_atom_139 rfl (by decide) (lv' := [(2, .int ((((10 : Int32) * z2) + (mI τ (mR τ 565 5) ((mI τ 565 8) + (mI τ 565 10)).toNatClampNeg)) - (48 : Int32))), (0, .ref (be θ + 565)), (3, .int z3)]) rfl ?_
        refine g_aload_n X dX11_atom_140 rfl 1 rfl ?_
        refine g_dup X dX11_atom_141 rfl ?_
        refine g_get X fl_RX11_135 dX11_atom_142 kd_565 (v := .int (mI τ 565 10)) rfl ?_
        refine g_iconst X dX11_atom_145 (v := (1 : Int32)) ic_1 ?_
        refine g_iadd X dX11_atom_146 ?_
        refine g_putI X fl_RX11_135 dX11_atom_147 kd_565 rfl rfl rfl ?_
        refine g_iinc X dX11_atom_150 (kq := 2) rfl (congrArg (HAdd.hAdd _) ic_1) (by decide) (lv' := [(3, .int (z3 + (1 : Int32))), (2, .int ((((10 : Int32) * z2) + (mI τ (mR τ 565 5) ((mI τ 565 8) + (mI τ 565 10)).toNatClampNeg)) - (48 : Int32))), (0, .ref (be θ + 565))]) rfl ?_
        refine g_goto (tgt := 90) X dX11_atom_153 (by decide) ?_
        have hk := inl_hk h hk
        exact g_sub (lv' := [(0, .ref (be θ + 565)), (2, .int ((((10 : Int32) * z2) + (mI τ (mR τ 565 5) ((mI τ 565 8) + (mI τ 565 10)).toNatClampNeg)) - (48 : Int32))), (3, .int (z3 + (1 : Int32)))]) [2, 1, 0] rfl hk
      · replace h := (if_pos c10).symm.trans h
        refine g_aload_n X dX11_atom_110 rfl 0 rfl ?_
        obtain ⟨q13, hq13, h⟩ := Option.bind_eq_some_iff.mp h
        refine g_cV X (c_Model_fails  hq13) lk_RX11_150 my_X11_fails (a := 565) (ci := 11) kd_565 (by decide) rfl (As := []) (rest := []) rfl rfl (Nat.le_of_ble_eq_true rfl) ⟨(by show 0 + 1 ≤ 4 + nr + 1; omega), (by show 8 + (1 + 11) + 40 * 0 ≤ 40 * (4 + nr + 1); omega)⟩ ⟨(Nat.le_of_ble_eq_true rfl), (Nat.le_of_ble_eq_true rfl)⟩ dX11_atom_111 (st' := [.int q13.1]) (σ' := q13.2) rfl rfl ?_
        refine g_pop X dX11_atom_114 rfl ?_
        refine g_iconst X dX11_atom_115 (v := (0 : Int32)) ic_0 ?_
        have hk := inr_hk h hk
        have hk : ((0 : Int32), q13.2) = r := hk
        subst hk
        exact g_iret X hr hlk dX11_atom_116 rfl
set_option maxHeartbeats 4000000 in
set_option maxRecDepth 20000 in
theorem gl_Model_atom_L90 (X : Cx θ p s m args c cX11_atom 4 RX11) (hr : meth.sig.returnType = some .int) (hlk : meth.locks = false) {rc : Nat → Mem → Option (Int32 × Mem)} {nr : Nat} (hrec0 : ∀ {σ : Mem}  {r : Int32 × Mem}, rc 0 σ  = some r → Cn θ l yX11_sum cX11_sum 5 (some .int) (4 + nr) 0 0 [.ref (be θ + 565)] σ (some (.int r.1), r.2)) (hrec1 : ∀ {σ : Mem}  {r : Int32 × Mem}, rc 1 σ  = some r → Cn θ l yX11_term cX11_term 5 (some .int) (4 + nr) 0 0 [.ref (be θ + 565)] σ (some (.int r.1), r.2)) (hrec2 : ∀ {σ : Mem}  {r : Int32 × Mem}, rc 2 σ  = some r → Cn θ l yX11_atom cX11_atom 4 (some .int) (4 + nr) 0 0 [.ref (be θ + 565)] σ (some (.int r.1), r.2))   {r : Int32 × Mem}  (n : Nat) (a : Mem × Int32 × Int32) (b : Int32 × Mem) (h : loopF (f_Model_atom_L90 rc ) n a = some b) (hk : (fun b => b = r) b) : (fun a => @Prod.casesOn (Mem) (Int32 × Int32) (fun _ => Prop) a fun τ b0 => @Prod.casesOn (Int32) (Int32) (fun _ => Prop) b0 fun z2 z3 => GB θ p l e (4 + nr + 1) s m args below meth c 4 (some (.int r.1), r.2) 90 [(0, .ref (be θ + 565)), (2, .int z2), (3, .int z3)] [] τ) a :=
  loopF_by (P := (fun a => @Prod.casesOn (Mem) (Int32 × Int32) (fun _ => Prop) a fun τ b0 => @Prod.casesOn (Int32) (Int32) (fun _ => Prop) b0 fun z2 z3 => GB θ p l e (4 + nr + 1) s m args below meth c 4 (some (.int r.1), r.2) 90 [(0, .ref (be θ + 565)), (2, .int z2), (3, .int z3)] [] τ)) (K := (fun b => b = r)) (fun a x h hk => by obtain ⟨τ, z2, z3⟩ := a; exact gs_Model_atom_L90 X hr hlk hrec0 hrec1 hrec2  τ z2 z3 x h hk) n a b h hk
set_option maxHeartbeats 4000000 in
set_option maxRecDepth 20000 in
theorem g_Model_atom (X : Cx θ p s m args c cX11_atom 4 RX11) (hr : meth.sig.returnType = some .int) (hlk : meth.locks = false) {rc : Nat → Mem → Option (Int32 × Mem)} {nr : Nat} (hrec0 : ∀ {σ : Mem}  {r : Int32 × Mem}, rc 0 σ  = some r → Cn θ l yX11_sum cX11_sum 5 (some .int) (4 + nr) 0 0 [.ref (be θ + 565)] σ (some (.int r.1), r.2)) (hrec1 : ∀ {σ : Mem}  {r : Int32 × Mem}, rc 1 σ  = some r → Cn θ l yX11_term cX11_term 5 (some .int) (4 + nr) 0 0 [.ref (be θ + 565)] σ (some (.int r.1), r.2)) (hrec2 : ∀ {σ : Mem}  {r : Int32 × Mem}, rc 2 σ  = some r → Cn θ l yX11_atom cX11_atom 4 (some .int) (4 + nr) 0 0 [.ref (be θ + 565)] σ (some (.int r.1), r.2))  {σ : Mem}  {r : Int32 × Mem}  (h : f_Model_atom rc σ  = some r) : GB θ p l e (4 + nr + 1) s m args below meth c 4 (some (.int r.1), r.2) 0 [(0, .ref (be θ + 565))] [] σ := by
  unfold f_Model_atom at h
  refine g_aload_n X dX11_atom_0 rfl 0 rfl ?_
  obtain ⟨q1, hq1, h⟩ := Option.bind_eq_some_iff.mp h
  refine g_cV X (c_Model_look  hq1) lk_RX11_154 my_X11_look (a := 565) (ci := 11) kd_565 (by decide) rfl (As := []) (rest := []) rfl rfl (Nat.le_of_ble_eq_true rfl) ⟨(by show 0 + 1 ≤ 4 + nr + 1; omega), (by show 8 + (1 + 11) + 40 * 0 ≤ 40 * (4 + nr + 1); omega)⟩ ⟨(Nat.le_of_ble_eq_true rfl), (Nat.le_of_ble_eq_true rfl)⟩ dX11_atom_1 (st' := [.int q1.1]) (σ' := q1.2) rfl rfl ?_
  refine g_istore_n X dX11_atom_4 rfl (by decide) (lv' := [(1, .int q1.1), (0, .ref (be θ + 565))]) rfl ?_
  refine g_ldcS X X.2.2.1.2.2.1.2.1 dX11_atom_5 ?_
  refine g_iload_n X dX11_atom_7 rfl 0 rfl ?_
  obtain ⟨q2, hq2, h⟩ := Option.bind_eq_some_iff.mp h
  refine g_cS X (c_Model_isAmong (by decide) hq2) lk_RX11_170 my_X11_isAmong (As := [.ref (sA θ 1), .int q1.1]) (rest := []) rfl rfl (Nat.le_of_ble_eq_true rfl) ⟨(by show 4 + 1 ≤ 4 + nr + 1; omega), (by show 8 + (3 + 11) + 40 * 4 ≤ 40 * (4 + nr + 1); omega)⟩ ⟨(Nat.le_of_ble_eq_true rfl), (Nat.le_of_ble_eq_true rfl)⟩ dX11_atom_8 (st' := [.int q2]) (σ' := q1.2) rfl rfl ?_
  refine g_if_eq (tgt := 31) X dX11_atom_11 (by decide) (fun c3 => ?_) (fun c3 => ?_)
  · replace h := (if_pos c3).symm.trans h
    refine g_iload_n X dX11_atom_31 rfl 0 rfl ?_
    refine g_bipush X dX11_atom_32 (v := (91 : Int32)) bp_91 ?_
    refine g_icmp_ne (tgt := 74) X dX11_atom_34 (by decide) (fun c4 => ?_) (fun c4 => ?_)
    · replace h := (if_neg c4).symm.trans h
      refine g_aload_n X dX11_atom_74 rfl 1 rfl ?_
      obtain ⟨q5, hq5, h⟩ := Option.bind_eq_some_iff.mp h
      refine g_cV X (c_Model_isDigit  hq5) lk_RX11_184 my_X11_isDigit (a := 565) (ci := 11) kd_565 (by decide) rfl (As := []) (rest := []) rfl rfl (Nat.le_of_ble_eq_true rfl) ⟨(by show 0 + 1 ≤ 4 + nr + 1; omega), (by show 8 + (1 + 11) + 40 * 0 ≤ 40 * (4 + nr + 1); omega)⟩ ⟨(Nat.le_of_ble_eq_true rfl), (Nat.le_of_ble_eq_true rfl)⟩ dX11_atom_75 (st' := [.int q5]) (σ' := q1.2) rfl rfl ?_
      refine g_if_ne (tgt := 86) X dX11_atom_78 (by decide) (fun c6 => ?_) (fun c6 => ?_)
      · replace h := (if_neg c6).symm.trans h
        refine g_iconst X dX11_atom_86 (v := (0 : Int32)) ic_0 ?_
        refine g_istore_n X dX11_atom_87 rfl (by decide) (lv' := [(2, .int (0 : Int32)), (1, .int q1.1), (0, .ref (be θ + 565))]) rfl ?_
        refine g_iconst X dX11_atom_88 (v := (0 : Int32)) ic_0 ?_
        refine g_istore_n X dX11_atom_89 rfl (by decide) (lv' := [(3, .int (0 : Int32)), (2, .int (0 : Int32)), (1, .int q1.1), (0, .ref (be θ + 565))]) rfl ?_
        exact g_sub (lv' := [(0, .ref (be θ + 565)), (2, .int (0 : Int32)), (3, .int (0 : Int32))]) [3, 1, 0] rfl (gl_Model_atom_L90 X hr hlk hrec0 hrec1 hrec2   FU _ _ h rfl)
      · replace h := (if_pos c6).symm.trans h
        refine g_aload_n X dX11_atom_81 rfl 1 rfl ?_
        obtain ⟨q14, hq14, h⟩ := Option.bind_eq_some_iff.mp h
        refine g_cV X (c_Model_fails  hq14) lk_RX11_150 my_X11_fails (a := 565) (ci := 11) kd_565 (by decide) rfl (As := []) (rest := []) rfl rfl (Nat.le_of_ble_eq_true rfl) ⟨(by show 0 + 1 ≤ 4 + nr + 1; omega), (by show 8 + (1 + 11) + 40 * 0 ≤ 40 * (4 + nr + 1); omega)⟩ ⟨(Nat.le_of_ble_eq_true rfl), (Nat.le_of_ble_eq_true rfl)⟩ dX11_atom_82 (st' := [.int q14.1]) (σ' := q14.2) rfl rfl ?_
        refine g_pop X dX11_atom_85 rfl ?_
        refine g_iconst X dX11_atom_86 (v := (0 : Int32)) ic_0 ?_
        refine g_istore_n X dX11_atom_87 rfl (by decide) (lv' := [(2, .int (0 : Int32)), (1, .int q1.1), (0, .ref (be θ + 565))]) rfl ?_
        refine g_iconst X dX11_atom_88 (v := (0 : Int32)) ic_0 ?_
        refine g_istore_n X dX11_atom_89 rfl (by decide) (lv' := [(3, .int (0 : Int32)), (2, .int (0 : Int32)), (1, .int q1.1), (0, .ref (be θ + 565))]) rfl ?_
        exact g_sub (lv' := [(0, .ref (be θ + 565)), (2, .int (0 : Int32)), (3, .int (0 : Int32))]) [3, 1, 0] rfl (gl_Model_atom_L90 X hr hlk hrec0 hrec1 hrec2   FU _ _ h rfl)
    · replace h := (if_pos c4).symm.trans h
      refine g_aload_n X dX11_atom_37 rfl 1 rfl ?_
      obtain ⟨q15, hq15, h⟩ := Option.bind_eq_some_iff.mp h
      refine g_cV X (c_Model_goesIn  hq15) lk_RX11_174 my_X11_goesIn (a := 565) (ci := 11) kd_565 (by decide) rfl (As := []) (rest := []) rfl rfl (Nat.le_of_ble_eq_true rfl) ⟨(by show 1 + 1 ≤ 4 + nr + 1; omega), (by show 8 + (1 + 11) + 40 * 1 ≤ 40 * (4 + nr + 1); omega)⟩ ⟨(Nat.le_of_ble_eq_true rfl), (Nat.le_of_ble_eq_true rfl)⟩ dX11_atom_38 (st' := [.int q15.1]) (σ' := q15.2) rfl rfl ?_
      refine g_if_ne (tgt := 46) X dX11_atom_41 (by decide) (fun c16 => ?_) (fun c16 => ?_)
      · replace h := (if_neg c16).symm.trans h
        refine g_aload_n X dX11_atom_46 rfl 1 rfl ?_
        obtain ⟨q17, hq17, h⟩ := Option.bind_eq_some_iff.mp h
        refine g_cV X (hrec0  hq17) lk_RX11_177 my_X11_sum (a := 565) (ci := 11) kd_565 (by decide) rfl (As := []) (rest := []) rfl rfl (Nat.le_of_ble_eq_true rfl) ⟨Nat.le_refl _, (by show 8 + (5 + 11) + 40 * (4 + nr) ≤ 40 * (4 + nr + 1); omega)⟩ ⟨(Nat.le_of_ble_eq_true rfl), (Nat.le_of_ble_eq_true rfl)⟩ dX11_atom_47 (st' := [.int q17.1]) (σ' := q17.2) rfl rfl ?_
        refine g_istore_n X dX11_atom_50 rfl (by decide) (lv' := [(2, .int q17.1), (1, .int q1.1), (0, .ref (be θ + 565))]) rfl ?_
        refine g_aload_n X dX11_atom_51 rfl 2 rfl ?_
        refine g_bipush X dX11_atom_52 (v := (93 : Int32)) bp_93 ?_
        obtain ⟨q18, hq18, h⟩ := Option.bind_eq_some_iff.mp h
        refine g_cV X (c_Model_takes  hq18) lk_RX11_180 my_X11_takes (a := 565) (ci := 11) kd_565 (by decide) rfl (As := [.int (93 : Int32)]) (rest := []) rfl rfl (Nat.le_of_ble_eq_true rfl) ⟨(by show 1 + 1 ≤ 4 + nr + 1; omega), (by show 8 + (2 + 11) + 40 * 1 ≤ 40 * (4 + nr + 1); omega)⟩ ⟨(Nat.le_of_ble_eq_true rfl), (Nat.le_of_ble_eq_true rfl)⟩ dX11_atom_54 (st' := [.int q18.1]) (σ' := q18.2) rfl rfl ?_
        refine g_if_ne (tgt := 62) X dX11_atom_57 (by decide) (fun c19 => ?_) (fun c19 => ?_)
        · replace h := (if_neg c19).symm.trans h
          refine g_aload_n X dX11_atom_62 rfl 2 rfl ?_
          refine g_dup X dX11_atom_63 rfl ?_
          refine g_get X fl_RX11_147 dX11_atom_64 kd_565 (v := .int (mI q18.2 565 12)) rfl ?_
          refine g_iconst X dX11_atom_67 (v := (1 : Int32)) ic_1 ?_
          refine g_isub X dX11_atom_68 ?_
          refine g_putI X fl_RX11_147 dX11_atom_69 kd_565 rfl rfl rfl ?_
          refine g_iload_n X dX11_atom_72 rfl 0 rfl ?_
          exact g_iret X hr hlk dX11_atom_73 (by cases h; rfl)
        · replace h := (if_pos c19).symm.trans h
          refine g_iconst X dX11_atom_60 (v := (0 : Int32)) ic_0 ?_
          exact g_iret X hr hlk dX11_atom_61 (by cases h; rfl)
      · replace h := (if_pos c16).symm.trans h
        refine g_iconst X dX11_atom_44 (v := (0 : Int32)) ic_0 ?_
        exact g_iret X hr hlk dX11_atom_45 (by cases h; rfl)
  · replace h := (if_neg c3).symm.trans h
    refine g_aload_n X dX11_atom_14 rfl 1 rfl ?_
    refine g_dup X dX11_atom_15 rfl ?_
    refine g_get X fl_RX11_135 dX11_atom_16 kd_565 (v := .int (mI q1.2 565 10)) rfl ?_
    refine g_iconst X dX11_atom_19 (v := (1 : Int32)) ic_1 ?_
    refine g_iadd X dX11_atom_20 ?_
    refine g_putI X fl_RX11_135 dX11_atom_21 kd_565 rfl rfl rfl ?_
    refine g_aload_n X dX11_atom_24 rfl 1 rfl ?_
    refine g_get X fl_RX11_20 dX11_atom_25 kd_565 (v := .ref (be θ + 569)) rfl ?_
    refine g_iload_n X dX11_atom_28 rfl 0 rfl ?_
    obtain ⟨g20, h⟩ := ite_some h
    refine g_iald X kd_569 ln_569 (inb_in g20) dX11_atom_29 ?_
    exact g_iret X hr hlk dX11_atom_30 (by cases h; rfl)
def f_MS : Nat → Nat → Mem → Option (Int32 × Mem)
  | 0 => fun _ _ => none
  | n + 1 => fun no σ  => if no = 0 then f_Model_sum (f_MS n) σ  else if no = 1 then f_Model_term (f_MS n) σ  else f_Model_atom (f_MS n) σ 
set_option maxHeartbeats 4000000 in
set_option maxRecDepth 100000 in
theorem a_MS {θ : Th} {l : Launch} : ∀ n : Nat, (∀ {σ : Mem}  {r : Int32 × Mem}, f_MS n 0 σ  = some r → Cn θ l yX11_sum cX11_sum 5 (some .int) (4 + n) 0 0 [.ref (be θ + 565)] σ (some (.int r.1), r.2)) ∧ (∀ {σ : Mem}  {r : Int32 × Mem}, f_MS n 1 σ  = some r → Cn θ l yX11_term cX11_term 5 (some .int) (4 + n) 0 0 [.ref (be θ + 565)] σ (some (.int r.1), r.2)) ∧ (∀ {σ : Mem}  {r : Int32 × Mem}, f_MS n 2 σ  = some r → Cn θ l yX11_atom cX11_atom 4 (some .int) (4 + n) 0 0 [.ref (be θ + 565)] σ (some (.int r.1), r.2)) := by
  intro n
  induction n with
  | zero =>
    refine ⟨?_, ?_, ?_⟩
    · intro σ  r  h
      cases h
    · intro σ  r  h
      cases h
    · intro σ  r  h
      cases h
  | succ n ih =>
    obtain ⟨i0, i1, i2⟩ := ih
    refine ⟨?_, ?_, ?_⟩
    · intro σ  r  h
      exact Cn.of (by decide) (Nat.le_of_ble_eq_true rfl) (fun p e s m below meth c X hr hlk => g_Model_sum (nr := n) (rc := f_MS n) X hr hlk i0 i1 i2  h)
    · intro σ  r  h
      exact Cn.of (by decide) (Nat.le_of_ble_eq_true rfl) (fun p e s m below meth c X hr hlk => g_Model_term (nr := n) (rc := f_MS n) X hr hlk i0 i1 i2  h)
    · intro σ  r  h
      exact Cn.of (by decide) (Nat.le_of_ble_eq_true rfl) (fun p e s m below meth c X hr hlk => g_Model_atom (nr := n) (rc := f_MS n) X hr hlk i0 i1 i2  h)
set_option maxRecDepth 100000 in
theorem c_MS_0 {θ : Th} {l : Launch} : ∀ {σ : Mem}  {r : Int32 × Mem}, f_MS 24 0 σ  = some r → Cn θ l yX11_sum cX11_sum 5 (some .int) 28 0 0 [.ref (be θ + 565)] σ (some (.int r.1), r.2) := (a_MS 24).1
set_option maxRecDepth 100000 in
theorem c_MS_1 {θ : Th} {l : Launch} : ∀ {σ : Mem}  {r : Int32 × Mem}, f_MS 24 1 σ  = some r → Cn θ l yX11_term cX11_term 5 (some .int) 28 0 0 [.ref (be θ + 565)] σ (some (.int r.1), r.2) := (a_MS 24).2.1
set_option maxRecDepth 100000 in
theorem c_MS_2 {θ : Th} {l : Launch} : ∀ {σ : Mem}  {r : Int32 × Mem}, f_MS 24 2 σ  = some r → Cn θ l yX11_atom cX11_atom 4 (some .int) 28 0 0 [.ref (be θ + 565)] σ (some (.int r.1), r.2) := (a_MS 24).2.2
end Z13
