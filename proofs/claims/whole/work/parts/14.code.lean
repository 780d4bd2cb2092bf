section Z14
variable {θ : Th} {p : Program} {l : Launch} {e : Env} {s : State} {m : MethodId} {args : Array Value} {below : List Frame} {meth : Method} {c : Code}
theorem dX11_isSign_0 : decode cX11_isSign 0 = .ok (.iload_n 0, 1) := by decide +kernel
theorem dX11_isSign_1 : decode cX11_isSign 1 = .ok (.bipush 61, 2) := by decide +kernel
theorem dX11_isSign_3 : decode cX11_isSign 3 = .ok (.if_icmp .eq 15, 3) := by decide +kernel
theorem dX11_isSign_6 : decode cX11_isSign 6 = .ok (.iload_n 0, 1) := by decide +kernel
theorem dX11_isSign_7 : decode cX11_isSign 7 = .ok (.bipush 60, 2) := by decide +kernel
theorem dX11_isSign_9 : decode cX11_isSign 9 = .ok (.if_icmp .eq 9, 3) := by decide +kernel
theorem dX11_isSign_12 : decode cX11_isSign 12 = .ok (.iload_n 0, 1) := by decide +kernel
theorem dX11_isSign_13 : decode cX11_isSign 13 = .ok (.bipush 62, 2) := by decide +kernel
theorem dX11_isSign_15 : decode cX11_isSign 15 = .ok (.if_icmp .ne 7, 3) := by decide +kernel
theorem dX11_isSign_18 : decode cX11_isSign 18 = .ok (.iconst 1, 1) := by decide +kernel
theorem dX11_isSign_19 : decode cX11_isSign 19 = .ok (.goto 4, 3) := by decide +kernel
theorem dX11_isSign_22 : decode cX11_isSign 22 = .ok (.iconst 0, 1) := by decide +kernel
theorem dX11_isSign_23 : decode cX11_isSign 23 = .ok (.ireturn, 1) := by decide +kernel
def f_Model_isSign (σ : Mem) (x0 : Int32) : Option (Int32) :=
  if x0 = (61 : Int32) then
    some (1 : Int32)
  else
    if x0 = (60 : Int32) then
      some (1 : Int32)
    else
      if x0 = (62 : Int32) then
        some (1 : Int32)
      else
        some (0 : Int32)
set_option maxHeartbeats 4000000 in
set_option maxRecDepth 20000 in
theorem g_Model_isSign (X : Cx θ p s m args c cX11_isSign 1 RX11) (hr : meth.sig.returnType = some .boolean) (hlk : meth.locks = false)  {σ : Mem} {x0 : Int32} {r : Int32}  (h : f_Model_isSign σ x0 = some r) : GB θ p l e 0 s m args below meth c 1 (some (.int r), σ) 0 [(0, .int x0)] [] σ := by
  unfold f_Model_isSign at h
  refine g_iload_n X dX11_isSign_0 rfl 0 rfl ?_
  refine g_bipush X dX11_isSign_1 (v := (61 : Int32)) bp_61 ?_
  refine g_icmp_eq (tgt := 18) X dX11_isSign_3 (by decide) (fun c1 => ?_) (fun c1 => ?_)
  · replace h := (if_pos c1).symm.trans h
    refine g_iconst X dX11_isSign_18 (v := (1 : Int32)) ic_1 ?_
    refine g_goto (tgt := 23) X dX11_isSign_19 (by decide) ?_
    exact g_zret X hr hlk bz1 dX11_isSign_23 (by cases h; rfl)
  · replace h := (if_neg c1).symm.trans h
    refine g_iload_n X dX11_isSign_6 rfl 0 rfl ?_
    refine g_bipush X dX11_isSign_7 (v := (60 : Int32)) bp_60 ?_
    refine g_icmp_eq (tgt := 18) X dX11_isSign_9 (by decide) (fun c2 => ?_) (fun c2 => ?_)
    · replace h := (if_pos c2).symm.trans h
      refine g_iconst X dX11_isSign_18 (v := (1 : Int32)) ic_1 ?_
      refine g_goto (tgt := 23) X dX11_isSign_19 (by decide) ?_
      exact g_zret X hr hlk bz1 dX11_isSign_23 (by cases h; rfl)
    · replace h := (if_neg c2).symm.trans h
      refine g_iload_n X dX11_isSign_12 rfl 0 rfl ?_
      refine g_bipush X dX11_isSign_13 (v := (62 : Int32)) bp_62 ?_
      refine g_icmp_ne (tgt := 22) X dX11_isSign_15 (by decide) (fun c3 => ?_) (fun c3 => ?_)
      · replace h := (if_neg c3).symm.trans h
        refine g_iconst X dX11_isSign_22 (v := (0 : Int32)) ic_0 ?_
        exact g_zret X hr hlk bz0 dX11_isSign_23 (by cases h; rfl)
      · replace h := (if_pos c3).symm.trans h
        refine g_iconst X dX11_isSign_18 (v := (1 : Int32)) ic_1 ?_
        refine g_goto (tgt := 23) X dX11_isSign_19 (by decide) ?_
        exact g_zret X hr hlk bz1 dX11_isSign_23 (by cases h; rfl)
set_option maxHeartbeats 4000000 in
set_option maxRecDepth 20000 in
theorem c_Model_isSign {θ : Th} {l : Launch} {σ : Mem} {x0 : Int32} {r : Int32}  (h : f_Model_isSign σ x0 = some r) : Cn θ l yX11_isSign cX11_isSign 1 (some .boolean) 0 0 0 [.int x0] σ (some (.int r), σ) :=
  Cn.of (by decide) (Nat.le_of_ble_eq_true rfl) (fun p e s m below meth c X hr hlk => g_Model_isSign X hr hlk  h)
theorem dX11_compares_0 : decode cX11_compares 0 = .ok (.iload_n 1, 1) := by decide +kernel
theorem dX11_compares_1 : decode cX11_compares 1 = .ok (.ifCond .eq 7, 3) := by decide +kernel
theorem dX11_compares_4 : decode cX11_compares 4 = .ok (.iload_n 2, 1) := by decide +kernel
theorem dX11_compares_5 : decode cX11_compares 5 = .ok (.goto 7, 3) := by decide +kernel
theorem dX11_compares_8 : decode cX11_compares 8 = .ok (.aload_n 0, 1) := by decide +kernel
theorem dX11_compares_9 : decode cX11_compares 9 = .ok (.invokevirtual 177, 3) := by decide +kernel
theorem dX11_compares_12 : decode cX11_compares 12 = .ok (.istore_n 3, 1) := by decide +kernel
theorem dX11_compares_13 : decode cX11_compares 13 = .ok (.aload_n 0, 1) := by decide +kernel
theorem dX11_compares_14 : decode cX11_compares 14 = .ok (.getfield 144, 3) := by decide +kernel
theorem dX11_compares_17 : decode cX11_compares 17 = .ok (.iconst (-1), 1) := by decide +kernel
theorem dX11_compares_18 : decode cX11_compares 18 = .ok (.if_icmp .eq 5, 3) := by decide +kernel
theorem dX11_compares_21 : decode cX11_compares 21 = .ok (.iconst 0, 1) := by decide +kernel
theorem dX11_compares_22 : decode cX11_compares 22 = .ok (.ireturn, 1) := by decide +kernel
theorem dX11_compares_23 : decode cX11_compares 23 = .ok (.aload_n 0, 1) := by decide +kernel
theorem dX11_compares_24 : decode cX11_compares 24 = .ok (.invokevirtual 154, 3) := by decide +kernel
theorem dX11_compares_27 : decode cX11_compares 27 = .ok (.istore 4, 2) := by decide +kernel
theorem dX11_compares_29 : decode cX11_compares 29 = .ok (.iload 4, 2) := by decide +kernel
theorem dX11_compares_31 : decode cX11_compares 31 = .ok (.invokestatic 197, 3) := by decide +kernel
theorem dX11_compares_34 : decode cX11_compares 34 = .ok (.ifCond .ne 8, 3) := by decide +kernel
theorem dX11_compares_37 : decode cX11_compares 37 = .ok (.aload_n 0, 1) := by decide +kernel
theorem dX11_compares_38 : decode cX11_compares 38 = .ok (.invokevirtual 150, 3) := by decide +kernel
theorem dX11_compares_41 : decode cX11_compares 41 = .ok (.ireturn, 1) := by decide +kernel
theorem dX11_compares_42 : decode cX11_compares 42 = .ok (.aload_n 0, 1) := by decide +kernel
theorem dX11_compares_43 : decode cX11_compares 43 = .ok (.dup, 1) := by decide +kernel
theorem dX11_compares_44 : decode cX11_compares 44 = .ok (.getfield 135, 3) := by decide +kernel
theorem dX11_compares_47 : decode cX11_compares 47 = .ok (.iconst 1, 1) := by decide +kernel
theorem dX11_compares_48 : decode cX11_compares 48 = .ok (.iadd, 1) := by decide +kernel
theorem dX11_compares_49 : decode cX11_compares 49 = .ok (.putfield 135, 3) := by decide +kernel
theorem dX11_compares_52 : decode cX11_compares 52 = .ok (.aload_n 0, 1) := by decide +kernel
theorem dX11_compares_53 : decode cX11_compares 53 = .ok (.invokevirtual 177, 3) := by decide +kernel
theorem dX11_compares_56 : decode cX11_compares 56 = .ok (.istore 5, 2) := by decide +kernel
theorem dX11_compares_58 : decode cX11_compares 58 = .ok (.iload 4, 2) := by decide +kernel
theorem dX11_compares_60 : decode cX11_compares 60 = .ok (.bipush 61, 2) := by decide +kernel
theorem dX11_compares_62 : decode cX11_compares 62 = .ok (.if_icmp .ne 17, 3) := by decide +kernel
theorem dX11_compares_65 : decode cX11_compares 65 = .ok (.iload_n 3, 1) := by decide +kernel
theorem dX11_compares_66 : decode cX11_compares 66 = .ok (.iload 5, 2) := by decide +kernel
theorem dX11_compares_68 : decode cX11_compares 68 = .ok (.if_icmp .ne 7, 3) := by decide +kernel
theorem dX11_compares_71 : decode cX11_compares 71 = .ok (.iconst 1, 1) := by decide +kernel
theorem dX11_compares_72 : decode cX11_compares 72 = .ok (.goto 39, 3) := by decide +kernel
theorem dX11_compares_75 : decode cX11_compares 75 = .ok (.iconst 0, 1) := by decide +kernel
theorem dX11_compares_76 : decode cX11_compares 76 = .ok (.goto 35, 3) := by decide +kernel
theorem dX11_compares_79 : decode cX11_compares 79 = .ok (.iload 4, 2) := by decide +kernel
theorem dX11_compares_81 : decode cX11_compares 81 = .ok (.bipush 60, 2) := by decide +kernel
theorem dX11_compares_83 : decode cX11_compares 83 = .ok (.if_icmp .ne 17, 3) := by decide +kernel
theorem dX11_compares_86 : decode cX11_compares 86 = .ok (.iload_n 3, 1) := by decide +kernel
theorem dX11_compares_87 : decode cX11_compares 87 = .ok (.iload 5, 2) := by decide +kernel
theorem dX11_compares_89 : decode cX11_compares 89 = .ok (.if_icmp .ge 7, 3) := by decide +kernel
theorem dX11_compares_92 : decode cX11_compares 92 = .ok (.iconst 1, 1) := by decide +kernel
theorem dX11_compares_93 : decode cX11_compares 93 = .ok (.goto 18, 3) := by decide +kernel
theorem dX11_compares_96 : decode cX11_compares 96 = .ok (.iconst 0, 1) := by decide +kernel
theorem dX11_compares_97 : decode cX11_compares 97 = .ok (.goto 14, 3) := by decide +kernel
theorem dX11_compares_100 : decode cX11_compares 100 = .ok (.iload_n 3, 1) := by decide +kernel
theorem dX11_compares_101 : decode cX11_compares 101 = .ok (.iload 5, 2) := by decide +kernel
theorem dX11_compares_103 : decode cX11_compares 103 = .ok (.if_icmp .le 7, 3) := by decide +kernel
theorem dX11_compares_106 : decode cX11_compares 106 = .ok (.iconst 1, 1) := by decide +kernel
theorem dX11_compares_107 : decode cX11_compares 107 = .ok (.goto 4, 3) := by decide +kernel
theorem dX11_compares_110 : decode cX11_compares 110 = .ok (.iconst 0, 1) := by decide +kernel
theorem dX11_compares_111 : decode cX11_compares 111 = .ok (.ireturn, 1) := by decide +kernel
def f_Model_compares (σ : Mem) (x1 : Int32) (x2 : Int32) : Option (Int32 × Mem) :=
  if x1 = (0 : Int32) then
    (f_MS 24 0 σ).bind fun q2 =>
    if (mI q2.2 565 11) = (-1 : Int32) then
      (f_Model_look q2.2).bind fun q4 =>
      (f_Model_isSign q4.2 q4.1).bind fun q5 =>
      if q5 = (0 : Int32) then
        (f_Model_fails q4.2).bind fun q13 =>
        if bzb q13.1 then
          some (q13.1, q13.2)
        else none
      else
        (f_MS 24 0 (sI q4.2 565 10 ((mI q4.2 565 10) + (1 : Int32)))).bind fun q7 =>
        if q4.1 = (61 : Int32) then
          if q2.1 = q7.1 then
            some ((1 : Int32), q7.2)
          else
            some ((0 : Int32), q7.2)
        else
          if q4.1 = (60 : Int32) then
            if q7.1 ≤ q2.1 then
              some ((0 : Int32), q7.2)
            else
              some ((1 : Int32), q7.2)
          else
            if q2.1 ≤ q7.1 then
              some ((0 : Int32), q7.2)
            else
              some ((1 : Int32), q7.2)
    else
      some ((0 : Int32), q2.2)
  else
    if (mI σ 565 11) = (-1 : Int32) then
      (f_Model_look σ).bind fun q16 =>
      (f_Model_isSign q16.2 q16.1).bind fun q17 =>
      if q17 = (0 : Int32) then
        (f_Model_fails q16.2).bind fun q25 =>
        if bzb q25.1 then
          some (q25.1, q25.2)
        else none
      else
        (f_MS 24 0 (sI q16.2 565 10 ((mI q16.2 565 10) + (1 : Int32)))).bind fun q19 =>
        if q16.1 = (61 : Int32) then
          if x2 = q19.1 then
            some ((1 : Int32), q19.2)
          else
            some ((0 : Int32), q19.2)
        else
          if q16.1 = (60 : Int32) then
            if q19.1 ≤ x2 then
              some ((0 : Int32), q19.2)
            else
              some ((1 : Int32), q19.2)
          else
            if x2 ≤ q19.1 then
              some ((0 : Int32), q19.2)
            else
              some ((1 : Int32), q19.2)
    else
      some ((0 : Int32), σ)
set_option maxHeartbeats 4000000 in
set_option maxRecDepth 20000 in
theorem g_Model_compares (X : Cx θ p s m args c cX11_compares 6 RX11) (hr : meth.sig.returnType = some .boolean) (hlk : meth.locks = false)  {σ : Mem} {x1 : Int32} {x2 : Int32} {r : Int32 × Mem}  (h : f_Model_compares σ x1 x2 = some r) : GB θ p l e 29 s m args below meth c 6 (some (.int r.1), r.2) 0 [(0, .ref (be θ + 565)), (1, .int x1), (2, .int x2)] [] σ := by
  unfold f_Model_compares at h
  refine g_iload_n X dX11_compares_0 rfl 1 rfl ?_
  refine g_if_eq (tgt := 8) X dX11_compares_1 (by decide) (fun c1 => ?_) (fun c1 => ?_)
  · replace h := (if_pos c1).symm.trans h
    refine g_aload_n X dX11_compares_8 rfl 0 rfl ?_
    obtain ⟨q2, hq2, h⟩ := Option.bind_eq_some_iff.mp h
    refine g_cV X (c_MS_0  hq2) lk_RX11_177 my_X11_sum (a := 565) (ci := 11) kd_565 (by decide) rfl (As := []) (rest := []) rfl rfl (Nat.le_of_ble_eq_true rfl) ⟨(Nat.le_of_ble_eq_true rfl), (Nat.le_of_ble_eq_true rfl)⟩ ⟨(Nat.le_of_ble_eq_true rfl), (Nat.le_of_ble_eq_true rfl)⟩ dX11_compares_9 (st' := [.int q2.1]) (σ' := q2.2) rfl rfl ?_
    refine g_istore_n X dX11_compares_12 rfl (by decide) (lv' := [(3, .int q2.1), (0, .ref (be θ + 565)), (1, .int x1), (2, .int x2)]) rfl ?_
    refine g_aload_n X dX11_compares_13 rfl 1 rfl ?_
    refine g_get X fl_RX11_144 dX11_compares_14 kd_565 (v := .int (mI q2.2 565 11)) rfl ?_
    refine g_iconst X dX11_compares_17 (v := (-1 : Int32)) ic_m1 ?_
    refine g_icmp_eq (tgt := 23) X dX11_compares_18 (by decide) (fun c3 => ?_) (fun c3 => ?_)
    · replace h := (if_pos c3).symm.trans h
      refine g_aload_n X dX11_compares_23 rfl 1 rfl ?_
      obtain ⟨q4, hq4, h⟩ := Option.bind_eq_some_iff.mp h
      refine g_cV X (c_Model_look  hq4) lk_RX11_154 my_X11_look (a := 565) (ci := 11) kd_565 (by decide) rfl (As := []) (rest := []) rfl rfl (Nat.le_of_ble_eq_true rfl) ⟨(Nat.le_of_ble_eq_true rfl), (Nat.le_of_ble_eq_true rfl)⟩ ⟨(Nat.le_of_ble_eq_true rfl), (Nat.le_of_ble_eq_true rfl)⟩ dX11_compares_24 (st' := [.int q4.1]) (σ' := q4.2) rfl rfl ?_
      refine g_istore X dX11_compares_27 (by decide) (lv' := [(4, .int q4.1), (3, .int q2.1), (0, .ref (be θ + 565)), (1, .int x1), (2, .int x2)]) rfl ?_
      refine g_iload X dX11_compares_29 0 rfl ?_
      obtain ⟨q5, hq5, h⟩ := Option.bind_eq_some_iff.mp h
      refine g_cS X (c_Model_isSign  hq5) lk_RX11_197 my_X11_isSign (As := [.int q4.1]) (rest := []) rfl rfl (Nat.le_of_ble_eq_true rfl) ⟨(Nat.le_of_ble_eq_true rfl), (Nat.le_of_ble_eq_true rfl)⟩ ⟨(Nat.le_of_ble_eq_true rfl), (Nat.le_of_ble_eq_true rfl)⟩ dX11_compares_31 (st' := [.int q5]) (σ' := q4.2) rfl rfl ?_
      refine g_if_ne (tgt := 42) X dX11_compares_34 (by decide) (fun c6 => ?_) (fun c6 => ?_)
      · replace h := (if_neg c6).symm.trans h
        refine g_aload_n X dX11_compares_42 rfl 2 rfl ?_
        refine g_dup X dX11_compares_43 rfl ?_
        refine g_get X fl_RX11_135 dX11_compares_44 kd_565 (v := .int (mI q4.2 565 10)) rfl ?_
        refine g_iconst X dX11_compares_47 (v := (1 : Int32)) ic_1 ?_
        refine g_iadd X dX11_compares_48 ?_
        refine g_putI X fl_RX11_135 dX11_compares_49 kd_565 rfl rfl rfl ?_
        refine g_aload_n X dX11_compares_52 rfl 2 rfl ?_
        obtain ⟨q7, hq7, h⟩ := Option.bind_eq_some_iff.mp h
        refine g_cV X (c_MS_0  hq7) lk_RX11_177 my_X11_sum (a := 565) (ci := 11) kd_565 (by decide) rfl (As := []) (rest := []) rfl rfl (Nat.le_of_ble_eq_true rfl) ⟨(Nat.le_of_ble_eq_true rfl), (Nat.le_of_ble_eq_true rfl)⟩ ⟨(Nat.le_of_ble_eq_true rfl), (Nat.le_of_ble_eq_true rfl)⟩ dX11_compares_53 (st' := [.int q7.1]) (σ' := q7.2) rfl rfl ?_
        refine g_istore X dX11_compares_56 (by decide) (lv' := [(5, .int q7.1), (4, .int q4.1), (3, .int q2.1), (0, .ref (be θ + 565)), (1, .int x1), (2, .int x2)]) rfl ?_
        refine g_iload X dX11_compares_58 1 rfl ?_
        refine g_bipush X dX11_compares_60 (v := (61 : Int32)) bp_61 ?_
        refine g_icmp_ne (tgt := 79) X dX11_compares_62 (by decide) (fun c8 => ?_) (fun c8 => ?_)
        · replace h := (if_neg c8).symm.trans h
          refine g_iload X dX11_compares_79 1 rfl ?_
          refine g_bipush X dX11_compares_81 (v := (60 : Int32)) bp_60 ?_
          refine g_icmp_ne (tgt := 100) X dX11_compares_83 (by decide) (fun c9 => ?_) (fun c9 => ?_)
          · replace h := (if_neg c9).symm.trans h
            refine g_iload_n X dX11_compares_100 rfl 2 rfl ?_
            refine g_iload X dX11_compares_101 0 rfl ?_
            refine g_icmp_le (tgt := 110) X dX11_compares_103 (by decide) (fun c10 => ?_) (fun c10 => ?_)
            · replace h := (if_pos c10).symm.trans h
              refine g_iconst X dX11_compares_110 (v := (0 : Int32)) ic_0 ?_
              exact g_zret X hr hlk bz0 dX11_compares_111 (by cases h; rfl)
            · replace h := (if_neg c10).symm.trans h
              refine g_iconst X dX11_compares_106 (v := (1 : Int32)) ic_1 ?_
              refine g_goto (tgt := 111) X dX11_compares_107 (by decide) ?_
              exact g_zret X hr hlk bz1 dX11_compares_111 (by cases h; rfl)
          · replace h := (if_pos c9).symm.trans h
            refine g_iload_n X dX11_compares_86 rfl 2 rfl ?_
            refine g_iload X dX11_compares_87 0 rfl ?_
            refine g_icmp_ge (tgt := 96) X dX11_compares_89 (by decide) (fun c11 => ?_) (fun c11 => ?_)
            · replace h := (if_pos c11).symm.trans h
              refine g_iconst X dX11_compares_96 (v := (0 : Int32)) ic_0 ?_
              refine g_goto (tgt := 111) X dX11_compares_97 (by decide) ?_
              exact g_zret X hr hlk bz0 dX11_compares_111 (by cases h; rfl)
            · replace h := (if_neg c11).symm.trans h
              refine g_iconst X dX11_compares_92 (v := (1 : Int32)) ic_1 ?_
              refine g_goto (tgt := 111) X dX11_compares_93 (by decide) ?_
              exact g_zret X hr hlk bz1 dX11_compares_111 (by cases h; rfl)
        · replace h := (if_pos c8).symm.trans h
          refine g_iload_n X dX11_compares_65 rfl 2 rfl ?_
          refine g_iload X dX11_compares_66 0 rfl ?_
          refine g_icmp_ne (tgt := 75) X dX11_compares_68 (by decide) (fun c12 => ?_) (fun c12 => ?_)
          · replace h := (if_neg c12).symm.trans h
            refine g_iconst X dX11_compares_75 (v := (0 : Int32)) ic_0 ?_
            refine g_goto (tgt := 111) X dX11_compares_76 (by decide) ?_
            exact g_zret X hr hlk bz0 dX11_compares_111 (by cases h; rfl)
          · replace h := (if_pos c12).symm.trans h
            refine g_iconst X dX11_compares_71 (v := (1 : Int32)) ic_1 ?_
            refine g_goto (tgt := 111) X dX11_compares_72 (by decide) ?_
            exact g_zret X hr hlk bz1 dX11_compares_111 (by cases h; rfl)
      · replace h := (if_pos c6).symm.trans h
        refine g_aload_n X dX11_compares_37 rfl 2 rfl ?_
        obtain ⟨q13, hq13, h⟩ := Option.bind_eq_some_iff.mp h
        refine g_cV X (c_Model_fails  hq13) lk_RX11_150 my_X11_fails (a := 565) (ci := 11) kd_565 (by decide) rfl (As := []) (rest := []) rfl rfl (Nat.le_of_ble_eq_true rfl) ⟨(Nat.le_of_ble_eq_true rfl), (Nat.le_of_ble_eq_true rfl)⟩ ⟨(Nat.le_of_ble_eq_true rfl), (Nat.le_of_ble_eq_true rfl)⟩ dX11_compares_38 (st' := [.int q13.1]) (σ' := q13.2) rfl rfl ?_
        obtain ⟨g14, h⟩ := ite_some h
        exact g_zret X hr hlk (bzb_bz g14) dX11_compares_41 (by cases h; rfl)
    · replace h := (if_neg c3).symm.trans h
      refine g_iconst X dX11_compares_21 (v := (0 : Int32)) ic_0 ?_
      exact g_zret X hr hlk bz0 dX11_compares_22 (by cases h; rfl)
  · replace h := (if_neg c1).symm.trans h
    refine g_iload_n X dX11_compares_4 rfl 2 rfl ?_
    refine g_goto (tgt := 12) X dX11_compares_5 (by decide) ?_
    refine g_istore_n X dX11_compares_12 rfl (by decide) (lv' := [(3, .int x2), (0, .ref (be θ + 565)), (1, .int x1), (2, .int x2)]) rfl ?_
    refine g_aload_n X dX11_compares_13 rfl 1 rfl ?_
    refine g_get X fl_RX11_144 dX11_compares_14 kd_565 (v := .int (mI σ 565 11)) rfl ?_
    refine g_iconst X dX11_compares_17 (v := (-1 : Int32)) ic_m1 ?_
    refine g_icmp_eq (tgt := 23) X dX11_compares_18 (by decide) (fun c15 => ?_) (fun c15 => ?_)
    · replace h := (if_pos c15).symm.trans h
      refine g_aload_n X dX11_compares_23 rfl 1 rfl ?_
      obtain ⟨q16, hq16, h⟩ := Option.bind_eq_some_iff.mp h
      refine g_cV X (c_Model_look  hq16) lk_RX11_154 my_X11_look (a := 565) (ci := 11) kd_565 (by decide) rfl (As := []) (rest := []) rfl rfl (Nat.le_of_ble_eq_true rfl) ⟨(Nat.le_of_ble_eq_true rfl), (Nat.le_of_ble_eq_true rfl)⟩ ⟨(Nat.le_of_ble_eq_true rfl), (Nat.le_of_ble_eq_true rfl)⟩ dX11_compares_24 (st' := [.int q16.1]) (σ' := q16.2) rfl rfl ?_
      refine g_istore X dX11_compares_27 (by decide) (lv' := [(4, .int q16.1), (3, .int x2), (0, .ref (be θ + 565)), (1, .int x1), (2, .int x2)]) rfl ?_
      refine g_iload X dX11_compares_29 0 rfl ?_
      obtain ⟨q17, hq17, h⟩ := Option.bind_eq_some_iff.mp h
      refine g_cS X (c_Model_isSign  hq17) lk_RX11_197 my_X11_isSign (As := [.int q16.1]) (rest := []) rfl rfl (Nat.le_of_ble_eq_true rfl) ⟨(Nat.le_of_ble_eq_true rfl), (Nat.le_of_ble_eq_true rfl)⟩ ⟨(Nat.le_of_ble_eq_true rfl), (Nat.le_of_ble_eq_true rfl)⟩ dX11_compares_31 (st' := [.int q17]) (σ' := q16.2) rfl rfl ?_
      refine g_if_ne (tgt := 42) X dX11_compares_34 (by decide) (fun c18 => ?_) (fun c18 => ?_)
      · replace h := (if_neg c18).symm.trans h
        refine g_aload_n X dX11_compares_42 rfl 2 rfl ?_
        refine g_dup X dX11_compares_43 rfl ?_
        refine g_get X fl_RX11_135 dX11_compares_44 kd_565 (v := .int (mI q16.2 565 10)) rfl ?_
        refine g_iconst X dX11_compares_47 (v := (1 : Int32)) ic_1 ?_
        refine g_iadd X dX11_compares_48 ?_
        refine g_putI X fl_RX11_135 dX11_compares_49 kd_565 rfl rfl rfl ?_
        refine g_aload_n X dX11_compares_52 rfl 2 rfl ?_
        obtain ⟨q19, hq19, h⟩ := Option.bind_eq_some_iff.mp h
        refine g_cV X (c_MS_0  hq19) lk_RX11_177 my_X11_sum (a := 565) (ci := 11) kd_565 (by decide) rfl (As := []) (rest := []) rfl rfl (Nat.le_of_ble_eq_true rfl) ⟨(Nat.le_of_ble_eq_true rfl), (Nat.le_of_ble_eq_true rfl)⟩ ⟨(Nat.le_of_ble_eq_true rfl), (Nat.le_of_ble_eq_true rfl)⟩ dX11_compares_53 (st' := [.int q19.1]) (σ' := q19.2) rfl rfl ?_
        refine g_istore X dX11_compares_56 (by decide) (lv' := [(5, .int q19.1), (4, .int q16.1), (3, .int x2), (0, .ref (be θ + 565)), (1, .int x1), (2, .int x2)]) rfl ?_
        refine g_iload X dX11_compares_58 1 rfl ?_
        refine g_bipush X dX11_compares_60 (v := (61 : Int32)) bp_61 ?_
        refine g_icmp_ne (tgt := 79) X dX11_compares_62 (by decide) (fun c20 => ?_) (fun c20 => ?_)
        · replace h := (if_neg c20).symm.trans h
          refine g_iload X dX11_compares_79 1 rfl ?_
          refine g_bipush X dX11_compares_81 (v := (60 : Int32)) bp_60 ?_
          refine g_icmp_ne (tgt := 100) X dX11_compares_83 (by decide) (fun c21 => ?_) (fun c21 => ?_)
          · replace h := (if_neg c21).symm.trans h
            refine g_iload_n X dX11_compares_100 rfl 2 rfl ?_
            refine g_iload X dX11_compares_101 0 rfl ?_
            refine g_icmp_le (tgt := 110) X dX11_compares_103 (by decide) (fun c22 => ?_) (fun c22 => ?_)
            · replace h := (if_pos c22).symm.trans h
              refine g_iconst X dX11_compares_110 (v := (0 : Int32)) ic_0 ?_
              exact g_zret X hr hlk bz0 dX11_compares_111 (by cases h; rfl)
            · replace h := (if_neg c22).symm.trans h
              refine g_iconst X dX11_compares_106 (v := (1 : Int32)) ic_1 ?_
              refine g_goto (tgt := 111) X dX11_compares_107 (by decide) ?_
              exact g_zret X hr hlk bz1 dX11_compares_111 (by cases h; rfl)
          · replace h := (if_pos c21).symm.trans h
            refine g_iload_n X dX11_compares_86 rfl 2 rfl ?_
            refine g_iload X dX11_compares_87 0 rfl ?_
            refine g_icmp_ge (tgt := 96) X dX11_compares_89 (by decide) (fun c23 => ?_) (fun c23 => ?_)
            · replace h := (if_pos c23).symm.trans h
              refine g_iconst X dX11_compares_96 (v := (0 : Int32)) ic_0 ?_
              refine g_goto (tgt := 111) X dX11_compares_97 (by decide) ?_
              exact g_zret X hr hlk bz0 dX11_compares_111 (by cases h; rfl)
            · replace h := (if_neg c23).symm.trans h
              refine g_iconst X dX11_compares_92 (v := (1 : Int32)) ic_1 ?_
              refine g_goto (tgt := 111) X dX11_compares_93 (by decide) ?_
              exact g_zret X hr hlk bz1 dX11_compares_111 (by cases h; rfl)
        · replace h := (if_pos c20).symm.trans h
          refine g_iload_n X dX11_compares_65 rfl 2 rfl ?_
          refine g_iload X dX11_compares_66 0 rfl ?_
          refine g_icmp_ne (tgt := 75) X dX11_compares_68 (by decide) (fun c24 => ?_) (fun c24 => ?_)
          · replace h := (if_neg c24).symm.trans h
            refine g_iconst X dX11_compares_75 (v := (0 : Int32)) ic_0 ?_
            refine g_goto (tgt := 111) X dX11_compares_76 (by decide) ?_
            exact g_zret X hr hlk bz0 dX11_compares_111 (by cases h; rfl)
          · replace h := (if_pos c24).symm.trans h
            refine g_iconst X dX11_compares_71 (v := (1 : Int32)) ic_1 ?_
            refine g_goto (tgt := 111) X dX11_compares_72 (by decide) ?_
            exact g_zret X hr hlk bz1 dX11_compares_111 (by cases h; rfl)
      · replace h := (if_pos c18).symm.trans h
        refine g_aload_n X dX11_compares_37 rfl 2 rfl ?_
        obtain ⟨q25, hq25, h⟩ := Option.bind_eq_some_iff.mp h
        refine g_cV X (c_Model_fails  hq25) lk_RX11_150 my_X11_fails (a := 565) (ci := 11) kd_565 (by decide) rfl (As := []) (rest := []) rfl rfl (Nat.le_of_ble_eq_true rfl) ⟨(Nat.le_of_ble_eq_true rfl), (Nat.le_of_ble_eq_true rfl)⟩ ⟨(Nat.le_of_ble_eq_true rfl), (Nat.le_of_ble_eq_true rfl)⟩ dX11_compares_38 (st' := [.int q25.1]) (σ' := q25.2) rfl rfl ?_
        obtain ⟨g26, h⟩ := ite_some h
        exact g_zret X hr hlk (bzb_bz g26) dX11_compares_41 (by cases h; rfl)
    · replace h := (if_neg c15).symm.trans h
      refine g_iconst X dX11_compares_21 (v := (0 : Int32)) ic_0 ?_
      exact g_zret X hr hlk bz0 dX11_compares_22 (by cases h; rfl)
set_option maxHeartbeats 4000000 in
set_option maxRecDepth 20000 in
theorem c_Model_compares {θ : Th} {l : Launch} {σ : Mem} {x1 : Int32} {x2 : Int32} {r : Int32 × Mem}  (h : f_Model_compares σ x1 x2 = some r) : Cn θ l yX11_compares cX11_compares 6 (some .boolean) 29 0 0 [.ref (be θ + 565), .int x1, .int x2] σ (some (.int r.1), r.2) :=
  Cn.of (by decide) (Nat.le_of_ble_eq_true rfl) (fun p e s m below meth c X hr hlk => g_Model_compares X hr hlk  h)
theorem dX11_condition_0 : decode cX11_condition 0 = .ok (.aload_n 0, 1) := by decide +kernel
theorem dX11_condition_1 : decode cX11_condition 1 = .ok (.iload_n 1, 1) := by decide +kernel
theorem dX11_condition_2 : decode cX11_condition 2 = .ok (.iload_n 2, 1) := by decide +kernel
theorem dX11_condition_3 : decode cX11_condition 3 = .ok (.invokevirtual 210, 3) := by decide +kernel
theorem dX11_condition_6 : decode cX11_condition 6 = .ok (.istore_n 3, 1) := by decide +kernel
theorem dX11_condition_7 : decode cX11_condition 7 = .ok (.aload_n 0, 1) := by decide +kernel
theorem dX11_condition_8 : decode cX11_condition 8 = .ok (.getfield 144, 3) := by decide +kernel
theorem dX11_condition_11 : decode cX11_condition 11 = .ok (.iconst (-1), 1) := by decide +kernel
theorem dX11_condition_12 : decode cX11_condition 12 = .ok (.if_icmp .ne 48, 3) := by decide +kernel
theorem dX11_condition_15 : decode cX11_condition 15 = .ok (.aload_n 0, 1) := by decide +kernel
theorem dX11_condition_16 : decode cX11_condition 16 = .ok (.invokevirtual 154, 3) := by decide +kernel
theorem dX11_condition_19 : decode cX11_condition 19 = .ok (.bipush 124, 2) := by decide +kernel
theorem dX11_condition_21 : decode cX11_condition 21 = .ok (.if_icmp .ne 39, 3) := by decide +kernel
theorem dX11_condition_24 : decode cX11_condition 24 = .ok (.aload_n 0, 1) := by decide +kernel
theorem dX11_condition_25 : decode cX11_condition 25 = .ok (.dup, 1) := by decide +kernel
theorem dX11_condition_26 : decode cX11_condition 26 = .ok (.getfield 135, 3) := by decide +kernel
theorem dX11_condition_29 : decode cX11_condition 29 = .ok (.iconst 1, 1) := by decide +kernel
theorem dX11_condition_30 : decode cX11_condition 30 = .ok (.iadd, 1) := by decide +kernel
theorem dX11_condition_31 : decode cX11_condition 31 = .ok (.putfield 135, 3) := by decide +kernel
theorem dX11_condition_34 : decode cX11_condition 34 = .ok (.aload_n 0, 1) := by decide +kernel
theorem dX11_condition_35 : decode cX11_condition 35 = .ok (.iconst 0, 1) := by decide +kernel
theorem dX11_condition_36 : decode cX11_condition 36 = .ok (.iconst 0, 1) := by decide +kernel
theorem dX11_condition_37 : decode cX11_condition 37 = .ok (.invokevirtual 210, 3) := by decide +kernel
theorem dX11_condition_40 : decode cX11_condition 40 = .ok (.istore 4, 2) := by decide +kernel
theorem dX11_condition_42 : decode cX11_condition 42 = .ok (.iload_n 3, 1) := by decide +kernel
theorem dX11_condition_43 : decode cX11_condition 43 = .ok (.ifCond .ne 8, 3) := by decide +kernel
theorem dX11_condition_46 : decode cX11_condition 46 = .ok (.iload 4, 2) := by decide +kernel
theorem dX11_condition_48 : decode cX11_condition 48 = .ok (.ifCond .eq 7, 3) := by decide +kernel
theorem dX11_condition_51 : decode cX11_condition 51 = .ok (.iconst 1, 1) := by decide +kernel
theorem dX11_condition_52 : decode cX11_condition 52 = .ok (.goto 4, 3) := by decide +kernel
theorem dX11_condition_55 : decode cX11_condition 55 = .ok (.iconst 0, 1) := by decide +kernel
theorem dX11_condition_56 : decode cX11_condition 56 = .ok (.istore_n 3, 1) := by decide +kernel
theorem dX11_condition_57 : decode cX11_condition 57 = .ok (.goto (-50), 3) := by decide +kernel
theorem dX11_condition_60 : decode cX11_condition 60 = .ok (.iload_n 3, 1) := by decide +kernel
theorem dX11_condition_61 : decode cX11_condition 61 = .ok (.ireturn, 1) := by decide +kernel
theorem dX11_part_0 : decode cX11_part 0 = .ok (.iload_n 1, 1) := by decide +kernel
theorem dX11_part_1 : decode cX11_part 1 = .ok (.ifCond .eq 12, 3) := by decide +kernel
theorem dX11_part_4 : decode cX11_part 4 = .ok (.aload_n 0, 1) := by decide +kernel
theorem dX11_part_5 : decode cX11_part 5 = .ok (.iconst 1, 1) := by decide +kernel
theorem dX11_part_6 : decode cX11_part 6 = .ok (.iload_n 2, 1) := by decide +kernel
theorem dX11_part_7 : decode cX11_part 7 = .ok (.invokevirtual 207, 3) := by decide +kernel
theorem dX11_part_10 : decode cX11_part 10 = .ok (.goto 7, 3) := by decide +kernel
theorem dX11_part_13 : decode cX11_part 13 = .ok (.aload_n 0, 1) := by decide +kernel
theorem dX11_part_14 : decode cX11_part 14 = .ok (.invokevirtual 200, 3) := by decide +kernel
theorem dX11_part_17 : decode cX11_part 17 = .ok (.istore_n 3, 1) := by decide +kernel
theorem dX11_part_18 : decode cX11_part 18 = .ok (.aload_n 0, 1) := by decide +kernel
theorem dX11_part_19 : decode cX11_part 19 = .ok (.getfield 144, 3) := by decide +kernel
theorem dX11_part_22 : decode cX11_part 22 = .ok (.iconst (-1), 1) := by decide +kernel
theorem dX11_part_23 : decode cX11_part 23 = .ok (.if_icmp .ne 46, 3) := by decide +kernel
theorem dX11_part_26 : decode cX11_part 26 = .ok (.aload_n 0, 1) := by decide +kernel
theorem dX11_part_27 : decode cX11_part 27 = .ok (.invokevirtual 154, 3) := by decide +kernel
theorem dX11_part_30 : decode cX11_part 30 = .ok (.bipush 38, 2) := by decide +kernel
theorem dX11_part_32 : decode cX11_part 32 = .ok (.if_icmp .ne 37, 3) := by decide +kernel
theorem dX11_part_35 : decode cX11_part 35 = .ok (.aload_n 0, 1) := by decide +kernel
theorem dX11_part_36 : decode cX11_part 36 = .ok (.dup, 1) := by decide +kernel
theorem dX11_part_37 : decode cX11_part 37 = .ok (.getfield 135, 3) := by decide +kernel
theorem dX11_part_40 : decode cX11_part 40 = .ok (.iconst 1, 1) := by decide +kernel
theorem dX11_part_41 : decode cX11_part 41 = .ok (.iadd, 1) := by decide +kernel
theorem dX11_part_42 : decode cX11_part 42 = .ok (.putfield 135, 3) := by decide +kernel
theorem dX11_part_45 : decode cX11_part 45 = .ok (.aload_n 0, 1) := by decide +kernel
theorem dX11_part_46 : decode cX11_part 46 = .ok (.invokevirtual 200, 3) := by decide +kernel
theorem dX11_part_49 : decode cX11_part 49 = .ok (.istore 4, 2) := by decide +kernel
theorem dX11_part_51 : decode cX11_part 51 = .ok (.iload_n 3, 1) := by decide +kernel
theorem dX11_part_52 : decode cX11_part 52 = .ok (.ifCond .eq 12, 3) := by decide +kernel
theorem dX11_part_55 : decode cX11_part 55 = .ok (.iload 4, 2) := by decide +kernel
theorem dX11_part_57 : decode cX11_part 57 = .ok (.ifCond .eq 7, 3) := by decide +kernel
theorem dX11_part_60 : decode cX11_part 60 = .ok (.iconst 1, 1) := by decide +kernel
theorem dX11_part_61 : decode cX11_part 61 = .ok (.goto 4, 3) := by decide +kernel
theorem dX11_part_64 : decode cX11_part 64 = .ok (.iconst 0, 1) := by decide +kernel
theorem dX11_part_65 : decode cX11_part 65 = .ok (.istore_n 3, 1) := by decide +kernel
theorem dX11_part_66 : decode cX11_part 66 = .ok (.goto (-48), 3) := by decide +kernel
theorem dX11_part_69 : decode cX11_part 69 = .ok (.iload_n 3, 1) := by decide +kernel
theorem dX11_part_70 : decode cX11_part 70 = .ok (.ireturn, 1) := by decide +kernel
theorem dX11_unit_0 : decode cX11_unit 0 = .ok (.aload_n 0, 1) := by decide +kernel
theorem dX11_unit_1 : decode cX11_unit 1 = .ok (.invokevirtual 154, 3) := by decide +kernel
theorem dX11_unit_4 : decode cX11_unit 4 = .ok (.istore_n 1, 1) := by decide +kernel
theorem dX11_unit_5 : decode cX11_unit 5 = .ok (.iload_n 1, 1) := by decide +kernel
theorem dX11_unit_6 : decode cX11_unit 6 = .ok (.bipush 33, 2) := by decide +kernel
theorem dX11_unit_8 : decode cX11_unit 8 = .ok (.if_icmp .ne 37, 3) := by decide +kernel
theorem dX11_unit_11 : decode cX11_unit 11 = .ok (.aload_n 0, 1) := by decide +kernel
theorem dX11_unit_12 : decode cX11_unit 12 = .ok (.invokevirtual 174, 3) := by decide +kernel
theorem dX11_unit_15 : decode cX11_unit 15 = .ok (.ifCond .ne 5, 3) := by decide +kernel
theorem dX11_unit_18 : decode cX11_unit 18 = .ok (.iconst 0, 1) := by decide +kernel
theorem dX11_unit_19 : decode cX11_unit 19 = .ok (.ireturn, 1) := by decide +kernel
theorem dX11_unit_20 : decode cX11_unit 20 = .ok (.aload_n 0, 1) := by decide +kernel
theorem dX11_unit_21 : decode cX11_unit 21 = .ok (.invokevirtual 200, 3) := by decide +kernel
theorem dX11_unit_24 : decode cX11_unit 24 = .ok (.istore_n 2, 1) := by decide +kernel
theorem dX11_unit_25 : decode cX11_unit 25 = .ok (.aload_n 0, 1) := by decide +kernel
theorem dX11_unit_26 : decode cX11_unit 26 = .ok (.dup, 1) := by decide +kernel
theorem dX11_unit_27 : decode cX11_unit 27 = .ok (.getfield 147, 3) := by decide +kernel
theorem dX11_unit_30 : decode cX11_unit 30 = .ok (.iconst 1, 1) := by decide +kernel
theorem dX11_unit_31 : decode cX11_unit 31 = .ok (.isub, 1) := by decide +kernel
theorem dX11_unit_32 : decode cX11_unit 32 = .ok (.putfield 147, 3) := by decide +kernel
theorem dX11_unit_35 : decode cX11_unit 35 = .ok (.iload_n 2, 1) := by decide +kernel
theorem dX11_unit_36 : decode cX11_unit 36 = .ok (.ifCond .ne 7, 3) := by decide +kernel
theorem dX11_unit_39 : decode cX11_unit 39 = .ok (.iconst 1, 1) := by decide +kernel
theorem dX11_unit_40 : decode cX11_unit 40 = .ok (.goto 4, 3) := by decide +kernel
theorem dX11_unit_43 : decode cX11_unit 43 = .ok (.iconst 0, 1) := by decide +kernel
theorem dX11_unit_44 : decode cX11_unit 44 = .ok (.ireturn, 1) := by decide +kernel
theorem dX11_unit_45 : decode cX11_unit 45 = .ok (.iload_n 1, 1) := by decide +kernel
theorem dX11_unit_46 : decode cX11_unit 46 = .ok (.bipush 40, 2) := by decide +kernel
theorem dX11_unit_48 : decode cX11_unit 48 = .ok (.if_icmp .ne 42, 3) := by decide +kernel
theorem dX11_unit_51 : decode cX11_unit 51 = .ok (.aload_n 0, 1) := by decide +kernel
theorem dX11_unit_52 : decode cX11_unit 52 = .ok (.invokevirtual 174, 3) := by decide +kernel
theorem dX11_unit_55 : decode cX11_unit 55 = .ok (.ifCond .ne 5, 3) := by decide +kernel
theorem dX11_unit_58 : decode cX11_unit 58 = .ok (.iconst 0, 1) := by decide +kernel
theorem dX11_unit_59 : decode cX11_unit 59 = .ok (.ireturn, 1) := by decide +kernel
theorem dX11_unit_60 : decode cX11_unit 60 = .ok (.aload_n 0, 1) := by decide +kernel
theorem dX11_unit_61 : decode cX11_unit 61 = .ok (.iconst 0, 1) := by decide +kernel
theorem dX11_unit_62 : decode cX11_unit 62 = .ok (.iconst 0, 1) := by decide +kernel
theorem dX11_unit_63 : decode cX11_unit 63 = .ok (.invokevirtual 203, 3) := by decide +kernel
theorem dX11_unit_66 : decode cX11_unit 66 = .ok (.istore_n 2, 1) := by decide +kernel
theorem dX11_unit_67 : decode cX11_unit 67 = .ok (.aload_n 0, 1) := by decide +kernel
theorem dX11_unit_68 : decode cX11_unit 68 = .ok (.bipush 41, 2) := by decide +kernel
theorem dX11_unit_70 : decode cX11_unit 70 = .ok (.invokevirtual 180, 3) := by decide +kernel
theorem dX11_unit_73 : decode cX11_unit 73 = .ok (.ifCond .ne 5, 3) := by decide +kernel
theorem dX11_unit_76 : decode cX11_unit 76 = .ok (.iconst 0, 1) := by decide +kernel
theorem dX11_unit_77 : decode cX11_unit 77 = .ok (.ireturn, 1) := by decide +kernel
theorem dX11_unit_78 : decode cX11_unit 78 = .ok (.aload_n 0, 1) := by decide +kernel
theorem dX11_unit_79 : decode cX11_unit 79 = .ok (.dup, 1) := by decide +kernel
theorem dX11_unit_80 : decode cX11_unit 80 = .ok (.getfield 147, 3) := by decide +kernel
theorem dX11_unit_83 : decode cX11_unit 83 = .ok (.iconst 1, 1) := by decide +kernel
theorem dX11_unit_84 : decode cX11_unit 84 = .ok (.isub, 1) := by decide +kernel
theorem dX11_unit_85 : decode cX11_unit 85 = .ok (.putfield 147, 3) := by decide +kernel
theorem dX11_unit_88 : decode cX11_unit 88 = .ok (.iload_n 2, 1) := by decide +kernel
theorem dX11_unit_89 : decode cX11_unit 89 = .ok (.ireturn, 1) := by decide +kernel
theorem dX11_unit_90 : decode cX11_unit 90 = .ok (.aload_n 0, 1) := by decide +kernel
theorem dX11_unit_91 : decode cX11_unit 91 = .ok (.iconst 0, 1) := by decide +kernel
theorem dX11_unit_92 : decode cX11_unit 92 = .ok (.iconst 0, 1) := by decide +kernel
theorem dX11_unit_93 : decode cX11_unit 93 = .ok (.invokevirtual 207, 3) := by decide +kernel
theorem dX11_unit_96 : decode cX11_unit 96 = .ok (.ireturn, 1) := by decide +kernel
def f_Model_condition_L7 (rc : Nat → Mem → Int32 → Int32 → Option (Int32 × Mem)) (x1 : Int32) (x2 : Int32) (a : Mem × Int32) : Option ((Mem × Int32) ⊕ (Int32 × Mem)) :=
  @Prod.casesOn (Mem) (Int32) (fun _ => Option ((Mem × Int32) ⊕ (Int32 × Mem))) a fun τ z3 =>
  if (mI τ 565 11) = (-1 : Int32) then
    (f_Model_look τ).bind fun q4 =>
    if q4.1 = (124 : Int32) then
      (rc 1 (sI q4.2 565 10 ((mI q4.2 565 10) + (1 : Int32))) (0 : Int32) (0 : Int32)).bind fun q7 =>
      if z3 = (0 : Int32) then
        if q7.1 = (0 : Int32) then
          some (.inl (q7.2, (0 : Int32)))
        else
          some (.inl (q7.2, (1 : Int32)))
      else
        some (.inl (q7.2, (1 : Int32)))
    else
      if bzb z3 then
        some (.inr (z3, q4.2))
      else none
  else
    if bzb z3 then
      some (.inr (z3, τ))
    else none
def f_Model_condition (rc : Nat → Mem → Int32 → Int32 → Option (Int32 × Mem)) (σ : Mem) (x1 : Int32) (x2 : Int32) : Option (Int32 × Mem) :=
  (rc 1 σ x1 x2).bind fun q1 =>
  loopF (f_Model_condition_L7 rc x1 x2) FU (q1.2, q1.1)
set_option maxHeartbeats 4000000 in
set_option maxRecDepth 20000 in
theorem gs_Model_condition_L7 (X : Cx θ p s m args c cX11_condition 5 RX11) (hr : meth.sig.returnType = some .boolean) (hlk : meth.locks = false) {rc : Nat → Mem → Int32 → Int32 → Option (Int32 × Mem)} {nr : Nat} (hrec0 : ∀ {σ : Mem} {x1 : Int32} {x2 : Int32} {r : Int32 × Mem}, rc 0 σ x1 x2 = some r → Cn θ l yX11_condition cX11_condition 5 (some .boolean) (29 + nr) 0 0 [.ref (be θ + 565), .int x1, .int x2] σ (some (.int r.1), r.2)) (hrec1 : ∀ {σ : Mem} {x1 : Int32} {x2 : Int32} {r : Int32 × Mem}, rc 1 σ x1 x2 = some r → Cn θ l yX11_part cX11_part 5 (some .boolean) (29 + nr) 0 0 [.ref (be θ + 565), .int x1, .int x2] σ (some (.int r.1), r.2)) (hrec2 : ∀ {σ : Mem}  {r : Int32 × Mem}, rc 2 σ 0 0 = some r → Cn θ l yX11_unit cX11_unit 3 (some .boolean) (29 + nr) 0 0 [.ref (be θ + 565)] σ (some (.int r.1), r.2))  {x1 : Int32} {x2 : Int32} {r : Int32 × Mem}  (τ : Mem) (z3 : Int32) (x : (Mem × Int32) ⊕ (Int32 × Mem)) (h : f_Model_condition_L7 rc x1 x2 (τ, z3) = some x) (hk : Sum.elim (fun a => @Prod.casesOn (Mem) (Int32) (fun _ => Prop) a fun τ z3 => GB θ p l e (29 + nr + 1) s m args below meth c 5 (some (.int r.1), r.2) 7 [(0, .ref (be θ + 565)), (1, .int x1), (2, .int x2), (3, .int z3)] [] τ) (fun b => b = r) x) : GB θ p l e (29 + nr + 1) s m args below meth c 5 (some (.int r.1), r.2) 7 [(0, .ref (be θ + 565)), (1, .int x1), (2, .int x2), (3, .int z3)] [] τ := by
  unfold f_Model_condition_L7 at h
  dsimp only at h
  refine g_aload_n X dX11_condition_7 rfl 0 rfl ?_
  refine g_get X fl_RX11_144 dX11_condition_8 kd_565 (v := .int (mI τ 565 11)) rfl ?_
  refine g_iconst X dX11_condition_11 (v := (-1 : Int32)) ic_m1 ?_
  refine g_icmp_ne (tgt := 60) X dX11_condition_12 (by decide) (fun c2 => ?_) (fun c2 => ?_)
  · replace h := (if_neg c2).symm.trans h
    refine g_iload_n X dX11_condition_60 rfl 3 rfl ?_
    obtain ⟨g3, h⟩ := ite_some h
    have hk := inr_hk h hk
    have hk : (z3, τ) = r := hk
    subst hk
    exact g_zret X hr hlk (bzb_bz g3) dX11_condition_61 rfl
  · replace h := (if_pos c2).symm.trans h
    refine g_aload_n X dX11_condition_15 rfl 0 rfl ?_
    obtain ⟨q4, hq4, h⟩ := Option.bind_eq_some_iff.mp h
    refine g_cV X (c_Model_look  hq4) lk_RX11_154 my_X11_look (a := 565) (ci := 11) kd_565 (by decide) rfl (As := []) (rest := []) rfl rfl (Nat.le_of_ble_eq_true rfl) ⟨(by show 0 + 1 ≤ 29 + nr + 1; omega), (by show 8 + (1 + 11) + 40 * 0 ≤ 40 * (29 + nr + 1); omega)⟩ ⟨(Nat.le_of_ble_eq_true rfl), (Nat.le_of_ble_eq_true rfl)⟩ dX11_condition_16 (st' := [.int q4.1]) (σ' := q4.2) rfl rfl ?_
    refine g_bipush X dX11_condition_19 (v := (124 : Int32)) bp_124 ?_
    refine g_icmp_ne (tgt := 60) X dX11_condition_21 (by decide) (fun c5 => ?_) (fun c5 => ?_)
    · replace h := (if_neg c5).symm.trans h
      refine g_iload_n X dX11_condition_60 rfl 3 rfl ?_
      obtain ⟨g6, h⟩ := ite_some h
      have hk := inr_hk h hk
      have hk : (z3, q4.2) = r := hk
      subst hk
      exact g_zret X hr hlk (bzb_bz g6) dX11_condition_61 rfl
    · replace h := (if_pos c5).symm.trans h
      refine g_aload_n X dX11_condition_24 rfl 0 rfl ?_
      refine g_dup X dX11_condition_25 rfl ?_
      refine g_get X fl_RX11_135 dX11_condition_26 kd_565 (v := .int (mI q4.2 565 10)) rfl ?_
      refine g_iconst X dX11_condition_29 (v := (1 : Int32)) ic_1 ?_
      refine g_iadd X dX11_condition_30 ?_
      refine g_putI X fl_RX11_135 dX11_condition_31 kd_565 rfl rfl rfl ?_
      refine g_aload_n X dX11_condition_34 rfl 0 rfl ?_
      refine g_iconst X dX11_condition_35 (v := (0 : Int32)) ic_0 ?_
      refine g_iconst X dX11_condition_36 (v := (0 : Int32)) ic_0 ?_
      obtain ⟨q7, hq7, h⟩ := Option.bind_eq_some_iff.mp h
      refine g_cV X (hrec1  hq7) lk_RX11_210 my_X11_part (a := 565) (ci := 11) kd_565 (by decide) rfl (As := [.int (0 : Int32), .int (0 : Int32)]) (rest := []) rfl rfl (Nat.le_of_ble_eq_true rfl) ⟨Nat.le_refl _, (by show 8 + (5 + 11) + 40 * (29 + nr) ≤ 40 * (29 + nr + 1); omega)⟩ ⟨(Nat.le_of_ble_eq_true rfl), (Nat.le_of_ble_eq_true rfl)⟩ dX11_condition_37 (st' := [.int q7.1]) (σ' := q7.2) rfl rfl ?_
      refine g_istore X dX11_condition_40 (by decide) (lv' := [(4, .int q7.1), (0, .ref (be θ + 565)), (1, .int x1), (2, .int x2), (3, .int z3)]) rfl ?_
      refine g_iload_n X dX11_condition_42 rfl 4 rfl ?_
      refine g_if_ne (tgt := 51) X dX11_condition_43 (by decide) (fun c8 => ?_) (fun c8 => ?_)
      · replace h := (if_neg c8).symm.trans h
        refine g_iconst X dX11_condition_51 (v := (1 : Int32)) ic_1 ?_
        refine g_goto (tgt := 56) X dX11_condition_52 (by decide) ?_
        refine g_istore_n X dX11_condition_56 rfl (by decide) (lv' := [(3, .int (1 : Int32)), (4, .int q7.1), (0, .ref (be θ + 565)), (1, .int x1), (2, .int x2)]) rfl ?_
        refine g_goto (tgt := 7) X dX11_condition_57 (by decide) ?_
        have hk := inl_hk h hk
        exact g_sub (lv' := [(0, .ref (be θ + 565)), (1, .int x1), (2, .int x2), (3, .int (1 : Int32))]) [2, 3, 4, 0] rfl hk
      · replace h := (if_pos c8).symm.trans h
        refine g_iload X dX11_condition_46 0 rfl ?_
        refine g_if_eq (tgt := 55) X dX11_condition_48 (by decide) (fun c9 => ?_) (fun c9 => ?_)
        · replace h := (if_pos c9).symm.trans h
          refine g_iconst X dX11_condition_55 (v := (0 : Int32)) ic_0 ?_
          refine g_istore_n X dX11_condition_56 rfl (by decide) (lv' := [(3, .int (0 : Int32)), (4, .int q7.1), (0, .ref (be θ + 565)), (1, .int x1), (2, .int x2)]) rfl ?_
          refine g_goto (tgt := 7) X dX11_condition_57 (by decide) ?_
          have hk := inl_hk h hk
          exact g_sub (lv' := [(0, .ref (be θ + 565)), (1, .int x1), (2, .int x2), (3, .int (0 : Int32))]) [2, 3, 4, 0] rfl hk
        · replace h := (if_neg c9).symm.trans h
          refine g_iconst X dX11_condition_51 (v := (1 : Int32)) ic_1 ?_
          refine g_goto (tgt := 56) X dX11_condition_52 (by decide) ?_
          refine g_istore_n X dX11_condition_56 rfl (by decide) (lv' := [(3, .int (1 : Int32)), (4, .int q7.1), (0, .ref (be θ + 565)), (1, .int x1), (2, .int x2)]) rfl ?_
          refine g_goto (tgt := 7) X dX11_condition_57 (by decide) ?_
          have hk := inl_hk h hk
          exact g_sub (lv' := [(0, .ref (be θ + 565)), (1, .int x1), (2, .int x2), (3, .int (1 : Int32))]) [2, 3, 4, 0] rfl hk
set_option maxHeartbeats 4000000 in
set_option maxRecDepth 20000 in
theorem gl_Model_condition_L7 (X : Cx θ p s m args c cX11_condition 5 RX11) (hr : meth.sig.returnType = some .boolean) (hlk : meth.locks = false) {rc : Nat → Mem → Int32 → Int32 → Option (Int32 × Mem)} {nr : Nat} (hrec0 : ∀ {σ : Mem} {x1 : Int32} {x2 : Int32} {r : Int32 × Mem}, rc 0 σ x1 x2 = some r → Cn θ l yX11_condition cX11_condition 5 (some .boolean) (29 + nr) 0 0 [.ref (be θ + 565), .int x1, .int x2] σ (some (.int r.1), r.2)) (hrec1 : ∀ {σ : Mem} {x1 : Int32} {x2 : Int32} {r : Int32 × Mem}, rc 1 σ x1 x2 = some r → Cn θ l yX11_part cX11_part 5 (some .boolean) (29 + nr) 0 0 [.ref (be θ + 565), .int x1, .int x2] σ (some (.int r.1), r.2)) (hrec2 : ∀ {σ : Mem}  {r : Int32 × Mem}, rc 2 σ 0 0 = some r → Cn θ l yX11_unit cX11_unit 3 (some .boolean) (29 + nr) 0 0 [.ref (be θ + 565)] σ (some (.int r.1), r.2))  {x1 : Int32} {x2 : Int32} {r : Int32 × Mem}  (n : Nat) (a : Mem × Int32) (b : Int32 × Mem) (h : loopF (f_Model_condition_L7 rc x1 x2) n a = some b) (hk : (fun b => b = r) b) : (fun a => @Prod.casesOn (Mem) (Int32) (fun _ => Prop) a fun τ z3 => GB θ p l e (29 + nr + 1) s m args below meth c 5 (some (.int r.1), r.2) 7 [(0, .ref (be θ + 565)), (1, .int x1), (2, .int x2), (3, .int z3)] [] τ) a :=
  loopF_by (P := (fun a => @Prod.casesOn (Mem) (Int32) (fun _ => Prop) a fun τ z3 => GB θ p l e (29 + nr + 1) s m args below meth c 5 (some (.int r.1), r.2) 7 [(0, .ref (be θ + 565)), (1, .int x1), (2, .int x2), (3, .int z3)] [] τ)) (K := (fun b => b = r)) (fun a x h hk => by obtain ⟨τ, z3⟩ := a; exact gs_Model_condition_L7 X hr hlk hrec0 hrec1 hrec2  τ z3 x h hk) n a b h hk
set_option maxHeartbeats 4000000 in
set_option maxRecDepth 20000 in
theorem g_Model_condition (X : Cx θ p s m args c cX11_condition 5 RX11) (hr : meth.sig.returnType = some .boolean) (hlk : meth.locks = false) {rc : Nat → Mem → Int32 → Int32 → Option (Int32 × Mem)} {nr : Nat} (hrec0 : ∀ {σ : Mem} {x1 : Int32} {x2 : Int32} {r : Int32 × Mem}, rc 0 σ x1 x2 = some r → Cn θ l yX11_condition cX11_condition 5 (some .boolean) (29 + nr) 0 0 [.ref (be θ + 565), .int x1, .int x2] σ (some (.int r.1), r.2)) (hrec1 : ∀ {σ : Mem} {x1 : Int32} {x2 : Int32} {r : Int32 × Mem}, rc 1 σ x1 x2 = some r → Cn θ l yX11_part cX11_part 5 (some .boolean) (29 + nr) 0 0 [.ref (be θ + 565), .int x1, .int x2] σ (some (.int r.1), r.2)) (hrec2 : ∀ {σ : Mem}  {r : Int32 × Mem}, rc 2 σ 0 0 = some r → Cn θ l yX11_unit cX11_unit 3 (some .boolean) (29 + nr) 0 0 [.ref (be θ + 565)] σ (some (.int r.1), r.2))  {σ : Mem} {x1 : Int32} {x2 : Int32} {r : Int32 × Mem}  (h : f_Model_condition rc σ x1 x2 = some r) : GB θ p l e (29 + nr + 1) s m args below meth c 5 (some (.int r.1), r.2) 0 [(0, .ref (be θ + 565)), (1, .int x1), (2, .int x2)] [] σ := by
  unfold f_Model_condition at h
  refine g_aload_n X dX11_condition_0 rfl 0 rfl ?_
  refine g_iload_n X dX11_condition_1 rfl 1 rfl ?_
  refine g_iload_n X dX11_condition_2 rfl 2 rfl ?_
  obtain ⟨q1, hq1, h⟩ := Option.bind_eq_some_iff.mp h
  refine g_cV X (hrec1  hq1) lk_RX11_210 my_X11_part (a := 565) (ci := 11) kd_565 (by decide) rfl (As := [.int x1, .int x2]) (rest := []) rfl rfl (Nat.le_of_ble_eq_true rfl) ⟨Nat.le_refl _, (by show 8 + (5 + 11) + 40 * (29 + nr) ≤ 40 * (29 + nr + 1); omega)⟩ ⟨(Nat.le_of_ble_eq_true rfl), (Nat.le_of_ble_eq_true rfl)⟩ dX11_condition_3 (st' := [.int q1.1]) (σ' := q1.2) rfl rfl ?_
  refine g_istore_n X dX11_condition_6 rfl (by decide) (lv' := [(3, .int q1.1), (0, .ref (be θ + 565)), (1, .int x1), (2, .int x2)]) rfl ?_
  exact g_sub (lv' := [(0, .ref (be θ + 565)), (1, .int x1), (2, .int x2), (3, .int q1.1)]) [1, 2, 3, 0] rfl (gl_Model_condition_L7 X hr hlk hrec0 hrec1 hrec2   FU _ _ h rfl)
def f_Model_part_L18 (rc : Nat → Mem → Int32 → Int32 → Option (Int32 × Mem)) (x1 : Int32) (x2 : Int32) (a : Mem × Int32) : Option ((Mem × Int32) ⊕ (Int32 × Mem)) :=
  @Prod.casesOn (Mem) (Int32) (fun _ => Option ((Mem × Int32) ⊕ (Int32 × Mem))) a fun τ z3 =>
  if (mI τ 565 11) = (-1 : Int32) then
    (f_Model_look τ).bind fun q5 =>
    if q5.1 = (38 : Int32) then
      (rc 2 (sI q5.2 565 10 ((mI q5.2 565 10) + (1 : Int32))) 0 0).bind fun q8 =>
      if z3 = (0 : Int32) then
        some (.inl (q8.2, (0 : Int32)))
      else
        if q8.1 = (0 : Int32) then
          some (.inl (q8.2, (0 : Int32)))
        else
          some (.inl (q8.2, (1 : Int32)))
    else
      if bzb z3 then
        some (.inr (z3, q5.2))
      else none
  else
    if bzb z3 then
      some (.inr (z3, τ))
    else none
def f_Model_part (rc : Nat → Mem → Int32 → Int32 → Option (Int32 × Mem)) (σ : Mem) (x1 : Int32) (x2 : Int32) : Option (Int32 × Mem) :=
  if x1 = (0 : Int32) then
    (rc 2 σ 0 0).bind fun q2 =>
    loopF (f_Model_part_L18 rc x1 x2) FU (q2.2, q2.1)
  else
    (f_Model_compares σ (1 : Int32) x2).bind fun q11 =>
    loopF (f_Model_part_L18 rc x1 x2) FU (q11.2, q11.1)
set_option maxHeartbeats 4000000 in
set_option maxRecDepth 20000 in
theorem gs_Model_part_L18 (X : Cx θ p s m args c cX11_part 5 RX11) (hr : meth.sig.returnType = some .boolean) (hlk : meth.locks = false) {rc : Nat → Mem → Int32 → Int32 → Option (Int32 × Mem)} {nr : Nat} (hrec0 : ∀ {σ : Mem} {x1 : Int32} {x2 : Int32} {r : Int32 × Mem}, rc 0 σ x1 x2 = some r → Cn θ l yX11_condition cX11_condition 5 (some .boolean) (29 + nr) 0 0 [.ref (be θ + 565), .int x1, .int x2] σ (some (.int r.1), r.2)) (hrec1 : ∀ {σ : Mem} {x1 : Int32} {x2 : Int32} {r : Int32 × Mem}, rc 1 σ x1 x2 = some r → Cn θ l yX11_part cX11_part 5 (some .boolean) (29 + nr) 0 0 [.ref (be θ + 565), .int x1, .int x2] σ (some (.int r.1), r.2)) (hrec2 : ∀ {σ : Mem}  {r : Int32 × Mem}, rc 2 σ 0 0 = some r → Cn θ l yX11_unit cX11_unit 3 (some .boolean) (29 + nr) 0 0 [.ref (be θ + 565)] σ (some (.int r.1), r.2))  {x1 : Int32} {x2 : Int32} {r : Int32 × Mem}  (τ : Mem) (z3 : Int32) (x : (Mem × Int32) ⊕ (Int32 × Mem)) (h : f_Model_part_L18 rc x1 x2 (τ, z3) = some x) (hk : Sum.elim (fun a => @Prod.casesOn (Mem) (Int32) (fun _ => Prop) a fun τ z3 => GB θ p l e (29 + nr + 1) s m args below meth c 5 (some (.int r.1), r.2) 18 [(0, .ref (be θ + 565)), (1, .int x1), (2, .int x2), (3, .int z3)] [] τ) (fun b => b = r) x) : GB θ p l e (29 + nr + 1) s m args below meth c 5 (some (.int r.1), r.2) 18 [(0, .ref (be θ + 565)), (1, .int x1), (2, .int x2), (3, .int z3)] [] τ := by
  unfold f_Model_part_L18 at h
  dsimp only at h
  refine g_aload_n X dX11_part_18 rfl 0 rfl ?_
  refine g_get X fl_RX11_144 dX11_part_19 kd_565 (v := .int (mI τ 565 11)) rfl ?_
  refine g_iconst X dX11_part_22 (v := (-1 : Int32)) ic_m1 ?_
  refine g_icmp_ne (tgt := 69) X dX11_part_23 (by decide) (fun c3 => ?_) (fun c3 => ?_)
  · replace h := (if_neg c3).symm.trans h
    refine g_iload_n X dX11_part_69 rfl 3 rfl ?_
    obtain ⟨g4, h⟩ := ite_some h
    have hk := inr_hk h hk
    have hk : (z3, τ) = r := hk
    subst hk
    exact g_zret X hr hlk (bzb_bz g4) dX11_part_70 rfl
  · replace h := (if_pos c3).symm.trans h
    refine g_aload_n X dX11_part_26 rfl 0 rfl ?_
    obtain ⟨q5, hq5, h⟩ := Option.bind_eq_some_iff.mp h
    refine g_cV X (c_Model_look  hq5) lk_RX11_154 my_X11_look (a := 565) (ci := 11) kd_565 (by decide) rfl (As := []) (rest := []) rfl rfl (Nat.le_of_ble_eq_true rfl) ⟨(by show 0 + 1 ≤ 29 + nr + 1; omega), (by show 8 + (1 + 11) + 40 * 0 ≤ 40 * (29 + nr + 1); omega)⟩ ⟨(Nat.le_of_ble_eq_true rfl), (Nat.le_of_ble_eq_true rfl)⟩ dX11_part_27 (st' := [.int q5.1]) (σ' := q5.2) rfl rfl ?_
    refine g_bipush X dX11_part_30 (v := (38 : Int32)) bp_38 ?_
    refine g_icmp_ne (tgt := 69) X dX11_part_32 (by decide) (fun c6 => ?_) (fun c6 => ?_)
    · replace h := (if_neg c6).symm.trans h
      refine g_iload_n X dX11_part_69 rfl 3 rfl ?_
      obtain ⟨g7, h⟩ := ite_some h
      have hk := inr_hk h hk
      have hk : (z3, q5.2) = r := hk
      subst hk
      exact g_zret X hr hlk (bzb_bz g7) dX11_part_70 rfl
    · replace h := (if_pos c6).symm.trans h
      refine g_aload_n X dX11_part_35 rfl 0 rfl ?_
      refine g_dup X dX11_part_36 rfl ?_
      refine g_get X fl_RX11_135 dX11_part_37 kd_565 (v := .int (mI q5.2 565 10)) rfl ?_
      refine g_iconst X dX11_part_40 (v := (1 : Int32)) ic_1 ?_
      refine g_iadd X dX11_part_41 ?_
      refine g_putI X fl_RX11_135 dX11_part_42 kd_565 rfl rfl rfl ?_
      refine g_aload_n X dX11_part_45 rfl 0 rfl ?_
      obtain ⟨q8, hq8, h⟩ := Option.bind_eq_some_iff.mp h
      refine g_cV X (hrec2  hq8) lk_RX11_200 my_X11_unit (a := 565) (ci := 11) kd_565 (by decide) rfl (As := []) (rest := []) rfl rfl (Nat.le_of_ble_eq_true rfl) ⟨Nat.le_refl _, (by show 8 + (3 + 11) + 40 * (29 + nr) ≤ 40 * (29 + nr + 1); omega)⟩ ⟨(Nat.le_of_ble_eq_true rfl), (Nat.le_of_ble_eq_true rfl)⟩ dX11_part_46 (st' := [.int q8.1]) (σ' := q8.2) rfl rfl ?_
      refine g_istore X dX11_part_49 (by decide) (lv' := [(4, .int q8.1), (0, .ref (be θ + 565)), (1, .int x1), (2, .int x2), (3, .int z3)]) rfl ?_
      refine g_iload_n X dX11_part_51 rfl 4 rfl ?_
      refine g_if_eq (tgt := 64) X dX11_part_52 (by decide) (fun c9 => ?_) (fun c9 => ?_)
      · replace h := (if_pos c9).symm.trans h
        refine g_iconst X dX11_part_64 (v := (0 : Int32)) ic_0 ?_
        refine g_istore_n X dX11_part_65 rfl (by decide) (lv' := [(3, .int (0 : Int32)), (4, .int q8.1), (0, .ref (be θ + 565)), (1, .int x1), (2, .int x2)]) rfl ?_
        refine g_goto (tgt := 18) X dX11_part_66 (by decide) ?_
        have hk := inl_hk h hk
        exact g_sub (lv' := [(0, .ref (be θ + 565)), (1, .int x1), (2, .int x2), (3, .int (0 : Int32))]) [2, 3, 4, 0] rfl hk
      · replace h := (if_neg c9).symm.trans h
        refine g_iload X dX11_part_55 0 rfl ?_
        refine g_if_eq (tgt := 64) X dX11_part_57 (by decide) (fun c10 => ?_) (fun c10 => ?_)
        · replace h := (if_pos c10).symm.trans h
          refine g_iconst X dX11_part_64 (v := (0 : Int32)) ic_0 ?_
          refine g_istore_n X dX11_part_65 rfl (by decide) (lv' := [(3, .int (0 : Int32)), (4, .int q8.1), (0, .ref (be θ + 565)), (1, .int x1), (2, .int x2)]) rfl ?_
          refine g_goto (tgt := 18) X dX11_part_66 (by decide) ?_
          have hk := inl_hk h hk
          exact g_sub (lv' := [(0, .ref (be θ + 565)), (1, .int x1), (2, .int x2), (3, .int (0 : Int32))]) [2, 3, 4, 0] rfl hk
        · replace h := (if_neg c10).symm.trans h
          refine g_iconst X dX11_part_60 (v := (1 : Int32)) ic_1 ?_
          refine g_goto (tgt := 65) X dX11_part_61 (by decide) ?_
          refine g_istore_n X dX11_part_65 rfl (by decide) (lv' := [(3, .int (1 : Int32)), (4, .int q8.1), (0, .ref (be θ + 565)), (1, .int x1), (2, .int x2)]) rfl ?_
          refine g_goto (tgt := 18) X dX11_part_66 (by decide) ?_
          have hk := inl_hk h hk
          exact g_sub (lv' := [(0, .ref (be θ + 565)), (1, .int x1), (2, .int x2), (3, .int (1 : Int32))]) [2, 3, 4, 0] rfl hk
set_option maxHeartbeats 4000000 in
set_option maxRecDepth 20000 in
theorem gl_Model_part_L18 (X : Cx θ p s m args c cX11_part 5 RX11) (hr : meth.sig.returnType = some .boolean) (hlk : meth.locks = false) {rc : Nat → Mem → Int32 → Int32 → Option (Int32 × Mem)} {nr : Nat} (hrec0 : ∀ {σ : Mem} {x1 : Int32} {x2 : Int32} {r : Int32 × Mem}, rc 0 σ x1 x2 = some r → Cn θ l yX11_condition cX11_condition 5 (some .boolean) (29 + nr) 0 0 [.ref (be θ + 565), .int x1, .int x2] σ (some (.int r.1), r.2)) (hrec1 : ∀ {σ : Mem} {x1 : Int32} {x2 : Int32} {r : Int32 × Mem}, rc 1 σ x1 x2 = some r → Cn θ l yX11_part cX11_part 5 (some .boolean) (29 + nr) 0 0 [.ref (be θ + 565), .int x1, .int x2] σ (some (.int r.1), r.2)) (hrec2 : ∀ {σ : Mem}  {r : Int32 × Mem}, rc 2 σ 0 0 = some r → Cn θ l yX11_unit cX11_unit 3 (some .boolean) (29 + nr) 0 0 [.ref (be θ + 565)] σ (some (.int r.1), r.2))  {x1 : Int32} {x2 : Int32} {r : Int32 × Mem}  (n : Nat) (a : Mem × Int32) (b : Int32 × Mem) (h : loopF (f_Model_part_L18 rc x1 x2) n a = some b) (hk : (fun b => b = r) b) : (fun a => @Prod.casesOn (Mem) (Int32) (fun _ => Prop) a fun τ z3 => GB θ p l e (29 + nr + 1) s m args below meth c 5 (some (.int r.1), r.2) 18 [(0, .ref (be θ + 565)), (1, .int x1), (2, .int x2), (3, .int z3)] [] τ) a :=
  loopF_by (P := (fun a => @Prod.casesOn (Mem) (Int32) (fun _ => Prop) a fun τ z3 => GB θ p l e (29 + nr + 1) s m args below meth c 5 (some (.int r.1), r.2) 18 [(0, .ref (be θ + 565)), (1, .int x1), (2, .int x2), (3, .int z3)] [] τ)) (K := (fun b => b = r)) (fun a x h hk => by obtain ⟨τ, z3⟩ := a; exact gs_Model_part_L18 X hr hlk hrec0 hrec1 hrec2  τ z3 x h hk) n a b h hk
set_option maxHeartbeats 4000000 in
set_option maxRecDepth 20000 in
theorem g_Model_part (X : Cx θ p s m args c cX11_part 5 RX11) (hr : meth.sig.returnType = some .boolean) (hlk : meth.locks = false) {rc : Nat → Mem → Int32 → Int32 → Option (Int32 × Mem)} {nr : Nat} (hrec0 : ∀ {σ : Mem} {x1 : Int32} {x2 : Int32} {r : Int32 × Mem}, rc 0 σ x1 x2 = some r → Cn θ l yX11_condition cX11_condition 5 (some .boolean) (29 + nr) 0 0 [.ref (be θ + 565), .int x1, .int x2] σ (some (.int r.1), r.2)) (hrec1 : ∀ {σ : Mem} {x1 : Int32} {x2 : Int32} {r : Int32 × Mem}, rc 1 σ x1 x2 = some r → Cn θ l yX11_part cX11_part 5 (some .boolean) (29 + nr) 0 0 [.ref (be θ + 565), .int x1, .int x2] σ (some (.int r.1), r.2)) (hrec2 : ∀ {σ : Mem}  {r : Int32 × Mem}, rc 2 σ 0 0 = some r → Cn θ l yX11_unit cX11_unit 3 (some .boolean) (29 + nr) 0 0 [.ref (be θ + 565)] σ (some (.int r.1), r.2))  {σ : Mem} {x1 : Int32} {x2 : Int32} {r : Int32 × Mem}  (h : f_Model_part rc σ x1 x2 = some r) : GB θ p l e (29 + nr + 1) s m args below meth c 5 (some (.int r.1), r.2) 0 [(0, .ref (be θ + 565)), (1, .int x1), (2, .int x2)] [] σ := by
  unfold f_Model_part at h
  refine g_iload_n X dX11_part_0 rfl 1 rfl ?_
  refine g_if_eq (tgt := 13) X dX11_part_1 (by decide) (fun c1 => ?_) (fun c1 => ?_)
  · replace h := (if_pos c1).symm.trans h
    refine g_aload_n X dX11_part_13 rfl 0 rfl ?_
    obtain ⟨q2, hq2, h⟩ := Option.bind_eq_some_iff.mp h
    refine g_cV X (hrec2  hq2) lk_RX11_200 my_X11_unit (a := 565) (ci := 11) kd_565 (by decide) rfl (As := []) (rest := []) rfl rfl (Nat.le_of_ble_eq_true rfl) ⟨Nat.le_refl _, (by show 8 + (3 + 11) + 40 * (29 + nr) ≤ 40 * (29 + nr + 1); omega)⟩ ⟨(Nat.le_of_ble_eq_true rfl), (Nat.le_of_ble_eq_true rfl)⟩ dX11_part_14 (st' := [.int q2.1]) (σ' := q2.2) rfl rfl ?_
    refine g_istore_n X dX11_part_17 rfl (by decide) (lv' := [(3, .int q2.1), (0, .ref (be θ + 565)), (1, .int x1), (2, .int x2)]) rfl ?_
    exact g_sub (lv' := [(0, .ref (be θ + 565)), (1, .int x1), (2, .int x2), (3, .int q2.1)]) [1, 2, 3, 0] rfl (gl_Model_part_L18 X hr hlk hrec0 hrec1 hrec2   FU _ _ h rfl)
  · replace h := (if_neg c1).symm.trans h
    refine g_aload_n X dX11_part_4 rfl 0 rfl ?_
    refine g_iconst X dX11_part_5 (v := (1 : Int32)) ic_1 ?_
    refine g_iload_n X dX11_part_6 rfl 2 rfl ?_
    obtain ⟨q11, hq11, h⟩ := Option.bind_eq_some_iff.mp h
    refine g_cV X (c_Model_compares  hq11) lk_RX11_207 my_X11_compares (a := 565) (ci := 11) kd_565 (by decide) rfl (As := [.int (1 : Int32), .int x2]) (rest := []) rfl rfl (Nat.le_of_ble_eq_true rfl) ⟨(by show 29 + 1 ≤ 29 + nr + 1; omega), (by show 8 + (6 + 11) + 40 * 29 ≤ 40 * (29 + nr + 1); omega)⟩ ⟨(Nat.le_of_ble_eq_true rfl), (Nat.le_of_ble_eq_true rfl)⟩ dX11_part_7 (st' := [.int q11.1]) (σ' := q11.2) rfl rfl ?_
    refine g_goto (tgt := 17) X dX11_part_10 (by decide) ?_
    refine g_istore_n X dX11_part_17 rfl (by decide) (lv' := [(3, .int q11.1), (0, .ref (be θ + 565)), (1, .int x1), (2, .int x2)]) rfl ?_
    exact g_sub (lv' := [(0, .ref (be θ + 565)), (1, .int x1), (2, .int x2), (3, .int q11.1)]) [1, 2, 3, 0] rfl (gl_Model_part_L18 X hr hlk hrec0 hrec1 hrec2   FU _ _ h rfl)
def f_Model_unit (rc : Nat → Mem → Int32 → Int32 → Option (Int32 × Mem)) (σ : Mem)  : Option (Int32 × Mem) :=
  (f_Model_look σ).bind fun q1 =>
  if q1.1 = (33 : Int32) then
    (f_Model_goesIn q1.2).bind fun q12 =>
    if q12.1 = (0 : Int32) then
      some ((0 : Int32), q12.2)
    else
      (rc 2 q12.2 0 0).bind fun q14 =>
      if q14.1 = (0 : Int32) then
        some ((1 : Int32), (sI q14.2 565 12 ((mI q14.2 565 12) - (1 : Int32))))
      else
        some ((0 : Int32), (sI q14.2 565 12 ((mI q14.2 565 12) - (1 : Int32))))
  else
    if q1.1 = (40 : Int32) then
      (f_Model_goesIn q1.2).bind fun q6 =>
      if q6.1 = (0 : Int32) then
        some ((0 : Int32), q6.2)
      else
        (rc 0 q6.2 (0 : Int32) (0 : Int32)).bind fun q8 =>
        (f_Model_takes q8.2 (41 : Int32)).bind fun q9 =>
        if q9.1 = (0 : Int32) then
          some ((0 : Int32), q9.2)
        else
          if bzb q8.1 then
            some (q8.1, (sI q9.2 565 12 ((mI q9.2 565 12) - (1 : Int32))))
          else none
    else
      (f_Model_compares q1.2 (0 : Int32) (0 : Int32)).bind fun q4 =>
      if bzb q4.1 then
        some (q4.1, q4.2)
      else none
set_option maxHeartbeats 4000000 in
set_option maxRecDepth 20000 in
theorem g_Model_unit (X : Cx θ p s m args c cX11_unit 3 RX11) (hr : meth.sig.returnType = some .boolean) (hlk : meth.locks = false) {rc : Nat → Mem → Int32 → Int32 → Option (Int32 × Mem)} {nr : Nat} (hrec0 : ∀ {σ : Mem} {x1 : Int32} {x2 : Int32} {r : Int32 × Mem}, rc 0 σ x1 x2 = some r → Cn θ l yX11_condition cX11_condition 5 (some .boolean) (29 + nr) 0 0 [.ref (be θ + 565), .int x1, .int x2] σ (some (.int r.1), r.2)) (hrec1 : ∀ {σ : Mem} {x1 : Int32} {x2 : Int32} {r : Int32 × Mem}, rc 1 σ x1 x2 = some r → Cn θ l yX11_part cX11_part 5 (some .boolean) (29 + nr) 0 0 [.ref (be θ + 565), .int x1, .int x2] σ (some (.int r.1), r.2)) (hrec2 : ∀ {σ : Mem}  {r : Int32 × Mem}, rc 2 σ 0 0 = some r → Cn θ l yX11_unit cX11_unit 3 (some .boolean) (29 + nr) 0 0 [.ref (be θ + 565)] σ (some (.int r.1), r.2))  {σ : Mem}  {r : Int32 × Mem}  (h : f_Model_unit rc σ  = some r) : GB θ p l e (29 + nr + 1) s m args below meth c 3 (some (.int r.1), r.2) 0 [(0, .ref (be θ + 565))] [] σ := by
  unfold f_Model_unit at h
  refine g_aload_n X dX11_unit_0 rfl 0 rfl ?_
  obtain ⟨q1, hq1, h⟩ := Option.bind_eq_some_iff.mp h
  refine g_cV X (c_Model_look  hq1) lk_RX11_154 my_X11_look (a := 565) (ci := 11) kd_565 (by decide) rfl (As := []) (rest := []) rfl rfl (Nat.le_of_ble_eq_true rfl) ⟨(by show 0 + 1 ≤ 29 + nr + 1; omega), (by show 8 + (1 + 11) + 40 * 0 ≤ 40 * (29 + nr + 1); omega)⟩ ⟨(Nat.le_of_ble_eq_true rfl), (Nat.le_of_ble_eq_true rfl)⟩ dX11_unit_1 (st' := [.int q1.1]) (σ' := q1.2) rfl rfl ?_
  refine g_istore_n X dX11_unit_4 rfl (by decide) (lv' := [(1, .int q1.1), (0, .ref (be θ + 565))]) rfl ?_
  refine g_iload_n X dX11_unit_5 rfl 0 rfl ?_
  refine g_bipush X dX11_unit_6 (v := (33 : Int32)) bp_33 ?_
  refine g_icmp_ne (tgt := 45) X dX11_unit_8 (by decide) (fun c2 => ?_) (fun c2 => ?_)
  · replace h := (if_neg c2).symm.trans h
    refine g_iload_n X dX11_unit_45 rfl 0 rfl ?_
    refine g_bipush X dX11_unit_46 (v := (40 : Int32)) bp_40 ?_
    refine g_icmp_ne (tgt := 90) X dX11_unit_48 (by decide) (fun c3 => ?_) (fun c3 => ?_)
    · replace h := (if_neg c3).symm.trans h
      refine g_aload_n X dX11_unit_90 rfl 1 rfl ?_
      refine g_iconst X dX11_unit_91 (v := (0 : Int32)) ic_0 ?_
      refine g_iconst X dX11_unit_92 (v := (0 : Int32)) ic_0 ?_
      obtain ⟨q4, hq4, h⟩ := Option.bind_eq_some_iff.mp h
      refine g_cV X (c_Model_compares  hq4) lk_RX11_207 my_X11_compares (a := 565) (ci := 11) kd_565 (by decide) rfl (As := [.int (0 : Int32), .int (0 : Int32)]) (rest := []) rfl rfl (Nat.le_of_ble_eq_true rfl) ⟨(by show 29 + 1 ≤ 29 + nr + 1; omega), (by show 8 + (6 + 11) + 40 * 29 ≤ 40 * (29 + nr + 1); omega)⟩ ⟨(Nat.le_of_ble_eq_true rfl), (Nat.le_of_ble_eq_true rfl)⟩ dX11_unit_93 (st' := [.int q4.1]) (σ' := q4.2) rfl rfl ?_
      obtain ⟨g5, h⟩ := ite_some h
      exact g_zret X hr hlk (bzb_bz g5) dX11_unit_96 (by cases h; rfl)
    · replace h := (if_pos c3).symm.trans h
      refine g_aload_n X dX11_unit_51 rfl 1 rfl ?_
      obtain ⟨q6, hq6, h⟩ := Option.bind_eq_some_iff.mp h
      refine g_cV X (c_Model_goesIn  hq6) lk_RX11_174 my_X11_goesIn (a := 565) (ci := 11) kd_565 (by decide) rfl (As := []) (rest := []) rfl rfl (Nat.le_of_ble_eq_true rfl) ⟨(by show 1 + 1 ≤ 29 + nr + 1; omega), (by show 8 + (1 + 11) + 40 * 1 ≤ 40 * (29 + nr + 1); omega)⟩ ⟨(Nat.le_of_ble_eq_true rfl), (Nat.le_of_ble_eq_true rfl)⟩ dX11_unit_52 (st' := [.int q6.1]) (σ' := q6.2) rfl rfl ?_
      refine g_if_ne (tgt := 60) X dX11_unit_55 (by decide) (fun c7 => ?_) (fun c7 => ?_)
      · replace h := (if_neg c7).symm.trans h
        refine g_aload_n X dX11_unit_60 rfl 1 rfl ?_
        refine g_iconst X dX11_unit_61 (v := (0 : Int32)) ic_0 ?_
        refine g_iconst X dX11_unit_62 (v := (0 : Int32)) ic_0 ?_
        obtain ⟨q8, hq8, h⟩ := Option.bind_eq_some_iff.mp h
        refine g_cV X (hrec0  hq8) lk_RX11_203 my_X11_condition (a := 565) (ci := 11) kd_565 (by decide) rfl (As := [.int (0 : Int32), .int (0 : Int32)]) (rest := []) rfl rfl (Nat.le_of_ble_eq_true rfl) ⟨Nat.le_refl _, (by show 8 + (5 + 11) + 40 * (29 + nr) ≤ 40 * (29 + nr + 1); omega)⟩ ⟨(Nat.le_of_ble_eq_true rfl), (Nat.le_of_ble_eq_true rfl)⟩ dX11_unit_63 (st' := [.int q8.1]) (σ' := q8.2) rfl rfl ?_
        refine g_istore_n X dX11_unit_66 rfl (by decide) (lv' := [(2, .int q8.1), (1, .int q1.1), (0, .ref (be θ + 565))]) rfl ?_
        refine g_aload_n X dX11_unit_67 rfl 2 rfl ?_
        refine g_bipush X dX11_unit_68 (v := (41 : Int32)) bp_41 ?_
        obtain ⟨q9, hq9, h⟩ := Option.bind_eq_some_iff.mp h
        refine g_cV X (c_Model_takes  hq9) lk_RX11_180 my_X11_takes (a := 565) (ci := 11) kd_565 (by decide) rfl (As := [.int (41 : Int32)]) (rest := []) rfl rfl (Nat.le_of_ble_eq_true rfl) ⟨(by show 1 + 1 ≤ 29 + nr + 1; omega), (by show 8 + (2 + 11) + 40 * 1 ≤ 40 * (29 + nr + 1); omega)⟩ ⟨(Nat.le_of_ble_eq_true rfl), (Nat.le_of_ble_eq_true rfl)⟩ dX11_unit_70 (st' := [.int q9.1]) (σ' := q9.2) rfl rfl ?_
        refine g_if_ne (tgt := 78) X dX11_unit_73 (by decide) (fun c10 => ?_) (fun c10 => ?_)
        · replace h := (if_neg c10).symm.trans h
          refine g_aload_n X dX11_unit_78 rfl 2 rfl ?_
          refine g_dup X dX11_unit_79 rfl ?_
          refine g_get X fl_RX11_147 dX11_unit_80 kd_565 (v := .int (mI q9.2 565 12)) rfl ?_
          refine g_iconst X dX11_unit_83 (v := (1 : Int32)) ic_1 ?_
          refine g_isub X dX11_unit_84 ?_
          refine g_putI X fl_RX11_147 dX11_unit_85 kd_565 rfl rfl rfl ?_
          refine g_iload_n X dX11_unit_88 rfl 0 rfl ?_
          obtain ⟨g11, h⟩ := ite_some h
          exact g_zret X hr hlk (bzb_bz g11) dX11_unit_89 (by cases h; rfl)
        · replace h := (if_pos c10).symm.trans h
          refine g_iconst X dX11_unit_76 (v := (0 : Int32)) ic_0 ?_
          exact g_zret X hr hlk bz0 dX11_unit_77 (by cases h; rfl)
      · replace h := (if_pos c7).symm.trans h
        refine g_iconst X dX11_unit_58 (v := (0 : Int32)) ic_0 ?_
        exact g_zret X hr hlk bz0 dX11_unit_59 (by cases h; rfl)
  · replace h := (if_pos c2).symm.trans h
    refine g_aload_n X dX11_unit_11 rfl 1 rfl ?_
    obtain ⟨q12, hq12, h⟩ := Option.bind_eq_some_iff.mp h
    refine g_cV X (c_Model_goesIn  hq12) lk_RX11_174 my_X11_goesIn (a := 565) (ci := 11) kd_565 (by decide) rfl (As := []) (rest := []) rfl rfl (Nat.le_of_ble_eq_true rfl) ⟨(by show 1 + 1 ≤ 29 + nr + 1; omega), (by show 8 + (1 + 11) + 40 * 1 ≤ 40 * (29 + nr + 1); omega)⟩ ⟨(Nat.le_of_ble_eq_true rfl), (Nat.le_of_ble_eq_true rfl)⟩ dX11_unit_12 (st' := [.int q12.1]) (σ' := q12.2) rfl rfl ?_
    refine g_if_ne (tgt := 20) X dX11_unit_15 (by decide) (fun c13 => ?_) (fun c13 => ?_)
    · replace h := (if_neg c13).symm.trans h
      refine g_aload_n X dX11_unit_20 rfl 1 rfl ?_
      obtain ⟨q14, hq14, h⟩ := Option.bind_eq_some_iff.mp h
      refine g_cV X (hrec2  hq14) lk_RX11_200 my_X11_unit (a := 565) (ci := 11) kd_565 (by decide) rfl (As := []) (rest := []) rfl rfl (Nat.le_of_ble_eq_true rfl) ⟨Nat.le_refl _, (by show 8 + (3 + 11) + 40 * (29 + nr) ≤ 40 * (29 + nr + 1); omega)⟩ ⟨(Nat.le_of_ble_eq_true rfl), (Nat.le_of_ble_eq_true rfl)⟩ dX11_unit_21 (st' := [.int q14.1]) (σ' := q14.2) rfl rfl ?_
      refine g_istore_n X dX11_unit_24 rfl (by decide) (lv' := [(2, .int q14.1), (1, .int q1.1), (0, .ref (be θ + 565))]) rfl ?_
      refine g_aload_n X dX11_unit_25 rfl 2 rfl ?_
      refine g_dup X dX11_unit_26 rfl ?_
      refine g_get X fl_RX11_147 dX11_unit_27 kd_565 (v := .int (mI q14.2 565 12)) rfl ?_
      refine g_iconst X dX11_unit_30 (v := (1 : Int32)) ic_1 ?_
      refine g_isub X dX11_unit_31 ?_
      refine g_putI X fl_RX11_147 dX11_unit_32 kd_565 rfl rfl rfl ?_
      refine g_iload_n X dX11_unit_35 rfl 0 rfl ?_
      refine g_if_ne (tgt := 43) X dX11_unit_36 (by decide) (fun c15 => ?_) (fun c15 => ?_)
      · replace h := (if_neg c15).symm.trans h
        refine g_iconst X dX11_unit_43 (v := (0 : Int32)) ic_0 ?_
        exact g_zret X hr hlk bz0 dX11_unit_44 (by cases h; rfl)
      · replace h := (if_pos c15).symm.trans h
        refine g_iconst X dX11_unit_39 (v := (1 : Int32)) ic_1 ?_
        refine g_goto (tgt := 44) X dX11_unit_40 (by decide) ?_
        exact g_zret X hr hlk bz1 dX11_unit_44 (by cases h; rfl)
    · replace h := (if_pos c13).symm.trans h
      refine g_iconst X dX11_unit_18 (v := (0 : Int32)) ic_0 ?_
      exact g_zret X hr hlk bz0 dX11_unit_19 (by cases h; rfl)
def f_MC : Nat → Nat → Mem → Int32 → Int32 → Option (Int32 × Mem)
  | 0 => fun _ _ _ _ => none
  | n + 1 => fun no σ z0 z1 => if no = 0 then f_Model_condition (f_MC n) σ z0 z1 else if no = 1 then f_Model_part (f_MC n) σ z0 z1 else f_Model_unit (f_MC n) σ 
set_option maxHeartbeats 4000000 in
set_option maxRecDepth 100000 in
theorem a_MC {θ : Th} {l : Launch} : ∀ n : Nat, (∀ {σ : Mem} {x1 : Int32} {x2 : Int32} {r : Int32 × Mem}, f_MC n 0 σ x1 x2 = some r → Cn θ l yX11_condition cX11_condition 5 (some .boolean) (29 + n) 0 0 [.ref (be θ + 565), .int x1, .int x2] σ (some (.int r.1), r.2)) ∧ (∀ {σ : Mem} {x1 : Int32} {x2 : Int32} {r : Int32 × Mem}, f_MC n 1 σ x1 x2 = some r → Cn θ l yX11_part cX11_part 5 (some .boolean) (29 + n) 0 0 [.ref (be θ + 565), .int x1, .int x2] σ (some (.int r.1), r.2)) ∧ (∀ {σ : Mem}  {r : Int32 × Mem}, f_MC n 2 σ 0 0 = some r → Cn θ l yX11_unit cX11_unit 3 (some .boolean) (29 + n) 0 0 [.ref (be θ + 565)] σ (some (.int r.1), r.2)) := by
  intro n
  induction n with
  | zero =>
    refine ⟨?_, ?_, ?_⟩
    · intro σ x1 x2 r  h
      cases h
    · intro σ x1 x2 r  h
      cases h
    · intro σ  r  h
      cases h
  | succ n ih =>
    obtain ⟨i0, i1, i2⟩ := ih
    refine ⟨?_, ?_, ?_⟩
    · intro σ x1 x2 r  h
      exact Cn.of (by decide) (Nat.le_of_ble_eq_true rfl) (fun p e s m below meth c X hr hlk => g_Model_condition (nr := n) (rc := f_MC n) X hr hlk i0 i1 i2  h)
    · intro σ x1 x2 r  h
      exact Cn.of (by decide) (Nat.le_of_ble_eq_true rfl) (fun p e s m below meth c X hr hlk => g_Model_part (nr := n) (rc := f_MC n) X hr hlk i0 i1 i2  h)
    · intro σ  r  h
      exact Cn.of (by decide) (Nat.le_of_ble_eq_true rfl) (fun p e s m below meth c X hr hlk => g_Model_unit (nr := n) (rc := f_MC n) X hr hlk i0 i1 i2  h)
set_option maxRecDepth 100000 in
theorem c_MC_0 {θ : Th} {l : Launch} : ∀ {σ : Mem} {x1 : Int32} {x2 : Int32} {r : Int32 × Mem}, f_MC 30 0 σ x1 x2 = some r → Cn θ l yX11_condition cX11_condition 5 (some .boolean) 59 0 0 [.ref (be θ + 565), .int x1, .int x2] σ (some (.int r.1), r.2) := (a_MC 30).1
set_option maxRecDepth 100000 in
theorem c_MC_1 {θ : Th} {l : Launch} : ∀ {σ : Mem} {x1 : Int32} {x2 : Int32} {r : Int32 × Mem}, f_MC 30 1 σ x1 x2 = some r → Cn θ l yX11_part cX11_part 5 (some .boolean) 59 0 0 [.ref (be θ + 565), .int x1, .int x2] σ (some (.int r.1), r.2) := (a_MC 30).2.1
set_option maxRecDepth 100000 in
theorem c_MC_2 {θ : Th} {l : Launch} : ∀ {σ : Mem}  {r : Int32 × Mem}, f_MC 30 2 σ 0 0 = some r → Cn θ l yX11_unit cX11_unit 3 (some .boolean) 59 0 0 [.ref (be θ + 565)] σ (some (.int r.1), r.2) := (a_MC 30).2.2
theorem dX11_clause_0 : decode cX11_clause 0 = .ok (.aload_n 0, 1) := by decide +kernel
theorem dX11_clause_1 : decode cX11_clause 1 = .ok (.invokevirtual 154, 3) := by decide +kernel
theorem dX11_clause_4 : decode cX11_clause 4 = .ok (.istore_n 1, 1) := by decide +kernel
theorem dX11_clause_5 : decode cX11_clause 5 = .ok (.ldc 26, 2) := by decide +kernel
theorem dX11_clause_7 : decode cX11_clause 7 = .ok (.iload_n 1, 1) := by decide +kernel
theorem dX11_clause_8 : decode cX11_clause 8 = .ok (.invokestatic 170, 3) := by decide +kernel
theorem dX11_clause_11 : decode cX11_clause 11 = .ok (.ifCond .ne 9, 3) := by decide +kernel
theorem dX11_clause_14 : decode cX11_clause 14 = .ok (.aload_n 0, 1) := by decide +kernel
theorem dX11_clause_15 : decode cX11_clause 15 = .ok (.invokevirtual 150, 3) := by decide +kernel
theorem dX11_clause_18 : decode cX11_clause 18 = .ok (.pop, 1) := by decide +kernel
theorem dX11_clause_19 : decode cX11_clause 19 = .ok (.return_, 1) := by decide +kernel
theorem dX11_clause_20 : decode cX11_clause 20 = .ok (.aload_n 0, 1) := by decide +kernel
theorem dX11_clause_21 : decode cX11_clause 21 = .ok (.dup, 1) := by decide +kernel
theorem dX11_clause_22 : decode cX11_clause 22 = .ok (.getfield 135, 3) := by decide +kernel
theorem dX11_clause_25 : decode cX11_clause 25 = .ok (.iconst 1, 1) := by decide +kernel
theorem dX11_clause_26 : decode cX11_clause 26 = .ok (.iadd, 1) := by decide +kernel
theorem dX11_clause_27 : decode cX11_clause 27 = .ok (.putfield 135, 3) := by decide +kernel
theorem dX11_clause_30 : decode cX11_clause 30 = .ok (.aload_n 0, 1) := by decide +kernel
theorem dX11_clause_31 : decode cX11_clause 31 = .ok (.bipush 58, 2) := by decide +kernel
theorem dX11_clause_33 : decode cX11_clause 33 = .ok (.invokevirtual 180, 3) := by decide +kernel
theorem dX11_clause_36 : decode cX11_clause 36 = .ok (.ifCond .ne 4, 3) := by decide +kernel
theorem dX11_clause_39 : decode cX11_clause 39 = .ok (.return_, 1) := by decide +kernel
theorem dX11_clause_40 : decode cX11_clause 40 = .ok (.iconst 1, 1) := by decide +kernel
theorem dX11_clause_41 : decode cX11_clause 41 = .ok (.istore_n 2, 1) := by decide +kernel
theorem dX11_clause_42 : decode cX11_clause 42 = .ok (.iconst 0, 1) := by decide +kernel
theorem dX11_clause_43 : decode cX11_clause 43 = .ok (.istore_n 3, 1) := by decide +kernel
theorem dX11_clause_44 : decode cX11_clause 44 = .ok (.aload_n 0, 1) := by decide +kernel
theorem dX11_clause_45 : decode cX11_clause 45 = .ok (.invokevirtual 154, 3) := by decide +kernel
theorem dX11_clause_48 : decode cX11_clause 48 = .ok (.istore 4, 2) := by decide +kernel
theorem dX11_clause_50 : decode cX11_clause 50 = .ok (.iload 4, 2) := by decide +kernel
theorem dX11_clause_52 : decode cX11_clause 52 = .ok (.bipush 33, 2) := by decide +kernel
theorem dX11_clause_54 : decode cX11_clause 54 = .ok (.if_icmp .eq 10, 3) := by decide +kernel
theorem dX11_clause_57 : decode cX11_clause 57 = .ok (.iload 4, 2) := by decide +kernel
theorem dX11_clause_59 : decode cX11_clause 59 = .ok (.bipush 40, 2) := by decide +kernel
theorem dX11_clause_61 : decode cX11_clause 61 = .ok (.if_icmp .ne 28, 3) := by decide +kernel
theorem dX11_clause_64 : decode cX11_clause 64 = .ok (.aload_n 0, 1) := by decide +kernel
theorem dX11_clause_65 : decode cX11_clause 65 = .ok (.iconst 0, 1) := by decide +kernel
theorem dX11_clause_66 : decode cX11_clause 66 = .ok (.iconst 0, 1) := by decide +kernel
theorem dX11_clause_67 : decode cX11_clause 67 = .ok (.invokevirtual 203, 3) := by decide +kernel
theorem dX11_clause_70 : decode cX11_clause 70 = .ok (.istore_n 2, 1) := by decide +kernel
theorem dX11_clause_71 : decode cX11_clause 71 = .ok (.aload_n 0, 1) := by decide +kernel
theorem dX11_clause_72 : decode cX11_clause 72 = .ok (.bipush 63, 2) := by decide +kernel
theorem dX11_clause_74 : decode cX11_clause 74 = .ok (.invokevirtual 180, 3) := by decide +kernel
theorem dX11_clause_77 : decode cX11_clause 77 = .ok (.ifCond .ne 4, 3) := by decide +kernel
theorem dX11_clause_80 : decode cX11_clause 80 = .ok (.return_, 1) := by decide +kernel
theorem dX11_clause_81 : decode cX11_clause 81 = .ok (.aload_n 0, 1) := by decide +kernel
theorem dX11_clause_82 : decode cX11_clause 82 = .ok (.invokevirtual 177, 3) := by decide +kernel
theorem dX11_clause_85 : decode cX11_clause 85 = .ok (.istore_n 3, 1) := by decide +kernel
theorem dX11_clause_86 : decode cX11_clause 86 = .ok (.goto 48, 3) := by decide +kernel
theorem dX11_clause_89 : decode cX11_clause 89 = .ok (.aload_n 0, 1) := by decide +kernel
theorem dX11_clause_90 : decode cX11_clause 90 = .ok (.invokevirtual 177, 3) := by decide +kernel
theorem dX11_clause_93 : decode cX11_clause 93 = .ok (.istore_n 3, 1) := by decide +kernel
theorem dX11_clause_94 : decode cX11_clause 94 = .ok (.aload_n 0, 1) := by decide +kernel
theorem dX11_clause_95 : decode cX11_clause 95 = .ok (.getfield 144, 3) := by decide +kernel
theorem dX11_clause_98 : decode cX11_clause 98 = .ok (.iconst (-1), 1) := by decide +kernel
theorem dX11_clause_99 : decode cX11_clause 99 = .ok (.if_icmp .ne 35, 3) := by decide +kernel
theorem dX11_clause_102 : decode cX11_clause 102 = .ok (.aload_n 0, 1) := by decide +kernel
theorem dX11_clause_103 : decode cX11_clause 103 = .ok (.invokevirtual 154, 3) := by decide +kernel
theorem dX11_clause_106 : decode cX11_clause 106 = .ok (.invokestatic 197, 3) := by decide +kernel
theorem dX11_clause_109 : decode cX11_clause 109 = .ok (.ifCond .eq 25, 3) := by decide +kernel
theorem dX11_clause_112 : decode cX11_clause 112 = .ok (.aload_n 0, 1) := by decide +kernel
theorem dX11_clause_113 : decode cX11_clause 113 = .ok (.iconst 1, 1) := by decide +kernel
theorem dX11_clause_114 : decode cX11_clause 114 = .ok (.iload_n 3, 1) := by decide +kernel
theorem dX11_clause_115 : decode cX11_clause 115 = .ok (.invokevirtual 203, 3) := by decide +kernel
theorem dX11_clause_118 : decode cX11_clause 118 = .ok (.istore_n 2, 1) := by decide +kernel
theorem dX11_clause_119 : decode cX11_clause 119 = .ok (.aload_n 0, 1) := by decide +kernel
theorem dX11_clause_120 : decode cX11_clause 120 = .ok (.bipush 63, 2) := by decide +kernel
theorem dX11_clause_122 : decode cX11_clause 122 = .ok (.invokevirtual 180, 3) := by decide +kernel
theorem dX11_clause_125 : decode cX11_clause 125 = .ok (.ifCond .ne 4, 3) := by decide +kernel
theorem dX11_clause_128 : decode cX11_clause 128 = .ok (.return_, 1) := by decide +kernel
theorem dX11_clause_129 : decode cX11_clause 129 = .ok (.aload_n 0, 1) := by decide +kernel
theorem dX11_clause_130 : decode cX11_clause 130 = .ok (.invokevirtual 177, 3) := by decide +kernel
theorem dX11_clause_133 : decode cX11_clause 133 = .ok (.istore_n 3, 1) := by decide +kernel
theorem dX11_clause_134 : decode cX11_clause 134 = .ok (.aload_n 0, 1) := by decide +kernel
theorem dX11_clause_135 : decode cX11_clause 135 = .ok (.getfield 144, 3) := by decide +kernel
theorem dX11_clause_138 : decode cX11_clause 138 = .ok (.iconst (-1), 1) := by decide +kernel
theorem dX11_clause_139 : decode cX11_clause 139 = .ok (.if_icmp .ne 22, 3) := by decide +kernel
theorem dX11_clause_142 : decode cX11_clause 142 = .ok (.aload_n 0, 1) := by decide +kernel
theorem dX11_clause_143 : decode cX11_clause 143 = .ok (.getfield 213, 3) := by decide +kernel
theorem dX11_clause_146 : decode cX11_clause 146 = .ok (.ifCond .ne 15, 3) := by decide +kernel
theorem dX11_clause_149 : decode cX11_clause 149 = .ok (.iload_n 1, 1) := by decide +kernel
theorem dX11_clause_150 : decode cX11_clause 150 = .ok (.aload_n 0, 1) := by decide +kernel
theorem dX11_clause_151 : decode cX11_clause 151 = .ok (.getfield 217, 3) := by decide +kernel
theorem dX11_clause_154 : decode cX11_clause 154 = .ok (.if_icmp .ne 7, 3) := by decide +kernel
theorem dX11_clause_157 : decode cX11_clause 157 = .ok (.iload_n 2, 1) := by decide +kernel
theorem dX11_clause_158 : decode cX11_clause 158 = .ok (.ifCond .ne 4, 3) := by decide +kernel
theorem dX11_clause_161 : decode cX11_clause 161 = .ok (.return_, 1) := by decide +kernel
theorem dX11_clause_162 : decode cX11_clause 162 = .ok (.aload_n 0, 1) := by decide +kernel
theorem dX11_clause_163 : decode cX11_clause 163 = .ok (.iconst 1, 1) := by decide +kernel
theorem dX11_clause_164 : decode cX11_clause 164 = .ok (.putfield 213, 3) := by decide +kernel
theorem dX11_clause_167 : decode cX11_clause 167 = .ok (.aload_n 0, 1) := by decide +kernel
theorem dX11_clause_168 : decode cX11_clause 168 = .ok (.iload_n 3, 1) := by decide +kernel
theorem dX11_clause_169 : decode cX11_clause 169 = .ok (.putfield 220, 3) := by decide +kernel
theorem dX11_clause_172 : decode cX11_clause 172 = .ok (.return_, 1) := by decide +kernel
def f_Model_clause_J134 (σ : Mem) (y1 : Int32) (y2 : Int32) (y3 : Int32) : Option (Mem) :=
  if (mI σ 565 11) = (-1 : Int32) then
    if (mI σ 565 17) = (0 : Int32) then
      if y1 = (mI σ 565 13) then
        if y2 = (0 : Int32) then
          some σ
        else
          some (sI (sI σ 565 17 (1 : Int32)) 565 14 y3)
      else
        some σ
    else
      some σ
  else
    some σ
def f_Model_clause_J64 (σ : Mem) (y1 : Int32) : Option (Mem) :=
  (f_MC 30 0 σ (0 : Int32) (0 : Int32)).bind fun q8 =>
  (f_Model_takes q8.2 (63 : Int32)).bind fun q9 =>
  if q9.1 = (0 : Int32) then
    some q9.2
  else
    (f_MS 24 0 q9.2).bind fun q11 =>
    f_Model_clause_J134 q11.2 y1 q8.1 q11.1
def f_Model_clause (σ : Mem)  : Option (Mem) :=
  (f_Model_look σ).bind fun q1 =>
  (f_Model_isAmong q1.2 0 q1.1).bind fun q2 =>
  if q2 = (0 : Int32) then
    (f_Model_fails q1.2).bind fun q26 =>
    some q26.2
  else
    (f_Model_takes (sI q1.2 565 10 ((mI q1.2 565 10) + (1 : Int32))) (58 : Int32)).bind fun q4 =>
    if q4.1 = (0 : Int32) then
      some q4.2
    else
      (f_Model_look q4.2).bind fun q6 =>
      if q6.1 = (33 : Int32) then
        f_Model_clause_J64 q6.2 q1.1
      else
        if q6.1 = (40 : Int32) then
          f_Model_clause_J64 q6.2 q1.1
        else
          (f_MS 24 0 q6.2).bind fun q17 =>
          if (mI q17.2 565 11) = (-1 : Int32) then
            (f_Model_look q17.2).bind fun q19 =>
            (f_Model_isSign q19.2 q19.1).bind fun q20 =>
            if q20 = (0 : Int32) then
              f_Model_clause_J134 q19.2 q1.1 (1 : Int32) q17.1
            else
              (f_MC 30 0 q19.2 (1 : Int32) q17.1).bind fun q22 =>
              (f_Model_takes q22.2 (63 : Int32)).bind fun q23 =>
              if q23.1 = (0 : Int32) then
                some q23.2
              else
                (f_MS 24 0 q23.2).bind fun q25 =>
                f_Model_clause_J134 q25.2 q1.1 q22.1 q25.1
          else
            f_Model_clause_J134 q17.2 q1.1 (1 : Int32) q17.1
set_option maxHeartbeats 4000000 in
set_option maxRecDepth 20000 in
theorem g_Model_clause_J134 (X : Cx θ p s m args c cX11_clause 5 RX11) (hr : meth.sig.returnType = none) (hlk : meth.locks = false)  {σ : Mem} {y1 : Int32} {y2 : Int32} {y3 : Int32} {r : Mem}  (h : f_Model_clause_J134 σ y1 y2 y3 = some r) : GB θ p l e 60 s m args below meth c 5 (none, r) 134 [(0, .ref (be θ + 565)), (1, .int y1), (2, .int y2), (3, .int y3)] [] σ := by
  unfold f_Model_clause_J134 at h
  refine g_aload_n X dX11_clause_134 rfl 0 rfl ?_
  refine g_get X fl_RX11_144 dX11_clause_135 kd_565 (v := .int (mI σ 565 11)) rfl ?_
  refine g_iconst X dX11_clause_138 (v := (-1 : Int32)) ic_m1 ?_
  refine g_icmp_ne (tgt := 161) X dX11_clause_139 (by decide) (fun c12 => ?_) (fun c12 => ?_)
  · replace h := (if_neg c12).symm.trans h
    exact g_vret X hr hlk dX11_clause_161 (by cases h; rfl)
  · replace h := (if_pos c12).symm.trans h
    refine g_aload_n X dX11_clause_142 rfl 0 rfl ?_
    refine g_get X fl_RX11_213 dX11_clause_143 kd_565 (v := .int (mI σ 565 17)) rfl ?_
    refine g_if_ne (tgt := 161) X dX11_clause_146 (by decide) (fun c13 => ?_) (fun c13 => ?_)
    · replace h := (if_neg c13).symm.trans h
      exact g_vret X hr hlk dX11_clause_161 (by cases h; rfl)
    · replace h := (if_pos c13).symm.trans h
      refine g_iload_n X dX11_clause_149 rfl 1 rfl ?_
      refine g_aload_n X dX11_clause_150 rfl 0 rfl ?_
      refine g_get X fl_RX11_217 dX11_clause_151 kd_565 (v := .int (mI σ 565 13)) rfl ?_
      refine g_icmp_ne (tgt := 161) X dX11_clause_154 (by decide) (fun c14 => ?_) (fun c14 => ?_)
      · replace h := (if_neg c14).symm.trans h
        exact g_vret X hr hlk dX11_clause_161 (by cases h; rfl)
      · replace h := (if_pos c14).symm.trans h
        refine g_iload_n X dX11_clause_157 rfl 2 rfl ?_
        refine g_if_ne (tgt := 162) X dX11_clause_158 (by decide) (fun c15 => ?_) (fun c15 => ?_)
        · replace h := (if_neg c15).symm.trans h
          refine g_aload_n X dX11_clause_162 rfl 0 rfl ?_
          refine g_iconst X dX11_clause_163 (v := (1 : Int32)) ic_1 ?_
          refine g_putZ X fl_RX11_213 dX11_clause_164 kd_565 rfl rfl rfl bz1 ?_
          refine g_aload_n X dX11_clause_167 rfl 0 rfl ?_
          refine g_iload_n X dX11_clause_168 rfl 3 rfl ?_
          refine g_putI X fl_RX11_220 dX11_clause_169 kd_565 rfl rfl rfl ?_
          exact g_vret X hr hlk dX11_clause_172 (by cases h; rfl)
        · replace h := (if_pos c15).symm.trans h
          exact g_vret X hr hlk dX11_clause_161 (by cases h; rfl)
set_option maxHeartbeats 4000000 in
set_option maxRecDepth 20000 in
theorem g_Model_clause_J64 (X : Cx θ p s m args c cX11_clause 5 RX11) (hr : meth.sig.returnType = none) (hlk : meth.locks = false)  {σ : Mem} {y1 : Int32} {r : Mem}  (h : f_Model_clause_J64 σ y1 = some r) : GB θ p l e 60 s m args below meth c 5 (none, r) 64 [(0, .ref (be θ + 565)), (1, .int y1)] [] σ := by
  unfold f_Model_clause_J64 at h
  refine g_aload_n X dX11_clause_64 rfl 0 rfl ?_
  refine g_iconst X dX11_clause_65 (v := (0 : Int32)) ic_0 ?_
  refine g_iconst X dX11_clause_66 (v := (0 : Int32)) ic_0 ?_
  obtain ⟨q8, hq8, h⟩ := Option.bind_eq_some_iff.mp h
  refine g_cV X (c_MC_0  hq8) lk_RX11_203 my_X11_condition (a := 565) (ci := 11) kd_565 (by decide) rfl (As := [.int (0 : Int32), .int (0 : Int32)]) (rest := []) rfl rfl (Nat.le_of_ble_eq_true rfl) ⟨(Nat.le_of_ble_eq_true rfl), (Nat.le_of_ble_eq_true rfl)⟩ ⟨(Nat.le_of_ble_eq_true rfl), (Nat.le_of_ble_eq_true rfl)⟩ dX11_clause_67 (st' := [.int q8.1]) (σ' := q8.2) rfl rfl ?_
  refine g_istore_n X dX11_clause_70 rfl (by decide) (lv' := [(2, .int q8.1), (0, .ref (be θ + 565)), (1, .int y1)]) rfl ?_
  refine g_aload_n X dX11_clause_71 rfl 1 rfl ?_
  refine g_bipush X dX11_clause_72 (v := (63 : Int32)) bp_63 ?_
  obtain ⟨q9, hq9, h⟩ := Option.bind_eq_some_iff.mp h
  refine g_cV X (c_Model_takes  hq9) lk_RX11_180 my_X11_takes (a := 565) (ci := 11) kd_565 (by decide) rfl (As := [.int (63 : Int32)]) (rest := []) rfl rfl (Nat.le_of_ble_eq_true rfl) ⟨(Nat.le_of_ble_eq_true rfl), (Nat.le_of_ble_eq_true rfl)⟩ ⟨(Nat.le_of_ble_eq_true rfl), (Nat.le_of_ble_eq_true rfl)⟩ dX11_clause_74 (st' := [.int q9.1]) (σ' := q9.2) rfl rfl ?_
  refine g_if_ne (tgt := 81) X dX11_clause_77 (by decide) (fun c10 => ?_) (fun c10 => ?_)
  · replace h := (if_neg c10).symm.trans h
    refine g_aload_n X dX11_clause_81 rfl 1 rfl ?_
    obtain ⟨q11, hq11, h⟩ := Option.bind_eq_some_iff.mp h
    refine g_cV X (c_MS_0  hq11) lk_RX11_177 my_X11_sum (a := 565) (ci := 11) kd_565 (by decide) rfl (As := []) (rest := []) rfl rfl (Nat.le_of_ble_eq_true rfl) ⟨(Nat.le_of_ble_eq_true rfl), (Nat.le_of_ble_eq_true rfl)⟩ ⟨(Nat.le_of_ble_eq_true rfl), (Nat.le_of_ble_eq_true rfl)⟩ dX11_clause_82 (st' := [.int q11.1]) (σ' := q11.2) rfl rfl ?_
    refine g_istore_n X dX11_clause_85 rfl (by decide) (lv' := [(3, .int q11.1), (2, .int q8.1), (0, .ref (be θ + 565)), (1, .int y1)]) rfl ?_
    refine g_goto (tgt := 134) X dX11_clause_86 (by decide) ?_
    exact g_sub (lv' := [(0, .ref (be θ + 565)), (1, .int y1), (2, .int q8.1), (3, .int q11.1)]) [2, 3, 1, 0] rfl (g_Model_clause_J134 X hr hlk    h)
  · replace h := (if_pos c10).symm.trans h
    exact g_vret X hr hlk dX11_clause_80 (by cases h; rfl)
set_option maxHeartbeats 4000000 in
set_option maxRecDepth 20000 in
theorem g_Model_clause (X : Cx θ p s m args c cX11_clause 5 RX11) (hr : meth.sig.returnType = none) (hlk : meth.locks = false)  {σ : Mem}  {r : Mem}  (h : f_Model_clause σ  = some r) : GB θ p l e 60 s m args below meth c 5 (none, r) 0 [(0, .ref (be θ + 565))] [] σ := by
  unfold f_Model_clause at h
  refine g_aload_n X dX11_clause_0 rfl 0 rfl ?_
  obtain ⟨q1, hq1, h⟩ := Option.bind_eq_some_iff.mp h
  refine g_cV X (c_Model_look  hq1) lk_RX11_154 my_X11_look (a := 565) (ci := 11) kd_565 (by decide) rfl (As := []) (rest := []) rfl rfl (Nat.le_of_ble_eq_true rfl) ⟨(Nat.le_of_ble_eq_true rfl), (Nat.le_of_ble_eq_true rfl)⟩ ⟨(Nat.le_of_ble_eq_true rfl), (Nat.le_of_ble_eq_true rfl)⟩ dX11_clause_1 (st' := [.int q1.1]) (σ' := q1.2) rfl rfl ?_
  refine g_istore_n X dX11_clause_4 rfl (by decide) (lv' := [(1, .int q1.1), (0, .ref (be θ + 565))]) rfl ?_
  refine g_ldcS X X.2.2.1.2.2.1.1 dX11_clause_5 ?_
  refine g_iload_n X dX11_clause_7 rfl 0 rfl ?_
  obtain ⟨q2, hq2, h⟩ := Option.bind_eq_some_iff.mp h
  refine g_cS X (c_Model_isAmong (by decide) hq2) lk_RX11_170 my_X11_isAmong (As := [.ref (sA θ 0), .int q1.1]) (rest := []) rfl rfl (Nat.le_of_ble_eq_true rfl) ⟨(Nat.le_of_ble_eq_true rfl), (Nat.le_of_ble_eq_true rfl)⟩ ⟨(Nat.le_of_ble_eq_true rfl), (Nat.le_of_ble_eq_true rfl)⟩ dX11_clause_8 (st' := [.int q2]) (σ' := q1.2) rfl rfl ?_
  refine g_if_ne (tgt := 20) X dX11_clause_11 (by decide) (fun c3 => ?_) (fun c3 => ?_)
  · replace h := (if_neg c3).symm.trans h
    refine g_aload_n X dX11_clause_20 rfl 1 rfl ?_
    refine g_dup X dX11_clause_21 rfl ?_
    refine g_get X fl_RX11_135 dX11_clause_22 kd_565 (v := .int (mI q1.2 565 10)) rfl ?_
    refine g_iconst X dX11_clause_25 (v := (1 : Int32)) ic_1 ?_
    refine g_iadd X dX11_clause_26 ?_
    refine g_putI X fl_RX11_135 dX11_clause_27 kd_565 rfl rfl rfl ?_
    refine g_aload_n X dX11_clause_30 rfl 1 rfl ?_
    refine g_bipush X dX11_clause_31 (v := (58 : Int32)) bp_58 ?_
    obtain ⟨q4, hq4, h⟩ := Option.bind_eq_some_iff.mp h
    refine g_cV X (c_Model_takes  hq4) lk_RX11_180 my_X11_takes (a := 565) (ci := 11) kd_565 (by decide) rfl (As := [.int (58 : Int32)]) (rest := []) rfl rfl (Nat.le_of_ble_eq_true rfl) ⟨(Nat.le_of_ble_eq_true rfl), (Nat.le_of_ble_eq_true rfl)⟩ ⟨(Nat.le_of_ble_eq_true rfl), (Nat.le_of_ble_eq_true rfl)⟩ dX11_clause_33 (st' := [.int q4.1]) (σ' := q4.2) rfl rfl ?_
    refine g_if_ne (tgt := 40) X dX11_clause_36 (by decide) (fun c5 => ?_) (fun c5 => ?_)
    · replace h := (if_neg c5).symm.trans h
      refine g_iconst X dX11_clause_40 (v := (1 : Int32)) ic_1 ?_
      refine g_istore_n X dX11_clause_41 rfl (by decide) (lv' := [(2, .int (1 : Int32)), (1, .int q1.1), (0, .ref (be θ + 565))]) rfl ?_
      refine g_iconst X dX11_clause_42 (v := (0 : Int32)) ic_0 ?_
      refine g_istore_n X dX11_clause_43 rfl (by decide) (lv' := [(3, .int (0 : Int32)), (2, .int (1 : Int32)), (1, .int q1.1), (0, .ref (be θ + 565))]) rfl ?_
      refine g_aload_n X dX11_clause_44 rfl 3 rfl ?_
      obtain ⟨q6, hq6, h⟩ := Option.bind_eq_some_iff.mp h
      refine g_cV X (c_Model_look  hq6) lk_RX11_154 my_X11_look (a := 565) (ci := 11) kd_565 (by decide) rfl (As := []) (rest := []) rfl rfl (Nat.le_of_ble_eq_true rfl) ⟨(Nat.le_of_ble_eq_true rfl), (Nat.le_of_ble_eq_true rfl)⟩ ⟨(Nat.le_of_ble_eq_true rfl), (Nat.le_of_ble_eq_true rfl)⟩ dX11_clause_45 (st' := [.int q6.1]) (σ' := q6.2) rfl rfl ?_
      refine g_istore X dX11_clause_48 (by decide) (lv' := [(4, .int q6.1), (3, .int (0 : Int32)), (2, .int (1 : Int32)), (1, .int q1.1), (0, .ref (be θ + 565))]) rfl ?_
      refine g_iload X dX11_clause_50 0 rfl ?_
      refine g_bipush X dX11_clause_52 (v := (33 : Int32)) bp_33 ?_
      refine g_icmp_eq (tgt := 64) X dX11_clause_54 (by decide) (fun c7 => ?_) (fun c7 => ?_)
      · replace h := (if_pos c7).symm.trans h
        exact g_sub (lv' := [(0, .ref (be θ + 565)), (1, .int q1.1)]) [4, 3] rfl (g_Model_clause_J64 X hr hlk    h)
      · replace h := (if_neg c7).symm.trans h
        refine g_iload X dX11_clause_57 0 rfl ?_
        refine g_bipush X dX11_clause_59 (v := (40 : Int32)) bp_40 ?_
        refine g_icmp_ne (tgt := 89) X dX11_clause_61 (by decide) (fun c16 => ?_) (fun c16 => ?_)
        · replace h := (if_neg c16).symm.trans h
          refine g_aload_n X dX11_clause_89 rfl 4 rfl ?_
          obtain ⟨q17, hq17, h⟩ := Option.bind_eq_some_iff.mp h
          refine g_cV X (c_MS_0  hq17) lk_RX11_177 my_X11_sum (a := 565) (ci := 11) kd_565 (by decide) rfl (As := []) (rest := []) rfl rfl (Nat.le_of_ble_eq_true rfl) ⟨(Nat.le_of_ble_eq_true rfl), (Nat.le_of_ble_eq_true rfl)⟩ ⟨(Nat.le_of_ble_eq_true rfl), (Nat.le_of_ble_eq_true rfl)⟩ dX11_clause_90 (st' := [.int q17.1]) (σ' := q17.2) rfl rfl ?_
          refine g_istore_n X dX11_clause_93 rfl (by decide) (lv' := [(3, .int q17.1), (4, .int q6.1), (2, .int (1 : Int32)), (1, .int q1.1), (0, .ref (be θ + 565))]) rfl ?_
          refine g_aload_n X dX11_clause_94 rfl 4 rfl ?_
          refine g_get X fl_RX11_144 dX11_clause_95 kd_565 (v := .int (mI q17.2 565 11)) rfl ?_
          refine g_iconst X dX11_clause_98 (v := (-1 : Int32)) ic_m1 ?_
          refine g_icmp_ne (tgt := 134) X dX11_clause_99 (by decide) (fun c18 => ?_) (fun c18 => ?_)
          · replace h := (if_neg c18).symm.trans h
            exact g_sub (lv' := [(0, .ref (be θ + 565)), (1, .int q1.1), (2, .int (1 : Int32)), (3, .int q17.1)]) [4, 3, 2, 0] rfl (g_Model_clause_J134 X hr hlk    h)
          · replace h := (if_pos c18).symm.trans h
            refine g_aload_n X dX11_clause_102 rfl 4 rfl ?_
            obtain ⟨q19, hq19, h⟩ := Option.bind_eq_some_iff.mp h
            refine g_cV X (c_Model_look  hq19) lk_RX11_154 my_X11_look (a := 565) (ci := 11) kd_565 (by decide) rfl (As := []) (rest := []) rfl rfl (Nat.le_of_ble_eq_true rfl) ⟨(Nat.le_of_ble_eq_true rfl), (Nat.le_of_ble_eq_true rfl)⟩ ⟨(Nat.le_of_ble_eq_true rfl), (Nat.le_of_ble_eq_true rfl)⟩ dX11_clause_103 (st' := [.int q19.1]) (σ' := q19.2) rfl rfl ?_
            obtain ⟨q20, hq20, h⟩ := Option.bind_eq_some_iff.mp h
            refine g_cS X (c_Model_isSign  hq20) lk_RX11_197 my_X11_isSign (As := [.int q19.1]) (rest := []) rfl rfl (Nat.le_of_ble_eq_true rfl) ⟨(Nat.le_of_ble_eq_true rfl), (Nat.le_of_ble_eq_true rfl)⟩ ⟨(Nat.le_of_ble_eq_true rfl), (Nat.le_of_ble_eq_true rfl)⟩ dX11_clause_106 (st' := [.int q20]) (σ' := q19.2) rfl rfl ?_
            refine g_if_eq (tgt := 134) X dX11_clause_109 (by decide) (fun c21 => ?_) (fun c21 => ?_)
            · replace h := (if_pos c21).symm.trans h
              exact g_sub (lv' := [(0, .ref (be θ + 565)), (1, .int q1.1), (2, .int (1 : Int32)), (3, .int q17.1)]) [4, 3, 2, 0] rfl (g_Model_clause_J134 X hr hlk    h)
            · replace h := (if_neg c21).symm.trans h
              refine g_aload_n X dX11_clause_112 rfl 4 rfl ?_
              refine g_iconst X dX11_clause_113 (v := (1 : Int32)) ic_1 ?_
              refine g_iload_n X dX11_clause_114 rfl 0 rfl ?_
              obtain ⟨q22, hq22, h⟩ := Option.bind_eq_some_iff.mp h
              refine g_cV X (c_MC_0  hq22) lk_RX11_203 my_X11_condition (a := 565) (ci := 11) kd_565 (by decide) rfl (As := [.int (1 : Int32), .int q17.1]) (rest := []) rfl rfl (Nat.le_of_ble_eq_true rfl) ⟨(Nat.le_of_ble_eq_true rfl), (Nat.le_of_ble_eq_true rfl)⟩ ⟨(Nat.le_of_ble_eq_true rfl), (Nat.le_of_ble_eq_true rfl)⟩ dX11_clause_115 (st' := [.int q22.1]) (σ' := q22.2) rfl rfl ?_
              refine g_istore_n X dX11_clause_118 rfl (by decide) (lv' := [(2, .int q22.1), (3, .int q17.1), (4, .int q6.1), (1, .int q1.1), (0, .ref (be θ + 565))]) rfl ?_
              refine g_aload_n X dX11_clause_119 rfl 4 rfl ?_
              refine g_bipush X dX11_clause_120 (v := (63 : Int32)) bp_63 ?_
              obtain ⟨q23, hq23, h⟩ := Option.bind_eq_some_iff.mp h
              refine g_cV X (c_Model_takes  hq23) lk_RX11_180 my_X11_takes (a := 565) (ci := 11) kd_565 (by decide) rfl (As := [.int (63 : Int32)]) (rest := []) rfl rfl (Nat.le_of_ble_eq_true rfl) ⟨(Nat.le_of_ble_eq_true rfl), (Nat.le_of_ble_eq_true rfl)⟩ ⟨(Nat.le_of_ble_eq_true rfl), (Nat.le_of_ble_eq_true rfl)⟩ dX11_clause_122 (st' := [.int q23.1]) (σ' := q23.2) rfl rfl ?_
              refine g_if_ne (tgt := 129) X dX11_clause_125 (by decide) (fun c24 => ?_) (fun c24 => ?_)
              · replace h := (if_neg c24).symm.trans h
                refine g_aload_n X dX11_clause_129 rfl 4 rfl ?_
                obtain ⟨q25, hq25, h⟩ := Option.bind_eq_some_iff.mp h
                refine g_cV X (c_MS_0  hq25) lk_RX11_177 my_X11_sum (a := 565) (ci := 11) kd_565 (by decide) rfl (As := []) (rest := []) rfl rfl (Nat.le_of_ble_eq_true rfl) ⟨(Nat.le_of_ble_eq_true rfl), (Nat.le_of_ble_eq_true rfl)⟩ ⟨(Nat.le_of_ble_eq_true rfl), (Nat.le_of_ble_eq_true rfl)⟩ dX11_clause_130 (st' := [.int q25.1]) (σ' := q25.2) rfl rfl ?_
                refine g_istore_n X dX11_clause_133 rfl (by decide) (lv' := [(3, .int q25.1), (2, .int q22.1), (4, .int q6.1), (1, .int q1.1), (0, .ref (be θ + 565))]) rfl ?_
                exact g_sub (lv' := [(0, .ref (be θ + 565)), (1, .int q1.1), (2, .int q22.1), (3, .int q25.1)]) [4, 3, 1, 0] rfl (g_Model_clause_J134 X hr hlk    h)
              · replace h := (if_pos c24).symm.trans h
                exact g_vret X hr hlk dX11_clause_128 (by cases h; rfl)
        · replace h := (if_pos c16).symm.trans h
          exact g_sub (lv' := [(0, .ref (be θ + 565)), (1, .int q1.1)]) [4, 3] rfl (g_Model_clause_J64 X hr hlk    h)
    · replace h := (if_pos c5).symm.trans h
      exact g_vret X hr hlk dX11_clause_39 (by cases h; rfl)
  · replace h := (if_pos c3).symm.trans h
    refine g_aload_n X dX11_clause_14 rfl 1 rfl ?_
    obtain ⟨q26, hq26, h⟩ := Option.bind_eq_some_iff.mp h
    refine g_cV X (c_Model_fails  hq26) lk_RX11_150 my_X11_fails (a := 565) (ci := 11) kd_565 (by decide) rfl (As := []) (rest := []) rfl rfl (Nat.le_of_ble_eq_true rfl) ⟨(Nat.le_of_ble_eq_true rfl), (Nat.le_of_ble_eq_true rfl)⟩ ⟨(Nat.le_of_ble_eq_true rfl), (Nat.le_of_ble_eq_true rfl)⟩ dX11_clause_15 (st' := [.int q26.1]) (σ' := q26.2) rfl rfl ?_
    refine g_pop X dX11_clause_18 rfl ?_
    exact g_vret X hr hlk dX11_clause_19 (by cases h; rfl)
set_option maxHeartbeats 4000000 in
set_option maxRecDepth 20000 in
theorem c_Model_clause {θ : Th} {l : Launch} {σ : Mem}  {r : Mem}  (h : f_Model_clause σ  = some r) : Cn θ l yX11_clause cX11_clause 5 (none) 60 0 0 [.ref (be θ + 565)] σ (none, r) :=
  Cn.of (by decide) (Nat.le_of_ble_eq_true rfl) (fun p e s m below meth c X hr hlk => g_Model_clause X hr hlk  h)
theorem dX11_starts_0 : decode cX11_starts 0 = .ok (.aload_n 0, 1) := by decide +kernel
theorem dX11_starts_1 : decode cX11_starts 1 = .ok (.aload_n 1, 1) := by decide +kernel
theorem dX11_starts_2 : decode cX11_starts 2 = .ok (.putfield 23, 3) := by decide +kernel
theorem dX11_starts_5 : decode cX11_starts 5 = .ok (.aload_n 0, 1) := by decide +kernel
theorem dX11_starts_6 : decode cX11_starts 6 = .ok (.iload_n 2, 1) := by decide +kernel
theorem dX11_starts_7 : decode cX11_starts 7 = .ok (.putfield 141, 3) := by decide +kernel
theorem dX11_starts_10 : decode cX11_starts 10 = .ok (.aload_n 0, 1) := by decide +kernel
theorem dX11_starts_11 : decode cX11_starts 11 = .ok (.iload_n 3, 1) := by decide +kernel
theorem dX11_starts_12 : decode cX11_starts 12 = .ok (.putfield 138, 3) := by decide +kernel
theorem dX11_starts_15 : decode cX11_starts 15 = .ok (.aload_n 0, 1) := by decide +kernel
theorem dX11_starts_16 : decode cX11_starts 16 = .ok (.iconst 0, 1) := by decide +kernel
theorem dX11_starts_17 : decode cX11_starts 17 = .ok (.putfield 135, 3) := by decide +kernel
theorem dX11_starts_20 : decode cX11_starts 20 = .ok (.aload_n 0, 1) := by decide +kernel
theorem dX11_starts_21 : decode cX11_starts 21 = .ok (.iconst (-1), 1) := by decide +kernel
theorem dX11_starts_22 : decode cX11_starts 22 = .ok (.putfield 144, 3) := by decide +kernel
theorem dX11_starts_25 : decode cX11_starts 25 = .ok (.return_, 1) := by decide +kernel
def f_Model_starts (σ : Mem) (x1 : Nat) (x2 : Int32) (x3 : Int32) : Option (Mem) :=
  some (sI (sI (sI (sI (sR σ 565 5 x1) 565 8 x2) 565 9 x3) 565 10 (0 : Int32)) 565 11 (-1 : Int32))
set_option maxHeartbeats 4000000 in
set_option maxRecDepth 20000 in
theorem g_Model_starts (X : Cx θ p s m args c cX11_starts 4 RX11) (hr : meth.sig.returnType = none) (hlk : meth.locks = false)  {σ : Mem} {x1 : Nat} {x2 : Int32} {x3 : Int32} {r : Mem} (h1 : kd x1 = 14) (h : f_Model_starts σ x1 x2 x3 = some r) : GB θ p l e 0 s m args below meth c 4 (none, r) 0 [(0, .ref (be θ + 565)), (1, .ref (be θ + x1)), (2, .int x2), (3, .int x3)] [] σ := by
  unfold f_Model_starts at h
  refine g_aload_n X dX11_starts_0 rfl 0 rfl ?_
  refine g_aload_n X dX11_starts_1 rfl 1 rfl ?_
  refine g_putR (v := x1) X fl_RX11_23 dX11_starts_2 kd_565 rfl rv_nar rv_fitA rfl (rv_of h1 (by decide)) ?_
  refine g_aload_n X dX11_starts_5 rfl 0 rfl ?_
  refine g_iload_n X dX11_starts_6 rfl 2 rfl ?_
  refine g_putI X fl_RX11_141 dX11_starts_7 kd_565 rfl rfl rfl ?_
  refine g_aload_n X dX11_starts_10 rfl 0 rfl ?_
  refine g_iload_n X dX11_starts_11 rfl 3 rfl ?_
  refine g_putI X fl_RX11_138 dX11_starts_12 kd_565 rfl rfl rfl ?_
  refine g_aload_n X dX11_starts_15 rfl 0 rfl ?_
  refine g_iconst X dX11_starts_16 (v := (0 : Int32)) ic_0 ?_
  refine g_putI X fl_RX11_135 dX11_starts_17 kd_565 rfl rfl rfl ?_
  refine g_aload_n X dX11_starts_20 rfl 0 rfl ?_
  refine g_iconst X dX11_starts_21 (v := (-1 : Int32)) ic_m1 ?_
  refine g_putI X fl_RX11_144 dX11_starts_22 kd_565 rfl rfl rfl ?_
  exact g_vret X hr hlk dX11_starts_25 (by cases h; rfl)
set_option maxHeartbeats 4000000 in
set_option maxRecDepth 20000 in
theorem c_Model_starts {θ : Th} {l : Launch} {σ : Mem} {x1 : Nat} {x2 : Int32} {x3 : Int32} {r : Mem} (h1 : kd x1 = 14) (h : f_Model_starts σ x1 x2 x3 = some r) : Cn θ l yX11_starts cX11_starts 4 (none) 0 0 0 [.ref (be θ + 565), .ref (be θ + x1), .int x2, .int x3] σ (none, r) :=
  Cn.of (by decide) (Nat.le_of_ble_eq_true rfl) (fun p e s m below meth c X hr hlk => g_Model_starts X hr hlk h1 h)
theorem dX11_goThrough_0 : decode cX11_goThrough 0 = .ok (.aload_n 0, 1) := by decide +kernel
theorem dX11_goThrough_1 : decode cX11_goThrough 1 = .ok (.aload_n 1, 1) := by decide +kernel
theorem dX11_goThrough_2 : decode cX11_goThrough 2 = .ok (.iload_n 2, 1) := by decide +kernel
theorem dX11_goThrough_3 : decode cX11_goThrough 3 = .ok (.iload_n 3, 1) := by decide +kernel
theorem dX11_goThrough_4 : decode cX11_goThrough 4 = .ok (.invokevirtual 223, 3) := by decide +kernel
theorem dX11_goThrough_7 : decode cX11_goThrough 7 = .ok (.aload_n 0, 1) := by decide +kernel
theorem dX11_goThrough_8 : decode cX11_goThrough 8 = .ok (.bipush 121, 2) := by decide +kernel
theorem dX11_goThrough_10 : decode cX11_goThrough 10 = .ok (.putfield 217, 3) := by decide +kernel
theorem dX11_goThrough_13 : decode cX11_goThrough 13 = .ok (.aload_n 0, 1) := by decide +kernel
theorem dX11_goThrough_14 : decode cX11_goThrough 14 = .ok (.iconst 0, 1) := by decide +kernel
theorem dX11_goThrough_15 : decode cX11_goThrough 15 = .ok (.putfield 147, 3) := by decide +kernel
theorem dX11_goThrough_18 : decode cX11_goThrough 18 = .ok (.aload_n 0, 1) := by decide +kernel
theorem dX11_goThrough_19 : decode cX11_goThrough 19 = .ok (.iconst 0, 1) := by decide +kernel
theorem dX11_goThrough_20 : decode cX11_goThrough 20 = .ok (.putfield 213, 3) := by decide +kernel
theorem dX11_goThrough_23 : decode cX11_goThrough 23 = .ok (.aload_n 0, 1) := by decide +kernel
theorem dX11_goThrough_24 : decode cX11_goThrough 24 = .ok (.iconst 0, 1) := by decide +kernel
theorem dX11_goThrough_25 : decode cX11_goThrough 25 = .ok (.putfield 220, 3) := by decide +kernel
theorem dX11_goThrough_28 : decode cX11_goThrough 28 = .ok (.aload_n 0, 1) := by decide +kernel
theorem dX11_goThrough_29 : decode cX11_goThrough 29 = .ok (.invokevirtual 227, 3) := by decide +kernel
theorem dX11_goThrough_32 : decode cX11_goThrough 32 = .ok (.aload_n 0, 1) := by decide +kernel
theorem dX11_goThrough_33 : decode cX11_goThrough 33 = .ok (.getfield 144, 3) := by decide +kernel
theorem dX11_goThrough_36 : decode cX11_goThrough 36 = .ok (.iconst (-1), 1) := by decide +kernel
theorem dX11_goThrough_37 : decode cX11_goThrough 37 = .ok (.if_icmp .ne 29, 3) := by decide +kernel
theorem dX11_goThrough_40 : decode cX11_goThrough 40 = .ok (.aload_n 0, 1) := by decide +kernel
theorem dX11_goThrough_41 : decode cX11_goThrough 41 = .ok (.invokevirtual 154, 3) := by decide +kernel
theorem dX11_goThrough_44 : decode cX11_goThrough 44 = .ok (.bipush 59, 2) := by decide +kernel
theorem dX11_goThrough_46 : decode cX11_goThrough 46 = .ok (.if_icmp .ne 20, 3) := by decide +kernel
theorem dX11_goThrough_49 : decode cX11_goThrough 49 = .ok (.aload_n 0, 1) := by decide +kernel
theorem dX11_goThrough_50 : decode cX11_goThrough 50 = .ok (.dup, 1) := by decide +kernel
theorem dX11_goThrough_51 : decode cX11_goThrough 51 = .ok (.getfield 135, 3) := by decide +kernel
theorem dX11_goThrough_54 : decode cX11_goThrough 54 = .ok (.iconst 1, 1) := by decide +kernel
theorem dX11_goThrough_55 : decode cX11_goThrough 55 = .ok (.iadd, 1) := by decide +kernel
theorem dX11_goThrough_56 : decode cX11_goThrough 56 = .ok (.putfield 135, 3) := by decide +kernel
theorem dX11_goThrough_59 : decode cX11_goThrough 59 = .ok (.aload_n 0, 1) := by decide +kernel
theorem dX11_goThrough_60 : decode cX11_goThrough 60 = .ok (.invokevirtual 227, 3) := by decide +kernel
theorem dX11_goThrough_63 : decode cX11_goThrough 63 = .ok (.goto (-31), 3) := by decide +kernel
theorem dX11_goThrough_66 : decode cX11_goThrough 66 = .ok (.aload_n 0, 1) := by decide +kernel
theorem dX11_goThrough_67 : decode cX11_goThrough 67 = .ok (.getfield 144, 3) := by decide +kernel
theorem dX11_goThrough_70 : decode cX11_goThrough 70 = .ok (.iconst (-1), 1) := by decide +kernel
theorem dX11_goThrough_71 : decode cX11_goThrough 71 = .ok (.if_icmp .ne 16, 3) := by decide +kernel
theorem dX11_goThrough_74 : decode cX11_goThrough 74 = .ok (.aload_n 0, 1) := by decide +kernel
theorem dX11_goThrough_75 : decode cX11_goThrough 75 = .ok (.invokevirtual 154, 3) := by decide +kernel
theorem dX11_goThrough_78 : decode cX11_goThrough 78 = .ok (.iconst (-1), 1) := by decide +kernel
theorem dX11_goThrough_79 : decode cX11_goThrough 79 = .ok (.if_icmp .eq 8, 3) := by decide +kernel
theorem dX11_goThrough_82 : decode cX11_goThrough 82 = .ok (.aload_n 0, 1) := by decide +kernel
theorem dX11_goThrough_83 : decode cX11_goThrough 83 = .ok (.invokevirtual 150, 3) := by decide +kernel
theorem dX11_goThrough_86 : decode cX11_goThrough 86 = .ok (.pop, 1) := by decide +kernel
theorem dX11_goThrough_87 : decode cX11_goThrough 87 = .ok (.return_, 1) := by decide +kernel
def f_Model_goThrough_L32 (x1 : Nat) (x2 : Int32) (x3 : Int32) (a : Mem) : Option ((Mem) ⊕ (Mem)) :=
  if (mI a 565 11) = (-1 : Int32) then
    (f_Model_look a).bind fun q4 =>
    if q4.1 = (59 : Int32) then
      (f_Model_clause (sI q4.2 565 10 ((mI q4.2 565 10) + (1 : Int32)))).bind fun q6 =>
      some (.inl q6)
    else
      some (.inr q4.2)
  else
    some (.inr a)
def f_Model_goThrough_J66 (σ : Mem) (x1 : Nat) (x2 : Int32) (x3 : Int32) : Option (Mem) :=
  if (mI σ 565 11) = (-1 : Int32) then
    (f_Model_look σ).bind fun q9 =>
    if q9.1 = (-1 : Int32) then
      some q9.2
    else
      (f_Model_fails q9.2).bind fun q11 =>
      some q11.2
  else
    some σ
def f_Model_goThrough (σ : Mem) (x1 : Nat) (x2 : Int32) (x3 : Int32) : Option (Mem) :=
  (f_Model_starts σ x1 x2 x3).bind fun q1 =>
  (f_Model_clause (sI (sI (sI (sI q1 565 13 (121 : Int32)) 565 12 (0 : Int32)) 565 17 (0 : Int32)) 565 14 (0 : Int32))).bind fun q2 =>
  (loopF (f_Model_goThrough_L32 x1 x2 x3) FU q2).bind fun w7 =>
  f_Model_goThrough_J66 w7 x1 x2 x3
set_option maxHeartbeats 4000000 in
set_option maxRecDepth 20000 in
theorem gs_Model_goThrough_L32 (X : Cx θ p s m args c cX11_goThrough 4 RX11) (hr : meth.sig.returnType = none) (hlk : meth.locks = false)  {x1 : Nat} {x2 : Int32} {x3 : Int32} {r : Mem} (h1 : kd x1 = 14) (a : Mem) (x : (Mem) ⊕ (Mem)) (h : f_Model_goThrough_L32 x1 x2 x3 a = some x) (hk : Sum.elim (fun a => GB θ p l e 61 s m args below meth c 4 (none, r) 32 [(0, .ref (be θ + 565)), (1, .ref (be θ + x1)), (2, .int x2), (3, .int x3)] [] a) (fun w => GB θ p l e 61 s m args below meth c 4 (none, r) 66 [(0, .ref (be θ + 565)), (1, .ref (be θ + x1)), (2, .int x2), (3, .int x3)] [] w) x) : GB θ p l e 61 s m args below meth c 4 (none, r) 32 [(0, .ref (be θ + 565)), (1, .ref (be θ + x1)), (2, .int x2), (3, .int x3)] [] a := by
  unfold f_Model_goThrough_L32 at h
  refine g_aload_n X dX11_goThrough_32 rfl 0 rfl ?_
  refine g_get X fl_RX11_144 dX11_goThrough_33 kd_565 (v := .int (mI a 565 11)) rfl ?_
  refine g_iconst X dX11_goThrough_36 (v := (-1 : Int32)) ic_m1 ?_
  refine g_icmp_ne (tgt := 66) X dX11_goThrough_37 (by decide) (fun c3 => ?_) (fun c3 => ?_)
  · replace h := (if_neg c3).symm.trans h
    have hk := inr_hk h hk
    exact g_sub (lv' := [(0, .ref (be θ + 565)), (1, .ref (be θ + x1)), (2, .int x2), (3, .int x3)]) [0, 1, 2, 3] rfl hk
  · replace h := (if_pos c3).symm.trans h
    refine g_aload_n X dX11_goThrough_40 rfl 0 rfl ?_
    obtain ⟨q4, hq4, h⟩ := Option.bind_eq_some_iff.mp h
    refine g_cV X (c_Model_look  hq4) lk_RX11_154 my_X11_look (a := 565) (ci := 11) kd_565 (by decide) rfl (As := []) (rest := []) rfl rfl (Nat.le_of_ble_eq_true rfl) ⟨(Nat.le_of_ble_eq_true rfl), (Nat.le_of_ble_eq_true rfl)⟩ ⟨(Nat.le_of_ble_eq_true rfl), (Nat.le_of_ble_eq_true rfl)⟩ dX11_goThrough_41 (st' := [.int q4.1]) (σ' := q4.2) rfl rfl ?_
    refine g_bipush X dX11_goThrough_44 (v := (59 : Int32)) bp_59 ?_
    refine g_icmp_ne (tgt := 66) X dX11_goThrough_46 (by decide) (fun c5 => ?_) (fun c5 => ?_)
    · replace h := (if_neg c5).symm.trans h
      have hk := inr_hk h hk
      exact g_sub (lv' := [(0, .ref (be θ + 565)), (1, .ref (be θ + x1)), (2, .int x2), (3, .int x3)]) [0, 1, 2, 3] rfl hk
    · replace h := (if_pos c5).symm.trans h
      refine g_aload_n X dX11_goThrough_49 rfl 0 rfl ?_
      refine g_dup X dX11_goThrough_50 rfl ?_
      refine g_get X fl_RX11_135 dX11_goThrough_51 kd_565 (v := .int (mI q4.2 565 10)) rfl ?_
      refine g_iconst X dX11_goThrough_54 (v := (1 : Int32)) ic_1 ?_
      refine g_iadd X dX11_goThrough_55 ?_
      refine g_putI X fl_RX11_135 dX11_goThrough_56 kd_565 rfl rfl rfl ?_
      refine g_aload_n X dX11_goThrough_59 rfl 0 rfl ?_
      obtain ⟨q6, hq6, h⟩ := Option.bind_eq_some_iff.mp h
      refine g_cV X (c_Model_clause  hq6) lk_RX11_227 my_X11_clause (a := 565) (ci := 11) kd_565 (by decide) rfl (As := []) (rest := []) rfl rfl (Nat.le_of_ble_eq_true rfl) ⟨(Nat.le_of_ble_eq_true rfl), (Nat.le_of_ble_eq_true rfl)⟩ ⟨(Nat.le_of_ble_eq_true rfl), (Nat.le_of_ble_eq_true rfl)⟩ dX11_goThrough_60 (st' := []) (σ' := q6) rfl rfl ?_
      refine g_goto (tgt := 32) X dX11_goThrough_63 (by decide) ?_
      have hk := inl_hk h hk
      exact g_sub (lv' := [(0, .ref (be θ + 565)), (1, .ref (be θ + x1)), (2, .int x2), (3, .int x3)]) [0, 1, 2, 3] rfl hk
set_option maxHeartbeats 4000000 in
set_option maxRecDepth 20000 in
theorem gl_Model_goThrough_L32 (X : Cx θ p s m args c cX11_goThrough 4 RX11) (hr : meth.sig.returnType = none) (hlk : meth.locks = false)  {x1 : Nat} {x2 : Int32} {x3 : Int32} {r : Mem} (h1 : kd x1 = 14) (n : Nat) (a : Mem) (b : Mem) (h : loopF (f_Model_goThrough_L32 x1 x2 x3) n a = some b) (hk : (fun w => GB θ p l e 61 s m args below meth c 4 (none, r) 66 [(0, .ref (be θ + 565)), (1, .ref (be θ + x1)), (2, .int x2), (3, .int x3)] [] w) b) : (fun a => GB θ p l e 61 s m args below meth c 4 (none, r) 32 [(0, .ref (be θ + 565)), (1, .ref (be θ + x1)), (2, .int x2), (3, .int x3)] [] a) a :=
  loopF_by (P := (fun a => GB θ p l e 61 s m args below meth c 4 (none, r) 32 [(0, .ref (be θ + 565)), (1, .ref (be θ + x1)), (2, .int x2), (3, .int x3)] [] a)) (K := (fun w => GB θ p l e 61 s m args below meth c 4 (none, r) 66 [(0, .ref (be θ + 565)), (1, .ref (be θ + x1)), (2, .int x2), (3, .int x3)] [] w)) (fun a x h hk => by exact gs_Model_goThrough_L32 X hr hlk  h1 a x h hk) n a b h hk
set_option maxHeartbeats 4000000 in
set_option maxRecDepth 20000 in
theorem g_Model_goThrough_J66 (X : Cx θ p s m args c cX11_goThrough 4 RX11) (hr : meth.sig.returnType = none) (hlk : meth.locks = false)  {σ : Mem} {x1 : Nat} {x2 : Int32} {x3 : Int32} {r : Mem} (h1 : kd x1 = 14) (h : f_Model_goThrough_J66 σ x1 x2 x3 = some r) : GB θ p l e 61 s m args below meth c 4 (none, r) 66 [(0, .ref (be θ + 565)), (1, .ref (be θ + x1)), (2, .int x2), (3, .int x3)] [] σ := by
  unfold f_Model_goThrough_J66 at h
  refine g_aload_n X dX11_goThrough_66 rfl 0 rfl ?_
  refine g_get X fl_RX11_144 dX11_goThrough_67 kd_565 (v := .int (mI σ 565 11)) rfl ?_
  refine g_iconst X dX11_goThrough_70 (v := (-1 : Int32)) ic_m1 ?_
  refine g_icmp_ne (tgt := 87) X dX11_goThrough_71 (by decide) (fun c8 => ?_) (fun c8 => ?_)
  · replace h := (if_neg c8).symm.trans h
    exact g_vret X hr hlk dX11_goThrough_87 (by cases h; rfl)
  · replace h := (if_pos c8).symm.trans h
    refine g_aload_n X dX11_goThrough_74 rfl 0 rfl ?_
    obtain ⟨q9, hq9, h⟩ := Option.bind_eq_some_iff.mp h
    refine g_cV X (c_Model_look  hq9) lk_RX11_154 my_X11_look (a := 565) (ci := 11) kd_565 (by decide) rfl (As := []) (rest := []) rfl rfl (Nat.le_of_ble_eq_true rfl) ⟨(Nat.le_of_ble_eq_true rfl), (Nat.le_of_ble_eq_true rfl)⟩ ⟨(Nat.le_of_ble_eq_true rfl), (Nat.le_of_ble_eq_true rfl)⟩ dX11_goThrough_75 (st' := [.int q9.1]) (σ' := q9.2) rfl rfl ?_
    refine g_iconst X dX11_goThrough_78 (v := (-1 : Int32)) ic_m1 ?_
    refine g_icmp_eq (tgt := 87) X dX11_goThrough_79 (by decide) (fun c10 => ?_) (fun c10 => ?_)
    · replace h := (if_pos c10).symm.trans h
      exact g_vret X hr hlk dX11_goThrough_87 (by cases h; rfl)
    · replace h := (if_neg c10).symm.trans h
      refine g_aload_n X dX11_goThrough_82 rfl 0 rfl ?_
      obtain ⟨q11, hq11, h⟩ := Option.bind_eq_some_iff.mp h
      refine g_cV X (c_Model_fails  hq11) lk_RX11_150 my_X11_fails (a := 565) (ci := 11) kd_565 (by decide) rfl (As := []) (rest := []) rfl rfl (Nat.le_of_ble_eq_true rfl) ⟨(Nat.le_of_ble_eq_true rfl), (Nat.le_of_ble_eq_true rfl)⟩ ⟨(Nat.le_of_ble_eq_true rfl), (Nat.le_of_ble_eq_true rfl)⟩ dX11_goThrough_83 (st' := [.int q11.1]) (σ' := q11.2) rfl rfl ?_
      refine g_pop X dX11_goThrough_86 rfl ?_
      exact g_vret X hr hlk dX11_goThrough_87 (by cases h; rfl)
set_option maxHeartbeats 4000000 in
set_option maxRecDepth 20000 in
theorem g_Model_goThrough (X : Cx θ p s m args c cX11_goThrough 4 RX11) (hr : meth.sig.returnType = none) (hlk : meth.locks = false)  {σ : Mem} {x1 : Nat} {x2 : Int32} {x3 : Int32} {r : Mem} (h1 : kd x1 = 14) (h : f_Model_goThrough σ x1 x2 x3 = some r) : GB θ p l e 61 s m args below meth c 4 (none, r) 0 [(0, .ref (be θ + 565)), (1, .ref (be θ + x1)), (2, .int x2), (3, .int x3)] [] σ := by
  unfold f_Model_goThrough at h
  refine g_aload_n X dX11_goThrough_0 rfl 0 rfl ?_
  refine g_aload_n X dX11_goThrough_1 rfl 1 rfl ?_
  refine g_iload_n X dX11_goThrough_2 rfl 2 rfl ?_
  refine g_iload_n X dX11_goThrough_3 rfl 3 rfl ?_
  obtain ⟨q1, hq1, h⟩ := Option.bind_eq_some_iff.mp h
  refine g_cV X (c_Model_starts h1 hq1) lk_RX11_223 my_X11_starts (a := 565) (ci := 11) kd_565 (by decide) rfl (As := [.ref (be θ + x1), .int x2, .int x3]) (rest := []) rfl rfl (Nat.le_of_ble_eq_true rfl) ⟨(Nat.le_of_ble_eq_true rfl), (Nat.le_of_ble_eq_true rfl)⟩ ⟨(Nat.le_of_ble_eq_true rfl), (Nat.le_of_ble_eq_true rfl)⟩ dX11_goThrough_4 (st' := []) (σ' := q1) rfl rfl ?_
  refine g_aload_n X dX11_goThrough_7 rfl 0 rfl ?_
  refine g_bipush X dX11_goThrough_8 (v := (121 : Int32)) bp_121 ?_
  refine g_putI X fl_RX11_217 dX11_goThrough_10 kd_565 rfl rfl rfl ?_
  refine g_aload_n X dX11_goThrough_13 rfl 0 rfl ?_
  refine g_iconst X dX11_goThrough_14 (v := (0 : Int32)) ic_0 ?_
  refine g_putI X fl_RX11_147 dX11_goThrough_15 kd_565 rfl rfl rfl ?_
  refine g_aload_n X dX11_goThrough_18 rfl 0 rfl ?_
  refine g_iconst X dX11_goThrough_19 (v := (0 : Int32)) ic_0 ?_
  refine g_putZ X fl_RX11_213 dX11_goThrough_20 kd_565 rfl rfl rfl bz0 ?_
  refine g_aload_n X dX11_goThrough_23 rfl 0 rfl ?_
  refine g_iconst X dX11_goThrough_24 (v := (0 : Int32)) ic_0 ?_
  refine g_putI X fl_RX11_220 dX11_goThrough_25 kd_565 rfl rfl rfl ?_
  refine g_aload_n X dX11_goThrough_28 rfl 0 rfl ?_
  obtain ⟨q2, hq2, h⟩ := Option.bind_eq_some_iff.mp h
  refine g_cV X (c_Model_clause  hq2) lk_RX11_227 my_X11_clause (a := 565) (ci := 11) kd_565 (by decide) rfl (As := []) (rest := []) rfl rfl (Nat.le_of_ble_eq_true rfl) ⟨(Nat.le_of_ble_eq_true rfl), (Nat.le_of_ble_eq_true rfl)⟩ ⟨(Nat.le_of_ble_eq_true rfl), (Nat.le_of_ble_eq_true rfl)⟩ dX11_goThrough_29 (st' := []) (σ' := q2) rfl rfl ?_
  obtain ⟨w7, hq7, h⟩ := Option.bind_eq_some_iff.mp h
  refine g_sub (lv' := [(0, .ref (be θ + 565)), (1, .ref (be θ + x1)), (2, .int x2), (3, .int x3)]) [0, 1, 2, 3] rfl (gl_Model_goThrough_L32 X hr hlk  h1  FU _ w7 hq7 ?_)
  exact g_sub (lv' := [(0, .ref (be θ + 565)), (1, .ref (be θ + x1)), (2, .int x2), (3, .int x3)]) [0, 1, 2, 3] rfl (g_Model_goThrough_J66 X hr hlk  h1  h)
set_option maxHeartbeats 4000000 in
set_option maxRecDepth 20000 in
theorem c_Model_goThrough {θ : Th} {l : Launch} {σ : Mem} {x1 : Nat} {x2 : Int32} {x3 : Int32} {r : Mem} (h1 : kd x1 = 14) (h : f_Model_goThrough σ x1 x2 x3 = some r) : Cn θ l yX11_goThrough cX11_goThrough 4 (none) 61 0 0 [.ref (be θ + 565), .ref (be θ + x1), .int x2, .int x3] σ (none, r) :=
  Cn.of (by decide) (Nat.le_of_ble_eq_true rfl) (fun p e s m below meth c X hr hlk => g_Model_goThrough X hr hlk h1 h)
theorem dX11_here_0 : decode cX11_here 0 = .ok (.aload_n 0, 1) := by decide +kernel
theorem dX11_here_1 : decode cX11_here 1 = .ok (.getfield 135, 3) := by decide +kernel
theorem dX11_here_4 : decode cX11_here 4 = .ok (.aload_n 0, 1) := by decide +kernel
theorem dX11_here_5 : decode cX11_here 5 = .ok (.getfield 138, 3) := by decide +kernel
theorem dX11_here_8 : decode cX11_here 8 = .ok (.if_icmp .ge 24, 3) := by decide +kernel
theorem dX11_here_11 : decode cX11_here 11 = .ok (.aload_n 0, 1) := by decide +kernel
theorem dX11_here_12 : decode cX11_here 12 = .ok (.getfield 23, 3) := by decide +kernel
theorem dX11_here_15 : decode cX11_here 15 = .ok (.aload_n 0, 1) := by decide +kernel
theorem dX11_here_16 : decode cX11_here 16 = .ok (.getfield 141, 3) := by decide +kernel
theorem dX11_here_19 : decode cX11_here 19 = .ok (.aload_n 0, 1) := by decide +kernel
theorem dX11_here_20 : decode cX11_here 20 = .ok (.getfield 135, 3) := by decide +kernel
theorem dX11_here_23 : decode cX11_here 23 = .ok (.iadd, 1) := by decide +kernel
theorem dX11_here_24 : decode cX11_here 24 = .ok (.baload, 1) := by decide +kernel
theorem dX11_here_25 : decode cX11_here 25 = .ok (.sipush 255, 3) := by decide +kernel
theorem dX11_here_28 : decode cX11_here 28 = .ok (.iand, 1) := by decide +kernel
theorem dX11_here_29 : decode cX11_here 29 = .ok (.goto 4, 3) := by decide +kernel
theorem dX11_here_32 : decode cX11_here 32 = .ok (.iconst (-1), 1) := by decide +kernel
theorem dX11_here_33 : decode cX11_here 33 = .ok (.ireturn, 1) := by decide +kernel
def f_Model_here (σ : Mem)  : Option (Int32) :=
  if (mI σ 565 9) ≤ (mI σ 565 10) then
    some (-1 : Int32)
  else
    if kd (mR σ 565 5) = 14 then
      if inb ((mI σ 565 8) + (mI σ 565 10)) (ln (mR σ 565 5)) then
        some ((mI σ (mR σ 565 5) ((mI σ 565 8) + (mI σ 565 10)).toNatClampNeg) &&& (255 : Int32))
      else none
    else none
set_option maxHeartbeats 4000000 in
set_option maxRecDepth 20000 in
theorem g_Model_here (X : Cx θ p s m args c cX11_here 1 RX11) (hr : meth.sig.returnType = some .int) (hlk : meth.locks = false)  {σ : Mem}  {r : Int32}  (h : f_Model_here σ  = some r) : GB θ p l e 0 s m args below meth c 1 (some (.int r), σ) 0 [(0, .ref (be θ + 565))] [] σ := by
  unfold f_Model_here at h
  refine g_aload_n X dX11_here_0 rfl 0 rfl ?_
  refine g_get X fl_RX11_135 dX11_here_1 kd_565 (v := .int (mI σ 565 10)) rfl ?_
  refine g_aload_n X dX11_here_4 rfl 0 rfl ?_
  refine g_get X fl_RX11_138 dX11_here_5 kd_565 (v := .int (mI σ 565 9)) rfl ?_
  refine g_icmp_ge (tgt := 32) X dX11_here_8 (by decide) (fun c1 => ?_) (fun c1 => ?_)
  · replace h := (if_pos c1).symm.trans h
    refine g_iconst X dX11_here_32 (v := (-1 : Int32)) ic_m1 ?_
    exact g_iret X hr hlk dX11_here_33 (by cases h; rfl)
  · replace h := (if_neg c1).symm.trans h
    refine g_aload_n X dX11_here_11 rfl 0 rfl ?_
    refine g_get X fl_RX11_23 dX11_here_12 kd_565 (v := rv (be θ) (mR σ 565 5)) rfl ?_
    refine g_aload_n X dX11_here_15 rfl 0 rfl ?_
    refine g_get X fl_RX11_141 dX11_here_16 kd_565 (v := .int (mI σ 565 8)) rfl ?_
    refine g_aload_n X dX11_here_19 rfl 0 rfl ?_
    refine g_get X fl_RX11_135 dX11_here_20 kd_565 (v := .int (mI σ 565 10)) rfl ?_
    refine g_iadd X dX11_here_23 ?_
    obtain ⟨g2, h⟩ := ite_some h
    rw [← rv_of (β := be θ) g2 (by decide)]
    obtain ⟨g3, h⟩ := ite_some h
    refine g_bald X g2 rfl (inb_in g3) dX11_here_24 ?_
    refine g_sipush X dX11_here_25 (v := (255 : Int32)) sp_255 ?_
    refine g_iand X dX11_here_28 ?_
    refine g_goto (tgt := 33) X dX11_here_29 (by decide) ?_
    exact g_iret X hr hlk dX11_here_33 (by cases h; rfl)
set_option maxHeartbeats 4000000 in
set_option maxRecDepth 20000 in
theorem c_Model_here {θ : Th} {l : Launch} {σ : Mem}  {r : Int32}  (h : f_Model_here σ  = some r) : Cn θ l yX11_here cX11_here 1 (some .int) 0 0 0 [.ref (be θ + 565)] σ (some (.int r), σ) :=
  Cn.of (by decide) (Nat.le_of_ble_eq_true rfl) (fun p e s m below meth c X hr hlk => g_Model_here X hr hlk  h)
theorem dX11_spotOf_0 : decode cX11_spotOf 0 = .ok (.iconst 0, 1) := by decide +kernel
theorem dX11_spotOf_1 : decode cX11_spotOf 1 = .ok (.istore_n 2, 1) := by decide +kernel
theorem dX11_spotOf_2 : decode cX11_spotOf 2 = .ok (.iload_n 2, 1) := by decide +kernel
theorem dX11_spotOf_3 : decode cX11_spotOf 3 = .ok (.aload_n 0, 1) := by decide +kernel
theorem dX11_spotOf_4 : decode cX11_spotOf 4 = .ok (.invokevirtual 115, 3) := by decide +kernel
theorem dX11_spotOf_7 : decode cX11_spotOf 7 = .ok (.if_icmp .ge 20, 3) := by decide +kernel
theorem dX11_spotOf_10 : decode cX11_spotOf 10 = .ok (.aload_n 0, 1) := by decide +kernel
theorem dX11_spotOf_11 : decode cX11_spotOf 11 = .ok (.iload_n 2, 1) := by decide +kernel
theorem dX11_spotOf_12 : decode cX11_spotOf 12 = .ok (.invokevirtual 121, 3) := by decide +kernel
theorem dX11_spotOf_15 : decode cX11_spotOf 15 = .ok (.iload_n 1, 1) := by decide +kernel
theorem dX11_spotOf_16 : decode cX11_spotOf 16 = .ok (.if_icmp .ne 5, 3) := by decide +kernel
theorem dX11_spotOf_19 : decode cX11_spotOf 19 = .ok (.iload_n 2, 1) := by decide +kernel
theorem dX11_spotOf_20 : decode cX11_spotOf 20 = .ok (.ireturn, 1) := by decide +kernel
theorem dX11_spotOf_21 : decode cX11_spotOf 21 = .ok (.iinc 2 1, 3) := by decide +kernel
theorem dX11_spotOf_24 : decode cX11_spotOf 24 = .ok (.goto (-22), 3) := by decide +kernel
theorem dX11_spotOf_27 : decode cX11_spotOf 27 = .ok (.iconst (-1), 1) := by decide +kernel
theorem dX11_spotOf_28 : decode cX11_spotOf 28 = .ok (.ireturn, 1) := by decide +kernel
def f_Model_spotOf_L2 (σ : Mem) (x0 : Nat) (x1 : Int32) (a : Int32) : Option ((Int32) ⊕ (Int32)) :=
  if (slen x0) ≤ a then
    some (.inr (-1 : Int32))
  else
    if inb a (stn.getD x0 0) then
      if (schr x0 a.toNatClampNeg) = x1 then
        some (.inr a)
      else
        some (.inl (a + (1 : Int32)))
    else none
def f_Model_spotOf (σ : Mem) (x0 : Nat) (x1 : Int32) : Option (Int32) :=
  loopF (f_Model_spotOf_L2 σ x0 x1) FU (0 : Int32)
set_option maxHeartbeats 4000000 in
set_option maxRecDepth 20000 in
theorem gs_Model_spotOf_L2 (X : Cx θ p s m args c cX11_spotOf 3 RX11) (hr : meth.sig.returnType = some .int) (hlk : meth.locks = false)  {σ : Mem} {x0 : Nat} {x1 : Int32} {r : Int32} (h0 : x0 < 6) (a : Int32) (x : (Int32) ⊕ (Int32)) (h : f_Model_spotOf_L2 σ x0 x1 a = some x) (hk : Sum.elim (fun a => GB θ p l e 4 s m args below meth c 3 (some (.int r), σ) 2 [(0, .ref (sA θ x0)), (1, .int x1), (2, .int a)] [] σ) (fun b => b = r) x) : GB θ p l e 4 s m args below meth c 3 (some (.int r), σ) 2 [(0, .ref (sA θ x0)), (1, .int x1), (2, .int a)] [] σ := by
  unfold f_Model_spotOf_L2 at h
  refine g_iload_n X dX11_spotOf_2 rfl 2 rfl ?_
  refine g_aload_n X dX11_spotOf_3 rfl 0 rfl ?_
  refine g_cT X (c_str_length h0) lk_RX11_115 my_J0_length_8abf5 h0 rfl (As := []) (rest := [.int a]) rfl rfl (Nat.le_of_ble_eq_true rfl) ⟨(Nat.le_of_ble_eq_true rfl), (Nat.le_of_ble_eq_true rfl)⟩ ⟨(Nat.le_of_ble_eq_true rfl), (Nat.le_of_ble_eq_true rfl)⟩ dX11_spotOf_4 (st' := [.int (slen x0), .int a]) (σ' := σ) rfl rfl ?_
  refine g_icmp_ge (tgt := 27) X dX11_spotOf_7 (by decide) (fun c2 => ?_) (fun c2 => ?_)
  · replace h := (if_pos c2).symm.trans h
    refine g_iconst X dX11_spotOf_27 (v := (-1 : Int32)) ic_m1 ?_
    have hk := inr_hk h hk
    have hk : (-1 : Int32) = r := hk
    subst hk
    exact g_iret X hr hlk dX11_spotOf_28 rfl
  · replace h := (if_neg c2).symm.trans h
    refine g_aload_n X dX11_spotOf_10 rfl 0 rfl ?_
    refine g_iload_n X dX11_spotOf_11 rfl 2 rfl ?_
    obtain ⟨g4, h⟩ := ite_some h
    refine g_cT X (c_str_charAt h0 (inb_in g4)) lk_RX11_121 my_J0_charAt_5068e h0 rfl (As := [.int a]) (rest := []) rfl rfl (Nat.le_of_ble_eq_true rfl) ⟨(Nat.le_of_ble_eq_true rfl), (Nat.le_of_ble_eq_true rfl)⟩ ⟨(Nat.le_of_ble_eq_true rfl), (Nat.le_of_ble_eq_true rfl)⟩ dX11_spotOf_12 (st' := [.int (schr x0 a.toNatClampNeg)]) (σ' := σ) rfl rfl ?_
    refine g_iload_n X dX11_spotOf_15 rfl 1 rfl ?_
    refine g_icmp_ne (tgt := 21) X dX11_spotOf_16 (by decide) (fun c5 => ?_) (fun c5 => ?_)
    · replace h := (if_neg c5).symm.trans h
      refine g_iinc X dX11_spotOf_21 (kq := 2) rfl (congrArg (HAdd.hAdd _) ic_1) (by decide) (lv' := [(2, .int (a + (1 : Int32))), (0, .ref (sA θ x0)), (1, .int x1)]) rfl ?_
      refine g_goto (tgt := 2) X dX11_spotOf_24 (by decide) ?_
      have hk := inl_hk h hk
      exact g_sub (lv' := [(0, .ref (sA θ x0)), (1, .int x1), (2, .int (a + (1 : Int32)))]) [1, 2, 0] rfl hk
    · replace h := (if_pos c5).symm.trans h
      refine g_iload_n X dX11_spotOf_19 rfl 2 rfl ?_
      have hk := inr_hk h hk
      have hk : a = r := hk
      subst hk
      exact g_iret X hr hlk dX11_spotOf_20 rfl
set_option maxHeartbeats 4000000 in
set_option maxRecDepth 20000 in
theorem gl_Model_spotOf_L2 (X : Cx θ p s m args c cX11_spotOf 3 RX11) (hr : meth.sig.returnType = some .int) (hlk : meth.locks = false)  {σ : Mem} {x0 : Nat} {x1 : Int32} {r : Int32} (h0 : x0 < 6) (n : Nat) (a : Int32) (b : Int32) (h : loopF (f_Model_spotOf_L2 σ x0 x1) n a = some b) (hk : (fun b => b = r) b) : (fun a => GB θ p l e 4 s m args below meth c 3 (some (.int r), σ) 2 [(0, .ref (sA θ x0)), (1, .int x1), (2, .int a)] [] σ) a :=
  loopF_by (P := (fun a => GB θ p l e 4 s m args below meth c 3 (some (.int r), σ) 2 [(0, .ref (sA θ x0)), (1, .int x1), (2, .int a)] [] σ)) (K := (fun b => b = r)) (fun a x h hk => by exact gs_Model_spotOf_L2 X hr hlk  h0 a x h hk) n a b h hk
set_option maxHeartbeats 4000000 in
set_option maxRecDepth 20000 in
theorem g_Model_spotOf (X : Cx θ p s m args c cX11_spotOf 3 RX11) (hr : meth.sig.returnType = some .int) (hlk : meth.locks = false)  {σ : Mem} {x0 : Nat} {x1 : Int32} {r : Int32} (h0 : x0 < 6) (h : f_Model_spotOf σ x0 x1 = some r) : GB θ p l e 4 s m args below meth c 3 (some (.int r), σ) 0 [(0, .ref (sA θ x0)), (1, .int x1)] [] σ := by
  unfold f_Model_spotOf at h
  refine g_iconst X dX11_spotOf_0 (v := (0 : Int32)) ic_0 ?_
  refine g_istore_n X dX11_spotOf_1 rfl (by decide) (lv' := [(2, .int (0 : Int32)), (0, .ref (sA θ x0)), (1, .int x1)]) rfl ?_
  exact g_sub (lv' := [(0, .ref (sA θ x0)), (1, .int x1), (2, .int (0 : Int32))]) [1, 2, 0] rfl (gl_Model_spotOf_L2 X hr hlk  h0  FU _ _ h rfl)
set_option maxHeartbeats 4000000 in
set_option maxRecDepth 20000 in
theorem c_Model_spotOf {θ : Th} {l : Launch} {σ : Mem} {x0 : Nat} {x1 : Int32} {r : Int32} (h0 : x0 < 6) (h : f_Model_spotOf σ x0 x1 = some r) : Cn θ l yX11_spotOf cX11_spotOf 3 (some .int) 4 0 0 [.ref (sA θ x0), .int x1] σ (some (.int r), σ) :=
  Cn.of (by decide) (Nat.le_of_ble_eq_true rfl) (fun p e s m below meth c X hr hlk => g_Model_spotOf X hr hlk h0 h)
theorem dX11_number_0 : decode cX11_number 0 = .ok (.aload_n 0, 1) := by decide +kernel
theorem dX11_number_1 : decode cX11_number 1 = .ok (.invokevirtual 154, 3) := by decide +kernel
theorem dX11_number_4 : decode cX11_number 4 = .ok (.istore_n 3, 1) := by decide +kernel
theorem dX11_number_5 : decode cX11_number 5 = .ok (.aload_n 0, 1) := by decide +kernel
theorem dX11_number_6 : decode cX11_number 6 = .ok (.invokevirtual 184, 3) := by decide +kernel
theorem dX11_number_9 : decode cX11_number 9 = .ok (.ifCond .ne 10, 3) := by decide +kernel
theorem dX11_number_12 : decode cX11_number 12 = .ok (.aload_n 0, 1) := by decide +kernel
theorem dX11_number_13 : decode cX11_number 13 = .ok (.invokevirtual 150, 3) := by decide +kernel
theorem dX11_number_16 : decode cX11_number 16 = .ok (.pop, 1) := by decide +kernel
theorem dX11_number_17 : decode cX11_number 17 = .ok (.iconst 0, 1) := by decide +kernel
theorem dX11_number_18 : decode cX11_number 18 = .ok (.ireturn, 1) := by decide +kernel
theorem dX11_number_19 : decode cX11_number 19 = .ok (.iload_n 3, 1) := by decide +kernel
theorem dX11_number_20 : decode cX11_number 20 = .ok (.bipush 48, 2) := by decide +kernel
theorem dX11_number_22 : decode cX11_number 22 = .ok (.isub, 1) := by decide +kernel
theorem dX11_number_23 : decode cX11_number 23 = .ok (.istore 4, 2) := by decide +kernel
theorem dX11_number_25 : decode cX11_number 25 = .ok (.aload_n 0, 1) := by decide +kernel
theorem dX11_number_26 : decode cX11_number 26 = .ok (.dup, 1) := by decide +kernel
theorem dX11_number_27 : decode cX11_number 27 = .ok (.getfield 135, 3) := by decide +kernel
theorem dX11_number_30 : decode cX11_number 30 = .ok (.iconst 1, 1) := by decide +kernel
theorem dX11_number_31 : decode cX11_number 31 = .ok (.iadd, 1) := by decide +kernel
theorem dX11_number_32 : decode cX11_number 32 = .ok (.putfield 135, 3) := by decide +kernel
theorem dX11_number_35 : decode cX11_number 35 = .ok (.aload_n 0, 1) := by decide +kernel
theorem dX11_number_36 : decode cX11_number 36 = .ok (.invokevirtual 184, 3) := by decide +kernel
theorem dX11_number_39 : decode cX11_number 39 = .ok (.ifCond .eq 28, 3) := by decide +kernel
theorem dX11_number_42 : decode cX11_number 42 = .ok (.bipush 10, 2) := by decide +kernel
theorem dX11_number_44 : decode cX11_number 44 = .ok (.iload 4, 2) := by decide +kernel
theorem dX11_number_46 : decode cX11_number 46 = .ok (.imul, 1) := by decide +kernel
theorem dX11_number_47 : decode cX11_number 47 = .ok (.aload_n 0, 1) := by decide +kernel
theorem dX11_number_48 : decode cX11_number 48 = .ok (.invokevirtual 230, 3) := by decide +kernel
theorem dX11_number_51 : decode cX11_number 51 = .ok (.iadd, 1) := by decide +kernel
theorem dX11_number_52 : decode cX11_number 52 = .ok (.bipush 48, 2) := by decide +kernel
theorem dX11_number_54 : decode cX11_number 54 = .ok (.isub, 1) := by decide +kernel
theorem dX11_number_55 : decode cX11_number 55 = .ok (.istore 4, 2) := by decide +kernel
theorem dX11_number_57 : decode cX11_number 57 = .ok (.aload_n 0, 1) := by decide +kernel
theorem dX11_number_58 : decode cX11_number 58 = .ok (.dup, 1) := by decide +kernel
theorem dX11_number_59 : decode cX11_number 59 = .ok (.getfield 135, 3) := by decide +kernel
theorem dX11_number_62 : decode cX11_number 62 = .ok (.iconst 1, 1) := by decide +kernel
theorem dX11_number_63 : decode cX11_number 63 = .ok (.iadd, 1) := by decide +kernel
theorem dX11_number_64 : decode cX11_number 64 = .ok (.putfield 135, 3) := by decide +kernel
theorem dX11_number_67 : decode cX11_number 67 = .ok (.aload_n 0, 1) := by decide +kernel
theorem dX11_number_68 : decode cX11_number 68 = .ok (.invokevirtual 184, 3) := by decide +kernel
theorem dX11_number_71 : decode cX11_number 71 = .ok (.ifCond .eq 10, 3) := by decide +kernel
theorem dX11_number_74 : decode cX11_number 74 = .ok (.aload_n 0, 1) := by decide +kernel
theorem dX11_number_75 : decode cX11_number 75 = .ok (.invokevirtual 150, 3) := by decide +kernel
theorem dX11_number_78 : decode cX11_number 78 = .ok (.pop, 1) := by decide +kernel
theorem dX11_number_79 : decode cX11_number 79 = .ok (.iconst 0, 1) := by decide +kernel
theorem dX11_number_80 : decode cX11_number 80 = .ok (.ireturn, 1) := by decide +kernel
theorem dX11_number_81 : decode cX11_number 81 = .ok (.iload 4, 2) := by decide +kernel
theorem dX11_number_83 : decode cX11_number 83 = .ok (.i2l, 1) := by decide +kernel
theorem dX11_number_84 : decode cX11_number 84 = .ok (.iload_n 1, 1) := by decide +kernel
theorem dX11_number_85 : decode cX11_number 85 = .ok (.i2l, 1) := by decide +kernel
theorem dX11_number_86 : decode cX11_number 86 = .ok (.iload_n 2, 1) := by decide +kernel
theorem dX11_number_87 : decode cX11_number 87 = .ok (.i2l, 1) := by decide +kernel
theorem dX11_number_88 : decode cX11_number 88 = .ok (.invokestatic 233, 3) := by decide +kernel
theorem dX11_number_91 : decode cX11_number 91 = .ok (.ifCond .ne 18, 3) := by decide +kernel
theorem dX11_number_94 : decode cX11_number 94 = .ok (.aload_n 0, 1) := by decide +kernel
theorem dX11_number_95 : decode cX11_number 95 = .ok (.dup, 1) := by decide +kernel
theorem dX11_number_96 : decode cX11_number 96 = .ok (.getfield 135, 3) := by decide +kernel
theorem dX11_number_99 : decode cX11_number 99 = .ok (.iconst 1, 1) := by decide +kernel
theorem dX11_number_100 : decode cX11_number 100 = .ok (.isub, 1) := by decide +kernel
theorem dX11_number_101 : decode cX11_number 101 = .ok (.putfield 135, 3) := by decide +kernel
theorem dX11_number_104 : decode cX11_number 104 = .ok (.aload_n 0, 1) := by decide +kernel
theorem dX11_number_105 : decode cX11_number 105 = .ok (.invokevirtual 150, 3) := by decide +kernel
theorem dX11_number_108 : decode cX11_number 108 = .ok (.pop, 1) := by decide +kernel
theorem dX11_number_109 : decode cX11_number 109 = .ok (.iload 4, 2) := by decide +kernel
theorem dX11_number_111 : decode cX11_number 111 = .ok (.ireturn, 1) := by decide +kernel
def f_Model_number_J67 (σ : Mem) (x1 : Int32) (x2 : Int32) (y4 : Int32) : Option (Int32 × Mem) :=
  (f_Model_isDigit σ).bind fun q6 =>
  if q6 = (0 : Int32) then
    (f_Model_isIn σ ((y4).toInt64) ((x1).toInt64) ((x2).toInt64)).bind fun q8 =>
    if q8 = (0 : Int32) then
      (f_Model_fails (sI σ 565 10 ((mI σ 565 10) - (1 : Int32)))).bind fun q10 =>
      some (y4, q10.2)
    else
      some (y4, σ)
  else
    (f_Model_fails σ).bind fun q11 =>
    some ((0 : Int32), q11.2)
def f_Model_number (σ : Mem) (x1 : Int32) (x2 : Int32) : Option (Int32 × Mem) :=
  (f_Model_look σ).bind fun q1 =>
  (f_Model_isDigit q1.2).bind fun q2 =>
  if q2 = (0 : Int32) then
    (f_Model_fails q1.2).bind fun q13 =>
    some ((0 : Int32), q13.2)
  else
    (f_Model_isDigit (sI q1.2 565 10 ((mI q1.2 565 10) + (1 : Int32)))).bind fun q4 =>
    if q4 = (0 : Int32) then
      f_Model_number_J67 (sI q1.2 565 10 ((mI q1.2 565 10) + (1 : Int32))) x1 x2 (q1.1 - (48 : Int32))
    else
      (f_Model_here (sI q1.2 565 10 ((mI q1.2 565 10) + (1 : Int32)))).bind fun q12 =>
      f_Model_number_J67 (sI (sI q1.2 565 10 ((mI q1.2 565 10) + (1 : Int32))) 565 10 ((mI (sI q1.2 565 10 ((mI q1.2 565 10) + (1 : Int32))) 565 10) + (1 : Int32))) x1 x2 ((((10 : Int32) * (q1.1 - (48 : Int32))) + q12) - (48 : Int32))
set_option maxHeartbeats 4000000 in
set_option maxRecDepth 20000 in
theorem g_Model_number_J67 (X : Cx θ p s m args c cX11_number 5 RX11) (hr : meth.sig.returnType = some .int) (hlk : meth.locks = false)  {σ : Mem} {x1 : Int32} {x2 : Int32} {y4 : Int32} {r : Int32 × Mem}  (h : f_Model_number_J67 σ x1 x2 y4 = some r) : GB θ p l e 1 s m args below meth c 5 (some (.int r.1), r.2) 67 [(0, .ref (be θ + 565)), (1, .int x1), (2, .int x2), (4, .int y4)] [] σ := by
  unfold f_Model_number_J67 at h
  refine g_aload_n X dX11_number_67 rfl 0 rfl ?_
  obtain ⟨q6, hq6, h⟩ := Option.bind_eq_some_iff.mp h
  refine g_cV X (c_Model_isDigit  hq6) lk_RX11_184 my_X11_isDigit (a := 565) (ci := 11) kd_565 (by decide) rfl (As := []) (rest := []) rfl rfl (Nat.le_of_ble_eq_true rfl) ⟨(Nat.le_of_ble_eq_true rfl), (Nat.le_of_ble_eq_true rfl)⟩ ⟨(Nat.le_of_ble_eq_true rfl), (Nat.le_of_ble_eq_true rfl)⟩ dX11_number_68 (st' := [.int q6]) (σ' := σ) rfl rfl ?_
  refine g_if_eq (tgt := 81) X dX11_number_71 (by decide) (fun c7 => ?_) (fun c7 => ?_)
  · replace h := (if_pos c7).symm.trans h
    refine g_iload X dX11_number_81 3 rfl ?_
    refine g_i2l X dX11_number_83 (v := ((y4).toInt64)) rfl ?_
    refine g_iload_n X dX11_number_84 rfl 1 rfl ?_
    refine g_i2l X dX11_number_85 (v := ((x1).toInt64)) rfl ?_
    refine g_iload_n X dX11_number_86 rfl 2 rfl ?_
    refine g_i2l X dX11_number_87 (v := ((x2).toInt64)) rfl ?_
    obtain ⟨q8, hq8, h⟩ := Option.bind_eq_some_iff.mp h
    refine g_cS X (c_Model_isIn  hq8) lk_RX11_233 my_X11_isIn (As := [.long ((y4).toInt64), .long ((x1).toInt64), .long ((x2).toInt64)]) (rest := []) rfl rfl (Nat.le_of_ble_eq_true rfl) ⟨(Nat.le_of_ble_eq_true rfl), (Nat.le_of_ble_eq_true rfl)⟩ ⟨(Nat.le_of_ble_eq_true rfl), (Nat.le_of_ble_eq_true rfl)⟩ dX11_number_88 (st' := [.int q8]) (σ' := σ) rfl rfl ?_
    refine g_if_ne (tgt := 109) X dX11_number_91 (by decide) (fun c9 => ?_) (fun c9 => ?_)
    · replace h := (if_neg c9).symm.trans h
      refine g_iload X dX11_number_109 3 rfl ?_
      exact g_iret X hr hlk dX11_number_111 (by cases h; rfl)
    · replace h := (if_pos c9).symm.trans h
      refine g_aload_n X dX11_number_94 rfl 0 rfl ?_
      refine g_dup X dX11_number_95 rfl ?_
      refine g_get X fl_RX11_135 dX11_number_96 kd_565 (v := .int (mI σ 565 10)) rfl ?_
      refine g_iconst X dX11_number_99 (v := (1 : Int32)) ic_1 ?_
      refine g_isub X dX11_number_100 ?_
      refine g_putI X fl_RX11_135 dX11_number_101 kd_565 rfl rfl rfl ?_
      refine g_aload_n X dX11_number_104 rfl 0 rfl ?_
      obtain ⟨q10, hq10, h⟩ := Option.bind_eq_some_iff.mp h
      refine g_cV X (c_Model_fails  hq10) lk_RX11_150 my_X11_fails (a := 565) (ci := 11) kd_565 (by decide) rfl (As := []) (rest := []) rfl rfl (Nat.le_of_ble_eq_true rfl) ⟨(Nat.le_of_ble_eq_true rfl), (Nat.le_of_ble_eq_true rfl)⟩ ⟨(Nat.le_of_ble_eq_true rfl), (Nat.le_of_ble_eq_true rfl)⟩ dX11_number_105 (st' := [.int q10.1]) (σ' := q10.2) rfl rfl ?_
      refine g_pop X dX11_number_108 rfl ?_
      refine g_iload X dX11_number_109 3 rfl ?_
      exact g_iret X hr hlk dX11_number_111 (by cases h; rfl)
  · replace h := (if_neg c7).symm.trans h
    refine g_aload_n X dX11_number_74 rfl 0 rfl ?_
    obtain ⟨q11, hq11, h⟩ := Option.bind_eq_some_iff.mp h
    refine g_cV X (c_Model_fails  hq11) lk_RX11_150 my_X11_fails (a := 565) (ci := 11) kd_565 (by decide) rfl (As := []) (rest := []) rfl rfl (Nat.le_of_ble_eq_true rfl) ⟨(Nat.le_of_ble_eq_true rfl), (Nat.le_of_ble_eq_true rfl)⟩ ⟨(Nat.le_of_ble_eq_true rfl), (Nat.le_of_ble_eq_true rfl)⟩ dX11_number_75 (st' := [.int q11.1]) (σ' := q11.2) rfl rfl ?_
    refine g_pop X dX11_number_78 rfl ?_
    refine g_iconst X dX11_number_79 (v := (0 : Int32)) ic_0 ?_
    exact g_iret X hr hlk dX11_number_80 (by cases h; rfl)
set_option maxHeartbeats 4000000 in
set_option maxRecDepth 20000 in
theorem g_Model_number (X : Cx θ p s m args c cX11_number 5 RX11) (hr : meth.sig.returnType = some .int) (hlk : meth.locks = false)  {σ : Mem} {x1 : Int32} {x2 : Int32} {r : Int32 × Mem}  (h : f_Model_number σ x1 x2 = some r) : GB θ p l e 1 s m args below meth c 5 (some (.int r.1), r.2) 0 [(0, .ref (be θ + 565)), (1, .int x1), (2, .int x2)] [] σ := by
  unfold f_Model_number at h
  refine g_aload_n X dX11_number_0 rfl 0 rfl ?_
  obtain ⟨q1, hq1, h⟩ := Option.bind_eq_some_iff.mp h
  refine g_cV X (c_Model_look  hq1) lk_RX11_154 my_X11_look (a := 565) (ci := 11) kd_565 (by decide) rfl (As := []) (rest := []) rfl rfl (Nat.le_of_ble_eq_true rfl) ⟨(Nat.le_of_ble_eq_true rfl), (Nat.le_of_ble_eq_true rfl)⟩ ⟨(Nat.le_of_ble_eq_true rfl), (Nat.le_of_ble_eq_true rfl)⟩ dX11_number_1 (st' := [.int q1.1]) (σ' := q1.2) rfl rfl ?_
  refine g_istore_n X dX11_number_4 rfl (by decide) (lv' := [(3, .int q1.1), (0, .ref (be θ + 565)), (1, .int x1), (2, .int x2)]) rfl ?_
  refine g_aload_n X dX11_number_5 rfl 1 rfl ?_
  obtain ⟨q2, hq2, h⟩ := Option.bind_eq_some_iff.mp h
  refine g_cV X (c_Model_isDigit  hq2) lk_RX11_184 my_X11_isDigit (a := 565) (ci := 11) kd_565 (by decide) rfl (As := []) (rest := []) rfl rfl (Nat.le_of_ble_eq_true rfl) ⟨(Nat.le_of_ble_eq_true rfl), (Nat.le_of_ble_eq_true rfl)⟩ ⟨(Nat.le_of_ble_eq_true rfl), (Nat.le_of_ble_eq_true rfl)⟩ dX11_number_6 (st' := [.int q2]) (σ' := q1.2) rfl rfl ?_
  refine g_if_ne (tgt := 19) X dX11_number_9 (by decide) (fun c3 => ?_) (fun c3 => ?_)
  · replace h := (if_neg c3).symm.trans h
    refine g_iload_n X dX11_number_19 rfl 0 rfl ?_
    refine g_bipush X dX11_number_20 (v := (48 : Int32)) bp_48 ?_
    refine g_isub X dX11_number_22 ?_
    refine g_istore X dX11_number_23 (by decide) (lv' := [(4, .int (q1.1 - (48 : Int32))), (3, .int q1.1), (0, .ref (be θ + 565)), (1, .int x1), (2, .int x2)]) rfl ?_
    refine g_aload_n X dX11_number_25 rfl 2 rfl ?_
    refine g_dup X dX11_number_26 rfl ?_
    refine g_get X fl_RX11_135 dX11_number_27 kd_565 (v := .int (mI q1.2 565 10)) rfl ?_
    refine g_iconst X dX11_number_30 (v := (1 : Int32)) ic_1 ?_
    refine g_iadd X dX11_number_31 ?_
    refine g_putI X fl_RX11_135 dX11_number_32 kd_565 rfl rfl rfl ?_
    refine g_aload_n X dX11_number_35 rfl 2 rfl ?_
    obtain ⟨q4, hq4, h⟩ := Option.bind_eq_some_iff.mp h
    refine g_cV X (c_Model_isDigit  hq4) lk_RX11_184 my_X11_isDigit (a := 565) (ci := 11) kd_565 (by decide) rfl (As := []) (rest := []) rfl rfl (Nat.le_of_ble_eq_true rfl) ⟨(Nat.le_of_ble_eq_true rfl), (Nat.le_of_ble_eq_true rfl)⟩ ⟨(Nat.le_of_ble_eq_true rfl), (Nat.le_of_ble_eq_true rfl)⟩ dX11_number_36 (st' := [.int q4]) (σ' := (sI q1.2 565 10 ((mI q1.2 565 10) + (1 : Int32)))) rfl rfl ?_
    refine g_if_eq (tgt := 67) X dX11_number_39 (by decide) (fun c5 => ?_) (fun c5 => ?_)
    · replace h := (if_pos c5).symm.trans h
      exact g_sub (lv' := [(0, .ref (be θ + 565)), (1, .int x1), (2, .int x2), (4, .int (q1.1 - (48 : Int32)))]) [2, 3, 4, 0] rfl (g_Model_number_J67 X hr hlk    h)
    · replace h := (if_neg c5).symm.trans h
      refine g_bipush X dX11_number_42 (v := (10 : Int32)) bp_10 ?_
      refine g_iload X dX11_number_44 0 rfl ?_
      refine g_imul X dX11_number_46 ?_
      refine g_aload_n X dX11_number_47 rfl 2 rfl ?_
      obtain ⟨q12, hq12, h⟩ := Option.bind_eq_some_iff.mp h
      refine g_cV X (c_Model_here  hq12) lk_RX11_230 my_X11_here (a := 565) (ci := 11) kd_565 (by decide) rfl (As := []) (rest := [.int ((10 : Int32) * (q1.1 - (48 : Int32)))]) rfl rfl (Nat.le_of_ble_eq_true rfl) ⟨(Nat.le_of_ble_eq_true rfl), (Nat.le_of_ble_eq_true rfl)⟩ ⟨(Nat.le_of_ble_eq_true rfl), (Nat.le_of_ble_eq_true rfl)⟩ dX11_number_48 (st' := [.int q12, .int ((10 : Int32) * (q1.1 - (48 : Int32)))]) (σ' := (sI q1.2 565 10 ((mI q1.2 565 10) + (1 : Int32)))) rfl rfl ?_
      refine g_iadd X dX11_number_51 ?_
      refine g_bipush X dX11_number_52 (v := (48 : Int32)) bp_48 ?_
      refine g_isub X dX11_number_54 ?_
      refine g_istore X dX11_number_55 (by decide) (lv' := [(4, .int ((((10 : Int32) * (q1.1 - (48 : Int32))) + q12) - (48 : Int32))), (3, .int q1.1), (0, .ref (be θ + 565)), (1, .int x1), (2, .int x2)]) rfl ?_
      refine g_aload_n X dX11_number_57 rfl 2 rfl ?_
      refine g_dup X dX11_number_58 rfl ?_
      refine g_get X fl_RX11_135 dX11_number_59 kd_565 (v := .int (mI (sI q1.2 565 10 ((mI q1.2 565 10) + (1 : Int32))) 565 10)) rfl ?_
      refine g_iconst X dX11_number_62 (v := (1 : Int32)) ic_1 ?_
      refine g_iadd X dX11_number_63 ?_
      refine g_putI X fl_RX11_135 dX11_number_64 kd_565 rfl rfl rfl ?_
      exact g_sub (lv' := [(0, .ref (be θ + 565)), (1, .int x1), (2, .int x2), (4, .int ((((10 : Int32) * (q1.1 - (48 : Int32))) + q12) - (48 : Int32)))]) [2, 3, 4, 0] rfl (g_Model_number_J67 X hr hlk    h)
  · replace h := (if_pos c3).symm.trans h
    refine g_aload_n X dX11_number_12 rfl 1 rfl ?_
    obtain ⟨q13, hq13, h⟩ := Option.bind_eq_some_iff.mp h
    refine g_cV X (c_Model_fails  hq13) lk_RX11_150 my_X11_fails (a := 565) (ci := 11) kd_565 (by decide) rfl (As := []) (rest := []) rfl rfl (Nat.le_of_ble_eq_true rfl) ⟨(Nat.le_of_ble_eq_true rfl), (Nat.le_of_ble_eq_true rfl)⟩ ⟨(Nat.le_of_ble_eq_true rfl), (Nat.le_of_ble_eq_true rfl)⟩ dX11_number_13 (st' := [.int q13.1]) (σ' := q13.2) rfl rfl ?_
    refine g_pop X dX11_number_16 rfl ?_
    refine g_iconst X dX11_number_17 (v := (0 : Int32)) ic_0 ?_
    exact g_iret X hr hlk dX11_number_18 (by cases h; rfl)
set_option maxHeartbeats 4000000 in
set_option maxRecDepth 20000 in
theorem c_Model_number {θ : Th} {l : Launch} {σ : Mem} {x1 : Int32} {x2 : Int32} {r : Int32 × Mem}  (h : f_Model_number σ x1 x2 = some r) : Cn θ l yX11_number cX11_number 5 (some .int) 1 0 0 [.ref (be θ + 565), .int x1, .int x2] σ (some (.int r.1), r.2) :=
  Cn.of (by decide) (Nat.le_of_ble_eq_true rfl) (fun p e s m below meth c X hr hlk => g_Model_number X hr hlk  h)
theorem dX11_mostOf_0 : decode cX11_mostOf 0 = .ok (.iload_n 0, 1) := by decide +kernel
theorem dX11_mostOf_1 : decode cX11_mostOf 1 = .ok (.bipush 115, 2) := by decide +kernel
theorem dX11_mostOf_3 : decode cX11_mostOf 3 = .ok (.if_icmp .ne 25, 3) := by decide +kernel
theorem dX11_mostOf_6 : decode cX11_mostOf 6 = .ok (.iload_n 1, 1) := by decide +kernel
theorem dX11_mostOf_7 : decode cX11_mostOf 7 = .ok (.ifCond .ne 8, 3) := by decide +kernel
theorem dX11_mostOf_10 : decode cX11_mostOf 10 = .ok (.bipush 8, 2) := by decide +kernel
theorem dX11_mostOf_12 : decode cX11_mostOf 12 = .ok (.goto 15, 3) := by decide +kernel
theorem dX11_mostOf_15 : decode cX11_mostOf 15 = .ok (.iload_n 1, 1) := by decide +kernel
theorem dX11_mostOf_16 : decode cX11_mostOf 16 = .ok (.iconst 1, 1) := by decide +kernel
theorem dX11_mostOf_17 : decode cX11_mostOf 17 = .ok (.if_icmp .ne 8, 3) := by decide +kernel
theorem dX11_mostOf_20 : decode cX11_mostOf 20 = .ok (.bipush 9, 2) := by decide +kernel
theorem dX11_mostOf_22 : decode cX11_mostOf 22 = .ok (.goto 5, 3) := by decide +kernel
theorem dX11_mostOf_25 : decode cX11_mostOf 25 = .ok (.bipush 30, 2) := by decide +kernel
theorem dX11_mostOf_27 : decode cX11_mostOf 27 = .ok (.ireturn, 1) := by decide +kernel
theorem dX11_mostOf_28 : decode cX11_mostOf 28 = .ok (.iload_n 0, 1) := by decide +kernel
theorem dX11_mostOf_29 : decode cX11_mostOf 29 = .ok (.bipush 116, 2) := by decide +kernel
theorem dX11_mostOf_31 : decode cX11_mostOf 31 = .ok (.if_icmp .ne 24, 3) := by decide +kernel
theorem dX11_mostOf_34 : decode cX11_mostOf 34 = .ok (.iload_n 1, 1) := by decide +kernel
theorem dX11_mostOf_35 : decode cX11_mostOf 35 = .ok (.ifCond .ne 8, 3) := by decide +kernel
theorem dX11_mostOf_38 : decode cX11_mostOf 38 = .ok (.bipush 99, 2) := by decide +kernel
theorem dX11_mostOf_40 : decode cX11_mostOf 40 = .ok (.goto 14, 3) := by decide +kernel
theorem dX11_mostOf_43 : decode cX11_mostOf 43 = .ok (.iload_n 1, 1) := by decide +kernel
theorem dX11_mostOf_44 : decode cX11_mostOf 44 = .ok (.iconst 1, 1) := by decide +kernel
theorem dX11_mostOf_45 : decode cX11_mostOf 45 = .ok (.if_icmp .ne 8, 3) := by decide +kernel
theorem dX11_mostOf_48 : decode cX11_mostOf 48 = .ok (.bipush 9, 2) := by decide +kernel
theorem dX11_mostOf_50 : decode cX11_mostOf 50 = .ok (.goto 4, 3) := by decide +kernel
theorem dX11_mostOf_53 : decode cX11_mostOf 53 = .ok (.iconst 3, 1) := by decide +kernel
theorem dX11_mostOf_54 : decode cX11_mostOf 54 = .ok (.ireturn, 1) := by decide +kernel
theorem dX11_mostOf_55 : decode cX11_mostOf 55 = .ok (.iload_n 1, 1) := by decide +kernel
theorem dX11_mostOf_56 : decode cX11_mostOf 56 = .ok (.ifCond .ne 8, 3) := by decide +kernel
theorem dX11_mostOf_59 : decode cX11_mostOf 59 = .ok (.bipush 99, 2) := by decide +kernel
theorem dX11_mostOf_61 : decode cX11_mostOf 61 = .ok (.goto 14, 3) := by decide +kernel
theorem dX11_mostOf_64 : decode cX11_mostOf 64 = .ok (.iload_n 1, 1) := by decide +kernel
theorem dX11_mostOf_65 : decode cX11_mostOf 65 = .ok (.iconst 3, 1) := by decide +kernel
theorem dX11_mostOf_66 : decode cX11_mostOf 66 = .ok (.if_icmp .ne 7, 3) := by decide +kernel
theorem dX11_mostOf_69 : decode cX11_mostOf 69 = .ok (.iconst 2, 1) := by decide +kernel
theorem dX11_mostOf_70 : decode cX11_mostOf 70 = .ok (.goto 5, 3) := by decide +kernel
theorem dX11_mostOf_73 : decode cX11_mostOf 73 = .ok (.bipush 9, 2) := by decide +kernel
theorem dX11_mostOf_75 : decode cX11_mostOf 75 = .ok (.ireturn, 1) := by decide +kernel
def f_Model_mostOf (σ : Mem) (x0 : Int32) (x1 : Int32) : Option (Int32) :=
  if x0 = (115 : Int32) then
    if x1 = (0 : Int32) then
      some (8 : Int32)
    else
      if x1 = (1 : Int32) then
        some (9 : Int32)
      else
        some (30 : Int32)
  else
    if x0 = (116 : Int32) then
      if x1 = (0 : Int32) then
        some (99 : Int32)
      else
        if x1 = (1 : Int32) then
          some (9 : Int32)
        else
          some (3 : Int32)
    else
      if x1 = (0 : Int32) then
        some (99 : Int32)
      else
        if x1 = (3 : Int32) then
          some (2 : Int32)
        else
          some (9 : Int32)
set_option maxHeartbeats 4000000 in
set_option maxRecDepth 20000 in
theorem g_Model_mostOf (X : Cx θ p s m args c cX11_mostOf 2 RX11) (hr : meth.sig.returnType = some .int) (hlk : meth.locks = false)  {σ : Mem} {x0 : Int32} {x1 : Int32} {r : Int32}  (h : f_Model_mostOf σ x0 x1 = some r) : GB θ p l e 0 s m args below meth c 2 (some (.int r), σ) 0 [(0, .int x0), (1, .int x1)] [] σ := by
  unfold f_Model_mostOf at h
  refine g_iload_n X dX11_mostOf_0 rfl 0 rfl ?_
  refine g_bipush X dX11_mostOf_1 (v := (115 : Int32)) bp_115 ?_
  refine g_icmp_ne (tgt := 28) X dX11_mostOf_3 (by decide) (fun c1 => ?_) (fun c1 => ?_)
  · replace h := (if_neg c1).symm.trans h
    refine g_iload_n X dX11_mostOf_28 rfl 0 rfl ?_
    refine g_bipush X dX11_mostOf_29 (v := (116 : Int32)) bp_116 ?_
    refine g_icmp_ne (tgt := 55) X dX11_mostOf_31 (by decide) (fun c2 => ?_) (fun c2 => ?_)
    · replace h := (if_neg c2).symm.trans h
      refine g_iload_n X dX11_mostOf_55 rfl 1 rfl ?_
      refine g_if_ne (tgt := 64) X dX11_mostOf_56 (by decide) (fun c3 => ?_) (fun c3 => ?_)
      · replace h := (if_neg c3).symm.trans h
        refine g_iload_n X dX11_mostOf_64 rfl 1 rfl ?_
        refine g_iconst X dX11_mostOf_65 (v := (3 : Int32)) ic_3 ?_
        refine g_icmp_ne (tgt := 73) X dX11_mostOf_66 (by decide) (fun c4 => ?_) (fun c4 => ?_)
        · replace h := (if_neg c4).symm.trans h
          refine g_bipush X dX11_mostOf_73 (v := (9 : Int32)) bp_9 ?_
          exact g_iret X hr hlk dX11_mostOf_75 (by cases h; rfl)
        · replace h := (if_pos c4).symm.trans h
          refine g_iconst X dX11_mostOf_69 (v := (2 : Int32)) ic_2 ?_
          refine g_goto (tgt := 75) X dX11_mostOf_70 (by decide) ?_
          exact g_iret X hr hlk dX11_mostOf_75 (by cases h; rfl)
      · replace h := (if_pos c3).symm.trans h
        refine g_bipush X dX11_mostOf_59 (v := (99 : Int32)) bp_99 ?_
        refine g_goto (tgt := 75) X dX11_mostOf_61 (by decide) ?_
        exact g_iret X hr hlk dX11_mostOf_75 (by cases h; rfl)
    · replace h := (if_pos c2).symm.trans h
      refine g_iload_n X dX11_mostOf_34 rfl 1 rfl ?_
      refine g_if_ne (tgt := 43) X dX11_mostOf_35 (by decide) (fun c5 => ?_) (fun c5 => ?_)
      · replace h := (if_neg c5).symm.trans h
        refine g_iload_n X dX11_mostOf_43 rfl 1 rfl ?_
        refine g_iconst X dX11_mostOf_44 (v := (1 : Int32)) ic_1 ?_
        refine g_icmp_ne (tgt := 53) X dX11_mostOf_45 (by decide) (fun c6 => ?_) (fun c6 => ?_)
        · replace h := (if_neg c6).symm.trans h
          refine g_iconst X dX11_mostOf_53 (v := (3 : Int32)) ic_3 ?_
          exact g_iret X hr hlk dX11_mostOf_54 (by cases h; rfl)
        · replace h := (if_pos c6).symm.trans h
          refine g_bipush X dX11_mostOf_48 (v := (9 : Int32)) bp_9 ?_
          refine g_goto (tgt := 54) X dX11_mostOf_50 (by decide) ?_
          exact g_iret X hr hlk dX11_mostOf_54 (by cases h; rfl)
      · replace h := (if_pos c5).symm.trans h
        refine g_bipush X dX11_mostOf_38 (v := (99 : Int32)) bp_99 ?_
        refine g_goto (tgt := 54) X dX11_mostOf_40 (by decide) ?_
        exact g_iret X hr hlk dX11_mostOf_54 (by cases h; rfl)
  · replace h := (if_pos c1).symm.trans h
    refine g_iload_n X dX11_mostOf_6 rfl 1 rfl ?_
    refine g_if_ne (tgt := 15) X dX11_mostOf_7 (by decide) (fun c7 => ?_) (fun c7 => ?_)
    · replace h := (if_neg c7).symm.trans h
      refine g_iload_n X dX11_mostOf_15 rfl 1 rfl ?_
      refine g_iconst X dX11_mostOf_16 (v := (1 : Int32)) ic_1 ?_
      refine g_icmp_ne (tgt := 25) X dX11_mostOf_17 (by decide) (fun c8 => ?_) (fun c8 => ?_)
      · replace h := (if_neg c8).symm.trans h
        refine g_bipush X dX11_mostOf_25 (v := (30 : Int32)) bp_30 ?_
        exact g_iret X hr hlk dX11_mostOf_27 (by cases h; rfl)
      · replace h := (if_pos c8).symm.trans h
        refine g_bipush X dX11_mostOf_20 (v := (9 : Int32)) bp_9 ?_
        refine g_goto (tgt := 27) X dX11_mostOf_22 (by decide) ?_
        exact g_iret X hr hlk dX11_mostOf_27 (by cases h; rfl)
    · replace h := (if_pos c7).symm.trans h
      refine g_bipush X dX11_mostOf_10 (v := (8 : Int32)) bp_8 ?_
      refine g_goto (tgt := 27) X dX11_mostOf_12 (by decide) ?_
      exact g_iret X hr hlk dX11_mostOf_27 (by cases h; rfl)
set_option maxHeartbeats 4000000 in
set_option maxRecDepth 20000 in
theorem c_Model_mostOf {θ : Th} {l : Launch} {σ : Mem} {x0 : Int32} {x1 : Int32} {r : Int32}  (h : f_Model_mostOf σ x0 x1 = some r) : Cn θ l yX11_mostOf cX11_mostOf 2 (some .int) 0 0 0 [.int x0, .int x1] σ (some (.int r), σ) :=
  Cn.of (by decide) (Nat.le_of_ble_eq_true rfl) (fun p e s m below meth c X hr hlk => g_Model_mostOf X hr hlk  h)
theorem dX11_leastOf_0 : decode cX11_leastOf 0 = .ok (.iload_n 0, 1) := by decide +kernel
theorem dX11_leastOf_1 : decode cX11_leastOf 1 = .ok (.bipush 115, 2) := by decide +kernel
theorem dX11_leastOf_3 : decode cX11_leastOf 3 = .ok (.if_icmp .ne 12, 3) := by decide +kernel
theorem dX11_leastOf_6 : decode cX11_leastOf 6 = .ok (.iload_n 1, 1) := by decide +kernel
theorem dX11_leastOf_7 : decode cX11_leastOf 7 = .ok (.iconst 2, 1) := by decide +kernel
theorem dX11_leastOf_8 : decode cX11_leastOf 8 = .ok (.if_icmp .ne 7, 3) := by decide +kernel
theorem dX11_leastOf_11 : decode cX11_leastOf 11 = .ok (.iconst 2, 1) := by decide +kernel
theorem dX11_leastOf_12 : decode cX11_leastOf 12 = .ok (.goto 18, 3) := by decide +kernel
theorem dX11_leastOf_15 : decode cX11_leastOf 15 = .ok (.iload_n 0, 1) := by decide +kernel
theorem dX11_leastOf_16 : decode cX11_leastOf 16 = .ok (.bipush 116, 2) := by decide +kernel
theorem dX11_leastOf_18 : decode cX11_leastOf 18 = .ok (.if_icmp .ne 11, 3) := by decide +kernel
theorem dX11_leastOf_21 : decode cX11_leastOf 21 = .ok (.iload_n 1, 1) := by decide +kernel
theorem dX11_leastOf_22 : decode cX11_leastOf 22 = .ok (.ifCond .ne 7, 3) := by decide +kernel
theorem dX11_leastOf_25 : decode cX11_leastOf 25 = .ok (.iconst 1, 1) := by decide +kernel
theorem dX11_leastOf_26 : decode cX11_leastOf 26 = .ok (.goto 4, 3) := by decide +kernel
theorem dX11_leastOf_29 : decode cX11_leastOf 29 = .ok (.iconst 0, 1) := by decide +kernel
theorem dX11_leastOf_30 : decode cX11_leastOf 30 = .ok (.ireturn, 1) := by decide +kernel
def f_Model_leastOf_J15 (σ : Mem) (x0 : Int32) (x1 : Int32) : Option (Int32) :=
  if x0 = (116 : Int32) then
    if x1 = (0 : Int32) then
      some (1 : Int32)
    else
      some (0 : Int32)
  else
    some (0 : Int32)
def f_Model_leastOf (σ : Mem) (x0 : Int32) (x1 : Int32) : Option (Int32) :=
  if x0 = (115 : Int32) then
    if x1 = (2 : Int32) then
      some (2 : Int32)
    else
      f_Model_leastOf_J15 σ x0 x1
  else
    f_Model_leastOf_J15 σ x0 x1
set_option maxHeartbeats 4000000 in
set_option maxRecDepth 20000 in
theorem g_Model_leastOf_J15 (X : Cx θ p s m args c cX11_leastOf 2 RX11) (hr : meth.sig.returnType = some .int) (hlk : meth.locks = false)  {σ : Mem} {x0 : Int32} {x1 : Int32} {r : Int32}  (h : f_Model_leastOf_J15 σ x0 x1 = some r) : GB θ p l e 0 s m args below meth c 2 (some (.int r), σ) 15 [(0, .int x0), (1, .int x1)] [] σ := by
  unfold f_Model_leastOf_J15 at h
  refine g_iload_n X dX11_leastOf_15 rfl 0 rfl ?_
  refine g_bipush X dX11_leastOf_16 (v := (116 : Int32)) bp_116 ?_
  refine g_icmp_ne (tgt := 29) X dX11_leastOf_18 (by decide) (fun c2 => ?_) (fun c2 => ?_)
  · replace h := (if_neg c2).symm.trans h
    refine g_iconst X dX11_leastOf_29 (v := (0 : Int32)) ic_0 ?_
    exact g_iret X hr hlk dX11_leastOf_30 (by cases h; rfl)
  · replace h := (if_pos c2).symm.trans h
    refine g_iload_n X dX11_leastOf_21 rfl 1 rfl ?_
    refine g_if_ne (tgt := 29) X dX11_leastOf_22 (by decide) (fun c3 => ?_) (fun c3 => ?_)
    · replace h := (if_neg c3).symm.trans h
      refine g_iconst X dX11_leastOf_29 (v := (0 : Int32)) ic_0 ?_
      exact g_iret X hr hlk dX11_leastOf_30 (by cases h; rfl)
    · replace h := (if_pos c3).symm.trans h
      refine g_iconst X dX11_leastOf_25 (v := (1 : Int32)) ic_1 ?_
      refine g_goto (tgt := 30) X dX11_leastOf_26 (by decide) ?_
      exact g_iret X hr hlk dX11_leastOf_30 (by cases h; rfl)
set_option maxHeartbeats 4000000 in
set_option maxRecDepth 20000 in
theorem g_Model_leastOf (X : Cx θ p s m args c cX11_leastOf 2 RX11) (hr : meth.sig.returnType = some .int) (hlk : meth.locks = false)  {σ : Mem} {x0 : Int32} {x1 : Int32} {r : Int32}  (h : f_Model_leastOf σ x0 x1 = some r) : GB θ p l e 0 s m args below meth c 2 (some (.int r), σ) 0 [(0, .int x0), (1, .int x1)] [] σ := by
  unfold f_Model_leastOf at h
  refine g_iload_n X dX11_leastOf_0 rfl 0 rfl ?_
  refine g_bipush X dX11_leastOf_1 (v := (115 : Int32)) bp_115 ?_
  refine g_icmp_ne (tgt := 15) X dX11_leastOf_3 (by decide) (fun c1 => ?_) (fun c1 => ?_)
  · replace h := (if_neg c1).symm.trans h
    exact g_sub (lv' := [(0, .int x0), (1, .int x1)]) [0, 1] rfl (g_Model_leastOf_J15 X hr hlk    h)
  · replace h := (if_pos c1).symm.trans h
    refine g_iload_n X dX11_leastOf_6 rfl 1 rfl ?_
    refine g_iconst X dX11_leastOf_7 (v := (2 : Int32)) ic_2 ?_
    refine g_icmp_ne (tgt := 15) X dX11_leastOf_8 (by decide) (fun c4 => ?_) (fun c4 => ?_)
    · replace h := (if_neg c4).symm.trans h
      exact g_sub (lv' := [(0, .int x0), (1, .int x1)]) [0, 1] rfl (g_Model_leastOf_J15 X hr hlk    h)
    · replace h := (if_pos c4).symm.trans h
      refine g_iconst X dX11_leastOf_11 (v := (2 : Int32)) ic_2 ?_
      refine g_goto (tgt := 30) X dX11_leastOf_12 (by decide) ?_
      exact g_iret X hr hlk dX11_leastOf_30 (by cases h; rfl)
set_option maxHeartbeats 4000000 in
set_option maxRecDepth 20000 in
theorem c_Model_leastOf {θ : Th} {l : Launch} {σ : Mem} {x0 : Int32} {x1 : Int32} {r : Int32}  (h : f_Model_leastOf σ x0 x1 = some r) : Cn θ l yX11_leastOf cX11_leastOf 2 (some .int) 0 0 0 [.int x0, .int x1] σ (some (.int r), σ) :=
  Cn.of (by decide) (Nat.le_of_ble_eq_true rfl) (fun p e s m below meth c X hr hlk => g_Model_leastOf X hr hlk  h)
theorem dX11_usual_0 : decode cX11_usual 0 = .ok (.iload_n 0, 1) := by decide +kernel
theorem dX11_usual_1 : decode cX11_usual 1 = .ok (.bipush 115, 2) := by decide +kernel
theorem dX11_usual_3 : decode cX11_usual 3 = .ok (.if_icmp .ne 24, 3) := by decide +kernel
theorem dX11_usual_6 : decode cX11_usual 6 = .ok (.iload_n 1, 1) := by decide +kernel
theorem dX11_usual_7 : decode cX11_usual 7 = .ok (.iconst 2, 1) := by decide +kernel
theorem dX11_usual_8 : decode cX11_usual 8 = .ok (.if_icmp .ge 7, 3) := by decide +kernel
theorem dX11_usual_11 : decode cX11_usual 11 = .ok (.iconst 2, 1) := by decide +kernel
theorem dX11_usual_12 : decode cX11_usual 12 = .ok (.goto 14, 3) := by decide +kernel
theorem dX11_usual_15 : decode cX11_usual 15 = .ok (.iload_n 1, 1) := by decide +kernel
theorem dX11_usual_16 : decode cX11_usual 16 = .ok (.iconst 2, 1) := by decide +kernel
theorem dX11_usual_17 : decode cX11_usual 17 = .ok (.if_icmp .ne 8, 3) := by decide +kernel
theorem dX11_usual_20 : decode cX11_usual 20 = .ok (.bipush 12, 2) := by decide +kernel
theorem dX11_usual_22 : decode cX11_usual 22 = .ok (.goto 4, 3) := by decide +kernel
theorem dX11_usual_25 : decode cX11_usual 25 = .ok (.iconst 5, 1) := by decide +kernel
theorem dX11_usual_26 : decode cX11_usual 26 = .ok (.ireturn, 1) := by decide +kernel
theorem dX11_usual_27 : decode cX11_usual 27 = .ok (.iload_n 0, 1) := by decide +kernel
theorem dX11_usual_28 : decode cX11_usual 28 = .ok (.bipush 116, 2) := by decide +kernel
theorem dX11_usual_30 : decode cX11_usual 30 = .ok (.if_icmp .ne 23, 3) := by decide +kernel
theorem dX11_usual_33 : decode cX11_usual 33 = .ok (.iload_n 1, 1) := by decide +kernel
theorem dX11_usual_34 : decode cX11_usual 34 = .ok (.ifCond .ne 8, 3) := by decide +kernel
theorem dX11_usual_37 : decode cX11_usual 37 = .ok (.bipush 20, 2) := by decide +kernel
theorem dX11_usual_39 : decode cX11_usual 39 = .ok (.goto 13, 3) := by decide +kernel
theorem dX11_usual_42 : decode cX11_usual 42 = .ok (.iload_n 1, 1) := by decide +kernel
theorem dX11_usual_43 : decode cX11_usual 43 = .ok (.iconst 1, 1) := by decide +kernel
theorem dX11_usual_44 : decode cX11_usual 44 = .ok (.if_icmp .ne 7, 3) := by decide +kernel
theorem dX11_usual_47 : decode cX11_usual 47 = .ok (.iconst 2, 1) := by decide +kernel
theorem dX11_usual_48 : decode cX11_usual 48 = .ok (.goto 4, 3) := by decide +kernel
theorem dX11_usual_51 : decode cX11_usual 51 = .ok (.iconst 0, 1) := by decide +kernel
theorem dX11_usual_52 : decode cX11_usual 52 = .ok (.ireturn, 1) := by decide +kernel
theorem dX11_usual_53 : decode cX11_usual 53 = .ok (.iload_n 1, 1) := by decide +kernel
theorem dX11_usual_54 : decode cX11_usual 54 = .ok (.ifCond .ne 8, 3) := by decide +kernel
theorem dX11_usual_57 : decode cX11_usual 57 = .ok (.bipush 30, 2) := by decide +kernel
theorem dX11_usual_59 : decode cX11_usual 59 = .ok (.goto 22, 3) := by decide +kernel
theorem dX11_usual_62 : decode cX11_usual 62 = .ok (.iload_n 1, 1) := by decide +kernel
theorem dX11_usual_63 : decode cX11_usual 63 = .ok (.iconst 1, 1) := by decide +kernel
theorem dX11_usual_64 : decode cX11_usual 64 = .ok (.if_icmp .ne 7, 3) := by decide +kernel
theorem dX11_usual_67 : decode cX11_usual 67 = .ok (.iconst 5, 1) := by decide +kernel
theorem dX11_usual_68 : decode cX11_usual 68 = .ok (.goto 13, 3) := by decide +kernel
theorem dX11_usual_71 : decode cX11_usual 71 = .ok (.iload_n 1, 1) := by decide +kernel
theorem dX11_usual_72 : decode cX11_usual 72 = .ok (.iconst 2, 1) := by decide +kernel
theorem dX11_usual_73 : decode cX11_usual 73 = .ok (.if_icmp .ne 7, 3) := by decide +kernel
theorem dX11_usual_76 : decode cX11_usual 76 = .ok (.iconst 4, 1) := by decide +kernel
theorem dX11_usual_77 : decode cX11_usual 77 = .ok (.goto 4, 3) := by decide +kernel
theorem dX11_usual_80 : decode cX11_usual 80 = .ok (.iconst 0, 1) := by decide +kernel
theorem dX11_usual_81 : decode cX11_usual 81 = .ok (.ireturn, 1) := by decide +kernel
def f_Model_usual (σ : Mem) (x0 : Int32) (x1 : Int32) : Option (Int32) :=
  if x0 = (115 : Int32) then
    if (2 : Int32) ≤ x1 then
      if x1 = (2 : Int32) then
        some (12 : Int32)
      else
        some (5 : Int32)
    else
      some (2 : Int32)
  else
    if x0 = (116 : Int32) then
      if x1 = (0 : Int32) then
        some (20 : Int32)
      else
        if x1 = (1 : Int32) then
          some (2 : Int32)
        else
          some (0 : Int32)
    else
      if x1 = (0 : Int32) then
        some (30 : Int32)
      else
        if x1 = (1 : Int32) then
          some (5 : Int32)
        else
          if x1 = (2 : Int32) then
            some (4 : Int32)
          else
            some (0 : Int32)
set_option maxHeartbeats 4000000 in
set_option maxRecDepth 20000 in
theorem g_Model_usual (X : Cx θ p s m args c cX11_usual 2 RX11) (hr : meth.sig.returnType = some .int) (hlk : meth.locks = false)  {σ : Mem} {x0 : Int32} {x1 : Int32} {r : Int32}  (h : f_Model_usual σ x0 x1 = some r) : GB θ p l e 0 s m args below meth c 2 (some (.int r), σ) 0 [(0, .int x0), (1, .int x1)] [] σ := by
  unfold f_Model_usual at h
  refine g_iload_n X dX11_usual_0 rfl 0 rfl ?_
  refine g_bipush X dX11_usual_1 (v := (115 : Int32)) bp_115 ?_
  refine g_icmp_ne (tgt := 27) X dX11_usual_3 (by decide) (fun c1 => ?_) (fun c1 => ?_)
  · replace h := (if_neg c1).symm.trans h
    refine g_iload_n X dX11_usual_27 rfl 0 rfl ?_
    refine g_bipush X dX11_usual_28 (v := (116 : Int32)) bp_116 ?_
    refine g_icmp_ne (tgt := 53) X dX11_usual_30 (by decide) (fun c2 => ?_) (fun c2 => ?_)
    · replace h := (if_neg c2).symm.trans h
      refine g_iload_n X dX11_usual_53 rfl 1 rfl ?_
      refine g_if_ne (tgt := 62) X dX11_usual_54 (by decide) (fun c3 => ?_) (fun c3 => ?_)
      · replace h := (if_neg c3).symm.trans h
        refine g_iload_n X dX11_usual_62 rfl 1 rfl ?_
        refine g_iconst X dX11_usual_63 (v := (1 : Int32)) ic_1 ?_
        refine g_icmp_ne (tgt := 71) X dX11_usual_64 (by decide) (fun c4 => ?_) (fun c4 => ?_)
        · replace h := (if_neg c4).symm.trans h
          refine g_iload_n X dX11_usual_71 rfl 1 rfl ?_
          refine g_iconst X dX11_usual_72 (v := (2 : Int32)) ic_2 ?_
          refine g_icmp_ne (tgt := 80) X dX11_usual_73 (by decide) (fun c5 => ?_) (fun c5 => ?_)
          · replace h := (if_neg c5).symm.trans h
            refine g_iconst X dX11_usual_80 (v := (0 : Int32)) ic_0 ?_
            exact g_iret X hr hlk dX11_usual_81 (by cases h; rfl)
          · replace h := (if_pos c5).symm.trans h
            refine g_iconst X dX11_usual_76 (v := (4 : Int32)) ic_4 ?_
            refine g_goto (tgt := 81) X dX11_usual_77 (by decide) ?_
            exact g_iret X hr hlk dX11_usual_81 (by cases h; rfl)
        · replace h := (if_pos c4).symm.trans h
          refine g_iconst X dX11_usual_67 (v := (5 : Int32)) ic_5 ?_
          refine g_goto (tgt := 81) X dX11_usual_68 (by decide) ?_
          exact g_iret X hr hlk dX11_usual_81 (by cases h; rfl)
      · replace h := (if_pos c3).symm.trans h
        refine g_bipush X dX11_usual_57 (v := (30 : Int32)) bp_30 ?_
        refine g_goto (tgt := 81) X dX11_usual_59 (by decide) ?_
        exact g_iret X hr hlk dX11_usual_81 (by cases h; rfl)
    · replace h := (if_pos c2).symm.trans h
      refine g_iload_n X dX11_usual_33 rfl 1 rfl ?_
      refine g_if_ne (tgt := 42) X dX11_usual_34 (by decide) (fun c6 => ?_) (fun c6 => ?_)
      · replace h := (if_neg c6).symm.trans h
        refine g_iload_n X dX11_usual_42 rfl 1 rfl ?_
        refine g_iconst X dX11_usual_43 (v := (1 : Int32)) ic_1 ?_
        refine g_icmp_ne (tgt := 51) X dX11_usual_44 (by decide) (fun c7 => ?_) (fun c7 => ?_)
        · replace h := (if_neg c7).symm.trans h
          refine g_iconst X dX11_usual_51 (v := (0 : Int32)) ic_0 ?_
          exact g_iret X hr hlk dX11_usual_52 (by cases h; rfl)
        · replace h := (if_pos c7).symm.trans h
          refine g_iconst X dX11_usual_47 (v := (2 : Int32)) ic_2 ?_
          refine g_goto (tgt := 52) X dX11_usual_48 (by decide) ?_
          exact g_iret X hr hlk dX11_usual_52 (by cases h; rfl)
      · replace h := (if_pos c6).symm.trans h
        refine g_bipush X dX11_usual_37 (v := (20 : Int32)) bp_20 ?_
        refine g_goto (tgt := 52) X dX11_usual_39 (by decide) ?_
        exact g_iret X hr hlk dX11_usual_52 (by cases h; rfl)
  · replace h := (if_pos c1).symm.trans h
    refine g_iload_n X dX11_usual_6 rfl 1 rfl ?_
    refine g_iconst X dX11_usual_7 (v := (2 : Int32)) ic_2 ?_
    refine g_icmp_ge (tgt := 15) X dX11_usual_8 (by decide) (fun c8 => ?_) (fun c8 => ?_)
    · replace h := (if_pos c8).symm.trans h
      refine g_iload_n X dX11_usual_15 rfl 1 rfl ?_
      refine g_iconst X dX11_usual_16 (v := (2 : Int32)) ic_2 ?_
      refine g_icmp_ne (tgt := 25) X dX11_usual_17 (by decide) (fun c9 => ?_) (fun c9 => ?_)
      · replace h := (if_neg c9).symm.trans h
        refine g_iconst X dX11_usual_25 (v := (5 : Int32)) ic_5 ?_
        exact g_iret X hr hlk dX11_usual_26 (by cases h; rfl)
      · replace h := (if_pos c9).symm.trans h
        refine g_bipush X dX11_usual_20 (v := (12 : Int32)) bp_12 ?_
        refine g_goto (tgt := 26) X dX11_usual_22 (by decide) ?_
        exact g_iret X hr hlk dX11_usual_26 (by cases h; rfl)
    · replace h := (if_neg c8).symm.trans h
      refine g_iconst X dX11_usual_11 (v := (2 : Int32)) ic_2 ?_
      refine g_goto (tgt := 26) X dX11_usual_12 (by decide) ?_
      exact g_iret X hr hlk dX11_usual_26 (by cases h; rfl)
set_option maxHeartbeats 4000000 in
set_option maxRecDepth 20000 in
theorem c_Model_usual {θ : Th} {l : Launch} {σ : Mem} {x0 : Int32} {x1 : Int32} {r : Int32}  (h : f_Model_usual σ x0 x1 = some r) : Cn θ l yX11_usual cX11_usual 2 (some .int) 0 0 0 [.int x0, .int x1] σ (some (.int r), σ) :=
  Cn.of (by decide) (Nat.le_of_ble_eq_true rfl) (fun p e s m below meth c X hr hlk => g_Model_usual X hr hlk  h)
theorem dX11_readItems_0 : decode cX11_readItems 0 = .ok (.iconst 0, 1) := by decide +kernel
theorem dX11_readItems_1 : decode cX11_readItems 1 = .ok (.istore 5, 2) := by decide +kernel
theorem dX11_readItems_3 : decode cX11_readItems 3 = .ok (.iload 5, 2) := by decide +kernel
theorem dX11_readItems_5 : decode cX11_readItems 5 = .ok (.aload 4, 2) := by decide +kernel
theorem dX11_readItems_7 : decode cX11_readItems 7 = .ok (.invokevirtual 115, 3) := by decide +kernel
theorem dX11_readItems_10 : decode cX11_readItems 10 = .ok (.if_icmp .ge 21, 3) := by decide +kernel
theorem dX11_readItems_13 : decode cX11_readItems 13 = .ok (.aload_n 2, 1) := by decide +kernel
theorem dX11_readItems_14 : decode cX11_readItems 14 = .ok (.iload_n 3, 1) := by decide +kernel
theorem dX11_readItems_15 : decode cX11_readItems 15 = .ok (.iload 5, 2) := by decide +kernel
theorem dX11_readItems_17 : decode cX11_readItems 17 = .ok (.iadd, 1) := by decide +kernel
theorem dX11_readItems_18 : decode cX11_readItems 18 = .ok (.iload_n 1, 1) := by decide +kernel
theorem dX11_readItems_19 : decode cX11_readItems 19 = .ok (.iload 5, 2) := by decide +kernel
theorem dX11_readItems_21 : decode cX11_readItems 21 = .ok (.invokestatic 237, 3) := by decide +kernel
theorem dX11_readItems_24 : decode cX11_readItems 24 = .ok (.iastore, 1) := by decide +kernel
theorem dX11_readItems_25 : decode cX11_readItems 25 = .ok (.iinc 5 1, 3) := by decide +kernel
theorem dX11_readItems_28 : decode cX11_readItems 28 = .ok (.goto (-25), 3) := by decide +kernel
theorem dX11_readItems_31 : decode cX11_readItems 31 = .ok (.iconst 0, 1) := by decide +kernel
theorem dX11_readItems_32 : decode cX11_readItems 32 = .ok (.istore 5, 2) := by decide +kernel
theorem dX11_readItems_34 : decode cX11_readItems 34 = .ok (.aload 4, 2) := by decide +kernel
theorem dX11_readItems_36 : decode cX11_readItems 36 = .ok (.aload_n 0, 1) := by decide +kernel
theorem dX11_readItems_37 : decode cX11_readItems 37 = .ok (.invokevirtual 154, 3) := by decide +kernel
theorem dX11_readItems_40 : decode cX11_readItems 40 = .ok (.invokestatic 241, 3) := by decide +kernel
theorem dX11_readItems_43 : decode cX11_readItems 43 = .ok (.istore 6, 2) := by decide +kernel
theorem dX11_readItems_45 : decode cX11_readItems 45 = .ok (.iload 6, 2) := by decide +kernel
theorem dX11_readItems_47 : decode cX11_readItems 47 = .ok (.iconst (-1), 1) := by decide +kernel
theorem dX11_readItems_48 : decode cX11_readItems 48 = .ok (.if_icmp .eq 90, 3) := by decide +kernel
theorem dX11_readItems_51 : decode cX11_readItems 51 = .ok (.aload_n 0, 1) := by decide +kernel
theorem dX11_readItems_52 : decode cX11_readItems 52 = .ok (.getfield 144, 3) := by decide +kernel
theorem dX11_readItems_55 : decode cX11_readItems 55 = .ok (.iconst (-1), 1) := by decide +kernel
theorem dX11_readItems_56 : decode cX11_readItems 56 = .ok (.if_icmp .ne 82, 3) := by decide +kernel
theorem dX11_readItems_59 : decode cX11_readItems 59 = .ok (.iload 5, 2) := by decide +kernel
theorem dX11_readItems_61 : decode cX11_readItems 61 = .ok (.iload 6, 2) := by decide +kernel
theorem dX11_readItems_63 : decode cX11_readItems 63 = .ok (.invokestatic 245, 3) := by decide +kernel
theorem dX11_readItems_66 : decode cX11_readItems 66 = .ok (.ifCond .eq 9, 3) := by decide +kernel
theorem dX11_readItems_69 : decode cX11_readItems 69 = .ok (.aload_n 0, 1) := by decide +kernel
theorem dX11_readItems_70 : decode cX11_readItems 70 = .ok (.invokevirtual 150, 3) := by decide +kernel
theorem dX11_readItems_73 : decode cX11_readItems 73 = .ok (.pop, 1) := by decide +kernel
theorem dX11_readItems_74 : decode cX11_readItems 74 = .ok (.return_, 1) := by decide +kernel
theorem dX11_readItems_75 : decode cX11_readItems 75 = .ok (.iload 5, 2) := by decide +kernel
theorem dX11_readItems_77 : decode cX11_readItems 77 = .ok (.iconst 1, 1) := by decide +kernel
theorem dX11_readItems_78 : decode cX11_readItems 78 = .ok (.iload 6, 2) := by decide +kernel
theorem dX11_readItems_80 : decode cX11_readItems 80 = .ok (.ishl, 1) := by decide +kernel
theorem dX11_readItems_81 : decode cX11_readItems 81 = .ok (.ior, 1) := by decide +kernel
theorem dX11_readItems_82 : decode cX11_readItems 82 = .ok (.istore 5, 2) := by decide +kernel
theorem dX11_readItems_84 : decode cX11_readItems 84 = .ok (.aload_n 0, 1) := by decide +kernel
theorem dX11_readItems_85 : decode cX11_readItems 85 = .ok (.dup, 1) := by decide +kernel
theorem dX11_readItems_86 : decode cX11_readItems 86 = .ok (.getfield 135, 3) := by decide +kernel
theorem dX11_readItems_89 : decode cX11_readItems 89 = .ok (.iconst 1, 1) := by decide +kernel
theorem dX11_readItems_90 : decode cX11_readItems 90 = .ok (.iadd, 1) := by decide +kernel
theorem dX11_readItems_91 : decode cX11_readItems 91 = .ok (.putfield 135, 3) := by decide +kernel
theorem dX11_readItems_94 : decode cX11_readItems 94 = .ok (.aload_n 2, 1) := by decide +kernel
theorem dX11_readItems_95 : decode cX11_readItems 95 = .ok (.iload_n 3, 1) := by decide +kernel
theorem dX11_readItems_96 : decode cX11_readItems 96 = .ok (.iload 6, 2) := by decide +kernel
theorem dX11_readItems_98 : decode cX11_readItems 98 = .ok (.iadd, 1) := by decide +kernel
theorem dX11_readItems_99 : decode cX11_readItems 99 = .ok (.aload_n 0, 1) := by decide +kernel
theorem dX11_readItems_100 : decode cX11_readItems 100 = .ok (.iload_n 1, 1) := by decide +kernel
theorem dX11_readItems_101 : decode cX11_readItems 101 = .ok (.iload 6, 2) := by decide +kernel
theorem dX11_readItems_103 : decode cX11_readItems 103 = .ok (.invokestatic 249, 3) := by decide +kernel
theorem dX11_readItems_106 : decode cX11_readItems 106 = .ok (.iload_n 1, 1) := by decide +kernel
theorem dX11_readItems_107 : decode cX11_readItems 107 = .ok (.iload 6, 2) := by decide +kernel
theorem dX11_readItems_109 : decode cX11_readItems 109 = .ok (.invokestatic 252, 3) := by decide +kernel
theorem dX11_readItems_112 : decode cX11_readItems 112 = .ok (.invokevirtual 255, 3) := by decide +kernel
theorem dX11_readItems_115 : decode cX11_readItems 115 = .ok (.iastore, 1) := by decide +kernel
theorem dX11_readItems_116 : decode cX11_readItems 116 = .ok (.aload_n 0, 1) := by decide +kernel
theorem dX11_readItems_117 : decode cX11_readItems 117 = .ok (.getfield 144, 3) := by decide +kernel
theorem dX11_readItems_120 : decode cX11_readItems 120 = .ok (.iconst (-1), 1) := by decide +kernel
theorem dX11_readItems_121 : decode cX11_readItems 121 = .ok (.if_icmp .ne (-76), 3) := by decide +kernel
theorem dX11_readItems_124 : decode cX11_readItems 124 = .ok (.aload 4, 2) := by decide +kernel
theorem dX11_readItems_126 : decode cX11_readItems 126 = .ok (.aload_n 0, 1) := by decide +kernel
theorem dX11_readItems_127 : decode cX11_readItems 127 = .ok (.invokevirtual 154, 3) := by decide +kernel
theorem dX11_readItems_130 : decode cX11_readItems 130 = .ok (.invokestatic 241, 3) := by decide +kernel
theorem dX11_readItems_133 : decode cX11_readItems 133 = .ok (.istore 6, 2) := by decide +kernel
theorem dX11_readItems_135 : decode cX11_readItems 135 = .ok (.goto (-90), 3) := by decide +kernel
theorem dX11_readItems_138 : decode cX11_readItems 138 = .ok (.return_, 1) := by decide +kernel
def f_Model_readItems_L3 (x1 : Int32) (x2 : Nat) (x3 : Int32) (x4 : Nat) (a : Mem × Int32) : Option ((Mem × Int32) ⊕ (Mem)) :=
  @Prod.casesOn (Mem) (Int32) (fun _ => Option ((Mem × Int32) ⊕ (Mem))) a fun τ z5 =>
  if (slen x4) ≤ z5 then
    some (.inr τ)
  else
    (f_Model_usual τ x1 z5).bind fun q3 =>
    if inb (x3 + z5) (ln x2) then
      some (.inl ((sI τ x2 (x3 + z5).toNatClampNeg q3), (z5 + (1 : Int32))))
    else none
def f_Model_readItems_L45 (x1 : Int32) (x2 : Nat) (x3 : Int32) (x4 : Nat) (a : Mem × Int32 × Int32) : Option ((Mem × Int32 × Int32) ⊕ (Mem)) :=
  @Prod.casesOn (Mem) (Int32 × Int32) (fun _ => Option ((Mem × Int32 × Int32) ⊕ (Mem))) a fun τ b0 =>
  @Prod.casesOn (Int32) (Int32) (fun _ => Option ((Mem × Int32 × Int32) ⊕ (Mem))) b0 fun z5 z6 =>
  if z6 = (-1 : Int32) then
    some (.inr τ)
  else
    if (mI τ 565 11) = (-1 : Int32) then
      (f_Model_has τ z5 z6).bind fun q10 =>
      if q10 = (0 : Int32) then
        (f_Model_leastOf (sI τ 565 10 ((mI τ 565 10) + (1 : Int32))) x1 z6).bind fun q12 =>
        (f_Model_mostOf (sI τ 565 10 ((mI τ 565 10) + (1 : Int32))) x1 z6).bind fun q13 =>
        (f_Model_number (sI τ 565 10 ((mI τ 565 10) + (1 : Int32))) q12 q13).bind fun q14 =>
        if inb (x3 + z6) (ln x2) then
          if (mI (sI q14.2 x2 (x3 + z6).toNatClampNeg q14.1) 565 11) = (-1 : Int32) then
            (f_Model_look (sI q14.2 x2 (x3 + z6).toNatClampNeg q14.1)).bind fun q17 =>
            (f_Model_spotOf q17.2 x4 q17.1).bind fun q18 =>
            some (.inl (q17.2, (z5 ||| ((1 : Int32) <<< (z6 &&& 31))), q18))
          else
            some (.inl ((sI q14.2 x2 (x3 + z6).toNatClampNeg q14.1), (z5 ||| ((1 : Int32) <<< (z6 &&& 31))), z6))
        else none
      else
        (f_Model_fails τ).bind fun q19 =>
        some (.inr q19.2)
    else
      some (.inr τ)
def f_Model_readItems (σ : Mem) (x1 : Int32) (x2 : Nat) (x3 : Int32) (x4 : Nat) : Option (Mem) :=
  (loopF (f_Model_readItems_L3 x1 x2 x3 x4) FU (σ, (0 : Int32))).bind fun w5 =>
  (f_Model_look w5).bind fun q6 =>
  (f_Model_spotOf q6.2 x4 q6.1).bind fun q7 =>
  loopF (f_Model_readItems_L45 x1 x2 x3 x4) FU (q6.2, (0 : Int32), q7)
set_option maxHeartbeats 4000000 in
set_option maxRecDepth 20000 in
theorem gs_Model_readItems_L3 (X : Cx θ p s m args c cX11_readItems 7 RX11) (hr : meth.sig.returnType = none) (hlk : meth.locks = false)  {x1 : Int32} {x2 : Nat} {x3 : Int32} {x4 : Nat} {r : Mem} (h2 : kd x2 = 13) (h4 : x4 < 6) (τ : Mem) (z5 : Int32) (x : (Mem × Int32) ⊕ (Mem)) (h : f_Model_readItems_L3 x1 x2 x3 x4 (τ, z5) = some x) (hk : Sum.elim (fun a => @Prod.casesOn (Mem) (Int32) (fun _ => Prop) a fun τ z5 => GB θ p l e 5 s m args below meth c 7 (none, r) 3 [(0, .ref (be θ + 565)), (1, .int x1), (2, .ref (be θ + x2)), (3, .int x3), (4, .ref (sA θ x4)), (5, .int z5)] [] τ) (fun w => GB θ p l e 5 s m args below meth c 7 (none, r) 31 [(0, .ref (be θ + 565)), (1, .int x1), (2, .ref (be θ + x2)), (3, .int x3), (4, .ref (sA θ x4))] [] w) x) : GB θ p l e 5 s m args below meth c 7 (none, r) 3 [(0, .ref (be θ + 565)), (1, .int x1), (2, .ref (be θ + x2)), (3, .int x3), (4, .ref (sA θ x4)), (5, .int z5)] [] τ := by
  unfold f_Model_readItems_L3 at h
  dsimp only at h
  refine g_iload X dX11_readItems_3 5 rfl ?_
  refine g_aload X dX11_readItems_5 4 rfl ?_
  refine g_cT X (c_str_length h4) lk_RX11_115 my_J0_length_8abf5 h4 rfl (As := []) (rest := [.int z5]) rfl rfl (Nat.le_of_ble_eq_true rfl) ⟨(Nat.le_of_ble_eq_true rfl), (Nat.le_of_ble_eq_true rfl)⟩ ⟨(Nat.le_of_ble_eq_true rfl), (Nat.le_of_ble_eq_true rfl)⟩ dX11_readItems_7 (st' := [.int (slen x4), .int z5]) (σ' := τ) rfl rfl ?_
  refine g_icmp_ge (tgt := 31) X dX11_readItems_10 (by decide) (fun c2 => ?_) (fun c2 => ?_)
  · replace h := (if_pos c2).symm.trans h
    have hk := inr_hk h hk
    exact g_sub (lv' := [(0, .ref (be θ + 565)), (1, .int x1), (2, .ref (be θ + x2)), (3, .int x3), (4, .ref (sA θ x4))]) [0, 1, 2, 3, 4] rfl hk
  · replace h := (if_neg c2).symm.trans h
    refine g_aload_n X dX11_readItems_13 rfl 2 rfl ?_
    refine g_iload_n X dX11_readItems_14 rfl 3 rfl ?_
    refine g_iload X dX11_readItems_15 5 rfl ?_
    refine g_iadd X dX11_readItems_17 ?_
    refine g_iload_n X dX11_readItems_18 rfl 1 rfl ?_
    refine g_iload X dX11_readItems_19 5 rfl ?_
    obtain ⟨q3, hq3, h⟩ := Option.bind_eq_some_iff.mp h
    refine g_cS X (c_Model_usual  hq3) lk_RX11_237 my_X11_usual (As := [.int x1, .int z5]) (rest := [.int (x3 + z5), .ref (be θ + x2)]) rfl rfl (Nat.le_of_ble_eq_true rfl) ⟨(Nat.le_of_ble_eq_true rfl), (Nat.le_of_ble_eq_true rfl)⟩ ⟨(Nat.le_of_ble_eq_true rfl), (Nat.le_of_ble_eq_true rfl)⟩ dX11_readItems_21 (st' := [.int q3, .int (x3 + z5), .ref (be θ + x2)]) (σ' := τ) rfl rfl ?_
    obtain ⟨g4, h⟩ := ite_some h
    refine g_iast X h2 rfl (inb_in g4) dX11_readItems_24 ?_
    refine g_iinc X dX11_readItems_25 (kq := 5) rfl (congrArg (HAdd.hAdd _) ic_1) (by decide) (lv' := [(5, .int (z5 + (1 : Int32))), (0, .ref (be θ + 565)), (1, .int x1), (2, .ref (be θ + x2)), (3, .int x3), (4, .ref (sA θ x4))]) rfl ?_
    refine g_goto (tgt := 3) X dX11_readItems_28 (by decide) ?_
    have hk := inl_hk h hk
    exact g_sub (lv' := [(0, .ref (be θ + 565)), (1, .int x1), (2, .ref (be θ + x2)), (3, .int x3), (4, .ref (sA θ x4)), (5, .int (z5 + (1 : Int32)))]) [1, 2, 3, 4, 5, 0] rfl hk
set_option maxHeartbeats 4000000 in
set_option maxRecDepth 20000 in
theorem gl_Model_readItems_L3 (X : Cx θ p s m args c cX11_readItems 7 RX11) (hr : meth.sig.returnType = none) (hlk : meth.locks = false)  {x1 : Int32} {x2 : Nat} {x3 : Int32} {x4 : Nat} {r : Mem} (h2 : kd x2 = 13) (h4 : x4 < 6) (n : Nat) (a : Mem × Int32) (b : Mem) (h : loopF (f_Model_readItems_L3 x1 x2 x3 x4) n a = some b) (hk : (fun w => GB θ p l e 5 s m args below meth c 7 (none, r) 31 [(0, .ref (be θ + 565)), (1, .int x1), (2, .ref (be θ + x2)), (3, .int x3), (4, .ref (sA θ x4))] [] w) b) : (fun a => @Prod.casesOn (Mem) (Int32) (fun _ => Prop) a fun τ z5 => GB θ p l e 5 s m args below meth c 7 (none, r) 3 [(0, .ref (be θ + 565)), (1, .int x1), (2, .ref (be θ + x2)), (3, .int x3), (4, .ref (sA θ x4)), (5, .int z5)] [] τ) a :=
  loopF_by (P := (fun a => @Prod.casesOn (Mem) (Int32) (fun _ => Prop) a fun τ z5 => GB θ p l e 5 s m args below meth c 7 (none, r) 3 [(0, .ref (be θ + 565)), (1, .int x1), (2, .ref (be θ + x2)), (3, .int x3), (4, .ref (sA θ x4)), (5, .int z5)] [] τ)) (K := (fun w => GB θ p l e 5 s m args below meth c 7 (none, r) 31 [(0, .ref (be θ + 565)), (1, .int x1), (2, .ref (be θ + x2)), (3, .int x3), (4, .ref (sA θ x4))] [] w)) (fun a x h hk => by obtain ⟨τ, z5⟩ := a; exact gs_Model_readItems_L3 X hr hlk  h2 h4 τ z5 x h hk) n a b h hk
set_option maxHeartbeats 4000000 in
set_option maxRecDepth 20000 in
theorem gs_Model_readItems_L45 (X : Cx θ p s m args c cX11_readItems 7 RX11) (hr : meth.sig.returnType = none) (hlk : meth.locks = false)  {x1 : Int32} {x2 : Nat} {x3 : Int32} {x4 : Nat} {r : Mem} (h2 : kd x2 = 13) (h4 : x4 < 6) (τ : Mem) (z5 : Int32) (z6 : Int32) (x : (Mem × Int32 × Int32) ⊕ (Mem)) (h : f_Model_readItems_L45 x1 x2 x3 x4 (τ, z5, z6) = some x) (hk : Sum.elim (fun a => @Prod.casesOn (Mem) (Int32 × Int32) (fun _ => Prop) a fun τ b0 => @Prod.casesOn (Int32) (Int32) (fun _ => Prop) b0 fun z5 z6 => GB θ p l e 5 s m args below meth c 7 (none, r) 45 [(0, .ref (be θ + 565)), (1, .int x1), (2, .ref (be θ + x2)), (3, .int x3), (4, .ref (sA θ x4)), (5, .int z5), (6, .int z6)] [] τ) (fun b => b = r) x) : GB θ p l e 5 s m args below meth c 7 (none, r) 45 [(0, .ref (be θ + 565)), (1, .int x1), (2, .ref (be θ + x2)), (3, .int x3), (4, .ref (sA θ x4)), (5, .int z5), (6, .int z6)] [] τ := by
  unfold f_Model_readItems_L45 at h
  dsimp only at h
  refine g_iload X dX11_readItems_45 6 rfl ?_
  refine g_iconst X dX11_readItems_47 (v := (-1 : Int32)) ic_m1 ?_
  refine g_icmp_eq (tgt := 138) X dX11_readItems_48 (by decide) (fun c8 => ?_) (fun c8 => ?_)
  · replace h := (if_pos c8).symm.trans h
    have hk := inr_hk h hk
    have hk : τ = r := hk
    subst hk
    exact g_vret X hr hlk dX11_readItems_138 rfl
  · replace h := (if_neg c8).symm.trans h
    refine g_aload_n X dX11_readItems_51 rfl 0 rfl ?_
    refine g_get X fl_RX11_144 dX11_readItems_52 kd_565 (v := .int (mI τ 565 11)) rfl ?_
    refine g_iconst X dX11_readItems_55 (v := (-1 : Int32)) ic_m1 ?_
    refine g_icmp_ne (tgt := 138) X dX11_readItems_56 (by decide) (fun c9 => ?_) (fun c9 => ?_)
    · replace h := (if_neg c9).symm.trans h
      have hk := inr_hk h hk
      have hk : τ = r := hk
      subst hk
      exact g_vret X hr hlk dX11_readItems_138 rfl
    · replace h := (if_pos c9).symm.trans h
      refine g_iload X dX11_readItems_59 5 rfl ?_
      refine g_iload X dX11_readItems_61 6 rfl ?_
      obtain ⟨q10, hq10, h⟩ := Option.bind_eq_some_iff.mp h
      refine g_cS X (c_Model_has  hq10) lk_RX11_245 my_X11_has (As := [.int z5, .int z6]) (rest := []) rfl rfl (Nat.le_of_ble_eq_true rfl) ⟨(Nat.le_of_ble_eq_true rfl), (Nat.le_of_ble_eq_true rfl)⟩ ⟨(Nat.le_of_ble_eq_true rfl), (Nat.le_of_ble_eq_true rfl)⟩ dX11_readItems_63 (st' := [.int q10]) (σ' := τ) rfl rfl ?_
      refine g_if_eq (tgt := 75) X dX11_readItems_66 (by decide) (fun c11 => ?_) (fun c11 => ?_)
      · replace h := (if_pos c11).symm.trans h
        refine g_iload X dX11_readItems_75 5 rfl ?_
        refine g_iconst X dX11_readItems_77 (v := (1 : Int32)) ic_1 ?_
        refine g_iload X dX11_readItems_78 6 rfl ?_
        refine g_ishl X dX11_readItems_80 ?_
        refine g_ior X dX11_readItems_81 ?_
        refine g_istore X dX11_readItems_82 (by decide) (lv' := [(5, .int (z5 ||| ((1 : Int32) <<< (z6 &&& 31)))), (0, .ref (be θ + 565)), (1, .int x1), (2, .ref (be θ + x2)), (3, .int x3), (4, .ref (sA θ x4)), (6, .int z6)]) rfl ?_
        refine g_aload_n X dX11_readItems_84 rfl 1 rfl ?_
        refine g_dup X dX11_readItems_85 rfl ?_
        refine g_get X fl_RX11_135 dX11_readItems_86 kd_565 (v := .int (mI τ 565 10)) rfl ?_
        refine g_iconst X dX11_readItems_89 (v := (1 : Int32)) ic_1 ?_
        refine g_iadd X dX11_readItems_90 ?_
        refine g_putI X fl_RX11_135 dX11_readItems_91 kd_565 rfl rfl rfl ?_
        refine g_aload_n X dX11_readItems_94 rfl 3 rfl ?_
        refine g_iload_n X dX11_readItems_95 rfl 4 rfl ?_
        refine g_iload X dX11_readItems_96 6 rfl ?_
        refine g_iadd X dX11_readItems_98 ?_
        refine g_aload_n X dX11_readItems_99 rfl 1 rfl ?_
        refine g_iload_n X dX11_readItems_100 rfl 2 rfl ?_
        refine g_iload X dX11_readItems_101 6 rfl ?_
        obtain ⟨q12, hq12, h⟩ := Option.bind_eq_some_iff.mp h
        refine g_cS X (c_Model_leastOf  hq12) lk_RX11_249 my_X11_leastOf (As := [.int x1, .int z6]) (rest := [.ref (be θ + 565), .int (x3 + z6), .ref (be θ + x2)]) rfl rfl (Nat.le_of_ble_eq_true rfl) ⟨(Nat.le_of_ble_eq_true rfl), (Nat.le_of_ble_eq_true rfl)⟩ ⟨(Nat.le_of_ble_eq_true rfl), (Nat.le_of_ble_eq_true rfl)⟩ dX11_readItems_103 (st' := [.int q12, .ref (be θ + 565), .int (x3 + z6), .ref (be θ + x2)]) (σ' := (sI τ 565 10 ((mI τ 565 10) + (1 : Int32)))) rfl rfl ?_
        refine g_iload_n X dX11_readItems_106 rfl 2 rfl ?_
        refine g_iload X dX11_readItems_107 6 rfl ?_
        obtain ⟨q13, hq13, h⟩ := Option.bind_eq_some_iff.mp h
        refine g_cS X (c_Model_mostOf  hq13) lk_RX11_252 my_X11_mostOf (As := [.int x1, .int z6]) (rest := [.int q12, .ref (be θ + 565), .int (x3 + z6), .ref (be θ + x2)]) rfl rfl (Nat.le_of_ble_eq_true rfl) ⟨(Nat.le_of_ble_eq_true rfl), (Nat.le_of_ble_eq_true rfl)⟩ ⟨(Nat.le_of_ble_eq_true rfl), (Nat.le_of_ble_eq_true rfl)⟩ dX11_readItems_109 (st' := [.int q13, .int q12, .ref (be θ + 565), .int (x3 + z6), .ref (be θ + x2)]) (σ' := (sI τ 565 10 ((mI τ 565 10) + (1 : Int32)))) rfl rfl ?_
        obtain ⟨q14, hq14, h⟩ := Option.bind_eq_some_iff.mp h
        refine g_cV X (c_Model_number  hq14) lk_RX11_255 my_X11_number (a := 565) (ci := 11) kd_565 (by decide) rfl (As := [.int q12, .int q13]) (rest := [.int (x3 + z6), .ref (be θ + x2)]) rfl rfl (Nat.le_of_ble_eq_true rfl) ⟨(Nat.le_of_ble_eq_true rfl), (Nat.le_of_ble_eq_true rfl)⟩ ⟨(Nat.le_of_ble_eq_true rfl), (Nat.le_of_ble_eq_true rfl)⟩ dX11_readItems_112 (st' := [.int q14.1, .int (x3 + z6), .ref (be θ + x2)]) (σ' := q14.2) rfl rfl ?_
        obtain ⟨g15, h⟩ := ite_some h
        refine g_iast X h2 rfl (inb_in g15) dX11_readItems_115 ?_
        refine g_aload_n X dX11_readItems_116 rfl 1 rfl ?_
        refine g_get X fl_RX11_144 dX11_readItems_117 kd_565 (v := .int (mI (sI q14.2 x2 (x3 + z6).toNatClampNeg q14.1) 565 11)) rfl ?_
        refine g_iconst X dX11_readItems_120 (v := (-1 : Int32)) ic_m1 ?_
        refine g_icmp_ne (tgt := 45) X dX11_readItems_121 (by decide) (fun c16 => ?_) (fun c16 => ?_)
        · replace h := (if_neg c16).symm.trans h
          have hk := inl_hk h hk
          exact g_sub (lv' := [(0, .ref (be θ + 565)), (1, .int x1), (2, .ref (be θ + x2)), (3, .int x3), (4, .ref (sA θ x4)), (5, .int (z5 ||| ((1 : Int32) <<< (z6 &&& 31)))), (6, .int z6)]) [1, 2, 3, 4, 5, 0, 6] rfl hk
        · replace h := (if_pos c16).symm.trans h
          refine g_aload X dX11_readItems_124 5 rfl ?_
          refine g_aload_n X dX11_readItems_126 rfl 1 rfl ?_
          obtain ⟨q17, hq17, h⟩ := Option.bind_eq_some_iff.mp h
          refine g_cV X (c_Model_look  hq17) lk_RX11_154 my_X11_look (a := 565) (ci := 11) kd_565 (by decide) rfl (As := []) (rest := [.ref (sA θ x4)]) rfl rfl (Nat.le_of_ble_eq_true rfl) ⟨(Nat.le_of_ble_eq_true rfl), (Nat.le_of_ble_eq_true rfl)⟩ ⟨(Nat.le_of_ble_eq_true rfl), (Nat.le_of_ble_eq_true rfl)⟩ dX11_readItems_127 (st' := [.int q17.1, .ref (sA θ x4)]) (σ' := q17.2) rfl rfl ?_
          obtain ⟨q18, hq18, h⟩ := Option.bind_eq_some_iff.mp h
          refine g_cS X (c_Model_spotOf h4 hq18) lk_RX11_241 my_X11_spotOf (As := [.ref (sA θ x4), .int q17.1]) (rest := []) rfl rfl (Nat.le_of_ble_eq_true rfl) ⟨(Nat.le_of_ble_eq_true rfl), (Nat.le_of_ble_eq_true rfl)⟩ ⟨(Nat.le_of_ble_eq_true rfl), (Nat.le_of_ble_eq_true rfl)⟩ dX11_readItems_130 (st' := [.int q18]) (σ' := q17.2) rfl rfl ?_
          refine g_istore X dX11_readItems_133 (by decide) (lv' := [(6, .int q18), (5, .int (z5 ||| ((1 : Int32) <<< (z6 &&& 31)))), (0, .ref (be θ + 565)), (1, .int x1), (2, .ref (be θ + x2)), (3, .int x3), (4, .ref (sA θ x4))]) rfl ?_
          refine g_goto (tgt := 45) X dX11_readItems_135 (by decide) ?_
          have hk := inl_hk h hk
          exact g_sub (lv' := [(0, .ref (be θ + 565)), (1, .int x1), (2, .ref (be θ + x2)), (3, .int x3), (4, .ref (sA θ x4)), (5, .int (z5 ||| ((1 : Int32) <<< (z6 &&& 31)))), (6, .int q18)]) [2, 3, 4, 5, 6, 1, 0] rfl hk
      · replace h := (if_neg c11).symm.trans h
        refine g_aload_n X dX11_readItems_69 rfl 0 rfl ?_
        obtain ⟨q19, hq19, h⟩ := Option.bind_eq_some_iff.mp h
        refine g_cV X (c_Model_fails  hq19) lk_RX11_150 my_X11_fails (a := 565) (ci := 11) kd_565 (by decide) rfl (As := []) (rest := []) rfl rfl (Nat.le_of_ble_eq_true rfl) ⟨(Nat.le_of_ble_eq_true rfl), (Nat.le_of_ble_eq_true rfl)⟩ ⟨(Nat.le_of_ble_eq_true rfl), (Nat.le_of_ble_eq_true rfl)⟩ dX11_readItems_70 (st' := [.int q19.1]) (σ' := q19.2) rfl rfl ?_
        refine g_pop X dX11_readItems_73 rfl ?_
        have hk := inr_hk h hk
        have hk : q19.2 = r := hk
        subst hk
        exact g_vret X hr hlk dX11_readItems_74 rfl
set_option maxHeartbeats 4000000 in
set_option maxRecDepth 20000 in
theorem gl_Model_readItems_L45 (X : Cx θ p s m args c cX11_readItems 7 RX11) (hr : meth.sig.returnType = none) (hlk : meth.locks = false)  {x1 : Int32} {x2 : Nat} {x3 : Int32} {x4 : Nat} {r : Mem} (h2 : kd x2 = 13) (h4 : x4 < 6) (n : Nat) (a : Mem × Int32 × Int32) (b : Mem) (h : loopF (f_Model_readItems_L45 x1 x2 x3 x4) n a = some b) (hk : (fun b => b = r) b) : (fun a => @Prod.casesOn (Mem) (Int32 × Int32) (fun _ => Prop) a fun τ b0 => @Prod.casesOn (Int32) (Int32) (fun _ => Prop) b0 fun z5 z6 => GB θ p l e 5 s m args below meth c 7 (none, r) 45 [(0, .ref (be θ + 565)), (1, .int x1), (2, .ref (be θ + x2)), (3, .int x3), (4, .ref (sA θ x4)), (5, .int z5), (6, .int z6)] [] τ) a :=
  loopF_by (P := (fun a => @Prod.casesOn (Mem) (Int32 × Int32) (fun _ => Prop) a fun τ b0 => @Prod.casesOn (Int32) (Int32) (fun _ => Prop) b0 fun z5 z6 => GB θ p l e 5 s m args below meth c 7 (none, r) 45 [(0, .ref (be θ + 565)), (1, .int x1), (2, .ref (be θ + x2)), (3, .int x3), (4, .ref (sA θ x4)), (5, .int z5), (6, .int z6)] [] τ)) (K := (fun b => b = r)) (fun a x h hk => by obtain ⟨τ, z5, z6⟩ := a; exact gs_Model_readItems_L45 X hr hlk  h2 h4 τ z5 z6 x h hk) n a b h hk
set_option maxHeartbeats 4000000 in
set_option maxRecDepth 20000 in
theorem g_Model_readItems (X : Cx θ p s m args c cX11_readItems 7 RX11) (hr : meth.sig.returnType = none) (hlk : meth.locks = false)  {σ : Mem} {x1 : Int32} {x2 : Nat} {x3 : Int32} {x4 : Nat} {r : Mem} (h2 : kd x2 = 13) (h4 : x4 < 6) (h : f_Model_readItems σ x1 x2 x3 x4 = some r) : GB θ p l e 5 s m args below meth c 7 (none, r) 0 [(0, .ref (be θ + 565)), (1, .int x1), (2, .ref (be θ + x2)), (3, .int x3), (4, .ref (sA θ x4))] [] σ := by
  unfold f_Model_readItems at h
  refine g_iconst X dX11_readItems_0 (v := (0 : Int32)) ic_0 ?_
  refine g_istore X dX11_readItems_1 (by decide) (lv' := [(5, .int (0 : Int32)), (0, .ref (be θ + 565)), (1, .int x1), (2, .ref (be θ + x2)), (3, .int x3), (4, .ref (sA θ x4))]) rfl ?_
  obtain ⟨w5, hq5, h⟩ := Option.bind_eq_some_iff.mp h
  refine g_sub (lv' := [(0, .ref (be θ + 565)), (1, .int x1), (2, .ref (be θ + x2)), (3, .int x3), (4, .ref (sA θ x4)), (5, .int (0 : Int32))]) [1, 2, 3, 4, 5, 0] rfl (gl_Model_readItems_L3 X hr hlk  h2 h4  FU _ w5 hq5 ?_)
  refine g_iconst X dX11_readItems_31 (v := (0 : Int32)) ic_0 ?_
  refine g_istore X dX11_readItems_32 (by decide) (lv' := [(5, .int (0 : Int32)), (0, .ref (be θ + 565)), (1, .int x1), (2, .ref (be θ + x2)), (3, .int x3), (4, .ref (sA θ x4))]) rfl ?_
  refine g_aload X dX11_readItems_34 5 rfl ?_
  refine g_aload_n X dX11_readItems_36 rfl 1 rfl ?_
  obtain ⟨q6, hq6, h⟩ := Option.bind_eq_some_iff.mp h
  refine g_cV X (c_Model_look  hq6) lk_RX11_154 my_X11_look (a := 565) (ci := 11) kd_565 (by decide) rfl (As := []) (rest := [.ref (sA θ x4)]) rfl rfl (Nat.le_of_ble_eq_true rfl) ⟨(Nat.le_of_ble_eq_true rfl), (Nat.le_of_ble_eq_true rfl)⟩ ⟨(Nat.le_of_ble_eq_true rfl), (Nat.le_of_ble_eq_true rfl)⟩ dX11_readItems_37 (st' := [.int q6.1, .ref (sA θ x4)]) (σ' := q6.2) rfl rfl ?_
  obtain ⟨q7, hq7, h⟩ := Option.bind_eq_some_iff.mp h
  refine g_cS X (c_Model_spotOf h4 hq7) lk_RX11_241 my_X11_spotOf (As := [.ref (sA θ x4), .int q6.1]) (rest := []) rfl rfl (Nat.le_of_ble_eq_true rfl) ⟨(Nat.le_of_ble_eq_true rfl), (Nat.le_of_ble_eq_true rfl)⟩ ⟨(Nat.le_of_ble_eq_true rfl), (Nat.le_of_ble_eq_true rfl)⟩ dX11_readItems_40 (st' := [.int q7]) (σ' := q6.2) rfl rfl ?_
  refine g_istore X dX11_readItems_43 (by decide) (lv' := [(6, .int q7), (5, .int (0 : Int32)), (0, .ref (be θ + 565)), (1, .int x1), (2, .ref (be θ + x2)), (3, .int x3), (4, .ref (sA θ x4))]) rfl ?_
  exact g_sub (lv' := [(0, .ref (be θ + 565)), (1, .int x1), (2, .ref (be θ + x2)), (3, .int x3), (4, .ref (sA θ x4)), (5, .int (0 : Int32)), (6, .int q7)]) [2, 3, 4, 5, 6, 1, 0] rfl (gl_Model_readItems_L45 X hr hlk  h2 h4  FU _ _ h rfl)
set_option maxHeartbeats 4000000 in
set_option maxRecDepth 20000 in
theorem c_Model_readItems {θ : Th} {l : Launch} {σ : Mem} {x1 : Int32} {x2 : Nat} {x3 : Int32} {x4 : Nat} {r : Mem} (h2 : kd x2 = 13) (h4 : x4 < 6) (h : f_Model_readItems σ x1 x2 x3 x4 = some r) : Cn θ l yX11_readItems cX11_readItems 7 (none) 5 0 0 [.ref (be θ + 565), .int x1, .ref (be θ + x2), .int x3, .ref (sA θ x4)] σ (none, r) :=
  Cn.of (by decide) (Nat.le_of_ble_eq_true rfl) (fun p e s m below meth c X hr hlk => g_Model_readItems X hr hlk h2 h4 h)
theorem dX11_readClause_0 : decode cX11_readClause 0 = .ok (.aload_n 0, 1) := by decide +kernel
theorem dX11_readClause_1 : decode cX11_readClause 1 = .ok (.invokevirtual 154, 3) := by decide +kernel
theorem dX11_readClause_4 : decode cX11_readClause 4 = .ok (.istore_n 1, 1) := by decide +kernel
theorem dX11_readClause_5 : decode cX11_readClause 5 = .ok (.iload_n 1, 1) := by decide +kernel
theorem dX11_readClause_6 : decode cX11_readClause 6 = .ok (.bipush 115, 2) := by decide +kernel
theorem dX11_readClause_8 : decode cX11_readClause 8 = .ok (.if_icmp .ne 10, 3) := by decide +kernel
theorem dX11_readClause_11 : decode cX11_readClause 11 = .ok (.aload_n 0, 1) := by decide +kernel
theorem dX11_readClause_12 : decode cX11_readClause 12 = .ok (.getfield 258, 3) := by decide +kernel
theorem dX11_readClause_15 : decode cX11_readClause 15 = .ok (.ifCond .eq 33, 3) := by decide +kernel
theorem dX11_readClause_18 : decode cX11_readClause 18 = .ok (.iload_n 1, 1) := by decide +kernel
theorem dX11_readClause_19 : decode cX11_readClause 19 = .ok (.bipush 116, 2) := by decide +kernel
theorem dX11_readClause_21 : decode cX11_readClause 21 = .ok (.if_icmp .ne 12, 3) := by decide +kernel
theorem dX11_readClause_24 : decode cX11_readClause 24 = .ok (.aload_n 0, 1) := by decide +kernel
theorem dX11_readClause_25 : decode cX11_readClause 25 = .ok (.getfield 261, 3) := by decide +kernel
theorem dX11_readClause_28 : decode cX11_readClause 28 = .ok (.bipush 8, 2) := by decide +kernel
theorem dX11_readClause_30 : decode cX11_readClause 30 = .ok (.if_icmp .lt 18, 3) := by decide +kernel
theorem dX11_readClause_33 : decode cX11_readClause 33 = .ok (.iload_n 1, 1) := by decide +kernel
theorem dX11_readClause_34 : decode cX11_readClause 34 = .ok (.bipush 98, 2) := by decide +kernel
theorem dX11_readClause_36 : decode cX11_readClause 36 = .ok (.if_icmp .ne 16, 3) := by decide +kernel
theorem dX11_readClause_39 : decode cX11_readClause 39 = .ok (.aload_n 0, 1) := by decide +kernel
theorem dX11_readClause_40 : decode cX11_readClause 40 = .ok (.getfield 264, 3) := by decide +kernel
theorem dX11_readClause_43 : decode cX11_readClause 43 = .ok (.bipush 6, 2) := by decide +kernel
theorem dX11_readClause_45 : decode cX11_readClause 45 = .ok (.if_icmp .ge 7, 3) := by decide +kernel
theorem dX11_readClause_48 : decode cX11_readClause 48 = .ok (.iconst 1, 1) := by decide +kernel
theorem dX11_readClause_49 : decode cX11_readClause 49 = .ok (.goto 4, 3) := by decide +kernel
theorem dX11_readClause_52 : decode cX11_readClause 52 = .ok (.iconst 0, 1) := by decide +kernel
theorem dX11_readClause_53 : decode cX11_readClause 53 = .ok (.istore_n 2, 1) := by decide +kernel
theorem dX11_readClause_54 : decode cX11_readClause 54 = .ok (.iload_n 2, 1) := by decide +kernel
theorem dX11_readClause_55 : decode cX11_readClause 55 = .ok (.ifCond .ne 9, 3) := by decide +kernel
theorem dX11_readClause_58 : decode cX11_readClause 58 = .ok (.aload_n 0, 1) := by decide +kernel
theorem dX11_readClause_59 : decode cX11_readClause 59 = .ok (.invokevirtual 150, 3) := by decide +kernel
theorem dX11_readClause_62 : decode cX11_readClause 62 = .ok (.pop, 1) := by decide +kernel
theorem dX11_readClause_63 : decode cX11_readClause 63 = .ok (.return_, 1) := by decide +kernel
theorem dX11_readClause_64 : decode cX11_readClause 64 = .ok (.aload_n 0, 1) := by decide +kernel
theorem dX11_readClause_65 : decode cX11_readClause 65 = .ok (.dup, 1) := by decide +kernel
theorem dX11_readClause_66 : decode cX11_readClause 66 = .ok (.getfield 135, 3) := by decide +kernel
theorem dX11_readClause_69 : decode cX11_readClause 69 = .ok (.iconst 1, 1) := by decide +kernel
theorem dX11_readClause_70 : decode cX11_readClause 70 = .ok (.iadd, 1) := by decide +kernel
theorem dX11_readClause_71 : decode cX11_readClause 71 = .ok (.putfield 135, 3) := by decide +kernel
theorem dX11_readClause_74 : decode cX11_readClause 74 = .ok (.iload_n 1, 1) := by decide +kernel
theorem dX11_readClause_75 : decode cX11_readClause 75 = .ok (.bipush 115, 2) := by decide +kernel
theorem dX11_readClause_77 : decode cX11_readClause 77 = .ok (.if_icmp .ne 24, 3) := by decide +kernel
theorem dX11_readClause_80 : decode cX11_readClause 80 = .ok (.aload_n 0, 1) := by decide +kernel
theorem dX11_readClause_81 : decode cX11_readClause 81 = .ok (.iconst 1, 1) := by decide +kernel
theorem dX11_readClause_82 : decode cX11_readClause 82 = .ok (.putfield 258, 3) := by decide +kernel
theorem dX11_readClause_85 : decode cX11_readClause 85 = .ok (.aload_n 0, 1) := by decide +kernel
theorem dX11_readClause_86 : decode cX11_readClause 86 = .ok (.iload_n 1, 1) := by decide +kernel
theorem dX11_readClause_87 : decode cX11_readClause 87 = .ok (.aload_n 0, 1) := by decide +kernel
theorem dX11_readClause_88 : decode cX11_readClause 88 = .ok (.getfield 40, 3) := by decide +kernel
theorem dX11_readClause_91 : decode cX11_readClause 91 = .ok (.iconst 0, 1) := by decide +kernel
theorem dX11_readClause_92 : decode cX11_readClause 92 = .ok (.ldc_w 267, 3) := by decide +kernel
theorem dX11_readClause_95 : decode cX11_readClause 95 = .ok (.invokevirtual 269, 3) := by decide +kernel
theorem dX11_readClause_98 : decode cX11_readClause 98 = .ok (.goto 72, 3) := by decide +kernel
theorem dX11_readClause_101 : decode cX11_readClause 101 = .ok (.iload_n 1, 1) := by decide +kernel
theorem dX11_readClause_102 : decode cX11_readClause 102 = .ok (.bipush 116, 2) := by decide +kernel
theorem dX11_readClause_104 : decode cX11_readClause 104 = .ok (.if_icmp .ne 36, 3) := by decide +kernel
theorem dX11_readClause_107 : decode cX11_readClause 107 = .ok (.aload_n 0, 1) := by decide +kernel
theorem dX11_readClause_108 : decode cX11_readClause 108 = .ok (.dup, 1) := by decide +kernel
theorem dX11_readClause_109 : decode cX11_readClause 109 = .ok (.getfield 261, 3) := by decide +kernel
theorem dX11_readClause_112 : decode cX11_readClause 112 = .ok (.iconst 1, 1) := by decide +kernel
theorem dX11_readClause_113 : decode cX11_readClause 113 = .ok (.iadd, 1) := by decide +kernel
theorem dX11_readClause_114 : decode cX11_readClause 114 = .ok (.putfield 261, 3) := by decide +kernel
theorem dX11_readClause_117 : decode cX11_readClause 117 = .ok (.aload_n 0, 1) := by decide +kernel
theorem dX11_readClause_118 : decode cX11_readClause 118 = .ok (.iload_n 1, 1) := by decide +kernel
theorem dX11_readClause_119 : decode cX11_readClause 119 = .ok (.aload_n 0, 1) := by decide +kernel
theorem dX11_readClause_120 : decode cX11_readClause 120 = .ok (.getfield 46, 3) := by decide +kernel
theorem dX11_readClause_123 : decode cX11_readClause 123 = .ok (.iconst 3, 1) := by decide +kernel
theorem dX11_readClause_124 : decode cX11_readClause 124 = .ok (.aload_n 0, 1) := by decide +kernel
theorem dX11_readClause_125 : decode cX11_readClause 125 = .ok (.getfield 261, 3) := by decide +kernel
theorem dX11_readClause_128 : decode cX11_readClause 128 = .ok (.iconst 1, 1) := by decide +kernel
theorem dX11_readClause_129 : decode cX11_readClause 129 = .ok (.isub, 1) := by decide +kernel
theorem dX11_readClause_130 : decode cX11_readClause 130 = .ok (.imul, 1) := by decide +kernel
theorem dX11_readClause_131 : decode cX11_readClause 131 = .ok (.ldc_w 273, 3) := by decide +kernel
theorem dX11_readClause_134 : decode cX11_readClause 134 = .ok (.invokevirtual 269, 3) := by decide +kernel
theorem dX11_readClause_137 : decode cX11_readClause 137 = .ok (.goto 33, 3) := by decide +kernel
theorem dX11_readClause_140 : decode cX11_readClause 140 = .ok (.aload_n 0, 1) := by decide +kernel
theorem dX11_readClause_141 : decode cX11_readClause 141 = .ok (.dup, 1) := by decide +kernel
theorem dX11_readClause_142 : decode cX11_readClause 142 = .ok (.getfield 264, 3) := by decide +kernel
theorem dX11_readClause_145 : decode cX11_readClause 145 = .ok (.iconst 1, 1) := by decide +kernel
theorem dX11_readClause_146 : decode cX11_readClause 146 = .ok (.iadd, 1) := by decide +kernel
theorem dX11_readClause_147 : decode cX11_readClause 147 = .ok (.putfield 264, 3) := by decide +kernel
theorem dX11_readClause_150 : decode cX11_readClause 150 = .ok (.aload_n 0, 1) := by decide +kernel
theorem dX11_readClause_151 : decode cX11_readClause 151 = .ok (.iload_n 1, 1) := by decide +kernel
theorem dX11_readClause_152 : decode cX11_readClause 152 = .ok (.aload_n 0, 1) := by decide +kernel
theorem dX11_readClause_153 : decode cX11_readClause 153 = .ok (.getfield 52, 3) := by decide +kernel
theorem dX11_readClause_156 : decode cX11_readClause 156 = .ok (.iconst 4, 1) := by decide +kernel
theorem dX11_readClause_157 : decode cX11_readClause 157 = .ok (.aload_n 0, 1) := by decide +kernel
theorem dX11_readClause_158 : decode cX11_readClause 158 = .ok (.getfield 264, 3) := by decide +kernel
theorem dX11_readClause_161 : decode cX11_readClause 161 = .ok (.iconst 1, 1) := by decide +kernel
theorem dX11_readClause_162 : decode cX11_readClause 162 = .ok (.isub, 1) := by decide +kernel
theorem dX11_readClause_163 : decode cX11_readClause 163 = .ok (.imul, 1) := by decide +kernel
theorem dX11_readClause_164 : decode cX11_readClause 164 = .ok (.ldc_w 275, 3) := by decide +kernel
theorem dX11_readClause_167 : decode cX11_readClause 167 = .ok (.invokevirtual 269, 3) := by decide +kernel
theorem dX11_readClause_170 : decode cX11_readClause 170 = .ok (.return_, 1) := by decide +kernel
def f_Model_readClause_J52 (σ : Mem) (y1 : Int32) : Option (Mem) :=
  if (0 : Int32) = (0 : Int32) then
    (f_Model_fails σ).bind fun q11 =>
    some q11.2
  else
    if y1 = (115 : Int32) then
      (f_Model_readItems (sI (sI σ 565 10 ((mI σ 565 10) + (1 : Int32))) 565 31 (1 : Int32)) y1 571 (0 : Int32) 2).bind fun q10 =>
      some q10
    else
      if y1 = (116 : Int32) then
        (f_Model_readItems (sI (sI σ 565 10 ((mI σ 565 10) + (1 : Int32))) 565 28 ((mI (sI σ 565 10 ((mI σ 565 10) + (1 : Int32))) 565 28) + (1 : Int32))) y1 573 ((3 : Int32) * ((mI (sI (sI σ 565 10 ((mI σ 565 10) + (1 : Int32))) 565 28 ((mI (sI σ 565 10 ((mI σ 565 10) + (1 : Int32))) 565 28) + (1 : Int32))) 565 28) - (1 : Int32))) 3).bind fun q9 =>
        some q9
      else
        (f_Model_readItems (sI (sI σ 565 10 ((mI σ 565 10) + (1 : Int32))) 565 29 ((mI (sI σ 565 10 ((mI σ 565 10) + (1 : Int32))) 565 29) + (1 : Int32))) y1 575 ((4 : Int32) * ((mI (sI (sI σ 565 10 ((mI σ 565 10) + (1 : Int32))) 565 29 ((mI (sI σ 565 10 ((mI σ 565 10) + (1 : Int32))) 565 29) + (1 : Int32))) 565 29) - (1 : Int32))) 4).bind fun q8 =>
        some q8
def f_Model_readClause_J48 (σ : Mem) (y1 : Int32) : Option (Mem) :=
  if (1 : Int32) = (0 : Int32) then
    (f_Model_fails σ).bind fun q19 =>
    some q19.2
  else
    if y1 = (115 : Int32) then
      (f_Model_readItems (sI (sI σ 565 10 ((mI σ 565 10) + (1 : Int32))) 565 31 (1 : Int32)) y1 571 (0 : Int32) 2).bind fun q18 =>
      some q18
    else
      if y1 = (116 : Int32) then
        (f_Model_readItems (sI (sI σ 565 10 ((mI σ 565 10) + (1 : Int32))) 565 28 ((mI (sI σ 565 10 ((mI σ 565 10) + (1 : Int32))) 565 28) + (1 : Int32))) y1 573 ((3 : Int32) * ((mI (sI (sI σ 565 10 ((mI σ 565 10) + (1 : Int32))) 565 28 ((mI (sI σ 565 10 ((mI σ 565 10) + (1 : Int32))) 565 28) + (1 : Int32))) 565 28) - (1 : Int32))) 3).bind fun q17 =>
        some q17
      else
        (f_Model_readItems (sI (sI σ 565 10 ((mI σ 565 10) + (1 : Int32))) 565 29 ((mI (sI σ 565 10 ((mI σ 565 10) + (1 : Int32))) 565 29) + (1 : Int32))) y1 575 ((4 : Int32) * ((mI (sI (sI σ 565 10 ((mI σ 565 10) + (1 : Int32))) 565 29 ((mI (sI σ 565 10 ((mI σ 565 10) + (1 : Int32))) 565 29) + (1 : Int32))) 565 29) - (1 : Int32))) 4).bind fun q16 =>
        some q16
def f_Model_readClause_J33 (σ : Mem) (y1 : Int32) : Option (Mem) :=
  if y1 = (98 : Int32) then
    if (6 : Int32) ≤ (mI σ 565 29) then
      f_Model_readClause_J52 σ y1
    else
      f_Model_readClause_J48 σ y1
  else
    f_Model_readClause_J52 σ y1
def f_Model_readClause_J18 (σ : Mem) (y1 : Int32) : Option (Mem) :=
  if y1 = (116 : Int32) then
    if (mI σ 565 28) < (8 : Int32) then
      f_Model_readClause_J48 σ y1
    else
      f_Model_readClause_J33 σ y1
  else
    f_Model_readClause_J33 σ y1
def f_Model_readClause (σ : Mem)  : Option (Mem) :=
  (f_Model_look σ).bind fun q1 =>
  if q1.1 = (115 : Int32) then
    if (mI q1.2 565 31) = (0 : Int32) then
      f_Model_readClause_J48 q1.2 q1.1
    else
      f_Model_readClause_J18 q1.2 q1.1
  else
    f_Model_readClause_J18 q1.2 q1.1
set_option maxHeartbeats 4000000 in
set_option maxRecDepth 20000 in
theorem g_Model_readClause_J52 (X : Cx θ p s m args c cX11_readClause 3 RX11) (hr : meth.sig.returnType = none) (hlk : meth.locks = false)  {σ : Mem} {y1 : Int32} {r : Mem}  (h : f_Model_readClause_J52 σ y1 = some r) : GB θ p l e 6 s m args below meth c 3 (none, r) 52 [(0, .ref (be θ + 565)), (1, .int y1)] [] σ := by
  unfold f_Model_readClause_J52 at h
  refine g_iconst X dX11_readClause_52 (v := (0 : Int32)) ic_0 ?_
  refine g_istore_n X dX11_readClause_53 rfl (by decide) (lv' := [(2, .int (0 : Int32)), (0, .ref (be θ + 565)), (1, .int y1)]) rfl ?_
  refine g_iload_n X dX11_readClause_54 rfl 0 rfl ?_
  refine g_if_ne (tgt := 64) X dX11_readClause_55 (by decide) (fun c5 => ?_) (fun c5 => ?_)
  · replace h := (if_neg c5).symm.trans h
    refine g_aload_n X dX11_readClause_64 rfl 1 rfl ?_
    refine g_dup X dX11_readClause_65 rfl ?_
    refine g_get X fl_RX11_135 dX11_readClause_66 kd_565 (v := .int (mI σ 565 10)) rfl ?_
    refine g_iconst X dX11_readClause_69 (v := (1 : Int32)) ic_1 ?_
    refine g_iadd X dX11_readClause_70 ?_
    refine g_putI X fl_RX11_135 dX11_readClause_71 kd_565 rfl rfl rfl ?_
    refine g_iload_n X dX11_readClause_74 rfl 2 rfl ?_
    refine g_bipush X dX11_readClause_75 (v := (115 : Int32)) bp_115 ?_
    refine g_icmp_ne (tgt := 101) X dX11_readClause_77 (by decide) (fun c6 => ?_) (fun c6 => ?_)
    · replace h := (if_neg c6).symm.trans h
      refine g_iload_n X dX11_readClause_101 rfl 2 rfl ?_
      refine g_bipush X dX11_readClause_102 (v := (116 : Int32)) bp_116 ?_
      refine g_icmp_ne (tgt := 140) X dX11_readClause_104 (by decide) (fun c7 => ?_) (fun c7 => ?_)
      · replace h := (if_neg c7).symm.trans h
        refine g_aload_n X dX11_readClause_140 rfl 1 rfl ?_
        refine g_dup X dX11_readClause_141 rfl ?_
        refine g_get X fl_RX11_264 dX11_readClause_142 kd_565 (v := .int (mI (sI σ 565 10 ((mI σ 565 10) + (1 : Int32))) 565 29)) rfl ?_
        refine g_iconst X dX11_readClause_145 (v := (1 : Int32)) ic_1 ?_
        refine g_iadd X dX11_readClause_146 ?_
        refine g_putI X fl_RX11_264 dX11_readClause_147 kd_565 rfl rfl rfl ?_
        refine g_aload_n X dX11_readClause_150 rfl 1 rfl ?_
        refine g_iload_n X dX11_readClause_151 rfl 2 rfl ?_
        refine g_aload_n X dX11_readClause_152 rfl 1 rfl ?_
        refine g_get X fl_RX11_52 dX11_readClause_153 kd_565 (v := .ref (be θ + 575)) rfl ?_
        refine g_iconst X dX11_readClause_156 (v := (4 : Int32)) ic_4 ?_
        refine g_aload_n X dX11_readClause_157 rfl 1 rfl ?_
        refine g_get X fl_RX11_264 dX11_readClause_158 kd_565 (v := .int (mI (sI (sI σ 565 10 ((mI σ 565 10) + (1 : Int32))) 565 29 ((mI (sI σ 565 10 ((mI σ 565 10) + (1 : Int32))) 565 29) + (1 : Int32))) 565 29)) rfl ?_
        refine g_iconst X dX11_readClause_161 (v := (1 : Int32)) ic_1 ?_
        refine g_isub X dX11_readClause_162 ?_
        refine g_imul X dX11_readClause_163 ?_
        refine g_ldcwS X X.2.2.1.2.2.1.2.2.2.2.1 dX11_readClause_164 ?_
        obtain ⟨q8, hq8, h⟩ := Option.bind_eq_some_iff.mp h
        refine g_cV X (c_Model_readItems kd_575 (by decide) hq8) lk_RX11_269 my_X11_readItems (a := 565) (ci := 11) kd_565 (by decide) rfl (As := [.int y1, .ref (be θ + 575), .int ((4 : Int32) * ((mI (sI (sI σ 565 10 ((mI σ 565 10) + (1 : Int32))) 565 29 ((mI (sI σ 565 10 ((mI σ 565 10) + (1 : Int32))) 565 29) + (1 : Int32))) 565 29) - (1 : Int32))), .ref (sA θ 4)]) (rest := []) rfl rfl (Nat.le_of_ble_eq_true rfl) ⟨(Nat.le_of_ble_eq_true rfl), (Nat.le_of_ble_eq_true rfl)⟩ ⟨(Nat.le_of_ble_eq_true rfl), (Nat.le_of_ble_eq_true rfl)⟩ dX11_readClause_167 (st' := []) (σ' := q8) rfl rfl ?_
        exact g_vret X hr hlk dX11_readClause_170 (by cases h; rfl)
      · replace h := (if_pos c7).symm.trans h
        refine g_aload_n X dX11_readClause_107 rfl 1 rfl ?_
        refine g_dup X dX11_readClause_108 rfl ?_
        refine g_get X fl_RX11_261 dX11_readClause_109 kd_565 (v := .int (mI (sI σ 565 10 ((mI σ 565 10) + (1 : Int32))) 565 28)) rfl ?_
        refine g_iconst X dX11_readClause_112 (v := (1 : Int32)) ic_1 ?_
        refine g_iadd X dX11_readClause_113 ?_
        refine g_putI X fl_RX11_261 dX11_readClause_114 kd_565 rfl rfl rfl ?_
        refine g_aload_n X dX11_readClause_117 rfl 1 rfl ?_
        refine g_iload_n X dX11_readClause_118 rfl 2 rfl ?_
        refine g_aload_n X dX11_readClause_119 rfl 1 rfl ?_
        refine g_get X fl_RX11_46 dX11_readClause_120 kd_565 (v := .ref (be θ + 573)) rfl ?_
        refine g_iconst X dX11_readClause_123 (v := (3 : Int32)) ic_3 ?_
        refine g_aload_n X dX11_readClause_124 rfl 1 rfl ?_
        refine g_get X fl_RX11_261 dX11_readClause_125 kd_565 (v := .int (mI (sI (sI σ 565 10 ((mI σ 565 10) + (1 : Int32))) 565 28 ((mI (sI σ 565 10 ((mI σ 565 10) + (1 : Int32))) 565 28) + (1 : Int32))) 565 28)) rfl ?_
        refine g_iconst X dX11_readClause_128 (v := (1 : Int32)) ic_1 ?_
        refine g_isub X dX11_readClause_129 ?_
        refine g_imul X dX11_readClause_130 ?_
        refine g_ldcwS X X.2.2.1.2.2.1.2.2.2.1 dX11_readClause_131 ?_
        obtain ⟨q9, hq9, h⟩ := Option.bind_eq_some_iff.mp h
        refine g_cV X (c_Model_readItems kd_573 (by decide) hq9) lk_RX11_269 my_X11_readItems (a := 565) (ci := 11) kd_565 (by decide) rfl (As := [.int y1, .ref (be θ + 573), .int ((3 : Int32) * ((mI (sI (sI σ 565 10 ((mI σ 565 10) + (1 : Int32))) 565 28 ((mI (sI σ 565 10 ((mI σ 565 10) + (1 : Int32))) 565 28) + (1 : Int32))) 565 28) - (1 : Int32))), .ref (sA θ 3)]) (rest := []) rfl rfl (Nat.le_of_ble_eq_true rfl) ⟨(Nat.le_of_ble_eq_true rfl), (Nat.le_of_ble_eq_true rfl)⟩ ⟨(Nat.le_of_ble_eq_true rfl), (Nat.le_of_ble_eq_true rfl)⟩ dX11_readClause_134 (st' := []) (σ' := q9) rfl rfl ?_
        refine g_goto (tgt := 170) X dX11_readClause_137 (by decide) ?_
        exact g_vret X hr hlk dX11_readClause_170 (by cases h; rfl)
    · replace h := (if_pos c6).symm.trans h
      refine g_aload_n X dX11_readClause_80 rfl 1 rfl ?_
      refine g_iconst X dX11_readClause_81 (v := (1 : Int32)) ic_1 ?_
      refine g_putZ X fl_RX11_258 dX11_readClause_82 kd_565 rfl rfl rfl bz1 ?_
      refine g_aload_n X dX11_readClause_85 rfl 1 rfl ?_
      refine g_iload_n X dX11_readClause_86 rfl 2 rfl ?_
      refine g_aload_n X dX11_readClause_87 rfl 1 rfl ?_
      refine g_get X fl_RX11_40 dX11_readClause_88 kd_565 (v := .ref (be θ + 571)) rfl ?_
      refine g_iconst X dX11_readClause_91 (v := (0 : Int32)) ic_0 ?_
      refine g_ldcwS X X.2.2.1.2.2.1.2.2.1 dX11_readClause_92 ?_
      obtain ⟨q10, hq10, h⟩ := Option.bind_eq_some_iff.mp h
      refine g_cV X (c_Model_readItems kd_571 (by decide) hq10) lk_RX11_269 my_X11_readItems (a := 565) (ci := 11) kd_565 (by decide) rfl (As := [.int y1, .ref (be θ + 571), .int (0 : Int32), .ref (sA θ 2)]) (rest := []) rfl rfl (Nat.le_of_ble_eq_true rfl) ⟨(Nat.le_of_ble_eq_true rfl), (Nat.le_of_ble_eq_true rfl)⟩ ⟨(Nat.le_of_ble_eq_true rfl), (Nat.le_of_ble_eq_true rfl)⟩ dX11_readClause_95 (st' := []) (σ' := q10) rfl rfl ?_
      refine g_goto (tgt := 170) X dX11_readClause_98 (by decide) ?_
      exact g_vret X hr hlk dX11_readClause_170 (by cases h; rfl)
  · replace h := (if_pos c5).symm.trans h
    refine g_aload_n X dX11_readClause_58 rfl 1 rfl ?_
    obtain ⟨q11, hq11, h⟩ := Option.bind_eq_some_iff.mp h
    refine g_cV X (c_Model_fails  hq11) lk_RX11_150 my_X11_fails (a := 565) (ci := 11) kd_565 (by decide) rfl (As := []) (rest := []) rfl rfl (Nat.le_of_ble_eq_true rfl) ⟨(Nat.le_of_ble_eq_true rfl), (Nat.le_of_ble_eq_true rfl)⟩ ⟨(Nat.le_of_ble_eq_true rfl), (Nat.le_of_ble_eq_true rfl)⟩ dX11_readClause_59 (st' := [.int q11.1]) (σ' := q11.2) rfl rfl ?_
    refine g_pop X dX11_readClause_62 rfl ?_
    exact g_vret X hr hlk dX11_readClause_63 (by cases h; rfl)
set_option maxHeartbeats 4000000 in
set_option maxRecDepth 20000 in
theorem g_Model_readClause_J48 (X : Cx θ p s m args c cX11_readClause 3 RX11) (hr : meth.sig.returnType = none) (hlk : meth.locks = false)  {σ : Mem} {y1 : Int32} {r : Mem}  (h : f_Model_readClause_J48 σ y1 = some r) : GB θ p l e 6 s m args below meth c 3 (none, r) 48 [(0, .ref (be θ + 565)), (1, .int y1)] [] σ := by
  unfold f_Model_readClause_J48 at h
  refine g_iconst X dX11_readClause_48 (v := (1 : Int32)) ic_1 ?_
  refine g_goto (tgt := 53) X dX11_readClause_49 (by decide) ?_
  refine g_istore_n X dX11_readClause_53 rfl (by decide) (lv' := [(2, .int (1 : Int32)), (0, .ref (be θ + 565)), (1, .int y1)]) rfl ?_
  refine g_iload_n X dX11_readClause_54 rfl 0 rfl ?_
  refine g_if_ne (tgt := 64) X dX11_readClause_55 (by decide) (fun c13 => ?_) (fun c13 => ?_)
  · replace h := (if_neg c13).symm.trans h
    refine g_aload_n X dX11_readClause_64 rfl 1 rfl ?_
    refine g_dup X dX11_readClause_65 rfl ?_
    refine g_get X fl_RX11_135 dX11_readClause_66 kd_565 (v := .int (mI σ 565 10)) rfl ?_
    refine g_iconst X dX11_readClause_69 (v := (1 : Int32)) ic_1 ?_
    refine g_iadd X dX11_readClause_70 ?_
    refine g_putI X fl_RX11_135 dX11_readClause_71 kd_565 rfl rfl rfl ?_
    refine g_iload_n X dX11_readClause_74 rfl 2 rfl ?_
    refine g_bipush X dX11_readClause_75 (v := (115 : Int32)) bp_115 ?_
    refine g_icmp_ne (tgt := 101) X dX11_readClause_77 (by decide) (fun c14 => ?_) (fun c14 => ?_)
    · replace h := (if_neg c14).symm.trans h
      refine g_iload_n X dX11_readClause_101 rfl 2 rfl ?_
      refine g_bipush X dX11_readClause_102 (v := (116 : Int32)) bp_116 ?_
      refine g_icmp_ne (tgt := 140) X dX11_readClause_104 (by decide) (fun c15 => ?_) (fun c15 => ?_)
      · replace h := (if_neg c15).symm.trans h
        refine g_aload_n X dX11_readClause_140 rfl 1 rfl ?_
        refine g_dup X dX11_readClause_141 rfl ?_
        refine g_get X fl_RX11_264 dX11_readClause_142 kd_565 (v := .int (mI (sI σ 565 10 ((mI σ 565 10) + (1 : Int32))) 565 29)) rfl ?_
        refine g_iconst X dX11_readClause_145 (v := (1 : Int32)) ic_1 ?_
        refine g_iadd X dX11_readClause_146 ?_
        refine g_putI X fl_RX11_264 dX11_readClause_147 kd_565 rfl rfl rfl ?_
        refine g_aload_n X dX11_readClause_150 rfl 1 rfl ?_
        refine g_iload_n X dX11_readClause_151 rfl 2 rfl ?_
        refine g_aload_n X dX11_readClause_152 rfl 1 rfl ?_
        refine g_get X fl_RX11_52 dX11_readClause_153 kd_565 (v := .ref (be θ + 575)) rfl ?_
        refine g_iconst X dX11_readClause_156 (v := (4 : Int32)) ic_4 ?_
        refine g_aload_n X dX11_readClause_157 rfl 1 rfl ?_
        refine g_get X fl_RX11_264 dX11_readClause_158 kd_565 (v := .int (mI (sI (sI σ 565 10 ((mI σ 565 10) + (1 : Int32))) 565 29 ((mI (sI σ 565 10 ((mI σ 565 10) + (1 : Int32))) 565 29) + (1 : Int32))) 565 29)) rfl ?_
        refine g_iconst X dX11_readClause_161 (v := (1 : Int32)) ic_1 ?_
        refine g_isub X dX11_readClause_162 ?_
        refine g_imul X dX11_readClause_163 ?_
        refine g_ldcwS X X.2.2.1.2.2.1.2.2.2.2.1 dX11_readClause_164 ?_
        obtain ⟨q16, hq16, h⟩ := Option.bind_eq_some_iff.mp h
        refine g_cV X (c_Model_readItems kd_575 (by decide) hq16) lk_RX11_269 my_X11_readItems (a := 565) (ci := 11) kd_565 (by decide) rfl (As := [.int y1, .ref (be θ + 575), .int ((4 : Int32) * ((mI (sI (sI σ 565 10 ((mI σ 565 10) + (1 : Int32))) 565 29 ((mI (sI σ 565 10 ((mI σ 565 10) + (1 : Int32))) 565 29) + (1 : Int32))) 565 29) - (1 : Int32))), .ref (sA θ 4)]) (rest := []) rfl rfl (Nat.le_of_ble_eq_true rfl) ⟨(Nat.le_of_ble_eq_true rfl), (Nat.le_of_ble_eq_true rfl)⟩ ⟨(Nat.le_of_ble_eq_true rfl), (Nat.le_of_ble_eq_true rfl)⟩ dX11_readClause_167 (st' := []) (σ' := q16) rfl rfl ?_
        exact g_vret X hr hlk dX11_readClause_170 (by cases h; rfl)
      · replace h := (if_pos c15).symm.trans h
        refine g_aload_n X dX11_readClause_107 rfl 1 rfl ?_
        refine g_dup X dX11_readClause_108 rfl ?_
        refine g_get X fl_RX11_261 dX11_readClause_109 kd_565 (v := .int (mI (sI σ 565 10 ((mI σ 565 10) + (1 : Int32))) 565 28)) rfl ?_
        refine g_iconst X dX11_readClause_112 (v := (1 : Int32)) ic_1 ?_
        refine g_iadd X dX11_readClause_113 ?_
        refine g_putI X fl_RX11_261 dX11_readClause_114 kd_565 rfl rfl rfl ?_
        refine g_aload_n X dX11_readClause_117 rfl 1 rfl ?_
        refine g_iload_n X dX11_readClause_118 rfl 2 rfl ?_
        refine g_aload_n X dX11_readClause_119 rfl 1 rfl ?_
        refine g_get X fl_RX11_46 dX11_readClause_120 kd_565 (v := .ref (be θ + 573)) rfl ?_
        refine g_iconst X dX11_readClause_123 (v := (3 : Int32)) ic_3 ?_
        refine g_aload_n X dX11_readClause_124 rfl 1 rfl ?_
        refine g_get X fl_RX11_261 dX11_readClause_125 kd_565 (v := .int (mI (sI (sI σ 565 10 ((mI σ 565 10) + (1 : Int32))) 565 28 ((mI (sI σ 565 10 ((mI σ 565 10) + (1 : Int32))) 565 28) + (1 : Int32))) 565 28)) rfl ?_
        refine g_iconst X dX11_readClause_128 (v := (1 : Int32)) ic_1 ?_
        refine g_isub X dX11_readClause_129 ?_
        refine g_imul X dX11_readClause_130 ?_
        refine g_ldcwS X X.2.2.1.2.2.1.2.2.2.1 dX11_readClause_131 ?_
        obtain ⟨q17, hq17, h⟩ := Option.bind_eq_some_iff.mp h
        refine g_cV X (c_Model_readItems kd_573 (by decide) hq17) lk_RX11_269 my_X11_readItems (a := 565) (ci := 11) kd_565 (by decide) rfl (As := [.int y1, .ref (be θ + 573), .int ((3 : Int32) * ((mI (sI (sI σ 565 10 ((mI σ 565 10) + (1 : Int32))) 565 28 ((mI (sI σ 565 10 ((mI σ 565 10) + (1 : Int32))) 565 28) + (1 : Int32))) 565 28) - (1 : Int32))), .ref (sA θ 3)]) (rest := []) rfl rfl (Nat.le_of_ble_eq_true rfl) ⟨(Nat.le_of_ble_eq_true rfl), (Nat.le_of_ble_eq_true rfl)⟩ ⟨(Nat.le_of_ble_eq_true rfl), (Nat.le_of_ble_eq_true rfl)⟩ dX11_readClause_134 (st' := []) (σ' := q17) rfl rfl ?_
        refine g_goto (tgt := 170) X dX11_readClause_137 (by decide) ?_
        exact g_vret X hr hlk dX11_readClause_170 (by cases h; rfl)
    · replace h := (if_pos c14).symm.trans h
      refine g_aload_n X dX11_readClause_80 rfl 1 rfl ?_
      refine g_iconst X dX11_readClause_81 (v := (1 : Int32)) ic_1 ?_
      refine g_putZ X fl_RX11_258 dX11_readClause_82 kd_565 rfl rfl rfl bz1 ?_
      refine g_aload_n X dX11_readClause_85 rfl 1 rfl ?_
      refine g_iload_n X dX11_readClause_86 rfl 2 rfl ?_
      refine g_aload_n X dX11_readClause_87 rfl 1 rfl ?_
      refine g_get X fl_RX11_40 dX11_readClause_88 kd_565 (v := .ref (be θ + 571)) rfl ?_
      refine g_iconst X dX11_readClause_91 (v := (0 : Int32)) ic_0 ?_
      refine g_ldcwS X X.2.2.1.2.2.1.2.2.1 dX11_readClause_92 ?_
      obtain ⟨q18, hq18, h⟩ := Option.bind_eq_some_iff.mp h
      refine g_cV X (c_Model_readItems kd_571 (by decide) hq18) lk_RX11_269 my_X11_readItems (a := 565) (ci := 11) kd_565 (by decide) rfl (As := [.int y1, .ref (be θ + 571), .int (0 : Int32), .ref (sA θ 2)]) (rest := []) rfl rfl (Nat.le_of_ble_eq_true rfl) ⟨(Nat.le_of_ble_eq_true rfl), (Nat.le_of_ble_eq_true rfl)⟩ ⟨(Nat.le_of_ble_eq_true rfl), (Nat.le_of_ble_eq_true rfl)⟩ dX11_readClause_95 (st' := []) (σ' := q18) rfl rfl ?_
      refine g_goto (tgt := 170) X dX11_readClause_98 (by decide) ?_
      exact g_vret X hr hlk dX11_readClause_170 (by cases h; rfl)
  · replace h := (if_pos c13).symm.trans h
    refine g_aload_n X dX11_readClause_58 rfl 1 rfl ?_
    obtain ⟨q19, hq19, h⟩ := Option.bind_eq_some_iff.mp h
    refine g_cV X (c_Model_fails  hq19) lk_RX11_150 my_X11_fails (a := 565) (ci := 11) kd_565 (by decide) rfl (As := []) (rest := []) rfl rfl (Nat.le_of_ble_eq_true rfl) ⟨(Nat.le_of_ble_eq_true rfl), (Nat.le_of_ble_eq_true rfl)⟩ ⟨(Nat.le_of_ble_eq_true rfl), (Nat.le_of_ble_eq_true rfl)⟩ dX11_readClause_59 (st' := [.int q19.1]) (σ' := q19.2) rfl rfl ?_
    refine g_pop X dX11_readClause_62 rfl ?_
    exact g_vret X hr hlk dX11_readClause_63 (by cases h; rfl)
set_option maxHeartbeats 4000000 in
set_option maxRecDepth 20000 in
theorem g_Model_readClause_J33 (X : Cx θ p s m args c cX11_readClause 3 RX11) (hr : meth.sig.returnType = none) (hlk : meth.locks = false)  {σ : Mem} {y1 : Int32} {r : Mem}  (h : f_Model_readClause_J33 σ y1 = some r) : GB θ p l e 6 s m args below meth c 3 (none, r) 33 [(0, .ref (be θ + 565)), (1, .int y1)] [] σ := by
  unfold f_Model_readClause_J33 at h
  refine g_iload_n X dX11_readClause_33 rfl 1 rfl ?_
  refine g_bipush X dX11_readClause_34 (v := (98 : Int32)) bp_98 ?_
  refine g_icmp_ne (tgt := 52) X dX11_readClause_36 (by decide) (fun c4 => ?_) (fun c4 => ?_)
  · replace h := (if_neg c4).symm.trans h
    exact g_sub (lv' := [(0, .ref (be θ + 565)), (1, .int y1)]) [0, 1] rfl (g_Model_readClause_J52 X hr hlk    h)
  · replace h := (if_pos c4).symm.trans h
    refine g_aload_n X dX11_readClause_39 rfl 0 rfl ?_
    refine g_get X fl_RX11_264 dX11_readClause_40 kd_565 (v := .int (mI σ 565 29)) rfl ?_
    refine g_bipush X dX11_readClause_43 (v := (6 : Int32)) bp_6 ?_
    refine g_icmp_ge (tgt := 52) X dX11_readClause_45 (by decide) (fun c12 => ?_) (fun c12 => ?_)
    · replace h := (if_pos c12).symm.trans h
      exact g_sub (lv' := [(0, .ref (be θ + 565)), (1, .int y1)]) [0, 1] rfl (g_Model_readClause_J52 X hr hlk    h)
    · replace h := (if_neg c12).symm.trans h
      exact g_sub (lv' := [(0, .ref (be θ + 565)), (1, .int y1)]) [0, 1] rfl (g_Model_readClause_J48 X hr hlk    h)
set_option maxHeartbeats 4000000 in
set_option maxRecDepth 20000 in
theorem g_Model_readClause_J18 (X : Cx θ p s m args c cX11_readClause 3 RX11) (hr : meth.sig.returnType = none) (hlk : meth.locks = false)  {σ : Mem} {y1 : Int32} {r : Mem}  (h : f_Model_readClause_J18 σ y1 = some r) : GB θ p l e 6 s m args below meth c 3 (none, r) 18 [(0, .ref (be θ + 565)), (1, .int y1)] [] σ := by
  unfold f_Model_readClause_J18 at h
  refine g_iload_n X dX11_readClause_18 rfl 1 rfl ?_
  refine g_bipush X dX11_readClause_19 (v := (116 : Int32)) bp_116 ?_
  refine g_icmp_ne (tgt := 33) X dX11_readClause_21 (by decide) (fun c3 => ?_) (fun c3 => ?_)
  · replace h := (if_neg c3).symm.trans h
    exact g_sub (lv' := [(0, .ref (be θ + 565)), (1, .int y1)]) [0, 1] rfl (g_Model_readClause_J33 X hr hlk    h)
  · replace h := (if_pos c3).symm.trans h
    refine g_aload_n X dX11_readClause_24 rfl 0 rfl ?_
    refine g_get X fl_RX11_261 dX11_readClause_25 kd_565 (v := .int (mI σ 565 28)) rfl ?_
    refine g_bipush X dX11_readClause_28 (v := (8 : Int32)) bp_8 ?_
    refine g_icmp_lt (tgt := 48) X dX11_readClause_30 (by decide) (fun c20 => ?_) (fun c20 => ?_)
    · replace h := (if_pos c20).symm.trans h
      exact g_sub (lv' := [(0, .ref (be θ + 565)), (1, .int y1)]) [0, 1] rfl (g_Model_readClause_J48 X hr hlk    h)
    · replace h := (if_neg c20).symm.trans h
      exact g_sub (lv' := [(0, .ref (be θ + 565)), (1, .int y1)]) [0, 1] rfl (g_Model_readClause_J33 X hr hlk    h)
set_option maxHeartbeats 4000000 in
set_option maxRecDepth 20000 in
theorem g_Model_readClause (X : Cx θ p s m args c cX11_readClause 3 RX11) (hr : meth.sig.returnType = none) (hlk : meth.locks = false)  {σ : Mem}  {r : Mem}  (h : f_Model_readClause σ  = some r) : GB θ p l e 6 s m args below meth c 3 (none, r) 0 [(0, .ref (be θ + 565))] [] σ := by
  unfold f_Model_readClause at h
  refine g_aload_n X dX11_readClause_0 rfl 0 rfl ?_
  obtain ⟨q1, hq1, h⟩ := Option.bind_eq_some_iff.mp h
  refine g_cV X (c_Model_look  hq1) lk_RX11_154 my_X11_look (a := 565) (ci := 11) kd_565 (by decide) rfl (As := []) (rest := []) rfl rfl (Nat.le_of_ble_eq_true rfl) ⟨(Nat.le_of_ble_eq_true rfl), (Nat.le_of_ble_eq_true rfl)⟩ ⟨(Nat.le_of_ble_eq_true rfl), (Nat.le_of_ble_eq_true rfl)⟩ dX11_readClause_1 (st' := [.int q1.1]) (σ' := q1.2) rfl rfl ?_
  refine g_istore_n X dX11_readClause_4 rfl (by decide) (lv' := [(1, .int q1.1), (0, .ref (be θ + 565))]) rfl ?_
  refine g_iload_n X dX11_readClause_5 rfl 0 rfl ?_
  refine g_bipush X dX11_readClause_6 (v := (115 : Int32)) bp_115 ?_
  refine g_icmp_ne (tgt := 18) X dX11_readClause_8 (by decide) (fun c2 => ?_) (fun c2 => ?_)
  · replace h := (if_neg c2).symm.trans h
    exact g_sub (lv' := [(0, .ref (be θ + 565)), (1, .int q1.1)]) [1, 0] rfl (g_Model_readClause_J18 X hr hlk    h)
  · replace h := (if_pos c2).symm.trans h
    refine g_aload_n X dX11_readClause_11 rfl 1 rfl ?_
    refine g_get X fl_RX11_258 dX11_readClause_12 kd_565 (v := .int (mI q1.2 565 31)) rfl ?_
    refine g_if_eq (tgt := 48) X dX11_readClause_15 (by decide) (fun c21 => ?_) (fun c21 => ?_)
    · replace h := (if_pos c21).symm.trans h
      exact g_sub (lv' := [(0, .ref (be θ + 565)), (1, .int q1.1)]) [1, 0] rfl (g_Model_readClause_J48 X hr hlk    h)
    · replace h := (if_neg c21).symm.trans h
      exact g_sub (lv' := [(0, .ref (be θ + 565)), (1, .int q1.1)]) [1, 0] rfl (g_Model_readClause_J18 X hr hlk    h)
set_option maxHeartbeats 4000000 in
set_option maxRecDepth 20000 in
theorem c_Model_readClause {θ : Th} {l : Launch} {σ : Mem}  {r : Mem}  (h : f_Model_readClause σ  = some r) : Cn θ l yX11_readClause cX11_readClause 3 (none) 6 0 0 [.ref (be θ + 565)] σ (none, r) :=
  Cn.of (by decide) (Nat.le_of_ble_eq_true rfl) (fun p e s m below meth c X hr hlk => g_Model_readClause X hr hlk  h)
theorem dX11_readCity_0 : decode cX11_readCity 0 = .ok (.aload_n 0, 1) := by decide +kernel
theorem dX11_readCity_1 : decode cX11_readCity 1 = .ok (.aload_n 0, 1) := by decide +kernel
theorem dX11_readCity_2 : decode cX11_readCity 2 = .ok (.getfield 9, 3) := by decide +kernel
theorem dX11_readCity_5 : decode cX11_readCity 5 = .ok (.iconst 0, 1) := by decide +kernel
theorem dX11_readCity_6 : decode cX11_readCity 6 = .ok (.aload_n 0, 1) := by decide +kernel
theorem dX11_readCity_7 : decode cX11_readCity 7 = .ok (.getfield 125, 3) := by decide +kernel
theorem dX11_readCity_10 : decode cX11_readCity 10 = .ok (.invokevirtual 223, 3) := by decide +kernel
theorem dX11_readCity_13 : decode cX11_readCity 13 = .ok (.aload_n 0, 1) := by decide +kernel
theorem dX11_readCity_14 : decode cX11_readCity 14 = .ok (.iconst 0, 1) := by decide +kernel
theorem dX11_readCity_15 : decode cX11_readCity 15 = .ok (.putfield 261, 3) := by decide +kernel
theorem dX11_readCity_18 : decode cX11_readCity 18 = .ok (.aload_n 0, 1) := by decide +kernel
theorem dX11_readCity_19 : decode cX11_readCity 19 = .ok (.iconst 0, 1) := by decide +kernel
theorem dX11_readCity_20 : decode cX11_readCity 20 = .ok (.putfield 264, 3) := by decide +kernel
theorem dX11_readCity_23 : decode cX11_readCity 23 = .ok (.aload_n 0, 1) := by decide +kernel
theorem dX11_readCity_24 : decode cX11_readCity 24 = .ok (.iconst 0, 1) := by decide +kernel
theorem dX11_readCity_25 : decode cX11_readCity 25 = .ok (.putfield 258, 3) := by decide +kernel
theorem dX11_readCity_28 : decode cX11_readCity 28 = .ok (.iconst 0, 1) := by decide +kernel
theorem dX11_readCity_29 : decode cX11_readCity 29 = .ok (.istore_n 1, 1) := by decide +kernel
theorem dX11_readCity_30 : decode cX11_readCity 30 = .ok (.iload_n 1, 1) := by decide +kernel
theorem dX11_readCity_31 : decode cX11_readCity 31 = .ok (.iconst 4, 1) := by decide +kernel
theorem dX11_readCity_32 : decode cX11_readCity 32 = .ok (.if_icmp .ge 21, 3) := by decide +kernel
theorem dX11_readCity_35 : decode cX11_readCity 35 = .ok (.aload_n 0, 1) := by decide +kernel
theorem dX11_readCity_36 : decode cX11_readCity 36 = .ok (.getfield 40, 3) := by decide +kernel
theorem dX11_readCity_39 : decode cX11_readCity 39 = .ok (.iload_n 1, 1) := by decide +kernel
theorem dX11_readCity_40 : decode cX11_readCity 40 = .ok (.bipush 115, 2) := by decide +kernel
theorem dX11_readCity_42 : decode cX11_readCity 42 = .ok (.iload_n 1, 1) := by decide +kernel
theorem dX11_readCity_43 : decode cX11_readCity 43 = .ok (.invokestatic 237, 3) := by decide +kernel
theorem dX11_readCity_46 : decode cX11_readCity 46 = .ok (.iastore, 1) := by decide +kernel
theorem dX11_readCity_47 : decode cX11_readCity 47 = .ok (.iinc 1 1, 3) := by decide +kernel
theorem dX11_readCity_50 : decode cX11_readCity 50 = .ok (.goto (-20), 3) := by decide +kernel
theorem dX11_readCity_53 : decode cX11_readCity 53 = .ok (.iconst 1, 1) := by decide +kernel
theorem dX11_readCity_54 : decode cX11_readCity 54 = .ok (.istore_n 1, 1) := by decide +kernel
theorem dX11_readCity_55 : decode cX11_readCity 55 = .ok (.iload_n 1, 1) := by decide +kernel
theorem dX11_readCity_56 : decode cX11_readCity 56 = .ok (.ifCond .eq 55, 3) := by decide +kernel
theorem dX11_readCity_59 : decode cX11_readCity 59 = .ok (.aload_n 0, 1) := by decide +kernel
theorem dX11_readCity_60 : decode cX11_readCity 60 = .ok (.getfield 144, 3) := by decide +kernel
theorem dX11_readCity_63 : decode cX11_readCity 63 = .ok (.iconst (-1), 1) := by decide +kernel
theorem dX11_readCity_64 : decode cX11_readCity 64 = .ok (.if_icmp .ne 47, 3) := by decide +kernel
theorem dX11_readCity_67 : decode cX11_readCity 67 = .ok (.aload_n 0, 1) := by decide +kernel
theorem dX11_readCity_68 : decode cX11_readCity 68 = .ok (.invokevirtual 277, 3) := by decide +kernel
theorem dX11_readCity_71 : decode cX11_readCity 71 = .ok (.aload_n 0, 1) := by decide +kernel
theorem dX11_readCity_72 : decode cX11_readCity 72 = .ok (.getfield 144, 3) := by decide +kernel
theorem dX11_readCity_75 : decode cX11_readCity 75 = .ok (.iconst (-1), 1) := by decide +kernel
theorem dX11_readCity_76 : decode cX11_readCity 76 = .ok (.if_icmp .ne 16, 3) := by decide +kernel
theorem dX11_readCity_79 : decode cX11_readCity 79 = .ok (.aload_n 0, 1) := by decide +kernel
theorem dX11_readCity_80 : decode cX11_readCity 80 = .ok (.invokevirtual 154, 3) := by decide +kernel
theorem dX11_readCity_83 : decode cX11_readCity 83 = .ok (.bipush 59, 2) := by decide +kernel
theorem dX11_readCity_85 : decode cX11_readCity 85 = .ok (.if_icmp .ne 7, 3) := by decide +kernel
theorem dX11_readCity_88 : decode cX11_readCity 88 = .ok (.iconst 1, 1) := by decide +kernel
theorem dX11_readCity_89 : decode cX11_readCity 89 = .ok (.goto 4, 3) := by decide +kernel
theorem dX11_readCity_92 : decode cX11_readCity 92 = .ok (.iconst 0, 1) := by decide +kernel
theorem dX11_readCity_93 : decode cX11_readCity 93 = .ok (.istore_n 1, 1) := by decide +kernel
theorem dX11_readCity_94 : decode cX11_readCity 94 = .ok (.iload_n 1, 1) := by decide +kernel
theorem dX11_readCity_95 : decode cX11_readCity 95 = .ok (.ifCond .eq (-40), 3) := by decide +kernel
theorem dX11_readCity_98 : decode cX11_readCity 98 = .ok (.aload_n 0, 1) := by decide +kernel
theorem dX11_readCity_99 : decode cX11_readCity 99 = .ok (.dup, 1) := by decide +kernel
theorem dX11_readCity_100 : decode cX11_readCity 100 = .ok (.getfield 135, 3) := by decide +kernel
theorem dX11_readCity_103 : decode cX11_readCity 103 = .ok (.iconst 1, 1) := by decide +kernel
theorem dX11_readCity_104 : decode cX11_readCity 104 = .ok (.iadd, 1) := by decide +kernel
theorem dX11_readCity_105 : decode cX11_readCity 105 = .ok (.putfield 135, 3) := by decide +kernel
theorem dX11_readCity_108 : decode cX11_readCity 108 = .ok (.goto (-53), 3) := by decide +kernel
theorem dX11_readCity_111 : decode cX11_readCity 111 = .ok (.aload_n 0, 1) := by decide +kernel
theorem dX11_readCity_112 : decode cX11_readCity 112 = .ok (.getfield 144, 3) := by decide +kernel
theorem dX11_readCity_115 : decode cX11_readCity 115 = .ok (.iconst (-1), 1) := by decide +kernel
theorem dX11_readCity_116 : decode cX11_readCity 116 = .ok (.if_icmp .ne 30, 3) := by decide +kernel
theorem dX11_readCity_119 : decode cX11_readCity 119 = .ok (.aload_n 0, 1) := by decide +kernel
theorem dX11_readCity_120 : decode cX11_readCity 120 = .ok (.invokevirtual 154, 3) := by decide +kernel
theorem dX11_readCity_123 : decode cX11_readCity 123 = .ok (.iconst (-1), 1) := by decide +kernel
theorem dX11_readCity_124 : decode cX11_readCity 124 = .ok (.if_icmp .ne 17, 3) := by decide +kernel
theorem dX11_readCity_127 : decode cX11_readCity 127 = .ok (.aload_n 0, 1) := by decide +kernel
theorem dX11_readCity_128 : decode cX11_readCity 128 = .ok (.getfield 261, 3) := by decide +kernel
theorem dX11_readCity_131 : decode cX11_readCity 131 = .ok (.ifCond .eq 10, 3) := by decide +kernel
theorem dX11_readCity_134 : decode cX11_readCity 134 = .ok (.aload_n 0, 1) := by decide +kernel
theorem dX11_readCity_135 : decode cX11_readCity 135 = .ok (.getfield 264, 3) := by decide +kernel
theorem dX11_readCity_138 : decode cX11_readCity 138 = .ok (.ifCond .ne 8, 3) := by decide +kernel
theorem dX11_readCity_141 : decode cX11_readCity 141 = .ok (.aload_n 0, 1) := by decide +kernel
theorem dX11_readCity_142 : decode cX11_readCity 142 = .ok (.invokevirtual 150, 3) := by decide +kernel
theorem dX11_readCity_145 : decode cX11_readCity 145 = .ok (.pop, 1) := by decide +kernel
theorem dX11_readCity_146 : decode cX11_readCity 146 = .ok (.return_, 1) := by decide +kernel
def f_Model_readCity_L30  (a : Mem × Int32) : Option ((Mem × Int32) ⊕ (Mem)) :=
  @Prod.casesOn (Mem) (Int32) (fun _ => Option ((Mem × Int32) ⊕ (Mem))) a fun τ z1 =>
  if (4 : Int32) ≤ z1 then
    some (.inr τ)
  else
    (f_Model_usual τ (115 : Int32) z1).bind fun q3 =>
    if inb z1 4 then
      some (.inl ((sI τ 571 z1.toNatClampNeg q3), (z1 + (1 : Int32))))
    else none
def f_Model_readCity_L55  (a : Mem × Int32) : Option ((Mem × Int32) ⊕ (Mem)) :=
  @Prod.casesOn (Mem) (Int32) (fun _ => Option ((Mem × Int32) ⊕ (Mem))) a fun τ z1 =>
  if z1 = (0 : Int32) then
    some (.inr τ)
  else
    if (mI τ 565 11) = (-1 : Int32) then
      (f_Model_readClause τ).bind fun q8 =>
      if (mI q8 565 11) = (-1 : Int32) then
        (f_Model_look q8).bind fun q11 =>
        if q11.1 = (59 : Int32) then
          if (1 : Int32) = (0 : Int32) then
            some (.inl (q11.2, (1 : Int32)))
          else
            some (.inl ((sI q11.2 565 10 ((mI q11.2 565 10) + (1 : Int32))), (1 : Int32)))
        else
          if (0 : Int32) = (0 : Int32) then
            some (.inl (q11.2, (0 : Int32)))
          else
            some (.inl ((sI q11.2 565 10 ((mI q11.2 565 10) + (1 : Int32))), (0 : Int32)))
      else
        if (0 : Int32) = (0 : Int32) then
          some (.inl (q8, (0 : Int32)))
        else
          some (.inl ((sI q8 565 10 ((mI q8 565 10) + (1 : Int32))), (0 : Int32)))
    else
      some (.inr τ)
def f_Model_readCity_J111 (σ : Mem)  : Option (Mem) :=
  if (mI σ 565 11) = (-1 : Int32) then
    (f_Model_look σ).bind fun q17 =>
    if q17.1 = (-1 : Int32) then
      if (mI q17.2 565 28) = (0 : Int32) then
        (f_Model_fails q17.2).bind fun q21 =>
        some q21.2
      else
        if (mI q17.2 565 29) = (0 : Int32) then
          (f_Model_fails q17.2).bind fun q23 =>
          some q23.2
        else
          some q17.2
    else
      (f_Model_fails q17.2).bind fun q19 =>
      some q19.2
  else
    some σ
def f_Model_readCity (σ : Mem)  : Option (Mem) :=
  (f_Model_starts σ 566 (0 : Int32) (mI σ 565 6)).bind fun q1 =>
  (loopF (f_Model_readCity_L30 ) FU ((sI (sI (sI q1 565 28 (0 : Int32)) 565 29 (0 : Int32)) 565 31 (0 : Int32)), (0 : Int32))).bind fun w5 =>
  (loopF (f_Model_readCity_L55 ) FU (w5, (1 : Int32))).bind fun w15 =>
  f_Model_readCity_J111 w15 
set_option maxHeartbeats 4000000 in
set_option maxRecDepth 20000 in
theorem gs_Model_readCity_L30 (X : Cx θ p s m args c cX11_readCity 2 RX11) (hr : meth.sig.returnType = none) (hlk : meth.locks = false)   {r : Mem}  (τ : Mem) (z1 : Int32) (x : (Mem × Int32) ⊕ (Mem)) (h : f_Model_readCity_L30  (τ, z1) = some x) (hk : Sum.elim (fun a => @Prod.casesOn (Mem) (Int32) (fun _ => Prop) a fun τ z1 => GB θ p l e 7 s m args below meth c 2 (none, r) 30 [(0, .ref (be θ + 565)), (1, .int z1)] [] τ) (fun w => GB θ p l e 7 s m args below meth c 2 (none, r) 53 [(0, .ref (be θ + 565))] [] w) x) : GB θ p l e 7 s m args below meth c 2 (none, r) 30 [(0, .ref (be θ + 565)), (1, .int z1)] [] τ := by
  unfold f_Model_readCity_L30 at h
  dsimp only at h
  refine g_iload_n X dX11_readCity_30 rfl 1 rfl ?_
  refine g_iconst X dX11_readCity_31 (v := (4 : Int32)) ic_4 ?_
  refine g_icmp_ge (tgt := 53) X dX11_readCity_32 (by decide) (fun c2 => ?_) (fun c2 => ?_)
  · replace h := (if_pos c2).symm.trans h
    have hk := inr_hk h hk
    exact g_sub (lv' := [(0, .ref (be θ + 565))]) [0] rfl hk
  · replace h := (if_neg c2).symm.trans h
    refine g_aload_n X dX11_readCity_35 rfl 0 rfl ?_
    refine g_get X fl_RX11_40 dX11_readCity_36 kd_565 (v := .ref (be θ + 571)) rfl ?_
    refine g_iload_n X dX11_readCity_39 rfl 1 rfl ?_
    refine g_bipush X dX11_readCity_40 (v := (115 : Int32)) bp_115 ?_
    refine g_iload_n X dX11_readCity_42 rfl 1 rfl ?_
    obtain ⟨q3, hq3, h⟩ := Option.bind_eq_some_iff.mp h
    refine g_cS X (c_Model_usual  hq3) lk_RX11_237 my_X11_usual (As := [.int (115 : Int32), .int z1]) (rest := [.int z1, .ref (be θ + 571)]) rfl rfl (Nat.le_of_ble_eq_true rfl) ⟨(Nat.le_of_ble_eq_true rfl), (Nat.le_of_ble_eq_true rfl)⟩ ⟨(Nat.le_of_ble_eq_true rfl), (Nat.le_of_ble_eq_true rfl)⟩ dX11_readCity_43 (st' := [.int q3, .int z1, .ref (be θ + 571)]) (σ' := τ) rfl rfl ?_
    obtain ⟨g4, h⟩ := ite_some h
    refine g_iast X kd_571 ln_571 (inb_in g4) dX11_readCity_46 ?_
    refine g_iinc X dX11_readCity_47 (kq := 1) rfl (congrArg (HAdd.hAdd _) ic_1) (by decide) (lv' := [(1, .int (z1 + (1 : Int32))), (0, .ref (be θ + 565))]) rfl ?_
    refine g_goto (tgt := 30) X dX11_readCity_50 (by decide) ?_
    have hk := inl_hk h hk
    exact g_sub (lv' := [(0, .ref (be θ + 565)), (1, .int (z1 + (1 : Int32)))]) [1, 0] rfl hk
set_option maxHeartbeats 4000000 in
set_option maxRecDepth 20000 in
theorem gl_Model_readCity_L30 (X : Cx θ p s m args c cX11_readCity 2 RX11) (hr : meth.sig.returnType = none) (hlk : meth.locks = false)   {r : Mem}  (n : Nat) (a : Mem × Int32) (b : Mem) (h : loopF (f_Model_readCity_L30 ) n a = some b) (hk : (fun w => GB θ p l e 7 s m args below meth c 2 (none, r) 53 [(0, .ref (be θ + 565))] [] w) b) : (fun a => @Prod.casesOn (Mem) (Int32) (fun _ => Prop) a fun τ z1 => GB θ p l e 7 s m args below meth c 2 (none, r) 30 [(0, .ref (be θ + 565)), (1, .int z1)] [] τ) a :=
  loopF_by (P := (fun a => @Prod.casesOn (Mem) (Int32) (fun _ => Prop) a fun τ z1 => GB θ p l e 7 s m args below meth c 2 (none, r) 30 [(0, .ref (be θ + 565)), (1, .int z1)] [] τ)) (K := (fun w => GB θ p l e 7 s m args below meth c 2 (none, r) 53 [(0, .ref (be θ + 565))] [] w)) (fun a x h hk => by obtain ⟨τ, z1⟩ := a; exact gs_Model_readCity_L30 X hr hlk   τ z1 x h hk) n a b h hk
set_option maxHeartbeats 4000000 in
set_option maxRecDepth 20000 in
theorem gs_Model_readCity_L55 (X : Cx θ p s m args c cX11_readCity 2 RX11) (hr : meth.sig.returnType = none) (hlk : meth.locks = false)   {r : Mem}  (τ : Mem) (z1 : Int32) (x : (Mem × Int32) ⊕ (Mem)) (h : f_Model_readCity_L55  (τ, z1) = some x) (hk : Sum.elim (fun a => @Prod.casesOn (Mem) (Int32) (fun _ => Prop) a fun τ z1 => GB θ p l e 7 s m args below meth c 2 (none, r) 55 [(0, .ref (be θ + 565)), (1, .int z1)] [] τ) (fun w => GB θ p l e 7 s m args below meth c 2 (none, r) 111 [(0, .ref (be θ + 565))] [] w) x) : GB θ p l e 7 s m args below meth c 2 (none, r) 55 [(0, .ref (be θ + 565)), (1, .int z1)] [] τ := by
  unfold f_Model_readCity_L55 at h
  dsimp only at h
  refine g_iload_n X dX11_readCity_55 rfl 1 rfl ?_
  refine g_if_eq (tgt := 111) X dX11_readCity_56 (by decide) (fun c6 => ?_) (fun c6 => ?_)
  · replace h := (if_pos c6).symm.trans h
    have hk := inr_hk h hk
    exact g_sub (lv' := [(0, .ref (be θ + 565))]) [0] rfl hk
  · replace h := (if_neg c6).symm.trans h
    refine g_aload_n X dX11_readCity_59 rfl 0 rfl ?_
    refine g_get X fl_RX11_144 dX11_readCity_60 kd_565 (v := .int (mI τ 565 11)) rfl ?_
    refine g_iconst X dX11_readCity_63 (v := (-1 : Int32)) ic_m1 ?_
    refine g_icmp_ne (tgt := 111) X dX11_readCity_64 (by decide) (fun c7 => ?_) (fun c7 => ?_)
    · replace h := (if_neg c7).symm.trans h
      have hk := inr_hk h hk
      exact g_sub (lv' := [(0, .ref (be θ + 565))]) [0] rfl hk
    · replace h := (if_pos c7).symm.trans h
      refine g_aload_n X dX11_readCity_67 rfl 0 rfl ?_
      obtain ⟨q8, hq8, h⟩ := Option.bind_eq_some_iff.mp h
      refine g_cV X (c_Model_readClause  hq8) lk_RX11_277 my_X11_readClause (a := 565) (ci := 11) kd_565 (by decide) rfl (As := []) (rest := []) rfl rfl (Nat.le_of_ble_eq_true rfl) ⟨(Nat.le_of_ble_eq_true rfl), (Nat.le_of_ble_eq_true rfl)⟩ ⟨(Nat.le_of_ble_eq_true rfl), (Nat.le_of_ble_eq_true rfl)⟩ dX11_readCity_68 (st' := []) (σ' := q8) rfl rfl ?_
      refine g_aload_n X dX11_readCity_71 rfl 0 rfl ?_
      refine g_get X fl_RX11_144 dX11_readCity_72 kd_565 (v := .int (mI q8 565 11)) rfl ?_
      refine g_iconst X dX11_readCity_75 (v := (-1 : Int32)) ic_m1 ?_
      refine g_icmp_ne (tgt := 92) X dX11_readCity_76 (by decide) (fun c9 => ?_) (fun c9 => ?_)
      · replace h := (if_neg c9).symm.trans h
        refine g_iconst X dX11_readCity_92 (v := (0 : Int32)) ic_0 ?_
        refine g_istore_n X dX11_readCity_93 rfl (by decide) (lv' := [(1, .int (0 : Int32)), (0, .ref (be θ + 565))]) rfl ?_
        refine g_iload_n X dX11_readCity_94 rfl 0 rfl ?_
        refine g_if_eq (tgt := 55) X dX11_readCity_95 (by decide) (fun c10 => ?_) (fun c10 => ?_)
        · replace h := (if_pos c10).symm.trans h
          have hk := inl_hk h hk
          exact g_sub (lv' := [(0, .ref (be θ + 565)), (1, .int (0 : Int32))]) [1, 0] rfl hk
        · replace h := (if_neg c10).symm.trans h
          refine g_aload_n X dX11_readCity_98 rfl 1 rfl ?_
          refine g_dup X dX11_readCity_99 rfl ?_
          refine g_get X fl_RX11_135 dX11_readCity_100 kd_565 (v := .int (mI q8 565 10)) rfl ?_
          refine g_iconst X dX11_readCity_103 (v := (1 : Int32)) ic_1 ?_
          refine g_iadd X dX11_readCity_104 ?_
          refine g_putI X fl_RX11_135 dX11_readCity_105 kd_565 rfl rfl rfl ?_
          refine g_goto (tgt := 55) X dX11_readCity_108 (by decide) ?_
          have hk := inl_hk h hk
          exact g_sub (lv' := [(0, .ref (be θ + 565)), (1, .int (0 : Int32))]) [1, 0] rfl hk
      · replace h := (if_pos c9).symm.trans h
        refine g_aload_n X dX11_readCity_79 rfl 0 rfl ?_
        obtain ⟨q11, hq11, h⟩ := Option.bind_eq_some_iff.mp h
        refine g_cV X (c_Model_look  hq11) lk_RX11_154 my_X11_look (a := 565) (ci := 11) kd_565 (by decide) rfl (As := []) (rest := []) rfl rfl (Nat.le_of_ble_eq_true rfl) ⟨(Nat.le_of_ble_eq_true rfl), (Nat.le_of_ble_eq_true rfl)⟩ ⟨(Nat.le_of_ble_eq_true rfl), (Nat.le_of_ble_eq_true rfl)⟩ dX11_readCity_80 (st' := [.int q11.1]) (σ' := q11.2) rfl rfl ?_
        refine g_bipush X dX11_readCity_83 (v := (59 : Int32)) bp_59 ?_
        refine g_icmp_ne (tgt := 92) X dX11_readCity_85 (by decide) (fun c12 => ?_) (fun c12 => ?_)
        · replace h := (if_neg c12).symm.trans h
          refine g_iconst X dX11_readCity_92 (v := (0 : Int32)) ic_0 ?_
          refine g_istore_n X dX11_readCity_93 rfl (by decide) (lv' := [(1, .int (0 : Int32)), (0, .ref (be θ + 565))]) rfl ?_
          refine g_iload_n X dX11_readCity_94 rfl 0 rfl ?_
          refine g_if_eq (tgt := 55) X dX11_readCity_95 (by decide) (fun c13 => ?_) (fun c13 => ?_)
          · replace h := (if_pos c13).symm.trans h
            have hk := inl_hk h hk
            exact g_sub (lv' := [(0, .ref (be θ + 565)), (1, .int (0 : Int32))]) [1, 0] rfl hk
          · replace h := (if_neg c13).symm.trans h
            refine g_aload_n X dX11_readCity_98 rfl 1 rfl ?_
            refine g_dup X dX11_readCity_99 rfl ?_
            refine g_get X fl_RX11_135 dX11_readCity_100 kd_565 (v := .int (mI q11.2 565 10)) rfl ?_
            refine g_iconst X dX11_readCity_103 (v := (1 : Int32)) ic_1 ?_
            refine g_iadd X dX11_readCity_104 ?_
            refine g_putI X fl_RX11_135 dX11_readCity_105 kd_565 rfl rfl rfl ?_
            refine g_goto (tgt := 55) X dX11_readCity_108 (by decide) ?_
            have hk := inl_hk h hk
            exact g_sub (lv' := [(0, .ref (be θ + 565)), (1, .int (0 : Int32))]) [1, 0] rfl hk
        · replace h := (if_pos c12).symm.trans h
          refine g_iconst X dX11_readCity_88 (v := (1 : Int32)) ic_1 ?_
          refine g_goto (tgt := 93) X dX11_readCity_89 (by decide) ?_
          refine g_istore_n X dX11_readCity_93 rfl (by decide) (lv' := [(1, .int (1 : Int32)), (0, .ref (be θ + 565))]) rfl ?_
          refine g_iload_n X dX11_readCity_94 rfl 0 rfl ?_
          refine g_if_eq (tgt := 55) X dX11_readCity_95 (by decide) (fun c14 => ?_) (fun c14 => ?_)
          · replace h := (if_pos c14).symm.trans h
            have hk := inl_hk h hk
            exact g_sub (lv' := [(0, .ref (be θ + 565)), (1, .int (1 : Int32))]) [1, 0] rfl hk
          · replace h := (if_neg c14).symm.trans h
            refine g_aload_n X dX11_readCity_98 rfl 1 rfl ?_
            refine g_dup X dX11_readCity_99 rfl ?_
            refine g_get X fl_RX11_135 dX11_readCity_100 kd_565 (v := .int (mI q11.2 565 10)) rfl ?_
            refine g_iconst X dX11_readCity_103 (v := (1 : Int32)) ic_1 ?_
            refine g_iadd X dX11_readCity_104 ?_
            refine g_putI X fl_RX11_135 dX11_readCity_105 kd_565 rfl rfl rfl ?_
            refine g_goto (tgt := 55) X dX11_readCity_108 (by decide) ?_
            have hk := inl_hk h hk
            exact g_sub (lv' := [(0, .ref (be θ + 565)), (1, .int (1 : Int32))]) [1, 0] rfl hk
set_option maxHeartbeats 4000000 in
set_option maxRecDepth 20000 in
theorem gl_Model_readCity_L55 (X : Cx θ p s m args c cX11_readCity 2 RX11) (hr : meth.sig.returnType = none) (hlk : meth.locks = false)   {r : Mem}  (n : Nat) (a : Mem × Int32) (b : Mem) (h : loopF (f_Model_readCity_L55 ) n a = some b) (hk : (fun w => GB θ p l e 7 s m args below meth c 2 (none, r) 111 [(0, .ref (be θ + 565))] [] w) b) : (fun a => @Prod.casesOn (Mem) (Int32) (fun _ => Prop) a fun τ z1 => GB θ p l e 7 s m args below meth c 2 (none, r) 55 [(0, .ref (be θ + 565)), (1, .int z1)] [] τ) a :=
  loopF_by (P := (fun a => @Prod.casesOn (Mem) (Int32) (fun _ => Prop) a fun τ z1 => GB θ p l e 7 s m args below meth c 2 (none, r) 55 [(0, .ref (be θ + 565)), (1, .int z1)] [] τ)) (K := (fun w => GB θ p l e 7 s m args below meth c 2 (none, r) 111 [(0, .ref (be θ + 565))] [] w)) (fun a x h hk => by obtain ⟨τ, z1⟩ := a; exact gs_Model_readCity_L55 X hr hlk   τ z1 x h hk) n a b h hk
set_option maxHeartbeats 4000000 in
set_option maxRecDepth 20000 in
theorem g_Model_readCity_J111 (X : Cx θ p s m args c cX11_readCity 2 RX11) (hr : meth.sig.returnType = none) (hlk : meth.locks = false)  {σ : Mem}  {r : Mem}  (h : f_Model_readCity_J111 σ  = some r) : GB θ p l e 7 s m args below meth c 2 (none, r) 111 [(0, .ref (be θ + 565))] [] σ := by
  unfold f_Model_readCity_J111 at h
  refine g_aload_n X dX11_readCity_111 rfl 0 rfl ?_
  refine g_get X fl_RX11_144 dX11_readCity_112 kd_565 (v := .int (mI σ 565 11)) rfl ?_
  refine g_iconst X dX11_readCity_115 (v := (-1 : Int32)) ic_m1 ?_
  refine g_icmp_ne (tgt := 146) X dX11_readCity_116 (by decide) (fun c16 => ?_) (fun c16 => ?_)
  · replace h := (if_neg c16).symm.trans h
    exact g_vret X hr hlk dX11_readCity_146 (by cases h; rfl)
  · replace h := (if_pos c16).symm.trans h
    refine g_aload_n X dX11_readCity_119 rfl 0 rfl ?_
    obtain ⟨q17, hq17, h⟩ := Option.bind_eq_some_iff.mp h
    refine g_cV X (c_Model_look  hq17) lk_RX11_154 my_X11_look (a := 565) (ci := 11) kd_565 (by decide) rfl (As := []) (rest := []) rfl rfl (Nat.le_of_ble_eq_true rfl) ⟨(Nat.le_of_ble_eq_true rfl), (Nat.le_of_ble_eq_true rfl)⟩ ⟨(Nat.le_of_ble_eq_true rfl), (Nat.le_of_ble_eq_true rfl)⟩ dX11_readCity_120 (st' := [.int q17.1]) (σ' := q17.2) rfl rfl ?_
    refine g_iconst X dX11_readCity_123 (v := (-1 : Int32)) ic_m1 ?_
    refine g_icmp_ne (tgt := 141) X dX11_readCity_124 (by decide) (fun c18 => ?_) (fun c18 => ?_)
    · replace h := (if_neg c18).symm.trans h
      refine g_aload_n X dX11_readCity_141 rfl 0 rfl ?_
      obtain ⟨q19, hq19, h⟩ := Option.bind_eq_some_iff.mp h
      refine g_cV X (c_Model_fails  hq19) lk_RX11_150 my_X11_fails (a := 565) (ci := 11) kd_565 (by decide) rfl (As := []) (rest := []) rfl rfl (Nat.le_of_ble_eq_true rfl) ⟨(Nat.le_of_ble_eq_true rfl), (Nat.le_of_ble_eq_true rfl)⟩ ⟨(Nat.le_of_ble_eq_true rfl), (Nat.le_of_ble_eq_true rfl)⟩ dX11_readCity_142 (st' := [.int q19.1]) (σ' := q19.2) rfl rfl ?_
      refine g_pop X dX11_readCity_145 rfl ?_
      exact g_vret X hr hlk dX11_readCity_146 (by cases h; rfl)
    · replace h := (if_pos c18).symm.trans h
      refine g_aload_n X dX11_readCity_127 rfl 0 rfl ?_
      refine g_get X fl_RX11_261 dX11_readCity_128 kd_565 (v := .int (mI q17.2 565 28)) rfl ?_
      refine g_if_eq (tgt := 141) X dX11_readCity_131 (by decide) (fun c20 => ?_) (fun c20 => ?_)
      · replace h := (if_pos c20).symm.trans h
        refine g_aload_n X dX11_readCity_141 rfl 0 rfl ?_
        obtain ⟨q21, hq21, h⟩ := Option.bind_eq_some_iff.mp h
        refine g_cV X (c_Model_fails  hq21) lk_RX11_150 my_X11_fails (a := 565) (ci := 11) kd_565 (by decide) rfl (As := []) (rest := []) rfl rfl (Nat.le_of_ble_eq_true rfl) ⟨(Nat.le_of_ble_eq_true rfl), (Nat.le_of_ble_eq_true rfl)⟩ ⟨(Nat.le_of_ble_eq_true rfl), (Nat.le_of_ble_eq_true rfl)⟩ dX11_readCity_142 (st' := [.int q21.1]) (σ' := q21.2) rfl rfl ?_
        refine g_pop X dX11_readCity_145 rfl ?_
        exact g_vret X hr hlk dX11_readCity_146 (by cases h; rfl)
      · replace h := (if_neg c20).symm.trans h
        refine g_aload_n X dX11_readCity_134 rfl 0 rfl ?_
        refine g_get X fl_RX11_264 dX11_readCity_135 kd_565 (v := .int (mI q17.2 565 29)) rfl ?_
        refine g_if_ne (tgt := 146) X dX11_readCity_138 (by decide) (fun c22 => ?_) (fun c22 => ?_)
        · replace h := (if_neg c22).symm.trans h
          exact g_vret X hr hlk dX11_readCity_146 (by cases h; rfl)
        · replace h := (if_pos c22).symm.trans h
          refine g_aload_n X dX11_readCity_141 rfl 0 rfl ?_
          obtain ⟨q23, hq23, h⟩ := Option.bind_eq_some_iff.mp h
          refine g_cV X (c_Model_fails  hq23) lk_RX11_150 my_X11_fails (a := 565) (ci := 11) kd_565 (by decide) rfl (As := []) (rest := []) rfl rfl (Nat.le_of_ble_eq_true rfl) ⟨(Nat.le_of_ble_eq_true rfl), (Nat.le_of_ble_eq_true rfl)⟩ ⟨(Nat.le_of_ble_eq_true rfl), (Nat.le_of_ble_eq_true rfl)⟩ dX11_readCity_142 (st' := [.int q23.1]) (σ' := q23.2) rfl rfl ?_
          refine g_pop X dX11_readCity_145 rfl ?_
          exact g_vret X hr hlk dX11_readCity_146 (by cases h; rfl)
set_option maxHeartbeats 4000000 in
set_option maxRecDepth 20000 in
theorem g_Model_readCity (X : Cx θ p s m args c cX11_readCity 2 RX11) (hr : meth.sig.returnType = none) (hlk : meth.locks = false)  {σ : Mem}  {r : Mem}  (h : f_Model_readCity σ  = some r) : GB θ p l e 7 s m args below meth c 2 (none, r) 0 [(0, .ref (be θ + 565))] [] σ := by
  unfold f_Model_readCity at h
  refine g_aload_n X dX11_readCity_0 rfl 0 rfl ?_
  refine g_aload_n X dX11_readCity_1 rfl 0 rfl ?_
  refine g_get X fl_RX11_9 dX11_readCity_2 kd_565 (v := .ref (be θ + 566)) rfl ?_
  refine g_iconst X dX11_readCity_5 (v := (0 : Int32)) ic_0 ?_
  refine g_aload_n X dX11_readCity_6 rfl 0 rfl ?_
  refine g_get X fl_RX11_125 dX11_readCity_7 kd_565 (v := .int (mI σ 565 6)) rfl ?_
  obtain ⟨q1, hq1, h⟩ := Option.bind_eq_some_iff.mp h
  refine g_cV X (c_Model_starts kd_566 hq1) lk_RX11_223 my_X11_starts (a := 565) (ci := 11) kd_565 (by decide) rfl (As := [.ref (be θ + 566), .int (0 : Int32), .int (mI σ 565 6)]) (rest := []) rfl rfl (Nat.le_of_ble_eq_true rfl) ⟨(Nat.le_of_ble_eq_true rfl), (Nat.le_of_ble_eq_true rfl)⟩ ⟨(Nat.le_of_ble_eq_true rfl), (Nat.le_of_ble_eq_true rfl)⟩ dX11_readCity_10 (st' := []) (σ' := q1) rfl rfl ?_
  refine g_aload_n X dX11_readCity_13 rfl 0 rfl ?_
  refine g_iconst X dX11_readCity_14 (v := (0 : Int32)) ic_0 ?_
  refine g_putI X fl_RX11_261 dX11_readCity_15 kd_565 rfl rfl rfl ?_
  refine g_aload_n X dX11_readCity_18 rfl 0 rfl ?_
  refine g_iconst X dX11_readCity_19 (v := (0 : Int32)) ic_0 ?_
  refine g_putI X fl_RX11_264 dX11_readCity_20 kd_565 rfl rfl rfl ?_
  refine g_aload_n X dX11_readCity_23 rfl 0 rfl ?_
  refine g_iconst X dX11_readCity_24 (v := (0 : Int32)) ic_0 ?_
  refine g_putZ X fl_RX11_258 dX11_readCity_25 kd_565 rfl rfl rfl bz0 ?_
  refine g_iconst X dX11_readCity_28 (v := (0 : Int32)) ic_0 ?_
  refine g_istore_n X dX11_readCity_29 rfl (by decide) (lv' := [(1, .int (0 : Int32)), (0, .ref (be θ + 565))]) rfl ?_
  obtain ⟨w5, hq5, h⟩ := Option.bind_eq_some_iff.mp h
  refine g_sub (lv' := [(0, .ref (be θ + 565)), (1, .int (0 : Int32))]) [1, 0] rfl (gl_Model_readCity_L30 X hr hlk    FU _ w5 hq5 ?_)
  refine g_iconst X dX11_readCity_53 (v := (1 : Int32)) ic_1 ?_
  refine g_istore_n X dX11_readCity_54 rfl (by decide) (lv' := [(1, .int (1 : Int32)), (0, .ref (be θ + 565))]) rfl ?_
  obtain ⟨w15, hq15, h⟩ := Option.bind_eq_some_iff.mp h
  refine g_sub (lv' := [(0, .ref (be θ + 565)), (1, .int (1 : Int32))]) [1, 0] rfl (gl_Model_readCity_L55 X hr hlk    FU _ w15 hq15 ?_)
  exact g_sub (lv' := [(0, .ref (be θ + 565))]) [0] rfl (g_Model_readCity_J111 X hr hlk    h)
set_option maxHeartbeats 4000000 in
set_option maxRecDepth 20000 in
theorem c_Model_readCity {θ : Th} {l : Launch} {σ : Mem}  {r : Mem}  (h : f_Model_readCity σ  = some r) : Cn θ l yX11_readCity cX11_readCity 2 (none) 7 0 0 [.ref (be θ + 565)] σ (none, r) :=
  Cn.of (by decide) (Nat.le_of_ble_eq_true rfl) (fun p e s m below meth c X hr hlk => g_Model_readCity X hr hlk  h)
theorem dX11_digit_0 : decode cX11_digit 0 = .ok (.aload_n 0, 1) := by decide +kernel
theorem dX11_digit_1 : decode cX11_digit 1 = .ok (.invokevirtual 154, 3) := by decide +kernel
theorem dX11_digit_4 : decode cX11_digit 4 = .ok (.istore_n 1, 1) := by decide +kernel
theorem dX11_digit_5 : decode cX11_digit 5 = .ok (.aload_n 0, 1) := by decide +kernel
theorem dX11_digit_6 : decode cX11_digit 6 = .ok (.invokevirtual 184, 3) := by decide +kernel
theorem dX11_digit_9 : decode cX11_digit 9 = .ok (.ifCond .ne 10, 3) := by decide +kernel
theorem dX11_digit_12 : decode cX11_digit 12 = .ok (.aload_n 0, 1) := by decide +kernel
theorem dX11_digit_13 : decode cX11_digit 13 = .ok (.invokevirtual 150, 3) := by decide +kernel
theorem dX11_digit_16 : decode cX11_digit 16 = .ok (.pop, 1) := by decide +kernel
theorem dX11_digit_17 : decode cX11_digit 17 = .ok (.iconst 0, 1) := by decide +kernel
theorem dX11_digit_18 : decode cX11_digit 18 = .ok (.ireturn, 1) := by decide +kernel
theorem dX11_digit_19 : decode cX11_digit 19 = .ok (.aload_n 0, 1) := by decide +kernel
theorem dX11_digit_20 : decode cX11_digit 20 = .ok (.dup, 1) := by decide +kernel
theorem dX11_digit_21 : decode cX11_digit 21 = .ok (.getfield 135, 3) := by decide +kernel
theorem dX11_digit_24 : decode cX11_digit 24 = .ok (.iconst 1, 1) := by decide +kernel
theorem dX11_digit_25 : decode cX11_digit 25 = .ok (.iadd, 1) := by decide +kernel
theorem dX11_digit_26 : decode cX11_digit 26 = .ok (.putfield 135, 3) := by decide +kernel
theorem dX11_digit_29 : decode cX11_digit 29 = .ok (.iload_n 1, 1) := by decide +kernel
theorem dX11_digit_30 : decode cX11_digit 30 = .ok (.bipush 48, 2) := by decide +kernel
theorem dX11_digit_32 : decode cX11_digit 32 = .ok (.isub, 1) := by decide +kernel
theorem dX11_digit_33 : decode cX11_digit 33 = .ok (.ireturn, 1) := by decide +kernel
def f_Model_digit (σ : Mem)  : Option (Int32 × Mem) :=
  (f_Model_look σ).bind fun q1 =>
  (f_Model_isDigit q1.2).bind fun q2 =>
  if q2 = (0 : Int32) then
    (f_Model_fails q1.2).bind fun q4 =>
    some ((0 : Int32), q4.2)
  else
    some ((q1.1 - (48 : Int32)), (sI q1.2 565 10 ((mI q1.2 565 10) + (1 : Int32))))
set_option maxHeartbeats 4000000 in
set_option maxRecDepth 20000 in
theorem g_Model_digit (X : Cx θ p s m args c cX11_digit 2 RX11) (hr : meth.sig.returnType = some .int) (hlk : meth.locks = false)  {σ : Mem}  {r : Int32 × Mem}  (h : f_Model_digit σ  = some r) : GB θ p l e 1 s m args below meth c 2 (some (.int r.1), r.2) 0 [(0, .ref (be θ + 565))] [] σ := by
  unfold f_Model_digit at h
  refine g_aload_n X dX11_digit_0 rfl 0 rfl ?_
  obtain ⟨q1, hq1, h⟩ := Option.bind_eq_some_iff.mp h
  refine g_cV X (c_Model_look  hq1) lk_RX11_154 my_X11_look (a := 565) (ci := 11) kd_565 (by decide) rfl (As := []) (rest := []) rfl rfl (Nat.le_of_ble_eq_true rfl) ⟨(Nat.le_of_ble_eq_true rfl), (Nat.le_of_ble_eq_true rfl)⟩ ⟨(Nat.le_of_ble_eq_true rfl), (Nat.le_of_ble_eq_true rfl)⟩ dX11_digit_1 (st' := [.int q1.1]) (σ' := q1.2) rfl rfl ?_
  refine g_istore_n X dX11_digit_4 rfl (by decide) (lv' := [(1, .int q1.1), (0, .ref (be θ + 565))]) rfl ?_
  refine g_aload_n X dX11_digit_5 rfl 1 rfl ?_
  obtain ⟨q2, hq2, h⟩ := Option.bind_eq_some_iff.mp h
  refine g_cV X (c_Model_isDigit  hq2) lk_RX11_184 my_X11_isDigit (a := 565) (ci := 11) kd_565 (by decide) rfl (As := []) (rest := []) rfl rfl (Nat.le_of_ble_eq_true rfl) ⟨(Nat.le_of_ble_eq_true rfl), (Nat.le_of_ble_eq_true rfl)⟩ ⟨(Nat.le_of_ble_eq_true rfl), (Nat.le_of_ble_eq_true rfl)⟩ dX11_digit_6 (st' := [.int q2]) (σ' := q1.2) rfl rfl ?_
  refine g_if_ne (tgt := 19) X dX11_digit_9 (by decide) (fun c3 => ?_) (fun c3 => ?_)
  · replace h := (if_neg c3).symm.trans h
    refine g_aload_n X dX11_digit_19 rfl 1 rfl ?_
    refine g_dup X dX11_digit_20 rfl ?_
    refine g_get X fl_RX11_135 dX11_digit_21 kd_565 (v := .int (mI q1.2 565 10)) rfl ?_
    refine g_iconst X dX11_digit_24 (v := (1 : Int32)) ic_1 ?_
    refine g_iadd X dX11_digit_25 ?_
    refine g_putI X fl_RX11_135 dX11_digit_26 kd_565 rfl rfl rfl ?_
    refine g_iload_n X dX11_digit_29 rfl 0 rfl ?_
    refine g_bipush X dX11_digit_30 (v := (48 : Int32)) bp_48 ?_
    refine g_isub X dX11_digit_32 ?_
    exact g_iret X hr hlk dX11_digit_33 (by cases h; rfl)
  · replace h := (if_pos c3).symm.trans h
    refine g_aload_n X dX11_digit_12 rfl 1 rfl ?_
    obtain ⟨q4, hq4, h⟩ := Option.bind_eq_some_iff.mp h
    refine g_cV X (c_Model_fails  hq4) lk_RX11_150 my_X11_fails (a := 565) (ci := 11) kd_565 (by decide) rfl (As := []) (rest := []) rfl rfl (Nat.le_of_ble_eq_true rfl) ⟨(Nat.le_of_ble_eq_true rfl), (Nat.le_of_ble_eq_true rfl)⟩ ⟨(Nat.le_of_ble_eq_true rfl), (Nat.le_of_ble_eq_true rfl)⟩ dX11_digit_13 (st' := [.int q4.1]) (σ' := q4.2) rfl rfl ?_
    refine g_pop X dX11_digit_16 rfl ?_
    refine g_iconst X dX11_digit_17 (v := (0 : Int32)) ic_0 ?_
    exact g_iret X hr hlk dX11_digit_18 (by cases h; rfl)
set_option maxHeartbeats 4000000 in
set_option maxRecDepth 20000 in
theorem c_Model_digit {θ : Th} {l : Launch} {σ : Mem}  {r : Int32 × Mem}  (h : f_Model_digit σ  = some r) : Cn θ l yX11_digit cX11_digit 2 (some .int) 1 0 0 [.ref (be θ + 565)] σ (some (.int r.1), r.2) :=
  Cn.of (by decide) (Nat.le_of_ble_eq_true rfl) (fun p e s m below meth c X hr hlk => g_Model_digit X hr hlk  h)
theorem dX11_readStep_0 : decode cX11_readStep 0 = .ok (.ldc_w 280, 3) := by decide +kernel
theorem dX11_readStep_3 : decode cX11_readStep 3 = .ok (.aload_n 0, 1) := by decide +kernel
theorem dX11_readStep_4 : decode cX11_readStep 4 = .ok (.invokevirtual 154, 3) := by decide +kernel
theorem dX11_readStep_7 : decode cX11_readStep 7 = .ok (.invokestatic 241, 3) := by decide +kernel
theorem dX11_readStep_10 : decode cX11_readStep 10 = .ok (.istore_n 2, 1) := by decide +kernel
theorem dX11_readStep_11 : decode cX11_readStep 11 = .ok (.iload_n 2, 1) := by decide +kernel
theorem dX11_readStep_12 : decode cX11_readStep 12 = .ok (.iconst (-1), 1) := by decide +kernel
theorem dX11_readStep_13 : decode cX11_readStep 13 = .ok (.if_icmp .ne 9, 3) := by decide +kernel
theorem dX11_readStep_16 : decode cX11_readStep 16 = .ok (.aload_n 0, 1) := by decide +kernel
theorem dX11_readStep_17 : decode cX11_readStep 17 = .ok (.invokevirtual 150, 3) := by decide +kernel
theorem dX11_readStep_20 : decode cX11_readStep 20 = .ok (.pop, 1) := by decide +kernel
theorem dX11_readStep_21 : decode cX11_readStep 21 = .ok (.return_, 1) := by decide +kernel
theorem dX11_readStep_22 : decode cX11_readStep 22 = .ok (.aload_n 0, 1) := by decide +kernel
theorem dX11_readStep_23 : decode cX11_readStep 23 = .ok (.dup, 1) := by decide +kernel
theorem dX11_readStep_24 : decode cX11_readStep 24 = .ok (.getfield 135, 3) := by decide +kernel
theorem dX11_readStep_27 : decode cX11_readStep 27 = .ok (.iconst 1, 1) := by decide +kernel
theorem dX11_readStep_28 : decode cX11_readStep 28 = .ok (.iadd, 1) := by decide +kernel
theorem dX11_readStep_29 : decode cX11_readStep 29 = .ok (.putfield 135, 3) := by decide +kernel
theorem dX11_readStep_32 : decode cX11_readStep 32 = .ok (.aload_n 0, 1) := by decide +kernel
theorem dX11_readStep_33 : decode cX11_readStep 33 = .ok (.getfield 55, 3) := by decide +kernel
theorem dX11_readStep_36 : decode cX11_readStep 36 = .ok (.iload_n 1, 1) := by decide +kernel
theorem dX11_readStep_37 : decode cX11_readStep 37 = .ok (.iload_n 2, 1) := by decide +kernel
theorem dX11_readStep_38 : decode cX11_readStep 38 = .ok (.iastore, 1) := by decide +kernel
theorem dX11_readStep_39 : decode cX11_readStep 39 = .ok (.aload_n 0, 1) := by decide +kernel
theorem dX11_readStep_40 : decode cX11_readStep 40 = .ok (.getfield 55, 3) := by decide +kernel
theorem dX11_readStep_43 : decode cX11_readStep 43 = .ok (.iload_n 1, 1) := by decide +kernel
theorem dX11_readStep_44 : decode cX11_readStep 44 = .ok (.iconst 1, 1) := by decide +kernel
theorem dX11_readStep_45 : decode cX11_readStep 45 = .ok (.iadd, 1) := by decide +kernel
theorem dX11_readStep_46 : decode cX11_readStep 46 = .ok (.iconst (-1), 1) := by decide +kernel
theorem dX11_readStep_47 : decode cX11_readStep 47 = .ok (.iastore, 1) := by decide +kernel
theorem dX11_readStep_48 : decode cX11_readStep 48 = .ok (.aload_n 0, 1) := by decide +kernel
theorem dX11_readStep_49 : decode cX11_readStep 49 = .ok (.getfield 55, 3) := by decide +kernel
theorem dX11_readStep_52 : decode cX11_readStep 52 = .ok (.iload_n 1, 1) := by decide +kernel
theorem dX11_readStep_53 : decode cX11_readStep 53 = .ok (.iconst 2, 1) := by decide +kernel
theorem dX11_readStep_54 : decode cX11_readStep 54 = .ok (.iadd, 1) := by decide +kernel
theorem dX11_readStep_55 : decode cX11_readStep 55 = .ok (.iconst (-1), 1) := by decide +kernel
theorem dX11_readStep_56 : decode cX11_readStep 56 = .ok (.iastore, 1) := by decide +kernel
theorem dX11_readStep_57 : decode cX11_readStep 57 = .ok (.iload_n 2, 1) := by decide +kernel
theorem dX11_readStep_58 : decode cX11_readStep 58 = .ok (.iconst 4, 1) := by decide +kernel
theorem dX11_readStep_59 : decode cX11_readStep 59 = .ok (.if_icmp .ne 4, 3) := by decide +kernel
theorem dX11_readStep_62 : decode cX11_readStep 62 = .ok (.return_, 1) := by decide +kernel
theorem dX11_readStep_63 : decode cX11_readStep 63 = .ok (.aload_n 0, 1) := by decide +kernel
theorem dX11_readStep_64 : decode cX11_readStep 64 = .ok (.getfield 55, 3) := by decide +kernel
theorem dX11_readStep_67 : decode cX11_readStep 67 = .ok (.iload_n 1, 1) := by decide +kernel
theorem dX11_readStep_68 : decode cX11_readStep 68 = .ok (.iconst 1, 1) := by decide +kernel
theorem dX11_readStep_69 : decode cX11_readStep 69 = .ok (.iadd, 1) := by decide +kernel
theorem dX11_readStep_70 : decode cX11_readStep 70 = .ok (.aload_n 0, 1) := by decide +kernel
theorem dX11_readStep_71 : decode cX11_readStep 71 = .ok (.invokevirtual 282, 3) := by decide +kernel
theorem dX11_readStep_74 : decode cX11_readStep 74 = .ok (.iastore, 1) := by decide +kernel
theorem dX11_readStep_75 : decode cX11_readStep 75 = .ok (.aload_n 0, 1) := by decide +kernel
theorem dX11_readStep_76 : decode cX11_readStep 76 = .ok (.getfield 144, 3) := by decide +kernel
theorem dX11_readStep_79 : decode cX11_readStep 79 = .ok (.iconst (-1), 1) := by decide +kernel
theorem dX11_readStep_80 : decode cX11_readStep 80 = .ok (.if_icmp .ne 24, 3) := by decide +kernel
theorem dX11_readStep_83 : decode cX11_readStep 83 = .ok (.iload_n 2, 1) := by decide +kernel
theorem dX11_readStep_84 : decode cX11_readStep 84 = .ok (.ifCond .eq 8, 3) := by decide +kernel
theorem dX11_readStep_87 : decode cX11_readStep 87 = .ok (.iload_n 2, 1) := by decide +kernel
theorem dX11_readStep_88 : decode cX11_readStep 88 = .ok (.iconst 2, 1) := by decide +kernel
theorem dX11_readStep_89 : decode cX11_readStep 89 = .ok (.if_icmp .ne 15, 3) := by decide +kernel
theorem dX11_readStep_92 : decode cX11_readStep 92 = .ok (.aload_n 0, 1) := by decide +kernel
theorem dX11_readStep_93 : decode cX11_readStep 93 = .ok (.getfield 55, 3) := by decide +kernel
theorem dX11_readStep_96 : decode cX11_readStep 96 = .ok (.iload_n 1, 1) := by decide +kernel
theorem dX11_readStep_97 : decode cX11_readStep 97 = .ok (.iconst 2, 1) := by decide +kernel
theorem dX11_readStep_98 : decode cX11_readStep 98 = .ok (.iadd, 1) := by decide +kernel
theorem dX11_readStep_99 : decode cX11_readStep 99 = .ok (.aload_n 0, 1) := by decide +kernel
theorem dX11_readStep_100 : decode cX11_readStep 100 = .ok (.invokevirtual 282, 3) := by decide +kernel
theorem dX11_readStep_103 : decode cX11_readStep 103 = .ok (.iastore, 1) := by decide +kernel
theorem dX11_readStep_104 : decode cX11_readStep 104 = .ok (.return_, 1) := by decide +kernel
def f_Model_readStep_J92 (σ : Mem) (x1 : Int32) : Option (Mem) :=
  (f_Model_digit σ).bind fun q11 =>
  if inb (x1 + (2 : Int32)) 240 then
    some (sI q11.2 576 (x1 + (2 : Int32)).toNatClampNeg q11.1)
  else none
def f_Model_readStep (σ : Mem) (x1 : Int32) : Option (Mem) :=
  (f_Model_look σ).bind fun q1 =>
  (f_Model_spotOf q1.2 5 q1.1).bind fun q2 =>
  if q2 = (-1 : Int32) then
    (f_Model_fails q1.2).bind fun q14 =>
    some q14.2
  else
    if inb x1 240 then
      if inb (x1 + (1 : Int32)) 240 then
        if inb (x1 + (2 : Int32)) 240 then
          if q2 = (4 : Int32) then
            some (sI (sI (sI (sI q1.2 565 10 ((mI q1.2 565 10) + (1 : Int32))) 576 x1.toNatClampNeg q2) 576 (x1 + (1 : Int32)).toNatClampNeg (-1 : Int32)) 576 (x1 + (2 : Int32)).toNatClampNeg (-1 : Int32))
          else
            (f_Model_digit (sI (sI (sI (sI q1.2 565 10 ((mI q1.2 565 10) + (1 : Int32))) 576 x1.toNatClampNeg q2) 576 (x1 + (1 : Int32)).toNatClampNeg (-1 : Int32)) 576 (x1 + (2 : Int32)).toNatClampNeg (-1 : Int32))).bind fun q8 =>
            if (mI (sI q8.2 576 (x1 + (1 : Int32)).toNatClampNeg q8.1) 565 11) = (-1 : Int32) then
              if q2 = (0 : Int32) then
                f_Model_readStep_J92 (sI q8.2 576 (x1 + (1 : Int32)).toNatClampNeg q8.1) x1
              else
                if q2 = (2 : Int32) then
                  f_Model_readStep_J92 (sI q8.2 576 (x1 + (1 : Int32)).toNatClampNeg q8.1) x1
                else
                  some (sI q8.2 576 (x1 + (1 : Int32)).toNatClampNeg q8.1)
            else
              some (sI q8.2 576 (x1 + (1 : Int32)).toNatClampNeg q8.1)
        else none
      else none
    else none
set_option maxHeartbeats 4000000 in
set_option maxRecDepth 20000 in
theorem g_Model_readStep_J92 (X : Cx θ p s m args c cX11_readStep 3 RX11) (hr : meth.sig.returnType = none) (hlk : meth.locks = false)  {σ : Mem} {x1 : Int32} {r : Mem}  (h : f_Model_readStep_J92 σ x1 = some r) : GB θ p l e 5 s m args below meth c 3 (none, r) 92 [(0, .ref (be θ + 565)), (1, .int x1)] [] σ := by
  unfold f_Model_readStep_J92 at h
  refine g_aload_n X dX11_readStep_92 rfl 0 rfl ?_
  refine g_get X fl_RX11_55 dX11_readStep_93 kd_565 (v := .ref (be θ + 576)) rfl ?_
  refine g_iload_n X dX11_readStep_96 rfl 1 rfl ?_
  refine g_iconst X dX11_readStep_97 (v := (2 : Int32)) ic_2 ?_
  refine g_iadd X dX11_readStep_98 ?_
  refine g_aload_n X dX11_readStep_99 rfl 0 rfl ?_
  obtain ⟨q11, hq11, h⟩ := Option.bind_eq_some_iff.mp h
  refine g_cV X (c_Model_digit  hq11) lk_RX11_282 my_X11_digit (a := 565) (ci := 11) kd_565 (by decide) rfl (As := []) (rest := [.int (x1 + (2 : Int32)), .ref (be θ + 576)]) rfl rfl (Nat.le_of_ble_eq_true rfl) ⟨(Nat.le_of_ble_eq_true rfl), (Nat.le_of_ble_eq_true rfl)⟩ ⟨(Nat.le_of_ble_eq_true rfl), (Nat.le_of_ble_eq_true rfl)⟩ dX11_readStep_100 (st' := [.int q11.1, .int (x1 + (2 : Int32)), .ref (be θ + 576)]) (σ' := q11.2) rfl rfl ?_
  obtain ⟨g12, h⟩ := ite_some h
  refine g_iast X kd_576 ln_576 (inb_in g12) dX11_readStep_103 ?_
  exact g_vret X hr hlk dX11_readStep_104 (by cases h; rfl)
set_option maxHeartbeats 4000000 in
set_option maxRecDepth 20000 in
theorem g_Model_readStep (X : Cx θ p s m args c cX11_readStep 3 RX11) (hr : meth.sig.returnType = none) (hlk : meth.locks = false)  {σ : Mem} {x1 : Int32} {r : Mem}  (h : f_Model_readStep σ x1 = some r) : GB θ p l e 5 s m args below meth c 3 (none, r) 0 [(0, .ref (be θ + 565)), (1, .int x1)] [] σ := by
  unfold f_Model_readStep at h
  refine g_ldcwS X X.2.2.1.2.2.1.2.2.2.2.2 dX11_readStep_0 ?_
  refine g_aload_n X dX11_readStep_3 rfl 0 rfl ?_
  obtain ⟨q1, hq1, h⟩ := Option.bind_eq_some_iff.mp h
  refine g_cV X (c_Model_look  hq1) lk_RX11_154 my_X11_look (a := 565) (ci := 11) kd_565 (by decide) rfl (As := []) (rest := [.ref (sA θ 5)]) rfl rfl (Nat.le_of_ble_eq_true rfl) ⟨(Nat.le_of_ble_eq_true rfl), (Nat.le_of_ble_eq_true rfl)⟩ ⟨(Nat.le_of_ble_eq_true rfl), (Nat.le_of_ble_eq_true rfl)⟩ dX11_readStep_4 (st' := [.int q1.1, .ref (sA θ 5)]) (σ' := q1.2) rfl rfl ?_
  obtain ⟨q2, hq2, h⟩ := Option.bind_eq_some_iff.mp h
  refine g_cS X (c_Model_spotOf (by decide) hq2) lk_RX11_241 my_X11_spotOf (As := [.ref (sA θ 5), .int q1.1]) (rest := []) rfl rfl (Nat.le_of_ble_eq_true rfl) ⟨(Nat.le_of_ble_eq_true rfl), (Nat.le_of_ble_eq_true rfl)⟩ ⟨(Nat.le_of_ble_eq_true rfl), (Nat.le_of_ble_eq_true rfl)⟩ dX11_readStep_7 (st' := [.int q2]) (σ' := q1.2) rfl rfl ?_
  refine g_istore_n X dX11_readStep_10 rfl (by decide) (lv' := [(2, .int q2), (0, .ref (be θ + 565)), (1, .int x1)]) rfl ?_
  refine g_iload_n X dX11_readStep_11 rfl 0 rfl ?_
  refine g_iconst X dX11_readStep_12 (v := (-1 : Int32)) ic_m1 ?_
  refine g_icmp_ne (tgt := 22) X dX11_readStep_13 (by decide) (fun c3 => ?_) (fun c3 => ?_)
  · replace h := (if_neg c3).symm.trans h
    refine g_aload_n X dX11_readStep_22 rfl 1 rfl ?_
    refine g_dup X dX11_readStep_23 rfl ?_
    refine g_get X fl_RX11_135 dX11_readStep_24 kd_565 (v := .int (mI q1.2 565 10)) rfl ?_
    refine g_iconst X dX11_readStep_27 (v := (1 : Int32)) ic_1 ?_
    refine g_iadd X dX11_readStep_28 ?_
    refine g_putI X fl_RX11_135 dX11_readStep_29 kd_565 rfl rfl rfl ?_
    refine g_aload_n X dX11_readStep_32 rfl 1 rfl ?_
    refine g_get X fl_RX11_55 dX11_readStep_33 kd_565 (v := .ref (be θ + 576)) rfl ?_
    refine g_iload_n X dX11_readStep_36 rfl 2 rfl ?_
    refine g_iload_n X dX11_readStep_37 rfl 0 rfl ?_
    obtain ⟨g4, h⟩ := ite_some h
    refine g_iast X kd_576 ln_576 (inb_in g4) dX11_readStep_38 ?_
    refine g_aload_n X dX11_readStep_39 rfl 1 rfl ?_
    refine g_get X fl_RX11_55 dX11_readStep_40 kd_565 (v := .ref (be θ + 576)) rfl ?_
    refine g_iload_n X dX11_readStep_43 rfl 2 rfl ?_
    refine g_iconst X dX11_readStep_44 (v := (1 : Int32)) ic_1 ?_
    refine g_iadd X dX11_readStep_45 ?_
    refine g_iconst X dX11_readStep_46 (v := (-1 : Int32)) ic_m1 ?_
    obtain ⟨g5, h⟩ := ite_some h
    refine g_iast X kd_576 ln_576 (inb_in g5) dX11_readStep_47 ?_
    refine g_aload_n X dX11_readStep_48 rfl 1 rfl ?_
    refine g_get X fl_RX11_55 dX11_readStep_49 kd_565 (v := .ref (be θ + 576)) rfl ?_
    refine g_iload_n X dX11_readStep_52 rfl 2 rfl ?_
    refine g_iconst X dX11_readStep_53 (v := (2 : Int32)) ic_2 ?_
    refine g_iadd X dX11_readStep_54 ?_
    refine g_iconst X dX11_readStep_55 (v := (-1 : Int32)) ic_m1 ?_
    obtain ⟨g6, h⟩ := ite_some h
    refine g_iast X kd_576 ln_576 (inb_in g6) dX11_readStep_56 ?_
    refine g_iload_n X dX11_readStep_57 rfl 0 rfl ?_
    refine g_iconst X dX11_readStep_58 (v := (4 : Int32)) ic_4 ?_
    refine g_icmp_ne (tgt := 63) X dX11_readStep_59 (by decide) (fun c7 => ?_) (fun c7 => ?_)
    · replace h := (if_neg c7).symm.trans h
      refine g_aload_n X dX11_readStep_63 rfl 1 rfl ?_
      refine g_get X fl_RX11_55 dX11_readStep_64 kd_565 (v := .ref (be θ + 576)) rfl ?_
      refine g_iload_n X dX11_readStep_67 rfl 2 rfl ?_
      refine g_iconst X dX11_readStep_68 (v := (1 : Int32)) ic_1 ?_
      refine g_iadd X dX11_readStep_69 ?_
      refine g_aload_n X dX11_readStep_70 rfl 1 rfl ?_
      obtain ⟨q8, hq8, h⟩ := Option.bind_eq_some_iff.mp h
      refine g_cV X (c_Model_digit  hq8) lk_RX11_282 my_X11_digit (a := 565) (ci := 11) kd_565 (by decide) rfl (As := []) (rest := [.int (x1 + (1 : Int32)), .ref (be θ + 576)]) rfl rfl (Nat.le_of_ble_eq_true rfl) ⟨(Nat.le_of_ble_eq_true rfl), (Nat.le_of_ble_eq_true rfl)⟩ ⟨(Nat.le_of_ble_eq_true rfl), (Nat.le_of_ble_eq_true rfl)⟩ dX11_readStep_71 (st' := [.int q8.1, .int (x1 + (1 : Int32)), .ref (be θ + 576)]) (σ' := q8.2) rfl rfl ?_
      refine g_iast X kd_576 ln_576 (inb_in g5) dX11_readStep_74 ?_
      refine g_aload_n X dX11_readStep_75 rfl 1 rfl ?_
      refine g_get X fl_RX11_144 dX11_readStep_76 kd_565 (v := .int (mI (sI q8.2 576 (x1 + (1 : Int32)).toNatClampNeg q8.1) 565 11)) rfl ?_
      refine g_iconst X dX11_readStep_79 (v := (-1 : Int32)) ic_m1 ?_
      refine g_icmp_ne (tgt := 104) X dX11_readStep_80 (by decide) (fun c9 => ?_) (fun c9 => ?_)
      · replace h := (if_neg c9).symm.trans h
        exact g_vret X hr hlk dX11_readStep_104 (by cases h; rfl)
      · replace h := (if_pos c9).symm.trans h
        refine g_iload_n X dX11_readStep_83 rfl 0 rfl ?_
        refine g_if_eq (tgt := 92) X dX11_readStep_84 (by decide) (fun c10 => ?_) (fun c10 => ?_)
        · replace h := (if_pos c10).symm.trans h
          exact g_sub (lv' := [(0, .ref (be θ + 565)), (1, .int x1)]) [1, 2] rfl (g_Model_readStep_J92 X hr hlk    h)
        · replace h := (if_neg c10).symm.trans h
          refine g_iload_n X dX11_readStep_87 rfl 0 rfl ?_
          refine g_iconst X dX11_readStep_88 (v := (2 : Int32)) ic_2 ?_
          refine g_icmp_ne (tgt := 104) X dX11_readStep_89 (by decide) (fun c13 => ?_) (fun c13 => ?_)
          · replace h := (if_neg c13).symm.trans h
            exact g_vret X hr hlk dX11_readStep_104 (by cases h; rfl)
          · replace h := (if_pos c13).symm.trans h
            exact g_sub (lv' := [(0, .ref (be θ + 565)), (1, .int x1)]) [1, 2] rfl (g_Model_readStep_J92 X hr hlk    h)
    · replace h := (if_pos c7).symm.trans h
      exact g_vret X hr hlk dX11_readStep_62 (by cases h; rfl)
  · replace h := (if_pos c3).symm.trans h
    refine g_aload_n X dX11_readStep_16 rfl 1 rfl ?_
    obtain ⟨q14, hq14, h⟩ := Option.bind_eq_some_iff.mp h
    refine g_cV X (c_Model_fails  hq14) lk_RX11_150 my_X11_fails (a := 565) (ci := 11) kd_565 (by decide) rfl (As := []) (rest := []) rfl rfl (Nat.le_of_ble_eq_true rfl) ⟨(Nat.le_of_ble_eq_true rfl), (Nat.le_of_ble_eq_true rfl)⟩ ⟨(Nat.le_of_ble_eq_true rfl), (Nat.le_of_ble_eq_true rfl)⟩ dX11_readStep_17 (st' := [.int q14.1]) (σ' := q14.2) rfl rfl ?_
    refine g_pop X dX11_readStep_20 rfl ?_
    exact g_vret X hr hlk dX11_readStep_21 (by cases h; rfl)
set_option maxHeartbeats 4000000 in
set_option maxRecDepth 20000 in
theorem c_Model_readStep {θ : Th} {l : Launch} {σ : Mem} {x1 : Int32} {r : Mem}  (h : f_Model_readStep σ x1 = some r) : Cn θ l yX11_readStep cX11_readStep 3 (none) 5 0 0 [.ref (be θ + 565), .int x1] σ (none, r) :=
  Cn.of (by decide) (Nat.le_of_ble_eq_true rfl) (fun p e s m below meth c X hr hlk => g_Model_readStep X hr hlk  h)
theorem dX11_readPlan_0 : decode cX11_readPlan 0 = .ok (.aload_n 0, 1) := by decide +kernel
theorem dX11_readPlan_1 : decode cX11_readPlan 1 = .ok (.aload_n 0, 1) := by decide +kernel
theorem dX11_readPlan_2 : decode cX11_readPlan 2 = .ok (.getfield 9, 3) := by decide +kernel
theorem dX11_readPlan_5 : decode cX11_readPlan 5 = .ok (.iconst 0, 1) := by decide +kernel
theorem dX11_readPlan_6 : decode cX11_readPlan 6 = .ok (.aload_n 0, 1) := by decide +kernel
theorem dX11_readPlan_7 : decode cX11_readPlan 7 = .ok (.getfield 125, 3) := by decide +kernel
theorem dX11_readPlan_10 : decode cX11_readPlan 10 = .ok (.invokevirtual 223, 3) := by decide +kernel
theorem dX11_readPlan_13 : decode cX11_readPlan 13 = .ok (.iconst 0, 1) := by decide +kernel
theorem dX11_readPlan_14 : decode cX11_readPlan 14 = .ok (.istore_n 1, 1) := by decide +kernel
theorem dX11_readPlan_15 : decode cX11_readPlan 15 = .ok (.iconst 1, 1) := by decide +kernel
theorem dX11_readPlan_16 : decode cX11_readPlan 16 = .ok (.istore_n 2, 1) := by decide +kernel
theorem dX11_readPlan_17 : decode cX11_readPlan 17 = .ok (.iload_n 2, 1) := by decide +kernel
theorem dX11_readPlan_18 : decode cX11_readPlan 18 = .ok (.ifCond .eq 73, 3) := by decide +kernel
theorem dX11_readPlan_21 : decode cX11_readPlan 21 = .ok (.aload_n 0, 1) := by decide +kernel
theorem dX11_readPlan_22 : decode cX11_readPlan 22 = .ok (.iconst 3, 1) := by decide +kernel
theorem dX11_readPlan_23 : decode cX11_readPlan 23 = .ok (.bipush 64, 2) := by decide +kernel
theorem dX11_readPlan_25 : decode cX11_readPlan 25 = .ok (.iload_n 1, 1) := by decide +kernel
theorem dX11_readPlan_26 : decode cX11_readPlan 26 = .ok (.iadd, 1) := by decide +kernel
theorem dX11_readPlan_27 : decode cX11_readPlan 27 = .ok (.imul, 1) := by decide +kernel
theorem dX11_readPlan_28 : decode cX11_readPlan 28 = .ok (.invokevirtual 285, 3) := by decide +kernel
theorem dX11_readPlan_31 : decode cX11_readPlan 31 = .ok (.aload_n 0, 1) := by decide +kernel
theorem dX11_readPlan_32 : decode cX11_readPlan 32 = .ok (.getfield 144, 3) := by decide +kernel
theorem dX11_readPlan_35 : decode cX11_readPlan 35 = .ok (.iconst (-1), 1) := by decide +kernel
theorem dX11_readPlan_36 : decode cX11_readPlan 36 = .ok (.if_icmp .eq 4, 3) := by decide +kernel
theorem dX11_readPlan_39 : decode cX11_readPlan 39 = .ok (.return_, 1) := by decide +kernel
theorem dX11_readPlan_40 : decode cX11_readPlan 40 = .ok (.iinc 1 1, 3) := by decide +kernel
theorem dX11_readPlan_43 : decode cX11_readPlan 43 = .ok (.aload_n 0, 1) := by decide +kernel
theorem dX11_readPlan_44 : decode cX11_readPlan 44 = .ok (.invokevirtual 154, 3) := by decide +kernel
theorem dX11_readPlan_47 : decode cX11_readPlan 47 = .ok (.bipush 59, 2) := by decide +kernel
theorem dX11_readPlan_49 : decode cX11_readPlan 49 = .ok (.if_icmp .ne 7, 3) := by decide +kernel
theorem dX11_readPlan_52 : decode cX11_readPlan 52 = .ok (.iconst 1, 1) := by decide +kernel
theorem dX11_readPlan_53 : decode cX11_readPlan 53 = .ok (.goto 4, 3) := by decide +kernel
theorem dX11_readPlan_56 : decode cX11_readPlan 56 = .ok (.iconst 0, 1) := by decide +kernel
theorem dX11_readPlan_57 : decode cX11_readPlan 57 = .ok (.istore_n 2, 1) := by decide +kernel
theorem dX11_readPlan_58 : decode cX11_readPlan 58 = .ok (.iload_n 2, 1) := by decide +kernel
theorem dX11_readPlan_59 : decode cX11_readPlan 59 = .ok (.ifCond .eq 15, 3) := by decide +kernel
theorem dX11_readPlan_62 : decode cX11_readPlan 62 = .ok (.iload_n 1, 1) := by decide +kernel
theorem dX11_readPlan_63 : decode cX11_readPlan 63 = .ok (.bipush 16, 2) := by decide +kernel
theorem dX11_readPlan_65 : decode cX11_readPlan 65 = .ok (.if_icmp .ne 9, 3) := by decide +kernel
theorem dX11_readPlan_68 : decode cX11_readPlan 68 = .ok (.aload_n 0, 1) := by decide +kernel
theorem dX11_readPlan_69 : decode cX11_readPlan 69 = .ok (.invokevirtual 150, 3) := by decide +kernel
theorem dX11_readPlan_72 : decode cX11_readPlan 72 = .ok (.pop, 1) := by decide +kernel
theorem dX11_readPlan_73 : decode cX11_readPlan 73 = .ok (.return_, 1) := by decide +kernel
theorem dX11_readPlan_74 : decode cX11_readPlan 74 = .ok (.iload_n 2, 1) := by decide +kernel
theorem dX11_readPlan_75 : decode cX11_readPlan 75 = .ok (.ifCond .eq (-58), 3) := by decide +kernel
theorem dX11_readPlan_78 : decode cX11_readPlan 78 = .ok (.aload_n 0, 1) := by decide +kernel
theorem dX11_readPlan_79 : decode cX11_readPlan 79 = .ok (.dup, 1) := by decide +kernel
theorem dX11_readPlan_80 : decode cX11_readPlan 80 = .ok (.getfield 135, 3) := by decide +kernel
theorem dX11_readPlan_83 : decode cX11_readPlan 83 = .ok (.iconst 1, 1) := by decide +kernel
theorem dX11_readPlan_84 : decode cX11_readPlan 84 = .ok (.iadd, 1) := by decide +kernel
theorem dX11_readPlan_85 : decode cX11_readPlan 85 = .ok (.putfield 135, 3) := by decide +kernel
theorem dX11_readPlan_88 : decode cX11_readPlan 88 = .ok (.goto (-71), 3) := by decide +kernel
theorem dX11_readPlan_91 : decode cX11_readPlan 91 = .ok (.aload_n 0, 1) := by decide +kernel
theorem dX11_readPlan_92 : decode cX11_readPlan 92 = .ok (.getfield 58, 3) := by decide +kernel
theorem dX11_readPlan_95 : decode cX11_readPlan 95 = .ok (.iconst 4, 1) := by decide +kernel
theorem dX11_readPlan_96 : decode cX11_readPlan 96 = .ok (.iload_n 1, 1) := by decide +kernel
theorem dX11_readPlan_97 : decode cX11_readPlan 97 = .ok (.iastore, 1) := by decide +kernel
theorem dX11_readPlan_98 : decode cX11_readPlan 98 = .ok (.aload_n 0, 1) := by decide +kernel
theorem dX11_readPlan_99 : decode cX11_readPlan 99 = .ok (.invokevirtual 154, 3) := by decide +kernel
theorem dX11_readPlan_102 : decode cX11_readPlan 102 = .ok (.iconst (-1), 1) := by decide +kernel
theorem dX11_readPlan_103 : decode cX11_readPlan 103 = .ok (.if_icmp .eq 8, 3) := by decide +kernel
theorem dX11_readPlan_106 : decode cX11_readPlan 106 = .ok (.aload_n 0, 1) := by decide +kernel
theorem dX11_readPlan_107 : decode cX11_readPlan 107 = .ok (.invokevirtual 150, 3) := by decide +kernel
theorem dX11_readPlan_110 : decode cX11_readPlan 110 = .ok (.pop, 1) := by decide +kernel
theorem dX11_readPlan_111 : decode cX11_readPlan 111 = .ok (.return_, 1) := by decide +kernel
def f_Model_readPlan_L17  (a : Mem × Int32 × Int32) : Option ((Mem × Int32 × Int32) ⊕ ((Mem × Int32) ⊕ (Mem))) :=
  @Prod.casesOn (Mem) (Int32 × Int32) (fun _ => Option ((Mem × Int32 × Int32) ⊕ ((Mem × Int32) ⊕ (Mem)))) a fun τ b0 =>
  @Prod.casesOn (Int32) (Int32) (fun _ => Option ((Mem × Int32 × Int32) ⊕ ((Mem × Int32) ⊕ (Mem)))) b0 fun z1 z2 =>
  if z2 = (0 : Int32) then
    some (.inr (.inl (τ, z1)))
  else
    (f_Model_readStep τ ((3 : Int32) * ((64 : Int32) + z1))).bind fun q3 =>
    if (mI q3 565 11) = (-1 : Int32) then
      (f_Model_look q3).bind fun q5 =>
      if q5.1 = (59 : Int32) then
        if (1 : Int32) = (0 : Int32) then
          if (1 : Int32) = (0 : Int32) then
            some (.inl (q5.2, (z1 + (1 : Int32)), (1 : Int32)))
          else
            some (.inl ((sI q5.2 565 10 ((mI q5.2 565 10) + (1 : Int32))), (z1 + (1 : Int32)), (1 : Int32)))
        else
          if (z1 + (1 : Int32)) = (16 : Int32) then
            (f_Model_fails q5.2).bind fun q16 =>
            some (.inr (.inr q16.2))
          else
            if (1 : Int32) = (0 : Int32) then
              some (.inl (q5.2, (z1 + (1 : Int32)), (1 : Int32)))
            else
              some (.inl ((sI q5.2 565 10 ((mI q5.2 565 10) + (1 : Int32))), (z1 + (1 : Int32)), (1 : Int32)))
      else
        if (0 : Int32) = (0 : Int32) then
          if (0 : Int32) = (0 : Int32) then
            some (.inl (q5.2, (z1 + (1 : Int32)), (0 : Int32)))
          else
            some (.inl ((sI q5.2 565 10 ((mI q5.2 565 10) + (1 : Int32))), (z1 + (1 : Int32)), (0 : Int32)))
        else
          if (z1 + (1 : Int32)) = (16 : Int32) then
            (f_Model_fails q5.2).bind fun q11 =>
            some (.inr (.inr q11.2))
          else
            if (0 : Int32) = (0 : Int32) then
              some (.inl (q5.2, (z1 + (1 : Int32)), (0 : Int32)))
            else
              some (.inl ((sI q5.2 565 10 ((mI q5.2 565 10) + (1 : Int32))), (z1 + (1 : Int32)), (0 : Int32)))
    else
      some (.inr (.inr q3))
def f_Model_readPlan (σ : Mem)  : Option (Mem) :=
  (f_Model_starts σ 566 (0 : Int32) (mI σ 565 6)).bind fun q1 =>
  (loopF (f_Model_readPlan_L17 ) FU (q1, (0 : Int32), (1 : Int32))).bind fun q17 => Sum.elim (fun e17 =>
      @Prod.casesOn (Mem) (Int32) (fun _ => Option (Mem)) e17 fun τ17 w17_1 =>
      (f_Model_look (sI τ17 577 (4 : Int32).toNatClampNeg w17_1)).bind fun q18 =>
      if q18.1 = (-1 : Int32) then
        some q18.2
      else
        (f_Model_fails q18.2).bind fun q20 =>
        some q20.2
      ) (fun t21 => some t21) q17
set_option maxHeartbeats 4000000 in
set_option maxRecDepth 20000 in
theorem gs_Model_readPlan_L17 (X : Cx θ p s m args c cX11_readPlan 3 RX11) (hr : meth.sig.returnType = none) (hlk : meth.locks = false)   {r : Mem}  (τ : Mem) (z1 : Int32) (z2 : Int32) (x : (Mem × Int32 × Int32) ⊕ ((Mem × Int32) ⊕ (Mem))) (h : f_Model_readPlan_L17  (τ, z1, z2) = some x) (hk : Sum.elim (fun a => @Prod.casesOn (Mem) (Int32 × Int32) (fun _ => Prop) a fun τ b0 => @Prod.casesOn (Int32) (Int32) (fun _ => Prop) b0 fun z1 z2 => GB θ p l e 6 s m args below meth c 3 (none, r) 17 [(0, .ref (be θ + 565)), (1, .int z1), (2, .int z2)] [] τ) (Sum.elim (fun ex => @Prod.casesOn (Mem) (Int32) (fun _ => Prop) ex fun τ w_1 => GB θ p l e 6 s m args below meth c 3 (none, r) 91 [(0, .ref (be θ + 565)), (1, .int w_1)] [] τ) (fun rt => rt = r)) x) : GB θ p l e 6 s m args below meth c 3 (none, r) 17 [(0, .ref (be θ + 565)), (1, .int z1), (2, .int z2)] [] τ := by
  unfold f_Model_readPlan_L17 at h
  dsimp only at h
  refine g_iload_n X dX11_readPlan_17 rfl 2 rfl ?_
  refine g_if_eq (tgt := 91) X dX11_readPlan_18 (by decide) (fun c2 => ?_) (fun c2 => ?_)
  · replace h := (if_pos c2).symm.trans h
    have hk := inr_hk h hk
    have hk := inl_el hk
    exact g_sub (lv' := [(0, .ref (be θ + 565)), (1, .int z1)]) [0, 1] rfl hk
  · replace h := (if_neg c2).symm.trans h
    refine g_aload_n X dX11_readPlan_21 rfl 0 rfl ?_
    refine g_iconst X dX11_readPlan_22 (v := (3 : Int32)) ic_3 ?_
    refine g_bipush X dX11_readPlan_23 (v := (64 : Int32)) bp_64 ?_
    refine g_iload_n X dX11_readPlan_25 rfl 1 rfl ?_
    refine g_iadd X dX11_readPlan_26 ?_
    refine g_imul X dX11_readPlan_27 ?_
    obtain ⟨q3, hq3, h⟩ := Option.bind_eq_some_iff.mp h
    refine g_cV X (c_Model_readStep  hq3) lk_RX11_285 my_X11_readStep (a := 565) (ci := 11) kd_565 (by decide) rfl (As := [.int ((3 : Int32) * ((64 : Int32) + z1))]) (rest := []) rfl rfl (Nat.le_of_ble_eq_true rfl) ⟨(Nat.le_of_ble_eq_true rfl), (Nat.le_of_ble_eq_true rfl)⟩ ⟨(Nat.le_of_ble_eq_true rfl), (Nat.le_of_ble_eq_true rfl)⟩ dX11_readPlan_28 (st' := []) (σ' := q3) rfl rfl ?_
    refine g_aload_n X dX11_readPlan_31 rfl 0 rfl ?_
    refine g_get X fl_RX11_144 dX11_readPlan_32 kd_565 (v := .int (mI q3 565 11)) rfl ?_
    refine g_iconst X dX11_readPlan_35 (v := (-1 : Int32)) ic_m1 ?_
    refine g_icmp_eq (tgt := 40) X dX11_readPlan_36 (by decide) (fun c4 => ?_) (fun c4 => ?_)
    · replace h := (if_pos c4).symm.trans h
      refine g_iinc X dX11_readPlan_40 (kq := 1) rfl (congrArg (HAdd.hAdd _) ic_1) (by decide) (lv' := [(1, .int (z1 + (1 : Int32))), (0, .ref (be θ + 565)), (2, .int z2)]) rfl ?_
      refine g_aload_n X dX11_readPlan_43 rfl 1 rfl ?_
      obtain ⟨q5, hq5, h⟩ := Option.bind_eq_some_iff.mp h
      refine g_cV X (c_Model_look  hq5) lk_RX11_154 my_X11_look (a := 565) (ci := 11) kd_565 (by decide) rfl (As := []) (rest := []) rfl rfl (Nat.le_of_ble_eq_true rfl) ⟨(Nat.le_of_ble_eq_true rfl), (Nat.le_of_ble_eq_true rfl)⟩ ⟨(Nat.le_of_ble_eq_true rfl), (Nat.le_of_ble_eq_true rfl)⟩ dX11_readPlan_44 (st' := [.int q5.1]) (σ' := q5.2) rfl rfl ?_
      refine g_bipush X dX11_readPlan_47 (v := (59 : Int32)) bp_59 ?_
      refine g_icmp_ne (tgt := 56) X dX11_readPlan_49 (by decide) (fun c6 => ?_) (fun c6 => ?_)
      · replace h := (if_neg c6).symm.trans h
        refine g_iconst X dX11_readPlan_56 (v := (0 : Int32)) ic_0 ?_
        refine g_istore_n X dX11_readPlan_57 rfl (by decide) (lv' := [(2, .int (0 : Int32)), (1, .int (z1 + (1 : Int32))), (0, .ref (be θ + 565))]) rfl ?_
        refine g_iload_n X dX11_readPlan_58 rfl 0 rfl ?_
        refine g_if_eq (tgt := 74) X dX11_readPlan_59 (by decide) (fun c7 => ?_) (fun c7 => ?_)
        · replace h := (if_pos c7).symm.trans h
          refine g_iload_n X dX11_readPlan_74 rfl 0 rfl ?_
          refine g_if_eq (tgt := 17) X dX11_readPlan_75 (by decide) (fun c8 => ?_) (fun c8 => ?_)
          · replace h := (if_pos c8).symm.trans h
            have hk := inl_hk h hk
            exact g_sub (lv' := [(0, .ref (be θ + 565)), (1, .int (z1 + (1 : Int32))), (2, .int (0 : Int32))]) [2, 1, 0] rfl hk
          · replace h := (if_neg c8).symm.trans h
            refine g_aload_n X dX11_readPlan_78 rfl 2 rfl ?_
            refine g_dup X dX11_readPlan_79 rfl ?_
            refine g_get X fl_RX11_135 dX11_readPlan_80 kd_565 (v := .int (mI q5.2 565 10)) rfl ?_
            refine g_iconst X dX11_readPlan_83 (v := (1 : Int32)) ic_1 ?_
            refine g_iadd X dX11_readPlan_84 ?_
            refine g_putI X fl_RX11_135 dX11_readPlan_85 kd_565 rfl rfl rfl ?_
            refine g_goto (tgt := 17) X dX11_readPlan_88 (by decide) ?_
            have hk := inl_hk h hk
            exact g_sub (lv' := [(0, .ref (be θ + 565)), (1, .int (z1 + (1 : Int32))), (2, .int (0 : Int32))]) [2, 1, 0] rfl hk
        · replace h := (if_neg c7).symm.trans h
          refine g_iload_n X dX11_readPlan_62 rfl 1 rfl ?_
          refine g_bipush X dX11_readPlan_63 (v := (16 : Int32)) bp_16 ?_
          refine g_icmp_ne (tgt := 74) X dX11_readPlan_65 (by decide) (fun c9 => ?_) (fun c9 => ?_)
          · replace h := (if_neg c9).symm.trans h
            refine g_iload_n X dX11_readPlan_74 rfl 0 rfl ?_
            refine g_if_eq (tgt := 17) X dX11_readPlan_75 (by decide) (fun c10 => ?_) (fun c10 => ?_)
            · replace h := (if_pos c10).symm.trans h
              have hk := inl_hk h hk
              exact g_sub (lv' := [(0, .ref (be θ + 565)), (1, .int (z1 + (1 : Int32))), (2, .int (0 : Int32))]) [2, 1, 0] rfl hk
            · replace h := (if_neg c10).symm.trans h
              refine g_aload_n X dX11_readPlan_78 rfl 2 rfl ?_
              refine g_dup X dX11_readPlan_79 rfl ?_
              refine g_get X fl_RX11_135 dX11_readPlan_80 kd_565 (v := .int (mI q5.2 565 10)) rfl ?_
              refine g_iconst X dX11_readPlan_83 (v := (1 : Int32)) ic_1 ?_
              refine g_iadd X dX11_readPlan_84 ?_
              refine g_putI X fl_RX11_135 dX11_readPlan_85 kd_565 rfl rfl rfl ?_
              refine g_goto (tgt := 17) X dX11_readPlan_88 (by decide) ?_
              have hk := inl_hk h hk
              exact g_sub (lv' := [(0, .ref (be θ + 565)), (1, .int (z1 + (1 : Int32))), (2, .int (0 : Int32))]) [2, 1, 0] rfl hk
          · replace h := (if_pos c9).symm.trans h
            refine g_aload_n X dX11_readPlan_68 rfl 2 rfl ?_
            obtain ⟨q11, hq11, h⟩ := Option.bind_eq_some_iff.mp h
            refine g_cV X (c_Model_fails  hq11) lk_RX11_150 my_X11_fails (a := 565) (ci := 11) kd_565 (by decide) rfl (As := []) (rest := []) rfl rfl (Nat.le_of_ble_eq_true rfl) ⟨(Nat.le_of_ble_eq_true rfl), (Nat.le_of_ble_eq_true rfl)⟩ ⟨(Nat.le_of_ble_eq_true rfl), (Nat.le_of_ble_eq_true rfl)⟩ dX11_readPlan_69 (st' := [.int q11.1]) (σ' := q11.2) rfl rfl ?_
            refine g_pop X dX11_readPlan_72 rfl ?_
            have hk := inr_hk h hk
            have hk := inr_el hk
            have hk : q11.2 = r := hk
            subst hk
            exact g_vret X hr hlk dX11_readPlan_73 rfl
      · replace h := (if_pos c6).symm.trans h
        refine g_iconst X dX11_readPlan_52 (v := (1 : Int32)) ic_1 ?_
        refine g_goto (tgt := 57) X dX11_readPlan_53 (by decide) ?_
        refine g_istore_n X dX11_readPlan_57 rfl (by decide) (lv' := [(2, .int (1 : Int32)), (1, .int (z1 + (1 : Int32))), (0, .ref (be θ + 565))]) rfl ?_
        refine g_iload_n X dX11_readPlan_58 rfl 0 rfl ?_
        refine g_if_eq (tgt := 74) X dX11_readPlan_59 (by decide) (fun c12 => ?_) (fun c12 => ?_)
        · replace h := (if_pos c12).symm.trans h
          refine g_iload_n X dX11_readPlan_74 rfl 0 rfl ?_
          refine g_if_eq (tgt := 17) X dX11_readPlan_75 (by decide) (fun c13 => ?_) (fun c13 => ?_)
          · replace h := (if_pos c13).symm.trans h
            have hk := inl_hk h hk
            exact g_sub (lv' := [(0, .ref (be θ + 565)), (1, .int (z1 + (1 : Int32))), (2, .int (1 : Int32))]) [2, 1, 0] rfl hk
          · replace h := (if_neg c13).symm.trans h
            refine g_aload_n X dX11_readPlan_78 rfl 2 rfl ?_
            refine g_dup X dX11_readPlan_79 rfl ?_
            refine g_get X fl_RX11_135 dX11_readPlan_80 kd_565 (v := .int (mI q5.2 565 10)) rfl ?_
            refine g_iconst X dX11_readPlan_83 (v := (1 : Int32)) ic_1 ?_
            refine g_iadd X dX11_readPlan_84 ?_
            refine g_putI X fl_RX11_135 dX11_readPlan_85 kd_565 rfl rfl rfl ?_
            refine g_goto (tgt := 17) X dX11_readPlan_88 (by decide) ?_
            have hk := inl_hk h hk
            exact g_sub (lv' := [(0, .ref (be θ + 565)), (1, .int (z1 + (1 : Int32))), (2, .int (1 : Int32))]) [2, 1, 0] rfl hk
        · replace h := (if_neg c12).symm.trans h
          refine g_iload_n X dX11_readPlan_62 rfl 1 rfl ?_
          refine g_bipush X dX11_readPlan_63 (v := (16 : Int32)) bp_16 ?_
          refine g_icmp_ne (tgt := 74) X dX11_readPlan_65 (by decide) (fun c14 => ?_) (fun c14 => ?_)
          · replace h := (if_neg c14).symm.trans h
            refine g_iload_n X dX11_readPlan_74 rfl 0 rfl ?_
            refine g_if_eq (tgt := 17) X dX11_readPlan_75 (by decide) (fun c15 => ?_) (fun c15 => ?_)
            · replace h := (if_pos c15).symm.trans h
              have hk := inl_hk h hk
              exact g_sub (lv' := [(0, .ref (be θ + 565)), (1, .int (z1 + (1 : Int32))), (2, .int (1 : Int32))]) [2, 1, 0] rfl hk
            · replace h := (if_neg c15).symm.trans h
              refine g_aload_n X dX11_readPlan_78 rfl 2 rfl ?_
              refine g_dup X dX11_readPlan_79 rfl ?_
              refine g_get X fl_RX11_135 dX11_readPlan_80 kd_565 (v := .int (mI q5.2 565 10)) rfl ?_
              refine g_iconst X dX11_readPlan_83 (v := (1 : Int32)) ic_1 ?_
              refine g_iadd X dX11_readPlan_84 ?_
              refine g_putI X fl_RX11_135 dX11_readPlan_85 kd_565 rfl rfl rfl ?_
              refine g_goto (tgt := 17) X dX11_readPlan_88 (by decide) ?_
              have hk := inl_hk h hk
              exact g_sub (lv' := [(0, .ref (be θ + 565)), (1, .int (z1 + (1 : Int32))), (2, .int (1 : Int32))]) [2, 1, 0] rfl hk
          · replace h := (if_pos c14).symm.trans h
            refine g_aload_n X dX11_readPlan_68 rfl 2 rfl ?_
            obtain ⟨q16, hq16, h⟩ := Option.bind_eq_some_iff.mp h
            refine g_cV X (c_Model_fails  hq16) lk_RX11_150 my_X11_fails (a := 565) (ci := 11) kd_565 (by decide) rfl (As := []) (rest := []) rfl rfl (Nat.le_of_ble_eq_true rfl) ⟨(Nat.le_of_ble_eq_true rfl), (Nat.le_of_ble_eq_true rfl)⟩ ⟨(Nat.le_of_ble_eq_true rfl), (Nat.le_of_ble_eq_true rfl)⟩ dX11_readPlan_69 (st' := [.int q16.1]) (σ' := q16.2) rfl rfl ?_
            refine g_pop X dX11_readPlan_72 rfl ?_
            have hk := inr_hk h hk
            have hk := inr_el hk
            have hk : q16.2 = r := hk
            subst hk
            exact g_vret X hr hlk dX11_readPlan_73 rfl
    · replace h := (if_neg c4).symm.trans h
      have hk := inr_hk h hk
      have hk := inr_el hk
      have hk : q3 = r := hk
      subst hk
      exact g_vret X hr hlk dX11_readPlan_39 rfl
set_option maxHeartbeats 4000000 in
set_option maxRecDepth 20000 in
theorem gl_Model_readPlan_L17 (X : Cx θ p s m args c cX11_readPlan 3 RX11) (hr : meth.sig.returnType = none) (hlk : meth.locks = false)   {r : Mem}  (n : Nat) (a : Mem × Int32 × Int32) (b : (Mem × Int32) ⊕ (Mem)) (h : loopF (f_Model_readPlan_L17 ) n a = some b) (hk : (Sum.elim (fun ex => @Prod.casesOn (Mem) (Int32) (fun _ => Prop) ex fun τ w_1 => GB θ p l e 6 s m args below meth c 3 (none, r) 91 [(0, .ref (be θ + 565)), (1, .int w_1)] [] τ) (fun rt => rt = r)) b) : (fun a => @Prod.casesOn (Mem) (Int32 × Int32) (fun _ => Prop) a fun τ b0 => @Prod.casesOn (Int32) (Int32) (fun _ => Prop) b0 fun z1 z2 => GB θ p l e 6 s m args below meth c 3 (none, r) 17 [(0, .ref (be θ + 565)), (1, .int z1), (2, .int z2)] [] τ) a :=
  loopF_by (P := (fun a => @Prod.casesOn (Mem) (Int32 × Int32) (fun _ => Prop) a fun τ b0 => @Prod.casesOn (Int32) (Int32) (fun _ => Prop) b0 fun z1 z2 => GB θ p l e 6 s m args below meth c 3 (none, r) 17 [(0, .ref (be θ + 565)), (1, .int z1), (2, .int z2)] [] τ)) (K := (Sum.elim (fun ex => @Prod.casesOn (Mem) (Int32) (fun _ => Prop) ex fun τ w_1 => GB θ p l e 6 s m args below meth c 3 (none, r) 91 [(0, .ref (be θ + 565)), (1, .int w_1)] [] τ) (fun rt => rt = r))) (fun a x h hk => by obtain ⟨τ, z1, z2⟩ := a; exact gs_Model_readPlan_L17 X hr hlk   τ z1 z2 x h hk) n a b h hk
set_option maxHeartbeats 4000000 in
set_option maxRecDepth 20000 in
theorem g_Model_readPlan (X : Cx θ p s m args c cX11_readPlan 3 RX11) (hr : meth.sig.returnType = none) (hlk : meth.locks = false)  {σ : Mem}  {r : Mem}  (h : f_Model_readPlan σ  = some r) : GB θ p l e 6 s m args below meth c 3 (none, r) 0 [(0, .ref (be θ + 565))] [] σ := by
  unfold f_Model_readPlan at h
  refine g_aload_n X dX11_readPlan_0 rfl 0 rfl ?_
  refine g_aload_n X dX11_readPlan_1 rfl 0 rfl ?_
  refine g_get X fl_RX11_9 dX11_readPlan_2 kd_565 (v := .ref (be θ + 566)) rfl ?_
  refine g_iconst X dX11_readPlan_5 (v := (0 : Int32)) ic_0 ?_
  refine g_aload_n X dX11_readPlan_6 rfl 0 rfl ?_
  refine g_get X fl_RX11_125 dX11_readPlan_7 kd_565 (v := .int (mI σ 565 6)) rfl ?_
  obtain ⟨q1, hq1, h⟩ := Option.bind_eq_some_iff.mp h
  refine g_cV X (c_Model_starts kd_566 hq1) lk_RX11_223 my_X11_starts (a := 565) (ci := 11) kd_565 (by decide) rfl (As := [.ref (be θ + 566), .int (0 : Int32), .int (mI σ 565 6)]) (rest := []) rfl rfl (Nat.le_of_ble_eq_true rfl) ⟨(Nat.le_of_ble_eq_true rfl), (Nat.le_of_ble_eq_true rfl)⟩ ⟨(Nat.le_of_ble_eq_true rfl), (Nat.le_of_ble_eq_true rfl)⟩ dX11_readPlan_10 (st' := []) (σ' := q1) rfl rfl ?_
  refine g_iconst X dX11_readPlan_13 (v := (0 : Int32)) ic_0 ?_
  refine g_istore_n X dX11_readPlan_14 rfl (by decide) (lv' := [(1, .int (0 : Int32)), (0, .ref (be θ + 565))]) rfl ?_
  refine g_iconst X dX11_readPlan_15 (v := (1 : Int32)) ic_1 ?_
  refine g_istore_n X dX11_readPlan_16 rfl (by decide) (lv' := [(2, .int (1 : Int32)), (1, .int (0 : Int32)), (0, .ref (be θ + 565))]) rfl ?_
  obtain ⟨q17, hq17, h⟩ := Option.bind_eq_some_iff.mp h
  refine g_sub (lv' := [(0, .ref (be θ + 565)), (1, .int (0 : Int32)), (2, .int (1 : Int32))]) [2, 1, 0] rfl (gl_Model_readPlan_L17 X hr hlk    FU _ q17 hq17 ?_)
  rcases q17 with e17 | t21
  · simp only [Sum.elim_inl] at h ⊢
    obtain ⟨τ17, w17_1⟩ := e17
    dsimp only at h ⊢
    refine g_aload_n X dX11_readPlan_91 rfl 0 rfl ?_
    refine g_get X fl_RX11_58 dX11_readPlan_92 kd_565 (v := .ref (be θ + 577)) rfl ?_
    refine g_iconst X dX11_readPlan_95 (v := (4 : Int32)) ic_4 ?_
    refine g_iload_n X dX11_readPlan_96 rfl 1 rfl ?_
    refine g_iast X kd_577 ln_577 (inb_in (show inb (4 : Int32) 5 = true by decide)) dX11_readPlan_97 ?_
    refine g_aload_n X dX11_readPlan_98 rfl 0 rfl ?_
    obtain ⟨q18, hq18, h⟩ := Option.bind_eq_some_iff.mp h
    refine g_cV X (c_Model_look  hq18) lk_RX11_154 my_X11_look (a := 565) (ci := 11) kd_565 (by decide) rfl (As := []) (rest := []) rfl rfl (Nat.le_of_ble_eq_true rfl) ⟨(Nat.le_of_ble_eq_true rfl), (Nat.le_of_ble_eq_true rfl)⟩ ⟨(Nat.le_of_ble_eq_true rfl), (Nat.le_of_ble_eq_true rfl)⟩ dX11_readPlan_99 (st' := [.int q18.1]) (σ' := q18.2) rfl rfl ?_
    refine g_iconst X dX11_readPlan_102 (v := (-1 : Int32)) ic_m1 ?_
    refine g_icmp_eq (tgt := 111) X dX11_readPlan_103 (by decide) (fun c19 => ?_) (fun c19 => ?_)
    · replace h := (if_pos c19).symm.trans h
      exact g_vret X hr hlk dX11_readPlan_111 (by cases h; rfl)
    · replace h := (if_neg c19).symm.trans h
      refine g_aload_n X dX11_readPlan_106 rfl 0 rfl ?_
      obtain ⟨q20, hq20, h⟩ := Option.bind_eq_some_iff.mp h
      refine g_cV X (c_Model_fails  hq20) lk_RX11_150 my_X11_fails (a := 565) (ci := 11) kd_565 (by decide) rfl (As := []) (rest := []) rfl rfl (Nat.le_of_ble_eq_true rfl) ⟨(Nat.le_of_ble_eq_true rfl), (Nat.le_of_ble_eq_true rfl)⟩ ⟨(Nat.le_of_ble_eq_true rfl), (Nat.le_of_ble_eq_true rfl)⟩ dX11_readPlan_107 (st' := [.int q20.1]) (σ' := q20.2) rfl rfl ?_
      refine g_pop X dX11_readPlan_110 rfl ?_
      exact g_vret X hr hlk dX11_readPlan_111 (by cases h; rfl)
  · simp only [Sum.elim_inr] at h ⊢
    exact Option.some.inj h
set_option maxHeartbeats 4000000 in
set_option maxRecDepth 20000 in
theorem c_Model_readPlan {θ : Th} {l : Launch} {σ : Mem}  {r : Mem}  (h : f_Model_readPlan σ  = some r) : Cn θ l yX11_readPlan cX11_readPlan 3 (none) 6 0 0 [.ref (be θ + 565)] σ (none, r) :=
  Cn.of (by decide) (Nat.le_of_ble_eq_true rfl) (fun p e s m below meth c X hr hlk => g_Model_readPlan X hr hlk  h)
theorem dX11_fault_0 : decode cX11_fault 0 = .ok (.aload_n 0, 1) := by decide +kernel
theorem dX11_fault_1 : decode cX11_fault 1 = .ok (.iconst 0, 1) := by decide +kernel
theorem dX11_fault_2 : decode cX11_fault 2 = .ok (.putfield 112, 3) := by decide +kernel
theorem dX11_fault_5 : decode cX11_fault 5 = .ok (.iload_n 1, 1) := by decide +kernel
theorem dX11_fault_6 : decode cX11_fault 6 = .ok (.i2l, 1) := by decide +kernel
theorem dX11_fault_7 : decode cX11_fault 7 = .ok (.lconst 0, 1) := by decide +kernel
theorem dX11_fault_8 : decode cX11_fault 8 = .ok (.ldc2_w 288, 3) := by decide +kernel
theorem dX11_fault_11 : decode cX11_fault 11 = .ok (.invokestatic 233, 3) := by decide +kernel
theorem dX11_fault_14 : decode cX11_fault 14 = .ok (.ifCond .ne 6, 3) := by decide +kernel
theorem dX11_fault_17 : decode cX11_fault 17 = .ok (.bipush (-2), 2) := by decide +kernel
theorem dX11_fault_19 : decode cX11_fault 19 = .ok (.ireturn, 1) := by decide +kernel
theorem dX11_fault_20 : decode cX11_fault 20 = .ok (.iload_n 1, 1) := by decide +kernel
theorem dX11_fault_21 : decode cX11_fault 21 = .ok (.ifCond .ne 7, 3) := by decide +kernel
theorem dX11_fault_24 : decode cX11_fault 24 = .ok (.aload_n 0, 1) := by decide +kernel
theorem dX11_fault_25 : decode cX11_fault 25 = .ok (.invokevirtual 290, 3) := by decide +kernel
theorem dX11_fault_28 : decode cX11_fault 28 = .ok (.iload_n 1, 1) := by decide +kernel
theorem dX11_fault_29 : decode cX11_fault 29 = .ok (.iconst 1, 1) := by decide +kernel
theorem dX11_fault_30 : decode cX11_fault 30 = .ok (.if_icmp .ne 16, 3) := by decide +kernel
theorem dX11_fault_33 : decode cX11_fault 33 = .ok (.aload_n 0, 1) := by decide +kernel
theorem dX11_fault_34 : decode cX11_fault 34 = .ok (.aload_n 0, 1) := by decide +kernel
theorem dX11_fault_35 : decode cX11_fault 35 = .ok (.getfield 9, 3) := by decide +kernel
theorem dX11_fault_38 : decode cX11_fault 38 = .ok (.iconst 0, 1) := by decide +kernel
theorem dX11_fault_39 : decode cX11_fault 39 = .ok (.aload_n 0, 1) := by decide +kernel
theorem dX11_fault_40 : decode cX11_fault 40 = .ok (.getfield 125, 3) := by decide +kernel
theorem dX11_fault_43 : decode cX11_fault 43 = .ok (.invokevirtual 293, 3) := by decide +kernel
theorem dX11_fault_46 : decode cX11_fault 46 = .ok (.iload_n 1, 1) := by decide +kernel
theorem dX11_fault_47 : decode cX11_fault 47 = .ok (.iconst 2, 1) := by decide +kernel
theorem dX11_fault_48 : decode cX11_fault 48 = .ok (.if_icmp .ne 7, 3) := by decide +kernel
theorem dX11_fault_51 : decode cX11_fault 51 = .ok (.aload_n 0, 1) := by decide +kernel
theorem dX11_fault_52 : decode cX11_fault 52 = .ok (.invokevirtual 296, 3) := by decide +kernel
theorem dX11_fault_55 : decode cX11_fault 55 = .ok (.aload_n 0, 1) := by decide +kernel
theorem dX11_fault_56 : decode cX11_fault 56 = .ok (.getfield 144, 3) := by decide +kernel
theorem dX11_fault_59 : decode cX11_fault 59 = .ok (.ireturn, 1) := by decide +kernel
def f_Model_fault_J46 (σ : Mem) (x1 : Int32) : Option (Int32 × Mem) :=
  if x1 = (2 : Int32) then
    (f_Model_readPlan σ).bind fun q6 =>
    some ((mI q6 565 11), q6)
  else
    some ((mI σ 565 11), σ)
def f_Model_fault_J28 (σ : Mem) (x1 : Int32) : Option (Int32 × Mem) :=
  if x1 = (1 : Int32) then
    (f_Model_goThrough σ 566 (0 : Int32) (mI σ 565 6)).bind fun q7 =>
    f_Model_fault_J46 q7 x1
  else
    f_Model_fault_J46 σ x1
def f_Model_fault (σ : Mem) (x1 : Int32) : Option (Int32 × Mem) :=
  (f_Model_isIn (sI σ 565 0 (0 : Int32)) ((x1).toInt64) (0 : Int64) (2 : Int64)).bind fun q1 =>
  if q1 = (0 : Int32) then
    some ((-2 : Int32), (sI σ 565 0 (0 : Int32)))
  else
    if x1 = (0 : Int32) then
      (f_Model_readCity (sI σ 565 0 (0 : Int32))).bind fun q8 =>
      f_Model_fault_J28 q8 x1
    else
      f_Model_fault_J28 (sI σ 565 0 (0 : Int32)) x1
set_option maxHeartbeats 4000000 in
set_option maxRecDepth 20000 in
theorem g_Model_fault_J46 (X : Cx θ p s m args c cX11_fault 2 RX11) (hr : meth.sig.returnType = some .int) (hlk : meth.locks = false)  {σ : Mem} {x1 : Int32} {r : Int32 × Mem}  (h : f_Model_fault_J46 σ x1 = some r) : GB θ p l e 62 s m args below meth c 2 (some (.int r.1), r.2) 46 [(0, .ref (be θ + 565)), (1, .int x1)] [] σ := by
  unfold f_Model_fault_J46 at h
  refine g_iload_n X dX11_fault_46 rfl 1 rfl ?_
  refine g_iconst X dX11_fault_47 (v := (2 : Int32)) ic_2 ?_
  refine g_icmp_ne (tgt := 55) X dX11_fault_48 (by decide) (fun c5 => ?_) (fun c5 => ?_)
  · replace h := (if_neg c5).symm.trans h
    refine g_aload_n X dX11_fault_55 rfl 0 rfl ?_
    refine g_get X fl_RX11_144 dX11_fault_56 kd_565 (v := .int (mI σ 565 11)) rfl ?_
    exact g_iret X hr hlk dX11_fault_59 (by cases h; rfl)
  · replace h := (if_pos c5).symm.trans h
    refine g_aload_n X dX11_fault_51 rfl 0 rfl ?_
    obtain ⟨q6, hq6, h⟩ := Option.bind_eq_some_iff.mp h
    refine g_cV X (c_Model_readPlan  hq6) lk_RX11_296 my_X11_readPlan (a := 565) (ci := 11) kd_565 (by decide) rfl (As := []) (rest := []) rfl rfl (Nat.le_of_ble_eq_true rfl) ⟨(Nat.le_of_ble_eq_true rfl), (Nat.le_of_ble_eq_true rfl)⟩ ⟨(Nat.le_of_ble_eq_true rfl), (Nat.le_of_ble_eq_true rfl)⟩ dX11_fault_52 (st' := []) (σ' := q6) rfl rfl ?_
    refine g_aload_n X dX11_fault_55 rfl 0 rfl ?_
    refine g_get X fl_RX11_144 dX11_fault_56 kd_565 (v := .int (mI q6 565 11)) rfl ?_
    exact g_iret X hr hlk dX11_fault_59 (by cases h; rfl)
set_option maxHeartbeats 4000000 in
set_option maxRecDepth 20000 in
theorem g_Model_fault_J28 (X : Cx θ p s m args c cX11_fault 2 RX11) (hr : meth.sig.returnType = some .int) (hlk : meth.locks = false)  {σ : Mem} {x1 : Int32} {r : Int32 × Mem}  (h : f_Model_fault_J28 σ x1 = some r) : GB θ p l e 62 s m args below meth c 2 (some (.int r.1), r.2) 28 [(0, .ref (be θ + 565)), (1, .int x1)] [] σ := by
  unfold f_Model_fault_J28 at h
  refine g_iload_n X dX11_fault_28 rfl 1 rfl ?_
  refine g_iconst X dX11_fault_29 (v := (1 : Int32)) ic_1 ?_
  refine g_icmp_ne (tgt := 46) X dX11_fault_30 (by decide) (fun c4 => ?_) (fun c4 => ?_)
  · replace h := (if_neg c4).symm.trans h
    exact g_sub (lv' := [(0, .ref (be θ + 565)), (1, .int x1)]) [0, 1] rfl (g_Model_fault_J46 X hr hlk    h)
  · replace h := (if_pos c4).symm.trans h
    refine g_aload_n X dX11_fault_33 rfl 0 rfl ?_
    refine g_aload_n X dX11_fault_34 rfl 0 rfl ?_
    refine g_get X fl_RX11_9 dX11_fault_35 kd_565 (v := .ref (be θ + 566)) rfl ?_
    refine g_iconst X dX11_fault_38 (v := (0 : Int32)) ic_0 ?_
    refine g_aload_n X dX11_fault_39 rfl 0 rfl ?_
    refine g_get X fl_RX11_125 dX11_fault_40 kd_565 (v := .int (mI σ 565 6)) rfl ?_
    obtain ⟨q7, hq7, h⟩ := Option.bind_eq_some_iff.mp h
    refine g_cV X (c_Model_goThrough kd_566 hq7) lk_RX11_293 my_X11_goThrough (a := 565) (ci := 11) kd_565 (by decide) rfl (As := [.ref (be θ + 566), .int (0 : Int32), .int (mI σ 565 6)]) (rest := []) rfl rfl (Nat.le_of_ble_eq_true rfl) ⟨(Nat.le_of_ble_eq_true rfl), (Nat.le_of_ble_eq_true rfl)⟩ ⟨(Nat.le_of_ble_eq_true rfl), (Nat.le_of_ble_eq_true rfl)⟩ dX11_fault_43 (st' := []) (σ' := q7) rfl rfl ?_
    exact g_sub (lv' := [(0, .ref (be θ + 565)), (1, .int x1)]) [0, 1] rfl (g_Model_fault_J46 X hr hlk    h)
set_option maxHeartbeats 4000000 in
set_option maxRecDepth 20000 in
theorem g_Model_fault (X : Cx θ p s m args c cX11_fault 2 RX11) (hr : meth.sig.returnType = some .int) (hlk : meth.locks = false)  {σ : Mem} {x1 : Int32} {r : Int32 × Mem}  (h : f_Model_fault σ x1 = some r) : GB θ p l e 62 s m args below meth c 2 (some (.int r.1), r.2) 0 [(0, .ref (be θ + 565)), (1, .int x1)] [] σ := by
  unfold f_Model_fault at h
  refine g_aload_n X dX11_fault_0 rfl 0 rfl ?_
  refine g_iconst X dX11_fault_1 (v := (0 : Int32)) ic_0 ?_
  refine g_putI X fl_RX11_112 dX11_fault_2 kd_565 rfl rfl rfl ?_
  refine g_iload_n X dX11_fault_5 rfl 1 rfl ?_
  refine g_i2l X dX11_fault_6 (v := ((x1).toInt64)) rfl ?_
  refine g_lconst X dX11_fault_7 (v := (0 : Int64)) rfl ?_
  refine g_ldc2 X cst_RX11_288 dX11_fault_8 ?_
  obtain ⟨q1, hq1, h⟩ := Option.bind_eq_some_iff.mp h
  refine g_cS X (c_Model_isIn  hq1) lk_RX11_233 my_X11_isIn (As := [.long ((x1).toInt64), .long (0 : Int64), .long (2 : Int64)]) (rest := []) rfl rfl (Nat.le_of_ble_eq_true rfl) ⟨(Nat.le_of_ble_eq_true rfl), (Nat.le_of_ble_eq_true rfl)⟩ ⟨(Nat.le_of_ble_eq_true rfl), (Nat.le_of_ble_eq_true rfl)⟩ dX11_fault_11 (st' := [.int q1]) (σ' := (sI σ 565 0 (0 : Int32))) rfl rfl ?_
  refine g_if_ne (tgt := 20) X dX11_fault_14 (by decide) (fun c2 => ?_) (fun c2 => ?_)
  · replace h := (if_neg c2).symm.trans h
    refine g_iload_n X dX11_fault_20 rfl 1 rfl ?_
    refine g_if_ne (tgt := 28) X dX11_fault_21 (by decide) (fun c3 => ?_) (fun c3 => ?_)
    · replace h := (if_neg c3).symm.trans h
      exact g_sub (lv' := [(0, .ref (be θ + 565)), (1, .int x1)]) [0, 1] rfl (g_Model_fault_J28 X hr hlk    h)
    · replace h := (if_pos c3).symm.trans h
      refine g_aload_n X dX11_fault_24 rfl 0 rfl ?_
      obtain ⟨q8, hq8, h⟩ := Option.bind_eq_some_iff.mp h
      refine g_cV X (c_Model_readCity  hq8) lk_RX11_290 my_X11_readCity (a := 565) (ci := 11) kd_565 (by decide) rfl (As := []) (rest := []) rfl rfl (Nat.le_of_ble_eq_true rfl) ⟨(Nat.le_of_ble_eq_true rfl), (Nat.le_of_ble_eq_true rfl)⟩ ⟨(Nat.le_of_ble_eq_true rfl), (Nat.le_of_ble_eq_true rfl)⟩ dX11_fault_25 (st' := []) (σ' := q8) rfl rfl ?_
      exact g_sub (lv' := [(0, .ref (be θ + 565)), (1, .int x1)]) [0, 1] rfl (g_Model_fault_J28 X hr hlk    h)
  · replace h := (if_pos c2).symm.trans h
    refine g_bipush X dX11_fault_17 (v := (-2 : Int32)) bp_m2 ?_
    exact g_iret X hr hlk dX11_fault_19 (by cases h; rfl)
set_option maxHeartbeats 4000000 in
set_option maxRecDepth 20000 in
theorem c_Model_fault {θ : Th} {l : Launch} {σ : Mem} {x1 : Int32} {r : Int32 × Mem}  (h : f_Model_fault σ x1 = some r) : Cn θ l yX11_fault cX11_fault 2 (some .int) 62 0 0 [.ref (be θ + 565), .int x1] σ (some (.int r.1), r.2) :=
  Cn.of (by decide) (Nat.le_of_ble_eq_true rfl) (fun p e s m below meth c X hr hlk => g_Model_fault X hr hlk  h)
theorem dX11_lays_0 : decode cX11_lays 0 = .ok (.iconst 0, 1) := by decide +kernel
theorem dX11_lays_1 : decode cX11_lays 1 = .ok (.istore_n 2, 1) := by decide +kernel
theorem dX11_lays_2 : decode cX11_lays 2 = .ok (.iload_n 2, 1) := by decide +kernel
theorem dX11_lays_3 : decode cX11_lays 3 = .ok (.aload_n 1, 1) := by decide +kernel
theorem dX11_lays_4 : decode cX11_lays 4 = .ok (.arraylength, 1) := by decide +kernel
theorem dX11_lays_5 : decode cX11_lays 5 = .ok (.if_icmp .ge 13, 3) := by decide +kernel
theorem dX11_lays_8 : decode cX11_lays 8 = .ok (.aload_n 1, 1) := by decide +kernel
theorem dX11_lays_9 : decode cX11_lays 9 = .ok (.iload_n 2, 1) := by decide +kernel
theorem dX11_lays_10 : decode cX11_lays 10 = .ok (.iconst 0, 1) := by decide +kernel
theorem dX11_lays_11 : decode cX11_lays 11 = .ok (.iastore, 1) := by decide +kernel
theorem dX11_lays_12 : decode cX11_lays 12 = .ok (.iinc 2 1, 3) := by decide +kernel
theorem dX11_lays_15 : decode cX11_lays 15 = .ok (.goto (-13), 3) := by decide +kernel
theorem dX11_lays_18 : decode cX11_lays 18 = .ok (.iconst 0, 1) := by decide +kernel
theorem dX11_lays_19 : decode cX11_lays 19 = .ok (.istore_n 2, 1) := by decide +kernel
theorem dX11_lays_20 : decode cX11_lays 20 = .ok (.iload_n 2, 1) := by decide +kernel
theorem dX11_lays_21 : decode cX11_lays 21 = .ok (.bipush 8, 2) := by decide +kernel
theorem dX11_lays_23 : decode cX11_lays 23 = .ok (.if_icmp .ge 13, 3) := by decide +kernel
theorem dX11_lays_26 : decode cX11_lays 26 = .ok (.aload_n 1, 1) := by decide +kernel
theorem dX11_lays_27 : decode cX11_lays 27 = .ok (.iload_n 2, 1) := by decide +kernel
theorem dX11_lays_28 : decode cX11_lays 28 = .ok (.iconst (-1), 1) := by decide +kernel
theorem dX11_lays_29 : decode cX11_lays 29 = .ok (.iastore, 1) := by decide +kernel
theorem dX11_lays_30 : decode cX11_lays 30 = .ok (.iinc 2 1, 3) := by decide +kernel
theorem dX11_lays_33 : decode cX11_lays 33 = .ok (.goto (-13), 3) := by decide +kernel
theorem dX11_lays_36 : decode cX11_lays 36 = .ok (.iconst 0, 1) := by decide +kernel
theorem dX11_lays_37 : decode cX11_lays 37 = .ok (.istore_n 2, 1) := by decide +kernel
theorem dX11_lays_38 : decode cX11_lays 38 = .ok (.iload_n 2, 1) := by decide +kernel
theorem dX11_lays_39 : decode cX11_lays 39 = .ok (.aload_n 0, 1) := by decide +kernel
theorem dX11_lays_40 : decode cX11_lays 40 = .ok (.getfield 310, 3) := by decide +kernel
theorem dX11_lays_43 : decode cX11_lays 43 = .ok (.if_icmp .ge 23, 3) := by decide +kernel
theorem dX11_lays_46 : decode cX11_lays 46 = .ok (.aload_n 1, 1) := by decide +kernel
theorem dX11_lays_47 : decode cX11_lays 47 = .ok (.bipush 24, 2) := by decide +kernel
theorem dX11_lays_49 : decode cX11_lays 49 = .ok (.iload_n 2, 1) := by decide +kernel
theorem dX11_lays_50 : decode cX11_lays 50 = .ok (.iadd, 1) := by decide +kernel
theorem dX11_lays_51 : decode cX11_lays 51 = .ok (.aload_n 0, 1) := by decide +kernel
theorem dX11_lays_52 : decode cX11_lays 52 = .ok (.getfield 49, 3) := by decide +kernel
theorem dX11_lays_55 : decode cX11_lays 55 = .ok (.iconst 4, 1) := by decide +kernel
theorem dX11_lays_56 : decode cX11_lays 56 = .ok (.iload_n 2, 1) := by decide +kernel
theorem dX11_lays_57 : decode cX11_lays 57 = .ok (.imul, 1) := by decide +kernel
theorem dX11_lays_58 : decode cX11_lays 58 = .ok (.iaload, 1) := by decide +kernel
theorem dX11_lays_59 : decode cX11_lays 59 = .ok (.iastore, 1) := by decide +kernel
theorem dX11_lays_60 : decode cX11_lays 60 = .ok (.iinc 2 1, 3) := by decide +kernel
theorem dX11_lays_63 : decode cX11_lays 63 = .ok (.goto (-25), 3) := by decide +kernel
theorem dX11_lays_66 : decode cX11_lays 66 = .ok (.aload_n 1, 1) := by decide +kernel
theorem dX11_lays_67 : decode cX11_lays 67 = .ok (.bipush 127, 2) := by decide +kernel
theorem dX11_lays_69 : decode cX11_lays 69 = .ok (.aload_n 0, 1) := by decide +kernel
theorem dX11_lays_70 : decode cX11_lays 70 = .ok (.getfield 37, 3) := by decide +kernel
theorem dX11_lays_73 : decode cX11_lays 73 = .ok (.iconst 0, 1) := by decide +kernel
theorem dX11_lays_74 : decode cX11_lays 74 = .ok (.iaload, 1) := by decide +kernel
theorem dX11_lays_75 : decode cX11_lays 75 = .ok (.iastore, 1) := by decide +kernel
theorem dX11_lays_76 : decode cX11_lays 76 = .ok (.return_, 1) := by decide +kernel
def f_Model_lays_L2 (x1 : Nat) (a : Mem × Int32) : Option ((Mem × Int32) ⊕ (Mem)) :=
  @Prod.casesOn (Mem) (Int32) (fun _ => Option ((Mem × Int32) ⊕ (Mem))) a fun τ z2 =>
  if (Int32.ofNat (ln x1)) ≤ z2 then
    some (.inr τ)
  else
    if inb z2 (ln x1) then
      some (.inl ((sI τ x1 z2.toNatClampNeg (0 : Int32)), (z2 + (1 : Int32))))
    else none
def f_Model_lays_L20 (x1 : Nat) (a : Mem × Int32) : Option ((Mem × Int32) ⊕ (Mem)) :=
  @Prod.casesOn (Mem) (Int32) (fun _ => Option ((Mem × Int32) ⊕ (Mem))) a fun τ z2 =>
  if (8 : Int32) ≤ z2 then
    some (.inr τ)
  else
    if inb z2 (ln x1) then
      some (.inl ((sI τ x1 z2.toNatClampNeg (-1 : Int32)), (z2 + (1 : Int32))))
    else none
def f_Model_lays_L38 (x1 : Nat) (a : Mem × Int32) : Option ((Mem × Int32) ⊕ (Mem)) :=
  @Prod.casesOn (Mem) (Int32) (fun _ => Option ((Mem × Int32) ⊕ (Mem))) a fun τ z2 =>
  if (mI τ 565 27) ≤ z2 then
    if inb (127 : Int32) (ln x1) then
      some (.inr (sI τ x1 (127 : Int32).toNatClampNeg (mI τ 570 (0 : Int32).toNatClampNeg)))
    else none
  else
    if inb ((4 : Int32) * z2) 24 then
      if inb ((24 : Int32) + z2) (ln x1) then
        some (.inl ((sI τ x1 ((24 : Int32) + z2).toNatClampNeg (mI τ 574 ((4 : Int32) * z2).toNatClampNeg)), (z2 + (1 : Int32))))
      else none
    else none
def f_Model_lays (σ : Mem) (x1 : Nat) : Option (Mem) :=
  (loopF (f_Model_lays_L2 x1) FU (σ, (0 : Int32))).bind fun w3 =>
  (loopF (f_Model_lays_L20 x1) FU (w3, (0 : Int32))).bind fun w6 =>
  loopF (f_Model_lays_L38 x1) FU (w6, (0 : Int32))
set_option maxHeartbeats 4000000 in
set_option maxRecDepth 20000 in
theorem gs_Model_lays_L2 (X : Cx θ p s m args c cX11_lays 3 RX11) (hr : meth.sig.returnType = none) (hlk : meth.locks = false)  {x1 : Nat} {r : Mem} (h1 : kd x1 = 13) (τ : Mem) (z2 : Int32) (x : (Mem × Int32) ⊕ (Mem)) (h : f_Model_lays_L2 x1 (τ, z2) = some x) (hk : Sum.elim (fun a => @Prod.casesOn (Mem) (Int32) (fun _ => Prop) a fun τ z2 => GB θ p l e 0 s m args below meth c 3 (none, r) 2 [(0, .ref (be θ + 565)), (1, .ref (be θ + x1)), (2, .int z2)] [] τ) (fun w => GB θ p l e 0 s m args below meth c 3 (none, r) 18 [(0, .ref (be θ + 565)), (1, .ref (be θ + x1))] [] w) x) : GB θ p l e 0 s m args below meth c 3 (none, r) 2 [(0, .ref (be θ + 565)), (1, .ref (be θ + x1)), (2, .int z2)] [] τ := by
  unfold f_Model_lays_L2 at h
  dsimp only at h
  refine g_iload_n X dX11_lays_2 rfl 2 rfl ?_
  refine g_aload_n X dX11_lays_3 rfl 1 rfl ?_
  refine g_alen X h1 (by decide) rfl (v := (Int32.ofNat (ln x1))) rfl dX11_lays_4 ?_
  refine g_icmp_ge (tgt := 18) X dX11_lays_5 (by decide) (fun c1 => ?_) (fun c1 => ?_)
  · replace h := (if_pos c1).symm.trans h
    have hk := inr_hk h hk
    exact g_sub (lv' := [(0, .ref (be θ + 565)), (1, .ref (be θ + x1))]) [0, 1] rfl hk
  · replace h := (if_neg c1).symm.trans h
    refine g_aload_n X dX11_lays_8 rfl 1 rfl ?_
    refine g_iload_n X dX11_lays_9 rfl 2 rfl ?_
    refine g_iconst X dX11_lays_10 (v := (0 : Int32)) ic_0 ?_
    obtain ⟨g2, h⟩ := ite_some h
    refine g_iast X h1 rfl (inb_in g2) dX11_lays_11 ?_
    refine g_iinc X dX11_lays_12 (kq := 2) rfl (congrArg (HAdd.hAdd _) ic_1) (by decide) (lv' := [(2, .int (z2 + (1 : Int32))), (0, .ref (be θ + 565)), (1, .ref (be θ + x1))]) rfl ?_
    refine g_goto (tgt := 2) X dX11_lays_15 (by decide) ?_
    have hk := inl_hk h hk
    exact g_sub (lv' := [(0, .ref (be θ + 565)), (1, .ref (be θ + x1)), (2, .int (z2 + (1 : Int32)))]) [1, 2, 0] rfl hk
set_option maxHeartbeats 4000000 in
set_option maxRecDepth 20000 in
theorem gl_Model_lays_L2 (X : Cx θ p s m args c cX11_lays 3 RX11) (hr : meth.sig.returnType = none) (hlk : meth.locks = false)  {x1 : Nat} {r : Mem} (h1 : kd x1 = 13) (n : Nat) (a : Mem × Int32) (b : Mem) (h : loopF (f_Model_lays_L2 x1) n a = some b) (hk : (fun w => GB θ p l e 0 s m args below meth c 3 (none, r) 18 [(0, .ref (be θ + 565)), (1, .ref (be θ + x1))] [] w) b) : (fun a => @Prod.casesOn (Mem) (Int32) (fun _ => Prop) a fun τ z2 => GB θ p l e 0 s m args below meth c 3 (none, r) 2 [(0, .ref (be θ + 565)), (1, .ref (be θ + x1)), (2, .int z2)] [] τ) a :=
  loopF_by (P := (fun a => @Prod.casesOn (Mem) (Int32) (fun _ => Prop) a fun τ z2 => GB θ p l e 0 s m args below meth c 3 (none, r) 2 [(0, .ref (be θ + 565)), (1, .ref (be θ + x1)), (2, .int z2)] [] τ)) (K := (fun w => GB θ p l e 0 s m args below meth c 3 (none, r) 18 [(0, .ref (be θ + 565)), (1, .ref (be θ + x1))] [] w)) (fun a x h hk => by obtain ⟨τ, z2⟩ := a; exact gs_Model_lays_L2 X hr hlk  h1 τ z2 x h hk) n a b h hk
set_option maxHeartbeats 4000000 in
set_option maxRecDepth 20000 in
theorem gs_Model_lays_L20 (X : Cx θ p s m args c cX11_lays 3 RX11) (hr : meth.sig.returnType = none) (hlk : meth.locks = false)  {x1 : Nat} {r : Mem} (h1 : kd x1 = 13) (τ : Mem) (z2 : Int32) (x : (Mem × Int32) ⊕ (Mem)) (h : f_Model_lays_L20 x1 (τ, z2) = some x) (hk : Sum.elim (fun a => @Prod.casesOn (Mem) (Int32) (fun _ => Prop) a fun τ z2 => GB θ p l e 0 s m args below meth c 3 (none, r) 20 [(0, .ref (be θ + 565)), (1, .ref (be θ + x1)), (2, .int z2)] [] τ) (fun w => GB θ p l e 0 s m args below meth c 3 (none, r) 36 [(0, .ref (be θ + 565)), (1, .ref (be θ + x1))] [] w) x) : GB θ p l e 0 s m args below meth c 3 (none, r) 20 [(0, .ref (be θ + 565)), (1, .ref (be θ + x1)), (2, .int z2)] [] τ := by
  unfold f_Model_lays_L20 at h
  dsimp only at h
  refine g_iload_n X dX11_lays_20 rfl 2 rfl ?_
  refine g_bipush X dX11_lays_21 (v := (8 : Int32)) bp_8 ?_
  refine g_icmp_ge (tgt := 36) X dX11_lays_23 (by decide) (fun c4 => ?_) (fun c4 => ?_)
  · replace h := (if_pos c4).symm.trans h
    have hk := inr_hk h hk
    exact g_sub (lv' := [(0, .ref (be θ + 565)), (1, .ref (be θ + x1))]) [0, 1] rfl hk
  · replace h := (if_neg c4).symm.trans h
    refine g_aload_n X dX11_lays_26 rfl 1 rfl ?_
    refine g_iload_n X dX11_lays_27 rfl 2 rfl ?_
    refine g_iconst X dX11_lays_28 (v := (-1 : Int32)) ic_m1 ?_
    obtain ⟨g5, h⟩ := ite_some h
    refine g_iast X h1 rfl (inb_in g5) dX11_lays_29 ?_
    refine g_iinc X dX11_lays_30 (kq := 2) rfl (congrArg (HAdd.hAdd _) ic_1) (by decide) (lv' := [(2, .int (z2 + (1 : Int32))), (0, .ref (be θ + 565)), (1, .ref (be θ + x1))]) rfl ?_
    refine g_goto (tgt := 20) X dX11_lays_33 (by decide) ?_
    have hk := inl_hk h hk
    exact g_sub (lv' := [(0, .ref (be θ + 565)), (1, .ref (be θ + x1)), (2, .int (z2 + (1 : Int32)))]) [1, 2, 0] rfl hk
set_option maxHeartbeats 4000000 in
set_option maxRecDepth 20000 in
theorem gl_Model_lays_L20 (X : Cx θ p s m args c cX11_lays 3 RX11) (hr : meth.sig.returnType = none) (hlk : meth.locks = false)  {x1 : Nat} {r : Mem} (h1 : kd x1 = 13) (n : Nat) (a : Mem × Int32) (b : Mem) (h : loopF (f_Model_lays_L20 x1) n a = some b) (hk : (fun w => GB θ p l e 0 s m args below meth c 3 (none, r) 36 [(0, .ref (be θ + 565)), (1, .ref (be θ + x1))] [] w) b) : (fun a => @Prod.casesOn (Mem) (Int32) (fun _ => Prop) a fun τ z2 => GB θ p l e 0 s m args below meth c 3 (none, r) 20 [(0, .ref (be θ + 565)), (1, .ref (be θ + x1)), (2, .int z2)] [] τ) a :=
  loopF_by (P := (fun a => @Prod.casesOn (Mem) (Int32) (fun _ => Prop) a fun τ z2 => GB θ p l e 0 s m args below meth c 3 (none, r) 20 [(0, .ref (be θ + 565)), (1, .ref (be θ + x1)), (2, .int z2)] [] τ)) (K := (fun w => GB θ p l e 0 s m args below meth c 3 (none, r) 36 [(0, .ref (be θ + 565)), (1, .ref (be θ + x1))] [] w)) (fun a x h hk => by obtain ⟨τ, z2⟩ := a; exact gs_Model_lays_L20 X hr hlk  h1 τ z2 x h hk) n a b h hk
set_option maxHeartbeats 4000000 in
set_option maxRecDepth 20000 in
theorem gs_Model_lays_L38 (X : Cx θ p s m args c cX11_lays 3 RX11) (hr : meth.sig.returnType = none) (hlk : meth.locks = false)  {x1 : Nat} {r : Mem} (h1 : kd x1 = 13) (τ : Mem) (z2 : Int32) (x : (Mem × Int32) ⊕ (Mem)) (h : f_Model_lays_L38 x1 (τ, z2) = some x) (hk : Sum.elim (fun a => @Prod.casesOn (Mem) (Int32) (fun _ => Prop) a fun τ z2 => GB θ p l e 0 s m args below meth c 3 (none, r) 38 [(0, .ref (be θ + 565)), (1, .ref (be θ + x1)), (2, .int z2)] [] τ) (fun b => b = r) x) : GB θ p l e 0 s m args below meth c 3 (none, r) 38 [(0, .ref (be θ + 565)), (1, .ref (be θ + x1)), (2, .int z2)] [] τ := by
  unfold f_Model_lays_L38 at h
  dsimp only at h
  refine g_iload_n X dX11_lays_38 rfl 2 rfl ?_
  refine g_aload_n X dX11_lays_39 rfl 0 rfl ?_
  refine g_get X fl_RX11_310 dX11_lays_40 kd_565 (v := .int (mI τ 565 27)) rfl ?_
  refine g_icmp_ge (tgt := 66) X dX11_lays_43 (by decide) (fun c7 => ?_) (fun c7 => ?_)
  · replace h := (if_pos c7).symm.trans h
    refine g_aload_n X dX11_lays_66 rfl 1 rfl ?_
    refine g_bipush X dX11_lays_67 (v := (127 : Int32)) bp_127 ?_
    refine g_aload_n X dX11_lays_69 rfl 0 rfl ?_
    refine g_get X fl_RX11_37 dX11_lays_70 kd_565 (v := .ref (be θ + 570)) rfl ?_
    refine g_iconst X dX11_lays_73 (v := (0 : Int32)) ic_0 ?_
    refine g_iald X kd_570 ln_570 (inb_in (show inb (0 : Int32) 4 = true by decide)) dX11_lays_74 ?_
    obtain ⟨g8, h⟩ := ite_some h
    refine g_iast X h1 rfl (inb_in g8) dX11_lays_75 ?_
    have hk := inr_hk h hk
    have hk : (sI τ x1 (127 : Int32).toNatClampNeg (mI τ 570 (0 : Int32).toNatClampNeg)) = r := hk
    subst hk
    exact g_vret X hr hlk dX11_lays_76 rfl
  · replace h := (if_neg c7).symm.trans h
    refine g_aload_n X dX11_lays_46 rfl 1 rfl ?_
    refine g_bipush X dX11_lays_47 (v := (24 : Int32)) bp_24 ?_
    refine g_iload_n X dX11_lays_49 rfl 2 rfl ?_
    refine g_iadd X dX11_lays_50 ?_
    refine g_aload_n X dX11_lays_51 rfl 0 rfl ?_
    refine g_get X fl_RX11_49 dX11_lays_52 kd_565 (v := .ref (be θ + 574)) rfl ?_
    refine g_iconst X dX11_lays_55 (v := (4 : Int32)) ic_4 ?_
    refine g_iload_n X dX11_lays_56 rfl 2 rfl ?_
    refine g_imul X dX11_lays_57 ?_
    obtain ⟨g9, h⟩ := ite_some h
    refine g_iald X kd_574 ln_574 (inb_in g9) dX11_lays_58 ?_
    obtain ⟨g10, h⟩ := ite_some h
    refine g_iast X h1 rfl (inb_in g10) dX11_lays_59 ?_
    refine g_iinc X dX11_lays_60 (kq := 2) rfl (congrArg (HAdd.hAdd _) ic_1) (by decide) (lv' := [(2, .int (z2 + (1 : Int32))), (0, .ref (be θ + 565)), (1, .ref (be θ + x1))]) rfl ?_
    refine g_goto (tgt := 38) X dX11_lays_63 (by decide) ?_
    have hk := inl_hk h hk
    exact g_sub (lv' := [(0, .ref (be θ + 565)), (1, .ref (be θ + x1)), (2, .int (z2 + (1 : Int32)))]) [1, 2, 0] rfl hk
set_option maxHeartbeats 4000000 in
set_option maxRecDepth 20000 in
theorem gl_Model_lays_L38 (X : Cx θ p s m args c cX11_lays 3 RX11) (hr : meth.sig.returnType = none) (hlk : meth.locks = false)  {x1 : Nat} {r : Mem} (h1 : kd x1 = 13) (n : Nat) (a : Mem × Int32) (b : Mem) (h : loopF (f_Model_lays_L38 x1) n a = some b) (hk : (fun b => b = r) b) : (fun a => @Prod.casesOn (Mem) (Int32) (fun _ => Prop) a fun τ z2 => GB θ p l e 0 s m args below meth c 3 (none, r) 38 [(0, .ref (be θ + 565)), (1, .ref (be θ + x1)), (2, .int z2)] [] τ) a :=
  loopF_by (P := (fun a => @Prod.casesOn (Mem) (Int32) (fun _ => Prop) a fun τ z2 => GB θ p l e 0 s m args below meth c 3 (none, r) 38 [(0, .ref (be θ + 565)), (1, .ref (be θ + x1)), (2, .int z2)] [] τ)) (K := (fun b => b = r)) (fun a x h hk => by obtain ⟨τ, z2⟩ := a; exact gs_Model_lays_L38 X hr hlk  h1 τ z2 x h hk) n a b h hk
set_option maxHeartbeats 4000000 in
set_option maxRecDepth 20000 in
theorem g_Model_lays (X : Cx θ p s m args c cX11_lays 3 RX11) (hr : meth.sig.returnType = none) (hlk : meth.locks = false)  {σ : Mem} {x1 : Nat} {r : Mem} (h1 : kd x1 = 13) (h : f_Model_lays σ x1 = some r) : GB θ p l e 0 s m args below meth c 3 (none, r) 0 [(0, .ref (be θ + 565)), (1, .ref (be θ + x1))] [] σ := by
  unfold f_Model_lays at h
  refine g_iconst X dX11_lays_0 (v := (0 : Int32)) ic_0 ?_
  refine g_istore_n X dX11_lays_1 rfl (by decide) (lv' := [(2, .int (0 : Int32)), (0, .ref (be θ + 565)), (1, .ref (be θ + x1))]) rfl ?_
  obtain ⟨w3, hq3, h⟩ := Option.bind_eq_some_iff.mp h
  refine g_sub (lv' := [(0, .ref (be θ + 565)), (1, .ref (be θ + x1)), (2, .int (0 : Int32))]) [1, 2, 0] rfl (gl_Model_lays_L2 X hr hlk  h1  FU _ w3 hq3 ?_)
  refine g_iconst X dX11_lays_18 (v := (0 : Int32)) ic_0 ?_
  refine g_istore_n X dX11_lays_19 rfl (by decide) (lv' := [(2, .int (0 : Int32)), (0, .ref (be θ + 565)), (1, .ref (be θ + x1))]) rfl ?_
  obtain ⟨w6, hq6, h⟩ := Option.bind_eq_some_iff.mp h
  refine g_sub (lv' := [(0, .ref (be θ + 565)), (1, .ref (be θ + x1)), (2, .int (0 : Int32))]) [1, 2, 0] rfl (gl_Model_lays_L20 X hr hlk  h1  FU _ w6 hq6 ?_)
  refine g_iconst X dX11_lays_36 (v := (0 : Int32)) ic_0 ?_
  refine g_istore_n X dX11_lays_37 rfl (by decide) (lv' := [(2, .int (0 : Int32)), (0, .ref (be θ + 565)), (1, .ref (be θ + x1))]) rfl ?_
  exact g_sub (lv' := [(0, .ref (be θ + 565)), (1, .ref (be θ + x1)), (2, .int (0 : Int32))]) [1, 2, 0] rfl (gl_Model_lays_L38 X hr hlk  h1  FU _ _ h rfl)
set_option maxHeartbeats 4000000 in
set_option maxRecDepth 20000 in
theorem c_Model_lays {θ : Th} {l : Launch} {σ : Mem} {x1 : Nat} {r : Mem} (h1 : kd x1 = 13) (h : f_Model_lays σ x1 = some r) : Cn θ l yX11_lays cX11_lays 3 (none) 0 0 0 [.ref (be θ + 565), .ref (be θ + x1)] σ (none, r) :=
  Cn.of (by decide) (Nat.le_of_ble_eq_true rfl) (fun p e s m below meth c X hr hlk => g_Model_lays X hr hlk h1 h)
end Z14
