section Z8
variable {θ : Th} {p : Program} {l : Launch} {e : Env} {s : State} {m : MethodId} {args : Array Value} {below : List Frame} {meth : Method} {c : Code}
theorem dX8_sign_0 : decode cX8_sign 0 = .ok (.aload_n 0, 1) := by decide +kernel
theorem dX8_sign_1 : decode cX8_sign 1 = .ok (.getfield 19, 3) := by decide +kernel
theorem dX8_sign_4 : decode cX8_sign 4 = .ok (.aload_n 0, 1) := by decide +kernel
theorem dX8_sign_5 : decode cX8_sign 5 = .ok (.getfield 15, 3) := by decide +kernel
theorem dX8_sign_8 : decode cX8_sign 8 = .ok (.if_icmp .ge 30, 3) := by decide +kernel
theorem dX8_sign_11 : decode cX8_sign 11 = .ok (.aload_n 0, 1) := by decide +kernel
theorem dX8_sign_12 : decode cX8_sign 12 = .ok (.getfield 9, 3) := by decide +kernel
theorem dX8_sign_15 : decode cX8_sign 15 = .ok (.aload_n 0, 1) := by decide +kernel
theorem dX8_sign_16 : decode cX8_sign 16 = .ok (.getfield 19, 3) := by decide +kernel
theorem dX8_sign_19 : decode cX8_sign 19 = .ok (.iaload, 1) := by decide +kernel
theorem dX8_sign_20 : decode cX8_sign 20 = .ok (.bipush 32, 2) := by decide +kernel
theorem dX8_sign_22 : decode cX8_sign 22 = .ok (.if_icmp .ne 16, 3) := by decide +kernel
theorem dX8_sign_25 : decode cX8_sign 25 = .ok (.aload_n 0, 1) := by decide +kernel
theorem dX8_sign_26 : decode cX8_sign 26 = .ok (.dup, 1) := by decide +kernel
theorem dX8_sign_27 : decode cX8_sign 27 = .ok (.getfield 19, 3) := by decide +kernel
theorem dX8_sign_30 : decode cX8_sign 30 = .ok (.iconst 1, 1) := by decide +kernel
theorem dX8_sign_31 : decode cX8_sign 31 = .ok (.iadd, 1) := by decide +kernel
theorem dX8_sign_32 : decode cX8_sign 32 = .ok (.putfield 19, 3) := by decide +kernel
theorem dX8_sign_35 : decode cX8_sign 35 = .ok (.goto (-35), 3) := by decide +kernel
theorem dX8_sign_38 : decode cX8_sign 38 = .ok (.aload_n 0, 1) := by decide +kernel
theorem dX8_sign_39 : decode cX8_sign 39 = .ok (.getfield 19, 3) := by decide +kernel
theorem dX8_sign_42 : decode cX8_sign 42 = .ok (.aload_n 0, 1) := by decide +kernel
theorem dX8_sign_43 : decode cX8_sign 43 = .ok (.getfield 15, 3) := by decide +kernel
theorem dX8_sign_46 : decode cX8_sign 46 = .ok (.if_icmp .ge 15, 3) := by decide +kernel
theorem dX8_sign_49 : decode cX8_sign 49 = .ok (.aload_n 0, 1) := by decide +kernel
theorem dX8_sign_50 : decode cX8_sign 50 = .ok (.getfield 9, 3) := by decide +kernel
theorem dX8_sign_53 : decode cX8_sign 53 = .ok (.aload_n 0, 1) := by decide +kernel
theorem dX8_sign_54 : decode cX8_sign 54 = .ok (.getfield 19, 3) := by decide +kernel
theorem dX8_sign_57 : decode cX8_sign 57 = .ok (.iaload, 1) := by decide +kernel
theorem dX8_sign_58 : decode cX8_sign 58 = .ok (.goto 4, 3) := by decide +kernel
theorem dX8_sign_61 : decode cX8_sign 61 = .ok (.iconst 0, 1) := by decide +kernel
theorem dX8_sign_62 : decode cX8_sign 62 = .ok (.ireturn, 1) := by decide +kernel
def f_Tape_sign_L0  (a : Mem) : Option ((Mem) ⊕ (Mem)) :=
  if (mI a 1 1) ≤ (mI a 1 2) then
    some (.inr a)
  else
    if inb (mI a 1 2) 240 then
      if (mI a 2 (mI a 1 2).toNatClampNeg) = (32 : Int32) then
        some (.inl (sI a 1 2 ((mI a 1 2) + (1 : Int32))))
      else
        some (.inr a)
    else none
def f_Tape_sign_J38 (σ : Mem)  : Option (Int32 × Mem) :=
  if (mI σ 1 1) ≤ (mI σ 1 2) then
    some ((0 : Int32), σ)
  else
    if inb (mI σ 1 2) 240 then
      some ((mI σ 2 (mI σ 1 2).toNatClampNeg), σ)
    else none
def f_Tape_sign (σ : Mem)  : Option (Int32 × Mem) :=
  (loopF (f_Tape_sign_L0 ) FU σ).bind fun q4 =>
  f_Tape_sign_J38 q4 
set_option maxHeartbeats 4000000 in
set_option maxRecDepth 20000 in
theorem gs_Tape_sign_L0 (X : Cx θ p s m args c cX8_sign 1 RX8) (hr : meth.sig.returnType = some .int) (hlk : meth.locks = false)   {r : Int32 × Mem}  (a : Mem) (x : (Mem) ⊕ (Mem)) (h : f_Tape_sign_L0  a = some x) (hk : Sum.elim (fun a => GB θ p l e 0 s m args below meth c 1 (some (.int r.1), r.2) 0 [(0, .ref (be θ + 1))] [] a) (fun b => GB θ p l e 0 s m args below meth c 1 (some (.int r.1), r.2) 38 [(0, .ref (be θ + 1))] [] b) x) : GB θ p l e 0 s m args below meth c 1 (some (.int r.1), r.2) 0 [(0, .ref (be θ + 1))] [] a := by
  unfold f_Tape_sign_L0 at h
  refine g_aload_n X dX8_sign_0 rfl 0 rfl ?_
  refine g_get X fl_RX8_19 dX8_sign_1 kd_1 (v := .int (mI a 1 2)) rfl ?_
  refine g_aload_n X dX8_sign_4 rfl 0 rfl ?_
  refine g_get X fl_RX8_15 dX8_sign_5 kd_1 (v := .int (mI a 1 1)) rfl ?_
  refine g_icmp_ge (tgt := 38) X dX8_sign_8 (by decide) (fun c1 => ?_) (fun c1 => ?_)
  · replace h := (if_pos c1).symm.trans h
    cases h
    exact g_sub [0] rfl hk
  · replace h := (if_neg c1).symm.trans h
    refine g_aload_n X dX8_sign_11 rfl 0 rfl ?_
    refine g_get X fl_RX8_9 dX8_sign_12 kd_1 (v := .ref (be θ + 2)) rfl ?_
    refine g_aload_n X dX8_sign_15 rfl 0 rfl ?_
    refine g_get X fl_RX8_19 dX8_sign_16 kd_1 (v := .int (mI a 1 2)) rfl ?_
    obtain ⟨g2, h⟩ := ite_some h
    refine g_iald X kd_2 ln_2 (inb_in g2) dX8_sign_19 ?_
    refine g_bipush X dX8_sign_20 (v := (32 : Int32)) bp_32 ?_
    refine g_icmp_ne (tgt := 38) X dX8_sign_22 (by decide) (fun c3 => ?_) (fun c3 => ?_)
    · replace h := (if_neg c3).symm.trans h
      cases h
      exact g_sub [0] rfl hk
    · replace h := (if_pos c3).symm.trans h
      refine g_aload_n X dX8_sign_25 rfl 0 rfl ?_
      refine g_dup X dX8_sign_26 rfl ?_
      refine g_get X fl_RX8_19 dX8_sign_27 kd_1 (v := .int (mI a 1 2)) rfl ?_
      refine g_iconst X dX8_sign_30 (v := (1 : Int32)) ic_1 ?_
      refine g_iadd X dX8_sign_31 ?_
      refine g_putI X fl_RX8_19 dX8_sign_32 kd_1 rfl rfl rfl ?_
      refine g_goto (tgt := 0) X dX8_sign_35 (by decide) ?_
      cases h
      exact g_sub [0] rfl hk
set_option maxHeartbeats 4000000 in
set_option maxRecDepth 20000 in
theorem gl_Tape_sign_L0 (X : Cx θ p s m args c cX8_sign 1 RX8) (hr : meth.sig.returnType = some .int) (hlk : meth.locks = false)   {r : Int32 × Mem}  (n : Nat) (a : Mem) (b : Mem) (h : loopF (f_Tape_sign_L0 ) n a = some b) (hk : GB θ p l e 0 s m args below meth c 1 (some (.int r.1), r.2) 38 [(0, .ref (be θ + 1))] [] b) : GB θ p l e 0 s m args below meth c 1 (some (.int r.1), r.2) 0 [(0, .ref (be θ + 1))] [] a :=
  loopF_by (P := fun a => GB θ p l e 0 s m args below meth c 1 (some (.int r.1), r.2) 0 [(0, .ref (be θ + 1))] [] a) (K := fun b => GB θ p l e 0 s m args below meth c 1 (some (.int r.1), r.2) 38 [(0, .ref (be θ + 1))] [] b) (fun a x h hk => gs_Tape_sign_L0 X hr hlk   a x h hk) n a b h hk
set_option maxHeartbeats 4000000 in
set_option maxRecDepth 20000 in
theorem g_Tape_sign_J38 (X : Cx θ p s m args c cX8_sign 1 RX8) (hr : meth.sig.returnType = some .int) (hlk : meth.locks = false)  {σ : Mem}  {r : Int32 × Mem}  (h : f_Tape_sign_J38 σ  = some r) : GB θ p l e 0 s m args below meth c 1 (some (.int r.1), r.2) 38 [(0, .ref (be θ + 1))] [] σ := by
  unfold f_Tape_sign_J38 at h
  refine g_aload_n X dX8_sign_38 rfl 0 rfl ?_
  refine g_get X fl_RX8_19 dX8_sign_39 kd_1 (v := .int (mI σ 1 2)) rfl ?_
  refine g_aload_n X dX8_sign_42 rfl 0 rfl ?_
  refine g_get X fl_RX8_15 dX8_sign_43 kd_1 (v := .int (mI σ 1 1)) rfl ?_
  refine g_icmp_ge (tgt := 61) X dX8_sign_46 (by decide) (fun c5 => ?_) (fun c5 => ?_)
  · replace h := (if_pos c5).symm.trans h
    refine g_iconst X dX8_sign_61 (v := (0 : Int32)) ic_0 ?_
    exact g_iret X hr hlk dX8_sign_62 (by cases h; rfl)
  · replace h := (if_neg c5).symm.trans h
    refine g_aload_n X dX8_sign_49 rfl 0 rfl ?_
    refine g_get X fl_RX8_9 dX8_sign_50 kd_1 (v := .ref (be θ + 2)) rfl ?_
    refine g_aload_n X dX8_sign_53 rfl 0 rfl ?_
    refine g_get X fl_RX8_19 dX8_sign_54 kd_1 (v := .int (mI σ 1 2)) rfl ?_
    obtain ⟨g6, h⟩ := ite_some h
    refine g_iald X kd_2 ln_2 (inb_in g6) dX8_sign_57 ?_
    refine g_goto (tgt := 62) X dX8_sign_58 (by decide) ?_
    exact g_iret X hr hlk dX8_sign_62 (by cases h; rfl)
set_option maxHeartbeats 4000000 in
set_option maxRecDepth 20000 in
theorem g_Tape_sign (X : Cx θ p s m args c cX8_sign 1 RX8) (hr : meth.sig.returnType = some .int) (hlk : meth.locks = false)  {σ : Mem}  {r : Int32 × Mem}  (h : f_Tape_sign σ  = some r) : GB θ p l e 0 s m args below meth c 1 (some (.int r.1), r.2) 0 [(0, .ref (be θ + 1))] [] σ := by
  unfold f_Tape_sign at h
  obtain ⟨q4, hq4, h⟩ := Option.bind_eq_some_iff.mp h
  refine g_sub [0] rfl (gl_Tape_sign_L0 X hr hlk    FU _ q4 hq4 ?_)
  exact g_sub [0] rfl (g_Tape_sign_J38 X hr hlk    h)
set_option maxHeartbeats 4000000 in
set_option maxRecDepth 20000 in
theorem c_Tape_sign {θ : Th} {l : Launch} {σ : Mem}  {r : Int32 × Mem}  (h : f_Tape_sign σ  = some r) : Cn θ l yX8_sign cX8_sign 1 (some .int) 0 0 0 [.ref (be θ + 1)] σ (some (.int r.1), r.2) :=
  Cn.of (by decide) (Nat.le_of_ble_eq_true rfl) (fun p e s m below meth c X hr hlk => g_Tape_sign X hr hlk  h)
theorem dX8_passes_0 : decode cX8_passes 0 = .ok (.aload_n 0, 1) := by decide +kernel
theorem dX8_passes_1 : decode cX8_passes 1 = .ok (.invokevirtual 25, 3) := by decide +kernel
theorem dX8_passes_4 : decode cX8_passes 4 = .ok (.iload_n 1, 1) := by decide +kernel
theorem dX8_passes_5 : decode cX8_passes 5 = .ok (.if_icmp .eq 5, 3) := by decide +kernel
theorem dX8_passes_8 : decode cX8_passes 8 = .ok (.iconst 0, 1) := by decide +kernel
theorem dX8_passes_9 : decode cX8_passes 9 = .ok (.ireturn, 1) := by decide +kernel
theorem dX8_passes_10 : decode cX8_passes 10 = .ok (.aload_n 0, 1) := by decide +kernel
theorem dX8_passes_11 : decode cX8_passes 11 = .ok (.dup, 1) := by decide +kernel
theorem dX8_passes_12 : decode cX8_passes 12 = .ok (.getfield 19, 3) := by decide +kernel
theorem dX8_passes_15 : decode cX8_passes 15 = .ok (.iconst 1, 1) := by decide +kernel
theorem dX8_passes_16 : decode cX8_passes 16 = .ok (.iadd, 1) := by decide +kernel
theorem dX8_passes_17 : decode cX8_passes 17 = .ok (.putfield 19, 3) := by decide +kernel
theorem dX8_passes_20 : decode cX8_passes 20 = .ok (.iconst 1, 1) := by decide +kernel
theorem dX8_passes_21 : decode cX8_passes 21 = .ok (.ireturn, 1) := by decide +kernel
def f_Tape_passes (σ : Mem) (x1 : Int32) : Option (Int32 × Mem) :=
  (f_Tape_sign σ).bind fun q1 =>
  if q1.1 = x1 then
    some ((1 : Int32), (sI q1.2 1 2 ((mI q1.2 1 2) + (1 : Int32))))
  else
    some ((0 : Int32), q1.2)
set_option maxHeartbeats 4000000 in
set_option maxRecDepth 20000 in
theorem g_Tape_passes (X : Cx θ p s m args c cX8_passes 2 RX8) (hr : meth.sig.returnType = some .boolean) (hlk : meth.locks = false)  {σ : Mem} {x1 : Int32} {r : Int32 × Mem}  (h : f_Tape_passes σ x1 = some r) : GB θ p l e 1 s m args below meth c 2 (some (.int r.1), r.2) 0 [(0, .ref (be θ + 1)), (1, .int x1)] [] σ := by
  unfold f_Tape_passes at h
  refine g_aload_n X dX8_passes_0 rfl 0 rfl ?_
  obtain ⟨q1, hq1, h⟩ := Option.bind_eq_some_iff.mp h
  refine g_cV X (c_Tape_sign  hq1) lk_RX8_25 my_X8_sign (a := 1) (ci := 8) kd_1 (by decide) rfl (As := []) (rest := []) rfl rfl (Nat.le_of_ble_eq_true rfl) ⟨(Nat.le_of_ble_eq_true rfl), (Nat.le_of_ble_eq_true rfl)⟩ ⟨(Nat.le_of_ble_eq_true rfl), (Nat.le_of_ble_eq_true rfl)⟩ dX8_passes_1 (st' := [.int q1.1]) rfl rfl ?_
  refine g_iload_n X dX8_passes_4 rfl 1 rfl ?_
  refine g_icmp_eq (tgt := 10) X dX8_passes_5 (by decide) (fun c2 => ?_) (fun c2 => ?_)
  · replace h := (if_pos c2).symm.trans h
    refine g_aload_n X dX8_passes_10 rfl 0 rfl ?_
    refine g_dup X dX8_passes_11 rfl ?_
    refine g_get X fl_RX8_19 dX8_passes_12 kd_1 (v := .int (mI q1.2 1 2)) rfl ?_
    refine g_iconst X dX8_passes_15 (v := (1 : Int32)) ic_1 ?_
    refine g_iadd X dX8_passes_16 ?_
    refine g_putI X fl_RX8_19 dX8_passes_17 kd_1 rfl rfl rfl ?_
    refine g_iconst X dX8_passes_20 (v := (1 : Int32)) ic_1 ?_
    exact g_zret X hr hlk bz1 dX8_passes_21 (by cases h; rfl)
  · replace h := (if_neg c2).symm.trans h
    refine g_iconst X dX8_passes_8 (v := (0 : Int32)) ic_0 ?_
    exact g_zret X hr hlk bz0 dX8_passes_9 (by cases h; rfl)
set_option maxHeartbeats 4000000 in
set_option maxRecDepth 20000 in
theorem c_Tape_passes {θ : Th} {l : Launch} {σ : Mem} {x1 : Int32} {r : Int32 × Mem}  (h : f_Tape_passes σ x1 = some r) : Cn θ l yX8_passes cX8_passes 2 (some .boolean) 1 0 0 [.ref (be θ + 1), .int x1] σ (some (.int r.1), r.2) :=
  Cn.of (by decide) (Nat.le_of_ble_eq_true rfl) (fun p e s m below meth c X hr hlk => g_Tape_passes X hr hlk  h)
theorem dX8_atDigit_0 : decode cX8_atDigit 0 = .ok (.aload_n 0, 1) := by decide +kernel
theorem dX8_atDigit_1 : decode cX8_atDigit 1 = .ok (.getfield 19, 3) := by decide +kernel
theorem dX8_atDigit_4 : decode cX8_atDigit 4 = .ok (.aload_n 0, 1) := by decide +kernel
theorem dX8_atDigit_5 : decode cX8_atDigit 5 = .ok (.getfield 15, 3) := by decide +kernel
theorem dX8_atDigit_8 : decode cX8_atDigit 8 = .ok (.if_icmp .ge 35, 3) := by decide +kernel
theorem dX8_atDigit_11 : decode cX8_atDigit 11 = .ok (.aload_n 0, 1) := by decide +kernel
theorem dX8_atDigit_12 : decode cX8_atDigit 12 = .ok (.getfield 9, 3) := by decide +kernel
theorem dX8_atDigit_15 : decode cX8_atDigit 15 = .ok (.aload_n 0, 1) := by decide +kernel
theorem dX8_atDigit_16 : decode cX8_atDigit 16 = .ok (.getfield 19, 3) := by decide +kernel
theorem dX8_atDigit_19 : decode cX8_atDigit 19 = .ok (.iaload, 1) := by decide +kernel
theorem dX8_atDigit_20 : decode cX8_atDigit 20 = .ok (.bipush 48, 2) := by decide +kernel
theorem dX8_atDigit_22 : decode cX8_atDigit 22 = .ok (.if_icmp .lt 21, 3) := by decide +kernel
theorem dX8_atDigit_25 : decode cX8_atDigit 25 = .ok (.aload_n 0, 1) := by decide +kernel
theorem dX8_atDigit_26 : decode cX8_atDigit 26 = .ok (.getfield 9, 3) := by decide +kernel
theorem dX8_atDigit_29 : decode cX8_atDigit 29 = .ok (.aload_n 0, 1) := by decide +kernel
theorem dX8_atDigit_30 : decode cX8_atDigit 30 = .ok (.getfield 19, 3) := by decide +kernel
theorem dX8_atDigit_33 : decode cX8_atDigit 33 = .ok (.iaload, 1) := by decide +kernel
theorem dX8_atDigit_34 : decode cX8_atDigit 34 = .ok (.bipush 57, 2) := by decide +kernel
theorem dX8_atDigit_36 : decode cX8_atDigit 36 = .ok (.if_icmp .gt 7, 3) := by decide +kernel
theorem dX8_atDigit_39 : decode cX8_atDigit 39 = .ok (.iconst 1, 1) := by decide +kernel
theorem dX8_atDigit_40 : decode cX8_atDigit 40 = .ok (.goto 4, 3) := by decide +kernel
theorem dX8_atDigit_43 : decode cX8_atDigit 43 = .ok (.iconst 0, 1) := by decide +kernel
theorem dX8_atDigit_44 : decode cX8_atDigit 44 = .ok (.ireturn, 1) := by decide +kernel
def f_Tape_atDigit (σ : Mem)  : Option (Int32) :=
  if (mI σ 1 1) ≤ (mI σ 1 2) then
    some (0 : Int32)
  else
    if inb (mI σ 1 2) 240 then
      if (mI σ 2 (mI σ 1 2).toNatClampNeg) < (48 : Int32) then
        some (0 : Int32)
      else
        if inb (mI σ 1 2) 240 then
          if (57 : Int32) < (mI σ 2 (mI σ 1 2).toNatClampNeg) then
            some (0 : Int32)
          else
            some (1 : Int32)
        else none
    else none
set_option maxHeartbeats 4000000 in
set_option maxRecDepth 20000 in
theorem g_Tape_atDigit (X : Cx θ p s m args c cX8_atDigit 1 RX8) (hr : meth.sig.returnType = some .boolean) (hlk : meth.locks = false)  {σ : Mem}  {r : Int32}  (h : f_Tape_atDigit σ  = some r) : GB θ p l e 0 s m args below meth c 1 (some (.int r), σ) 0 [(0, .ref (be θ + 1))] [] σ := by
  unfold f_Tape_atDigit at h
  refine g_aload_n X dX8_atDigit_0 rfl 0 rfl ?_
  refine g_get X fl_RX8_19 dX8_atDigit_1 kd_1 (v := .int (mI σ 1 2)) rfl ?_
  refine g_aload_n X dX8_atDigit_4 rfl 0 rfl ?_
  refine g_get X fl_RX8_15 dX8_atDigit_5 kd_1 (v := .int (mI σ 1 1)) rfl ?_
  refine g_icmp_ge (tgt := 43) X dX8_atDigit_8 (by decide) (fun c1 => ?_) (fun c1 => ?_)
  · replace h := (if_pos c1).symm.trans h
    refine g_iconst X dX8_atDigit_43 (v := (0 : Int32)) ic_0 ?_
    exact g_zret X hr hlk bz0 dX8_atDigit_44 (by cases h; rfl)
  · replace h := (if_neg c1).symm.trans h
    refine g_aload_n X dX8_atDigit_11 rfl 0 rfl ?_
    refine g_get X fl_RX8_9 dX8_atDigit_12 kd_1 (v := .ref (be θ + 2)) rfl ?_
    refine g_aload_n X dX8_atDigit_15 rfl 0 rfl ?_
    refine g_get X fl_RX8_19 dX8_atDigit_16 kd_1 (v := .int (mI σ 1 2)) rfl ?_
    obtain ⟨g2, h⟩ := ite_some h
    refine g_iald X kd_2 ln_2 (inb_in g2) dX8_atDigit_19 ?_
    refine g_bipush X dX8_atDigit_20 (v := (48 : Int32)) bp_48 ?_
    refine g_icmp_lt (tgt := 43) X dX8_atDigit_22 (by decide) (fun c3 => ?_) (fun c3 => ?_)
    · replace h := (if_pos c3).symm.trans h
      refine g_iconst X dX8_atDigit_43 (v := (0 : Int32)) ic_0 ?_
      exact g_zret X hr hlk bz0 dX8_atDigit_44 (by cases h; rfl)
    · replace h := (if_neg c3).symm.trans h
      refine g_aload_n X dX8_atDigit_25 rfl 0 rfl ?_
      refine g_get X fl_RX8_9 dX8_atDigit_26 kd_1 (v := .ref (be θ + 2)) rfl ?_
      refine g_aload_n X dX8_atDigit_29 rfl 0 rfl ?_
      refine g_get X fl_RX8_19 dX8_atDigit_30 kd_1 (v := .int (mI σ 1 2)) rfl ?_
      obtain ⟨g4, h⟩ := ite_some h
      refine g_iald X kd_2 ln_2 (inb_in g4) dX8_atDigit_33 ?_
      refine g_bipush X dX8_atDigit_34 (v := (57 : Int32)) bp_57 ?_
      refine g_icmp_gt (tgt := 43) X dX8_atDigit_36 (by decide) (fun c5 => ?_) (fun c5 => ?_)
      · replace h := (if_pos c5).symm.trans h
        refine g_iconst X dX8_atDigit_43 (v := (0 : Int32)) ic_0 ?_
        exact g_zret X hr hlk bz0 dX8_atDigit_44 (by cases h; rfl)
      · replace h := (if_neg c5).symm.trans h
        refine g_iconst X dX8_atDigit_39 (v := (1 : Int32)) ic_1 ?_
        refine g_goto (tgt := 44) X dX8_atDigit_40 (by decide) ?_
        exact g_zret X hr hlk bz1 dX8_atDigit_44 (by cases h; rfl)
set_option maxHeartbeats 4000000 in
set_option maxRecDepth 20000 in
theorem c_Tape_atDigit {θ : Th} {l : Launch} {σ : Mem}  {r : Int32}  (h : f_Tape_atDigit σ  = some r) : Cn θ l yX8_atDigit cX8_atDigit 1 (some .boolean) 0 0 0 [.ref (be θ + 1)] σ (some (.int r), σ) :=
  Cn.of (by decide) (Nat.le_of_ble_eq_true rfl) (fun p e s m below meth c X hr hlk => g_Tape_atDigit X hr hlk  h)
theorem dX8_passesNumber_0 : decode cX8_passesNumber 0 = .ok (.aload_n 0, 1) := by decide +kernel
theorem dX8_passesNumber_1 : decode cX8_passesNumber 1 = .ok (.invokevirtual 25, 3) := by decide +kernel
theorem dX8_passesNumber_4 : decode cX8_passesNumber 4 = .ok (.pop, 1) := by decide +kernel
theorem dX8_passesNumber_5 : decode cX8_passesNumber 5 = .ok (.aload_n 0, 1) := by decide +kernel
theorem dX8_passesNumber_6 : decode cX8_passesNumber 6 = .ok (.invokevirtual 29, 3) := by decide +kernel
theorem dX8_passesNumber_9 : decode cX8_passesNumber 9 = .ok (.ifCond .ne 5, 3) := by decide +kernel
theorem dX8_passesNumber_12 : decode cX8_passesNumber 12 = .ok (.iconst 0, 1) := by decide +kernel
theorem dX8_passesNumber_13 : decode cX8_passesNumber 13 = .ok (.ireturn, 1) := by decide +kernel
theorem dX8_passesNumber_14 : decode cX8_passesNumber 14 = .ok (.aload_n 0, 1) := by decide +kernel
theorem dX8_passesNumber_15 : decode cX8_passesNumber 15 = .ok (.iconst 0, 1) := by decide +kernel
theorem dX8_passesNumber_16 : decode cX8_passesNumber 16 = .ok (.putfield 22, 3) := by decide +kernel
theorem dX8_passesNumber_19 : decode cX8_passesNumber 19 = .ok (.iconst 0, 1) := by decide +kernel
theorem dX8_passesNumber_20 : decode cX8_passesNumber 20 = .ok (.istore_n 2, 1) := by decide +kernel
theorem dX8_passesNumber_21 : decode cX8_passesNumber 21 = .ok (.iload_n 2, 1) := by decide +kernel
theorem dX8_passesNumber_22 : decode cX8_passesNumber 22 = .ok (.iload_n 1, 1) := by decide +kernel
theorem dX8_passesNumber_23 : decode cX8_passesNumber 23 = .ok (.if_icmp .ge 50, 3) := by decide +kernel
theorem dX8_passesNumber_26 : decode cX8_passesNumber 26 = .ok (.aload_n 0, 1) := by decide +kernel
theorem dX8_passesNumber_27 : decode cX8_passesNumber 27 = .ok (.invokevirtual 29, 3) := by decide +kernel
theorem dX8_passesNumber_30 : decode cX8_passesNumber 30 = .ok (.ifCond .eq 43, 3) := by decide +kernel
theorem dX8_passesNumber_33 : decode cX8_passesNumber 33 = .ok (.aload_n 0, 1) := by decide +kernel
theorem dX8_passesNumber_34 : decode cX8_passesNumber 34 = .ok (.aload_n 0, 1) := by decide +kernel
theorem dX8_passesNumber_35 : decode cX8_passesNumber 35 = .ok (.getfield 22, 3) := by decide +kernel
theorem dX8_passesNumber_38 : decode cX8_passesNumber 38 = .ok (.bipush 10, 2) := by decide +kernel
theorem dX8_passesNumber_40 : decode cX8_passesNumber 40 = .ok (.imul, 1) := by decide +kernel
theorem dX8_passesNumber_41 : decode cX8_passesNumber 41 = .ok (.aload_n 0, 1) := by decide +kernel
theorem dX8_passesNumber_42 : decode cX8_passesNumber 42 = .ok (.getfield 9, 3) := by decide +kernel
theorem dX8_passesNumber_45 : decode cX8_passesNumber 45 = .ok (.aload_n 0, 1) := by decide +kernel
theorem dX8_passesNumber_46 : decode cX8_passesNumber 46 = .ok (.getfield 19, 3) := by decide +kernel
theorem dX8_passesNumber_49 : decode cX8_passesNumber 49 = .ok (.iaload, 1) := by decide +kernel
theorem dX8_passesNumber_50 : decode cX8_passesNumber 50 = .ok (.iadd, 1) := by decide +kernel
theorem dX8_passesNumber_51 : decode cX8_passesNumber 51 = .ok (.bipush 48, 2) := by decide +kernel
theorem dX8_passesNumber_53 : decode cX8_passesNumber 53 = .ok (.isub, 1) := by decide +kernel
theorem dX8_passesNumber_54 : decode cX8_passesNumber 54 = .ok (.putfield 22, 3) := by decide +kernel
theorem dX8_passesNumber_57 : decode cX8_passesNumber 57 = .ok (.aload_n 0, 1) := by decide +kernel
theorem dX8_passesNumber_58 : decode cX8_passesNumber 58 = .ok (.dup, 1) := by decide +kernel
theorem dX8_passesNumber_59 : decode cX8_passesNumber 59 = .ok (.getfield 19, 3) := by decide +kernel
theorem dX8_passesNumber_62 : decode cX8_passesNumber 62 = .ok (.iconst 1, 1) := by decide +kernel
theorem dX8_passesNumber_63 : decode cX8_passesNumber 63 = .ok (.iadd, 1) := by decide +kernel
theorem dX8_passesNumber_64 : decode cX8_passesNumber 64 = .ok (.putfield 19, 3) := by decide +kernel
theorem dX8_passesNumber_67 : decode cX8_passesNumber 67 = .ok (.iinc 2 1, 3) := by decide +kernel
theorem dX8_passesNumber_70 : decode cX8_passesNumber 70 = .ok (.goto (-49), 3) := by decide +kernel
theorem dX8_passesNumber_73 : decode cX8_passesNumber 73 = .ok (.aload_n 0, 1) := by decide +kernel
theorem dX8_passesNumber_74 : decode cX8_passesNumber 74 = .ok (.invokevirtual 29, 3) := by decide +kernel
theorem dX8_passesNumber_77 : decode cX8_passesNumber 77 = .ok (.ifCond .ne 7, 3) := by decide +kernel
theorem dX8_passesNumber_80 : decode cX8_passesNumber 80 = .ok (.iconst 1, 1) := by decide +kernel
theorem dX8_passesNumber_81 : decode cX8_passesNumber 81 = .ok (.goto 4, 3) := by decide +kernel
theorem dX8_passesNumber_84 : decode cX8_passesNumber 84 = .ok (.iconst 0, 1) := by decide +kernel
theorem dX8_passesNumber_85 : decode cX8_passesNumber 85 = .ok (.ireturn, 1) := by decide +kernel
def f_Tape_passesNumber_L21 (x1 : Int32) (a : Mem × Int32) : Option ((Mem × Int32) ⊕ (Mem)) :=
  if x1 ≤ a.2 then
    some (.inr a.1)
  else
    (f_Tape_atDigit a.1).bind fun q5 =>
    if q5 = (0 : Int32) then
      some (.inr a.1)
    else
      if inb (mI a.1 1 2) 240 then
        some (.inl ((sI (sI a.1 1 3 ((((mI a.1 1 3) * (10 : Int32)) + (mI a.1 2 (mI a.1 1 2).toNatClampNeg)) - (48 : Int32))) 1 2 ((mI (sI a.1 1 3 ((((mI a.1 1 3) * (10 : Int32)) + (mI a.1 2 (mI a.1 1 2).toNatClampNeg)) - (48 : Int32))) 1 2) + (1 : Int32))), (a.2 + (1 : Int32))))
      else none
def f_Tape_passesNumber_J73 (σ : Mem) (x1 : Int32) : Option (Int32 × Mem) :=
  (f_Tape_atDigit σ).bind fun q9 =>
  if q9 = (0 : Int32) then
    some ((1 : Int32), σ)
  else
    some ((0 : Int32), σ)
def f_Tape_passesNumber (σ : Mem) (x1 : Int32) : Option (Int32 × Mem) :=
  (f_Tape_sign σ).bind fun q1 =>
  (f_Tape_atDigit q1.2).bind fun q2 =>
  if q2 = (0 : Int32) then
    some ((0 : Int32), q1.2)
  else
    (loopF (f_Tape_passesNumber_L21 x1) FU ((sI q1.2 1 3 (0 : Int32)), (0 : Int32))).bind fun q8 =>
    f_Tape_passesNumber_J73 q8 x1
set_option maxHeartbeats 4000000 in
set_option maxRecDepth 20000 in
theorem gs_Tape_passesNumber_L21 (X : Cx θ p s m args c cX8_passesNumber 3 RX8) (hr : meth.sig.returnType = some .boolean) (hlk : meth.locks = false)  {x1 : Int32} {r : Int32 × Mem}  (a : Mem × Int32) (x : (Mem × Int32) ⊕ (Mem)) (h : f_Tape_passesNumber_L21 x1 a = some x) (hk : Sum.elim (fun a => GB θ p l e 1 s m args below meth c 3 (some (.int r.1), r.2) 21 [(0, .ref (be θ + 1)), (1, .int x1), (2, .int a.2)] [] a.1) (fun b => GB θ p l e 1 s m args below meth c 3 (some (.int r.1), r.2) 73 [(0, .ref (be θ + 1)), (1, .int x1)] [] b) x) : GB θ p l e 1 s m args below meth c 3 (some (.int r.1), r.2) 21 [(0, .ref (be θ + 1)), (1, .int x1), (2, .int a.2)] [] a.1 := by
  unfold f_Tape_passesNumber_L21 at h
  refine g_iload_n X dX8_passesNumber_21 rfl 2 rfl ?_
  refine g_iload_n X dX8_passesNumber_22 rfl 1 rfl ?_
  refine g_icmp_ge (tgt := 73) X dX8_passesNumber_23 (by decide) (fun c4 => ?_) (fun c4 => ?_)
  · replace h := (if_pos c4).symm.trans h
    cases h
    exact g_sub [0, 1] rfl hk
  · replace h := (if_neg c4).symm.trans h
    refine g_aload_n X dX8_passesNumber_26 rfl 0 rfl ?_
    obtain ⟨q5, hq5, h⟩ := Option.bind_eq_some_iff.mp h
    refine g_cV X (c_Tape_atDigit  hq5) lk_RX8_29 my_X8_atDigit (a := 1) (ci := 8) kd_1 (by decide) rfl (As := []) (rest := []) rfl rfl (Nat.le_of_ble_eq_true rfl) ⟨(Nat.le_of_ble_eq_true rfl), (Nat.le_of_ble_eq_true rfl)⟩ ⟨(Nat.le_of_ble_eq_true rfl), (Nat.le_of_ble_eq_true rfl)⟩ dX8_passesNumber_27 (st' := [.int q5]) rfl rfl ?_
    refine g_if_eq (tgt := 73) X dX8_passesNumber_30 (by decide) (fun c6 => ?_) (fun c6 => ?_)
    · replace h := (if_pos c6).symm.trans h
      cases h
      exact g_sub [0, 1] rfl hk
    · replace h := (if_neg c6).symm.trans h
      refine g_aload_n X dX8_passesNumber_33 rfl 0 rfl ?_
      refine g_aload_n X dX8_passesNumber_34 rfl 0 rfl ?_
      refine g_get X fl_RX8_22 dX8_passesNumber_35 kd_1 (v := .int (mI a.1 1 3)) rfl ?_
      refine g_bipush X dX8_passesNumber_38 (v := (10 : Int32)) bp_10 ?_
      refine g_imul X dX8_passesNumber_40 ?_
      refine g_aload_n X dX8_passesNumber_41 rfl 0 rfl ?_
      refine g_get X fl_RX8_9 dX8_passesNumber_42 kd_1 (v := .ref (be θ + 2)) rfl ?_
      refine g_aload_n X dX8_passesNumber_45 rfl 0 rfl ?_
      refine g_get X fl_RX8_19 dX8_passesNumber_46 kd_1 (v := .int (mI a.1 1 2)) rfl ?_
      obtain ⟨g7, h⟩ := ite_some h
      refine g_iald X kd_2 ln_2 (inb_in g7) dX8_passesNumber_49 ?_
      refine g_iadd X dX8_passesNumber_50 ?_
      refine g_bipush X dX8_passesNumber_51 (v := (48 : Int32)) bp_48 ?_
      refine g_isub X dX8_passesNumber_53 ?_
      refine g_putI X fl_RX8_22 dX8_passesNumber_54 kd_1 rfl rfl rfl ?_
      refine g_aload_n X dX8_passesNumber_57 rfl 0 rfl ?_
      refine g_dup X dX8_passesNumber_58 rfl ?_
      refine g_get X fl_RX8_19 dX8_passesNumber_59 kd_1 (v := .int (mI (sI a.1 1 3 ((((mI a.1 1 3) * (10 : Int32)) + (mI a.1 2 (mI a.1 1 2).toNatClampNeg)) - (48 : Int32))) 1 2)) rfl ?_
      refine g_iconst X dX8_passesNumber_62 (v := (1 : Int32)) ic_1 ?_
      refine g_iadd X dX8_passesNumber_63 ?_
      refine g_putI X fl_RX8_19 dX8_passesNumber_64 kd_1 rfl rfl rfl ?_
      refine g_iinc X dX8_passesNumber_67 (kq := 2) rfl (congrArg (HAdd.hAdd _) ic_1) (by decide) (lv' := [(2, .int (a.2 + (1 : Int32))), (0, .ref (be θ + 1)), (1, .int x1)]) rfl ?_
      refine g_goto (tgt := 21) X dX8_passesNumber_70 (by decide) ?_
      cases h
      exact g_sub [1, 2, 0] rfl hk
set_option maxHeartbeats 4000000 in
set_option maxRecDepth 20000 in
theorem gl_Tape_passesNumber_L21 (X : Cx θ p s m args c cX8_passesNumber 3 RX8) (hr : meth.sig.returnType = some .boolean) (hlk : meth.locks = false)  {x1 : Int32} {r : Int32 × Mem}  (n : Nat) (a : Mem × Int32) (b : Mem) (h : loopF (f_Tape_passesNumber_L21 x1) n a = some b) (hk : GB θ p l e 1 s m args below meth c 3 (some (.int r.1), r.2) 73 [(0, .ref (be θ + 1)), (1, .int x1)] [] b) : GB θ p l e 1 s m args below meth c 3 (some (.int r.1), r.2) 21 [(0, .ref (be θ + 1)), (1, .int x1), (2, .int a.2)] [] a.1 :=
  loopF_by (P := fun a => GB θ p l e 1 s m args below meth c 3 (some (.int r.1), r.2) 21 [(0, .ref (be θ + 1)), (1, .int x1), (2, .int a.2)] [] a.1) (K := fun b => GB θ p l e 1 s m args below meth c 3 (some (.int r.1), r.2) 73 [(0, .ref (be θ + 1)), (1, .int x1)] [] b) (fun a x h hk => gs_Tape_passesNumber_L21 X hr hlk   a x h hk) n a b h hk
set_option maxHeartbeats 4000000 in
set_option maxRecDepth 20000 in
theorem g_Tape_passesNumber_J73 (X : Cx θ p s m args c cX8_passesNumber 3 RX8) (hr : meth.sig.returnType = some .boolean) (hlk : meth.locks = false)  {σ : Mem} {x1 : Int32} {r : Int32 × Mem}  (h : f_Tape_passesNumber_J73 σ x1 = some r) : GB θ p l e 1 s m args below meth c 3 (some (.int r.1), r.2) 73 [(0, .ref (be θ + 1)), (1, .int x1)] [] σ := by
  unfold f_Tape_passesNumber_J73 at h
  refine g_aload_n X dX8_passesNumber_73 rfl 0 rfl ?_
  obtain ⟨q9, hq9, h⟩ := Option.bind_eq_some_iff.mp h
  refine g_cV X (c_Tape_atDigit  hq9) lk_RX8_29 my_X8_atDigit (a := 1) (ci := 8) kd_1 (by decide) rfl (As := []) (rest := []) rfl rfl (Nat.le_of_ble_eq_true rfl) ⟨(Nat.le_of_ble_eq_true rfl), (Nat.le_of_ble_eq_true rfl)⟩ ⟨(Nat.le_of_ble_eq_true rfl), (Nat.le_of_ble_eq_true rfl)⟩ dX8_passesNumber_74 (st' := [.int q9]) rfl rfl ?_
  refine g_if_ne (tgt := 84) X dX8_passesNumber_77 (by decide) (fun c10 => ?_) (fun c10 => ?_)
  · replace h := (if_neg c10).symm.trans h
    refine g_iconst X dX8_passesNumber_84 (v := (0 : Int32)) ic_0 ?_
    exact g_zret X hr hlk bz0 dX8_passesNumber_85 (by cases h; rfl)
  · replace h := (if_pos c10).symm.trans h
    refine g_iconst X dX8_passesNumber_80 (v := (1 : Int32)) ic_1 ?_
    refine g_goto (tgt := 85) X dX8_passesNumber_81 (by decide) ?_
    exact g_zret X hr hlk bz1 dX8_passesNumber_85 (by cases h; rfl)
set_option maxHeartbeats 4000000 in
set_option maxRecDepth 20000 in
theorem g_Tape_passesNumber (X : Cx θ p s m args c cX8_passesNumber 3 RX8) (hr : meth.sig.returnType = some .boolean) (hlk : meth.locks = false)  {σ : Mem} {x1 : Int32} {r : Int32 × Mem}  (h : f_Tape_passesNumber σ x1 = some r) : GB θ p l e 1 s m args below meth c 3 (some (.int r.1), r.2) 0 [(0, .ref (be θ + 1)), (1, .int x1)] [] σ := by
  unfold f_Tape_passesNumber at h
  refine g_aload_n X dX8_passesNumber_0 rfl 0 rfl ?_
  obtain ⟨q1, hq1, h⟩ := Option.bind_eq_some_iff.mp h
  refine g_cV X (c_Tape_sign  hq1) lk_RX8_25 my_X8_sign (a := 1) (ci := 8) kd_1 (by decide) rfl (As := []) (rest := []) rfl rfl (Nat.le_of_ble_eq_true rfl) ⟨(Nat.le_of_ble_eq_true rfl), (Nat.le_of_ble_eq_true rfl)⟩ ⟨(Nat.le_of_ble_eq_true rfl), (Nat.le_of_ble_eq_true rfl)⟩ dX8_passesNumber_1 (st' := [.int q1.1]) rfl rfl ?_
  refine g_pop X dX8_passesNumber_4 rfl ?_
  refine g_aload_n X dX8_passesNumber_5 rfl 0 rfl ?_
  obtain ⟨q2, hq2, h⟩ := Option.bind_eq_some_iff.mp h
  refine g_cV X (c_Tape_atDigit  hq2) lk_RX8_29 my_X8_atDigit (a := 1) (ci := 8) kd_1 (by decide) rfl (As := []) (rest := []) rfl rfl (Nat.le_of_ble_eq_true rfl) ⟨(Nat.le_of_ble_eq_true rfl), (Nat.le_of_ble_eq_true rfl)⟩ ⟨(Nat.le_of_ble_eq_true rfl), (Nat.le_of_ble_eq_true rfl)⟩ dX8_passesNumber_6 (st' := [.int q2]) rfl rfl ?_
  refine g_if_ne (tgt := 14) X dX8_passesNumber_9 (by decide) (fun c3 => ?_) (fun c3 => ?_)
  · replace h := (if_neg c3).symm.trans h
    refine g_aload_n X dX8_passesNumber_14 rfl 0 rfl ?_
    refine g_iconst X dX8_passesNumber_15 (v := (0 : Int32)) ic_0 ?_
    refine g_putI X fl_RX8_22 dX8_passesNumber_16 kd_1 rfl rfl rfl ?_
    refine g_iconst X dX8_passesNumber_19 (v := (0 : Int32)) ic_0 ?_
    refine g_istore_n X dX8_passesNumber_20 rfl (by decide) (lv' := [(2, .int (0 : Int32)), (0, .ref (be θ + 1)), (1, .int x1)]) rfl ?_
    obtain ⟨q8, hq8, h⟩ := Option.bind_eq_some_iff.mp h
    refine g_sub [1, 2, 0] rfl (gl_Tape_passesNumber_L21 X hr hlk    FU _ q8 hq8 ?_)
    exact g_sub [0, 1] rfl (g_Tape_passesNumber_J73 X hr hlk    h)
  · replace h := (if_pos c3).symm.trans h
    refine g_iconst X dX8_passesNumber_12 (v := (0 : Int32)) ic_0 ?_
    exact g_zret X hr hlk bz0 dX8_passesNumber_13 (by cases h; rfl)
set_option maxHeartbeats 4000000 in
set_option maxRecDepth 20000 in
theorem c_Tape_passesNumber {θ : Th} {l : Launch} {σ : Mem} {x1 : Int32} {r : Int32 × Mem}  (h : f_Tape_passesNumber σ x1 = some r) : Cn θ l yX8_passesNumber cX8_passesNumber 3 (some .boolean) 1 0 0 [.ref (be θ + 1), .int x1] σ (some (.int r.1), r.2) :=
  Cn.of (by decide) (Nat.le_of_ble_eq_true rfl) (fun p e s m below meth c X hr hlk => g_Tape_passesNumber X hr hlk  h)
theorem dX8_passesNumberWithin_0 : decode cX8_passesNumberWithin 0 = .ok (.aload_n 0, 1) := by decide +kernel
theorem dX8_passesNumberWithin_1 : decode cX8_passesNumberWithin 1 = .ok (.iconst 2, 1) := by decide +kernel
theorem dX8_passesNumberWithin_2 : decode cX8_passesNumberWithin 2 = .ok (.invokevirtual 33, 3) := by decide +kernel
theorem dX8_passesNumberWithin_5 : decode cX8_passesNumberWithin 5 = .ok (.ifCond .ne 5, 3) := by decide +kernel
theorem dX8_passesNumberWithin_8 : decode cX8_passesNumberWithin 8 = .ok (.iconst 0, 1) := by decide +kernel
theorem dX8_passesNumberWithin_9 : decode cX8_passesNumberWithin 9 = .ok (.ireturn, 1) := by decide +kernel
theorem dX8_passesNumberWithin_10 : decode cX8_passesNumberWithin 10 = .ok (.aload_n 0, 1) := by decide +kernel
theorem dX8_passesNumberWithin_11 : decode cX8_passesNumberWithin 11 = .ok (.getfield 22, 3) := by decide +kernel
theorem dX8_passesNumberWithin_14 : decode cX8_passesNumberWithin 14 = .ok (.iload_n 1, 1) := by decide +kernel
theorem dX8_passesNumberWithin_15 : decode cX8_passesNumberWithin 15 = .ok (.if_icmp .lt 11, 3) := by decide +kernel
theorem dX8_passesNumberWithin_18 : decode cX8_passesNumberWithin 18 = .ok (.aload_n 0, 1) := by decide +kernel
theorem dX8_passesNumberWithin_19 : decode cX8_passesNumberWithin 19 = .ok (.getfield 22, 3) := by decide +kernel
theorem dX8_passesNumberWithin_22 : decode cX8_passesNumberWithin 22 = .ok (.iload_n 2, 1) := by decide +kernel
theorem dX8_passesNumberWithin_23 : decode cX8_passesNumberWithin 23 = .ok (.if_icmp .le 15, 3) := by decide +kernel
theorem dX8_passesNumberWithin_26 : decode cX8_passesNumberWithin 26 = .ok (.aload_n 0, 1) := by decide +kernel
theorem dX8_passesNumberWithin_27 : decode cX8_passesNumberWithin 27 = .ok (.dup, 1) := by decide +kernel
theorem dX8_passesNumberWithin_28 : decode cX8_passesNumberWithin 28 = .ok (.getfield 19, 3) := by decide +kernel
theorem dX8_passesNumberWithin_31 : decode cX8_passesNumberWithin 31 = .ok (.iconst 1, 1) := by decide +kernel
theorem dX8_passesNumberWithin_32 : decode cX8_passesNumberWithin 32 = .ok (.isub, 1) := by decide +kernel
theorem dX8_passesNumberWithin_33 : decode cX8_passesNumberWithin 33 = .ok (.putfield 19, 3) := by decide +kernel
theorem dX8_passesNumberWithin_36 : decode cX8_passesNumberWithin 36 = .ok (.iconst 0, 1) := by decide +kernel
theorem dX8_passesNumberWithin_37 : decode cX8_passesNumberWithin 37 = .ok (.ireturn, 1) := by decide +kernel
theorem dX8_passesNumberWithin_38 : decode cX8_passesNumberWithin 38 = .ok (.iconst 1, 1) := by decide +kernel
theorem dX8_passesNumberWithin_39 : decode cX8_passesNumberWithin 39 = .ok (.ireturn, 1) := by decide +kernel
def f_Tape_passesNumberWithin_J26 (σ : Mem) (x1 : Int32) (x2 : Int32) : Option (Int32 × Mem) :=
  some ((0 : Int32), (sI σ 1 2 ((mI σ 1 2) - (1 : Int32))))
def f_Tape_passesNumberWithin (σ : Mem) (x1 : Int32) (x2 : Int32) : Option (Int32 × Mem) :=
  (f_Tape_passesNumber σ (2 : Int32)).bind fun q1 =>
  if q1.1 = (0 : Int32) then
    some ((0 : Int32), q1.2)
  else
    if (mI q1.2 1 3) < x1 then
      f_Tape_passesNumberWithin_J26 q1.2 x1 x2
    else
      if (mI q1.2 1 3) ≤ x2 then
        some ((1 : Int32), q1.2)
      else
        f_Tape_passesNumberWithin_J26 q1.2 x1 x2
set_option maxHeartbeats 4000000 in
set_option maxRecDepth 20000 in
theorem g_Tape_passesNumberWithin_J26 (X : Cx θ p s m args c cX8_passesNumberWithin 3 RX8) (hr : meth.sig.returnType = some .boolean) (hlk : meth.locks = false)  {σ : Mem} {x1 : Int32} {x2 : Int32} {r : Int32 × Mem}  (h : f_Tape_passesNumberWithin_J26 σ x1 x2 = some r) : GB θ p l e 2 s m args below meth c 3 (some (.int r.1), r.2) 26 [(0, .ref (be θ + 1)), (1, .int x1), (2, .int x2)] [] σ := by
  unfold f_Tape_passesNumberWithin_J26 at h
  refine g_aload_n X dX8_passesNumberWithin_26 rfl 0 rfl ?_
  refine g_dup X dX8_passesNumberWithin_27 rfl ?_
  refine g_get X fl_RX8_19 dX8_passesNumberWithin_28 kd_1 (v := .int (mI σ 1 2)) rfl ?_
  refine g_iconst X dX8_passesNumberWithin_31 (v := (1 : Int32)) ic_1 ?_
  refine g_isub X dX8_passesNumberWithin_32 ?_
  refine g_putI X fl_RX8_19 dX8_passesNumberWithin_33 kd_1 rfl rfl rfl ?_
  refine g_iconst X dX8_passesNumberWithin_36 (v := (0 : Int32)) ic_0 ?_
  exact g_zret X hr hlk bz0 dX8_passesNumberWithin_37 (by cases h; rfl)
set_option maxHeartbeats 4000000 in
set_option maxRecDepth 20000 in
theorem g_Tape_passesNumberWithin (X : Cx θ p s m args c cX8_passesNumberWithin 3 RX8) (hr : meth.sig.returnType = some .boolean) (hlk : meth.locks = false)  {σ : Mem} {x1 : Int32} {x2 : Int32} {r : Int32 × Mem}  (h : f_Tape_passesNumberWithin σ x1 x2 = some r) : GB θ p l e 2 s m args below meth c 3 (some (.int r.1), r.2) 0 [(0, .ref (be θ + 1)), (1, .int x1), (2, .int x2)] [] σ := by
  unfold f_Tape_passesNumberWithin at h
  refine g_aload_n X dX8_passesNumberWithin_0 rfl 0 rfl ?_
  refine g_iconst X dX8_passesNumberWithin_1 (v := (2 : Int32)) ic_2 ?_
  obtain ⟨q1, hq1, h⟩ := Option.bind_eq_some_iff.mp h
  refine g_cV X (c_Tape_passesNumber  hq1) lk_RX8_33 my_X8_passesNumber (a := 1) (ci := 8) kd_1 (by decide) rfl (As := [.int (2 : Int32)]) (rest := []) rfl rfl (Nat.le_of_ble_eq_true rfl) ⟨(Nat.le_of_ble_eq_true rfl), (Nat.le_of_ble_eq_true rfl)⟩ ⟨(Nat.le_of_ble_eq_true rfl), (Nat.le_of_ble_eq_true rfl)⟩ dX8_passesNumberWithin_2 (st' := [.int q1.1]) rfl rfl ?_
  refine g_if_ne (tgt := 10) X dX8_passesNumberWithin_5 (by decide) (fun c2 => ?_) (fun c2 => ?_)
  · replace h := (if_neg c2).symm.trans h
    refine g_aload_n X dX8_passesNumberWithin_10 rfl 0 rfl ?_
    refine g_get X fl_RX8_22 dX8_passesNumberWithin_11 kd_1 (v := .int (mI q1.2 1 3)) rfl ?_
    refine g_iload_n X dX8_passesNumberWithin_14 rfl 1 rfl ?_
    refine g_icmp_lt (tgt := 26) X dX8_passesNumberWithin_15 (by decide) (fun c3 => ?_) (fun c3 => ?_)
    · replace h := (if_pos c3).symm.trans h
      exact g_sub [0, 1, 2] rfl (g_Tape_passesNumberWithin_J26 X hr hlk    h)
    · replace h := (if_neg c3).symm.trans h
      refine g_aload_n X dX8_passesNumberWithin_18 rfl 0 rfl ?_
      refine g_get X fl_RX8_22 dX8_passesNumberWithin_19 kd_1 (v := .int (mI q1.2 1 3)) rfl ?_
      refine g_iload_n X dX8_passesNumberWithin_22 rfl 2 rfl ?_
      refine g_icmp_le (tgt := 38) X dX8_passesNumberWithin_23 (by decide) (fun c4 => ?_) (fun c4 => ?_)
      · replace h := (if_pos c4).symm.trans h
        refine g_iconst X dX8_passesNumberWithin_38 (v := (1 : Int32)) ic_1 ?_
        exact g_zret X hr hlk bz1 dX8_passesNumberWithin_39 (by cases h; rfl)
      · replace h := (if_neg c4).symm.trans h
        exact g_sub [0, 1, 2] rfl (g_Tape_passesNumberWithin_J26 X hr hlk    h)
  · replace h := (if_pos c2).symm.trans h
    refine g_iconst X dX8_passesNumberWithin_8 (v := (0 : Int32)) ic_0 ?_
    exact g_zret X hr hlk bz0 dX8_passesNumberWithin_9 (by cases h; rfl)
set_option maxHeartbeats 4000000 in
set_option maxRecDepth 20000 in
theorem c_Tape_passesNumberWithin {θ : Th} {l : Launch} {σ : Mem} {x1 : Int32} {x2 : Int32} {r : Int32 × Mem}  (h : f_Tape_passesNumberWithin σ x1 x2 = some r) : Cn θ l yX8_passesNumberWithin cX8_passesNumberWithin 3 (some .boolean) 2 0 0 [.ref (be θ + 1), .int x1, .int x2] σ (some (.int r.1), r.2) :=
  Cn.of (by decide) (Nat.le_of_ble_eq_true rfl) (fun p e s m below meth c X hr hlk => g_Tape_passesNumberWithin X hr hlk  h)
theorem dX8_passesDigit_0 : decode cX8_passesDigit 0 = .ok (.aload_n 0, 1) := by decide +kernel
theorem dX8_passesDigit_1 : decode cX8_passesDigit 1 = .ok (.invokevirtual 25, 3) := by decide +kernel
theorem dX8_passesDigit_4 : decode cX8_passesDigit 4 = .ok (.pop, 1) := by decide +kernel
theorem dX8_passesDigit_5 : decode cX8_passesDigit 5 = .ok (.aload_n 0, 1) := by decide +kernel
theorem dX8_passesDigit_6 : decode cX8_passesDigit 6 = .ok (.invokevirtual 29, 3) := by decide +kernel
theorem dX8_passesDigit_9 : decode cX8_passesDigit 9 = .ok (.ifCond .ne 5, 3) := by decide +kernel
theorem dX8_passesDigit_12 : decode cX8_passesDigit 12 = .ok (.iconst 0, 1) := by decide +kernel
theorem dX8_passesDigit_13 : decode cX8_passesDigit 13 = .ok (.ireturn, 1) := by decide +kernel
theorem dX8_passesDigit_14 : decode cX8_passesDigit 14 = .ok (.aload_n 0, 1) := by decide +kernel
theorem dX8_passesDigit_15 : decode cX8_passesDigit 15 = .ok (.aload_n 0, 1) := by decide +kernel
theorem dX8_passesDigit_16 : decode cX8_passesDigit 16 = .ok (.getfield 9, 3) := by decide +kernel
theorem dX8_passesDigit_19 : decode cX8_passesDigit 19 = .ok (.aload_n 0, 1) := by decide +kernel
theorem dX8_passesDigit_20 : decode cX8_passesDigit 20 = .ok (.getfield 19, 3) := by decide +kernel
theorem dX8_passesDigit_23 : decode cX8_passesDigit 23 = .ok (.iaload, 1) := by decide +kernel
theorem dX8_passesDigit_24 : decode cX8_passesDigit 24 = .ok (.bipush 48, 2) := by decide +kernel
theorem dX8_passesDigit_26 : decode cX8_passesDigit 26 = .ok (.isub, 1) := by decide +kernel
theorem dX8_passesDigit_27 : decode cX8_passesDigit 27 = .ok (.putfield 22, 3) := by decide +kernel
theorem dX8_passesDigit_30 : decode cX8_passesDigit 30 = .ok (.aload_n 0, 1) := by decide +kernel
theorem dX8_passesDigit_31 : decode cX8_passesDigit 31 = .ok (.dup, 1) := by decide +kernel
theorem dX8_passesDigit_32 : decode cX8_passesDigit 32 = .ok (.getfield 19, 3) := by decide +kernel
theorem dX8_passesDigit_35 : decode cX8_passesDigit 35 = .ok (.iconst 1, 1) := by decide +kernel
theorem dX8_passesDigit_36 : decode cX8_passesDigit 36 = .ok (.iadd, 1) := by decide +kernel
theorem dX8_passesDigit_37 : decode cX8_passesDigit 37 = .ok (.putfield 19, 3) := by decide +kernel
theorem dX8_passesDigit_40 : decode cX8_passesDigit 40 = .ok (.iconst 1, 1) := by decide +kernel
theorem dX8_passesDigit_41 : decode cX8_passesDigit 41 = .ok (.ireturn, 1) := by decide +kernel
def f_Tape_passesDigit (σ : Mem)  : Option (Int32 × Mem) :=
  (f_Tape_sign σ).bind fun q1 =>
  (f_Tape_atDigit q1.2).bind fun q2 =>
  if q2 = (0 : Int32) then
    some ((0 : Int32), q1.2)
  else
    if inb (mI q1.2 1 2) 240 then
      some ((1 : Int32), (sI (sI q1.2 1 3 ((mI q1.2 2 (mI q1.2 1 2).toNatClampNeg) - (48 : Int32))) 1 2 ((mI (sI q1.2 1 3 ((mI q1.2 2 (mI q1.2 1 2).toNatClampNeg) - (48 : Int32))) 1 2) + (1 : Int32))))
    else none
set_option maxHeartbeats 4000000 in
set_option maxRecDepth 20000 in
theorem g_Tape_passesDigit (X : Cx θ p s m args c cX8_passesDigit 1 RX8) (hr : meth.sig.returnType = some .boolean) (hlk : meth.locks = false)  {σ : Mem}  {r : Int32 × Mem}  (h : f_Tape_passesDigit σ  = some r) : GB θ p l e 1 s m args below meth c 1 (some (.int r.1), r.2) 0 [(0, .ref (be θ + 1))] [] σ := by
  unfold f_Tape_passesDigit at h
  refine g_aload_n X dX8_passesDigit_0 rfl 0 rfl ?_
  obtain ⟨q1, hq1, h⟩ := Option.bind_eq_some_iff.mp h
  refine g_cV X (c_Tape_sign  hq1) lk_RX8_25 my_X8_sign (a := 1) (ci := 8) kd_1 (by decide) rfl (As := []) (rest := []) rfl rfl (Nat.le_of_ble_eq_true rfl) ⟨(Nat.le_of_ble_eq_true rfl), (Nat.le_of_ble_eq_true rfl)⟩ ⟨(Nat.le_of_ble_eq_true rfl), (Nat.le_of_ble_eq_true rfl)⟩ dX8_passesDigit_1 (st' := [.int q1.1]) rfl rfl ?_
  refine g_pop X dX8_passesDigit_4 rfl ?_
  refine g_aload_n X dX8_passesDigit_5 rfl 0 rfl ?_
  obtain ⟨q2, hq2, h⟩ := Option.bind_eq_some_iff.mp h
  refine g_cV X (c_Tape_atDigit  hq2) lk_RX8_29 my_X8_atDigit (a := 1) (ci := 8) kd_1 (by decide) rfl (As := []) (rest := []) rfl rfl (Nat.le_of_ble_eq_true rfl) ⟨(Nat.le_of_ble_eq_true rfl), (Nat.le_of_ble_eq_true rfl)⟩ ⟨(Nat.le_of_ble_eq_true rfl), (Nat.le_of_ble_eq_true rfl)⟩ dX8_passesDigit_6 (st' := [.int q2]) rfl rfl ?_
  refine g_if_ne (tgt := 14) X dX8_passesDigit_9 (by decide) (fun c3 => ?_) (fun c3 => ?_)
  · replace h := (if_neg c3).symm.trans h
    refine g_aload_n X dX8_passesDigit_14 rfl 0 rfl ?_
    refine g_aload_n X dX8_passesDigit_15 rfl 0 rfl ?_
    refine g_get X fl_RX8_9 dX8_passesDigit_16 kd_1 (v := .ref (be θ + 2)) rfl ?_
    refine g_aload_n X dX8_passesDigit_19 rfl 0 rfl ?_
    refine g_get X fl_RX8_19 dX8_passesDigit_20 kd_1 (v := .int (mI q1.2 1 2)) rfl ?_
    obtain ⟨g4, h⟩ := ite_some h
    refine g_iald X kd_2 ln_2 (inb_in g4) dX8_passesDigit_23 ?_
    refine g_bipush X dX8_passesDigit_24 (v := (48 : Int32)) bp_48 ?_
    refine g_isub X dX8_passesDigit_26 ?_
    refine g_putI X fl_RX8_22 dX8_passesDigit_27 kd_1 rfl rfl rfl ?_
    refine g_aload_n X dX8_passesDigit_30 rfl 0 rfl ?_
    refine g_dup X dX8_passesDigit_31 rfl ?_
    refine g_get X fl_RX8_19 dX8_passesDigit_32 kd_1 (v := .int (mI (sI q1.2 1 3 ((mI q1.2 2 (mI q1.2 1 2).toNatClampNeg) - (48 : Int32))) 1 2)) rfl ?_
    refine g_iconst X dX8_passesDigit_35 (v := (1 : Int32)) ic_1 ?_
    refine g_iadd X dX8_passesDigit_36 ?_
    refine g_putI X fl_RX8_19 dX8_passesDigit_37 kd_1 rfl rfl rfl ?_
    refine g_iconst X dX8_passesDigit_40 (v := (1 : Int32)) ic_1 ?_
    exact g_zret X hr hlk bz1 dX8_passesDigit_41 (by cases h; rfl)
  · replace h := (if_pos c3).symm.trans h
    refine g_iconst X dX8_passesDigit_12 (v := (0 : Int32)) ic_0 ?_
    exact g_zret X hr hlk bz0 dX8_passesDigit_13 (by cases h; rfl)
set_option maxHeartbeats 4000000 in
set_option maxRecDepth 20000 in
theorem c_Tape_passesDigit {θ : Th} {l : Launch} {σ : Mem}  {r : Int32 × Mem}  (h : f_Tape_passesDigit σ  = some r) : Cn θ l yX8_passesDigit cX8_passesDigit 1 (some .boolean) 1 0 0 [.ref (be θ + 1)] σ (some (.int r.1), r.2) :=
  Cn.of (by decide) (Nat.le_of_ble_eq_true rfl) (fun p e s m below meth c X hr hlk => g_Tape_passesDigit X hr hlk  h)
theorem dJ7_fill_53178_0 : decode cJ7_fill_53178 0 = .ok (.iconst 0, 1) := by decide +kernel
theorem dJ7_fill_53178_1 : decode cJ7_fill_53178 1 = .ok (.istore_n 2, 1) := by decide +kernel
theorem dJ7_fill_53178_2 : decode cJ7_fill_53178 2 = .ok (.aload_n 0, 1) := by decide +kernel
theorem dJ7_fill_53178_3 : decode cJ7_fill_53178 3 = .ok (.arraylength, 1) := by decide +kernel
theorem dJ7_fill_53178_4 : decode cJ7_fill_53178 4 = .ok (.istore_n 3, 1) := by decide +kernel
theorem dJ7_fill_53178_5 : decode cJ7_fill_53178 5 = .ok (.iload_n 2, 1) := by decide +kernel
theorem dJ7_fill_53178_6 : decode cJ7_fill_53178 6 = .ok (.iload_n 3, 1) := by decide +kernel
theorem dJ7_fill_53178_7 : decode cJ7_fill_53178 7 = .ok (.if_icmp .ge 13, 3) := by decide +kernel
theorem dJ7_fill_53178_10 : decode cJ7_fill_53178 10 = .ok (.aload_n 0, 1) := by decide +kernel
theorem dJ7_fill_53178_11 : decode cJ7_fill_53178 11 = .ok (.iload_n 2, 1) := by decide +kernel
theorem dJ7_fill_53178_12 : decode cJ7_fill_53178 12 = .ok (.iload_n 1, 1) := by decide +kernel
theorem dJ7_fill_53178_13 : decode cJ7_fill_53178 13 = .ok (.iastore, 1) := by decide +kernel
theorem dJ7_fill_53178_14 : decode cJ7_fill_53178 14 = .ok (.iinc 2 1, 3) := by decide +kernel
theorem dJ7_fill_53178_17 : decode cJ7_fill_53178 17 = .ok (.goto (-12), 3) := by decide +kernel
theorem dJ7_fill_53178_20 : decode cJ7_fill_53178 20 = .ok (.return_, 1) := by decide +kernel
def f_Arrays_fill_L5 (x0 : Nat) (x1 : Int32) (y3 : Int32) (a : Mem × Int32) : Option ((Mem × Int32) ⊕ (Mem)) :=
  if y3 ≤ a.2 then
    some (.inr a.1)
  else
    if inb a.2 (ln x0) then
      some (.inl ((sI a.1 x0 a.2.toNatClampNeg x1), (a.2 + (1 : Int32))))
    else none
def f_Arrays_fill (σ : Mem) (x0 : Nat) (x1 : Int32) : Option (Mem) :=
  loopF (f_Arrays_fill_L5 x0 x1 (Int32.ofNat (ln x0))) FU (σ, (0 : Int32))
set_option maxHeartbeats 4000000 in
set_option maxRecDepth 20000 in
theorem gs_Arrays_fill_L5 (X : Cx θ p s m args c cJ7_fill_53178 4 RJ7) (hr : meth.sig.returnType = none) (hlk : meth.locks = false)  {x0 : Nat} {x1 : Int32} {y3 : Int32} {r : Mem} (h0 : kd x0 = 13) (a : Mem × Int32) (x : (Mem × Int32) ⊕ (Mem)) (h : f_Arrays_fill_L5 x0 x1 y3 a = some x) (hk : Sum.elim (fun a => GB θ p l e 0 s m args below meth c 4 (none, r) 5 [(0, .ref (be θ + x0)), (1, .int x1), (2, .int a.2), (3, .int y3)] [] a.1) (fun b => b = r) x) : GB θ p l e 0 s m args below meth c 4 (none, r) 5 [(0, .ref (be θ + x0)), (1, .int x1), (2, .int a.2), (3, .int y3)] [] a.1 := by
  unfold f_Arrays_fill_L5 at h
  refine g_iload_n X dJ7_fill_53178_5 rfl 2 rfl ?_
  refine g_iload_n X dJ7_fill_53178_6 rfl 3 rfl ?_
  refine g_icmp_ge (tgt := 20) X dJ7_fill_53178_7 (by decide) (fun c1 => ?_) (fun c1 => ?_)
  · replace h := (if_pos c1).symm.trans h
    cases h
    have hk : a.1 = r := hk
    subst hk
    exact g_vret X hr hlk dJ7_fill_53178_20 rfl
  · replace h := (if_neg c1).symm.trans h
    refine g_aload_n X dJ7_fill_53178_10 rfl 0 rfl ?_
    refine g_iload_n X dJ7_fill_53178_11 rfl 2 rfl ?_
    refine g_iload_n X dJ7_fill_53178_12 rfl 1 rfl ?_
    obtain ⟨g2, h⟩ := ite_some h
    refine g_iast X h0 rfl (inb_in g2) dJ7_fill_53178_13 ?_
    refine g_iinc X dJ7_fill_53178_14 (kq := 2) rfl (congrArg (HAdd.hAdd _) ic_1) (by decide) (lv' := [(2, .int (a.2 + (1 : Int32))), (0, .ref (be θ + x0)), (1, .int x1), (3, .int y3)]) rfl ?_
    refine g_goto (tgt := 5) X dJ7_fill_53178_17 (by decide) ?_
    cases h
    exact g_sub [1, 2, 0, 3] rfl hk
set_option maxHeartbeats 4000000 in
set_option maxRecDepth 20000 in
theorem gl_Arrays_fill_L5 (X : Cx θ p s m args c cJ7_fill_53178 4 RJ7) (hr : meth.sig.returnType = none) (hlk : meth.locks = false)  {x0 : Nat} {x1 : Int32} {y3 : Int32} {r : Mem} (h0 : kd x0 = 13) (n : Nat) (a : Mem × Int32) (b : Mem) (h : loopF (f_Arrays_fill_L5 x0 x1 y3) n a = some b) (hk : b = r) : GB θ p l e 0 s m args below meth c 4 (none, r) 5 [(0, .ref (be θ + x0)), (1, .int x1), (2, .int a.2), (3, .int y3)] [] a.1 :=
  loopF_by (P := fun a => GB θ p l e 0 s m args below meth c 4 (none, r) 5 [(0, .ref (be θ + x0)), (1, .int x1), (2, .int a.2), (3, .int y3)] [] a.1) (K := fun b => b = r) (fun a x h hk => gs_Arrays_fill_L5 X hr hlk  h0 a x h hk) n a b h hk
set_option maxHeartbeats 4000000 in
set_option maxRecDepth 20000 in
theorem g_Arrays_fill (X : Cx θ p s m args c cJ7_fill_53178 4 RJ7) (hr : meth.sig.returnType = none) (hlk : meth.locks = false)  {σ : Mem} {x0 : Nat} {x1 : Int32} {r : Mem} (h0 : kd x0 = 13) (h : f_Arrays_fill σ x0 x1 = some r) : GB θ p l e 0 s m args below meth c 4 (none, r) 0 [(0, .ref (be θ + x0)), (1, .int x1)] [] σ := by
  unfold f_Arrays_fill at h
  refine g_iconst X dJ7_fill_53178_0 (v := (0 : Int32)) ic_0 ?_
  refine g_istore_n X dJ7_fill_53178_1 rfl (by decide) (lv' := [(2, .int (0 : Int32)), (0, .ref (be θ + x0)), (1, .int x1)]) rfl ?_
  refine g_aload_n X dJ7_fill_53178_2 rfl 1 rfl ?_
  refine g_alen X h0 (by decide) rfl (v := (Int32.ofNat (ln x0))) rfl dJ7_fill_53178_3 ?_
  refine g_istore_n X dJ7_fill_53178_4 rfl (by decide) (lv' := [(3, .int (Int32.ofNat (ln x0))), (2, .int (0 : Int32)), (0, .ref (be θ + x0)), (1, .int x1)]) rfl ?_
  exact g_sub [2, 3, 1, 0] rfl (gl_Arrays_fill_L5 X hr hlk  h0  FU _ _ h rfl)
set_option maxHeartbeats 4000000 in
set_option maxRecDepth 20000 in
theorem c_Arrays_fill {θ : Th} {l : Launch} {σ : Mem} {x0 : Nat} {x1 : Int32} {r : Mem} (h0 : kd x0 = 13) (h : f_Arrays_fill σ x0 x1 = some r) : Cn θ l yJ7_fill_53178 cJ7_fill_53178 4 (none) 0 0 0 [.ref (be θ + x0), .int x1] σ (none, r) :=
  Cn.of (by decide) (Nat.le_of_ble_eq_true rfl) (fun p e s m below meth c X hr hlk => g_Arrays_fill X hr hlk h0 h)
theorem dX1_weightTold_0 : decode cX1_weightTold 0 = .ok (.aload_n 0, 1) := by decide +kernel
theorem dX1_weightTold_1 : decode cX1_weightTold 1 = .ok (.getfield 15, 3) := by decide +kernel
theorem dX1_weightTold_4 : decode cX1_weightTold 4 = .ok (.iload_n 1, 1) := by decide +kernel
theorem dX1_weightTold_5 : decode cX1_weightTold 5 = .ok (.iconst 3, 1) := by decide +kernel
theorem dX1_weightTold_6 : decode cX1_weightTold 6 = .ok (.imul, 1) := by decide +kernel
theorem dX1_weightTold_7 : decode cX1_weightTold 7 = .ok (.iconst 1, 1) := by decide +kernel
theorem dX1_weightTold_8 : decode cX1_weightTold 8 = .ok (.iadd, 1) := by decide +kernel
theorem dX1_weightTold_9 : decode cX1_weightTold 9 = .ok (.iaload, 1) := by decide +kernel
theorem dX1_weightTold_10 : decode cX1_weightTold 10 = .ok (.ireturn, 1) := by decide +kernel
def f_City_weightTold (σ : Mem) (x0 : Nat) (x1 : Int32) : Option (Int32) :=
  if inb ((x1 * (3 : Int32)) + (1 : Int32)) 24 then
    some (mI σ (x0 + 2) ((x1 * (3 : Int32)) + (1 : Int32)).toNatClampNeg)
  else none
set_option maxHeartbeats 4000000 in
set_option maxRecDepth 20000 in
theorem g_City_weightTold (X : Cx θ p s m args c cX1_weightTold 2 RX1) (hr : meth.sig.returnType = some .int) (hlk : meth.locks = false)  {σ : Mem} {x0 : Nat} {x1 : Int32} {r : Int32} (h0 : kd x0 = 2) (h : f_City_weightTold σ x0 x1 = some r) : GB θ p l e 0 s m args below meth c 2 (some (.int r), σ) 0 [(0, .ref (be θ + x0)), (1, .int x1)] [] σ := by
  unfold f_City_weightTold at h
  refine g_aload_n X dX1_weightTold_0 rfl 0 rfl ?_
  refine g_get X fl_RX1_15 dX1_weightTold_1 h0 (v := .ref (be θ + (x0 + 2))) rfl ?_
  refine g_iload_n X dX1_weightTold_4 rfl 1 rfl ?_
  refine g_iconst X dX1_weightTold_5 (v := (3 : Int32)) ic_3 ?_
  refine g_imul X dX1_weightTold_6 ?_
  refine g_iconst X dX1_weightTold_7 (v := (1 : Int32)) ic_1 ?_
  refine g_iadd X dX1_weightTold_8 ?_
  obtain ⟨g1, h⟩ := ite_some h
  refine g_iald X (lk1_1 h0).1 (lk1_1 h0).2 (inb_in g1) dX1_weightTold_9 ?_
  exact g_iret X hr hlk dX1_weightTold_10 (by cases h; rfl)
set_option maxHeartbeats 4000000 in
set_option maxRecDepth 20000 in
theorem c_City_weightTold {θ : Th} {l : Launch} {σ : Mem} {x0 : Nat} {x1 : Int32} {r : Int32} (h0 : kd x0 = 2) (h : f_City_weightTold σ x0 x1 = some r) : Cn θ l yX1_weightTold cX1_weightTold 2 (some .int) 0 0 0 [.ref (be θ + x0), .int x1] σ (some (.int r), σ) :=
  Cn.of (by decide) (Nat.le_of_ble_eq_true rfl) (fun p e s m below meth c X hr hlk => g_City_weightTold X hr hlk h0 h)
theorem dX1_purseTold_0 : decode cX1_purseTold 0 = .ok (.aload_n 0, 1) := by decide +kernel
theorem dX1_purseTold_1 : decode cX1_purseTold 1 = .ok (.getfield 18, 3) := by decide +kernel
theorem dX1_purseTold_4 : decode cX1_purseTold 4 = .ok (.iload_n 1, 1) := by decide +kernel
theorem dX1_purseTold_5 : decode cX1_purseTold 5 = .ok (.iconst 4, 1) := by decide +kernel
theorem dX1_purseTold_6 : decode cX1_purseTold 6 = .ok (.imul, 1) := by decide +kernel
theorem dX1_purseTold_7 : decode cX1_purseTold 7 = .ok (.iaload, 1) := by decide +kernel
theorem dX1_purseTold_8 : decode cX1_purseTold 8 = .ok (.ireturn, 1) := by decide +kernel
def f_City_purseTold (σ : Mem) (x0 : Nat) (x1 : Int32) : Option (Int32) :=
  if inb (x1 * (4 : Int32)) 24 then
    some (mI σ (x0 + 3) (x1 * (4 : Int32)).toNatClampNeg)
  else none
set_option maxHeartbeats 4000000 in
set_option maxRecDepth 20000 in
theorem g_City_purseTold (X : Cx θ p s m args c cX1_purseTold 2 RX1) (hr : meth.sig.returnType = some .int) (hlk : meth.locks = false)  {σ : Mem} {x0 : Nat} {x1 : Int32} {r : Int32} (h0 : kd x0 = 2) (h : f_City_purseTold σ x0 x1 = some r) : GB θ p l e 0 s m args below meth c 2 (some (.int r), σ) 0 [(0, .ref (be θ + x0)), (1, .int x1)] [] σ := by
  unfold f_City_purseTold at h
  refine g_aload_n X dX1_purseTold_0 rfl 0 rfl ?_
  refine g_get X fl_RX1_18 dX1_purseTold_1 h0 (v := .ref (be θ + (x0 + 3))) rfl ?_
  refine g_iload_n X dX1_purseTold_4 rfl 1 rfl ?_
  refine g_iconst X dX1_purseTold_5 (v := (4 : Int32)) ic_4 ?_
  refine g_imul X dX1_purseTold_6 ?_
  obtain ⟨g1, h⟩ := ite_some h
  refine g_iald X (lk1_2 h0).1 (lk1_2 h0).2 (inb_in g1) dX1_purseTold_7 ?_
  exact g_iret X hr hlk dX1_purseTold_8 (by cases h; rfl)
set_option maxHeartbeats 4000000 in
set_option maxRecDepth 20000 in
theorem c_City_purseTold {θ : Th} {l : Launch} {σ : Mem} {x0 : Nat} {x1 : Int32} {r : Int32} (h0 : kd x0 = 2) (h : f_City_purseTold σ x0 x1 = some r) : Cn θ l yX1_purseTold cX1_purseTold 2 (some .int) 0 0 0 [.ref (be θ + x0), .int x1] σ (some (.int r), σ) :=
  Cn.of (by decide) (Nat.le_of_ble_eq_true rfl) (fun p e s m below meth c X hr hlk => g_City_purseTold X hr hlk h0 h)
theorem dX1_desireTold_0 : decode cX1_desireTold 0 = .ok (.aload_n 0, 1) := by decide +kernel
theorem dX1_desireTold_1 : decode cX1_desireTold 1 = .ok (.getfield 18, 3) := by decide +kernel
theorem dX1_desireTold_4 : decode cX1_desireTold 4 = .ok (.iload_n 1, 1) := by decide +kernel
theorem dX1_desireTold_5 : decode cX1_desireTold 5 = .ok (.iconst 4, 1) := by decide +kernel
theorem dX1_desireTold_6 : decode cX1_desireTold 6 = .ok (.imul, 1) := by decide +kernel
theorem dX1_desireTold_7 : decode cX1_desireTold 7 = .ok (.iconst 1, 1) := by decide +kernel
theorem dX1_desireTold_8 : decode cX1_desireTold 8 = .ok (.iadd, 1) := by decide +kernel
theorem dX1_desireTold_9 : decode cX1_desireTold 9 = .ok (.iaload, 1) := by decide +kernel
theorem dX1_desireTold_10 : decode cX1_desireTold 10 = .ok (.ireturn, 1) := by decide +kernel
def f_City_desireTold (σ : Mem) (x0 : Nat) (x1 : Int32) : Option (Int32) :=
  if inb ((x1 * (4 : Int32)) + (1 : Int32)) 24 then
    some (mI σ (x0 + 3) ((x1 * (4 : Int32)) + (1 : Int32)).toNatClampNeg)
  else none
set_option maxHeartbeats 4000000 in
set_option maxRecDepth 20000 in
theorem g_City_desireTold (X : Cx θ p s m args c cX1_desireTold 2 RX1) (hr : meth.sig.returnType = some .int) (hlk : meth.locks = false)  {σ : Mem} {x0 : Nat} {x1 : Int32} {r : Int32} (h0 : kd x0 = 2) (h : f_City_desireTold σ x0 x1 = some r) : GB θ p l e 0 s m args below meth c 2 (some (.int r), σ) 0 [(0, .ref (be θ + x0)), (1, .int x1)] [] σ := by
  unfold f_City_desireTold at h
  refine g_aload_n X dX1_desireTold_0 rfl 0 rfl ?_
  refine g_get X fl_RX1_18 dX1_desireTold_1 h0 (v := .ref (be θ + (x0 + 3))) rfl ?_
  refine g_iload_n X dX1_desireTold_4 rfl 1 rfl ?_
  refine g_iconst X dX1_desireTold_5 (v := (4 : Int32)) ic_4 ?_
  refine g_imul X dX1_desireTold_6 ?_
  refine g_iconst X dX1_desireTold_7 (v := (1 : Int32)) ic_1 ?_
  refine g_iadd X dX1_desireTold_8 ?_
  obtain ⟨g1, h⟩ := ite_some h
  refine g_iald X (lk1_2 h0).1 (lk1_2 h0).2 (inb_in g1) dX1_desireTold_9 ?_
  exact g_iret X hr hlk dX1_desireTold_10 (by cases h; rfl)
set_option maxHeartbeats 4000000 in
set_option maxRecDepth 20000 in
theorem c_City_desireTold {θ : Th} {l : Launch} {σ : Mem} {x0 : Nat} {x1 : Int32} {r : Int32} (h0 : kd x0 = 2) (h : f_City_desireTold σ x0 x1 = some r) : Cn θ l yX1_desireTold cX1_desireTold 2 (some .int) 0 0 0 [.ref (be θ + x0), .int x1] σ (some (.int r), σ) :=
  Cn.of (by decide) (Nat.le_of_ble_eq_true rfl) (fun p e s m below meth c X hr hlk => g_City_desireTold X hr hlk h0 h)
theorem dX1_rateTold_0 : decode cX1_rateTold 0 = .ok (.aload_n 0, 1) := by decide +kernel
theorem dX1_rateTold_1 : decode cX1_rateTold 1 = .ok (.getfield 11, 3) := by decide +kernel
theorem dX1_rateTold_4 : decode cX1_rateTold 4 = .ok (.iconst 0, 1) := by decide +kernel
theorem dX1_rateTold_5 : decode cX1_rateTold 5 = .ok (.iaload, 1) := by decide +kernel
theorem dX1_rateTold_6 : decode cX1_rateTold 6 = .ok (.ireturn, 1) := by decide +kernel
def f_City_rateTold (σ : Mem) (x0 : Nat) : Option (Int32) :=
  if inb (0 : Int32) 4 then
    some (mI σ (x0 + 1) (0 : Int32).toNatClampNeg)
  else none
set_option maxHeartbeats 4000000 in
set_option maxRecDepth 20000 in
theorem g_City_rateTold (X : Cx θ p s m args c cX1_rateTold 1 RX1) (hr : meth.sig.returnType = some .int) (hlk : meth.locks = false)  {σ : Mem} {x0 : Nat} {r : Int32} (h0 : kd x0 = 2) (h : f_City_rateTold σ x0 = some r) : GB θ p l e 0 s m args below meth c 1 (some (.int r), σ) 0 [(0, .ref (be θ + x0))] [] σ := by
  unfold f_City_rateTold at h
  refine g_aload_n X dX1_rateTold_0 rfl 0 rfl ?_
  refine g_get X fl_RX1_11 dX1_rateTold_1 h0 (v := .ref (be θ + (x0 + 1))) rfl ?_
  refine g_iconst X dX1_rateTold_4 (v := (0 : Int32)) ic_0 ?_
  obtain ⟨g1, h⟩ := ite_some h
  refine g_iald X (lk1_0 h0).1 (lk1_0 h0).2 (inb_in g1) dX1_rateTold_5 ?_
  exact g_iret X hr hlk dX1_rateTold_6 (by cases h; rfl)
set_option maxHeartbeats 4000000 in
set_option maxRecDepth 20000 in
theorem c_City_rateTold {θ : Th} {l : Launch} {σ : Mem} {x0 : Nat} {r : Int32} (h0 : kd x0 = 2) (h : f_City_rateTold σ x0 = some r) : Cn θ l yX1_rateTold cX1_rateTold 1 (some .int) 0 0 0 [.ref (be θ + x0)] σ (some (.int r), σ) :=
  Cn.of (by decide) (Nat.le_of_ble_eq_true rfl) (fun p e s m below meth c X hr hlk => g_City_rateTold X hr hlk h0 h)
theorem dX7_beginAs_0 : decode cX7_beginAs 0 = .ok (.aload_n 0, 1) := by decide +kernel
theorem dX7_beginAs_1 : decode cX7_beginAs 1 = .ok (.getfield 9, 3) := by decide +kernel
theorem dX7_beginAs_4 : decode cX7_beginAs 4 = .ok (.iconst (-1), 1) := by decide +kernel
theorem dX7_beginAs_5 : decode cX7_beginAs 5 = .ok (.invokestatic 58, 3) := by decide +kernel
theorem dX7_beginAs_8 : decode cX7_beginAs 8 = .ok (.aload_n 0, 1) := by decide +kernel
theorem dX7_beginAs_9 : decode cX7_beginAs 9 = .ok (.getfield 15, 3) := by decide +kernel
theorem dX7_beginAs_12 : decode cX7_beginAs 12 = .ok (.iconst 0, 1) := by decide +kernel
theorem dX7_beginAs_13 : decode cX7_beginAs 13 = .ok (.invokestatic 58, 3) := by decide +kernel
theorem dX7_beginAs_16 : decode cX7_beginAs 16 = .ok (.aload_n 0, 1) := by decide +kernel
theorem dX7_beginAs_17 : decode cX7_beginAs 17 = .ok (.getfield 18, 3) := by decide +kernel
theorem dX7_beginAs_20 : decode cX7_beginAs 20 = .ok (.iconst 0, 1) := by decide +kernel
theorem dX7_beginAs_21 : decode cX7_beginAs 21 = .ok (.invokestatic 58, 3) := by decide +kernel
theorem dX7_beginAs_24 : decode cX7_beginAs 24 = .ok (.aload_n 0, 1) := by decide +kernel
theorem dX7_beginAs_25 : decode cX7_beginAs 25 = .ok (.getfield 24, 3) := by decide +kernel
theorem dX7_beginAs_28 : decode cX7_beginAs 28 = .ok (.iconst (-1), 1) := by decide +kernel
theorem dX7_beginAs_29 : decode cX7_beginAs 29 = .ok (.invokestatic 58, 3) := by decide +kernel
theorem dX7_beginAs_32 : decode cX7_beginAs 32 = .ok (.iconst 0, 1) := by decide +kernel
theorem dX7_beginAs_33 : decode cX7_beginAs 33 = .ok (.istore_n 2, 1) := by decide +kernel
theorem dX7_beginAs_34 : decode cX7_beginAs 34 = .ok (.iload_n 2, 1) := by decide +kernel
theorem dX7_beginAs_35 : decode cX7_beginAs 35 = .ok (.aload_n 1, 1) := by decide +kernel
theorem dX7_beginAs_36 : decode cX7_beginAs 36 = .ok (.getfield 64, 3) := by decide +kernel
theorem dX7_beginAs_39 : decode cX7_beginAs 39 = .ok (.if_icmp .ge 20, 3) := by decide +kernel
theorem dX7_beginAs_42 : decode cX7_beginAs 42 = .ok (.aload_n 0, 1) := by decide +kernel
theorem dX7_beginAs_43 : decode cX7_beginAs 43 = .ok (.getfield 21, 3) := by decide +kernel
theorem dX7_beginAs_46 : decode cX7_beginAs 46 = .ok (.iload_n 2, 1) := by decide +kernel
theorem dX7_beginAs_47 : decode cX7_beginAs 47 = .ok (.aload_n 1, 1) := by decide +kernel
theorem dX7_beginAs_48 : decode cX7_beginAs 48 = .ok (.iload_n 2, 1) := by decide +kernel
theorem dX7_beginAs_49 : decode cX7_beginAs 49 = .ok (.invokevirtual 69, 3) := by decide +kernel
theorem dX7_beginAs_52 : decode cX7_beginAs 52 = .ok (.iastore, 1) := by decide +kernel
theorem dX7_beginAs_53 : decode cX7_beginAs 53 = .ok (.iinc 2 1, 3) := by decide +kernel
theorem dX7_beginAs_56 : decode cX7_beginAs 56 = .ok (.goto (-22), 3) := by decide +kernel
theorem dX7_beginAs_59 : decode cX7_beginAs 59 = .ok (.iconst 0, 1) := by decide +kernel
theorem dX7_beginAs_60 : decode cX7_beginAs 60 = .ok (.istore_n 2, 1) := by decide +kernel
theorem dX7_beginAs_61 : decode cX7_beginAs 61 = .ok (.iload_n 2, 1) := by decide +kernel
theorem dX7_beginAs_62 : decode cX7_beginAs 62 = .ok (.aload_n 1, 1) := by decide +kernel
theorem dX7_beginAs_63 : decode cX7_beginAs 63 = .ok (.getfield 73, 3) := by decide +kernel
theorem dX7_beginAs_66 : decode cX7_beginAs 66 = .ok (.if_icmp .ge 31, 3) := by decide +kernel
theorem dX7_beginAs_69 : decode cX7_beginAs 69 = .ok (.aload_n 0, 1) := by decide +kernel
theorem dX7_beginAs_70 : decode cX7_beginAs 70 = .ok (.getfield 27, 3) := by decide +kernel
theorem dX7_beginAs_73 : decode cX7_beginAs 73 = .ok (.iload_n 2, 1) := by decide +kernel
theorem dX7_beginAs_74 : decode cX7_beginAs 74 = .ok (.aload_n 1, 1) := by decide +kernel
theorem dX7_beginAs_75 : decode cX7_beginAs 75 = .ok (.iload_n 2, 1) := by decide +kernel
theorem dX7_beginAs_76 : decode cX7_beginAs 76 = .ok (.invokevirtual 76, 3) := by decide +kernel
theorem dX7_beginAs_79 : decode cX7_beginAs 79 = .ok (.iastore, 1) := by decide +kernel
theorem dX7_beginAs_80 : decode cX7_beginAs 80 = .ok (.aload_n 0, 1) := by decide +kernel
theorem dX7_beginAs_81 : decode cX7_beginAs 81 = .ok (.getfield 30, 3) := by decide +kernel
theorem dX7_beginAs_84 : decode cX7_beginAs 84 = .ok (.iload_n 2, 1) := by decide +kernel
theorem dX7_beginAs_85 : decode cX7_beginAs 85 = .ok (.aload_n 1, 1) := by decide +kernel
theorem dX7_beginAs_86 : decode cX7_beginAs 86 = .ok (.iload_n 2, 1) := by decide +kernel
theorem dX7_beginAs_87 : decode cX7_beginAs 87 = .ok (.invokevirtual 79, 3) := by decide +kernel
theorem dX7_beginAs_90 : decode cX7_beginAs 90 = .ok (.iastore, 1) := by decide +kernel
theorem dX7_beginAs_91 : decode cX7_beginAs 91 = .ok (.iinc 2 1, 3) := by decide +kernel
theorem dX7_beginAs_94 : decode cX7_beginAs 94 = .ok (.goto (-33), 3) := by decide +kernel
theorem dX7_beginAs_97 : decode cX7_beginAs 97 = .ok (.aload_n 0, 1) := by decide +kernel
theorem dX7_beginAs_98 : decode cX7_beginAs 98 = .ok (.iconst 0, 1) := by decide +kernel
theorem dX7_beginAs_99 : decode cX7_beginAs 99 = .ok (.putfield 39, 3) := by decide +kernel
theorem dX7_beginAs_102 : decode cX7_beginAs 102 = .ok (.aload_n 0, 1) := by decide +kernel
theorem dX7_beginAs_103 : decode cX7_beginAs 103 = .ok (.iconst 0, 1) := by decide +kernel
theorem dX7_beginAs_104 : decode cX7_beginAs 104 = .ok (.putfield 43, 3) := by decide +kernel
theorem dX7_beginAs_107 : decode cX7_beginAs 107 = .ok (.aload_n 0, 1) := by decide +kernel
theorem dX7_beginAs_108 : decode cX7_beginAs 108 = .ok (.aload_n 1, 1) := by decide +kernel
theorem dX7_beginAs_109 : decode cX7_beginAs 109 = .ok (.invokevirtual 82, 3) := by decide +kernel
theorem dX7_beginAs_112 : decode cX7_beginAs 112 = .ok (.putfield 46, 3) := by decide +kernel
theorem dX7_beginAs_115 : decode cX7_beginAs 115 = .ok (.aload_n 0, 1) := by decide +kernel
theorem dX7_beginAs_116 : decode cX7_beginAs 116 = .ok (.iconst 0, 1) := by decide +kernel
theorem dX7_beginAs_117 : decode cX7_beginAs 117 = .ok (.putfield 49, 3) := by decide +kernel
theorem dX7_beginAs_120 : decode cX7_beginAs 120 = .ok (.aload_n 0, 1) := by decide +kernel
theorem dX7_beginAs_121 : decode cX7_beginAs 121 = .ok (.iconst 0, 1) := by decide +kernel
theorem dX7_beginAs_122 : decode cX7_beginAs 122 = .ok (.putfield 52, 3) := by decide +kernel
theorem dX7_beginAs_125 : decode cX7_beginAs 125 = .ok (.aload_n 0, 1) := by decide +kernel
theorem dX7_beginAs_126 : decode cX7_beginAs 126 = .ok (.iconst 0, 1) := by decide +kernel
theorem dX7_beginAs_127 : decode cX7_beginAs 127 = .ok (.putfield 55, 3) := by decide +kernel
theorem dX7_beginAs_130 : decode cX7_beginAs 130 = .ok (.return_, 1) := by decide +kernel
def f_State_beginAs_L34 (x0 : Nat) (x1 : Nat) (a : Mem × Int32) : Option ((Mem × Int32) ⊕ (Mem)) :=
  if (mI a.1 x1 3) ≤ a.2 then
    some (.inr a.1)
  else
    (f_City_weightTold a.1 x1 a.2).bind fun q6 =>
    if inb a.2 8 then
      some (.inl ((sI a.1 (x0 + 4) a.2.toNatClampNeg q6), (a.2 + (1 : Int32))))
    else none
def f_State_beginAs_L61 (x0 : Nat) (x1 : Nat) (a : Mem × Int32) : Option ((Mem × Int32) ⊕ (Mem)) :=
  if (mI a.1 x1 4) ≤ a.2 then
    (f_City_rateTold (sI (sI a.1 x0 9 (0 : Int32)) x0 10 (0 : Int32)) x1).bind fun q10 =>
    some (.inr (sI (sI (sI (sI (sI (sI a.1 x0 9 (0 : Int32)) x0 10 (0 : Int32)) x0 11 q10) x0 12 (0 : Int32)) x0 13 (0 : Int32)) x0 14 (0 : Int32)))
  else
    (f_City_purseTold a.1 x1 a.2).bind fun q11 =>
    if inb a.2 6 then
      (f_City_desireTold (sI a.1 (x0 + 6) a.2.toNatClampNeg q11) x1 a.2).bind fun q13 =>
      if inb a.2 6 then
        some (.inl ((sI (sI a.1 (x0 + 6) a.2.toNatClampNeg q11) (x0 + 7) a.2.toNatClampNeg q13), (a.2 + (1 : Int32))))
      else none
    else none
def f_State_beginAs (σ : Mem) (x0 : Nat) (x1 : Nat) : Option (Mem) :=
  (f_Arrays_fill σ (x0 + 1) (-1 : Int32)).bind fun q1 =>
  (f_Arrays_fill q1 (x0 + 2) (0 : Int32)).bind fun q2 =>
  (f_Arrays_fill q2 (x0 + 3) (0 : Int32)).bind fun q3 =>
  (f_Arrays_fill q3 (x0 + 5) (-1 : Int32)).bind fun q4 =>
  (loopF (f_State_beginAs_L34 x0 x1) FU (q4, (0 : Int32))).bind fun q8 =>
  loopF (f_State_beginAs_L61 x0 x1) FU (q8, (0 : Int32))
set_option maxHeartbeats 4000000 in
set_option maxRecDepth 20000 in
theorem gs_State_beginAs_L34 (X : Cx θ p s m args c cX7_beginAs 3 RX7) (hr : meth.sig.returnType = none) (hlk : meth.locks = false)  {x0 : Nat} {x1 : Nat} {r : Mem} (h0 : kd x0 = 8) (h1 : kd x1 = 2) (a : Mem × Int32) (x : (Mem × Int32) ⊕ (Mem)) (h : f_State_beginAs_L34 x0 x1 a = some x) (hk : Sum.elim (fun a => GB θ p l e 1 s m args below meth c 3 (none, r) 34 [(0, .ref (be θ + x0)), (1, .ref (be θ + x1)), (2, .int a.2)] [] a.1) (fun b => GB θ p l e 1 s m args below meth c 3 (none, r) 59 [(0, .ref (be θ + x0)), (1, .ref (be θ + x1))] [] b) x) : GB θ p l e 1 s m args below meth c 3 (none, r) 34 [(0, .ref (be θ + x0)), (1, .ref (be θ + x1)), (2, .int a.2)] [] a.1 := by
  unfold f_State_beginAs_L34 at h
  refine g_iload_n X dX7_beginAs_34 rfl 2 rfl ?_
  refine g_aload_n X dX7_beginAs_35 rfl 1 rfl ?_
  refine g_get X fl_RX7_64 dX7_beginAs_36 h1 (v := .int (mI a.1 x1 3)) rfl ?_
  refine g_icmp_ge (tgt := 59) X dX7_beginAs_39 (by decide) (fun c5 => ?_) (fun c5 => ?_)
  · replace h := (if_pos c5).symm.trans h
    cases h
    exact g_sub [0, 1] rfl hk
  · replace h := (if_neg c5).symm.trans h
    refine g_aload_n X dX7_beginAs_42 rfl 0 rfl ?_
    refine g_get X fl_RX7_21 dX7_beginAs_43 h0 (v := .ref (be θ + (x0 + 4))) rfl ?_
    refine g_iload_n X dX7_beginAs_46 rfl 2 rfl ?_
    refine g_aload_n X dX7_beginAs_47 rfl 1 rfl ?_
    refine g_iload_n X dX7_beginAs_48 rfl 2 rfl ?_
    obtain ⟨q6, hq6, h⟩ := Option.bind_eq_some_iff.mp h
    refine g_cV X (c_City_weightTold h1 hq6) lk_RX7_69 my_X1_weightTold (a := x1) (ci := 1) h1 (by decide) rfl (As := [.int a.2]) (rest := [.int a.2, .ref (be θ + (x0 + 4))]) rfl rfl (Nat.le_of_ble_eq_true rfl) ⟨(Nat.le_of_ble_eq_true rfl), (Nat.le_of_ble_eq_true rfl)⟩ ⟨(Nat.le_of_ble_eq_true rfl), (Nat.le_of_ble_eq_true rfl)⟩ dX7_beginAs_49 (st' := [.int q6, .int a.2, .ref (be θ + (x0 + 4))]) rfl rfl ?_
    obtain ⟨g7, h⟩ := ite_some h
    refine g_iast X (lk7_3 h0).1 (lk7_3 h0).2 (inb_in g7) dX7_beginAs_52 ?_
    refine g_iinc X dX7_beginAs_53 (kq := 2) rfl (congrArg (HAdd.hAdd _) ic_1) (by decide) (lv' := [(2, .int (a.2 + (1 : Int32))), (0, .ref (be θ + x0)), (1, .ref (be θ + x1))]) rfl ?_
    refine g_goto (tgt := 34) X dX7_beginAs_56 (by decide) ?_
    cases h
    exact g_sub [1, 2, 0] rfl hk
set_option maxHeartbeats 4000000 in
set_option maxRecDepth 20000 in
theorem gl_State_beginAs_L34 (X : Cx θ p s m args c cX7_beginAs 3 RX7) (hr : meth.sig.returnType = none) (hlk : meth.locks = false)  {x0 : Nat} {x1 : Nat} {r : Mem} (h0 : kd x0 = 8) (h1 : kd x1 = 2) (n : Nat) (a : Mem × Int32) (b : Mem) (h : loopF (f_State_beginAs_L34 x0 x1) n a = some b) (hk : GB θ p l e 1 s m args below meth c 3 (none, r) 59 [(0, .ref (be θ + x0)), (1, .ref (be θ + x1))] [] b) : GB θ p l e 1 s m args below meth c 3 (none, r) 34 [(0, .ref (be θ + x0)), (1, .ref (be θ + x1)), (2, .int a.2)] [] a.1 :=
  loopF_by (P := fun a => GB θ p l e 1 s m args below meth c 3 (none, r) 34 [(0, .ref (be θ + x0)), (1, .ref (be θ + x1)), (2, .int a.2)] [] a.1) (K := fun b => GB θ p l e 1 s m args below meth c 3 (none, r) 59 [(0, .ref (be θ + x0)), (1, .ref (be θ + x1))] [] b) (fun a x h hk => gs_State_beginAs_L34 X hr hlk  h0 h1 a x h hk) n a b h hk
set_option maxHeartbeats 4000000 in
set_option maxRecDepth 20000 in
theorem gs_State_beginAs_L61 (X : Cx θ p s m args c cX7_beginAs 3 RX7) (hr : meth.sig.returnType = none) (hlk : meth.locks = false)  {x0 : Nat} {x1 : Nat} {r : Mem} (h0 : kd x0 = 8) (h1 : kd x1 = 2) (a : Mem × Int32) (x : (Mem × Int32) ⊕ (Mem)) (h : f_State_beginAs_L61 x0 x1 a = some x) (hk : Sum.elim (fun a => GB θ p l e 1 s m args below meth c 3 (none, r) 61 [(0, .ref (be θ + x0)), (1, .ref (be θ + x1)), (2, .int a.2)] [] a.1) (fun b => b = r) x) : GB θ p l e 1 s m args below meth c 3 (none, r) 61 [(0, .ref (be θ + x0)), (1, .ref (be θ + x1)), (2, .int a.2)] [] a.1 := by
  unfold f_State_beginAs_L61 at h
  refine g_iload_n X dX7_beginAs_61 rfl 2 rfl ?_
  refine g_aload_n X dX7_beginAs_62 rfl 1 rfl ?_
  refine g_get X fl_RX7_73 dX7_beginAs_63 h1 (v := .int (mI a.1 x1 4)) rfl ?_
  refine g_icmp_ge (tgt := 97) X dX7_beginAs_66 (by decide) (fun c9 => ?_) (fun c9 => ?_)
  · replace h := (if_pos c9).symm.trans h
    refine g_aload_n X dX7_beginAs_97 rfl 0 rfl ?_
    refine g_iconst X dX7_beginAs_98 (v := (0 : Int32)) ic_0 ?_
    refine g_putI X fl_RX7_39 dX7_beginAs_99 h0 rfl rfl rfl ?_
    refine g_aload_n X dX7_beginAs_102 rfl 0 rfl ?_
    refine g_iconst X dX7_beginAs_103 (v := (0 : Int32)) ic_0 ?_
    refine g_putI X fl_RX7_43 dX7_beginAs_104 h0 rfl rfl rfl ?_
    refine g_aload_n X dX7_beginAs_107 rfl 0 rfl ?_
    refine g_aload_n X dX7_beginAs_108 rfl 1 rfl ?_
    obtain ⟨q10, hq10, h⟩ := Option.bind_eq_some_iff.mp h
    refine g_cV X (c_City_rateTold h1 hq10) lk_RX7_82 my_X1_rateTold (a := x1) (ci := 1) h1 (by decide) rfl (As := []) (rest := [.ref (be θ + x0)]) rfl rfl (Nat.le_of_ble_eq_true rfl) ⟨(Nat.le_of_ble_eq_true rfl), (Nat.le_of_ble_eq_true rfl)⟩ ⟨(Nat.le_of_ble_eq_true rfl), (Nat.le_of_ble_eq_true rfl)⟩ dX7_beginAs_109 (st' := [.int q10, .ref (be θ + x0)]) rfl rfl ?_
    refine g_putI X fl_RX7_46 dX7_beginAs_112 h0 rfl rfl rfl ?_
    refine g_aload_n X dX7_beginAs_115 rfl 0 rfl ?_
    refine g_iconst X dX7_beginAs_116 (v := (0 : Int32)) ic_0 ?_
    refine g_putI X fl_RX7_49 dX7_beginAs_117 h0 rfl rfl rfl ?_
    refine g_aload_n X dX7_beginAs_120 rfl 0 rfl ?_
    refine g_iconst X dX7_beginAs_121 (v := (0 : Int32)) ic_0 ?_
    refine g_putI X fl_RX7_52 dX7_beginAs_122 h0 rfl rfl rfl ?_
    refine g_aload_n X dX7_beginAs_125 rfl 0 rfl ?_
    refine g_iconst X dX7_beginAs_126 (v := (0 : Int32)) ic_0 ?_
    refine g_putI X fl_RX7_55 dX7_beginAs_127 h0 rfl rfl rfl ?_
    cases h
    have hk : (sI (sI (sI (sI (sI (sI a.1 x0 9 (0 : Int32)) x0 10 (0 : Int32)) x0 11 q10) x0 12 (0 : Int32)) x0 13 (0 : Int32)) x0 14 (0 : Int32)) = r := hk
    subst hk
    exact g_vret X hr hlk dX7_beginAs_130 rfl
  · replace h := (if_neg c9).symm.trans h
    refine g_aload_n X dX7_beginAs_69 rfl 0 rfl ?_
    refine g_get X fl_RX7_27 dX7_beginAs_70 h0 (v := .ref (be θ + (x0 + 6))) rfl ?_
    refine g_iload_n X dX7_beginAs_73 rfl 2 rfl ?_
    refine g_aload_n X dX7_beginAs_74 rfl 1 rfl ?_
    refine g_iload_n X dX7_beginAs_75 rfl 2 rfl ?_
    obtain ⟨q11, hq11, h⟩ := Option.bind_eq_some_iff.mp h
    refine g_cV X (c_City_purseTold h1 hq11) lk_RX7_76 my_X1_purseTold (a := x1) (ci := 1) h1 (by decide) rfl (As := [.int a.2]) (rest := [.int a.2, .ref (be θ + (x0 + 6))]) rfl rfl (Nat.le_of_ble_eq_true rfl) ⟨(Nat.le_of_ble_eq_true rfl), (Nat.le_of_ble_eq_true rfl)⟩ ⟨(Nat.le_of_ble_eq_true rfl), (Nat.le_of_ble_eq_true rfl)⟩ dX7_beginAs_76 (st' := [.int q11, .int a.2, .ref (be θ + (x0 + 6))]) rfl rfl ?_
    obtain ⟨g12, h⟩ := ite_some h
    refine g_iast X (lk7_5 h0).1 (lk7_5 h0).2 (inb_in g12) dX7_beginAs_79 ?_
    refine g_aload_n X dX7_beginAs_80 rfl 0 rfl ?_
    refine g_get X fl_RX7_30 dX7_beginAs_81 h0 (v := .ref (be θ + (x0 + 7))) rfl ?_
    refine g_iload_n X dX7_beginAs_84 rfl 2 rfl ?_
    refine g_aload_n X dX7_beginAs_85 rfl 1 rfl ?_
    refine g_iload_n X dX7_beginAs_86 rfl 2 rfl ?_
    obtain ⟨q13, hq13, h⟩ := Option.bind_eq_some_iff.mp h
    refine g_cV X (c_City_desireTold h1 hq13) lk_RX7_79 my_X1_desireTold (a := x1) (ci := 1) h1 (by decide) rfl (As := [.int a.2]) (rest := [.int a.2, .ref (be θ + (x0 + 7))]) rfl rfl (Nat.le_of_ble_eq_true rfl) ⟨(Nat.le_of_ble_eq_true rfl), (Nat.le_of_ble_eq_true rfl)⟩ ⟨(Nat.le_of_ble_eq_true rfl), (Nat.le_of_ble_eq_true rfl)⟩ dX7_beginAs_87 (st' := [.int q13, .int a.2, .ref (be θ + (x0 + 7))]) rfl rfl ?_
    obtain ⟨g14, h⟩ := ite_some h
    refine g_iast X (lk7_6 h0).1 (lk7_6 h0).2 (inb_in g14) dX7_beginAs_90 ?_
    refine g_iinc X dX7_beginAs_91 (kq := 2) rfl (congrArg (HAdd.hAdd _) ic_1) (by decide) (lv' := [(2, .int (a.2 + (1 : Int32))), (0, .ref (be θ + x0)), (1, .ref (be θ + x1))]) rfl ?_
    refine g_goto (tgt := 61) X dX7_beginAs_94 (by decide) ?_
    cases h
    exact g_sub [1, 2, 0] rfl hk
set_option maxHeartbeats 4000000 in
set_option maxRecDepth 20000 in
theorem gl_State_beginAs_L61 (X : Cx θ p s m args c cX7_beginAs 3 RX7) (hr : meth.sig.returnType = none) (hlk : meth.locks = false)  {x0 : Nat} {x1 : Nat} {r : Mem} (h0 : kd x0 = 8) (h1 : kd x1 = 2) (n : Nat) (a : Mem × Int32) (b : Mem) (h : loopF (f_State_beginAs_L61 x0 x1) n a = some b) (hk : b = r) : GB θ p l e 1 s m args below meth c 3 (none, r) 61 [(0, .ref (be θ + x0)), (1, .ref (be θ + x1)), (2, .int a.2)] [] a.1 :=
  loopF_by (P := fun a => GB θ p l e 1 s m args below meth c 3 (none, r) 61 [(0, .ref (be θ + x0)), (1, .ref (be θ + x1)), (2, .int a.2)] [] a.1) (K := fun b => b = r) (fun a x h hk => gs_State_beginAs_L61 X hr hlk  h0 h1 a x h hk) n a b h hk
set_option maxHeartbeats 4000000 in
set_option maxRecDepth 20000 in
theorem g_State_beginAs (X : Cx θ p s m args c cX7_beginAs 3 RX7) (hr : meth.sig.returnType = none) (hlk : meth.locks = false)  {σ : Mem} {x0 : Nat} {x1 : Nat} {r : Mem} (h0 : kd x0 = 8) (h1 : kd x1 = 2) (h : f_State_beginAs σ x0 x1 = some r) : GB θ p l e 1 s m args below meth c 3 (none, r) 0 [(0, .ref (be θ + x0)), (1, .ref (be θ + x1))] [] σ := by
  unfold f_State_beginAs at h
  refine g_aload_n X dX7_beginAs_0 rfl 0 rfl ?_
  refine g_get X fl_RX7_9 dX7_beginAs_1 h0 (v := .ref (be θ + (x0 + 1))) rfl ?_
  refine g_iconst X dX7_beginAs_4 (v := (-1 : Int32)) ic_m1 ?_
  obtain ⟨q1, hq1, h⟩ := Option.bind_eq_some_iff.mp h
  refine g_cS X (c_Arrays_fill ((lk7_0 h0).1) hq1) lk_RX7_58 my_J7_fill_53178 (As := [.ref (be θ + (x0 + 1)), .int (-1 : Int32)]) (rest := []) rfl rfl (Nat.le_of_ble_eq_true rfl) ⟨(Nat.le_of_ble_eq_true rfl), (Nat.le_of_ble_eq_true rfl)⟩ ⟨(Nat.le_of_ble_eq_true rfl), (Nat.le_of_ble_eq_true rfl)⟩ dX7_beginAs_5 (st' := []) rfl rfl ?_
  refine g_aload_n X dX7_beginAs_8 rfl 0 rfl ?_
  refine g_get X fl_RX7_15 dX7_beginAs_9 h0 (v := .ref (be θ + (x0 + 2))) rfl ?_
  refine g_iconst X dX7_beginAs_12 (v := (0 : Int32)) ic_0 ?_
  obtain ⟨q2, hq2, h⟩ := Option.bind_eq_some_iff.mp h
  refine g_cS X (c_Arrays_fill ((lk7_1 h0).1) hq2) lk_RX7_58 my_J7_fill_53178 (As := [.ref (be θ + (x0 + 2)), .int (0 : Int32)]) (rest := []) rfl rfl (Nat.le_of_ble_eq_true rfl) ⟨(Nat.le_of_ble_eq_true rfl), (Nat.le_of_ble_eq_true rfl)⟩ ⟨(Nat.le_of_ble_eq_true rfl), (Nat.le_of_ble_eq_true rfl)⟩ dX7_beginAs_13 (st' := []) rfl rfl ?_
  refine g_aload_n X dX7_beginAs_16 rfl 0 rfl ?_
  refine g_get X fl_RX7_18 dX7_beginAs_17 h0 (v := .ref (be θ + (x0 + 3))) rfl ?_
  refine g_iconst X dX7_beginAs_20 (v := (0 : Int32)) ic_0 ?_
  obtain ⟨q3, hq3, h⟩ := Option.bind_eq_some_iff.mp h
  refine g_cS X (c_Arrays_fill ((lk7_2 h0).1) hq3) lk_RX7_58 my_J7_fill_53178 (As := [.ref (be θ + (x0 + 3)), .int (0 : Int32)]) (rest := []) rfl rfl (Nat.le_of_ble_eq_true rfl) ⟨(Nat.le_of_ble_eq_true rfl), (Nat.le_of_ble_eq_true rfl)⟩ ⟨(Nat.le_of_ble_eq_true rfl), (Nat.le_of_ble_eq_true rfl)⟩ dX7_beginAs_21 (st' := []) rfl rfl ?_
  refine g_aload_n X dX7_beginAs_24 rfl 0 rfl ?_
  refine g_get X fl_RX7_24 dX7_beginAs_25 h0 (v := .ref (be θ + (x0 + 5))) rfl ?_
  refine g_iconst X dX7_beginAs_28 (v := (-1 : Int32)) ic_m1 ?_
  obtain ⟨q4, hq4, h⟩ := Option.bind_eq_some_iff.mp h
  refine g_cS X (c_Arrays_fill ((lk7_4 h0).1) hq4) lk_RX7_58 my_J7_fill_53178 (As := [.ref (be θ + (x0 + 5)), .int (-1 : Int32)]) (rest := []) rfl rfl (Nat.le_of_ble_eq_true rfl) ⟨(Nat.le_of_ble_eq_true rfl), (Nat.le_of_ble_eq_true rfl)⟩ ⟨(Nat.le_of_ble_eq_true rfl), (Nat.le_of_ble_eq_true rfl)⟩ dX7_beginAs_29 (st' := []) rfl rfl ?_
  refine g_iconst X dX7_beginAs_32 (v := (0 : Int32)) ic_0 ?_
  refine g_istore_n X dX7_beginAs_33 rfl (by decide) (lv' := [(2, .int (0 : Int32)), (0, .ref (be θ + x0)), (1, .ref (be θ + x1))]) rfl ?_
  obtain ⟨q8, hq8, h⟩ := Option.bind_eq_some_iff.mp h
  refine g_sub [1, 2, 0] rfl (gl_State_beginAs_L34 X hr hlk  h0 h1  FU _ q8 hq8 ?_)
  refine g_iconst X dX7_beginAs_59 (v := (0 : Int32)) ic_0 ?_
  refine g_istore_n X dX7_beginAs_60 rfl (by decide) (lv' := [(2, .int (0 : Int32)), (0, .ref (be θ + x0)), (1, .ref (be θ + x1))]) rfl ?_
  exact g_sub [1, 2, 0] rfl (gl_State_beginAs_L61 X hr hlk  h0 h1  FU _ _ h rfl)
set_option maxHeartbeats 4000000 in
set_option maxRecDepth 20000 in
theorem c_State_beginAs {θ : Th} {l : Launch} {σ : Mem} {x0 : Nat} {x1 : Nat} {r : Mem} (h0 : kd x0 = 8) (h1 : kd x1 = 2) (h : f_State_beginAs σ x0 x1 = some r) : Cn θ l yX7_beginAs cX7_beginAs 3 (none) 1 0 0 [.ref (be θ + x0), .ref (be θ + x1)] σ (none, r) :=
  Cn.of (by decide) (Nat.le_of_ble_eq_true rfl) (fun p e s m below meth c X hr hlk => g_State_beginAs X hr hlk h0 h1 h)
theorem dX7_strikeBills_0 : decode cX7_strikeBills 0 = .ok (.iconst 0, 1) := by decide +kernel
theorem dX7_strikeBills_1 : decode cX7_strikeBills 1 = .ok (.istore 4, 2) := by decide +kernel
theorem dX7_strikeBills_3 : decode cX7_strikeBills 3 = .ok (.iconst 0, 1) := by decide +kernel
theorem dX7_strikeBills_4 : decode cX7_strikeBills 4 = .ok (.istore 5, 2) := by decide +kernel
theorem dX7_strikeBills_6 : decode cX7_strikeBills 6 = .ok (.iload 5, 2) := by decide +kernel
theorem dX7_strikeBills_8 : decode cX7_strikeBills 8 = .ok (.aload_n 0, 1) := by decide +kernel
theorem dX7_strikeBills_9 : decode cX7_strikeBills 9 = .ok (.getfield 39, 3) := by decide +kernel
theorem dX7_strikeBills_12 : decode cX7_strikeBills 12 = .ok (.if_icmp .ge 76, 3) := by decide +kernel
theorem dX7_strikeBills_15 : decode cX7_strikeBills 15 = .ok (.iload 5, 2) := by decide +kernel
theorem dX7_strikeBills_17 : decode cX7_strikeBills 17 = .ok (.iconst 4, 1) := by decide +kernel
theorem dX7_strikeBills_18 : decode cX7_strikeBills 18 = .ok (.imul, 1) := by decide +kernel
theorem dX7_strikeBills_19 : decode cX7_strikeBills 19 = .ok (.istore 6, 2) := by decide +kernel
theorem dX7_strikeBills_21 : decode cX7_strikeBills 21 = .ok (.aload_n 0, 1) := by decide +kernel
theorem dX7_strikeBills_22 : decode cX7_strikeBills 22 = .ok (.getfield 33, 3) := by decide +kernel
theorem dX7_strikeBills_25 : decode cX7_strikeBills 25 = .ok (.iload 6, 2) := by decide +kernel
theorem dX7_strikeBills_27 : decode cX7_strikeBills 27 = .ok (.iaload, 1) := by decide +kernel
theorem dX7_strikeBills_28 : decode cX7_strikeBills 28 = .ok (.iload_n 1, 1) := by decide +kernel
theorem dX7_strikeBills_29 : decode cX7_strikeBills 29 = .ok (.if_icmp .ne 32, 3) := by decide +kernel
theorem dX7_strikeBills_32 : decode cX7_strikeBills 32 = .ok (.aload_n 0, 1) := by decide +kernel
theorem dX7_strikeBills_33 : decode cX7_strikeBills 33 = .ok (.getfield 33, 3) := by decide +kernel
theorem dX7_strikeBills_36 : decode cX7_strikeBills 36 = .ok (.iload 6, 2) := by decide +kernel
theorem dX7_strikeBills_38 : decode cX7_strikeBills 38 = .ok (.iconst 1, 1) := by decide +kernel
theorem dX7_strikeBills_39 : decode cX7_strikeBills 39 = .ok (.iadd, 1) := by decide +kernel
theorem dX7_strikeBills_40 : decode cX7_strikeBills 40 = .ok (.iaload, 1) := by decide +kernel
theorem dX7_strikeBills_41 : decode cX7_strikeBills 41 = .ok (.iload_n 2, 1) := by decide +kernel
theorem dX7_strikeBills_42 : decode cX7_strikeBills 42 = .ok (.if_icmp .ne 19, 3) := by decide +kernel
theorem dX7_strikeBills_45 : decode cX7_strikeBills 45 = .ok (.aload_n 0, 1) := by decide +kernel
theorem dX7_strikeBills_46 : decode cX7_strikeBills 46 = .ok (.getfield 33, 3) := by decide +kernel
theorem dX7_strikeBills_49 : decode cX7_strikeBills 49 = .ok (.iload 6, 2) := by decide +kernel
theorem dX7_strikeBills_51 : decode cX7_strikeBills 51 = .ok (.iconst 2, 1) := by decide +kernel
theorem dX7_strikeBills_52 : decode cX7_strikeBills 52 = .ok (.iadd, 1) := by decide +kernel
theorem dX7_strikeBills_53 : decode cX7_strikeBills 53 = .ok (.iaload, 1) := by decide +kernel
theorem dX7_strikeBills_54 : decode cX7_strikeBills 54 = .ok (.iload_n 3, 1) := by decide +kernel
theorem dX7_strikeBills_55 : decode cX7_strikeBills 55 = .ok (.if_icmp .lt 6, 3) := by decide +kernel
theorem dX7_strikeBills_58 : decode cX7_strikeBills 58 = .ok (.goto 24, 3) := by decide +kernel
theorem dX7_strikeBills_61 : decode cX7_strikeBills 61 = .ok (.aload_n 0, 1) := by decide +kernel
theorem dX7_strikeBills_62 : decode cX7_strikeBills 62 = .ok (.getfield 33, 3) := by decide +kernel
theorem dX7_strikeBills_65 : decode cX7_strikeBills 65 = .ok (.iload 6, 2) := by decide +kernel
theorem dX7_strikeBills_67 : decode cX7_strikeBills 67 = .ok (.aload_n 0, 1) := by decide +kernel
theorem dX7_strikeBills_68 : decode cX7_strikeBills 68 = .ok (.getfield 33, 3) := by decide +kernel
theorem dX7_strikeBills_71 : decode cX7_strikeBills 71 = .ok (.iload 4, 2) := by decide +kernel
theorem dX7_strikeBills_73 : decode cX7_strikeBills 73 = .ok (.iconst 4, 1) := by decide +kernel
theorem dX7_strikeBills_74 : decode cX7_strikeBills 74 = .ok (.imul, 1) := by decide +kernel
theorem dX7_strikeBills_75 : decode cX7_strikeBills 75 = .ok (.iconst 4, 1) := by decide +kernel
theorem dX7_strikeBills_76 : decode cX7_strikeBills 76 = .ok (.invokestatic 86, 3) := by decide +kernel
theorem dX7_strikeBills_79 : decode cX7_strikeBills 79 = .ok (.iinc 4 1, 3) := by decide +kernel
theorem dX7_strikeBills_82 : decode cX7_strikeBills 82 = .ok (.iinc 5 1, 3) := by decide +kernel
theorem dX7_strikeBills_85 : decode cX7_strikeBills 85 = .ok (.goto (-79), 3) := by decide +kernel
theorem dX7_strikeBills_88 : decode cX7_strikeBills 88 = .ok (.aload_n 0, 1) := by decide +kernel
theorem dX7_strikeBills_89 : decode cX7_strikeBills 89 = .ok (.getfield 39, 3) := by decide +kernel
theorem dX7_strikeBills_92 : decode cX7_strikeBills 92 = .ok (.iload 4, 2) := by decide +kernel
theorem dX7_strikeBills_94 : decode cX7_strikeBills 94 = .ok (.isub, 1) := by decide +kernel
theorem dX7_strikeBills_95 : decode cX7_strikeBills 95 = .ok (.istore 5, 2) := by decide +kernel
theorem dX7_strikeBills_97 : decode cX7_strikeBills 97 = .ok (.aload_n 0, 1) := by decide +kernel
theorem dX7_strikeBills_98 : decode cX7_strikeBills 98 = .ok (.iload 4, 2) := by decide +kernel
theorem dX7_strikeBills_100 : decode cX7_strikeBills 100 = .ok (.putfield 39, 3) := by decide +kernel
theorem dX7_strikeBills_103 : decode cX7_strikeBills 103 = .ok (.iload 5, 2) := by decide +kernel
theorem dX7_strikeBills_105 : decode cX7_strikeBills 105 = .ok (.ireturn, 1) := by decide +kernel
def f_State_strikeBills_L6 (x0 : Nat) (x1 : Int32) (x2 : Int32) (x3 : Int32) (a : Mem × Int32 × Int32) : Option ((Mem × Int32 × Int32) ⊕ (Int32 × Mem)) :=
  if (mI a.1 x0 9) ≤ a.2.2 then
    some (.inr (((mI a.1 x0 9) - a.2.1), (sI a.1 x0 9 a.2.1)))
  else
    if inb (a.2.2 * (4 : Int32)) 96 then
      if (mI a.1 (x0 + 8) (a.2.2 * (4 : Int32)).toNatClampNeg) = x1 then
        if inb ((a.2.2 * (4 : Int32)) + (1 : Int32)) 96 then
          if (mI a.1 (x0 + 8) ((a.2.2 * (4 : Int32)) + (1 : Int32)).toNatClampNeg) = x2 then
            if inb ((a.2.2 * (4 : Int32)) + (2 : Int32)) 96 then
              if (mI a.1 (x0 + 8) ((a.2.2 * (4 : Int32)) + (2 : Int32)).toNatClampNeg) < x3 then
                if cpyB 96 96 (a.2.2 * (4 : Int32)) (a.2.1 * (4 : Int32)) (4 : Int32) then
                  (some (rI a.1 (x0 + 8) (cpyM (mI a.1 (x0 + 8)) (mI a.1 (x0 + 8)) (a.2.2 * (4 : Int32)) (a.2.1 * (4 : Int32)) (4 : Int32)))).bind fun σ13 =>
                  some (.inl (σ13, (a.2.1 + (1 : Int32)), (a.2.2 + (1 : Int32))))
                else none
              else
                some (.inl (a.1, a.2.1, (a.2.2 + (1 : Int32))))
            else none
          else
            if cpyB 96 96 (a.2.2 * (4 : Int32)) (a.2.1 * (4 : Int32)) (4 : Int32) then
              (some (rI a.1 (x0 + 8) (cpyM (mI a.1 (x0 + 8)) (mI a.1 (x0 + 8)) (a.2.2 * (4 : Int32)) (a.2.1 * (4 : Int32)) (4 : Int32)))).bind fun σ9 =>
              some (.inl (σ9, (a.2.1 + (1 : Int32)), (a.2.2 + (1 : Int32))))
            else none
        else none
      else
        if cpyB 96 96 (a.2.2 * (4 : Int32)) (a.2.1 * (4 : Int32)) (4 : Int32) then
          (some (rI a.1 (x0 + 8) (cpyM (mI a.1 (x0 + 8)) (mI a.1 (x0 + 8)) (a.2.2 * (4 : Int32)) (a.2.1 * (4 : Int32)) (4 : Int32)))).bind fun σ5 =>
          some (.inl (σ5, (a.2.1 + (1 : Int32)), (a.2.2 + (1 : Int32))))
        else none
    else none
def f_State_strikeBills (σ : Mem) (x0 : Nat) (x1 : Int32) (x2 : Int32) (x3 : Int32) : Option (Int32 × Mem) :=
  loopF (f_State_strikeBills_L6 x0 x1 x2 x3) FU (σ, (0 : Int32), (0 : Int32))
set_option maxHeartbeats 4000000 in
set_option maxRecDepth 20000 in
theorem gs_State_strikeBills_L6 (X : Cx θ p s m args c cX7_strikeBills 7 RX7) (hr : meth.sig.returnType = some .int) (hlk : meth.locks = false)  {x0 : Nat} {x1 : Int32} {x2 : Int32} {x3 : Int32} {r : Int32 × Mem} (h0 : kd x0 = 8) (a : Mem × Int32 × Int32) (x : (Mem × Int32 × Int32) ⊕ (Int32 × Mem)) (h : f_State_strikeBills_L6 x0 x1 x2 x3 a = some x) (hk : Sum.elim (fun a => GB θ p l e 1 s m args below meth c 7 (some (.int r.1), r.2) 6 [(0, .ref (be θ + x0)), (1, .int x1), (2, .int x2), (3, .int x3), (4, .int a.2.1), (5, .int a.2.2)] [] a.1) (fun b => b = r) x) : GB θ p l e 1 s m args below meth c 7 (some (.int r.1), r.2) 6 [(0, .ref (be θ + x0)), (1, .int x1), (2, .int x2), (3, .int x3), (4, .int a.2.1), (5, .int a.2.2)] [] a.1 := by
  unfold f_State_strikeBills_L6 at h
  refine g_iload X dX7_strikeBills_6 5 rfl ?_
  refine g_aload_n X dX7_strikeBills_8 rfl 0 rfl ?_
  refine g_get X fl_RX7_39 dX7_strikeBills_9 h0 (v := .int (mI a.1 x0 9)) rfl ?_
  refine g_icmp_ge (tgt := 88) X dX7_strikeBills_12 (by decide) (fun c1 => ?_) (fun c1 => ?_)
  · replace h := (if_pos c1).symm.trans h
    refine g_aload_n X dX7_strikeBills_88 rfl 0 rfl ?_
    refine g_get X fl_RX7_39 dX7_strikeBills_89 h0 (v := .int (mI a.1 x0 9)) rfl ?_
    refine g_iload X dX7_strikeBills_92 4 rfl ?_
    refine g_isub X dX7_strikeBills_94 ?_
    refine g_istore X dX7_strikeBills_95 (by decide) (lv' := [(5, .int ((mI a.1 x0 9) - a.2.1)), (0, .ref (be θ + x0)), (1, .int x1), (2, .int x2), (3, .int x3), (4, .int a.2.1)]) rfl ?_
    refine g_aload_n X dX7_strikeBills_97 rfl 1 rfl ?_
    refine g_iload X dX7_strikeBills_98 5 rfl ?_
    refine g_putI X fl_RX7_39 dX7_strikeBills_100 h0 rfl rfl rfl ?_
    refine g_iload X dX7_strikeBills_103 0 rfl ?_
    cases h
    have hk : (((mI a.1 x0 9) - a.2.1), (sI a.1 x0 9 a.2.1)) = r := hk
    subst hk
    exact g_iret X hr hlk dX7_strikeBills_105 rfl
  · replace h := (if_neg c1).symm.trans h
    refine g_iload X dX7_strikeBills_15 5 rfl ?_
    refine g_iconst X dX7_strikeBills_17 (v := (4 : Int32)) ic_4 ?_
    refine g_imul X dX7_strikeBills_18 ?_
    refine g_istore X dX7_strikeBills_19 (by decide) (lv' := [(6, .int (a.2.2 * (4 : Int32))), (0, .ref (be θ + x0)), (1, .int x1), (2, .int x2), (3, .int x3), (4, .int a.2.1), (5, .int a.2.2)]) rfl ?_
    refine g_aload_n X dX7_strikeBills_21 rfl 1 rfl ?_
    refine g_get X fl_RX7_33 dX7_strikeBills_22 h0 (v := .ref (be θ + (x0 + 8))) rfl ?_
    refine g_iload X dX7_strikeBills_25 0 rfl ?_
    obtain ⟨g2, h⟩ := ite_some h
    refine g_iald X (lk7_7 h0).1 (lk7_7 h0).2 (inb_in g2) dX7_strikeBills_27 ?_
    refine g_iload_n X dX7_strikeBills_28 rfl 2 rfl ?_
    refine g_icmp_ne (tgt := 61) X dX7_strikeBills_29 (by decide) (fun c3 => ?_) (fun c3 => ?_)
    · replace h := (if_neg c3).symm.trans h
      refine g_aload_n X dX7_strikeBills_61 rfl 1 rfl ?_
      refine g_get X fl_RX7_33 dX7_strikeBills_62 h0 (v := .ref (be θ + (x0 + 8))) rfl ?_
      refine g_iload X dX7_strikeBills_65 0 rfl ?_
      refine g_aload_n X dX7_strikeBills_67 rfl 1 rfl ?_
      refine g_get X fl_RX7_33 dX7_strikeBills_68 h0 (v := .ref (be θ + (x0 + 8))) rfl ?_
      refine g_iload X dX7_strikeBills_71 5 rfl ?_
      refine g_iconst X dX7_strikeBills_73 (v := (4 : Int32)) ic_4 ?_
      refine g_imul X dX7_strikeBills_74 ?_
      refine g_iconst X dX7_strikeBills_75 (v := (4 : Int32)) ic_4 ?_
      obtain ⟨g4, h⟩ := ite_some h
      obtain ⟨σ5, hσ5, h⟩ := Option.bind_eq_some_iff.mp h
      refine g_cp X lc_RX7_86 (lk7_7 h0).1 (lk7_7 h0).1 (lk7_7 h0).2 (lk7_7 h0).2 (cpyB_ok g4) ⟨(Nat.le_of_ble_eq_true rfl), (Nat.le_of_ble_eq_true rfl)⟩ dX7_strikeBills_76 (Option.some.inj hσ5) ?_
      refine g_iinc X dX7_strikeBills_79 (kq := 5) rfl (congrArg (HAdd.hAdd _) ic_1) (by decide) (lv' := [(4, .int (a.2.1 + (1 : Int32))), (6, .int (a.2.2 * (4 : Int32))), (0, .ref (be θ + x0)), (1, .int x1), (2, .int x2), (3, .int x3), (5, .int a.2.2)]) rfl ?_
      refine g_iinc X dX7_strikeBills_82 (kq := 6) rfl (congrArg (HAdd.hAdd _) ic_1) (by decide) (lv' := [(5, .int (a.2.2 + (1 : Int32))), (4, .int (a.2.1 + (1 : Int32))), (6, .int (a.2.2 * (4 : Int32))), (0, .ref (be θ + x0)), (1, .int x1), (2, .int x2), (3, .int x3)]) rfl ?_
      refine g_goto (tgt := 6) X dX7_strikeBills_85 (by decide) ?_
      cases h
      exact g_sub [3, 4, 5, 6, 1, 0] rfl hk
    · replace h := (if_pos c3).symm.trans h
      refine g_aload_n X dX7_strikeBills_32 rfl 1 rfl ?_
      refine g_get X fl_RX7_33 dX7_strikeBills_33 h0 (v := .ref (be θ + (x0 + 8))) rfl ?_
      refine g_iload X dX7_strikeBills_36 0 rfl ?_
      refine g_iconst X dX7_strikeBills_38 (v := (1 : Int32)) ic_1 ?_
      refine g_iadd X dX7_strikeBills_39 ?_
      obtain ⟨g6, h⟩ := ite_some h
      refine g_iald X (lk7_7 h0).1 (lk7_7 h0).2 (inb_in g6) dX7_strikeBills_40 ?_
      refine g_iload_n X dX7_strikeBills_41 rfl 3 rfl ?_
      refine g_icmp_ne (tgt := 61) X dX7_strikeBills_42 (by decide) (fun c7 => ?_) (fun c7 => ?_)
      · replace h := (if_neg c7).symm.trans h
        refine g_aload_n X dX7_strikeBills_61 rfl 1 rfl ?_
        refine g_get X fl_RX7_33 dX7_strikeBills_62 h0 (v := .ref (be θ + (x0 + 8))) rfl ?_
        refine g_iload X dX7_strikeBills_65 0 rfl ?_
        refine g_aload_n X dX7_strikeBills_67 rfl 1 rfl ?_
        refine g_get X fl_RX7_33 dX7_strikeBills_68 h0 (v := .ref (be θ + (x0 + 8))) rfl ?_
        refine g_iload X dX7_strikeBills_71 5 rfl ?_
        refine g_iconst X dX7_strikeBills_73 (v := (4 : Int32)) ic_4 ?_
        refine g_imul X dX7_strikeBills_74 ?_
        refine g_iconst X dX7_strikeBills_75 (v := (4 : Int32)) ic_4 ?_
        obtain ⟨g8, h⟩ := ite_some h
        obtain ⟨σ9, hσ9, h⟩ := Option.bind_eq_some_iff.mp h
        refine g_cp X lc_RX7_86 (lk7_7 h0).1 (lk7_7 h0).1 (lk7_7 h0).2 (lk7_7 h0).2 (cpyB_ok g8) ⟨(Nat.le_of_ble_eq_true rfl), (Nat.le_of_ble_eq_true rfl)⟩ dX7_strikeBills_76 (Option.some.inj hσ9) ?_
        refine g_iinc X dX7_strikeBills_79 (kq := 5) rfl (congrArg (HAdd.hAdd _) ic_1) (by decide) (lv' := [(4, .int (a.2.1 + (1 : Int32))), (6, .int (a.2.2 * (4 : Int32))), (0, .ref (be θ + x0)), (1, .int x1), (2, .int x2), (3, .int x3), (5, .int a.2.2)]) rfl ?_
        refine g_iinc X dX7_strikeBills_82 (kq := 6) rfl (congrArg (HAdd.hAdd _) ic_1) (by decide) (lv' := [(5, .int (a.2.2 + (1 : Int32))), (4, .int (a.2.1 + (1 : Int32))), (6, .int (a.2.2 * (4 : Int32))), (0, .ref (be θ + x0)), (1, .int x1), (2, .int x2), (3, .int x3)]) rfl ?_
        refine g_goto (tgt := 6) X dX7_strikeBills_85 (by decide) ?_
        cases h
        exact g_sub [3, 4, 5, 6, 1, 0] rfl hk
      · replace h := (if_pos c7).symm.trans h
        refine g_aload_n X dX7_strikeBills_45 rfl 1 rfl ?_
        refine g_get X fl_RX7_33 dX7_strikeBills_46 h0 (v := .ref (be θ + (x0 + 8))) rfl ?_
        refine g_iload X dX7_strikeBills_49 0 rfl ?_
        refine g_iconst X dX7_strikeBills_51 (v := (2 : Int32)) ic_2 ?_
        refine g_iadd X dX7_strikeBills_52 ?_
        obtain ⟨g10, h⟩ := ite_some h
        refine g_iald X (lk7_7 h0).1 (lk7_7 h0).2 (inb_in g10) dX7_strikeBills_53 ?_
        refine g_iload_n X dX7_strikeBills_54 rfl 4 rfl ?_
        refine g_icmp_lt (tgt := 61) X dX7_strikeBills_55 (by decide) (fun c11 => ?_) (fun c11 => ?_)
        · replace h := (if_pos c11).symm.trans h
          refine g_aload_n X dX7_strikeBills_61 rfl 1 rfl ?_
          refine g_get X fl_RX7_33 dX7_strikeBills_62 h0 (v := .ref (be θ + (x0 + 8))) rfl ?_
          refine g_iload X dX7_strikeBills_65 0 rfl ?_
          refine g_aload_n X dX7_strikeBills_67 rfl 1 rfl ?_
          refine g_get X fl_RX7_33 dX7_strikeBills_68 h0 (v := .ref (be θ + (x0 + 8))) rfl ?_
          refine g_iload X dX7_strikeBills_71 5 rfl ?_
          refine g_iconst X dX7_strikeBills_73 (v := (4 : Int32)) ic_4 ?_
          refine g_imul X dX7_strikeBills_74 ?_
          refine g_iconst X dX7_strikeBills_75 (v := (4 : Int32)) ic_4 ?_
          obtain ⟨g12, h⟩ := ite_some h
          obtain ⟨σ13, hσ13, h⟩ := Option.bind_eq_some_iff.mp h
          refine g_cp X lc_RX7_86 (lk7_7 h0).1 (lk7_7 h0).1 (lk7_7 h0).2 (lk7_7 h0).2 (cpyB_ok g12) ⟨(Nat.le_of_ble_eq_true rfl), (Nat.le_of_ble_eq_true rfl)⟩ dX7_strikeBills_76 (Option.some.inj hσ13) ?_
          refine g_iinc X dX7_strikeBills_79 (kq := 5) rfl (congrArg (HAdd.hAdd _) ic_1) (by decide) (lv' := [(4, .int (a.2.1 + (1 : Int32))), (6, .int (a.2.2 * (4 : Int32))), (0, .ref (be θ + x0)), (1, .int x1), (2, .int x2), (3, .int x3), (5, .int a.2.2)]) rfl ?_
          refine g_iinc X dX7_strikeBills_82 (kq := 6) rfl (congrArg (HAdd.hAdd _) ic_1) (by decide) (lv' := [(5, .int (a.2.2 + (1 : Int32))), (4, .int (a.2.1 + (1 : Int32))), (6, .int (a.2.2 * (4 : Int32))), (0, .ref (be θ + x0)), (1, .int x1), (2, .int x2), (3, .int x3)]) rfl ?_
          refine g_goto (tgt := 6) X dX7_strikeBills_85 (by decide) ?_
          cases h
          exact g_sub [3, 4, 5, 6, 1, 0] rfl hk
        · replace h := (if_neg c11).symm.trans h
          refine g_goto (tgt := 82) X dX7_strikeBills_58 (by decide) ?_
          refine g_iinc X dX7_strikeBills_82 (kq := 6) rfl (congrArg (HAdd.hAdd _) ic_1) (by decide) (lv' := [(5, .int (a.2.2 + (1 : Int32))), (6, .int (a.2.2 * (4 : Int32))), (0, .ref (be θ + x0)), (1, .int x1), (2, .int x2), (3, .int x3), (4, .int a.2.1)]) rfl ?_
          refine g_goto (tgt := 6) X dX7_strikeBills_85 (by decide) ?_
          cases h
          exact g_sub [2, 3, 4, 5, 6, 0] rfl hk
set_option maxHeartbeats 4000000 in
set_option maxRecDepth 20000 in
theorem gl_State_strikeBills_L6 (X : Cx θ p s m args c cX7_strikeBills 7 RX7) (hr : meth.sig.returnType = some .int) (hlk : meth.locks = false)  {x0 : Nat} {x1 : Int32} {x2 : Int32} {x3 : Int32} {r : Int32 × Mem} (h0 : kd x0 = 8) (n : Nat) (a : Mem × Int32 × Int32) (b : Int32 × Mem) (h : loopF (f_State_strikeBills_L6 x0 x1 x2 x3) n a = some b) (hk : b = r) : GB θ p l e 1 s m args below meth c 7 (some (.int r.1), r.2) 6 [(0, .ref (be θ + x0)), (1, .int x1), (2, .int x2), (3, .int x3), (4, .int a.2.1), (5, .int a.2.2)] [] a.1 :=
  loopF_by (P := fun a => GB θ p l e 1 s m args below meth c 7 (some (.int r.1), r.2) 6 [(0, .ref (be θ + x0)), (1, .int x1), (2, .int x2), (3, .int x3), (4, .int a.2.1), (5, .int a.2.2)] [] a.1) (K := fun b => b = r) (fun a x h hk => gs_State_strikeBills_L6 X hr hlk  h0 a x h hk) n a b h hk
set_option maxHeartbeats 4000000 in
set_option maxRecDepth 20000 in
theorem g_State_strikeBills (X : Cx θ p s m args c cX7_strikeBills 7 RX7) (hr : meth.sig.returnType = some .int) (hlk : meth.locks = false)  {σ : Mem} {x0 : Nat} {x1 : Int32} {x2 : Int32} {x3 : Int32} {r : Int32 × Mem} (h0 : kd x0 = 8) (h : f_State_strikeBills σ x0 x1 x2 x3 = some r) : GB θ p l e 1 s m args below meth c 7 (some (.int r.1), r.2) 0 [(0, .ref (be θ + x0)), (1, .int x1), (2, .int x2), (3, .int x3)] [] σ := by
  unfold f_State_strikeBills at h
  refine g_iconst X dX7_strikeBills_0 (v := (0 : Int32)) ic_0 ?_
  refine g_istore X dX7_strikeBills_1 (by decide) (lv' := [(4, .int (0 : Int32)), (0, .ref (be θ + x0)), (1, .int x1), (2, .int x2), (3, .int x3)]) rfl ?_
  refine g_iconst X dX7_strikeBills_3 (v := (0 : Int32)) ic_0 ?_
  refine g_istore X dX7_strikeBills_4 (by decide) (lv' := [(5, .int (0 : Int32)), (4, .int (0 : Int32)), (0, .ref (be θ + x0)), (1, .int x1), (2, .int x2), (3, .int x3)]) rfl ?_
  exact g_sub [2, 3, 4, 5, 1, 0] rfl (gl_State_strikeBills_L6 X hr hlk  h0  FU _ _ h rfl)
set_option maxHeartbeats 4000000 in
set_option maxRecDepth 20000 in
theorem c_State_strikeBills {θ : Th} {l : Launch} {σ : Mem} {x0 : Nat} {x1 : Int32} {x2 : Int32} {x3 : Int32} {r : Int32 × Mem} (h0 : kd x0 = 8) (h : f_State_strikeBills σ x0 x1 x2 x3 = some r) : Cn θ l yX7_strikeBills cX7_strikeBills 7 (some .int) 1 0 0 [.ref (be θ + x0), .int x1, .int x2, .int x3] σ (some (.int r.1), r.2) :=
  Cn.of (by decide) (Nat.le_of_ble_eq_true rfl) (fun p e s m below meth c X hr hlk => g_State_strikeBills X hr hlk h0 h)
theorem dX7_writeBill_0 : decode cX7_writeBill 0 = .ok (.aload_n 0, 1) := by decide +kernel
theorem dX7_writeBill_1 : decode cX7_writeBill 1 = .ok (.getfield 39, 3) := by decide +kernel
theorem dX7_writeBill_4 : decode cX7_writeBill 4 = .ok (.bipush 24, 2) := by decide +kernel
theorem dX7_writeBill_6 : decode cX7_writeBill 6 = .ok (.if_icmp .lt 24, 3) := by decide +kernel
theorem dX7_writeBill_9 : decode cX7_writeBill 9 = .ok (.aload_n 0, 1) := by decide +kernel
theorem dX7_writeBill_10 : decode cX7_writeBill 10 = .ok (.getfield 33, 3) := by decide +kernel
theorem dX7_writeBill_13 : decode cX7_writeBill 13 = .ok (.iconst 4, 1) := by decide +kernel
theorem dX7_writeBill_14 : decode cX7_writeBill 14 = .ok (.aload_n 0, 1) := by decide +kernel
theorem dX7_writeBill_15 : decode cX7_writeBill 15 = .ok (.getfield 33, 3) := by decide +kernel
theorem dX7_writeBill_18 : decode cX7_writeBill 18 = .ok (.iconst 0, 1) := by decide +kernel
theorem dX7_writeBill_19 : decode cX7_writeBill 19 = .ok (.bipush 92, 2) := by decide +kernel
theorem dX7_writeBill_21 : decode cX7_writeBill 21 = .ok (.invokestatic 86, 3) := by decide +kernel
theorem dX7_writeBill_24 : decode cX7_writeBill 24 = .ok (.aload_n 0, 1) := by decide +kernel
theorem dX7_writeBill_25 : decode cX7_writeBill 25 = .ok (.bipush 23, 2) := by decide +kernel
theorem dX7_writeBill_27 : decode cX7_writeBill 27 = .ok (.putfield 39, 3) := by decide +kernel
theorem dX7_writeBill_30 : decode cX7_writeBill 30 = .ok (.aload_n 0, 1) := by decide +kernel
theorem dX7_writeBill_31 : decode cX7_writeBill 31 = .ok (.getfield 39, 3) := by decide +kernel
theorem dX7_writeBill_34 : decode cX7_writeBill 34 = .ok (.iconst 4, 1) := by decide +kernel
theorem dX7_writeBill_35 : decode cX7_writeBill 35 = .ok (.imul, 1) := by decide +kernel
theorem dX7_writeBill_36 : decode cX7_writeBill 36 = .ok (.istore 4, 2) := by decide +kernel
theorem dX7_writeBill_38 : decode cX7_writeBill 38 = .ok (.aload_n 0, 1) := by decide +kernel
theorem dX7_writeBill_39 : decode cX7_writeBill 39 = .ok (.getfield 33, 3) := by decide +kernel
theorem dX7_writeBill_42 : decode cX7_writeBill 42 = .ok (.iload 4, 2) := by decide +kernel
theorem dX7_writeBill_44 : decode cX7_writeBill 44 = .ok (.iload_n 1, 1) := by decide +kernel
theorem dX7_writeBill_45 : decode cX7_writeBill 45 = .ok (.iastore, 1) := by decide +kernel
theorem dX7_writeBill_46 : decode cX7_writeBill 46 = .ok (.aload_n 0, 1) := by decide +kernel
theorem dX7_writeBill_47 : decode cX7_writeBill 47 = .ok (.getfield 33, 3) := by decide +kernel
theorem dX7_writeBill_50 : decode cX7_writeBill 50 = .ok (.iload 4, 2) := by decide +kernel
theorem dX7_writeBill_52 : decode cX7_writeBill 52 = .ok (.iconst 1, 1) := by decide +kernel
theorem dX7_writeBill_53 : decode cX7_writeBill 53 = .ok (.iadd, 1) := by decide +kernel
theorem dX7_writeBill_54 : decode cX7_writeBill 54 = .ok (.iload_n 2, 1) := by decide +kernel
theorem dX7_writeBill_55 : decode cX7_writeBill 55 = .ok (.iastore, 1) := by decide +kernel
theorem dX7_writeBill_56 : decode cX7_writeBill 56 = .ok (.aload_n 0, 1) := by decide +kernel
theorem dX7_writeBill_57 : decode cX7_writeBill 57 = .ok (.getfield 33, 3) := by decide +kernel
theorem dX7_writeBill_60 : decode cX7_writeBill 60 = .ok (.iload 4, 2) := by decide +kernel
theorem dX7_writeBill_62 : decode cX7_writeBill 62 = .ok (.iconst 2, 1) := by decide +kernel
theorem dX7_writeBill_63 : decode cX7_writeBill 63 = .ok (.iadd, 1) := by decide +kernel
theorem dX7_writeBill_64 : decode cX7_writeBill 64 = .ok (.aload_n 0, 1) := by decide +kernel
theorem dX7_writeBill_65 : decode cX7_writeBill 65 = .ok (.getfield 55, 3) := by decide +kernel
theorem dX7_writeBill_68 : decode cX7_writeBill 68 = .ok (.iastore, 1) := by decide +kernel
theorem dX7_writeBill_69 : decode cX7_writeBill 69 = .ok (.aload_n 0, 1) := by decide +kernel
theorem dX7_writeBill_70 : decode cX7_writeBill 70 = .ok (.getfield 33, 3) := by decide +kernel
theorem dX7_writeBill_73 : decode cX7_writeBill 73 = .ok (.iload 4, 2) := by decide +kernel
theorem dX7_writeBill_75 : decode cX7_writeBill 75 = .ok (.iconst 3, 1) := by decide +kernel
theorem dX7_writeBill_76 : decode cX7_writeBill 76 = .ok (.iadd, 1) := by decide +kernel
theorem dX7_writeBill_77 : decode cX7_writeBill 77 = .ok (.iload_n 3, 1) := by decide +kernel
theorem dX7_writeBill_78 : decode cX7_writeBill 78 = .ok (.iastore, 1) := by decide +kernel
theorem dX7_writeBill_79 : decode cX7_writeBill 79 = .ok (.aload_n 0, 1) := by decide +kernel
theorem dX7_writeBill_80 : decode cX7_writeBill 80 = .ok (.dup, 1) := by decide +kernel
theorem dX7_writeBill_81 : decode cX7_writeBill 81 = .ok (.getfield 39, 3) := by decide +kernel
theorem dX7_writeBill_84 : decode cX7_writeBill 84 = .ok (.iconst 1, 1) := by decide +kernel
theorem dX7_writeBill_85 : decode cX7_writeBill 85 = .ok (.iadd, 1) := by decide +kernel
theorem dX7_writeBill_86 : decode cX7_writeBill 86 = .ok (.putfield 39, 3) := by decide +kernel
theorem dX7_writeBill_89 : decode cX7_writeBill 89 = .ok (.return_, 1) := by decide +kernel
def f_State_writeBill_J30 (σ : Mem) (x0 : Nat) (x1 : Int32) (x2 : Int32) (x3 : Int32) : Option (Mem) :=
  if inb ((mI σ x0 9) * (4 : Int32)) 96 then
    if inb (((mI σ x0 9) * (4 : Int32)) + (1 : Int32)) 96 then
      if inb (((mI σ x0 9) * (4 : Int32)) + (2 : Int32)) 96 then
        if inb (((mI σ x0 9) * (4 : Int32)) + (3 : Int32)) 96 then
          some (sI (sI (sI (sI (sI σ (x0 + 8) ((mI σ x0 9) * (4 : Int32)).toNatClampNeg x1) (x0 + 8) (((mI σ x0 9) * (4 : Int32)) + (1 : Int32)).toNatClampNeg x2) (x0 + 8) (((mI σ x0 9) * (4 : Int32)) + (2 : Int32)).toNatClampNeg (mI (sI (sI σ (x0 + 8) ((mI σ x0 9) * (4 : Int32)).toNatClampNeg x1) (x0 + 8) (((mI σ x0 9) * (4 : Int32)) + (1 : Int32)).toNatClampNeg x2) x0 14)) (x0 + 8) (((mI σ x0 9) * (4 : Int32)) + (3 : Int32)).toNatClampNeg x3) x0 9 ((mI (sI (sI (sI (sI σ (x0 + 8) ((mI σ x0 9) * (4 : Int32)).toNatClampNeg x1) (x0 + 8) (((mI σ x0 9) * (4 : Int32)) + (1 : Int32)).toNatClampNeg x2) (x0 + 8) (((mI σ x0 9) * (4 : Int32)) + (2 : Int32)).toNatClampNeg (mI (sI (sI σ (x0 + 8) ((mI σ x0 9) * (4 : Int32)).toNatClampNeg x1) (x0 + 8) (((mI σ x0 9) * (4 : Int32)) + (1 : Int32)).toNatClampNeg x2) x0 14)) (x0 + 8) (((mI σ x0 9) * (4 : Int32)) + (3 : Int32)).toNatClampNeg x3) x0 9) + (1 : Int32)))
        else none
      else none
    else none
  else none
def f_State_writeBill (σ : Mem) (x0 : Nat) (x1 : Int32) (x2 : Int32) (x3 : Int32) : Option (Mem) :=
  if (mI σ x0 9) < (24 : Int32) then
    f_State_writeBill_J30 σ x0 x1 x2 x3
  else
    if cpyB 96 96 (4 : Int32) (0 : Int32) (92 : Int32) then
      (some (rI σ (x0 + 8) (cpyM (mI σ (x0 + 8)) (mI σ (x0 + 8)) (4 : Int32) (0 : Int32) (92 : Int32)))).bind fun σ7 =>
      f_State_writeBill_J30 (sI σ7 x0 9 (23 : Int32)) x0 x1 x2 x3
    else none
set_option maxHeartbeats 4000000 in
set_option maxRecDepth 20000 in
theorem g_State_writeBill_J30 (X : Cx θ p s m args c cX7_writeBill 5 RX7) (hr : meth.sig.returnType = none) (hlk : meth.locks = false)  {σ : Mem} {x0 : Nat} {x1 : Int32} {x2 : Int32} {x3 : Int32} {r : Mem} (h0 : kd x0 = 8) (h : f_State_writeBill_J30 σ x0 x1 x2 x3 = some r) : GB θ p l e 1 s m args below meth c 5 (none, r) 30 [(0, .ref (be θ + x0)), (1, .int x1), (2, .int x2), (3, .int x3)] [] σ := by
  unfold f_State_writeBill_J30 at h
  refine g_aload_n X dX7_writeBill_30 rfl 0 rfl ?_
  refine g_get X fl_RX7_39 dX7_writeBill_31 h0 (v := .int (mI σ x0 9)) rfl ?_
  refine g_iconst X dX7_writeBill_34 (v := (4 : Int32)) ic_4 ?_
  refine g_imul X dX7_writeBill_35 ?_
  refine g_istore X dX7_writeBill_36 (by decide) (lv' := [(4, .int ((mI σ x0 9) * (4 : Int32))), (0, .ref (be θ + x0)), (1, .int x1), (2, .int x2), (3, .int x3)]) rfl ?_
  refine g_aload_n X dX7_writeBill_38 rfl 1 rfl ?_
  refine g_get X fl_RX7_33 dX7_writeBill_39 h0 (v := .ref (be θ + (x0 + 8))) rfl ?_
  refine g_iload X dX7_writeBill_42 0 rfl ?_
  refine g_iload_n X dX7_writeBill_44 rfl 2 rfl ?_
  obtain ⟨g2, h⟩ := ite_some h
  refine g_iast X (lk7_7 h0).1 (lk7_7 h0).2 (inb_in g2) dX7_writeBill_45 ?_
  refine g_aload_n X dX7_writeBill_46 rfl 1 rfl ?_
  refine g_get X fl_RX7_33 dX7_writeBill_47 h0 (v := .ref (be θ + (x0 + 8))) rfl ?_
  refine g_iload X dX7_writeBill_50 0 rfl ?_
  refine g_iconst X dX7_writeBill_52 (v := (1 : Int32)) ic_1 ?_
  refine g_iadd X dX7_writeBill_53 ?_
  refine g_iload_n X dX7_writeBill_54 rfl 3 rfl ?_
  obtain ⟨g3, h⟩ := ite_some h
  refine g_iast X (lk7_7 h0).1 (lk7_7 h0).2 (inb_in g3) dX7_writeBill_55 ?_
  refine g_aload_n X dX7_writeBill_56 rfl 1 rfl ?_
  refine g_get X fl_RX7_33 dX7_writeBill_57 h0 (v := .ref (be θ + (x0 + 8))) rfl ?_
  refine g_iload X dX7_writeBill_60 0 rfl ?_
  refine g_iconst X dX7_writeBill_62 (v := (2 : Int32)) ic_2 ?_
  refine g_iadd X dX7_writeBill_63 ?_
  refine g_aload_n X dX7_writeBill_64 rfl 1 rfl ?_
  refine g_get X fl_RX7_55 dX7_writeBill_65 h0 (v := .int (mI (sI (sI σ (x0 + 8) ((mI σ x0 9) * (4 : Int32)).toNatClampNeg x1) (x0 + 8) (((mI σ x0 9) * (4 : Int32)) + (1 : Int32)).toNatClampNeg x2) x0 14)) rfl ?_
  obtain ⟨g4, h⟩ := ite_some h
  refine g_iast X (lk7_7 h0).1 (lk7_7 h0).2 (inb_in g4) dX7_writeBill_68 ?_
  refine g_aload_n X dX7_writeBill_69 rfl 1 rfl ?_
  refine g_get X fl_RX7_33 dX7_writeBill_70 h0 (v := .ref (be θ + (x0 + 8))) rfl ?_
  refine g_iload X dX7_writeBill_73 0 rfl ?_
  refine g_iconst X dX7_writeBill_75 (v := (3 : Int32)) ic_3 ?_
  refine g_iadd X dX7_writeBill_76 ?_
  refine g_iload_n X dX7_writeBill_77 rfl 4 rfl ?_
  obtain ⟨g5, h⟩ := ite_some h
  refine g_iast X (lk7_7 h0).1 (lk7_7 h0).2 (inb_in g5) dX7_writeBill_78 ?_
  refine g_aload_n X dX7_writeBill_79 rfl 1 rfl ?_
  refine g_dup X dX7_writeBill_80 rfl ?_
  refine g_get X fl_RX7_39 dX7_writeBill_81 h0 (v := .int (mI (sI (sI (sI (sI σ (x0 + 8) ((mI σ x0 9) * (4 : Int32)).toNatClampNeg x1) (x0 + 8) (((mI σ x0 9) * (4 : Int32)) + (1 : Int32)).toNatClampNeg x2) (x0 + 8) (((mI σ x0 9) * (4 : Int32)) + (2 : Int32)).toNatClampNeg (mI (sI (sI σ (x0 + 8) ((mI σ x0 9) * (4 : Int32)).toNatClampNeg x1) (x0 + 8) (((mI σ x0 9) * (4 : Int32)) + (1 : Int32)).toNatClampNeg x2) x0 14)) (x0 + 8) (((mI σ x0 9) * (4 : Int32)) + (3 : Int32)).toNatClampNeg x3) x0 9)) rfl ?_
  refine g_iconst X dX7_writeBill_84 (v := (1 : Int32)) ic_1 ?_
  refine g_iadd X dX7_writeBill_85 ?_
  refine g_putI X fl_RX7_39 dX7_writeBill_86 h0 rfl rfl rfl ?_
  exact g_vret X hr hlk dX7_writeBill_89 (by cases h; rfl)
set_option maxHeartbeats 4000000 in
set_option maxRecDepth 20000 in
theorem g_State_writeBill (X : Cx θ p s m args c cX7_writeBill 5 RX7) (hr : meth.sig.returnType = none) (hlk : meth.locks = false)  {σ : Mem} {x0 : Nat} {x1 : Int32} {x2 : Int32} {x3 : Int32} {r : Mem} (h0 : kd x0 = 8) (h : f_State_writeBill σ x0 x1 x2 x3 = some r) : GB θ p l e 1 s m args below meth c 5 (none, r) 0 [(0, .ref (be θ + x0)), (1, .int x1), (2, .int x2), (3, .int x3)] [] σ := by
  unfold f_State_writeBill at h
  refine g_aload_n X dX7_writeBill_0 rfl 0 rfl ?_
  refine g_get X fl_RX7_39 dX7_writeBill_1 h0 (v := .int (mI σ x0 9)) rfl ?_
  refine g_bipush X dX7_writeBill_4 (v := (24 : Int32)) bp_24 ?_
  refine g_icmp_lt (tgt := 30) X dX7_writeBill_6 (by decide) (fun c1 => ?_) (fun c1 => ?_)
  · replace h := (if_pos c1).symm.trans h
    exact g_sub [0, 1, 2, 3] rfl (g_State_writeBill_J30 X hr hlk  h0  h)
  · replace h := (if_neg c1).symm.trans h
    refine g_aload_n X dX7_writeBill_9 rfl 0 rfl ?_
    refine g_get X fl_RX7_33 dX7_writeBill_10 h0 (v := .ref (be θ + (x0 + 8))) rfl ?_
    refine g_iconst X dX7_writeBill_13 (v := (4 : Int32)) ic_4 ?_
    refine g_aload_n X dX7_writeBill_14 rfl 0 rfl ?_
    refine g_get X fl_RX7_33 dX7_writeBill_15 h0 (v := .ref (be θ + (x0 + 8))) rfl ?_
    refine g_iconst X dX7_writeBill_18 (v := (0 : Int32)) ic_0 ?_
    refine g_bipush X dX7_writeBill_19 (v := (92 : Int32)) bp_92 ?_
    obtain ⟨g6, h⟩ := ite_some h
    obtain ⟨σ7, hσ7, h⟩ := Option.bind_eq_some_iff.mp h
    refine g_cp X lc_RX7_86 (lk7_7 h0).1 (lk7_7 h0).1 (lk7_7 h0).2 (lk7_7 h0).2 (cpyB_ok g6) ⟨(Nat.le_of_ble_eq_true rfl), (Nat.le_of_ble_eq_true rfl)⟩ dX7_writeBill_21 (Option.some.inj hσ7) ?_
    refine g_aload_n X dX7_writeBill_24 rfl 0 rfl ?_
    refine g_bipush X dX7_writeBill_25 (v := (23 : Int32)) bp_23 ?_
    refine g_putI X fl_RX7_39 dX7_writeBill_27 h0 rfl rfl rfl ?_
    exact g_sub [0, 1, 2, 3] rfl (g_State_writeBill_J30 X hr hlk  h0  h)
set_option maxHeartbeats 4000000 in
set_option maxRecDepth 20000 in
theorem c_State_writeBill {θ : Th} {l : Launch} {σ : Mem} {x0 : Nat} {x1 : Int32} {x2 : Int32} {x3 : Int32} {r : Mem} (h0 : kd x0 = 8) (h : f_State_writeBill σ x0 x1 x2 x3 = some r) : Cn θ l yX7_writeBill cX7_writeBill 5 (none) 1 0 0 [.ref (be θ + x0), .int x1, .int x2, .int x3] σ (none, r) :=
  Cn.of (by decide) (Nat.le_of_ble_eq_true rfl) (fun p e s m below meth c X hr hlk => g_State_writeBill X hr hlk h0 h)
theorem dX7_dueOf_0 : decode cX7_dueOf 0 = .ok (.iconst 0, 1) := by decide +kernel
theorem dX7_dueOf_1 : decode cX7_dueOf 1 = .ok (.istore_n 2, 1) := by decide +kernel
theorem dX7_dueOf_2 : decode cX7_dueOf 2 = .ok (.iconst 0, 1) := by decide +kernel
theorem dX7_dueOf_3 : decode cX7_dueOf 3 = .ok (.istore_n 3, 1) := by decide +kernel
theorem dX7_dueOf_4 : decode cX7_dueOf 4 = .ok (.iload_n 3, 1) := by decide +kernel
theorem dX7_dueOf_5 : decode cX7_dueOf 5 = .ok (.aload_n 0, 1) := by decide +kernel
theorem dX7_dueOf_6 : decode cX7_dueOf 6 = .ok (.getfield 39, 3) := by decide +kernel
theorem dX7_dueOf_9 : decode cX7_dueOf 9 = .ok (.if_icmp .ge 34, 3) := by decide +kernel
theorem dX7_dueOf_12 : decode cX7_dueOf 12 = .ok (.aload_n 0, 1) := by decide +kernel
theorem dX7_dueOf_13 : decode cX7_dueOf 13 = .ok (.getfield 33, 3) := by decide +kernel
theorem dX7_dueOf_16 : decode cX7_dueOf 16 = .ok (.iload_n 3, 1) := by decide +kernel
theorem dX7_dueOf_17 : decode cX7_dueOf 17 = .ok (.iconst 4, 1) := by decide +kernel
theorem dX7_dueOf_18 : decode cX7_dueOf 18 = .ok (.imul, 1) := by decide +kernel
theorem dX7_dueOf_19 : decode cX7_dueOf 19 = .ok (.iaload, 1) := by decide +kernel
theorem dX7_dueOf_20 : decode cX7_dueOf 20 = .ok (.iload_n 1, 1) := by decide +kernel
theorem dX7_dueOf_21 : decode cX7_dueOf 21 = .ok (.if_icmp .ne 16, 3) := by decide +kernel
theorem dX7_dueOf_24 : decode cX7_dueOf 24 = .ok (.iload_n 2, 1) := by decide +kernel
theorem dX7_dueOf_25 : decode cX7_dueOf 25 = .ok (.aload_n 0, 1) := by decide +kernel
theorem dX7_dueOf_26 : decode cX7_dueOf 26 = .ok (.getfield 33, 3) := by decide +kernel
theorem dX7_dueOf_29 : decode cX7_dueOf 29 = .ok (.iload_n 3, 1) := by decide +kernel
theorem dX7_dueOf_30 : decode cX7_dueOf 30 = .ok (.iconst 4, 1) := by decide +kernel
theorem dX7_dueOf_31 : decode cX7_dueOf 31 = .ok (.imul, 1) := by decide +kernel
theorem dX7_dueOf_32 : decode cX7_dueOf 32 = .ok (.iconst 3, 1) := by decide +kernel
theorem dX7_dueOf_33 : decode cX7_dueOf 33 = .ok (.iadd, 1) := by decide +kernel
theorem dX7_dueOf_34 : decode cX7_dueOf 34 = .ok (.iaload, 1) := by decide +kernel
theorem dX7_dueOf_35 : decode cX7_dueOf 35 = .ok (.iadd, 1) := by decide +kernel
theorem dX7_dueOf_36 : decode cX7_dueOf 36 = .ok (.istore_n 2, 1) := by decide +kernel
theorem dX7_dueOf_37 : decode cX7_dueOf 37 = .ok (.iinc 3 1, 3) := by decide +kernel
theorem dX7_dueOf_40 : decode cX7_dueOf 40 = .ok (.goto (-36), 3) := by decide +kernel
theorem dX7_dueOf_43 : decode cX7_dueOf 43 = .ok (.iload_n 2, 1) := by decide +kernel
theorem dX7_dueOf_44 : decode cX7_dueOf 44 = .ok (.ireturn, 1) := by decide +kernel
def f_State_dueOf_L4 (σ : Mem) (x0 : Nat) (x1 : Int32) (a : Int32 × Int32) : Option ((Int32 × Int32) ⊕ (Int32)) :=
  if (mI σ x0 9) ≤ a.2 then
    some (.inr a.1)
  else
    if inb (a.2 * (4 : Int32)) 96 then
      if (mI σ (x0 + 8) (a.2 * (4 : Int32)).toNatClampNeg) = x1 then
        if inb ((a.2 * (4 : Int32)) + (3 : Int32)) 96 then
          some (.inl ((a.1 + (mI σ (x0 + 8) ((a.2 * (4 : Int32)) + (3 : Int32)).toNatClampNeg)), (a.2 + (1 : Int32))))
        else none
      else
        some (.inl (a.1, (a.2 + (1 : Int32))))
    else none
def f_State_dueOf (σ : Mem) (x0 : Nat) (x1 : Int32) : Option (Int32) :=
  loopF (f_State_dueOf_L4 σ x0 x1) FU ((0 : Int32), (0 : Int32))
set_option maxHeartbeats 4000000 in
set_option maxRecDepth 20000 in
theorem gs_State_dueOf_L4 (X : Cx θ p s m args c cX7_dueOf 4 RX7) (hr : meth.sig.returnType = some .int) (hlk : meth.locks = false)  {σ : Mem} {x0 : Nat} {x1 : Int32} {r : Int32} (h0 : kd x0 = 8) (a : Int32 × Int32) (x : (Int32 × Int32) ⊕ (Int32)) (h : f_State_dueOf_L4 σ x0 x1 a = some x) (hk : Sum.elim (fun a => GB θ p l e 0 s m args below meth c 4 (some (.int r), σ) 4 [(0, .ref (be θ + x0)), (1, .int x1), (2, .int a.1), (3, .int a.2)] [] σ) (fun b => b = r) x) : GB θ p l e 0 s m args below meth c 4 (some (.int r), σ) 4 [(0, .ref (be θ + x0)), (1, .int x1), (2, .int a.1), (3, .int a.2)] [] σ := by
  unfold f_State_dueOf_L4 at h
  refine g_iload_n X dX7_dueOf_4 rfl 3 rfl ?_
  refine g_aload_n X dX7_dueOf_5 rfl 0 rfl ?_
  refine g_get X fl_RX7_39 dX7_dueOf_6 h0 (v := .int (mI σ x0 9)) rfl ?_
  refine g_icmp_ge (tgt := 43) X dX7_dueOf_9 (by decide) (fun c1 => ?_) (fun c1 => ?_)
  · replace h := (if_pos c1).symm.trans h
    refine g_iload_n X dX7_dueOf_43 rfl 2 rfl ?_
    cases h
    have hk : a.1 = r := hk
    subst hk
    exact g_iret X hr hlk dX7_dueOf_44 rfl
  · replace h := (if_neg c1).symm.trans h
    refine g_aload_n X dX7_dueOf_12 rfl 0 rfl ?_
    refine g_get X fl_RX7_33 dX7_dueOf_13 h0 (v := .ref (be θ + (x0 + 8))) rfl ?_
    refine g_iload_n X dX7_dueOf_16 rfl 3 rfl ?_
    refine g_iconst X dX7_dueOf_17 (v := (4 : Int32)) ic_4 ?_
    refine g_imul X dX7_dueOf_18 ?_
    obtain ⟨g2, h⟩ := ite_some h
    refine g_iald X (lk7_7 h0).1 (lk7_7 h0).2 (inb_in g2) dX7_dueOf_19 ?_
    refine g_iload_n X dX7_dueOf_20 rfl 1 rfl ?_
    refine g_icmp_ne (tgt := 37) X dX7_dueOf_21 (by decide) (fun c3 => ?_) (fun c3 => ?_)
    · replace h := (if_neg c3).symm.trans h
      refine g_iinc X dX7_dueOf_37 (kq := 3) rfl (congrArg (HAdd.hAdd _) ic_1) (by decide) (lv' := [(3, .int (a.2 + (1 : Int32))), (0, .ref (be θ + x0)), (1, .int x1), (2, .int a.1)]) rfl ?_
      refine g_goto (tgt := 4) X dX7_dueOf_40 (by decide) ?_
      cases h
      exact g_sub [1, 2, 3, 0] rfl hk
    · replace h := (if_pos c3).symm.trans h
      refine g_iload_n X dX7_dueOf_24 rfl 2 rfl ?_
      refine g_aload_n X dX7_dueOf_25 rfl 0 rfl ?_
      refine g_get X fl_RX7_33 dX7_dueOf_26 h0 (v := .ref (be θ + (x0 + 8))) rfl ?_
      refine g_iload_n X dX7_dueOf_29 rfl 3 rfl ?_
      refine g_iconst X dX7_dueOf_30 (v := (4 : Int32)) ic_4 ?_
      refine g_imul X dX7_dueOf_31 ?_
      refine g_iconst X dX7_dueOf_32 (v := (3 : Int32)) ic_3 ?_
      refine g_iadd X dX7_dueOf_33 ?_
      obtain ⟨g4, h⟩ := ite_some h
      refine g_iald X (lk7_7 h0).1 (lk7_7 h0).2 (inb_in g4) dX7_dueOf_34 ?_
      refine g_iadd X dX7_dueOf_35 ?_
      refine g_istore_n X dX7_dueOf_36 rfl (by decide) (lv' := [(2, .int (a.1 + (mI σ (x0 + 8) ((a.2 * (4 : Int32)) + (3 : Int32)).toNatClampNeg))), (0, .ref (be θ + x0)), (1, .int x1), (3, .int a.2)]) rfl ?_
      refine g_iinc X dX7_dueOf_37 (kq := 3) rfl (congrArg (HAdd.hAdd _) ic_1) (by decide) (lv' := [(3, .int (a.2 + (1 : Int32))), (2, .int (a.1 + (mI σ (x0 + 8) ((a.2 * (4 : Int32)) + (3 : Int32)).toNatClampNeg))), (0, .ref (be θ + x0)), (1, .int x1)]) rfl ?_
      refine g_goto (tgt := 4) X dX7_dueOf_40 (by decide) ?_
      cases h
      exact g_sub [2, 3, 1, 0] rfl hk
set_option maxHeartbeats 4000000 in
set_option maxRecDepth 20000 in
theorem gl_State_dueOf_L4 (X : Cx θ p s m args c cX7_dueOf 4 RX7) (hr : meth.sig.returnType = some .int) (hlk : meth.locks = false)  {σ : Mem} {x0 : Nat} {x1 : Int32} {r : Int32} (h0 : kd x0 = 8) (n : Nat) (a : Int32 × Int32) (b : Int32) (h : loopF (f_State_dueOf_L4 σ x0 x1) n a = some b) (hk : b = r) : GB θ p l e 0 s m args below meth c 4 (some (.int r), σ) 4 [(0, .ref (be θ + x0)), (1, .int x1), (2, .int a.1), (3, .int a.2)] [] σ :=
  loopF_by (P := fun a => GB θ p l e 0 s m args below meth c 4 (some (.int r), σ) 4 [(0, .ref (be θ + x0)), (1, .int x1), (2, .int a.1), (3, .int a.2)] [] σ) (K := fun b => b = r) (fun a x h hk => gs_State_dueOf_L4 X hr hlk  h0 a x h hk) n a b h hk
set_option maxHeartbeats 4000000 in
set_option maxRecDepth 20000 in
theorem g_State_dueOf (X : Cx θ p s m args c cX7_dueOf 4 RX7) (hr : meth.sig.returnType = some .int) (hlk : meth.locks = false)  {σ : Mem} {x0 : Nat} {x1 : Int32} {r : Int32} (h0 : kd x0 = 8) (h : f_State_dueOf σ x0 x1 = some r) : GB θ p l e 0 s m args below meth c 4 (some (.int r), σ) 0 [(0, .ref (be θ + x0)), (1, .int x1)] [] σ := by
  unfold f_State_dueOf at h
  refine g_iconst X dX7_dueOf_0 (v := (0 : Int32)) ic_0 ?_
  refine g_istore_n X dX7_dueOf_1 rfl (by decide) (lv' := [(2, .int (0 : Int32)), (0, .ref (be θ + x0)), (1, .int x1)]) rfl ?_
  refine g_iconst X dX7_dueOf_2 (v := (0 : Int32)) ic_0 ?_
  refine g_istore_n X dX7_dueOf_3 rfl (by decide) (lv' := [(3, .int (0 : Int32)), (2, .int (0 : Int32)), (0, .ref (be θ + x0)), (1, .int x1)]) rfl ?_
  exact g_sub [2, 3, 1, 0] rfl (gl_State_dueOf_L4 X hr hlk  h0  FU _ _ h rfl)
set_option maxHeartbeats 4000000 in
set_option maxRecDepth 20000 in
theorem c_State_dueOf {θ : Th} {l : Launch} {σ : Mem} {x0 : Nat} {x1 : Int32} {r : Int32} (h0 : kd x0 = 8) (h : f_State_dueOf σ x0 x1 = some r) : Cn θ l yX7_dueOf cX7_dueOf 4 (some .int) 0 0 0 [.ref (be θ + x0), .int x1] σ (some (.int r), σ) :=
  Cn.of (by decide) (Nat.le_of_ble_eq_true rfl) (fun p e s m below meth c X hr hlk => g_State_dueOf X hr hlk h0 h)
theorem dX7_hasBillFor_0 : decode cX7_hasBillFor 0 = .ok (.iconst 0, 1) := by decide +kernel
theorem dX7_hasBillFor_1 : decode cX7_hasBillFor 1 = .ok (.istore_n 3, 1) := by decide +kernel
theorem dX7_hasBillFor_2 : decode cX7_hasBillFor 2 = .ok (.iload_n 3, 1) := by decide +kernel
theorem dX7_hasBillFor_3 : decode cX7_hasBillFor 3 = .ok (.aload_n 0, 1) := by decide +kernel
theorem dX7_hasBillFor_4 : decode cX7_hasBillFor 4 = .ok (.getfield 39, 3) := by decide +kernel
theorem dX7_hasBillFor_7 : decode cX7_hasBillFor 7 = .ok (.if_icmp .ge 37, 3) := by decide +kernel
theorem dX7_hasBillFor_10 : decode cX7_hasBillFor 10 = .ok (.aload_n 0, 1) := by decide +kernel
theorem dX7_hasBillFor_11 : decode cX7_hasBillFor 11 = .ok (.getfield 33, 3) := by decide +kernel
theorem dX7_hasBillFor_14 : decode cX7_hasBillFor 14 = .ok (.iload_n 3, 1) := by decide +kernel
theorem dX7_hasBillFor_15 : decode cX7_hasBillFor 15 = .ok (.iconst 4, 1) := by decide +kernel
theorem dX7_hasBillFor_16 : decode cX7_hasBillFor 16 = .ok (.imul, 1) := by decide +kernel
theorem dX7_hasBillFor_17 : decode cX7_hasBillFor 17 = .ok (.iaload, 1) := by decide +kernel
theorem dX7_hasBillFor_18 : decode cX7_hasBillFor 18 = .ok (.iload_n 1, 1) := by decide +kernel
theorem dX7_hasBillFor_19 : decode cX7_hasBillFor 19 = .ok (.if_icmp .ne 19, 3) := by decide +kernel
theorem dX7_hasBillFor_22 : decode cX7_hasBillFor 22 = .ok (.aload_n 0, 1) := by decide +kernel
theorem dX7_hasBillFor_23 : decode cX7_hasBillFor 23 = .ok (.getfield 33, 3) := by decide +kernel
theorem dX7_hasBillFor_26 : decode cX7_hasBillFor 26 = .ok (.iload_n 3, 1) := by decide +kernel
theorem dX7_hasBillFor_27 : decode cX7_hasBillFor 27 = .ok (.iconst 4, 1) := by decide +kernel
theorem dX7_hasBillFor_28 : decode cX7_hasBillFor 28 = .ok (.imul, 1) := by decide +kernel
theorem dX7_hasBillFor_29 : decode cX7_hasBillFor 29 = .ok (.iconst 1, 1) := by decide +kernel
theorem dX7_hasBillFor_30 : decode cX7_hasBillFor 30 = .ok (.iadd, 1) := by decide +kernel
theorem dX7_hasBillFor_31 : decode cX7_hasBillFor 31 = .ok (.iaload, 1) := by decide +kernel
theorem dX7_hasBillFor_32 : decode cX7_hasBillFor 32 = .ok (.iload_n 2, 1) := by decide +kernel
theorem dX7_hasBillFor_33 : decode cX7_hasBillFor 33 = .ok (.if_icmp .ne 5, 3) := by decide +kernel
theorem dX7_hasBillFor_36 : decode cX7_hasBillFor 36 = .ok (.iconst 1, 1) := by decide +kernel
theorem dX7_hasBillFor_37 : decode cX7_hasBillFor 37 = .ok (.ireturn, 1) := by decide +kernel
theorem dX7_hasBillFor_38 : decode cX7_hasBillFor 38 = .ok (.iinc 3 1, 3) := by decide +kernel
theorem dX7_hasBillFor_41 : decode cX7_hasBillFor 41 = .ok (.goto (-39), 3) := by decide +kernel
theorem dX7_hasBillFor_44 : decode cX7_hasBillFor 44 = .ok (.iconst 0, 1) := by decide +kernel
theorem dX7_hasBillFor_45 : decode cX7_hasBillFor 45 = .ok (.ireturn, 1) := by decide +kernel
def f_State_hasBillFor_L2 (σ : Mem) (x0 : Nat) (x1 : Int32) (x2 : Int32) (a : Int32) : Option ((Int32) ⊕ (Int32)) :=
  if (mI σ x0 9) ≤ a then
    some (.inr (0 : Int32))
  else
    if inb (a * (4 : Int32)) 96 then
      if (mI σ (x0 + 8) (a * (4 : Int32)).toNatClampNeg) = x1 then
        if inb ((a * (4 : Int32)) + (1 : Int32)) 96 then
          if (mI σ (x0 + 8) ((a * (4 : Int32)) + (1 : Int32)).toNatClampNeg) = x2 then
            some (.inr (1 : Int32))
          else
            some (.inl (a + (1 : Int32)))
        else none
      else
        some (.inl (a + (1 : Int32)))
    else none
def f_State_hasBillFor (σ : Mem) (x0 : Nat) (x1 : Int32) (x2 : Int32) : Option (Int32) :=
  loopF (f_State_hasBillFor_L2 σ x0 x1 x2) FU (0 : Int32)
set_option maxHeartbeats 4000000 in
set_option maxRecDepth 20000 in
theorem gs_State_hasBillFor_L2 (X : Cx θ p s m args c cX7_hasBillFor 4 RX7) (hr : meth.sig.returnType = some .boolean) (hlk : meth.locks = false)  {σ : Mem} {x0 : Nat} {x1 : Int32} {x2 : Int32} {r : Int32} (h0 : kd x0 = 8) (a : Int32) (x : (Int32) ⊕ (Int32)) (h : f_State_hasBillFor_L2 σ x0 x1 x2 a = some x) (hk : Sum.elim (fun a => GB θ p l e 0 s m args below meth c 4 (some (.int r), σ) 2 [(0, .ref (be θ + x0)), (1, .int x1), (2, .int x2), (3, .int a)] [] σ) (fun b => b = r) x) : GB θ p l e 0 s m args below meth c 4 (some (.int r), σ) 2 [(0, .ref (be θ + x0)), (1, .int x1), (2, .int x2), (3, .int a)] [] σ := by
  unfold f_State_hasBillFor_L2 at h
  refine g_iload_n X dX7_hasBillFor_2 rfl 3 rfl ?_
  refine g_aload_n X dX7_hasBillFor_3 rfl 0 rfl ?_
  refine g_get X fl_RX7_39 dX7_hasBillFor_4 h0 (v := .int (mI σ x0 9)) rfl ?_
  refine g_icmp_ge (tgt := 44) X dX7_hasBillFor_7 (by decide) (fun c1 => ?_) (fun c1 => ?_)
  · replace h := (if_pos c1).symm.trans h
    refine g_iconst X dX7_hasBillFor_44 (v := (0 : Int32)) ic_0 ?_
    cases h
    have hk : (0 : Int32) = r := hk
    subst hk
    exact g_zret X hr hlk bz0 dX7_hasBillFor_45 rfl
  · replace h := (if_neg c1).symm.trans h
    refine g_aload_n X dX7_hasBillFor_10 rfl 0 rfl ?_
    refine g_get X fl_RX7_33 dX7_hasBillFor_11 h0 (v := .ref (be θ + (x0 + 8))) rfl ?_
    refine g_iload_n X dX7_hasBillFor_14 rfl 3 rfl ?_
    refine g_iconst X dX7_hasBillFor_15 (v := (4 : Int32)) ic_4 ?_
    refine g_imul X dX7_hasBillFor_16 ?_
    obtain ⟨g2, h⟩ := ite_some h
    refine g_iald X (lk7_7 h0).1 (lk7_7 h0).2 (inb_in g2) dX7_hasBillFor_17 ?_
    refine g_iload_n X dX7_hasBillFor_18 rfl 1 rfl ?_
    refine g_icmp_ne (tgt := 38) X dX7_hasBillFor_19 (by decide) (fun c3 => ?_) (fun c3 => ?_)
    · replace h := (if_neg c3).symm.trans h
      refine g_iinc X dX7_hasBillFor_38 (kq := 3) rfl (congrArg (HAdd.hAdd _) ic_1) (by decide) (lv' := [(3, .int (a + (1 : Int32))), (0, .ref (be θ + x0)), (1, .int x1), (2, .int x2)]) rfl ?_
      refine g_goto (tgt := 2) X dX7_hasBillFor_41 (by decide) ?_
      cases h
      exact g_sub [1, 2, 3, 0] rfl hk
    · replace h := (if_pos c3).symm.trans h
      refine g_aload_n X dX7_hasBillFor_22 rfl 0 rfl ?_
      refine g_get X fl_RX7_33 dX7_hasBillFor_23 h0 (v := .ref (be θ + (x0 + 8))) rfl ?_
      refine g_iload_n X dX7_hasBillFor_26 rfl 3 rfl ?_
      refine g_iconst X dX7_hasBillFor_27 (v := (4 : Int32)) ic_4 ?_
      refine g_imul X dX7_hasBillFor_28 ?_
      refine g_iconst X dX7_hasBillFor_29 (v := (1 : Int32)) ic_1 ?_
      refine g_iadd X dX7_hasBillFor_30 ?_
      obtain ⟨g4, h⟩ := ite_some h
      refine g_iald X (lk7_7 h0).1 (lk7_7 h0).2 (inb_in g4) dX7_hasBillFor_31 ?_
      refine g_iload_n X dX7_hasBillFor_32 rfl 2 rfl ?_
      refine g_icmp_ne (tgt := 38) X dX7_hasBillFor_33 (by decide) (fun c5 => ?_) (fun c5 => ?_)
      · replace h := (if_neg c5).symm.trans h
        refine g_iinc X dX7_hasBillFor_38 (kq := 3) rfl (congrArg (HAdd.hAdd _) ic_1) (by decide) (lv' := [(3, .int (a + (1 : Int32))), (0, .ref (be θ + x0)), (1, .int x1), (2, .int x2)]) rfl ?_
        refine g_goto (tgt := 2) X dX7_hasBillFor_41 (by decide) ?_
        cases h
        exact g_sub [1, 2, 3, 0] rfl hk
      · replace h := (if_pos c5).symm.trans h
        refine g_iconst X dX7_hasBillFor_36 (v := (1 : Int32)) ic_1 ?_
        cases h
        have hk : (1 : Int32) = r := hk
        subst hk
        exact g_zret X hr hlk bz1 dX7_hasBillFor_37 rfl
set_option maxHeartbeats 4000000 in
set_option maxRecDepth 20000 in
theorem gl_State_hasBillFor_L2 (X : Cx θ p s m args c cX7_hasBillFor 4 RX7) (hr : meth.sig.returnType = some .boolean) (hlk : meth.locks = false)  {σ : Mem} {x0 : Nat} {x1 : Int32} {x2 : Int32} {r : Int32} (h0 : kd x0 = 8) (n : Nat) (a : Int32) (b : Int32) (h : loopF (f_State_hasBillFor_L2 σ x0 x1 x2) n a = some b) (hk : b = r) : GB θ p l e 0 s m args below meth c 4 (some (.int r), σ) 2 [(0, .ref (be θ + x0)), (1, .int x1), (2, .int x2), (3, .int a)] [] σ :=
  loopF_by (P := fun a => GB θ p l e 0 s m args below meth c 4 (some (.int r), σ) 2 [(0, .ref (be θ + x0)), (1, .int x1), (2, .int x2), (3, .int a)] [] σ) (K := fun b => b = r) (fun a x h hk => gs_State_hasBillFor_L2 X hr hlk  h0 a x h hk) n a b h hk
set_option maxHeartbeats 4000000 in
set_option maxRecDepth 20000 in
theorem g_State_hasBillFor (X : Cx θ p s m args c cX7_hasBillFor 4 RX7) (hr : meth.sig.returnType = some .boolean) (hlk : meth.locks = false)  {σ : Mem} {x0 : Nat} {x1 : Int32} {x2 : Int32} {r : Int32} (h0 : kd x0 = 8) (h : f_State_hasBillFor σ x0 x1 x2 = some r) : GB θ p l e 0 s m args below meth c 4 (some (.int r), σ) 0 [(0, .ref (be θ + x0)), (1, .int x1), (2, .int x2)] [] σ := by
  unfold f_State_hasBillFor at h
  refine g_iconst X dX7_hasBillFor_0 (v := (0 : Int32)) ic_0 ?_
  refine g_istore_n X dX7_hasBillFor_1 rfl (by decide) (lv' := [(3, .int (0 : Int32)), (0, .ref (be θ + x0)), (1, .int x1), (2, .int x2)]) rfl ?_
  exact g_sub [1, 2, 3, 0] rfl (gl_State_hasBillFor_L2 X hr hlk  h0  FU _ _ h rfl)
set_option maxHeartbeats 4000000 in
set_option maxRecDepth 20000 in
theorem c_State_hasBillFor {θ : Th} {l : Launch} {σ : Mem} {x0 : Nat} {x1 : Int32} {x2 : Int32} {r : Int32} (h0 : kd x0 = 8) (h : f_State_hasBillFor σ x0 x1 x2 = some r) : Cn θ l yX7_hasBillFor cX7_hasBillFor 4 (some .boolean) 0 0 0 [.ref (be θ + x0), .int x1, .int x2] σ (some (.int r), σ) :=
  Cn.of (by decide) (Nat.le_of_ble_eq_true rfl) (fun p e s m below meth c X hr hlk => g_State_hasBillFor X hr hlk h0 h)
theorem dX7_holders_0 : decode cX7_holders 0 = .ok (.iconst 0, 1) := by decide +kernel
theorem dX7_holders_1 : decode cX7_holders 1 = .ok (.istore_n 1, 1) := by decide +kernel
theorem dX7_holders_2 : decode cX7_holders 2 = .ok (.iconst 0, 1) := by decide +kernel
theorem dX7_holders_3 : decode cX7_holders 3 = .ok (.istore_n 2, 1) := by decide +kernel
theorem dX7_holders_4 : decode cX7_holders 4 = .ok (.iload_n 2, 1) := by decide +kernel
theorem dX7_holders_5 : decode cX7_holders 5 = .ok (.bipush 6, 2) := by decide +kernel
theorem dX7_holders_7 : decode cX7_holders 7 = .ok (.if_icmp .ge 25, 3) := by decide +kernel
theorem dX7_holders_10 : decode cX7_holders 10 = .ok (.aload_n 0, 1) := by decide +kernel
theorem dX7_holders_11 : decode cX7_holders 11 = .ok (.getfield 24, 3) := by decide +kernel
theorem dX7_holders_14 : decode cX7_holders 14 = .ok (.iload_n 2, 1) := by decide +kernel
theorem dX7_holders_15 : decode cX7_holders 15 = .ok (.iaload, 1) := by decide +kernel
theorem dX7_holders_16 : decode cX7_holders 16 = .ok (.iconst (-1), 1) := by decide +kernel
theorem dX7_holders_17 : decode cX7_holders 17 = .ok (.if_icmp .eq 9, 3) := by decide +kernel
theorem dX7_holders_20 : decode cX7_holders 20 = .ok (.iload_n 1, 1) := by decide +kernel
theorem dX7_holders_21 : decode cX7_holders 21 = .ok (.iconst 1, 1) := by decide +kernel
theorem dX7_holders_22 : decode cX7_holders 22 = .ok (.iload_n 2, 1) := by decide +kernel
theorem dX7_holders_23 : decode cX7_holders 23 = .ok (.ishl, 1) := by decide +kernel
theorem dX7_holders_24 : decode cX7_holders 24 = .ok (.ior, 1) := by decide +kernel
theorem dX7_holders_25 : decode cX7_holders 25 = .ok (.istore_n 1, 1) := by decide +kernel
theorem dX7_holders_26 : decode cX7_holders 26 = .ok (.iinc 2 1, 3) := by decide +kernel
theorem dX7_holders_29 : decode cX7_holders 29 = .ok (.goto (-25), 3) := by decide +kernel
theorem dX7_holders_32 : decode cX7_holders 32 = .ok (.iload_n 1, 1) := by decide +kernel
theorem dX7_holders_33 : decode cX7_holders 33 = .ok (.ireturn, 1) := by decide +kernel
def f_State_holders_L4 (σ : Mem) (x0 : Nat) (a : Int32 × Int32) : Option ((Int32 × Int32) ⊕ (Int32)) :=
  if (6 : Int32) ≤ a.2 then
    some (.inr a.1)
  else
    if inb a.2 6 then
      if (mI σ (x0 + 5) a.2.toNatClampNeg) = (-1 : Int32) then
        some (.inl (a.1, (a.2 + (1 : Int32))))
      else
        some (.inl ((a.1 ||| ((1 : Int32) <<< (a.2 &&& 31))), (a.2 + (1 : Int32))))
    else none
def f_State_holders (σ : Mem) (x0 : Nat) : Option (Int32) :=
  loopF (f_State_holders_L4 σ x0) FU ((0 : Int32), (0 : Int32))
set_option maxHeartbeats 4000000 in
set_option maxRecDepth 20000 in
theorem gs_State_holders_L4 (X : Cx θ p s m args c cX7_holders 3 RX7) (hr : meth.sig.returnType = some .int) (hlk : meth.locks = false)  {σ : Mem} {x0 : Nat} {r : Int32} (h0 : kd x0 = 8) (a : Int32 × Int32) (x : (Int32 × Int32) ⊕ (Int32)) (h : f_State_holders_L4 σ x0 a = some x) (hk : Sum.elim (fun a => GB θ p l e 0 s m args below meth c 3 (some (.int r), σ) 4 [(0, .ref (be θ + x0)), (1, .int a.1), (2, .int a.2)] [] σ) (fun b => b = r) x) : GB θ p l e 0 s m args below meth c 3 (some (.int r), σ) 4 [(0, .ref (be θ + x0)), (1, .int a.1), (2, .int a.2)] [] σ := by
  unfold f_State_holders_L4 at h
  refine g_iload_n X dX7_holders_4 rfl 2 rfl ?_
  refine g_bipush X dX7_holders_5 (v := (6 : Int32)) bp_6 ?_
  refine g_icmp_ge (tgt := 32) X dX7_holders_7 (by decide) (fun c1 => ?_) (fun c1 => ?_)
  · replace h := (if_pos c1).symm.trans h
    refine g_iload_n X dX7_holders_32 rfl 1 rfl ?_
    cases h
    have hk : a.1 = r := hk
    subst hk
    exact g_iret X hr hlk dX7_holders_33 rfl
  · replace h := (if_neg c1).symm.trans h
    refine g_aload_n X dX7_holders_10 rfl 0 rfl ?_
    refine g_get X fl_RX7_24 dX7_holders_11 h0 (v := .ref (be θ + (x0 + 5))) rfl ?_
    refine g_iload_n X dX7_holders_14 rfl 2 rfl ?_
    obtain ⟨g2, h⟩ := ite_some h
    refine g_iald X (lk7_4 h0).1 (lk7_4 h0).2 (inb_in g2) dX7_holders_15 ?_
    refine g_iconst X dX7_holders_16 (v := (-1 : Int32)) ic_m1 ?_
    refine g_icmp_eq (tgt := 26) X dX7_holders_17 (by decide) (fun c3 => ?_) (fun c3 => ?_)
    · replace h := (if_pos c3).symm.trans h
      refine g_iinc X dX7_holders_26 (kq := 2) rfl (congrArg (HAdd.hAdd _) ic_1) (by decide) (lv' := [(2, .int (a.2 + (1 : Int32))), (0, .ref (be θ + x0)), (1, .int a.1)]) rfl ?_
      refine g_goto (tgt := 4) X dX7_holders_29 (by decide) ?_
      cases h
      exact g_sub [1, 2, 0] rfl hk
    · replace h := (if_neg c3).symm.trans h
      refine g_iload_n X dX7_holders_20 rfl 1 rfl ?_
      refine g_iconst X dX7_holders_21 (v := (1 : Int32)) ic_1 ?_
      refine g_iload_n X dX7_holders_22 rfl 2 rfl ?_
      refine g_ishl X dX7_holders_23 ?_
      refine g_ior X dX7_holders_24 ?_
      refine g_istore_n X dX7_holders_25 rfl (by decide) (lv' := [(1, .int (a.1 ||| ((1 : Int32) <<< (a.2 &&& 31)))), (0, .ref (be θ + x0)), (2, .int a.2)]) rfl ?_
      refine g_iinc X dX7_holders_26 (kq := 2) rfl (congrArg (HAdd.hAdd _) ic_1) (by decide) (lv' := [(2, .int (a.2 + (1 : Int32))), (1, .int (a.1 ||| ((1 : Int32) <<< (a.2 &&& 31)))), (0, .ref (be θ + x0))]) rfl ?_
      refine g_goto (tgt := 4) X dX7_holders_29 (by decide) ?_
      cases h
      exact g_sub [2, 1, 0] rfl hk
set_option maxHeartbeats 4000000 in
set_option maxRecDepth 20000 in
theorem gl_State_holders_L4 (X : Cx θ p s m args c cX7_holders 3 RX7) (hr : meth.sig.returnType = some .int) (hlk : meth.locks = false)  {σ : Mem} {x0 : Nat} {r : Int32} (h0 : kd x0 = 8) (n : Nat) (a : Int32 × Int32) (b : Int32) (h : loopF (f_State_holders_L4 σ x0) n a = some b) (hk : b = r) : GB θ p l e 0 s m args below meth c 3 (some (.int r), σ) 4 [(0, .ref (be θ + x0)), (1, .int a.1), (2, .int a.2)] [] σ :=
  loopF_by (P := fun a => GB θ p l e 0 s m args below meth c 3 (some (.int r), σ) 4 [(0, .ref (be θ + x0)), (1, .int a.1), (2, .int a.2)] [] σ) (K := fun b => b = r) (fun a x h hk => gs_State_holders_L4 X hr hlk  h0 a x h hk) n a b h hk
set_option maxHeartbeats 4000000 in
set_option maxRecDepth 20000 in
theorem g_State_holders (X : Cx θ p s m args c cX7_holders 3 RX7) (hr : meth.sig.returnType = some .int) (hlk : meth.locks = false)  {σ : Mem} {x0 : Nat} {r : Int32} (h0 : kd x0 = 8) (h : f_State_holders σ x0 = some r) : GB θ p l e 0 s m args below meth c 3 (some (.int r), σ) 0 [(0, .ref (be θ + x0))] [] σ := by
  unfold f_State_holders at h
  refine g_iconst X dX7_holders_0 (v := (0 : Int32)) ic_0 ?_
  refine g_istore_n X dX7_holders_1 rfl (by decide) (lv' := [(1, .int (0 : Int32)), (0, .ref (be θ + x0))]) rfl ?_
  refine g_iconst X dX7_holders_2 (v := (0 : Int32)) ic_0 ?_
  refine g_istore_n X dX7_holders_3 rfl (by decide) (lv' := [(2, .int (0 : Int32)), (1, .int (0 : Int32)), (0, .ref (be θ + x0))]) rfl ?_
  exact g_sub [2, 1, 0] rfl (gl_State_holders_L4 X hr hlk  h0  FU _ _ h rfl)
set_option maxHeartbeats 4000000 in
set_option maxRecDepth 20000 in
theorem c_State_holders {θ : Th} {l : Launch} {σ : Mem} {x0 : Nat} {r : Int32} (h0 : kd x0 = 8) (h : f_State_holders σ x0 = some r) : Cn θ l yX7_holders cX7_holders 3 (some .int) 0 0 0 [.ref (be θ + x0)] σ (some (.int r), σ) :=
  Cn.of (by decide) (Nat.le_of_ble_eq_true rfl) (fun p e s m below meth c X hr hlk => g_State_holders X hr hlk h0 h)
theorem dX7_writeLog_0 : decode cX7_writeLog 0 = .ok (.aload_n 0, 1) := by decide +kernel
theorem dX7_writeLog_1 : decode cX7_writeLog 1 = .ok (.getfield 43, 3) := by decide +kernel
theorem dX7_writeLog_4 : decode cX7_writeLog 4 = .ok (.bipush 60, 2) := by decide +kernel
theorem dX7_writeLog_6 : decode cX7_writeLog 6 = .ok (.if_icmp .lt 25, 3) := by decide +kernel
theorem dX7_writeLog_9 : decode cX7_writeLog 9 = .ok (.aload_n 0, 1) := by decide +kernel
theorem dX7_writeLog_10 : decode cX7_writeLog 10 = .ok (.getfield 36, 3) := by decide +kernel
theorem dX7_writeLog_13 : decode cX7_writeLog 13 = .ok (.iconst 3, 1) := by decide +kernel
theorem dX7_writeLog_14 : decode cX7_writeLog 14 = .ok (.aload_n 0, 1) := by decide +kernel
theorem dX7_writeLog_15 : decode cX7_writeLog 15 = .ok (.getfield 36, 3) := by decide +kernel
theorem dX7_writeLog_18 : decode cX7_writeLog 18 = .ok (.iconst 0, 1) := by decide +kernel
theorem dX7_writeLog_19 : decode cX7_writeLog 19 = .ok (.sipush 177, 3) := by decide +kernel
theorem dX7_writeLog_22 : decode cX7_writeLog 22 = .ok (.invokestatic 86, 3) := by decide +kernel
theorem dX7_writeLog_25 : decode cX7_writeLog 25 = .ok (.aload_n 0, 1) := by decide +kernel
theorem dX7_writeLog_26 : decode cX7_writeLog 26 = .ok (.bipush 59, 2) := by decide +kernel
theorem dX7_writeLog_28 : decode cX7_writeLog 28 = .ok (.putfield 43, 3) := by decide +kernel
theorem dX7_writeLog_31 : decode cX7_writeLog 31 = .ok (.aload_n 0, 1) := by decide +kernel
theorem dX7_writeLog_32 : decode cX7_writeLog 32 = .ok (.getfield 43, 3) := by decide +kernel
theorem dX7_writeLog_35 : decode cX7_writeLog 35 = .ok (.iconst 3, 1) := by decide +kernel
theorem dX7_writeLog_36 : decode cX7_writeLog 36 = .ok (.imul, 1) := by decide +kernel
theorem dX7_writeLog_37 : decode cX7_writeLog 37 = .ok (.istore_n 1, 1) := by decide +kernel
theorem dX7_writeLog_38 : decode cX7_writeLog 38 = .ok (.aload_n 0, 1) := by decide +kernel
theorem dX7_writeLog_39 : decode cX7_writeLog 39 = .ok (.getfield 36, 3) := by decide +kernel
theorem dX7_writeLog_42 : decode cX7_writeLog 42 = .ok (.iload_n 1, 1) := by decide +kernel
theorem dX7_writeLog_43 : decode cX7_writeLog 43 = .ok (.aload_n 0, 1) := by decide +kernel
theorem dX7_writeLog_44 : decode cX7_writeLog 44 = .ok (.invokevirtual 92, 3) := by decide +kernel
theorem dX7_writeLog_47 : decode cX7_writeLog 47 = .ok (.iastore, 1) := by decide +kernel
theorem dX7_writeLog_48 : decode cX7_writeLog 48 = .ok (.aload_n 0, 1) := by decide +kernel
theorem dX7_writeLog_49 : decode cX7_writeLog 49 = .ok (.getfield 36, 3) := by decide +kernel
theorem dX7_writeLog_52 : decode cX7_writeLog 52 = .ok (.iload_n 1, 1) := by decide +kernel
theorem dX7_writeLog_53 : decode cX7_writeLog 53 = .ok (.iconst 1, 1) := by decide +kernel
theorem dX7_writeLog_54 : decode cX7_writeLog 54 = .ok (.iadd, 1) := by decide +kernel
theorem dX7_writeLog_55 : decode cX7_writeLog 55 = .ok (.aload_n 0, 1) := by decide +kernel
theorem dX7_writeLog_56 : decode cX7_writeLog 56 = .ok (.getfield 39, 3) := by decide +kernel
theorem dX7_writeLog_59 : decode cX7_writeLog 59 = .ok (.iastore, 1) := by decide +kernel
theorem dX7_writeLog_60 : decode cX7_writeLog 60 = .ok (.aload_n 0, 1) := by decide +kernel
theorem dX7_writeLog_61 : decode cX7_writeLog 61 = .ok (.getfield 36, 3) := by decide +kernel
theorem dX7_writeLog_64 : decode cX7_writeLog 64 = .ok (.iload_n 1, 1) := by decide +kernel
theorem dX7_writeLog_65 : decode cX7_writeLog 65 = .ok (.iconst 2, 1) := by decide +kernel
theorem dX7_writeLog_66 : decode cX7_writeLog 66 = .ok (.iadd, 1) := by decide +kernel
theorem dX7_writeLog_67 : decode cX7_writeLog 67 = .ok (.aload_n 0, 1) := by decide +kernel
theorem dX7_writeLog_68 : decode cX7_writeLog 68 = .ok (.getfield 52, 3) := by decide +kernel
theorem dX7_writeLog_71 : decode cX7_writeLog 71 = .ok (.iastore, 1) := by decide +kernel
theorem dX7_writeLog_72 : decode cX7_writeLog 72 = .ok (.aload_n 0, 1) := by decide +kernel
theorem dX7_writeLog_73 : decode cX7_writeLog 73 = .ok (.dup, 1) := by decide +kernel
theorem dX7_writeLog_74 : decode cX7_writeLog 74 = .ok (.getfield 43, 3) := by decide +kernel
theorem dX7_writeLog_77 : decode cX7_writeLog 77 = .ok (.iconst 1, 1) := by decide +kernel
theorem dX7_writeLog_78 : decode cX7_writeLog 78 = .ok (.iadd, 1) := by decide +kernel
theorem dX7_writeLog_79 : decode cX7_writeLog 79 = .ok (.putfield 43, 3) := by decide +kernel
theorem dX7_writeLog_82 : decode cX7_writeLog 82 = .ok (.return_, 1) := by decide +kernel
def f_State_writeLog_J31 (σ : Mem) (x0 : Nat) : Option (Mem) :=
  (f_State_holders σ x0).bind fun q2 =>
  if inb ((mI σ x0 10) * (3 : Int32)) 180 then
    if inb (((mI σ x0 10) * (3 : Int32)) + (1 : Int32)) 180 then
      if inb (((mI σ x0 10) * (3 : Int32)) + (2 : Int32)) 180 then
        some (sI (sI (sI (sI σ (x0 + 9) ((mI σ x0 10) * (3 : Int32)).toNatClampNeg q2) (x0 + 9) (((mI σ x0 10) * (3 : Int32)) + (1 : Int32)).toNatClampNeg (mI (sI σ (x0 + 9) ((mI σ x0 10) * (3 : Int32)).toNatClampNeg q2) x0 9)) (x0 + 9) (((mI σ x0 10) * (3 : Int32)) + (2 : Int32)).toNatClampNeg (mI (sI (sI σ (x0 + 9) ((mI σ x0 10) * (3 : Int32)).toNatClampNeg q2) (x0 + 9) (((mI σ x0 10) * (3 : Int32)) + (1 : Int32)).toNatClampNeg (mI (sI σ (x0 + 9) ((mI σ x0 10) * (3 : Int32)).toNatClampNeg q2) x0 9)) x0 13)) x0 10 ((mI (sI (sI (sI σ (x0 + 9) ((mI σ x0 10) * (3 : Int32)).toNatClampNeg q2) (x0 + 9) (((mI σ x0 10) * (3 : Int32)) + (1 : Int32)).toNatClampNeg (mI (sI σ (x0 + 9) ((mI σ x0 10) * (3 : Int32)).toNatClampNeg q2) x0 9)) (x0 + 9) (((mI σ x0 10) * (3 : Int32)) + (2 : Int32)).toNatClampNeg (mI (sI (sI σ (x0 + 9) ((mI σ x0 10) * (3 : Int32)).toNatClampNeg q2) (x0 + 9) (((mI σ x0 10) * (3 : Int32)) + (1 : Int32)).toNatClampNeg (mI (sI σ (x0 + 9) ((mI σ x0 10) * (3 : Int32)).toNatClampNeg q2) x0 9)) x0 13)) x0 10) + (1 : Int32)))
      else none
    else none
  else none
def f_State_writeLog (σ : Mem) (x0 : Nat) : Option (Mem) :=
  if (mI σ x0 10) < (60 : Int32) then
    f_State_writeLog_J31 σ x0
  else
    if cpyB 180 180 (3 : Int32) (0 : Int32) (177 : Int32) then
      (some (rI σ (x0 + 9) (cpyM (mI σ (x0 + 9)) (mI σ (x0 + 9)) (3 : Int32) (0 : Int32) (177 : Int32)))).bind fun σ7 =>
      f_State_writeLog_J31 (sI σ7 x0 10 (59 : Int32)) x0
    else none
set_option maxHeartbeats 4000000 in
set_option maxRecDepth 20000 in
theorem g_State_writeLog_J31 (X : Cx θ p s m args c cX7_writeLog 2 RX7) (hr : meth.sig.returnType = none) (hlk : meth.locks = false)  {σ : Mem} {x0 : Nat} {r : Mem} (h0 : kd x0 = 8) (h : f_State_writeLog_J31 σ x0 = some r) : GB θ p l e 1 s m args below meth c 2 (none, r) 31 [(0, .ref (be θ + x0))] [] σ := by
  unfold f_State_writeLog_J31 at h
  refine g_aload_n X dX7_writeLog_31 rfl 0 rfl ?_
  refine g_get X fl_RX7_43 dX7_writeLog_32 h0 (v := .int (mI σ x0 10)) rfl ?_
  refine g_iconst X dX7_writeLog_35 (v := (3 : Int32)) ic_3 ?_
  refine g_imul X dX7_writeLog_36 ?_
  refine g_istore_n X dX7_writeLog_37 rfl (by decide) (lv' := [(1, .int ((mI σ x0 10) * (3 : Int32))), (0, .ref (be θ + x0))]) rfl ?_
  refine g_aload_n X dX7_writeLog_38 rfl 1 rfl ?_
  refine g_get X fl_RX7_36 dX7_writeLog_39 h0 (v := .ref (be θ + (x0 + 9))) rfl ?_
  refine g_iload_n X dX7_writeLog_42 rfl 0 rfl ?_
  refine g_aload_n X dX7_writeLog_43 rfl 1 rfl ?_
  obtain ⟨q2, hq2, h⟩ := Option.bind_eq_some_iff.mp h
  refine g_cV X (c_State_holders h0 hq2) lk_RX7_92 my_X7_holders (a := x0) (ci := 7) h0 (by decide) rfl (As := []) (rest := [.int ((mI σ x0 10) * (3 : Int32)), .ref (be θ + (x0 + 9))]) rfl rfl (Nat.le_of_ble_eq_true rfl) ⟨(Nat.le_of_ble_eq_true rfl), (Nat.le_of_ble_eq_true rfl)⟩ ⟨(Nat.le_of_ble_eq_true rfl), (Nat.le_of_ble_eq_true rfl)⟩ dX7_writeLog_44 (st' := [.int q2, .int ((mI σ x0 10) * (3 : Int32)), .ref (be θ + (x0 + 9))]) rfl rfl ?_
  obtain ⟨g3, h⟩ := ite_some h
  refine g_iast X (lk7_8 h0).1 (lk7_8 h0).2 (inb_in g3) dX7_writeLog_47 ?_
  refine g_aload_n X dX7_writeLog_48 rfl 1 rfl ?_
  refine g_get X fl_RX7_36 dX7_writeLog_49 h0 (v := .ref (be θ + (x0 + 9))) rfl ?_
  refine g_iload_n X dX7_writeLog_52 rfl 0 rfl ?_
  refine g_iconst X dX7_writeLog_53 (v := (1 : Int32)) ic_1 ?_
  refine g_iadd X dX7_writeLog_54 ?_
  refine g_aload_n X dX7_writeLog_55 rfl 1 rfl ?_
  refine g_get X fl_RX7_39 dX7_writeLog_56 h0 (v := .int (mI (sI σ (x0 + 9) ((mI σ x0 10) * (3 : Int32)).toNatClampNeg q2) x0 9)) rfl ?_
  obtain ⟨g4, h⟩ := ite_some h
  refine g_iast X (lk7_8 h0).1 (lk7_8 h0).2 (inb_in g4) dX7_writeLog_59 ?_
  refine g_aload_n X dX7_writeLog_60 rfl 1 rfl ?_
  refine g_get X fl_RX7_36 dX7_writeLog_61 h0 (v := .ref (be θ + (x0 + 9))) rfl ?_
  refine g_iload_n X dX7_writeLog_64 rfl 0 rfl ?_
  refine g_iconst X dX7_writeLog_65 (v := (2 : Int32)) ic_2 ?_
  refine g_iadd X dX7_writeLog_66 ?_
  refine g_aload_n X dX7_writeLog_67 rfl 1 rfl ?_
  refine g_get X fl_RX7_52 dX7_writeLog_68 h0 (v := .int (mI (sI (sI σ (x0 + 9) ((mI σ x0 10) * (3 : Int32)).toNatClampNeg q2) (x0 + 9) (((mI σ x0 10) * (3 : Int32)) + (1 : Int32)).toNatClampNeg (mI (sI σ (x0 + 9) ((mI σ x0 10) * (3 : Int32)).toNatClampNeg q2) x0 9)) x0 13)) rfl ?_
  obtain ⟨g5, h⟩ := ite_some h
  refine g_iast X (lk7_8 h0).1 (lk7_8 h0).2 (inb_in g5) dX7_writeLog_71 ?_
  refine g_aload_n X dX7_writeLog_72 rfl 1 rfl ?_
  refine g_dup X dX7_writeLog_73 rfl ?_
  refine g_get X fl_RX7_43 dX7_writeLog_74 h0 (v := .int (mI (sI (sI (sI σ (x0 + 9) ((mI σ x0 10) * (3 : Int32)).toNatClampNeg q2) (x0 + 9) (((mI σ x0 10) * (3 : Int32)) + (1 : Int32)).toNatClampNeg (mI (sI σ (x0 + 9) ((mI σ x0 10) * (3 : Int32)).toNatClampNeg q2) x0 9)) (x0 + 9) (((mI σ x0 10) * (3 : Int32)) + (2 : Int32)).toNatClampNeg (mI (sI (sI σ (x0 + 9) ((mI σ x0 10) * (3 : Int32)).toNatClampNeg q2) (x0 + 9) (((mI σ x0 10) * (3 : Int32)) + (1 : Int32)).toNatClampNeg (mI (sI σ (x0 + 9) ((mI σ x0 10) * (3 : Int32)).toNatClampNeg q2) x0 9)) x0 13)) x0 10)) rfl ?_
  refine g_iconst X dX7_writeLog_77 (v := (1 : Int32)) ic_1 ?_
  refine g_iadd X dX7_writeLog_78 ?_
  refine g_putI X fl_RX7_43 dX7_writeLog_79 h0 rfl rfl rfl ?_
  exact g_vret X hr hlk dX7_writeLog_82 (by cases h; rfl)
set_option maxHeartbeats 4000000 in
set_option maxRecDepth 20000 in
theorem g_State_writeLog (X : Cx θ p s m args c cX7_writeLog 2 RX7) (hr : meth.sig.returnType = none) (hlk : meth.locks = false)  {σ : Mem} {x0 : Nat} {r : Mem} (h0 : kd x0 = 8) (h : f_State_writeLog σ x0 = some r) : GB θ p l e 1 s m args below meth c 2 (none, r) 0 [(0, .ref (be θ + x0))] [] σ := by
  unfold f_State_writeLog at h
  refine g_aload_n X dX7_writeLog_0 rfl 0 rfl ?_
  refine g_get X fl_RX7_43 dX7_writeLog_1 h0 (v := .int (mI σ x0 10)) rfl ?_
  refine g_bipush X dX7_writeLog_4 (v := (60 : Int32)) bp_60 ?_
  refine g_icmp_lt (tgt := 31) X dX7_writeLog_6 (by decide) (fun c1 => ?_) (fun c1 => ?_)
  · replace h := (if_pos c1).symm.trans h
    exact g_sub [0] rfl (g_State_writeLog_J31 X hr hlk  h0  h)
  · replace h := (if_neg c1).symm.trans h
    refine g_aload_n X dX7_writeLog_9 rfl 0 rfl ?_
    refine g_get X fl_RX7_36 dX7_writeLog_10 h0 (v := .ref (be θ + (x0 + 9))) rfl ?_
    refine g_iconst X dX7_writeLog_13 (v := (3 : Int32)) ic_3 ?_
    refine g_aload_n X dX7_writeLog_14 rfl 0 rfl ?_
    refine g_get X fl_RX7_36 dX7_writeLog_15 h0 (v := .ref (be θ + (x0 + 9))) rfl ?_
    refine g_iconst X dX7_writeLog_18 (v := (0 : Int32)) ic_0 ?_
    refine g_sipush X dX7_writeLog_19 (v := (177 : Int32)) sp_177 ?_
    obtain ⟨g6, h⟩ := ite_some h
    obtain ⟨σ7, hσ7, h⟩ := Option.bind_eq_some_iff.mp h
    refine g_cp X lc_RX7_86 (lk7_8 h0).1 (lk7_8 h0).1 (lk7_8 h0).2 (lk7_8 h0).2 (cpyB_ok g6) ⟨(Nat.le_of_ble_eq_true rfl), (Nat.le_of_ble_eq_true rfl)⟩ dX7_writeLog_22 (Option.some.inj hσ7) ?_
    refine g_aload_n X dX7_writeLog_25 rfl 0 rfl ?_
    refine g_bipush X dX7_writeLog_26 (v := (59 : Int32)) bp_59 ?_
    refine g_putI X fl_RX7_43 dX7_writeLog_28 h0 rfl rfl rfl ?_
    exact g_sub [0] rfl (g_State_writeLog_J31 X hr hlk  h0  h)
set_option maxHeartbeats 4000000 in
set_option maxRecDepth 20000 in
theorem c_State_writeLog {θ : Th} {l : Launch} {σ : Mem} {x0 : Nat} {r : Mem} (h0 : kd x0 = 8) (h : f_State_writeLog σ x0 = some r) : Cn θ l yX7_writeLog cX7_writeLog 2 (none) 1 0 0 [.ref (be θ + x0)] σ (none, r) :=
  Cn.of (by decide) (Nat.le_of_ble_eq_true rfl) (fun p e s m below meth c X hr hlk => g_State_writeLog X hr hlk h0 h)
theorem dX7_dueOfAll_0 : decode cX7_dueOfAll 0 = .ok (.iconst 0, 1) := by decide +kernel
theorem dX7_dueOfAll_1 : decode cX7_dueOfAll 1 = .ok (.istore_n 1, 1) := by decide +kernel
theorem dX7_dueOfAll_2 : decode cX7_dueOfAll 2 = .ok (.iconst 0, 1) := by decide +kernel
theorem dX7_dueOfAll_3 : decode cX7_dueOfAll 3 = .ok (.istore_n 2, 1) := by decide +kernel
theorem dX7_dueOfAll_4 : decode cX7_dueOfAll 4 = .ok (.iload_n 2, 1) := by decide +kernel
theorem dX7_dueOfAll_5 : decode cX7_dueOfAll 5 = .ok (.aload_n 0, 1) := by decide +kernel
theorem dX7_dueOfAll_6 : decode cX7_dueOfAll 6 = .ok (.getfield 39, 3) := by decide +kernel
theorem dX7_dueOfAll_9 : decode cX7_dueOfAll 9 = .ok (.if_icmp .ge 22, 3) := by decide +kernel
theorem dX7_dueOfAll_12 : decode cX7_dueOfAll 12 = .ok (.iload_n 1, 1) := by decide +kernel
theorem dX7_dueOfAll_13 : decode cX7_dueOfAll 13 = .ok (.aload_n 0, 1) := by decide +kernel
theorem dX7_dueOfAll_14 : decode cX7_dueOfAll 14 = .ok (.getfield 33, 3) := by decide +kernel
theorem dX7_dueOfAll_17 : decode cX7_dueOfAll 17 = .ok (.iload_n 2, 1) := by decide +kernel
theorem dX7_dueOfAll_18 : decode cX7_dueOfAll 18 = .ok (.iconst 4, 1) := by decide +kernel
theorem dX7_dueOfAll_19 : decode cX7_dueOfAll 19 = .ok (.imul, 1) := by decide +kernel
theorem dX7_dueOfAll_20 : decode cX7_dueOfAll 20 = .ok (.iconst 3, 1) := by decide +kernel
theorem dX7_dueOfAll_21 : decode cX7_dueOfAll 21 = .ok (.iadd, 1) := by decide +kernel
theorem dX7_dueOfAll_22 : decode cX7_dueOfAll 22 = .ok (.iaload, 1) := by decide +kernel
theorem dX7_dueOfAll_23 : decode cX7_dueOfAll 23 = .ok (.iadd, 1) := by decide +kernel
theorem dX7_dueOfAll_24 : decode cX7_dueOfAll 24 = .ok (.istore_n 1, 1) := by decide +kernel
theorem dX7_dueOfAll_25 : decode cX7_dueOfAll 25 = .ok (.iinc 2 1, 3) := by decide +kernel
theorem dX7_dueOfAll_28 : decode cX7_dueOfAll 28 = .ok (.goto (-24), 3) := by decide +kernel
theorem dX7_dueOfAll_31 : decode cX7_dueOfAll 31 = .ok (.iload_n 1, 1) := by decide +kernel
theorem dX7_dueOfAll_32 : decode cX7_dueOfAll 32 = .ok (.ireturn, 1) := by decide +kernel
def f_State_dueOfAll_L4 (σ : Mem) (x0 : Nat) (a : Int32 × Int32) : Option ((Int32 × Int32) ⊕ (Int32)) :=
  if (mI σ x0 9) ≤ a.2 then
    some (.inr a.1)
  else
    if inb ((a.2 * (4 : Int32)) + (3 : Int32)) 96 then
      some (.inl ((a.1 + (mI σ (x0 + 8) ((a.2 * (4 : Int32)) + (3 : Int32)).toNatClampNeg)), (a.2 + (1 : Int32))))
    else none
def f_State_dueOfAll (σ : Mem) (x0 : Nat) : Option (Int32) :=
  loopF (f_State_dueOfAll_L4 σ x0) FU ((0 : Int32), (0 : Int32))
set_option maxHeartbeats 4000000 in
set_option maxRecDepth 20000 in
theorem gs_State_dueOfAll_L4 (X : Cx θ p s m args c cX7_dueOfAll 3 RX7) (hr : meth.sig.returnType = some .int) (hlk : meth.locks = false)  {σ : Mem} {x0 : Nat} {r : Int32} (h0 : kd x0 = 8) (a : Int32 × Int32) (x : (Int32 × Int32) ⊕ (Int32)) (h : f_State_dueOfAll_L4 σ x0 a = some x) (hk : Sum.elim (fun a => GB θ p l e 0 s m args below meth c 3 (some (.int r), σ) 4 [(0, .ref (be θ + x0)), (1, .int a.1), (2, .int a.2)] [] σ) (fun b => b = r) x) : GB θ p l e 0 s m args below meth c 3 (some (.int r), σ) 4 [(0, .ref (be θ + x0)), (1, .int a.1), (2, .int a.2)] [] σ := by
  unfold f_State_dueOfAll_L4 at h
  refine g_iload_n X dX7_dueOfAll_4 rfl 2 rfl ?_
  refine g_aload_n X dX7_dueOfAll_5 rfl 0 rfl ?_
  refine g_get X fl_RX7_39 dX7_dueOfAll_6 h0 (v := .int (mI σ x0 9)) rfl ?_
  refine g_icmp_ge (tgt := 31) X dX7_dueOfAll_9 (by decide) (fun c1 => ?_) (fun c1 => ?_)
  · replace h := (if_pos c1).symm.trans h
    refine g_iload_n X dX7_dueOfAll_31 rfl 1 rfl ?_
    cases h
    have hk : a.1 = r := hk
    subst hk
    exact g_iret X hr hlk dX7_dueOfAll_32 rfl
  · replace h := (if_neg c1).symm.trans h
    refine g_iload_n X dX7_dueOfAll_12 rfl 1 rfl ?_
    refine g_aload_n X dX7_dueOfAll_13 rfl 0 rfl ?_
    refine g_get X fl_RX7_33 dX7_dueOfAll_14 h0 (v := .ref (be θ + (x0 + 8))) rfl ?_
    refine g_iload_n X dX7_dueOfAll_17 rfl 2 rfl ?_
    refine g_iconst X dX7_dueOfAll_18 (v := (4 : Int32)) ic_4 ?_
    refine g_imul X dX7_dueOfAll_19 ?_
    refine g_iconst X dX7_dueOfAll_20 (v := (3 : Int32)) ic_3 ?_
    refine g_iadd X dX7_dueOfAll_21 ?_
    obtain ⟨g2, h⟩ := ite_some h
    refine g_iald X (lk7_7 h0).1 (lk7_7 h0).2 (inb_in g2) dX7_dueOfAll_22 ?_
    refine g_iadd X dX7_dueOfAll_23 ?_
    refine g_istore_n X dX7_dueOfAll_24 rfl (by decide) (lv' := [(1, .int (a.1 + (mI σ (x0 + 8) ((a.2 * (4 : Int32)) + (3 : Int32)).toNatClampNeg))), (0, .ref (be θ + x0)), (2, .int a.2)]) rfl ?_
    refine g_iinc X dX7_dueOfAll_25 (kq := 2) rfl (congrArg (HAdd.hAdd _) ic_1) (by decide) (lv' := [(2, .int (a.2 + (1 : Int32))), (1, .int (a.1 + (mI σ (x0 + 8) ((a.2 * (4 : Int32)) + (3 : Int32)).toNatClampNeg))), (0, .ref (be θ + x0))]) rfl ?_
    refine g_goto (tgt := 4) X dX7_dueOfAll_28 (by decide) ?_
    cases h
    exact g_sub [2, 1, 0] rfl hk
set_option maxHeartbeats 4000000 in
set_option maxRecDepth 20000 in
theorem gl_State_dueOfAll_L4 (X : Cx θ p s m args c cX7_dueOfAll 3 RX7) (hr : meth.sig.returnType = some .int) (hlk : meth.locks = false)  {σ : Mem} {x0 : Nat} {r : Int32} (h0 : kd x0 = 8) (n : Nat) (a : Int32 × Int32) (b : Int32) (h : loopF (f_State_dueOfAll_L4 σ x0) n a = some b) (hk : b = r) : GB θ p l e 0 s m args below meth c 3 (some (.int r), σ) 4 [(0, .ref (be θ + x0)), (1, .int a.1), (2, .int a.2)] [] σ :=
  loopF_by (P := fun a => GB θ p l e 0 s m args below meth c 3 (some (.int r), σ) 4 [(0, .ref (be θ + x0)), (1, .int a.1), (2, .int a.2)] [] σ) (K := fun b => b = r) (fun a x h hk => gs_State_dueOfAll_L4 X hr hlk  h0 a x h hk) n a b h hk
set_option maxHeartbeats 4000000 in
set_option maxRecDepth 20000 in
theorem g_State_dueOfAll (X : Cx θ p s m args c cX7_dueOfAll 3 RX7) (hr : meth.sig.returnType = some .int) (hlk : meth.locks = false)  {σ : Mem} {x0 : Nat} {r : Int32} (h0 : kd x0 = 8) (h : f_State_dueOfAll σ x0 = some r) : GB θ p l e 0 s m args below meth c 3 (some (.int r), σ) 0 [(0, .ref (be θ + x0))] [] σ := by
  unfold f_State_dueOfAll at h
  refine g_iconst X dX7_dueOfAll_0 (v := (0 : Int32)) ic_0 ?_
  refine g_istore_n X dX7_dueOfAll_1 rfl (by decide) (lv' := [(1, .int (0 : Int32)), (0, .ref (be θ + x0))]) rfl ?_
  refine g_iconst X dX7_dueOfAll_2 (v := (0 : Int32)) ic_0 ?_
  refine g_istore_n X dX7_dueOfAll_3 rfl (by decide) (lv' := [(2, .int (0 : Int32)), (1, .int (0 : Int32)), (0, .ref (be θ + x0))]) rfl ?_
  exact g_sub [2, 1, 0] rfl (gl_State_dueOfAll_L4 X hr hlk  h0  FU _ _ h rfl)
set_option maxHeartbeats 4000000 in
set_option maxRecDepth 20000 in
theorem c_State_dueOfAll {θ : Th} {l : Launch} {σ : Mem} {x0 : Nat} {r : Int32} (h0 : kd x0 = 8) (h : f_State_dueOfAll σ x0 = some r) : Cn θ l yX7_dueOfAll cX7_dueOfAll 3 (some .int) 0 0 0 [.ref (be θ + x0)] σ (some (.int r), σ) :=
  Cn.of (by decide) (Nat.le_of_ble_eq_true rfl) (fun p e s m below meth c X hr hlk => g_State_dueOfAll X hr hlk h0 h)
theorem dX7_copyFrom_0 : decode cX7_copyFrom 0 = .ok (.aload_n 1, 1) := by decide +kernel
theorem dX7_copyFrom_1 : decode cX7_copyFrom 1 = .ok (.getfield 9, 3) := by decide +kernel
theorem dX7_copyFrom_4 : decode cX7_copyFrom 4 = .ok (.iconst 0, 1) := by decide +kernel
theorem dX7_copyFrom_5 : decode cX7_copyFrom 5 = .ok (.aload_n 0, 1) := by decide +kernel
theorem dX7_copyFrom_6 : decode cX7_copyFrom 6 = .ok (.getfield 9, 3) := by decide +kernel
theorem dX7_copyFrom_9 : decode cX7_copyFrom 9 = .ok (.iconst 0, 1) := by decide +kernel
theorem dX7_copyFrom_10 : decode cX7_copyFrom 10 = .ok (.bipush 8, 2) := by decide +kernel
theorem dX7_copyFrom_12 : decode cX7_copyFrom 12 = .ok (.invokestatic 86, 3) := by decide +kernel
theorem dX7_copyFrom_15 : decode cX7_copyFrom 15 = .ok (.aload_n 1, 1) := by decide +kernel
theorem dX7_copyFrom_16 : decode cX7_copyFrom 16 = .ok (.getfield 15, 3) := by decide +kernel
theorem dX7_copyFrom_19 : decode cX7_copyFrom 19 = .ok (.iconst 0, 1) := by decide +kernel
theorem dX7_copyFrom_20 : decode cX7_copyFrom 20 = .ok (.aload_n 0, 1) := by decide +kernel
theorem dX7_copyFrom_21 : decode cX7_copyFrom 21 = .ok (.getfield 15, 3) := by decide +kernel
theorem dX7_copyFrom_24 : decode cX7_copyFrom 24 = .ok (.iconst 0, 1) := by decide +kernel
theorem dX7_copyFrom_25 : decode cX7_copyFrom 25 = .ok (.bipush 8, 2) := by decide +kernel
theorem dX7_copyFrom_27 : decode cX7_copyFrom 27 = .ok (.invokestatic 86, 3) := by decide +kernel
theorem dX7_copyFrom_30 : decode cX7_copyFrom 30 = .ok (.aload_n 1, 1) := by decide +kernel
theorem dX7_copyFrom_31 : decode cX7_copyFrom 31 = .ok (.getfield 18, 3) := by decide +kernel
theorem dX7_copyFrom_34 : decode cX7_copyFrom 34 = .ok (.iconst 0, 1) := by decide +kernel
theorem dX7_copyFrom_35 : decode cX7_copyFrom 35 = .ok (.aload_n 0, 1) := by decide +kernel
theorem dX7_copyFrom_36 : decode cX7_copyFrom 36 = .ok (.getfield 18, 3) := by decide +kernel
theorem dX7_copyFrom_39 : decode cX7_copyFrom 39 = .ok (.iconst 0, 1) := by decide +kernel
theorem dX7_copyFrom_40 : decode cX7_copyFrom 40 = .ok (.bipush 8, 2) := by decide +kernel
theorem dX7_copyFrom_42 : decode cX7_copyFrom 42 = .ok (.invokestatic 86, 3) := by decide +kernel
theorem dX7_copyFrom_45 : decode cX7_copyFrom 45 = .ok (.aload_n 1, 1) := by decide +kernel
theorem dX7_copyFrom_46 : decode cX7_copyFrom 46 = .ok (.getfield 21, 3) := by decide +kernel
theorem dX7_copyFrom_49 : decode cX7_copyFrom 49 = .ok (.iconst 0, 1) := by decide +kernel
theorem dX7_copyFrom_50 : decode cX7_copyFrom 50 = .ok (.aload_n 0, 1) := by decide +kernel
theorem dX7_copyFrom_51 : decode cX7_copyFrom 51 = .ok (.getfield 21, 3) := by decide +kernel
theorem dX7_copyFrom_54 : decode cX7_copyFrom 54 = .ok (.iconst 0, 1) := by decide +kernel
theorem dX7_copyFrom_55 : decode cX7_copyFrom 55 = .ok (.bipush 8, 2) := by decide +kernel
theorem dX7_copyFrom_57 : decode cX7_copyFrom 57 = .ok (.invokestatic 86, 3) := by decide +kernel
theorem dX7_copyFrom_60 : decode cX7_copyFrom 60 = .ok (.aload_n 1, 1) := by decide +kernel
theorem dX7_copyFrom_61 : decode cX7_copyFrom 61 = .ok (.getfield 24, 3) := by decide +kernel
theorem dX7_copyFrom_64 : decode cX7_copyFrom 64 = .ok (.iconst 0, 1) := by decide +kernel
theorem dX7_copyFrom_65 : decode cX7_copyFrom 65 = .ok (.aload_n 0, 1) := by decide +kernel
theorem dX7_copyFrom_66 : decode cX7_copyFrom 66 = .ok (.getfield 24, 3) := by decide +kernel
theorem dX7_copyFrom_69 : decode cX7_copyFrom 69 = .ok (.iconst 0, 1) := by decide +kernel
theorem dX7_copyFrom_70 : decode cX7_copyFrom 70 = .ok (.bipush 6, 2) := by decide +kernel
theorem dX7_copyFrom_72 : decode cX7_copyFrom 72 = .ok (.invokestatic 86, 3) := by decide +kernel
theorem dX7_copyFrom_75 : decode cX7_copyFrom 75 = .ok (.aload_n 1, 1) := by decide +kernel
theorem dX7_copyFrom_76 : decode cX7_copyFrom 76 = .ok (.getfield 27, 3) := by decide +kernel
theorem dX7_copyFrom_79 : decode cX7_copyFrom 79 = .ok (.iconst 0, 1) := by decide +kernel
theorem dX7_copyFrom_80 : decode cX7_copyFrom 80 = .ok (.aload_n 0, 1) := by decide +kernel
theorem dX7_copyFrom_81 : decode cX7_copyFrom 81 = .ok (.getfield 27, 3) := by decide +kernel
theorem dX7_copyFrom_84 : decode cX7_copyFrom 84 = .ok (.iconst 0, 1) := by decide +kernel
theorem dX7_copyFrom_85 : decode cX7_copyFrom 85 = .ok (.bipush 6, 2) := by decide +kernel
theorem dX7_copyFrom_87 : decode cX7_copyFrom 87 = .ok (.invokestatic 86, 3) := by decide +kernel
theorem dX7_copyFrom_90 : decode cX7_copyFrom 90 = .ok (.aload_n 1, 1) := by decide +kernel
theorem dX7_copyFrom_91 : decode cX7_copyFrom 91 = .ok (.getfield 30, 3) := by decide +kernel
theorem dX7_copyFrom_94 : decode cX7_copyFrom 94 = .ok (.iconst 0, 1) := by decide +kernel
theorem dX7_copyFrom_95 : decode cX7_copyFrom 95 = .ok (.aload_n 0, 1) := by decide +kernel
theorem dX7_copyFrom_96 : decode cX7_copyFrom 96 = .ok (.getfield 30, 3) := by decide +kernel
theorem dX7_copyFrom_99 : decode cX7_copyFrom 99 = .ok (.iconst 0, 1) := by decide +kernel
theorem dX7_copyFrom_100 : decode cX7_copyFrom 100 = .ok (.bipush 6, 2) := by decide +kernel
theorem dX7_copyFrom_102 : decode cX7_copyFrom 102 = .ok (.invokestatic 86, 3) := by decide +kernel
theorem dX7_copyFrom_105 : decode cX7_copyFrom 105 = .ok (.aload_n 1, 1) := by decide +kernel
theorem dX7_copyFrom_106 : decode cX7_copyFrom 106 = .ok (.getfield 33, 3) := by decide +kernel
theorem dX7_copyFrom_109 : decode cX7_copyFrom 109 = .ok (.iconst 0, 1) := by decide +kernel
theorem dX7_copyFrom_110 : decode cX7_copyFrom 110 = .ok (.aload_n 0, 1) := by decide +kernel
theorem dX7_copyFrom_111 : decode cX7_copyFrom 111 = .ok (.getfield 33, 3) := by decide +kernel
theorem dX7_copyFrom_114 : decode cX7_copyFrom 114 = .ok (.iconst 0, 1) := by decide +kernel
theorem dX7_copyFrom_115 : decode cX7_copyFrom 115 = .ok (.aload_n 1, 1) := by decide +kernel
theorem dX7_copyFrom_116 : decode cX7_copyFrom 116 = .ok (.getfield 39, 3) := by decide +kernel
theorem dX7_copyFrom_119 : decode cX7_copyFrom 119 = .ok (.iconst 4, 1) := by decide +kernel
theorem dX7_copyFrom_120 : decode cX7_copyFrom 120 = .ok (.imul, 1) := by decide +kernel
theorem dX7_copyFrom_121 : decode cX7_copyFrom 121 = .ok (.invokestatic 86, 3) := by decide +kernel
theorem dX7_copyFrom_124 : decode cX7_copyFrom 124 = .ok (.aload_n 1, 1) := by decide +kernel
theorem dX7_copyFrom_125 : decode cX7_copyFrom 125 = .ok (.getfield 36, 3) := by decide +kernel
theorem dX7_copyFrom_128 : decode cX7_copyFrom 128 = .ok (.iconst 0, 1) := by decide +kernel
theorem dX7_copyFrom_129 : decode cX7_copyFrom 129 = .ok (.aload_n 0, 1) := by decide +kernel
theorem dX7_copyFrom_130 : decode cX7_copyFrom 130 = .ok (.getfield 36, 3) := by decide +kernel
theorem dX7_copyFrom_133 : decode cX7_copyFrom 133 = .ok (.iconst 0, 1) := by decide +kernel
theorem dX7_copyFrom_134 : decode cX7_copyFrom 134 = .ok (.aload_n 1, 1) := by decide +kernel
theorem dX7_copyFrom_135 : decode cX7_copyFrom 135 = .ok (.getfield 43, 3) := by decide +kernel
theorem dX7_copyFrom_138 : decode cX7_copyFrom 138 = .ok (.iconst 3, 1) := by decide +kernel
theorem dX7_copyFrom_139 : decode cX7_copyFrom 139 = .ok (.imul, 1) := by decide +kernel
theorem dX7_copyFrom_140 : decode cX7_copyFrom 140 = .ok (.invokestatic 86, 3) := by decide +kernel
theorem dX7_copyFrom_143 : decode cX7_copyFrom 143 = .ok (.aload_n 0, 1) := by decide +kernel
theorem dX7_copyFrom_144 : decode cX7_copyFrom 144 = .ok (.aload_n 1, 1) := by decide +kernel
theorem dX7_copyFrom_145 : decode cX7_copyFrom 145 = .ok (.getfield 39, 3) := by decide +kernel
theorem dX7_copyFrom_148 : decode cX7_copyFrom 148 = .ok (.putfield 39, 3) := by decide +kernel
theorem dX7_copyFrom_151 : decode cX7_copyFrom 151 = .ok (.aload_n 0, 1) := by decide +kernel
theorem dX7_copyFrom_152 : decode cX7_copyFrom 152 = .ok (.aload_n 1, 1) := by decide +kernel
theorem dX7_copyFrom_153 : decode cX7_copyFrom 153 = .ok (.getfield 43, 3) := by decide +kernel
theorem dX7_copyFrom_156 : decode cX7_copyFrom 156 = .ok (.putfield 43, 3) := by decide +kernel
theorem dX7_copyFrom_159 : decode cX7_copyFrom 159 = .ok (.aload_n 0, 1) := by decide +kernel
theorem dX7_copyFrom_160 : decode cX7_copyFrom 160 = .ok (.aload_n 1, 1) := by decide +kernel
theorem dX7_copyFrom_161 : decode cX7_copyFrom 161 = .ok (.getfield 46, 3) := by decide +kernel
theorem dX7_copyFrom_164 : decode cX7_copyFrom 164 = .ok (.putfield 46, 3) := by decide +kernel
theorem dX7_copyFrom_167 : decode cX7_copyFrom 167 = .ok (.aload_n 0, 1) := by decide +kernel
theorem dX7_copyFrom_168 : decode cX7_copyFrom 168 = .ok (.aload_n 1, 1) := by decide +kernel
theorem dX7_copyFrom_169 : decode cX7_copyFrom 169 = .ok (.getfield 49, 3) := by decide +kernel
theorem dX7_copyFrom_172 : decode cX7_copyFrom 172 = .ok (.putfield 49, 3) := by decide +kernel
theorem dX7_copyFrom_175 : decode cX7_copyFrom 175 = .ok (.aload_n 0, 1) := by decide +kernel
theorem dX7_copyFrom_176 : decode cX7_copyFrom 176 = .ok (.aload_n 1, 1) := by decide +kernel
theorem dX7_copyFrom_177 : decode cX7_copyFrom 177 = .ok (.getfield 52, 3) := by decide +kernel
theorem dX7_copyFrom_180 : decode cX7_copyFrom 180 = .ok (.putfield 52, 3) := by decide +kernel
theorem dX7_copyFrom_183 : decode cX7_copyFrom 183 = .ok (.aload_n 0, 1) := by decide +kernel
theorem dX7_copyFrom_184 : decode cX7_copyFrom 184 = .ok (.aload_n 1, 1) := by decide +kernel
theorem dX7_copyFrom_185 : decode cX7_copyFrom 185 = .ok (.getfield 55, 3) := by decide +kernel
theorem dX7_copyFrom_188 : decode cX7_copyFrom 188 = .ok (.putfield 55, 3) := by decide +kernel
theorem dX7_copyFrom_191 : decode cX7_copyFrom 191 = .ok (.return_, 1) := by decide +kernel
def f_State_copyFrom (σ : Mem) (x0 : Nat) (x1 : Nat) : Option (Mem) :=
  if cpyB 8 8 (0 : Int32) (0 : Int32) (8 : Int32) then
    (some (rI σ (x0 + 1) (cpyM (mI σ (x1 + 1)) (mI σ (x0 + 1)) (0 : Int32) (0 : Int32) (8 : Int32)))).bind fun σ2 =>
    if cpyB 8 8 (0 : Int32) (0 : Int32) (8 : Int32) then
      (some (rI σ2 (x0 + 2) (cpyM (mI σ2 (x1 + 2)) (mI σ2 (x0 + 2)) (0 : Int32) (0 : Int32) (8 : Int32)))).bind fun σ4 =>
      if cpyB 8 8 (0 : Int32) (0 : Int32) (8 : Int32) then
        (some (rI σ4 (x0 + 3) (cpyM (mI σ4 (x1 + 3)) (mI σ4 (x0 + 3)) (0 : Int32) (0 : Int32) (8 : Int32)))).bind fun σ6 =>
        if cpyB 8 8 (0 : Int32) (0 : Int32) (8 : Int32) then
          (some (rI σ6 (x0 + 4) (cpyM (mI σ6 (x1 + 4)) (mI σ6 (x0 + 4)) (0 : Int32) (0 : Int32) (8 : Int32)))).bind fun σ8 =>
          if cpyB 6 6 (0 : Int32) (0 : Int32) (6 : Int32) then
            (some (rI σ8 (x0 + 5) (cpyM (mI σ8 (x1 + 5)) (mI σ8 (x0 + 5)) (0 : Int32) (0 : Int32) (6 : Int32)))).bind fun σ10 =>
            if cpyB 6 6 (0 : Int32) (0 : Int32) (6 : Int32) then
              (some (rI σ10 (x0 + 6) (cpyM (mI σ10 (x1 + 6)) (mI σ10 (x0 + 6)) (0 : Int32) (0 : Int32) (6 : Int32)))).bind fun σ12 =>
              if cpyB 6 6 (0 : Int32) (0 : Int32) (6 : Int32) then
                (some (rI σ12 (x0 + 7) (cpyM (mI σ12 (x1 + 7)) (mI σ12 (x0 + 7)) (0 : Int32) (0 : Int32) (6 : Int32)))).bind fun σ14 =>
                if cpyB 96 96 (0 : Int32) (0 : Int32) ((mI σ14 x1 9) * (4 : Int32)) then
                  (some (rI σ14 (x0 + 8) (cpyM (mI σ14 (x1 + 8)) (mI σ14 (x0 + 8)) (0 : Int32) (0 : Int32) ((mI σ14 x1 9) * (4 : Int32))))).bind fun σ16 =>
                  if cpyB 180 180 (0 : Int32) (0 : Int32) ((mI σ16 x1 10) * (3 : Int32)) then
                    (some (rI σ16 (x0 + 9) (cpyM (mI σ16 (x1 + 9)) (mI σ16 (x0 + 9)) (0 : Int32) (0 : Int32) ((mI σ16 x1 10) * (3 : Int32))))).bind fun σ18 =>
                    some (sI (sI (sI (sI (sI (sI σ18 x0 9 (mI σ18 x1 9)) x0 10 (mI (sI σ18 x0 9 (mI σ18 x1 9)) x1 10)) x0 11 (mI (sI (sI σ18 x0 9 (mI σ18 x1 9)) x0 10 (mI (sI σ18 x0 9 (mI σ18 x1 9)) x1 10)) x1 11)) x0 12 (mI (sI (sI (sI σ18 x0 9 (mI σ18 x1 9)) x0 10 (mI (sI σ18 x0 9 (mI σ18 x1 9)) x1 10)) x0 11 (mI (sI (sI σ18 x0 9 (mI σ18 x1 9)) x0 10 (mI (sI σ18 x0 9 (mI σ18 x1 9)) x1 10)) x1 11)) x1 12)) x0 13 (mI (sI (sI (sI (sI σ18 x0 9 (mI σ18 x1 9)) x0 10 (mI (sI σ18 x0 9 (mI σ18 x1 9)) x1 10)) x0 11 (mI (sI (sI σ18 x0 9 (mI σ18 x1 9)) x0 10 (mI (sI σ18 x0 9 (mI σ18 x1 9)) x1 10)) x1 11)) x0 12 (mI (sI (sI (sI σ18 x0 9 (mI σ18 x1 9)) x0 10 (mI (sI σ18 x0 9 (mI σ18 x1 9)) x1 10)) x0 11 (mI (sI (sI σ18 x0 9 (mI σ18 x1 9)) x0 10 (mI (sI σ18 x0 9 (mI σ18 x1 9)) x1 10)) x1 11)) x1 12)) x1 13)) x0 14 (mI (sI (sI (sI (sI (sI σ18 x0 9 (mI σ18 x1 9)) x0 10 (mI (sI σ18 x0 9 (mI σ18 x1 9)) x1 10)) x0 11 (mI (sI (sI σ18 x0 9 (mI σ18 x1 9)) x0 10 (mI (sI σ18 x0 9 (mI σ18 x1 9)) x1 10)) x1 11)) x0 12 (mI (sI (sI (sI σ18 x0 9 (mI σ18 x1 9)) x0 10 (mI (sI σ18 x0 9 (mI σ18 x1 9)) x1 10)) x0 11 (mI (sI (sI σ18 x0 9 (mI σ18 x1 9)) x0 10 (mI (sI σ18 x0 9 (mI σ18 x1 9)) x1 10)) x1 11)) x1 12)) x0 13 (mI (sI (sI (sI (sI σ18 x0 9 (mI σ18 x1 9)) x0 10 (mI (sI σ18 x0 9 (mI σ18 x1 9)) x1 10)) x0 11 (mI (sI (sI σ18 x0 9 (mI σ18 x1 9)) x0 10 (mI (sI σ18 x0 9 (mI σ18 x1 9)) x1 10)) x1 11)) x0 12 (mI (sI (sI (sI σ18 x0 9 (mI σ18 x1 9)) x0 10 (mI (sI σ18 x0 9 (mI σ18 x1 9)) x1 10)) x0 11 (mI (sI (sI σ18 x0 9 (mI σ18 x1 9)) x0 10 (mI (sI σ18 x0 9 (mI σ18 x1 9)) x1 10)) x1 11)) x1 12)) x1 13)) x1 14))
                  else none
                else none
              else none
            else none
          else none
        else none
      else none
    else none
  else none
set_option maxHeartbeats 4000000 in
set_option maxRecDepth 20000 in
theorem g_State_copyFrom (X : Cx θ p s m args c cX7_copyFrom 2 RX7) (hr : meth.sig.returnType = none) (hlk : meth.locks = false)  {σ : Mem} {x0 : Nat} {x1 : Nat} {r : Mem} (h0 : kd x0 = 8) (h1 : kd x1 = 8) (h : f_State_copyFrom σ x0 x1 = some r) : GB θ p l e 1 s m args below meth c 2 (none, r) 0 [(0, .ref (be θ + x0)), (1, .ref (be θ + x1))] [] σ := by
  unfold f_State_copyFrom at h
  refine g_aload_n X dX7_copyFrom_0 rfl 1 rfl ?_
  refine g_get X fl_RX7_9 dX7_copyFrom_1 h1 (v := .ref (be θ + (x1 + 1))) rfl ?_
  refine g_iconst X dX7_copyFrom_4 (v := (0 : Int32)) ic_0 ?_
  refine g_aload_n X dX7_copyFrom_5 rfl 0 rfl ?_
  refine g_get X fl_RX7_9 dX7_copyFrom_6 h0 (v := .ref (be θ + (x0 + 1))) rfl ?_
  refine g_iconst X dX7_copyFrom_9 (v := (0 : Int32)) ic_0 ?_
  refine g_bipush X dX7_copyFrom_10 (v := (8 : Int32)) bp_8 ?_
  obtain ⟨g1, h⟩ := ite_some h
  obtain ⟨σ2, hσ2, h⟩ := Option.bind_eq_some_iff.mp h
  refine g_cp X lc_RX7_86 (lk7_0 h1).1 (lk7_0 h0).1 (lk7_0 h1).2 (lk7_0 h0).2 (cpyB_ok g1) ⟨(Nat.le_of_ble_eq_true rfl), (Nat.le_of_ble_eq_true rfl)⟩ dX7_copyFrom_12 (Option.some.inj hσ2) ?_
  refine g_aload_n X dX7_copyFrom_15 rfl 1 rfl ?_
  refine g_get X fl_RX7_15 dX7_copyFrom_16 h1 (v := .ref (be θ + (x1 + 2))) rfl ?_
  refine g_iconst X dX7_copyFrom_19 (v := (0 : Int32)) ic_0 ?_
  refine g_aload_n X dX7_copyFrom_20 rfl 0 rfl ?_
  refine g_get X fl_RX7_15 dX7_copyFrom_21 h0 (v := .ref (be θ + (x0 + 2))) rfl ?_
  refine g_iconst X dX7_copyFrom_24 (v := (0 : Int32)) ic_0 ?_
  refine g_bipush X dX7_copyFrom_25 (v := (8 : Int32)) bp_8 ?_
  obtain ⟨g3, h⟩ := ite_some h
  obtain ⟨σ4, hσ4, h⟩ := Option.bind_eq_some_iff.mp h
  refine g_cp X lc_RX7_86 (lk7_1 h1).1 (lk7_1 h0).1 (lk7_1 h1).2 (lk7_1 h0).2 (cpyB_ok g3) ⟨(Nat.le_of_ble_eq_true rfl), (Nat.le_of_ble_eq_true rfl)⟩ dX7_copyFrom_27 (Option.some.inj hσ4) ?_
  refine g_aload_n X dX7_copyFrom_30 rfl 1 rfl ?_
  refine g_get X fl_RX7_18 dX7_copyFrom_31 h1 (v := .ref (be θ + (x1 + 3))) rfl ?_
  refine g_iconst X dX7_copyFrom_34 (v := (0 : Int32)) ic_0 ?_
  refine g_aload_n X dX7_copyFrom_35 rfl 0 rfl ?_
  refine g_get X fl_RX7_18 dX7_copyFrom_36 h0 (v := .ref (be θ + (x0 + 3))) rfl ?_
  refine g_iconst X dX7_copyFrom_39 (v := (0 : Int32)) ic_0 ?_
  refine g_bipush X dX7_copyFrom_40 (v := (8 : Int32)) bp_8 ?_
  obtain ⟨g5, h⟩ := ite_some h
  obtain ⟨σ6, hσ6, h⟩ := Option.bind_eq_some_iff.mp h
  refine g_cp X lc_RX7_86 (lk7_2 h1).1 (lk7_2 h0).1 (lk7_2 h1).2 (lk7_2 h0).2 (cpyB_ok g5) ⟨(Nat.le_of_ble_eq_true rfl), (Nat.le_of_ble_eq_true rfl)⟩ dX7_copyFrom_42 (Option.some.inj hσ6) ?_
  refine g_aload_n X dX7_copyFrom_45 rfl 1 rfl ?_
  refine g_get X fl_RX7_21 dX7_copyFrom_46 h1 (v := .ref (be θ + (x1 + 4))) rfl ?_
  refine g_iconst X dX7_copyFrom_49 (v := (0 : Int32)) ic_0 ?_
  refine g_aload_n X dX7_copyFrom_50 rfl 0 rfl ?_
  refine g_get X fl_RX7_21 dX7_copyFrom_51 h0 (v := .ref (be θ + (x0 + 4))) rfl ?_
  refine g_iconst X dX7_copyFrom_54 (v := (0 : Int32)) ic_0 ?_
  refine g_bipush X dX7_copyFrom_55 (v := (8 : Int32)) bp_8 ?_
  obtain ⟨g7, h⟩ := ite_some h
  obtain ⟨σ8, hσ8, h⟩ := Option.bind_eq_some_iff.mp h
  refine g_cp X lc_RX7_86 (lk7_3 h1).1 (lk7_3 h0).1 (lk7_3 h1).2 (lk7_3 h0).2 (cpyB_ok g7) ⟨(Nat.le_of_ble_eq_true rfl), (Nat.le_of_ble_eq_true rfl)⟩ dX7_copyFrom_57 (Option.some.inj hσ8) ?_
  refine g_aload_n X dX7_copyFrom_60 rfl 1 rfl ?_
  refine g_get X fl_RX7_24 dX7_copyFrom_61 h1 (v := .ref (be θ + (x1 + 5))) rfl ?_
  refine g_iconst X dX7_copyFrom_64 (v := (0 : Int32)) ic_0 ?_
  refine g_aload_n X dX7_copyFrom_65 rfl 0 rfl ?_
  refine g_get X fl_RX7_24 dX7_copyFrom_66 h0 (v := .ref (be θ + (x0 + 5))) rfl ?_
  refine g_iconst X dX7_copyFrom_69 (v := (0 : Int32)) ic_0 ?_
  refine g_bipush X dX7_copyFrom_70 (v := (6 : Int32)) bp_6 ?_
  obtain ⟨g9, h⟩ := ite_some h
  obtain ⟨σ10, hσ10, h⟩ := Option.bind_eq_some_iff.mp h
  refine g_cp X lc_RX7_86 (lk7_4 h1).1 (lk7_4 h0).1 (lk7_4 h1).2 (lk7_4 h0).2 (cpyB_ok g9) ⟨(Nat.le_of_ble_eq_true rfl), (Nat.le_of_ble_eq_true rfl)⟩ dX7_copyFrom_72 (Option.some.inj hσ10) ?_
  refine g_aload_n X dX7_copyFrom_75 rfl 1 rfl ?_
  refine g_get X fl_RX7_27 dX7_copyFrom_76 h1 (v := .ref (be θ + (x1 + 6))) rfl ?_
  refine g_iconst X dX7_copyFrom_79 (v := (0 : Int32)) ic_0 ?_
  refine g_aload_n X dX7_copyFrom_80 rfl 0 rfl ?_
  refine g_get X fl_RX7_27 dX7_copyFrom_81 h0 (v := .ref (be θ + (x0 + 6))) rfl ?_
  refine g_iconst X dX7_copyFrom_84 (v := (0 : Int32)) ic_0 ?_
  refine g_bipush X dX7_copyFrom_85 (v := (6 : Int32)) bp_6 ?_
  obtain ⟨g11, h⟩ := ite_some h
  obtain ⟨σ12, hσ12, h⟩ := Option.bind_eq_some_iff.mp h
  refine g_cp X lc_RX7_86 (lk7_5 h1).1 (lk7_5 h0).1 (lk7_5 h1).2 (lk7_5 h0).2 (cpyB_ok g11) ⟨(Nat.le_of_ble_eq_true rfl), (Nat.le_of_ble_eq_true rfl)⟩ dX7_copyFrom_87 (Option.some.inj hσ12) ?_
  refine g_aload_n X dX7_copyFrom_90 rfl 1 rfl ?_
  refine g_get X fl_RX7_30 dX7_copyFrom_91 h1 (v := .ref (be θ + (x1 + 7))) rfl ?_
  refine g_iconst X dX7_copyFrom_94 (v := (0 : Int32)) ic_0 ?_
  refine g_aload_n X dX7_copyFrom_95 rfl 0 rfl ?_
  refine g_get X fl_RX7_30 dX7_copyFrom_96 h0 (v := .ref (be θ + (x0 + 7))) rfl ?_
  refine g_iconst X dX7_copyFrom_99 (v := (0 : Int32)) ic_0 ?_
  refine g_bipush X dX7_copyFrom_100 (v := (6 : Int32)) bp_6 ?_
  obtain ⟨g13, h⟩ := ite_some h
  obtain ⟨σ14, hσ14, h⟩ := Option.bind_eq_some_iff.mp h
  refine g_cp X lc_RX7_86 (lk7_6 h1).1 (lk7_6 h0).1 (lk7_6 h1).2 (lk7_6 h0).2 (cpyB_ok g13) ⟨(Nat.le_of_ble_eq_true rfl), (Nat.le_of_ble_eq_true rfl)⟩ dX7_copyFrom_102 (Option.some.inj hσ14) ?_
  refine g_aload_n X dX7_copyFrom_105 rfl 1 rfl ?_
  refine g_get X fl_RX7_33 dX7_copyFrom_106 h1 (v := .ref (be θ + (x1 + 8))) rfl ?_
  refine g_iconst X dX7_copyFrom_109 (v := (0 : Int32)) ic_0 ?_
  refine g_aload_n X dX7_copyFrom_110 rfl 0 rfl ?_
  refine g_get X fl_RX7_33 dX7_copyFrom_111 h0 (v := .ref (be θ + (x0 + 8))) rfl ?_
  refine g_iconst X dX7_copyFrom_114 (v := (0 : Int32)) ic_0 ?_
  refine g_aload_n X dX7_copyFrom_115 rfl 1 rfl ?_
  refine g_get X fl_RX7_39 dX7_copyFrom_116 h1 (v := .int (mI σ14 x1 9)) rfl ?_
  refine g_iconst X dX7_copyFrom_119 (v := (4 : Int32)) ic_4 ?_
  refine g_imul X dX7_copyFrom_120 ?_
  obtain ⟨g15, h⟩ := ite_some h
  obtain ⟨σ16, hσ16, h⟩ := Option.bind_eq_some_iff.mp h
  refine g_cp X lc_RX7_86 (lk7_7 h1).1 (lk7_7 h0).1 (lk7_7 h1).2 (lk7_7 h0).2 (cpyB_ok g15) ⟨(Nat.le_of_ble_eq_true rfl), (Nat.le_of_ble_eq_true rfl)⟩ dX7_copyFrom_121 (Option.some.inj hσ16) ?_
  refine g_aload_n X dX7_copyFrom_124 rfl 1 rfl ?_
  refine g_get X fl_RX7_36 dX7_copyFrom_125 h1 (v := .ref (be θ + (x1 + 9))) rfl ?_
  refine g_iconst X dX7_copyFrom_128 (v := (0 : Int32)) ic_0 ?_
  refine g_aload_n X dX7_copyFrom_129 rfl 0 rfl ?_
  refine g_get X fl_RX7_36 dX7_copyFrom_130 h0 (v := .ref (be θ + (x0 + 9))) rfl ?_
  refine g_iconst X dX7_copyFrom_133 (v := (0 : Int32)) ic_0 ?_
  refine g_aload_n X dX7_copyFrom_134 rfl 1 rfl ?_
  refine g_get X fl_RX7_43 dX7_copyFrom_135 h1 (v := .int (mI σ16 x1 10)) rfl ?_
  refine g_iconst X dX7_copyFrom_138 (v := (3 : Int32)) ic_3 ?_
  refine g_imul X dX7_copyFrom_139 ?_
  obtain ⟨g17, h⟩ := ite_some h
  obtain ⟨σ18, hσ18, h⟩ := Option.bind_eq_some_iff.mp h
  refine g_cp X lc_RX7_86 (lk7_8 h1).1 (lk7_8 h0).1 (lk7_8 h1).2 (lk7_8 h0).2 (cpyB_ok g17) ⟨(Nat.le_of_ble_eq_true rfl), (Nat.le_of_ble_eq_true rfl)⟩ dX7_copyFrom_140 (Option.some.inj hσ18) ?_
  refine g_aload_n X dX7_copyFrom_143 rfl 0 rfl ?_
  refine g_aload_n X dX7_copyFrom_144 rfl 1 rfl ?_
  refine g_get X fl_RX7_39 dX7_copyFrom_145 h1 (v := .int (mI σ18 x1 9)) rfl ?_
  refine g_putI X fl_RX7_39 dX7_copyFrom_148 h0 rfl rfl rfl ?_
  refine g_aload_n X dX7_copyFrom_151 rfl 0 rfl ?_
  refine g_aload_n X dX7_copyFrom_152 rfl 1 rfl ?_
  refine g_get X fl_RX7_43 dX7_copyFrom_153 h1 (v := .int (mI (sI σ18 x0 9 (mI σ18 x1 9)) x1 10)) rfl ?_
  refine g_putI X fl_RX7_43 dX7_copyFrom_156 h0 rfl rfl rfl ?_
  refine g_aload_n X dX7_copyFrom_159 rfl 0 rfl ?_
  refine g_aload_n X dX7_copyFrom_160 rfl 1 rfl ?_
  refine g_get X fl_RX7_46 dX7_copyFrom_161 h1 (v := .int (mI (sI (sI σ18 x0 9 (mI σ18 x1 9)) x0 10 (mI (sI σ18 x0 9 (mI σ18 x1 9)) x1 10)) x1 11)) rfl ?_
  refine g_putI X fl_RX7_46 dX7_copyFrom_164 h0 rfl rfl rfl ?_
  refine g_aload_n X dX7_copyFrom_167 rfl 0 rfl ?_
  refine g_aload_n X dX7_copyFrom_168 rfl 1 rfl ?_
  refine g_get X fl_RX7_49 dX7_copyFrom_169 h1 (v := .int (mI (sI (sI (sI σ18 x0 9 (mI σ18 x1 9)) x0 10 (mI (sI σ18 x0 9 (mI σ18 x1 9)) x1 10)) x0 11 (mI (sI (sI σ18 x0 9 (mI σ18 x1 9)) x0 10 (mI (sI σ18 x0 9 (mI σ18 x1 9)) x1 10)) x1 11)) x1 12)) rfl ?_
  refine g_putI X fl_RX7_49 dX7_copyFrom_172 h0 rfl rfl rfl ?_
  refine g_aload_n X dX7_copyFrom_175 rfl 0 rfl ?_
  refine g_aload_n X dX7_copyFrom_176 rfl 1 rfl ?_
  refine g_get X fl_RX7_52 dX7_copyFrom_177 h1 (v := .int (mI (sI (sI (sI (sI σ18 x0 9 (mI σ18 x1 9)) x0 10 (mI (sI σ18 x0 9 (mI σ18 x1 9)) x1 10)) x0 11 (mI (sI (sI σ18 x0 9 (mI σ18 x1 9)) x0 10 (mI (sI σ18 x0 9 (mI σ18 x1 9)) x1 10)) x1 11)) x0 12 (mI (sI (sI (sI σ18 x0 9 (mI σ18 x1 9)) x0 10 (mI (sI σ18 x0 9 (mI σ18 x1 9)) x1 10)) x0 11 (mI (sI (sI σ18 x0 9 (mI σ18 x1 9)) x0 10 (mI (sI σ18 x0 9 (mI σ18 x1 9)) x1 10)) x1 11)) x1 12)) x1 13)) rfl ?_
  refine g_putI X fl_RX7_52 dX7_copyFrom_180 h0 rfl rfl rfl ?_
  refine g_aload_n X dX7_copyFrom_183 rfl 0 rfl ?_
  refine g_aload_n X dX7_copyFrom_184 rfl 1 rfl ?_
  refine g_get X fl_RX7_55 dX7_copyFrom_185 h1 (v := .int (mI (sI (sI (sI (sI (sI σ18 x0 9 (mI σ18 x1 9)) x0 10 (mI (sI σ18 x0 9 (mI σ18 x1 9)) x1 10)) x0 11 (mI (sI (sI σ18 x0 9 (mI σ18 x1 9)) x0 10 (mI (sI σ18 x0 9 (mI σ18 x1 9)) x1 10)) x1 11)) x0 12 (mI (sI (sI (sI σ18 x0 9 (mI σ18 x1 9)) x0 10 (mI (sI σ18 x0 9 (mI σ18 x1 9)) x1 10)) x0 11 (mI (sI (sI σ18 x0 9 (mI σ18 x1 9)) x0 10 (mI (sI σ18 x0 9 (mI σ18 x1 9)) x1 10)) x1 11)) x1 12)) x0 13 (mI (sI (sI (sI (sI σ18 x0 9 (mI σ18 x1 9)) x0 10 (mI (sI σ18 x0 9 (mI σ18 x1 9)) x1 10)) x0 11 (mI (sI (sI σ18 x0 9 (mI σ18 x1 9)) x0 10 (mI (sI σ18 x0 9 (mI σ18 x1 9)) x1 10)) x1 11)) x0 12 (mI (sI (sI (sI σ18 x0 9 (mI σ18 x1 9)) x0 10 (mI (sI σ18 x0 9 (mI σ18 x1 9)) x1 10)) x0 11 (mI (sI (sI σ18 x0 9 (mI σ18 x1 9)) x0 10 (mI (sI σ18 x0 9 (mI σ18 x1 9)) x1 10)) x1 11)) x1 12)) x1 13)) x1 14)) rfl ?_
  refine g_putI X fl_RX7_55 dX7_copyFrom_188 h0 rfl rfl rfl ?_
  exact g_vret X hr hlk dX7_copyFrom_191 (by cases h; rfl)
set_option maxHeartbeats 4000000 in
set_option maxRecDepth 20000 in
theorem c_State_copyFrom {θ : Th} {l : Launch} {σ : Mem} {x0 : Nat} {x1 : Nat} {r : Mem} (h0 : kd x0 = 8) (h1 : kd x1 = 8) (h : f_State_copyFrom σ x0 x1 = some r) : Cn θ l yX7_copyFrom cX7_copyFrom 2 (none) 1 0 0 [.ref (be θ + x0), .ref (be θ + x1)] σ (none, r) :=
  Cn.of (by decide) (Nat.le_of_ble_eq_true rfl) (fun p e s m below meth c X hr hlk => g_State_copyFrom X hr hlk h0 h1 h)
theorem dX7_billsOf_0 : decode cX7_billsOf 0 = .ok (.iconst 0, 1) := by decide +kernel
theorem dX7_billsOf_1 : decode cX7_billsOf 1 = .ok (.istore_n 2, 1) := by decide +kernel
theorem dX7_billsOf_2 : decode cX7_billsOf 2 = .ok (.iconst 0, 1) := by decide +kernel
theorem dX7_billsOf_3 : decode cX7_billsOf 3 = .ok (.istore_n 3, 1) := by decide +kernel
theorem dX7_billsOf_4 : decode cX7_billsOf 4 = .ok (.iload_n 3, 1) := by decide +kernel
theorem dX7_billsOf_5 : decode cX7_billsOf 5 = .ok (.aload_n 0, 1) := by decide +kernel
theorem dX7_billsOf_6 : decode cX7_billsOf 6 = .ok (.getfield 39, 3) := by decide +kernel
theorem dX7_billsOf_9 : decode cX7_billsOf 9 = .ok (.if_icmp .ge 24, 3) := by decide +kernel
theorem dX7_billsOf_12 : decode cX7_billsOf 12 = .ok (.aload_n 0, 1) := by decide +kernel
theorem dX7_billsOf_13 : decode cX7_billsOf 13 = .ok (.getfield 33, 3) := by decide +kernel
theorem dX7_billsOf_16 : decode cX7_billsOf 16 = .ok (.iload_n 3, 1) := by decide +kernel
theorem dX7_billsOf_17 : decode cX7_billsOf 17 = .ok (.iconst 4, 1) := by decide +kernel
theorem dX7_billsOf_18 : decode cX7_billsOf 18 = .ok (.imul, 1) := by decide +kernel
theorem dX7_billsOf_19 : decode cX7_billsOf 19 = .ok (.iaload, 1) := by decide +kernel
theorem dX7_billsOf_20 : decode cX7_billsOf 20 = .ok (.iload_n 1, 1) := by decide +kernel
theorem dX7_billsOf_21 : decode cX7_billsOf 21 = .ok (.if_icmp .ne 6, 3) := by decide +kernel
theorem dX7_billsOf_24 : decode cX7_billsOf 24 = .ok (.iinc 2 1, 3) := by decide +kernel
theorem dX7_billsOf_27 : decode cX7_billsOf 27 = .ok (.iinc 3 1, 3) := by decide +kernel
theorem dX7_billsOf_30 : decode cX7_billsOf 30 = .ok (.goto (-26), 3) := by decide +kernel
theorem dX7_billsOf_33 : decode cX7_billsOf 33 = .ok (.iload_n 2, 1) := by decide +kernel
theorem dX7_billsOf_34 : decode cX7_billsOf 34 = .ok (.ireturn, 1) := by decide +kernel
def f_State_billsOf_L4 (σ : Mem) (x0 : Nat) (x1 : Int32) (a : Int32 × Int32) : Option ((Int32 × Int32) ⊕ (Int32)) :=
  if (mI σ x0 9) ≤ a.2 then
    some (.inr a.1)
  else
    if inb (a.2 * (4 : Int32)) 96 then
      if (mI σ (x0 + 8) (a.2 * (4 : Int32)).toNatClampNeg) = x1 then
        some (.inl ((a.1 + (1 : Int32)), (a.2 + (1 : Int32))))
      else
        some (.inl (a.1, (a.2 + (1 : Int32))))
    else none
def f_State_billsOf (σ : Mem) (x0 : Nat) (x1 : Int32) : Option (Int32) :=
  loopF (f_State_billsOf_L4 σ x0 x1) FU ((0 : Int32), (0 : Int32))
set_option maxHeartbeats 4000000 in
set_option maxRecDepth 20000 in
theorem gs_State_billsOf_L4 (X : Cx θ p s m args c cX7_billsOf 4 RX7) (hr : meth.sig.returnType = some .int) (hlk : meth.locks = false)  {σ : Mem} {x0 : Nat} {x1 : Int32} {r : Int32} (h0 : kd x0 = 8) (a : Int32 × Int32) (x : (Int32 × Int32) ⊕ (Int32)) (h : f_State_billsOf_L4 σ x0 x1 a = some x) (hk : Sum.elim (fun a => GB θ p l e 0 s m args below meth c 4 (some (.int r), σ) 4 [(0, .ref (be θ + x0)), (1, .int x1), (2, .int a.1), (3, .int a.2)] [] σ) (fun b => b = r) x) : GB θ p l e 0 s m args below meth c 4 (some (.int r), σ) 4 [(0, .ref (be θ + x0)), (1, .int x1), (2, .int a.1), (3, .int a.2)] [] σ := by
  unfold f_State_billsOf_L4 at h
  refine g_iload_n X dX7_billsOf_4 rfl 3 rfl ?_
  refine g_aload_n X dX7_billsOf_5 rfl 0 rfl ?_
  refine g_get X fl_RX7_39 dX7_billsOf_6 h0 (v := .int (mI σ x0 9)) rfl ?_
  refine g_icmp_ge (tgt := 33) X dX7_billsOf_9 (by decide) (fun c1 => ?_) (fun c1 => ?_)
  · replace h := (if_pos c1).symm.trans h
    refine g_iload_n X dX7_billsOf_33 rfl 2 rfl ?_
    cases h
    have hk : a.1 = r := hk
    subst hk
    exact g_iret X hr hlk dX7_billsOf_34 rfl
  · replace h := (if_neg c1).symm.trans h
    refine g_aload_n X dX7_billsOf_12 rfl 0 rfl ?_
    refine g_get X fl_RX7_33 dX7_billsOf_13 h0 (v := .ref (be θ + (x0 + 8))) rfl ?_
    refine g_iload_n X dX7_billsOf_16 rfl 3 rfl ?_
    refine g_iconst X dX7_billsOf_17 (v := (4 : Int32)) ic_4 ?_
    refine g_imul X dX7_billsOf_18 ?_
    obtain ⟨g2, h⟩ := ite_some h
    refine g_iald X (lk7_7 h0).1 (lk7_7 h0).2 (inb_in g2) dX7_billsOf_19 ?_
    refine g_iload_n X dX7_billsOf_20 rfl 1 rfl ?_
    refine g_icmp_ne (tgt := 27) X dX7_billsOf_21 (by decide) (fun c3 => ?_) (fun c3 => ?_)
    · replace h := (if_neg c3).symm.trans h
      refine g_iinc X dX7_billsOf_27 (kq := 3) rfl (congrArg (HAdd.hAdd _) ic_1) (by decide) (lv' := [(3, .int (a.2 + (1 : Int32))), (0, .ref (be θ + x0)), (1, .int x1), (2, .int a.1)]) rfl ?_
      refine g_goto (tgt := 4) X dX7_billsOf_30 (by decide) ?_
      cases h
      exact g_sub [1, 2, 3, 0] rfl hk
    · replace h := (if_pos c3).symm.trans h
      refine g_iinc X dX7_billsOf_24 (kq := 2) rfl (congrArg (HAdd.hAdd _) ic_1) (by decide) (lv' := [(2, .int (a.1 + (1 : Int32))), (0, .ref (be θ + x0)), (1, .int x1), (3, .int a.2)]) rfl ?_
      refine g_iinc X dX7_billsOf_27 (kq := 3) rfl (congrArg (HAdd.hAdd _) ic_1) (by decide) (lv' := [(3, .int (a.2 + (1 : Int32))), (2, .int (a.1 + (1 : Int32))), (0, .ref (be θ + x0)), (1, .int x1)]) rfl ?_
      refine g_goto (tgt := 4) X dX7_billsOf_30 (by decide) ?_
      cases h
      exact g_sub [2, 3, 1, 0] rfl hk
set_option maxHeartbeats 4000000 in
set_option maxRecDepth 20000 in
theorem gl_State_billsOf_L4 (X : Cx θ p s m args c cX7_billsOf 4 RX7) (hr : meth.sig.returnType = some .int) (hlk : meth.locks = false)  {σ : Mem} {x0 : Nat} {x1 : Int32} {r : Int32} (h0 : kd x0 = 8) (n : Nat) (a : Int32 × Int32) (b : Int32) (h : loopF (f_State_billsOf_L4 σ x0 x1) n a = some b) (hk : b = r) : GB θ p l e 0 s m args below meth c 4 (some (.int r), σ) 4 [(0, .ref (be θ + x0)), (1, .int x1), (2, .int a.1), (3, .int a.2)] [] σ :=
  loopF_by (P := fun a => GB θ p l e 0 s m args below meth c 4 (some (.int r), σ) 4 [(0, .ref (be θ + x0)), (1, .int x1), (2, .int a.1), (3, .int a.2)] [] σ) (K := fun b => b = r) (fun a x h hk => gs_State_billsOf_L4 X hr hlk  h0 a x h hk) n a b h hk
set_option maxHeartbeats 4000000 in
set_option maxRecDepth 20000 in
theorem g_State_billsOf (X : Cx θ p s m args c cX7_billsOf 4 RX7) (hr : meth.sig.returnType = some .int) (hlk : meth.locks = false)  {σ : Mem} {x0 : Nat} {x1 : Int32} {r : Int32} (h0 : kd x0 = 8) (h : f_State_billsOf σ x0 x1 = some r) : GB θ p l e 0 s m args below meth c 4 (some (.int r), σ) 0 [(0, .ref (be θ + x0)), (1, .int x1)] [] σ := by
  unfold f_State_billsOf at h
  refine g_iconst X dX7_billsOf_0 (v := (0 : Int32)) ic_0 ?_
  refine g_istore_n X dX7_billsOf_1 rfl (by decide) (lv' := [(2, .int (0 : Int32)), (0, .ref (be θ + x0)), (1, .int x1)]) rfl ?_
  refine g_iconst X dX7_billsOf_2 (v := (0 : Int32)) ic_0 ?_
  refine g_istore_n X dX7_billsOf_3 rfl (by decide) (lv' := [(3, .int (0 : Int32)), (2, .int (0 : Int32)), (0, .ref (be θ + x0)), (1, .int x1)]) rfl ?_
  exact g_sub [2, 3, 1, 0] rfl (gl_State_billsOf_L4 X hr hlk  h0  FU _ _ h rfl)
set_option maxHeartbeats 4000000 in
set_option maxRecDepth 20000 in
theorem c_State_billsOf {θ : Th} {l : Launch} {σ : Mem} {x0 : Nat} {x1 : Int32} {r : Int32} (h0 : kd x0 = 8) (h : f_State_billsOf σ x0 x1 = some r) : Cn θ l yX7_billsOf cX7_billsOf 4 (some .int) 0 0 0 [.ref (be θ + x0), .int x1] σ (some (.int r), σ) :=
  Cn.of (by decide) (Nat.le_of_ble_eq_true rfl) (fun p e s m below meth c X hr hlk => g_State_billsOf X hr hlk h0 h)
theorem dX7_billRow_0 : decode cX7_billRow 0 = .ok (.iload_n 2, 1) := by decide +kernel
theorem dX7_billRow_1 : decode cX7_billRow 1 = .ok (.istore_n 3, 1) := by decide +kernel
theorem dX7_billRow_2 : decode cX7_billRow 2 = .ok (.iconst 0, 1) := by decide +kernel
theorem dX7_billRow_3 : decode cX7_billRow 3 = .ok (.istore 4, 2) := by decide +kernel
theorem dX7_billRow_5 : decode cX7_billRow 5 = .ok (.iload 4, 2) := by decide +kernel
theorem dX7_billRow_7 : decode cX7_billRow 7 = .ok (.aload_n 0, 1) := by decide +kernel
theorem dX7_billRow_8 : decode cX7_billRow 8 = .ok (.getfield 39, 3) := by decide +kernel
theorem dX7_billRow_11 : decode cX7_billRow 11 = .ok (.if_icmp .ge 37, 3) := by decide +kernel
theorem dX7_billRow_14 : decode cX7_billRow 14 = .ok (.aload_n 0, 1) := by decide +kernel
theorem dX7_billRow_15 : decode cX7_billRow 15 = .ok (.getfield 33, 3) := by decide +kernel
theorem dX7_billRow_18 : decode cX7_billRow 18 = .ok (.iload 4, 2) := by decide +kernel
theorem dX7_billRow_20 : decode cX7_billRow 20 = .ok (.iconst 4, 1) := by decide +kernel
theorem dX7_billRow_21 : decode cX7_billRow 21 = .ok (.imul, 1) := by decide +kernel
theorem dX7_billRow_22 : decode cX7_billRow 22 = .ok (.iaload, 1) := by decide +kernel
theorem dX7_billRow_23 : decode cX7_billRow 23 = .ok (.iload_n 1, 1) := by decide +kernel
theorem dX7_billRow_24 : decode cX7_billRow 24 = .ok (.if_icmp .eq 6, 3) := by decide +kernel
theorem dX7_billRow_27 : decode cX7_billRow 27 = .ok (.goto 15, 3) := by decide +kernel
theorem dX7_billRow_30 : decode cX7_billRow 30 = .ok (.iload_n 3, 1) := by decide +kernel
theorem dX7_billRow_31 : decode cX7_billRow 31 = .ok (.ifCond .ne 8, 3) := by decide +kernel
theorem dX7_billRow_34 : decode cX7_billRow 34 = .ok (.iload 4, 2) := by decide +kernel
theorem dX7_billRow_36 : decode cX7_billRow 36 = .ok (.iconst 4, 1) := by decide +kernel
theorem dX7_billRow_37 : decode cX7_billRow 37 = .ok (.imul, 1) := by decide +kernel
theorem dX7_billRow_38 : decode cX7_billRow 38 = .ok (.ireturn, 1) := by decide +kernel
theorem dX7_billRow_39 : decode cX7_billRow 39 = .ok (.iinc 3 (-1), 3) := by decide +kernel
theorem dX7_billRow_42 : decode cX7_billRow 42 = .ok (.iinc 4 1, 3) := by decide +kernel
theorem dX7_billRow_45 : decode cX7_billRow 45 = .ok (.goto (-40), 3) := by decide +kernel
theorem dX7_billRow_48 : decode cX7_billRow 48 = .ok (.iconst (-1), 1) := by decide +kernel
theorem dX7_billRow_49 : decode cX7_billRow 49 = .ok (.ireturn, 1) := by decide +kernel
def f_State_billRow_L5 (σ : Mem) (x0 : Nat) (x1 : Int32) (x2 : Int32) (a : Int32 × Int32) : Option ((Int32 × Int32) ⊕ (Int32)) :=
  if (mI σ x0 9) ≤ a.2 then
    some (.inr (-1 : Int32))
  else
    if inb (a.2 * (4 : Int32)) 96 then
      if (mI σ (x0 + 8) (a.2 * (4 : Int32)).toNatClampNeg) = x1 then
        if a.1 = (0 : Int32) then
          some (.inr (a.2 * (4 : Int32)))
        else
          some (.inl ((a.1 + (-1 : Int32)), (a.2 + (1 : Int32))))
      else
        some (.inl (a.1, (a.2 + (1 : Int32))))
    else none
def f_State_billRow (σ : Mem) (x0 : Nat) (x1 : Int32) (x2 : Int32) : Option (Int32) :=
  loopF (f_State_billRow_L5 σ x0 x1 x2) FU (x2, (0 : Int32))
set_option maxHeartbeats 4000000 in
set_option maxRecDepth 20000 in
theorem gs_State_billRow_L5 (X : Cx θ p s m args c cX7_billRow 5 RX7) (hr : meth.sig.returnType = some .int) (hlk : meth.locks = false)  {σ : Mem} {x0 : Nat} {x1 : Int32} {x2 : Int32} {r : Int32} (h0 : kd x0 = 8) (a : Int32 × Int32) (x : (Int32 × Int32) ⊕ (Int32)) (h : f_State_billRow_L5 σ x0 x1 x2 a = some x) (hk : Sum.elim (fun a => GB θ p l e 0 s m args below meth c 5 (some (.int r), σ) 5 [(0, .ref (be θ + x0)), (1, .int x1), (2, .int x2), (3, .int a.1), (4, .int a.2)] [] σ) (fun b => b = r) x) : GB θ p l e 0 s m args below meth c 5 (some (.int r), σ) 5 [(0, .ref (be θ + x0)), (1, .int x1), (2, .int x2), (3, .int a.1), (4, .int a.2)] [] σ := by
  unfold f_State_billRow_L5 at h
  refine g_iload X dX7_billRow_5 4 rfl ?_
  refine g_aload_n X dX7_billRow_7 rfl 0 rfl ?_
  refine g_get X fl_RX7_39 dX7_billRow_8 h0 (v := .int (mI σ x0 9)) rfl ?_
  refine g_icmp_ge (tgt := 48) X dX7_billRow_11 (by decide) (fun c1 => ?_) (fun c1 => ?_)
  · replace h := (if_pos c1).symm.trans h
    refine g_iconst X dX7_billRow_48 (v := (-1 : Int32)) ic_m1 ?_
    cases h
    have hk : (-1 : Int32) = r := hk
    subst hk
    exact g_iret X hr hlk dX7_billRow_49 rfl
  · replace h := (if_neg c1).symm.trans h
    refine g_aload_n X dX7_billRow_14 rfl 0 rfl ?_
    refine g_get X fl_RX7_33 dX7_billRow_15 h0 (v := .ref (be θ + (x0 + 8))) rfl ?_
    refine g_iload X dX7_billRow_18 4 rfl ?_
    refine g_iconst X dX7_billRow_20 (v := (4 : Int32)) ic_4 ?_
    refine g_imul X dX7_billRow_21 ?_
    obtain ⟨g2, h⟩ := ite_some h
    refine g_iald X (lk7_7 h0).1 (lk7_7 h0).2 (inb_in g2) dX7_billRow_22 ?_
    refine g_iload_n X dX7_billRow_23 rfl 1 rfl ?_
    refine g_icmp_eq (tgt := 30) X dX7_billRow_24 (by decide) (fun c3 => ?_) (fun c3 => ?_)
    · replace h := (if_pos c3).symm.trans h
      refine g_iload_n X dX7_billRow_30 rfl 3 rfl ?_
      refine g_if_ne (tgt := 39) X dX7_billRow_31 (by decide) (fun c4 => ?_) (fun c4 => ?_)
      · replace h := (if_neg c4).symm.trans h
        refine g_iinc X dX7_billRow_39 (kq := 3) rfl (congrArg (HAdd.hAdd _) ic_m1) (by decide) (lv' := [(3, .int (a.1 + (-1 : Int32))), (0, .ref (be θ + x0)), (1, .int x1), (2, .int x2), (4, .int a.2)]) rfl ?_
        refine g_iinc X dX7_billRow_42 (kq := 4) rfl (congrArg (HAdd.hAdd _) ic_1) (by decide) (lv' := [(4, .int (a.2 + (1 : Int32))), (3, .int (a.1 + (-1 : Int32))), (0, .ref (be θ + x0)), (1, .int x1), (2, .int x2)]) rfl ?_
        refine g_goto (tgt := 5) X dX7_billRow_45 (by decide) ?_
        cases h
        exact g_sub [2, 3, 4, 1, 0] rfl hk
      · replace h := (if_pos c4).symm.trans h
        refine g_iload X dX7_billRow_34 4 rfl ?_
        refine g_iconst X dX7_billRow_36 (v := (4 : Int32)) ic_4 ?_
        refine g_imul X dX7_billRow_37 ?_
        cases h
        have hk : (a.2 * (4 : Int32)) = r := hk
        subst hk
        exact g_iret X hr hlk dX7_billRow_38 rfl
    · replace h := (if_neg c3).symm.trans h
      refine g_goto (tgt := 42) X dX7_billRow_27 (by decide) ?_
      refine g_iinc X dX7_billRow_42 (kq := 4) rfl (congrArg (HAdd.hAdd _) ic_1) (by decide) (lv' := [(4, .int (a.2 + (1 : Int32))), (0, .ref (be θ + x0)), (1, .int x1), (2, .int x2), (3, .int a.1)]) rfl ?_
      refine g_goto (tgt := 5) X dX7_billRow_45 (by decide) ?_
      cases h
      exact g_sub [1, 2, 3, 4, 0] rfl hk
set_option maxHeartbeats 4000000 in
set_option maxRecDepth 20000 in
theorem gl_State_billRow_L5 (X : Cx θ p s m args c cX7_billRow 5 RX7) (hr : meth.sig.returnType = some .int) (hlk : meth.locks = false)  {σ : Mem} {x0 : Nat} {x1 : Int32} {x2 : Int32} {r : Int32} (h0 : kd x0 = 8) (n : Nat) (a : Int32 × Int32) (b : Int32) (h : loopF (f_State_billRow_L5 σ x0 x1 x2) n a = some b) (hk : b = r) : GB θ p l e 0 s m args below meth c 5 (some (.int r), σ) 5 [(0, .ref (be θ + x0)), (1, .int x1), (2, .int x2), (3, .int a.1), (4, .int a.2)] [] σ :=
  loopF_by (P := fun a => GB θ p l e 0 s m args below meth c 5 (some (.int r), σ) 5 [(0, .ref (be θ + x0)), (1, .int x1), (2, .int x2), (3, .int a.1), (4, .int a.2)] [] σ) (K := fun b => b = r) (fun a x h hk => gs_State_billRow_L5 X hr hlk  h0 a x h hk) n a b h hk
set_option maxHeartbeats 4000000 in
set_option maxRecDepth 20000 in
theorem g_State_billRow (X : Cx θ p s m args c cX7_billRow 5 RX7) (hr : meth.sig.returnType = some .int) (hlk : meth.locks = false)  {σ : Mem} {x0 : Nat} {x1 : Int32} {x2 : Int32} {r : Int32} (h0 : kd x0 = 8) (h : f_State_billRow σ x0 x1 x2 = some r) : GB θ p l e 0 s m args below meth c 5 (some (.int r), σ) 0 [(0, .ref (be θ + x0)), (1, .int x1), (2, .int x2)] [] σ := by
  unfold f_State_billRow at h
  refine g_iload_n X dX7_billRow_0 rfl 2 rfl ?_
  refine g_istore_n X dX7_billRow_1 rfl (by decide) (lv' := [(3, .int x2), (0, .ref (be θ + x0)), (1, .int x1), (2, .int x2)]) rfl ?_
  refine g_iconst X dX7_billRow_2 (v := (0 : Int32)) ic_0 ?_
  refine g_istore X dX7_billRow_3 (by decide) (lv' := [(4, .int (0 : Int32)), (3, .int x2), (0, .ref (be θ + x0)), (1, .int x1), (2, .int x2)]) rfl ?_
  exact g_sub [2, 3, 4, 1, 0] rfl (gl_State_billRow_L5 X hr hlk  h0  FU _ _ h rfl)
set_option maxHeartbeats 4000000 in
set_option maxRecDepth 20000 in
theorem c_State_billRow {θ : Th} {l : Launch} {σ : Mem} {x0 : Nat} {x1 : Int32} {x2 : Int32} {r : Int32} (h0 : kd x0 = 8) (h : f_State_billRow σ x0 x1 x2 = some r) : Cn θ l yX7_billRow cX7_billRow 5 (some .int) 0 0 0 [.ref (be θ + x0), .int x1, .int x2] σ (some (.int r), σ) :=
  Cn.of (by decide) (Nat.le_of_ble_eq_true rfl) (fun p e s m below meth c X hr hlk => g_State_billRow X hr hlk h0 h)
theorem dX8_bytesIn_0 : decode cX8_bytesIn 0 = .ok (.iconst 0, 1) := by decide +kernel
theorem dX8_bytesIn_1 : decode cX8_bytesIn 1 = .ok (.istore_n 2, 1) := by decide +kernel
theorem dX8_bytesIn_2 : decode cX8_bytesIn 2 = .ok (.bipush 24, 2) := by decide +kernel
theorem dX8_bytesIn_4 : decode cX8_bytesIn 4 = .ok (.istore_n 3, 1) := by decide +kernel
theorem dX8_bytesIn_5 : decode cX8_bytesIn 5 = .ok (.iload_n 3, 1) := by decide +kernel
theorem dX8_bytesIn_6 : decode cX8_bytesIn 6 = .ok (.ifCond .lt 22, 3) := by decide +kernel
theorem dX8_bytesIn_9 : decode cX8_bytesIn 9 = .ok (.iload_n 1, 1) := by decide +kernel
theorem dX8_bytesIn_10 : decode cX8_bytesIn 10 = .ok (.iload_n 3, 1) := by decide +kernel
theorem dX8_bytesIn_11 : decode cX8_bytesIn 11 = .ok (.iushr, 1) := by decide +kernel
theorem dX8_bytesIn_12 : decode cX8_bytesIn 12 = .ok (.sipush 255, 3) := by decide +kernel
theorem dX8_bytesIn_15 : decode cX8_bytesIn 15 = .ok (.iand, 1) := by decide +kernel
theorem dX8_bytesIn_16 : decode cX8_bytesIn 16 = .ok (.ifCond .eq 6, 3) := by decide +kernel
theorem dX8_bytesIn_19 : decode cX8_bytesIn 19 = .ok (.iinc 2 1, 3) := by decide +kernel
theorem dX8_bytesIn_22 : decode cX8_bytesIn 22 = .ok (.iinc 3 (-8), 3) := by decide +kernel
theorem dX8_bytesIn_25 : decode cX8_bytesIn 25 = .ok (.goto (-20), 3) := by decide +kernel
theorem dX8_bytesIn_28 : decode cX8_bytesIn 28 = .ok (.iload_n 2, 1) := by decide +kernel
theorem dX8_bytesIn_29 : decode cX8_bytesIn 29 = .ok (.ireturn, 1) := by decide +kernel
def f_Tape_bytesIn_L5 (σ : Mem) (x1 : Int32) (a : Int32 × Int32) : Option ((Int32 × Int32) ⊕ (Int32)) :=
  if a.2 < (0 : Int32) then
    some (.inr a.1)
  else
    if ((iush x1 a.2) &&& (255 : Int32)) = (0 : Int32) then
      some (.inl (a.1, (a.2 + (-8 : Int32))))
    else
      some (.inl ((a.1 + (1 : Int32)), (a.2 + (-8 : Int32))))
def f_Tape_bytesIn (σ : Mem) (x1 : Int32) : Option (Int32) :=
  loopF (f_Tape_bytesIn_L5 σ x1) FU ((0 : Int32), (24 : Int32))
set_option maxHeartbeats 4000000 in
set_option maxRecDepth 20000 in
theorem gs_Tape_bytesIn_L5 (X : Cx θ p s m args c cX8_bytesIn 4 RX8) (hr : meth.sig.returnType = some .int) (hlk : meth.locks = false)  {σ : Mem} {x1 : Int32} {r : Int32}  (a : Int32 × Int32) (x : (Int32 × Int32) ⊕ (Int32)) (h : f_Tape_bytesIn_L5 σ x1 a = some x) (hk : Sum.elim (fun a => GB θ p l e 0 s m args below meth c 4 (some (.int r), σ) 5 [(0, .ref (be θ + 1)), (1, .int x1), (2, .int a.1), (3, .int a.2)] [] σ) (fun b => b = r) x) : GB θ p l e 0 s m args below meth c 4 (some (.int r), σ) 5 [(0, .ref (be θ + 1)), (1, .int x1), (2, .int a.1), (3, .int a.2)] [] σ := by
  unfold f_Tape_bytesIn_L5 at h
  refine g_iload_n X dX8_bytesIn_5 rfl 3 rfl ?_
  refine g_if_lt (tgt := 28) X dX8_bytesIn_6 (by decide) (fun c1 => ?_) (fun c1 => ?_)
  · replace h := (if_pos c1).symm.trans h
    refine g_iload_n X dX8_bytesIn_28 rfl 2 rfl ?_
    cases h
    have hk : a.1 = r := hk
    subst hk
    exact g_iret X hr hlk dX8_bytesIn_29 rfl
  · replace h := (if_neg c1).symm.trans h
    refine g_iload_n X dX8_bytesIn_9 rfl 1 rfl ?_
    refine g_iload_n X dX8_bytesIn_10 rfl 3 rfl ?_
    refine g_iushr X dX8_bytesIn_11 (v := (iush x1 a.2)) rfl ?_
    refine g_sipush X dX8_bytesIn_12 (v := (255 : Int32)) sp_255 ?_
    refine g_iand X dX8_bytesIn_15 ?_
    refine g_if_eq (tgt := 22) X dX8_bytesIn_16 (by decide) (fun c2 => ?_) (fun c2 => ?_)
    · replace h := (if_pos c2).symm.trans h
      refine g_iinc X dX8_bytesIn_22 (kq := 3) rfl (congrArg (HAdd.hAdd _) ic_m8) (by decide) (lv' := [(3, .int (a.2 + (-8 : Int32))), (0, .ref (be θ + 1)), (1, .int x1), (2, .int a.1)]) rfl ?_
      refine g_goto (tgt := 5) X dX8_bytesIn_25 (by decide) ?_
      cases h
      exact g_sub [1, 2, 3, 0] rfl hk
    · replace h := (if_neg c2).symm.trans h
      refine g_iinc X dX8_bytesIn_19 (kq := 2) rfl (congrArg (HAdd.hAdd _) ic_1) (by decide) (lv' := [(2, .int (a.1 + (1 : Int32))), (0, .ref (be θ + 1)), (1, .int x1), (3, .int a.2)]) rfl ?_
      refine g_iinc X dX8_bytesIn_22 (kq := 3) rfl (congrArg (HAdd.hAdd _) ic_m8) (by decide) (lv' := [(3, .int (a.2 + (-8 : Int32))), (2, .int (a.1 + (1 : Int32))), (0, .ref (be θ + 1)), (1, .int x1)]) rfl ?_
      refine g_goto (tgt := 5) X dX8_bytesIn_25 (by decide) ?_
      cases h
      exact g_sub [2, 3, 1, 0] rfl hk
set_option maxHeartbeats 4000000 in
set_option maxRecDepth 20000 in
theorem gl_Tape_bytesIn_L5 (X : Cx θ p s m args c cX8_bytesIn 4 RX8) (hr : meth.sig.returnType = some .int) (hlk : meth.locks = false)  {σ : Mem} {x1 : Int32} {r : Int32}  (n : Nat) (a : Int32 × Int32) (b : Int32) (h : loopF (f_Tape_bytesIn_L5 σ x1) n a = some b) (hk : b = r) : GB θ p l e 0 s m args below meth c 4 (some (.int r), σ) 5 [(0, .ref (be θ + 1)), (1, .int x1), (2, .int a.1), (3, .int a.2)] [] σ :=
  loopF_by (P := fun a => GB θ p l e 0 s m args below meth c 4 (some (.int r), σ) 5 [(0, .ref (be θ + 1)), (1, .int x1), (2, .int a.1), (3, .int a.2)] [] σ) (K := fun b => b = r) (fun a x h hk => gs_Tape_bytesIn_L5 X hr hlk   a x h hk) n a b h hk
set_option maxHeartbeats 4000000 in
set_option maxRecDepth 20000 in
theorem g_Tape_bytesIn (X : Cx θ p s m args c cX8_bytesIn 4 RX8) (hr : meth.sig.returnType = some .int) (hlk : meth.locks = false)  {σ : Mem} {x1 : Int32} {r : Int32}  (h : f_Tape_bytesIn σ x1 = some r) : GB θ p l e 0 s m args below meth c 4 (some (.int r), σ) 0 [(0, .ref (be θ + 1)), (1, .int x1)] [] σ := by
  unfold f_Tape_bytesIn at h
  refine g_iconst X dX8_bytesIn_0 (v := (0 : Int32)) ic_0 ?_
  refine g_istore_n X dX8_bytesIn_1 rfl (by decide) (lv' := [(2, .int (0 : Int32)), (0, .ref (be θ + 1)), (1, .int x1)]) rfl ?_
  refine g_bipush X dX8_bytesIn_2 (v := (24 : Int32)) bp_24 ?_
  refine g_istore_n X dX8_bytesIn_4 rfl (by decide) (lv' := [(3, .int (24 : Int32)), (2, .int (0 : Int32)), (0, .ref (be θ + 1)), (1, .int x1)]) rfl ?_
  exact g_sub [2, 3, 1, 0] rfl (gl_Tape_bytesIn_L5 X hr hlk    FU _ _ h rfl)
set_option maxHeartbeats 4000000 in
set_option maxRecDepth 20000 in
theorem c_Tape_bytesIn {θ : Th} {l : Launch} {σ : Mem} {x1 : Int32} {r : Int32}  (h : f_Tape_bytesIn σ x1 = some r) : Cn θ l yX8_bytesIn cX8_bytesIn 4 (some .int) 0 0 0 [.ref (be θ + 1), .int x1] σ (some (.int r), σ) :=
  Cn.of (by decide) (Nat.le_of_ble_eq_true rfl) (fun p e s m below meth c X hr hlk => g_Tape_bytesIn X hr hlk  h)
theorem dX8_add_0 : decode cX8_add 0 = .ok (.bipush 24, 2) := by decide +kernel
theorem dX8_add_2 : decode cX8_add 2 = .ok (.istore_n 2, 1) := by decide +kernel
theorem dX8_add_3 : decode cX8_add 3 = .ok (.iload_n 2, 1) := by decide +kernel
theorem dX8_add_4 : decode cX8_add 4 = .ok (.ifCond .lt 51, 3) := by decide +kernel
theorem dX8_add_7 : decode cX8_add 7 = .ok (.iload_n 1, 1) := by decide +kernel
theorem dX8_add_8 : decode cX8_add 8 = .ok (.iload_n 2, 1) := by decide +kernel
theorem dX8_add_9 : decode cX8_add 9 = .ok (.iushr, 1) := by decide +kernel
theorem dX8_add_10 : decode cX8_add 10 = .ok (.sipush 255, 3) := by decide +kernel
theorem dX8_add_13 : decode cX8_add 13 = .ok (.iand, 1) := by decide +kernel
theorem dX8_add_14 : decode cX8_add 14 = .ok (.istore_n 3, 1) := by decide +kernel
theorem dX8_add_15 : decode cX8_add 15 = .ok (.iload_n 3, 1) := by decide +kernel
theorem dX8_add_16 : decode cX8_add 16 = .ok (.ifCond .eq 33, 3) := by decide +kernel
theorem dX8_add_19 : decode cX8_add 19 = .ok (.aload_n 0, 1) := by decide +kernel
theorem dX8_add_20 : decode cX8_add 20 = .ok (.getfield 15, 3) := by decide +kernel
theorem dX8_add_23 : decode cX8_add 23 = .ok (.sipush 240, 3) := by decide +kernel
theorem dX8_add_26 : decode cX8_add 26 = .ok (.if_icmp .ge 23, 3) := by decide +kernel
theorem dX8_add_29 : decode cX8_add 29 = .ok (.aload_n 0, 1) := by decide +kernel
theorem dX8_add_30 : decode cX8_add 30 = .ok (.getfield 9, 3) := by decide +kernel
theorem dX8_add_33 : decode cX8_add 33 = .ok (.aload_n 0, 1) := by decide +kernel
theorem dX8_add_34 : decode cX8_add 34 = .ok (.getfield 15, 3) := by decide +kernel
theorem dX8_add_37 : decode cX8_add 37 = .ok (.iload_n 3, 1) := by decide +kernel
theorem dX8_add_38 : decode cX8_add 38 = .ok (.iastore, 1) := by decide +kernel
theorem dX8_add_39 : decode cX8_add 39 = .ok (.aload_n 0, 1) := by decide +kernel
theorem dX8_add_40 : decode cX8_add 40 = .ok (.dup, 1) := by decide +kernel
theorem dX8_add_41 : decode cX8_add 41 = .ok (.getfield 15, 3) := by decide +kernel
theorem dX8_add_44 : decode cX8_add 44 = .ok (.iconst 1, 1) := by decide +kernel
theorem dX8_add_45 : decode cX8_add 45 = .ok (.iadd, 1) := by decide +kernel
theorem dX8_add_46 : decode cX8_add 46 = .ok (.putfield 15, 3) := by decide +kernel
theorem dX8_add_49 : decode cX8_add 49 = .ok (.iinc 2 (-8), 3) := by decide +kernel
theorem dX8_add_52 : decode cX8_add 52 = .ok (.goto (-49), 3) := by decide +kernel
theorem dX8_add_55 : decode cX8_add 55 = .ok (.return_, 1) := by decide +kernel
def f_Tape_add_L3 (x1 : Int32) (a : Mem × Int32) : Option ((Mem × Int32) ⊕ (Mem)) :=
  if a.2 < (0 : Int32) then
    some (.inr a.1)
  else
    if ((iush x1 a.2) &&& (255 : Int32)) = (0 : Int32) then
      some (.inl (a.1, (a.2 + (-8 : Int32))))
    else
      if (240 : Int32) ≤ (mI a.1 1 1) then
        some (.inl (a.1, (a.2 + (-8 : Int32))))
      else
        if inb (mI a.1 1 1) 240 then
          some (.inl ((sI (sI a.1 2 (mI a.1 1 1).toNatClampNeg ((iush x1 a.2) &&& (255 : Int32))) 1 1 ((mI (sI a.1 2 (mI a.1 1 1).toNatClampNeg ((iush x1 a.2) &&& (255 : Int32))) 1 1) + (1 : Int32))), (a.2 + (-8 : Int32))))
        else none
def f_Tape_add (σ : Mem) (x1 : Int32) : Option (Mem) :=
  loopF (f_Tape_add_L3 x1) FU (σ, (24 : Int32))
set_option maxHeartbeats 4000000 in
set_option maxRecDepth 20000 in
theorem gs_Tape_add_L3 (X : Cx θ p s m args c cX8_add 4 RX8) (hr : meth.sig.returnType = none) (hlk : meth.locks = false)  {x1 : Int32} {r : Mem}  (a : Mem × Int32) (x : (Mem × Int32) ⊕ (Mem)) (h : f_Tape_add_L3 x1 a = some x) (hk : Sum.elim (fun a => GB θ p l e 0 s m args below meth c 4 (none, r) 3 [(0, .ref (be θ + 1)), (1, .int x1), (2, .int a.2)] [] a.1) (fun b => b = r) x) : GB θ p l e 0 s m args below meth c 4 (none, r) 3 [(0, .ref (be θ + 1)), (1, .int x1), (2, .int a.2)] [] a.1 := by
  unfold f_Tape_add_L3 at h
  refine g_iload_n X dX8_add_3 rfl 2 rfl ?_
  refine g_if_lt (tgt := 55) X dX8_add_4 (by decide) (fun c1 => ?_) (fun c1 => ?_)
  · replace h := (if_pos c1).symm.trans h
    cases h
    have hk : a.1 = r := hk
    subst hk
    exact g_vret X hr hlk dX8_add_55 rfl
  · replace h := (if_neg c1).symm.trans h
    refine g_iload_n X dX8_add_7 rfl 1 rfl ?_
    refine g_iload_n X dX8_add_8 rfl 2 rfl ?_
    refine g_iushr X dX8_add_9 (v := (iush x1 a.2)) rfl ?_
    refine g_sipush X dX8_add_10 (v := (255 : Int32)) sp_255 ?_
    refine g_iand X dX8_add_13 ?_
    refine g_istore_n X dX8_add_14 rfl (by decide) (lv' := [(3, .int ((iush x1 a.2) &&& (255 : Int32))), (0, .ref (be θ + 1)), (1, .int x1), (2, .int a.2)]) rfl ?_
    refine g_iload_n X dX8_add_15 rfl 0 rfl ?_
    refine g_if_eq (tgt := 49) X dX8_add_16 (by decide) (fun c2 => ?_) (fun c2 => ?_)
    · replace h := (if_pos c2).symm.trans h
      refine g_iinc X dX8_add_49 (kq := 3) rfl (congrArg (HAdd.hAdd _) ic_m8) (by decide) (lv' := [(2, .int (a.2 + (-8 : Int32))), (3, .int ((iush x1 a.2) &&& (255 : Int32))), (0, .ref (be θ + 1)), (1, .int x1)]) rfl ?_
      refine g_goto (tgt := 3) X dX8_add_52 (by decide) ?_
      cases h
      exact g_sub [2, 3, 0] rfl hk
    · replace h := (if_neg c2).symm.trans h
      refine g_aload_n X dX8_add_19 rfl 1 rfl ?_
      refine g_get X fl_RX8_15 dX8_add_20 kd_1 (v := .int (mI a.1 1 1)) rfl ?_
      refine g_sipush X dX8_add_23 (v := (240 : Int32)) sp_240 ?_
      refine g_icmp_ge (tgt := 49) X dX8_add_26 (by decide) (fun c3 => ?_) (fun c3 => ?_)
      · replace h := (if_pos c3).symm.trans h
        refine g_iinc X dX8_add_49 (kq := 3) rfl (congrArg (HAdd.hAdd _) ic_m8) (by decide) (lv' := [(2, .int (a.2 + (-8 : Int32))), (3, .int ((iush x1 a.2) &&& (255 : Int32))), (0, .ref (be θ + 1)), (1, .int x1)]) rfl ?_
        refine g_goto (tgt := 3) X dX8_add_52 (by decide) ?_
        cases h
        exact g_sub [2, 3, 0] rfl hk
      · replace h := (if_neg c3).symm.trans h
        refine g_aload_n X dX8_add_29 rfl 1 rfl ?_
        refine g_get X fl_RX8_9 dX8_add_30 kd_1 (v := .ref (be θ + 2)) rfl ?_
        refine g_aload_n X dX8_add_33 rfl 1 rfl ?_
        refine g_get X fl_RX8_15 dX8_add_34 kd_1 (v := .int (mI a.1 1 1)) rfl ?_
        refine g_iload_n X dX8_add_37 rfl 0 rfl ?_
        obtain ⟨g4, h⟩ := ite_some h
        refine g_iast X kd_2 ln_2 (inb_in g4) dX8_add_38 ?_
        refine g_aload_n X dX8_add_39 rfl 1 rfl ?_
        refine g_dup X dX8_add_40 rfl ?_
        refine g_get X fl_RX8_15 dX8_add_41 kd_1 (v := .int (mI (sI a.1 2 (mI a.1 1 1).toNatClampNeg ((iush x1 a.2) &&& (255 : Int32))) 1 1)) rfl ?_
        refine g_iconst X dX8_add_44 (v := (1 : Int32)) ic_1 ?_
        refine g_iadd X dX8_add_45 ?_
        refine g_putI X fl_RX8_15 dX8_add_46 kd_1 rfl rfl rfl ?_
        refine g_iinc X dX8_add_49 (kq := 3) rfl (congrArg (HAdd.hAdd _) ic_m8) (by decide) (lv' := [(2, .int (a.2 + (-8 : Int32))), (3, .int ((iush x1 a.2) &&& (255 : Int32))), (0, .ref (be θ + 1)), (1, .int x1)]) rfl ?_
        refine g_goto (tgt := 3) X dX8_add_52 (by decide) ?_
        cases h
        exact g_sub [2, 3, 0] rfl hk
set_option maxHeartbeats 4000000 in
set_option maxRecDepth 20000 in
theorem gl_Tape_add_L3 (X : Cx θ p s m args c cX8_add 4 RX8) (hr : meth.sig.returnType = none) (hlk : meth.locks = false)  {x1 : Int32} {r : Mem}  (n : Nat) (a : Mem × Int32) (b : Mem) (h : loopF (f_Tape_add_L3 x1) n a = some b) (hk : b = r) : GB θ p l e 0 s m args below meth c 4 (none, r) 3 [(0, .ref (be θ + 1)), (1, .int x1), (2, .int a.2)] [] a.1 :=
  loopF_by (P := fun a => GB θ p l e 0 s m args below meth c 4 (none, r) 3 [(0, .ref (be θ + 1)), (1, .int x1), (2, .int a.2)] [] a.1) (K := fun b => b = r) (fun a x h hk => gs_Tape_add_L3 X hr hlk   a x h hk) n a b h hk
set_option maxHeartbeats 4000000 in
set_option maxRecDepth 20000 in
theorem g_Tape_add (X : Cx θ p s m args c cX8_add 4 RX8) (hr : meth.sig.returnType = none) (hlk : meth.locks = false)  {σ : Mem} {x1 : Int32} {r : Mem}  (h : f_Tape_add σ x1 = some r) : GB θ p l e 0 s m args below meth c 4 (none, r) 0 [(0, .ref (be θ + 1)), (1, .int x1)] [] σ := by
  unfold f_Tape_add at h
  refine g_bipush X dX8_add_0 (v := (24 : Int32)) bp_24 ?_
  refine g_istore_n X dX8_add_2 rfl (by decide) (lv' := [(2, .int (24 : Int32)), (0, .ref (be θ + 1)), (1, .int x1)]) rfl ?_
  exact g_sub [1, 2, 0] rfl (gl_Tape_add_L3 X hr hlk    FU _ _ h rfl)
set_option maxHeartbeats 4000000 in
set_option maxRecDepth 20000 in
theorem c_Tape_add {θ : Th} {l : Launch} {σ : Mem} {x1 : Int32} {r : Mem}  (h : f_Tape_add σ x1 = some r) : Cn θ l yX8_add cX8_add 4 (none) 0 0 0 [.ref (be θ + 1), .int x1] σ (none, r) :=
  Cn.of (by decide) (Nat.le_of_ble_eq_true rfl) (fun p e s m below meth c X hr hlk => g_Tape_add X hr hlk  h)
theorem dJ6_bitCount_0f7a4_0 : decode cJ6_bitCount_0f7a4 0 = .ok (.iload_n 0, 1) := by decide +kernel
theorem dJ6_bitCount_0f7a4_1 : decode cJ6_bitCount_0f7a4 1 = .ok (.iload_n 0, 1) := by decide +kernel
theorem dJ6_bitCount_0f7a4_2 : decode cJ6_bitCount_0f7a4 2 = .ok (.iconst 1, 1) := by decide +kernel
theorem dJ6_bitCount_0f7a4_3 : decode cJ6_bitCount_0f7a4 3 = .ok (.iushr, 1) := by decide +kernel
theorem dJ6_bitCount_0f7a4_4 : decode cJ6_bitCount_0f7a4 4 = .ok (.ldc_w 265, 3) := by decide +kernel
theorem dJ6_bitCount_0f7a4_7 : decode cJ6_bitCount_0f7a4 7 = .ok (.iand, 1) := by decide +kernel
theorem dJ6_bitCount_0f7a4_8 : decode cJ6_bitCount_0f7a4 8 = .ok (.isub, 1) := by decide +kernel
theorem dJ6_bitCount_0f7a4_9 : decode cJ6_bitCount_0f7a4 9 = .ok (.istore_n 0, 1) := by decide +kernel
theorem dJ6_bitCount_0f7a4_10 : decode cJ6_bitCount_0f7a4 10 = .ok (.iload_n 0, 1) := by decide +kernel
theorem dJ6_bitCount_0f7a4_11 : decode cJ6_bitCount_0f7a4 11 = .ok (.ldc_w 266, 3) := by decide +kernel
theorem dJ6_bitCount_0f7a4_14 : decode cJ6_bitCount_0f7a4 14 = .ok (.iand, 1) := by decide +kernel
theorem dJ6_bitCount_0f7a4_15 : decode cJ6_bitCount_0f7a4 15 = .ok (.iload_n 0, 1) := by decide +kernel
theorem dJ6_bitCount_0f7a4_16 : decode cJ6_bitCount_0f7a4 16 = .ok (.iconst 2, 1) := by decide +kernel
theorem dJ6_bitCount_0f7a4_17 : decode cJ6_bitCount_0f7a4 17 = .ok (.iushr, 1) := by decide +kernel
theorem dJ6_bitCount_0f7a4_18 : decode cJ6_bitCount_0f7a4 18 = .ok (.ldc_w 266, 3) := by decide +kernel
theorem dJ6_bitCount_0f7a4_21 : decode cJ6_bitCount_0f7a4 21 = .ok (.iand, 1) := by decide +kernel
theorem dJ6_bitCount_0f7a4_22 : decode cJ6_bitCount_0f7a4 22 = .ok (.iadd, 1) := by decide +kernel
theorem dJ6_bitCount_0f7a4_23 : decode cJ6_bitCount_0f7a4 23 = .ok (.istore_n 0, 1) := by decide +kernel
theorem dJ6_bitCount_0f7a4_24 : decode cJ6_bitCount_0f7a4 24 = .ok (.iload_n 0, 1) := by decide +kernel
theorem dJ6_bitCount_0f7a4_25 : decode cJ6_bitCount_0f7a4 25 = .ok (.iload_n 0, 1) := by decide +kernel
theorem dJ6_bitCount_0f7a4_26 : decode cJ6_bitCount_0f7a4 26 = .ok (.iconst 4, 1) := by decide +kernel
theorem dJ6_bitCount_0f7a4_27 : decode cJ6_bitCount_0f7a4 27 = .ok (.iushr, 1) := by decide +kernel
theorem dJ6_bitCount_0f7a4_28 : decode cJ6_bitCount_0f7a4 28 = .ok (.iadd, 1) := by decide +kernel
theorem dJ6_bitCount_0f7a4_29 : decode cJ6_bitCount_0f7a4 29 = .ok (.ldc_w 267, 3) := by decide +kernel
theorem dJ6_bitCount_0f7a4_32 : decode cJ6_bitCount_0f7a4 32 = .ok (.iand, 1) := by decide +kernel
theorem dJ6_bitCount_0f7a4_33 : decode cJ6_bitCount_0f7a4 33 = .ok (.istore_n 0, 1) := by decide +kernel
theorem dJ6_bitCount_0f7a4_34 : decode cJ6_bitCount_0f7a4 34 = .ok (.iload_n 0, 1) := by decide +kernel
theorem dJ6_bitCount_0f7a4_35 : decode cJ6_bitCount_0f7a4 35 = .ok (.iload_n 0, 1) := by decide +kernel
theorem dJ6_bitCount_0f7a4_36 : decode cJ6_bitCount_0f7a4 36 = .ok (.bipush 8, 2) := by decide +kernel
theorem dJ6_bitCount_0f7a4_38 : decode cJ6_bitCount_0f7a4 38 = .ok (.iushr, 1) := by decide +kernel
theorem dJ6_bitCount_0f7a4_39 : decode cJ6_bitCount_0f7a4 39 = .ok (.iadd, 1) := by decide +kernel
theorem dJ6_bitCount_0f7a4_40 : decode cJ6_bitCount_0f7a4 40 = .ok (.istore_n 0, 1) := by decide +kernel
theorem dJ6_bitCount_0f7a4_41 : decode cJ6_bitCount_0f7a4 41 = .ok (.iload_n 0, 1) := by decide +kernel
theorem dJ6_bitCount_0f7a4_42 : decode cJ6_bitCount_0f7a4 42 = .ok (.iload_n 0, 1) := by decide +kernel
theorem dJ6_bitCount_0f7a4_43 : decode cJ6_bitCount_0f7a4 43 = .ok (.bipush 16, 2) := by decide +kernel
theorem dJ6_bitCount_0f7a4_45 : decode cJ6_bitCount_0f7a4 45 = .ok (.iushr, 1) := by decide +kernel
theorem dJ6_bitCount_0f7a4_46 : decode cJ6_bitCount_0f7a4 46 = .ok (.iadd, 1) := by decide +kernel
theorem dJ6_bitCount_0f7a4_47 : decode cJ6_bitCount_0f7a4 47 = .ok (.istore_n 0, 1) := by decide +kernel
theorem dJ6_bitCount_0f7a4_48 : decode cJ6_bitCount_0f7a4 48 = .ok (.iload_n 0, 1) := by decide +kernel
theorem dJ6_bitCount_0f7a4_49 : decode cJ6_bitCount_0f7a4 49 = .ok (.bipush 63, 2) := by decide +kernel
theorem dJ6_bitCount_0f7a4_51 : decode cJ6_bitCount_0f7a4 51 = .ok (.iand, 1) := by decide +kernel
theorem dJ6_bitCount_0f7a4_52 : decode cJ6_bitCount_0f7a4 52 = .ok (.ireturn, 1) := by decide +kernel
def f_Integer_bitCount (σ : Mem) (x0 : Int32) : Option (Int32) :=
  some ((((((((x0 - ((iush x0 (1 : Int32)) &&& (1431655765 : Int32))) &&& (858993459 : Int32)) + ((iush (x0 - ((iush x0 (1 : Int32)) &&& (1431655765 : Int32))) (2 : Int32)) &&& (858993459 : Int32))) + (iush (((x0 - ((iush x0 (1 : Int32)) &&& (1431655765 : Int32))) &&& (858993459 : Int32)) + ((iush (x0 - ((iush x0 (1 : Int32)) &&& (1431655765 : Int32))) (2 : Int32)) &&& (858993459 : Int32))) (4 : Int32))) &&& (252645135 : Int32)) + (iush (((((x0 - ((iush x0 (1 : Int32)) &&& (1431655765 : Int32))) &&& (858993459 : Int32)) + ((iush (x0 - ((iush x0 (1 : Int32)) &&& (1431655765 : Int32))) (2 : Int32)) &&& (858993459 : Int32))) + (iush (((x0 - ((iush x0 (1 : Int32)) &&& (1431655765 : Int32))) &&& (858993459 : Int32)) + ((iush (x0 - ((iush x0 (1 : Int32)) &&& (1431655765 : Int32))) (2 : Int32)) &&& (858993459 : Int32))) (4 : Int32))) &&& (252645135 : Int32)) (8 : Int32))) + (iush ((((((x0 - ((iush x0 (1 : Int32)) &&& (1431655765 : Int32))) &&& (858993459 : Int32)) + ((iush (x0 - ((iush x0 (1 : Int32)) &&& (1431655765 : Int32))) (2 : Int32)) &&& (858993459 : Int32))) + (iush (((x0 - ((iush x0 (1 : Int32)) &&& (1431655765 : Int32))) &&& (858993459 : Int32)) + ((iush (x0 - ((iush x0 (1 : Int32)) &&& (1431655765 : Int32))) (2 : Int32)) &&& (858993459 : Int32))) (4 : Int32))) &&& (252645135 : Int32)) + (iush (((((x0 - ((iush x0 (1 : Int32)) &&& (1431655765 : Int32))) &&& (858993459 : Int32)) + ((iush (x0 - ((iush x0 (1 : Int32)) &&& (1431655765 : Int32))) (2 : Int32)) &&& (858993459 : Int32))) + (iush (((x0 - ((iush x0 (1 : Int32)) &&& (1431655765 : Int32))) &&& (858993459 : Int32)) + ((iush (x0 - ((iush x0 (1 : Int32)) &&& (1431655765 : Int32))) (2 : Int32)) &&& (858993459 : Int32))) (4 : Int32))) &&& (252645135 : Int32)) (8 : Int32))) (16 : Int32))) &&& (63 : Int32))
set_option maxHeartbeats 4000000 in
set_option maxRecDepth 20000 in
theorem g_Integer_bitCount (X : Cx θ p s m args c cJ6_bitCount_0f7a4 1 RJ6) (hr : meth.sig.returnType = some .int) (hlk : meth.locks = false)  {σ : Mem} {x0 : Int32} {r : Int32}  (h : f_Integer_bitCount σ x0 = some r) : GB θ p l e 0 s m args below meth c 1 (some (.int r), σ) 0 [(0, .int x0)] [] σ := by
  unfold f_Integer_bitCount at h
  refine g_iload_n X dJ6_bitCount_0f7a4_0 rfl 0 rfl ?_
  refine g_iload_n X dJ6_bitCount_0f7a4_1 rfl 0 rfl ?_
  refine g_iconst X dJ6_bitCount_0f7a4_2 (v := (1 : Int32)) ic_1 ?_
  refine g_iushr X dJ6_bitCount_0f7a4_3 (v := (iush x0 (1 : Int32))) rfl ?_
  refine g_ldcw X cst_RJ6_265 dJ6_bitCount_0f7a4_4 ?_
  refine g_iand X dJ6_bitCount_0f7a4_7 ?_
  refine g_isub X dJ6_bitCount_0f7a4_8 ?_
  refine g_istore_n X dJ6_bitCount_0f7a4_9 rfl (by decide) (lv' := [(0, .int (x0 - ((iush x0 (1 : Int32)) &&& (1431655765 : Int32))))]) rfl ?_
  refine g_iload_n X dJ6_bitCount_0f7a4_10 rfl 0 rfl ?_
  refine g_ldcw X cst_RJ6_266 dJ6_bitCount_0f7a4_11 ?_
  refine g_iand X dJ6_bitCount_0f7a4_14 ?_
  refine g_iload_n X dJ6_bitCount_0f7a4_15 rfl 0 rfl ?_
  refine g_iconst X dJ6_bitCount_0f7a4_16 (v := (2 : Int32)) ic_2 ?_
  refine g_iushr X dJ6_bitCount_0f7a4_17 (v := (iush (x0 - ((iush x0 (1 : Int32)) &&& (1431655765 : Int32))) (2 : Int32))) rfl ?_
  refine g_ldcw X cst_RJ6_266 dJ6_bitCount_0f7a4_18 ?_
  refine g_iand X dJ6_bitCount_0f7a4_21 ?_
  refine g_iadd X dJ6_bitCount_0f7a4_22 ?_
  refine g_istore_n X dJ6_bitCount_0f7a4_23 rfl (by decide) (lv' := [(0, .int (((x0 - ((iush x0 (1 : Int32)) &&& (1431655765 : Int32))) &&& (858993459 : Int32)) + ((iush (x0 - ((iush x0 (1 : Int32)) &&& (1431655765 : Int32))) (2 : Int32)) &&& (858993459 : Int32))))]) rfl ?_
  refine g_iload_n X dJ6_bitCount_0f7a4_24 rfl 0 rfl ?_
  refine g_iload_n X dJ6_bitCount_0f7a4_25 rfl 0 rfl ?_
  refine g_iconst X dJ6_bitCount_0f7a4_26 (v := (4 : Int32)) ic_4 ?_
  refine g_iushr X dJ6_bitCount_0f7a4_27 (v := (iush (((x0 - ((iush x0 (1 : Int32)) &&& (1431655765 : Int32))) &&& (858993459 : Int32)) + ((iush (x0 - ((iush x0 (1 : Int32)) &&& (1431655765 : Int32))) (2 : Int32)) &&& (858993459 : Int32))) (4 : Int32))) rfl ?_
  refine g_iadd X dJ6_bitCount_0f7a4_28 ?_
  refine g_ldcw X cst_RJ6_267 dJ6_bitCount_0f7a4_29 ?_
  refine g_iand X dJ6_bitCount_0f7a4_32 ?_
  refine g_istore_n X dJ6_bitCount_0f7a4_33 rfl (by decide) (lv' := [(0, .int (((((x0 - ((iush x0 (1 : Int32)) &&& (1431655765 : Int32))) &&& (858993459 : Int32)) + ((iush (x0 - ((iush x0 (1 : Int32)) &&& (1431655765 : Int32))) (2 : Int32)) &&& (858993459 : Int32))) + (iush (((x0 - ((iush x0 (1 : Int32)) &&& (1431655765 : Int32))) &&& (858993459 : Int32)) + ((iush (x0 - ((iush x0 (1 : Int32)) &&& (1431655765 : Int32))) (2 : Int32)) &&& (858993459 : Int32))) (4 : Int32))) &&& (252645135 : Int32)))]) rfl ?_
  refine g_iload_n X dJ6_bitCount_0f7a4_34 rfl 0 rfl ?_
  refine g_iload_n X dJ6_bitCount_0f7a4_35 rfl 0 rfl ?_
  refine g_bipush X dJ6_bitCount_0f7a4_36 (v := (8 : Int32)) bp_8 ?_
  refine g_iushr X dJ6_bitCount_0f7a4_38 (v := (iush (((((x0 - ((iush x0 (1 : Int32)) &&& (1431655765 : Int32))) &&& (858993459 : Int32)) + ((iush (x0 - ((iush x0 (1 : Int32)) &&& (1431655765 : Int32))) (2 : Int32)) &&& (858993459 : Int32))) + (iush (((x0 - ((iush x0 (1 : Int32)) &&& (1431655765 : Int32))) &&& (858993459 : Int32)) + ((iush (x0 - ((iush x0 (1 : Int32)) &&& (1431655765 : Int32))) (2 : Int32)) &&& (858993459 : Int32))) (4 : Int32))) &&& (252645135 : Int32)) (8 : Int32))) rfl ?_
  refine g_iadd X dJ6_bitCount_0f7a4_39 ?_
  refine g_istore_n X dJ6_bitCount_0f7a4_40 rfl (by decide) (lv' := [(0, .int ((((((x0 - ((iush x0 (1 : Int32)) &&& (1431655765 : Int32))) &&& (858993459 : Int32)) + ((iush (x0 - ((iush x0 (1 : Int32)) &&& (1431655765 : Int32))) (2 : Int32)) &&& (858993459 : Int32))) + (iush (((x0 - ((iush x0 (1 : Int32)) &&& (1431655765 : Int32))) &&& (858993459 : Int32)) + ((iush (x0 - ((iush x0 (1 : Int32)) &&& (1431655765 : Int32))) (2 : Int32)) &&& (858993459 : Int32))) (4 : Int32))) &&& (252645135 : Int32)) + (iush (((((x0 - ((iush x0 (1 : Int32)) &&& (1431655765 : Int32))) &&& (858993459 : Int32)) + ((iush (x0 - ((iush x0 (1 : Int32)) &&& (1431655765 : Int32))) (2 : Int32)) &&& (858993459 : Int32))) + (iush (((x0 - ((iush x0 (1 : Int32)) &&& (1431655765 : Int32))) &&& (858993459 : Int32)) + ((iush (x0 - ((iush x0 (1 : Int32)) &&& (1431655765 : Int32))) (2 : Int32)) &&& (858993459 : Int32))) (4 : Int32))) &&& (252645135 : Int32)) (8 : Int32))))]) rfl ?_
  refine g_iload_n X dJ6_bitCount_0f7a4_41 rfl 0 rfl ?_
  refine g_iload_n X dJ6_bitCount_0f7a4_42 rfl 0 rfl ?_
  refine g_bipush X dJ6_bitCount_0f7a4_43 (v := (16 : Int32)) bp_16 ?_
  refine g_iushr X dJ6_bitCount_0f7a4_45 (v := (iush ((((((x0 - ((iush x0 (1 : Int32)) &&& (1431655765 : Int32))) &&& (858993459 : Int32)) + ((iush (x0 - ((iush x0 (1 : Int32)) &&& (1431655765 : Int32))) (2 : Int32)) &&& (858993459 : Int32))) + (iush (((x0 - ((iush x0 (1 : Int32)) &&& (1431655765 : Int32))) &&& (858993459 : Int32)) + ((iush (x0 - ((iush x0 (1 : Int32)) &&& (1431655765 : Int32))) (2 : Int32)) &&& (858993459 : Int32))) (4 : Int32))) &&& (252645135 : Int32)) + (iush (((((x0 - ((iush x0 (1 : Int32)) &&& (1431655765 : Int32))) &&& (858993459 : Int32)) + ((iush (x0 - ((iush x0 (1 : Int32)) &&& (1431655765 : Int32))) (2 : Int32)) &&& (858993459 : Int32))) + (iush (((x0 - ((iush x0 (1 : Int32)) &&& (1431655765 : Int32))) &&& (858993459 : Int32)) + ((iush (x0 - ((iush x0 (1 : Int32)) &&& (1431655765 : Int32))) (2 : Int32)) &&& (858993459 : Int32))) (4 : Int32))) &&& (252645135 : Int32)) (8 : Int32))) (16 : Int32))) rfl ?_
  refine g_iadd X dJ6_bitCount_0f7a4_46 ?_
  refine g_istore_n X dJ6_bitCount_0f7a4_47 rfl (by decide) (lv' := [(0, .int (((((((x0 - ((iush x0 (1 : Int32)) &&& (1431655765 : Int32))) &&& (858993459 : Int32)) + ((iush (x0 - ((iush x0 (1 : Int32)) &&& (1431655765 : Int32))) (2 : Int32)) &&& (858993459 : Int32))) + (iush (((x0 - ((iush x0 (1 : Int32)) &&& (1431655765 : Int32))) &&& (858993459 : Int32)) + ((iush (x0 - ((iush x0 (1 : Int32)) &&& (1431655765 : Int32))) (2 : Int32)) &&& (858993459 : Int32))) (4 : Int32))) &&& (252645135 : Int32)) + (iush (((((x0 - ((iush x0 (1 : Int32)) &&& (1431655765 : Int32))) &&& (858993459 : Int32)) + ((iush (x0 - ((iush x0 (1 : Int32)) &&& (1431655765 : Int32))) (2 : Int32)) &&& (858993459 : Int32))) + (iush (((x0 - ((iush x0 (1 : Int32)) &&& (1431655765 : Int32))) &&& (858993459 : Int32)) + ((iush (x0 - ((iush x0 (1 : Int32)) &&& (1431655765 : Int32))) (2 : Int32)) &&& (858993459 : Int32))) (4 : Int32))) &&& (252645135 : Int32)) (8 : Int32))) + (iush ((((((x0 - ((iush x0 (1 : Int32)) &&& (1431655765 : Int32))) &&& (858993459 : Int32)) + ((iush (x0 - ((iush x0 (1 : Int32)) &&& (1431655765 : Int32))) (2 : Int32)) &&& (858993459 : Int32))) + (iush (((x0 - ((iush x0 (1 : Int32)) &&& (1431655765 : Int32))) &&& (858993459 : Int32)) + ((iush (x0 - ((iush x0 (1 : Int32)) &&& (1431655765 : Int32))) (2 : Int32)) &&& (858993459 : Int32))) (4 : Int32))) &&& (252645135 : Int32)) + (iush (((((x0 - ((iush x0 (1 : Int32)) &&& (1431655765 : Int32))) &&& (858993459 : Int32)) + ((iush (x0 - ((iush x0 (1 : Int32)) &&& (1431655765 : Int32))) (2 : Int32)) &&& (858993459 : Int32))) + (iush (((x0 - ((iush x0 (1 : Int32)) &&& (1431655765 : Int32))) &&& (858993459 : Int32)) + ((iush (x0 - ((iush x0 (1 : Int32)) &&& (1431655765 : Int32))) (2 : Int32)) &&& (858993459 : Int32))) (4 : Int32))) &&& (252645135 : Int32)) (8 : Int32))) (16 : Int32))))]) rfl ?_
  refine g_iload_n X dJ6_bitCount_0f7a4_48 rfl 0 rfl ?_
  refine g_bipush X dJ6_bitCount_0f7a4_49 (v := (63 : Int32)) bp_63 ?_
  refine g_iand X dJ6_bitCount_0f7a4_51 ?_
  exact g_iret X hr hlk dJ6_bitCount_0f7a4_52 (by cases h; rfl)
set_option maxHeartbeats 4000000 in
set_option maxRecDepth 20000 in
theorem c_Integer_bitCount {θ : Th} {l : Launch} {σ : Mem} {x0 : Int32} {r : Int32}  (h : f_Integer_bitCount σ x0 = some r) : Cn θ l yJ6_bitCount_0f7a4 cJ6_bitCount_0f7a4 1 (some .int) 0 0 0 [.int x0] σ (some (.int r), σ) :=
  Cn.of (by decide) (Nat.le_of_ble_eq_true rfl) (fun p e s m below meth c X hr hlk => g_Integer_bitCount X hr hlk  h)
end Z8
