section Z18
variable {θ : Th} {p : Program} {l : Launch} {e : Env} {s : State} {m : MethodId} {args : Array Value} {below : List Frame} {meth : Method} {c : Code}
theorem dX11_image_0 : decode cX11_image 0 = .ok (.aload_n 0, 1) := by decide +kernel
theorem dX11_image_1 : decode cX11_image 1 = .ok (.iconst 0, 1) := by decide +kernel
theorem dX11_image_2 : decode cX11_image 2 = .ok (.putfield 112, 3) := by decide +kernel
theorem dX11_image_5 : decode cX11_image 5 = .ok (.aload_n 0, 1) := by decide +kernel
theorem dX11_image_6 : decode cX11_image 6 = .ok (.getfield 310, 3) := by decide +kernel
theorem dX11_image_9 : decode cX11_image 9 = .ok (.ifCond .ne 5, 3) := by decide +kernel
theorem dX11_image_12 : decode cX11_image 12 = .ok (.iconst (-1), 1) := by decide +kernel
theorem dX11_image_13 : decode cX11_image 13 = .ok (.ireturn, 1) := by decide +kernel
theorem dX11_image_14 : decode cX11_image 14 = .ok (.iconst 0, 1) := by decide +kernel
theorem dX11_image_15 : decode cX11_image 15 = .ok (.istore_n 1, 1) := by decide +kernel
theorem dX11_image_16 : decode cX11_image 16 = .ok (.iload_n 1, 1) := by decide +kernel
theorem dX11_image_17 : decode cX11_image 17 = .ok (.sipush 312, 3) := by decide +kernel
theorem dX11_image_20 : decode cX11_image 20 = .ok (.if_icmp .ge 21, 3) := by decide +kernel
theorem dX11_image_23 : decode cX11_image 23 = .ok (.aload_n 0, 1) := by decide +kernel
theorem dX11_image_24 : decode cX11_image 24 = .ok (.getfield 109, 3) := by decide +kernel
theorem dX11_image_27 : decode cX11_image 27 = .ok (.iload_n 1, 1) := by decide +kernel
theorem dX11_image_28 : decode cX11_image 28 = .ok (.aload_n 0, 1) := by decide +kernel
theorem dX11_image_29 : decode cX11_image 29 = .ok (.getfield 61, 3) := by decide +kernel
theorem dX11_image_32 : decode cX11_image 32 = .ok (.iload_n 1, 1) := by decide +kernel
theorem dX11_image_33 : decode cX11_image 33 = .ok (.iaload, 1) := by decide +kernel
theorem dX11_image_34 : decode cX11_image 34 = .ok (.iastore, 1) := by decide +kernel
theorem dX11_image_35 : decode cX11_image 35 = .ok (.iinc 1 1, 3) := by decide +kernel
theorem dX11_image_38 : decode cX11_image 38 = .ok (.goto (-22), 3) := by decide +kernel
theorem dX11_image_41 : decode cX11_image 41 = .ok (.aload_n 0, 1) := by decide +kernel
theorem dX11_image_42 : decode cX11_image 42 = .ok (.iconst 1, 1) := by decide +kernel
theorem dX11_image_43 : decode cX11_image 43 = .ok (.putfield 323, 3) := by decide +kernel
theorem dX11_image_46 : decode cX11_image 46 = .ok (.aload_n 0, 1) := by decide +kernel
theorem dX11_image_47 : decode cX11_image 47 = .ok (.getfield 61, 3) := by decide +kernel
theorem dX11_image_50 : decode cX11_image 50 = .ok (.sipush 130, 3) := by decide +kernel
theorem dX11_image_53 : decode cX11_image 53 = .ok (.iaload, 1) := by decide +kernel
theorem dX11_image_54 : decode cX11_image 54 = .ok (.ireturn, 1) := by decide +kernel
def f_Model_image_L16  (a : Mem × Int32) : Option ((Mem × Int32) ⊕ (Int32 × Mem)) :=
  if (312 : Int32) ≤ a.2 then
    if inb (130 : Int32) 312 then
      some (.inr ((mI (sI a.1 565 56 (1 : Int32)) 578 (130 : Int32).toNatClampNeg), (sI a.1 565 56 (1 : Int32))))
    else none
  else
    if inb a.2 312 then
      if inb a.2 312 then
        some (.inl ((sI a.1 589 a.2.toNatClampNeg (mI a.1 578 a.2.toNatClampNeg)), (a.2 + (1 : Int32))))
      else none
    else none
def f_Model_image (σ : Mem)  : Option (Int32 × Mem) :=
  if (mI (sI σ 565 0 (0 : Int32)) 565 27) = (0 : Int32) then
    some ((-1 : Int32), (sI σ 565 0 (0 : Int32)))
  else
    loopF (f_Model_image_L16 ) FU ((sI σ 565 0 (0 : Int32)), (0 : Int32))
set_option maxHeartbeats 4000000 in
set_option maxRecDepth 20000 in
theorem gs_Model_image_L16 (X : Cx θ p s m args c cX11_image 2 RX11) (hr : meth.sig.returnType = some .int) (hlk : meth.locks = false)   {r : Int32 × Mem}  (a : Mem × Int32) (x : (Mem × Int32) ⊕ (Int32 × Mem)) (h : f_Model_image_L16  a = some x) (hk : Sum.elim (fun a => GB θ p l e 0 s m args below meth c 2 (some (.int r.1), r.2) 16 [(0, .ref (be θ + 565)), (1, .int a.2)] [] a.1) (fun b => b = r) x) : GB θ p l e 0 s m args below meth c 2 (some (.int r.1), r.2) 16 [(0, .ref (be θ + 565)), (1, .int a.2)] [] a.1 := by
  unfold f_Model_image_L16 at h
  refine g_iload_n X dX11_image_16 rfl 1 rfl ?_
  refine g_sipush X dX11_image_17 (v := (312 : Int32)) sp_312 ?_
  refine g_icmp_ge (tgt := 41) X dX11_image_20 (by decide) (fun c2 => ?_) (fun c2 => ?_)
  · replace h := (if_pos c2).symm.trans h
    refine g_aload_n X dX11_image_41 rfl 0 rfl ?_
    refine g_iconst X dX11_image_42 (v := (1 : Int32)) ic_1 ?_
    refine g_putZ X fl_RX11_323 dX11_image_43 kd_565 rfl rfl rfl bz1 ?_
    refine g_aload_n X dX11_image_46 rfl 0 rfl ?_
    refine g_get X fl_RX11_61 dX11_image_47 kd_565 (v := .ref (be θ + 578)) rfl ?_
    refine g_sipush X dX11_image_50 (v := (130 : Int32)) sp_130 ?_
    obtain ⟨g3, h⟩ := ite_some h
    refine g_iald X kd_578 ln_578 (inb_in g3) dX11_image_53 ?_
    cases h
    have hk : ((mI (sI a.1 565 56 (1 : Int32)) 578 (130 : Int32).toNatClampNeg), (sI a.1 565 56 (1 : Int32))) = r := hk
    subst hk
    exact g_iret X hr hlk dX11_image_54 rfl
  · replace h := (if_neg c2).symm.trans h
    refine g_aload_n X dX11_image_23 rfl 0 rfl ?_
    refine g_get X fl_RX11_109 dX11_image_24 kd_565 (v := .ref (be θ + 589)) rfl ?_
    refine g_iload_n X dX11_image_27 rfl 1 rfl ?_
    refine g_aload_n X dX11_image_28 rfl 0 rfl ?_
    refine g_get X fl_RX11_61 dX11_image_29 kd_565 (v := .ref (be θ + 578)) rfl ?_
    refine g_iload_n X dX11_image_32 rfl 1 rfl ?_
    obtain ⟨g4, h⟩ := ite_some h
    refine g_iald X kd_578 ln_578 (inb_in g4) dX11_image_33 ?_
    obtain ⟨g5, h⟩ := ite_some h
    refine g_iast X kd_589 ln_589 (inb_in g5) dX11_image_34 ?_
    refine g_iinc X dX11_image_35 (kq := 1) rfl (congrArg (HAdd.hAdd _) ic_1) (by decide) (lv' := [(1, .int (a.2 + (1 : Int32))), (0, .ref (be θ + 565))]) rfl ?_
    refine g_goto (tgt := 16) X dX11_image_38 (by decide) ?_
    cases h
    exact g_sub [1, 0] rfl hk
set_option maxHeartbeats 4000000 in
set_option maxRecDepth 20000 in
theorem gl_Model_image_L16 (X : Cx θ p s m args c cX11_image 2 RX11) (hr : meth.sig.returnType = some .int) (hlk : meth.locks = false)   {r : Int32 × Mem}  (n : Nat) (a : Mem × Int32) (b : Int32 × Mem) (h : loopF (f_Model_image_L16 ) n a = some b) (hk : b = r) : GB θ p l e 0 s m args below meth c 2 (some (.int r.1), r.2) 16 [(0, .ref (be θ + 565)), (1, .int a.2)] [] a.1 :=
  loopF_by (P := fun a => GB θ p l e 0 s m args below meth c 2 (some (.int r.1), r.2) 16 [(0, .ref (be θ + 565)), (1, .int a.2)] [] a.1) (K := fun b => b = r) (fun a x h hk => gs_Model_image_L16 X hr hlk   a x h hk) n a b h hk
set_option maxHeartbeats 4000000 in
set_option maxRecDepth 20000 in
theorem g_Model_image (X : Cx θ p s m args c cX11_image 2 RX11) (hr : meth.sig.returnType = some .int) (hlk : meth.locks = false)  {σ : Mem}  {r : Int32 × Mem}  (h : f_Model_image σ  = some r) : GB θ p l e 0 s m args below meth c 2 (some (.int r.1), r.2) 0 [(0, .ref (be θ + 565))] [] σ := by
  unfold f_Model_image at h
  refine g_aload_n X dX11_image_0 rfl 0 rfl ?_
  refine g_iconst X dX11_image_1 (v := (0 : Int32)) ic_0 ?_
  refine g_putI X fl_RX11_112 dX11_image_2 kd_565 rfl rfl rfl ?_
  refine g_aload_n X dX11_image_5 rfl 0 rfl ?_
  refine g_get X fl_RX11_310 dX11_image_6 kd_565 (v := .int (mI (sI σ 565 0 (0 : Int32)) 565 27)) rfl ?_
  refine g_if_ne (tgt := 14) X dX11_image_9 (by decide) (fun c1 => ?_) (fun c1 => ?_)
  · replace h := (if_neg c1).symm.trans h
    refine g_iconst X dX11_image_14 (v := (0 : Int32)) ic_0 ?_
    refine g_istore_n X dX11_image_15 rfl (by decide) (lv' := [(1, .int (0 : Int32)), (0, .ref (be θ + 565))]) rfl ?_
    exact g_sub [1, 0] rfl (gl_Model_image_L16 X hr hlk    FU _ _ h rfl)
  · replace h := (if_pos c1).symm.trans h
    refine g_iconst X dX11_image_12 (v := (-1 : Int32)) ic_m1 ?_
    exact g_iret X hr hlk dX11_image_13 (by cases h; rfl)
set_option maxHeartbeats 4000000 in
set_option maxRecDepth 20000 in
theorem c_Model_image {θ : Th} {l : Launch} {σ : Mem}  {r : Int32 × Mem}  (h : f_Model_image σ  = some r) : Cn θ l yX11_image cX11_image 2 (some .int) 0 0 0 [.ref (be θ + 565)] σ (some (.int r.1), r.2) :=
  Cn.of (by decide) (Nat.le_of_ble_eq_true rfl) (fun p e s m below meth c X hr hlk => g_Model_image X hr hlk  h)
theorem dX11_back_0 : decode cX11_back 0 = .ok (.aload_n 0, 1) := by decide +kernel
theorem dX11_back_1 : decode cX11_back 1 = .ok (.iconst 0, 1) := by decide +kernel
theorem dX11_back_2 : decode cX11_back 2 = .ok (.putfield 112, 3) := by decide +kernel
theorem dX11_back_5 : decode cX11_back 5 = .ok (.aload_n 0, 1) := by decide +kernel
theorem dX11_back_6 : decode cX11_back 6 = .ok (.getfield 323, 3) := by decide +kernel
theorem dX11_back_9 : decode cX11_back 9 = .ok (.ifCond .ne 5, 3) := by decide +kernel
theorem dX11_back_12 : decode cX11_back 12 = .ok (.iconst (-1), 1) := by decide +kernel
theorem dX11_back_13 : decode cX11_back 13 = .ok (.ireturn, 1) := by decide +kernel
theorem dX11_back_14 : decode cX11_back 14 = .ok (.iconst 0, 1) := by decide +kernel
theorem dX11_back_15 : decode cX11_back 15 = .ok (.istore_n 1, 1) := by decide +kernel
theorem dX11_back_16 : decode cX11_back 16 = .ok (.iload_n 1, 1) := by decide +kernel
theorem dX11_back_17 : decode cX11_back 17 = .ok (.sipush 312, 3) := by decide +kernel
theorem dX11_back_20 : decode cX11_back 20 = .ok (.if_icmp .ge 21, 3) := by decide +kernel
theorem dX11_back_23 : decode cX11_back 23 = .ok (.aload_n 0, 1) := by decide +kernel
theorem dX11_back_24 : decode cX11_back 24 = .ok (.getfield 61, 3) := by decide +kernel
theorem dX11_back_27 : decode cX11_back 27 = .ok (.iload_n 1, 1) := by decide +kernel
theorem dX11_back_28 : decode cX11_back 28 = .ok (.aload_n 0, 1) := by decide +kernel
theorem dX11_back_29 : decode cX11_back 29 = .ok (.getfield 109, 3) := by decide +kernel
theorem dX11_back_32 : decode cX11_back 32 = .ok (.iload_n 1, 1) := by decide +kernel
theorem dX11_back_33 : decode cX11_back 33 = .ok (.iaload, 1) := by decide +kernel
theorem dX11_back_34 : decode cX11_back 34 = .ok (.iastore, 1) := by decide +kernel
theorem dX11_back_35 : decode cX11_back 35 = .ok (.iinc 1 1, 3) := by decide +kernel
theorem dX11_back_38 : decode cX11_back 38 = .ok (.goto (-22), 3) := by decide +kernel
theorem dX11_back_41 : decode cX11_back 41 = .ok (.aload_n 0, 1) := by decide +kernel
theorem dX11_back_42 : decode cX11_back 42 = .ok (.iconst 0, 1) := by decide +kernel
theorem dX11_back_43 : decode cX11_back 43 = .ok (.putfield 320, 3) := by decide +kernel
theorem dX11_back_46 : decode cX11_back 46 = .ok (.aload_n 0, 1) := by decide +kernel
theorem dX11_back_47 : decode cX11_back 47 = .ok (.getfield 61, 3) := by decide +kernel
theorem dX11_back_50 : decode cX11_back 50 = .ok (.sipush 130, 3) := by decide +kernel
theorem dX11_back_53 : decode cX11_back 53 = .ok (.iaload, 1) := by decide +kernel
theorem dX11_back_54 : decode cX11_back 54 = .ok (.ireturn, 1) := by decide +kernel
def f_Model_back_L16  (a : Mem × Int32) : Option ((Mem × Int32) ⊕ (Int32 × Mem)) :=
  if (312 : Int32) ≤ a.2 then
    if inb (130 : Int32) 312 then
      some (.inr ((mI (sI a.1 565 44 (0 : Int32)) 578 (130 : Int32).toNatClampNeg), (sI a.1 565 44 (0 : Int32))))
    else none
  else
    if inb a.2 312 then
      if inb a.2 312 then
        some (.inl ((sI a.1 578 a.2.toNatClampNeg (mI a.1 589 a.2.toNatClampNeg)), (a.2 + (1 : Int32))))
      else none
    else none
def f_Model_back (σ : Mem)  : Option (Int32 × Mem) :=
  if (mI (sI σ 565 0 (0 : Int32)) 565 56) = (0 : Int32) then
    some ((-1 : Int32), (sI σ 565 0 (0 : Int32)))
  else
    loopF (f_Model_back_L16 ) FU ((sI σ 565 0 (0 : Int32)), (0 : Int32))
set_option maxHeartbeats 4000000 in
set_option maxRecDepth 20000 in
theorem gs_Model_back_L16 (X : Cx θ p s m args c cX11_back 2 RX11) (hr : meth.sig.returnType = some .int) (hlk : meth.locks = false)   {r : Int32 × Mem}  (a : Mem × Int32) (x : (Mem × Int32) ⊕ (Int32 × Mem)) (h : f_Model_back_L16  a = some x) (hk : Sum.elim (fun a => GB θ p l e 0 s m args below meth c 2 (some (.int r.1), r.2) 16 [(0, .ref (be θ + 565)), (1, .int a.2)] [] a.1) (fun b => b = r) x) : GB θ p l e 0 s m args below meth c 2 (some (.int r.1), r.2) 16 [(0, .ref (be θ + 565)), (1, .int a.2)] [] a.1 := by
  unfold f_Model_back_L16 at h
  refine g_iload_n X dX11_back_16 rfl 1 rfl ?_
  refine g_sipush X dX11_back_17 (v := (312 : Int32)) sp_312 ?_
  refine g_icmp_ge (tgt := 41) X dX11_back_20 (by decide) (fun c2 => ?_) (fun c2 => ?_)
  · replace h := (if_pos c2).symm.trans h
    refine g_aload_n X dX11_back_41 rfl 0 rfl ?_
    refine g_iconst X dX11_back_42 (v := (0 : Int32)) ic_0 ?_
    refine g_putI X fl_RX11_320 dX11_back_43 kd_565 rfl rfl rfl ?_
    refine g_aload_n X dX11_back_46 rfl 0 rfl ?_
    refine g_get X fl_RX11_61 dX11_back_47 kd_565 (v := .ref (be θ + 578)) rfl ?_
    refine g_sipush X dX11_back_50 (v := (130 : Int32)) sp_130 ?_
    obtain ⟨g3, h⟩ := ite_some h
    refine g_iald X kd_578 ln_578 (inb_in g3) dX11_back_53 ?_
    cases h
    have hk : ((mI (sI a.1 565 44 (0 : Int32)) 578 (130 : Int32).toNatClampNeg), (sI a.1 565 44 (0 : Int32))) = r := hk
    subst hk
    exact g_iret X hr hlk dX11_back_54 rfl
  · replace h := (if_neg c2).symm.trans h
    refine g_aload_n X dX11_back_23 rfl 0 rfl ?_
    refine g_get X fl_RX11_61 dX11_back_24 kd_565 (v := .ref (be θ + 578)) rfl ?_
    refine g_iload_n X dX11_back_27 rfl 1 rfl ?_
    refine g_aload_n X dX11_back_28 rfl 0 rfl ?_
    refine g_get X fl_RX11_109 dX11_back_29 kd_565 (v := .ref (be θ + 589)) rfl ?_
    refine g_iload_n X dX11_back_32 rfl 1 rfl ?_
    obtain ⟨g4, h⟩ := ite_some h
    refine g_iald X kd_589 ln_589 (inb_in g4) dX11_back_33 ?_
    obtain ⟨g5, h⟩ := ite_some h
    refine g_iast X kd_578 ln_578 (inb_in g5) dX11_back_34 ?_
    refine g_iinc X dX11_back_35 (kq := 1) rfl (congrArg (HAdd.hAdd _) ic_1) (by decide) (lv' := [(1, .int (a.2 + (1 : Int32))), (0, .ref (be θ + 565))]) rfl ?_
    refine g_goto (tgt := 16) X dX11_back_38 (by decide) ?_
    cases h
    exact g_sub [1, 0] rfl hk
set_option maxHeartbeats 4000000 in
set_option maxRecDepth 20000 in
theorem gl_Model_back_L16 (X : Cx θ p s m args c cX11_back 2 RX11) (hr : meth.sig.returnType = some .int) (hlk : meth.locks = false)   {r : Int32 × Mem}  (n : Nat) (a : Mem × Int32) (b : Int32 × Mem) (h : loopF (f_Model_back_L16 ) n a = some b) (hk : b = r) : GB θ p l e 0 s m args below meth c 2 (some (.int r.1), r.2) 16 [(0, .ref (be θ + 565)), (1, .int a.2)] [] a.1 :=
  loopF_by (P := fun a => GB θ p l e 0 s m args below meth c 2 (some (.int r.1), r.2) 16 [(0, .ref (be θ + 565)), (1, .int a.2)] [] a.1) (K := fun b => b = r) (fun a x h hk => gs_Model_back_L16 X hr hlk   a x h hk) n a b h hk
set_option maxHeartbeats 4000000 in
set_option maxRecDepth 20000 in
theorem g_Model_back (X : Cx θ p s m args c cX11_back 2 RX11) (hr : meth.sig.returnType = some .int) (hlk : meth.locks = false)  {σ : Mem}  {r : Int32 × Mem}  (h : f_Model_back σ  = some r) : GB θ p l e 0 s m args below meth c 2 (some (.int r.1), r.2) 0 [(0, .ref (be θ + 565))] [] σ := by
  unfold f_Model_back at h
  refine g_aload_n X dX11_back_0 rfl 0 rfl ?_
  refine g_iconst X dX11_back_1 (v := (0 : Int32)) ic_0 ?_
  refine g_putI X fl_RX11_112 dX11_back_2 kd_565 rfl rfl rfl ?_
  refine g_aload_n X dX11_back_5 rfl 0 rfl ?_
  refine g_get X fl_RX11_323 dX11_back_6 kd_565 (v := .int (mI (sI σ 565 0 (0 : Int32)) 565 56)) rfl ?_
  refine g_if_ne (tgt := 14) X dX11_back_9 (by decide) (fun c1 => ?_) (fun c1 => ?_)
  · replace h := (if_neg c1).symm.trans h
    refine g_iconst X dX11_back_14 (v := (0 : Int32)) ic_0 ?_
    refine g_istore_n X dX11_back_15 rfl (by decide) (lv' := [(1, .int (0 : Int32)), (0, .ref (be θ + 565))]) rfl ?_
    exact g_sub [1, 0] rfl (gl_Model_back_L16 X hr hlk    FU _ _ h rfl)
  · replace h := (if_pos c1).symm.trans h
    refine g_iconst X dX11_back_12 (v := (-1 : Int32)) ic_m1 ?_
    exact g_iret X hr hlk dX11_back_13 (by cases h; rfl)
set_option maxHeartbeats 4000000 in
set_option maxRecDepth 20000 in
theorem c_Model_back {θ : Th} {l : Launch} {σ : Mem}  {r : Int32 × Mem}  (h : f_Model_back σ  = some r) : Cn θ l yX11_back cX11_back 2 (some .int) 0 0 0 [.ref (be θ + 565)] σ (some (.int r.1), r.2) :=
  Cn.of (by decide) (Nat.le_of_ble_eq_true rfl) (fun p e s m below meth c X hr hlk => g_Model_back X hr hlk  h)
theorem dX11_count_0 : decode cX11_count 0 = .ok (.aload_n 0, 1) := by decide +kernel
theorem dX11_count_1 : decode cX11_count 1 = .ok (.iconst 0, 1) := by decide +kernel
theorem dX11_count_2 : decode cX11_count 2 = .ok (.putfield 112, 3) := by decide +kernel
theorem dX11_count_5 : decode cX11_count 5 = .ok (.iload_n 1, 1) := by decide +kernel
theorem dX11_count_6 : decode cX11_count 6 = .ok (.tableswitch 158 0 13 #[70, 75, 80, 85, 90, 95, 100, 109, 117, 126, 134, 139, 144, 153], 70) := by decide +kernel
theorem dX11_count_76 : decode cX11_count 76 = .ok (.aload_n 0, 1) := by decide +kernel
theorem dX11_count_77 : decode cX11_count 77 = .ok (.getfield 307, 3) := by decide +kernel
theorem dX11_count_80 : decode cX11_count 80 = .ok (.ireturn, 1) := by decide +kernel
theorem dX11_count_81 : decode cX11_count 81 = .ok (.aload_n 0, 1) := by decide +kernel
theorem dX11_count_82 : decode cX11_count 82 = .ok (.getfield 310, 3) := by decide +kernel
theorem dX11_count_85 : decode cX11_count 85 = .ok (.ireturn, 1) := by decide +kernel
theorem dX11_count_86 : decode cX11_count 86 = .ok (.aload_n 0, 1) := by decide +kernel
theorem dX11_count_87 : decode cX11_count 87 = .ok (.getfield 299, 3) := by decide +kernel
theorem dX11_count_90 : decode cX11_count 90 = .ok (.ireturn, 1) := by decide +kernel
theorem dX11_count_91 : decode cX11_count 91 = .ok (.aload_n 0, 1) := by decide +kernel
theorem dX11_count_92 : decode cX11_count 92 = .ok (.getfield 302, 3) := by decide +kernel
theorem dX11_count_95 : decode cX11_count 95 = .ok (.ireturn, 1) := by decide +kernel
theorem dX11_count_96 : decode cX11_count 96 = .ok (.aload_n 0, 1) := by decide +kernel
theorem dX11_count_97 : decode cX11_count 97 = .ok (.getfield 125, 3) := by decide +kernel
theorem dX11_count_100 : decode cX11_count 100 = .ok (.ireturn, 1) := by decide +kernel
theorem dX11_count_101 : decode cX11_count 101 = .ok (.aload_n 0, 1) := by decide +kernel
theorem dX11_count_102 : decode cX11_count 102 = .ok (.getfield 70, 3) := by decide +kernel
theorem dX11_count_105 : decode cX11_count 105 = .ok (.ireturn, 1) := by decide +kernel
theorem dX11_count_106 : decode cX11_count 106 = .ok (.aload_n 0, 1) := by decide +kernel
theorem dX11_count_107 : decode cX11_count 107 = .ok (.getfield 61, 3) := by decide +kernel
theorem dX11_count_110 : decode cX11_count 110 = .ok (.sipush 130, 3) := by decide +kernel
theorem dX11_count_113 : decode cX11_count 113 = .ok (.iaload, 1) := by decide +kernel
theorem dX11_count_114 : decode cX11_count 114 = .ok (.ireturn, 1) := by decide +kernel
theorem dX11_count_115 : decode cX11_count 115 = .ok (.aload_n 0, 1) := by decide +kernel
theorem dX11_count_116 : decode cX11_count 116 = .ok (.getfield 61, 3) := by decide +kernel
theorem dX11_count_119 : decode cX11_count 119 = .ok (.bipush 127, 2) := by decide +kernel
theorem dX11_count_121 : decode cX11_count 121 = .ok (.iaload, 1) := by decide +kernel
theorem dX11_count_122 : decode cX11_count 122 = .ok (.ireturn, 1) := by decide +kernel
theorem dX11_count_123 : decode cX11_count 123 = .ok (.aload_n 0, 1) := by decide +kernel
theorem dX11_count_124 : decode cX11_count 124 = .ok (.getfield 61, 3) := by decide +kernel
theorem dX11_count_127 : decode cX11_count 127 = .ok (.sipush 129, 3) := by decide +kernel
theorem dX11_count_130 : decode cX11_count 130 = .ok (.iaload, 1) := by decide +kernel
theorem dX11_count_131 : decode cX11_count 131 = .ok (.ireturn, 1) := by decide +kernel
theorem dX11_count_132 : decode cX11_count 132 = .ok (.aload_n 0, 1) := by decide +kernel
theorem dX11_count_133 : decode cX11_count 133 = .ok (.getfield 61, 3) := by decide +kernel
theorem dX11_count_136 : decode cX11_count 136 = .ok (.bipush 126, 2) := by decide +kernel
theorem dX11_count_138 : decode cX11_count 138 = .ok (.iaload, 1) := by decide +kernel
theorem dX11_count_139 : decode cX11_count 139 = .ok (.ireturn, 1) := by decide +kernel
theorem dX11_count_140 : decode cX11_count 140 = .ok (.aload_n 0, 1) := by decide +kernel
theorem dX11_count_141 : decode cX11_count 141 = .ok (.getfield 74, 3) := by decide +kernel
theorem dX11_count_144 : decode cX11_count 144 = .ok (.ireturn, 1) := by decide +kernel
theorem dX11_count_145 : decode cX11_count 145 = .ok (.aload_n 0, 1) := by decide +kernel
theorem dX11_count_146 : decode cX11_count 146 = .ok (.getfield 317, 3) := by decide +kernel
theorem dX11_count_149 : decode cX11_count 149 = .ok (.ireturn, 1) := by decide +kernel
theorem dX11_count_150 : decode cX11_count 150 = .ok (.aload_n 0, 1) := by decide +kernel
theorem dX11_count_151 : decode cX11_count 151 = .ok (.getfield 61, 3) := by decide +kernel
theorem dX11_count_154 : decode cX11_count 154 = .ok (.sipush 131, 3) := by decide +kernel
theorem dX11_count_157 : decode cX11_count 157 = .ok (.iaload, 1) := by decide +kernel
theorem dX11_count_158 : decode cX11_count 158 = .ok (.ireturn, 1) := by decide +kernel
theorem dX11_count_159 : decode cX11_count 159 = .ok (.aload_n 0, 1) := by decide +kernel
theorem dX11_count_160 : decode cX11_count 160 = .ok (.getfield 320, 3) := by decide +kernel
theorem dX11_count_163 : decode cX11_count 163 = .ok (.ireturn, 1) := by decide +kernel
theorem dX11_count_164 : decode cX11_count 164 = .ok (.ldc_w 411, 3) := by decide +kernel
theorem dX11_count_167 : decode cX11_count 167 = .ok (.ireturn, 1) := by decide +kernel
def f_Model_count (σ : Mem) (x1 : Int32) : Option (Int32 × Mem) :=
  if x1 = (0 : Int32) then
    some ((mI (sI σ 565 0 (0 : Int32)) 565 26), (sI σ 565 0 (0 : Int32)))
  else
  if x1 = (1 : Int32) then
    some ((mI (sI σ 565 0 (0 : Int32)) 565 27), (sI σ 565 0 (0 : Int32)))
  else
  if x1 = (2 : Int32) then
    some ((mI (sI σ 565 0 (0 : Int32)) 565 7), (sI σ 565 0 (0 : Int32)))
  else
  if x1 = (3 : Int32) then
    some ((mI (sI σ 565 0 (0 : Int32)) 565 30), (sI σ 565 0 (0 : Int32)))
  else
  if x1 = (4 : Int32) then
    some ((mI (sI σ 565 0 (0 : Int32)) 565 6), (sI σ 565 0 (0 : Int32)))
  else
  if x1 = (5 : Int32) then
    some ((mI (sI σ 565 0 (0 : Int32)) 565 35), (sI σ 565 0 (0 : Int32)))
  else
  if x1 = (6 : Int32) then
    if inb (130 : Int32) 312 then
      some ((mI (sI σ 565 0 (0 : Int32)) 578 (130 : Int32).toNatClampNeg), (sI σ 565 0 (0 : Int32)))
    else none
  else
  if x1 = (7 : Int32) then
    if inb (127 : Int32) 312 then
      some ((mI (sI σ 565 0 (0 : Int32)) 578 (127 : Int32).toNatClampNeg), (sI σ 565 0 (0 : Int32)))
    else none
  else
  if x1 = (8 : Int32) then
    if inb (129 : Int32) 312 then
      some ((mI (sI σ 565 0 (0 : Int32)) 578 (129 : Int32).toNatClampNeg), (sI σ 565 0 (0 : Int32)))
    else none
  else
  if x1 = (9 : Int32) then
    if inb (126 : Int32) 312 then
      some ((mI (sI σ 565 0 (0 : Int32)) 578 (126 : Int32).toNatClampNeg), (sI σ 565 0 (0 : Int32)))
    else none
  else
  if x1 = (10 : Int32) then
    some ((mI (sI σ 565 0 (0 : Int32)) 565 36), (sI σ 565 0 (0 : Int32)))
  else
  if x1 = (11 : Int32) then
    some ((mI (sI σ 565 0 (0 : Int32)) 565 51), (sI σ 565 0 (0 : Int32)))
  else
  if x1 = (12 : Int32) then
    if inb (131 : Int32) 312 then
      some ((mI (sI σ 565 0 (0 : Int32)) 578 (131 : Int32).toNatClampNeg), (sI σ 565 0 (0 : Int32)))
    else none
  else
  if x1 = (13 : Int32) then
    some ((mI (sI σ 565 0 (0 : Int32)) 565 44), (sI σ 565 0 (0 : Int32)))
  else
  some ((-1000000 : Int32), (sI σ 565 0 (0 : Int32)))
set_option maxHeartbeats 4000000 in
set_option maxRecDepth 20000 in
theorem g_Model_count (X : Cx θ p s m args c cX11_count 2 RX11) (hr : meth.sig.returnType = some .int) (hlk : meth.locks = false)  {σ : Mem} {x1 : Int32} {r : Int32 × Mem}  (h : f_Model_count σ x1 = some r) : GB θ p l e 0 s m args below meth c 2 (some (.int r.1), r.2) 0 [(0, .ref (be θ + 565)), (1, .int x1)] [] σ := by
  unfold f_Model_count at h
  refine g_aload_n X dX11_count_0 rfl 0 rfl ?_
  refine g_iconst X dX11_count_1 (v := (0 : Int32)) ic_0 ?_
  refine g_putI X fl_RX11_112 dX11_count_2 kd_565 rfl rfl rfl ?_
  refine g_iload_n X dX11_count_5 rfl 1 rfl ?_
  by_cases c1 : x1 = (0 : Int32)
  · replace h := (if_pos c1).symm.trans h
    refine g_tableIn (tgt := 76) (off := 70) X dX11_count_6 (by rw [c1]; decide) (by rw [c1]; decide) (by rw [c1]; rfl) (by decide) ?_
    refine g_aload_n X dX11_count_76 rfl 0 rfl ?_
    refine g_get X fl_RX11_307 dX11_count_77 kd_565 (v := .int (mI (sI σ 565 0 (0 : Int32)) 565 26)) rfl ?_
    exact g_iret X hr hlk dX11_count_80 (by cases h; rfl)
  replace h := (if_neg c1).symm.trans h
  by_cases c2 : x1 = (1 : Int32)
  · replace h := (if_pos c2).symm.trans h
    refine g_tableIn (tgt := 81) (off := 75) X dX11_count_6 (by rw [c2]; decide) (by rw [c2]; decide) (by rw [c2]; rfl) (by decide) ?_
    refine g_aload_n X dX11_count_81 rfl 0 rfl ?_
    refine g_get X fl_RX11_310 dX11_count_82 kd_565 (v := .int (mI (sI σ 565 0 (0 : Int32)) 565 27)) rfl ?_
    exact g_iret X hr hlk dX11_count_85 (by cases h; rfl)
  replace h := (if_neg c2).symm.trans h
  by_cases c3 : x1 = (2 : Int32)
  · replace h := (if_pos c3).symm.trans h
    refine g_tableIn (tgt := 86) (off := 80) X dX11_count_6 (by rw [c3]; decide) (by rw [c3]; decide) (by rw [c3]; rfl) (by decide) ?_
    refine g_aload_n X dX11_count_86 rfl 0 rfl ?_
    refine g_get X fl_RX11_299 dX11_count_87 kd_565 (v := .int (mI (sI σ 565 0 (0 : Int32)) 565 7)) rfl ?_
    exact g_iret X hr hlk dX11_count_90 (by cases h; rfl)
  replace h := (if_neg c3).symm.trans h
  by_cases c4 : x1 = (3 : Int32)
  · replace h := (if_pos c4).symm.trans h
    refine g_tableIn (tgt := 91) (off := 85) X dX11_count_6 (by rw [c4]; decide) (by rw [c4]; decide) (by rw [c4]; rfl) (by decide) ?_
    refine g_aload_n X dX11_count_91 rfl 0 rfl ?_
    refine g_get X fl_RX11_302 dX11_count_92 kd_565 (v := .int (mI (sI σ 565 0 (0 : Int32)) 565 30)) rfl ?_
    exact g_iret X hr hlk dX11_count_95 (by cases h; rfl)
  replace h := (if_neg c4).symm.trans h
  by_cases c5 : x1 = (4 : Int32)
  · replace h := (if_pos c5).symm.trans h
    refine g_tableIn (tgt := 96) (off := 90) X dX11_count_6 (by rw [c5]; decide) (by rw [c5]; decide) (by rw [c5]; rfl) (by decide) ?_
    refine g_aload_n X dX11_count_96 rfl 0 rfl ?_
    refine g_get X fl_RX11_125 dX11_count_97 kd_565 (v := .int (mI (sI σ 565 0 (0 : Int32)) 565 6)) rfl ?_
    exact g_iret X hr hlk dX11_count_100 (by cases h; rfl)
  replace h := (if_neg c5).symm.trans h
  by_cases c6 : x1 = (5 : Int32)
  · replace h := (if_pos c6).symm.trans h
    refine g_tableIn (tgt := 101) (off := 95) X dX11_count_6 (by rw [c6]; decide) (by rw [c6]; decide) (by rw [c6]; rfl) (by decide) ?_
    refine g_aload_n X dX11_count_101 rfl 0 rfl ?_
    refine g_get X fl_RX11_70 dX11_count_102 kd_565 (v := .int (mI (sI σ 565 0 (0 : Int32)) 565 35)) rfl ?_
    exact g_iret X hr hlk dX11_count_105 (by cases h; rfl)
  replace h := (if_neg c6).symm.trans h
  by_cases c7 : x1 = (6 : Int32)
  · replace h := (if_pos c7).symm.trans h
    refine g_tableIn (tgt := 106) (off := 100) X dX11_count_6 (by rw [c7]; decide) (by rw [c7]; decide) (by rw [c7]; rfl) (by decide) ?_
    refine g_aload_n X dX11_count_106 rfl 0 rfl ?_
    refine g_get X fl_RX11_61 dX11_count_107 kd_565 (v := .ref (be θ + 578)) rfl ?_
    refine g_sipush X dX11_count_110 (v := (130 : Int32)) sp_130 ?_
    obtain ⟨g8, h⟩ := ite_some h
    refine g_iald X kd_578 ln_578 (inb_in g8) dX11_count_113 ?_
    exact g_iret X hr hlk dX11_count_114 (by cases h; rfl)
  replace h := (if_neg c7).symm.trans h
  by_cases c9 : x1 = (7 : Int32)
  · replace h := (if_pos c9).symm.trans h
    refine g_tableIn (tgt := 115) (off := 109) X dX11_count_6 (by rw [c9]; decide) (by rw [c9]; decide) (by rw [c9]; rfl) (by decide) ?_
    refine g_aload_n X dX11_count_115 rfl 0 rfl ?_
    refine g_get X fl_RX11_61 dX11_count_116 kd_565 (v := .ref (be θ + 578)) rfl ?_
    refine g_bipush X dX11_count_119 (v := (127 : Int32)) bp_127 ?_
    obtain ⟨g10, h⟩ := ite_some h
    refine g_iald X kd_578 ln_578 (inb_in g10) dX11_count_121 ?_
    exact g_iret X hr hlk dX11_count_122 (by cases h; rfl)
  replace h := (if_neg c9).symm.trans h
  by_cases c11 : x1 = (8 : Int32)
  · replace h := (if_pos c11).symm.trans h
    refine g_tableIn (tgt := 123) (off := 117) X dX11_count_6 (by rw [c11]; decide) (by rw [c11]; decide) (by rw [c11]; rfl) (by decide) ?_
    refine g_aload_n X dX11_count_123 rfl 0 rfl ?_
    refine g_get X fl_RX11_61 dX11_count_124 kd_565 (v := .ref (be θ + 578)) rfl ?_
    refine g_sipush X dX11_count_127 (v := (129 : Int32)) sp_129 ?_
    obtain ⟨g12, h⟩ := ite_some h
    refine g_iald X kd_578 ln_578 (inb_in g12) dX11_count_130 ?_
    exact g_iret X hr hlk dX11_count_131 (by cases h; rfl)
  replace h := (if_neg c11).symm.trans h
  by_cases c13 : x1 = (9 : Int32)
  · replace h := (if_pos c13).symm.trans h
    refine g_tableIn (tgt := 132) (off := 126) X dX11_count_6 (by rw [c13]; decide) (by rw [c13]; decide) (by rw [c13]; rfl) (by decide) ?_
    refine g_aload_n X dX11_count_132 rfl 0 rfl ?_
    refine g_get X fl_RX11_61 dX11_count_133 kd_565 (v := .ref (be θ + 578)) rfl ?_
    refine g_bipush X dX11_count_136 (v := (126 : Int32)) bp_126 ?_
    obtain ⟨g14, h⟩ := ite_some h
    refine g_iald X kd_578 ln_578 (inb_in g14) dX11_count_138 ?_
    exact g_iret X hr hlk dX11_count_139 (by cases h; rfl)
  replace h := (if_neg c13).symm.trans h
  by_cases c15 : x1 = (10 : Int32)
  · replace h := (if_pos c15).symm.trans h
    refine g_tableIn (tgt := 140) (off := 134) X dX11_count_6 (by rw [c15]; decide) (by rw [c15]; decide) (by rw [c15]; rfl) (by decide) ?_
    refine g_aload_n X dX11_count_140 rfl 0 rfl ?_
    refine g_get X fl_RX11_74 dX11_count_141 kd_565 (v := .int (mI (sI σ 565 0 (0 : Int32)) 565 36)) rfl ?_
    exact g_iret X hr hlk dX11_count_144 (by cases h; rfl)
  replace h := (if_neg c15).symm.trans h
  by_cases c16 : x1 = (11 : Int32)
  · replace h := (if_pos c16).symm.trans h
    refine g_tableIn (tgt := 145) (off := 139) X dX11_count_6 (by rw [c16]; decide) (by rw [c16]; decide) (by rw [c16]; rfl) (by decide) ?_
    refine g_aload_n X dX11_count_145 rfl 0 rfl ?_
    refine g_get X fl_RX11_317 dX11_count_146 kd_565 (v := .int (mI (sI σ 565 0 (0 : Int32)) 565 51)) rfl ?_
    exact g_iret X hr hlk dX11_count_149 (by cases h; rfl)
  replace h := (if_neg c16).symm.trans h
  by_cases c17 : x1 = (12 : Int32)
  · replace h := (if_pos c17).symm.trans h
    refine g_tableIn (tgt := 150) (off := 144) X dX11_count_6 (by rw [c17]; decide) (by rw [c17]; decide) (by rw [c17]; rfl) (by decide) ?_
    refine g_aload_n X dX11_count_150 rfl 0 rfl ?_
    refine g_get X fl_RX11_61 dX11_count_151 kd_565 (v := .ref (be θ + 578)) rfl ?_
    refine g_sipush X dX11_count_154 (v := (131 : Int32)) sp_131 ?_
    obtain ⟨g18, h⟩ := ite_some h
    refine g_iald X kd_578 ln_578 (inb_in g18) dX11_count_157 ?_
    exact g_iret X hr hlk dX11_count_158 (by cases h; rfl)
  replace h := (if_neg c17).symm.trans h
  by_cases c19 : x1 = (13 : Int32)
  · replace h := (if_pos c19).symm.trans h
    refine g_tableIn (tgt := 159) (off := 153) X dX11_count_6 (by rw [c19]; decide) (by rw [c19]; decide) (by rw [c19]; rfl) (by decide) ?_
    refine g_aload_n X dX11_count_159 rfl 0 rfl ?_
    refine g_get X fl_RX11_320 dX11_count_160 kd_565 (v := .int (mI (sI σ 565 0 (0 : Int32)) 565 44)) rfl ?_
    exact g_iret X hr hlk dX11_count_163 (by cases h; rfl)
  replace h := (if_neg c19).symm.trans h
  have nc1 := neT c1
  have nc2 := neT c2
  have nc3 := neT c3
  have nc4 := neT c4
  have nc5 := neT c5
  have nc6 := neT c6
  have nc7 := neT c7
  have nc9 := neT c9
  have nc11 := neT c11
  have nc13 := neT c13
  have nc15 := neT c15
  have nc16 := neT c16
  have nc17 := neT c17
  have nc19 := neT c19
  have w20 : x1.toInt < 0 ∨ 13 < x1.toInt := by
    rw [show (0 : Int32).toInt = 0 from rfl] at nc1
    rw [show (1 : Int32).toInt = 1 from rfl] at nc2
    rw [show (2 : Int32).toInt = 2 from rfl] at nc3
    rw [show (3 : Int32).toInt = 3 from rfl] at nc4
    rw [show (4 : Int32).toInt = 4 from rfl] at nc5
    rw [show (5 : Int32).toInt = 5 from rfl] at nc6
    rw [show (6 : Int32).toInt = 6 from rfl] at nc7
    rw [show (7 : Int32).toInt = 7 from rfl] at nc9
    rw [show (8 : Int32).toInt = 8 from rfl] at nc11
    rw [show (9 : Int32).toInt = 9 from rfl] at nc13
    rw [show (10 : Int32).toInt = 10 from rfl] at nc15
    rw [show (11 : Int32).toInt = 11 from rfl] at nc16
    rw [show (12 : Int32).toInt = 12 from rfl] at nc17
    rw [show (13 : Int32).toInt = 13 from rfl] at nc19
    omega
  refine g_tableOut (tgt := 164) X dX11_count_6 w20 (by decide) ?_
  refine g_ldcw X cst_RX11_411 dX11_count_164 ?_
  exact g_iret X hr hlk dX11_count_167 (by cases h; rfl)
set_option maxHeartbeats 4000000 in
set_option maxRecDepth 20000 in
theorem c_Model_count {θ : Th} {l : Launch} {σ : Mem} {x1 : Int32} {r : Int32 × Mem}  (h : f_Model_count σ x1 = some r) : Cn θ l yX11_count cX11_count 2 (some .int) 0 0 0 [.ref (be θ + 565), .int x1] σ (some (.int r.1), r.2) :=
  Cn.of (by decide) (Nat.le_of_ble_eq_true rfl) (fun p e s m below meth c X hr hlk => g_Model_count X hr hlk  h)
end Z18
