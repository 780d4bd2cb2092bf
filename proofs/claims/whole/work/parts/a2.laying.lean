/-! cells that are being laid: the constructors -/
section GVS
/-- the first n cells stand, with these values -/
def PW (θ : Th) (V : Nat → Nat → Value) (n : Nat) (H : Heap) : Prop := H.size = be θ + n ∧ ∀ a, a < n → (∀ ci, kd a = ci + 1 → ci < 12 → t_OB (be θ + a) ((tD θ).1 ci) (nF ci) ((tD θ).2 ci) H (V a)) ∧ (13 ≤ kd a → H[be θ + a]? = some (arrV (aC θ (kd a)) (ln a) (V a)))
def GV (θ : Th) (p : Program) (l : Launch) (e : Env) (R : Room) (s : State) (m : MethodId) (args : Array Value) (below : List Frame) (meth : Method) (c : Code) (nL cells slots : Nat) (Q : State → Prop) (pc : Nat) (lv : List (Nat × Value)) (st : List Value) (V : Nat → Nat → Value) (nV : Nat) : Prop :=
  ∀ (H : Heap) (locs : List Loc) (ls : Array Slot), PW θ V nV H → va_S (Aq θ) s.heap H locs → lv_has ls nL lv → W p l e R s m args below meth c H locs cells slots Q (F0 m pc ls st)
def upR (V : Nat → Nat → Value) (a : Nat) (f : Nat → Value) : Nat → Nat → Value := fun b => if b = a then f else V b
def upC (V : Nat → Nat → Value) (a k : Nat) (v : Value) : Nat → Nat → Value := upR V a (updV (V a) k v)
theorem upR_self (V : Nat → Nat → Value) (a : Nat) (f : Nat → Value) : upR V a f a = f := by unfold upR; rw [if_pos rfl]
theorem upR_ne {V : Nat → Nat → Value} {a b : Nat} {f : Nat → Value} (h : b ≠ a) : upR V a f b = V b := by unfold upR; rw [if_neg h]
theorem arrV_to {cA : ClassId} {N : Nat} {f g : Nat → Value} (h : ∀ j, j < N → f j = g j) : arrV cA N f = arrV cA N g := by
  unfold arrV
  congr 1
  refine congrArg _ (funext fun j => h j.val j.isLt)
theorem PW.wd {θ : Th} {V : Nat → Nat → Value} {σ : Mem} {H : Heap} (h : PW θ V 591 H) (hv : ∀ a, a < 591 → (∀ ci, kd a = ci + 1 → ci < 12 → ∀ k, k < nF ci → V a k = fv θ σ ci a k) ∧ (13 ≤ kd a → ∀ j, j < ln a → V a j = ev θ σ (kd a) a j)) : Wd θ σ H := by
  intro a
  by_cases ha : a < 591
  · refine ⟨fun ci h1 h2 => ((h.2 a ha).1 ci h1 h2).to ((hv a ha).1 ci h1 h2), fun h1 => ?_⟩
    rw [(h.2 a ha).2 h1, arrV_to ((hv a ha).2 h1)]
  · have := kd_big a (by omega)
    exact ⟨fun ci h1 _ => by omega, fun h1 => by omega⟩
variable {θ : Th} {p : Program} {l : Launch} {e : Env} {R : Room} {s : State} {m : MethodId} {args : Array Value} {below : List Frame} {meth : Method} {c : Code} {cc : ByteArray} {own : String} {nL cells slots pc : Nat} {Q : State → Prop} {lv : List (Nat × Value)} {st : List Value} {V : Nat → Nat → Value} {nV : Nat}
theorem v_iconst (X : Cx θ p s m args c cc nL own) {n : Int} {v : Int32} (hd : decode cc pc = .ok (.iconst n, 1)) (hv : Int32.ofInt n = v) (k : GV θ p l e R s m args below meth c nL cells slots Q (pc + 1) lv (.int v :: st) V nV) : GV θ p l e R s m args below meth c nL cells slots Q pc lv (st) V nV := fun H locs ls hW hS hl => lv_iconst X.1.1 X.1.2.1 hd hv (k H locs ls hW hS hl)
theorem v_bipush (X : Cx θ p s m args c cc nL own) {n : Int} {v : Int32} (hd : decode cc pc = .ok (.bipush n, 2)) (hv : (Int8.ofInt n).toInt32 = v) (k : GV θ p l e R s m args below meth c nL cells slots Q (pc + 2) lv (.int v :: st) V nV) : GV θ p l e R s m args below meth c nL cells slots Q pc lv (st) V nV := fun H locs ls hW hS hl => lv_bipush X.1.1 X.1.2.1 hd hv (k H locs ls hW hS hl)
theorem v_sipush (X : Cx θ p s m args c cc nL own) {n : Int} {v : Int32} (hd : decode cc pc = .ok (.sipush n, 3)) (hv : (Int16.ofInt n).toInt32 = v) (k : GV θ p l e R s m args below meth c nL cells slots Q (pc + 3) lv (.int v :: st) V nV) : GV θ p l e R s m args below meth c nL cells slots Q pc lv (st) V nV := fun H locs ls hW hS hl => lv_sipush X.1.1 X.1.2.1 hd hv (k H locs ls hW hS hl)
theorem v_lconst (X : Cx θ p s m args c cc nL own) {n : Fin 2} {v : Int64} (hd : decode cc pc = .ok (.lconst n, 1)) (hv : Int64.ofNat (n : Nat) = v) (k : GV θ p l e R s m args below meth c nL cells slots Q (pc + 1) lv (.long v :: st) V nV) : GV θ p l e R s m args below meth c nL cells slots Q pc lv (st) V nV := fun H locs ls hW hS hl => lv_lconst X.1.1 X.1.2.1 hd hv (k H locs ls hW hS hl)
theorem v_dup (X : Cx θ p s m args c cc nL own) {va : Value} (hd : decode cc pc = .ok (.dup, 1)) (hva : va.category = 1) (k : GV θ p l e R s m args below meth c nL cells slots Q (pc + 1) lv (va :: va :: st) V nV) : GV θ p l e R s m args below meth c nL cells slots Q pc lv (va :: st) V nV := fun H locs ls hW hS hl => lv_dup X.1.1 X.1.2.1 hd hva (k H locs ls hW hS hl)
theorem v_null (X : Cx θ p s m args c cc nL own)  (hd : decode cc pc = .ok (.aconst_null, 1)) (k : GV θ p l e R s m args below meth c nL cells slots Q (pc + 1) lv (.null :: st) V nV) : GV θ p l e R s m args below meth c nL cells slots Q pc lv (st) V nV := fun H locs ls hW hS hl => lv_null X.1.1 X.1.2.1 hd (k H locs ls hW hS hl)
theorem v_icmp_ge (X : Cx θ p s m args c cc nL own) {x y : Int32} {off : Int} {tgt : Nat} (hd : decode cc pc = .ok (.if_icmp .ge off, 3)) (ht : (pc : Int) + off = (tgt : Int)) (kt : y ≤ x → GV θ p l e R s m args below meth c nL cells slots Q tgt lv st V nV) (kf : ¬ y ≤ x → GV θ p l e R s m args below meth c nL cells slots Q (pc + 3) lv st V nV) : GV θ p l e R s m args below meth c nL cells slots Q pc lv (.int y :: .int x :: st) V nV := fun H locs ls hW hS hl => lv_icmp_ge X.1.1 X.1.2.1 hd ht (fun q => kt q H locs ls hW hS hl) (fun q => kf q H locs ls hW hS hl)
theorem v_goto (X : Cx θ p s m args c cc nL own) {off : Int} {tgt : Nat} (hd : decode cc pc = .ok (.goto off, 3)) (ht : (pc : Int) + off = (tgt : Int)) (k : GV θ p l e R s m args below meth c nL cells slots Q tgt lv st V nV) : GV θ p l e R s m args below meth c nL cells slots Q pc lv st V nV := fun H locs ls hW hS hl => lv_goto X.1.1 X.1.2.1 hd ht (k H locs ls hW hS hl)
theorem v_iload_n (X : Cx θ p s m args c cc nL own) {k : Fin 4} {i : Nat} {x : Int32} (hd : decode cc pc = .ok (.iload_n k, 1)) (hi : (k : Nat) = i) (kq : Nat) (hq : lv[kq]? = some (i, .int x)) (k : GV θ p l e R s m args below meth c nL cells slots Q (pc + 1) lv (.int x :: st) V nV) : GV θ p l e R s m args below meth c nL cells slots Q pc lv st V nV := fun H locs ls hW hS hl => lv_iload_n X.1.1 X.1.2.1 hd hi (lv_at hl kq hq) (k H locs ls hW hS hl)
theorem v_istore_n (X : Cx θ p s m args c cc nL own) {k : Fin 4} {i : Nat} {x : Int32} {lv' : List (Nat × Value)} (hd : decode cc pc = .ok (.istore_n k, 1)) (hi : (k : Nat) = i) (hn : i < nL) (hl' : (i, Value.int x) :: lv.filter (fun q => !(q.1 == i) && !(q.1 + 1 == i && q.2.category == 2)) = lv') (k : GV θ p l e R s m args below meth c nL cells slots Q (pc + 1) lv' st V nV) : GV θ p l e R s m args below meth c nL cells slots Q pc lv (.int x :: st) V nV := fun H locs ls hW hS hl => lv_istore_n X.1.1 X.1.2.1 hd hi hl hn hl' (fun ls hl => k H locs ls hW hS hl)
theorem v_aload_n (X : Cx θ p s m args c cc nL own) {k : Fin 4} {i : Nat} {x : Nat} (hd : decode cc pc = .ok (.aload_n k, 1)) (hi : (k : Nat) = i) (kq : Nat) (hq : lv[kq]? = some (i, .ref x)) (k : GV θ p l e R s m args below meth c nL cells slots Q (pc + 1) lv (.ref x :: st) V nV) : GV θ p l e R s m args below meth c nL cells slots Q pc lv st V nV := fun H locs ls hW hS hl => lv_aload_n X.1.1 X.1.2.1 hd hi (lv_at hl kq hq) (k H locs ls hW hS hl)
theorem v_astore_n (X : Cx θ p s m args c cc nL own) {k : Fin 4} {i : Nat} {x : Nat} {lv' : List (Nat × Value)} (hd : decode cc pc = .ok (.astore_n k, 1)) (hi : (k : Nat) = i) (hn : i < nL) (hl' : (i, Value.ref x) :: lv.filter (fun q => !(q.1 == i) && !(q.1 + 1 == i && q.2.category == 2)) = lv') (k : GV θ p l e R s m args below meth c nL cells slots Q (pc + 1) lv' st V nV) : GV θ p l e R s m args below meth c nL cells slots Q pc lv (.ref x :: st) V nV := fun H locs ls hW hS hl => lv_astore_n X.1.1 X.1.2.1 hd hi hl hn hl' (fun ls hl => k H locs ls hW hS hl)
theorem v_iinc (X : Cx θ p s m args c cc nL own) {i kq : Nat} {n : Int} {x v : Int32} {lv' : List (Nat × Value)} (hd : decode cc pc = .ok (.iinc i n, 3)) (hq : lv[kq]? = some (i, .int x)) (hv : x + Int32.ofInt n = v) (hn : i < nL) (hl' : (i, Value.int v) :: lv.filter (fun q => !(q.1 == i) && !(q.1 + 1 == i && q.2.category == 2)) = lv') (k : GV θ p l e R s m args below meth c nL cells slots Q (pc + 3) lv' st V nV) : GV θ p l e R s m args below meth c nL cells slots Q pc lv st V nV := fun H locs ls hW hS hl => lv_iinc X.1.1 X.1.2.1 hd hl hq hv hn hl' (fun ls hl => k H locs ls hW hS hl)
theorem v_sub {lv' : List (Nat × Value)} (ks : List Nat) (h : lv_pick lv ks = lv') (k : GV θ p l e R s m args below meth c nL cells slots Q pc lv' st V nV) : GV θ p l e R s m args below meth c nL cells slots Q pc lv st V nV := fun H locs ls hW hS hl => k H locs ls hW hS (lv_sub hl ks h)
theorem v_gets (X : Cx θ p s m args c cc nL own) {idx : Nat} {C n d : String} {v : Value} (hZ : va_Z C n d v (Aq θ) s s.heap) (hl' : Cond.fieldLink own idx C n d ∈ ALL) (hd : decode cc pc = .ok (.getstatic idx, 3)) (kk : GV θ p l e R s m args below meth c nL cells slots Q (pc + 3) lv (v :: st) V nV) : GV θ p l e R s m args below meth c nL cells slots Q pc lv st V nV := fun H locs ls hW hS hl =>
  va_gets X.1.1 X.1.2.1 hZ hS X.1.2.2.2.1 (X.1.2.2.2.2 _ hl') (fun _ h => h) hd (kk H locs ls hW hS hl)
theorem v_tlen (X : Cx θ p s m args c cc nL own) {t N : Nat} {ty : FieldType} {f : Nat → Value} {v : Int32} (hT : va_T ty t N f (Aq θ) s s.heap) (hv : Int32.ofNat N = v) (hd : decode cc pc = .ok (.arraylength, 1)) (kk : GV θ p l e R s m args below meth c nL cells slots Q (pc + 1) lv (.int v :: st) V nV) : GV θ p l e R s m args below meth c nL cells slots Q pc lv (.ref t :: st) V nV := fun H locs ls hW hS hl => va_tlen X.1.1 X.1.2.1 hT hS hv hd (kk H locs ls hW hS hl)
theorem v_ldcS (X : Cx θ p s m args c cc nL own) {idx q : Nat} {tx : String} (hZ : vk_R own idx tx q s) (hd : decode cc pc = .ok (.ldc idx, 2)) (kk : GV θ p l e R s m args below meth c nL cells slots Q (pc + 2) lv (.ref q :: st) V nV) : GV θ p l e R s m args below meth c nL cells slots Q pc lv st V nV := fun H locs ls hW hS hl => va_ldcS X.1.1 X.1.2.1 X.1.2.2.2.1 hZ hd (kk H locs ls hW hS hl)
/-- one cell more -/
theorem PW.grow {H H1 : Heap} {f : Nat → Value} (hW : PW θ V nV H) (z1 : H1.size = be θ + nV + 1) (o1 : ∀ q, q < be θ + nV → H1[q]? = H[q]?) (ho : ∀ ci, kd nV = ci + 1 → ci < 12 → t_OB (be θ + nV) ((tD θ).1 ci) (nF ci) ((tD θ).2 ci) H1 f) (ha : 13 ≤ kd nV → H1[be θ + nV]? = some (arrV (aC θ (kd nV)) (ln nV) f)) : PW θ (upR V nV f) (nV + 1) H1 := by
  refine ⟨by rw [z1]; omega, fun a h => ?_⟩
  by_cases e : a = nV
  · subst e
    rw [upR_self]
    exact ⟨ho, ha⟩
  · rw [upR_ne e]
    have hq := o1 (be θ + a) (by omega)
    exact ⟨fun ci h1 h2 => ((hW.2 a (by omega)).1 ci h1 h2).kept hq, fun h1 => by rw [hq]; exact (hW.2 a (by omega)).2 h1⟩
theorem va_S.grow {A : Nat → Prop} {H0 H H1 : Heap} {locs : List Loc} {n : Nat} (hS : va_S A H0 H locs) (hn : H.size = n) (z1 : H1.size = n + 1) (o1 : ∀ q, q < n → H1[q]? = H[q]?) : va_S A H0 H1 locs := ⟨Nat.le_trans hS.1 (by omega), fun x h1 h2 => (o1 x (by have := hS.1; omega)).trans (hS.2.1 x h1 h2), hS.2.2⟩
theorem v_new (X : Cx θ p s m args c cc nL own) {idx ci : Nat} (hc : ci < 12) (hk : kd nV = ci + 1) (Lk : Cond.classLink own idx (clC ci) ∈ ALL) (hI : Cond.instantiable (clC ci) (nF ci) ∈ ALL) (hini : Cond.initialized (clC ci) ∈ ALL) (hcells : cells + 1 ≤ R.cells) (hslots : slots + nF ci ≤ R.slots) (hd : decode cc pc = .ok (.new idx, 3)) (kk : GV θ p l e R s m args below meth c nL (cells + 1) (slots + nF ci) Q (pc + 3) lv (.ref (be θ + nV) :: st) (upR V nV (fun k => defaultValue (clty ci k))) (nV + 1)) : GV θ p l e R s m args below meth c nL cells slots Q pc lv st V nV := by
  intro H locs ls hW hS hl
  have hKn := X.2.1.1 ci _ (cl_ok ci hc)
  refine W.newcK X.1.1 X.1.2.1 X.1.2.2.2.1 (X.1.2.2.2.2 _ Lk) (X.1.2.2.2.2 _ hI) (X.1.2.2.2.2 _ hini) rfl hd hcells hslots hKn.2.1 hW.1 fun H1 kC hkC e1 z1 o1 => kk H1 locs ls (hW.grow z1 o1 (fun cj h1 h2 => ?_) (fun h1 => by omega)) (hS.grow hW.1 z1 o1) hl
  obtain rfl : cj = ci := by omega
  exact u_born (clty cj) X.1.2.2.2.2 (cl_in cj hc) hKn hkC e1 (cl_ty cj hc)
theorem v_newa (X : Cx θ p s m args c cc nL own) {atype : ArrayType} {k N : Nat} {x : Int32} {dv : Value} (hk : kd nV = k) (h13 : 13 ≤ k) (hln : ln nV = N) (harr : Cond.arrayClass (newarray.typeOf atype) ∈ ALL) (hcl : s.vm.findClass ("[" ++ (newarray.typeOf atype).toString) = some (aC θ k)) (hdv : defaultValue (newarray.typeOf atype) = dv) (hn : ¬ x < 0) (hN : x.toNatClampNeg = N) (hb : N * componentBytes (newarray.typeOf atype) ≤ 536870912) (hcells : cells + 1 ≤ R.cells) (hslots : slots + N ≤ R.slots) (hd : decode cc pc = .ok (.newarray atype, 2)) (kk : GV θ p l e R s m args below meth c nL (cells + 1) (slots + N) Q (pc + 2) lv (.ref (be θ + nV) :: st) (upR V nV (fun _ => dv)) (nV + 1)) : GV θ p l e R s m args below meth c nL cells slots Q pc lv (.int x :: st) V nV := by
  intro H locs ls hW hS hl
  refine va_newaK X.1.1 X.1.2.1 (X.1.2.2.2.2 _ harr) rfl hd rfl hn hN hb hcells hslots hW.1 fun H1 cA e1 z1 o1 _ hf => kk H1 locs ls (hW.grow z1 o1 (fun cj h1 h2 => by omega) (fun _ => ?_)) (hS.grow hW.1 z1 o1) hl
  rw [hk, hln, e1, hdv]
  cases hf.symm.trans hcl
  rfl
theorem v_objInit (X : Cx θ p s m args c cc nL own) {idx : Nat} {a : Nat} (Lk : Cond.methodLink own idx Lib.objectInit ∈ ALL) (hi : Cond.instanceMethod Lib.objectInit ∈ ALL) (hco : Cond.code Lib.objectInit ⟨#[0xb1]⟩ 1 none ∈ ALL) (hR : 1 ≤ R.frames ∧ (st.map fun v => v.category).sum + 12 ≤ R.locals) (hd : decode cc pc = .ok (.invokespecial idx, 3)) (kk : GV θ p l e R s m args below meth c nL cells slots Q (pc + 3) lv st V nV) : GV θ p l e R s m args below meth c nL cells slots Q pc lv (.ref a :: st) V nV := by
  intro H locs ls hW hS hl
  exact W.objInit X.1.1 X.1.2.1 X.1.2.2.2.1 (X.1.2.2.2.2 _ Lk) (X.1.2.2.2.2 _ hi) (X.1.2.2.2.2 _ hco) rfl (by rw [X.1.2.2.1]; exact hl.1) rfl hd hR.1 (by have := hR.2; simpa [F0] using this) (kk H locs ls hW hS hl)
/-- a value changes -/
theorem PW.put {H H1 : Heap} {a : Nat} {f : Nat → Value} (hW : PW θ V nV H) (ha : a < nV) (z1 : H1.size = H.size) (o1 : ∀ q, q ≠ be θ + a → H1[q]? = H[q]?) (ho : ∀ ci, kd a = ci + 1 → ci < 12 → t_OB (be θ + a) ((tD θ).1 ci) (nF ci) ((tD θ).2 ci) H1 f) (hr : 13 ≤ kd a → H1[be θ + a]? = some (arrV (aC θ (kd a)) (ln a) f)) : PW θ (upR V a f) nV H1 := by
  refine ⟨by rw [z1]; exact hW.1, fun b h => ?_⟩
  by_cases e : b = a
  · subst e
    rw [upR_self]
    exact ⟨ho, hr⟩
  · rw [upR_ne e]
    have hq := o1 (be θ + b) (by omega)
    exact ⟨fun ci h1 h2 => ((hW.2 b h).1 ci h1 h2).kept hq, fun h1 => by rw [hq]; exact (hW.2 b h).2 h1⟩
theorem v_put (X : Cx θ p s m args c cc nL own) {idx ci k a : Nat} {v : Value} (F : Fl own idx ci k) (hd : decode cc pc = .ok (.putfield idx, 3)) (ha : kd a = ci + 1) (hla : a < nV) (hfin : (clT ci k).2.2.2 = false ∨ ((clT ci k).2.2.2 = true ∧ meth.name = "<init>" ∧ (clT ci k).1 = own)) (hn : narrow (clty ci k) v = v) (hfit : fits (clty ci k) v = true) (kk : GV θ p l e R s m args below meth c nL cells slots Q (pc + 3) lv st (upC V a k v) nV) : GV θ p l e R s m args below meth c nL cells slots Q pc lv (v :: .ref (be θ + a) :: st) V nV := by
  intro H locs ls hW hS hl
  obtain ⟨hc, hk, hlink⟩ := F
  have hap := va_apart (own := own) X.1.2.2.2.2 (cl_in ci hc) (clty ci) (cl_ty ci hc) (cl_nm ci hc) X.2.1 (cl_ok ci hc)
  obtain ⟨cell, q1, q2, q3, q4⟩ := (hW.2 a hla).1 ci ha hc
  obtain ⟨hS2, hfc, kC, hkC, hkind⟩ := X.2.1.1 ci _ (cl_ok ci hc)
  obtain ⟨cf, kf, fi, f, hi, hsl⟩ := hS2 k hk
  have hlay := X.1.2.2.2.2 _ (cl_in ci hc _ (u_in_lay hk))
  have hst := (u_facts hfc hkC (u_lays X.1.2.2.2.2 (cl_in ci hc) hk) hi).1
  unfold u_lay at hlay
  rcases hfin with hfin | ⟨hfin, hin2, hdecl⟩
  · rw [if_neg (by rw [hfin]; decide)] at hlay
    have h6 := u_store hfc hkC hkind hlay hi (cl_ty ci hc k hk) hn hfit
    refine W.putK X.1.1 X.1.2.1 (f := f) ⟨X.1.2.2.2.1, X.1.2.2.2.2 _ hlink, ⟨_, _, _, hi⟩, hst⟩ (by rw [q2]; exact h6) q1 q3 (by rw [hsl]; exact k2_hasslot (q4 k hk)) rfl rfl hd fun H' e1 e2 e3 => ?_
    rw [hsl] at e1 ⊢
    refine kk H' _ ls (hW.put hla e2 e3 (fun cj h1 h2 => ?_) (fun h1 => by omega)) (hS.put e2 e3 (Nat.le_add_right _ _)) hl
    obtain rfl : cj = ci := by omega
    exact ⟨_, e1, q2, q3, t_set q4 hap hk v⟩
  · rw [if_pos hfin] at hlay
    have hcf : m.cls = cf := by
      obtain ⟨_, _, c', _, _, _, -, -, hf', -, -, -, hown2, -⟩ := Cond.laysFinal_spec hlay
      have e1 : c' = cf := by have := hi.symm.trans hf'; simp at this; exact this.1.symm
      rw [hdecl] at hown2
      rw [← e1]; exact Option.some.inj (X.1.2.2.2.1.symm.trans hown2)
    have h6 := u_fits hfc hkC hkind (Or.inr hlay) hi (cl_ty ci hc k hk) hn hfit
    refine W.putFinK X.1.1 X.1.2.1 X.1.2.2.2.1 (X.1.2.2.2.2 _ hlink) hi hst hcf hin2 (by rw [q2]; exact h6) q1 q3 (by rw [hsl]; exact k2_hasslot (q4 k hk)) rfl rfl hd fun H' e1 e2 e3 => ?_
    rw [hsl] at e1 ⊢
    refine kk H' _ ls (hW.put hla e2 e3 (fun cj h1 h2 => ?_) (fun h1 => by omega)) (hS.put e2 e3 (Nat.le_add_right _ _)) hl
    obtain rfl : cj = ci := by omega
    exact ⟨_, e1, q2, q3, t_set q4 hap hk v⟩
end GVS
