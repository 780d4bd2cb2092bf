/-! constructors: contracts, calls, ends -/
def NW : List (String × Nat × MethodName) := [(RX10, 9, yX8_init), (RX10, 34, yX7_init), (RX4, 24, yX7_init), (RX10, 51, yX9_init), (RX9, 23, yX1_init), (RX6, 11, yX7_init), (RX10, 65, yX3_init), (RX3, 11, yX7_init), (RX10, 72, yX0_init), (RX10, 79, yX1_init), (RX10, 105, yX5_init), (RX10, 106, yX2_init)]
/-- links within the nest, arrays of objects -/
def Nx (U : State) : Prop := (∀ q ∈ NW, va_Nw (.methodLinkNest q.1 q.2.1 q.2.2 "NearlyBought") U) ∧ va_AO RX5 U ∧ va_AO RX2 U ∧ va_AO RX7 U
theorem Nx.warm {s U : State} (h : Nx s) (hW : s.WarmedH U.vm) : Nx U := ⟨fun q hq => va_Nw.warmM hW (h.1 q hq), h.2.1.moved hW.alike, h.2.2.1.moved hW.alike, h.2.2.2.moved hW.alike⟩
theorem Nx.same {s U : State} (h : Nx s) (e : s.vm = U.vm) : Nx U := ⟨fun q hq => va_Nw.same rfl e (h.1 q hq), h.2.1.moved (by rw [← e]; exact Vm.Alike.refl _), h.2.2.1.moved (by rw [← e]; exact Vm.Alike.refl _), h.2.2.2.moved (by rw [← e]; exact Vm.Alike.refl _)⟩
def PrV (θ : Th) (V : Nat → Nat → Value) (n : Nat) (U : State) : Prop := PW θ V n U.heap ∧ Kn θ U ∧ Sx θ U U.heap ∧ Nx U
def QV (θ : Th) (V : Nat → Nat → Value) (n : Nat) : Array Value → State → Outcome → State → Prop := fun _ st oc t => (oc = .returned none ∧ PrV θ V n t) ∧ va_F (Aq θ) st t
/-- a constructor's contract -/
def CnV (θ : Th) (l : Launch) (y : MethodName) (cc : ByteArray) (maxL d mc ms : Nat) (av : List Value) (V : Nat → Nat → Value) (n : Nat) (V' : Nat → Nat → Value) (n' : Nat) : Prop :=
  Met l y (.code y cc maxL none :: ALL) (rmq d mc ms) (va_Pc av (PrV θ V n)) (QV θ V' n') mc ms (Aq θ)
theorem PrV.blind {θ : Th} {V : Nat → Nat → Value} {n : Nat} {av : List Value} : FrameBlind (va_Pc av (PrV θ V n)) := by
  intro a U g mk ⟨h1, h2, h3, h4, h5⟩
  exact ⟨h1, h2, va_K.moved (u := U) (U := U.calling g mk a) (Vm.Alike.refl U.vm) h3, Sx.same (u := U) (U := U.calling g mk a) rfl h4, h5.same rfl⟩
theorem PrV.of {θ : Th} {V : Nat → Nat → Value} {n : Nat} {s U : State} {H : Heap} {locs : List Loc} {p : Program} {m : MethodId} {args : Array Value} {c : Code} {cc : ByteArray} {nL : Nat} {own : String} (X : Cx θ p s m args c cc nL own) (N : Nx s) (hW : PW θ V n H) (hS : va_S (Aq θ) s.heap H locs) (hU : U.heap = H) (hw : s.WarmedH U.vm) : PrV θ V n U := by
  refine ⟨by rw [hU]; exact hW, va_K.moved hw.alike X.2.1, ?_, N.warm hw⟩
  rw [hU]
  exact (X.2.2.1.kept hS.2.1).warm hw
theorem CnV.of {θ : Th} {l : Launch} {y : MethodName} {cc : ByteArray} {maxL d mc ms : Nat} {av : List Value} {V V' : Nat → Nat → Value} {n n' : Nat} (hy : plainName y.cls = true) (hy1 : y.name = "<init>") (hn : (lg_sl av).length ≤ maxL)
    (body : ∀ (p : Program) (e : Env) (s : State) (m : MethodId) (below : List Frame) (meth : Method) (c : Code), Cx θ p s m av.toArray c cc maxL y.cls → Nx s → meth.name = "<init>" → meth.sig.returnType = none → meth.locks = false →
      GV θ p l e (rmq d mc ms) s m av.toArray below meth c maxL 0 0 (MQ below (QV θ V' n') av.toArray s mc ms (Aq θ)) 0 (lv_args 0 av) [] V n) : CnV θ l y cc maxL d mc ms av V n V' n' := by
  refine Met.ofW (cc := cc) (maxL := maxL) (ret := none) hy rfl ?_
  intro p e s m args below meth c s₁ B hml hv
  obtain ⟨rfl, h2, h3, h4, h5⟩ := hv
  have hts := atoms_spec (ws := .code y cc maxL none :: ALL) B.pre
  have hown : s.vm.findClass y.cls = some m.cls := findClass_of_methodNamed B.named
  have hin : meth.name = "<init>" := (name_of_methodNamed B.named B.method).1.trans hy1
  have X : Cx θ p s m av.toArray c cc maxL y.cls := ⟨⟨B.exec, B.bytes, hml, hown, fun w hw => hts w (List.mem_cons_of_mem _ hw)⟩, h3, h4, by have := h2.1; omega⟩
  have hl := lv_entry av (n := maxL) hn
  rw [lg_entry_eq]
  exact body p e s m below meth c X h5 hin B.returns B.notSynchronized s.heap [] _ h2 va_S.rf hl
section GVT
variable {θ : Th} {p : Program} {l : Launch} {e : Env} {R : Room} {s : State} {m : MethodId} {args : Array Value} {below : List Frame} {meth : Method} {c : Code} {cc : ByteArray} {own : String} {nL cells slots pc : Nat} {Q : State → Prop} {lv : List (Nat × Value)} {st : List Value} {V V' : Nat → Nat → Value} {nV n' : Nat}
theorem v_vret (X : Cx θ p s m args c cc nL own) (N : Nx s) (hr : meth.sig.returnType = none) (hlk : meth.locks = false) (hd : decode cc pc = .ok (.return_, 1)) (h : V = V') : GV θ p l e R s m args below meth c nL cells slots (MQ below (QV θ V' nV) args s cells slots (Aq θ)) pc lv [] V nV := by
  subst h
  intro H locs ls hW hS hl
  exact W.vret X.1.1 X.1.2.1 hr (fun t ht hw => ⟨⟨rfl, PrV.of X N hW hS ht hw⟩, hS.F ht⟩) hS.2.2 hd hlk
theorem v_back {a : Array Value} {mc ms : Nat} {rest st0 : List Value} {H : Heap} {locs : List Loc} {ls : Array Slot} (hr : va_Run p l e R s m args below meth c H locs cells slots mc ms (F0 m pc ls st0) rest (QV θ V' n' a) (Aq θ)) (hS : va_S (Aq θ) s.heap H locs)
    (kk : ∀ (H1 : Heap) (locs1 : List Loc), PW θ V' n' H1 → va_S (Aq θ) s.heap H1 locs1 → W p l e R s m args below meth c H1 locs1 (cells + mc) (slots + ms) Q (F0 m (pc + 3) ls rest)) : W p l e R s m args below meth c H locs cells slots Q (F0 m pc ls st0) := by
  intro T hT X
  obtain ⟨v, st₀, t, T', L, h0, X', hL, e1, e2, ⟨⟨hv, hP⟩, hz, hk⟩, st⟩ := hr T hT X
  cases hv
  rw [h0] at hz hk
  obtain ⟨t2, a1, b1⟩ := kk T'.heap (locs ++ L) (by rw [e1]; exact hP.1)
    ⟨Nat.le_trans hS.1 (by rw [e1]; exact hz), fun q h1 h2 => by rw [e1, hk q (Nat.lt_of_lt_of_le h1 hS.1) h2]; exact hS.2.1 q h1 h2, fun q hq => by
      rcases List.mem_append.mp hq with h | h
      · exact hS.2.2 q h
      · exact hL q h⟩ T' rfl X'
  exact ⟨t2, st t2 a1, b1⟩
def MyI (y : MethodName) (cb : ByteArray) (maxL : Nat) : Prop := (Cond.instanceMethod y ∈ ALL ∧ Cond.initialized y.cls ∈ ALL ∧ Cond.code y cb maxL none ∈ ALL) ∧ y.name = "<init>" ∧ y.cls ≠ "java/lang/invoke/MethodHandle" ∧ y.cls ≠ "java/lang/invoke/VarHandle" ∧ (parseMethodDescriptor y.desc).map (fun d => d.parameters.length) = some 0
theorem good_I {y : MethodName} {cb : ByteArray} {maxL : Nat} (My : MyI y cb maxL) : GoodIn ALL (.code y cb maxL none :: ALL) := goodALL (by
    intro w hw
    rcases List.mem_cons.mp hw with rfl | hw
    · exact My.1.2.2
    · exact hw)
/-- the constructor of a nest's member -/
theorem v_callN (X : Cx θ p s m args c cc nL own) (N : Nx s) {y : MethodName} {cb : ByteArray} {maxL d mc ms idx b : Nat} (hM : CnV θ l y cb maxL d mc ms [.ref b] V nV V' n') (Lk : (own, idx, y) ∈ NW) (My : MyI y cb maxL) (hc : (st.map fun v => v.category).sum ≤ 8) (hR : d + 1 ≤ R.frames ∧ 8 + (maxL + 11) + 40 * d ≤ R.locals) (hf : cells + mc ≤ R.cells ∧ slots + ms ≤ R.slots) (hd : decode cc pc = .ok (.invokespecial idx, 3)) (kk : GV θ p l e R s m args below meth c nL (cells + mc) (slots + ms) Q (pc + 3) lv st V' n') : GV θ p l e R s m args below meth c nL cells slots Q pc lv (.ref b :: st) V nV := by
  intro H locs ls hW hS hl
  have cw : va_CN R s args own idx y "NearlyBought" cb maxL none (.code y cb maxL none :: ALL) (rmq d mc ms) mc ms 0 := va_cnB 0 X.1.2.2.2.2 (good_I My) rfl rfl rfl (N.1 _ Lk) (X.1.2.2.2.2 _ My.1.2.1) My.2.2 hR
  exact v_back (va_runIN (As := []) (rest := st) (b := b) X.1 hM ⟨cw, My.2.1, X.1.2.2.2.2 _ My.1.1⟩ ⟨PrV.blind, fun U hU hw => ⟨rfl, PrV.of X N hW hS hU hw⟩⟩ rfl rfl hl.1 rfl (lv_room hc) hd hf) hS fun H1 locs1 h1 h2 => kk H1 locs1 ls h1 h2 hl
/-- a constructor that anyone may call -/
theorem v_callI (X : Cx θ p s m args c cc nL own) (N : Nx s) {y : MethodName} {cb : ByteArray} {maxL d mc ms idx b : Nat} (hM : CnV θ l y cb maxL d mc ms [.ref b] V nV V' n') (Lk : Cond.methodLink own idx y ∈ ALL) (My : MyI y cb maxL) (hc : (st.map fun v => v.category).sum ≤ 8) (hR : d + 1 ≤ R.frames ∧ 8 + (maxL + 11) + 40 * d ≤ R.locals) (hf : cells + mc ≤ R.cells ∧ slots + ms ≤ R.slots) (hd : decode cc pc = .ok (.invokespecial idx, 3)) (kk : GV θ p l e R s m args below meth c nL (cells + mc) (slots + ms) Q (pc + 3) lv st V' n') : GV θ p l e R s m args below meth c nL cells slots Q pc lv (.ref b :: st) V nV := by
  intro H locs ls hW hS hl
  have cw := cwI (R := R) (s := s) (args := args) (own := own) (index := idx) (y := y) (bytes := cb) (maxL := maxL) (rm := rmq d mc ms) (mc := mc) (ms := ms) (ws := .code y cb maxL none :: ALL) 0 X.1.2.2.2.2 (good_I My) rfl rfl rfl (X.1.2.2.2.2 _ My.1.2.1) (X.1.2.2.2.2 _ Lk) (X.1.2.2.2.2 _ My.1.1) My.2.1 My.2.2 hR
  exact v_back (va_runI (As := []) (rest := st) (b := b) X.1 hM cw ⟨PrV.blind, fun U hU hw => ⟨rfl, PrV.of X N hW hS hU hw⟩⟩ rfl rfl hl.1 rfl (lv_room hc) hd hf) hS fun H1 locs1 h1 h2 => kk H1 locs1 ls h1 h2 hl
theorem v_get (X : Cx θ p s m args c cc nL own) {idx ci k a : Nat} {v : Value} (F : Fl own idx ci k) (hd : decode cc pc = .ok (.getfield idx, 3)) (ha : kd a = ci + 1) (hla : a < nV) (hv : V a k = v) (kk : GV θ p l e R s m args below meth c nL cells slots Q (pc + 3) lv (v :: st) V nV) : GV θ p l e R s m args below meth c nL cells slots Q pc lv (.ref (be θ + a) :: st) V nV := by
  intro H locs ls hW hS hl
  obtain ⟨hc, hk, hlink⟩ := F
  have hob := (hW.2 a hla).1 ci ha hc
  have hP : va_P (tD θ) vwCl [(be θ + a, .inr (ci, (List.range (nF ci)).map (V a)))] H := by
    intro j q hq
    have hz : j < 1 := (List.getElem?_eq_some_iff.mp hq).1
    rw [show j = 0 by omega] at hq
    cases hq
    exact ⟨_, cl_ok ci hc, hob.to fun i hi => by simp [vp_V, hi]⟩
  refine va_get (D := tD θ) (ci := ci) (v := v) (C := clC ci) (T := clT ci) (N := nF ci) X.1.1 X.1.2.1 X.1.2.2.2.2 (cl_in ci hc) X.1.2.2.2.1 X.2.1 hP 0 rfl (cl_ok ci hc) k hk (X.1.2.2.2.2 _ hlink) (fun _ h9 => h9) ?_ hd (kk H locs ls hW hS hl)
  rw [← hv]
  simp [hk]
theorem v_alen (X : Cx θ p s m args c cc nL own) {a n k : Nat} {v : Int32} (hk : kd a = k) (hk2 : 17 ≤ k ∧ k ≤ 19) (hla : a < nV) (hn : ln a = n) (hv : Int32.ofNat n = v) (hd : decode cc pc = .ok (.arraylength, 1)) (kk : GV θ p l e R s m args below meth c nL cells slots Q (pc + 1) lv (.int v :: st) V nV) : GV θ p l e R s m args below meth c nL cells slots Q pc lv (.ref (be θ + a) :: st) V nV := by
  subst hn; subst hv; subst hk
  intro H locs ls hW hS hl
  obtain ⟨C, hC⟩ := tyq X.2.1 hk2
  exact W.alen (n := Int32.ofNat (ln a)) (ty := .object C) X.1.1 X.1.2.1 ((hW.2 a hla).2 (by omega)) (hC _ _) (by rw [arrV_size] <;> rfl) rfl rfl hd (kk H locs ls hW hS hl)
theorem v_anew (X : Cx θ p s m args c cc nL own) {C : String} {idx k N : Nat} {x : Int32} (hk : kd nV = k) (h13 : 13 ≤ k) (hln : ln nV = N) (Lk : Cond.classLink own idx C ∈ ALL) (hAO : va_AO C s) (hcl : s.vm.findClass ("[" ++ (FieldType.object C).toString) = some (aC θ k)) (hn : ¬ x < 0) (hN : x.toNatClampNeg = N) (hb : N * 4 ≤ 536870912) (hcells : cells + 1 ≤ R.cells) (hslots : slots + N ≤ R.slots) (hd : decode cc pc = .ok (.anewarray idx, 3)) (kk : GV θ p l e R s m args below meth c nL (cells + 1) (slots + N) Q (pc + 3) lv (.ref (be θ + nV) :: st) (upR V nV (fun _ => .null)) (nV + 1)) : GV θ p l e R s m args below meth c nL cells slots Q pc lv (.int x :: st) V nV := by
  subst hN
  intro H locs ls hW hS hl
  refine W.anew X.1.1 X.1.2.1 X.1.2.2.2.1 (X.1.2.2.2.2 _ Lk) (va_AO.use hAO) rfl hd rfl hn hb hcells hslots fun cA kA comp f1 f2 f3 f4 => ?_
  generalize hH1 : H.push ({ cls := cA, slots := Array.replicate x.toNatClampNeg .null, vm := .none } : Cell) = H1
  have z1 : H1.size = be θ + nV + 1 := by rw [← hH1, Array.size_push, hW.1]
  have o1 : ∀ q, q < be θ + nV → H1[q]? = H[q]? := fun q hq => by rw [← hH1, Array.getElem?_push, if_neg (by rw [hW.1]; omega)]
  have e1 : H1[be θ + nV]? = some (arrV cA x.toNatClampNeg (fun _ => .null)) := by rw [← hH1, ← arrV_new, ← hW.1]; simp
  rw [hW.1]
  refine kk H1 locs ls (hW.grow z1 o1 (fun cj h1 h2 => by omega) (fun _ => ?_)) (hS.grow hW.1 z1 o1) hl
  rw [hk, hln, e1]
  cases f1.symm.trans hcl
  rfl
theorem v_aast (X : Cx θ p s m args c cc nL own) {a b k ci t0 N : Nat} {i : Int32} (hk : kd a = k) (h13 : 13 ≤ k) (hla : a < nV) (hln : ln a = N) (hi : vp_in i N) (hb : kd b = ci + 1) (hc : ci < 12) (hlb : b < nV) (hRA : ∃ (kA : Class) (comp : ClassId), s.vm.classes[aC θ k]? = some kA ∧ kA.kind = .array comp (.object (clC ci)) ∧ s.vm.findClass (clC ci) = some comp) (hd : decode cc pc = .ok (.aastore, 1)) (kk : GV θ p l e R s m args below meth c nL cells slots Q (pc + 1) lv st (upC V a i.toNatClampNeg (.ref (be θ + b))) nV) : GV θ p l e R s m args below meth c nL cells slots Q pc lv (.ref (be θ + b) :: .int i :: .ref (be θ + a) :: st) V nV := by
  subst hk; subst hln
  intro H locs ls hW hS hl
  have hlt : i.toNatClampNeg < ln a := Nat.not_le.mp fun q => hi (Or.inr q)
  have h0 : ¬ i < 0 := fun q => hi (Or.inl q)
  obtain ⟨cellV, g1, g2, g3, -⟩ := (hW.2 b hlb).1 ci hb hc
  have hcls := (X.2.1.1 ci _ (cl_ok ci hc)).2
  obtain ⟨kA, comp, k1, k2, k3⟩ := hRA
  have hcomp : comp = (tD θ).1 ci := Option.some.inj (k3.symm.trans hcls.1)
  subst hcomp
  obtain ⟨kC, hkC, hh⟩ := hcls.2
  refine W.aast X.1.1 X.1.2.1 ((hW.2 a hla).2 h13) (fun q h => by cases h) (fun h => by cases h) k1 k2 rfl hkC ⟨h0, by show _ < (arrV _ _ _).slots.size; rw [arrV_size]; exact hlt⟩ g1 (fun q h => by rw [g3] at h; cases h) (by rw [g2]; exact hkC) (by rw [g2]; exact va_assign hcls) rfl rfl hd fun H1 e z oq => ?_
  refine kk H1 _ ls (hW.put hla z oq (fun cj h1 h2 => by omega) (fun _ => ?_)) (hS.put z oq (Nat.le_add_right _ _)) hl
  rw [e, arrV_store]
end GVT
