section GS
variable {θ : Th} {p : Program} {l : Launch} {e : Env} {R : Room} {s : State} {m : MethodId} {args : Array Value} {below : List Frame} {meth : Method} {c : Code} {cc : ByteArray} {own : String} {nL cells slots pc : Nat} {Q : State → Prop} {lv : List (Nat × Value)} {st : List Value} {σ : Mem}
/-! the ends of a method -/
theorem g_iret (X : Cx θ p s m args c cc nL own) {r : Option Value × Mem} {v : Int32} (hr : meth.sig.returnType = some .int) (hlk : meth.locks = false) (hd : decode cc pc = .ok (.ireturn, 1)) (h : r = (some (.int v), σ)) : G θ p l e R s m args below meth c nL cells slots (MQ below (Qy θ r) args s cells slots (Aq θ)) pc lv [.int v] σ := by
  subst h
  intro H locs ls hW hS hl
  exact W.iret X.1.1 X.1.2.1 hr (fun t ht hw => ⟨⟨rfl, Pr.of X hW hS ht hw⟩, hS.F ht⟩) hS.2.2 hd hlk
theorem g_zret (X : Cx θ p s m args c cc nL own) {r : Option Value × Mem} {v : Int32} (hr : meth.sig.returnType = some .boolean) (hlk : meth.locks = false) (hb : bz v) (hd : decode cc pc = .ok (.ireturn, 1)) (h : r = (some (.int v), σ)) : G θ p l e R s m args below meth c nL cells slots (MQ below (Qy θ r) args s cells slots (Aq θ)) pc lv [.int v] σ := by
  subst h
  intro H locs ls hW hS hl
  exact W.zret X.1.1 X.1.2.1 hr (by rcases hb with rfl | rfl <;> decide) (fun t ht hw => ⟨⟨rfl, Pr.of X hW hS ht hw⟩, hS.F ht⟩) hS.2.2 hd hlk
theorem g_vret (X : Cx θ p s m args c cc nL own) {r : Option Value × Mem} (hr : meth.sig.returnType = none) (hlk : meth.locks = false) (hd : decode cc pc = .ok (.return_, 1)) (h : r = (none, σ)) : G θ p l e R s m args below meth c nL cells slots (MQ below (Qy θ r) args s cells slots (Aq θ)) pc lv [] σ := by
  subst h
  intro H locs ls hW hS hl
  exact W.vret X.1.1 X.1.2.1 hr (fun t ht hw => ⟨⟨rfl, Pr.of X hW hS ht hw⟩, hS.F ht⟩) hS.2.2 hd hlk
theorem g_aret (X : Cx θ p s m args c cc nL own) {r : Option Value × Mem} {a : Nat} {C : String} (hr : meth.sig.returnType = some (.object C)) (hlk : meth.locks = false) (hd : decode cc pc = .ok (.areturn, 1)) (h : r = (some (.ref (be θ + a)), σ)) : G θ p l e R s m args below meth c nL cells slots (MQ below (Qy θ r) args s cells slots (Aq θ)) pc lv [.ref (be θ + a)] σ := by
  subst h
  intro H locs ls hW hS hl
  exact W.aret X.1.1 X.1.2.1 hr (Or.inl ⟨_, rfl⟩) (Or.inr ⟨_, rfl⟩) (fun t ht hw => ⟨⟨rfl, Pr.of X hW hS ht hw⟩, hS.F ht⟩) hS.2.2 hd hlk
/-! calls -/
theorem g_back {r : Option Value × Mem} {a : Array Value} {mc ms : Nat} {rest st0 : List Value} {H : Heap} {locs : List Loc} {ls : Array Slot} (hr : va_Run p l e R s m args below meth c H locs cells slots mc ms (F0 m pc ls st0) rest (Qy θ r a) (Aq θ)) (hS : va_S (Aq θ) s.heap H locs)
    (kk : ∀ (H1 : Heap) (locs1 : List Loc), Wd θ r.2 H1 → va_S (Aq θ) s.heap H1 locs1 → W p l e R s m args below meth c H1 locs1 (cells + mc) (slots + ms) Q (F0 m (pc + 3) ls (r.1.toList ++ rest))) : W p l e R s m args below meth c H locs cells slots Q (F0 m pc ls st0) := by
  intro T hT X
  obtain ⟨v, st₀, t, T', L, h0, X', hL, e1, e2, ⟨⟨hv, hP⟩, hz, hk⟩, st⟩ := hr T hT X
  cases hv
  rw [h0] at hz hk
  obtain ⟨t2, a1, b1⟩ := kk T'.heap (locs ++ L) (by rw [e1]; exact hP.1)
    ⟨Nat.le_trans hS.1 (by rw [e1]; exact hz), fun q h1 h2 => by rw [e1, hk q (Nat.lt_of_lt_of_le h1 hS.1) h2]; exact hS.2.1 q h1 h2, fun q hq => by
      rcases List.mem_append.mp hq with h | h
      · exact hS.2.2 q h
      · exact hL q h⟩ T' rfl X'
  exact ⟨t2, st t2 a1, b1⟩
def MyV (y : MethodName) (cb : ByteArray) (maxL : Nat) (ret : Option FieldType) (n : Nat) : Prop :=
  (Cond.instanceMethod y ∈ ALL ∧ Cond.selects y.cls y y ∈ ALL ∧ Cond.initialized y.cls ∈ ALL ∧ Cond.code y cb maxL ret ∈ ALL) ∧ y.cls ≠ "java/lang/invoke/MethodHandle" ∧ y.cls ≠ "java/lang/invoke/VarHandle" ∧ (parseMethodDescriptor y.desc).map (fun d => d.parameters.length) = some n
def MyS (y : MethodName) (cb : ByteArray) (maxL : Nat) (ret : Option FieldType) (n : Nat) : Prop :=
  (Cond.static y ∈ ALL ∧ Cond.initialized y.cls ∈ ALL ∧ Cond.code y cb maxL ret ∈ ALL) ∧ y.cls ≠ "java/lang/invoke/MethodHandle" ∧ y.cls ≠ "java/lang/invoke/VarHandle" ∧ (parseMethodDescriptor y.desc).map (fun d => d.parameters.length) = some n
theorem g_callV0 (X : Cx θ p s m args c cc nL own) {y : MethodName} {cb : ByteArray} {maxL d n idx b : Nat} {ret : Option FieldType} {As rest : List Value} {r : Option Value × Mem} (hM : Cn θ l y cb maxL ret d 0 0 (.ref b :: As) σ r) (Lk : Cond.methodLink own idx y ∈ ALL) (My : MyV y cb maxL ret n)
    (hrec : ∀ (H : Heap) (locs : List Loc), Wd θ σ H → va_S (Aq θ) s.heap H locs → ∃ cellB : Cell, H[b]? = some cellB ∧ cellB.vm.isStatics = false ∧ s.vm.findClass y.cls = some cellB.cls) (hn : As.length = n) (hst : st = As.reverse ++ .ref b :: rest) (hc : (rest.map fun v => v.category).sum ≤ 8) (hR : d + 1 ≤ R.frames ∧ 8 + (maxL + 11) + 40 * d ≤ R.locals) (hf : cells ≤ R.cells ∧ slots ≤ R.slots)
    (hd : decode cc pc = .ok (.invokevirtual idx, 3)) (kk : G θ p l e R s m args below meth c nL cells slots Q (pc + 3) lv (r.1.toList ++ rest) r.2) : G θ p l e R s m args below meth c nL cells slots Q pc lv st σ := by
  intro H locs ls hW hS hl
  have cw : CallW R s args own y.cls idx y cb maxL ret (.code y cb maxL ret :: ALL) (rmq d 0 0) 0 0 n := cwV n X.1.2.2.2.2 (goodALL (by
    intro w hw
    simp only [wsV, List.cons_append, List.nil_append, List.mem_cons] at hw
    rcases hw with rfl | rfl | rfl | rfl | rfl | hw
    · exact Lk
    · exact My.1.1
    · exact My.1.2.1
    · exact My.1.2.2.1
    · exact My.1.2.2.2
    · exact hw)) rfl rfl rfl ⟨rfl, My.2⟩ hR
  refine g_back (r := r) (mc := 0) (ms := 0) (va_runV (rest := rest) X.1 hM cw ⟨Pr.blind, hrec H locs hW hS, fun U hU hw => ⟨rfl, Pr.of X hW hS hU hw⟩⟩ rfl hn hl.1 hst (lv_room hc) hd hf) hS fun H1 locs1 h1 h2 => kk H1 locs1 ls h1 h2 hl
theorem obj_recv (X : Cx θ p s m args c cc nL own) {a ci : Nat} (ha : kd a = ci + 1) (hc : ci < 12) (H : Heap) (locs : List Loc) (hW : Wd θ σ H) (_ : va_S (Aq θ) s.heap H locs) : ∃ cellB : Cell, H[be θ + a]? = some cellB ∧ cellB.vm.isStatics = false ∧ s.vm.findClass (clC ci) = some cellB.cls := by
  obtain ⟨cell, q1, q2, q3, -⟩ := (hW a).1 ci ha hc
  exact ⟨cell, q1, by rw [q3]; rfl, by rw [q2]; exact (X.2.1.1 ci _ (cl_ok ci hc)).2.1⟩
theorem str_recv (X : Cx θ p s m args c cc nL own) {k : Nat} (hk : k < 6) (H : Heap) (locs : List Loc) (_ : Wd θ σ H) (hS : va_S (Aq θ) s.heap H locs) : ∃ cellB : Cell, H[sA θ k]? = some cellB ∧ cellB.vm.isStatics = false ∧ s.vm.findClass "java/lang/String" = some cellB.cls := vk_recv X.2.2.1.2.1 hk hS
theorem g_callV (X : Cx θ p s m args c cc nL own) {y : MethodName} {cb : ByteArray} {maxL d n idx a ci : Nat} {ret : Option FieldType} {As rest : List Value} {r : Option Value × Mem} (hM : Cn θ l y cb maxL ret d 0 0 (.ref (be θ + a) :: As) σ r) (Lk : Cond.methodLink own idx y ∈ ALL) (My : MyV y cb maxL ret n) (ha : kd a = ci + 1) (hci : ci < 12) (hy : y.cls = clC ci) (hn : As.length = n) (hst : st = As.reverse ++ .ref (be θ + a) :: rest) (hc : (rest.map fun v => v.category).sum ≤ 8) (hR : d + 1 ≤ R.frames ∧ 8 + (maxL + 11) + 40 * d ≤ R.locals) (hf : cells ≤ R.cells ∧ slots ≤ R.slots)
    (hd : decode cc pc = .ok (.invokevirtual idx, 3)) (kk : G θ p l e R s m args below meth c nL cells slots Q (pc + 3) lv (r.1.toList ++ rest) r.2) : G θ p l e R s m args below meth c nL cells slots Q pc lv st σ := g_callV0 X hM Lk My (by rw [hy]; exact obj_recv X ha hci) hn hst hc hR hf hd kk
theorem g_callT (X : Cx θ p s m args c cc nL own) {y : MethodName} {cb : ByteArray} {maxL d n idx k : Nat} {ret : Option FieldType} {As rest : List Value} {r : Option Value × Mem} (hM : Cn θ l y cb maxL ret d 0 0 (.ref (sA θ k) :: As) σ r) (Lk : Cond.methodLink own idx y ∈ ALL) (My : MyV y cb maxL ret n) (hk : k < 6) (hy : y.cls = "java/lang/String") (hn : As.length = n) (hst : st = As.reverse ++ .ref (sA θ k) :: rest) (hc : (rest.map fun v => v.category).sum ≤ 8) (hR : d + 1 ≤ R.frames ∧ 8 + (maxL + 11) + 40 * d ≤ R.locals) (hf : cells ≤ R.cells ∧ slots ≤ R.slots)
    (hd : decode cc pc = .ok (.invokevirtual idx, 3)) (kk : G θ p l e R s m args below meth c nL cells slots Q (pc + 3) lv (r.1.toList ++ rest) r.2) : G θ p l e R s m args below meth c nL cells slots Q pc lv st σ := g_callV0 X hM Lk My (by rw [hy]; exact str_recv X hk) hn hst hc hR hf hd kk
theorem g_callS (X : Cx θ p s m args c cc nL own) {y : MethodName} {cb : ByteArray} {maxL d n idx : Nat} {ret : Option FieldType} {As rest : List Value} {r : Option Value × Mem} (hM : Cn θ l y cb maxL ret d 0 0 As σ r) (Lk : Cond.methodLink own idx y ∈ ALL) (My : MyS y cb maxL ret n) (hn : As.length = n) (hst : st = As.reverse ++ rest) (hc : (rest.map fun v => v.category).sum ≤ 8) (hR : d + 1 ≤ R.frames ∧ 8 + (maxL + 11) + 40 * d ≤ R.locals) (hf : cells ≤ R.cells ∧ slots ≤ R.slots)
    (hd : decode cc pc = .ok (.invokestatic idx, 3)) (kk : G θ p l e R s m args below meth c nL cells slots Q (pc + 3) lv (r.1.toList ++ rest) r.2) : G θ p l e R s m args below meth c nL cells slots Q pc lv st σ := by
  intro H locs ls hW hS hl
  have cw := va_cwS (R := R) (s := s) (args := args) (own := own) (index := idx) (y := y) (bytes := cb) (maxL := maxL) (ret := ret) (rm := rmq d 0 0) (mc := 0) (ms := 0) (ws := .code y cb maxL ret :: ALL) n X.1.2.2.2.2 (goodALL (by
    intro w hw
    simp only [va_wsS, List.cons_append, List.nil_append, List.mem_cons] at hw
    rcases hw with rfl | rfl | rfl | rfl | hw
    · exact Lk
    · exact My.1.1
    · exact My.1.2.1
    · exact My.1.2.2
    · exact hw)) rfl rfl rfl My.2 hR
  refine g_back (r := r) (mc := 0) (ms := 0) (va_runS (rest := rest) X.1 hM cw ⟨Pr.blind, fun U hU hw => ⟨rfl, Pr.of X hW hS hU hw⟩⟩ rfl hn hl.1 hst (lv_room hc) hd hf) hS fun H1 locs1 h1 h2 => kk H1 locs1 ls h1 h2 hl
/-! the whole world as a list of cells -/
def cE (θ : Th) (σ : Mem) (a : Nat) : va_E := if kd a ≤ 12 then .inr (kd a - 1, (List.range (nF (kd a - 1))).map (fv θ σ (kd a - 1) a)) else .inl (aC θ (kd a), ln a, if kd a = 16 then .inr (.inl (mL σ a)) else if kd a ≤ 15 then .inl (mI σ a) else .inr (.inr (.inr (.inr (fun j => some (be θ + ra a j))))))
def wL (θ : Th) (σ : Mem) : va_W := (List.range 591).map (fun a => (be θ + a, cE θ σ a))
theorem kd_pos : ∀ a, a < 591 → 1 ≤ kd a ∧ kd a ≤ 19 := by decide +kernel
theorem kd_big (a : Nat) (h : 591 ≤ a) : kd a = 0 := by
  have hl : lay.length = 591 := by decide +kernel
  simp [kd, List.getD_eq_getElem?_getD, List.getElem?_eq_none (show lay.length ≤ a by omega)]
theorem wL_at {θ : Th} {σ : Mem} {a : Nat} (h : a < 591) : (wL θ σ)[a]? = some (be θ + a, cE θ σ a) := by simp [wL, h]
theorem wL_of {θ : Th} {σ : Mem} {k : Nat} {q : Nat × va_E} (h : (wL θ σ)[k]? = some q) : k < 591 ∧ q = (be θ + k, cE θ σ k) := by
  have hk : k < (wL θ σ).length := (List.getElem?_eq_some_iff.mp h).1
  have hk' : k < 591 := by simpa [wL] using hk
  rw [wL_at hk'] at h
  exact ⟨hk', (Option.some.inj h).symm⟩
theorem cell_at {θ : Th} {σ : Mem} {a : Nat} {H : Heap} (h : a < 591) : cellOk θ σ a H ↔ va_at (tD θ) vwCl (be θ + a, cE θ σ a) H := by
  obtain ⟨h1, h2⟩ := kd_pos a h
  by_cases h12 : kd a ≤ 12
  · have hc : kd a - 1 < 12 := by omega
    have e : cE θ σ a = .inr (kd a - 1, (List.range (nF (kd a - 1))).map (fv θ σ (kd a - 1) a)) := by rw [cE, if_pos h12]
    rw [e]
    constructor
    · intro q
      exact ⟨_, cl_ok _ hc, (q.1 (kd a - 1) (by omega) hc).to fun i hi => by simp [vp_V, hi]⟩
    · rintro ⟨r, hr, q⟩
      have hr2 := cl_ok _ hc
      rw [hr] at hr2
      cases hr2
      refine ⟨fun ci hci _ => ?_, fun h13 => by omega⟩
      have : ci = kd a - 1 := by omega
      subst this
      exact q.to fun i hi => by simp [vp_V, show i < nF (kd a - 1) from hi]
  · have h13 : 13 ≤ kd a := by omega
    have key : vp_cell (aC θ (kd a)) (ln a, if kd a = 16 then .inr (.inl (mL σ a)) else if kd a ≤ 15 then .inl (mI σ a) else .inr (.inr (.inr (.inr (fun j => some (be θ + ra a j)))))) = arrV (aC θ (kd a)) (ln a) (fun j => ev θ σ (kd a) a j) := by
      by_cases e1 : kd a = 16
      · simp only [if_pos e1]; rw [vp_cell_l]; congr 1; funext j; simp [ev, e1]
      · by_cases e2 : kd a ≤ 15
        · simp only [if_neg e1, if_pos e2]; rw [vp_cell_i]; congr 1; funext j; simp [ev, e1, e2]
        · simp only [if_neg e1, if_neg e2]; rw [vp_cell_q]; congr 1; funext j; simp [ev, e1, e2, va_rf]
    rw [cE, if_neg h12]
    constructor
    · intro q
      show H[be θ + a]? = some (vp_cell _ _)
      rw [key]
      exact q.2 h13
    · intro q
      refine ⟨fun ci hci h9 => by omega, fun _ => ?_⟩
      have q' : H[be θ + a]? = some (vp_cell _ _) := q
      rw [key] at q'
      exact q'
theorem Wd.toL {θ : Th} {σ : Mem} {H : Heap} (h : Wd θ σ H) : va_P (tD θ) vwCl (wL θ σ) H := by
  intro k q hq
  obtain ⟨hk, rfl⟩ := wL_of hq
  exact (cell_at hk).mp (h k)
theorem Wd.ofL {θ : Th} {σ : Mem} {H : Heap} (h : va_P (tD θ) vwCl (wL θ σ) H) : Wd θ σ H := by
  intro a
  by_cases ha : a < 591
  · exact (cell_at ha).mpr (h a _ (wL_at ha))
  · have := kd_big a (by omega)
    exact ⟨fun ci h1 _ => by omega, fun h1 => by omega⟩
theorem wL_D {θ : Th} {σ : Mem} : va_D (Aq θ) (wL θ σ) := by
  refine ⟨fun i j x y hx hy hxy => ?_, fun k q hq => ?_⟩
  · obtain ⟨-, rfl⟩ := wL_of hx
    obtain ⟨-, rfl⟩ := wL_of hy
    simp only at hxy
    omega
  · obtain ⟨-, rfl⟩ := wL_of hq
    exact Nat.le_add_right _ _
theorem wL_set {θ : Th} {σ : Mem} {a : Nat} {f : Nat → Int32} (ha : a < 591) (hk : kd a = 13) : (wL θ σ).set a (be θ + a, .inl (aC θ 13, ln a, .inl f)) = wL θ (rI σ a f) := by
  apply List.ext_getElem?
  intro i
  rw [List.getElem?_set]
  by_cases hi : a = i
  · subst hi
    have hl : a < (wL θ σ).length := by simpa [wL] using ha
    simp only [if_true, if_pos hl, wL_at ha, cE, hk]
    simp [mI_rI_self]
  · rw [if_neg hi]
    by_cases h5 : i < 591
    · rw [wL_at h5, wL_at h5]
      have e : mI (rI σ a f) i = mI σ i := mI_rI_ne (fun q => hi q.symm)
      have e2 : ∀ ci k, fv θ (rI σ a f) ci i k = fv θ σ ci i k := fun ci k => by
        unfold fv
        split <;> first | rfl | (rw [e]) | skip
      have e3 : fv θ (rI σ a f) (kd i - 1) i = fv θ σ (kd i - 1) i := by funext k; exact e2 _ _
      simp only [cE, e, e3]
      rfl
    · rw [List.getElem?_eq_none (by simp [wL]; omega), List.getElem?_eq_none (by simp [wL]; omega)]
theorem kd_lt {a : Nat} (h : 1 ≤ kd a) : a < 591 := by
  by_cases h2 : a < 591
  · exact h2
  · have := kd_big a (by omega); omega
theorem cE13 {θ : Th} {σ : Mem} {a : Nat} (h : kd a = 13) : cE θ σ a = .inl (aC θ 13, ln a, .inl (mI σ a)) := by simp [cE, h]
def Lc (own : String) (idx : Nat) : Prop := Cond.methodLink own idx arraycopyName ∈ ALL ∧ Cond.native arraycopyName ∈ ALL ∧ Cond.static arraycopyName ∈ ALL ∧ Cond.initialized "java/lang/System" ∈ ALL
def cpyOk (n0 n1 : Nat) (sp dp n : Int32) : Prop := (¬ sp < 0 ∧ ¬ dp < 0 ∧ ¬ n < 0) ∧ sp.toNatClampNeg + n.toNatClampNeg ≤ n0 ∧ dp.toNatClampNeg + n.toNatClampNeg ≤ n1
def cpyM (f g : Nat → Int32) (sp dp n : Int32) : Nat → Int32 := va_cpy f g sp.toNatClampNeg dp.toNatClampNeg n.toNatClampNeg
theorem g_copy (X : Cx θ p s m args c cc nL own) {a0 a n0 n1 idx : Nat} {sp dp n : Int32} (Lk : Lc own idx) (hk0 : kd a0 = 13) (hk : kd a = 13) (hn0 : ln a0 = n0) (hn1 : ln a = n1) (ho : cpyOk n0 n1 sp dp n) (hR : 1 ≤ R.frames ∧ (st.map fun v => v.category).sum + 18 ≤ R.locals) (hd : decode cc pc = .ok (.invokestatic idx, 3)) (kk : G θ p l e R s m args below meth c nL cells slots Q (pc + 3) lv st (rI σ a (cpyM (mI σ a0) (mI σ a) sp dp n))) : G θ p l e R s m args below meth c nL cells slots Q pc lv (.int n :: .int dp :: .ref (be θ + a) :: .int sp :: .ref (be θ + a0) :: st) σ := by
  subst hn0; subst hn1
  intro H locs ls hW hS hl
  obtain ⟨⟨o1, o2, o3⟩, o4, o5⟩ := ho
  have hts := X.1.2.2.2.2
  refine va_copyi (D := tD θ) (cl := vwCl) (ty := .int) X.1.1 X.1.2.1 (by rw [X.1.2.2.1, hl.1]) X.1.2.2.2.1 (hts _ Lk.1) (hts _ Lk.2.1) (hts _ Lk.2.2.1) (hts _ Lk.2.2.2) X.2.1 hW.toL wL_D hS a0 a 0 0 (by rw [wL_at (kd_lt (by omega)), cE13 hk0]) (by rw [wL_at (kd_lt (by omega)), cE13 hk]) rfl rfl rfl o1 o2 o3 o4 o5 (fun _ _ => rfl) hR.1 hR.2 hd fun H1 locs1 h1 _ h3 => kk H1 locs1 ls (Wd.ofL ?_) h3 hl
  rw [wL_set (kd_lt (by omega)) hk] at h1
  exact h1
theorem g_copyT (X : Cx θ p s m args c cc nL own) {a n1 idx : Nat} {sp dp n : Int32} (Lk : Lc own idx) (hk : kd a = 13) (hn1 : ln a = n1) (ho : cpyOk 11 n1 sp dp n) (hR : 1 ≤ R.frames ∧ (st.map fun v => v.category).sum + 18 ≤ R.locals) (hd : decode cc pc = .ok (.invokestatic idx, 3)) (kk : G θ p l e R s m args below meth c nL cells slots Q (pc + 3) lv st (rI σ a (cpyM (tb 1) (mI σ a) sp dp n))) : G θ p l e R s m args below meth c nL cells slots Q pc lv (.int n :: .int dp :: .ref (be θ + a) :: .int sp :: .ref (tA θ 1) :: st) σ := by
  subst hn1
  intro H locs ls hW hS hl
  obtain ⟨⟨o1, o2, o3⟩, o4, o5⟩ := ho
  have hts := X.1.2.2.2.2
  have hX := X.2.2.1.1.1
  obtain ⟨cl0, w1, -, -, -, -, -, w2⟩ := X.2.2.1.1.2.2.2.2.1
  refine va_copyx (D := tD θ) (cl := vwCl) X.1.1 X.1.2.1 (by rw [X.1.2.2.1, hl.1]) X.1.2.2.2.1 (hts _ Lk.1) (hts _ Lk.2.1) (hts _ Lk.2.2.1) (hts _ Lk.2.2.2) X.2.1 hW.toL wL_D hS hX (Array.getElem?_eq_some_iff.mp w1).1 w2 a 0 (by rw [wL_at (kd_lt (by omega)), cE13 hk]) rfl o1 o2 o3 o4 o5 hR.1 hR.2 hd fun H1 locs1 h1 _ h3 => kk H1 locs1 ls (Wd.ofL ?_) h3 hl
  rw [wL_set (kd_lt (by omega)) hk] at h1
  exact h1
/-! Math -/
def Lm (own : String) (idx : Nat) (y : MethodName) (cb : ByteArray) (n : Nat) (ty : FieldType) : Prop := Cond.methodLink own idx y ∈ ALL ∧ Cond.static y ∈ ALL ∧ Cond.initialized "java/lang/Math" ∈ ALL ∧ Cond.code y cb n (some ty) ∈ ALL
def imax (x y : Int32) : Int32 := if x < y then y else x
def imin (x y : Int32) : Int32 := if y < x then y else x
def lmax (x y : Int64) : Int64 := if y < x then x else y
theorem g_max (X : Cx θ p s m args c cc nL own) {idx : Nat} {x y : Int32} (Lk : Lm own idx Lib.Math.max.name Lib.Math.max.code 2 .int) (hR : 1 ≤ R.frames ∧ (st.map fun v => v.category).sum + 13 ≤ R.locals) (hf : cells ≤ R.cells ∧ slots ≤ R.slots) (hd : decode cc pc = .ok (.invokestatic idx, 3)) (kk : G θ p l e R s m args below meth c nL cells slots Q (pc + 3) lv (.int (imax x y) :: st) σ) : G θ p l e R s m args below meth c nL cells slots Q pc lv (.int y :: .int x :: st) σ := fun H locs ls hW hS hl =>
  va_mmax X.1.1 X.1.2.1 (by rw [X.1.2.2.1, hl.1]) X.1.2.2.2.1 (X.1.2.2.2.2 _ Lk.1) (X.1.2.2.2.2 _ Lk.2.1) (X.1.2.2.2.2 _ Lk.2.2.1) (X.1.2.2.2.2 _ Lk.2.2.2) hR.1 hR.2 hf.1 hf.2 hd (kk H locs ls hW hS hl)
theorem g_min (X : Cx θ p s m args c cc nL own) {idx : Nat} {x y : Int32} (Lk : Lm own idx Lib.Math.min.name Lib.Math.min.code 2 .int) (hR : 1 ≤ R.frames ∧ (st.map fun v => v.category).sum + 13 ≤ R.locals) (hf : cells ≤ R.cells ∧ slots ≤ R.slots) (hd : decode cc pc = .ok (.invokestatic idx, 3)) (kk : G θ p l e R s m args below meth c nL cells slots Q (pc + 3) lv (.int (imin x y) :: st) σ) : G θ p l e R s m args below meth c nL cells slots Q pc lv (.int y :: .int x :: st) σ := fun H locs ls hW hS hl =>
  va_mmin X.1.1 X.1.2.1 (by rw [X.1.2.2.1, hl.1]) X.1.2.2.2.1 (X.1.2.2.2.2 _ Lk.1) (X.1.2.2.2.2 _ Lk.2.1) (X.1.2.2.2.2 _ Lk.2.2.1) (X.1.2.2.2.2 _ Lk.2.2.2) hR.1 hR.2 hf.1 hf.2 hd (kk H locs ls hW hS hl)
theorem g_maxl (X : Cx θ p s m args c cc nL own) {idx : Nat} {x y : Int64} (Lk : Lm own idx Lib.MathLoose.max_long.x Lib.MathLoose.max_long.code 4 .long) (hR : 1 ≤ R.frames ∧ (st.map fun v => v.category).sum + 15 ≤ R.locals) (hf : cells ≤ R.cells ∧ slots ≤ R.slots) (hd : decode cc pc = .ok (.invokestatic idx, 3)) (kk : G θ p l e R s m args below meth c nL cells slots Q (pc + 3) lv (.long (lmax x y) :: st) σ) : G θ p l e R s m args below meth c nL cells slots Q pc lv (.long y :: .long x :: st) σ := fun H locs ls hW hS hl =>
  va_mmax_long X.1.1 X.1.2.1 (by rw [X.1.2.2.1, hl.1]) X.1.2.2.2.1 (X.1.2.2.2.2 _ Lk.1) (X.1.2.2.2.2 _ Lk.2.1) (X.1.2.2.2.2 _ Lk.2.2.1) (X.1.2.2.2.2 _ Lk.2.2.2) hR.1 hR.2 hf.1 hf.2 hd (kk H locs ls hW hS hl)
end GS
