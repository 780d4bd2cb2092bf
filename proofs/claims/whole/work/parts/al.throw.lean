/-! buyer may throw -/
def NSE : String := "java/util/NoSuchElementException"
def nmE : List String := ["java/lang/RuntimeException", "java/lang/Exception"]
def tL : List Cond := vx_at0 RX10 179 NSE nmE
def tB : List Cond := [.declares (Bundle.init0 "java/lang/RuntimeException"), .declares (Bundle.init0 "java/lang/Exception"), .declares (Bundle.init0 "java/lang/Throwable"), .castable NSE NSE]
def ThX (U : State) : Prop := va_Nw (.declares (Bundle.init0 "java/lang/RuntimeException")) U ∧ va_Nw (.declares (Bundle.init0 "java/lang/Exception")) U ∧ va_Nw (.declares (Bundle.init0 "java/lang/Throwable")) U ∧ va_Nw (.castable NSE NSE) U
theorem ThX.same {u U : State} (h : u.vm = U.vm) (q : ThX u) : ThX U := ⟨va_Nw.same rfl h q.1, va_Nw.same rfl h q.2.1, va_Nw.same rfl h q.2.2.1, va_Nw.same rfl h q.2.2.2⟩
theorem ThX.warm {s U : State} (h : s.WarmedH U.vm) (q : ThX s) : ThX U := ⟨va_Nw.warmD h q.1, va_Nw.warmD h q.2.1, va_Nw.warmD h q.2.2.1, va_Nw.warmC h q.2.2.2⟩
set_option maxRecDepth 20000 in
theorem tL_in : ∀ w ∈ tL.filter goodWord, w ∈ ALL := by
  have h : tL.filter goodWord = [131, 1257, 1266, 1268, 1271, 1273, 1258, 1259, 142, 143, 1260, 1265, 1269, 1285, 1247, 1286, 1249, 1287, 1251, 1261, 1263, 1253, 1275, 1276, 1277, 1278, 1278, 1279, 1280, 1281, 1281, 1282, 1283, 1258, 1274, 1236, 1244, 1245, 1246, 1248, 1250, 1252, 1256, 1255, 1254].filterMap (fun i => lw_tbl[i]?) := by decide +kernel
  intro w hw
  have h1 := (List.mem_filter.mp hw).2
  rw [h] at hw
  obtain ⟨i, -, hi⟩ := List.mem_filterMap.mp hw
  exact allIdx i hi h1
theorem tL_out : ∀ w ∈ tL.filter (fun w => !goodWord w), w ∈ tB := by
  have h : ((tL.filter (fun w => !goodWord w)).all fun w => decide (w ∈ tB)) = true := by decide +kernel
  intro w hw
  exact of_decide_eq_true (List.all_eq_true.mp h w hw)
theorem tL_ot : ∀ w ∈ Cond.classLink RX10 177 NSE :: Cond.initialized NSE :: tL, vx_ot w = true := by
  have h : ((Cond.classLink RX10 177 NSE :: Cond.initialized NSE :: tL).all vx_ot) = true := by decide +kernel
  intro w hw
  exact List.all_eq_true.mp h w hw
theorem ck_NSE : Cond.classLink RX10 177 NSE ∈ ALL := allIdx 1235 (by decide +kernel) rfl
theorem ii_NSE : Cond.initialized NSE ∈ ALL := allIdx 134 (by decide +kernel) rfl
theorem tL_hold {s : State} {a : Array Value} (hts : ∀ w ∈ ALL, w.before a s = true) (hT : ThX s) : ∀ w ∈ tL, w.before a s = true :=
  vx_hat (fun w hw => hts w (tL_in w hw)) tL_out (vx_c (va_Nw.use rfl hT.1) (vx_c (va_Nw.use rfl hT.2.1) (vx_c (va_Nw.use rfl hT.2.2.1) (vx_c (va_Nw.use rfl hT.2.2.2) vx_n))))
theorem Wd.grown {θ : Th} {σ : Mem} {H H1 : Heap} (h : Wd θ σ H) (hq : ∀ q : Nat, q < H.size → H1[q]? = H[q]?) : Wd θ σ H1 := fun a => ⟨fun ci hk hc => by
    obtain ⟨cell, q1, q2⟩ := (h a).1 ci hk hc
    exact ⟨cell, by rw [hq _ (Array.getElem?_eq_some_iff.mp q1).1]; exact q1, q2⟩, fun hk => by
    have q1 := (h a).2 hk
    rw [hq _ (Array.getElem?_eq_some_iff.mp q1).1]
    exact q1⟩
def PT (θ : Th) (σ : Mem) (U : State) : Prop := Pr θ σ U ∧ ThX U
theorem PT.blind {θ : Th} {σ : Mem} {av : List Value} : FrameBlind (va_Pc av (PT θ σ)) := by
  intro a U g mk ⟨h1, h2, h3⟩
  have h4 := Pr.blind (θ := θ) (σ := σ) (av := av) a U g mk ⟨h1, h2⟩
  exact ⟨h4.1, h4.2, ThX.same (u := U) (U := U.calling g mk a) rfl h3⟩
def QB (θ : Th) (σ : Mem) (bad v : Int32) : Array Value → State → Outcome → State → Prop := fun _ st oc t => bad = 0 ∧ (oc = .returned (some (.int v)) ∧ Pr θ σ t) ∧ va_F (Aq θ) st t
def XB (θ : Th) (σ : Mem) (bad : Int32) : String → State → State → Prop := fun E st t => bad = 1 ∧ E = NSE ∧ Wd θ σ t.heap ∧ va_F (Aq θ) st t
theorem c_buyer {θ : Th} {l : Launch} (hl0 : l.stackTraces = false) {σ : Mem} {x1 x2 bad v : Int32} (hbad : f_Game_buyerBad σ x1 x2 = some bad) (hv : bad = 0 → f_Game_buyer σ x1 x2 = some v) :
    vx_Met l yX10_buyer (.code yX10_buyer cX10_buyer 3 (some .int) :: ALL) (rmq 6 1 6) (va_Pc [.ref (be θ + 0), .int x1, .int x2] (PT θ σ)) (QB θ σ bad v) (XB θ σ bad) 1 6 (Aq θ) := by
  refine vx_ofW (cc := cX10_buyer) (maxL := 3) (ret := some .int) (by decide) rfl ?_
  intro p e s m args below meth c s₁ B hml ht hP
  obtain ⟨rfl, ⟨h2, h3, h4, h5⟩, hT⟩ := hP
  have hts := atoms_spec (ws := .code yX10_buyer cX10_buyer 3 (some .int) :: ALL) B.pre
  have hown : s.vm.findClass RX10 = some m.cls := findClass_of_methodNamed B.named
  have X : Cx θ p s m [Value.ref (be θ + 0), .int x1, .int x2].toArray c cX10_buyer 3 RX10 := ⟨⟨B.exec, B.bytes, hml, hown, fun w hw => hts w (List.mem_cons_of_mem _ hw)⟩, h3, h4, h5⟩
  have hr := B.returns
  have hlk := B.notSynchronized
  have hl := lv_entry [Value.ref (be θ + 0), .int x1, .int x2] (n := 3) (Nat.le_of_ble_eq_true rfl)
  rw [lg_entry_eq]
  refine buyer_in (cells := 0) (slots := 0) X hbad ⟨Nat.le_of_ble_eq_true rfl, Nat.le_of_ble_eq_true rfl⟩ ⟨Nat.zero_le _, Nat.zero_le _⟩ (fun e0 y0 y6 => ?_) (fun e1 => ?_) s.heap [] _ h2 va_S.rf hl
  · refine buyer_at X (hv e0) y0 y6 ⟨Nat.le_of_ble_eq_true rfl, Nat.le_of_ble_eq_true rfl⟩ ⟨Nat.zero_le _, Nat.zero_le _⟩ fun pc hd => ?_
    intro H locs ls hW hS hl
    refine W.widen (k := 1) (n := 6) (Nat.zero_le _) (Nat.zero_le _) ?_
    refine vx_ret ?_
    exact W.iret X.1.1 X.1.2.1 hr (fun t ht hw => ⟨e0, ⟨rfl, Pr.of X hW hS ht hw⟩, hS.F ht⟩) hS.2.2 hd hlk
  · intro H locs ls hW hS hl
    have hU : vx_Zq Bundle.tN "UNASSIGNED_STACK" Bundle.steD (Aq θ) s s.heap := ⟨X.2.2.1.2.2.2.2.2.1, X.2.2.1.2.2.2.2.2.2.1⟩
    have hN : vx_Zq Bundle.tN "SUPPRESSED_SENTINEL" Bundle.listD (Aq θ) s s.heap := ⟨X.2.2.1.2.2.2.2.2.2.2.1, X.2.2.1.2.2.2.2.2.2.2.2⟩
    exact vx_throw0 (cc := cX10_buyer) (pc := 21) (own := RX10) (cls := NSE) (names := nmE) (ik := 177) (ic := 179) (A := Aq θ) (rest := []) X.1.1 X.1.2.1 hl0 X.1.2.2.2.1 (by decide) (by decide) (X.1.2.2.2.2 _ ck_NSE) (X.1.2.2.2.2 _ ii_NSE) (tL_hold X.1.2.2.2.2 hT) tL_ot hU hN hS (hl.1.trans hml.symm) dX10_buyer_21 dX10_buyer_24 dX10_buyer_25 dX10_buyer_28 (fun x hx => (ht x hx).elim)
      (Nat.le_of_ble_eq_true rfl) (Nat.le_of_ble_eq_true rfl) (Nat.le_of_ble_eq_true rfl) (Nat.le_of_ble_eq_true rfl) hlk
      (fun t ha h1 h2 => ⟨e1, rfl, hW.grown h2, Nat.le_trans hS.1 h1, fun q hq hA => (h2 q (Nat.lt_of_lt_of_le hq hS.1)).trans (hS.2.1 q hq hA)⟩) hS.2.2 (Nat.le_of_ble_eq_true rfl) (Nat.le_of_ble_eq_true rfl)
