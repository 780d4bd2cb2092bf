/-! the law's helper buyer -/
theorem dL_buyer_0 : decode cL_buyer 0 = .ok (.aload_n 3, 1) := by decide +kernel
theorem dL_buyer_1 : decode cL_buyer 1 = .ok (.iconst 0, 1) := by decide +kernel
theorem dL_buyer_2 : decode cL_buyer 2 = .ok (.aload_n 0, 1) := by decide +kernel
theorem dL_buyer_3 : decode cL_buyer 3 = .ok (.iload_n 1, 1) := by decide +kernel
theorem dL_buyer_4 : decode cL_buyer 4 = .ok (.iload_n 2, 1) := by decide +kernel
theorem dL_buyer_5 : decode cL_buyer 5 = .ok (.invokevirtual 7, 3) := by decide +kernel
theorem dL_buyer_8 : decode cL_buyer 8 = .ok (.i2l, 1) := by decide +kernel
theorem dL_buyer_9 : decode cL_buyer 9 = .ok (.lastore, 1) := by decide +kernel
theorem dL_buyer_10 : decode cL_buyer 10 = .ok (.goto 7, 3) := by decide +kernel
theorem dL_buyer_13 : decode cL_buyer 13 = .ok (.astore 4, 2) := by decide +kernel
theorem dL_buyer_15 : decode cL_buyer 15 = .ok (.iconst 1, 1) := by decide +kernel
theorem dL_buyer_16 : decode cL_buyer 16 = .ok (.ireturn, 1) := by decide +kernel
theorem dL_buyer_17 : decode cL_buyer 17 = .ok (.iconst 0, 1) := by decide +kernel
theorem dL_buyer_18 : decode cL_buyer 18 = .ok (.ireturn, 1) := by decide +kernel
theorem vin0 : vp_in 0 1 := by
  intro q
  rcases q with q | q
  · exact absurd q (by decide)
  · exact absurd q (by decide)
theorem kd_590 : kd 590 = 16 := by decide +kernel
theorem ln_590 : ln 590 = 1 := by decide +kernel
theorem lk_L_7 : Cond.methodLink RL 7 yX10_buyer ∈ ALL := allT5 160 (by decide +kernel) rfl
theorem my_X10_buyer : MyV yX10_buyer cX10_buyer 3 (some .int) 2 := ⟨⟨allT5 161 (by decide +kernel) rfl, allT5 162 (by decide +kernel) rfl, allT1 1 (by decide +kernel) rfl, allT5 163 (by decide +kernel) rfl⟩, by decide +kernel, by decide +kernel, by decide +kernel⟩
theorem ck_L_13 : Cond.classLink RL 13 NSE ∈ ALL := allIdx 1230 (by decide +kernel) rfl
section LB
variable {θ : Th} {p : Program} {l : Launch} {e : Env} {R : Room} {s : State} {m : MethodId} {args : Array Value} {below : List Frame} {meth : Method} {c : Code} {cc : ByteArray} {own : String} {nL cells slots pc : Nat} {Q : State → Prop} {lv : List (Nat × Value)} {st : List Value} {σ : Mem}
theorem g_callX (X : Cx θ p s m args c cc nL own) (hTx : ThX s) {y : MethodName} {cb : ByteArray} {maxL d n idx a ci mc ms : Nat} {ret : Option FieldType} {As rest : List Value} {bad v : Int32}
    (hM : vx_Met l y (.code y cb maxL ret :: ALL) (rmq d mc ms) (va_Pc (.ref (be θ + a) :: As) (PT θ σ)) (QB θ σ bad v) (XB θ σ bad) mc ms (Aq θ)) (Lk : Cond.methodLink own idx y ∈ ALL) (My : MyV y cb maxL ret n) (ha : kd a = ci + 1) (hci : ci < 12) (hy : y.cls = clC ci) (hn : As.length = n) (hst : st = As.reverse ++ .ref (be θ + a) :: rest) (hc : (rest.map fun v => v.category).sum ≤ 8) (hR : d + 1 ≤ R.frames ∧ 8 + (maxL + 11) + 40 * d ≤ R.locals) (hf : cells + mc ≤ R.cells ∧ slots + ms ≤ R.slots) (hd : decode cc pc = .ok (.invokevirtual idx, 3))
    (k0 : bad = 0 → G θ p l e R s m args below meth c nL (cells + mc) (slots + ms) Q (pc + 3) lv (.int v :: rest) σ)
    (k1 : bad = 1 → ∀ (H : Heap) (locs : List Loc) (ls : Array Slot) (q : Addr) (ce : Cell), Wd θ σ H → va_S (Aq θ) s.heap H locs → lv_has ls nL lv → H[q]? = some ce → ce.vm = .none → s.vm.findClass NSE = some ce.cls → vx_W p l e R s m args below meth c H locs (cells + mc) (slots + ms) Q (F0 m pc ls rest) q) :
    G θ p l e R s m args below meth c nL cells slots Q pc lv st σ := by
  intro H locs ls hW hS hl
  have cw : CallW R s args own y.cls idx y cb maxL ret (.code y cb maxL ret :: ALL) (rmq d mc ms) mc ms n := cwV n X.1.2.2.2.2 (goodALL (by
    intro w hw
    simp only [wsV, List.cons_append, List.nil_append, List.mem_cons] at hw
    rcases hw with rfl | rfl | rfl | rfl | rfl | hw
    · exact Lk
    · exact My.1.1
    · exact My.1.2.1
    · exact My.1.2.2.1
    · exact My.1.2.2.2
    · exact hw)) rfl rfl rfl ⟨rfl, My.2⟩ hR
  have hrec := obj_recv X ha hci H locs hW hS
  rw [← hy] at hrec
  have run := vx_runV (rest := rest) X.1 hM cw ⟨PT.blind, hrec, fun U hU hw => ⟨rfl, Pr.of X hW hS hU hw, hTx.warm hw⟩⟩ (g := F0 m pc ls st) (below := below) (e := e) (meth := meth) (locs := locs) (cells := cells) (slots := slots) rfl hn hl.1 hst (lv_room hc) hd hf
  intro T hT X0
  have join : ∀ (T' t : State) (L : List Loc), T'.heap = t.heap → (∀ q ∈ L, Aq θ q.base) → H.size ≤ t.heap.size → (∀ q : Nat, q < H.size → ¬ Aq θ q → t.heap[q]? = H[q]?) → va_S (Aq θ) s.heap T'.heap (locs ++ L) := fun T' t L e1 hL hz hk =>
    ⟨Nat.le_trans hS.1 (by rw [e1]; exact hz), fun q h1 h2 => by rw [e1, hk q (Nat.lt_of_lt_of_le h1 hS.1) h2]; exact hS.2.1 q h1 h2, fun q hq => by
      rcases List.mem_append.mp hq with h | h
      · exact hS.2.2 q h
      · exact hL q h⟩
  rcases run T hT X0 with ⟨v9, st₀, t, T', L, h0, X', hL, e1, e2, ⟨b0, ⟨hv, hP⟩, hz, hk⟩, go⟩ | ⟨q, st₀, t, T', L, E, ce, h0, X', hL, e1, e2, ⟨b1, hE, hP, hz, hk⟩, hce, hcv, hcl, go⟩
  · cases hv
    rw [h0] at hz hk
    obtain ⟨t2, a1, b1⟩ := k0 b0 T'.heap (locs ++ L) ls (by rw [e1]; exact hP.1) (join T' t L e1 hL hz hk) hl T' rfl X'
    exact ⟨t2, go t2 a1, b1⟩
  · subst hE
    rw [h0] at hz hk
    obtain ⟨t2, a1, b2⟩ := k1 b1 T'.heap (locs ++ L) ls q ce (by rw [e1]; exact hP) (join T' t L e1 hL hz hk) hl (by rw [e1]; exact hce) hcv hcl T' rfl X'
    exact ⟨t2, go.trans a1, b2⟩
end LB
def rB (σ : Mem) (bad v : Int32) : Option Value × Mem := (some (.int bad), if bad = 0 then sL σ 590 0 v.toInt64 else σ)
abbrev hhB : List (Nat × Nat × Nat × Nat) := [(0, 10, 13, 13)]
theorem c_Lbuyer {θ : Th} {l : Launch} (hl0 : l.stackTraces = false) {σ : Mem} {x1 x2 bad v : Int32} (hbad : f_Game_buyerBad σ x1 x2 = some bad) (hv : bad = 0 → f_Game_buyer σ x1 x2 = some v) :
    vx_Met l yL_buyer (.codeWith yL_buyer cL_buyer 5 (some .int) hhB :: ALL) (rmq 8 1 6) (va_Pc [.ref (be θ + 0), .int x1, .int x2, .ref (be θ + 590)] (PT θ σ)) (Qy θ (rB σ bad v)) (fun _ _ _ => False) 1 6 (Aq θ) := by
  refine vx_ofWH (cc := cL_buyer) (maxL := 5) (ret := some .int) (hh := hhB) (by decide) rfl ?_
  intro p e s m args below meth c s₁ B hml hP
  obtain ⟨rfl, ⟨h2, h3, h4, h5⟩, hT⟩ := hP
  have hts := atoms_spec (ws := .codeWith yL_buyer cL_buyer 5 (some .int) hhB :: ALL) B.pre
  have hown : s.vm.findClass RL = some m.cls := findClass_of_methodNamed B.named
  have X : Cx θ p s m [Value.ref (be θ + 0), .int x1, .int x2, .ref (be θ + 590)].toArray c cL_buyer 5 RL := ⟨⟨B.exec, B.bytes, hml, hown, fun w hw => hts w (List.mem_cons_of_mem _ hw)⟩, h3, h4, h5⟩
  have htab : c.exceptionTable.toList = tableOf hhB := vx_table (x := yL_buyer) B (hts _ List.mem_cons_self)
  have hr := B.returns
  have hlk := B.notSynchronized
  have hl := lv_entry [Value.ref (be θ + 0), .int x1, .int x2, .ref (be θ + 590)] (n := 5) (Nat.le_of_ble_eq_true rfl)
  rw [lg_entry_eq]
  have body : G θ p l e (rmq 8 1 6) s m [Value.ref (be θ + 0), .int x1, .int x2, .ref (be θ + 590)].toArray below meth c 5 0 0 (vx_MQ below (Qy θ (rB σ bad v)) (fun _ _ _ => False) [Value.ref (be θ + 0), .int x1, .int x2, .ref (be θ + 590)].toArray s 1 6 (Aq θ)) 0 [(0, .ref (be θ + 0)), (1, .int x1), (2, .int x2), (3, .ref (be θ + 590))] [] σ := by
    refine g_aload_n X dL_buyer_0 rfl 3 rfl ?_
    refine g_iconst X dL_buyer_1 (v := 0) (by decide) ?_
    refine g_aload_n X dL_buyer_2 rfl 0 rfl ?_
    refine g_iload_n X dL_buyer_3 rfl 1 rfl ?_
    refine g_iload_n X dL_buyer_4 rfl 2 rfl ?_
    refine g_callX X hT (c_buyer hl0 hbad hv) (As := [.int x1, .int x2]) (rest := [.int 0, .ref (be θ + 590)]) lk_L_7 my_X10_buyer kd_0 (by decide) rfl rfl rfl (Nat.le_of_ble_eq_true rfl) ⟨Nat.le_of_ble_eq_true rfl, Nat.le_of_ble_eq_true rfl⟩ ⟨Nat.le_of_ble_eq_true rfl, Nat.le_of_ble_eq_true rfl⟩ dL_buyer_5 (fun e0 => ?_) (fun e1 => ?_)
    · refine g_i2l X dL_buyer_8 rfl ?_
      refine g_last X kd_590 ln_590 vin0 dL_buyer_9 ?_
      refine g_goto X dL_buyer_10 (tgt := 17) rfl ?_
      refine g_iconst X dL_buyer_17 (v := 0) (by decide) ?_
      intro H locs ls hW hS hl
      refine vx_ret ?_
      refine W.iret X.1.1 X.1.2.1 hr (fun t ht hw => ⟨⟨by rw [rB, e0], ?_⟩, hS.F ht⟩) hS.2.2 dL_buyer_18 hlk
      rw [rB, if_pos e0]
      exact Pr.of X hW hS ht hw
    · intro H locs ls q ce hW hS hl hq hv hcl
      refine vx_catch (own := RL) (name := NSE) (E := NSE) (ce := ce) X.1.2.2.2.1 [] { startPc := 0, endPc := 10, handlerPc := 13, catchType := 13 } [] htab (fun z hz => nomatch hz) (by decide) (by decide) (X.1.2.2.2.2 _ ck_L_13) (va_Nw.use rfl hT.2.2.2) hq hv hcl ?_
      have rest : G θ p l e (rmq 8 1 6) s m [Value.ref (be θ + 0), .int x1, .int x2, .ref (be θ + 590)].toArray below meth c 5 1 6 (vx_MQ below (Qy θ (rB σ bad v)) (fun _ _ _ => False) [Value.ref (be θ + 0), .int x1, .int x2, .ref (be θ + 590)].toArray s 1 6 (Aq θ)) 13 [(0, .ref (be θ + 0)), (1, .int x1), (2, .int x2), (3, .ref (be θ + 590))] [.ref q] σ := by
        refine g_astore X dL_buyer_13 (by decide) rfl ?_
        refine g_iconst X dL_buyer_15 (v := 1) (by decide) ?_
        intro H locs ls hW hS hl
        refine vx_ret ?_
        refine W.iret X.1.1 X.1.2.1 hr (fun t ht hw => ⟨⟨by rw [rB, e1], ?_⟩, hS.F ht⟩) hS.2.2 dL_buyer_16 hlk
        rw [rB, if_neg (by rw [e1]; decide)]
        exact Pr.of X hW hS ht hw
      exact rest H locs ls hW hS hl
  exact body s.heap [] _ h2 va_S.rf hl
