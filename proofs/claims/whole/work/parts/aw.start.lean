/-! THE CLAIM OUT OF ONE WALK OF THE LAW'S BODY. Your part is whole_start (and what it stands on); all else here is the same for every law, but numbers. -/
def R_law : String := "NearlyBoughtLaw"
def lw_P (b : Addr) (xs : List Int32) (args : Array Value) (s : State) : Prop := args = #[.ref b] ∧ s.IntsAt b xs ∧ xs.length ≤ 3072 ∧ (Jvm.Cond.and given_1 narrow_1).before args s = true
def lw_Q (_ : Array Value) (s : State) (o : Outcome) (t : State) : Prop := o = .returned (some (.int 1)) ∧ Framed s o t [] 601024 7293034
def lw_Z (below : List Frame) (a : Array Value) (s : State) : State → Prop := fun t => ∃ o, t.status = .running ∧ Ended t below o ∧ lw_Q a s o t
/-- the law's own end, with 1 on the stack, nothing written that was there before, its room as the claim has it -/
theorem lw_ret {p : Program} {l : Launch} {e : Env} {s : State} {m : MethodId} {below : List Frame} {meth : Method} {c : Code} {b : Nat} (hx : p.tables.exec = Jvm.exec) (hb : c.code = code) (hr : meth.sig.returnType = ret) (hlocks : meth.locks = false) {pc : Nat} {H : Heap} {ls : Array Slot} (hdg : decode code pc = .ok (.ireturn, 1)) : W p l e room_1 s m #[Value.ref b] below meth c H [] 601024 7293034 (lw_Z below #[Value.ref b] s) (F0 m pc ls [.int 1]) := by
  intro T hT X
  obtain ⟨fs, hret, hrun, hended, hW, hframe⟩ := X.leave (v := some (.int 1)) (hlocks := hlocks) (fun h => by rw [hr] at h; cases h)
  have hmeth' : T.vm.method? m = some meth := X.method'
  refine ⟨T.setFrames fs, ?_, .returned (some (.int 1)), hrun, hended, rfl, ⟨_, rfl⟩, hW, hframe⟩
  jvm_step X.here [X.here.top, hx, hb, hdg, hmeth', hr, ret, narrow_b1]
  (try refine ⟨rfl, ?_⟩); (try refine ⟨rfl, ?_⟩)
  first | (intro acts; rw [hret _ acts rfl rfl rfl]) | rw [hret _ _ rfl rfl rfl]
  exact Steps.refl _
/-- what holds at the law's entry: the machine, the code, the tables' words (any of lw_tbl by 'hts w (by decide +kernel)'), the script of L ints xs at the cell b, what the Statement gives of the start (any of its parts by flat_of_before) -/
def lw_At (p : Program) (s : State) (m : MethodId) (meth : Method) (c : Code) (b L : Nat) (xs : Nat → Int32) : Prop :=
  p.tables.exec = Jvm.exec ∧ c.code = code ∧ meth.sig.returnType = ret ∧ c.maxLocals = 7 ∧ s.vm.findClass R_law = some m.cls ∧ (∀ w ∈ lw_tbl, w.before #[Value.ref b] s = true) ∧ va_X b L xs s s.heap ∧ b < s.heap.size ∧ meth.locks = false ∧ (Jvm.Cond.and given_1 narrow_1).before #[Value.ref b] s = true
theorem dl_1238 : Cond.declares (Bundle.init0 "java/lang/RuntimeException") ∈ lw_tbl := List.mem_of_getElem? (i := 1238) (by decide +kernel)
theorem dl_1240 : Cond.declares (Bundle.init0 "java/lang/Exception") ∈ lw_tbl := List.mem_of_getElem? (i := 1240) (by decide +kernel)
theorem dl_1242 : Cond.declares (Bundle.init0 "java/lang/Throwable") ∈ lw_tbl := List.mem_of_getElem? (i := 1242) (by decide +kernel)
theorem dl_1237 : Cond.castable NSE NSE ∈ lw_tbl := List.mem_of_getElem? (i := 1237) (by decide +kernel)
theorem whole_start {p : Program} {e : Env} {s : State} {m : MethodId} {below : List Frame} {meth : Method} {c : Code} (l : Launch) (hl0 : l.stackTraces = false) {b L : Nat} {xs : Nat → Int32} (hL : L ≤ 3072) (C0 : lw_At p s m meth c b L xs) : W p l e room_1 s m #[Value.ref b] below meth c s.heap [] 0 0 (lw_Z below #[Value.ref b] s) (entryFrame m ([Value.ref b] : List Value).toArray 7) := by
  obtain ⟨hx, hb, hr, hml, hown, hts, hX, hbl, hlk, hgv⟩ := C0
  have hA : ∀ w ∈ ALL, w.before #[Value.ref b] s = true := fun w hw => hts w (List.mem_filter.mp hw).1
  have N := Nx_of hts
  obtain ⟨D, f, hK⟩ := Kn_of hA N
  obtain ⟨t, sa, sv, hS0⟩ := Sx_of hts hgv
  obtain ⟨θ, hθ⟩ : ∃ θ : Th, θ = (D, f, s.heap.size, t, sa, sv) := ⟨_, rfl⟩
  have hbe : be θ = s.heap.size := by rw [hθ]
  have X : Cx θ p s m #[Value.ref b] c cL_law 7 RL := ⟨⟨hx, hb, hml, hown, hA⟩, by rw [hθ]; exact hK _ _ _ _, by rw [hθ]; exact hS0 D f, Nat.le_of_eq hbe⟩
  have hT : ThX s := ⟨va_Nw.of rfl (hts _ dl_1238), va_Nw.of rfl (hts _ dl_1240), va_Nw.of rfl (hts _ dl_1242), va_Nw.of rfl (hts _ dl_1237)⟩
  have hbA : ¬ Aq θ b := fun h => by
    have h2 : be θ ≤ b := h
    rw [hbe] at h2
    omega
  have hl := lv_entry [Value.ref b] (n := 7) (Nat.le_of_ble_eq_true rfl)
  rw [lg_entry_eq]
  have body : G θ p l e room_1 s m #[Value.ref b] below meth c 7 591 53088 (lw_Z below #[Value.ref b] s) 20 [(3, .ref (be θ + 590)), (2, .ref (be θ + 565)), (1, .ref (be θ + 0)), (0, .ref b)] [] sg0 := by
    refine g_iconst X (show decode cL_law 20 = .ok (.iconst 0, 1) by decide +kernel) (v := 0) (by decide) ?_
    refine g_istore X (show decode cL_law 21 = .ok (.istore 4, 2) by decide +kernel) (by decide) rfl ?_
    refine law_loop X hT hl0 hX hbl hbA hL ⟨by decide, by decide⟩ (fun σ1 => ?_) 512 0 sg0 591 53088 ⟨A0, gOk_0, CRel_0, MRel_0⟩ (by omega) (by omega) (by decide) (by decide)
    refine g_iconst X (show decode cL_law 1731 = .ok (.iconst 1, 1) by decide +kernel) (v := 1) (by decide) ?_
    intro H locs ls hW hS hl
    refine va_forget (fun q hq => ?_) ?_
    · have h2 : be θ ≤ q.base := hS.2.2 q hq
      rw [hbe] at h2
      exact h2
    · exact lw_ret hx hb hr hlk (by decide +kernel)
  exact law_in (V := fun _ _ => .null) (scr := b) (R := room_1) X N (by decide) ⟨by decide, by decide⟩ ⟨by decide, by decide⟩ body s.heap [] _ ⟨hbe.symm, fun a ha => absurd ha (Nat.not_lt_zero _)⟩ va_S.rf hl
