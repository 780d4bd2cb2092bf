/-! the law: the static tables and the String constants at its start -/
theorem ls_0 : Cond.laysStatic "NearlyBought$Law" "LETTERS" "[C" ∈ lw_tbl := List.mem_of_getElem? (i := 290) (by decide +kernel)
theorem li_0 : Cond.initialized "NearlyBought$Law" ∈ lw_tbl := List.mem_of_getElem? (i := 117) (by decide +kernel)
theorem ls_1 : Cond.laysStatic "NearlyBought$City" "USUAL" "[I" ∈ lw_tbl := List.mem_of_getElem? (i := 532) (by decide +kernel)
theorem li_1 : Cond.initialized "NearlyBought$City" ∈ lw_tbl := List.mem_of_getElem? (i := 118) (by decide +kernel)
theorem ls_2 : Cond.laysStatic "NearlyBought$City" "LETTERS" "[C" ∈ lw_tbl := List.mem_of_getElem? (i := 558) (by decide +kernel)
theorem li_2 : Cond.initialized "NearlyBought$City" ∈ lw_tbl := List.mem_of_getElem? (i := 118) (by decide +kernel)
theorem ls_3 : Cond.laysStatic "NearlyBought$City" "LOWEST" "[I" ∈ lw_tbl := List.mem_of_getElem? (i := 560) (by decide +kernel)
theorem li_3 : Cond.initialized "NearlyBought$City" ∈ lw_tbl := List.mem_of_getElem? (i := 118) (by decide +kernel)
theorem ls_4 : Cond.laysStatic "NearlyBought$City" "HIGHEST" "[I" ∈ lw_tbl := List.mem_of_getElem? (i := 562) (by decide +kernel)
theorem li_4 : Cond.initialized "NearlyBought$City" ∈ lw_tbl := List.mem_of_getElem? (i := 118) (by decide +kernel)
theorem ls_5 : Cond.laysStatic "NearlyBought$Day" "LETTERS" "[C" ∈ lw_tbl := List.mem_of_getElem? (i := 649) (by decide +kernel)
theorem li_5 : Cond.initialized "NearlyBought$Day" ∈ lw_tbl := List.mem_of_getElem? (i := 122) (by decide +kernel)
theorem ls_6 : Cond.laysStatic "NearlyBought$Day" "DIGITS" "[I" ∈ lw_tbl := List.mem_of_getElem? (i := 651) (by decide +kernel)
theorem li_6 : Cond.initialized "NearlyBought$Day" ∈ lw_tbl := List.mem_of_getElem? (i := 122) (by decide +kernel)
theorem ls_7 : Cond.laysStatic "java/lang/String" "COMPACT_STRINGS" "Z" ∈ lw_tbl := List.mem_of_getElem? (i := 1547) (by decide +kernel)
theorem li_7 : Cond.initialized "java/lang/String" ∈ lw_tbl := List.mem_of_getElem? (i := 125) (by decide +kernel)
theorem ls_8 : Cond.laysStatic "jdk/internal/util/Preconditions" "SIOOBE_FORMATTER" "Ljava/util/function/BiFunction;" ∈ lw_tbl := List.mem_of_getElem? (i := 1566) (by decide +kernel)
theorem li_8 : Cond.initialized "jdk/internal/util/Preconditions" ∈ lw_tbl := List.mem_of_getElem? (i := 127) (by decide +kernel)
theorem ls_9 : Cond.laysStatic "java/lang/Throwable" "UNASSIGNED_STACK" "[Ljava/lang/StackTraceElement;" ∈ lw_tbl := List.mem_of_getElem? (i := 1262) (by decide +kernel)
theorem li_9 : Cond.initialized "java/lang/Throwable" ∈ lw_tbl := List.mem_of_getElem? (i := 131) (by decide +kernel)
theorem ls_10 : Cond.laysStatic "java/lang/Throwable" "SUPPRESSED_SENTINEL" "Ljava/util/List;" ∈ lw_tbl := List.mem_of_getElem? (i := 1264) (by decide +kernel)
theorem li_10 : Cond.initialized "java/lang/Throwable" ∈ lw_tbl := List.mem_of_getElem? (i := 131) (by decide +kernel)
theorem lr_0 : Cond.stringRef RX11 26 "y" ∈ lw_tbl := List.mem_of_getElem? (i := 1307) (by decide +kernel)
theorem lr_1 : Cond.stringRef RX11 32 "pwdmsh" ∈ lw_tbl := List.mem_of_getElem? (i := 1308) (by decide +kernel)
theorem lr_2 : Cond.stringRef RX11 267 "rhyi" ∈ lw_tbl := List.mem_of_getElem? (i := 1533) (by decide +kernel)
theorem lr_3 : Cond.stringRef RX11 273 "pws" ∈ lw_tbl := List.mem_of_getElem? (i := 1610) (by decide +kernel)
theorem lr_4 : Cond.stringRef RX11 275 "mdnk" ∈ lw_tbl := List.mem_of_getElem? (i := 1611) (by decide +kernel)
theorem lr_5 : Cond.stringRef RX11 280 "pbgyh" ∈ lw_tbl := List.mem_of_getElem? (i := 1681) (by decide +kernel)
abbrev FL : List Cond := flatC (Jvm.Cond.and given_1 narrow_1)
theorem tb_of {s : State} {a : Array Value} {C n d : String} {ty : FieldType} {N : Nat} (t : Nat) (hgv : (Jvm.Cond.and given_1 narrow_1).before a s = true) (hN : N < 2 ^ 31) (har : Cond.arrayOf (.static C n d) ty ∈ FL) (hle : Cond.eq (.length (.static C n d)) (.int (Int32.ofNat N)) ∈ FL) (hel : ((List.range N).all fun j => decide (Cond.eq (.elem (.static C n d) (.int (Int32.ofNat j))) (.int (tb t j)) ∈ FL)) = true) (hl : (Cond.laysStatic C n d).before a s = true) (hi : (Cond.initialized C).before a s = true) : ∃ q : Nat, (Term.static C n d).eval a s none [] s = some (.ref q) ∧ va_Z C n d (.ref q) (fun q => s.heap.size ≤ q) s s.heap ∧ va_T ty q N (fun j => .int (tb t j)) (fun q => s.heap.size ≤ q) s s.heap := by
  have hs := flat_of_before _ hgv
  obtain ⟨q, h1, h2⟩ := va_Tof (f := fun j => .int (tb t j)) (A := fun q => s.heap.size ≤ q) hN (hs _ har) (va_eqt (hs _ hle)) (fun j hj => va_eqt (hs _ (of_decide_eq_true (List.all_eq_true.mp hel j (List.mem_range.mpr hj))))) (fun a h => Nat.not_le.mpr h)
  exact ⟨q, h1, va_Zref hl hi h1 (fun a h => Nat.not_le.mpr h), h2⟩
theorem tb_x {s : State} {a : Array Value} {tm : Term} {N q : Nat} {f : Nat → Int32} {A : Nat → Prop} (hN : N < 2 ^ 31) (hlen : (Term.length tm).eval a s none [] s = some (.int (Int32.ofNat N))) (ht : tm.eval a s none [] s = some (.ref q)) (hT : va_T .int q N (fun j => .int (f j)) A s s.heap) : va_X q N f s s.heap := by
  obtain ⟨b, cell, h1, h2, h3, h4⟩ := Jvm.Lib.length_spec hlen
  cases ht.symm.trans h1
  obtain ⟨cell2, c1, c2, c3, c4, c5, c6, c7⟩ := hT
  cases c1.symm.trans (State.arrayAt?_spec h2).1
  have hz : cell.slots.size = N := by
    have e := congrArg Int32.toNatClampNeg (Value.int.inj h4)
    rw [Int32.toNatClampNeg_ofNat_of_lt hN, show cell.slots.size.toInt32 = Int32.ofNat cell.slots.size from rfl, Int32.toNatClampNeg_ofNat_of_lt h3] at e
    exact e.symm
  exact ⟨cell, c1, c2, c3, hz, c6⟩
def stm (i : Nat) : Term := .string RX11 (([26, 32, 267, 273, 275, 280] : List Nat).getD i 0)
theorem ne_str : ((List.range 6).all fun i => (List.range 6).all fun j => i == j || decide (Cond.not (.eq (stm i) (stm j)) ∈ FL) || decide (Cond.not (.eq (stm j) (stm i)) ∈ FL)) = true := by decide +kernel
theorem el_str : ((List.range 6).all fun i => (List.range (stn.getD i 0)).all fun j => decide (Cond.eq (.elem (.field (stm i) "java/lang/String" "value" "[B") (.int (Int32.ofNat j))) (.int ((sts.getD i []).getD j 0)) ∈ FL)) = true := by decide +kernel
theorem fx_str : ((List.range 6).all fun i => decide (stn.getD i 0 < 2 ^ 31) && decide (Cond.exactly (stm i) "java/lang/String" ∈ FL) && decide (Cond.eq (.field (stm i) "java/lang/String" "coder" "B") (.int 0) ∈ FL) && decide (Cond.arrayOf (.field (stm i) "java/lang/String" "value" "[B") .byte ∈ FL) && decide (Cond.eq (.length (.field (stm i) "java/lang/String" "value" "[B")) (.int (Int32.ofNat (stn.getD i 0))) ∈ FL)) = true := by decide +kernel
theorem str_of {s : State} {a : Array Value} (hgv : (Jvm.Cond.and given_1 narrow_1).before a s = true) : ∃ adK adV : Nat → Nat, vk_S 6 stn sts adK adV (fun q => s.heap.size ≤ q) s s.heap ∧ ∀ i : Nat, i < 6 → (stm i).eval a s none [] s = some (.ref (adK i)) := by
  have hs := flat_of_before _ hgv
  have h := fun i (hi : i < 6) => List.all_eq_true.mp fx_str i (List.mem_range.mpr hi)
  simp only [Bool.and_eq_true, decide_eq_true_eq] at h
  have h2 := fun i (hi : i < 6) j (hj : j < stn.getD i 0) => of_decide_eq_true (List.all_eq_true.mp (List.all_eq_true.mp el_str i (List.mem_range.mpr hi)) j (List.mem_range.mpr hj))
  refine vk_Sof (tm := stm) (fun i hi => (h i hi).1.1.1.1) (fun i hi => hs _ (h i hi).1.1.1.2) (fun i hi => hs _ (h i hi).1.1.2) (fun i hi => hs _ (h i hi).1.2) (fun i hi => hs _ (h i hi).2) (fun i hi j hj => hs _ (h2 i hi j hj)) (fun i j hi hj hij => ?_) (fun a h => Nat.not_le.mpr h)
  have h3 := List.all_eq_true.mp (List.all_eq_true.mp ne_str i (List.mem_range.mpr hi)) j (List.mem_range.mpr hj)
  simp only [Bool.or_eq_true, decide_eq_true_eq, beq_iff_eq] at h3
  rcases h3 with (h3 | h3) | h3
  · exact absurd h3 hij
  · exact Or.inl (hs _ h3)
  · exact Or.inr (hs _ h3)
theorem tt_0 {s : State} {a : Array Value} (hts : ∀ w ∈ lw_tbl, w.before a s = true) (hgv : (Jvm.Cond.and given_1 narrow_1).before a s = true) : ∃ q : Nat, (Term.static "NearlyBought$Law" "LETTERS" "[C").eval a s none [] s = some (.ref q) ∧ va_Z "NearlyBought$Law" "LETTERS" "[C" (.ref q) (fun q => s.heap.size ≤ q) s s.heap ∧ va_T .char q 6 (fun j => .int (tb 0 j)) (fun q => s.heap.size ≤ q) s s.heap := tb_of 0 hgv (by decide) (by decide +kernel) (by decide +kernel) (by decide +kernel) (hts _ ls_0) (hts _ li_0)
theorem tt_1 {s : State} {a : Array Value} (hts : ∀ w ∈ lw_tbl, w.before a s = true) (hgv : (Jvm.Cond.and given_1 narrow_1).before a s = true) : ∃ q : Nat, (Term.static "NearlyBought$City" "USUAL" "[I").eval a s none [] s = some (.ref q) ∧ va_Z "NearlyBought$City" "USUAL" "[I" (.ref q) (fun q => s.heap.size ≤ q) s s.heap ∧ va_T .int q 11 (fun j => .int (tb 1 j)) (fun q => s.heap.size ≤ q) s s.heap := tb_of 1 hgv (by decide) (by decide +kernel) (by decide +kernel) (by decide +kernel) (hts _ ls_1) (hts _ li_1)
theorem tt_2 {s : State} {a : Array Value} (hts : ∀ w ∈ lw_tbl, w.before a s = true) (hgv : (Jvm.Cond.and given_1 narrow_1).before a s = true) : ∃ q : Nat, (Term.static "NearlyBought$City" "LETTERS" "[C").eval a s none [] s = some (.ref q) ∧ va_Z "NearlyBought$City" "LETTERS" "[C" (.ref q) (fun q => s.heap.size ≤ q) s s.heap ∧ va_T .char q 11 (fun j => .int (tb 2 j)) (fun q => s.heap.size ≤ q) s s.heap := tb_of 2 hgv (by decide) (by decide +kernel) (by decide +kernel) (by decide +kernel) (hts _ ls_2) (hts _ li_2)
theorem tt_3 {s : State} {a : Array Value} (hts : ∀ w ∈ lw_tbl, w.before a s = true) (hgv : (Jvm.Cond.and given_1 narrow_1).before a s = true) : ∃ q : Nat, (Term.static "NearlyBought$City" "LOWEST" "[I").eval a s none [] s = some (.ref q) ∧ va_Z "NearlyBought$City" "LOWEST" "[I" (.ref q) (fun q => s.heap.size ≤ q) s s.heap ∧ va_T .int q 11 (fun j => .int (tb 3 j)) (fun q => s.heap.size ≤ q) s s.heap := tb_of 3 hgv (by decide) (by decide +kernel) (by decide +kernel) (by decide +kernel) (hts _ ls_3) (hts _ li_3)
theorem tt_4 {s : State} {a : Array Value} (hts : ∀ w ∈ lw_tbl, w.before a s = true) (hgv : (Jvm.Cond.and given_1 narrow_1).before a s = true) : ∃ q : Nat, (Term.static "NearlyBought$City" "HIGHEST" "[I").eval a s none [] s = some (.ref q) ∧ va_Z "NearlyBought$City" "HIGHEST" "[I" (.ref q) (fun q => s.heap.size ≤ q) s s.heap ∧ va_T .int q 11 (fun j => .int (tb 4 j)) (fun q => s.heap.size ≤ q) s s.heap := tb_of 4 hgv (by decide) (by decide +kernel) (by decide +kernel) (by decide +kernel) (hts _ ls_4) (hts _ li_4)
theorem tt_5 {s : State} {a : Array Value} (hts : ∀ w ∈ lw_tbl, w.before a s = true) (hgv : (Jvm.Cond.and given_1 narrow_1).before a s = true) : ∃ q : Nat, (Term.static "NearlyBought$Day" "LETTERS" "[C").eval a s none [] s = some (.ref q) ∧ va_Z "NearlyBought$Day" "LETTERS" "[C" (.ref q) (fun q => s.heap.size ≤ q) s s.heap ∧ va_T .char q 5 (fun j => .int (tb 5 j)) (fun q => s.heap.size ≤ q) s s.heap := tb_of 5 hgv (by decide) (by decide +kernel) (by decide +kernel) (by decide +kernel) (hts _ ls_5) (hts _ li_5)
theorem tt_6 {s : State} {a : Array Value} (hts : ∀ w ∈ lw_tbl, w.before a s = true) (hgv : (Jvm.Cond.and given_1 narrow_1).before a s = true) : ∃ q : Nat, (Term.static "NearlyBought$Day" "DIGITS" "[I").eval a s none [] s = some (.ref q) ∧ va_Z "NearlyBought$Day" "DIGITS" "[I" (.ref q) (fun q => s.heap.size ≤ q) s s.heap ∧ va_T .int q 5 (fun j => .int (tb 6 j)) (fun q => s.heap.size ≤ q) s s.heap := tb_of 6 hgv (by decide) (by decide +kernel) (by decide +kernel) (by decide +kernel) (hts _ ls_6) (hts _ li_6)
theorem vL_of {s : State} {a : Array Value} {C n d : String} (hl : (Cond.laysStatic C n d).before a s = true) : vL C n d (fun q => s.heap.size ≤ q) s s.heap := by
  obtain ⟨c, k, i, f, b, cell, h1, h2, h3, h4, h5, h6, h7, h8, h9⟩ := Cond.laysStatic_spec hl
  exact ⟨c, k, i, f, b, cell, h1, h2, h3, h4, h5, h6, h7, h8, h9, Nat.not_le.mpr (Array.getElem?_eq_some_iff.mp h5).1⟩
theorem Sx_of {s : State} {a : Array Value} (hts : ∀ w ∈ lw_tbl, w.before a s = true) (hgv : (Jvm.Cond.and given_1 narrow_1).before a s = true) : ∃ t sa sv : Nat → Nat, ∀ (D : va_G) (f : Nat → ClassId), Sx (D, f, s.heap.size, t, sa, sv) s s.heap := by
  have hs := flat_of_before _ hgv
  obtain ⟨sa, sv, hS, hE⟩ := str_of hgv
  obtain ⟨q0, e0, z0, t0⟩ := tt_0 hts hgv
  obtain ⟨q1, e1, z1, t1⟩ := tt_1 hts hgv
  obtain ⟨q2, e2, z2, t2⟩ := tt_2 hts hgv
  obtain ⟨q3, e3, z3, t3⟩ := tt_3 hts hgv
  obtain ⟨q4, e4, z4, t4⟩ := tt_4 hts hgv
  obtain ⟨q5, e5, z5, t5⟩ := tt_5 hts hgv
  obtain ⟨q6, e6, z6, t6⟩ := tt_6 hts hgv
  have hx : va_X q1 11 (fun j => tb 1 j) s s.heap := tb_x (by decide) (va_eqt (hs (Cond.eq (.length (.static "NearlyBought$City" "USUAL" "[I")) (.int (Int32.ofNat 11))) (by decide +kernel))) e1 t1
  have hA : ∀ b : Nat, b < s.heap.size → ¬ s.heap.size ≤ b := fun b h => Nat.not_le.mpr h
  refine ⟨fun k => if k = 0 then q0 else if k = 1 then q1 else if k = 2 then q2 else if k = 3 then q3 else if k = 4 then q4 else if k = 5 then q5 else q6, sa, sv, fun D f => ⟨⟨hx, z0, t0, z1, t1, z2, t2, z3, t3, z4, t4, z5, t5, z6, t6⟩, hS, ⟨vk_R.of (hts _ lr_0) (hE 0 (by decide)), vk_R.of (hts _ lr_1) (hE 1 (by decide)), vk_R.of (hts _ lr_2) (hE 2 (by decide)), vk_R.of (hts _ lr_3) (hE 3 (by decide)), vk_R.of (hts _ lr_4) (hE 4 (by decide)), vk_R.of (hts _ lr_5) (hE 5 (by decide))⟩, ?_, ?_, ?_, ?_, ?_, ?_⟩⟩
  · exact va_Zof (hts _ ls_7) (hts _ li_7) (va_eqt (hs (Cond.eq (.static "java/lang/String" "COMPACT_STRINGS" "Z") (.int 1)) (by decide +kernel))) hA
  · exact va_Zqof (hts _ ls_8) (hts _ li_8) (hs _ (by decide +kernel)) hA
  · exact va_Zqof (hts _ ls_9) (hts _ li_9) (hs _ (by decide +kernel)) hA
  · exact vL_of (hts _ ls_9)
  · exact va_Zqof (hts _ ls_10) (hts _ li_10) (hs _ (by decide +kernel)) hA
  · exact vL_of (hts _ ls_10)
