/-! the law: its words that no list of good words has -/
theorem tbT1 {w : Cond} (i : Nat) (h : tables_1_1[i]? = some w) : w ∈ lw_tbl := by
  have h := List.mem_of_getElem? h
  exact List.mem_append_right _ (show w ∈ tables_1 from List.mem_append_left _ h)
theorem tbT2 {w : Cond} (i : Nat) (h : tables_1_2[i]? = some w) : w ∈ lw_tbl := by
  have h := List.mem_of_getElem? h
  exact List.mem_append_right _ (show w ∈ tables_1 from List.mem_append_right _ (List.mem_append_left _ h))
theorem nw_0 : Cond.methodLinkNest RX10 9 yX8_init "NearlyBought" ∈ lw_tbl := tbT1 35 (by decide +kernel)
theorem nw_1 : Cond.methodLinkNest RX10 34 yX7_init "NearlyBought" ∈ lw_tbl := tbT1 66 (by decide +kernel)
theorem nw_2 : Cond.methodLinkNest RX4 24 yX7_init "NearlyBought" ∈ lw_tbl := tbT1 160 (by decide +kernel)
theorem nw_3 : Cond.methodLinkNest RX10 51 yX9_init "NearlyBought" ∈ lw_tbl := tbT1 174 (by decide +kernel)
theorem nw_4 : Cond.methodLinkNest RX9 23 yX1_init "NearlyBought" ∈ lw_tbl := tbT1 182 (by decide +kernel)
theorem nw_5 : Cond.methodLinkNest RX6 11 yX7_init "NearlyBought" ∈ lw_tbl := tbT1 233 (by decide +kernel)
theorem nw_6 : Cond.methodLinkNest RX10 65 yX3_init "NearlyBought" ∈ lw_tbl := tbT2 11 (by decide +kernel)
theorem nw_7 : Cond.methodLinkNest RX3 11 yX7_init "NearlyBought" ∈ lw_tbl := tbT2 16 (by decide +kernel)
theorem nw_8 : Cond.methodLinkNest RX10 72 yX0_init "NearlyBought" ∈ lw_tbl := tbT2 40 (by decide +kernel)
theorem nw_9 : Cond.methodLinkNest RX10 79 yX1_init "NearlyBought" ∈ lw_tbl := tbT2 72 (by decide +kernel)
theorem nw_10 : Cond.methodLinkNest RX10 105 yX5_init "NearlyBought" ∈ lw_tbl := tbT2 74 (by decide +kernel)
theorem nw_11 : Cond.methodLinkNest RX10 106 yX2_init "NearlyBought" ∈ lw_tbl := tbT2 89 (by decide +kernel)
theorem ao_5 : Cond.arrayOver (.object RX5) ∈ lw_tbl := tbT1 61 (by decide +kernel)
theorem ao_2 : Cond.arrayOver (.object RX2) ∈ lw_tbl := tbT1 63 (by decide +kernel)
theorem ao_7 : Cond.arrayOver (.object RX7) ∈ lw_tbl := tbT1 159 (by decide +kernel)
theorem Nx_of {s : State} {A : Array Value} (hts : ∀ w ∈ lw_tbl, w.before A s = true) : Nx s := by
  refine ⟨fun q hq => ?_, va_AO.of (hts _ ao_5), va_AO.of (hts _ ao_2), va_AO.of (hts _ ao_7)⟩
  simp only [NW, List.mem_cons, List.not_mem_nil, or_false] at hq
  rcases hq with rfl | rfl | rfl | rfl | rfl | rfl | rfl | rfl | rfl | rfl | rfl | rfl
  · exact va_Nw.of rfl (hts _ nw_0)
  · exact va_Nw.of rfl (hts _ nw_1)
  · exact va_Nw.of rfl (hts _ nw_2)
  · exact va_Nw.of rfl (hts _ nw_3)
  · exact va_Nw.of rfl (hts _ nw_4)
  · exact va_Nw.of rfl (hts _ nw_5)
  · exact va_Nw.of rfl (hts _ nw_6)
  · exact va_Nw.of rfl (hts _ nw_7)
  · exact va_Nw.of rfl (hts _ nw_8)
  · exact va_Nw.of rfl (hts _ nw_9)
  · exact va_Nw.of rfl (hts _ nw_10)
  · exact va_Nw.of rfl (hts _ nw_11)
