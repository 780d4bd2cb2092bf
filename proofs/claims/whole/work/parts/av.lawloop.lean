/-! the law's loop -/
theorem dL_law_40 : decode cL_law 40 = .ok (.tableswitch 1685 0 41 #[184, 257, 282, 307, 332, 369, 437, 474, 523, 548, 573, 610, 635, 672, 697, 710, 735, 760, 797, 866, 891, 904, 941, 990, 1027, 1052, 1077, 1114, 1151, 1200, 1237, 1274, 1339, 1376, 1401, 1474, 1523, 1572, 1609, 1634, 1647, 1660], 184) := by decide +kernel
theorem nI6 {L ii : Nat} (hL : L ≤ 3072) (hi : ii ≤ 4000) (h : ¬ nI L - (6 : Int32) < nI ii) : ii + 6 ≤ L := by
  apply Classical.byContradiction
  intro q
  apply h
  by_cases h6 : 6 ≤ L
  · rw [show (6 : Int32) = nI 6 from rfl, z_sub h6]
    exact nI_lt (by omega) (by omega)
  · have h7 : L = 0 ∨ L = 1 ∨ L = 2 ∨ L = 3 ∨ L = 4 ∨ L = 5 := by omega
    rw [Int32.lt_iff_toInt_lt, nI_toInt (by omega)]
    rcases h7 with rfl | rfl | rfl | rfl | rfl | rfl
    · rw [show (nI 0 - (6 : Int32)).toInt = -6 from by decide]; omega
    · rw [show (nI 1 - (6 : Int32)).toInt = -5 from by decide]; omega
    · rw [show (nI 2 - (6 : Int32)).toInt = -4 from by decide]; omega
    · rw [show (nI 3 - (6 : Int32)).toInt = -3 from by decide]; omega
    · rw [show (nI 4 - (6 : Int32)).toInt = -2 from by decide]; omega
    · rw [show (nI 5 - (6 : Int32)).toInt = -1 from by decide]; omega
theorem sw_nat {v : Int32} (h : ¬ (v.toInt < 0 ∨ 41 < v.toInt)) : ∃ k : Nat, k ≤ 41 ∧ v = nI k := by
  refine ⟨v.toInt.toNat, by omega, ?_⟩
  apply Int32.toInt_inj.mp
  rw [nI_toInt (by omega)]
  omega
section LW
variable {θ : Th} {p : Program} {l : Launch} {e : Env} {R : Room} {s : State} {m : MethodId} {args : Array Value} {below : List Frame} {meth : Method} {c : Code} {cells slots : Nat} {Q : State → Prop} {σ : Mem} {b L ii : Nat} {xs : Nat → Int32}
theorem law_switch (X : Cx θ p s m args c cL_law 7 RL) (hTx : ThX s) (hl0 : l.stackTraces = false) (C : LC θ s b L xs ii) (hR : 100 ≤ R.frames ∧ 8000 ≤ R.locals) (hf : cells + 1 ≤ R.cells ∧ slots + 6 ≤ R.slots) (I : Inv σ) (kk : ∀ σ1, Inv σ1 → G θ p l e R s m args below meth c 7 (cells + 1) (slots + 6) Q 1725 (LV θ b ii) [] σ1) {k : Nat} (hk : k ≤ 41) : G θ p l e R s m args below meth c 7 cells slots Q 40 (LV θ b ii) [.int (nI k)] σ := by
  have kw : ∀ σ1, Inv σ1 → G θ p l e R s m args below meth c 7 cells slots Q 1725 (LV θ b ii) [] σ1 := fun σ1 I1 => g_widen (by omega) (by omega) (kk σ1 I1)
  have hf0 : cells ≤ R.cells ∧ slots ≤ R.slots := ⟨by omega, by omega⟩
  have q : k = 0 ∨ k = 1 ∨ k = 2 ∨ k = 3 ∨ k = 4 ∨ k = 5 ∨ k = 6 ∨ k = 7 ∨ k = 8 ∨ k = 9 ∨ k = 10 ∨ k = 11 ∨ k = 12 ∨ k = 13 ∨ k = 14 ∨ k = 15 ∨ k = 16 ∨ k = 17 ∨ k = 18 ∨ k = 19 ∨ k = 20 ∨ k = 21 ∨ k = 22 ∨ k = 23 ∨ k = 24 ∨ k = 25 ∨ k = 26 ∨ k = 27 ∨ k = 28 ∨ k = 29 ∨ k = 30 ∨ k = 31 ∨ k = 32 ∨ k = 33 ∨ k = 34 ∨ k = 35 ∨ k = 36 ∨ k = 37 ∨ k = 38 ∨ k = 39 ∨ k = 40 ∨ k = 41 := by omega
  rcases q with rfl | rfl | rfl | rfl | rfl | rfl | rfl | rfl | rfl | rfl | rfl | rfl | rfl | rfl | rfl | rfl | rfl | rfl | rfl | rfl | rfl | rfl | rfl | rfl | rfl | rfl | rfl | rfl | rfl | rfl | rfl | rfl | rfl | rfl | rfl | rfl | rfl | rfl | rfl | rfl | rfl | rfl
  · exact g_tableIn X dL_law_40 (by decide) (by decide) (off := 184) (by decide +kernel) (tgt := 224) (by decide) (lw_feed X C hR hf0 I kw)
  · exact g_tableIn X dL_law_40 (by decide) (by decide) (off := 257) (by decide +kernel) (tgt := 297) (by decide) (lw_end X C hR hf0 I kw)
  · exact g_tableIn X dL_law_40 (by decide) (by decide) (off := 282) (by decide +kernel) (tgt := 322) (by decide) (lw_fault X C hR hf0 I kw)
  · exact g_tableIn X dL_law_40 (by decide) (by decide) (off := 307) (by decide +kernel) (tgt := 347) (by decide) (lw_text X C hR hf0 I kw)
  · exact g_tableIn X dL_law_40 (by decide) (by decide) (off := 332) (by decide +kernel) (tgt := 372) (by decide) (lw_thing X C hR hf0 I kw)
  · exact g_tableIn X dL_law_40 (by decide) (by decide) (off := 369) (by decide +kernel) (tgt := 409) (by decide) (lw_buyer X hTx hl0 C hR hf I kk)
  · exact g_tableIn X dL_law_40 (by decide) (by decide) (off := 437) (by decide +kernel) (tgt := 477) (by decide) (lw_liking X C hR hf0 I kw)
  · exact g_tableIn X dL_law_40 (by decide) (by decide) (off := 474) (by decide +kernel) (tgt := 514) (by decide) (lw_bill X C hR hf0 I kw)
  · exact g_tableIn X dL_law_40 (by decide) (by decide) (off := 523) (by decide +kernel) (tgt := 563) (by decide) (lw_law X C hR hf0 I kw)
  · exact g_tableIn X dL_law_40 (by decide) (by decide) (off := 548) (by decide +kernel) (tgt := 588) (by decide) (lw_tempted X C hR hf0 I kw)
  · exact g_tableIn X dL_law_40 (by decide) (by decide) (off := 573) (by decide +kernel) (tgt := 613) (by decide) (lw_pick X C hR hf0 I kw)
  · exact g_tableIn X dL_law_40 (by decide) (by decide) (off := 610) (by decide +kernel) (tgt := 650) (by decide) (lw_putBack X C hR hf0 I kw)
  · exact g_tableIn X dL_law_40 (by decide) (by decide) (off := 635) (by decide +kernel) (tgt := 675) (by decide) (lw_hand X C hR hf0 I kw)
  · exact g_tableIn X dL_law_40 (by decide) (by decide) (off := 672) (by decide +kernel) (tgt := 712) (by decide) (lw_buy X C hR hf0 I kw)
  · exact g_tableIn X dL_law_40 (by decide) (by decide) (off := 697) (by decide +kernel) (tgt := 737) (by decide) (lw_hour X C hR hf0 I kw)
  · exact g_tableIn X dL_law_40 (by decide) (by decide) (off := 710) (by decide +kernel) (tgt := 750) (by decide) (lw_clerk X C hR hf0 I kw)
  · exact g_tableIn X dL_law_40 (by decide) (by decide) (off := 735) (by decide +kernel) (tgt := 775) (by decide) (lw_rate X C hR hf0 I kw)
  · exact g_tableIn X dL_law_40 (by decide) (by decide) (off := 760) (by decide +kernel) (tgt := 800) (by decide) (lw_gift X C hR hf0 I kw)
  · exact g_tableIn X dL_law_40 (by decide) (by decide) (off := 797) (by decide +kernel) (tgt := 837) (by decide) (lw_years X C hR hf0 I kw)
  · exact g_tableIn X dL_law_40 (by decide) (by decide) (off := 866) (by decide +kernel) (tgt := 906) (by decide) (lw_status X C hR hf0 I kw)
  · exact g_tableIn X dL_law_40 (by decide) (by decide) (off := 891) (by decide +kernel) (tgt := 931) (by decide) (lw_undo X C hR hf0 I kw)
  · exact g_tableIn X dL_law_40 (by decide) (by decide) (off := 904) (by decide +kernel) (tgt := 944) (by decide) (lw_log X C hR hf0 I kw)
  · exact g_tableIn X dL_law_40 (by decide) (by decide) (off := 941) (by decide +kernel) (tgt := 981) (by decide) (lw_step X C hR hf0 I kw)
  · exact g_tableIn X dL_law_40 (by decide) (by decide) (off := 990) (by decide +kernel) (tgt := 1030) (by decide) (lw_run X C hR hf0 I kw)
  · exact g_tableIn X dL_law_40 (by decide) (by decide) (off := 1027) (by decide +kernel) (tgt := 1067) (by decide) (lw_perform X C hR hf0 I kw)
  · exact g_tableIn X dL_law_40 (by decide) (by decide) (off := 1052) (by decide +kernel) (tgt := 1092) (by decide) (lw_treasury X C hR hf0 I kw)
  · exact g_tableIn X dL_law_40 (by decide) (by decide) (off := 1077) (by decide +kernel) (tgt := 1117) (by decide) (lw_purse X C hR hf0 I kw)
  · exact g_tableIn X dL_law_40 (by decide) (by decide) (off := 1114) (by decide +kernel) (tgt := 1154) (by decide) (lw_whose X C hR hf0 I kw)
  · exact g_tableIn X dL_law_40 (by decide) (by decide) (off := 1151) (by decide +kernel) (tgt := 1191) (by decide) (lw_seek X C hR hf0 I kw)
  · exact g_tableIn X dL_law_40 (by decide) (by decide) (off := 1200) (by decide +kernel) (tgt := 1240) (by decide) (lw_raises X C hR hf0 I kw)
  · exact g_tableIn X dL_law_40 (by decide) (by decide) (off := 1237) (by decide +kernel) (tgt := 1277) (by decide) (lw_selling X C hR hf0 I kw)
  · exact g_tableIn X dL_law_40 (by decide) (by decide) (off := 1274) (by decide +kernel) (tgt := 1314) (by decide) (lw_seen X C hR hf0 I kw)
  · exact g_tableIn X dL_law_40 (by decide) (by decide) (off := 1339) (by decide +kernel) (tgt := 1379) (by decide) (lw_desires X C hR hf0 I kw)
  · exact g_tableIn X dL_law_40 (by decide) (by decide) (off := 1376) (by decide +kernel) (tgt := 1416) (by decide) (lw_ask X C hR hf0 I kw)
  · exact g_tableIn X dL_law_40 (by decide) (by decide) (off := 1401) (by decide +kernel) (tgt := 1441) (by decide) (lw_game X C hR hf0 I kw)
  · exact g_tableIn X dL_law_40 (by decide) (by decide) (off := 1474) (by decide +kernel) (tgt := 1514) (by decide) (lw_rests X C hR hf0 I kw)
  · exact g_tableIn X dL_law_40 (by decide) (by decide) (off := 1523) (by decide +kernel) (tgt := 1563) (by decide) (lw_odds X C hR hf0 I kw)
  · exact g_tableIn X dL_law_40 (by decide) (by decide) (off := 1572) (by decide +kernel) (tgt := 1612) (by decide) (lw_shares X C hR hf0 I kw)
  · exact g_tableIn X dL_law_40 (by decide) (by decide) (off := 1609) (by decide +kernel) (tgt := 1649) (by decide) (lw_all X C hR hf0 I kw)
  · exact g_tableIn X dL_law_40 (by decide) (by decide) (off := 1634) (by decide +kernel) (tgt := 1674) (by decide) (lw_image X C hR hf0 I kw)
  · exact g_tableIn X dL_law_40 (by decide) (by decide) (off := 1647) (by decide +kernel) (tgt := 1687) (by decide) (lw_back X C hR hf0 I kw)
  · exact g_tableIn X dL_law_40 (by decide) (by decide) (off := 1660) (by decide +kernel) (tgt := 1700) (by decide) (lw_count X C hR hf0 I kw)
theorem law_loop (X : Cx θ p s m args c cL_law 7 RL) (hTx : ThX s) (hl0 : l.stackTraces = false) (hx : va_X b L xs s s.heap) (hb : b < s.heap.size) (hbA : ¬ Aq θ b) (hL : L ≤ 3072) (hR : 100 ≤ R.frames ∧ 8000 ≤ R.locals) (hend : ∀ σ1, G θ p l e R s m args below meth c 7 R.cells R.slots Q 1731 [] [] σ1) : ∀ (n ii : Nat) (σ : Mem) (cells slots : Nat), Inv σ → L < ii + 6 * n + 6 → ii ≤ 4000 → cells + n ≤ R.cells → slots + 6 * n ≤ R.slots → G θ p l e R s m args below meth c 7 cells slots Q 23 (LV θ b ii) [] σ := by
  intro n
  induction n with
  | zero =>
    intro ii σ cells slots I h1 h2 h3 h4
    refine g_iload X (show decode cL_law 23 = .ok (.iload 4, 2) by decide +kernel) 0 rfl ?_
    refine g_aload_n X (show decode cL_law 25 = .ok (.aload_n 0, 1) by decide +kernel) rfl 4 rfl ?_
    refine g_slen X hx hb hbA (by decide +kernel) ?_
    refine g_bipush X (n := 6) (by decide +kernel) (v := 6) (by decide) ?_
    refine g_isub X (by decide +kernel) ?_
    refine g_icmp_gt X (off := 1701) (by decide +kernel) (tgt := 1731) (by decide) (fun h => g_widen (by omega) (by omega) (g_sub [] rfl (hend σ))) (fun h => ?_)
    have := nI6 hL h2 h
    omega
  | succ n ih =>
    intro ii σ cells slots I h1 h2 h3 h4
    refine g_iload X (show decode cL_law 23 = .ok (.iload 4, 2) by decide +kernel) 0 rfl ?_
    refine g_aload_n X (show decode cL_law 25 = .ok (.aload_n 0, 1) by decide +kernel) rfl 4 rfl ?_
    refine g_slen X hx hb hbA (by decide +kernel) ?_
    refine g_bipush X (n := 6) (by decide +kernel) (v := 6) (by decide) ?_
    refine g_isub X (by decide +kernel) ?_
    refine g_icmp_gt X (off := 1701) (by decide +kernel) (tgt := 1731) (by decide) (fun h => g_widen (by omega) (by omega) (g_sub [] rfl (hend σ))) (fun h => ?_)
    have h6 := nI6 hL h2 h
    refine g_aload_n X (show decode cL_law 33 = .ok (.aload_n 0, 1) by decide +kernel) rfl 4 rfl ?_
    refine g_iload X (show decode cL_law 34 = .ok (.iload 4, 2) by decide +kernel) 0 rfl ?_
    refine g_sld X hx hb hbA (vin_nI (by omega) (by omega)) (by decide +kernel) ?_
    refine g_bipush X (n := 63) (by decide +kernel) (v := 63) (by decide) ?_
    refine g_iand X (by decide +kernel) ?_
    have K : ∀ σ1, Inv σ1 → G θ p l e R s m args below meth c 7 (cells + 1) (slots + 6) Q 1725 (LV θ b ii) [] σ1 := fun σ1 I1 => by
      refine g_iinc X (i := 4) (kq := 0) (n := 6) (x := nI ii) (v := nI (ii + 6)) (by decide +kernel) rfl (nI_addc ii 6) (by decide) rfl ?_
      refine g_goto X (off := -1705) (by decide +kernel) (tgt := 23) (by decide) ?_
      exact ih (ii + 6) σ1 (cells + 1) (slots + 6) I1 (by omega) (by omega) (by omega) (by omega)
    generalize xs (nI ii).toNatClampNeg &&& 63 = v
    by_cases hq : v.toInt < 0 ∨ 41 < v.toInt
    · exact g_tableOut X dL_law_40 hq (tgt := 1725) (by decide) (g_widen (by omega) (by omega) (K σ I))
    · obtain ⟨k, hk, rfl⟩ := sw_nat hq
      exact law_switch X hTx hl0 ⟨hx, hb, hbA, h6, hL⟩ hR ⟨by omega, by omega⟩ I K hk
end LW
