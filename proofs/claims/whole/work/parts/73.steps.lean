/-! the steps of a day -/
/-- whether a step can be: its deed q (4: an hour), its digits -/
def cnS (K : Cy) (w : Rw) (q : Nat) (x y : Int32) : Bool := if q = 4 then decide (w 130 < 9999) else decide (whS K w q x y = -1)
/-- what a step does, but for the log -/
def spS (K : Cy) (w : Rw) (q : Nat) (x y : Int32) : Rw := if q = 4 then paH K w else (doS K w q x y).2
theorem cnS4 {K : Cy} {w : Rw} {x y : Int32} {h N : Nat} (hh : w 130 = nI h) (hN : h < N) (hN2 : N < 2 ^ 30) : cnS K w 4 x y = decide (h < 9999) := by
  unfold cnS
  rw [if_pos rfl, hh]
  by_cases q : h < 9999
  · rw [decide_eq_true q, decide_eq_true (show nI h < (9999 : Int32) from nI_lt (b := 9999) q (by omega))]
  · rw [decide_eq_false q, decide_eq_false (show ¬ nI h < (9999 : Int32) from nI_nlt (b := 9999) (by omega) (by omega))]
theorem spS_wf {K : Cy} {w : Rw} {q : Nat} {x y : Int32} (hK : CyOk K) (hw : Wf (cT K) (cB K) 10000 w) (hc : cnS K w q x y = true) : Wf (cT K) (cB K) 10000 (spS K w q x y) := by
  unfold spS
  by_cases q4 : q = 4
  · subst q4
    obtain ⟨h, h1, h2⟩ := hw.2.2.2.2
    rw [cnS4 h2 h1 (by omega)] at hc
    rw [if_pos rfl]
    exact (paH_wf2 hK rfl rfl hw h2 (by have := of_decide_eq_true hc; omega)).1
  · unfold cnS at hc
    rw [if_neg q4] at hc ⊢
    exact (doS_wf hK hw (of_decide_eq_true hc)).1
theorem nI_ne {a b : Nat} (ha : a < 2 ^ 31) (hb : b < 2 ^ 31) (h : a ≠ b) : ¬ nI a = nI b := fun q => h (nI_inj6 ha hb q)
/-- the d-th day's rows lie in the class's cell c -/
theorem Trade_whyNotStep {σ : Mem} {K : Cy} {o c j q h : Nat} {w : Rw} {x y : Int32} (hT : cT K ≤ 8) (hB : cB K ≤ 6) (hT1 : 1 ≤ cT K) (hk : CK σ K) (hr : RS σ o K w) (hh : w 130 = nI h) (h3 : h < 2 ^ 29) (hj : j < 16) (hq : q ≤ 4) (d0 : mI σ (c + 1) (3 * j) = nI q) (d1 : mI σ (c + 1) (3 * j + 1) = x) (d2 : mI σ (c + 1) (3 * j + 2) = y) : ∃ r, f_Trade_whyNotStep σ o c (nI j) = some r ∧ (r = -1 ↔ cnS K w q x y = true) := by
  have p0 : f_Day_part σ c (nI j) (0 : Int32) = some (nI q) := by rw [show (0 : Int32) = nI 0 from rfl, Day_part hj (by omega)]; exact congrArg some d0
  have p1 : f_Day_part σ c (nI j) (1 : Int32) = some x := by rw [show (1 : Int32) = nI 1 from rfl, Day_part hj (by omega)]; exact congrArg some d1
  have p2 : f_Day_part σ c (nI j) (2 : Int32) = some y := by rw [show (2 : Int32) = nI 2 from rfl, Day_part hj (by omega)]; exact congrArg some d2
  unfold f_Trade_whyNotStep
  rw [p1, Option.bind_some, p0, Option.bind_some, p2]
  have : q = 0 ∨ q = 1 ∨ q = 2 ∨ q = 3 ∨ q = 4 := by omega
  rcases this with rfl | rfl | rfl | rfl | rfl
  · rw [if_pos (show nI 0 = (0 : Int32) from rfl), Option.bind_some, Trade_whyNotPick hT hB hk hr]
    refine ⟨_, rfl, ?_⟩
    unfold cnS
    rw [if_neg (by omega), whS_0, decide_eq_true_eq]
  · rw [if_neg (show ¬ nI 1 = (0 : Int32) by decide), if_pos (show nI 1 = (1 : Int32) from rfl), Trade_whyNotPutBack hB hk hr]
    refine ⟨_, rfl, ?_⟩
    unfold cnS
    rw [if_neg (by omega), whS_1, decide_eq_true_eq]
  · rw [if_neg (show ¬ nI 2 = (0 : Int32) by decide), if_neg (show ¬ nI 2 = (1 : Int32) by decide), if_pos (show nI 2 = (2 : Int32) from rfl), Option.bind_some, Trade_whyNotHand hB hk hr]
    refine ⟨_, rfl, ?_⟩
    unfold cnS
    rw [if_neg (by omega), whS_2, decide_eq_true_eq]
  · rw [if_neg (show ¬ nI 3 = (0 : Int32) by decide), if_neg (show ¬ nI 3 = (1 : Int32) by decide), if_neg (show ¬ nI 3 = (2 : Int32) by decide), if_pos (show nI 3 = (3 : Int32) from rfl), Trade_whyNotBuy hT hB hk hr]
    refine ⟨_, rfl, ?_⟩
    unfold cnS
    rw [if_neg (by omega), whS_3, decide_eq_true_eq]
  · rw [if_neg (show ¬ nI 4 = (0 : Int32) by decide), if_neg (show ¬ nI 4 = (1 : Int32) by decide), if_neg (show ¬ nI 4 = (2 : Int32) by decide), if_neg (show ¬ nI 4 = (3 : Int32) by decide), Trade_whyNotHour hT hk hr hh (by omega), if_neg (by omega)]
    refine ⟨_, rfl, ?_⟩
    rw [cnS4 (N := h + 1) hh (by omega) (by omega), decide_eq_true_eq]
    by_cases e : h < 9999
    · rw [if_pos e]; exact ⟨fun _ => e, fun _ => rfl⟩
    · rw [if_neg e]; exact ⟨fun p => absurd p (by decide), fun p => absurd p e⟩
theorem Trade_makeStep {J : Mem → Prop} {σ : Mem} {K : Cy} {o c j q : Nat} {w : Rw} {x y : Int32} (hJ : LkC J (cL K)) (hK : CyOk K) (hk : CK σ K) (ho : OkO o) (hj' : J σ) (hr : RS σ o K w) (hw : Wf (cT K) (cB K) 10000 w) (hj : j < 16) (hq : q ≤ 4) (d0 : mI σ (c + 1) (3 * j) = nI q) (d1 : mI σ (c + 1) (3 * j + 1) = x) (d2 : mI σ (c + 1) (3 * j + 2) = y) (hc : cnS K w q x y = true) : ∃ σ', f_Trade_makeStep σ o c (nI j) = some σ' ∧ CG J o K σ (spS K w q x y) σ' ∧ (q ≠ 4 → CR J o K σ (spS K w q x y) σ') ∧ (q = 4 → RG σ o w → RG σ' o (lgS (paH K w) (hbS (paH K w) (cT K) 6))) := by
  have h8 := hK.1
  have h6 := hK.2.1
  have p0 : f_Day_part σ c (nI j) (0 : Int32) = some (nI q) := by rw [show (0 : Int32) = nI 0 from rfl, Day_part hj (by omega)]; exact congrArg some d0
  have p1 : f_Day_part σ c (nI j) (1 : Int32) = some x := by rw [show (1 : Int32) = nI 1 from rfl, Day_part hj (by omega)]; exact congrArg some d1
  have p2 : f_Day_part σ c (nI j) (2 : Int32) = some y := by rw [show (2 : Int32) = nI 2 from rfl, Day_part hj (by omega)]; exact congrArg some d2
  have fin : ∀ σ', CR J o K σ (spS K w q x y) σ' → CG J o K σ (spS K w q x y) σ' := fun σ' h => ⟨h.1, h.2.1, h.2.2.1⟩
  unfold f_Trade_makeStep
  rw [p1, Option.bind_some, p0, Option.bind_some, p2]
  have : q = 0 ∨ q = 1 ∨ q = 2 ∨ q = 3 ∨ q = 4 := by omega
  rcases this with rfl | rfl | rfl | rfl | rfl
  · unfold cnS at hc
    rw [if_neg (by omega), whS_0, decide_eq_true_eq] at hc
    obtain ⟨b, t, b1, t1, rfl, rfl, c1, c2⟩ := st0_go hK hc
    obtain ⟨σ1, g1, g2⟩ := Trade_pickUp hJ hK ho hj' hr hw b1 t1 c1 c2
    have e : spS K w 0 (nI b) (nI t) = pkS w b t := by unfold spS doS; rw [if_neg (by omega), if_pos rfl, nI_clamp (by omega), nI_clamp (by omega)]
    rw [if_pos (show nI 0 = (0 : Int32) from rfl), Option.bind_some, g1, e]
    exact ⟨σ1, rfl, ⟨g2.1, g2.2.1, g2.2.2.1⟩, fun _ => g2, fun h => by omega⟩
  · unfold cnS at hc
    rw [if_neg (by omega), whS_1, decide_eq_true_eq] at hc
    obtain ⟨b, t, b1, t1, rfl, c1⟩ := st1_go hK hc
    obtain ⟨σ1, g1, g2⟩ := Trade_layBack hJ hK hk ho hj' hr hw b1 c1 (by omega)
    have e : spS K w 1 (nI b) y = baS K w b t := by unfold spS doS hdS; rw [if_neg (by omega), if_neg (by omega), if_pos rfl, c1, nI_clamp (by omega), nI_clamp (by omega)]
    rw [if_neg (show ¬ nI 1 = (0 : Int32) by decide), if_pos (show nI 1 = (1 : Int32) from rfl), g1, e]
    exact ⟨σ1, rfl, ⟨g2.1, g2.2.1, g2.2.2.1⟩, fun _ => g2, fun h => by omega⟩
  · unfold cnS at hc
    rw [if_neg (by omega), whS_2, decide_eq_true_eq] at hc
    obtain ⟨b, d, t, b1, b2, b3, t1, rfl, rfl, c1, c2⟩ := st2_go hK hc
    obtain ⟨σ1, g1, g2⟩ := Trade_passOn hJ hK ho hj' hr hw b1 b2 b3 c1 c2 (by omega)
    have e : spS K w 2 (nI b) (nI d) = upd w t (nI d) := by unfold spS doS hdS; rw [if_neg (by omega), if_neg (by omega), if_neg (by omega), if_pos rfl, c1, nI_clamp (by omega)]
    rw [if_neg (show ¬ nI 2 = (0 : Int32) by decide), if_neg (show ¬ nI 2 = (1 : Int32) by decide), if_pos (show nI 2 = (2 : Int32) from rfl), Option.bind_some, g1, e]
    exact ⟨σ1, rfl, ⟨g2.1, g2.2.1, g2.2.2.1⟩, fun _ => g2, fun h => by omega⟩
  · unfold cnS at hc
    rw [if_neg (by omega), whS_3, decide_eq_true_eq] at hc
    obtain ⟨b, t, b1, t1, rfl, c1, c2⟩ := st3_go hK hc
    obtain ⟨p, p1', p2', p3⟩ := hK.2.2.1 t t1
    obtain ⟨m, m1, m2⟩ := hw.2.2.1 b b1
    rw [p3, m2] at c2
    obtain ⟨σ1, g1, g2⟩ := Trade_purchase hJ hK hk ho hj' hr hw (by omega) b1 c1 (by omega) p3 m2 (le_of_nI (by omega) (by omega) c2) m1
    have e : spS K w 3 (nI b) y = (buS K w b t).2 := by unfold spS doS hdS; rw [if_neg (by omega), if_neg (by omega), if_neg (by omega), if_neg (by omega), c1, nI_clamp (by omega), nI_clamp (by omega)]
    rw [if_neg (show ¬ nI 3 = (0 : Int32) by decide), if_neg (show ¬ nI 3 = (1 : Int32) by decide), if_neg (show ¬ nI 3 = (2 : Int32) by decide), if_pos (show nI 3 = (3 : Int32) from rfl), g1, e]
    exact ⟨σ1, rfl, ⟨g2.1, g2.2.1, g2.2.2.1⟩, fun _ => g2, fun h => by omega⟩
  · obtain ⟨σ1, g1, g2, g3⟩ := Trade_passHour hJ hK hk ho hj' hr hw (by omega)
    have e : spS K w 4 x y = paH K w := by unfold spS; rw [if_pos rfl]
    rw [if_neg (show ¬ nI 4 = (0 : Int32) by decide), if_neg (show ¬ nI 4 = (1 : Int32) by decide), if_neg (show ¬ nI 4 = (2 : Int32) by decide), if_neg (show ¬ nI 4 = (3 : Int32) by decide), g1, e]
    exact ⟨σ1, rfl, g2, fun h => absurd rfl h, fun _ => g3⟩
theorem Model_canStep {σ : Mem} {K : Cy} {a r q h : Nat} {x y : Int32} (ha : a = 578 ∨ a = 579) (hT : cT K ≤ 8) (hB : cB K ≤ 6) (hk : MK σ K) (hh : mI σ a 130 = nI h) (h3 : h < 2 ^ 29) (hr : r + 2 < 240) (hq : q ≤ 4) (d0 : mI σ 576 r = nI q) (d1 : mI σ 576 (r + 1) = x) (d2 : mI σ 576 (r + 2) = y) : f_Model_canStep σ a (nI r) = some (if cnS K (mI σ a) q x y = true then 1 else 0) := by
  have hln := ln_row ha
  have l130 : (130 : Int32).toNatClampNeg = 130 := by decide
  unfold f_Model_canStep
  rw [if_pos (inb_nI (by omega) (by decide)), nI_clamp (by omega), d0]
  by_cases q4 : q = 4
  · subst q4
    rw [if_pos (show nI 4 = (4 : Int32) from rfl), if_pos (inbL (n := 131) (by decide) hln), l130, hh, cnS4 (N := h + 1) hh (by omega) (by omega)]
    by_cases e : h < 9999
    · rw [if_pos (decide_eq_true e), if_neg (show ¬ (9999 : Int32) ≤ nI h from nI_ge (b := 9999) e (by omega))]
    · rw [if_neg (show ¬ decide (h < 9999) = true by rw [decide_eq_false e]; decide), if_pos (show (9999 : Int32) ≤ nI h from nI_le (a := 9999) (by omega) (by omega))]
  · have a2 : nI r + (2 : Int32) = nI (r + 2) := nI_addc _ 2
    rw [if_neg (show ¬ nI q = (4 : Int32) from nI_ne (b := 4) (by omega) (by omega) q4), nI_1, a2, if_pos (inb_nI (by omega) (by decide)), if_pos (inb_nI (by omega) (by decide)), nI_clamp (by omega), nI_clamp (by omega), d1, d2, Model_stops ha hT hB hk (by omega), Option.bind_some]
    unfold cnS
    rw [if_neg q4]
    by_cases e : whS K (mI σ a) q x y = -1
    · rw [if_pos e, if_pos (decide_eq_true e)]
    · rw [if_neg e, if_neg (show ¬ decide (whS K (mI σ a) q x y = -1) = true by rw [decide_eq_false e]; decide)]
