theorem Model_hasBill {σ : Mem} {a : Nat} {b t : Int32} {n : Nat} (hl : 131 ≤ ln a) (hc : mI σ a 126 = nI n) (hn : n ≤ 24) : f_Model_hasBill σ a b t = some (hasS (fun k => mI σ a (30 + k)) b t n) := by
  unfold f_Model_hasBill hasS
  refine loopF_first (fun i => nI i) _ _ _ n 0 (fun j _ hj hP => ?_) (fun j _ hj hP => ?_) ?_ FU (by unfold FU; omega)
  all_goals unfold f_Model_hasBill_L2
  · have h1 : ¬ nI n ≤ nI j := fun q => by have := (nI_leI (a := n) (b := j) (by omega) (by omega)).mp q; omega
    have hP := of_decide_eq_false hP
    have e1 : (30 : Int32) + (4 : Int32) * nI j = nI (30 + 4 * j) := by rw [nI_4mul, nI_30]
    have e2 : nI (30 + 4 * j) + (1 : Int32) = nI (30 + (4 * j + 1)) := nI_addc _ 1
    have e3 : nI j + (1 : Int32) = nI (j + 1) := nI_1 j
    simp only [i126 hl, cl126, hc, h1, if_false, e1, e2, e3, inbL (inb_nI (show 30 + 4 * j < 131 by omega) (by decide)) hl, inbL (inb_nI (show 30 + (4 * j + 1) < 131 by omega) (by decide)) hl, if_true, nI_clamp (show 30 + 4 * j < 2 ^ 31 by omega), nI_clamp (show 30 + (4 * j + 1) < 2 ^ 31 by omega)]
    by_cases h2 : mI σ a (30 + 4 * j) = b
    · have h3 : ¬ mI σ a (30 + (4 * j + 1)) = t := fun q => hP ⟨h2, q⟩
      simp only [h2, h3, if_true, if_false]
    · simp only [h2, if_false]
  · have h1 : ¬ nI n ≤ nI j := fun q => by have := (nI_leI (a := n) (b := j) (by omega) (by omega)).mp q; omega
    have hP := of_decide_eq_true hP
    have e1 : (30 : Int32) + (4 : Int32) * nI j = nI (30 + 4 * j) := by rw [nI_4mul, nI_30]
    have e2 : nI (30 + 4 * j) + (1 : Int32) = nI (30 + (4 * j + 1)) := nI_addc _ 1
    have e3 : nI j + (1 : Int32) = nI (j + 1) := nI_1 j
    simp only [i126 hl, cl126, hc, h1, if_false, e1, e2, e3, inbL (inb_nI (show 30 + 4 * j < 131 by omega) (by decide)) hl, inbL (inb_nI (show 30 + (4 * j + 1) < 131 by omega) (by decide)) hl, if_true, nI_clamp (show 30 + 4 * j < 2 ^ 31 by omega), nI_clamp (show 30 + (4 * j + 1) < 2 ^ 31 by omega), hP.1, hP.2]
  · simp only [i126 hl, cl126, hc, Nat.zero_add, if_true]
    exact if_pos (nI_le (Nat.le_refl _) (by omega))
/-- what buyer b holds by the row w of T things: the first thing of his that isn't sold -/
def holdS (w : Nat → Int32) (T : Nat) (b : Int32) : Int32 := firstR (fun t => decide (w t = b ∧ w (8 + t) = 0)) (fun t => nI t) (-1) T 0
theorem nI_8 (k : Nat) : (8 : Int32) + nI k = nI (8 + k) := by rw [show (8 : Int32) = nI 8 from rfl, nI_add]
theorem Model_holds {σ : Mem} {a : Nat} {b : Int32} {T : Nat} (hl : 131 ≤ ln a) (hT : mI σ 565 26 = nI T) (h8 : T ≤ 8) : f_Model_holds σ a b = some (holdS (mI σ a) T b) := by
  unfold f_Model_holds holdS
  refine loopF_first (fun i => nI i) _ _ _ T 0 (fun j _ hj hP => ?_) (fun j _ hj hP => ?_) ?_ FU (by unfold FU; omega)
  all_goals unfold f_Model_holds_L2
  · have h1 : ¬ nI T ≤ nI j := fun q => by have := (nI_leI (a := T) (b := j) (by omega) (by omega)).mp q; omega
    have hP := of_decide_eq_false hP
    have e3 : nI j + (1 : Int32) = nI (j + 1) := nI_1 j
    simp only [hT, h1, if_false, nI_8, e3, inbL (inb_nI (show j < 131 by omega) (by decide)) hl, inbL (inb_nI (show 8 + j < 131 by omega) (by decide)) hl, if_true, nI_clamp (show j < 2 ^ 31 by omega), nI_clamp (show 8 + j < 2 ^ 31 by omega)]
    by_cases h2 : mI σ a j = b
    · have h3 : ¬ mI σ a (8 + j) = 0 := fun q => hP ⟨h2, q⟩
      simp only [h2, h3, if_true, if_false]
    · simp only [h2, if_false]
  · have h1 : ¬ nI T ≤ nI j := fun q => by have := (nI_leI (a := T) (b := j) (by omega) (by omega)).mp q; omega
    have hP := of_decide_eq_true hP
    simp only [hT, h1, if_false, nI_8, inbL (inb_nI (show j < 131 by omega) (by decide)) hl, inbL (inb_nI (show 8 + j < 131 by omega) (by decide)) hl, if_true, nI_clamp (show j < 2 ^ 31 by omega), nI_clamp (show 8 + j < 2 ^ 31 by omega), hP.1, hP.2]
  · simp only [hT, Nat.zero_add]
    exact if_pos (nI_le (Nat.le_refl _) (by omega))
