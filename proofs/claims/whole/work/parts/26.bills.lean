/-- how many of the first n bills of the row f are buyer b's -/
def cntS (f : Nat → Int32) (b : Int32) : Nat → Int32
  | 0 => 0
  | n + 1 => if f (4 * n) = b then cntS f b n + 1 else cntS f b n
theorem State_billsOf {σ : Mem} {o : Nat} {b : Int32} {n : Nat} (hc : mI σ o 9 = nI n) (hn : n ≤ 24) : f_State_billsOf σ o b = some (cntS (mI σ (o + 8)) b n) := by
  unfold f_State_billsOf
  refine loopF_count (fun i => (cntS (mI σ (o + 8)) b i, nI i)) _ n 0 (fun j _ hj => ?_) ?_ FU (by unfold FU; omega)
  · have h1 : ¬ nI n ≤ nI j := fun q => by have := (nI_leI (a := n) (b := j) (by omega) (by omega)).mp q; omega
    have e1 : nI j * (4 : Int32) = nI (4 * j) := nI_mul4 j
    have e3 : nI j + (1 : Int32) = nI (j + 1) := nI_1 j
    unfold f_State_billsOf_L4
    simp only [hc, h1, if_false, e1, e3, inb_nI (show 4 * j < 96 by omega) (by decide), if_true, nI_clamp (show 4 * j < 2 ^ 31 by omega), cntS]
    by_cases hb : mI σ (o + 8) (4 * j) = b
    · simp only [hb, if_true]
    · simp only [hb, if_false]
  · unfold f_State_billsOf_L4
    simp only [hc, Nat.zero_add]
    exact if_pos (nI_le (Nat.le_refl _) (by omega))
theorem Model_billsOf {σ : Mem} {b : Int32} {n : Nat} (hc : mI σ 578 126 = nI n) (hn : n ≤ 24) : f_Model_billsOf σ b = some (cntS (fun k => mI σ 578 (30 + k)) b n) := by
  unfold f_Model_billsOf
  refine loopF_count (fun i => (cntS (fun k => mI σ 578 (30 + k)) b i, nI i)) _ n 0 (fun j _ hj => ?_) ?_ FU (by unfold FU; omega)
  · have h1 : ¬ nI n ≤ nI j := fun q => by have := (nI_leI (a := n) (b := j) (by omega) (by omega)).mp q; omega
    have e1 : (30 : Int32) + (4 : Int32) * nI j = nI (30 + 4 * j) := by rw [nI_4mul, nI_30]
    have e3 : nI j + (1 : Int32) = nI (j + 1) := nI_1 j
    unfold f_Model_billsOf_L4
    simp only [show inb (126 : Int32) 312 = true by decide, cl126, hc, h1, if_false, e1, e3, inb_nI (show 30 + 4 * j < 312 by omega) (by decide), if_true, nI_clamp (show 30 + 4 * j < 2 ^ 31 by omega), cntS, nI_z]
    by_cases hb : mI σ 578 (30 + 4 * j) = b
    · simp only [hb, if_true]
    · simp only [hb, if_false]
  · unfold f_Model_billsOf_L4
    simp only [show inb (126 : Int32) 312 = true by decide, cl126, hc, Nat.zero_add, if_true]
    exact if_pos (nI_le (Nat.le_refl _) (by omega))
