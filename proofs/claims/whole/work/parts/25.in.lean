theorem Model_isIn {σ : Mem} {a b c : Int64} : f_Model_isIn σ a b c = some (if a < b then 0 else if c < a then 0 else 1) := by
  unfold f_Model_isIn
  simp only [lg_cmp_lt, lg_cmp_gt]
  by_cases h : a < b
  · simp only [h, if_true]
  · by_cases h2 : c < a
    · simp only [h, h2, if_true, if_false]
    · simp only [h, h2, if_false]
theorem Model_dueFor {σ : Mem} {a b t : Nat} (hl : 131 ≤ ln a) (hb : b < 6) (ht : t < 8) : f_Model_dueFor σ a (nI b) (nI t) = some (dueF (mI σ 572 (3 * t)) (mI σ a 127) (mI σ 574 (4 * b + 3))) := by
  unfold f_Model_dueFor dueF
  have e127 : (127 : Int32).toNatClampNeg = 127 := by decide
  simp only [nI_3mul, nI_4mul, show nI (4 * b) + (3 : Int32) = nI (4 * b + 3) from nI_addc _ 3, e127, inbL (show inb (127 : Int32) 131 = true by decide) hl, inb_nI (show 3 * t < 24 by omega) (by decide), inb_nI (show 4 * b + 3 < 24 by omega) (by decide), if_true, nI_clamp (show 3 * t < 2 ^ 31 by omega), nI_clamp (show 4 * b + 3 < 2 ^ 31 by omega)]
  by_cases h2 : mI σ 574 (4 * b + 3) = 2
  · simp only [h2, if_true]
  · by_cases h1 : mI σ 574 (4 * b + 3) = 1
    · simp only [h1, if_true]
      rfl
    · simp only [h2, h1, if_false]
