/-! what a city was told -/
theorem nI_mul3 (k : Nat) : nI k * (3 : Int32) = nI (3 * k) := by rw [show (3 : Int32) = nI 3 from rfl, pk_mul, Nat.mul_comm]
theorem nI_3mul (k : Nat) : (3 : Int32) * nI k = nI (3 * k) := by rw [show (3 : Int32) = nI 3 from rfl, pk_mul]
theorem City_priceOf {σ : Mem} {c t : Nat} (h : t < 8) : f_City_priceOf σ c (nI t) = some (mI σ (c + 2) (3 * t)) := by
  unfold f_City_priceOf
  simp only [nI_mul3, inb_nI (show 3 * t < 24 by omega) (by decide), if_true, nI_clamp (show 3 * t < 2 ^ 31 by omega)]
theorem City_weightTold {σ : Mem} {c t : Nat} (h : t < 8) : f_City_weightTold σ c (nI t) = some (mI σ (c + 2) (3 * t + 1)) := by
  unfold f_City_weightTold
  simp only [nI_mul3, nI_addc (3 * t) 1, show nI (3 * t) + (1 : Int32) = nI (3 * t + 1) from nI_addc _ 1, inb_nI (show 3 * t + 1 < 24 by omega) (by decide), if_true, nI_clamp (show 3 * t + 1 < 2 ^ 31 by omega)]
theorem City_shopOf {σ : Mem} {c t : Nat} (h : t < 8) : f_City_shopOf σ c (nI t) = some (mI σ (c + 2) (3 * t + 2)) := by
  unfold f_City_shopOf
  simp only [nI_mul3, show nI (3 * t) + (2 : Int32) = nI (3 * t + 2) from nI_addc _ 2, inb_nI (show 3 * t + 2 < 24 by omega) (by decide), if_true, nI_clamp (show 3 * t + 2 < 2 ^ 31 by omega)]
theorem City_purseTold {σ : Mem} {c b : Nat} (h : b < 6) : f_City_purseTold σ c (nI b) = some (mI σ (c + 3) (4 * b)) := by
  unfold f_City_purseTold
  simp only [nI_mul4, inb_nI (show 4 * b < 24 by omega) (by decide), if_true, nI_clamp (show 4 * b < 2 ^ 31 by omega)]
theorem City_desireTold {σ : Mem} {c b : Nat} (h : b < 6) : f_City_desireTold σ c (nI b) = some (mI σ (c + 3) (4 * b + 1)) := by
  unfold f_City_desireTold
  simp only [nI_mul4, show nI (4 * b) + (1 : Int32) = nI (4 * b + 1) from nI_addc _ 1, inb_nI (show 4 * b + 1 < 24 by omega) (by decide), if_true, nI_clamp (show 4 * b + 1 < 2 ^ 31 by omega)]
theorem City_nerveOf {σ : Mem} {c b : Nat} (h : b < 6) : f_City_nerveOf σ c (nI b) = some (mI σ (c + 3) (4 * b + 2)) := by
  unfold f_City_nerveOf
  simp only [nI_mul4, show nI (4 * b) + (2 : Int32) = nI (4 * b + 2) from nI_addc _ 2, inb_nI (show 4 * b + 2 < 24 by omega) (by decide), if_true, nI_clamp (show 4 * b + 2 < 2 ^ 31 by omega)]
theorem City_kindOf {σ : Mem} {c b : Nat} (h : b < 6) : f_City_kindOf σ c (nI b) = some (mI σ (c + 3) (4 * b + 3)) := by
  unfold f_City_kindOf
  simp only [nI_mul4, show nI (4 * b) + (3 : Int32) = nI (4 * b + 3) from nI_addc _ 3, inb_nI (show 4 * b + 3 < 24 by omega) (by decide), if_true, nI_clamp (show 4 * b + 3 < 2 ^ 31 by omega)]
/-- what is due by price, rate and kind -/
def dueF (price rate kind : Int32) : Int32 := if kind = 2 then 0 else if kind = 1 then price * rate / 8 / 2 else price * rate / 8
theorem Trade_dueIfPutBack {σ : Mem} {o b t : Nat} (hc : kd (mR σ 428 1) = 2) (hb : b < 6) (ht : t < 8) : f_Trade_dueIfPutBack σ o (nI b) (nI t) = some (dueF (mI σ (mR σ 428 1 + 2) (3 * t)) (mI σ o 11) (mI σ (mR σ 428 1 + 3) (4 * b + 3))) := by
  unfold f_Trade_dueIfPutBack dueF
  simp only [hc, if_true, City_kindOf hb, City_priceOf ht, Option.bind_some]
  by_cases h2 : mI σ (mR σ 428 1 + 3) (4 * b + 3) = 2
  · simp only [h2, if_true]
  · by_cases h1 : mI σ (mR σ 428 1 + 3) (4 * b + 3) = 1
    · simp only [h1, if_true]
      rfl
    · simp only [h2, h1, if_false]
