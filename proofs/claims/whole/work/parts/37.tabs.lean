/-! the class's cells: states, cities, laws -/
def OkO (o : Nat) : Prop := o < 565 ∧ kd o = 8
def okO (o : Nat) : Bool := (Nat.ble 6 o && Nat.ble o 16) || (Nat.ble 28 o && Nat.ble o 418) || (Nat.ble 435 o && Nat.ble o 506) || Nat.beq o 517
def okL (o : Nat) : Bool := Nat.beq (ln (o + 1)) 8 && Nat.beq (ln (o + 2)) 8 && Nat.beq (ln (o + 3)) 8 && Nat.beq (ln (o + 4)) 8 && Nat.beq (ln (o + 5)) 6 && Nat.beq (ln (o + 6)) 6 && Nat.beq (ln (o + 7)) 6 && Nat.beq (ln (o + 8)) 96 && Nat.beq (ln (o + 9)) 180
theorem okO_tab : ∀ o, o < 565 → kd o = 8 → okO o = true := by decide +kernel
theorem okL_tab : ∀ o, o < 565 → kd o = 8 → okL o = true := by decide +kernel
theorem OkO.r {o : Nat} (h : OkO o) : (6 ≤ o ∧ o ≤ 16) ∨ (28 ≤ o ∧ o ≤ 418) ∨ (435 ≤ o ∧ o ≤ 506) ∨ o = 517 := by
  have := okO_tab o h.1 h.2
  simp only [okO, Bool.or_eq_true, Bool.and_eq_true, Nat.ble_eq, Nat.beq_eq, or_assoc] at this
  exact this
theorem OkO.l {o : Nat} (h : OkO o) : ln (o + 1) = 8 ∧ ln (o + 2) = 8 ∧ ln (o + 3) = 8 ∧ ln (o + 4) = 8 ∧ ln (o + 5) = 6 ∧ ln (o + 6) = 6 ∧ ln (o + 7) = 6 ∧ ln (o + 8) = 96 ∧ ln (o + 9) = 180 := by
  have := okL_tab o h.1 h.2
  simp only [okL, Bool.and_eq_true, Nat.beq_eq, and_assoc] at this
  exact this
theorem city_tab : ∀ o, o < 565 → kd o = 2 → o = 430 ∨ o = 536 := by decide +kernel
theorem law_tab : ∀ o, o < 565 → kd o = 6 → 540 ≤ o ∧ o ≤ 552 ∧ o % 3 = 0 := by decide +kernel
