/-! the first memory -/
def z0 : Rw := fun _ => 0
def sg0 : Mem := sR (sR (sR (sI (sI (sI (sI (sI (sI (sI (sI (sI m00 0 13 (-1)) 0 15 2) 434 2 (-1)) 434 3 (-1)) 531 5 1) 565 35 (-1)) 565 36 2) 565 39 (-1)) 565 41 (-1)) 0 11 536) 428 1 430) 565 5 566
def A0 : Gh := ((0, z0), (0, fun _ => plK, -1), (0, fun _ => 0, fun _ => z0), (z0, 2), ((0, 0), z0, z0, z0, plK, z0, z0), z0, (0, z0), (0, fun _ => z0), (0, z0))
theorem sg0_I (a k : Nat) : mI sg0 a k = if a = 565 ∧ k = 41 then -1 else if a = 565 ∧ k = 39 then -1 else if a = 565 ∧ k = 36 then 2 else if a = 565 ∧ k = 35 then -1 else if a = 531 ∧ k = 5 then 1 else if a = 434 ∧ k = 3 then -1 else if a = 434 ∧ k = 2 then -1 else if a = 0 ∧ k = 15 then 2 else if a = 0 ∧ k = 13 then -1 else 0 := by
  have st : ∀ (σ : Mem) (b j : Nat) (v : Int32), mI (sI σ b j v) a k = if a = b ∧ k = j then v else mI σ a k := fun σ b j v => by
    by_cases h : a = b
    · subst h
      rw [row_sI, upd_at]
      by_cases q : k = j
      · rw [if_pos q, if_pos ⟨rfl, q⟩]
      · rw [if_neg q, if_neg (fun z => q z.2)]
    · rw [row_ne h, if_neg (fun z => h z.1)]
  unfold sg0
  rw [mI_sR, mI_sR, mI_sR, st, st, st, st, st, st, st, st, st]
  rfl
theorem sg0_0 {a k : Nat} (h : ¬ (a = 565 ∧ (k = 41 ∨ k = 39 ∨ k = 36 ∨ k = 35) ∨ a = 531 ∧ k = 5 ∨ a = 434 ∧ (k = 3 ∨ k = 2) ∨ a = 0 ∧ (k = 15 ∨ k = 13))) : mI sg0 a k = 0 := by
  rw [sg0_I, if_neg (by omega), if_neg (by omega), if_neg (by omega), if_neg (by omega), if_neg (by omega), if_neg (by omega), if_neg (by omega), if_neg (by omega), if_neg (by omega)]
theorem sg0_row {a : Nat} (h : a ≠ 565 ∧ a ≠ 531 ∧ a ≠ 434 ∧ a ≠ 0) : mI sg0 a = z0 := funext fun k => sg0_0 (by omega)
theorem sg0_L : mL sg0 = fun _ _ => 0 := rfl
theorem sg0_R : mR sg0 0 11 = 536 ∧ mR sg0 428 1 = 430 ∧ mR sg0 428 2 = 0 ∧ mR sg0 565 5 = 566 := by
  unfold sg0
  simp only [mR_sR, mR_sI]
  exact ⟨rfl, rfl, rfl, rfl⟩
theorem gOk_0 : gOk A0 := ⟨⟨Nat.zero_le _, fun i hi => absurd hi (Nat.not_lt_zero _)⟩, ⟨Nat.zero_le _, Or.inl rfl⟩, ⟨Nat.zero_le _, fun i hi => absurd hi (Nat.not_lt_zero _)⟩, rfl, fun i hi => absurd hi (Nat.not_lt_zero _), fun i hi => absurd hi (Nat.not_lt_zero _), Or.inl rfl, Nat.zero_le _, Nat.zero_le _, Or.inl ⟨rfl, rfl, rfl, rfl, rfl, rfl⟩⟩
theorem CRel_0 : CRel sg0 A0 := by
  obtain ⟨r1, r2, r3, r4⟩ := sg0_R
  refine ⟨⟨sg0_0 (by omega), fun i hi => absurd hi (Nat.not_lt_zero _)⟩, ⟨sg0_0 (by omega), sg0_I 0 13, fun i hi => absurd hi (Nat.not_lt_zero _), Or.inl ⟨rfl, r3⟩⟩, ⟨sg0_0 (by omega), fun i hi => absurd hi (Nat.not_lt_zero _)⟩, ⟨fun k hk => sg0_0 (by omega), sg0_I 0 15⟩, ⟨by rw [r2]; decide +kernel, by rw [r2]; omega, by rw [r2]; exact sg0_0 (by omega), by rw [r2]; exact sg0_0 (by omega), fun k hk => by rw [r2]; exact sg0_0 (by omega), fun k hk => absurd hk (Nat.not_lt_zero _), fun k hk => absurd hk (Nat.not_lt_zero _)⟩, Or.inr ⟨r1, r2⟩, ⟨⟨sg0_0 (by omega), sg0_0 (by omega), sg0_0 (by omega), sg0_0 (by omega), sg0_0 (by omega)⟩, fun h => absurd rfl h⟩, ⟨sg0_0 (by omega), fun h => absurd h (show ¬ (0 : Int32) = 1 by decide)⟩, ⟨sg0_0 (by omega), 0, by omega, sg0_0 (by omega), fun j hj => absurd hj (Nat.not_lt_zero _)⟩, ⟨sg0_0 (by omega), fun i hi => absurd hi (Nat.not_lt_zero _)⟩⟩
theorem MRel_0 : MRel sg0 A0 := by
  refine ⟨⟨sg0_0 (by omega), fun i hi => absurd hi (Nat.not_lt_zero _)⟩, ⟨sg0_0 (by omega), sg0_I 565 35, Nat.zero_le _, fun i hi => absurd hi (Nat.not_lt_zero _), fun q hq => Or.inl rfl⟩, ⟨sg0_0 (by omega), fun i hi => absurd hi (Nat.not_lt_zero _)⟩, ⟨fun k hk => sg0_0 (by omega), sg0_I 565 36⟩, ⟨sg0_0 (by omega), sg0_0 (by omega), sg0_row (by omega), sg0_row (by omega), sg0_row (by omega), fun i hi => absurd hi (Nat.not_lt_zero _), fun i hi => absurd hi (Nat.not_lt_zero _)⟩, ⟨sg0_I 565 39, sg0_I 565 41⟩, sg0_row (by omega), ⟨sg0_0 (by omega), fun h => absurd h (show ¬ (0 : Int32) = 1 by decide)⟩, ⟨sg0_0 (by omega), fun j hj => absurd hj (Nat.not_lt_zero _)⟩, ⟨sg0_0 (by omega), fun i hi => absurd hi (Nat.not_lt_zero _)⟩⟩
