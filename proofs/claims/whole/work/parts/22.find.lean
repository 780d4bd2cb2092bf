/-! loops that look for the first -/
def firstR {β : Type} (P : Nat → Bool) (r : Nat → β) (r0 : β) : Nat → Nat → β
  | 0, _ => r0
  | n + 1, i => if P i = true then r i else firstR P r r0 n (i + 1)
theorem loopF_first {α β : Type} {step : α → Option (α ⊕ β)} (a : Nat → α) (P : Nat → Bool) (r : Nat → β) (r0 : β) : ∀ (n i : Nat), (∀ j, i ≤ j → j < i + n → P j = false → step (a j) = some (.inl (a (j + 1)))) → (∀ j, i ≤ j → j < i + n → P j = true → step (a j) = some (.inr (r j))) → step (a (i + n)) = some (.inr r0) → ∀ m, n < m → loopF step m (a i) = some (firstR P r r0 n i) := by
  intro n
  induction n with
  | zero =>
    intro i _ _ he m hm
    obtain ⟨m, rfl⟩ : ∃ k, m = k + 1 := ⟨m - 1, by omega⟩
    exact loopF_inr he
  | succ n ih =>
    intro i hs hp he m hm
    obtain ⟨m, rfl⟩ : ∃ k, m = k + 1 := ⟨m - 1, by omega⟩
    cases hP : P i with
    | true =>
      rw [loopF_inr (hp i (Nat.le_refl _) (by omega) hP)]
      simp [firstR, hP]
    | false =>
      rw [loopF_inl (hs i (Nat.le_refl _) (by omega) hP)]
      simp only [firstR, hP, Bool.false_eq_true, if_false]
      exact ih (i + 1) (fun j h1 h2 => hs j (by omega) (by omega)) (fun j h1 h2 => hp j (by omega) (by omega)) (by rw [show i + 1 + n = i + (n + 1) by omega]; exact he) m (by omega)
/-- there is a bill of buyer b for thing t among the first n of the row f -/
def hasS (f : Nat → Int32) (b t : Int32) (n : Nat) : Int32 := firstR (fun k => decide (f (4 * k) = b ∧ f (4 * k + 1) = t)) (fun _ => (1 : Int32)) 0 n 0
theorem State_hasBillFor {σ : Mem} {o : Nat} {b t : Int32} {n : Nat} (hc : mI σ o 9 = nI n) (hn : n ≤ 24) : f_State_hasBillFor σ o b t = some (hasS (mI σ (o + 8)) b t n) := by
  unfold f_State_hasBillFor hasS
  refine loopF_first (fun i => nI i) _ _ _ n 0 (fun j _ hj hP => ?_) (fun j _ hj hP => ?_) ?_ FU (by unfold FU; omega)
  all_goals unfold f_State_hasBillFor_L2
  · have h1 : ¬ nI n ≤ nI j := fun q => by have := (nI_leI (a := n) (b := j) (by omega) (by omega)).mp q; omega
    have hP := of_decide_eq_false hP
    simp only [hc, h1, if_false, nI_mul4 j, nI_1, nI_addc (4 * j) 1, inb_nI (show 4 * j < 96 by omega) (by decide), inb_nI (show 4 * j + 1 < 96 by omega) (by decide), if_true, nI_clamp (show 4 * j < 2 ^ 31 by omega), nI_clamp (show 4 * j + 1 < 2 ^ 31 by omega)]
    by_cases h2 : mI σ (o + 8) (4 * j) = b
    · have h3 : ¬ mI σ (o + 8) (4 * j + 1) = t := fun q => hP ⟨h2, q⟩
      simp only [h2, h3, if_true, if_false]
    · simp only [h2, if_false]
  · have h1 : ¬ nI n ≤ nI j := fun q => by have := (nI_leI (a := n) (b := j) (by omega) (by omega)).mp q; omega
    have hP := of_decide_eq_true hP
    simp only [hc, h1, if_false, nI_mul4 j, nI_1, nI_addc (4 * j) 1, inb_nI (show 4 * j < 96 by omega) (by decide), inb_nI (show 4 * j + 1 < 96 by omega) (by decide), if_true, nI_clamp (show 4 * j < 2 ^ 31 by omega), nI_clamp (show 4 * j + 1 < 2 ^ 31 by omega), hP.1, hP.2]
  · simp only [hc, Nat.zero_add]
    exact if_pos (nI_le (Nat.le_refl _) (by omega))
