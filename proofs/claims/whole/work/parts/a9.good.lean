/-! what the constructors leave is the first memory (laid by wip/tools/good.py) -/
def Good (θ : Th) (V : Nat → Nat → Value) (a : Nat) : Prop := (∀ ci, kd a = ci + 1 → ci < 12 → ∀ k, k < nF ci → V a k = fv θ sg0 ci a k) ∧ (13 ≤ kd a → ∀ j, j < ln a → V a j = ev θ sg0 (kd a) a j)
theorem Good.row {θ : Th} {V V' : Nat → Nat → Value} {a : Nat} (g : Good θ V a) (h : V' a = V a) : Good θ V' a := by unfold Good; rw [h]; exact g
def nz (a : Nat) : Prop := a ≠ 565 ∧ a ≠ 531 ∧ a ≠ 434 ∧ a ≠ 0
theorem Good_arr {θ : Th} {V : Nat → Nat → Value} {a : Nat} (hk : kd a = 13 ∨ kd a = 14 ∨ kd a = 15) (hz : nz a) (h : V a = fun _ => .int 0) : Good θ V a := by
  refine ⟨fun ci h1 h2 => by omega, fun _ j _ => ?_⟩
  rw [h]
  unfold ev
  rw [if_neg (by omega), if_pos (by omega), sg0_row hz]
  rfl
theorem Good_lng {θ : Th} {V : Nat → Nat → Value} {a : Nat} (hk : kd a = 16) (h : V a = fun _ => .long 0) : Good θ V a := by
  refine ⟨fun ci h1 h2 => by omega, fun _ j _ => ?_⟩
  rw [h]
  unfold ev
  rw [if_pos hk]
  rfl
theorem Good_obj {θ : Th} {V : Nat → Nat → Value} {a ci : Nat} (hk : kd a = ci + 1) (hc : ci < 12) (h : ∀ k, k < nF ci → V a k = fv θ sg0 ci a k) : Good θ V a := by
  refine ⟨fun cj h1 h2 => ?_, fun _ => by omega⟩
  obtain rfl : cj = ci := by omega
  exact h
theorem fv0 {θ : Th} {σ : Mem} {ci a k x : Nat} (h : ft ci k = (0, x)) : fv θ σ ci a k = .int (mI σ a k) := by unfold fv; rw [h]; rfl
theorem fv1 {θ : Th} {σ : Mem} {ci a k x : Nat} (h : ft ci k = (1, x)) : fv θ σ ci a k = .long (mL σ a k) := by unfold fv; rw [h]; rfl
theorem fv2 {θ : Th} {σ : Mem} {ci a k x : Nat} (h : ft ci k = (2, x)) : fv θ σ ci a k = .ref (be θ + (a + x)) := by unfold fv; rw [h]; rfl
theorem fv3 {θ : Th} {σ : Mem} {ci a k x : Nat} (h : ft ci k = (3, x)) : fv θ σ ci a k = rv (be θ) (mR σ a k) := by unfold fv; rw [h]; rfl
theorem fv4 {θ : Th} {σ : Mem} {ci a k x : Nat} (h : ft ci k = (4, x)) : fv θ σ ci a k = .ref (sA θ x) := by unfold fv; rw [h]; rfl

theorem G_X8 {θ : Th} {V : Nat → Nat → Value} {o : Nat} (h0 : kd o = 9) (k1 : kd (o + 1) = 13) (hz : ∀ j, j ≤ 1 → nz (o + j)) : ∀ b, o ≤ b → b < o + 2 → Good θ (iX8 θ V o) b := by
  intro b h1 h2
  obtain ⟨j, rfl⟩ : ∃ j, b = o + j := ⟨b - o, by omega⟩
  have hj : j = 0 ∨ j = 1 := by omega
  rcases hj with rfl | rfl
  · have hz := hz 0 (by omega)
    rw [Nat.add_zero] at hz ⊢
    refine Good_obj (ci := 8) h0 (by decide) fun k hk => ?_
    have hk : k < 4 := hk
    have hk : k = 0 ∨ k = 1 ∨ k = 2 ∨ k = 3 := by omega
    rcases hk with rfl | rfl | rfl | rfl
    · rw [fv2 (x := 1) (by decide)]; simp [iX8, upC, upR, updV, Nat.add_assoc]
    · rw [fv0 (x := 0) (by decide), sg0_0 (by unfold nz at hz; omega)]; simp [iX8, upC, upR, updV, Nat.add_assoc]
    · rw [fv0 (x := 0) (by decide), sg0_0 (by unfold nz at hz; omega)]; simp [iX8, upC, upR, updV, Nat.add_assoc]
    · rw [fv0 (x := 0) (by decide), sg0_0 (by unfold nz at hz; omega)]; simp [iX8, upC, upR, updV, Nat.add_assoc]
  · exact Good_arr (by omega) (hz 1 (by omega)) (by simp [iX8, upC, upR])
theorem G_X2 {θ : Th} {V : Nat → Nat → Value} {o : Nat} (h0 : kd o = 3) (k1 : kd (o + 1) = 13) (hz : ∀ j, j ≤ 1 → nz (o + j)) : ∀ b, o ≤ b → b < o + 2 → Good θ (iX2 θ V o) b := by
  intro b h1 h2
  obtain ⟨j, rfl⟩ : ∃ j, b = o + j := ⟨b - o, by omega⟩
  have hj : j = 0 ∨ j = 1 := by omega
  rcases hj with rfl | rfl
  · have hz := hz 0 (by omega)
    rw [Nat.add_zero] at hz ⊢
    refine Good_obj (ci := 2) h0 (by decide) fun k hk => ?_
    have hk : k < 2 := hk
    have hk : k = 0 ∨ k = 1 := by omega
    rcases hk with rfl | rfl
    · rw [fv2 (x := 1) (by decide)]; simp [iX2, upC, upR, updV, Nat.add_assoc]
    · rw [fv0 (x := 0) (by decide), sg0_0 (by unfold nz at hz; omega)]; simp [iX2, upC, upR, updV, Nat.add_assoc]
  · exact Good_arr (by omega) (hz 1 (by omega)) (by simp [iX2, upC, upR])
theorem G_X5 {θ : Th} {V : Nat → Nat → Value} {o : Nat} (h0 : kd o = 6) (k1 : kd (o + 1) = 13) (k2 : kd (o + 2) = 13) (hz : ∀ j, j ≤ 2 → nz (o + j)) : ∀ b, o ≤ b → b < o + 3 → Good θ (iX5 θ V o) b := by
  intro b h1 h2
  obtain ⟨j, rfl⟩ : ∃ j, b = o + j := ⟨b - o, by omega⟩
  have hj : j = 0 ∨ j = 1 ∨ j = 2 := by omega
  rcases hj with rfl | rfl | rfl
  · have hz := hz 0 (by omega)
    rw [Nat.add_zero] at hz ⊢
    refine Good_obj (ci := 5) h0 (by decide) fun k hk => ?_
    have hk : k < 3 := hk
    have hk : k = 0 ∨ k = 1 ∨ k = 2 := by omega
    rcases hk with rfl | rfl | rfl
    · rw [fv2 (x := 1) (by decide)]; simp [iX5, upC, upR, updV, Nat.add_assoc]
    · rw [fv2 (x := 2) (by decide)]; simp [iX5, upC, upR, updV, Nat.add_assoc]
    · rw [fv0 (x := 0) (by decide), sg0_0 (by unfold nz at hz; omega)]; simp [iX5, upC, upR, updV, Nat.add_assoc]
  · exact Good_arr (by omega) (hz 1 (by omega)) (by simp [iX5, upC, upR])
  · exact Good_arr (by omega) (hz 2 (by omega)) (by simp [iX5, upC, upR])
theorem G_X1 {θ : Th} {V : Nat → Nat → Value} {o : Nat} (h0 : kd o = 2) (k1 : kd (o + 1) = 13) (k2 : kd (o + 2) = 13) (k3 : kd (o + 3) = 13) (hz : ∀ j, j ≤ 3 → nz (o + j)) : ∀ b, o ≤ b → b < o + 4 → Good θ (iX1 θ V o) b := by
  intro b h1 h2
  obtain ⟨j, rfl⟩ : ∃ j, b = o + j := ⟨b - o, by omega⟩
  have hj : j = 0 ∨ j = 1 ∨ j = 2 ∨ j = 3 := by omega
  rcases hj with rfl | rfl | rfl | rfl
  · have hz := hz 0 (by omega)
    rw [Nat.add_zero] at hz ⊢
    refine Good_obj (ci := 1) h0 (by decide) fun k hk => ?_
    have hk : k < 6 := hk
    have hk : k = 0 ∨ k = 1 ∨ k = 2 ∨ k = 3 ∨ k = 4 ∨ k = 5 := by omega
    rcases hk with rfl | rfl | rfl | rfl | rfl | rfl
    · rw [fv2 (x := 1) (by decide)]; simp [iX1, upC, upR, updV, Nat.add_assoc]
    · rw [fv2 (x := 2) (by decide)]; simp [iX1, upC, upR, updV, Nat.add_assoc]
    · rw [fv2 (x := 3) (by decide)]; simp [iX1, upC, upR, updV, Nat.add_assoc]
    · rw [fv0 (x := 0) (by decide), sg0_0 (by unfold nz at hz; omega)]; simp [iX1, upC, upR, updV, Nat.add_assoc]
    · rw [fv0 (x := 0) (by decide), sg0_0 (by unfold nz at hz; omega)]; simp [iX1, upC, upR, updV, Nat.add_assoc]
    · rw [fv0 (x := 0) (by decide), sg0_0 (by unfold nz at hz; omega)]; simp [iX1, upC, upR, updV, Nat.add_assoc]
  · exact Good_arr (by omega) (hz 1 (by omega)) (by simp [iX1, upC, upR])
  · exact Good_arr (by omega) (hz 2 (by omega)) (by simp [iX1, upC, upR])
  · exact Good_arr (by omega) (hz 3 (by omega)) (by simp [iX1, upC, upR])
theorem G_X7 {θ : Th} {V : Nat → Nat → Value} {o : Nat} (h0 : kd o = 8) (k1 : kd (o + 1) = 13) (k2 : kd (o + 2) = 13) (k3 : kd (o + 3) = 13) (k4 : kd (o + 4) = 13) (k5 : kd (o + 5) = 13) (k6 : kd (o + 6) = 13) (k7 : kd (o + 7) = 13) (k8 : kd (o + 8) = 13) (k9 : kd (o + 9) = 13) (hz : ∀ j, j ≤ 9 → nz (o + j)) : ∀ b, o ≤ b → b < o + 10 → Good θ (iX7 θ V o) b := by
  intro b h1 h2
  obtain ⟨j, rfl⟩ : ∃ j, b = o + j := ⟨b - o, by omega⟩
  have hj : j = 0 ∨ j = 1 ∨ j = 2 ∨ j = 3 ∨ j = 4 ∨ j = 5 ∨ j = 6 ∨ j = 7 ∨ j = 8 ∨ j = 9 := by omega
  rcases hj with rfl | rfl | rfl | rfl | rfl | rfl | rfl | rfl | rfl | rfl
  · have hz := hz 0 (by omega)
    rw [Nat.add_zero] at hz ⊢
    refine Good_obj (ci := 7) h0 (by decide) fun k hk => ?_
    have hk : k < 15 := hk
    have hk : k = 0 ∨ k = 1 ∨ k = 2 ∨ k = 3 ∨ k = 4 ∨ k = 5 ∨ k = 6 ∨ k = 7 ∨ k = 8 ∨ k = 9 ∨ k = 10 ∨ k = 11 ∨ k = 12 ∨ k = 13 ∨ k = 14 := by omega
    rcases hk with rfl | rfl | rfl | rfl | rfl | rfl | rfl | rfl | rfl | rfl | rfl | rfl | rfl | rfl | rfl
    · rw [fv2 (x := 1) (by decide)]; simp [iX7, upC, upR, updV, Nat.add_assoc]
    · rw [fv2 (x := 2) (by decide)]; simp [iX7, upC, upR, updV, Nat.add_assoc]
    · rw [fv2 (x := 3) (by decide)]; simp [iX7, upC, upR, updV, Nat.add_assoc]
    · rw [fv2 (x := 4) (by decide)]; simp [iX7, upC, upR, updV, Nat.add_assoc]
    · rw [fv2 (x := 5) (by decide)]; simp [iX7, upC, upR, updV, Nat.add_assoc]
    · rw [fv2 (x := 6) (by decide)]; simp [iX7, upC, upR, updV, Nat.add_assoc]
    · rw [fv2 (x := 7) (by decide)]; simp [iX7, upC, upR, updV, Nat.add_assoc]
    · rw [fv2 (x := 8) (by decide)]; simp [iX7, upC, upR, updV, Nat.add_assoc]
    · rw [fv2 (x := 9) (by decide)]; simp [iX7, upC, upR, updV, Nat.add_assoc]
    · rw [fv0 (x := 0) (by decide), sg0_0 (by unfold nz at hz; omega)]; simp [iX7, upC, upR, updV, Nat.add_assoc]
    · rw [fv0 (x := 0) (by decide), sg0_0 (by unfold nz at hz; omega)]; simp [iX7, upC, upR, updV, Nat.add_assoc]
    · rw [fv0 (x := 0) (by decide), sg0_0 (by unfold nz at hz; omega)]; simp [iX7, upC, upR, updV, Nat.add_assoc]
    · rw [fv0 (x := 0) (by decide), sg0_0 (by unfold nz at hz; omega)]; simp [iX7, upC, upR, updV, Nat.add_assoc]
    · rw [fv0 (x := 0) (by decide), sg0_0 (by unfold nz at hz; omega)]; simp [iX7, upC, upR, updV, Nat.add_assoc]
    · rw [fv0 (x := 0) (by decide), sg0_0 (by unfold nz at hz; omega)]; simp [iX7, upC, upR, updV, Nat.add_assoc]
  · exact Good_arr (by omega) (hz 1 (by omega)) (by simp [iX7, upC, upR])
  · exact Good_arr (by omega) (hz 2 (by omega)) (by simp [iX7, upC, upR])
  · exact Good_arr (by omega) (hz 3 (by omega)) (by simp [iX7, upC, upR])
  · exact Good_arr (by omega) (hz 4 (by omega)) (by simp [iX7, upC, upR])
  · exact Good_arr (by omega) (hz 5 (by omega)) (by simp [iX7, upC, upR])
  · exact Good_arr (by omega) (hz 6 (by omega)) (by simp [iX7, upC, upR])
  · exact Good_arr (by omega) (hz 7 (by omega)) (by simp [iX7, upC, upR])
  · exact Good_arr (by omega) (hz 8 (by omega)) (by simp [iX7, upC, upR])
  · exact Good_arr (by omega) (hz 9 (by omega)) (by simp [iX7, upC, upR])
theorem G_X0 {θ : Th} {V : Nat → Nat → Value} : ∀ b, 531 ≤ b → b < 536 → Good θ (iX0 θ V 531) b := by
  intro b h1 h2
  have hj : b = 531 ∨ b = 532 ∨ b = 533 ∨ b = 534 ∨ b = 535 := by omega
  rcases hj with rfl | rfl | rfl | rfl | rfl
  · refine Good_obj (ci := 0) (by decide +kernel) (by decide) fun k hk => ?_
    have hk : k < 8 := hk
    have hk : k = 0 ∨ k = 1 ∨ k = 2 ∨ k = 3 ∨ k = 4 ∨ k = 5 ∨ k = 6 ∨ k = 7 := by omega
    rcases hk with rfl | rfl | rfl | rfl | rfl | rfl | rfl | rfl
    · rw [fv2 (x := 1) (by decide)]; simp [iX0, upC, upR, updV, Nat.add_assoc]
    · rw [fv2 (x := 2) (by decide)]; simp [iX0, upC, upR, updV, Nat.add_assoc]
    · rw [fv2 (x := 3) (by decide)]; simp [iX0, upC, upR, updV, Nat.add_assoc]
    · rw [fv2 (x := 4) (by decide)]; simp [iX0, upC, upR, updV, Nat.add_assoc]
    · rw [fv0 (x := 0) (by decide), sg0_I]; simp [iX0, upC, upR, updV, Nat.add_assoc]
    · rw [fv0 (x := 0) (by decide), sg0_I]; simp [iX0, upC, upR, updV, Nat.add_assoc]
    · rw [fv0 (x := 0) (by decide), sg0_I]; simp [iX0, upC, upR, updV, Nat.add_assoc]
    · rw [fv0 (x := 0) (by decide), sg0_I]; simp [iX0, upC, upR, updV, Nat.add_assoc]
  · exact Good_arr (by decide +kernel) (by unfold nz; omega) (by simp [iX0, upC, upR])
  · exact Good_arr (by decide +kernel) (by unfold nz; omega) (by simp [iX0, upC, upR])
  · exact Good_arr (by decide +kernel) (by unfold nz; omega) (by simp [iX0, upC, upR])
  · exact Good_arr (by decide +kernel) (by unfold nz; omega) (by simp [iX0, upC, upR])
