/-! objects that hold others (laid by wip/tools/good.py) -/
theorem fillV_good {θ : Th} {ini : (Nat → Nat → Value) → Nat → Nat → Nat → Value} {cj a w base M : Nat} {V0 : Nat → Nat → Value} (hini : ∀ V n b, b < n → ini V n b = V b) (ha : a < base) (hG : ∀ V i, i < M → ∀ b, base + w * i ≤ b → b < base + w * i + w → Good θ (ini V (base + w * i)) b) : ∀ i, i ≤ M → ∀ b, base ≤ b → b < base + w * i → Good θ (fillV θ ini cj a w base V0 i) b := by
  intro i
  induction i with
  | zero => intro _ b h1 h2; rw [Nat.mul_zero] at h2; omega
  | succ i ih =>
    intro hi b h1 h2
    have e3 : w * (i + 1) = w * i + w := Nat.mul_succ _ _
    have hu : ∀ X : Nat → Nat → Value, upC X a i (.ref (be θ + (base + w * i))) b = X b := fun X => by unfold upC; rw [upR_ne (by omega)]
    by_cases q : b < base + w * i
    · refine (ih (by omega) b h1 q).row ?_
      show upC _ _ _ _ b = _
      rw [hu, hini _ _ _ q, upR_ne (by omega)]
    · refine (hG (upR (fillV θ ini cj a w base V0 i) (base + w * i) (fun k => defaultValue (clty cj k))) i (by omega) b (by omega) (by omega)).row ?_
      show upC _ _ _ _ b = _
      rw [hu]
theorem fillV_arr {θ : Th} {ini : (Nat → Nat → Value) → Nat → Nat → Nat → Value} {cj a w base : Nat} {V0 : Nat → Nat → Value} (hini : ∀ V n b, b < n → ini V n b = V b) (ha : a < base) : ∀ i j, fillV θ ini cj a w base V0 i a j = if j < i then .ref (be θ + (base + w * j)) else V0 a j := by
  intro i
  induction i with
  | zero => intro j; rw [if_neg (by omega)]; rfl
  | succ i ih =>
    intro j
    show upC _ _ _ _ a j = _
    unfold upC
    rw [upR_self, hini _ _ _ (by omega), upR_ne (by omega)]
    by_cases q : j = i
    · subst q
      simp [updV]
    · simp only [updV, if_neg q]
      rw [ih j]
      by_cases q2 : j < i
      · rw [if_pos q2, if_pos (by omega)]
      · rw [if_neg q2, if_neg (by omega)]
theorem Good_ref {θ : Th} {V : Nat → Nat → Value} {a : Nat} (hk : 17 ≤ kd a) (h : ∀ j, j < ln a → V a j = .ref (be θ + ra a j)) : Good θ V a := by
  refine ⟨fun ci h1 h2 => by omega, fun _ j hj => ?_⟩
  rw [h j hj]
  unfold ev
  rw [if_neg (by omega), if_neg (by omega)]
theorem nz_of {o m : Nat} (h : (0 < o ∧ o + m < 434) ∨ (434 < o ∧ o + m < 531) ∨ (531 < o ∧ o + m < 565)) : ∀ j, j ≤ m → nz (o + j) := fun j hj => by unfold nz; omega
theorem G_X3 {θ : Th} {V : Nat → Nat → Value} : ∀ b, 516 ≤ b → b < 531 → Good θ (iX3 θ V 516) b := by
  intro b h1 h2
  have q : b = 516 ∨ (517 ≤ b ∧ b < 527) ∨ b = 527 ∨ b = 528 ∨ b = 529 ∨ b = 530 := by omega
  rcases q with q | q | q | q | q | q
  · subst q
    refine Good_obj (ci := 3) (by decide +kernel) (by decide) fun k hk => ?_
    have hk : k < 6 := hk
    have hk : k = 0 ∨ k = 1 ∨ k = 2 ∨ k = 3 ∨ k = 4 ∨ k = 5 := by omega
    rcases hk with rfl | rfl | rfl | rfl | rfl | rfl
    · rw [fv2 (x := 1) (by decide)]; simp [iX3, upC, upR, updV, iX7_keep, iX5_keep, iX2_keep, iX8_keep, iX1_keep, iX0_keep, iX3_keep, iX9_keep, Nat.add_assoc]
    · rw [fv2 (x := 11) (by decide)]; simp [iX3, upC, upR, updV, iX7_keep, iX5_keep, iX2_keep, iX8_keep, iX1_keep, iX0_keep, iX3_keep, iX9_keep, Nat.add_assoc]
    · rw [fv2 (x := 12) (by decide)]; simp [iX3, upC, upR, updV, iX7_keep, iX5_keep, iX2_keep, iX8_keep, iX1_keep, iX0_keep, iX3_keep, iX9_keep, Nat.add_assoc]
    · rw [fv2 (x := 13) (by decide)]; simp [iX3, upC, upR, updV, iX7_keep, iX5_keep, iX2_keep, iX8_keep, iX1_keep, iX0_keep, iX3_keep, iX9_keep, Nat.add_assoc]
    · rw [fv2 (x := 14) (by decide)]; simp [iX3, upC, upR, updV, iX7_keep, iX5_keep, iX2_keep, iX8_keep, iX1_keep, iX0_keep, iX3_keep, iX9_keep, Nat.add_assoc]
    · rw [fv0 (x := 0) (by decide), sg0_I]; simp [iX3, upC, upR, updV, iX7_keep, iX5_keep, iX2_keep, iX8_keep, iX1_keep, iX0_keep, iX3_keep, iX9_keep, Nat.add_assoc]
  · refine Good.row (V := (iX7 θ (upR V (516 + 1) (fun k => defaultValue (clty 7 k))) (516 + 1))) (G_X7 (o := 517) (by decide +kernel) (by decide +kernel) (by decide +kernel) (by decide +kernel) (by decide +kernel) (by decide +kernel) (by decide +kernel) (by decide +kernel) (by decide +kernel) (by decide +kernel) (nz_of (by omega)) b (by omega) (by omega)) ?_
    simp (disch := omega) only [iX3, upC, upR_ne, iX7_keep, iX5_keep, iX2_keep, iX8_keep, iX1_keep, iX0_keep, iX3_keep, iX9_keep]
  · subst q
    exact Good_arr (by decide +kernel) (by unfold nz; omega) (by simp [iX3, upC, upR, iX7_keep, iX5_keep, iX2_keep, iX8_keep, iX1_keep, iX0_keep, iX3_keep, iX9_keep])
  · subst q
    exact Good_arr (by decide +kernel) (by unfold nz; omega) (by simp [iX3, upC, upR, iX7_keep, iX5_keep, iX2_keep, iX8_keep, iX1_keep, iX0_keep, iX3_keep, iX9_keep])
  · subst q
    exact Good_arr (by decide +kernel) (by unfold nz; omega) (by simp [iX3, upC, upR, iX7_keep, iX5_keep, iX2_keep, iX8_keep, iX1_keep, iX0_keep, iX3_keep, iX9_keep])
  · subst q
    exact Good_arr (by decide +kernel) (by unfold nz; omega) (by simp [iX3, upC, upR, iX7_keep, iX5_keep, iX2_keep, iX8_keep, iX1_keep, iX0_keep, iX3_keep, iX9_keep])
theorem G_X9 {θ : Th} {V : Nat → Nat → Value} : ∀ b, 428 ≤ b → b < 434 → Good θ (iX9 θ V 428) b := by
  intro b h1 h2
  have q : b = 428 ∨ b = 429 ∨ (430 ≤ b ∧ b < 434) := by omega
  rcases q with q | q | q
  · subst q
    refine Good_obj (ci := 9) (by decide +kernel) (by decide) fun k hk => ?_
    have hk : k < 3 := hk
    have hk : k = 0 ∨ k = 1 ∨ k = 2 := by omega
    rcases hk with rfl | rfl | rfl
    · rw [fv2 (x := 1) (by decide)]; simp [iX9, upC, upR, updV, iX7_keep, iX5_keep, iX2_keep, iX8_keep, iX1_keep, iX0_keep, iX3_keep, iX9_keep, Nat.add_assoc]
    · rw [fv3 (x := 0) (by decide)]; simp [sg0_R, rv]; simp [iX9, upC, upR, updV, iX7_keep, iX5_keep, iX2_keep, iX8_keep, iX1_keep, iX0_keep, iX3_keep, iX9_keep, Nat.add_assoc]
    · rw [fv3 (x := 0) (by decide)]; simp [sg0_R, rv]; simp [iX9, upC, upR, updV, iX7_keep, iX5_keep, iX2_keep, iX8_keep, iX1_keep, iX0_keep, iX3_keep, iX9_keep, Nat.add_assoc]
  · subst q
    exact Good_arr (by decide +kernel) (by unfold nz; omega) (by simp [iX9, upC, upR, iX7_keep, iX5_keep, iX2_keep, iX8_keep, iX1_keep, iX0_keep, iX3_keep, iX9_keep])
  · refine Good.row (V := (iX1 θ (upR (upC (upR V (428 + 1) (fun _ => .int 0)) 428 0 (.ref (be θ + (428 + 1)))) (428 + 2) (fun k => defaultValue (clty 1 k))) (428 + 2))) (G_X1 (o := 430) (by decide +kernel) (by decide +kernel) (by decide +kernel) (by decide +kernel) (nz_of (by omega)) b (by omega) (by omega)) ?_
    simp (disch := omega) only [iX9, upC, upR_ne, iX7_keep, iX5_keep, iX2_keep, iX8_keep, iX1_keep, iX0_keep, iX3_keep, iX9_keep]
