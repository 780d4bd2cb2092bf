/-! the class whole (laid by wip/tools/good.py) -/
theorem Gv_X4 {θ : Th} {V : Nat → Nat → Value} : ∀ b, 26 ≤ b → b < 28 → b ≠ 27 → Good θ (vX41 θ V) b := by
  intro b h1 h2 z27
  have q : b = 26 := by omega
  rcases q with q
  · subst q
    refine Good_obj (ci := 4) (by decide +kernel) (by decide) fun k hk => ?_
    have hk : k < 3 := hk
    have hk : k = 0 ∨ k = 1 ∨ k = 2 := by omega
    rcases hk with rfl | rfl | rfl
    · rw [fv2 (x := 1) (by decide)]; simp [vX41, upC, upR, updV, iX7_keep, iX5_keep, iX2_keep, iX8_keep, iX1_keep, iX0_keep, iX3_keep, iX9_keep, Nat.add_assoc]
    · rw [fv0 (x := 0) (by decide), sg0_I]; simp [vX41, upC, upR, updV, iX7_keep, iX5_keep, iX2_keep, iX8_keep, iX1_keep, iX0_keep, iX3_keep, iX9_keep, Nat.add_assoc]
    · rw [fv0 (x := 0) (by decide), sg0_I]; simp [vX41, upC, upR, updV, iX7_keep, iX5_keep, iX2_keep, iX8_keep, iX1_keep, iX0_keep, iX3_keep, iX9_keep, Nat.add_assoc]
theorem G_X4 {θ : Th} {V : Nat → Nat → Value} : ∀ b, 26 ≤ b → b < 428 → Good θ (iX4 θ V) b := by
  intro b h1 h2
  have q : b = 26 ∨ b = 27 ∨ 28 ≤ b := by omega
  rcases q with q | q | q
  · refine (Gv_X4 (V := V) b (by omega) (by omega) (by omega)).row ?_
    unfold iX4
    exact fillV_keep (fun V n b h => iX7_keep V n b h) (by omega) (by omega) 40
  · subst q
    refine Good_ref (by decide +kernel) fun j hj => ?_
    have hj : j < 40 := hj
    unfold iX4
    rw [fillV_arr (fun V n b h => iX7_keep V n b h) (by decide), if_pos hj]
    rfl
  · exact (fillV_good (fun V n b h => iX7_keep V n b h) (by decide) (fun V i hi b g1 g2 => by
    obtain ⟨t0, ⟨k1, n1⟩, ⟨k2, n2⟩, ⟨k3, n3⟩, ⟨k4, n4⟩, ⟨k5, n5⟩, ⟨k6, n6⟩, ⟨k7, n7⟩, ⟨k8, n8⟩, ⟨k9, n9⟩⟩ := st_tab i hi
    exact G_X7 t0 k1 k2 k3 k4 k5 k6 k7 k8 k9 (nz_of (by omega)) b g1 g2) 40 (Nat.le_refl _) b (by omega) (by omega))
theorem Gv_X6 {θ : Th} {V : Nat → Nat → Value} : ∀ b, 434 ≤ b → b < 446 → b ≠ 445 → Good θ (vX61 θ V) b := by
  intro b h1 h2 z445
  have q : b = 434 ∨ (435 ≤ b ∧ b < 445) := by omega
  rcases q with q | q
  · subst q
    refine Good_obj (ci := 6) (by decide +kernel) (by decide) fun k hk => ?_
    have hk : k < 4 := hk
    have hk : k = 0 ∨ k = 1 ∨ k = 2 ∨ k = 3 := by omega
    rcases hk with rfl | rfl | rfl | rfl
    · rw [fv2 (x := 1) (by decide)]; simp [vX61, upC, upR, updV, iX7_keep, iX5_keep, iX2_keep, iX8_keep, iX1_keep, iX0_keep, iX3_keep, iX9_keep, Nat.add_assoc]
    · rw [fv2 (x := 11) (by decide)]; simp [vX61, upC, upR, updV, iX7_keep, iX5_keep, iX2_keep, iX8_keep, iX1_keep, iX0_keep, iX3_keep, iX9_keep, Nat.add_assoc]
    · rw [fv0 (x := 0) (by decide), sg0_I]; simp [vX61, upC, upR, updV, iX7_keep, iX5_keep, iX2_keep, iX8_keep, iX1_keep, iX0_keep, iX3_keep, iX9_keep, Nat.add_assoc]
    · rw [fv0 (x := 0) (by decide), sg0_I]; simp [vX61, upC, upR, updV, iX7_keep, iX5_keep, iX2_keep, iX8_keep, iX1_keep, iX0_keep, iX3_keep, iX9_keep, Nat.add_assoc]
  · refine Good.row (V := (iX7 θ (upR V 435 (fun k => defaultValue (clty 7 k))) 435)) (G_X7 (o := 435) (by decide +kernel) (by decide +kernel) (by decide +kernel) (by decide +kernel) (by decide +kernel) (by decide +kernel) (by decide +kernel) (by decide +kernel) (by decide +kernel) (by decide +kernel) (nz_of (by omega)) b (by omega) (by omega)) ?_
    simp (disch := omega) only [vX61, upC, upR_ne, iX7_keep, iX5_keep, iX2_keep, iX8_keep, iX1_keep, iX0_keep, iX3_keep, iX9_keep]
theorem G_X6 {θ : Th} {V : Nat → Nat → Value} : ∀ b, 434 ≤ b → b < 516 → Good θ (iX6 θ V) b := by
  intro b h1 h2
  have q : (b < 446 ∧ b ≠ 445) ∨ b = 445 ∨ 446 ≤ b := by omega
  rcases q with q | q | q
  · refine (Gv_X6 (V := V) b (by omega) (by omega) (by omega)).row ?_
    unfold iX6
    exact fillV_keep (fun V n b h => iX7_keep V n b h) (by omega) (by omega) 7
  · subst q
    refine Good_ref (by decide +kernel) fun j hj => ?_
    have hj : j < 7 := hj
    unfold iX6
    rw [fillV_arr (fun V n b h => iX7_keep V n b h) (by decide), if_pos hj]
    rfl
  · exact (fillV_good (fun V n b h => iX7_keep V n b h) (by decide) (fun V i hi b g1 g2 => by
    obtain ⟨t0, ⟨k1, n1⟩, ⟨k2, n2⟩, ⟨k3, n3⟩, ⟨k4, n4⟩, ⟨k5, n5⟩, ⟨k6, n6⟩, ⟨k7, n7⟩, ⟨k8, n8⟩, ⟨k9, n9⟩⟩ := st_tab2 i hi
    exact G_X7 t0 k1 k2 k3 k4 k5 k6 k7 k8 k9 (nz_of (by omega)) b g1 g2) 7 (Nat.le_refl _) b (by omega) (by omega))
theorem Gv_X10 {θ : Th} {V : Nat → Nat → Value} : ∀ b, 0 ≤ b → b < 540 → b ≠ 3 → b ≠ 4 → Good θ (vX101 θ V) b := by
  intro b h1 h2 z3 z4
  have q : b = 0 ∨ (1 ≤ b ∧ b < 3) ∨ b = 5 ∨ (6 ≤ b ∧ b < 16) ∨ (16 ≤ b ∧ b < 26) ∨ (26 ≤ b ∧ b < 428) ∨ (428 ≤ b ∧ b < 434) ∨ (434 ≤ b ∧ b < 516) ∨ (516 ≤ b ∧ b < 531) ∨ (531 ≤ b ∧ b < 536) ∨ (536 ≤ b ∧ b < 540) := by omega
  rcases q with q | q | q | q | q | q | q | q | q | q | q
  · subst q
    refine Good_obj (ci := 10) (by decide +kernel) (by decide) fun k hk => ?_
    have hk : k < 18 := hk
    have hk : k = 0 ∨ k = 1 ∨ k = 2 ∨ k = 3 ∨ k = 4 ∨ k = 5 ∨ k = 6 ∨ k = 7 ∨ k = 8 ∨ k = 9 ∨ k = 10 ∨ k = 11 ∨ k = 12 ∨ k = 13 ∨ k = 14 ∨ k = 15 ∨ k = 16 ∨ k = 17 := by omega
    rcases hk with rfl | rfl | rfl | rfl | rfl | rfl | rfl | rfl | rfl | rfl | rfl | rfl | rfl | rfl | rfl | rfl | rfl | rfl
    · rw [fv2 (x := 1) (by decide)]; simp [vX101, upC, upR, updV, iX7_keep, iX5_keep, iX2_keep, iX8_keep, iX1_keep, iX0_keep, iX3_keep, iX9_keep, iX4_keep, iX6_keep, Nat.add_assoc]
    · rw [fv2 (x := 3) (by decide)]; simp [vX101, upC, upR, updV, iX7_keep, iX5_keep, iX2_keep, iX8_keep, iX1_keep, iX0_keep, iX3_keep, iX9_keep, iX4_keep, iX6_keep, Nat.add_assoc]
    · rw [fv2 (x := 4) (by decide)]; simp [vX101, upC, upR, updV, iX7_keep, iX5_keep, iX2_keep, iX8_keep, iX1_keep, iX0_keep, iX3_keep, iX9_keep, iX4_keep, iX6_keep, Nat.add_assoc]
    · rw [fv2 (x := 5) (by decide)]; simp [vX101, upC, upR, updV, iX7_keep, iX5_keep, iX2_keep, iX8_keep, iX1_keep, iX0_keep, iX3_keep, iX9_keep, iX4_keep, iX6_keep, Nat.add_assoc]
    · rw [fv2 (x := 6) (by decide)]; simp [vX101, upC, upR, updV, iX7_keep, iX5_keep, iX2_keep, iX8_keep, iX1_keep, iX0_keep, iX3_keep, iX9_keep, iX4_keep, iX6_keep, Nat.add_assoc]
    · rw [fv2 (x := 16) (by decide)]; simp [vX101, upC, upR, updV, iX7_keep, iX5_keep, iX2_keep, iX8_keep, iX1_keep, iX0_keep, iX3_keep, iX9_keep, iX4_keep, iX6_keep, Nat.add_assoc]
    · rw [fv2 (x := 26) (by decide)]; simp [vX101, upC, upR, updV, iX7_keep, iX5_keep, iX2_keep, iX8_keep, iX1_keep, iX0_keep, iX3_keep, iX9_keep, iX4_keep, iX6_keep, Nat.add_assoc]
    · rw [fv2 (x := 428) (by decide)]; simp [vX101, upC, upR, updV, iX7_keep, iX5_keep, iX2_keep, iX8_keep, iX1_keep, iX0_keep, iX3_keep, iX9_keep, iX4_keep, iX6_keep, Nat.add_assoc]
    · rw [fv2 (x := 434) (by decide)]; simp [vX101, upC, upR, updV, iX7_keep, iX5_keep, iX2_keep, iX8_keep, iX1_keep, iX0_keep, iX3_keep, iX9_keep, iX4_keep, iX6_keep, Nat.add_assoc]
    · rw [fv2 (x := 516) (by decide)]; simp [vX101, upC, upR, updV, iX7_keep, iX5_keep, iX2_keep, iX8_keep, iX1_keep, iX0_keep, iX3_keep, iX9_keep, iX4_keep, iX6_keep, Nat.add_assoc]
    · rw [fv2 (x := 531) (by decide)]; simp [vX101, upC, upR, updV, iX7_keep, iX5_keep, iX2_keep, iX8_keep, iX1_keep, iX0_keep, iX3_keep, iX9_keep, iX4_keep, iX6_keep, Nat.add_assoc]
    · rw [fv3 (x := 0) (by decide)]; simp [sg0_R, rv]; simp [vX101, upC, upR, updV, iX7_keep, iX5_keep, iX2_keep, iX8_keep, iX1_keep, iX0_keep, iX3_keep, iX9_keep, iX4_keep, iX6_keep, Nat.add_assoc]
    · rw [fv0 (x := 0) (by decide), sg0_I]; simp [vX101, upC, upR, updV, iX7_keep, iX5_keep, iX2_keep, iX8_keep, iX1_keep, iX0_keep, iX3_keep, iX9_keep, iX4_keep, iX6_keep, Nat.add_assoc]
    · rw [fv0 (x := 0) (by decide), sg0_I]; simp [vX101, upC, upR, updV, iX7_keep, iX5_keep, iX2_keep, iX8_keep, iX1_keep, iX0_keep, iX3_keep, iX9_keep, iX4_keep, iX6_keep, Nat.add_assoc]
    · rw [fv0 (x := 0) (by decide), sg0_I]; simp [vX101, upC, upR, updV, iX7_keep, iX5_keep, iX2_keep, iX8_keep, iX1_keep, iX0_keep, iX3_keep, iX9_keep, iX4_keep, iX6_keep, Nat.add_assoc]
    · rw [fv0 (x := 0) (by decide), sg0_I]; simp [vX101, upC, upR, updV, iX7_keep, iX5_keep, iX2_keep, iX8_keep, iX1_keep, iX0_keep, iX3_keep, iX9_keep, iX4_keep, iX6_keep, Nat.add_assoc]
    · rw [fv0 (x := 0) (by decide), sg0_I]; simp [vX101, upC, upR, updV, iX7_keep, iX5_keep, iX2_keep, iX8_keep, iX1_keep, iX0_keep, iX3_keep, iX9_keep, iX4_keep, iX6_keep, Nat.add_assoc]
    · rw [fv1 (x := 0) (by decide), sg0_L]; simp [vX101, upC, upR, updV, iX7_keep, iX5_keep, iX2_keep, iX8_keep, iX1_keep, iX0_keep, iX3_keep, iX9_keep, iX4_keep, iX6_keep, Nat.add_assoc]
  · refine Good.row (V := (iX8 θ (upR V 1 (fun k => defaultValue (clty 8 k))) 1)) (G_X8 (o := 1) (by decide +kernel) (by decide +kernel) (nz_of (by omega)) b (by omega) (by omega)) ?_
    simp (disch := omega) only [vX101, upC, upR_ne, iX7_keep, iX5_keep, iX2_keep, iX8_keep, iX1_keep, iX0_keep, iX3_keep, iX9_keep, iX4_keep, iX6_keep]
  · subst q
    exact Good_arr (by decide +kernel) (by unfold nz; omega) (by simp [vX101, upC, upR, iX7_keep, iX5_keep, iX2_keep, iX8_keep, iX1_keep, iX0_keep, iX3_keep, iX9_keep, iX4_keep, iX6_keep])
  · refine Good.row (V := (iX7 θ (upR (upC (upR (upC (upR (upC (upR (upC (iX8 θ (upR V 1 (fun k => defaultValue (clty 8 k))) 1) 0 0 (.ref (be θ + 1))) 3 (fun _ => .null)) 0 1 (.ref (be θ + 3))) 4 (fun _ => .null)) 0 2 (.ref (be θ + 4))) 5 (fun _ => .int 0)) 0 3 (.ref (be θ + 5))) 6 (fun k => defaultValue (clty 7 k))) 6)) (G_X7 (o := 6) (by decide +kernel) (by decide +kernel) (by decide +kernel) (by decide +kernel) (by decide +kernel) (by decide +kernel) (by decide +kernel) (by decide +kernel) (by decide +kernel) (by decide +kernel) (nz_of (by omega)) b (by omega) (by omega)) ?_
    simp (disch := omega) only [vX101, upC, upR_ne, iX7_keep, iX5_keep, iX2_keep, iX8_keep, iX1_keep, iX0_keep, iX3_keep, iX9_keep, iX4_keep, iX6_keep]
  · refine Good.row (V := (iX7 θ (upR (upC (iX7 θ (upR (upC (upR (upC (upR (upC (upR (upC (iX8 θ (upR V 1 (fun k => defaultValue (clty 8 k))) 1) 0 0 (.ref (be θ + 1))) 3 (fun _ => .null)) 0 1 (.ref (be θ + 3))) 4 (fun _ => .null)) 0 2 (.ref (be θ + 4))) 5 (fun _ => .int 0)) 0 3 (.ref (be θ + 5))) 6 (fun k => defaultValue (clty 7 k))) 6) 0 4 (.ref (be θ + 6))) 16 (fun k => defaultValue (clty 7 k))) 16)) (G_X7 (o := 16) (by decide +kernel) (by decide +kernel) (by decide +kernel) (by decide +kernel) (by decide +kernel) (by decide +kernel) (by decide +kernel) (by decide +kernel) (by decide +kernel) (by decide +kernel) (nz_of (by omega)) b (by omega) (by omega)) ?_
    simp (disch := omega) only [vX101, upC, upR_ne, iX7_keep, iX5_keep, iX2_keep, iX8_keep, iX1_keep, iX0_keep, iX3_keep, iX9_keep, iX4_keep, iX6_keep]
  · refine Good.row (V := (iX4 θ (upR (upC (iX7 θ (upR (upC (iX7 θ (upR (upC (upR (upC (upR (upC (upR (upC (iX8 θ (upR V 1 (fun k => defaultValue (clty 8 k))) 1) 0 0 (.ref (be θ + 1))) 3 (fun _ => .null)) 0 1 (.ref (be θ + 3))) 4 (fun _ => .null)) 0 2 (.ref (be θ + 4))) 5 (fun _ => .int 0)) 0 3 (.ref (be θ + 5))) 6 (fun k => defaultValue (clty 7 k))) 6) 0 4 (.ref (be θ + 6))) 16 (fun k => defaultValue (clty 7 k))) 16) 0 5 (.ref (be θ + 16))) 26 (fun k => defaultValue (clty 4 k))))) (G_X4 b (by omega) (by omega)) ?_
    simp (disch := omega) only [vX101, upC, upR_ne, iX7_keep, iX5_keep, iX2_keep, iX8_keep, iX1_keep, iX0_keep, iX3_keep, iX9_keep, iX4_keep, iX6_keep]
  · refine Good.row (V := (iX9 θ (upR (upC (iX4 θ (upR (upC (iX7 θ (upR (upC (iX7 θ (upR (upC (upR (upC (upR (upC (upR (upC (iX8 θ (upR V 1 (fun k => defaultValue (clty 8 k))) 1) 0 0 (.ref (be θ + 1))) 3 (fun _ => .null)) 0 1 (.ref (be θ + 3))) 4 (fun _ => .null)) 0 2 (.ref (be θ + 4))) 5 (fun _ => .int 0)) 0 3 (.ref (be θ + 5))) 6 (fun k => defaultValue (clty 7 k))) 6) 0 4 (.ref (be θ + 6))) 16 (fun k => defaultValue (clty 7 k))) 16) 0 5 (.ref (be θ + 16))) 26 (fun k => defaultValue (clty 4 k)))) 0 6 (.ref (be θ + 26))) 428 (fun k => defaultValue (clty 9 k))) 428)) (G_X9 b (by omega) (by omega)) ?_
    simp (disch := omega) only [vX101, upC, upR_ne, iX7_keep, iX5_keep, iX2_keep, iX8_keep, iX1_keep, iX0_keep, iX3_keep, iX9_keep, iX4_keep, iX6_keep]
  · refine Good.row (V := (iX6 θ (upR (upC (iX9 θ (upR (upC (iX4 θ (upR (upC (iX7 θ (upR (upC (iX7 θ (upR (upC (upR (upC (upR (upC (upR (upC (iX8 θ (upR V 1 (fun k => defaultValue (clty 8 k))) 1) 0 0 (.ref (be θ + 1))) 3 (fun _ => .null)) 0 1 (.ref (be θ + 3))) 4 (fun _ => .null)) 0 2 (.ref (be θ + 4))) 5 (fun _ => .int 0)) 0 3 (.ref (be θ + 5))) 6 (fun k => defaultValue (clty 7 k))) 6) 0 4 (.ref (be θ + 6))) 16 (fun k => defaultValue (clty 7 k))) 16) 0 5 (.ref (be θ + 16))) 26 (fun k => defaultValue (clty 4 k)))) 0 6 (.ref (be θ + 26))) 428 (fun k => defaultValue (clty 9 k))) 428) 0 7 (.ref (be θ + 428))) 434 (fun k => defaultValue (clty 6 k))))) (G_X6 b (by omega) (by omega)) ?_
    simp (disch := omega) only [vX101, upC, upR_ne, iX7_keep, iX5_keep, iX2_keep, iX8_keep, iX1_keep, iX0_keep, iX3_keep, iX9_keep, iX4_keep, iX6_keep]
  · refine Good.row (V := (iX3 θ (upR (upC (iX6 θ (upR (upC (iX9 θ (upR (upC (iX4 θ (upR (upC (iX7 θ (upR (upC (iX7 θ (upR (upC (upR (upC (upR (upC (upR (upC (iX8 θ (upR V 1 (fun k => defaultValue (clty 8 k))) 1) 0 0 (.ref (be θ + 1))) 3 (fun _ => .null)) 0 1 (.ref (be θ + 3))) 4 (fun _ => .null)) 0 2 (.ref (be θ + 4))) 5 (fun _ => .int 0)) 0 3 (.ref (be θ + 5))) 6 (fun k => defaultValue (clty 7 k))) 6) 0 4 (.ref (be θ + 6))) 16 (fun k => defaultValue (clty 7 k))) 16) 0 5 (.ref (be θ + 16))) 26 (fun k => defaultValue (clty 4 k)))) 0 6 (.ref (be θ + 26))) 428 (fun k => defaultValue (clty 9 k))) 428) 0 7 (.ref (be θ + 428))) 434 (fun k => defaultValue (clty 6 k)))) 0 8 (.ref (be θ + 434))) 516 (fun k => defaultValue (clty 3 k))) 516)) (G_X3 b (by omega) (by omega)) ?_
    simp (disch := omega) only [vX101, upC, upR_ne, iX7_keep, iX5_keep, iX2_keep, iX8_keep, iX1_keep, iX0_keep, iX3_keep, iX9_keep, iX4_keep, iX6_keep]
  · refine Good.row (V := (iX0 θ (upR (upC (iX3 θ (upR (upC (iX6 θ (upR (upC (iX9 θ (upR (upC (iX4 θ (upR (upC (iX7 θ (upR (upC (iX7 θ (upR (upC (upR (upC (upR (upC (upR (upC (iX8 θ (upR V 1 (fun k => defaultValue (clty 8 k))) 1) 0 0 (.ref (be θ + 1))) 3 (fun _ => .null)) 0 1 (.ref (be θ + 3))) 4 (fun _ => .null)) 0 2 (.ref (be θ + 4))) 5 (fun _ => .int 0)) 0 3 (.ref (be θ + 5))) 6 (fun k => defaultValue (clty 7 k))) 6) 0 4 (.ref (be θ + 6))) 16 (fun k => defaultValue (clty 7 k))) 16) 0 5 (.ref (be θ + 16))) 26 (fun k => defaultValue (clty 4 k)))) 0 6 (.ref (be θ + 26))) 428 (fun k => defaultValue (clty 9 k))) 428) 0 7 (.ref (be θ + 428))) 434 (fun k => defaultValue (clty 6 k)))) 0 8 (.ref (be θ + 434))) 516 (fun k => defaultValue (clty 3 k))) 516) 0 9 (.ref (be θ + 516))) 531 (fun k => defaultValue (clty 0 k))) 531)) (G_X0 b (by omega) (by omega)) ?_
    simp (disch := omega) only [vX101, upC, upR_ne, iX7_keep, iX5_keep, iX2_keep, iX8_keep, iX1_keep, iX0_keep, iX3_keep, iX9_keep, iX4_keep, iX6_keep]
  · refine Good.row (V := (iX1 θ (upR (upC (iX0 θ (upR (upC (iX3 θ (upR (upC (iX6 θ (upR (upC (iX9 θ (upR (upC (iX4 θ (upR (upC (iX7 θ (upR (upC (iX7 θ (upR (upC (upR (upC (upR (upC (upR (upC (iX8 θ (upR V 1 (fun k => defaultValue (clty 8 k))) 1) 0 0 (.ref (be θ + 1))) 3 (fun _ => .null)) 0 1 (.ref (be θ + 3))) 4 (fun _ => .null)) 0 2 (.ref (be θ + 4))) 5 (fun _ => .int 0)) 0 3 (.ref (be θ + 5))) 6 (fun k => defaultValue (clty 7 k))) 6) 0 4 (.ref (be θ + 6))) 16 (fun k => defaultValue (clty 7 k))) 16) 0 5 (.ref (be θ + 16))) 26 (fun k => defaultValue (clty 4 k)))) 0 6 (.ref (be θ + 26))) 428 (fun k => defaultValue (clty 9 k))) 428) 0 7 (.ref (be θ + 428))) 434 (fun k => defaultValue (clty 6 k)))) 0 8 (.ref (be θ + 434))) 516 (fun k => defaultValue (clty 3 k))) 516) 0 9 (.ref (be θ + 516))) 531 (fun k => defaultValue (clty 0 k))) 531) 0 10 (.ref (be θ + 531))) 536 (fun k => defaultValue (clty 1 k))) 536)) (G_X1 (o := 536) (by decide +kernel) (by decide +kernel) (by decide +kernel) (by decide +kernel) (nz_of (by omega)) b (by omega) (by omega)) ?_
    simp (disch := omega) only [vX101, upC, upR_ne, iX7_keep, iX5_keep, iX2_keep, iX8_keep, iX1_keep, iX0_keep, iX3_keep, iX9_keep, iX4_keep, iX6_keep]
theorem G_X10 {θ : Th} {V : Nat → Nat → Value} : ∀ b, b < 565 → Good θ (iX10 θ V) b := by
  intro b h2
  have e1 : b < 555 → b ≠ 4 → iX10 θ V b = vX102 θ V b := fun q1 q2 => by
    unfold iX10
    exact fillV_keep (fun V n b h => iX2_keep V n b h) q1 q2 5
  have e2 : b < 540 → b ≠ 3 → vX102 θ V b = vX101 θ V b := fun q1 q2 => by
    unfold vX102
    exact fillV_keep (fun V n b h => iX5_keep V n b h) q1 q2 5
  have q : (b < 540 ∧ b ≠ 3 ∧ b ≠ 4) ∨ b = 3 ∨ b = 4 ∨ (540 ≤ b ∧ b < 555) ∨ 555 ≤ b := by omega
  rcases q with q | q | q | q | q
  · exact (Gv_X10 (V := V) b (by omega) (by omega) q.2.1 q.2.2).row ((e1 (by omega) (by omega)).trans (e2 q.1 q.2.1))
  · subst q
    refine Good_ref (by decide +kernel) fun j hj => ?_
    have hj : j < 5 := hj
    rw [e1 (by omega) (by omega)]
    unfold vX102
    rw [fillV_arr (fun V n b h => iX5_keep V n b h) (by decide), if_pos hj]
    rfl
  · subst q
    refine Good_ref (by decide +kernel) fun j hj => ?_
    have hj : j < 5 := hj
    unfold iX10
    rw [fillV_arr (fun V n b h => iX2_keep V n b h) (by decide), if_pos hj]
    rfl
  · refine Good.row (V := vX102 θ V) ?_ (e1 (by omega) (by omega))
    exact (fillV_good (fun V n b h => iX5_keep V n b h) (by decide) (fun V i hi b g1 g2 => by
    obtain ⟨t0, ⟨k1, n1⟩, ⟨k2, n2⟩⟩ := lw_tab i hi
    exact G_X5 t0 k1 k2 (nz_of (by omega)) b g1 g2) 5 (Nat.le_refl _) b (by omega) (by omega))
  · exact (fillV_good (fun V n b h => iX2_keep V n b h) (by decide) (fun V i hi b g1 g2 => by
    obtain ⟨t0, ⟨k1, n1⟩⟩ := dy_tab i hi
    exact G_X2 t0 k1 (nz_of (by omega)) b g1 g2) 5 (Nat.le_refl _) b (by omega) (by omega))
