/-! the model (laid by wip/tools/good.py) -/
theorem G_X11 {θ : Th} {V : Nat → Nat → Value} (hV : V 565 = fun k => defaultValue (clty 11 k)) : ∀ b, 565 ≤ b → b < 590 → Good θ (iX11 θ V 565) b := by
  intro b h1 h2
  have hj : b = 565 ∨ b = 566 ∨ b = 567 ∨ b = 568 ∨ b = 569 ∨ b = 570 ∨ b = 571 ∨ b = 572 ∨ b = 573 ∨ b = 574 ∨ b = 575 ∨ b = 576 ∨ b = 577 ∨ b = 578 ∨ b = 579 ∨ b = 580 ∨ b = 581 ∨ b = 582 ∨ b = 583 ∨ b = 584 ∨ b = 585 ∨ b = 586 ∨ b = 587 ∨ b = 588 ∨ b = 589 := by omega
  rcases hj with rfl | rfl | rfl | rfl | rfl | rfl | rfl | rfl | rfl | rfl | rfl | rfl | rfl | rfl | rfl | rfl | rfl | rfl | rfl | rfl | rfl | rfl | rfl | rfl | rfl
  · refine Good_obj (ci := 11) (by decide +kernel) (by decide) fun k hk => ?_
    have hk : k < 57 := hk
    have hk : k = 0 ∨ k = 1 ∨ k = 2 ∨ k = 3 ∨ k = 4 ∨ k = 5 ∨ k = 6 ∨ k = 7 ∨ k = 8 ∨ k = 9 ∨ k = 10 ∨ k = 11 ∨ k = 12 ∨ k = 13 ∨ k = 14 ∨ k = 15 ∨ k = 16 ∨ k = 17 ∨ k = 18 ∨ k = 19 ∨ k = 20 ∨ k = 21 ∨ k = 22 ∨ k = 23 ∨ k = 24 ∨ k = 25 ∨ k = 26 ∨ k = 27 ∨ k = 28 ∨ k = 29 ∨ k = 30 ∨ k = 31 ∨ k = 32 ∨ k = 33 ∨ k = 34 ∨ k = 35 ∨ k = 36 ∨ k = 37 ∨ k = 38 ∨ k = 39 ∨ k = 40 ∨ k = 41 ∨ k = 42 ∨ k = 43 ∨ k = 44 ∨ k = 45 ∨ k = 46 ∨ k = 47 ∨ k = 48 ∨ k = 49 ∨ k = 50 ∨ k = 51 ∨ k = 52 ∨ k = 53 ∨ k = 54 ∨ k = 55 ∨ k = 56 := by omega
    rcases hk with rfl | rfl | rfl | rfl | rfl | rfl | rfl | rfl | rfl | rfl | rfl | rfl | rfl | rfl | rfl | rfl | rfl | rfl | rfl | rfl | rfl | rfl | rfl | rfl | rfl | rfl | rfl | rfl | rfl | rfl | rfl | rfl | rfl | rfl | rfl | rfl | rfl | rfl | rfl | rfl | rfl | rfl | rfl | rfl | rfl | rfl | rfl | rfl | rfl | rfl | rfl | rfl | rfl | rfl | rfl | rfl | rfl
    · rw [fv0 (x := 0) (by decide), sg0_I]; first | (simp [iX11, upC, upR, updV, Nat.add_assoc]; done) | (simp [hV, iX11, upC, upR, updV, Nat.add_assoc]; rfl)
    · rw [fv2 (x := 1) (by decide)]; simp [iX11, upC, upR, updV, Nat.add_assoc]
    · rw [fv2 (x := 2) (by decide)]; simp [iX11, upC, upR, updV, Nat.add_assoc]
    · rw [fv2 (x := 3) (by decide)]; simp [iX11, upC, upR, updV, Nat.add_assoc]
    · rw [fv2 (x := 4) (by decide)]; simp [iX11, upC, upR, updV, Nat.add_assoc]
    · rw [fv3 (x := 0) (by decide)]; simp [sg0_R, rv]; simp [iX11, upC, upR, updV, Nat.add_assoc]
    · rw [fv0 (x := 0) (by decide), sg0_I]; first | (simp [iX11, upC, upR, updV, Nat.add_assoc]; done) | (simp [hV, iX11, upC, upR, updV, Nat.add_assoc]; rfl)
    · rw [fv0 (x := 0) (by decide), sg0_I]; first | (simp [iX11, upC, upR, updV, Nat.add_assoc]; done) | (simp [hV, iX11, upC, upR, updV, Nat.add_assoc]; rfl)
    · rw [fv0 (x := 0) (by decide), sg0_I]; first | (simp [iX11, upC, upR, updV, Nat.add_assoc]; done) | (simp [hV, iX11, upC, upR, updV, Nat.add_assoc]; rfl)
    · rw [fv0 (x := 0) (by decide), sg0_I]; first | (simp [iX11, upC, upR, updV, Nat.add_assoc]; done) | (simp [hV, iX11, upC, upR, updV, Nat.add_assoc]; rfl)
    · rw [fv0 (x := 0) (by decide), sg0_I]; first | (simp [iX11, upC, upR, updV, Nat.add_assoc]; done) | (simp [hV, iX11, upC, upR, updV, Nat.add_assoc]; rfl)
    · rw [fv0 (x := 0) (by decide), sg0_I]; first | (simp [iX11, upC, upR, updV, Nat.add_assoc]; done) | (simp [hV, iX11, upC, upR, updV, Nat.add_assoc]; rfl)
    · rw [fv0 (x := 0) (by decide), sg0_I]; first | (simp [iX11, upC, upR, updV, Nat.add_assoc]; done) | (simp [hV, iX11, upC, upR, updV, Nat.add_assoc]; rfl)
    · rw [fv0 (x := 0) (by decide), sg0_I]; first | (simp [iX11, upC, upR, updV, Nat.add_assoc]; done) | (simp [hV, iX11, upC, upR, updV, Nat.add_assoc]; rfl)
    · rw [fv0 (x := 0) (by decide), sg0_I]; first | (simp [iX11, upC, upR, updV, Nat.add_assoc]; done) | (simp [hV, iX11, upC, upR, updV, Nat.add_assoc]; rfl)
    · rw [fv4 (x := 0) (by decide)]; simp [iX11, upC, upR, updV, Nat.add_assoc]
    · rw [fv4 (x := 1) (by decide)]; simp [iX11, upC, upR, updV, Nat.add_assoc]
    · rw [fv0 (x := 0) (by decide), sg0_I]; first | (simp [iX11, upC, upR, updV, Nat.add_assoc]; done) | (simp [hV, iX11, upC, upR, updV, Nat.add_assoc]; rfl)
    · rw [fv2 (x := 5) (by decide)]; simp [iX11, upC, upR, updV, Nat.add_assoc]
    · rw [fv2 (x := 6) (by decide)]; simp [iX11, upC, upR, updV, Nat.add_assoc]
    · rw [fv2 (x := 7) (by decide)]; simp [iX11, upC, upR, updV, Nat.add_assoc]
    · rw [fv2 (x := 8) (by decide)]; simp [iX11, upC, upR, updV, Nat.add_assoc]
    · rw [fv2 (x := 9) (by decide)]; simp [iX11, upC, upR, updV, Nat.add_assoc]
    · rw [fv2 (x := 10) (by decide)]; simp [iX11, upC, upR, updV, Nat.add_assoc]
    · rw [fv2 (x := 11) (by decide)]; simp [iX11, upC, upR, updV, Nat.add_assoc]
    · rw [fv2 (x := 12) (by decide)]; simp [iX11, upC, upR, updV, Nat.add_assoc]
    · rw [fv0 (x := 0) (by decide), sg0_I]; first | (simp [iX11, upC, upR, updV, Nat.add_assoc]; done) | (simp [hV, iX11, upC, upR, updV, Nat.add_assoc]; rfl)
    · rw [fv0 (x := 0) (by decide), sg0_I]; first | (simp [iX11, upC, upR, updV, Nat.add_assoc]; done) | (simp [hV, iX11, upC, upR, updV, Nat.add_assoc]; rfl)
    · rw [fv0 (x := 0) (by decide), sg0_I]; first | (simp [iX11, upC, upR, updV, Nat.add_assoc]; done) | (simp [hV, iX11, upC, upR, updV, Nat.add_assoc]; rfl)
    · rw [fv0 (x := 0) (by decide), sg0_I]; first | (simp [iX11, upC, upR, updV, Nat.add_assoc]; done) | (simp [hV, iX11, upC, upR, updV, Nat.add_assoc]; rfl)
    · rw [fv0 (x := 0) (by decide), sg0_I]; first | (simp [iX11, upC, upR, updV, Nat.add_assoc]; done) | (simp [hV, iX11, upC, upR, updV, Nat.add_assoc]; rfl)
    · rw [fv0 (x := 0) (by decide), sg0_I]; first | (simp [iX11, upC, upR, updV, Nat.add_assoc]; done) | (simp [hV, iX11, upC, upR, updV, Nat.add_assoc]; rfl)
    · rw [fv2 (x := 13) (by decide)]; simp [iX11, upC, upR, updV, Nat.add_assoc]
    · rw [fv2 (x := 14) (by decide)]; simp [iX11, upC, upR, updV, Nat.add_assoc]
    · rw [fv2 (x := 15) (by decide)]; simp [iX11, upC, upR, updV, Nat.add_assoc]
    · rw [fv0 (x := 0) (by decide), sg0_I]; first | (simp [iX11, upC, upR, updV, Nat.add_assoc]; done) | (simp [hV, iX11, upC, upR, updV, Nat.add_assoc]; rfl)
    · rw [fv0 (x := 0) (by decide), sg0_I]; first | (simp [iX11, upC, upR, updV, Nat.add_assoc]; done) | (simp [hV, iX11, upC, upR, updV, Nat.add_assoc]; rfl)
    · rw [fv2 (x := 16) (by decide)]; simp [iX11, upC, upR, updV, Nat.add_assoc]
    · rw [fv2 (x := 17) (by decide)]; simp [iX11, upC, upR, updV, Nat.add_assoc]
    · rw [fv0 (x := 0) (by decide), sg0_I]; first | (simp [iX11, upC, upR, updV, Nat.add_assoc]; done) | (simp [hV, iX11, upC, upR, updV, Nat.add_assoc]; rfl)
    · rw [fv0 (x := 0) (by decide), sg0_I]; first | (simp [iX11, upC, upR, updV, Nat.add_assoc]; done) | (simp [hV, iX11, upC, upR, updV, Nat.add_assoc]; rfl)
    · rw [fv0 (x := 0) (by decide), sg0_I]; first | (simp [iX11, upC, upR, updV, Nat.add_assoc]; done) | (simp [hV, iX11, upC, upR, updV, Nat.add_assoc]; rfl)
    · rw [fv0 (x := 0) (by decide), sg0_I]; first | (simp [iX11, upC, upR, updV, Nat.add_assoc]; done) | (simp [hV, iX11, upC, upR, updV, Nat.add_assoc]; rfl)
    · rw [fv2 (x := 18) (by decide)]; simp [iX11, upC, upR, updV, Nat.add_assoc]
    · rw [fv0 (x := 0) (by decide), sg0_I]; first | (simp [iX11, upC, upR, updV, Nat.add_assoc]; done) | (simp [hV, iX11, upC, upR, updV, Nat.add_assoc]; rfl)
    · rw [fv1 (x := 0) (by decide), sg0_L]; first | (simp [iX11, upC, upR, updV, Nat.add_assoc]; done) | (simp [hV, iX11, upC, upR, updV, Nat.add_assoc]; rfl)
    · rw [fv2 (x := 19) (by decide)]; simp [iX11, upC, upR, updV, Nat.add_assoc]
    · rw [fv0 (x := 0) (by decide), sg0_I]; first | (simp [iX11, upC, upR, updV, Nat.add_assoc]; done) | (simp [hV, iX11, upC, upR, updV, Nat.add_assoc]; rfl)
    · rw [fv0 (x := 0) (by decide), sg0_I]; first | (simp [iX11, upC, upR, updV, Nat.add_assoc]; done) | (simp [hV, iX11, upC, upR, updV, Nat.add_assoc]; rfl)
    · rw [fv0 (x := 0) (by decide), sg0_I]; first | (simp [iX11, upC, upR, updV, Nat.add_assoc]; done) | (simp [hV, iX11, upC, upR, updV, Nat.add_assoc]; rfl)
    · rw [fv2 (x := 20) (by decide)]; simp [iX11, upC, upR, updV, Nat.add_assoc]
    · rw [fv0 (x := 0) (by decide), sg0_I]; first | (simp [iX11, upC, upR, updV, Nat.add_assoc]; done) | (simp [hV, iX11, upC, upR, updV, Nat.add_assoc]; rfl)
    · rw [fv2 (x := 21) (by decide)]; simp [iX11, upC, upR, updV, Nat.add_assoc]
    · rw [fv2 (x := 22) (by decide)]; simp [iX11, upC, upR, updV, Nat.add_assoc]
    · rw [fv2 (x := 23) (by decide)]; simp [iX11, upC, upR, updV, Nat.add_assoc]
    · rw [fv2 (x := 24) (by decide)]; simp [iX11, upC, upR, updV, Nat.add_assoc]
    · rw [fv0 (x := 0) (by decide), sg0_I]; first | (simp [iX11, upC, upR, updV, Nat.add_assoc]; done) | (simp [hV, iX11, upC, upR, updV, Nat.add_assoc]; rfl)
  · exact Good_arr (by decide +kernel) (by unfold nz; omega) (by simp [iX11, upC, upR])
  · exact Good_arr (by decide +kernel) (by unfold nz; omega) (by simp [iX11, upC, upR])
  · exact Good_arr (by decide +kernel) (by unfold nz; omega) (by simp [iX11, upC, upR])
  · exact Good_arr (by decide +kernel) (by unfold nz; omega) (by simp [iX11, upC, upR])
  · exact Good_arr (by decide +kernel) (by unfold nz; omega) (by simp [iX11, upC, upR])
  · exact Good_arr (by decide +kernel) (by unfold nz; omega) (by simp [iX11, upC, upR])
  · exact Good_arr (by decide +kernel) (by unfold nz; omega) (by simp [iX11, upC, upR])
  · exact Good_arr (by decide +kernel) (by unfold nz; omega) (by simp [iX11, upC, upR])
  · exact Good_arr (by decide +kernel) (by unfold nz; omega) (by simp [iX11, upC, upR])
  · exact Good_arr (by decide +kernel) (by unfold nz; omega) (by simp [iX11, upC, upR])
  · exact Good_arr (by decide +kernel) (by unfold nz; omega) (by simp [iX11, upC, upR])
  · exact Good_arr (by decide +kernel) (by unfold nz; omega) (by simp [iX11, upC, upR])
  · exact Good_arr (by decide +kernel) (by unfold nz; omega) (by simp [iX11, upC, upR])
  · exact Good_arr (by decide +kernel) (by unfold nz; omega) (by simp [iX11, upC, upR])
  · exact Good_arr (by decide +kernel) (by unfold nz; omega) (by simp [iX11, upC, upR])
  · exact Good_lng (by decide +kernel) (by simp [iX11, upC, upR])
  · exact Good_arr (by decide +kernel) (by unfold nz; omega) (by simp [iX11, upC, upR])
  · exact Good_arr (by decide +kernel) (by unfold nz; omega) (by simp [iX11, upC, upR])
  · exact Good_arr (by decide +kernel) (by unfold nz; omega) (by simp [iX11, upC, upR])
  · exact Good_arr (by decide +kernel) (by unfold nz; omega) (by simp [iX11, upC, upR])
  · exact Good_arr (by decide +kernel) (by unfold nz; omega) (by simp [iX11, upC, upR])
  · exact Good_arr (by decide +kernel) (by unfold nz; omega) (by simp [iX11, upC, upR])
  · exact Good_arr (by decide +kernel) (by unfold nz; omega) (by simp [iX11, upC, upR])
  · exact Good_arr (by decide +kernel) (by unfold nz; omega) (by simp [iX11, upC, upR])
