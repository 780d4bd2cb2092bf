/-! seen -/
def snU (s : Nat × Rw) (x y z : Int32) : Nat × Rw := (s.1 + 1, upd (upd (upd s.2 (3 * s.1) x) (3 * s.1 + 1) y) (3 * s.1 + 2) z)
theorem gOk_S {A : Gh} {j : Nat} {y z : Int32} (hA : gOk A) (h : hasC A) (hs : (gS A).1 < 10) (j0 : 1 ≤ j) (j1 : j ≤ 60) (hz : z = 0 ∨ z = 1) : gOk (sS A (snU (gS A) (nI j) y z)) := by
  refine ⟨hA.1, hA.2.1, hA.2.2.1, hA.2.2.2.1, hA.2.2.2.2.1, hA.2.2.2.2.2.1, hA.2.2.2.2.2.2.1, hA.2.2.2.2.2.2.2.1, by show (gS A).1 + 1 ≤ 10; omega, Or.inr ⟨h.1, h.2.1, h.2.2.1, h.2.2.2.1, h.2.2.2.2.1, h.2.2.2.2.2.1, fun i hi => ?_⟩⟩
  have hi : i < (gS A).1 + 1 := hi
  show (∃ n, 1 ≤ n ∧ n ≤ 60 ∧ upd (upd (upd (gS A).2 (3 * (gS A).1) (nI j)) (3 * (gS A).1 + 1) y) (3 * (gS A).1 + 2) z (3 * i) = nI n) ∧ (upd (upd (upd (gS A).2 (3 * (gS A).1) (nI j)) (3 * (gS A).1 + 1) y) (3 * (gS A).1 + 2) z (3 * i + 2) = 0 ∨ upd (upd (upd (gS A).2 (3 * (gS A).1) (nI j)) (3 * (gS A).1 + 1) y) (3 * (gS A).1 + 2) z (3 * i + 2) = 1)
  by_cases q : i = (gS A).1
  · subst q
    rw [upd_ne (by omega), upd_ne (by omega), upd_self, upd_self]
    exact ⟨⟨j, j0, j1, rfl⟩, hz⟩
  · rw [upd_ne (by omega), upd_ne (by omega), upd_ne (by omega), upd_ne (by omega), upd_ne (by omega), upd_ne (by omega)]
    exact h.2.2.2.2.2.2 i (by omega)
theorem nar01 {z : Int32} (hz : z = 0 ∨ z = 1) : vp_nar .boolean z = z := by rcases hz with rfl | rfl <;> rfl
theorem Guess_noteSeen {σ : Mem} {s : Nat} {x y z : Int32} (h : mI σ 516 5 = nI s) (hs : s < 10) (hz : z = 0 ∨ z = 1) : f_Guess_noteSeen σ x y z = some (nI (s + 1), sI (sI (sI (sI σ 527 s x) 528 s y) 529 s z) 516 5 (nI (s + 1))) := by
  unfold f_Guess_noteSeen
  have a1 : ∀ τ k v, mI (sI τ 527 k v) 516 = mI τ 516 := fun τ k v => row_ne (by omega)
  have a2 : ∀ τ k v, mI (sI τ 528 k v) 516 = mI τ 516 := fun τ k v => row_ne (by omega)
  have a3 : ∀ τ k v, mI (sI τ 529 k v) 516 = mI τ 516 := fun τ k v => row_ne (by omega)
  simp only [a1, a2, a3, h, nar01 hz, show ¬ (10 : Int32) ≤ nI s from nI_ge (b := 10) hs (by omega), if_false, inb_nI hs (show 10 < 2 ^ 31 by decide), if_true, nI_clamp (show s < 2 ^ 31 by omega), nI_1, row_sI, upd_self]
theorem sim_seen (x y z : Int32) (hz01 : z = 0 ∨ z = 1) : Sim (fun σ => f_Game_seen σ x y z) (fun σ => f_Model_seen σ x y z) := fun A hA => by
  have t8 := hA.T8
  have b6 := hA.B6
  have l4 := hA.2.1.1
  have d4 := hA.2.2.1.1
  have s10 := hA.2.2.2.2.2.2.2.2.1
  have e1 : (1 : Int64) = lN 1 := rfl
  have e60 : (60 : Int64) = lN 60 := rfl
  have e999 : (999 : Int64) = lN 999 := rfl
  have no : (∀ σ, CRel σ A → f_Game_seen σ x y z = some (-1, σ)) → (∀ σ, MRel σ A → f_Model_seen σ x y z = some (-1, sI σ 565 0 0)) → ∃ r A', gOk A' ∧ (∀ σ, CRel σ A → ∃ σ', (fun σ => f_Game_seen σ x y z) σ = some (r, σ') ∧ CRel σ' A' ∧ EqHi σ σ') ∧ (∀ σ, MRel σ A → ∃ σ', (fun σ => f_Model_seen σ x y z) σ = some (r, σ') ∧ MRel σ' A' ∧ EqLo σ σ') := fun h1 h2 =>
    ⟨-1, A, hA, fun σ hC => ⟨σ, h1 σ hC, hC, EqHi.refl _⟩, fun σ hM => ⟨_, h2 σ hM, hM.z hA, EqLo.trans0 hM (EqLo.refl _)⟩⟩
  rcases hA.cs with p | hc
  · refine no (fun σ hC => ?_) (fun σ hM => ?_)
    · unfold f_Game_seen; rw [Trade_hasCity hC.k t8, if_pos p.1]; rfl
    · unfold f_Model_seen; rw [(hM.z (v := 0) hA).k.2.1, p.2.1, if_pos (show nI 0 = (0 : Int32) from rfl)]
  · have hT1 := hc.1
    have hB1 := hc.2.1
    have cq : ∀ σ, CRel σ A → f_Game_seen σ x y z = if x < 1 then some (-1, σ) else if 60 < x then some (-1, σ) else if y < 0 then some (-1, σ) else if 999 < y then some (-1, σ) else if nI (gS A).1 < 10 then (f_Guess_noteSeen σ x y z).bind fun q8 => some (q8.1, q8.2) else some (-1, σ) := fun σ hC => by
      unfold f_Game_seen
      rw [Trade_hasCity hC.k t8, if_neg (by omega), Option.bind_some, if_neg (by decide), hC.2.2.2.2.2.2.2.2.2.1]
    rcases rng1 60 x (by omega) (by omega) with ⟨r1, r2⟩ | ⟨r1, r2, r3⟩ | ⟨r1, j, j0, j1, rfl⟩
    · refine no (fun σ hC => by rw [cq σ hC, if_pos r1]) (fun σ hM => ?_)
      unfold f_Model_seen; rw [(hM.z (v := 0) hA).k.2.1, if_neg (nI_ne0 (by omega) (by omega)), e1, e60, Model_isInR (by omega) (by omega), r2]; rfl
    · refine no (fun σ hC => by rw [cq σ hC, if_neg r1, if_pos (show (60 : Int32) < x from r2)]) (fun σ hM => ?_)
      unfold f_Model_seen; rw [(hM.z (v := 0) hA).k.2.1, if_neg (nI_ne0 (by omega) (by omega)), e1, e60, Model_isInR (by omega) (by omega), r3]; rfl
    · have n1 : ¬ nI j < (1 : Int32) := nI_nlt (b := 1) (by omega) (by omega)
      have n60 : ¬ (60 : Int32) < nI j := nI_nlt (a := 60) (by omega) (by omega)
      rcases rng0 999 y (by omega) with ⟨s1, s2⟩ | ⟨s1, s2, s3⟩ | ⟨s1, k, k1, rfl⟩
      · refine no (fun σ hC => by rw [cq σ hC, if_neg n1, if_neg n60, if_pos s1]) (fun σ hM => ?_)
        unfold f_Model_seen; rw [(hM.z (v := 0) hA).k.2.1, if_neg (nI_ne0 (by omega) (by omega)), e1, e60, Model_isInR (by omega) (by omega), r1, Option.bind_some, if_neg (by decide), l0, e999, Model_isInR (by omega) (by omega), s2]; rfl
      · refine no (fun σ hC => by rw [cq σ hC, if_neg n1, if_neg n60, if_neg s1, if_pos (show (999 : Int32) < y from s2)]) (fun σ hM => ?_)
        unfold f_Model_seen; rw [(hM.z (v := 0) hA).k.2.1, if_neg (nI_ne0 (by omega) (by omega)), e1, e60, Model_isInR (by omega) (by omega), r1, Option.bind_some, if_neg (by decide), l0, e999, Model_isInR (by omega) (by omega), s3]; rfl
      · have n0 : ¬ nI k < (0 : Int32) := nI_pos (by omega)
        have n999 : ¬ (999 : Int32) < nI k := nI_nlt (a := 999) (by omega) (by omega)
        by_cases q : (gS A).1 = 10
        · refine no (fun σ hC => by rw [cq σ hC, if_neg n1, if_neg n60, if_neg n0, if_neg n999, if_neg (show ¬ nI (gS A).1 < (10 : Int32) by rw [q]; decide)]) (fun σ hM => ?_)
          unfold f_Model_seen; rw [(hM.z (v := 0) hA).k.2.1, if_neg (nI_ne0 (by omega) (by omega)), e1, e60, Model_isInR (by omega) (by omega), r1, Option.bind_some, if_neg (by decide), l0, e999, Model_isInR (by omega) (by omega), s1, Option.bind_some, if_neg (by decide), (hM.z (v := 0) hA).2.2.2.2.2.2.2.2.2.1, q, if_pos (show nI 10 = (10 : Int32) from rfl)]
        · refine ⟨nI ((gS A).1 + 1), sS A (snU (gS A) (nI j) (nI k) z), gOk_S hA hc (by omega) j0 j1 hz01, fun σ hC => ?_, fun σ hM => ?_⟩
          · have hn := Guess_noteSeen (x := nI j) (y := nI k) (z := z) hC.2.2.2.2.2.2.2.2.2.1 (show (gS A).1 < 10 by omega) hz01
            refine ⟨sI (sI (sI (sI σ 527 (gS A).1 (nI j)) 528 (gS A).1 (nI k)) 529 (gS A).1 z) 516 5 (nI ((gS A).1 + 1)), ?_, ?_, fun a ha => ⟨by rw [row_ne (by omega), row_ne (by omega), row_ne (by omega), row_ne (by omega)], rfl, rfl⟩⟩
            · show f_Game_seen σ (nI j) (nI k) z = _
              rw [cq σ hC, if_neg n1, if_neg n60, if_neg n0, if_neg n999, if_pos (show nI (gS A).1 < (10 : Int32) from nI_lt (b := 10) (by omega) (by omega)), hn]; rfl
            · obtain ⟨h1, h2, h3, h4, h5, h6, h7, h8, h9, h10⟩ := hC
              have cc := h6.c
              have kk : ∀ c, c ≠ 516 → c ≠ 527 → c ≠ 528 → c ≠ 529 → mI (sI (sI (sI (sI σ 527 (gS A).1 (nI j)) 528 (gS A).1 (nI k)) 529 (gS A).1 z) 516 5 (nI ((gS A).1 + 1))) c = mI σ c := fun c c1 c2 c3 c4 => by rw [row_ne c1, row_ne c4, row_ne c3, row_ne c2]
              have g0 := kk 0 (by omega) (by omega) (by omega) (by omega)
              refine ⟨h1.fr (by rw [kk 1 (by omega) (by omega) (by omega) (by omega)]) (kk 2 (by omega) (by omega) (by omega) (by omega)), h2.fr (by rw [g0]) (by rw [g0]) (fun i hi => ⟨kk _ (by omega) (by omega) (by omega) (by omega), kk _ (by omega) (by omega) (by omega) (by omega)⟩) rfl, h3.fr (by rw [g0]) (fun i hi => ⟨kk _ (by omega) (by omega) (by omega) (by omega), kk _ (by omega) (by omega) (by omega) (by omega)⟩), h4.fr (by rw [g0]) (kk 5 (by omega) (by omega) (by omega) (by omega)), h5.fr4 rfl fun k hk => kk _ (by omega) (by omega) (by omega) (by omega), h6, h7.fr fun a q1 q2 => kk a (by omega) (by omega) (by omega) (by omega), h8.fr (by rw [g0]) fun a q1 q2 => kk a (by omega) (by omega) (by omega) (by omega), h9.fr fun a q1 q2 => kk a (by omega) (by omega) (by omega) (by omega), ⟨by rw [row_sI, upd_self]; rfl, fun i hi => ?_⟩⟩
              have hi : i < (gS A).1 + 1 := hi
              rw [row_ne (show (527 : Nat) ≠ 516 by omega), row_ne (show (527 : Nat) ≠ 529 by omega), row_ne (show (527 : Nat) ≠ 528 by omega), row_sI, row_ne (show (528 : Nat) ≠ 516 by omega), row_ne (show (528 : Nat) ≠ 529 by omega), row_sI, row_ne (show (528 : Nat) ≠ 527 by omega), row_ne (show (529 : Nat) ≠ 516 by omega), row_sI, row_ne (show (529 : Nat) ≠ 528 by omega), row_ne (show (529 : Nat) ≠ 527 by omega)]
              show upd _ _ _ i = upd (upd (upd (gS A).2 (3 * (gS A).1) (nI j)) (3 * (gS A).1 + 1) (nI k)) (3 * (gS A).1 + 2) z (3 * i) ∧ upd _ _ _ i = upd (upd (upd (gS A).2 (3 * (gS A).1) (nI j)) (3 * (gS A).1 + 1) (nI k)) (3 * (gS A).1 + 2) z (3 * i + 1) ∧ upd _ _ _ i = upd (upd (upd (gS A).2 (3 * (gS A).1) (nI j)) (3 * (gS A).1 + 1) (nI k)) (3 * (gS A).1 + 2) z (3 * i + 2)
              by_cases q : i = (gS A).1
              · subst q
                rw [upd_self, upd_self, upd_self, upd_self, upd_ne (j := 3 * (gS A).1) (by omega), upd_ne (j := 3 * (gS A).1) (by omega), upd_self, upd_ne (j := 3 * (gS A).1 + 1) (by omega), upd_self]
                exact ⟨rfl, rfl, rfl⟩
              · simp (disch := omega) only [upd_ne]
                exact h10.2 i (by omega)
          · have hz := hM.z (v := 0) hA
            have hs5 := hz.2.2.2.2.2.2.2.2.2.1
            have hs6 := hz.2.2.2.2.2.2.2.2.2.2
            refine ⟨sI (sI (sI (sI (sI σ 565 0 0) 585 (3 * (gS A).1) (nI j)) 585 (3 * (gS A).1 + 1) (nI k)) 585 (3 * (gS A).1 + 2) z) 565 51 (nI ((gS A).1 + 1)), ?_, ?_, EqLo.trans0 hM fun a ha => ⟨by rw [row_ne (by omega), row_ne (by omega), row_ne (by omega), row_ne (by omega)], rfl, rfl⟩⟩
            · have a1 : ∀ τ k v, mI (sI τ 585 k v) 565 = mI τ 565 := fun τ k v => row_ne (by omega)
              have m0 : (3 : Int32) * nI (gS A).1 = nI (3 * (gS A).1) := nI_3mul _
              have m1 : nI (3 * (gS A).1) + (1 : Int32) = nI (3 * (gS A).1 + 1) := nI_1 _
              have m2 : nI (3 * (gS A).1) + (2 : Int32) = nI (3 * (gS A).1 + 2) := nI_addc _ 2
              show f_Model_seen σ (nI j) (nI k) z = _
              unfold f_Model_seen
              rw [hz.k.2.1, if_neg (nI_ne0 (by omega) (by omega)), e1, e60, Model_isInR (by omega) (by omega), r1, Option.bind_some, if_neg (by decide), l0, e999, Model_isInR (by omega) (by omega), s1, Option.bind_some, if_neg (by decide)]
              generalize hg : sI σ 565 0 0 = σ0 at *
              simp only [a1, hs5, show ¬ nI (gS A).1 = (10 : Int32) from fun e => q (nI_inj6 (b := 10) (by omega) (by omega) e), if_false, m0, m1, m2, inb_nI (show 3 * (gS A).1 < 30 by omega) (show 30 < 2 ^ 31 by decide), inb_nI (show 3 * (gS A).1 + 1 < 30 by omega) (show 30 < 2 ^ 31 by decide), inb_nI (show 3 * (gS A).1 + 2 < 30 by omega) (show 30 < 2 ^ 31 by decide), if_true, nI_clamp (show 3 * (gS A).1 < 2 ^ 31 by omega), nI_clamp (show 3 * (gS A).1 + 1 < 2 ^ 31 by omega), nI_clamp (show 3 * (gS A).1 + 2 < 2 ^ 31 by omega), nI_1, row_sI, upd_self]
              rcases hz01 with rfl | rfl
              · rw [if_pos rfl]
              · rw [if_neg (by decide)]
            · obtain ⟨q1, q2, q3, q4, q5, ⟨q6, q6'⟩, q7, q8, q9, q10⟩ := hz
              have kk : ∀ c, c ≠ 565 → c ≠ 585 → mI (sI (sI (sI (sI (sI σ 565 0 0) 585 (3 * (gS A).1) (nI j)) 585 (3 * (gS A).1 + 1) (nI k)) 585 (3 * (gS A).1 + 2) z) 565 51 (nI ((gS A).1 + 1))) c = mI (sI σ 565 0 0) c := fun c c1 c2 => by rw [row_ne c1, row_ne c2, row_ne c2, row_ne c2]
              have k5 : ∀ k', k' ≠ 51 → mI (sI (sI (sI (sI (sI σ 565 0 0) 585 (3 * (gS A).1) (nI j)) 585 (3 * (gS A).1 + 1) (nI k)) 585 (3 * (gS A).1 + 2) z) 565 51 (nI ((gS A).1 + 1))) 565 k' = mI (sI σ 565 0 0) 565 k' := fun k' hk => by rw [row_sI _ _ 51, upd_ne hk, row_ne (by omega), row_ne (by omega), row_ne (by omega)]
              refine ⟨?_, ⟨by rw [k5 _ (by omega)]; exact q2.1, by rw [k5 _ (by omega)]; exact q2.2.1, q2.2.2.fr (kk _ (by omega) (by omega)) (kk _ (by omega) (by omega)) rfl (kk _ (by omega) (by omega))⟩, ?_, ⟨fun k hk => by rw [kk 580 (by omega) (by omega)]; exact q4.1 k hk, by rw [k5 _ (by omega)]; exact q4.2⟩, q5.fr0 q6 q6' t8 b6 (fun k hk => k5 k (by omega)) (fun a ha => kk a (by omega) (by omega)), by rw [k5 39 (by omega), k5 41 (by omega)]; exact ⟨q6, q6'⟩, by rw [kk 578 (by omega) (by omega)]; exact q7, ?_, ?_, ⟨by rw [row_sI _ _ 51, upd_self]; rfl, fun i hi => ?_⟩⟩
              · show MTape _ (gT A); unfold MTape; rw [k5 6 (by omega), kk 566 (by omega) (by omega)]; exact q1
              · show MDay _ (gD A); unfold MDay; rw [k5 30 (by omega), kk 577 (by omega) (by omega), kk 576 (by omega) (by omega)]; exact q3
              · show MImg _ (gI A); unfold MImg; rw [k5 56 (by omega), kk 589 (by omega) (by omega)]; exact q8
              · show MHis _ (gH A); unfold MHis; rw [k5 44 (by omega), kk 583 (by omega) (by omega)]; exact q9
              · have hi : i < 3 * ((gS A).1 + 1) := hi
                rw [row_ne (by omega), row_sI, row_sI, row_sI]
                show upd _ _ _ i = upd (upd (upd (gS A).2 (3 * (gS A).1) (nI j)) (3 * (gS A).1 + 1) (nI k)) (3 * (gS A).1 + 2) z i
                rw [upd_at, upd_at, upd_at, upd_at, upd_at, upd_at]
                by_cases i2 : i = 3 * (gS A).1 + 2
                · rw [if_pos i2, if_pos i2]
                · rw [if_neg i2, if_neg i2]
                  by_cases i1 : i = 3 * (gS A).1 + 1
                  · rw [if_pos i1, if_pos i1]
                  · rw [if_neg i1, if_neg i1]
                    by_cases i0 : i = 3 * (gS A).1
                    · rw [if_pos i0, if_pos i0]
                    · rw [if_neg i0, if_neg i0]
                      exact hs6 i (by omega)
