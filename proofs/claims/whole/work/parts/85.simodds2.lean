/-! odds: the reference -/
def OX (A : Gh) (n : Nat) (σ σ' : Mem) : Prop := SM (gL A).1 (gL A).2.1 σ σ' ∧ ∀ k, 131 * (n + 1) ≤ k → mI σ' 588 k = mI σ 588 k
theorem OX.trans {A : Gh} {n : Nat} {σ σ1 σ2 : Mem} (h : OX A n σ σ1) (g : OX A n σ1 σ2) : OX A n σ σ2 := ⟨h.1.trans g.1, fun k hk => (g.2 k hk).trans (h.2 k hk)⟩
theorem OX.up {A : Gh} {n : Nat} {σ σ1 : Mem} (h : OX A n σ σ1) : OX A (n + 1) σ σ1 := ⟨h.1, fun k hk => h.2 k (by omega)⟩
theorem TR.ox {A : Gh} {n : Nat} {σ σ1 : Mem} {w : Rw} (h : TR A σ w σ1) : OX A n σ σ1 := ⟨h.sm, fun k _ => by rw [h.2.1.1 588 (by omega) (by omega) (by omega) (by omega) (by omega)]⟩
theorem TR.set {A : Gh} {σ σ1 : Mem} {w : Rw} {k : Nat} {v : Int32} (hA : gOk A) (h : TR A σ w σ1) : TR A σ (upd w k v) (sI σ1 579 k v) := ⟨by rw [row_sI]; exact h.1.up k rfl, h.2.1.trans (MX_sI (by omega)), I_sI hA.I h.2.2 (Or.inr rfl)⟩
theorem inb_917 {n j : Nat} (hn : n ≤ 6) (hj : j < 131) : inb ((131 : Int32) * nI n + nI j) 917 = true ∧ ((131 : Int32) * nI n + nI j).toNatClampNeg = 131 * n + j := by
  rw [show (131 : Int32) = nI 131 from rfl, pk_mul, nI_add]
  exact ⟨inb_nI (by omega) (by decide), nI_clamp (by omega)⟩
theorem OF_keep {A : Gh} {σ : Mem} {n : Nat} {w : Rw} {rc : Nat → Mem → Int32 → Int32 → Int32 → Int32 → Option (Int32 × Mem)} {x2 x3 x4 : Int32} (hA : gOk A) (hM : MRel σ A) (hw : Ag (mI σ 579) w) (hn : n ≤ 6) : ∃ σ', loopF (f_Model_oddsFrom_L34 rc (nI n) x2 x3 x4) FU (σ, 0) = some σ' ∧ OX A n σ σ' ∧ ∀ j, j < 131 → mI σ' 588 (131 * n + j) = w j := by
  obtain ⟨σ', g1, g2, g3⟩ := loopF_go (step := f_Model_oddsFrom_L34 rc (nI n) x2 x3 x4) (a := (σ, (0 : Int32))) (fun i s => s.2 = nI i ∧ OX A n σ s.1 ∧ mI s.1 579 = mI σ 579 ∧ ∀ j, j < i → mI s.1 588 (131 * n + j) = w j) (fun r => OX A n σ r ∧ ∀ j, j < 131 → mI r 588 (131 * n + j) = w j) 131 ⟨rfl, ⟨SM.refl hM.t, fun _ _ => rfl⟩, rfl, fun j hj => by omega⟩ (by omega) (by
    rintro i ⟨τ, z⟩ hi ⟨e1, e2, e3, e4⟩
    simp only at e1 e2 e3 e4
    subst e1
    unfold f_Model_oddsFrom_L34
    dsimp only
    by_cases hlt : i < 131
    · obtain ⟨b1, b2⟩ := inb_917 hn hlt
      rw [if_neg (show ¬ (131 : Int32) ≤ nI i from nI_ge (b := 131) hlt (by omega)), if_pos (inb_nI hlt (by decide)), if_pos b1, b2, nI_clamp (by omega), nI_1, e3, hw i hlt]
      refine exL ⟨hlt, rfl, ⟨e2.1.trans (SM_sI e2.1.2.2.2.2.1 (by omega)), fun k hk => ?_⟩, ?_, fun j hj => ?_⟩
      · rw [row_sI, upd_ne (by omega)]; exact e2.2 k hk
      · rw [row_ne (by omega)]; exact e3
      · rw [row_sI, upd_at]
        by_cases e : j = i
        · rw [if_pos (by omega), e]
        · rw [if_neg (by omega)]; exact e4 j (by omega)
    · have : i = 131 := by omega
      subst this
      rw [if_pos (show (131 : Int32) ≤ nI 131 by decide)]
      exact exR ⟨e2, e4⟩)
  exact ⟨σ', g1, g2, g3⟩
theorem OF_back {A : Gh} {σ : Mem} {n : Nat} {w : Rw} {rc : Nat → Mem → Int32 → Int32 → Int32 → Int32 → Option (Int32 × Mem)} {x2 x3 x4 y5 y6 y7 : Int32} (hA : gOk A) (hM : MRel σ A) (hw : ∀ j, j < 131 → mI σ 588 (131 * n + j) = w j) (hn : n ≤ 6) : ∃ σ', loopF (f_Model_oddsFrom_L96 rc (nI n) x2 x3 x4 y5 y6 y7) FU (σ, 0) = some σ' ∧ TR A σ w σ' := by
  obtain ⟨σ', g1, g2⟩ := loopF_go (step := f_Model_oddsFrom_L96 rc (nI n) x2 x3 x4 y5 y6 y7) (a := (σ, (0 : Int32))) (fun i s => s.2 = nI i ∧ MX 579 σ s.1 ∧ iA A s.1 ∧ ∀ j, j < i → mI s.1 579 j = w j) (fun r => TR A σ w r) 131 ⟨rfl, MX.refl _ _, hM.i, fun j hj => by omega⟩ (by omega) (by
    rintro i ⟨τ, z⟩ hi ⟨e1, e2, e3, e4⟩
    simp only at e1 e2 e3 e4
    subst e1
    unfold f_Model_oddsFrom_L96
    dsimp only
    by_cases hlt : i < 131
    · obtain ⟨b1, b2⟩ := inb_917 hn hlt
      rw [if_neg (show ¬ (131 : Int32) ≤ nI i from nI_ge (b := 131) hlt (by omega)), if_pos b1, if_pos (inb_nI hlt (by decide)), b2, nI_clamp (by omega), nI_1, e2.1 588 (by omega) (by omega) (by omega) (by omega) (by omega), hw i hlt]
      refine exL ⟨hlt, rfl, e2.trans (MX_sI (by omega)), I_sI hA.I e3 (Or.inr rfl), fun j hj => ?_⟩
      rw [row_sI, upd_at]
      by_cases e : j = i
      · rw [if_pos e, e]
      · rw [if_neg e]; exact e4 j (by omega)
    · have : i = 131 := by omega
      subst this
      rw [if_pos (show (131 : Int32) ≤ nI 131 by decide)]
      exact exR ⟨e4, e2, e3⟩)
  exact ⟨σ', g1, g2⟩
theorem OF_all {A : Gh} {y : Int32} {x : Nat} (hA : gOk A) (hc : hasC A) (hx : x ≤ 100) : ∀ n, n ≤ 6 → ∀ m w N P σ, n < m → P ≤ 1000000000 → MRel σ A → Ag (mI σ 579) w → w 128 = gW A 128 → Wf (cT (gK A)) (cB (gK A)) N w → N + n < 2 ^ 29 → ∃ σ', f_OF m 0 σ (nI n) y (nI x) (nI P) = some (nI (odS (gK A) y x n w P), σ') ∧ OX A n σ σ' := by
  intro n
  induction n with
  | zero =>
    intro _ m w N P σ hm hP hM ha h128 hw hN
    obtain ⟨m, rfl⟩ : ∃ k, m = k + 1 := ⟨m - 1, by omega⟩
    obtain ⟨k, k1, k2, -⟩ := hw.1
    have hd : dueA (fun k => mI σ 579 (30 + k)) k = dueA (fun k => w (30 + k)) k := dueA_congr k fun i hi => ha (30 + i) (by omega)
    show ∃ σ', f_Model_oddsFrom (f_OF m) σ (nI 0) y (nI x) (nI P) = _ ∧ _
    unfold f_Model_oddsFrom
    rw [if_pos (show nI 0 = (0 : Int32) from rfl), Model_allDue (n := k) (by decide +kernel) ((ha 126 (by omega)).trans k2) k1, Option.bind_some, hd, show (129 : Int32).toNatClampNeg = 129 from rfl, ha 129 (by omega)]
    unfold odS
    rw [mny_eq k1 k2]
    by_cases q : w 129 + dueA (fun k => w (30 + k)) k < y
    · rw [if_pos q, if_pos q]
      exact ⟨σ, rfl, SM.refl hM.t, fun _ _ => rfl⟩
    · rw [if_neg q, if_neg q]
      exact ⟨σ, rfl, SM.refl hM.t, fun _ _ => rfl⟩
  | succ n ih =>
    intro hn m w N P σ hm hP hM ha h128 hw hN
    obtain ⟨m, rfl⟩ : ∃ k, m = k + 1 := ⟨m - 1, by omega⟩
    have pl := part_le (P := P) hx
    obtain ⟨σ1, k1, k2, k3⟩ := OF_keep (n := n + 1) (rc := f_OF m) (x2 := y) (x3 := nI x) (x4 := nI P) hA hM ha hn
    have hM1 := hM.scr hA k2.1
    -- without
    have c128 : (128 : Int32).toNatClampNeg = 128 := rfl
    obtain ⟨σ2, l1, l2⟩ := OF_back (n := n + 1) (rc := f_OF m) (x2 := y) (x3 := nI x) (x4 := nI P) (y5 := nI (P * x / 100)) (y6 := 0) (y7 := 0) hA hM1 k3 hn
    obtain ⟨σ3, m1, m2, -⟩ := TR_hour (K := gK A) rfl hA hc.2.2.1 (hM1.scr hA l2.sm).k l2 hw (by omega)
    have e3 : mI σ3 578 = gW A := (hM1.scr hA m2.sm).w
    have m4 : TR A σ1 (paH (gK A) w) (sI σ3 579 128 (gW A 128)) := by
      obtain ⟨t1, t2, t3⟩ := m2.set (k := 128) (v := gW A 128) hA
      refine ⟨t1.trans fun i _ => ?_, t2, t3⟩
      rw [upd_at]
      by_cases e : i = 128
      · rw [if_pos e, e, paH_128 hc.2.2.1 hw, h128]
      · rw [if_neg e]
    have hM4 := hM1.scr hA m4.sm
    obtain ⟨σ5, p1, p2⟩ := ih (by omega) m (paH (gK A) w) (N + 1) (P - P * x / 100) _ (by omega) (by omega) hM4 m4.1 (by rw [paH_128 hc.2.2.1 hw, h128]) (paH_wf hc.2.2.1 rfl rfl hw) (by omega)
    have x5 : OX A n σ1 σ5 := OX.trans m4.ox p2
    have hM5 := hM1.scr hA x5.1
    have k5 : ∀ j, j < 131 → mI σ5 588 (131 * (n + 1) + j) = w j := fun j hj => (x5.2 _ (by omega)).trans (k3 j hj)
    -- with
    obtain ⟨σ6, q1, q2⟩ := OF_back (n := n + 1) (rc := f_OF m) (x2 := y) (x3 := nI x) (x4 := nI P) (y5 := nI (P * x / 100)) (y6 := nI (odS (gK A) y x n (paH (gK A) w) (P - P * x / 100))) (y7 := 1) hA hM5 k5 hn
    have q3 := q2.set (k := 128) (v := 15) hA
    obtain ⟨σ7, r1, r2, -⟩ := TR_hour (K := gK A) rfl hA hc.2.2.1 (hM5.scr hA q3.sm).k q3 (clerk_wf hc.2.2.1 hw) (by omega)
    have e7 : mI σ7 578 = gW A := (hM5.scr hA r2.sm).w
    have r4 : TR A σ5 (awH (gK A) w) (sI σ7 579 128 (gW A 128)) := by
      have := r2.set (k := 128) (v := gW A 128) hA
      rw [← h128] at this ⊢
      exact this
    have hM8 := hM5.scr hA r4.sm
    obtain ⟨σ9, s1, s2⟩ := ih (by omega) m (awH (gK A) w) (N + 1) (P * x / 100) _ (by omega) (by omega) hM8 r4.1 (by rw [awH_128, h128]) (awH_wf hc.2.2.1 hw) (by omega)
    have x9 : OX A n σ5 σ9 := OX.trans r4.ox s2
    refine ⟨σ9, ?_, k2.trans ((x5.trans x9).up)⟩
    show f_Model_oddsFrom (f_OF m) σ (nI (n + 1)) y (nI x) (nI P) = _
    unfold f_Model_oddsFrom
    rw [if_neg (nI_ne0 (by omega) (by omega)), k1, Option.bind_some, part_val hP hx, odS_s]
    obtain ⟨mm, hmm⟩ := FU_at 3 (by omega)
    have st0 : f_Model_oddsFrom_L87 (f_OF m) (nI (n + 1)) y (nI x) (nI P) (nI (P * x / 100)) (σ1, 0, 0) = some (.inl (σ5, nI (odS (gK A) y x n (paH (gK A) w) (P - P * x / 100)), 1)) := by
      unfold f_Model_oddsFrom_L87
      dsimp only
      rw [if_neg (show ¬ (2 : Int32) ≤ 0 by decide), l1, Option.bind_some, if_neg (show ¬ (0 : Int32) = 1 by decide), m1, Option.bind_some, if_neg (show ¬ (0 : Int32) = 1 by decide), e3, c128, z_sub1 (by omega), Nat.add_sub_cancel, pk_sub pl, p1, Option.bind_some, Int32.zero_add]
      rfl
    have st1 : f_Model_oddsFrom_L87 (f_OF m) (nI (n + 1)) y (nI x) (nI P) (nI (P * x / 100)) (σ5, nI (odS (gK A) y x n (paH (gK A) w) (P - P * x / 100)), 1) = some (.inl (σ9, nI (odS (gK A) y x n (awH (gK A) w) (P * x / 100) + odS (gK A) y x n (paH (gK A) w) (P - P * x / 100)), 2)) := by
      unfold f_Model_oddsFrom_L87
      dsimp only
      rw [if_neg (show ¬ (2 : Int32) ≤ 1 by decide), q1, Option.bind_some, if_pos (show (1 : Int32) = 1 from rfl), c128, r1, Option.bind_some, if_pos (show (1 : Int32) = 1 from rfl), e7, z_sub1 (by omega), Nat.add_sub_cancel, s1, Option.bind_some, nI_add, Nat.add_comm]
      rfl
    have st2 : ∀ v, f_Model_oddsFrom_L87 (f_OF m) (nI (n + 1)) y (nI x) (nI P) (nI (P * x / 100)) (σ9, v, 2) = some (.inr (v, σ9)) := fun v => by
      unfold f_Model_oddsFrom_L87
      dsimp only
      rw [if_pos (show (2 : Int32) ≤ 2 by decide)]
    rw [hmm, loopF_inl st0, loopF_inl st1, loopF_inr (st2 _)]
