/-! run -/
/-- the row behind i steps of a day's rows r -/
def wiS (K : Cy) (r : Rw) (w : Rw) : Nat → Rw
  | 0 => w
  | i + 1 => spS K (wiS K r w i) (r (3 * i)).toNatClampNeg (r (3 * i + 1)) (r (3 * i + 2))
def ciS (K : Cy) (r : Rw) (w : Rw) (i : Nat) : Bool := cnS K (wiS K r w i) (r (3 * i)).toNatClampNeg (r (3 * i + 1)) (r (3 * i + 2))
/-- behind how many of n steps the first is that can't be -/
def dnS (K : Cy) (r : Rw) (w : Rw) (n : Nat) : Nat := firstR (fun i => !ciS K r w i) (fun i => i) n n 0
theorem wiS_wf {K : Cy} {r w : Rw} (hK : CyOk K) (hw : Wf (cT K) (cB K) 10000 w) : ∀ i, (∀ k, k < i → ciS K r w k = true) → Wf (cT K) (cB K) 10000 (wiS K r w i) := by
  intro i
  induction i with
  | zero => intro _; exact hw
  | succ i ih => intro h; exact spS_wf hK (ih fun k hk => h k (by omega)) (h i (by omega))
theorem Ag.dos {u w : Rw} {K : Cy} {N q : Nat} {x y : Int32} (hK : CyOk K) (hw : Wf (cT K) (cB K) N w) (h : Ag u w) (hq : q ≤ 3) (hc : whS K w q x y = -1) : Ag (doS K u q x y).2 (doS K w q x y).2 := by
  have h8 := hK.1
  have h6 := hK.2.1
  obtain ⟨n, n1, n2, -⟩ := hw.1
  have : q = 0 ∨ q = 1 ∨ q = 2 ∨ q = 3 := by omega
  unfold doS hdS
  rw [h.hold h8]
  rcases this with rfl | rfl | rfl | rfl
  · rw [if_pos rfl, if_pos rfl]; exact h.pk
  · simp only [show ¬ ((1 : Nat) = 0) by omega, if_false, if_true]; exact h.ba
  · simp only [show ¬ ((2 : Nat) = 0) by omega, show ¬ ((2 : Nat) = 1) by omega, if_false, if_true]; exact h.up _ rfl
  · rw [whS_3] at hc
    obtain ⟨b, t, b1, t1, rfl, c1, c2⟩ := st3_go hK hc
    simp only [show ¬ ((3 : Nat) = 0) by omega, show ¬ ((3 : Nat) = 1) by omega, show ¬ ((3 : Nat) = 2) by omega, if_false]
    exact (h.bu (by rw [mny_eq n1 n2]; exact n1) (by rw [nI_clamp (by omega)]; omega)).2
theorem Game_run_loop {σ σ1 : Mem} {A : Gh} {d : Nat} {x2 : Int32} (hA : gOk A) (hC : CRel σ A) (hc : hasC A) (hd : d < (gD A).1) (hr : RS σ1 435 (gK A) (gW A)) (cx : CX 435 σ σ1) : ∃ σ', loopF (f_Game_run_L52 (nI d) x2 435) FU (σ1, (0 : Int32), (0 : Int32)) = some (σ', nI (dnS (gK A) ((gD A).2.2 d) (gW A) ((gD A).2.1 d))) ∧ RS σ' 435 (gK A) (wiS (gK A) ((gD A).2.2 d) (gW A) (dnS (gK A) ((gD A).2.2 d) (gW A) ((gD A).2.1 d))) ∧ CX 435 σ σ' ∧ dnS (gK A) ((gD A).2.2 d) (gW A) ((gD A).2.1 d) ≤ (gD A).2.1 d ∧ ∀ k, k < dnS (gK A) ((gD A).2.2 d) (gW A) ((gD A).2.1 d) → ciS (gK A) ((gD A).2.2 d) (gW A) k = true := by
  have t8 := hA.T8
  have b6 := hA.B6
  have d4 := hA.2.2.1.1
  obtain ⟨dl1, dl2, dl3⟩ := hA.2.2.1.2 d hd
  obtain ⟨⟨σ', z⟩, g1, i, g2, g3, g4, g5, g6, g7⟩ := loopF_go (step := f_Game_run_L52 (nI d) x2 435) (a := (σ1, (0 : Int32), (0 : Int32))) (fun i s => s.2.1 = nI i ∧ s.2.2 = nI i ∧ CG (jA A) 435 (gK A) σ (wiS (gK A) ((gD A).2.2 d) (gW A) i) s.1 ∧ i ≤ (gD A).2.1 d ∧ ∀ k, k < i → ciS (gK A) ((gD A).2.2 d) (gW A) k = true) (fun r => ∃ i, r.2 = nI i ∧ i = dnS (gK A) ((gD A).2.2 d) (gW A) ((gD A).2.1 d) ∧ RS r.1 435 (gK A) (wiS (gK A) ((gD A).2.2 d) (gW A) i) ∧ CX 435 σ r.1 ∧ i ≤ (gD A).2.1 d ∧ ∀ k, k < i → ciS (gK A) ((gD A).2.2 d) (gW A) k = true) ((gD A).2.1 d) ⟨rfl, rfl, ⟨hr, cx, J_CX hA.J okO435 hC.j cx⟩, by omega, fun k hk => by omega⟩ (by omega) (by
    rintro i ⟨τ, z4, z5⟩ hin ⟨e4, e5, ⟨c1, c2, c3⟩, hi, hno⟩
    simp only at e4 e5 c1 c2 c3 hi hno
    subst e4; subst e5
    have hday := hC.2.2.1.2 d hd
    have f5 : mI τ (555 + 2 * d) = mI σ (555 + 2 * d) := c2.1 _ (by omega) (by omega)
    have f6 : mI τ (556 + 2 * d) = mI σ (556 + 2 * d) := c2.1 _ (by omega) (by omega)
    unfold f_Game_run_L52
    simp only [inb_nI (show d < 5 by omega) (show 5 < 2 ^ 31 by decide), if_true, nI_clamp (show d < 2 ^ 31 by omega), ra4, f5, hday.1]
    by_cases hlt : i < (gD A).2.1 d
    · obtain ⟨q, q1, q2⟩ := dl3 i hlt
      have wf := wiS_wf hc.2.2.1 hc.2.2.2.1.1 i hno
      obtain ⟨h, h1, h2⟩ := wf.2.2.2.2
      have x0 : mI τ (555 + 2 * d + 1) (3 * i) = nI q := by rw [show 555 + 2 * d + 1 = 556 + 2 * d by omega, f6, hday.2 _ (by omega), q2]
      have x1 : mI τ (555 + 2 * d + 1) (3 * i + 1) = (gD A).2.2 d (3 * i + 1) := by rw [show 555 + 2 * d + 1 = 556 + 2 * d by omega, f6, hday.2 _ (by omega)]
      have x2' : mI τ (555 + 2 * d + 1) (3 * i + 2) = (gD A).2.2 d (3 * i + 2) := by rw [show 555 + 2 * d + 1 = 556 + 2 * d by omega, f6, hday.2 _ (by omega)]
      have ecl : ((gD A).2.2 d (3 * i)).toNatClampNeg = q := by rw [q2, nI_clamp (by omega)]
      have hk1 := hC.k.fr okO435 c2
      obtain ⟨r, r1, r2⟩ := Trade_whyNotStep t8 b6 hc.1 hk1 c1 h2 (by omega) (show i < 16 by omega) q1 x0 x1 x2'
      simp only [show ¬ nI ((gD A).2.1 d) ≤ nI i from nI_ge hlt (by omega), if_false, r1, Option.bind_some, nI_1]
      by_cases e : cnS (gK A) (wiS (gK A) ((gD A).2.2 d) (gW A) i) q ((gD A).2.2 d (3 * i + 1)) ((gD A).2.2 d (3 * i + 2)) = true
      · rw [if_pos (r2.mpr e)]
        obtain ⟨τ', p1, p2, -⟩ := Trade_makeStep hA.J hc.2.2.1 hk1 okO435 c3 c1 wf (show i < 16 by omega) q1 x0 x1 x2' e
        rw [p1, Option.bind_some]
        refine exL ⟨hlt, rfl, rfl, ⟨?_, c2.trans p2.2.1, p2.2.2⟩, by omega, fun k hk => ?_⟩
        · show RS τ' 435 (gK A) (spS (gK A) _ ((gD A).2.2 d (3 * i)).toNatClampNeg _ _)
          rw [ecl]; exact p2.1
        · by_cases ek : k = i
          · subst ek; unfold ciS; rw [ecl]; exact e
          · exact hno k (by omega)
      · rw [if_neg (fun p => e (r2.mp p))]
        refine exR ⟨i, rfl, ?_, c1, c2, by omega, hno⟩
        refine (firstR_at (r := fun i => i) (r0 := (gD A).2.1 d) _ 0 i (by omega) (by omega) (fun k _ hk => by rw [hno k hk]; rfl) ?_).symm
        unfold ciS
        rw [ecl, Bool.eq_false_iff.mpr e]; rfl
    · have : i = (gD A).2.1 d := by omega
      simp only [show nI ((gD A).2.1 d) ≤ nI i from nI_le (by omega) (by omega), if_true]
      refine exR ⟨i, rfl, ?_, c1, c2, by omega, hno⟩
      rw [this]
      exact (firstR_no (r := fun i => i) (r0 := (gD A).2.1 d) _ 0 (fun k _ hk => by rw [hno k (by omega)]; rfl)).symm)
  simp only at g2 g4 g5
  subst g3
  rw [g1, g2]
  exact ⟨σ', rfl, g4, g5, g6, g7⟩
theorem Model_run_loop {σ σ1 : Mem} {A : Gh} {d : Nat} {x2 : Int32} (hA : gOk A) (hM : MRel σ A) (hc : hasC A) (hd : d < (gD A).1) (ht : TR A σ (gW A) σ1) : ∃ σ', loopF (f_Model_run_L50 (nI d) x2) FU (σ1, (0 : Int32)) = some (σ', nI (dnS (gK A) ((gD A).2.2 d) (gW A) ((gD A).2.1 d))) ∧ TR A σ (wiS (gK A) ((gD A).2.2 d) (gW A) (dnS (gK A) ((gD A).2.2 d) (gW A) ((gD A).2.1 d))) σ' := by
  have t8 := hA.T8
  have b6 := hA.B6
  have d4 := hA.2.2.1.1
  obtain ⟨dl1, dl2, dl3⟩ := hA.2.2.1.2 d hd
  obtain ⟨⟨σ', z⟩, g1, i, g2, g3, g4⟩ := loopF_go (step := f_Model_run_L50 (nI d) x2) (a := (σ1, (0 : Int32))) (fun i s => s.2 = nI i ∧ TR A σ (wiS (gK A) ((gD A).2.2 d) (gW A) i) s.1 ∧ i ≤ (gD A).2.1 d ∧ ∀ k, k < i → ciS (gK A) ((gD A).2.2 d) (gW A) k = true) (fun r => ∃ i, r.2 = nI i ∧ i = dnS (gK A) ((gD A).2.2 d) (gW A) ((gD A).2.1 d) ∧ TR A σ (wiS (gK A) ((gD A).2.2 d) (gW A) i) r.1) ((gD A).2.1 d) ⟨rfl, ht, by omega, fun k hk => by omega⟩ (by omega) (by
    rintro i ⟨τ, z3⟩ hin ⟨e3, t1, hi, hno⟩
    simp only at e3 t1 hi hno
    subst e3
    have hday := hM.2.2.1.2 d hd
    have f6 : mI τ 576 = mI σ 576 := t1.2.1.1 _ (by omega) (by omega) (by omega) (by omega) (by omega)
    have f7 : mI τ 577 = mI σ 577 := t1.2.1.1 _ (by omega) (by omega) (by omega) (by omega) (by omega)
    unfold f_Model_run_L50
    simp only [inb_nI (show d < 5 by omega) (show 5 < 2 ^ 31 by decide), if_true, nI_clamp (show d < 2 ^ 31 by omega), f7, hday.1]
    by_cases hlt : i < (gD A).2.1 d
    · obtain ⟨q, q1, q2⟩ := dl3 i hlt
      have wf := wiS_wf hc.2.2.1 hc.2.2.2.1.1 i hno
      obtain ⟨h, h1, h2⟩ := wf.2.2.2.2
      have er : (3 : Int32) * ((16 : Int32) * nI d + nI i) = nI (48 * d + 3 * i) := by
        rw [show (16 : Int32) = nI 16 from rfl, pk_mul, nI_add, nI_3mul]; exact congrArg nI (by omega)
      have x0 : mI τ 576 (48 * d + 3 * i) = nI q := by rw [f6, hday.2 _ (by omega), q2]
      have x1 : mI τ 576 (48 * d + 3 * i + 1) = (gD A).2.2 d (3 * i + 1) := by rw [f6, Nat.add_assoc, hday.2 _ (by omega)]
      have x2' : mI τ 576 (48 * d + 3 * i + 2) = (gD A).2.2 d (3 * i + 2) := by rw [f6, Nat.add_assoc, hday.2 _ (by omega)]
      have ecl : ((gD A).2.2 d (3 * i)).toNatClampNeg = q := by rw [q2, nI_clamp (by omega)]
      have hk1 := hM.k.fr (Or.inr rfl) t1.2.1
      have wf1 : Wf (cT (gK A)) (cB (gK A)) 10000 (mI τ 579) := wf.congr t8 b6 t1.1
      have agw : ∀ q x y, whS (gK A) (mI τ 579) q x y = whS (gK A) (wiS (gK A) ((gD A).2.2 d) (gW A) i) q x y := fun q x y => by
        have ho : ∀ b, holdS (mI τ 579) (cT (gK A)) b = holdS (wiS (gK A) ((gD A).2.2 d) (gW A) i) (cT (gK A)) b := fun b => t1.1.hold t8
        unfold whS st0 st1 st2 st3 hdS
        simp only [ho]
        rcases isS_ty (cB (gK A)) x (by omega) with p | ⟨p, b, b1, rfl⟩
        · simp only [p, if_true]
        · rw [nI_clamp (by omega), t1.1 (24 + b) (by omega)]
          rcases isS_ty (cT (gK A)) y (by omega) with p2 | ⟨p2, t, t1', rfl⟩
          · simp only [p2, if_true]
          · rw [nI_clamp (by omega), t1.1 t (by omega)]
      have agc : cnS (gK A) (mI τ 579) q ((gD A).2.2 d (3 * i + 1)) ((gD A).2.2 d (3 * i + 2)) = cnS (gK A) (wiS (gK A) ((gD A).2.2 d) (gW A) i) q ((gD A).2.2 d (3 * i + 1)) ((gD A).2.2 d (3 * i + 2)) := by
        unfold cnS
        rw [t1.1 130 (by omega), agw]
      have cs := Model_canStep (a := 579) (r := 48 * d + 3 * i) (Or.inr rfl) t8 b6 hk1 ((t1.1 130 (by omega)).trans h2) (by omega) (by omega) q1 x0 x1 x2'
      rw [agc] at cs
      have a2 : nI (48 * d + 3 * i) + (2 : Int32) = nI (48 * d + 3 * i + 2) := nI_addc _ 2
      simp only [show ¬ nI ((gD A).2.1 d) ≤ nI i from nI_ge hlt (by omega), if_false, er, cs, Option.bind_some, nI_1, a2, inb_nI (show 48 * d + 3 * i < 240 by omega) (show 240 < 2 ^ 31 by decide), inb_nI (show 48 * d + 3 * i + 1 < 240 by omega) (show 240 < 2 ^ 31 by decide), inb_nI (show 48 * d + 3 * i + 2 < 240 by omega) (show 240 < 2 ^ 31 by decide), if_true, nI_clamp (show 48 * d + 3 * i < 2 ^ 31 by omega), nI_clamp (show 48 * d + 3 * i + 1 < 2 ^ 31 by omega), nI_clamp (show 48 * d + 3 * i + 2 < 2 ^ 31 by omega), x0, x1, x2']
      by_cases e : cnS (gK A) (wiS (gK A) ((gD A).2.2 d) (gW A) i) q ((gD A).2.2 d (3 * i + 1)) ((gD A).2.2 d (3 * i + 2)) = true
      · rw [if_pos e, if_neg (by decide)]
        have hno' : ∀ k, k < i + 1 → ciS (gK A) ((gD A).2.2 d) (gW A) k = true := fun k hk => by
          by_cases ek : k = i
          · subst ek; unfold ciS; rw [ecl]; exact e
          · exact hno k (by omega)
        have es : wiS (gK A) ((gD A).2.2 d) (gW A) (i + 1) = spS (gK A) (wiS (gK A) ((gD A).2.2 d) (gW A) i) q ((gD A).2.2 d (3 * i + 1)) ((gD A).2.2 d (3 * i + 2)) := by
          show spS (gK A) _ ((gD A).2.2 d (3 * i)).toNatClampNeg _ _ = _
          rw [ecl]
        by_cases q4 : q = 4
        · subst q4
          obtain ⟨τ', p1, p2, -⟩ := TR_hour rfl hA hc.2.2.1 hk1 t1 wf (by omega)
          rw [if_pos (show nI 4 = (4 : Int32) from rfl), p1, Option.bind_some]
          refine exL ⟨hlt, rfl, ?_, by omega, hno'⟩
          rw [es]
          unfold spS
          rw [if_pos rfl]
          exact p2
        · have e2 := e
          unfold cnS at e2
          rw [if_neg q4] at e2
          have e3 := of_decide_eq_true e2
          obtain ⟨τ', p1, p2⟩ := Model_does (d := q) (N := 10000) hA.I hc.2.2.1 hk1 (Or.inr rfl) t1.2.2 wf1 (by omega) (by omega) ((agw q _ _).trans e3)
          rw [if_neg (show ¬ nI q = (4 : Int32) from nI_ne (b := 4) (by omega) (by omega) q4), p1, Option.bind_some]
          refine exL ⟨hlt, rfl, ⟨?_, t1.2.1.trans p2.2.1, p2.2.2⟩, by omega, hno'⟩
          rw [p2.1, es]
          unfold spS
          rw [if_neg q4]
          exact t1.1.dos hc.2.2.1 wf (by omega) e3
      · rw [if_neg e, if_pos rfl]
        refine exR ⟨i, rfl, ?_, t1⟩
        refine (firstR_at (r := fun i => i) (r0 := (gD A).2.1 d) _ 0 i (by omega) (by omega) (fun k _ hk => by rw [hno k hk]; rfl) ?_).symm
        unfold ciS
        rw [ecl, Bool.eq_false_iff.mpr e]; rfl
    · have : i = (gD A).2.1 d := by omega
      simp only [show nI ((gD A).2.1 d) ≤ nI i from nI_le (by omega) (by omega), if_true]
      refine exR ⟨i, rfl, ?_, t1⟩
      rw [this]
      exact (firstR_no (r := fun i => i) (r0 := (gD A).2.1 d) _ 0 (fun k _ hk => by rw [hno k (by omega)]; rfl)).symm)
  simp only at g2 g4
  subst g3
  rw [g1, g2]
  exact ⟨σ', rfl, g4⟩
