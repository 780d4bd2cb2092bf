/-! perform -/
def pwS (K : Cy) (w : Rw) (q : Nat) (x y : Int32) : Rw := if q = 4 then lgS (paH K w) (hbS (paH K w) (cT K) (cB K)) else (doS K w q x y).2
def spA (B : Gh) (q : Nat) (x y : Int32) : Gh := sW (sH B (hpush (gH B) (gW B))) (pwS (gK B) (gW B) q x y)
theorem pwS_ok {K : Cy} {w : Rw} {q : Nat} {x y : Int32} (hK : CyOk K) (hw : rwOk K w) (hc : cnS K w q x y = true) : rwOk K (pwS K w q x y) := by
  unfold pwS
  by_cases q4 : q = 4
  · subst q4
    obtain ⟨h, h1, h2⟩ := hw.1.2.2.2.2
    rw [cnS4 h2 h1 (by omega)] at hc
    obtain ⟨w1, -⟩ := paH_wf2 hK rfl rfl hw.1 h2 (show h + 1 < 10000 by have := of_decide_eq_true hc; omega)
    obtain ⟨n, n1, n2⟩ := hw.2.1
    rw [if_pos rfl]
    exact rwOk_lg hK.1 hK.2.1 ⟨w1, ⟨n, n1, (paH_hi hK rfl rfl hw.1 (by omega)).trans n2⟩, paH_tr hK hw.1 hw.2.2⟩
  · unfold cnS at hc
    rw [if_neg q4] at hc ⊢
    exact rwOk_do hK hw (of_decide_eq_true hc)
theorem spA_ok {B : Gh} {q : Nat} {x y : Int32} (hB : gOk B) (hc : hasC B) (hcn : cnS (gK B) (gW B) q x y = true) : gOk (spA B q x y) ∧ hasC (spA B q x y) := by
  obtain ⟨k1, k2⟩ := gOk_keep hB hc
  have ok := pwS_ok hc.2.2.1 hc.2.2.2.1 hcn
  exact ⟨gOk_W k1 k2 ok, hasC_W k2 ok⟩
theorem perf_class {τ : Mem} {B : Gh} {d j q : Nat} (hB : gOk B) (hc : hasC B) (hC : CRel τ B) (hd : d < (gD B).1) (hj : j < (gD B).2.1 d) (hq : q ≤ 4) (hq2 : (gD B).2.2 d (3 * j) = nI q) : ∃ r, f_Trade_whyNotStep τ 6 (555 + 2 * d) (nI j) = some r ∧ (r = -1 ↔ cnS (gK B) (gW B) q ((gD B).2.2 d (3 * j + 1)) ((gD B).2.2 d (3 * j + 2)) = true) ∧ (cnS (gK B) (gW B) q ((gD B).2.2 d (3 * j + 1)) ((gD B).2.2 d (3 * j + 2)) = true → ∃ τ', ((f_History_keep τ 6).bind fun q9 => f_Trade_makeStep q9 6 (555 + 2 * d) (nI j)) = some τ' ∧ CRel τ' (spA B q ((gD B).2.2 d (3 * j + 1)) ((gD B).2.2 d (3 * j + 2))) ∧ EqHi τ τ') := by
  have t8 := hB.T8
  have b6 := hB.B6
  have hlen := (hB.2.2.1.2 d hd).2.1
  have rows : ∀ τ A', CRel τ A' → gD A' = gD B → mI τ (555 + 2 * d + 1) (3 * j) = nI q ∧ mI τ (555 + 2 * d + 1) (3 * j + 1) = (gD B).2.2 d (3 * j + 1) ∧ mI τ (555 + 2 * d + 1) (3 * j + 2) = (gD B).2.2 d (3 * j + 2) := fun τ A' h e => by
    have hday := h.2.2.1
    rw [e] at hday
    have hday := hday.2 d hd
    rw [show 555 + 2 * d + 1 = 556 + 2 * d by omega]
    exact ⟨(hday.2 _ (by omega)).trans hq2, hday.2 _ (by omega), hday.2 _ (by omega)⟩
  obtain ⟨x0, x1, x2⟩ := rows τ B hC rfl
  obtain ⟨h, h1, h2⟩ := hc.2.2.2.1.1.2.2.2.2
  obtain ⟨r, r1, r2⟩ := Trade_whyNotStep t8 b6 hc.1 hC.k (hC.n hc).1 h2 (by omega) (show j < 16 by omega) hq x0 x1 x2
  refine ⟨r, r1, r2, fun hcn => ?_⟩
  obtain ⟨k1, k2⟩ := gOk_keep hB hc
  obtain ⟨σ1, g1, g2, g3⟩ := History_keep hB hC hc
  obtain ⟨y0, y1, y2⟩ := rows σ1 _ g2 rfl
  obtain ⟨hr1, hg1⟩ := g2.n k2
  obtain ⟨σ2, p1, p2, p3, p4⟩ := Trade_makeStep (J := jA (sH B (hpush (gH B) (gW B)))) k1.J hc.2.2.1 g2.k ok6 g2.j hr1 hc.2.2.2.1.1 (show j < 16 by omega) hq y0 y1 y2 hcn
  rw [g1, Option.bind_some]
  refine ⟨σ2, p1, ?_⟩
  by_cases q4 : q = 4
  · subst q4
    obtain ⟨w1, -⟩ := paH_wf2 hc.2.2.1 rfl rfl hc.2.2.2.1.1 h2 (show h + 1 < 10000 by rw [cnS4 h2 h1 (by omega)] at hcn; have := of_decide_eq_true hcn; omega)
    obtain ⟨n, n1, n2⟩ := hc.2.2.2.1.2.1
    have n3 : paH (gK B) (gW B) 131 = nI n := (paH_hi hc.2.2.1 rfl rfl hc.2.2.2.1.1 (by omega)).trans n2
    have hg' : RG σ2 6 (lgS (paH (gK B) (gW B)) (hbS (paH (gK B) (gW B)) (cT (gK B)) 6)) := p4 rfl hg1
    rw [hbS_6 b6 w1] at hg'
    have hr2 : RS σ2 6 (gK B) (paH (gK B) (gW B)) := by
      have := p2.1
      unfold spS at this
      rw [if_pos rfl] at this
      exact this
    obtain ⟨m, m1, m2, -⟩ := w1.1
    obtain ⟨g7, g8⟩ := g2.setw (w := lgS (paH (gK B) (gW B)) (hbS (paH (gK B) (gW B)) (cT (gK B)) (cB (gK B)))) k2 (RS.congr (K := gK B) t8 b6 hr2 ⟨m, m1, m2⟩ fun i hi => lgS_lo n1 n3 hi) hg' p2.2.1 k1.2.1.1 k1.2.2.1.1
    refine ⟨?_, g3.trans g8⟩
    unfold spA pwS
    rw [if_pos rfl]
    exact g7
  · have hcr := p3 q4
    have hcn' := hcn
    unfold cnS at hcn'
    rw [if_neg q4] at hcn'
    have hw := of_decide_eq_true hcn'
    unfold spS at hcr
    rw [if_neg q4] at hcr
    obtain ⟨g6, g7⟩ := g2.cr k1 k2 hcr fun i hi => (doS_wf hc.2.2.1 hc.2.2.2.1.1 hw).2 i (by omega)
    refine ⟨?_, g3.trans g7⟩
    unfold spA pwS
    rw [if_neg q4]
    exact g6
theorem perf_model {τ : Mem} {B : Gh} {d j q : Nat} (hB : gOk B) (hc : hasC B) (hM : MRel τ B) (hd : d < (gD B).1) (hj : j < (gD B).2.1 d) (hq : q ≤ 4) (hq2 : (gD B).2.2 d (3 * j) = nI q) : f_Model_canStep τ 578 (nI (48 * d + 3 * j)) = some (if cnS (gK B) (gW B) q ((gD B).2.2 d (3 * j + 1)) ((gD B).2.2 d (3 * j + 2)) = true then 1 else 0) ∧ (cnS (gK B) (gW B) q ((gD B).2.2 d (3 * j + 1)) ((gD B).2.2 d (3 * j + 2)) = true → ∃ τ1 τ2, f_Model_remember τ = some τ1 ∧ mI τ1 576 (48 * d + 3 * j) = nI q ∧ mI τ1 576 (48 * d + 3 * j + 1) = (gD B).2.2 d (3 * j + 1) ∧ mI τ1 576 (48 * d + 3 * j + 2) = (gD B).2.2 d (3 * j + 2) ∧ (q = 4 → ∃ v, f_Model_goNow τ1 = some (v, τ2)) ∧ (q ≠ 4 → ∃ v, f_Model_does τ1 578 (nI q) ((gD B).2.2 d (3 * j + 1)) ((gD B).2.2 d (3 * j + 2)) = some (v, τ2)) ∧ MRel τ2 (spA B q ((gD B).2.2 d (3 * j + 1)) ((gD B).2.2 d (3 * j + 2))) ∧ EqLo τ τ2) := by
  have t8 := hB.T8
  have b6 := hB.B6
  have hd4 := hB.2.2.1.1
  have hlen := (hB.2.2.1.2 d hd).2.1
  have rows : ∀ τ A', MRel τ A' → gD A' = gD B → mI τ 576 (48 * d + 3 * j) = nI q ∧ mI τ 576 (48 * d + 3 * j + 1) = (gD B).2.2 d (3 * j + 1) ∧ mI τ 576 (48 * d + 3 * j + 2) = (gD B).2.2 d (3 * j + 2) := fun τ A' h e => by
    have hday := h.2.2.1
    rw [e] at hday
    have hday := hday.2 d hd
    exact ⟨(hday.2 _ (by omega)).trans hq2, by rw [Nat.add_assoc]; exact hday.2 _ (by omega), by rw [Nat.add_assoc]; exact hday.2 _ (by omega)⟩
  obtain ⟨x0, x1, x2⟩ := rows τ B hM rfl
  obtain ⟨h, h1, h2⟩ := hc.2.2.2.1.1.2.2.2.2
  have cs := Model_canStep (a := 578) (r := 48 * d + 3 * j) (Or.inl rfl) t8 b6 hM.k (by rw [hM.w]; exact h2) (by omega) (by omega) hq x0 x1 x2
  rw [hM.w] at cs
  refine ⟨cs, fun hcn => ?_⟩
  obtain ⟨k1, k2⟩ := gOk_keep hB hc
  obtain ⟨σ1, g1, g2, g3⟩ := Model_remember hB hM
  obtain ⟨y0, y1, y2⟩ := rows σ1 _ g2 rfl
  by_cases q4 : q = 4
  · subst q4
    obtain ⟨n, n1, n2⟩ := hc.2.2.2.1.2.1
    obtain ⟨σ2, g4, g5⟩ := Model_goNow (n := n) (N := 10000) k1.I hc.2.2.1 g2.k g2.i (by rw [g2.w]; exact hc.2.2.2.1.1) (by omega) n1 (by rw [g2.w]; exact n2)
    rw [g2.w] at g5
    obtain ⟨g6, g7⟩ := g2.mr g5
    refine ⟨σ1, σ2, g1, y0, y1, y2, fun _ => ⟨_, g4⟩, fun e => absurd rfl e, ?_, g3.trans g7⟩
    unfold spA pwS
    rw [if_pos rfl]
    exact g6
  · have hcn' := hcn
    unfold cnS at hcn'
    rw [if_neg q4] at hcn'
    have hw := of_decide_eq_true hcn'
    obtain ⟨σ2, g4, g5⟩ := Model_does (d := q) (x := (gD B).2.2 d (3 * j + 1)) (y := (gD B).2.2 d (3 * j + 2)) (N := 10000) k1.I hc.2.2.1 g2.k (Or.inl rfl) g2.i (by rw [g2.w]; exact hc.2.2.2.1.1) (by omega) (by omega) (by rw [g2.w]; exact hw)
    rw [g2.w] at g5
    obtain ⟨g6, g7⟩ := g2.mr g5
    refine ⟨σ1, σ2, g1, y0, y1, y2, fun e => absurd e q4, fun _ => ⟨_, g4⟩, ?_, g3.trans g7⟩
    unfold spA pwS
    rw [if_neg q4]
    exact g6
/-- behind i steps done -/
def pfA (A : Gh) (d : Nat) : Nat → Gh
  | 0 => A
  | i + 1 => spA (pfA A d i) ((gD A).2.2 d (3 * i)).toNatClampNeg ((gD A).2.2 d (3 * i + 1)) ((gD A).2.2 d (3 * i + 2))
def cpA (A : Gh) (d i : Nat) : Bool := cnS (gK (pfA A d i)) (gW (pfA A d i)) ((gD A).2.2 d (3 * i)).toNatClampNeg ((gD A).2.2 d (3 * i + 1)) ((gD A).2.2 d (3 * i + 2))
theorem pfA_D (A : Gh) (d : Nat) : ∀ i, gD (pfA A d i) = gD A := by
  intro i
  induction i with
  | zero => rfl
  | succ i ih => exact ih
theorem pfA_ok {A : Gh} {d : Nat} (hA : gOk A) (hc : hasC A) : ∀ i, (∀ k, k < i → cpA A d k = true) → gOk (pfA A d i) ∧ hasC (pfA A d i) := by
  intro i
  induction i with
  | zero => intro _; exact ⟨hA, hc⟩
  | succ i ih =>
    intro h
    obtain ⟨a, b⟩ := ih fun k hk => h k (by omega)
    exact spA_ok a b (h i (by omega))
def dpA (A : Gh) (d n : Nat) : Nat := firstR (fun i => !cpA A d i) (fun i => i) n n 0
theorem sim_perform (x : Int32) : Sim (fun σ => f_Game_perform σ x) (fun σ => f_Model_perform σ x) := fun A hA => by
  have t8 := hA.T8
  have d4 := hA.2.2.1.1
  have no : (∀ σ, CRel σ A → f_Game_perform σ x = some (-1, σ)) → (∀ σ, MRel σ A → f_Model_perform σ x = some (-1, sI σ 565 0 0)) → ∃ r A', gOk A' ∧ (∀ σ, CRel σ A → ∃ σ', (fun σ => f_Game_perform σ x) σ = some (r, σ') ∧ CRel σ' A' ∧ EqHi σ σ') ∧ (∀ σ, MRel σ A → ∃ σ', (fun σ => f_Model_perform σ x) σ = some (r, σ') ∧ MRel σ' A' ∧ EqLo σ σ') := fun h1 h2 =>
    ⟨-1, A, hA, fun σ hC => ⟨σ, h1 σ hC, hC, EqHi.refl _⟩, fun σ hM => ⟨_, h2 σ hM, hM.z hA, EqLo.trans0 hM (EqLo.refl _)⟩⟩
  rcases hA.cs with p | hc
  · refine no (fun σ hC => ?_) (fun σ hM => ?_)
    · unfold f_Game_perform; rw [Trade_hasCity hC.k t8, if_pos p.1]; rfl
    · unfold f_Model_perform
      rw [Model_isPlan (hM.z (v := 0) hA).2.2.1.1, Option.bind_some, (hM.z (v := 0) hA).k.2.1, p.2.1, if_pos (show nI 0 = (0 : Int32) from rfl)]
      split <;> rfl
  · have hT1 := hc.1
    have hB1 := hc.2.1
    have b6 := hA.B6
    have cq : ∀ σ, CRel σ A → f_Game_perform σ x = if x < 0 then some (-1, σ) else if x < nI (gD A).1 then loopF (f_Game_perform_L28 x) FU (σ, 0, 0) else some (-1, σ) := fun σ hC => by
      unfold f_Game_perform
      rw [Trade_hasCity hC.k t8, if_neg (by omega), Option.bind_some, if_neg (by decide), hC.2.2.1.1]
    have mq : ∀ σ, MRel σ A → f_Model_perform σ x = if isS (gD A).1 x = 0 then some (-1, sI σ 565 0 0) else loopF (f_Model_perform_L26 x) FU (sI σ 565 0 0, 0) := fun σ hM => by
      unfold f_Model_perform
      rw [Model_isPlan (hM.z (v := 0) hA).2.2.1.1, Option.bind_some, (hM.z (v := 0) hA).k.2.1, if_neg (nI_ne0 (by omega) (by omega))]
    rcases isS_ty (gD A).1 x (by omega) with q | ⟨q, d, d1, rfl⟩
    · refine no (fun σ hC => ?_) (fun σ hM => by rw [mq σ hM, if_pos q])
      rw [cq σ hC]
      rcases isS_0 q with p | ⟨p, p2⟩
      · rw [if_pos p]
      · rw [if_neg p, if_neg (Int32.not_lt.mpr p2)]
    · obtain ⟨dl1, dl2, dl3⟩ := hA.2.2.1.2 d d1
      have hdn : dpA A d ((gD A).2.1 d) ≤ (gD A).2.1 d ∧ ∀ k, k < dpA A d ((gD A).2.1 d) → cpA A d k = true := by
        unfold dpA
        rcases firstR_cases (fun i => !cpA A d i) (fun i => i) ((gD A).2.1 d) ((gD A).2.1 d) 0 with ⟨j, j1, j2, -, j4, j5⟩ | ⟨j1, j2⟩
        · rw [j5]
          refine ⟨by omega, fun k hk => ?_⟩
          have := j4 k (by omega) hk
          cases h : cpA A d k with
          | true => rfl
          | false => rw [h] at this; cases this
        · rw [j2]
          refine ⟨Nat.le_refl _, fun k hk => ?_⟩
          have := j1 k (by omega) (by omega)
          cases h : cpA A d k with
          | true => rfl
          | false => rw [h] at this; cases this
      refine ⟨nI (dpA A d ((gD A).2.1 d)), pfA A d (dpA A d ((gD A).2.1 d)), (pfA_ok hA hc _ hdn.2).1, fun σ hC => ?_, fun σ hM => ?_⟩
      · obtain ⟨⟨z, σ'⟩, g1, g2, g3, g4⟩ := loopF_go (step := f_Game_perform_L28 (nI d)) (a := (σ, (0 : Int32), (0 : Int32))) (fun i s => s.2.1 = nI i ∧ s.2.2 = nI i ∧ CRel s.1 (pfA A d i) ∧ EqHi σ s.1 ∧ i ≤ (gD A).2.1 d ∧ ∀ k, k < i → cpA A d k = true) (fun r => r.1 = nI (dpA A d ((gD A).2.1 d)) ∧ CRel r.2 (pfA A d (dpA A d ((gD A).2.1 d))) ∧ EqHi σ r.2) ((gD A).2.1 d) ⟨rfl, rfl, hC, EqHi.refl _, by omega, fun k hk => by omega⟩ (by omega) (by
          rintro i ⟨τ, z2, z3⟩ hin ⟨e2, e3, hC1, heq, hi, hno⟩
          simp only at e2 e3 hC1 heq hi hno
          subst e2; subst e3
          obtain ⟨ok1, ok2⟩ := pfA_ok hA hc i hno
          have hD := pfA_D A d i
          have hday : mI τ (555 + 2 * d) 1 = nI ((gD A).2.1 d) := by
            have := hC1.2.2.1
            rw [hD] at this
            exact (this.2 d d1).1
          unfold f_Game_perform_L28
          simp only [inb_nI (show d < 5 by omega) (show 5 < 2 ^ 31 by decide), if_true, nI_clamp (show d < 2 ^ 31 by omega), ra4, hday]
          by_cases hlt : i < (gD A).2.1 d
          · obtain ⟨q, q1, q2⟩ := dl3 i hlt
            have ecl : ((gD A).2.2 d (3 * i)).toNatClampNeg = q := by rw [q2, nI_clamp (by omega)]
            obtain ⟨r, r1, r2, r3⟩ := perf_class (d := d) (j := i) (q := q) ok1 ok2 hC1 (by rw [hD]; exact d1) (by rw [hD]; exact hlt) q1 (by rw [hD]; exact q2)
            rw [hD] at r2 r3
            simp only [show ¬ nI ((gD A).2.1 d) ≤ nI i from nI_ge hlt (by omega), if_false, r1, Option.bind_some, nI_1]
            by_cases e : cnS (gK (pfA A d i)) (gW (pfA A d i)) q ((gD A).2.2 d (3 * i + 1)) ((gD A).2.2 d (3 * i + 2)) = true
            · obtain ⟨τ', p1, p2, p3⟩ := r3 e
              have bb : ∀ (x : Option Mem) (f : Mem → Option Mem) (g : Mem → Option ((Mem × Int32 × Int32) ⊕ (Int32 × Mem))), (x.bind fun q8 => (f q8).bind g) = (x.bind f).bind g := fun x f g => by cases x <;> rfl
              rw [if_pos (r2.mpr e), bb, p1, Option.bind_some]
              refine exL ⟨hlt, rfl, rfl, ?_, heq.trans p3, by omega, fun k hk => ?_⟩
              · show CRel τ' (spA (pfA A d i) ((gD A).2.2 d (3 * i)).toNatClampNeg _ _)
                rw [ecl]; exact p2
              · by_cases ek : k = i
                · subst ek; unfold cpA; rw [ecl]; exact e
                · exact hno k (by omega)
            · rw [if_neg (fun p => e (r2.mp p))]
              have hdd : dpA A d ((gD A).2.1 d) = i := firstR_at (r := fun i => i) (r0 := (gD A).2.1 d) _ 0 i (by omega) (by omega) (fun k _ hk => by rw [hno k hk]; rfl) (by unfold cpA; rw [ecl, Bool.eq_false_iff.mpr e]; rfl)
              rw [hdd]
              exact exR ⟨rfl, hC1, heq⟩
          · have : i = (gD A).2.1 d := by omega
            have hdd : dpA A d ((gD A).2.1 d) = i := by
              rw [this]
              exact firstR_no (r := fun i => i) (r0 := (gD A).2.1 d) _ 0 (fun k _ hk => by rw [hno k (by omega)]; rfl)
            simp only [show nI ((gD A).2.1 d) ≤ nI i from nI_le (by omega) (by omega), if_true]
            rw [hdd]
            exact exR ⟨rfl, hC1, heq⟩)
        simp only at g2 g3 g4
        refine ⟨σ', ?_, g3, g4⟩
        show f_Game_perform σ (nI d) = _
        rw [cq σ hC, if_neg (nI_pos (by omega)), if_pos (nI_lt d1 (by omega)), ← g2]
        exact g1
      · have hz := hM.z (v := 0) hA
        obtain ⟨⟨z, σ'⟩, g1, g2, g3, g4⟩ := loopF_go (step := f_Model_perform_L26 (nI d)) (a := (sI σ 565 0 0, (0 : Int32))) (fun i s => s.2 = nI i ∧ MRel s.1 (pfA A d i) ∧ EqLo σ s.1 ∧ i ≤ (gD A).2.1 d ∧ ∀ k, k < i → cpA A d k = true) (fun r => r.1 = nI (dpA A d ((gD A).2.1 d)) ∧ MRel r.2 (pfA A d (dpA A d ((gD A).2.1 d))) ∧ EqLo σ r.2) ((gD A).2.1 d) ⟨rfl, hz, EqLo.trans0 hM (EqLo.refl _), by omega, fun k hk => by omega⟩ (by omega) (by
          rintro i ⟨τ, z2⟩ hin ⟨e2, hM1, heq, hi, hno⟩
          simp only at e2 hM1 heq hi hno
          subst e2
          obtain ⟨ok1, ok2⟩ := pfA_ok hA hc i hno
          have hD := pfA_D A d i
          have hday : mI τ 577 d = nI ((gD A).2.1 d) := by
            have := hM1.2.2.1
            rw [hD] at this
            exact (this.2 d d1).1
          unfold f_Model_perform_L26
          simp only [inb_nI (show d < 5 by omega) (show 5 < 2 ^ 31 by decide), if_true, nI_clamp (show d < 2 ^ 31 by omega), hday]
          by_cases hlt : i < (gD A).2.1 d
          · obtain ⟨q, q1, q2⟩ := dl3 i hlt
            have ecl : ((gD A).2.2 d (3 * i)).toNatClampNeg = q := by rw [q2, nI_clamp (by omega)]
            obtain ⟨r2, r3⟩ := perf_model (d := d) (j := i) (q := q) ok1 ok2 hM1 (by rw [hD]; exact d1) (by rw [hD]; exact hlt) q1 (by rw [hD]; exact q2)
            rw [hD] at r2 r3
            have er : (3 : Int32) * ((16 : Int32) * nI d + nI i) = nI (48 * d + 3 * i) := by
              rw [show (16 : Int32) = nI 16 from rfl, pk_mul, nI_add, nI_3mul]; exact congrArg nI (by omega)
            have a2 : nI (48 * d + 3 * i) + (2 : Int32) = nI (48 * d + 3 * i + 2) := nI_addc _ 2
            simp only [show ¬ nI ((gD A).2.1 d) ≤ nI i from nI_ge hlt (by omega), if_false, er, r2, Option.bind_some, nI_1, a2, inb_nI (show 48 * d + 3 * i < 240 by omega) (show 240 < 2 ^ 31 by decide), inb_nI (show 48 * d + 3 * i + 1 < 240 by omega) (show 240 < 2 ^ 31 by decide), inb_nI (show 48 * d + 3 * i + 2 < 240 by omega) (show 240 < 2 ^ 31 by decide), if_true, nI_clamp (show 48 * d + 3 * i < 2 ^ 31 by omega), nI_clamp (show 48 * d + 3 * i + 1 < 2 ^ 31 by omega), nI_clamp (show 48 * d + 3 * i + 2 < 2 ^ 31 by omega)]
            by_cases e : cnS (gK (pfA A d i)) (gW (pfA A d i)) q ((gD A).2.2 d (3 * i + 1)) ((gD A).2.2 d (3 * i + 2)) = true
            · obtain ⟨τ1, τ2, p1, y0, y1, y2, p4, p5, p6, p7⟩ := r3 e
              have hno' : ∀ k, k < i + 1 → cpA A d k = true := fun k hk => by
                by_cases ek : k = i
                · subst ek; unfold cpA; rw [ecl]; exact e
                · exact hno k (by omega)
              have es : MRel τ2 (pfA A d (i + 1)) := by
                show MRel τ2 (spA (pfA A d i) ((gD A).2.2 d (3 * i)).toNatClampNeg _ _)
                rw [ecl]; exact p6
              rw [if_pos e, if_neg (by decide), p1, Option.bind_some, y0, y1, y2]
              by_cases q4 : q = 4
              · obtain ⟨v, p8⟩ := p4 q4
                rw [if_pos (show nI q = (4 : Int32) by rw [q4]; rfl), p8, Option.bind_some]
                exact exL ⟨hlt, rfl, es, heq.trans p7, by omega, hno'⟩
              · obtain ⟨v, p8⟩ := p5 q4
                rw [if_neg (show ¬ nI q = (4 : Int32) from nI_ne (b := 4) (by omega) (by omega) q4), p8, Option.bind_some]
                exact exL ⟨hlt, rfl, es, heq.trans p7, by omega, hno'⟩
            · have hdd : dpA A d ((gD A).2.1 d) = i := firstR_at (r := fun i => i) (r0 := (gD A).2.1 d) _ 0 i (by omega) (by omega) (fun k _ hk => by rw [hno k hk]; rfl) (by unfold cpA; rw [ecl, Bool.eq_false_iff.mpr e]; rfl)
              rw [if_neg e, if_pos rfl, hdd]
              exact exR ⟨rfl, hM1, heq⟩
          · have : i = (gD A).2.1 d := by omega
            have hdd : dpA A d ((gD A).2.1 d) = i := by
              rw [this]
              exact firstR_no (r := fun i => i) (r0 := (gD A).2.1 d) _ 0 (fun k _ hk => by rw [hno k (by omega)]; rfl)
            simp only [show nI ((gD A).2.1 d) ≤ nI i from nI_le (by omega) (by omega), if_true]
            rw [hdd]
            exact exR ⟨rfl, hM1, heq⟩)
        simp only at g2 g3 g4
        refine ⟨σ', ?_, g3, g4⟩
        show f_Model_perform σ (nI d) = _
        rw [mq σ hM, if_neg (by rw [q]; decide), ← g2]
        exact g1
