/-! years answers alike -/
def itP (g : Gh × Int64 → Gh × Int64) (p : Gh × Int64) : Nat → Gh × Int64
  | 0 => p
  | i + 1 => g (itP g p i)
theorem itP_s (g : Gh × Int64 → Gh × Int64) (p : Gh × Int64) (i : Nat) : itP g p (i + 1) = g (itP g p i) := rfl
def yg (p : Gh × Int64) : Gh × Int64 := (yrV p.1 (wcS (gW p.1) p.2 (gM p.1).2 (cB (gK p.1))).1, (wcS (gW p.1) p.2 (gM p.1).2 (cB (gK p.1))).2)
theorem yg_eq {p : Gh × Int64} {v : Rw × Int64} (h : wcS (gW p.1) p.2 (gM p.1).2 (cB (gK p.1)) = v) : yg p = (yrV p.1 v.1, v.2) := by unfold yg; rw [h]
def ysA (B : Gh) (x : Int64) (i : Nat) : Gh × Int64 := itP yg (B, x) i
theorem ysA_s (B : Gh) (x : Int64) (i : Nat) {v : Rw × Int64} (h : wcS (gW (ysA B x i).1) (ysA B x i).2 (gM (ysA B x i).1).2 (cB (gK (ysA B x i).1)) = v) : (ysA B x (i + 1)).1 = yrV (ysA B x i).1 v.1 ∧ (ysA B x (i + 1)).2 = v.2 := by
  have e : ysA B x (i + 1) = yg (ysA B x i) := itP_s yg (B, x) i
  rw [e, yg_eq h]
  exact ⟨rfl, rfl⟩
theorem ysA_ok {B : Gh} {x : Int64} {h : Nat} (hB : gOk B) (hc : hasC B) (hh : gW B 130 = nI h) : ∀ i, h + i ≤ 9999 → gOk (ysA B x i).1 ∧ hasC (ysA B x i).1 ∧ gW (ysA B x i).1 130 = nI (h + i) := by
  intro i
  induction i with
  | zero => intro _; exact ⟨hB, hc, hh⟩
  | succ i ih =>
    intro hi
    obtain ⟨a, b, c⟩ := ih (by omega)
    rw [(ysA_s B x i rfl).1, ← yrA_eq]
    have := yrA_ok (x := (ysA B x i).2) a b c (by omega)
    rw [Nat.add_assoc] at this
    exact this
theorem sim_years (x : Int32) (y : Int64) : Sim (fun σ => f_Game_years σ x y) (fun σ => f_Model_years σ x y) := fun A hA => by
  have t8 := hA.T8
  have no : (∀ σ, CRel σ A → f_Game_years σ x y = some (-1, σ)) → (∀ σ, MRel σ A → f_Model_years σ x y = some (-1, sI σ 565 0 0)) → ∃ r A', gOk A' ∧ (∀ σ, CRel σ A → ∃ σ', (fun σ => f_Game_years σ x y) σ = some (r, σ') ∧ CRel σ' A' ∧ EqHi σ σ') ∧ (∀ σ, MRel σ A → ∃ σ', (fun σ => f_Model_years σ x y) σ = some (r, σ') ∧ MRel σ' A' ∧ EqLo σ σ') := fun h1 h2 =>
    ⟨-1, A, hA, fun σ hC => ⟨σ, h1 σ hC, hC, EqHi.refl _⟩, fun σ hM => ⟨_, h2 σ hM, hM.z hA, EqLo.trans0 hM (EqLo.refl _)⟩⟩
  rcases hA.cs with p | hc
  · refine no (fun σ hC => ?_) (fun σ hM => ?_)
    · unfold f_Game_years; rw [Trade_hasCity hC.k t8, if_pos p.1]; rfl
    · unfold f_Model_years
      rw [(hM.z (v := 0) hA).k.2.1, p.2.1, if_pos (show nI 0 = (0 : Int32) from rfl)]
  · have hT1 := hc.1
    have hB1 := hc.2.1
    have b6 := hA.B6
    obtain ⟨h, h1, h2⟩ := hc.2.2.2.1.1.2.2.2.2
    have cq : ∀ σ, CRel σ A → f_Game_years σ x y = if x < 1 then some (-1, σ) else if (30 : Int32) < x then some (-1, σ) else if nI h + x ≤ 9999 then loopF (f_Game_years_L46 x y) FU (sL σ 0 17 y, 0) else some (-1, σ) := fun σ hC => by
      have h14 : mI σ 6 14 = nI h := ((hC.n hc).1.2.2.2.2.2.1.2.2.2.2).trans h2
      unfold f_Game_years
      rw [Trade_hasCity hC.k t8, if_neg (by omega), Option.bind_some, if_neg (by decide), h14]
    have mq : ∀ σ, MRel σ A → f_Model_years σ x y = if isR 1 30 x = 0 then some (-1, sI σ 565 0 0) else if nI h + x ≤ 9999 then loopF (f_Model_years_L50 x y) FU (sL (sI σ 565 0 0) 565 45 y, 0) else some (-1, sI σ 565 0 0) := fun σ hM => by
      have hz := hM.z (v := 0) hA
      unfold f_Model_years
      rw [hz.k.2.1, if_neg (nI_ne0 (by omega) (by omega)), show (1 : Int64) = lN 1 from rfl, show (30 : Int64) = lN 30 from rfl, Model_isInR (by omega) (by omega), Option.bind_some, hz.w, show (130 : Int32).toNatClampNeg = 130 from rfl, h2]
    rcases rng1 30 x (by omega) (by omega) with ⟨q1, q2⟩ | ⟨q1, q2, q3⟩ | ⟨q1, n, n1, n2, rfl⟩
    · exact no (fun σ hC => by rw [cq σ hC, if_pos q1]) (fun σ hM => by rw [mq σ hM, if_pos q2])
    · exact no (fun σ hC => by rw [cq σ hC, if_neg q1, if_pos (show (30 : Int32) < x from q2)]) (fun σ hM => by rw [mq σ hM, if_pos q3])
    · have a1 : ¬ nI n < (1 : Int32) := nI_nlt (b := 1) n1 (by omega)
      have a2 : ¬ (30 : Int32) < nI n := nI_nlt (a := 30) n2 (by omega)
      have a3 : ¬ isR 1 30 (nI n) = 0 := by rw [q1]; decide
      by_cases q : h + n ≤ 9999
      · have a4 : nI h + nI n ≤ (9999 : Int32) := by rw [nI_add]; exact nI_le (b := 9999) q (by omega)
        have fin := ysA_ok (x := y) hA hc h2 n q
        refine ⟨nI (h + n), (ysA A y n).1, fin.1, fun σ hC => ?_, fun σ hM => ?_⟩
        · obtain ⟨c0, e0⟩ := hC.dr (v := y) hA
          obtain ⟨⟨z, σ'⟩, g1, g2, g3, g4⟩ := loopF_go (step := f_Game_years_L46 (nI n) y) (a := (sL σ 0 17 y, (0 : Int32))) (fun i s => s.2 = nI i ∧ CRel s.1 (ysA A y i).1 ∧ mL s.1 0 17 = (ysA A y i).2 ∧ EqHi σ s.1 ∧ i ≤ n) (fun r => r.1 = nI (h + n) ∧ CRel r.2 (ysA A y n).1 ∧ EqHi σ r.2) n ⟨rfl, c0, mL_sL_self _ _ _ _, e0, by omega⟩ (by omega) (by
            rintro i ⟨τ, z2⟩ hin ⟨e2, hC1, hx1, heq, hi⟩
            simp only at e2 hC1 hx1 heq hi
            subst e2
            obtain ⟨ok1, ok2, ok3⟩ := ysA_ok (x := y) hA hc h2 i (by omega)
            unfold f_Game_years_L46
            dsimp only
            by_cases hlt : i < n
            · obtain ⟨τ1, τ2, τ3, p1, p2, p3, p4, p5, p6⟩ := year_class ok1 ok2 hC1 hx1 ok3 (by omega) rfl
              obtain ⟨s1, s2⟩ := ysA_s A y i rfl
              rw [if_neg (nI_ge hlt (by omega)), p1, Option.bind_some, p2, Option.bind_some, p3, Option.bind_some, nI_1]
              rw [← s1] at p4
              rw [← s2] at p5
              exact exL ⟨hlt, rfl, p4, p5, heq.trans p6, hlt⟩
            · have : i = n := by omega
              subst this
              have h14 : mI τ 6 14 = nI (h + i) := ((hC1.n ok2).1.2.2.2.2.2.1.2.2.2.2).trans ok3
              rw [if_pos (nI_le (Nat.le_refl _) (by omega)), h14]
              exact exR ⟨rfl, hC1, heq⟩)
          dsimp only at g2 g3 g4
          subst g2
          exact ⟨σ', by show f_Game_years σ (nI n) y = _; rw [cq σ hC, if_neg a1, if_neg a2, if_pos a4]; exact g1, g3, g4⟩
        · have hz := hM.z (v := 0) hA
          obtain ⟨c0, e0⟩ := hz.dr (v := y) hA
          obtain ⟨⟨z, σ'⟩, g1, g2, g3, g4⟩ := loopF_go (step := f_Model_years_L50 (nI n) y) (a := (sL (sI σ 565 0 0) 565 45 y, (0 : Int32))) (fun i s => s.2 = nI i ∧ MRel s.1 (ysA A y i).1 ∧ mL s.1 565 45 = (ysA A y i).2 ∧ EqLo σ s.1 ∧ i ≤ n) (fun r => r.1 = nI (h + n) ∧ MRel r.2 (ysA A y n).1 ∧ EqLo σ r.2) n ⟨rfl, c0, mL_sL_self _ _ _ _, EqLo.trans0 hM e0, by omega⟩ (by omega) (by
            rintro i ⟨τ, z2⟩ hin ⟨e2, hC1, hx1, heq, hi⟩
            simp only at e2 hC1 hx1 heq hi
            subst e2
            obtain ⟨ok1, ok2, ok3⟩ := ysA_ok (x := y) hA hc h2 i (by omega)
            by_cases hlt : i < n
            · obtain ⟨τ3, p3, p4, p5, p6⟩ := year_model (x1 := nI n) (z := nI i) (y := y) ok1 ok2 hC1 hx1 (nI_ge hlt (by omega)) rfl
              obtain ⟨s1, s2⟩ := ysA_s A y i rfl
              rw [p3, nI_1]
              rw [← s1] at p4
              rw [← s2] at p5
              exact exL ⟨hlt, rfl, p4, p5, heq.trans p6, hlt⟩
            · have : i = n := by omega
              subst this
              unfold f_Model_years_L50
              dsimp only
              rw [if_pos (nI_le (Nat.le_refl _) (by omega)), hC1.w, show (130 : Int32).toNatClampNeg = 130 from rfl, ok3]
              exact exR ⟨rfl, hC1, heq⟩)
          dsimp only at g2 g3 g4
          subst g2
          exact ⟨σ', by show f_Model_years σ (nI n) y = _; rw [mq σ hM, if_neg a3, if_pos a4]; exact g1, g3, g4⟩
      · have a4 : ¬ nI h + nI n ≤ (9999 : Int32) := by rw [nI_add]; exact nI_ge (a := 9999) (by omega) (by omega)
        exact no (fun σ hC => by rw [cq σ hC, if_neg a1, if_neg a2, if_neg a4]) (fun σ hM => by rw [mq σ hM, if_neg a3, if_neg a4])
