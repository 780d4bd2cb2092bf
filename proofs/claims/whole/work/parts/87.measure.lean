/-! all: what is measured -/
def waS (K : Cy) (w : Rw) (t : Nat) : Nat → Int32
  | 0 => 0
  | n + 1 => waS K w t n + lkS K w n t
theorem waS_s (K : Cy) (w : Rw) (t n : Nat) : waS K w t (n + 1) = waS K w t n + lkS K w n t := rfl
theorem all_class {A : Gh} {σ : Mem} {t : Nat} (hA : gOk A) (hc : hasC A) (hC : CRel σ A) (ht : t < cT (gK A)) : ∃ σ', f_Game_likingOfAll σ (nI t) = some (waS (gK A) (gW A) t (cB (gK A)), σ') ∧ SC (gL A).1 (gD A).1 σ σ' := by
  have b6 := hA.B6
  obtain ⟨⟨v, σ'⟩, g1, g2, g3⟩ := loopF_go (step := f_Game_likingOfAll_L4 (nI t)) (a := (σ, (0 : Int32), (0 : Int32))) (fun i s => s.2.2 = nI i ∧ s.2.1 = waS (gK A) (gW A) t i ∧ SC (gL A).1 (gD A).1 σ s.1) (fun r => r.1 = waS (gK A) (gW A) t (cB (gK A)) ∧ SC (gL A).1 (gD A).1 σ r.2) (cB (gK A)) ⟨rfl, rfl, SC.refl _ _ _⟩ (by omega) (by
    rintro i ⟨τ, z2, z3⟩ hi ⟨e1, e2, e3⟩
    simp only at e1 e2 e3
    subst e1; subst e2
    have c1 := hC.scr e3
    unfold f_Game_likingOfAll_L4
    dsimp only
    rw [if_pos c1.k.1, c1.k.2.2.2.1]
    by_cases hlt : i < cB (gK A)
    · obtain ⟨τ', g1, g2⟩ := Trade_liked hA.J hc.2.2.1 c1.k ok6 c1.j (c1.n hc).1 hlt ht
      rw [if_neg (nI_ge hlt (by omega)), g1, Option.bind_some, nI_1]
      exact exL ⟨hlt, rfl, rfl, e3.trans (SC_cy hA c1 g2)⟩
    · have : i = cB (gK A) := by omega
      rw [if_pos (nI_le (by omega) (by omega))]
      exact exR ⟨by rw [this], e3⟩)
  dsimp only at g2 g3
  subst g2
  exact ⟨σ', g1, g3⟩
theorem all_model {A : Gh} {σ : Mem} {t : Nat} (hA : gOk A) (hc : hasC A) (hM : MRel σ A) (ht : t < cT (gK A)) : ∃ σ', f_Model_wanted σ (nI t) = some (waS (gK A) (gW A) t (cB (gK A)), σ') ∧ SM (gL A).1 (gL A).2.1 σ σ' := by
  have b6 := hA.B6
  obtain ⟨⟨v, σ'⟩, g1, g2, g3⟩ := loopF_go (step := f_Model_wanted_L4 (nI t)) (a := (σ, (0 : Int32), (0 : Int32))) (fun i s => s.2.2 = nI i ∧ s.2.1 = waS (gK A) (gW A) t i ∧ SM (gL A).1 (gL A).2.1 σ s.1) (fun r => r.1 = waS (gK A) (gW A) t (cB (gK A)) ∧ SM (gL A).1 (gL A).2.1 σ r.2) (cB (gK A)) ⟨rfl, rfl, SM.refl hM.t⟩ (by omega) (by
    rintro i ⟨τ, z2, z3⟩ hi ⟨e1, e2, e3⟩
    simp only at e1 e2 e3
    subst e1; subst e2
    have c1 := hM.scr hA e3
    unfold f_Model_wanted_L4
    dsimp only
    rw [c1.k.2.1]
    by_cases hlt : i < cB (gK A)
    · obtain ⟨τ', g1, g2, g3⟩ := Model_likingOf (a := 578) (N := 10000) hA.I hc.2.2.1 c1.k (Or.inl rfl) c1.i (by rw [c1.w]; exact hc.2.2.2.1.1) (by omega) hlt ht
      rw [c1.w] at g1
      rw [if_neg (nI_ge hlt (by omega)), g1, Option.bind_some, nI_1]
      exact exL ⟨hlt, rfl, rfl, e3.trans (SM_mx (Or.inr rfl) g2 g3.1)⟩
    · have : i = cB (gK A) := by omega
      rw [if_pos (nI_le (by omega) (by omega))]
      exact exR ⟨by rw [this], e3⟩)
  dsimp only at g2 g3
  subst g2
  exact ⟨σ', g1, g3⟩
def msS (A : Gh) (x i : Nat) : Int32 :=
  if x = 0 then gW A (24 + i) else if x = 1 then dueS (fun k => gW A (30 + k)) (nI i) (mny (gW A)) else if x = 2 then cF (gK A) (4 * i + 2) else if x = 3 then cF (gK A) (4 * i + 1) else if x = 4 then cW (gK A) (3 * i) else if x = 5 then cW (gK A) (3 * i + 1) else waS (gK A) (gW A) i (cB (gK A))
def msN (A : Gh) (x : Nat) : Nat := if x ≤ 3 then cB (gK A) else cT (gK A)
theorem ms_class {A : Gh} {σ : Mem} {x i : Nat} {X : Int32} (hA : gOk A) (hc : hasC A) (hC : CRel σ A) (hx : (x ≤ 5 ∧ X = nI x) ∨ (x = 6 ∧ X = 12)) (hi : i < msN A x) : ∃ σ', f_Game_measure σ X (nI i) = some (msS A x i, σ') ∧ SC (gL A).1 (gD A).1 σ σ' := by
  have t8 := hA.T8
  have b6 := hA.B6
  obtain ⟨n, n1, n2, -⟩ := hc.2.2.2.1.1.1
  have hr := (hC.n hc).1
  unfold f_Game_measure msS
  unfold msN at hi
  rcases hx with ⟨h5, rfl⟩ | ⟨rfl, rfl⟩
  · rcases (show x = 0 ∨ x = 1 ∨ x = 2 ∨ x = 3 ∨ x = 4 ∨ x = 5 by omega) with rfl | rfl | rfl | rfl | rfl | rfl
    · rw [if_pos (by omega)] at hi
      refine ⟨σ, ?_, SC.refl _ _ _⟩
      rw [if_pos (show nI 0 = (0 : Int32) from rfl), if_pos (inb_nI (show i < 6 by omega) (by decide)), nI_clamp (by omega), show mI σ 12 i = gW A (24 + i) from (hr.2.2.2.1 i hi).1]
      rfl
    · refine ⟨σ, ?_, SC.refl _ _ _⟩
      rw [if_neg (show ¬ nI 1 = (0 : Int32) by decide), if_pos (show nI 1 = (1 : Int32) from rfl), dueS_RS hr n1 n2, mny_eq n1 n2]
      rfl
    · rw [if_pos (by omega)] at hi
      refine ⟨σ, ?_, SC.refl _ _ _⟩
      rw [if_neg (show ¬ nI 2 = (0 : Int32) by decide), if_neg (show ¬ nI 2 = (1 : Int32) by decide), if_pos (show nI 2 = (2 : Int32) from rfl), if_pos hC.k.1, City_nerveOf (by omega), hC.k.2.2.2.2.2.2 _ (by omega)]
      rfl
    · rw [if_pos (by omega)] at hi
      refine ⟨σ, ?_, SC.refl _ _ _⟩
      rw [if_neg (show ¬ nI 3 = (0 : Int32) by decide), if_neg (show ¬ nI 3 = (1 : Int32) by decide), if_neg (show ¬ nI 3 = (2 : Int32) by decide), if_pos (show nI 3 = (3 : Int32) from rfl), if_pos (inb_nI (show i < 6 by omega) (by decide)), nI_clamp (by omega), show mI σ 13 i = cD (gK A) i from (hr.2.2.2.1 i hi).2, hA.2.2.2.2.2.1 i hi]
      rfl
    · rw [if_neg (by omega)] at hi
      refine ⟨σ, ?_, SC.refl _ _ _⟩
      rw [if_neg (show ¬ nI 4 = (0 : Int32) by decide), if_neg (show ¬ nI 4 = (1 : Int32) by decide), if_neg (show ¬ nI 4 = (2 : Int32) by decide), if_neg (show ¬ nI 4 = (3 : Int32) by decide), if_pos (show nI 4 = (4 : Int32) from rfl), if_pos hC.k.1, City_priceOf (by omega), hC.k.2.2.2.2.2.1 _ (by omega)]
      rfl
    · rw [if_neg (by omega)] at hi
      refine ⟨σ, ?_, SC.refl _ _ _⟩
      rw [if_neg (show ¬ nI 5 = (0 : Int32) by decide), if_neg (show ¬ nI 5 = (1 : Int32) by decide), if_neg (show ¬ nI 5 = (2 : Int32) by decide), if_neg (show ¬ nI 5 = (3 : Int32) by decide), if_neg (show ¬ nI 5 = (4 : Int32) by decide), if_pos (show nI 5 = (5 : Int32) from rfl), if_pos (inb_nI (show i < 8 by omega) (by decide)), nI_clamp (by omega), show mI σ 10 i = cV (gK A) i from hr.2.1 i hi, hA.2.2.2.2.1 i hi]
      rfl
  · rw [if_neg (by omega)] at hi
    obtain ⟨σ', g1, g2⟩ := all_class hA hc hC hi
    refine ⟨σ', ?_, g2⟩
    rw [if_neg (show ¬ (12 : Int32) = (0 : Int32) by decide), if_neg (show ¬ (12 : Int32) = (1 : Int32) by decide), if_neg (show ¬ (12 : Int32) = (2 : Int32) by decide), if_neg (show ¬ (12 : Int32) = (3 : Int32) by decide), if_neg (show ¬ (12 : Int32) = (4 : Int32) by decide), if_neg (show ¬ (12 : Int32) = (5 : Int32) by decide), g1]
    rfl
theorem ms_model {A : Gh} {σ : Mem} {x i : Nat} (hA : gOk A) (hc : hasC A) (hM : MRel σ A) (hx : x ≤ 6) (hi : i < msN A x) : ∃ σ', f_Model_valueOf σ (nI x) (nI i) = some (msS A x i, σ') ∧ SM (gL A).1 (gL A).2.1 σ σ' := by
  have t8 := hA.T8
  have b6 := hA.B6
  obtain ⟨n, n1, n2, -⟩ := hc.2.2.2.1.1.1
  unfold f_Model_valueOf msS
  unfold msN at hi
  rcases (show x = 0 ∨ x = 1 ∨ x = 2 ∨ x = 3 ∨ x = 4 ∨ x = 5 ∨ x = 6 by omega) with rfl | rfl | rfl | rfl | rfl | rfl | rfl
  · rw [if_pos (by omega)] at hi
    refine ⟨σ, ?_, SM.refl hM.t⟩
    rw [if_pos (show nI 0 = (0 : Int32) from rfl), show (24 : Int32) = nI 24 from rfl, nI_add, if_pos (inb_nI (show 24 + i < 312 by omega) (by decide)), nI_clamp (by omega), hM.w]
    rfl
  · refine ⟨σ, ?_, SM.refl hM.t⟩
    rw [if_neg (show ¬ nI 1 = (0 : Int32) by decide), if_pos (show nI 1 = (1 : Int32) from rfl), Model_dueOf (n := n) (by decide +kernel) (by rw [hM.w]; exact n2) n1, mny_eq n1 n2, hM.w]
    rfl
  · rw [if_pos (by omega)] at hi
    refine ⟨σ, ?_, SM.refl hM.t⟩
    rw [if_neg (show ¬ nI 2 = (0 : Int32) by decide), if_neg (show ¬ nI 2 = (1 : Int32) by decide), if_pos (show nI 2 = (2 : Int32) from rfl), nI_4mul, show (2 : Int32) = nI 2 from rfl, nI_add, if_pos (inb_nI (show 4 * i + 2 < 24 by omega) (by decide)), nI_clamp (by omega), hM.k.2.2.2.2.1]
    rfl
  · rw [if_pos (by omega)] at hi
    refine ⟨σ, ?_, SM.refl hM.t⟩
    rw [if_neg (show ¬ nI 3 = (0 : Int32) by decide), if_neg (show ¬ nI 3 = (1 : Int32) by decide), if_neg (show ¬ nI 3 = (2 : Int32) by decide), if_pos (show nI 3 = (3 : Int32) from rfl), nI_4mul, nI_1, if_pos (inb_nI (show 4 * i + 1 < 24 by omega) (by decide)), nI_clamp (by omega), hM.k.2.2.2.2.1]
    rfl
  · rw [if_neg (by omega)] at hi
    refine ⟨σ, ?_, SM.refl hM.t⟩
    rw [if_neg (show ¬ nI 4 = (0 : Int32) by decide), if_neg (show ¬ nI 4 = (1 : Int32) by decide), if_neg (show ¬ nI 4 = (2 : Int32) by decide), if_neg (show ¬ nI 4 = (3 : Int32) by decide), if_pos (show nI 4 = (4 : Int32) from rfl), nI_3mul, if_pos (inb_nI (show 3 * i < 24 by omega) (by decide)), nI_clamp (by omega), hM.k.2.2.2.1]
    rfl
  · rw [if_neg (by omega)] at hi
    refine ⟨σ, ?_, SM.refl hM.t⟩
    rw [if_neg (show ¬ nI 5 = (0 : Int32) by decide), if_neg (show ¬ nI 5 = (1 : Int32) by decide), if_neg (show ¬ nI 5 = (2 : Int32) by decide), if_neg (show ¬ nI 5 = (3 : Int32) by decide), if_neg (show ¬ nI 5 = (4 : Int32) by decide), if_pos (show nI 5 = (5 : Int32) from rfl), nI_3mul, nI_1, if_pos (inb_nI (show 3 * i + 1 < 24 by omega) (by decide)), nI_clamp (by omega), hM.k.2.2.2.1]
    rfl
  · rw [if_neg (by omega)] at hi
    obtain ⟨σ', g1, g2⟩ := all_model hA hc hM hi
    refine ⟨σ', ?_, g2⟩
    rw [if_neg (show ¬ nI 6 = (0 : Int32) by decide), if_neg (show ¬ nI 6 = (1 : Int32) by decide), if_neg (show ¬ nI 6 = (2 : Int32) by decide), if_neg (show ¬ nI 6 = (3 : Int32) by decide), if_neg (show ¬ nI 6 = (4 : Int32) by decide), if_neg (show ¬ nI 6 = (5 : Int32) by decide), g1]
    rfl
/-- the first index with the greatest measure -/
def fgS (f : Nat → Int32) : Nat → Nat
  | 0 => 0
  | i + 1 => if f (i + 1) ≤ f (fgS f i) then fgS f i else i + 1
theorem fgS_le (f : Nat → Int32) : ∀ i, fgS f i ≤ i := by
  intro i
  induction i with
  | zero => exact Nat.le_refl _
  | succ i ih => unfold fgS; split <;> omega
theorem fg_class {A : Gh} {σ : Mem} {x n : Nat} {X : Int32} (hA : gOk A) (hc : hasC A) (hC : CRel σ A) (hx : (x ≤ 5 ∧ X = nI x) ∨ (x = 6 ∧ X = 12)) (hn : msN A x = n + 1) (h8 : n < 8) : ∃ σ', f_Game_firstWithMost σ X (nI (n + 1)) = some (nI (fgS (msS A x) n), σ') ∧ SC (gL A).1 (gD A).1 σ σ' := by
  obtain ⟨σ1, g1, g2⟩ := ms_class (i := 0) hA hc hC hx (by omega)
  obtain ⟨⟨v, σ'⟩, g3, g4, g5⟩ := loopF_go (step := f_Game_firstWithMost_L13 X (nI (n + 1))) (a := (σ1, (0 : Int32), msS A x 0, (1 : Int32))) (fun i s => s.2.2.2 = nI (i + 1) ∧ s.2.1 = nI (fgS (msS A x) i) ∧ s.2.2.1 = msS A x (fgS (msS A x) i) ∧ SC (gL A).1 (gD A).1 σ s.1) (fun r => r.1 = nI (fgS (msS A x) n) ∧ SC (gL A).1 (gD A).1 σ r.2) n ⟨rfl, rfl, rfl, g2⟩ (by omega) (by
    rintro i ⟨τ, z3, z4, z5⟩ hi ⟨e1, e2, e3, e4⟩
    simp only at e1 e2 e3 e4
    subst e1; subst e2; subst e3
    unfold f_Game_firstWithMost_L13
    dsimp only
    by_cases hlt : i < n
    · obtain ⟨τ', p1, p2⟩ := ms_class (i := i + 1) hA hc (hC.scr e4) hx (by omega)
      rw [if_neg (nI_ge (by omega) (by omega)), p1, Option.bind_some, nI_1]
      by_cases q : msS A x (i + 1) ≤ msS A x (fgS (msS A x) i)
      · rw [if_pos q]
        have e : fgS (msS A x) (i + 1) = fgS (msS A x) i := if_pos q
        exact exL ⟨hlt, rfl, by rw [e], by rw [e], e4.trans p2⟩
      · rw [if_neg q]
        have e : fgS (msS A x) (i + 1) = i + 1 := if_neg q
        exact exL ⟨hlt, rfl, by rw [e], by rw [e], e4.trans p2⟩
    · have : i = n := by omega
      rw [if_pos (nI_le (by omega) (by omega))]
      exact exR ⟨by rw [this], e4⟩)
  dsimp only at g4 g5
  subst g4
  refine ⟨σ', ?_, g5⟩
  unfold f_Game_firstWithMost
  rw [show (0 : Int32) = nI 0 from rfl, g1, Option.bind_some]
  exact g3
theorem fg_model {A : Gh} {σ : Mem} {x n : Nat} (hA : gOk A) (hc : hasC A) (hM : MRel σ A) (hx : x ≤ 6) (hn : msN A x = n + 1) (h8 : n < 8) : ∃ σ', f_Model_greatest σ (nI x) = some (nI (fgS (msS A x) n), σ') ∧ SM (gL A).1 (gL A).2.1 σ σ' := by
  obtain ⟨⟨v, σ'⟩, g3, g4, g5⟩ := loopF_go (step := f_Model_greatest_L4 (nI x)) (a := (σ, (0 : Int32), (1 : Int32))) (fun i s => s.2.2 = nI (i + 1) ∧ s.2.1 = nI (fgS (msS A x) i) ∧ SM (gL A).1 (gL A).2.1 σ s.1) (fun r => r.1 = nI (fgS (msS A x) n) ∧ SM (gL A).1 (gL A).2.1 σ r.2) n ⟨rfl, rfl, SM.refl hM.t⟩ (by omega) (by
    rintro i ⟨τ, z3, z5⟩ hi ⟨e1, e2, e4⟩
    simp only at e1 e2 e4
    subst e1; subst e2
    have hM1 := hM.scr hA e4
    have st : f_Model_greatest_L4 (nI x) (τ, nI (fgS (msS A x) i), nI (i + 1)) = if nI (n + 1) ≤ nI (i + 1) then some (.inr (nI (fgS (msS A x) i), τ)) else (f_Model_valueOf τ (nI x) (nI (i + 1))).bind fun q3 => (f_Model_valueOf q3.2 (nI x) (nI (fgS (msS A x) i))).bind fun q4 => if q3.1 ≤ q4.1 then some (.inl (q4.2, nI (fgS (msS A x) i), nI (i + 1) + (1 : Int32))) else some (.inl (q4.2, nI (i + 1), nI (i + 1) + (1 : Int32))) := by
      unfold f_Model_greatest_L4
      dsimp only
      unfold msN at hn
      by_cases h3 : x ≤ 3
      · rw [if_pos h3] at hn
        rw [if_neg (show ¬ (4 : Int32) ≤ nI x from nI_ge (b := 4) (by omega) (by omega)), hM1.k.2.1, hn]
      · rw [if_neg h3] at hn
        rw [if_pos (show (4 : Int32) ≤ nI x from nI_le (a := 4) (by omega) (by omega)), hM1.k.1, hn]
    rw [st]
    by_cases hlt : i < n
    · obtain ⟨τ', p1, p2⟩ := ms_model (i := i + 1) hA hc hM1 hx (by omega)
      have fl := fgS_le (msS A x) i
      obtain ⟨τ2, p3, p4⟩ := ms_model (i := fgS (msS A x) i) hA hc (hM1.scr hA p2) hx (by omega)
      rw [if_neg (nI_ge (by omega) (by omega)), p1, Option.bind_some, p3, Option.bind_some, nI_1]
      by_cases q : msS A x (i + 1) ≤ msS A x (fgS (msS A x) i)
      · rw [if_pos q]
        have e : fgS (msS A x) (i + 1) = fgS (msS A x) i := if_pos q
        exact exL ⟨hlt, rfl, by rw [e], (e4.trans p2).trans p4⟩
      · rw [if_neg q]
        have e : fgS (msS A x) (i + 1) = i + 1 := if_neg q
        exact exL ⟨hlt, rfl, by rw [e], (e4.trans p2).trans p4⟩
    · have : i = n := by omega
      rw [if_pos (nI_le (by omega) (by omega))]
      exact exR ⟨by rw [this], e4⟩)
  dsimp only at g4 g5
  subst g4
  exact ⟨σ', g3, g5⟩
