/-! the reference: what changes no abstract state -/
def SM (lc : Nat) (lks : Nat → Lk6) (σ σ' : Mem) : Prop := (∀ a, (a = 566 ∨ a = 570 ∨ a = 572 ∨ a = 574 ∨ a = 578 ∨ a = 580 ∨ a = 583 ∨ a = 585 ∨ a = 589) → mI σ' a = mI σ a) ∧ (∀ k, (k = 6 ∨ k = 7 ∨ k = 26 ∨ k = 27 ∨ k = 30 ∨ k = 35 ∨ k = 36 ∨ k = 39 ∨ k = 41 ∨ k = 44 ∨ k = 51 ∨ k = 56) → mI σ' 565 k = mI σ 565 k) ∧ (∀ k, k < 192 → mI σ' 576 k = mI σ 576 k) ∧ (∀ k, k < 4 → mI σ' 577 k = mI σ 577 k) ∧ MTx σ' lc lks ∧ EqLo σ σ'
theorem SM.refl {lc : Nat} {lks : Nat → Lk6} {σ : Mem} (h : MTx σ lc lks) : SM lc lks σ σ := ⟨fun _ _ => rfl, fun _ _ => rfl, fun _ _ => rfl, fun _ _ => rfl, h, EqLo.refl _⟩
theorem SM.trans {lc : Nat} {lks : Nat → Lk6} {σ σ1 σ2 : Mem} (h : SM lc lks σ σ1) (g : SM lc lks σ1 σ2) : SM lc lks σ σ2 := ⟨fun a ha => (g.1 a ha).trans (h.1 a ha), fun a ha => (g.2.1 a ha).trans (h.2.1 a ha), fun a ha => (g.2.2.1 a ha).trans (h.2.2.1 a ha), fun a ha => (g.2.2.2.1 a ha).trans (h.2.2.2.1 a ha), g.2.2.2.2.1, h.2.2.2.2.2.trans g.2.2.2.2.2⟩
theorem SM_mx {lc : Nat} {lks : Nat → Lk6} {a : Nat} {σ σ' : Mem} (ha : a = 579 ∨ a = 569) (h : MX a σ σ') (hi : MTx σ' lc lks) : SM lc lks σ σ' :=
  ⟨fun c hc => h.1 c (by omega) (by omega) (by omega) (by omega) (by omega), fun k hk => h.2.2.2 k (by omega), fun k _ => by rw [h.1 576 (by omega) (by omega) (by omega) (by omega) (by omega)], fun k _ => by rw [h.1 577 (by omega) (by omega) (by omega) (by omega) (by omega)], hi, fun c hc => ⟨h.1 c (by omega) (by omega) (by omega) (by omega) (by omega), h.2.1 c (by omega), funext fun k => h.2.2.1 c k (by omega)⟩⟩
/-- a cell of the reference's own, of which the abstract state knows nothing -/
theorem SM_sI {lc : Nat} {lks : Nat → Lk6} {σ : Mem} {a k : Nat} {v : Int32} (h : MTx σ lc lks) (ha : (a = 569 ∨ a = 571 ∨ a = 573 ∨ a = 575 ∨ a = 579 ∨ a = 584 ∨ a = 586 ∨ a = 587 ∨ a = 588) ∨ (a = 565 ∧ ¬ (k = 6 ∨ k = 7 ∨ k = 26 ∨ k = 27 ∨ k = 30 ∨ k = 35 ∨ k = 36 ∨ k = 39 ∨ k = 41 ∨ k = 44 ∨ k = 51 ∨ k = 56))) : SM lc lks σ (sI σ a k v) := by
  refine ⟨fun c hc => row_ne (by omega), fun j hj => ?_, fun j _ => by rw [row_ne (by omega)], fun j _ => by rw [row_ne (by omega)], h.fr (row_ne (by omega)) (row_ne (by omega)) rfl (row_ne (by omega)), fun c hc => ⟨row_ne (by omega), rfl, rfl⟩⟩
  rw [mI_sI, if_neg (by omega)]
theorem MK.fr0 {σ σ' : Mem} {K : Cy} (h : MK σ K) (h1 : mI σ 565 39 = -1) (h2 : mI σ 565 41 = -1) (hT : cT K ≤ 8) (hB : cB K ≤ 6) (g : ∀ k, (k = 26 ∨ k = 27 ∨ k = 39 ∨ k = 41) → mI σ' 565 k = mI σ 565 k) (g2 : ∀ a, (a = 570 ∨ a = 572 ∨ a = 574) → mI σ' a = mI σ a) : MK σ' K := by
  obtain ⟨q1, q2, q3, q4, q5, q6, q7⟩ := h
  refine ⟨by rw [g 26 (by omega)]; exact q1, by rw [g 27 (by omega)]; exact q2, by rw [g2 570 (by omega)]; exact q3, by rw [g2 572 (by omega)]; exact q4, by rw [g2 574 (by omega)]; exact q5, fun t ht => ?_, fun b hb => ?_⟩
  · have := q6 t ht
    rw [h2, if_neg (nI_ne_m1 (by omega))] at this
    rw [g 41 (by omega), h2, if_neg (nI_ne_m1 (by omega))]
    exact this
  · have := q7 b hb
    rw [h1, if_neg (nI_ne_m1 (by omega))] at this
    rw [g 39 (by omega), h1, if_neg (nI_ne_m1 (by omega))]
    exact this
theorem okC.T8 {A : Gh} (h : okC A) : cT (gK A) ≤ 8 ∧ cB (gK A) ≤ 6 := by
  rcases h.2.2.2.2.2.2 with q | q
  · omega
  · exact ⟨q.2.2.1.1, q.2.2.1.2.1⟩
theorem MRel.scr {σ σ' : Mem} {A : Gh} (hA : gOk A) (h : MRel σ A) (g : SM (gL A).1 (gL A).2.1 σ σ') : MRel σ' A := by
  obtain ⟨h1, h2, h3, h4, h5, ⟨h6, h6'⟩, h7, h8, h9, h10⟩ := h
  obtain ⟨g1, g2, g3, g4, g5, g6⟩ := g
  obtain ⟨t8, b6⟩ := okC.T8 hA.2.2.2
  refine ⟨?_, ?_, ?_, ?_, h5.fr0 h6 h6' t8 b6 (fun k hk => g2 k (by omega)) (fun a ha => g1 a (by omega)), ⟨by rw [g2 _ (by omega)]; exact h6, by rw [g2 _ (by omega)]; exact h6'⟩, by rw [g1 578 (by omega)]; exact h7, ?_, ?_, ?_⟩
  · unfold MTape; rw [g2 6 (by omega), g1 566 (by omega)]; exact h1
  · exact ⟨(g2 7 (by omega)).trans h2.1, (g2 35 (by omega)).trans h2.2.1, g5⟩
  · have hd := hA.2.2.1
    refine ⟨(g2 30 (by omega)).trans h3.1, fun i hi => ⟨?_, fun k hk => ?_⟩⟩
    · rw [g4 i (by have := hd.1; omega)]; exact (h3.2 i hi).1
    · have := hd.1
      have := (hd.2 i hi).2.1
      rw [g3 _ (by omega)]; exact (h3.2 i hi).2 k hk
  · unfold MMisc; rw [g2 36 (by omega), g1 580 (by omega)]; exact h4
  · unfold MImg; rw [g2 56 (by omega), g1 589 (by omega)]; exact h8
  · unfold MHis; rw [g2 44 (by omega), g1 583 (by omega)]; exact h9
  · unfold MSee; rw [g2 51 (by omega), g1 585 (by omega)]; exact h10
def jA (A : Gh) : Mem → Prop := lwJ (gL A).1 (gL A).2.1 (gL A).2.2
def iA (A : Gh) : Mem → Prop := fun σ => MTx σ (gL A).1 (gL A).2.1 ∧ mI σ 565 35 = (gL A).2.2
theorem gOk.J {A : Gh} (h : gOk A) : LkC (jA A) (cL (gK A)) := by rw [h.2.2.2.1]; exact LkC_of _ _ _ h.2.1.1
theorem gOk.I {A : Gh} (h : gOk A) : LkM (iA A) (cL (gK A)) := by rw [h.2.2.2.1]; exact LkM_of _ _ _ h.2.1.2 h.2.1.1
theorem CRel.j {σ : Mem} {A : Gh} (h : CRel σ A) : jA A σ := h.2.1.2.2.2
theorem MRel.i {σ : Mem} {A : Gh} (h : MRel σ A) : iA A σ := ⟨h.2.1.2.2, h.2.1.2.1⟩
theorem MRel.t {σ : Mem} {A : Gh} (h : MRel σ A) : MTx σ (gL A).1 (gL A).2.1 := h.2.1.2.2
theorem CRel.k {σ : Mem} {A : Gh} (h : CRel σ A) : CK σ (gK A) := h.2.2.2.2.1
theorem MRel.k {σ : Mem} {A : Gh} (h : MRel σ A) : MK σ (gK A) := h.2.2.2.2.1
theorem MRel.w {σ : Mem} {A : Gh} (h : MRel σ A) : mI σ 578 = gW A := h.2.2.2.2.2.2.1
/-- there is a city -/
def hasC (A : Gh) : Prop := 1 ≤ cT (gK A) ∧ 1 ≤ cB (gK A) ∧ CyOk (gK A) ∧ rwOk (gK A) (gW A) ∧ ((gI A).1 = 1 → rwOk (gK A) (gI A).2) ∧ (∀ j, j < (gH A).1 → rwOk (gK A) ((gH A).2 j)) ∧ ∀ i, i < (gS A).1 → (∃ n, 1 ≤ n ∧ n ≤ 60 ∧ (gS A).2 (3 * i) = nI n) ∧ ((gS A).2 (3 * i + 2) = 0 ∨ (gS A).2 (3 * i + 2) = 1)
theorem gOk.city {A : Gh} (h : gOk A) (q : cT (gK A) ≠ 0 ∨ cB (gK A) ≠ 0) : hasC A := by
  rcases h.2.2.2.2.2.2.2.2.2 with p | p
  · omega
  · exact p
theorem gOk.cs {A : Gh} (h : gOk A) : (cT (gK A) = 0 ∧ cB (gK A) = 0 ∧ (gH A).1 = 0 ∧ (gI A).1 = 0 ∧ (gS A).1 = 0 ∧ gW A 131 = 0) ∨ hasC A := h.2.2.2.2.2.2.2.2.2
theorem CRel.n {σ : Mem} {A : Gh} (h : CRel σ A) (q : hasC A) : RS σ 6 (gK A) (gW A) ∧ RG σ 6 (gW A) := h.2.2.2.2.2.2.1.2 (by have := q.1; omega)
theorem SM_0 {σ : Mem} {A : Gh} {v : Int32} (h : MRel σ A) : SM (gL A).1 (gL A).2.1 σ (sI σ 565 0 v) := SM_sI h.t (Or.inr ⟨rfl, by omega⟩)
theorem MRel.z {σ : Mem} {A : Gh} {v : Int32} (hA : gOk A) (h : MRel σ A) : MRel (sI σ 565 0 v) A := h.scr hA (SM_0 h)
theorem SC_cy {A : Gh} {σ σ' : Mem} (hA : gOk A) (h : CRel σ A) (g : CY σ σ') : SC (gL A).1 (gD A).1 σ σ' := SC_of hA.2.1.1 hA.2.2.1.1 h.2.2.2.2.2.1.c (fun a ha => g.1 a (by omega)) g.2.1 g.2.2
theorem Sim.ro {fG fM : Mem → Option (Int32 × Mem)} (h : ∀ A, gOk A → ∃ r, (∀ σ, CRel σ A → ∃ σ', fG σ = some (r, σ') ∧ SC (gL A).1 (gD A).1 σ σ') ∧ (∀ σ, MRel σ A → ∃ σ', fM σ = some (r, σ') ∧ SM (gL A).1 (gL A).2.1 σ σ')) : Sim fG fM := fun A hA => by
  obtain ⟨r, h1, h2⟩ := h A hA
  refine ⟨r, A, hA, fun σ hC => ?_, fun σ hM => ?_⟩
  · obtain ⟨σ', g1, g2⟩ := h1 σ hC
    exact ⟨σ', g1, hC.scr g2, g2.hi⟩
  · obtain ⟨σ', g1, g2⟩ := h2 σ hM
    exact ⟨σ', g1, hM.scr hA g2, g2.2.2.2.2.2⟩
def pu (x : Option Int32) (σ : Mem) : Option (Int32 × Mem) := x.map fun r => (r, σ)
/-- as Sim.ro, where the class changes nothing -/
theorem Sim.ru {fG : Mem → Option Int32} {fM : Mem → Option (Int32 × Mem)} (h : ∀ A, gOk A → ∃ r, (∀ σ, CRel σ A → fG σ = some r) ∧ (∀ σ, MRel σ A → ∃ σ', fM σ = some (r, σ') ∧ SM (gL A).1 (gL A).2.1 σ σ')) : Sim (fun σ => pu (fG σ) σ) fM := Sim.ro fun A hA => by
  obtain ⟨r, h1, h2⟩ := h A hA
  exact ⟨r, fun σ hC => ⟨σ, by unfold pu; rw [h1 σ hC]; rfl, SC.refl _ _ _⟩, h2⟩
/-! numbers within bounds -/
theorem i64_lt {x : Int32} {a : Nat} (ha : a < 2 ^ 31) : x.toInt64 < lN a ↔ x < nI a := by
  rw [Int64.lt_iff_toInt_lt, Int32.lt_iff_toInt_lt, Int32.toInt_toInt64, lN_toInt ha, nI_toInt ha]
theorem i64_gt {x : Int32} {a : Nat} (ha : a < 2 ^ 31) : lN a < x.toInt64 ↔ nI a < x := by
  rw [Int64.lt_iff_toInt_lt, Int32.lt_iff_toInt_lt, Int32.toInt_toInt64, lN_toInt ha, nI_toInt ha]
def isR (lo hi : Nat) (x : Int32) : Int32 := if x < nI lo then 0 else if nI hi < x then 0 else 1
theorem Model_isInR {σ : Mem} {x : Int32} {lo hi : Nat} (h1 : lo < 2 ^ 31) (h2 : hi < 2 ^ 31) : f_Model_isIn σ x.toInt64 (lN lo) (lN hi) = some (isR lo hi x) := by
  rw [Model_isIn]
  unfold isR
  simp only [i64_lt h1, i64_gt h2]
theorem rng (lo hi : Nat) (x : Int32) (hl : lo ≤ hi) (hh : hi < 2 ^ 31) : (x < nI lo ∧ isR lo hi x = 0) ∨ (¬ x < nI lo ∧ nI hi < x ∧ isR lo hi x = 0) ∨ (isR lo hi x = 1 ∧ ∃ j, lo ≤ j ∧ j ≤ hi ∧ x = nI j) := by
  unfold isR
  by_cases h : x < nI lo
  · exact Or.inl ⟨h, if_pos h⟩
  · rw [if_neg h]
    by_cases h2 : nI hi < x
    · exact Or.inr (Or.inl ⟨h, h2, if_pos h2⟩)
    · rw [if_neg h2]
      refine Or.inr (Or.inr ⟨rfl, ?_⟩)
      have h0 : ¬ x < 0 := fun q => h (Int32.lt_of_lt_of_le q (nI_pos' (by omega)))
      obtain ⟨j, j1, rfl⟩ := nI_of h0
      exact ⟨j, Nat.le_of_not_lt fun q => h (nI_lt q (by omega)), Nat.le_of_not_lt fun q => h2 (nI_lt q j1), rfl⟩
theorem rng0 (hi : Nat) (x : Int32) (hh : hi < 2 ^ 31) : (x < (0 : Int32) ∧ isR 0 hi x = 0) ∨ (¬ x < (0 : Int32) ∧ nI hi < x ∧ isR 0 hi x = 0) ∨ (isR 0 hi x = 1 ∧ ∃ j, j ≤ hi ∧ x = nI j) := by
  rcases rng 0 hi x (by omega) hh with h | h | ⟨h, j, -, h2, h3⟩
  · exact Or.inl h
  · exact Or.inr (Or.inl h)
  · exact Or.inr (Or.inr ⟨h, j, h2, h3⟩)
theorem rng1 (hi : Nat) (x : Int32) (h1 : 1 ≤ hi) (hh : hi < 2 ^ 31) : (x < (1 : Int32) ∧ isR 1 hi x = 0) ∨ (¬ x < (1 : Int32) ∧ nI hi < x ∧ isR 1 hi x = 0) ∨ (isR 1 hi x = 1 ∧ ∃ j, 1 ≤ j ∧ j ≤ hi ∧ x = nI j) := rng 1 hi x h1 hh
theorem gt_lit {x : Int32} {a b : Nat} (ha : a < 2 ^ 31) (hb : b ≤ a + 1) (h0 : ¬ x < (0 : Int32)) (h : nI a < x) : ¬ x < nI b := fun q => by
  obtain ⟨k, k1, rfl⟩ := nI_of h0
  have := (nI_ltI ha k1).mp h
  have := (nI_ltI k1 (by omega)).mp q
  omega
