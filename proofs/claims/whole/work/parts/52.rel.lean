/-! class and reference against one abstract state -/
/-- the class's i-th law is one by which one likes so much -/
def CodeC (σ : Mem) (i : Nat) (lk : Lk6) : Prop := ∀ τ, mI τ (540 + 3 * i) = mI σ (540 + 3 * i) → mI τ (541 + 3 * i) = mI σ (541 + 3 * i) → ∃ v τ', f_Law_worth τ (540 + 3 * i) 429 = some (v, τ') ∧ imax 0 (imin 99 v) = lk (mI τ 429 0) (mI τ 429 1) (mI τ 429 2) (mI τ 429 3) (mI τ 429 4) (mI τ 429 5) ∧ CY τ τ'
def lwJ (lc : Nat) (lks : Nat → Lk6) (lh : Int32) (σ : Mem) : Prop := (lh = -1 ∧ mR σ 428 2 = 0) ∨ ∃ i, i < lc ∧ lh = nI i ∧ mR σ 428 2 = 540 + 3 * i ∧ CodeC σ i (lks i)
theorem kd_law : ∀ i, i < 5 → kd (540 + 3 * i) = 6 := by decide +kernel
theorem LkC_of (lc : Nat) (lks : Nat → Lk6) (lh : Int32) (h4 : lc ≤ 4) : LkC (lwJ lc lks lh) (lkN lks lh) := by
  refine ⟨fun σ σ' hj he => ?_, fun σ hj hl p w d m s h => ?_, fun σ hj hl => ?_⟩
  · rcases hj with ⟨a, b⟩ | ⟨i, a, b, c, d⟩
    · exact Or.inl ⟨a, he.1.trans b⟩
    · exact Or.inr ⟨i, a, b, he.1.trans c, fun τ t1 t2 => d τ (t1.trans (he.2 _ (by omega) (by omega) (by omega))) (t2.trans (he.2 _ (by omega) (by omega) (by omega)))⟩
  · rcases hj with ⟨a, b⟩ | ⟨i, a, b, c, d⟩
    · unfold lkN; rw [if_pos a]; rfl
    · omega
  · rcases hj with ⟨a, b⟩ | ⟨i, a, b, c, d⟩
    · exact absurd b hl
    · rw [c]
      refine ⟨kd_law i (by omega), ?_⟩
      obtain ⟨v, τ', g1, g2, g3⟩ := d σ rfl rfl
      have e : lkN lks lh = lks i := by unfold lkN; rw [b, if_neg (nI_ne_m1 (by omega)), nI_clamp (by omega)]
      rw [e]
      exact ⟨v, τ', g1, g2, g3⟩
abbrev gTt : Type := Nat × Rw
abbrev gLt : Type := Nat × (Nat → Lk6) × Int32
abbrev gDt : Type := Nat × (Nat → Nat) × (Nat → Rw)
abbrev Gh : Type := gTt × gLt × gDt × (Rw × Int32) × Cy × Rw × (Int32 × Rw) × (Nat × (Nat → Rw)) × (Nat × Rw)
def gT (A : Gh) : gTt := A.1
def gL (A : Gh) : gLt := A.2.1
def gD (A : Gh) : gDt := A.2.2.1
def gM (A : Gh) : Rw × Int32 := A.2.2.2.1
def gK (A : Gh) : Cy := A.2.2.2.2.1
def gW (A : Gh) : Rw := A.2.2.2.2.2.1
def gI (A : Gh) : Int32 × Rw := A.2.2.2.2.2.2.1
def gH (A : Gh) : Nat × (Nat → Rw) := A.2.2.2.2.2.2.2.1
def gS (A : Gh) : Nat × Rw := A.2.2.2.2.2.2.2.2
/-! the class's half -/
def CTape (σ : Mem) (t : gTt) : Prop := mI σ 1 1 = nI t.1 ∧ ∀ i, i < t.1 → mI σ 2 i = t.2 i
def CLaw (σ : Mem) (l : gLt) : Prop := mI σ 0 12 = nI l.1 ∧ mI σ 0 13 = l.2.2 ∧ (∀ i, i < l.1 → CodeC σ i (l.2.1 i)) ∧ lwJ l.1 l.2.1 l.2.2 σ
def CDay (σ : Mem) (d : gDt) : Prop := mI σ 0 14 = nI d.1 ∧ ∀ i, i < d.1 → mI σ (555 + 2 * i) 1 = nI (d.2.1 i) ∧ ∀ k, k < 3 * d.2.1 i → mI σ (556 + 2 * i) k = d.2.2 i k
def CMisc (σ : Mem) (m : Rw × Int32) : Prop := (∀ k, k < 6 → mI σ 5 k = m.1 k) ∧ mI σ 0 15 = m.2
def CNow (σ : Mem) (K : Cy) (w : Rw) : Prop := (mI σ 6 9 = w 126 ∧ mI σ 6 10 = w 131 ∧ mI σ 6 11 = w 127 ∧ mI σ 6 13 = w 129 ∧ mI σ 6 14 = w 130) ∧ (cT K ≠ 0 → RS σ 6 K w ∧ RG σ 6 w)
def CImg (σ : Mem) (K : Cy) (i : Int32 × Rw) : Prop := mI σ 0 16 = i.1 ∧ (i.1 = 1 → RS σ 16 K i.2 ∧ RG σ 16 i.2)
def CHis (σ : Mem) (K : Cy) (h : Nat × (Nat → Rw)) : Prop := mI σ 26 2 = nI h.1 ∧ ∃ f, f < 40 ∧ mI σ 26 1 = nI f ∧ ∀ j, j < h.1 → RS σ (28 + 10 * ((f + j) % 40)) K (h.2 j) ∧ RG σ (28 + 10 * ((f + j) % 40)) (h.2 j)
def CSee (σ : Mem) (s : Nat × Rw) : Prop := mI σ 516 5 = nI s.1 ∧ ∀ i, i < s.1 → mI σ 527 i = s.2 (3 * i) ∧ mI σ 528 i = s.2 (3 * i + 1) ∧ mI σ 529 i = s.2 (3 * i + 2)
def CDra (σ : Mem) : Prop := (mR σ 0 11 = 430 ∧ mR σ 428 1 = 536) ∨ (mR σ 0 11 = 536 ∧ mR σ 428 1 = 430)
def CRel (σ : Mem) (A : Gh) : Prop := CTape σ (gT A) ∧ CLaw σ (gL A) ∧ CDay σ (gD A) ∧ CMisc σ (gM A) ∧ CK σ (gK A) ∧ CDra σ ∧ CNow σ (gK A) (gW A) ∧ CImg σ (gK A) (gI A) ∧ CHis σ (gK A) (gH A) ∧ CSee σ (gS A)
/-! the reference's half -/
def MTape (σ : Mem) (t : gTt) : Prop := mI σ 565 6 = nI t.1 ∧ ∀ i, i < t.1 → mI σ 566 i = (t.2 i).toInt8.toInt32
def MLaw (σ : Mem) (l : gLt) : Prop := mI σ 565 7 = nI l.1 ∧ mI σ 565 35 = l.2.2 ∧ MTx σ l.1 l.2.1
def MDay (σ : Mem) (d : gDt) : Prop := mI σ 565 30 = nI d.1 ∧ ∀ i, i < d.1 → mI σ 577 i = nI (d.2.1 i) ∧ ∀ k, k < 3 * d.2.1 i → mI σ 576 (48 * i + k) = d.2.2 i k
def MMisc (σ : Mem) (m : Rw × Int32) : Prop := (∀ k, k < 6 → mI σ 580 k = m.1 k) ∧ mI σ 565 36 = m.2
def MImg (σ : Mem) (i : Int32 × Rw) : Prop := mI σ 565 56 = i.1 ∧ (i.1 = 1 → ∀ j, j < 312 → mI σ 589 j = i.2 j)
def MHis (σ : Mem) (h : Nat × (Nat → Rw)) : Prop := mI σ 565 44 = nI h.1 ∧ ∀ j, j < h.1 → ∀ i, i < 312 → mI σ 583 (312 * j + i) = h.2 j i
def MSee (σ : Mem) (s : Nat × Rw) : Prop := mI σ 565 51 = nI s.1 ∧ ∀ i, i < 3 * s.1 → mI σ 585 i = s.2 i
def MRel (σ : Mem) (A : Gh) : Prop := MTape σ (gT A) ∧ MLaw σ (gL A) ∧ MDay σ (gD A) ∧ MMisc σ (gM A) ∧ MK σ (gK A) ∧ (mI σ 565 39 = -1 ∧ mI σ 565 41 = -1) ∧ mI σ 578 = gW A ∧ MImg σ (gI A) ∧ MHis σ (gH A) ∧ MSee σ (gS A)
/-! what an abstract state may be -/
/-- the treasury is a number within its bounds -/
def TrOk (w : Rw) : Prop := ∃ t, t ≤ 9999 ∧ w 129 = nI t
def rwOk (K : Cy) (w : Rw) : Prop := Wf (cT K) (cB K) 10000 w ∧ (∃ n, n ≤ 60 ∧ w 131 = nI n) ∧ TrOk w
def okT (t : gTt) : Prop := t.1 ≤ 240 ∧ ∀ i, i < t.1 → ∃ c, 1 ≤ c ∧ c < 256 ∧ t.2 i = nI c
def okLw (l : gLt) : Prop := l.1 ≤ 4 ∧ (l.2.2 = -1 ∨ ∃ i, i < l.1 ∧ l.2.2 = nI i)
def okD (d : gDt) : Prop := d.1 ≤ 4 ∧ ∀ i, i < d.1 → 1 ≤ d.2.1 i ∧ d.2.1 i ≤ 16 ∧ ∀ j, j < d.2.1 i → ∃ q, q ≤ 4 ∧ d.2.2 i (3 * j) = nI q
def okC (A : Gh) : Prop := cL (gK A) = lkN (gL A).2.1 (gL A).2.2 ∧ (∀ t, t < cT (gK A) → cV (gK A) t = cW (gK A) (3 * t + 1)) ∧ (∀ b, b < cB (gK A) → cD (gK A) b = cF (gK A) (4 * b + 1)) ∧ ((gI A).1 = 0 ∨ (gI A).1 = 1) ∧ (gH A).1 ≤ 40 ∧ (gS A).1 ≤ 10 ∧ ((cT (gK A) = 0 ∧ cB (gK A) = 0 ∧ (gH A).1 = 0 ∧ (gI A).1 = 0 ∧ (gS A).1 = 0 ∧ gW A 131 = 0) ∨ (1 ≤ cT (gK A) ∧ 1 ≤ cB (gK A) ∧ CyOk (gK A) ∧ rwOk (gK A) (gW A) ∧ ((gI A).1 = 1 → rwOk (gK A) (gI A).2) ∧ (∀ j, j < (gH A).1 → rwOk (gK A) ((gH A).2 j)) ∧ ∀ i, i < (gS A).1 → (∃ n, 1 ≤ n ∧ n ≤ 60 ∧ (gS A).2 (3 * i) = nI n) ∧ ((gS A).2 (3 * i + 2) = 0 ∨ (gS A).2 (3 * i + 2) = 1)))
def gOk (A : Gh) : Prop := okT (gT A) ∧ okLw (gL A) ∧ okD (gD A) ∧ okC A
/-- nothing of the reference has changed; nothing of the class has -/
def EqHi (σ σ' : Mem) : Prop := ∀ a, 565 ≤ a → mI σ' a = mI σ a ∧ mL σ' a = mL σ a ∧ mR σ' a = mR σ a
def EqLo (σ σ' : Mem) : Prop := ∀ a, (a < 565 ∨ 590 ≤ a) → mI σ' a = mI σ a ∧ mL σ' a = mL σ a ∧ mR σ' a = mR σ a
theorem EqHi.refl (σ : Mem) : EqHi σ σ := fun _ _ => ⟨rfl, rfl, rfl⟩
theorem EqLo.refl (σ : Mem) : EqLo σ σ := fun _ _ => ⟨rfl, rfl, rfl⟩
theorem EqHi.trans {σ σ1 σ2 : Mem} (h : EqHi σ σ1) (g : EqHi σ1 σ2) : EqHi σ σ2 := fun a ha => ⟨(g a ha).1.trans (h a ha).1, (g a ha).2.1.trans (h a ha).2.1, (g a ha).2.2.trans (h a ha).2.2⟩
theorem EqLo.trans {σ σ1 σ2 : Mem} (h : EqLo σ σ1) (g : EqLo σ1 σ2) : EqLo σ σ2 := fun a ha => ⟨(g a ha).1.trans (h a ha).1, (g a ha).2.1.trans (h a ha).2.1, (g a ha).2.2.trans (h a ha).2.2⟩
/-- the two answer alike and go on alike -/
def Sim (fG fM : Mem → Option (Int32 × Mem)) : Prop := ∀ A, gOk A → ∃ r A', gOk A' ∧ (∀ σ, CRel σ A → ∃ σ', fG σ = some (r, σ') ∧ CRel σ' A' ∧ EqHi σ σ') ∧ (∀ σ, MRel σ A → ∃ σ', fM σ = some (r, σ') ∧ MRel σ' A' ∧ EqLo σ σ')
/-! what changes no abstract state -/
def SC (lc dc : Nat) (σ σ' : Mem) : Prop := (∀ a, (a = 0 ∨ a = 2 ∨ (5 ≤ a ∧ a < 428) ∨ a = 516 ∨ (527 ≤ a ∧ a < 530) ∨ 565 ≤ a) → mI σ' a = mI σ a) ∧ mI σ' 1 1 = mI σ 1 1 ∧ (∀ k, k < 4 → mI σ' (mR σ 428 1 + k) = mI σ (mR σ 428 1 + k)) ∧ (∀ i, i < lc → mI σ' (540 + 3 * i) = mI σ (540 + 3 * i) ∧ mI σ' (541 + 3 * i) = mI σ (541 + 3 * i)) ∧ (∀ i, i < dc → mI σ' (555 + 2 * i) = mI σ (555 + 2 * i) ∧ mI σ' (556 + 2 * i) = mI σ (556 + 2 * i)) ∧ mR σ' = mR σ ∧ (∀ a, 565 ≤ a → mL σ' a = mL σ a)
theorem SC.refl (lc dc : Nat) (σ : Mem) : SC lc dc σ σ := ⟨fun _ _ => rfl, rfl, fun _ _ => rfl, fun _ _ => ⟨rfl, rfl⟩, fun _ _ => ⟨rfl, rfl⟩, rfl, fun _ _ => rfl⟩
theorem SC.trans {lc dc : Nat} {σ σ1 σ2 : Mem} (h : SC lc dc σ σ1) (g : SC lc dc σ1 σ2) : SC lc dc σ σ2 := by
  obtain ⟨h1, h2, h3, h4, h5, h6, h7⟩ := h
  obtain ⟨g1, g2, g3, g4, g5, g6, g7⟩ := g
  rw [h6] at g3
  exact ⟨fun a ha => (g1 a ha).trans (h1 a ha), g2.trans h2, fun k hk => (g3 k hk).trans (h3 k hk), fun i hi => ⟨(g4 i hi).1.trans (h4 i hi).1, (g4 i hi).2.trans (h4 i hi).2⟩, fun i hi => ⟨(g5 i hi).1.trans (h5 i hi).1, (g5 i hi).2.trans (h5 i hi).2⟩, g6.trans h6, fun a ha => (g7 a ha).trans (h7 a ha)⟩
theorem SC.hi {lc dc : Nat} {σ σ' : Mem} (h : SC lc dc σ σ') : EqHi σ σ' := fun a ha => ⟨h.1 a (by omega), h.2.2.2.2.2.2 a ha, by rw [h.2.2.2.2.2.1]⟩
theorem SC_of {lc dc : Nat} {σ σ' : Mem} (hl : lc ≤ 4) (hd : dc ≤ 4) (hc : mR σ 428 1 = 430 ∨ mR σ 428 1 = 536) (h : ∀ a, (a < 429 ∨ (430 ≤ a ∧ a < 434) ∨ a = 516 ∨ (527 ≤ a ∧ a < 530) ∨ (536 ≤ a ∧ a < 540) ∨ (540 ≤ a ∧ a < 555 ∧ a % 3 ≠ 2) ∨ 555 ≤ a) → mI σ' a = mI σ a) (hL : mL σ' = mL σ) (hR : mR σ' = mR σ) : SC lc dc σ σ' :=
  ⟨fun a ha => h a (by omega), by rw [h 1 (by omega)], fun k hk => h _ (by omega), fun i hi => ⟨h _ (by omega), h _ (by omega)⟩, fun i hi => ⟨h _ (by omega), h _ (by omega)⟩, hR, fun a _ => by rw [hL]⟩
theorem CDra.c {σ : Mem} (h : CDra σ) : mR σ 428 1 = 430 ∨ mR σ 428 1 = 536 := by rcases h with h | h <;> omega
theorem RS_RG_fr {σ σ' : Mem} {o : Nat} {K : Cy} {w : Rw} (h : RS σ o K w ∧ RG σ o w) (g : ∀ a, o ≤ a → a < o + 10 → mI σ' a = mI σ a) : RS σ' o K w ∧ RG σ' o w :=
  ⟨h.1.fr g, RG_fr h.2 (by rw [g o (by omega) (by omega)]) (g _ (by omega) (by omega)) fun _ _ => rfl⟩
theorem CTape.fr {σ σ' : Mem} {t : gTt} (h : CTape σ t) (h1 : mI σ' 1 1 = mI σ 1 1) (h2 : mI σ' 2 = mI σ 2) : CTape σ' t := by unfold CTape; rw [h1, h2]; exact h
theorem CLaw.fr {σ σ' : Mem} {l : gLt} (h : CLaw σ l) (h1 : mI σ' 0 12 = mI σ 0 12) (h2 : mI σ' 0 13 = mI σ 0 13) (h3 : ∀ i, i < l.1 → mI σ' (540 + 3 * i) = mI σ (540 + 3 * i) ∧ mI σ' (541 + 3 * i) = mI σ (541 + 3 * i)) (hR : mR σ' 428 2 = mR σ 428 2) : CLaw σ' l := by
  obtain ⟨a, b, c, d⟩ := h
  have cc : ∀ i, i < l.1 → CodeC σ i (l.2.1 i) → CodeC σ' i (l.2.1 i) := fun i hi q τ t1 t2 => q τ (t1.trans (h3 i hi).1) (t2.trans (h3 i hi).2)
  refine ⟨h1.trans a, h2.trans b, fun i hi => cc i hi (c i hi), ?_⟩
  rcases d with ⟨q1, q2⟩ | ⟨i, q1, q2, q3, q4⟩
  · exact Or.inl ⟨q1, hR.trans q2⟩
  · exact Or.inr ⟨i, q1, q2, hR.trans q3, cc i q1 q4⟩
theorem CDay.fr {σ σ' : Mem} {d : gDt} (h : CDay σ d) (h1 : mI σ' 0 14 = mI σ 0 14) (h3 : ∀ i, i < d.1 → mI σ' (555 + 2 * i) = mI σ (555 + 2 * i) ∧ mI σ' (556 + 2 * i) = mI σ (556 + 2 * i)) : CDay σ' d :=
  ⟨h1.trans h.1, fun i hi => by rw [(h3 i hi).1, (h3 i hi).2]; exact h.2 i hi⟩
theorem CMisc.fr {σ σ' : Mem} {m : Rw × Int32} (h : CMisc σ m) (h1 : mI σ' 0 15 = mI σ 0 15) (h2 : mI σ' 5 = mI σ 5) : CMisc σ' m := by unfold CMisc; rw [h1, h2]; exact h
theorem CNow.fr {σ σ' : Mem} {K : Cy} {w : Rw} (h : CNow σ K w) (g : ∀ a, 6 ≤ a → a < 16 → mI σ' a = mI σ a) : CNow σ' K w :=
  ⟨by rw [g 6 (by omega) (by omega)]; exact h.1, fun q => RS_RG_fr (h.2 q) g⟩
theorem CImg.fr {σ σ' : Mem} {K : Cy} {i : Int32 × Rw} (h : CImg σ K i) (h1 : mI σ' 0 16 = mI σ 0 16) (g : ∀ a, 16 ≤ a → a < 26 → mI σ' a = mI σ a) : CImg σ' K i := ⟨h1.trans h.1, fun q => RS_RG_fr (h.2 q) g⟩
theorem CHis.fr {σ σ' : Mem} {K : Cy} {h : Nat × (Nat → Rw)} (hh : CHis σ K h) (g : ∀ a, 26 ≤ a → a < 428 → mI σ' a = mI σ a) : CHis σ' K h := by
  obtain ⟨a, f, b, c, d⟩ := hh
  refine ⟨by rw [g 26 (by omega) (by omega)]; exact a, f, b, by rw [g 26 (by omega) (by omega)]; exact c, fun j hj => RS_RG_fr (d j hj) fun a h1 h2 => g a (by omega) (by omega)⟩
theorem CSee.fr {σ σ' : Mem} {s : Nat × Rw} (h : CSee σ s) (h1 : mI σ' 516 5 = mI σ 516 5) (h2 : mI σ' 527 = mI σ 527) (h3 : mI σ' 528 = mI σ 528) (h4 : mI σ' 529 = mI σ 529) : CSee σ' s := by unfold CSee; rw [h1, h2, h3, h4]; exact h
theorem CK.fr4 {σ σ' : Mem} {K : Cy} (h : CK σ K) (hR : mR σ' 428 1 = mR σ 428 1) (g : ∀ k, k < 4 → mI σ' (mR σ 428 1 + k) = mI σ (mR σ 428 1 + k)) : CK σ' K := by
  obtain ⟨h1, h2, h3, h4, h5, h6, h7⟩ := h
  unfold CK
  rw [hR]
  have g0 : mI σ' (mR σ 428 1) = mI σ (mR σ 428 1) := g 0 (by omega)
  exact ⟨h1, h2, by rw [g0]; exact h3, by rw [g0]; exact h4, by rw [g 1 (by omega)]; exact h5, by rw [g 2 (by omega)]; exact h6, by rw [g 3 (by omega)]; exact h7⟩
theorem CRel.scr {σ σ' : Mem} {A : Gh} (h : CRel σ A) (g : SC (gL A).1 (gD A).1 σ σ') : CRel σ' A := by
  obtain ⟨h1, h2, h3, h4, h5, h6, h7, h8, h9, h10⟩ := h
  obtain ⟨g1, g2, g3, g4, g5, g6, g7⟩ := g
  have g0 := g1 0 (by omega)
  exact ⟨h1.fr g2 (g1 2 (by omega)), h2.fr (by rw [g0]) (by rw [g0]) g4 (by rw [g6]), h3.fr (by rw [g0]) g5, h4.fr (by rw [g0]) (g1 5 (by omega)), h5.fr4 (by rw [g6]) g3, by unfold CDra; rw [g6]; exact h6, h7.fr fun a q1 q2 => g1 a (by omega), h8.fr (by rw [g0]) fun a q1 q2 => g1 a (by omega), h9.fr fun a q1 q2 => g1 a (by omega), h10.fr (by rw [g1 516 (by omega)]) (g1 527 (by omega)) (g1 528 (by omega)) (g1 529 (by omega))⟩
