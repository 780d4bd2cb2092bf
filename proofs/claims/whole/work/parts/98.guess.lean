/-! desires, ask: what would come in, by desire -/
def kD (K : Cy) (b v : Nat) : Cy := (K.1, cR K, cW K, cF K, cL K, cV K, upd (cD K) b (nI v))
theorem kD_ok {K : Cy} {b v : Nat} (hK : CyOk K) (hv : v ≤ 9) : CyOk (kD K b v) := by
  obtain ⟨h1, h2, h3, h4, h5, h6, h7⟩ := hK
  refine ⟨h1, h2, h3, h4, h5, fun u hu => ?_, h7⟩
  show ∃ p, p < 10 ∧ upd (cD K) b (nI v) u = nI p
  rw [upd_at]
  by_cases q : u = b
  · rw [if_pos q]; exact ⟨v, by omega, rfl⟩
  · rw [if_neg q]; exact h6 u hu
def twS (w : Rw) : Int32 := w 129 + dueA (fun k => w (30 + k)) (mny w)
def toS (K : Cy) (b v n : Nat) : Int32 := twS (itH (kD K b v) (laS K) n)
theorem itH_s (K : Cy) (w : Rw) (n : Nat) : itH K w (n + 1) = paH K (itH K w n) := rfl
/-! what was seen, and what fits it -/
def okS (s : Nat × Rw) (to : Nat → Int32) (i : Nat) : Bool := if to (s.2 (3 * i)).toNatClampNeg < s.2 (3 * i + 1) then decide (s.2 (3 * i + 2) = 0) else decide (s.2 (3 * i + 2) = 1)
def liS (s : Nat × Rw) (to : Nat → Int32) : Nat → Bool
  | 0 => true
  | n + 1 => liS s to n && okS s to n
theorem liS_no {s : Nat × Rw} {to : Nat → Int32} {i : Nat} (h : okS s to i = false) : ∀ n, i < n → liS s to n = false := by
  intro n
  induction n with
  | zero => intro q; omega
  | succ n ih =>
    intro q
    show (liS s to n && okS s to n) = false
    by_cases e : i = n
    · subst e; rw [h, Bool.and_false]
    · rw [ih (by omega), Bool.false_and]
theorem liS_s {s : Nat × Rw} {to : Nat → Int32} {n : Nat} : liS s to (n + 1) = (liS s to n && okS s to n) := rfl
def fiS (A : Gh) (b v : Nat) : Bool := liS (gS A) (toS (gK A) b v) (gS A).1
/-! the class's frame -/
def GE (σ σ' : Mem) : Prop := (∀ a, ¬ ((517 ≤ a ∧ a < 527) ∨ a = 530) → ¬ (a = 429 ∨ (540 ≤ a ∧ a < 555 ∧ a % 3 = 2)) → mI σ' a = mI σ a) ∧ mL σ' = mL σ ∧ mR σ' = mR σ
theorem GE.refl (σ : Mem) : GE σ σ := ⟨fun _ _ _ => rfl, rfl, rfl⟩
theorem GE.trans {σ σ1 σ2 : Mem} (h : GE σ σ1) (g : GE σ1 σ2) : GE σ σ2 := ⟨fun a h1 h2 => (g.1 a h1 h2).trans (h.1 a h1 h2), g.2.1.trans h.2.1, g.2.2.trans h.2.2⟩
theorem GE_cx {σ σ' : Mem} (h : CX 517 σ σ') : GE σ σ' := ⟨fun a h1 h2 => h.1 a (by omega) h2, h.2⟩
theorem GE_sI {σ : Mem} {a k : Nat} {v : Int32} (ha : (517 ≤ a ∧ a < 527) ∨ a = 530) : GE σ (sI σ a k v) := ⟨fun c h1 _ => row_ne (fun q => h1 (by omega)), rfl, rfl⟩
theorem SC_ge {A : Gh} {σ σ' : Mem} (hA : gOk A) (h : CRel σ A) (g : GE σ σ') : SC (gL A).1 (gD A).1 σ σ' := SC_of hA.2.1.1 hA.2.2.1.1 h.2.2.2.2.2.1.c (fun a ha => g.1 a (by omega) (by omega)) g.2.1 g.2.2
theorem ok517 : OkO 517 := ⟨by omega, by decide +kernel⟩
theorem RS_kD {σ : Mem} {K : Cy} {b v : Nat} {w : Rw} (h : RS σ 517 K w) (hb : b < cB K) : RS (sI σ 524 b (nI v)) 517 (kD K b v) w := by
  obtain ⟨h1, h2, h3, h4, h5, h6, h7⟩ := h
  have e : ∀ a, a ≠ 524 → mI (sI σ 524 b (nI v)) a = mI σ a := fun a ha => row_ne ha
  unfold RS
  rw [e 517 (by omega), e (517 + 1) (by omega), e (517 + 2) (by omega), e (517 + 3) (by omega), e (517 + 4) (by omega), e (517 + 5) (by omega), e (517 + 6) (by omega), e (517 + 8) (by omega)]
  refine ⟨h1, h2, h3, fun c hc => ⟨(h4 c hc).1, ?_⟩, h5, h6, h7⟩
  show mI (sI σ 524 b (nI v)) 524 c = upd (cD K) b (nI v) c
  rw [row_sI, upd_at, upd_at, (h4 c hc).2]
theorem twS_class {σ : Mem} {o N : Nat} {K : Cy} {w : Rw} (hr : RS σ o K w) (hw : Wf (cT K) (cB K) N w) : ∃ d, f_State_dueOfAll σ o = some d ∧ mI σ o 13 + d = twS w := by
  obtain ⟨n, n1, n2, -⟩ := hw.1
  refine ⟨_, dueA_RS hr n1 n2, ?_⟩
  unfold twS
  rw [hr.2.2.2.2.2.1.2.2.2.1, mny_eq n1 n2]
def ToC (A : Gh) (b H v i : Nat) (σ : Mem) : Prop := ∀ u n, 1 ≤ n → ((u < v ∧ n ≤ H) ∨ (u = v ∧ n ≤ i)) → mI σ 530 (61 * u + n) = toS (gK A) b u n
theorem fore_in {A : Gh} {σ : Mem} {b H v : Nat} {x2 : Int32} (hA : gOk A) (hc : hasC A) (hC : CRel σ A) (hv : v ≤ 9) (hH : H ≤ 60) (hr : RS σ 517 (kD (gK A) b v) (laS (gK A))) (ht : ToC A b H v 0 σ) : ∃ σ', loopF (f_Guess_foretell_L35 x2 (nI H) (nI v)) FU (σ, 1) = some σ' ∧ GE σ σ' ∧ ToC A b H (v + 1) 0 σ' := by
  have hK := kD_ok (b := b) hc.2.2.1 hv
  have wf0 : Wf (cT (kD (gK A) b v)) (cB (kD (gK A) b v)) 1 (laS (gK A)) := (laS_wf hc.2.2.1 : Wf (cT (gK A)) (cB (gK A)) 1 (laS (gK A)))
  obtain ⟨σ', k1, k2, k3⟩ := loopF_go (step := f_Guess_foretell_L35 x2 (nI H) (nI v)) (a := (σ, (1 : Int32))) (fun i s => s.2 = nI (1 + i) ∧ GE σ s.1 ∧ RS s.1 517 (kD (gK A) b v) (itH (kD (gK A) b v) (laS (gK A)) i) ∧ ToC A b H v i s.1) (fun r => GE σ r ∧ ToC A b H (v + 1) 0 r) H ⟨rfl, GE.refl _, hr, ht⟩ (by omega) (by
    rintro i ⟨τ, z⟩ hi ⟨e1, e2, e3, e4⟩
    simp only at e1 e2 e3 e4
    subst e1
    have c1 := hC.scr (SC_ge hA hC e2)
    unfold f_Guess_foretell_L35
    dsimp only
    by_cases hlt : i < H
    · obtain ⟨τ2, g1, g2, -⟩ := Trade_passHour (K := kD (gK A) b v) hA.J hK c1.k ok517 c1.j e3 (itH_wf hK wf0 i) (by omega)
      have wf1 := itH_wf hK wf0 (i + 1)
      obtain ⟨d, d1, d2⟩ := twS_class g2.1 wf1
      have hix : (nI v * (61 : Int32)) + nI (1 + i) = nI (61 * v + (1 + i)) := by rw [show (61 : Int32) = nI 61 from rfl, pk_mul, nI_add, Nat.mul_comm]
      have e530 : mI τ2 530 = mI τ 530 := g2.2.1.1 530 (by omega) (by omega)
      rw [if_neg (show ¬ nI H < nI (1 + i) from nI_nlt (by omega) (by omega)), if_neg (show ¬ (61 : Int32) ≤ nI (1 + i) from nI_ge (b := 61) (by omega) (by omega)), g1, Option.bind_some, d1, Option.bind_some, hix, if_pos (inb_nI (by omega) (by decide)), nI_clamp (by omega), d2, nI_1]
      refine exL ⟨hlt, rfl, (e2.trans (GE_cx g2.2.1)).trans (GE_sI (Or.inr rfl)), g2.1.fr fun a h1 h2 => row_ne (by omega), fun u n n1 h => ?_⟩
      rw [row_sI, upd_at, e530]
      by_cases e : 61 * u + n = 61 * v + (1 + i)
      · have : u = v ∧ n = i + 1 := by omega
        rw [if_pos e, this.1, this.2]
        rfl
      · rw [if_neg e]
        exact e4 u n n1 (by omega)
    · have : i = H := by omega
      subst this
      rw [if_pos (show nI i < nI (1 + i) from nI_lt (by omega) (by omega))]
      exact exR ⟨e2, fun u n n1 h => e4 u n n1 (by omega)⟩)
  exact ⟨σ', k1, k2, k3⟩
theorem fore_class {A : Gh} {σ : Mem} {b H : Nat} (hA : gOk A) (hc : hasC A) (hC : CRel σ A) (hb : b < cB (gK A)) (hH : H ≤ 60) : ∃ σ', f_Guess_foretell σ (nI b) (nI H) = some σ' ∧ GE σ σ' ∧ ToC A b H 10 0 σ' := by
  have t8 := hA.T8
  have b6 := hA.B6
  refine loopF_go (step := f_Guess_foretell_L3 (nI b) (nI H)) (a := (σ, (0 : Int32))) (fun i s => s.2 = nI i ∧ GE σ s.1 ∧ ToC A b H i 0 s.1) (fun r => GE σ r ∧ ToC A b H 10 0 r) 10 ⟨rfl, GE.refl _, fun u n n1 h => by omega⟩ (by omega) ?_
  rintro i ⟨τ, z⟩ hi ⟨e1, e2, e3⟩
  simp only at e1 e2 e3
  subst e1
  have c1 := hC.scr (SC_ge hA hC e2)
  unfold f_Guess_foretell_L3
  dsimp only
  by_cases hlt : i < 10
  · obtain ⟨τ2, g1, g2, -, g4⟩ := State_beginAs ok517 c1.k t8 b6 hA.2.2.2.2.1 hA.2.2.2.2.2.1
    have ge1 : GE τ (sI τ2 524 b (nI i)) := (GE_cx g4).trans (GE_sI (by omega))
    have c2 := c1.scr (SC_ge hA c1 ge1)
    obtain ⟨τ3, k1, k2, k3⟩ := fore_in (x2 := nI b) hA hc c2 (show i ≤ 9 by omega) hH (RS_kD g2 hb) (fun u n n1 h => by
      rw [row_ne (by omega), g4.1 530 (by omega) (by omega)]
      exact e3 u n n1 h)
    rw [if_neg (show ¬ (10 : Int32) ≤ nI i from nI_ge (b := 10) hlt (by omega)), if_pos c1.k.1, g1, Option.bind_some, if_pos (inb_nI (show b < 6 by omega) (by decide)), nI_clamp (by omega), k1, Option.bind_some, nI_1]
    exact exL ⟨hlt, rfl, (e2.trans ge1).trans k2, k3⟩
  · have : i = 10 := by omega
    subst this
    rw [if_pos (show (10 : Int32) ≤ nI 10 by decide)]
    exact exR ⟨e2, e3⟩
/-! what the class makes of it -/
theorem seen_ok {A : Gh} (hc : hasC A) {i : Nat} (hi : i < (gS A).1) : ∃ n, 1 ≤ n ∧ n ≤ 60 ∧ (gS A).2 (3 * i) = nI n ∧ ((gS A).2 (3 * i + 2) = 0 ∨ (gS A).2 (3 * i + 2) = 1) := by
  obtain ⟨⟨n, n1, n2, n3⟩, h⟩ := hc.2.2.2.2.2.2 i hi
  exact ⟨n, n1, n2, n3, h⟩
theorem fits_class {A : Gh} {σ : Mem} {b H v : Nat} (hA : gOk A) (hc : hasC A) (hC : CRel σ A) (ht : ToC A b H 10 0 σ) (hv : v < 10) (hs : ∀ i, i < (gS A).1 → ((gS A).2 (3 * i)).toNatClampNeg ≤ H) : f_Guess_fits σ (nI v) = some (if fiS A b v = true then 1 else 0) := by
  obtain ⟨s1, s2⟩ := hC.2.2.2.2.2.2.2.2.2
  have s10 : (gS A).1 ≤ 10 := hA.2.2.2.2.2.2.2.2.1
  obtain ⟨r, g1, g2⟩ := loopF_go (step := f_Guess_fits_L2 σ (nI v)) (a := (0 : Int32)) (fun i s => s = nI i ∧ liS (gS A) (toS (gK A) b v) i = true) (fun r => r = if fiS A b v = true then 1 else 0) (gS A).1 ⟨rfl, rfl⟩ (by omega) (by
    rintro i z hi ⟨e1, e2⟩
    subst e1
    unfold f_Guess_fits_L2
    rw [s1]
    by_cases hlt : i < (gS A).1
    · obtain ⟨n, n1, n2, n3, h01⟩ := seen_ok hc hlt
      obtain ⟨q1, q2, q3⟩ := s2 i hlt
      have hn := hs i hlt
      rw [n3, nI_clamp (by omega)] at hn
      have hix : (nI v * (61 : Int32)) + nI n = nI (61 * v + n) := by rw [show (61 : Int32) = nI 61 from rfl, pk_mul, nI_add, Nat.mul_comm]
      rw [if_neg (nI_ge hlt (by omega)), if_pos (inb_nI (show i < 10 by omega) (by decide)), nI_clamp (show i < 2 ^ 31 by omega), q1, n3, hix, if_pos (inb_nI (by omega) (by decide)), nI_clamp (show 61 * v + n < 2 ^ 31 by omega), ht v n n1 (by omega), q2, q3, nI_1]
      have ok : okS (gS A) (toS (gK A) b v) i = if toS (gK A) b v n < (gS A).2 (3 * i + 1) then decide ((gS A).2 (3 * i + 2) = 0) else decide ((gS A).2 (3 * i + 2) = 1) := by
        unfold okS
        rw [n3, nI_clamp (by omega)]
      have yes : okS (gS A) (toS (gK A) b v) i = true → ∃ r, (some (Sum.inl (nI (i + 1))) : Option (Int32 ⊕ Int32)) = some r ∧ Sum.elim (fun s => i < (gS A).1 ∧ s = nI (i + 1) ∧ liS (gS A) (toS (gK A) b v) (i + 1) = true) (fun r => r = if fiS A b v = true then 1 else 0) r := fun q => exL ⟨hlt, rfl, by rw [liS_s, e2, q]; rfl⟩
      have not : okS (gS A) (toS (gK A) b v) i = false → ∃ r, (some (Sum.inr (0 : Int32)) : Option (Int32 ⊕ Int32)) = some r ∧ Sum.elim (fun s => i < (gS A).1 ∧ s = nI (i + 1) ∧ liS (gS A) (toS (gK A) b v) (i + 1) = true) (fun r => r = if fiS A b v = true then 1 else 0) r := fun q => exR (by unfold fiS; rw [liS_no q _ hlt]; rfl)
      by_cases q : toS (gK A) b v n < (gS A).2 (3 * i + 1)
      · rw [if_pos q] at ok ⊢
        by_cases p : (gS A).2 (3 * i + 2) = 0
        · rw [if_pos p.symm]
          exact yes (by rw [ok]; exact decide_eq_true p)
        · rw [if_neg (fun h => p h.symm)]
          exact not (by rw [ok]; exact decide_eq_false p)
      · rw [if_neg q] at ok ⊢
        by_cases p : (gS A).2 (3 * i + 2) = 1
        · rw [if_pos p.symm]
          exact yes (by rw [ok]; exact decide_eq_true p)
        · rw [if_neg (fun h => p h.symm)]
          exact not (by rw [ok]; exact decide_eq_false p)
    · have : i = (gS A).1 := by omega
      subst this
      rw [if_pos (nI_le (Nat.le_refl _) (by omega))]
      exact exR (by unfold fiS; rw [e2]; rfl))
  unfold f_Guess_fits
  rw [g1, g2]
theorem fitting_class {A : Gh} {σ : Mem} {b H : Nat} (hA : gOk A) (hc : hasC A) (hC : CRel σ A) (ht : ToC A b H 10 0 σ) (hs : ∀ i, i < (gS A).1 → ((gS A).2 (3 * i)).toNatClampNeg ≤ H) : f_Guess_fitting σ = some (mkS (fiS A b) 10) := by
  refine mk_loop (by omega) (fun i hi => ?_) ?_
  · unfold f_Guess_fitting_L4
    dsimp only
    rw [if_neg (show ¬ (10 : Int32) ≤ nI i from nI_ge (b := 10) hi (by omega)), fits_class hA hc hC ht hi hs, Option.bind_some, nI_1]
    cases h : fiS A b i with
    | true => rw [if_pos rfl, if_neg (by decide), mkS_t h]
    | false => rw [if_pos (show (if false = true then (1 : Int32) else 0) = 0 from rfl), mkS_f h]
  · unfold f_Guess_fitting_L4
    dsimp only
    rw [if_pos (show (10 : Int32) ≤ nI 10 by decide)]
theorem latest_class {A : Gh} {σ : Mem} (hA : gOk A) (hc : hasC A) (hC : CRel σ A) : ∃ H, H ≤ 60 ∧ f_Guess_latestSeen σ = some (nI H) ∧ ∀ i, i < (gS A).1 → ((gS A).2 (3 * i)).toNatClampNeg ≤ H := by
  obtain ⟨s1, s2⟩ := hC.2.2.2.2.2.2.2.2.2
  have s10 : (gS A).1 ≤ 10 := hA.2.2.2.2.2.2.2.2.1
  obtain ⟨r, g1, H, g2, g3, g4⟩ := loopF_go (step := f_Guess_latestSeen_L4 σ) (a := ((0 : Int32), (0 : Int32))) (fun i s => s.2 = nI i ∧ ∃ H, H ≤ 60 ∧ s.1 = nI H ∧ ∀ j, j < i → ((gS A).2 (3 * j)).toNatClampNeg ≤ H) (fun r => ∃ H, H ≤ 60 ∧ r = nI H ∧ ∀ j, j < (gS A).1 → ((gS A).2 (3 * j)).toNatClampNeg ≤ H) (gS A).1 ⟨rfl, 0, by omega, rfl, fun j hj => by omega⟩ (by omega) (by
    rintro i ⟨x, z⟩ hi ⟨e1, H, e2, e3, e4⟩
    simp only at e1 e3
    subst e1; subst e3
    unfold f_Guess_latestSeen_L4
    dsimp only
    rw [s1]
    by_cases hlt : i < (gS A).1
    · obtain ⟨n, n1, n2, n3, -⟩ := seen_ok hc hlt
      rw [if_neg (nI_ge hlt (by omega)), if_pos (inb_nI (show i < 10 by omega) (by decide)), nI_clamp (show i < 2 ^ 31 by omega), (s2 i hlt).1, n3, nI_1]
      have hm : imax (nI H) (nI n) = nI (max H n) := by
        unfold imax
        by_cases q : H < n
        · rw [if_pos (nI_lt q (by omega)), Nat.max_eq_right (by omega)]
        · rw [if_neg (nI_nlt (by omega) (by omega)), Nat.max_eq_left (by omega)]
      rw [hm]
      refine exL ⟨hlt, rfl, max H n, by omega, rfl, fun j hj => ?_⟩
      by_cases e : j = i
      · rw [e, n3, nI_clamp (by omega)]; omega
      · have := e4 j (by omega); omega
    · have : i = (gS A).1 := by omega
      subst this
      rw [if_pos (nI_le (Nat.le_refl _) (by omega))]
      exact exR ⟨H, e2, rfl, e4⟩)
  exact ⟨H, g2, by unfold f_Guess_latestSeen; rw [g1, g3], g4⟩
