/-! desires: the reference -/
theorem ME.s {A : Gh} {σ τ : Mem} {a k : Nat} {v : Int32} (hA : gOk A) (h : ME A σ τ) (ha : a = 586 ∨ a = 587) : ME A σ (sI τ a k v) :=
  ⟨fun c c1 c2 c3 c4 c5 c6 c7 => (row_ne (by omega)).trans (h.1 c c1 c2 c3 c4 c5 c6 c7), fun j hj => by rw [row_ne (by omega)]; exact h.2.1 j hj, h.2.2.1, h.2.2.2.1, hA.I.1 τ _ h.2.2.2.2 ⟨row_ne (by omega), row_ne (by omega), rfl, row_ne (by omega), by rw [row_ne (by omega)]⟩⟩
theorem ME.f {A : Gh} {σ τ τ' : Mem} (hA : gOk A) (h : ME A σ τ) (g : FX 579 τ τ') : ME A σ τ' :=
  ⟨fun c c1 c2 c3 c4 c5 c6 c7 => (g.1 c c3).trans (h.1 c c1 c2 c3 c4 c5 c6 c7), fun j hj => by rw [g.1 565 (by omega)]; exact h.2.1 j hj, fun c hc => by rw [g.2.1]; exact h.2.2.1 c hc, fun c k hck => by rw [g.2.2]; exact h.2.2.2.1 c k hck, hA.I.1 τ _ h.2.2.2.2 ⟨g.1 _ (by omega), g.1 _ (by omega), by rw [g.2.1], g.1 _ (by omega), by rw [g.1 565 (by omega)]⟩⟩
def DI (A : Gh) (σ : Mem) (b v : Nat) (τ : Mem) : Prop := ME A σ τ ∧ mI τ 565 39 = nI b ∧ mI τ 565 40 = nI v ∧ mI τ 565 41 = -1
theorem DI.mk {A : Gh} {σ τ : Mem} {b v : Nat} (hA : gOk A) (hM : MRel σ A) (h : DI A σ b v τ) (hb : b < cB (gK A)) : MK τ (kD (gK A) b v) := by
  have t8 := hA.T8
  have b6 := hA.B6
  obtain ⟨hm, h39, h40, h41⟩ := h
  obtain ⟨q1, q2, q3, q4, q5, q6, q7⟩ := hM.k
  refine ⟨by rw [hm.2.1 26 (by omega)]; exact q1, by rw [hm.2.1 27 (by omega)]; exact q2, by rw [hm.1 570 (by omega) (by omega) (by omega) (by omega) (by omega) (by omega) (by omega)]; exact q3, by rw [hm.1 572 (by omega) (by omega) (by omega) (by omega) (by omega) (by omega) (by omega)]; exact q4, by rw [hm.1 574 (by omega) (by omega) (by omega) (by omega) (by omega) (by omega) (by omega)]; exact q5, fun u hu => ?_, fun u hu => ?_⟩
  · have hu : u < cT (gK A) := hu
    rw [h41, if_neg (nI_ne_m1 (by omega))]
    exact hA.2.2.2.2.1 u hu
  · have hu : u < cB (gK A) := hu
    rw [h39, h40]
    show upd (cD (gK A)) b (nI v) u = _
    rw [upd_at]
    by_cases e : u = b
    · rw [if_pos e, if_pos (by rw [e])]
    · rw [if_neg e, if_neg (fun q => e ((nI_eq (by omega) (by omega)).mp q))]
      exact hA.2.2.2.2.2.1 u hu
theorem twS_model {τ : Mem} {N : Nat} {K : Cy} {w : Rw} (ha : Ag (mI τ 579) w) (hw : Wf (cT K) (cB K) N w) : ∃ d, f_Model_allDue τ 579 = some d ∧ mI τ 579 129 + d = twS w := by
  obtain ⟨n, n1, n2, -⟩ := hw.1
  refine ⟨_, Model_allDue (n := n) (by decide +kernel) ((ha 126 (by omega)).trans n2) n1, ?_⟩
  unfold twS
  rw [ha 129 (by omega), mny_eq n1 n2, dueA_congr n fun i hi => ha (30 + i) (by omega)]
def ToM (A : Gh) (b v i : Nat) (τ : Mem) : Prop := ∀ u n, 1 ≤ n → ((u < v ∧ n ≤ 60) ∨ (u = v ∧ n ≤ i)) → mI τ 586 (61 * u + n) = toS (gK A) b u n
theorem des_hours {A : Gh} {σ τ : Mem} {b v : Nat} {x1 y2 : Int32} (hA : gOk A) (hc : hasC A) (hM : MRel σ A) (hb : b < cB (gK A)) (hv : v ≤ 9) (hd : DI A σ b v τ) (ha : Ag (mI τ 579) (laS (gK A))) (ht : ToM A b v 0 τ) : ∃ τ', loopF (f_Model_laysDesires_L31 x1 y2 (nI v)) FU (τ, 1) = some τ' ∧ DI A σ b v τ' ∧ ToM A b (v + 1) 0 τ' ∧ mI τ' 587 = mI τ 587 := by
  have hK := kD_ok (b := b) hc.2.2.1 hv
  have wf0 : Wf (cT (kD (gK A) b v)) (cB (kD (gK A) b v)) 1 (laS (gK A)) := (laS_wf hc.2.2.1 : Wf (cT (gK A)) (cB (gK A)) 1 (laS (gK A)))
  refine loopF_go (step := f_Model_laysDesires_L31 x1 y2 (nI v)) (a := (τ, (1 : Int32))) (fun i s => s.2 = nI (1 + i) ∧ DI A σ b v s.1 ∧ Ag (mI s.1 579) (itH (kD (gK A) b v) (laS (gK A)) i) ∧ ToM A b v i s.1 ∧ mI s.1 587 = mI τ 587) (fun r => DI A σ b v r ∧ ToM A b (v + 1) 0 r ∧ mI r 587 = mI τ 587) 60 ⟨rfl, hd, ha, ht, rfl⟩ (by omega) ?_
  rintro i ⟨ρ, z⟩ hi ⟨e1, e2, e3, e4, e5⟩
  simp only at e1 e2 e3 e4 e5
  subst e1
  unfold f_Model_laysDesires_L31
  dsimp only
  by_cases hlt : i < 60
  · have tr : TR A ρ (itH (kD (gK A) b v) (laS (gK A)) i) ρ := ⟨e3, MX.refl _ _, e2.1.2.2.2.2⟩
    obtain ⟨ρ2, g1, g2, g3⟩ := TR_hour (K := kD (gK A) b v) rfl hA hK (e2.mk hA hM hb) tr (itH_wf hK wf0 i) (by omega)
    have wf1 := itH_wf hK wf0 (i + 1)
    obtain ⟨d, d1, d2⟩ := twS_model g2.1 wf1
    have hix : ((61 : Int32) * nI v) + nI (1 + i) = nI (61 * v + (1 + i)) := by rw [show (61 : Int32) = nI 61 from rfl, pk_mul, nI_add]
    have e586 : mI ρ2 586 = mI ρ 586 := g3.1 586 (by omega) (by omega) (by omega) (by omega) (by omega)
    have e587 : mI ρ2 587 = mI ρ 587 := g3.1 587 (by omega) (by omega) (by omega) (by omega) (by omega)
    rw [if_neg (show ¬ (60 : Int32) < nI (1 + i) from nI_nlt (a := 60) (by omega) (by omega)), g1, Option.bind_some, d1, Option.bind_some, hix, if_pos (inb_nI (by omega) (by decide)), nI_clamp (by omega), show (129 : Int32).toNatClampNeg = 129 from rfl, d2, nI_1]
    refine exL ⟨hlt, rfl, ⟨(e2.1.mx g2).s hA (Or.inl rfl), ?_, ?_, ?_⟩, ?_, fun u n n1 h => ?_, ?_⟩
    · rw [row_ne (by omega), g3.2.2.2 39 (by omega)]; exact e2.2.1
    · rw [row_ne (by omega), g3.2.2.2 40 (by omega)]; exact e2.2.2.1
    · rw [row_ne (by omega), g3.2.2.2 41 (by omega)]; exact e2.2.2.2
    · rw [row_ne (by omega)]; exact g2.1
    · rw [row_sI, upd_at, e586]
      by_cases e : 61 * u + n = 61 * v + (1 + i)
      · have : u = v ∧ n = i + 1 := by omega
        rw [if_pos e, this.1, this.2]
        rfl
      · rw [if_neg e]
        exact e4 u n n1 (by omega)
    · rw [row_ne (by omega), e587]; exact e5
  · have : i = 60 := by omega
    subst this
    rw [if_pos (show (60 : Int32) < nI (1 + 60) by decide)]
    exact exR ⟨e2, fun u n n1 h => e4 u n n1 (by omega), e5⟩
def b01 (p : Bool) : Int32 := if p = true then 1 else 0
theorem nb0 : vp_nar .boolean (0 : Int32) = 0 := rfl
theorem nb1 : vp_nar .boolean (1 : Int32) = 1 := rfl
theorem des_like {A : Gh} {σ τ : Mem} {b v : Nat} {x1 y2 : Int32} (hA : gOk A) (hc : hasC A) (hM : MRel σ A) (hv : v ≤ 9) (hd : DI A σ b v τ) (ht : ToM A b (v + 1) 0 τ) (h1 : mI τ 587 v = 1) : ∃ τ', loopF (f_Model_laysDesires_L90 x1 y2 (nI v)) FU (τ, 0) = some τ' ∧ DI A σ b v τ' ∧ ToM A b (v + 1) 0 τ' ∧ mI τ' 587 v = b01 (fiS A b v) ∧ ∀ u, u ≠ v → mI τ' 587 u = mI τ 587 u := by
  have s10 : (gS A).1 ≤ 10 := hA.2.2.2.2.2.2.2.2.1
  obtain ⟨sm1, sm2⟩ := hM.2.2.2.2.2.2.2.2.2
  refine loopF_go (step := f_Model_laysDesires_L90 x1 y2 (nI v)) (a := (τ, (0 : Int32))) (fun i s => s.2 = nI (3 * i) ∧ DI A σ b v s.1 ∧ ToM A b (v + 1) 0 s.1 ∧ mI s.1 587 v = b01 (liS (gS A) (toS (gK A) b v) i) ∧ ∀ u, u ≠ v → mI s.1 587 u = mI τ 587 u) (fun r => DI A σ b v r ∧ ToM A b (v + 1) 0 r ∧ mI r 587 v = b01 (fiS A b v) ∧ ∀ u, u ≠ v → mI r 587 u = mI τ 587 u) (gS A).1 ⟨rfl, hd, ht, h1, fun _ _ => rfl⟩ (by omega) ?_
  rintro i ⟨ρ, z⟩ hi ⟨e1, e2, e3, e4, e5⟩
  simp only at e1 e2 e3 e4 e5
  subst e1
  have z3 : nI (3 * i) + (3 : Int32) = nI (3 * (i + 1)) := by rw [show (3 : Int32) = nI 3 from rfl, nI_add, Nat.mul_add]
  have go : ∀ p : Bool, liS (gS A) (toS (gK A) b v) (i + 1) = p → i < (gS A).1 → ∃ r, (some (Sum.inl (sI ρ 587 v (b01 p), nI (3 * (i + 1)))) : Option ((Mem × Int32) ⊕ Mem)) = some r ∧ Sum.elim (fun s => i < (gS A).1 ∧ s.2 = nI (3 * (i + 1)) ∧ DI A σ b v s.1 ∧ ToM A b (v + 1) 0 s.1 ∧ mI s.1 587 v = b01 (liS (gS A) (toS (gK A) b v) (i + 1)) ∧ ∀ u, u ≠ v → mI s.1 587 u = mI τ 587 u) (fun r => DI A σ b v r ∧ ToM A b (v + 1) 0 r ∧ mI r 587 v = b01 (fiS A b v) ∧ ∀ u, u ≠ v → mI r 587 u = mI τ 587 u) r := fun p hp hlt => by
    refine exL ⟨hlt, rfl, ⟨e2.1.s hA (Or.inr rfl), ?_, ?_, ?_⟩, fun u n n1 h => ?_, ?_, fun u hu => ?_⟩
    · rw [row_ne (by omega)]; exact e2.2.1
    · rw [row_ne (by omega)]; exact e2.2.2.1
    · rw [row_ne (by omega)]; exact e2.2.2.2
    · rw [row_ne (by omega)]; exact e3 u n n1 h
    · rw [row_sI, upd_self, hp]
    · rw [row_sI, upd_ne hu]; exact e5 u hu
  unfold f_Model_laysDesires_L90
  dsimp only
  rw [e2.1.2.1 51 (by omega), sm1, show (3 : Int32) * nI (gS A).1 = nI (3 * (gS A).1) by rw [show (3 : Int32) = nI 3 from rfl, pk_mul]]
  by_cases hlt : i < (gS A).1
  · obtain ⟨n, n1, n2, n3, h01⟩ := seen_ok hc hlt
    have r585 : mI ρ 585 = mI σ 585 := e2.1.1 585 (by omega) (by omega) (by omega) (by omega) (by omega) (by omega) (by omega)
    have q1 : mI ρ 585 (3 * i) = nI n := by rw [r585, sm2 _ (by omega)]; exact n3
    have q2 : mI ρ 585 (3 * i + 1) = (gS A).2 (3 * i + 1) := by rw [r585, sm2 _ (by omega)]
    have q3 : mI ρ 585 (3 * i + 2) = (gS A).2 (3 * i + 2) := by rw [r585, sm2 _ (by omega)]
    have hix : ((61 : Int32) * nI v) + nI n = nI (61 * v + n) := by rw [show (61 : Int32) = nI 61 from rfl, pk_mul, nI_add]
    have hi1 : nI (3 * i) + (1 : Int32) = nI (3 * i + 1) := nI_1 _
    have hi2 : nI (3 * i) + (2 : Int32) = nI (3 * i + 2) := by rw [show (2 : Int32) = nI 2 from rfl, nI_add]
    have ok : okS (gS A) (toS (gK A) b v) i = if toS (gK A) b v n < (gS A).2 (3 * i + 1) then decide ((gS A).2 (3 * i + 2) = 0) else decide ((gS A).2 (3 * i + 2) = 1) := by
      unfold okS
      rw [n3, nI_clamp (by omega)]
    rw [if_neg (show ¬ nI (3 * (gS A).1) ≤ nI (3 * i) from nI_ge (by omega) (by omega)), if_pos (inb_nI (show v < 10 by omega) (by decide)), nI_clamp (show v < 2 ^ 31 by omega), e4, nb0, nb1, z3, hi1, hi2]
    cases hl : liS (gS A) (toS (gK A) b v) i with
    | false =>
      rw [if_pos (show b01 false = 0 from rfl)]
      exact go false (by rw [liS_s, hl]; rfl) hlt
    | true =>
      rw [if_neg (show ¬ b01 true = 0 by decide), if_pos (inb_nI (show 3 * i < 30 by omega) (by decide)), nI_clamp (show 3 * i < 2 ^ 31 by omega), q1, hix, if_pos (inb_nI (by omega) (by decide)), nI_clamp (show 61 * v + n < 2 ^ 31 by omega), e3 v n n1 (by omega), if_pos (inb_nI (show 3 * i + 1 < 30 by omega) (by decide)), nI_clamp (show 3 * i + 1 < 2 ^ 31 by omega), q2, if_pos (inb_nI (show 3 * i + 2 < 30 by omega) (by decide)), if_pos (inb_nI (show 3 * i + 2 < 30 by omega) (by decide)), nI_clamp (show 3 * i + 2 < 2 ^ 31 by omega), q3, if_neg (show ¬ (0 : Int32) = 1 by decide), if_pos (show (0 : Int32) = 0 from rfl), if_pos (show (1 : Int32) = 1 from rfl), if_neg (show ¬ (1 : Int32) = 0 by decide)]
      by_cases q : toS (gK A) b v n < (gS A).2 (3 * i + 1)
      · rw [if_pos q] at ok ⊢
        rcases h01 with p | p
        · rw [p, if_neg (show ¬ (0 : Int32) = 1 by decide)]
          exact go true (by rw [liS_s, hl, ok, p]; rfl) hlt
        · rw [p, if_pos (show (1 : Int32) = 1 from rfl)]
          exact go false (by rw [liS_s, hl, ok, p]; rfl) hlt
      · rw [if_neg q] at ok ⊢
        rcases h01 with p | p
        · rw [p, if_neg (show ¬ (0 : Int32) = 1 by decide)]
          exact go false (by rw [liS_s, hl, ok, p]; rfl) hlt
        · rw [p, if_pos (show (1 : Int32) = 1 from rfl)]
          exact go true (by rw [liS_s, hl, ok, p]; rfl) hlt
  · have : i = (gS A).1 := by omega
    subst this
    rw [if_pos (nI_le (Nat.le_refl _) (by omega))]
    exact exR ⟨e2, e3, e4, e5⟩
def ctS (f : Nat → Bool) : Nat → Nat
  | 0 => 0
  | n + 1 => ctS f n + if f n = true then 1 else 0
/-- what the reference has found of each desire -/
def DeM (A : Gh) (b : Nat) (σ : Mem) : Prop := ToM A b 10 0 σ ∧ ∀ v, v < 10 → mI σ 587 v = b01 (fiS A b v)
theorem des_model {A : Gh} {σ : Mem} {b : Nat} (hA : gOk A) (hc : hasC A) (hM : MRel σ A) (hb : b < cB (gK A)) : ∃ σ', f_Model_laysDesires σ (nI b) = some (nI (ctS (fiS A b) 10), σ') ∧ SM (gL A).1 (gL A).2.1 σ σ' ∧ DeM A b σ' := by
  have t8 := hA.T8
  have b6 := hA.B6
  have m := hM.2.2.2.2.2.1
  have me0 : ME A σ (sI σ 565 39 (nI b)) := (ME.refl hM).set hA (by omega)
  obtain ⟨⟨r, σ'⟩, k1, k2, k3, k4⟩ := loopF_go (step := f_Model_laysDesires_L9 (nI b)) (a := (sI σ 565 39 (nI b), (0 : Int32), (0 : Int32))) (fun i s => s.2.2 = nI i ∧ s.2.1 = nI (ctS (fiS A b) i) ∧ ME A σ s.1 ∧ mI s.1 565 39 = nI b ∧ mI s.1 565 41 = -1 ∧ ToM A b i 0 s.1 ∧ ∀ v, v < i → mI s.1 587 v = b01 (fiS A b v)) (fun r => r.1 = nI (ctS (fiS A b) 10) ∧ SM (gL A).1 (gL A).2.1 σ r.2 ∧ DeM A b r.2) 10 ⟨rfl, rfl, me0, by rw [row_sI, upd_self], by rw [row_sI, upd_ne (by omega)]; exact m.2, fun u n n1 h => by omega, fun v hv => by omega⟩ (by omega) (by
    rintro i ⟨τ, x, z⟩ hi ⟨e1, e2, e3, e4, e5, e6, e7⟩
    simp only at e1 e2 e3 e4 e5 e6 e7
    subst e1; subst e2
    unfold f_Model_laysDesires_L9
    dsimp only
    by_cases hlt : i < 10
    · have me1 : ME A σ (sI τ 565 40 (nI i)) := e3.set hA (by omega)
      have d1 : DI A σ b i (sI τ 565 40 (nI i)) := ⟨me1, by rw [row_sI, upd_ne (by omega)]; exact e4, by rw [row_sI, upd_self], by rw [row_sI, upd_ne (by omega)]; exact e5⟩
      have mk1 := d1.mk hA hM hb
      obtain ⟨τ2, g1, g2, g3⟩ := Model_lays (K := gK A) (σ := sI τ 565 40 (nI i)) (a := 579) (n := 131) (by decide +kernel) (by omega) (by omega) (Or.inr rfl) mk1.2.1 mk1.2.2.1 mk1.2.2.2.2.1 b6
      have d2 : DI A σ b i τ2 := ⟨me1.f hA g3, by rw [g3.1 565 (by omega)]; exact d1.2.1, by rw [g3.1 565 (by omega)]; exact d1.2.2.1, by rw [g3.1 565 (by omega)]; exact d1.2.2.2⟩
      obtain ⟨τ3, p1, p2, p3, p4⟩ := des_hours (x1 := nI b) (y2 := nI (ctS (fiS A b) i)) hA hc hM hb (show i ≤ 9 by omega) d2 (fun j hj => by rw [g2 j, if_pos hj]) (fun u n n1 h => by rw [g3.1 586 (by omega), row_ne (by omega)]; exact e6 u n n1 h)
      have d4 : DI A σ b i (sI τ3 587 i 1) := ⟨p2.1.s hA (Or.inr rfl), by rw [row_ne (by omega)]; exact p2.2.1, by rw [row_ne (by omega)]; exact p2.2.2.1, by rw [row_ne (by omega)]; exact p2.2.2.2⟩
      obtain ⟨τ5, q1, q2, q3, q4, q5⟩ := des_like (x1 := nI b) (y2 := nI (ctS (fiS A b) i)) hA hc hM (show i ≤ 9 by omega) d4 (fun u n n1 h => by rw [row_ne (by omega)]; exact p3 u n n1 h) (by rw [row_sI, upd_self])
      have ll : ∀ v, v < i + 1 → mI τ5 587 v = b01 (fiS A b v) := fun v hv => by
        by_cases e : v = i
        · rw [e]; exact q4
        · rw [q5 v e, row_sI, upd_ne e, p4, g3.1 587 (by omega), row_ne (by omega)]
          exact e7 v (by omega)
      rw [if_neg (show ¬ (9 : Int32) < nI i from nI_nlt (a := 9) (by omega) (by omega)), g1, Option.bind_some, p1, Option.bind_some, if_pos (inb_nI (show i < 10 by omega) (by decide)), nI_clamp (show i < 2 ^ 31 by omega), nb1, q1, Option.bind_some, q4, nI_1, nI_1]
      cases hf : fiS A b i with
      | false =>
        rw [if_pos (show b01 false = 0 from rfl)]
        exact exL ⟨hlt, rfl, by show nI (ctS (fiS A b) i) + 0 = nI (ctS (fiS A b) i + if fiS A b i = true then 1 else 0); rw [hf, Int32.add_zero]; rfl, q2.1, q2.2.1, q2.2.2.2, q3, ll⟩
      | true =>
        rw [if_neg (show ¬ b01 true = 0 by decide)]
        exact exL ⟨hlt, rfl, by show nI (ctS (fiS A b) i + 1) = nI (ctS (fiS A b) i + if fiS A b i = true then 1 else 0); rw [hf]; rfl, q2.1, q2.2.1, q2.2.2.2, q3, ll⟩
    · have : i = 10 := by omega
      subst this
      rw [if_pos (show (9 : Int32) < nI 10 by decide)]
      have me := e3.set (k := 39) (v := -1) hA (by omega)
      refine exR ⟨rfl, me.sm (by rw [row_sI, upd_self]; exact m.1.symm) (by rw [row_sI, upd_ne (by omega)]; exact e5.trans m.2.symm), fun u n n1 h => ?_, fun v hv => ?_⟩
      · rw [row_ne (by omega)]; exact e6 u n n1 h
      · rw [row_ne (by omega)]; exact e7 v hv)
  simp only at k2 k3 k4
  refine ⟨σ', ?_, k3, k4⟩
  unfold f_Model_laysDesires
  rw [k1, k2]
