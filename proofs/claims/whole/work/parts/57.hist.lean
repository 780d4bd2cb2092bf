/-! the abstract state changed in one place -/
def sT (A : Gh) (x : gTt) : Gh := (x, gL A, gD A, gM A, gK A, gW A, gI A, gH A, gS A)
def sM (A : Gh) (x : Rw × Int32) : Gh := (gT A, gL A, gD A, x, gK A, gW A, gI A, gH A, gS A)
def sW (A : Gh) (x : Rw) : Gh := (gT A, gL A, gD A, gM A, gK A, x, gI A, gH A, gS A)
def sIm (A : Gh) (x : Int32 × Rw) : Gh := (gT A, gL A, gD A, gM A, gK A, gW A, x, gH A, gS A)
def sH (A : Gh) (x : Nat × (Nat → Rw)) : Gh := (gT A, gL A, gD A, gM A, gK A, gW A, gI A, x, gS A)
def sS (A : Gh) (x : Nat × Rw) : Gh := (gT A, gL A, gD A, gM A, gK A, gW A, gI A, gH A, x)
def hpush (h : Nat × (Nat → Rw)) (w : Rw) : Nat × (Nat → Rw) := if h.1 = 40 then (40, fun j => if j < 39 then h.2 (j + 1) else w) else (h.1 + 1, fun j => if j = h.1 then w else h.2 j)
theorem hasC_W {A : Gh} {w : Rw} (h : hasC A) (hw : rwOk (gK A) w) : hasC (sW A w) := ⟨h.1, h.2.1, h.2.2.1, hw, h.2.2.2.2⟩
theorem gOk_W {A : Gh} {w : Rw} (hA : gOk A) (h : hasC A) (hw : rwOk (gK A) w) : gOk (sW A w) := ⟨hA.1, hA.2.1, hA.2.2.1, hA.2.2.2.1, hA.2.2.2.2.1, hA.2.2.2.2.2.1, hA.2.2.2.2.2.2.1, hA.2.2.2.2.2.2.2.1, hA.2.2.2.2.2.2.2.2.1, Or.inr (hasC_W h hw)⟩
theorem hpush_ok {A : Gh} (hA : gOk A) (h : hasC A) : (hpush (gH A) (gW A)).1 ≤ 40 ∧ ∀ j, j < (hpush (gH A) (gW A)).1 → rwOk (gK A) ((hpush (gH A) (gW A)).2 j) := by
  have h40 := hA.2.2.2.2.2.2.2.1
  unfold hpush
  by_cases q : (gH A).1 = 40
  · rw [if_pos q]
    refine ⟨Nat.le_refl _, fun j hj => ?_⟩
    show rwOk _ (if j < 39 then _ else _)
    by_cases q2 : j < 39
    · rw [if_pos q2]; exact h.2.2.2.2.2.1 _ (by omega)
    · rw [if_neg q2]; exact h.2.2.2.1
  · rw [if_neg q]
    refine ⟨show (gH A).1 + 1 ≤ 40 by omega, fun j hj => ?_⟩
    show rwOk _ (if j = (gH A).1 then _ else _)
    by_cases q2 : j = (gH A).1
    · rw [if_pos q2]; exact h.2.2.2.1
    · rw [if_neg q2]; exact h.2.2.2.2.2.1 _ (by have : j < (gH A).1 + 1 := hj; omega)
theorem gOk_H {A : Gh} {x : Nat × (Nat → Rw)} (hA : gOk A) (h : hasC A) (h1 : x.1 ≤ 40) (h2 : ∀ j, j < x.1 → rwOk (gK A) (x.2 j)) : gOk (sH A x) ∧ hasC (sH A x) :=
  have q : hasC (sH A x) := ⟨h.1, h.2.1, h.2.2.1, h.2.2.2.1, h.2.2.2.2.1, h2, h.2.2.2.2.2.2⟩
  ⟨⟨hA.1, hA.2.1, hA.2.2.1, hA.2.2.2.1, hA.2.2.2.2.1, hA.2.2.2.2.2.1, hA.2.2.2.2.2.2.1, h1, hA.2.2.2.2.2.2.2.2.1, Or.inr q⟩, q⟩
theorem gOk_keep {A : Gh} (hA : gOk A) (h : hasC A) : gOk (sH A (hpush (gH A) (gW A))) ∧ hasC (sH A (hpush (gH A) (gW A))) := gOk_H hA h (hpush_ok hA h).1 (hpush_ok hA h).2
/-- the State of the present changed -/
theorem CRel.setw {σ σ' : Mem} {A : Gh} {w : Rw} (hC : CRel σ A) (h : hasC A) (hr : RS σ' 6 (gK A) w) (hg : RG σ' 6 w) (cx : CX 6 σ σ') (hl : (gL A).1 ≤ 4) (hd : (gD A).1 ≤ 4) : CRel σ' (sW A w) ∧ EqHi σ σ' := by
  obtain ⟨h1, h2, h3, h4, h5, h6, h7, h8, h9, h10⟩ := hC
  obtain ⟨c1, c2, c3⟩ := cx
  have cc := h6.c
  have g0 := c1 0 (by omega) (by omega)
  refine ⟨⟨h1.fr (by rw [c1 1 (by omega) (by omega)]) (c1 2 (by omega) (by omega)), h2.fr (by rw [g0]) (by rw [g0]) (fun i hi => ⟨c1 _ (by omega) (by omega), c1 _ (by omega) (by omega)⟩) (by rw [c3]), h3.fr (by rw [g0]) (fun i hi => ⟨c1 _ (by omega) (by omega), c1 _ (by omega) (by omega)⟩), h4.fr (by rw [g0]) (c1 5 (by omega) (by omega)), h5.fr4 (by rw [c3]) fun k hk => c1 _ (by omega) (by omega), by unfold CDra; rw [c3]; exact h6, ?_, h8.fr (by rw [g0]) fun a q1 q2 => c1 a (by omega) (by omega), h9.fr fun a q1 q2 => c1 a (by omega) (by omega), h10.fr (by rw [c1 516 (by omega) (by omega)]) (c1 527 (by omega) (by omega)) (c1 528 (by omega) (by omega)) (c1 529 (by omega) (by omega))⟩, fun a ha => ⟨c1 a (by omega) (by omega), by rw [c2], by rw [c3]⟩⟩
  exact ⟨⟨hr.2.2.2.2.2.1.1, hg.2.1, hr.2.2.2.2.2.1.2.1, hr.2.2.2.2.2.1.2.2.2.1, hr.2.2.2.2.2.1.2.2.2.2⟩, fun _ => ⟨hr, hg⟩⟩
theorem CRel.cr {J : Mem → Prop} {σ σ' : Mem} {A : Gh} {w : Rw} (hA : gOk A) (hC : CRel σ A) (h : hasC A) (hr : CR J 6 (gK A) σ w σ') (hw : ∀ i, 131 ≤ i → w i = gW A i) : CRel σ' (sW A w) ∧ EqHi σ σ' :=
  hC.setw h hr.1 (RG_fr (hC.n h).2 hr.2.2.2.1 hr.2.2.2.2 hw) hr.2.1 hA.2.1.1 hA.2.2.1.1
theorem MRel.mr {σ σ' : Mem} {A : Gh} {w : Rw} (hM : MRel σ A) (hr : MR (iA A) 578 σ w σ') : MRel σ' (sW A w) ∧ EqLo σ σ' := by
  obtain ⟨h1, h2, h3, h4, h5, ⟨h6, h6'⟩, h7, h8, h9, h10⟩ := hM
  have hk := h5.fr (Or.inl rfl) hr.2.1
  obtain ⟨r1, ⟨m1, m2, m3, m4⟩, r3⟩ := hr
  have mm : ∀ c, c ≠ 578 → c ≠ 565 → c ≠ 569 → c ≠ 581 → c ≠ 582 → mI σ' c = mI σ c := m1
  refine ⟨⟨?_, ⟨(m4 7 (by omega)).trans h2.1, (m4 35 (by omega)).trans h2.2.1, r3.1⟩, ?_, ?_, hk, ⟨by rw [m4 39 (by omega)]; exact h6, by rw [m4 41 (by omega)]; exact h6'⟩, r1, ?_, ?_, ?_⟩, fun c hc => ⟨mm c (by omega) (by omega) (by omega) (by omega) (by omega), m2 c (by omega), funext fun k => m3 c k (by omega)⟩⟩
  · show MTape σ' (gT A); unfold MTape; rw [m4 6 (by omega), mm 566 (by omega) (by omega) (by omega) (by omega) (by omega)]; exact h1
  · show MDay σ' (gD A); unfold MDay; rw [m4 30 (by omega), mm 577 (by omega) (by omega) (by omega) (by omega) (by omega), mm 576 (by omega) (by omega) (by omega) (by omega) (by omega)]; exact h3
  · show MMisc σ' (gM A); unfold MMisc; rw [m4 36 (by omega), mm 580 (by omega) (by omega) (by omega) (by omega) (by omega)]; exact h4
  · show MImg σ' (gI A); unfold MImg; rw [m4 56 (by omega), mm 589 (by omega) (by omega) (by omega) (by omega) (by omega)]; exact h8
  · show MHis σ' (gH A); unfold MHis; rw [m4 44 (by omega), mm 583 (by omega) (by omega) (by omega) (by omega) (by omega)]; exact h9
  · show MSee σ' (gS A); unfold MSee; rw [m4 51 (by omega), mm 585 (by omega) (by omega) (by omega) (by omega) (by omega)]; exact h10
/-! the class keeps how it is -/
theorem ra27 (i : Nat) : ra 27 i = 28 + 10 * i := by unfold ra; rw [if_neg (by omega), if_neg (by omega), if_pos rfl]
theorem History_keep {σ : Mem} {A : Gh} (hA : gOk A) (hC : CRel σ A) (h : hasC A) : ∃ σ', f_History_keep σ 6 = some σ' ∧ CRel σ' (sH A (hpush (gH A) (gW A))) ∧ EqHi σ σ' := by
  have t8 := hA.T8
  have b6 := hA.B6
  have l4 := hA.2.1.1
  have d4 := hA.2.2.1.1
  have h40 := hA.2.2.2.2.2.2.2.1
  obtain ⟨hr, hg⟩ := hC.n h
  obtain ⟨h1, h2, h3, h4, h5, h6, h7, h8, ⟨h9, f, f1, f2, f3⟩, h10⟩ := hC
  have cc := h6.c
  have hix : (nI f + nI (gH A).1) - (nI f + nI (gH A).1) / (40 : Int32) * (40 : Int32) = nI ((f + (gH A).1) % 40) := by
    rw [nI_add, show (40 : Int32) = nI 40 from rfl, pk_rem (by omega) (by omega) (by omega)]
  have hm : (f + (gH A).1) % 40 < 40 := Nat.mod_lt _ (by omega)
  obtain ⟨σ1, g1, g2, g3, g4, g5, g6, g7⟩ := State_copyFrom (o := 28 + 10 * ((f + (gH A).1) % 40)) (p := 6) (by omega) t8 b6 hr h.2.2.2.1.1
  unfold f_History_keep
  rw [f2, h9, hix, if_pos (inb_nI hm (by omega)), nI_clamp (by omega), ra27, g1, Option.bind_some, g4 26 (by omega), h9, f2]
  have fin : ∀ σ2, (∀ c, c ≠ 26 → mI σ2 c = mI σ1 c) → mL σ2 = mL σ1 → mR σ2 = mR σ1 → CHis σ2 (gK A) (hpush (gH A) (gW A)) → CRel σ2 (sH A (hpush (gH A) (gW A))) ∧ EqHi σ σ2 := fun σ2 k1 k2 k3 k4 => by
    have kk : ∀ c, ¬ (26 ≤ c ∧ c < 428) → mI σ2 c = mI σ c := fun c hc => (k1 c (by omega)).trans (g4 c (by omega))
    have g0 := kk 0 (by omega)
    have kR : mR σ2 = mR σ := k3.trans g6
    exact ⟨⟨h1.fr (by rw [kk 1 (by omega)]) (kk 2 (by omega)), h2.fr (by rw [g0]) (by rw [g0]) (fun i hi => ⟨kk _ (by omega), kk _ (by omega)⟩) (by rw [kR]), h3.fr (by rw [g0]) (fun i hi => ⟨kk _ (by omega), kk _ (by omega)⟩), h4.fr (by rw [g0]) (kk 5 (by omega)), h5.fr4 (by rw [kR]) fun k hk => kk _ (by omega), by unfold CDra; rw [kR]; exact h6, h7.fr fun a q1 q2 => kk a (by omega), h8.fr (by rw [g0]) fun a q1 q2 => kk a (by omega), k4, h10.fr (by rw [kk 516 (by omega)]) (kk 527 (by omega)) (kk 528 (by omega)) (kk 529 (by omega))⟩, fun a ha => ⟨kk a (by omega), by rw [k2, g5], by rw [kR]⟩⟩
  by_cases q : (gH A).1 = 40
  · rw [if_pos (show (40 : Int32) ≤ nI (gH A).1 from nI_le (a := 40) (by omega) (by omega))]
    have e1 : nI f + (1 : Int32) - (nI f + (1 : Int32)) / (40 : Int32) * (40 : Int32) = nI ((f + 1) % 40) := by
      rw [nI_1, show (40 : Int32) = nI 40 from rfl, pk_rem (by omega) (by omega) (by omega)]
    rw [e1]
    obtain ⟨k1, k2⟩ := fin (sI σ1 26 1 (nI ((f + 1) % 40))) (fun c hc => row_ne hc) rfl rfl (by
      unfold hpush
      rw [if_pos q]
      refine ⟨by rw [row_sI, upd_ne (by omega), g4 26 (by omega), h9, q], (f + 1) % 40, Nat.mod_lt _ (by omega), by rw [row_sI, upd_self], fun j hj => ?_⟩
      have hj : j < 40 := hj
      show RS _ _ _ (if j < 39 then _ else _) ∧ RG _ _ (if j < 39 then _ else _)
      by_cases q2 : j < 39
      · rw [if_pos q2]
        have e : ((f + 1) % 40 + j) % 40 = (f + (j + 1)) % 40 := by omega
        rw [e]
        exact RS_RG_fr (f3 (j + 1) (by omega)) fun a a1 a2 => by rw [row_ne (by omega)]; exact g4 a (by omega)
      · rw [if_neg q2]
        have e : ((f + 1) % 40 + j) % 40 = (f + (gH A).1) % 40 := by omega
        rw [e]
        exact RS_RG_fr ⟨g2, g3 hg⟩ fun a a1 a2 => row_ne (by omega))
    exact ⟨_, rfl, k1, k2⟩
  · rw [if_neg (show ¬ (40 : Int32) ≤ nI (gH A).1 from nI_ge (b := 40) (by omega) (by omega)), nI_1]
    obtain ⟨k1, k2⟩ := fin (sI σ1 26 2 (nI ((gH A).1 + 1))) (fun c hc => row_ne hc) rfl rfl (by
      unfold hpush
      rw [if_neg q]
      refine ⟨by rw [row_sI, upd_self], f, f1, by rw [row_sI, upd_ne (by omega), g4 26 (by omega), f2], fun j hj => ?_⟩
      have hj : j < (gH A).1 + 1 := hj
      show RS _ _ _ (if j = (gH A).1 then _ else _) ∧ RG _ _ (if j = (gH A).1 then _ else _)
      by_cases q2 : j = (gH A).1
      · rw [if_pos q2, q2]
        exact RS_RG_fr ⟨g2, g3 hg⟩ fun a a1 a2 => row_ne (by omega)
      · rw [if_neg q2]
        exact RS_RG_fr (f3 j (by omega)) fun a a1 a2 => by rw [row_ne (by omega)]; exact g4 a (by omega))
    exact ⟨_, rfl, k1, k2⟩
