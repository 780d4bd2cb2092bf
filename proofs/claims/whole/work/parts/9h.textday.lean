/-! a day told: fault and text -/
def tx (t : gTt) : Tx := fun i => (t.2 i).toNatClampNeg
theorem tx_nI {t : gTt} {i : Nat} (h : okT t) (hi : i < t.1) : t.2 i = nI (tx t i) ∧ 1 ≤ tx t i ∧ tx t i < 256 := by
  obtain ⟨c, c1, c2, c3⟩ := h.2 i hi
  unfold tx
  rw [c3, nI_clamp (by omega)]
  exact ⟨rfl, c1, c2⟩
theorem okX_of {t : gTt} (h : okT t) : okX (tx t) t.1 := ⟨h.1, fun j hj => (tx_nI h hj).2⟩
theorem CTx_of {t : gTt} {σ : Mem} (h : okT t) (hC : CTape σ t) : CTx (tx t) t.1 σ := ⟨hC.1, fun j hj => (hC.2 j hj).trans (tx_nI h hj).1⟩
theorem MTt_of {t : gTt} {σ : Mem} (h : okT t) (hM : MTape σ t) : MTt (tx t) t.1 σ := ⟨hM.1, fun j hj => by rw [hM.2 j hj, (tx_nI h hj).1]⟩
theorem SC_dx {A : Gh} {σ σ' : Mem} {o : Nat} (hA : gOk A) (hC : CRel σ A) (ho : (o = 555 + 2 * (gD A).1)) (g : DX o σ σ') : SC (gL A).1 (gD A).1 σ σ' := by
  have l4 := hA.2.1.1
  have d4 := hA.2.2.1.1
  have cc := hC.2.2.2.2.2.1.c
  exact ⟨fun a ha => g.1 a (by omega) (by omega) (by omega), g.2.1 1 (by omega) (by omega), fun k hk => g.1 _ (by omega) (by omega) (by omega), fun i hi => ⟨g.1 _ (by omega) (by omega) (by omega), g.1 _ (by omega) (by omega) (by omega)⟩, fun i hi => ⟨g.1 _ (by omega) (by omega) (by omega), g.1 _ (by omega) (by omega) (by omega)⟩, g.2.2.2, fun a _ => by rw [g.2.2.1]⟩
theorem SM_px2 {A : Gh} {σ σ' : Mem} (hM : MRel σ A) (g : PX2 σ σ') : SM (gL A).1 (gL A).2.1 σ σ' :=
  ⟨fun a ha => g.1 a (by omega) (by omega) (by omega), fun k hk => g.2.1 k (by omega), g.2.2.1, g.2.2.2.1, hM.t.fr (g.1 _ (by omega) (by omega) (by omega)) (g.1 _ (by omega) (by omega) (by omega)) (by rw [g.2.2.2.2.1]) (g.1 _ (by omega) (by omega) (by omega)), fun c hc => ⟨g.1 c (by omega) (by omega) (by omega), by rw [g.2.2.2.2.1], funext fun k => g.2.2.2.2.2 c k (by omega)⟩⟩
def daR (A : Gh) : Nat × Option (List Int32) := daF (tx (gT A)) (gT A).1 16 [] 0
theorem fault_day_c {A : Gh} {σ : Mem} (hA : gOk A) (hC : CRel σ A) : ∃ σ', f_Game_fault σ 2 = some (ftS (daR A), σ') ∧ SC (gL A).1 (gD A).1 σ σ' ∧ ∀ cs, (daR A).2 = some cs → mI σ' (555 + 2 * (gD A).1) 1 = nI (cs.length / 3) ∧ RowIs (mI σ' (555 + 2 * (gD A).1 + 1)) cs := by
  have d4 := hA.2.2.1.1
  obtain ⟨σ', g1, g2, g3⟩ := Day_read (o := 555 + 2 * (gD A).1) (okX_of hA.1) (by omega) (CTx_of hA.1 hC.1)
  refine ⟨σ', ?_, SC_dx hA hC rfl g2, g3⟩
  unfold f_Game_fault
  rw [if_neg (show ¬ (2 : Int32) = 0 by decide), if_neg (show ¬ (2 : Int32) = 1 by decide), if_pos (show (2 : Int32) = 2 from rfl), hC.2.2.1.1, if_pos (inb_nI (show (gD A).1 < 5 by omega) (by decide)), nI_clamp (by omega), ra4, g1]
  rfl
theorem fault_day_m {A : Gh} {σ : Mem} (hA : gOk A) (hM : MRel σ A) : ∃ σ', f_Model_fault σ 2 = some (ftS (daR A), σ') ∧ SM (gL A).1 (gL A).2.1 σ σ' ∧ ∀ cs, (daR A).2 = some cs → mI σ' 577 4 = nI (cs.length / 3) ∧ RowM σ' cs := by
  have hz := hM.z (v := 0) hA
  obtain ⟨σ', g1, g2, g3, g4⟩ := Model_readPlan (okX_of hA.1) (MTt_of hA.1 hz.1)
  refine ⟨σ', ?_, (SM_0 (v := 0) hM).trans (SM_px2 hz g3), g4⟩
  unfold f_Model_fault f_Model_fault_J28 f_Model_fault_J46
  rw [show (2 : Int64) = lN 2 from rfl, show (0 : Int64) = lN 0 from rfl, Model_isInR (by omega) (by omega), Option.bind_some, if_neg (show ¬ isR 0 2 2 = 0 by decide), if_neg (show ¬ (2 : Int32) = 0 by decide), if_neg (show ¬ (2 : Int32) = 1 by decide), if_pos (show (2 : Int32) = 2 from rfl), g1, Option.bind_some, g2]
  rfl
def SimA (A : Gh) (fG fM : Mem → Option (Int32 × Mem)) : Prop := ∃ r A', gOk A' ∧ (∀ σ, CRel σ A → ∃ σ', fG σ = some (r, σ') ∧ CRel σ' A' ∧ EqHi σ σ') ∧ (∀ σ, MRel σ A → ∃ σ', fM σ = some (r, σ') ∧ MRel σ' A' ∧ EqLo σ σ')
theorem SimA.ro {A : Gh} {fG fM : Mem → Option (Int32 × Mem)} (hA : gOk A) (h : ∃ r, (∀ σ, CRel σ A → ∃ σ', fG σ = some (r, σ') ∧ SC (gL A).1 (gD A).1 σ σ') ∧ (∀ σ, MRel σ A → ∃ σ', fM σ = some (r, σ') ∧ SM (gL A).1 (gL A).2.1 σ σ')) : SimA A fG fM := by
  obtain ⟨r, h1, h2⟩ := h
  refine ⟨r, A, hA, fun σ hC => ?_, fun σ hM => ?_⟩
  · obtain ⟨σ', g1, g2⟩ := h1 σ hC
    exact ⟨σ', g1, hC.scr g2, g2.hi⟩
  · obtain ⟨σ', g1, g2⟩ := h2 σ hM
    exact ⟨σ', g1, hM.scr hA g2, g2.2.2.2.2.2⟩
theorem fault_day {A : Gh} (hA : gOk A) : SimA A (fun σ => f_Game_fault σ 2) (fun σ => f_Model_fault σ 2) := SimA.ro hA ⟨_, fun σ hC => by
    obtain ⟨σ', g1, g2, -⟩ := fault_day_c hA hC
    exact ⟨σ', g1, g2⟩, fun σ hM => by
    obtain ⟨σ', g1, g2, -⟩ := fault_day_m hA hM
    exact ⟨σ', g1, g2⟩⟩
theorem ft_some {α : Type} {r : Nat × Option α} {c : α} (h : r.2 = some c) : ftS r = -1 := by unfold ftS; rw [h]
theorem ft_none {α : Type} {r : Nat × Option α} (h : r.2 = none) (hl : r.1 < 2 ^ 31) : ftS r ≠ -1 := by unfold ftS; rw [h]; exact nI_ne_m1 hl
theorem daR_ok {A : Gh} : (daR A).1 ≤ (gT A).1 ∧ ∀ cs, (daR A).2 = some cs → okDay cs ∧ 3 ≤ cs.length := daF_ok 16 0 [] 0 rfl rfl ⟨0, by omega, rfl, fun j hj => by omega⟩ (Nat.zero_le _)
/-- the day told is kept -/
def dyA (A : Gh) (cs : List Int32) : gDt := ((gD A).1 + 1, fun i => if i = (gD A).1 then cs.length / 3 else (gD A).2.1 i, fun i => if i = (gD A).1 then (fun k => cs.getD k 0) else (gD A).2.2 i)
def sTD (A : Gh) (cs : List Int32) : Gh := ((0, (gT A).2), gL A, dyA A cs, gM A, gK A, gW A, gI A, gH A, gS A)
theorem text_day_m0 {A : Gh} {σ : Mem} (hA : gOk A) (hM : MRel σ A) (h4 : (gD A).1 < 4) : f_Model_text σ 2 = f_Model_text_J43 (sI σ 565 0 0) 2 := by
  have hz := hM.z (v := 0) hA
  unfold f_Model_text f_Model_text_J30
  rw [show (2 : Int64) = lN 2 from rfl, show (0 : Int64) = lN 0 from rfl, Model_isInR (by omega) (by omega), Option.bind_some, if_neg (show ¬ isR 0 2 2 = 0 by decide), if_neg (show ¬ (2 : Int32) = 1 by decide), if_pos (show (2 : Int32) = 2 from rfl), hz.2.2.1.1, if_neg (show ¬ nI (gD A).1 = (4 : Int32) from fun p => by have := (nI_eq (b := 4) (by omega) (by decide)).mp p; omega)]
theorem text_day {A : Gh} (hA : gOk A) : SimA A (fun σ => f_Game_text σ 2) (fun σ => f_Model_text σ 2) := by
  have l4 := hA.2.1.1
  have d4 := hA.2.2.1.1
  have t240 := hA.1.1
  have t8 := hA.T8
  have b6 := hA.B6
  have c0 : ∀ σ, CRel σ A → ∃ σ', f_Game_text σ 2 = (if ftS (daR A) = -1 then (if 4 ≤ (gD A).1 then some (-1, σ') else (f_Game_keepDay σ').bind fun q9 => some (q9.1, q9.2)) else some (-1, σ')) ∧ SC (gL A).1 (gD A).1 σ σ' ∧ ∀ cs, (daR A).2 = some cs → mI σ' (555 + 2 * (gD A).1) 1 = nI (cs.length / 3) ∧ RowIs (mI σ' (555 + 2 * (gD A).1 + 1)) cs := fun σ hC => by
    obtain ⟨σ', g1, g2, g3⟩ := fault_day_c hA hC
    have c1 := hC.scr g2
    refine ⟨σ', ?_, g2, g3⟩
    unfold f_Game_text
    rw [g1, Option.bind_some]
    dsimp only
    rw [if_neg (show ¬ (2 : Int32) = 0 by decide), if_neg (show ¬ (2 : Int32) = 1 by decide), c1.2.2.1.1]
    by_cases q : 4 ≤ (gD A).1
    · rw [if_pos (show (4 : Int32) ≤ nI (gD A).1 from nI_le (a := 4) q (by omega)), if_pos q]
    · rw [if_neg (show ¬ (4 : Int32) ≤ nI (gD A).1 from nI_ge (b := 4) (by omega) (by omega)), if_neg q]
  by_cases q4 : (gD A).1 < 4
  · cases hq : (daR A).2 with
    | none =>
      have hn := ft_none hq (by have := (daR_ok (A := A)).1; omega)
      refine SimA.ro hA ⟨-1, fun σ hC => ?_, fun σ hM => ?_⟩
      · obtain ⟨σ', g1, g2, -⟩ := c0 σ hC
        exact ⟨σ', by show f_Game_text σ 2 = _; rw [g1, if_neg hn], g2⟩
      · have hz := hM.z (v := 0) hA
        obtain ⟨σ', g1, g2, -⟩ := fault_day_m hA hz
        refine ⟨σ', ?_, (SM_0 (v := 0) hM).trans g2⟩
        show f_Model_text σ 2 = _
        rw [text_day_m0 hA hM q4]
        unfold f_Model_text_J43
        rw [g1, Option.bind_some]
        dsimp only
        rw [if_neg hn]
    | some cs =>
      have hs := ft_some hq
      obtain ⟨⟨n, n1, n2, n3⟩, n4⟩ := (daR_ok (A := A)).2 cs hq
      have nd : cs.length / 3 = n := by rw [n2, Nat.mul_div_cancel_left _ (by decide)]
      refine ⟨nI (gD A).1, sTD A cs, ⟨⟨Nat.zero_le _, fun i hi => absurd hi (Nat.not_lt_zero _)⟩, hA.2.1, ⟨by show (gD A).1 + 1 ≤ 4; omega, fun i hi => ?_⟩, hA.2.2.2⟩, fun σ hC => ?_, fun σ hM => ?_⟩
      · show 1 ≤ (if i = (gD A).1 then cs.length / 3 else (gD A).2.1 i) ∧ (if i = (gD A).1 then cs.length / 3 else (gD A).2.1 i) ≤ 16 ∧ ∀ j, j < (if i = (gD A).1 then cs.length / 3 else (gD A).2.1 i) → ∃ q, q ≤ 4 ∧ (if i = (gD A).1 then (fun k => cs.getD k 0) else (gD A).2.2 i) (3 * j) = nI q
        by_cases e : i = (gD A).1
        · rw [if_pos e, if_pos e, nd]
          exact ⟨by omega, n1, fun j hj => n3 j hj⟩
        · rw [if_neg e, if_neg e]
          have hi : i < (gD A).1 + 1 := hi
          exact hA.2.2.1.2 i (by omega)
      · obtain ⟨σ1, g1, g2, g3⟩ := c0 σ hC
        obtain ⟨g4, g5⟩ := g3 cs hq
        obtain ⟨h1, h2, h3, h4, h5, h6, h7, h8, h9, h10⟩ := hC.scr g2
        have cc := h6.c
        rw [hs, if_pos rfl, if_neg (by omega)] at g1
        have kk : ∀ c, c ≠ 0 → c ≠ 1 → mI (sI (sI σ1 1 1 (0 : Int32)) 0 14 (nI ((gD A).1 + 1))) c = mI σ1 c := fun c q1 q2 => by rw [row_ne q1, row_ne q2]
        have k0 : ∀ k, k ≠ 14 → mI (sI (sI σ1 1 1 (0 : Int32)) 0 14 (nI ((gD A).1 + 1))) 0 k = mI σ1 0 k := fun k hk => by rw [row_sI _ 0, upd_ne hk, row_ne (by omega)]
        refine ⟨sI (sI σ1 1 1 (0 : Int32)) 0 14 (nI ((gD A).1 + 1)), ?_, ⟨⟨?_, fun i hi => absurd hi (Nat.not_lt_zero _)⟩, ?_, ⟨?_, fun i hi => ?_⟩, ?_, ?_, h6, ?_, ?_, ?_, ?_⟩, g2.hi.trans fun a ha => ⟨kk a (by omega) (by omega), rfl, rfl⟩⟩
        · show f_Game_text σ 2 = _
          rw [g1]
          unfold f_Game_keepDay
          rw [row_ne (show (0 : Nat) ≠ 1 by omega), h3.1, nI_1, row_sI _ 0, upd_self, z_sub1 (by omega), Nat.add_sub_cancel]
          rfl
        · rw [row_ne (by omega), row_sI, upd_self]; rfl
        · exact h2.fr (k0 _ (by omega)) (k0 _ (by omega)) (fun i hi => ⟨kk _ (by omega) (by omega), kk _ (by omega) (by omega)⟩) rfl
        · rw [row_sI, upd_self]; rfl
        · show mI _ (555 + 2 * i) 1 = nI (if i = (gD A).1 then cs.length / 3 else (gD A).2.1 i) ∧ ∀ k, k < 3 * (if i = (gD A).1 then cs.length / 3 else (gD A).2.1 i) → mI _ (556 + 2 * i) k = (if i = (gD A).1 then (fun k => cs.getD k 0) else (gD A).2.2 i) k
          have hi : i < (gD A).1 + 1 := hi
          rw [kk (555 + 2 * i) (by omega) (by omega), kk (556 + 2 * i) (by omega) (by omega)]
          by_cases e : i = (gD A).1
          · rw [if_pos e, if_pos e, e]
            exact ⟨g4, fun k hk => by rw [show 556 + 2 * (gD A).1 = 555 + 2 * (gD A).1 + 1 by omega]; exact g5 k (by omega)⟩
          · rw [if_neg e, if_neg e]
            exact h3.2 i (by omega)
        · exact h4.fr (k0 _ (by omega)) (kk _ (by omega) (by omega))
        · exact h5.fr4 rfl fun k hk => kk _ (by omega) (by omega)
        · exact h7.fr fun a q1 q2 => kk a (by omega) (by omega)
        · exact h8.fr (k0 _ (by omega)) fun a q1 q2 => kk a (by omega) (by omega)
        · exact h9.fr fun a q1 q2 => kk a (by omega) (by omega)
        · exact h10.fr (by rw [kk 516 (by omega) (by omega)]) (kk 527 (by omega) (by omega)) (kk 528 (by omega) (by omega)) (kk 529 (by omega) (by omega))
      · have hz := hM.z (v := 0) hA
        obtain ⟨σ1, g1, g2, g3⟩ := fault_day_m hA hz
        obtain ⟨g4, g5⟩ := g3 cs hq
        have sm := (SM_0 (v := 0) hM).trans g2
        obtain ⟨q1, q2, q3, q4', q5, ⟨q6, q6'⟩, q7, q8, q9, q10⟩ := hM.scr hA sm
        have hx : ∀ c, c ≠ 565 → mI (sI σ1 565 6 (0 : Int32)) c = mI σ1 c := fun c hc => row_ne hc
        have hx5 : ∀ k, k ≠ 6 → mI (sI σ1 565 6 (0 : Int32)) 565 k = mI σ1 565 k := fun k hk => by rw [row_sI, upd_ne hk]
        obtain ⟨⟨rv, σ3⟩, k1, k2, τ, k3, k4, k5⟩ := loopF_go (step := f_Model_text_L137 2) (a := (sI σ1 565 6 (0 : Int32), (0 : Int32))) (fun i s => s.2 = nI i ∧ FX 576 (sI σ1 565 6 (0 : Int32)) s.1 ∧ ∀ j, mI s.1 576 j = if 48 * (gD A).1 ≤ j ∧ j < 48 * (gD A).1 + i then mI σ1 576 (192 + (j - 48 * (gD A).1)) else mI σ1 576 j) (fun r => r.1 = nI (gD A).1 ∧ ∃ τ, FX 576 (sI σ1 565 6 (0 : Int32)) τ ∧ (∀ j, mI τ 576 j = if 48 * (gD A).1 ≤ j ∧ j < 48 * (gD A).1 + 48 then mI σ1 576 (192 + (j - 48 * (gD A).1)) else mI σ1 576 j) ∧ r.2 = sI (sI τ 577 (gD A).1 (nI n)) 565 30 (nI ((gD A).1 + 1))) 48 ⟨rfl, ⟨fun _ _ => rfl, rfl, rfl⟩, fun j => by rw [if_neg (by omega), hx 576 (by omega)]⟩ (by omega) (by
          rintro i ⟨τ, z⟩ hi ⟨e1, e2, e3⟩
          simp only at e1 e2 e3
          subst e1
          have e30 : mI τ 565 30 = nI (gD A).1 := by rw [e2.1 565 (by omega), hx5 30 (by omega)]; exact q3.1
          unfold f_Model_text_L137
          dsimp only
          rw [e30]
          by_cases hlt : i < 48
          · have i1 : (192 : Int32) + nI i = nI (192 + i) := by rw [show (192 : Int32) = nI 192 from rfl, nI_add]
            have i2 : (48 : Int32) * nI (gD A).1 + nI i = nI (48 * (gD A).1 + i) := by rw [show (48 : Int32) = nI 48 from rfl, pk_mul, nI_add]
            rw [if_neg (show ¬ (48 : Int32) ≤ nI i from nI_ge (b := 48) hlt (by omega)), i1, i2, if_pos (inb_nI (show 192 + i < 240 by omega) (by decide)), if_pos (inb_nI (show 48 * (gD A).1 + i < 240 by omega) (by decide)), nI_clamp (show 48 * (gD A).1 + i < 2 ^ 31 by omega), nI_clamp (show 192 + i < 2 ^ 31 by omega), nI_1]
            refine exL ⟨hlt, rfl, ⟨fun c hc => by rw [row_ne hc]; exact e2.1 c hc, e2.2⟩, fun j => ?_⟩
            rw [row_sI, upd_at, e3, e3 j]
            by_cases e : j = 48 * (gD A).1 + i
            · rw [if_pos e, if_neg (by omega), if_pos (by omega), e, Nat.add_sub_cancel_left]
            · rw [if_neg e]
              by_cases e' : 48 * (gD A).1 ≤ j ∧ j < 48 * (gD A).1 + i
              · rw [if_pos e', if_pos (by omega)]
              · rw [if_neg e', if_neg (by omega)]
          · have : i = 48 := by omega
            subst this
            have e4 : mI τ 577 4 = nI n := by rw [e2.1 577 (by omega), hx 577 (by omega), g4, nd]
            rw [if_pos (show (48 : Int32) ≤ nI 48 by decide), if_pos (inb_nI (show (gD A).1 < 5 by omega) (by decide)), nI_clamp (show (gD A).1 < 2 ^ 31 by omega), show (4 : Int32).toNatClampNeg = 4 from rfl, e4, row_ne (show (565 : Nat) ≠ 577 by omega), e30, nI_1, row_sI _ 565, upd_self, z_sub1 (by omega), Nat.add_sub_cancel]
            exact exR ⟨rfl, τ, e2, e3, rfl⟩)
        simp only at k2 k5
        subst k2
        have kk : ∀ c, c ≠ 565 → c ≠ 576 → c ≠ 577 → mI σ3 c = mI σ1 c := fun c h1 h2 h3 => by rw [k5, row_ne h1, row_ne h3, k3.1 c h2, hx c h1]
        have kf : ∀ k, k ≠ 6 → k ≠ 30 → mI σ3 565 k = mI σ1 565 k := fun k h1 h2 => by rw [k5, row_sI _ 565, upd_ne h2, row_ne (by omega), k3.1 565 (by omega), hx5 k h1]
        have kR : mR σ3 = mR σ1 := by rw [k5, mR_sI, mR_sI, k3.2.2, mR_sI]
        have kL : mL σ3 = mL σ1 := by rw [k5, mL_sI, mL_sI, k3.2.1, mL_sI]
        refine ⟨σ3, ?_, ⟨⟨?_, fun i hi => absurd hi (Nat.not_lt_zero _)⟩, ⟨?_, ?_, ?_⟩, ⟨?_, fun i hi => ?_⟩, ?_, ?_, ⟨?_, ?_⟩, ?_, ?_, ?_, ?_⟩, sm.2.2.2.2.2.trans fun a ha => ⟨kk a (by omega) (by omega) (by omega), by rw [kL], by rw [kR]⟩⟩
        · show f_Model_text σ 2 = _
          rw [text_day_m0 hA hM q4]
          unfold f_Model_text_J43
          rw [g1, Option.bind_some]
          dsimp only
          rw [if_pos hs, if_neg (show ¬ (2 : Int32) = 1 by decide), if_pos (show (2 : Int32) = 2 from rfl)]
          exact k1
        · rw [k5, row_sI _ 565, upd_ne (by omega), row_ne (by omega), k3.1 565 (by omega), row_sI, upd_self]; rfl
        · rw [kf 7 (by omega) (by omega)]; exact q2.1
        · rw [kf 35 (by omega) (by omega)]; exact q2.2.1
        · exact q2.2.2.fr (kk _ (by omega) (by omega) (by omega)) (kk _ (by omega) (by omega) (by omega)) (by rw [kL]) (kk _ (by omega) (by omega) (by omega))
        · rw [k5, row_sI, upd_self]; rfl
        · show mI σ3 577 i = nI (if i = (gD A).1 then cs.length / 3 else (gD A).2.1 i) ∧ ∀ k, k < 3 * (if i = (gD A).1 then cs.length / 3 else (gD A).2.1 i) → mI σ3 576 (48 * i + k) = (if i = (gD A).1 then (fun k => cs.getD k 0) else (gD A).2.2 i) k
          have hi : i < (gD A).1 + 1 := hi
          have r7 : mI σ3 577 i = if i = (gD A).1 then nI n else mI σ1 577 i := by rw [k5, row_ne (by omega), row_sI, upd_at, k3.1 577 (by omega), hx 577 (by omega)]
          have r6 : ∀ j, mI σ3 576 j = if 48 * (gD A).1 ≤ j ∧ j < 48 * (gD A).1 + 48 then mI σ1 576 (192 + (j - 48 * (gD A).1)) else mI σ1 576 j := fun j => by rw [k5, row_ne (by omega), row_ne (by omega), k4]
          rw [r7]
          by_cases e : i = (gD A).1
          · rw [if_pos e, if_pos e, if_pos e, nd, e]
            refine ⟨rfl, fun k hk => ?_⟩
            rw [r6, if_pos (by omega), Nat.add_sub_cancel_left]
            exact g5 k (by omega)
          · rw [if_neg e, if_neg e, if_neg e]
            have od := (hA.2.2.1.2 i (by omega)).2.1
            refine ⟨(q3.2 i (by omega)).1, fun k hk => ?_⟩
            rw [r6, if_neg (by omega)]
            exact (q3.2 i (by omega)).2 k hk
        · exact ⟨fun k hk => by rw [kk 580 (by omega) (by omega) (by omega)]; exact q4'.1 k hk, by rw [kf 36 (by omega) (by omega)]; exact q4'.2⟩
        · exact q5.fr0 q6 q6' t8 b6 (fun k hk => kf k (by omega) (by omega)) (fun a ha => kk a (by omega) (by omega) (by omega))
        · rw [kf 39 (by omega) (by omega)]; exact q6
        · rw [kf 41 (by omega) (by omega)]; exact q6'
        · rw [kk 578 (by omega) (by omega) (by omega)]; exact q7
        · show MImg _ (gI A); unfold MImg; rw [kf 56 (by omega) (by omega), kk 589 (by omega) (by omega) (by omega)]; exact q8
        · show MHis _ (gH A); unfold MHis; rw [kf 44 (by omega) (by omega), kk 583 (by omega) (by omega) (by omega)]; exact q9
        · show MSee _ (gS A); unfold MSee; rw [kf 51 (by omega) (by omega), kk 585 (by omega) (by omega) (by omega)]; exact q10
  · refine SimA.ro hA ⟨-1, fun σ hC => ?_, fun σ hM => ?_⟩
    · obtain ⟨σ', g1, g2, -⟩ := c0 σ hC
      refine ⟨σ', ?_, g2⟩
      show f_Game_text σ 2 = _
      rw [g1, if_pos (show 4 ≤ (gD A).1 by omega)]
      split <;> rfl
    · have hz := hM.z (v := 0) hA
      refine ⟨_, ?_, SM_0 (v := 0) hM⟩
      show f_Model_text σ 2 = _
      unfold f_Model_text f_Model_text_J30
      rw [show (2 : Int64) = lN 2 from rfl, show (0 : Int64) = lN 0 from rfl, Model_isInR (by omega) (by omega), Option.bind_some, if_neg (show ¬ isR 0 2 2 = 0 by decide), if_neg (show ¬ (2 : Int32) = 1 by decide), if_pos (show (2 : Int32) = 2 from rfl), hz.2.2.1.1, if_pos (show nI (gD A).1 = (4 : Int32) by rw [show (gD A).1 = 4 by omega]; rfl)]
