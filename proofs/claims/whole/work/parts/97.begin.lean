/-! the city as it was told: beginAs, lays -/
def laS (K : Cy) : Rw := fun i => if i < 8 then -1 else if 24 ≤ i ∧ i < 24 + cB K then cF K (4 * (i - 24)) else if i = 127 then cR K 0 else 0
theorem laS_t {K : Cy} {t : Nat} (h : t < 8) : laS K t = -1 := if_pos h
theorem laS_p {K : Cy} {b : Nat} (h : b < cB K) : laS K (24 + b) = cF K (4 * b) := by
  unfold laS
  rw [if_neg (by omega), if_pos (by omega), Nat.add_sub_cancel_left]
theorem laS_r {K : Cy} (h6 : cB K ≤ 6) : laS K 127 = cR K 0 := by
  unfold laS
  rw [if_neg (by omega), if_neg (by omega), if_pos rfl]
theorem laS_0 {K : Cy} {i : Nat} (h6 : cB K ≤ 6) (h : (8 ≤ i ∧ i < 24) ∨ (30 ≤ i ∧ i ≠ 127)) : laS K i = 0 := by
  unfold laS
  rw [if_neg (by omega), if_neg (by omega), if_neg (by omega)]
theorem laS_wf {K : Cy} (hK : CyOk K) : Wf (cT K) (cB K) 1 (laS K) := by
  have t8 := hK.1
  have b6 := hK.2.1
  refine ⟨⟨0, by omega, laS_0 b6 (by omega), fun k hk => by omega⟩, ⟨fun t ht => Or.inl (laS_t (by omega)), fun t ht => Or.inl (laS_0 b6 (by omega)), fun t u ht _ _ q => absurd (laS_t (by omega)) q⟩, fun b hb => ?_, ?_, 0, by omega, laS_0 b6 (by omega)⟩
  · obtain ⟨m, m1, m2⟩ := hK.2.2.2.2.2.2.2.2.2.2.2 b hb
    exact ⟨m, by omega, (laS_p hb).trans m2⟩
  · obtain ⟨r, r1, r2⟩ := hK.2.2.2.2.2.2.2.2.2.2.1
    exact ⟨r, r1, (laS_r b6).trans r2⟩
/-- only the cell a has changed -/
def FX (a : Nat) (σ σ' : Mem) : Prop := (∀ c, c ≠ a → mI σ' c = mI σ c) ∧ mL σ' = mL σ ∧ mR σ' = mR σ
theorem fill_loop {step : Mem × Int32 → Option ((Mem × Int32) ⊕ Mem)} {σ : Mem} {a n : Nat} {v : Nat → Int32} (hn : n < 20000) (hs : ∀ f i, i < n → step (rI σ a f, nI i) = some (.inl (sI (rI σ a f) a i (v i), nI (i + 1)))) (he : ∀ f, step (rI σ a f, nI n) = some (.inr (rI σ a f))) : loopF step FU (σ, 0) = some (rI σ a fun j => if j < n then v j else mI σ a j) := by
  have key := loopF_count (step := step) (fun i => (rI σ a fun j => if j < i then v j else mI σ a j, nI i)) (rI σ a fun j => if j < n then v j else mI σ a j) n 0 (fun j _ hj => by
    refine (hs _ j (by omega)).trans ?_
    rw [sI_rI]
    refine congrArg (fun f => some (Sum.inl (rI σ a f, nI (j + 1)))) (funext fun k => ?_)
    rw [upd_at]
    by_cases hk : k = j
    · rw [if_pos hk, if_pos (by omega), hk]
    · rw [if_neg hk]
      by_cases hk2 : k < j
      · rw [if_pos hk2, if_pos (by omega)]
      · rw [if_neg hk2, if_neg (by omega)]) (by rw [Nat.zero_add]; exact he _) FU (by unfold FU; omega)
  have e0 : (rI σ a fun j => if j < 0 then v j else mI σ a j) = σ := by
    have : (fun j => if j < 0 then v j else mI σ a j) = mI σ a := by funext j; rw [if_neg (by omega)]
    rw [this, rI_self]
  rw [e0] at key
  exact key
theorem Arrays_fill {σ : Mem} {a n : Nat} {v : Int32} (hl : ln a = n) (hn : n < 20000) : ∃ σ', f_Arrays_fill σ a v = some σ' ∧ (∀ j, j < n → mI σ' a j = v) ∧ FX a σ σ' := by
  have h := fill_loop (step := f_Arrays_fill_L5 a v (Int32.ofNat (ln a))) (σ := σ) (a := a) (n := n) (v := fun _ => v) hn (fun f i hi => by
    unfold f_Arrays_fill_L5
    dsimp only
    rw [hl, if_neg (show ¬ Int32.ofNat n ≤ nI i from nI_ge hi (by omega)), if_pos (inb_nI hi (by omega)), nI_clamp (by omega), nI_1]) (fun f => by
    unfold f_Arrays_fill_L5
    dsimp only
    rw [hl, if_pos (show Int32.ofNat n ≤ nI n from nI_le (Nat.le_refl _) (by omega))])
  exact ⟨_, h, fun j hj => by rw [rowr_self, if_pos hj], fun c hc => rowr_ne hc, rfl, rfl⟩
theorem State_beginAs {K : Cy} {σ : Mem} {o : Nat} (ho : OkO o) (hk : CK σ K) (h8 : cT K ≤ 8) (h6 : cB K ≤ 6) (hV : ∀ t, t < cT K → cV K t = cW K (3 * t + 1)) (hD : ∀ b, b < cB K → cD K b = cF K (4 * b + 1)) : ∃ σ', f_State_beginAs σ o (mR σ 428 1) = some σ' ∧ RS σ' o K (laS K) ∧ RG σ' o (laS K) ∧ CX o σ σ' := by
  have hr := ho.r
  have hc := hk.c
  obtain ⟨l1, l2, l3, l4, l5, l6, l7, l8, l9⟩ := ho.l
  obtain ⟨c1, c2, c3, c4, c5, c6, c7⟩ := hk
  generalize mR σ 428 1 = c at c1 c2 c3 c4 c5 c6 c7 hc ⊢
  obtain ⟨σ1, a1, a2, a3, L1, a5⟩ := Arrays_fill (σ := σ) (v := -1) l1 (by omega)
  obtain ⟨σ2, b1, b2, b3, L2, b5⟩ := Arrays_fill (σ := σ1) (v := 0) l2 (by omega)
  obtain ⟨σ3, d1, d2, d3, L3, d5⟩ := Arrays_fill (σ := σ2) (v := 0) l3 (by omega)
  obtain ⟨σ4, e1, e2, e3, L4, e5⟩ := Arrays_fill (σ := σ3) (v := -1) l5 (by omega)
  have f4 : ∀ a, a ≠ o + 1 → a ≠ o + 2 → a ≠ o + 3 → a ≠ o + 5 → mI σ4 a = mI σ a := fun a q1 q2 q3 q4 => by rw [e3 a q4, d3 a q3, b3 a q2, a3 a q1]
  have hw := fill_loop (step := f_State_beginAs_L34 o c) (σ := σ4) (a := o + 4) (n := cT K) (v := fun t => cW K (3 * t + 1)) (by omega) (fun f i hi => by
    unfold f_State_beginAs_L34
    dsimp only
    rw [rowr_ne (show c ≠ o + 4 by omega), f4 c (by omega) (by omega) (by omega) (by omega), c3, if_neg (nI_ge hi (by omega)), City_weightTold (by omega), Option.bind_some, rowr_ne (show c + 2 ≠ o + 4 by omega), f4 (c + 2) (by omega) (by omega) (by omega) (by omega), c6 _ (by omega), if_pos (inb_nI (show i < 8 by omega) (by decide)), nI_clamp (by omega), nI_1]) (fun f => by
    unfold f_State_beginAs_L34
    dsimp only
    rw [rowr_ne (show c ≠ o + 4 by omega), f4 c (by omega) (by omega) (by omega) (by omega), c3, if_pos (nI_le (Nat.le_refl _) (by omega))])
  generalize e6 : (rI σ4 (o + 4) fun j => if j < cT K then cW K (3 * j + 1) else mI σ4 (o + 4) j) = σ5 at hw
  have g4 : ∀ t, t < cT K → mI σ5 (o + 4) t = cW K (3 * t + 1) := fun t ht => by rw [← e6, rowr_self, if_pos ht]
  have f5 : ∀ a, a ≠ o + 4 → mI σ5 a = mI σ4 a := fun a ha => by rw [← e6, rowr_ne ha]
  have L5 : mL σ5 = mL σ4 := by rw [← e6]; rfl
  have R5 : mR σ5 = mR σ4 := by rw [← e6]; rfl
  have f5' : ∀ a, (a < o ∨ o + 10 ≤ a ∨ a = o) → mI σ5 a = mI σ a := fun a ha => (f5 a (by omega)).trans (f4 a (by omega) (by omega) (by omega) (by omega))
  obtain ⟨σ6, k1, k2, k3, k4, k5, k6⟩ := loopF_go (step := f_State_beginAs_L61 o c) (a := (σ5, (0 : Int32))) (fun i s => s.2 = nI i ∧ (∀ a, a ≠ o + 6 → a ≠ o + 7 → mI s.1 a = mI σ5 a) ∧ mL s.1 = mL σ5 ∧ mR s.1 = mR σ5 ∧ ∀ b, b < i → mI s.1 (o + 6) b = cF K (4 * b) ∧ mI s.1 (o + 7) b = cF K (4 * b + 1)) (fun r => (∀ a, a ≠ o → a ≠ o + 6 → a ≠ o + 7 → mI r a = mI σ5 a) ∧ mL r = mL σ5 ∧ mR r = mR σ5 ∧ (∀ b, b < cB K → mI r (o + 6) b = cF K (4 * b) ∧ mI r (o + 7) b = cF K (4 * b + 1)) ∧ mI r o 9 = 0 ∧ mI r o 10 = 0 ∧ mI r o 11 = cR K 0 ∧ mI r o 12 = 0 ∧ mI r o 13 = 0 ∧ mI r o 14 = 0) (cB K) ⟨rfl, fun _ _ _ => rfl, rfl, rfl, fun b hb => by omega⟩ (by omega) (by
    rintro i ⟨τ, z⟩ hi ⟨q1, q2, q3, q4, q5⟩
    simp only at q1 q2 q3 q4 q5
    subst q1
    unfold f_State_beginAs_L61
    dsimp only
    rw [q2 c (by omega) (by omega), f5' c (by omega), c4]
    by_cases hlt : i < cB K
    · rw [if_neg (nI_ge hlt (by omega)), City_purseTold (by omega), Option.bind_some, q2 (c + 3) (by omega) (by omega), f5' (c + 3) (by omega), c7 _ (by omega), if_pos (inb_nI (show i < 6 by omega) (by decide)), nI_clamp (by omega), City_desireTold (by omega), Option.bind_some, row_ne (show c + 3 ≠ o + 6 by omega), q2 (c + 3) (by omega) (by omega), f5' (c + 3) (by omega), c7 _ (by omega), nI_1]
      refine exL ⟨hlt, rfl, fun a h1 h2 => by rw [row_ne h2, row_ne h1]; exact q2 a h1 h2, q3, q4, fun b hb => ?_⟩
      rw [row_ne (show o + 6 ≠ o + 7 by omega), row_sI, row_sI _ (o + 7), row_ne (show o + 7 ≠ o + 6 by omega), upd_at, upd_at]
      by_cases e : b = i
      · rw [if_pos e, if_pos e, e]; exact ⟨rfl, rfl⟩
      · rw [if_neg e, if_neg e]; exact q5 b (by omega)
    · have : i = cB K := by omega
      subst this
      have hrt : f_City_rateTold (sI (sI τ o 9 (0 : Int32)) o 10 (0 : Int32)) c = some (cR K 0) := by
        unfold f_City_rateTold
        rw [row_ne (show c + 1 ≠ o by omega), row_ne (show c + 1 ≠ o by omega), q2 (c + 1) (by omega) (by omega), f5' (c + 1) (by omega), show (0 : Int32).toNatClampNeg = 0 from rfl, c5 0 (by omega)]
      rw [if_pos (nI_le (Nat.le_refl _) (by omega)), hrt, Option.bind_some]
      refine exR ⟨fun a h0 h1 h2 => ?_, q3, q4, fun b hb => ?_, ?_, ?_, ?_, ?_, ?_, ?_⟩
      · rw [row_ne h0, row_ne h0, row_ne h0, row_ne h0, row_ne h0, row_ne h0]; exact q2 a h1 h2
      · rw [row_ne (show o + 6 ≠ o by omega), row_ne (show o + 6 ≠ o by omega), row_ne (show o + 6 ≠ o by omega), row_ne (show o + 6 ≠ o by omega), row_ne (show o + 6 ≠ o by omega), row_ne (show o + 6 ≠ o by omega), row_ne (show o + 7 ≠ o by omega), row_ne (show o + 7 ≠ o by omega), row_ne (show o + 7 ≠ o by omega), row_ne (show o + 7 ≠ o by omega), row_ne (show o + 7 ≠ o by omega), row_ne (show o + 7 ≠ o by omega)]; exact q5 b hb
      · rw [row_sI, upd_ne (by omega), row_sI, upd_ne (by omega), row_sI, upd_ne (by omega), row_sI, upd_ne (by omega), row_sI, upd_ne (by omega), row_sI, upd_self]
      · rw [row_sI, upd_ne (by omega), row_sI, upd_ne (by omega), row_sI, upd_ne (by omega), row_sI, upd_ne (by omega), row_sI, upd_self]
      · rw [row_sI, upd_ne (by omega), row_sI, upd_ne (by omega), row_sI, upd_ne (by omega), row_sI, upd_self]
      · rw [row_sI, upd_ne (by omega), row_sI, upd_ne (by omega), row_sI, upd_self]
      · rw [row_sI, upd_ne (by omega), row_sI, upd_self]
      · rw [row_sI, upd_self])
  obtain ⟨k6, k7, k8, k9, k10, k11⟩ := k6
  have m0 : mny (laS K) = 0 := mny_eq (by omega) (laS_0 h6 (by omega))
  refine ⟨σ6, ?_, ⟨fun t ht => ⟨?_, ?_, ?_⟩, fun t ht => ?_, fun b hb => ?_, fun b hb => ⟨?_, ?_⟩, fun i hi => by omega, ⟨?_, ?_, ?_, ?_, ?_⟩, 0, by omega, k7⟩, ⟨⟨0, by omega, laS_0 h6 (by omega)⟩, ?_, fun i hi => ?_⟩, fun a h1 h2 => ?_, ?_, ?_⟩
  · unfold f_State_beginAs
    rw [a1, Option.bind_some, b1, Option.bind_some, d1, Option.bind_some, e1, Option.bind_some, hw, Option.bind_some]
    exact k1
  · rw [k2 _ (by omega) (by omega) (by omega), f5 _ (by omega), e3 _ (by omega), d3 _ (by omega), b3 _ (by omega), a2 t ht, laS_t ht]
  · rw [k2 _ (by omega) (by omega) (by omega), f5 _ (by omega), e3 _ (by omega), d3 _ (by omega), b2 t ht, laS_0 h6 (by omega)]
  · rw [k2 _ (by omega) (by omega) (by omega), f5 _ (by omega), e3 _ (by omega), d2 t ht, laS_0 h6 (by omega)]
  · rw [k2 _ (by omega) (by omega) (by omega), g4 t ht, hV t ht]
  · rw [k2 _ (by omega) (by omega) (by omega), f5 _ (by omega), e2 b hb]
    rcases holdS_cases (laS K) (cT K) (nI b) with ⟨t, t1, t2, -, -⟩ | ⟨-, h⟩
    · rw [laS_t (by omega)] at t2
      exact absurd t2.symm (nI_ne_m1 (by omega))
    · exact h.symm
  · rw [(k5 b hb).1, laS_p hb]
  · rw [(k5 b hb).2, hD b hb]
  · rw [k6, laS_0 h6 (by omega)]
  · rw [k8, laS_r h6]
  · rw [k9, laS_0 h6 (by omega)]
  · rw [k10, laS_0 h6 (by omega)]
  · rw [k11, laS_0 h6 (by omega)]
  · rw [k7, laS_0 h6 (by omega)]
  · rw [lnS_eq (n := 0) (by omega) (laS_0 h6 (by omega))] at hi
    omega
  · rw [k2 a (by omega) (by omega) (by omega)]
    exact f5' a (by omega)
  · rw [k3, L5, L4, L3, L2, L1]
  · rw [k4, R5, e5, d5, b5, a5]
/-! the reference -/
theorem Model_lays {K : Cy} {σ : Mem} {a n : Nat} (hl : ln a = n) (h1 : 131 ≤ n) (h2 : n < 20000) (ha : a = 578 ∨ a = 579) (hk1 : mI σ 565 27 = nI (cB K)) (hk2 : mI σ 570 = cR K) (hk3 : mI σ 574 = cF K) (h6 : cB K ≤ 6) : ∃ σ', f_Model_lays σ a = some σ' ∧ (∀ j, mI σ' a j = if j < n then laS K j else mI σ a j) ∧ FX a σ σ' := by
  have s1 := fill_loop (step := f_Model_lays_L2 a) (σ := σ) (a := a) (n := n) (v := fun _ => 0) h2 (fun f i hi => by
    unfold f_Model_lays_L2
    dsimp only
    rw [hl, if_neg (show ¬ Int32.ofNat n ≤ nI i from nI_ge hi (by omega)), if_pos (inb_nI hi (by omega)), nI_clamp (by omega), nI_1]) (fun f => by
    unfold f_Model_lays_L2
    dsimp only
    rw [hl, if_pos (show Int32.ofNat n ≤ nI n from nI_le (Nat.le_refl _) (by omega))])
  generalize e1 : (rI σ a fun j => if j < n then 0 else mI σ a j) = σ1 at s1
  have r1 : ∀ j, mI σ1 a j = if j < n then 0 else mI σ a j := fun j => by rw [← e1, rowr_self]
  have f1 : FX a σ σ1 := by rw [← e1]; exact ⟨fun c hc => rowr_ne hc, rfl, rfl⟩
  have s2 := fill_loop (step := f_Model_lays_L20 a) (σ := σ1) (a := a) (n := 8) (v := fun _ => -1) (by omega) (fun f i hi => by
    unfold f_Model_lays_L20
    dsimp only
    rw [hl, if_neg (show ¬ (8 : Int32) ≤ nI i from nI_ge (b := 8) hi (by omega)), if_pos (inb_nI (show i < n by omega) (by omega)), nI_clamp (by omega), nI_1]) (fun f => by
    unfold f_Model_lays_L20
    dsimp only
    rw [if_pos (show (8 : Int32) ≤ nI 8 by decide)])
  generalize e2 : (rI σ1 a fun j => if j < 8 then -1 else mI σ1 a j) = σ2 at s2
  have r2 : ∀ j, mI σ2 a j = if j < 8 then -1 else mI σ1 a j := fun j => by rw [← e2, rowr_self]
  have f2 : FX a σ1 σ2 := by rw [← e2]; exact ⟨fun c hc => rowr_ne hc, rfl, rfl⟩
  obtain ⟨σ3, g1, g2, g3⟩ := loopF_go (step := f_Model_lays_L38 a) (a := (σ2, (0 : Int32))) (fun i s => s.2 = nI i ∧ FX a σ2 s.1 ∧ ∀ j, mI s.1 a j = if 24 ≤ j ∧ j < 24 + i then cF K (4 * (j - 24)) else mI σ2 a j) (fun r => FX a σ2 r ∧ ∀ j, mI r a j = if j = 127 then cR K 0 else if 24 ≤ j ∧ j < 24 + cB K then cF K (4 * (j - 24)) else mI σ2 a j) (cB K) ⟨rfl, ⟨fun _ _ => rfl, rfl, rfl⟩, fun j => by rw [if_neg (by omega)]⟩ (by omega) (by
    rintro i ⟨τ, z⟩ hi ⟨q1, q2, q3⟩
    simp only at q1 q2 q3
    subst q1
    unfold f_Model_lays_L38
    dsimp only
    rw [q2.1 565 (by omega), f2.1 565 (by omega), f1.1 565 (by omega), hk1, hl]
    by_cases hlt : i < cB K
    · have hi4 : (4 : Int32) * nI i = nI (4 * i) := by rw [show (4 : Int32) = nI 4 from rfl, pk_mul]
      have hi24 : (24 : Int32) + nI i = nI (24 + i) := by rw [show (24 : Int32) = nI 24 from rfl, nI_add]
      rw [if_neg (nI_ge hlt (by omega)), hi4, hi24, if_pos (inb_nI (show 4 * i < 24 by omega) (by decide)), if_pos (inb_nI (show 24 + i < n by omega) (by omega)), nI_clamp (show 24 + i < 2 ^ 31 by omega), nI_clamp (show 4 * i < 2 ^ 31 by omega), q2.1 574 (by omega), f2.1 574 (by omega), f1.1 574 (by omega), hk3, nI_1]
      refine exL ⟨hlt, rfl, ⟨fun c hc => by rw [row_ne hc]; exact q2.1 c hc, q2.2⟩, fun j => ?_⟩
      rw [row_sI, upd_at]
      by_cases e : j = 24 + i
      · rw [if_pos e, if_pos (by omega), e, Nat.add_sub_cancel_left]
      · rw [if_neg e, q3]
        by_cases e2 : 24 ≤ j ∧ j < 24 + i
        · rw [if_pos e2, if_pos (by omega)]
        · rw [if_neg e2, if_neg (by omega)]
    · have : i = cB K := by omega
      subst this
      rw [if_pos (nI_le (Nat.le_refl _) (by omega)), show (127 : Int32) = nI 127 from rfl, if_pos (inb_nI (show 127 < n by omega) (by omega)), nI_clamp (show 127 < 2 ^ 31 by omega), show (0 : Int32).toNatClampNeg = 0 from rfl, q2.1 570 (by omega), f2.1 570 (by omega), f1.1 570 (by omega), hk2]
      refine exR ⟨⟨fun c hc => by rw [row_ne hc]; exact q2.1 c hc, q2.2⟩, fun j => ?_⟩
      rw [row_sI, upd_at, q3])
  refine ⟨σ3, ?_, fun j => ?_, fun c hc => ((g2.1 c hc).trans (f2.1 c hc)).trans (f1.1 c hc), (g2.2.1.trans f2.2.1).trans f1.2.1, (g2.2.2.trans f2.2.2).trans f1.2.2⟩
  · unfold f_Model_lays
    rw [s1, Option.bind_some, s2, Option.bind_some]
    exact g1
  · rw [g3, r2, r1]
    unfold laS
    by_cases q : j < n
    · rw [if_pos q]
      by_cases q1 : j < 8
      · rw [if_neg (by omega), if_neg (by omega), if_pos q1, if_pos q, if_pos q1]
      · rw [if_neg q1, if_pos q, if_neg q1]
        by_cases q2 : 24 ≤ j ∧ j < 24 + cB K
        · rw [if_neg (by omega), if_pos q2, if_pos q2]
        · rw [if_neg q2, if_neg q2]
    · rw [if_neg (by omega), if_neg (by omega), if_neg (by omega), if_neg q, if_neg q]
