/-! the class's hour, whole -/
theorem State_writeLog {J : Mem → Prop} {K : Cy} {σ : Mem} {o : Nat} {w : Rw} (hJ : LkC J (cL K)) (ho : OkO o) (hj : J σ) (hr : RS σ o K w) : ∃ σ', f_State_writeLog σ o = some σ' ∧ CG J o K σ w σ' ∧ (RG σ o w → RG σ' o (lgS w (hbS w (cT K) 6))) := by
  obtain ⟨n, n1, n2⟩ := hr.2.2.2.2.2.2
  unfold f_State_writeLog
  rw [n2]
  by_cases h60 : n = 60
  · subst h60
    rw [if_neg (show ¬ nI 60 < (60 : Int32) by decide), if_pos (show cpyB 180 180 (3 : Int32) (0 : Int32) (177 : Int32) = true by decide), Option.bind_some]
    have cc : cpyM (mI σ (o + 9)) (mI σ (o + 9)) 3 0 177 = fun k => if k < 177 then mI σ (o + 9) (3 + k) else mI σ (o + 9) k := by
      funext k
      show va_cpy _ _ 3 0 177 k = _
      unfold va_cpy
      by_cases hk : k < 177
      · rw [if_pos ⟨by omega, by omega⟩, if_pos hk]; rfl
      · rw [if_neg (by omega), if_neg hk]
    rw [cc]
    have cx : CX o σ (sI (rI σ (o + 9) fun k => if k < 177 then mI σ (o + 9) (3 + k) else mI σ (o + 9) k) o 10 59) := (CX_rI (by omega)).trans (CX_sI (by omega))
    have r1 : RS (sI (rI σ (o + 9) fun k => if k < 177 then mI σ (o + 9) (3 + k) else mI σ (o + 9) k) o 10 59) o K w := by
      obtain ⟨r1, r2, r3, r4, r5, ⟨r6, r7, r8, r9, r10⟩, r11⟩ := hr
      unfold RS
      simp (disch := omega) only [row_ne, row_sI, rowr_ne, upd_ne, upd_self]
      exact ⟨r1, r2, r3, r4, r5, ⟨r6, r7, r8, r9, r10⟩, 59, by omega, rfl⟩
    obtain ⟨σ2, g1, ⟨g2, g3, g4⟩, g5, g6, g7⟩ := State_writeLog_J31 hJ ho (J_CX hJ ho hj cx) r1 (show 59 ≤ 59 by omega) (by rw [row_sI, upd_self]; rfl)
    refine ⟨σ2, g1, ⟨g2, cx.trans g3, g4⟩, ?_⟩
    rintro ⟨⟨m, m1, m2⟩, q1, q2⟩
    have e : w 131 = nI 60 := by rw [← q1]; exact n2
    have el := lnS_eq (by omega) e
    unfold lgS
    rw [if_pos el]
    refine ⟨⟨60, by omega, lad_n⟩, by rw [g6, lad_n], fun i hi => ?_⟩
    rw [lnS_eq (n := 60) (by omega) lad_n] at hi
    rw [g7, row_ne (by omega), rowr_self]
    unfold lad
    rw [upd_at, upd_at, upd_at, upd_at, upd_at, upd_at, upd_at]
    have el1 : lsh w 126 = w 126 := by unfold lsh; rw [if_neg (by omega), if_neg (by omega)]
    have el2 : lsh w 129 = w 129 := by unfold lsh; rw [if_neg (by omega), if_neg (by omega)]
    rw [el1, el2, if_neg (show ¬ 132 + i = 131 by omega)]
    by_cases c2 : i = 3 * 59 + 2
    · rw [if_pos c2, if_pos (by omega)]
    · rw [if_neg c2, if_neg (show ¬ 132 + i = 132 + 3 * 59 + 2 by omega)]
      by_cases c1 : i = 3 * 59 + 1
      · rw [if_pos c1, if_pos (by omega)]
      · rw [if_neg c1, if_neg (show ¬ 132 + i = 132 + 3 * 59 + 1 by omega)]
        by_cases c0 : i = 3 * 59
        · rw [if_pos c0, if_pos (by omega)]
        · rw [if_neg c0, if_neg (show ¬ 132 + i = 132 + 3 * 59 by omega), if_pos (by omega), q2 (3 + i) (by omega)]
          unfold lsh
          rw [if_pos (by omega)]
          congr 1; omega
  · rw [if_pos (show nI n < (60 : Int32) from nI_lt (b := 60) (by omega) (by omega))]
    obtain ⟨σ2, g1, g2, g5, g6, g7⟩ := State_writeLog_J31 hJ ho hj hr (show n ≤ 59 by omega) n2
    refine ⟨σ2, g1, g2, ?_⟩
    rintro ⟨⟨m, m1, m2⟩, q1, q2⟩
    have e : w 131 = nI n := by rw [← q1]; exact n2
    have el := lnS_eq (by omega) e
    unfold lgS
    rw [el, if_neg h60]
    refine ⟨⟨n + 1, by omega, lad_n⟩, by rw [g6, lad_n], fun i hi => ?_⟩
    rw [lnS_eq (n := n + 1) (by omega) lad_n] at hi
    rw [g7]
    unfold lad
    rw [upd_at, upd_at, upd_at, upd_at, upd_at, upd_at, upd_at, if_neg (show ¬ 132 + i = 131 by omega)]
    by_cases c2 : i = 3 * n + 2
    · rw [if_pos c2, if_pos (by omega)]
    · rw [if_neg c2, if_neg (show ¬ 132 + i = 132 + 3 * n + 2 by omega)]
      by_cases c1 : i = 3 * n + 1
      · rw [if_pos c1, if_pos (by omega)]
      · rw [if_neg c1, if_neg (show ¬ 132 + i = 132 + 3 * n + 1 by omega)]
        by_cases c0 : i = 3 * n
        · rw [if_pos c0, if_pos (by omega)]
        · rw [if_neg c0, if_neg (show ¬ 132 + i = 132 + 3 * n by omega)]
          exact q2 i (by rw [el]; omega)
theorem Trade_loopB {J : Mem → Prop} {K : Cy} {σ : Mem} {o N : Nat} {w : Rw} {f : Mem × Int32 → Option ((Mem × Int32) ⊕ Mem)} {g : Rw → Nat → Rw} (hK : CyOk K) (h : CK σ K) (ho : OkO o) (hj : J σ) (hr : RS σ o K w) (hw : Wf (cT K) (cB K) N w) (hg : ∀ b v, b < cB K → Wf (cT K) (cB K) N v → Wf (cT K) (cB K) N (g v b)) (hf : ∀ τ b v, b < cB K → CK τ K → J τ → RS τ o K v → Wf (cT K) (cB K) N v → ∃ τ', f (τ, nI b) = some (.inl (τ', nI (b + 1))) ∧ CR J o K τ (g v b) τ') (he : ∀ τ, CK τ K → f (τ, nI (cB K)) = some (.inr τ)) : ∃ σ', loopF f FU (σ, (0 : Int32)) = some σ' ∧ CR J o K σ (itS g w (cB K)) σ' := by
  have h6 := hK.2.1
  refine loopF_go (fun i (s : Mem × Int32) => s.2 = nI i ∧ CR J o K σ (itS g w i) s.1) _ (cB K) ⟨rfl, CR.refl hr hj⟩ (by omega) ?_
  rintro i ⟨τ, z⟩ hiB ⟨hz, hr1⟩
  simp only at hz hr1
  subst hz
  have h1 := h.fr ho hr1.2.1
  by_cases hlt : i < cB K
  · obtain ⟨τ', g1, g2⟩ := hf τ i _ hlt h1 hr1.2.2.1 hr1.1 (itS_wf hw i fun b v hb => hg b v (by omega))
    rw [g1]
    exact exL ⟨hlt, rfl, hr1.trans g2⟩
  · have : i = cB K := by omega
    subst this
    rw [he τ h1]
    exact exR hr1
theorem Trade_isAfraid {K : Cy} {σ : Mem} {o b n : Nat} {w : Rw} (hK : CyOk K) (h : CK σ K) (hr : RS σ o K w) (hn : n ≤ 24) (hm : w 126 = nI n) (hb : b < cB K) : f_Trade_isAfraid σ o (nI b) = some (if dueS (fun k => w (30 + k)) (nI b) n ≤ 6 * cF K (4 * b + 2) then 0 else 1) := by
  have h6 := hK.2.1
  have hd := State_dueOf (b := nI b) (hr.2.2.2.2.2.1.1.trans hm) hn
  rw [dueS_congr n fun k hk => hr.2.2.2.2.1 k (by rw [mny_eq hn hm]; exact hk)] at hd
  unfold f_Trade_isAfraid
  rw [hd, Option.bind_some, if_pos h.1, City_nerveOf (show b < 6 by omega), Option.bind_some, h.2.2.2.2.2.2 (4 * b + 2) (by omega)]
  by_cases q : dueS (fun k => w (30 + k)) (nI b) n ≤ 6 * cF K (4 * b + 2)
  · rw [if_pos q, if_pos q]
  · rw [if_neg q, if_neg q]
theorem paH_hi {K : Cy} {T B N i : Nat} {w : Rw} (hK : CyOk K) (hT : cT K = T) (hB : cB K = B) (hw : Wf T B N w) (hi : 131 ≤ i) : paH K w i = w i := by
  have h8 := hK.1
  have h6 := hK.2.1
  have it : ∀ (f : Rw → Nat → Rw) (v : Rw) (n : Nat), n ≤ B → Wf T B N v → (∀ b v, b < B → Wf T B N v → Wf T B N (f v b)) → (∀ b v, b < B → Wf T B N v → f v b i = v i) → itS f v n i = v i := by
    intro f v n
    induction n with
    | zero => intros; rfl
    | succ n ih =>
      intro hn hv h1 h2
      show f (itS f v n) n i = v i
      rw [h2 n _ (by omega) (itS_wf hv n fun b v hb => h1 b v (by omega))]
      exact ih (by omega) hv h1 h2
  have e1 : itS (hoS K) w B i = w i := it _ _ _ (Nat.le_refl _) hw (fun b v hb hv => hoS_wf hK hT (by omega) hv hb) fun b v hb hv => by
    unfold hoS
    rw [hT]
    rcases holdS_ty v T (nI b) with q | ⟨t, ht, hh⟩
    · rw [if_pos q]
    · rw [hh, if_neg (nI_ne_m1 (by omega)), nI_clamp (by omega)]
      split
      · split
        · exact upd_ne (by omega)
        · rw [baS_out hv (by omega) (by omega), drS_at (by omega) (by omega)]
      · rw [buS_out hv (by omega) (by omega) (by omega), bu0_at (by omega) (by omega) (by omega)]
  have w1 := itS_wf (f := hoS K) hw B fun b v hb hv => hoS_wf hK hT (by omega) hv hb
  have e2 : itS (seS K) (itS (hoS K) w B) B i = itS (hoS K) w B i := it _ _ _ (Nat.le_refl _) w1 (fun b v hb hv => seS_wf hK hT (by omega) hv hb) fun b v hb hv => by
    unfold seS
    rw [hT]
    split
    · rename_i q
      rcases faS_ty K v b T (by omega) with q3 | ⟨t, q3, q4, q5⟩
      · exact absurd q3 q.2.2
      · rw [q4, nI_clamp (by omega)]
        unfold pkS
        rw [upd_ne (by omega), upd_ne (by omega)]
    · rfl
  have e3 : h2S K w i = w i := by
    unfold h2S h1S
    rw [upd_ne (by omega), hB, e2, e1]
  unfold paH
  split
  · obtain ⟨n, n1, n2, -⟩ := (h2S_wf hK hT hB hw).1
    rw [paS_vi (by omega) n1 n2, upd_ne (by omega), viS_lo (by omega), e3]
  · exact e3
theorem RG_fr {σ σ' : Mem} {o : Nat} {w w' : Rw} (h : RG σ o w) (h10 : mI σ' o 10 = mI σ o 10) (h9 : mI σ' (o + 9) = mI σ (o + 9)) (hw : ∀ i, 131 ≤ i → w' i = w i) : RG σ' o w' := by
  obtain ⟨q1, q2, q3⟩ := h
  have el : lnS w' = lnS w := by unfold lnS; rw [hw 131 (by omega)]
  refine ⟨by rw [hw _ (by omega)]; exact q1, by rw [h10, hw _ (by omega)]; exact q2, fun i hi => ?_⟩
  rw [h9, hw _ (by omega)]
  exact q3 i (by rw [el] at hi; exact hi)
theorem Trade_passHour {J : Mem → Prop} {K : Cy} {σ : Mem} {o N : Nat} {w : Rw} (hJ : LkC J (cL K)) (hK : CyOk K) (h : CK σ K) (ho : OkO o) (hj : J σ) (hr : RS σ o K w) (hw : Wf (cT K) (cB K) N w) (hN : N < 2 ^ 30) : ∃ σ', f_Trade_passHour σ o = some σ' ∧ CG J o K σ (paH K w) σ' ∧ (RG σ o w → RG σ' o (lgS (paH K w) (hbS (paH K w) (cT K) 6))) := by
  have h8 := hK.1
  have h6 := hK.2.1
  obtain ⟨σ1, g1, g2⟩ := Trade_loopB (f := f_Trade_passHour_L2 o) (g := hoS K) hK h ho hj hr hw (fun b v hb hv => hoS_wf hK rfl h6 hv hb) (by
    intro τ b v hb h1 j1 r1 w1
    unfold f_Trade_passHour_L2
    have i1 := inb_nI (show b < 6 by omega) (by decide)
    have e1 := nI_clamp (show b < 2 ^ 31 by omega)
    simp only [h1.1, if_true, h1.2.2.2.1, c_le_f hb (show cB K < 2 ^ 31 by omega), if_false, i1, e1, r1.2.2.1 b (by omega), nI_1]
    by_cases q : holdS v (cT K) (nI b) = -1
    · rw [if_pos q]
      refine ⟨τ, rfl, ?_⟩
      unfold hoS
      rw [if_pos q]
      exact CR.refl r1 j1
    · rw [if_neg q]
      obtain ⟨σ1, g1, g2⟩ := Trade_decide hJ hK h1 ho j1 r1 w1 hN hb q
      rw [g1]
      exact ⟨σ1, rfl, g2⟩) (by
    intro τ h1
    unfold f_Trade_passHour_L2
    simp only [h1.1, if_true, h1.2.2.2.1, c_le_t (Nat.le_refl (cB K)) (show cB K < 2 ^ 31 by omega)])
  have w1 := itS_wf (f := hoS K) hw (cB K) fun b v hb hv => hoS_wf hK rfl h6 hv hb
  obtain ⟨σ2, g3, g4⟩ := Trade_loopB (f := f_Trade_passHour_L37 o) (g := seS K) hK (h.fr ho g2.2.1) ho g2.2.2.1 g2.1 w1 (fun b v hb hv => seS_wf hK rfl h6 hv hb) (by
    intro τ b v hb h1 j1 r1 w1
    obtain ⟨n, n1, n2, -⟩ := w1.1
    have haf := Trade_isAfraid hK h1 r1 n1 n2 hb
    unfold f_Trade_passHour_L37 seS
    have i1 := inb_nI (show b < 6 by omega) (by decide)
    have e1 := nI_clamp (show b < 2 ^ 31 by omega)
    simp only [h1.1, if_true, h1.2.2.2.1, c_le_f hb (show cB K < 2 ^ 31 by omega), if_false, i1, e1, r1.2.2.1 b (by omega), nI_1, haf, Option.bind_some, mny_eq n1 n2]
    by_cases q : holdS v (cT K) (nI b) = -1
    · rw [if_pos q]
      by_cases q2 : dueS (fun k => v (30 + k)) (nI b) n ≤ 6 * cF K (4 * b + 2)
      · simp only [q, q2, if_true, true_and]
        obtain ⟨σ1, k1, k2⟩ := Trade_pickFavourite hJ hK h1 ho j1 r1 w1 hb q
        rw [k1]
        exact ⟨σ1, rfl, k2⟩
      · simp only [q2, if_false, false_and, and_false, show ¬ ((1 : Int32) = 0) by decide]
        exact ⟨τ, rfl, CR.refl r1 j1⟩
    · rw [if_neg q, if_neg (fun p => q p.1)]
      exact ⟨τ, rfl, CR.refl r1 j1⟩) (by
    intro τ h1
    unfold f_Trade_passHour_L37
    simp only [h1.1, if_true, h1.2.2.2.1, c_le_t (Nat.le_refl (cB K)) (show cB K < 2 ^ 31 by omega)])
  have r2 := g2.trans g4
  have e14 : mI σ2 o 14 = h1S K w 130 := r2.1.2.2.2.2.2.1.2.2.2.2
  have r3 : CR J o K σ (h2S K w) (sI σ2 o 14 (mI σ2 o 14 + 1)) := by
    refine r2.trans (CR.of hJ ho r2.2.2.1 ?_ (CX_sI (by omega)) (by rw [row_sI, upd_ne (by omega)]) (by rw [row_ne (by omega)]))
    have st : ∀ j, j ≠ 130 → h2S K w j = h1S K w j := fun j hj => by unfold h2S; rw [upd_ne hj]
    have em : mny (h2S K w) = mny (h1S K w) := by unfold mny; rw [st _ (by omega)]
    obtain ⟨n, n1, n2, -⟩ := (h1S_wf hK rfl rfl hw).1
    obtain ⟨⟨r1, r2, r3, r4, r5, ⟨r6, r7, r8, r9, r10⟩, r11⟩, -⟩ := r2
    unfold RS
    simp (disch := omega) only [row_ne, row_sI, upd_ne, upd_self]
    refine ⟨fun u hu => ?_, r2, fun c hc => ?_, fun c hc => ?_, fun i hi => ?_, ⟨?_, ?_, ?_, ?_, ?_⟩, r11⟩
    · rw [st u (by omega), st (8 + u) (by omega), st (16 + u) (by omega)]
      exact r1 u hu
    · rw [holdS_congr h8 fun i hi => st i (by omega)]; exact r3 c hc
    · rw [st _ (by omega)]; exact r4 c hc
    · rw [em, mny_eq n1 n2] at hi
      rw [st _ (by omega)]; exact r5 i (by show i < 4 * mny (h1S K w); rw [mny_eq n1 n2]; exact hi)
    · rw [st _ (by omega)]; exact r6
    · rw [st _ (by omega)]; exact r7
    · rw [st _ (by omega)]; exact r8
    · rw [st _ (by omega)]; exact r9
    · rw [e14]; unfold h2S; rw [upd_self]
  have w3 := h2S_wf hK rfl rfl hw
  have h3 := h.fr ho r3.2.1
  obtain ⟨y, y1, y2, y3⟩ := hK.2.2.2.2.2.2.1
  have hmi : f_City_michaelmas (sI σ2 o 14 (mI σ2 o 14 + 1)) (mR σ2 428 1) = some (nI y) := by
    have hR : mR (sI σ2 o 14 (mI σ2 o 14 + 1)) = mR σ2 := rfl
    have q := h3.2.2.2.2.1 2 (by omega)
    rw [y3, hR] at q
    unfold f_City_michaelmas
    rw [show (2 : Int32).toNatClampNeg = 2 by decide, q]
  have hkd : kd (mR σ2 428 1) = 2 := (h.fr ho r2.2.1).1
  have h14 : mI (sI σ2 o 14 (mI σ2 o 14 + 1)) o 14 = h2S K w 130 := r3.1.2.2.2.2.2.1.2.2.2.2
  unfold f_Trade_passHour
  rw [g1, Option.bind_some, g3, Option.bind_some, if_pos hkd, hmi, Option.bind_some, if_neg (nI_nle (by omega) (by omega)), Option.bind_some, if_neg (nI_ne0 (by omega) (by omega)), h14]
  have hi : ∀ i, 131 ≤ i → paH K w i = w i := fun i hi => paH_hi hK rfl rfl hw hi
  unfold paH at hi ⊢
  rw [y3] at hi ⊢
  by_cases q : h2S K w 130 - h2S K w 130 / nI y * nI y = 0
  · rw [if_pos q] at hi ⊢
    rw [if_pos q]
    obtain ⟨σ4, k1, k2⟩ := Trade_keepMichaelmas hJ hK h3 ho r3.2.2.1 r3.1 w3
    have r4 := r3.trans k2
    obtain ⟨σ5, k3, k4, k5⟩ := State_writeLog hJ ho r4.2.2.1 r4.1
    rw [k1, Option.bind_some, k3]
    exact ⟨σ5, rfl, ⟨k4.1, r4.2.1.trans k4.2.1, k4.2.2⟩, fun hg => k5 (RG_fr hg r4.2.2.2.1 r4.2.2.2.2 hi)⟩
  · rw [if_neg q] at hi ⊢
    rw [if_neg q]
    obtain ⟨σ5, k3, k4, k5⟩ := State_writeLog hJ ho r3.2.2.1 r3.1
    rw [k3]
    exact ⟨σ5, rfl, ⟨k4.1, r3.2.1.trans k4.2.1, k4.2.2⟩, fun hg => k5 (RG_fr hg r3.2.2.2.1 r3.2.2.2.2 hi)⟩
