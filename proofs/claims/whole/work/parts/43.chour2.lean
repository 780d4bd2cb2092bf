/-! the class: what a seeker picks up; what is paid -/
theorem Trade_pickFavourite {J : Mem → Prop} {K : Cy} {σ : Mem} {o b N : Nat} {w : Rw} (hJ : LkC J (cL K)) (hK : CyOk K) (h : CK σ K) (ho : OkO o) (hj : J σ) (hr : RS σ o K w) (hw : Wf (cT K) (cB K) N w) (hb : b < cB K) (hh : holdS w (cT K) (nI b) = -1) : ∃ σ', f_Trade_pickFavourite σ o (nI b) = some σ' ∧ CR J o K σ (if (faS K w b (cT K)).1 ≠ -1 then pkS w b (faS K w b (cT K)).1.toNatClampNeg else w) σ' := by
  have h8 := hK.1
  have h6 := hK.2.1
  obtain ⟨n, n1, n2, -⟩ := hw.1
  have hmn := mny_eq n1 n2
  unfold f_Trade_pickFavourite
  obtain ⟨⟨τ, z⟩, g1, g2, g3⟩ := loopF_go (step := f_Trade_pickFavourite_L8 o (nI b)) (a := (σ, (-1 : Int32), (0 : Int32), (0 : Int32))) (fun i s => s.2.1 = (faS K w b i).1 ∧ s.2.2.1 = (faS K w b i).2 ∧ s.2.2.2 = nI i ∧ CY σ s.1) (fun r => r.2 = (faS K w b (cT K)).1 ∧ CY σ r.1) (cT K) ⟨rfl, rfl, rfl, CY.refl _⟩ (by omega) (by
    rintro i ⟨τ, z3, z4, z5⟩ hiT ⟨e3, e4, e5, hy⟩
    simp only at e3 e4 e5 hy
    have h1 := h.fr ho (hy.x (o := o))
    have hr1 := hr.cy ho hy
    have hj1 := J_CY hJ hj hy
    subst e5
    unfold f_Trade_pickFavourite_L8
    simp only [h1.1, if_true, h1.2.2.1]
    by_cases hlt : i < cT K
    · have hhb := State_hasBillFor (σ := τ) (o := o) (b := nI b) (t := nI i) (hr1.2.2.2.2.2.1.1.trans n2) n1
      have ehb : hasS (mI τ (o + 8)) (nI b) (nI i) n = hasS (fun k => w (30 + k)) (nI b) (nI i) n := hasS_congr fun k hk => hr1.2.2.2.2.1 k (by rw [hmn]; exact hk)
      rw [ehb] at hhb
      obtain ⟨σ1, k1, k2⟩ := Trade_liked hJ hK h1 ho hj1 hr1 hb hlt
      have i2 := inb_nI (show i < 8 by omega) (by decide)
      have e2 := nI_clamp (show i < 2 ^ 31 by omega)
      simp only [c_le_f hlt (show cT K < 2 ^ 31 by omega), if_false, i2, if_true, e2, (hr1.1 i (by omega)).1, hhb, k1, Option.bind_some, nI_1]
      have ef : faS K w b (i + 1) = if w i = -1 ∧ hasS (fun k => w (30 + k)) (nI b) (nI i) n = 0 ∧ (faS K w b i).2 < lkS K w b i then (nI i, lkS K w b i) else faS K w b i := by
        show (if _ then _ else _) = _
        rw [hmn]
      by_cases q3 : w i = -1
      · rw [if_pos q3]
        by_cases q4 : hasS (fun k => w (30 + k)) (nI b) (nI i) n = 0
        · rw [if_pos q4]
          by_cases q5 : lkS K w b i ≤ z4
          · rw [if_pos q5]
            rw [e4] at q5
            rw [if_neg (fun q => Int32.not_lt.mpr q5 q.2.2)] at ef
            exact exL ⟨hlt, by rw [ef]; exact e3, by rw [ef]; exact e4, rfl, hy.trans k2⟩
          · rw [if_neg q5]
            rw [e4] at q5
            rw [if_pos ⟨q3, q4, Int32.not_le.mp q5⟩] at ef
            exact exL ⟨hlt, by rw [ef], by rw [ef], rfl, hy.trans k2⟩
        · rw [if_neg q4]
          rw [if_neg (fun q => q4 q.2.1)] at ef
          exact exL ⟨hlt, by rw [ef]; exact e3, by rw [ef]; exact e4, rfl, hy⟩
      · rw [if_neg q3]
        rw [if_neg (fun q => q3 q.1)] at ef
        exact exL ⟨hlt, by rw [ef]; exact e3, by rw [ef]; exact e4, rfl, hy⟩
    · have : i = cT K := by omega
      subst this
      simp only [c_le_t (Nat.le_refl (cT K)) (show cT K < 2 ^ 31 by omega), if_true]
      exact exR ⟨e3, hy⟩)
  simp only at g2 g3
  have r1 := CR.cy hJ ho hr hj g3
  rw [g1, Option.bind_some]
  simp only
  rw [g2]
  rcases faS_ty K w b (cT K) h8 with q3 | ⟨t, q3, q4, q5⟩
  · rw [if_pos q3, if_neg (fun p => p q3)]
    exact ⟨_, rfl, r1⟩
  · have q6 : (faS K w b (cT K)).1 ≠ -1 := by rw [q4]; exact nI_ne_m1 (by omega)
    obtain ⟨σ2, k3, k4⟩ := Trade_pickUp hJ hK ho r1.2.2.1 r1.1 hw hb q3 q5 hh
    rw [if_neg q6, if_pos q6, q4, k3, nI_clamp (by omega)]
    exact ⟨_, rfl, r1.trans k4⟩
/-- the treasury behind i buyers who pay -/
def trS (w : Rw) : Nat → Int32
  | 0 => w 129
  | i + 1 => imin 9999 (trS w i + imin (w (24 + i)) (dueS (fun k => w (30 + k)) (nI i) (mny w)))
theorem p1S_eq (w : Rw) (b : Nat) : p1S w b = upd (upd w (24 + b) (w (24 + b) - imin (w (24 + b)) (dueS (fun k => w (30 + k)) (nI b) (mny w)))) 129 (imin 9999 (w 129 + imin (w (24 + b)) (dueS (fun k => w (30 + k)) (nI b) (mny w)))) := rfl
theorem p2S_eq (K : Cy) (w : Rw) (b : Nat) : p2S K w b = upd w (24 + b) (imin 999 (w (24 + b) + cR K 3)) := rfl
theorem itp1 (w : Rw) (n : Nat) (hn : n ≤ 24) (hm : w 126 = nI n) : ∀ i, i ≤ 6 → ∀ j, itS p1S w i j = if 24 ≤ j ∧ j < 24 + i then w j - imin (w j) (dueS (fun k => w (30 + k)) (nI (j - 24)) n) else if j = 129 then trS w i else w j := by
  intro i
  induction i with
  | zero =>
    intro _ j
    rw [if_neg (by omega)]
    by_cases h : j = 129
    · subst h; rw [if_pos rfl]; rfl
    · rw [if_neg h]; rfl
  | succ i ih =>
    intro hi j
    have ih := ih (by omega)
    have e126 : itS p1S w i 126 = nI n := by rw [ih 126, if_neg (by omega), if_neg (by omega)]; exact hm
    have ed : dueS (fun k => itS p1S w i (30 + k)) (nI i) n = dueS (fun k => w (30 + k)) (nI i) n := dueS_congr n fun k hk => by
      show itS p1S w i (30 + k) = w (30 + k)
      rw [ih, if_neg (by omega), if_neg (by omega)]
    have ep : itS p1S w i (24 + i) = w (24 + i) := by rw [ih, if_neg (by omega), if_neg (by omega)]
    have et : itS p1S w i 129 = trS w i := by rw [ih, if_neg (by omega), if_pos rfl]
    show p1S (itS p1S w i) i j = _
    rw [p1S_eq, mny_eq hn e126, ed, ep, et, upd_at]
    by_cases h : j = 129
    · subst h
      rw [if_pos rfl, if_neg (by omega), if_pos rfl]
      show _ = imin 9999 (trS w i + imin (w (24 + i)) (dueS (fun k => w (30 + k)) (nI i) (mny w)))
      rw [mny_eq hn hm]
    · rw [if_neg h, upd_at]
      by_cases h2 : j = 24 + i
      · subst h2
        rw [if_pos rfl, if_pos (by omega), show 24 + i - 24 = i by omega]
      · rw [if_neg h2, ih j, if_neg h]
        by_cases h3 : 24 ≤ j ∧ j < 24 + i
        · rw [if_pos h3, if_pos (by omega)]
        · rw [if_neg h3, if_neg (by omega), if_neg h]
theorem itp2 (K : Cy) (u : Rw) : ∀ i, ∀ j, itS (p2S K) u i j = if 24 ≤ j ∧ j < 24 + i then imin 999 (u j + cR K 3) else u j := by
  intro i
  induction i with
  | zero => intro j; rw [if_neg (by omega)]; rfl
  | succ i ih =>
    intro j
    show p2S K (itS (p2S K) u i) i j = _
    rw [p2S_eq, upd_at]
    by_cases h2 : j = 24 + i
    · subst h2
      rw [if_pos rfl, if_pos (by omega), ih, if_neg (by omega)]
    · rw [if_neg h2, ih]
      by_cases h3 : 24 ≤ j ∧ j < 24 + i
      · rw [if_pos h3, if_pos (by omega)]
      · rw [if_neg h3, if_neg (by omega)]
/-- the class's row behind i buyers who have paid and got their income -/
def viS (K : Cy) (w : Rw) (n i : Nat) : Rw := fun j => if 24 ≤ j ∧ j < 24 + i then imin 999 (w j - imin (w j) (dueS (fun k => w (30 + k)) (nI (j - 24)) n) + cR K 3) else if j = 129 then trS w i else w j
theorem paS_vi {K : Cy} {w : Rw} {n : Nat} (hB : cB K ≤ 6) (hn : n ≤ 24) (hm : w 126 = nI n) : paS K w = upd (viS K w n (cB K)) 126 0 := by
  funext j
  unfold paS
  rw [itp2, upd_at, upd_at]
  by_cases h : j = 126
  · subst h
    rw [if_neg (by omega), if_pos rfl, if_pos rfl]
  · rw [if_neg h, if_neg h, itp1 w n hn hm _ hB]
    unfold viS
    by_cases h3 : 24 ≤ j ∧ j < 24 + cB K
    · rw [if_pos h3, if_pos h3, if_pos h3]
    · rw [if_neg h3, if_neg h3, if_neg h3]
theorem viS_lo {K : Cy} {w : Rw} {n i j : Nat} (h : j < 24 ∨ (24 + i ≤ j ∧ j ≠ 129)) : viS K w n i j = w j := by
  unfold viS; rw [if_neg (by omega), if_neg (by omega)]
theorem viS_t {K : Cy} {w : Rw} {n i : Nat} (h : i ≤ 6) : viS K w n i 129 = trS w i := by
  unfold viS; rw [if_neg (by omega), if_pos rfl]
theorem Trade_keepMichaelmas {J : Mem → Prop} {K : Cy} {σ : Mem} {o N : Nat} {w : Rw} (hJ : LkC J (cL K)) (hK : CyOk K) (h : CK σ K) (ho : OkO o) (hj : J σ) (hr : RS σ o K w) (hw : Wf (cT K) (cB K) N w) : ∃ σ', f_Trade_keepMichaelmas σ o = some σ' ∧ CR J o K σ (paS K w) σ' := by
  have h8 := hK.1
  have h6 := hK.2.1
  obtain ⟨n, n1, n2, -⟩ := hw.1
  have hmn := mny_eq n1 n2
  rw [paS_vi h6 n1 n2]
  unfold f_Trade_keepMichaelmas
  refine loopF_go (fun i (s : Mem × Int32) => s.2 = nI i ∧ CR J o K σ (viS K w n i) s.1) _ (cB K) ⟨rfl, ?_⟩ (by omega) ?_
  · have : viS K w n 0 = w := by
      funext j
      unfold viS
      rw [if_neg (by omega)]
      by_cases q : j = 129
      · subst q; rw [if_pos rfl]; rfl
      · rw [if_neg q]
    rw [this]
    exact CR.refl hr hj
  · rintro i ⟨τ, z⟩ hiB ⟨hz, hr1⟩
    simp only at hz hr1
    subst hz
    have h1 := h.fr ho hr1.2.1
    have e126 : viS K w n i 126 = nI n := (viS_lo (by omega)).trans n2
    have h9 : mI τ o 9 = nI n := hr1.1.2.2.2.2.2.1.1.trans e126
    have h13 : mI τ o 13 = trS w i := hr1.1.2.2.2.2.2.1.2.2.2.1.trans (viS_t (by omega))
    unfold f_Trade_keepMichaelmas_L2
    by_cases hlt : i < cB K
    · have hd := State_dueOf (b := nI i) h9 n1
      have ed : dueS (mI τ (o + 8)) (nI i) n = dueS (fun k => w (30 + k)) (nI i) n := dueS_congr n fun k hk => by
        rw [hr1.1.2.2.2.2.1 k (by rw [mny_eq n1 e126]; exact hk)]
        exact viS_lo (by omega)
      rw [ed] at hd
      have h6' : mI τ (o + 6) i = w (24 + i) := (hr1.1.2.2.2.1 i hlt).1.trans (viS_lo (by omega))
      have i1 := inb_nI (show i < 6 by omega) (by decide)
      have e1 := nI_clamp (show i < 2 ^ 31 by omega)
      have hinc : ∀ v, f_City_income (sI τ o 13 v) (mR τ 428 1) = some (cR K 3) := fun v => by
        have hor := ho.r
        have hc := h1.c
        unfold f_City_income
        rw [show (3 : Int32).toNatClampNeg = 3 by decide, row_ne (by omega), h1.2.2.2.2.1 3 (by omega)]
      simp only [h1.1, if_true, h1.2.2.2.1, c_le_f hlt (show cB K < 2 ^ 31 by omega), if_false]
      rw [hd, Option.bind_some, if_pos i1, hinc, Option.bind_some, e1, row_ne (show o + 6 ≠ o by omega), h6', h13, nI_1, imin_comm (dueS (fun k => w (30 + k)) (nI i) n) (w (24 + i))]
      refine exL ⟨hlt, rfl, ?_⟩
      refine hr1.trans (CR.of hJ ho hr1.2.2.1 ?_ ((CX_sI (by omega)).trans (CX_sI (by omega))) (by simp (disch := omega) only [row_ne, row_sI, upd_ne]) (by simp (disch := omega) only [row_ne]))
      have tr1 : trS w (i + 1) = imin 9999 (trS w i + imin (w (24 + i)) (dueS (fun k => w (30 + k)) (nI i) n)) := by
        show imin 9999 _ = _
        rw [hmn]
      have st : ∀ j, j ≠ 24 + i → j ≠ 129 → viS K w n (i + 1) j = viS K w n i j := fun j q1 q2 => by
        unfold viS
        by_cases q3 : 24 ≤ j ∧ j < 24 + i
        · rw [if_pos q3, if_pos (by omega)]
        · rw [if_neg q3, if_neg (by omega), if_neg q2, if_neg q2]
      have em : mny (viS K w n (i + 1)) = mny (viS K w n i) := by unfold mny; rw [st _ (by omega) (by omega)]
      obtain ⟨⟨r1, r2, r3, r4, r5, ⟨r6, r7, r8, r9, r10⟩, r11⟩, -⟩ := hr1
      unfold RS
      simp (disch := omega) only [row_ne, row_sI]
      refine ⟨fun u hu => ?_, r2, fun c hc => ?_, fun c hc => ?_, fun i hi => ?_, ⟨?_, ?_, ?_, ?_, ?_⟩, ?_⟩
      · rw [st u (by omega) (by omega), st (8 + u) (by omega) (by omega), st (16 + u) (by omega) (by omega)]
        exact r1 u hu
      · rw [holdS_congr h8 fun i hi => st i (by omega) (by omega)]; exact r3 c hc
      · rw [upd_at]
        by_cases hcb : c = i
        · subst hcb
          rw [if_pos rfl]
          refine ⟨?_, (r4 c hc).2⟩
          unfold viS
          rw [if_pos (by omega), show 24 + c - 24 = c by omega]
        · rw [if_neg hcb, st _ (by omega) (by omega)]
          exact r4 c hc
      · rw [em] at hi
        rw [mny_eq n1 e126] at hi
        rw [st _ (by omega) (by omega)]; exact r5 i (by rw [mny_eq n1 e126]; exact hi)
      · rw [upd_ne (by omega), st _ (by omega) (by omega)]; exact r6
      · rw [upd_ne (by omega), st _ (by omega) (by omega)]; exact r7
      · rw [upd_ne (by omega), st _ (by omega) (by omega)]; exact r8
      · rw [upd_self, viS_t (by omega), tr1]
      · rw [upd_ne (by omega), st _ (by omega) (by omega)]; exact r10
      · rw [upd_ne (by omega)]; exact r11
    · have : i = cB K := by omega
      subst this
      simp only [h1.1, if_true, h1.2.2.2.1, c_le_t (Nat.le_refl (cB K)) (show cB K < 2 ^ 31 by omega)]
      refine exR (hr1.trans (CR.of hJ ho hr1.2.2.1 ?_ (CX_sI (by omega)) (by simp (disch := omega) only [row_sI, upd_ne]) (by simp (disch := omega) only [row_ne])))
      refine RS.bills h8 h6 hr1.1 (fun i hi => upd_ne (by omega)) (fun a h1 h2 h3 h4 => by simp (disch := omega) only [row_ne]) (fun k hk => by rw [row_sI, upd_ne hk]) (by rw [row_sI, upd_self, upd_self]) ?_
      intro i hi
      have e0 : mny (upd (viS K w n (cB K)) 126 0) = 0 := mny_eq (n := 0) (by omega) (upd_self _ _ _)
      rw [e0] at hi
      omega
