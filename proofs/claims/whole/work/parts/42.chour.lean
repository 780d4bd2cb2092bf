/-! the class: an hour's holders and seekers -/
theorem RS_bu {J : Mem → Prop} {K : Cy} {σ : Mem} {o b t N p m : Nat} {w : Rw} (hJ : LkC J (cL K)) (hK : CyOk K) (ho : OkO o) (hj : J σ) (hr : RS σ o K w) (hw : Wf (cT K) (cB K) N w) (hb : b < cB K) (hh : holdS w (cT K) (nI b) = nI t) (ht8 : t < 8) (hp : cW K (3 * t) = nI p) (hm : w (24 + b) = nI m) (hpm : p ≤ m) (hm2 : m < 1000) : CR J o K σ (bu0 K w b t) (sI (sI (sI (sI σ (o + 6) b (mI σ (o + 6) b - cW K (3 * t))) (o + 2) t 1) (o + 3) t 0) (o + 5) b (-1)) := by
  have h8 := hK.1
  have h6 := hK.2.1
  have hw' := bu0_wf (K := K) h8 h6 hw hb hh ht8 hp hm hpm hm2
  have em : mny (bu0 K w b t) = mny w := by unfold mny; rw [bu0_mny (by omega) ht8]
  refine CR.of hJ ho hj ?_ ((((CX_sI (by omega)).trans (CX_sI (by omega))).trans (CX_sI (by omega))).trans (CX_sI (by omega))) (by simp (disch := omega) only [row_ne]) (by simp (disch := omega) only [row_ne])
  obtain ⟨r1, r2, r3, r4, r5, ⟨r6, r7, r8, r9, r10⟩, r11⟩ := hr
  unfold RS
  simp (disch := omega) only [row_ne, row_sI]
  refine ⟨fun u hu => ?_, r2, fun c hc => ?_, fun c hc => ?_, fun i hi => ?_, ⟨?_, ?_, ?_, ?_, ?_⟩, r11⟩
  · rw [upd_at, upd_at, bu0_at (i := u) (by omega) (by omega) (by omega)]
    by_cases hu2 : u = t
    · subst hu2
      rw [if_pos rfl, if_pos rfl, bu0_s]
      exact ⟨(r1 u hu).1, rfl, by unfold bu0; rw [upd_self]⟩
    · rw [if_neg hu2, if_neg hu2, bu0_at (i := 8 + u) (by omega) (by omega) (by omega), bu0_at (i := 16 + u) (by omega) (by omega) (by omega)]
      exact r1 u hu
  · rw [bu0_hold h8 hw.2.1 hc (by omega) hh ht8 hw'.2.1, upd_at, r3 c hc]
  · rw [upd_at]
    by_cases hcb : c = b
    · subst hcb
      rw [if_pos rfl, bu0_p ht8, (r4 c hc).1]
      exact ⟨rfl, (r4 c hc).2⟩
    · rw [if_neg hcb, bu0_at (by omega) (by omega) (by omega)]
      exact r4 c hc
  · rw [em] at hi
    obtain ⟨n, n1, n2, -⟩ := hw.1
    rw [mny_eq n1 n2] at hi
    rw [bu0_at (by omega) (by omega) (by omega)]; exact r5 i (by rw [mny_eq n1 n2]; exact hi)
  · rw [bu0_at (by omega) (by omega) (by omega)]; exact r6
  · rw [bu0_at (by omega) (by omega) (by omega)]; exact r7
  · rw [bu0_at (by omega) (by omega) (by omega)]; exact r8
  · rw [bu0_at (by omega) (by omega) (by omega)]; exact r9
  · rw [bu0_at (by omega) (by omega) (by omega)]; exact r10
theorem Trade_purchase {J : Mem → Prop} {K : Cy} {σ : Mem} {o b t N p m : Nat} {w : Rw} (hJ : LkC J (cL K)) (hK : CyOk K) (h : CK σ K) (ho : OkO o) (hj : J σ) (hr : RS σ o K w) (hw : Wf (cT K) (cB K) N w) (hN : N < 2 ^ 30) (hb : b < cB K) (hh : holdS w (cT K) (nI b) = nI t) (ht8 : t < 8) (hp : cW K (3 * t) = nI p) (hm : w (24 + b) = nI m) (hpm : p ≤ m) (hm2 : m < 1000) : ∃ σ', f_Trade_purchase σ o (nI b) = some (nI (buS K w b t).1, σ') ∧ CR J o K σ (buS K w b t).2 σ' := by
  have h8 := hK.1
  have h6 := hK.2.1
  obtain ⟨ht, -, -⟩ := holdS_is h8 (by omega) hh
  have h5 : mI σ (o + 5) b = nI t := (hr.2.2.1 b (by omega)).trans hh
  have hw' := bu0_wf (K := K) h8 h6 hw hb hh ht8 hp hm hpm hm2
  have hc := h.c
  have hor := ho.r
  have r1 := RS_bu hJ hK ho hj hr hw hb hh ht8 hp hm hpm hm2
  have h1 := h.fr ho r1.2.1
  obtain ⟨n, n1, n2, n3⟩ := hw'.1
  obtain ⟨H, H1, H2⟩ := hw'.2.2.2.2
  obtain ⟨y, y1, y2⟩ := hK.2.2.2.2.2.2.2.2.1
  obtain ⟨σ2, g1, g2⟩ := State_strikeBills (b := nI b) (t := nI t) (r := y) hJ hK ho r1.2.2.1 r1.1 n1 n2 (fun k hk => (n3 k hk).1) hN (show H < 2 ^ 30 by omega) H2 (by omega)
  have i1 := inb_nI (show b < 6 by omega) (by decide)
  have i2 := inb_nI (show t < 8 by omega) (by decide)
  have e1 := nI_clamp (show b < 2 ^ 31 by omega)
  have e2 := nI_clamp (show t < 2 ^ 31 by omega)
  have hpr := City_priceOf (σ := σ) (c := mR σ 428 1) (t := t) (by omega)
  rw [h.2.2.2.2.2.1 (3 * t) (by omega)] at hpr
  have h14 := r1.1.2.2.2.2.2.1.2.2.2.2
  have hcb : f_City_hoursToComeBack (sI (sI (sI (sI σ (o + 6) b (mI σ (o + 6) b - cW K (3 * t))) (o + 2) t 1) (o + 3) t 0) (o + 5) b (-1)) (mR σ 428 1) = some (nI y) := by
    have hR : mR (sI (sI (sI (sI σ (o + 6) b (mI σ (o + 6) b - cW K (3 * t))) (o + 2) t 1) (o + 3) t 0) (o + 5) b (-1)) = mR σ := rfl
    have q := h1.2.2.2.2.1 1 (by omega)
    rw [y2, hR] at q
    unfold f_City_hoursToComeBack
    rw [show (1 : Int32).toNatClampNeg = 1 by decide, q]
  unfold f_Trade_purchase
  rw [if_pos i1, if_pos h.1, e1, h5, hpr, Option.bind_some, if_pos i2, e2, hcb, Option.bind_some, h14, H2, g1, Option.bind_some]
  have hmn : mny w = n := by
    rw [bu0_mny (by omega) ht8] at n2
    exact mny_eq n1 n2
  unfold buS
  rw [hmn, y2]
  exact ⟨σ2, rfl, r1.trans g2⟩
theorem Trade_decide_J50 {J : Mem → Prop} {K : Cy} {σ : Mem} {o b t N : Nat} {w : Rw} (hJ : LkC J (cL K)) (hK : CyOk K) (h : CK σ K) (ho : OkO o) (hj : J σ) (hr : RS σ o K w) (hw : Wf (cT K) (cB K) N w) (hb : b < cB K) (hh : holdS w (cT K) (nI b) = nI t) (ht : t < cT K) : ∃ σ', f_Trade_decide_J50 σ o (nI b) (nI t) = some σ' ∧ CR J o K σ (if w (16 + t) ≤ cV K t / 3 then upd w (16 + t) (w (16 + t) + 1) else baS K w b t) σ' := by
  have h8 := hK.1
  have h6 := hK.2.1
  have i2 := inb_nI (show t < 8 by omega) (by decide)
  have e2 := nI_clamp (show t < 2 ^ 31 by omega)
  unfold f_Trade_decide_J50
  simp only [i2, e2, if_true, (hr.1 t (by omega)).2.2, hr.2.1 t ht]
  by_cases h9 : w (16 + t) ≤ cV K t / 3
  · rw [if_pos h9, if_pos h9]
    refine ⟨_, rfl, CR.of hJ ho hj ?_ (CX_sI (by omega)) (by simp (disch := omega) only [row_ne]) (by simp (disch := omega) only [row_ne])⟩
    have em : mny (upd w (16 + t) (w (16 + t) + 1)) = mny w := by unfold mny; rw [upd_ne (by omega)]
    obtain ⟨r1, r2, r3, r4, r5, ⟨r6, r7, r8, r9, r10⟩, r11⟩ := hr
    unfold RS
    simp (disch := omega) only [row_ne, row_sI]
    refine ⟨fun u hu => ?_, r2, fun c hc => ?_, fun c hc => ?_, fun i hi => ?_, ⟨?_, ?_, ?_, ?_, ?_⟩, r11⟩
    · rw [upd_ne (f := w) (j := u) (by omega), upd_ne (f := w) (j := 8 + u) (by omega), upd_at, upd_at]
      by_cases hu2 : u = t
      · subst hu2
        rw [if_pos rfl, if_pos rfl]
        exact ⟨(r1 u hu).1, (r1 u hu).2.1, rfl⟩
      · rw [if_neg hu2, if_neg (by omega)]
        exact r1 u hu
    · rw [holdS_congr h8 fun i hi => upd_ne (by omega)]; exact r3 c hc
    · rw [upd_ne (by omega)]; exact r4 c hc
    · rw [em] at hi
      rw [upd_ne (by omega)]; exact r5 i hi
    · rw [upd_ne (by omega)]; exact r6
    · rw [upd_ne (by omega)]; exact r7
    · rw [upd_ne (by omega)]; exact r8
    · rw [upd_ne (by omega)]; exact r9
    · rw [upd_ne (by omega)]; exact r10
  · rw [if_neg h9, if_neg h9]
    obtain ⟨σ2, g1, g2⟩ := Trade_layBack hJ hK h ho hj hr hw hb hh (by omega)
    rw [g1]
    exact ⟨σ2, rfl, g2⟩
theorem Trade_decide {J : Mem → Prop} {K : Cy} {σ : Mem} {o b N : Nat} {w : Rw} (hJ : LkC J (cL K)) (hK : CyOk K) (h : CK σ K) (ho : OkO o) (hj : J σ) (hr : RS σ o K w) (hw : Wf (cT K) (cB K) N w) (hN : N < 2 ^ 30) (hb : b < cB K) (hne : holdS w (cT K) (nI b) ≠ -1) : ∃ σ', f_Trade_decide σ o (nI b) = some σ' ∧ CR J o K σ (hoS K w b) σ' := by
  have h8 := hK.1
  have h6 := hK.2.1
  rcases holdS_ty w (cT K) (nI b) with q | ⟨t, ht, hh⟩
  · exact absurd q hne
  · have h5 : mI σ (o + 5) b = nI t := (hr.2.2.1 b (by omega)).trans hh
    have i1 := inb_nI (show b < 6 by omega) (by decide)
    have e1 := nI_clamp (show b < 2 ^ 31 by omega)
    have hpr := City_priceOf (σ := σ) (c := mR σ 428 1) (t := t) (by omega)
    rw [h.2.2.2.2.2.1 (3 * t) (by omega)] at hpr
    obtain ⟨p, p1, p2, p3⟩ := hK.2.2.1 t ht
    obtain ⟨m, m1, m2⟩ := hw.2.2.1 b hb
    have h6' := (hr.2.2.2.1 b hb).1
    unfold f_Trade_decide hoS
    simp only [i1, e1, if_true, h.1, h5, hpr, Option.bind_some, h6', hh, nI_clamp (show t < 2 ^ 31 by omega), nI_ne_m1 (show t < 2 ^ 31 by omega), if_false]
    by_cases q2 : w (24 + b) < cW K (3 * t)
    · rw [if_pos q2, if_pos (Or.inr q2)]
      exact Trade_decide_J50 hJ hK h ho hj hr hw hb hh ht
    · rw [if_neg q2]
      obtain ⟨σ1, g1, g2⟩ := Trade_liked hJ hK h ho hj hr hb ht
      have r1 := CR.cy hJ ho hr hj g2
      have h1 := h.fr ho r1.2.1
      rw [g1, Option.bind_some]
      by_cases q1 : lkS K w b t < cW K (3 * t)
      · simp only [q1, if_true, true_or]
        obtain ⟨σ2, g3, g4⟩ := Trade_decide_J50 hJ hK h1 ho r1.2.2.1 r1.1 hw hb hh ht
        exact ⟨σ2, g3, r1.trans g4⟩
      · rw [if_neg q1, if_neg (fun q => q.elim q1 q2)]
        have hpm : p ≤ m := by
          rcases Nat.lt_or_ge m p with q | q
          · exact absurd (by rw [m2, p3]; exact nI_lt q (by omega)) q2
          · exact q
        obtain ⟨σ3, g6, g7⟩ := Trade_purchase hJ hK h1 ho r1.2.2.1 r1.1 hw hN hb hh (by omega) p3 m2 hpm m1
        rw [g6]
        exact ⟨σ3, rfl, r1.trans g7⟩
