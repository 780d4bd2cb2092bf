/-! the class: why an act can't be; handed on -/
theorem Trade_isBuyer {σ : Mem} {K : Cy} {x : Int32} (h : CK σ K) : f_Trade_isBuyer σ x = some (isS (cB K) x) := by
  unfold f_Trade_isBuyer isS
  by_cases q : x < 0
  · rw [if_pos q, if_pos q]
  · rw [if_neg q, if_neg q, if_pos h.1, h.2.2.2.1]
    by_cases q2 : nI (cB K) ≤ x
    · rw [if_pos q2, if_pos q2]
    · rw [if_neg q2, if_neg q2]
theorem Trade_isThing {σ : Mem} {K : Cy} {x : Int32} (h : CK σ K) : f_Trade_isThing σ x = some (isS (cT K) x) := by
  unfold f_Trade_isThing isS
  by_cases q : x < 0
  · rw [if_pos q, if_pos q]
  · rw [if_neg q, if_neg q, if_pos h.1, h.2.2.1]
    by_cases q2 : nI (cT K) ≤ x
    · rw [if_pos q2, if_pos q2]
    · rw [if_neg q2, if_neg q2]
theorem Trade_hasCity {σ : Mem} {K : Cy} (h : CK σ K) (hT : cT K ≤ 8) : f_Trade_hasCity σ = some (if cT K = 0 then 0 else 1) := by
  unfold f_Trade_hasCity
  rw [if_pos h.1, h.2.2.1]
  by_cases q : cT K = 0
  · rw [q]; rfl
  · rw [if_neg (nI_nle (by omega) (by omega)), if_neg q]
theorem Trade_whyNotPick {σ : Mem} {K : Cy} {o : Nat} {w : Rw} {x y : Int32} (hT : cT K ≤ 8) (hB : cB K ≤ 6) (h : CK σ K) (hr : RS σ o K w) : f_Trade_whyNotPick σ o x y = some (st0 K w x y) := by
  unfold f_Trade_whyNotPick st0
  rw [Trade_isBuyer h, Option.bind_some, Trade_isThing h]
  rcases isS_ty (cB K) x (by omega) with q | ⟨q, b, b1, b2⟩
  · rw [if_pos q, if_pos q]
  · have nq : ¬ isS (cB K) x = 0 := by rw [q]; decide
    rw [if_neg nq, if_neg nq, Option.bind_some]
    rcases isS_ty (cT K) y (by omega) with p | ⟨p, t, t1, t2⟩
    · rw [if_pos p, if_pos p]
    · have np : ¬ isS (cT K) y = 0 := by rw [p]; decide
      subst b2; subst t2
      rw [if_neg np, if_neg np, if_pos (inb_nI (by omega) (by decide)), nI_clamp (by omega), nI_clamp (by omega), (hr.1 t (by omega)).1, if_pos (inb_nI (show b < 6 by omega) (by decide)), hr.2.2.1 b (by omega)]
      split
      · split <;> rfl
      · rfl
theorem Trade_whyNotPutBack {σ : Mem} {K : Cy} {o : Nat} {w : Rw} {x : Int32} (hB : cB K ≤ 6) (h : CK σ K) (hr : RS σ o K w) : f_Trade_whyNotPutBack σ o x = some (st1 K w x) := by
  unfold f_Trade_whyNotPutBack st1
  rw [Trade_isBuyer h, Option.bind_some]
  rcases isS_ty (cB K) x (by omega) with q | ⟨q, b, b1, b2⟩
  · rw [if_pos q, if_pos q]
  · have nq : ¬ isS (cB K) x = 0 := by rw [q]; decide
    subst b2
    rw [if_neg nq, if_neg nq, if_pos (inb_nI (show b < 6 by omega) (by decide)), nI_clamp (by omega), hr.2.2.1 b (by omega)]
    split <;> rfl
theorem Trade_whyNotHand {σ : Mem} {K : Cy} {o : Nat} {w : Rw} {x y : Int32} (hB : cB K ≤ 6) (h : CK σ K) (hr : RS σ o K w) : f_Trade_whyNotHand σ o x y = some (st2 K w x y) := by
  unfold f_Trade_whyNotHand st2
  rw [Trade_isBuyer h, Option.bind_some, Trade_isBuyer h]
  rcases isS_ty (cB K) x (by omega) with q | ⟨q, b, b1, b2⟩
  · rw [if_pos q, if_pos q]
  · have nq : ¬ isS (cB K) x = 0 := by rw [q]; decide
    rw [if_neg nq, if_neg nq, Option.bind_some]
    rcases isS_ty (cB K) y (by omega) with p | ⟨p, t, t1, t2⟩
    · rw [if_pos p, if_pos p]
    · have np : ¬ isS (cB K) y = 0 := by rw [p]; decide
      subst b2; subst t2
      rw [if_neg np, if_neg np, if_pos (inb_nI (show b < 6 by omega) (by decide)), nI_clamp (by omega), nI_clamp (by omega), if_pos (inb_nI (show t < 6 by omega) (by decide)), hr.2.2.1 b (by omega), hr.2.2.1 t (by omega)]
      split
      · rfl
      · split
        · rfl
        · split <;> rfl
theorem Trade_whyNotBuy {σ : Mem} {K : Cy} {o : Nat} {w : Rw} {x : Int32} (hT : cT K ≤ 8) (hB : cB K ≤ 6) (h : CK σ K) (hr : RS σ o K w) : f_Trade_whyNotBuy σ o x = some (st3 K w x) := by
  unfold f_Trade_whyNotBuy st3 hdS
  rw [Trade_whyNotPutBack hB h hr, Option.bind_some]
  unfold st1
  rcases isS_ty (cB K) x (by omega) with q | ⟨q, b, b1, b2⟩
  · simp only [q, if_true, show ¬ ((0 : Int32) = -1) by decide, if_false]
  · subst b2
    rcases holdS_ty w (cT K) (nI b) with c | ⟨t, c1, c2⟩
    · simp only [q, c, if_true, show ¬ ((1 : Int32) = 0) by decide, show ¬ ((2 : Int32) = -1) by decide, if_false]
    · have hp := City_priceOf (σ := σ) (c := mR σ 428 1) (t := t) (by omega)
      rw [h.2.2.2.2.2.1 (3 * t) (by omega)] at hp
      simp only [q, c2, if_true, show ¬ ((1 : Int32) = 0) by decide, nI_ne_m1 (show t < 2 ^ 31 by omega), if_false, inb_nI (show b < 6 by omega) (show 6 < 2 ^ 31 by decide), h.1, nI_clamp (show b < 2 ^ 31 by omega), nI_clamp (show t < 2 ^ 31 by omega), hr.2.2.1 b (by omega), hp, Option.bind_some, (hr.2.2.2.1 b b1).1]
      split <;> rfl
theorem Trade_whyNotHour {σ : Mem} {K : Cy} {o h : Nat} {w : Rw} (hT : cT K ≤ 8) (hc : CK σ K) (hr : RS σ o K w) (hh : w 130 = nI h) (h3 : h < 2 ^ 30) : f_Trade_whyNotHour σ o = some (if cT K = 0 then 0 else if h < 9999 then -1 else 5) := by
  unfold f_Trade_whyNotHour
  rw [Trade_hasCity hc hT, Option.bind_some, hr.2.2.2.2.2.1.2.2.2.2, hh]
  by_cases q : cT K = 0
  · rw [if_pos q, if_pos q]; rfl
  · rw [if_neg q, if_neg (by decide), if_neg q]
    by_cases p : h < 9999
    · rw [if_pos p, if_pos (show nI h < (9999 : Int32) from nI_lt (b := 9999) p (by omega))]
    · rw [if_neg p, if_neg (show ¬ nI h < (9999 : Int32) from nI_nlt (b := 9999) (by omega) (by omega))]
theorem Trade_passOn {J : Mem → Prop} {K : Cy} {σ : Mem} {o b c t N : Nat} {w : Rw} (hJ : LkC J (cL K)) (hK : CyOk K) (ho : OkO o) (hj : J σ) (hr : RS σ o K w) (hw : Wf (cT K) (cB K) N w) (hb : b < cB K) (hc : c < cB K) (hbc : b ≠ c) (hh : holdS w (cT K) (nI b) = nI t) (hn : holdS w (cT K) (nI c) = -1) (ht8 : t < 8) : ∃ σ', f_Trade_passOn σ o (nI b) (nI c) = some (nI t, σ') ∧ CR J o K σ (upd w t (nI c)) σ' := by
  have h8 := hK.1
  have h6 := hK.2.1
  have hw' := haS_wf h8 h6 hw hb hc hh hn ht8
  have h5 : mI σ (o + 5) b = nI t := (hr.2.2.1 b (by omega)).trans hh
  have em : mny (upd w t (nI c)) = mny w := by unfold mny; rw [upd_ne (by omega)]
  unfold f_Trade_passOn
  rw [if_pos (inb_nI (show b < 6 by omega) (by decide)), nI_clamp (show b < 2 ^ 31 by omega), h5, if_pos (inb_nI (show t < 8 by omega) (by decide)), if_pos (inb_nI (show c < 6 by omega) (by decide)), nI_clamp (show c < 2 ^ 31 by omega), nI_clamp (show t < 2 ^ 31 by omega)]
  refine ⟨_, rfl, CR.of hJ ho hj ?_ (((CX_sI (by omega)).trans (CX_sI (by omega))).trans (CX_sI (by omega))) (by simp (disch := omega) only [row_ne]) (by simp (disch := omega) only [row_ne])⟩
  obtain ⟨n, n1, n2, -⟩ := hw.1
  obtain ⟨r1, r2, r3, r4, r5, ⟨r6, r7, r8, r9, r10⟩, r11⟩ := hr
  unfold RS
  simp (disch := omega) only [row_ne, row_sI]
  refine ⟨fun u hu => ?_, r2, fun d hd => ?_, fun d hd => ?_, fun i hi => ?_, ⟨?_, ?_, ?_, ?_, ?_⟩, r11⟩
  · rw [upd_at, upd_at, upd_ne (j := 8 + u) (by omega), upd_ne (j := 16 + u) (by omega)]
    by_cases hu2 : u = t
    · rw [if_pos hu2, if_pos hu2]
      exact ⟨rfl, (r1 u hu).2.1, (r1 u hu).2.2⟩
    · rw [if_neg hu2, if_neg hu2]
      exact r1 u hu
  · rw [haS_hold h8 hw.2.1 (by omega) (by omega) hd hbc hh hn ht8 hw'.2.1, upd_at, upd_at, r3 d hd]
  · rw [upd_ne (by omega)]; exact r4 d hd
  · rw [em] at hi
    rw [upd_ne (by omega)]; exact r5 i hi
  · rw [upd_ne (by omega)]; exact r6
  · rw [upd_ne (by omega)]; exact r7
  · rw [upd_ne (by omega)]; exact r8
  · rw [upd_ne (by omega)]; exact r9
  · rw [upd_ne (by omega)]; exact r10
