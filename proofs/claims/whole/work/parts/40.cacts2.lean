/-! the class: put back, handed on, bought -/
theorem Trade_looksAway {σ : Mem} {o : Nat} {s : Int32} : f_Trade_looksAway σ o s = some (if ((mI σ o 12 >>> (s &&& 31)) &&& (1 : Int32)) = (1 : Int32) then 1 else 0) := by
  unfold f_Trade_looksAway
  by_cases h : ((mI σ o 12 >>> (s &&& 31)) &&& (1 : Int32)) = (1 : Int32)
  · rw [if_pos h, if_pos h]
  · rw [if_neg h, if_neg h]
theorem RS_dr {J : Mem → Prop} {K : Cy} {σ : Mem} {o b t N : Nat} {w : Rw} (hJ : LkC J (cL K)) (hK : CyOk K) (ho : OkO o) (hj : J σ) (hr : RS σ o K w) (hw : Wf (cT K) (cB K) N w) (hb : b < cB K) (hh : holdS w (cT K) (nI b) = nI t) (ht8 : t < 8) : CR J o K σ (drS w t) (sI (sI (sI σ (o + 1) t (-1)) (o + 3) t 0) (o + 5) b (-1)) := by
  have h8 := hK.1
  have h6 := hK.2.1
  have hw' := drS_wf h8 h6 hw hb hh ht8
  have em : mny (drS w t) = mny w := by unfold mny; rw [drS_at (by omega) (by omega)]
  refine CR.of hJ ho hj ?_ (((CX_sI (by omega)).trans (CX_sI (by omega))).trans (CX_sI (by omega))) (by simp (disch := omega) only [row_ne]) (by simp (disch := omega) only [row_ne])
  obtain ⟨r1, r2, r3, r4, r5, ⟨r6, r7, r8, r9, r10⟩, r11⟩ := hr
  unfold RS
  simp (disch := omega) only [row_ne, row_sI]
  refine ⟨fun u hu => ?_, r2, fun c hc => ?_, fun c hc => ?_, fun i hi => ?_, ⟨?_, ?_, ?_, ?_, ?_⟩, r11⟩
  · rw [upd_at, upd_at, drS_at (i := 8 + u) (by omega) (by omega)]
    by_cases hu2 : u = t
    · subst hu2
      rw [if_pos rfl, if_pos rfl, drS_t]
      exact ⟨rfl, (r1 u hu).2.1, by unfold drS; rw [upd_self]⟩
    · rw [if_neg hu2, if_neg hu2, drS_at (i := u) hu2 (by omega), drS_at (i := 16 + u) (by omega) (by omega)]
      exact r1 u hu
  · rw [drS_hold h8 hw.2.1 hc (by omega) hh ht8 hw'.2.1, upd_at, r3 c hc]
  · rw [drS_at (by omega) (by omega)]; exact r4 c hc
  · rw [em] at hi
    rw [drS_at (by omega) (by omega)]; exact r5 i hi
  · rw [drS_at (by omega) (by omega)]; exact r6
  · rw [drS_at (by omega) (by omega)]; exact r7
  · rw [drS_at (by omega) (by omega)]; exact r8
  · rw [drS_at (by omega) (by omega)]; exact r9
  · rw [drS_at (by omega) (by omega)]; exact r10
theorem Trade_layBack {J : Mem → Prop} {K : Cy} {σ : Mem} {o b t N : Nat} {w : Rw} (hJ : LkC J (cL K)) (hK : CyOk K) (h : CK σ K) (ho : OkO o) (hj : J σ) (hr : RS σ o K w) (hw : Wf (cT K) (cB K) N w) (hb : b < cB K) (hh : holdS w (cT K) (nI b) = nI t) (ht8 : t < 8) : ∃ σ', f_Trade_layBack σ o (nI b) = some (bdS K w b t, σ') ∧ CR J o K σ (baS K w b t) σ' := by
  have h8 := hK.1
  have h6 := hK.2.1
  obtain ⟨ht, -, -⟩ := holdS_is h8 (by omega) hh
  have r1 := RS_dr hJ hK ho hj hr hw hb hh ht8
  have h5 : mI σ (o + 5) b = nI t := (hr.2.2.1 b (by omega)).trans hh
  have h1 := h.fr ho r1.2.1
  have hR : mR (sI (sI (sI σ (o + 1) t (-1)) (o + 3) t 0) (o + 5) b (-1)) = mR σ := rfl
  have hd := Trade_dueIfPutBack (σ := sI (sI (sI σ (o + 1) t (-1)) (o + 3) t 0) (o + 5) b (-1)) (o := o) (b := b) (t := t) h1.1 (by omega) (by omega)
  rw [h1.2.2.2.2.2.1 (3 * t) (by omega), h1.2.2.2.2.2.2 (4 * b + 3) (by omega), r1.1.2.2.2.2.2.1.2.1, drS_at (by omega) (by omega)] at hd
  have hsh := City_shopOf (σ := sI (sI (sI σ (o + 1) t (-1)) (o + 3) t 0) (o + 5) b (-1)) (c := mR σ 428 1) (t := t) (by omega)
  have h7 := h1.2.2.2.2.2.1 (3 * t + 2) (by omega)
  rw [hR] at h7
  rw [h7] at hsh
  have ha : mI (sI (sI (sI σ (o + 1) t (-1)) (o + 3) t 0) (o + 5) b (-1)) o 12 = w 128 := by rw [r1.1.2.2.2.2.2.1.2.2.1, drS_at (by omega) (by omega)]
  have hla := Trade_looksAway (σ := sI (sI (sI σ (o + 1) t (-1)) (o + 3) t 0) (o + 5) b (-1)) (o := o) (s := cW K (3 * t + 2))
  rw [ha] at hla
  have i1 := inb_nI (show b < 6 by omega) (by decide)
  have i2 := inb_nI (show t < 8 by omega) (by decide)
  have e1 := nI_clamp (show b < 2 ^ 31 by omega)
  have e2 := nI_clamp (show t < 2 ^ 31 by omega)
  unfold f_Trade_layBack
  simp only [i1, e1, h5, i2, e2, if_true, h.1, hsh, hla, hd, Option.bind_some]
  unfold baS bdS
  by_cases hc : ((w 128 >>> (cW K (3 * t + 2) &&& 31)) &&& (1 : Int32)) = (1 : Int32)
  · simp only [hc, if_true, show ¬ ((1 : Int32) = 0) by decide, if_false, show (0 : Int32) ≤ 0 by decide]
    exact ⟨_, rfl, r1⟩
  · simp only [hc, if_false, if_true]
    have hbd := bdS_ok (b := b) hK rfl hw ht
    unfold bdS at hbd
    rw [if_neg hc] at hbd
    obtain ⟨d, d1, d2⟩ := hbd
    show ∃ σ', (if duS K w b t ≤ 0 then some (duS K w b t, _) else _) = _ ∧ _
    by_cases h0 : duS K w b t = 0
    · simp only [h0, if_true, show (0 : Int32) ≤ 0 by decide]
      exact ⟨_, rfl, r1⟩
    · have h00 : ¬ duS K w b t ≤ 0 := by
        rw [d2] at h0 ⊢
        exact nI_nle (Nat.pos_of_ne_zero fun q => h0 (by rw [q]; rfl)) (by omega)
      rw [if_neg h00, if_neg h0]
      obtain ⟨σ2, g1, g2⟩ := State_writeBill (b := b) (t := t) (due := duS K w b t) hJ hK ho r1.2.2.1 r1.1 (drS_wf h8 h6 hw hb hh ht8).1
      rw [show dueF (cW K (3 * t)) (w 127) (cF K (4 * b + 3)) = duS K w b t from rfl, g1]
      exact ⟨σ2, rfl, r1.trans g2⟩
