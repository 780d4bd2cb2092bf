/-! rows that agree in their first 131 numbers -/
def Ag (u w : Rw) : Prop := ∀ i, i < 131 → u i = w i
theorem Ag.refl (u : Rw) : Ag u u := fun _ _ => rfl
theorem Ag.symm {u w : Rw} (h : Ag u w) : Ag w u := fun i hi => (h i hi).symm
theorem Ag.trans {u v w : Rw} (h : Ag u v) (g : Ag v w) : Ag u w := fun i hi => (h i hi).trans (g i hi)
theorem Ag.up {u w : Rw} (h : Ag u w) (k : Nat) {x y : Int32} (e : x = y) : Ag (upd u k x) (upd w k y) := fun i hi => by rw [upd_at, upd_at, h i hi, e]
theorem Ag.my {u w : Rw} (h : Ag u w) : mny u = mny w := by unfold mny; rw [h 126 (by omega)]
theorem Ag.hold {u w : Rw} {T : Nat} {b : Int32} (hT : T ≤ 8) (h : Ag u w) : holdS u T b = holdS w T b := holdS_congr hT fun i hi => h i (by omega)
theorem Ag.lk {u w : Rw} {K : Cy} {b t : Nat} (h : Ag u w) (hb : b < 6) : lkS K u b t = lkS K w b t := by unfold lkS; rw [h (24 + b) (by omega), h 130 (by omega)]
theorem Ag.bd {u w : Rw} {K : Cy} {b t : Nat} (h : Ag u w) : bdS K u b t = bdS K w b t := by unfold bdS duS; rw [h 128 (by omega), h 127 (by omega)]
theorem Ag.dr {u w : Rw} {t : Nat} (h : Ag u w) : Ag (drS u t) (drS w t) := (h.up t rfl).up (16 + t) rfl
theorem Ag.pk {u w : Rw} {b t : Nat} (h : Ag u w) : Ag (pkS u b t) (pkS w b t) := (h.up t rfl).up (16 + t) rfl
theorem Ag.st {u w : Rw} {k n : Nat} (hn : n ≤ 24) (h : Ag u w) : Ag (stS u k n) (stS w k n) := fun i hi => by
  unfold stS
  by_cases q : 30 + 4 * k ≤ i ∧ i < 30 + 4 * n - 4
  · rw [if_pos q, if_pos q, h _ (by omega)]
  · rw [if_neg q, if_neg q, h i hi]
theorem Ag.ad {u w : Rw} {n b t : Nat} {d : Int32} (h : Ag u w) : Ag (adS u n b t d) (adS w n b t d) := ((((h.up _ rfl).up _ rfl).up _ (h 130 (by omega))).up _ rfl).up _ rfl
theorem Ag.wr {u w : Rw} {b t : Nat} {d : Int32} (h : Ag u w) : Ag (wrS u b t d) (wrS w b t d) := by
  unfold wrS
  rw [h.my]
  by_cases q : mny w = 24
  · rw [if_pos q, if_pos q]; exact (h.st (by omega)).ad
  · rw [if_neg q, if_neg q]; exact h.ad
theorem Ag.ba {u w : Rw} {K : Cy} {b t : Nat} (h : Ag u w) : Ag (baS K u b t) (baS K w b t) := by
  unfold baS
  rw [h.bd]
  by_cases q : bdS K w b t = 0
  · rw [if_pos q, if_pos q]; exact h.dr
  · rw [if_neg q, if_neg q]; exact h.dr.wr
theorem Ag.ma {u w : Rw} {b t r : Int32} {k : Nat} (hk : k < 24) (h : Ag u w) : maS u b t r k = maS w b t r k := by
  unfold maS
  rw [h (30 + 4 * k) (by omega), h (30 + 4 * k + 1) (by omega), h (30 + 4 * k + 2) (by omega), h 130 (by omega)]
theorem Ag.sa {b t r : Int32} : ∀ (k n : Nat) (u w : Rw) (c : Nat), k ≤ n → n ≤ 24 → Ag u w → (saS b t r k n u c).1 = (saS b t r k n w c).1 ∧ Ag (saS b t r k n u c).2 (saS b t r k n w c).2 := by
  intro k
  induction k with
  | zero => intro n u w c _ _ h; exact ⟨rfl, h⟩
  | succ k ih =>
    intro n u w c hk hn h
    unfold saS
    rw [h.ma (by omega)]
    by_cases q : maS w b t r k = true
    · rw [if_pos q, if_pos q]; exact ih (n - 1) _ _ _ (by omega) (by omega) (h.st hn)
    · rw [if_neg q, if_neg q]; exact ih n _ _ _ (by omega) hn h
theorem Ag.bu {u w : Rw} {K : Cy} {b t : Nat} (h : Ag u w) (hm : mny w ≤ 24) (hb : b < 6) : (buS K u b t).1 = (buS K w b t).1 ∧ Ag (buS K u b t).2 (buS K w b t).2 := by
  unfold buS
  rw [h.my]
  exact Ag.sa _ _ _ _ _ (Nat.le_refl _) hm (((h.up _ (by rw [h (24 + b) (by omega)])).up _ rfl).up _ rfl)
theorem Ag.ho {u w : Rw} {K : Cy} {b N : Nat} (hK : CyOk K) (hw : Wf (cT K) (cB K) N w) (h : Ag u w) (hb : b < 6) : Ag (hoS K u b) (hoS K w b) := by
  have h8 := hK.1
  obtain ⟨n, n1, n2, -⟩ := hw.1
  unfold hoS
  rw [h.hold h8]
  rcases holdS_ty w (cT K) (nI b) with q | ⟨t, ht, hh⟩
  · rw [if_pos q, if_pos q]; exact h
  · rw [hh, if_neg (nI_ne_m1 (by omega)), if_neg (nI_ne_m1 (by omega)), nI_clamp (by omega), h.lk hb, h (24 + b) (by omega), h (16 + t) (by omega)]
    by_cases q1 : lkS K w b t < cW K (3 * t) ∨ w (24 + b) < cW K (3 * t)
    · rw [if_pos q1, if_pos q1]
      by_cases q2 : w (16 + t) ≤ cV K t / 3
      · rw [if_pos q2, if_pos q2]; exact h.up _ rfl
      · rw [if_neg q2, if_neg q2]; exact h.ba
    · rw [if_neg q1, if_neg q1]; exact (h.bu (by rw [mny_eq n1 n2]; exact n1) hb).2
theorem Ag.has {u w : Rw} {b t : Int32} {n : Nat} (hn : n ≤ 24) (h : Ag u w) : hasS (fun k => u (30 + k)) b t n = hasS (fun k => w (30 + k)) b t n := hasS_congr fun i hi => h (30 + i) (by omega)
theorem Ag.due {u w : Rw} {b : Int32} {n : Nat} (hn : n ≤ 24) (h : Ag u w) : dueS (fun k => u (30 + k)) b n = dueS (fun k => w (30 + k)) b n := dueS_congr n fun i hi => h (30 + i) (by omega)
theorem Ag.fa {u w : Rw} {K : Cy} {b : Nat} (h : Ag u w) (hm : mny w ≤ 24) (hb : b < 6) : ∀ n, n ≤ 8 → faS K u b n = faS K w b n := by
  intro n
  induction n with
  | zero => intro _; rfl
  | succ n ih =>
    intro hn
    unfold faS
    rw [ih (by omega), h.my, h n (by omega), h.has hm, h.lk hb]
theorem Ag.se {u w : Rw} {K : Cy} {b N : Nat} (hK : CyOk K) (hw : Wf (cT K) (cB K) N w) (h : Ag u w) (hb : b < 6) : Ag (seS K u b) (seS K w b) := by
  have h8 := hK.1
  obtain ⟨n, n1, n2, -⟩ := hw.1
  have hm : mny w ≤ 24 := by rw [mny_eq n1 n2]; exact n1
  unfold seS
  rw [h.hold h8, h.my, h.due hm, h.fa hm hb _ h8]
  by_cases q : holdS w (cT K) (nI b) = -1 ∧ dueS (fun k => w (30 + k)) (nI b) (mny w) ≤ 6 * cF K (4 * b + 2) ∧ (faS K w b (cT K)).1 ≠ -1
  · rw [if_pos q, if_pos q]; exact h.pk
  · rw [if_neg q, if_neg q]; exact h
theorem Ag.it {T B N : Nat} {f : Rw → Nat → Rw} {u w : Rw} (h : Ag u w) (hw : Wf T B N w) : ∀ n, (∀ b v, b < n → Wf T B N v → Wf T B N (f v b)) → (∀ b x y, b < n → Wf T B N y → Ag x y → Ag (f x b) (f y b)) → Ag (itS f u n) (itS f w n) := by
  intro n
  induction n with
  | zero => intro _ _; exact h
  | succ n ih => intro h1 h2; exact h2 n _ _ (by omega) (itS_wf hw n fun b v hb => h1 b v (by omega)) (ih (fun b v hb => h1 b v (by omega)) fun b x y hb => h2 b x y (by omega))
theorem Ag.p1 {T B N b : Nat} {u w : Rw} (hw : Wf T B N w) (h : Ag u w) (hb : b < 6) : Ag (p1S u b) (p1S w b) := by
  obtain ⟨n, n1, n2, -⟩ := hw.1
  rw [p1S_eq, p1S_eq, h.my, h.due (by rw [mny_eq n1 n2]; exact n1), h (24 + b) (by omega), h 129 (by omega)]
  exact (h.up _ rfl).up _ rfl
theorem Ag.pa {K : Cy} {N : Nat} {u w : Rw} (hK : CyOk K) (hw : Wf (cT K) (cB K) N w) (h : Ag u w) : Ag (paS K u) (paS K w) := by
  have h8 := hK.1
  have h6 := hK.2.1
  have w1 := itS_wf (f := p1S) hw (cB K) fun b v hb hv => p1S_wf h8 h6 hv hb
  have a1 : Ag (itS p1S u (cB K)) (itS p1S w (cB K)) := h.it hw (cB K) (fun b v hb hv => p1S_wf h8 h6 hv hb) fun b x y hb hy g => g.p1 hy (by omega)
  have w2 : Wf (cT K) (cB K) N (upd (itS p1S w (cB K)) 126 0) := by
    obtain ⟨q1, q2, q3, q4, q5⟩ := w1
    exact ⟨⟨0, by omega, upd_self _ _ _, fun k hk => by omega⟩, q2.congr h8 fun i h => upd_ne (by omega), q3.congr h6 fun i h6 h7 => upd_ne (by omega), q4.congr (upd_ne (by omega)), q5.congr (upd_ne (by omega))⟩
  unfold paS
  exact (a1.up 126 rfl).it w2 (cB K) (fun b v hb hv => p2S_wf hK h8 h6 hv hb) fun b x y hb hy g => by
    rw [p2S_eq, p2S_eq, g (24 + b) (by omega)]
    exact g.up _ rfl
theorem Ag.hr {K : Cy} {N : Nat} {u w : Rw} (hK : CyOk K) (hw : Wf (cT K) (cB K) N w) (h : Ag u w) : Ag (paH K u) (paH K w) := by
  have h6 := hK.2.1
  have w1 := itS_wf (f := hoS K) hw (cB K) fun b v hb hv => hoS_wf hK rfl h6 hv hb
  have a1 : Ag (itS (hoS K) u (cB K)) (itS (hoS K) w (cB K)) := h.it hw (cB K) (fun b v hb hv => hoS_wf hK rfl h6 hv hb) fun b x y hb hy g => g.ho hK hy (by omega)
  have a2 : Ag (h1S K u) (h1S K w) := a1.it w1 (cB K) (fun b v hb hv => seS_wf hK rfl h6 hv hb) fun b x y hb hy g => g.se hK hy (by omega)
  have a3 : Ag (h2S K u) (h2S K w) := a2.up 130 (by rw [a2 130 (by omega)])
  unfold paH
  rw [a3 130 (by omega)]
  by_cases q : h2S K w 130 - h2S K w 130 / cR K 2 * cR K 2 = 0
  · rw [if_pos q, if_pos q]; exact a3.pa hK (h2S_wf hK rfl rfl hw)
  · rw [if_neg q, if_neg q]; exact a3
/-! hours one behind the other -/
def itH (K : Cy) (w : Rw) : Nat → Rw
  | 0 => w
  | n + 1 => paH K (itH K w n)
theorem itH_wf {K : Cy} {N : Nat} {w : Rw} (hK : CyOk K) (hw : Wf (cT K) (cB K) N w) : ∀ n, Wf (cT K) (cB K) (N + n) (itH K w n) := by
  intro n
  induction n with
  | zero => exact hw
  | succ n ih => exact paH_wf hK rfl rfl ih
