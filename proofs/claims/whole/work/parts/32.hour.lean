/-! rows: an hour keeps them well -/
theorem imin_nI {a b : Nat} (ha : a < 2 ^ 31) (hb : b < 2 ^ 31) : imin (nI a) (nI b) = nI (min a b) := by
  unfold imin
  by_cases h : b < a
  · rw [if_pos (nI_lt h ha), Nat.min_eq_right (by omega)]
  · rw [if_neg (nI_nlt (by omega) hb), Nat.min_eq_left (by omega)]
theorem imin_comm (a b : Int32) : imin a b = imin b a := by
  unfold imin
  by_cases h : b < a
  · rw [if_pos h, if_neg (Int32.not_lt.mpr (Int32.le_of_lt h))]
  · rw [if_neg h]
    by_cases h2 : a < b
    · rw [if_pos h2]
    · rw [if_neg h2]
      exact Int32.le_antisymm (Int32.not_lt.mp h) (Int32.not_lt.mp h2)
theorem bdS_ok {K : Cy} {T B N b t : Nat} {w : Rw} (hK : CyOk K) (hT : cT K = T) (hw : Wf T B N w) (ht : t < T) : ∃ d, d < 100 ∧ bdS K w b t = nI d := by
  obtain ⟨p, h1, h2, h3⟩ := hK.2.2.1 t (by omega)
  obtain ⟨r, h4, h5⟩ := hw.2.2.2.1
  unfold bdS duS
  rw [h3, h5]
  by_cases h : ((w 128 >>> (cW K (3 * t + 2) &&& 31)) &&& (1 : Int32)) = (1 : Int32)
  · rw [if_pos h]; exact ⟨0, by omega, rfl⟩
  · rw [if_neg h]; exact dueF_ok h2 h4
theorem baS_wf {K : Cy} {T B N b t : Nat} {w : Rw} (hK : CyOk K) (hT : cT K = T) (hB : B ≤ 6) (hw : Wf T B N w) (hb : b < B) (hh : holdS w T (nI b) = nI t) (ht8 : t < 8) : Wf T B N (baS K w b t) := by
  have h8 : T ≤ 8 := by have := hK.1; omega
  obtain ⟨ht, -, -⟩ := holdS_is h8 (by omega) hh
  have hd := drS_wf h8 hB hw hb hh ht8
  obtain ⟨d, h1, h2⟩ := bdS_ok hK hT hw ht (b := b)
  unfold baS
  by_cases h : bdS K w b t = 0
  · rw [if_pos h]; exact hd
  · rw [if_neg h, h2]; exact wrS_wf h8 hB hd h1
theorem baS_out {K : Cy} {T B N b t i : Nat} {w : Rw} (hw : Wf T B N w) (ht8 : t < 8) (hi : i < 30 ∨ 127 ≤ i) : baS K w b t i = drS w t i := by
  obtain ⟨n, h1, h2, -⟩ := hw.1
  unfold baS
  by_cases h : bdS K w b t = 0
  · rw [if_pos h]
  · rw [if_neg h]
    exact wrS_out h1 ((drS_at (by omega) (by omega)).trans h2) hi
theorem heS_wf {T B N t : Nat} {w : Rw} {v : Int32} (hT : T ≤ 8) (hB : B ≤ 6) (hw : Wf T B N w) (ht8 : t < 8) : Wf T B N (upd w (16 + t) v) := by
  obtain ⟨h1, h2, h3, h4, h5⟩ := hw
  exact ⟨h1.congr fun i h6 h7 => upd_ne (by omega), h2.congr hT fun i h => upd_ne (by omega), h3.congr hB fun i h6 h7 => upd_ne (by omega), h4.congr (upd_ne (by omega)), h5.congr (upd_ne (by omega))⟩
theorem hoS_wf {K : Cy} {T B N b : Nat} {w : Rw} (hK : CyOk K) (hT : cT K = T) (hB : B ≤ 6) (hw : Wf T B N w) (hb : b < B) : Wf T B N (hoS K w b) := by
  have h8 : T ≤ 8 := by have := hK.1; omega
  unfold hoS
  rw [hT]
  rcases holdS_ty w T (nI b) with h | ⟨t, ht, hh⟩
  · rw [if_pos h]; exact hw
  · rw [hh, if_neg (nI_ne_m1 (by omega)), nI_clamp (by omega)]
    obtain ⟨p, p1, p2, p3⟩ := hK.2.2.1 t (by omega)
    obtain ⟨m, m1, m2⟩ := hw.2.2.1 b hb
    by_cases h : lkS K w b t < cW K (3 * t) ∨ w (24 + b) < cW K (3 * t)
    · rw [if_pos h]
      by_cases h9 : w (16 + t) ≤ cV K t / 3
      · rw [if_pos h9]; exact heS_wf h8 hB hw (by omega)
      · rw [if_neg h9]; exact baS_wf hK hT hB hw hb hh (by omega)
    · rw [if_neg h]
      have hpm : p ≤ m := by
        rcases Nat.lt_or_ge m p with q | q
        · exact absurd (Or.inr (by rw [m2, p3]; exact nI_lt q (by omega))) h
        · exact q
      exact buS_wf h8 hB hw hb hh (by omega) p3 m2 hpm m1
theorem faS_ty (K : Cy) (w : Rw) (b : Nat) : ∀ n, n ≤ 8 → (faS K w b n).1 = -1 ∨ ∃ t, t < n ∧ (faS K w b n).1 = nI t ∧ w t = -1 := by
  intro n
  induction n with
  | zero => intro _; exact Or.inl rfl
  | succ n ih =>
    intro hn
    unfold faS
    by_cases h : w n = -1 ∧ hasS (fun k => w (30 + k)) (nI b) (nI n) (mny w) = 0 ∧ (faS K w b n).2 < lkS K w b n
    · rw [if_pos h]; exact Or.inr ⟨n, by omega, rfl, h.1⟩
    · rw [if_neg h]
      rcases ih (by omega) with q | ⟨t, q1, q2, q3⟩
      · exact Or.inl q
      · exact Or.inr ⟨t, by omega, q2, q3⟩
theorem seS_wf {K : Cy} {T B N b : Nat} {w : Rw} (hK : CyOk K) (hT : cT K = T) (hB : B ≤ 6) (hw : Wf T B N w) (hb : b < B) : Wf T B N (seS K w b) := by
  have h8 : T ≤ 8 := by have := hK.1; omega
  unfold seS
  rw [hT]
  by_cases h : holdS w T (nI b) = -1 ∧ dueS (fun k => w (30 + k)) (nI b) (mny w) ≤ 6 * cF K (4 * b + 2) ∧ (faS K w b T).1 ≠ -1
  · rw [if_pos h]
    rcases faS_ty K w b T h8 with q | ⟨t, q1, q2, q3⟩
    · exact absurd q h.2.2
    · rw [q2, nI_clamp (by omega)]
      exact pkS_wf h8 hB hw hb q1 q3 h.1
  · rw [if_neg h]; exact hw
theorem itS_wf {T B N : Nat} {f : Rw → Nat → Rw} {w : Rw} (hw : Wf T B N w) : ∀ n, (∀ b v, b < n → Wf T B N v → Wf T B N (f v b)) → Wf T B N (itS f w n) := by
  intro n
  induction n with
  | zero => intro _; exact hw
  | succ n ih => intro h; exact h n _ (by omega) (ih fun b v hb => h b v (by omega))
theorem dueS_w {N n : Nat} {w : Rw} {b : Int32} (hn : n ≤ 24) (h : ∀ k, k < n → (∃ h, h < N ∧ w (30 + 4 * k + 2) = nI h) ∧ ∃ d, d < 100 ∧ w (30 + 4 * k + 3) = nI d) : ∃ d, d ≤ 2400 ∧ dueS (fun k => w (30 + k)) b n = nI d := by
  obtain ⟨d, h1, h2⟩ := dueS_nI (f := fun k => w (30 + k)) (b := b) n fun k hk => by
    obtain ⟨d, h3, h4⟩ := (h k hk).2
    exact ⟨d, h3, by rw [← h4]; show w (30 + (4 * k + 3)) = _; congr 1⟩
  exact ⟨d, by omega, h2⟩
theorem p1S_wf {T B N b : Nat} {w : Rw} (hT : T ≤ 8) (hB : B ≤ 6) (hw : Wf T B N w) (hb : b < B) : Wf T B N (p1S w b) := by
  obtain ⟨⟨n, h11, h12, h13⟩, h2, h3, h4, h5⟩ := hw
  have e : ∀ i, i ≠ 24 + b → i ≠ 129 → p1S w b i = w i := fun i h6 h7 => by unfold p1S; rw [upd_ne h7, upd_ne h6]
  refine ⟨WfB.congr (fun i h6 h7 => e i (by omega) (by omega)) ⟨n, h11, h12, h13⟩, h2.congr hT fun i h => e i (by omega) (by omega), fun c hc => ?_, h4.congr (e _ (by omega) (by omega)), h5.congr (e _ (by omega) (by omega))⟩
  by_cases h : c = b
  · subst h
    obtain ⟨m, m1, m2⟩ := h3 c hc
    obtain ⟨d, d1, d2⟩ := dueS_w (b := nI c) h11 h13
    have : p1S w c (24 + c) = nI (m - min m d) := by
      unfold p1S
      rw [upd_ne (by omega), upd_self, mny_eq h11 h12, d2, m2, imin_nI (by omega) (by omega), pk_sub (Nat.min_le_left _ _)]
    rw [this]
    exact ⟨_, by omega, rfl⟩
  · rw [e _ (by omega) (by omega)]; exact h3 c hc
theorem p2S_wf {K : Cy} {T B N b : Nat} {w : Rw} (hK : CyOk K) (hT : T ≤ 8) (hB : B ≤ 6) (hw : Wf T B N w) (hb : b < B) : Wf T B N (p2S K w b) := by
  obtain ⟨h1, h2, h3, h4, h5⟩ := hw
  have e : ∀ i, i ≠ 24 + b → p2S K w b i = w i := fun i h6 => by unfold p2S; rw [upd_ne h6]
  refine ⟨h1.congr fun i h6 h7 => e i (by omega), h2.congr hT fun i h => e i (by omega), fun c hc => ?_, h4.congr (e _ (by omega)), h5.congr (e _ (by omega))⟩
  by_cases h : c = b
  · subst h
    obtain ⟨m, m1, m2⟩ := h3 c hc
    obtain ⟨y, y1, y2⟩ := hK.2.2.2.2.2.2.2.1
    have : p2S K w c (24 + c) = nI (min 999 (m + y)) := by
      unfold p2S
      rw [upd_self, m2, y2, nI_add, show (999 : Int32) = nI 999 from rfl, imin_nI (by omega) (by omega)]
    rw [this]
    exact ⟨_, by omega, rfl⟩
  · rw [e _ (by omega)]; exact h3 c hc
theorem paS_wf {K : Cy} {T B N : Nat} {w : Rw} (hK : CyOk K) (hT : cT K = T) (hB : cB K = B) (hw : Wf T B N w) : Wf T B N (paS K w) := by
  have h8 : T ≤ 8 := by have := hK.1; omega
  have h6 : B ≤ 6 := by have := hK.2.1; omega
  unfold paS
  rw [hB]
  obtain ⟨h1, h2, h3, h4, h5⟩ := itS_wf (f := p1S) hw B fun b v hb hv => p1S_wf h8 h6 hv hb
  refine itS_wf (f := p2S K) ?_ B fun b v hb hv => p2S_wf hK h8 h6 hv hb
  exact ⟨⟨0, by omega, upd_self _ _ _, fun k hk => by omega⟩, h2.congr h8 fun i h => upd_ne (by omega), h3.congr h6 fun i h6 h7 => upd_ne (by omega), h4.congr (upd_ne (by omega)), h5.congr (upd_ne (by omega))⟩
theorem h1S_wf {K : Cy} {T B N : Nat} {w : Rw} (hK : CyOk K) (hT : cT K = T) (hB : cB K = B) (hw : Wf T B N w) : Wf T B N (h1S K w) := by
  have h6 : B ≤ 6 := by have := hK.2.1; omega
  unfold h1S
  rw [hB]
  exact itS_wf (itS_wf hw B fun b v hb hv => hoS_wf hK hT h6 hv hb) B fun b v hb hv => seS_wf hK hT h6 hv hb
theorem h2S_wf {K : Cy} {T B N : Nat} {w : Rw} (hK : CyOk K) (hT : cT K = T) (hB : cB K = B) (hw : Wf T B N w) : Wf T B (N + 1) (h2S K w) := by
  have h8 : T ≤ 8 := by have := hK.1; omega
  have h6 : B ≤ 6 := by have := hK.2.1; omega
  obtain ⟨h1, h2, h3, h4, h5⟩ := h1S_wf hK hT hB hw
  unfold h2S
  refine ⟨(h1.mono (Nat.le_succ N)).congr fun i h6 h7 => upd_ne (by omega), h2.congr h8 fun i h => upd_ne (by omega), h3.congr h6 fun i h6 h7 => upd_ne (by omega), h4.congr (upd_ne (by omega)), ?_⟩
  obtain ⟨h, h7, h9⟩ := h5
  exact ⟨h + 1, by omega, by rw [upd_self, h9, nI_1]⟩
theorem paH_wf {K : Cy} {T B N : Nat} {w : Rw} (hK : CyOk K) (hT : cT K = T) (hB : cB K = B) (hw : Wf T B N w) : Wf T B (N + 1) (paH K w) := by
  have h := h2S_wf hK hT hB hw
  unfold paH
  split
  · exact paS_wf hK hT hB h
  · exact h
