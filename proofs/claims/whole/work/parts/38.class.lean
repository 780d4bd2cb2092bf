/-! the class: its states, its city, what its helpers leave as it was -/
def cS (a : Nat) : Prop := a = 429 ∨ (540 ≤ a ∧ a < 555 ∧ a % 3 = 2)
def CX (o : Nat) (σ σ' : Mem) : Prop := (∀ a, ¬ (o ≤ a ∧ a < o + 10) → ¬ (a = 429 ∨ (540 ≤ a ∧ a < 555 ∧ a % 3 = 2)) → mI σ' a = mI σ a) ∧ mL σ' = mL σ ∧ mR σ' = mR σ
theorem CX.refl (o : Nat) (σ : Mem) : CX o σ σ := ⟨fun _ _ _ => rfl, rfl, rfl⟩
theorem CX.trans {o : Nat} {σ σ1 σ2 : Mem} (h : CX o σ σ1) (g : CX o σ1 σ2) : CX o σ σ2 := ⟨fun a h1 h2 => (g.1 a h1 h2).trans (h.1 a h1 h2), g.2.1.trans h.2.1, g.2.2.trans h.2.2⟩
theorem CX.to {o : Nat} {σ σ' : Mem} (h : CX 1000 σ σ') (hc : ∀ a, 1000 ≤ a → mI σ' a = mI σ a) : CX o σ σ' := ⟨fun a _ h2 => by
  by_cases h3 : 1000 ≤ a
  · exact hc a h3
  · exact h.1 a (by omega) h2, h.2.1, h.2.2⟩
theorem CX_sI {o a k : Nat} {v : Int32} {σ : Mem} (h : o ≤ a ∧ a < o + 10) : CX o σ (sI σ a k v) := ⟨fun b h1 _ => row_ne (fun q => h1 (by omega)), rfl, rfl⟩
theorem CX_rI {o a : Nat} {f : Rw} {σ : Mem} (h : o ≤ a ∧ a < o + 10) : CX o σ (rI σ a f) := ⟨fun b h1 _ => rowr_ne (fun q => h1 (by omega)), rfl, rfl⟩
/-- only what liking uses up has changed -/
def CY (σ σ' : Mem) : Prop := (∀ a, ¬ (a = 429 ∨ (540 ≤ a ∧ a < 555 ∧ a % 3 = 2)) → mI σ' a = mI σ a) ∧ mL σ' = mL σ ∧ mR σ' = mR σ
theorem CY.x {o : Nat} {σ σ' : Mem} (h : CY σ σ') : CX o σ σ' := ⟨fun a _ h2 => h.1 a h2, h.2⟩
theorem CY.refl (σ : Mem) : CY σ σ := ⟨fun _ _ => rfl, rfl, rfl⟩
theorem CY.trans {σ σ1 σ2 : Mem} (h : CY σ σ1) (g : CY σ1 σ2) : CY σ σ2 := ⟨fun a h2 => (g.1 a h2).trans (h.1 a h2), g.2.1.trans h.2.1, g.2.2.trans h.2.2⟩
/-- what the liking of the class rests on -/
def eqJ (σ σ' : Mem) : Prop := mR σ' 428 2 = mR σ 428 2 ∧ ∀ a, 540 ≤ a → a < 555 → a % 3 ≠ 2 → mI σ' a = mI σ a
def LkC (J : Mem → Prop) (lk : Int32 → Int32 → Int32 → Int32 → Int32 → Int32 → Int32) : Prop := (∀ σ σ', J σ → eqJ σ σ' → J σ') ∧ (∀ σ, J σ → mR σ 428 2 = 0 → ∀ p w d m s h, lk p w d m s h = imax 0 (imin 99 (4 * d + w))) ∧ (∀ σ, J σ → mR σ 428 2 ≠ 0 → kd (mR σ 428 2) = 6 ∧ ∃ v σ', f_Law_worth σ (mR σ 428 2) 429 = some (v, σ') ∧ imax 0 (imin 99 v) = lk (mI σ 429 0) (mI σ 429 1) (mI σ 429 2) (mI σ 429 3) (mI σ 429 4) (mI σ 429 5) ∧ CY σ σ')
theorem J_CX {J : Mem → Prop} {lk : Int32 → Int32 → Int32 → Int32 → Int32 → Int32 → Int32} (hJ : LkC J lk) {o : Nat} {σ σ' : Mem} (ho : OkO o) (h : J σ) (g : CX o σ σ') : J σ' := by
  have := ho.r
  exact hJ.1 σ σ' h ⟨by rw [g.2.2], fun a h1 h2 h3 => g.1 a (by omega) (by omega)⟩
theorem J_CY {J : Mem → Prop} {lk : Int32 → Int32 → Int32 → Int32 → Int32 → Int32 → Int32} (hJ : LkC J lk) {σ σ' : Mem} (h : J σ) (g : CY σ σ') : J σ' := hJ.1 σ σ' h ⟨by rw [g.2.2], fun a h1 h2 h3 => g.1 a (by omega)⟩
/-- the class's memory holds the city K -/
def CK (σ : Mem) (K : Cy) : Prop := kd (mR σ 428 1) = 2 ∧ mR σ 428 1 < 565 ∧ mI σ (mR σ 428 1) 3 = nI (cT K) ∧ mI σ (mR σ 428 1) 4 = nI (cB K) ∧ (∀ k, k < 4 → mI σ (mR σ 428 1 + 1) k = cR K k) ∧ (∀ k, k < 3 * cT K → mI σ (mR σ 428 1 + 2) k = cW K k) ∧ (∀ k, k < 4 * cB K → mI σ (mR σ 428 1 + 3) k = cF K k)
theorem CK.c {σ : Mem} {K : Cy} (h : CK σ K) : mR σ 428 1 = 430 ∨ mR σ 428 1 = 536 := city_tab _ h.2.1 h.1
theorem CK.fr {σ σ' : Mem} {K : Cy} {o : Nat} (ho : OkO o) (h : CK σ K) (g : CX o σ σ') : CK σ' K := by
  have := ho.r
  have hc := h.c
  obtain ⟨h1, h2, h3, h4, h5, h6, h7⟩ := h
  have e : ∀ k, k < 4 → mI σ' (mR σ 428 1 + k) = mI σ (mR σ 428 1 + k) := fun k hk => g.1 _ (by omega) (by omega)
  unfold CK
  rw [g.2.2]
  exact ⟨h1, h2, by rw [show mI σ' (mR σ 428 1) = mI σ (mR σ 428 1) from e 0 (by omega)]; exact h3, by rw [show mI σ' (mR σ 428 1) = mI σ (mR σ 428 1) from e 0 (by omega)]; exact h4, by rw [e 1 (by omega)]; exact h5, by rw [e 2 (by omega)]; exact h6, by rw [e 3 (by omega)]; exact h7⟩
/-- the State object o stands for the row w -/
def RS (σ : Mem) (o : Nat) (K : Cy) (w : Rw) : Prop := (∀ t, t < 8 → mI σ (o + 1) t = w t ∧ mI σ (o + 2) t = w (8 + t) ∧ mI σ (o + 3) t = w (16 + t)) ∧ (∀ t, t < cT K → mI σ (o + 4) t = cV K t) ∧ (∀ b, b < 6 → mI σ (o + 5) b = holdS w (cT K) (nI b)) ∧ (∀ b, b < cB K → mI σ (o + 6) b = w (24 + b) ∧ mI σ (o + 7) b = cD K b) ∧ (∀ i, i < 4 * mny w → mI σ (o + 8) i = w (30 + i)) ∧ (mI σ o 9 = w 126 ∧ mI σ o 11 = w 127 ∧ mI σ o 12 = w 128 ∧ mI σ o 13 = w 129 ∧ mI σ o 14 = w 130) ∧ ∃ n, n ≤ 60 ∧ mI σ o 10 = nI n
theorem RS.fr {σ σ' : Mem} {o : Nat} {K : Cy} {w : Rw} (h : RS σ o K w) (g : ∀ a, o ≤ a → a < o + 10 → mI σ' a = mI σ a) : RS σ' o K w := by
  unfold RS
  rw [g o (by omega) (by omega), g (o + 1) (by omega) (by omega), g (o + 2) (by omega) (by omega), g (o + 3) (by omega) (by omega), g (o + 4) (by omega) (by omega), g (o + 5) (by omega) (by omega), g (o + 6) (by omega) (by omega), g (o + 7) (by omega) (by omega), g (o + 8) (by omega) (by omega)]
  exact h
theorem RS.cy {σ σ' : Mem} {o : Nat} {K : Cy} {w : Rw} (ho : OkO o) (h : RS σ o K w) (g : CY σ σ') : RS σ' o K w := by
  have := ho.r
  exact h.fr fun a h1 h2 => g.1 a (by omega)
/-- behind a call on the State o: it stands for w, nothing else has changed, its log neither -/
def CR (J : Mem → Prop) (o : Nat) (K : Cy) (σ : Mem) (w : Rw) (σ' : Mem) : Prop := RS σ' o K w ∧ CX o σ σ' ∧ J σ' ∧ mI σ' o 10 = mI σ o 10 ∧ mI σ' (o + 9) = mI σ (o + 9)
theorem CR.trans {J : Mem → Prop} {o : Nat} {K : Cy} {σ σ1 σ2 : Mem} {w w2 : Rw} (h : CR J o K σ w σ1) (g : CR J o K σ1 w2 σ2) : CR J o K σ w2 σ2 := ⟨g.1, h.2.1.trans g.2.1, g.2.2.1, g.2.2.2.1.trans h.2.2.2.1, g.2.2.2.2.trans h.2.2.2.2⟩
theorem CR.refl {J : Mem → Prop} {o : Nat} {K : Cy} {σ : Mem} {w : Rw} (h : RS σ o K w) (hj : J σ) : CR J o K σ w σ := ⟨h, CX.refl _ _, hj, rfl, rfl⟩
theorem CR.cy {J : Mem → Prop} {lk : Int32 → Int32 → Int32 → Int32 → Int32 → Int32 → Int32} (hJ : LkC J lk) {o : Nat} {K : Cy} {σ σ' : Mem} {w : Rw} (ho : OkO o) (h : RS σ o K w) (hj : J σ) (g : CY σ σ') : CR J o K σ w σ' := by
  have := ho.r
  exact ⟨h.cy ho g, g.x, J_CY hJ hj g, by rw [g.1 o (by omega)], g.1 _ (by omega)⟩
theorem Trade_liked {J : Mem → Prop} {K : Cy} {σ : Mem} {o b t : Nat} {w : Rw} (hJ : LkC J (cL K)) (hK : CyOk K) (h : CK σ K) (ho : OkO o) (hj : J σ) (hr : RS σ o K w) (hb : b < cB K) (ht : t < cT K) : ∃ σ', f_Trade_liked σ o (nI b) (nI t) = some (lkS K w b t, σ') ∧ CY σ σ' := by
  have h8 := hK.1
  have h6 := hK.2.1
  have hor := ho.r
  have hc := h.c
  unfold f_Trade_liked
  have i1 := inb_nI (show b < 6 by omega) (by decide)
  have i2 := inb_nI (show t < 8 by omega) (by decide)
  have e1 := nI_clamp (show b < 2 ^ 31 by omega)
  have e2 := nI_clamp (show t < 2 ^ 31 by omega)
  have l0 : (0 : Int32).toNatClampNeg = 0 := by decide
  have l1 : (1 : Int32).toNatClampNeg = 1 := by decide
  have l2 : (2 : Int32).toNatClampNeg = 2 := by decide
  have l3 : (3 : Int32).toNatClampNeg = 3 := by decide
  have l4 : (4 : Int32).toNatClampNeg = 4 := by decide
  have l5 : (5 : Int32).toNatClampNeg = 5 := by decide
  simp only [i1, i2, e1, e2, l0, l1, l2, l3, l4, l5, if_true]
  by_cases hl : mR σ 428 2 = 0
  · rw [if_pos hl]
    refine ⟨σ, ?_, CY.refl _⟩
    unfold lkS
    rw [hJ.2.1 σ hj hl, hr.2.1 t ht, (hr.2.2.2.1 b hb).2]
  · rw [if_neg hl, if_pos h.1, City_priceOf (show t < 8 by omega), Option.bind_some, City_shopOf (show t < 8 by omega), Option.bind_some]
    have n1 : ∀ k, k < 10 → o + k ≠ 429 := fun k hk => by omega
    have n2 : mR σ 428 1 + 2 ≠ 429 := by omega
    simp only [row_ne (n1 4 (by omega)), row_ne (n1 7 (by omega)), row_ne (n1 6 (by omega)), row_ne (show o ≠ 429 by omega), row_ne n2]
    generalize hσ1 : sI (sI (sI (sI (sI (sI σ 429 0 (mI σ (mR σ 428 1 + 2) (3 * t))) 429 1 (mI σ (o + 4) t)) 429 2 (mI σ (o + 7) b)) 429 3 (mI σ (o + 6) b)) 429 4 (mI σ (mR σ 428 1 + 2) (3 * t + 2))) 429 5 (mI σ o 14 - mI σ o 14 / 24 * 24) = σ1
    have hcy : CY σ σ1 := by
      subst hσ1
      exact ⟨fun a ha => by simp only [row_ne (show a ≠ 429 from fun q => ha (Or.inl q))], rfl, rfl⟩
    have hj1 := J_CY hJ hj hcy
    have hR : mR σ1 = mR σ := hcy.2.2
    obtain ⟨q1, v, σ2, q2, q3, q4⟩ := hJ.2.2 σ1 hj1 (by rw [hR]; exact hl)
    rw [hR] at q1 q2
    rw [if_pos q1, q2]
    refine ⟨σ2, ?_, hcy.trans q4⟩
    rw [Option.bind_some, q3]
    subst hσ1
    unfold lkS
    simp only [mI_sI, hr.2.1 t ht, hr.2.2.2.1 b hb, hr.2.2.2.2.2.1, h.2.2.2.2.2.1 (3 * t) (by omega), h.2.2.2.2.2.1 (3 * t + 2) (by omega)]
    rfl
