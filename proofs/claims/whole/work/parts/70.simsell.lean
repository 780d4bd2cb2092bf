/-! selling -/
def kV (K : Cy) (t v : Nat) : Cy := (K.1, cR K, cW K, cF K, cL K, upd (cV K) t (nI v), cD K)
theorem kV_ok {K : Cy} {t v : Nat} (hK : CyOk K) (hv : v ≤ 9) : CyOk (kV K t v) := by
  obtain ⟨h1, h2, h3, h4, h5, h6⟩ := hK
  refine ⟨h1, h2, h3, h4, fun u hu => ?_, h6⟩
  show ∃ p, p < 10 ∧ upd (cV K) t (nI v) u = nI p
  rw [upd_at]
  by_cases q : u = t
  · rw [if_pos q]; exact ⟨v, by omega, rfl⟩
  · rw [if_neg q]; exact h5 u hu
theorem firstR_at {β : Type} {P : Nat → Bool} {r : Nat → β} {r0 : β} : ∀ (n i j : Nat), i ≤ j → j < i + n → (∀ k, i ≤ k → k < j → P k = false) → P j = true → firstR P r r0 n i = r j := by
  intro n i j h1 h2 h3 h4
  rcases firstR_cases P r r0 n i with ⟨k, k1, k2, k3, k4, k5⟩ | ⟨k1, -⟩
  · have : k = j := by
      rcases Nat.lt_trichotomy k j with q | q | q
      · rw [h3 k k1 q] at k3; cases k3
      · exact q
      · rw [k4 j h1 q] at h4; cases h4
    rw [k5, this]
  · rw [k1 j h1 h2] at h4; cases h4
theorem firstR_no {β : Type} {P : Nat → Bool} {r : Nat → β} {r0 : β} (n i : Nat) (h : ∀ k, i ≤ k → k < i + n → P k = false) : firstR P r r0 n i = r0 := by
  rcases firstR_cases P r r0 n i with ⟨k, k1, k2, k3, -, -⟩ | ⟨-, k1⟩
  · rw [h k k1 k2] at k3; cases k3
  · exact k1
/-- by weight v: the first of m hours behind which the thing is sold -/
def hsS (K : Cy) (w : Rw) (t m : Nat) : Int32 := firstR (fun n => decide (itH K w n (8 + t) = 1)) (fun n => nI n) (-1) m 1
theorem hsS_ty (K : Cy) (w : Rw) (t m : Nat) : hsS K w t m = -1 ∨ ∃ n, 1 ≤ n ∧ n ≤ m ∧ hsS K w t m = nI n := by
  rcases firstR_cases (fun n => decide (itH K w n (8 + t) = 1)) (fun n => nI n) (-1) m 1 with ⟨k, k1, k2, -, -, k5⟩ | ⟨-, k1⟩
  · exact Or.inr ⟨k, k1, by omega, k5⟩
  · exact Or.inl k1
theorem Outlook_hoursToSell {σ : Mem} {A : Gh} {t v m : Nat} (hA : gOk A) (hC : CRel σ A) (hc : hasC A) (ht : t < cT (gK A)) (hv : v ≤ 9) (hm : m ≤ 40) : ∃ σ', f_Outlook_hoursToSell σ 6 (nI t) (nI v) (nI m) = some (hsS (kV (gK A) t v) (gW A) t m, σ') ∧ SC (gL A).1 (gD A).1 σ σ' ∧ mI σ' 434 = mI σ 434 := by
  have t8 := hA.T8
  have b6 := hA.B6
  have hK := kV_ok (t := t) hc.2.2.1 hv
  obtain ⟨hr, hg⟩ := hC.n hc
  obtain ⟨σ1, g1, g2, g3, g4, g5, g6, g7⟩ := State_copyFrom (o := 435) (p := 6) (by omega) t8 b6 hr hc.2.2.2.1.1
  have cx0 := copy_CX g4 g5 g6
  have cx1 : CX 435 σ (sI σ1 439 t (nI v)) := cx0.trans (CX_sI (by omega))
  have r1 : RS (sI σ1 439 t (nI v)) 435 (kV (gK A) t v) (gW A) := by
    obtain ⟨r1, r2, r3, r4, r5, r6, r7⟩ := g2
    have e : ∀ c, c ≠ 439 → mI (sI σ1 439 t (nI v)) c = mI σ1 c := fun c hc => row_ne hc
    refine ⟨fun u hu => by rw [e _ (by omega), e _ (by omega), e _ (by omega)]; exact r1 u hu, fun u hu => ?_, fun b hb => by rw [e _ (by omega)]; exact r3 b hb, fun b hb => by rw [e _ (by omega), e _ (by omega)]; exact r4 b hb, fun i hi => by rw [e _ (by omega)]; exact r5 i hi, by rw [e _ (by omega)]; exact r6, by rw [e _ (by omega)]; exact r7⟩
    show mI (sI σ1 439 t (nI v)) 439 u = upd (cV (gK A)) t (nI v) u
    rw [row_sI, upd_at, upd_at]
    by_cases q : u = t
    · rw [if_pos q, if_pos q]
    · rw [if_neg q, if_neg q]; exact r2 u hu
  have hk1 : CK (sI σ1 439 t (nI v)) (kV (gK A) t v) := hC.k.fr okO435 cx1
  have wf : Wf (cT (kV (gK A) t v)) (cB (kV (gK A) t v)) 10000 (gW A) := hc.2.2.2.1.1
  unfold f_Outlook_hoursToSell
  rw [g1, Option.bind_some, if_pos (inb_nI (by omega) (by decide)), nI_clamp (by omega)]
  obtain ⟨⟨r, σ2⟩, k1, k2, k3⟩ := loopF_go (step := f_Outlook_hoursToSell_L22 6 (nI t) (nI v) (nI m)) (a := (sI σ1 439 t (nI v), (1 : Int32))) (fun i s => s.2 = nI (1 + i) ∧ CG (jA A) 435 (kV (gK A) t v) σ (itH (kV (gK A) t v) (gW A) i) s.1 ∧ ∀ k, 1 ≤ k → k < 1 + i → decide (itH (kV (gK A) t v) (gW A) k (8 + t) = 1) = false) (fun r => r.1 = hsS (kV (gK A) t v) (gW A) t m ∧ CX 435 σ r.2) m ⟨rfl, ⟨r1, cx1, J_CX hA.J okO435 hC.j cx1⟩, fun k h1 h2 => by omega⟩ (by omega) (by
    rintro i ⟨τ, z⟩ him ⟨hz, ⟨c1, c2, c3⟩, hno⟩
    simp only at hz c1 c2 c3 hno
    subst hz
    unfold f_Outlook_hoursToSell_L22
    by_cases hlt : i < m
    · obtain ⟨τ', p1, p2, -⟩ := Trade_passHour (J := jA A) (K := kV (gK A) t v) hA.J hK (hC.k.fr okO435 c2) okO435 c3 c1 (itH_wf hK wf i) (by omega)
      have e1 : mI τ' 437 t = itH (kV (gK A) t v) (gW A) (1 + i) (8 + t) := by rw [Nat.add_comm 1 i]; exact (p2.1.1 t (by omega)).2.1
      simp only [show ¬ nI m < nI (1 + i) from nI_nlt (by omega) (by omega), if_false, p1, Option.bind_some, inb_nI (show t < 8 by omega) (show 8 < 2 ^ 31 by decide), if_true, nI_clamp (show t < 2 ^ 31 by omega), e1, nI_1]
      by_cases q : itH (kV (gK A) t v) (gW A) (1 + i) (8 + t) = 1
      · rw [if_pos q]
        refine exR ⟨?_, c2.trans p2.2.1⟩
        exact (firstR_at (P := fun n => decide (itH (kV (gK A) t v) (gW A) n (8 + t) = 1)) (r := fun n => nI n) (r0 := (-1 : Int32)) m 1 (1 + i) (by omega) (by omega) hno (decide_eq_true q)).symm
      · rw [if_neg q]
        refine exL ⟨hlt, rfl, ⟨p2.1, c2.trans p2.2.1, p2.2.2⟩, fun k h1 h2 => ?_⟩
        by_cases e : k = 1 + i
        · subst e; exact decide_eq_false q
        · exact hno k h1 (by omega)
    · have : i = m := by omega
      subst this
      simp only [show nI i < nI (1 + i) from nI_lt (by omega) (by omega), if_true]
      exact exR ⟨(firstR_no i 1 fun k h1 h2 => hno k h1 (by omega)).symm, c2⟩)
  simp only at k2 k3
  rw [k1, k2]
  exact ⟨σ2, rfl, SC_cx hA hC (by omega) k3, k3.1 434 (by omega) (by omega)⟩
/-- best weight, in how many hours, and how many may be tried still -/
def slS (K : Cy) (w : Rw) (t : Nat) : Nat → Int32 × Int32 × Nat
  | 0 => (-1, -1, 40)
  | v + 1 => if hsS (kV K t v) w t (slS K w t v).2.2 = -1 then slS K w t v else (nI v, hsS (kV K t v) w t (slS K w t v).2.2, (hsS (kV K t v) w t (slS K w t v).2.2).toNatClampNeg - 1)
theorem slS_ok (K : Cy) (w : Rw) (t : Nat) : ∀ v, v ≤ 10 → (slS K w t v).2.2 ≤ 40 ∧ (((slS K w t v).1 = -1 ∧ (slS K w t v).2.1 = -1) ∨ ((slS K w t v).1 ≠ -1 ∧ (slS K w t v).2.1 = nI ((slS K w t v).2.2 + 1))) := by
  intro v
  induction v with
  | zero => intro _; exact ⟨by show 40 ≤ 40; omega, Or.inl ⟨rfl, rfl⟩⟩
  | succ v ih =>
    intro hv
    obtain ⟨i1, i2⟩ := ih (by omega)
    have e : slS K w t (v + 1) = if hsS (kV K t v) w t (slS K w t v).2.2 = -1 then slS K w t v else (nI v, hsS (kV K t v) w t (slS K w t v).2.2, (hsS (kV K t v) w t (slS K w t v).2.2).toNatClampNeg - 1) := rfl
    rw [e]
    rcases hsS_ty (kV K t v) w t (slS K w t v).2.2 with q | ⟨n, n1, n2, n3⟩
    · rw [if_pos q]; exact ⟨i1, i2⟩
    · rw [n3, if_neg (nI_ne_m1 (by omega)), nI_clamp (by omega)]
      exact ⟨by show n - 1 ≤ 40; omega, Or.inr ⟨nI_ne_m1 (by omega), by show nI n = nI (n - 1 + 1); congr 1; omega⟩⟩
theorem Outlook_seekWeight {σ : Mem} {A : Gh} {t : Nat} (hA : gOk A) (hC : CRel σ A) (hc : hasC A) (ht : t < cT (gK A)) : ∃ σ', f_Outlook_seekWeight σ 6 (nI t) = some σ' ∧ SC (gL A).1 (gD A).1 σ σ' ∧ mI σ' 434 2 = (slS (gK A) (gW A) t 10).1 ∧ mI σ' 434 3 = (slS (gK A) (gW A) t 10).2.1 := by
  unfold f_Outlook_seekWeight
  have s0 := (SC_434 (k := 2) (v := -1) hA hC).trans (SC_434 (k := 3) (v := -1) hA (hC.scr (SC_434 (k := 2) (v := -1) hA hC)))
  refine loopF_go (fun i (s : Mem × Int32 × Int32) => s.2.2 = nI i ∧ s.2.1 = nI (slS (gK A) (gW A) t i).2.2 ∧ SC (gL A).1 (gD A).1 σ s.1 ∧ mI s.1 434 2 = (slS (gK A) (gW A) t i).1 ∧ mI s.1 434 3 = (slS (gK A) (gW A) t i).2.1) _ 10 ⟨rfl, rfl, s0, by rw [row_sI, upd_ne (by omega), row_sI, upd_self]; rfl, by rw [row_sI, upd_self]; rfl⟩ (by omega) ?_
  rintro i ⟨τ, z4, z5⟩ hi9 ⟨hz, hz4, hs, h2, h3⟩
  simp only at hz hz4 hs h2 h3
  subst hz; subst hz4
  unfold f_Outlook_seekWeight_L17
  by_cases hlt : i < 10
  · have hC1 := hC.scr hs
    obtain ⟨m40, -⟩ := slS_ok (gK A) (gW A) t i (by omega)
    obtain ⟨σ1, g1, g2, g3⟩ := Outlook_hoursToSell (v := i) hA hC1 hc ht (by omega) m40
    have sc1 := hs.trans g2
    have hC2 := hC.scr sc1
    have e : slS (gK A) (gW A) t (i + 1) = if hsS (kV (gK A) t i) (gW A) t (slS (gK A) (gW A) t i).2.2 = -1 then slS (gK A) (gW A) t i else (nI i, hsS (kV (gK A) t i) (gW A) t (slS (gK A) (gW A) t i).2.2, (hsS (kV (gK A) t i) (gW A) t (slS (gK A) (gW A) t i).2.2).toNatClampNeg - 1) := rfl
    simp only [show ¬ (9 : Int32) < nI i from nI_nlt (a := 9) (by omega) (by omega), if_false, g1, Option.bind_some, nI_1]
    rcases hsS_ty (kV (gK A) t i) (gW A) t (slS (gK A) (gW A) t i).2.2 with q | ⟨n, n1, n2, n3⟩
    · rw [if_pos q]
      rw [if_pos q] at e
      exact exL ⟨hlt, rfl, by rw [e], sc1, by rw [g3, e]; exact h2, by rw [g3, e]; exact h3⟩
    · rw [n3, if_neg (nI_ne_m1 (by omega)), nI_clamp (by omega)] at e
      rw [n3, if_neg (nI_ne_m1 (by omega)), show nI n - (1 : Int32) = nI (n - 1) from pk_sub (b := 1) n1]
      exact exL ⟨hlt, rfl, by rw [e], sc1.trans ((SC_434 hA hC2).trans (SC_434 hA (hC2.scr (SC_434 hA hC2)))), by rw [row_sI, upd_ne (by omega), row_sI, upd_self, e], by rw [row_sI, upd_self, e]⟩
  · have : i = 10 := by omega
    subst this
    simp only [show (9 : Int32) < nI 10 by decide, if_true]
    exact exR ⟨hs, h2, h3⟩
