/-! odds: what the parts come to -/
theorem paH_128 {K : Cy} {N : Nat} {w : Rw} (hK : CyOk K) (hw : Wf (cT K) (cB K) N w) : paH K w 128 = w 128 := by
  have h6 := hK.2.1
  have e1 : h2S K w 128 = w 128 := by unfold h2S; rw [upd_ne (by omega), h1S_hi hK rfl rfl hw (by omega)]
  unfold paH
  split
  · obtain ⟨n, n1, n2, -⟩ := (h2S_wf hK rfl rfl hw).1
    rw [paS_vi h6 n1 n2, upd_ne (by omega), viS_lo (by omega), e1]
  · exact e1
theorem clerk_wf {K : Cy} {N : Nat} {w : Rw} {v : Int32} (hK : CyOk K) (hw : Wf (cT K) (cB K) N w) : Wf (cT K) (cB K) N (upd w 128 v) := by
  obtain ⟨q1, q2, q3, q4, q5⟩ := hw
  exact ⟨q1.congr fun i h6 h7 => upd_ne (by omega), q2.congr hK.1 fun i h => upd_ne (by omega), q3.congr hK.2.1 fun i h6 h7 => upd_ne (by omega), q4.congr (upd_ne (by omega)), q5.congr (upd_ne (by omega))⟩
/-- the row after an hour in which the clerk looks away -/
def awH (K : Cy) (w : Rw) : Rw := upd (paH K (upd w 128 15)) 128 (w 128)
theorem awH_wf {K : Cy} {N : Nat} {w : Rw} (hK : CyOk K) (hw : Wf (cT K) (cB K) N w) : Wf (cT K) (cB K) (N + 1) (awH K w) := clerk_wf hK (paH_wf hK rfl rfl (clerk_wf hK hw))
theorem awH_128 (K : Cy) (w : Rw) : awH K w 128 = w 128 := upd_self _ _ _
def odS (K : Cy) (y : Int32) (x : Nat) : Nat → Rw → Nat → Nat
  | 0, w, P => if w 129 + dueA (fun k => w (30 + k)) (mny w) < y then 0 else P
  | n + 1, w, P => odS K y x n (awH K w) (P * x / 100) + odS K y x n (paH K w) (P - P * x / 100)
theorem odS_s (K : Cy) (y : Int32) (x n : Nat) (w : Rw) (P : Nat) : odS K y x (n + 1) w P = odS K y x n (awH K w) (P * x / 100) + odS K y x n (paH K w) (P - P * x / 100) := rfl
theorem odS_le {K : Cy} {y : Int32} {x : Nat} (hx : x ≤ 100) : ∀ n w P, odS K y x n w P ≤ P := by
  intro n
  induction n with
  | zero =>
    intro w P
    unfold odS
    split <;> omega
  | succ n ih =>
    intro w P
    rw [odS_s]
    have a := ih (awH K w) (P * x / 100)
    have b := ih (paH K w) (P - P * x / 100)
    have c : P * x / 100 ≤ P := by
      have : P * x ≤ P * 100 := Nat.mul_le_mul_left _ hx
      omega
    omega
theorem odS_0 {K : Cy} {y : Int32} {x : Nat} (hx : x ≤ 100) (n : Nat) (w : Rw) : odS K y x n w 0 = 0 := Nat.le_zero.mp (odS_le hx n w 0)
theorem part_le {P x : Nat} (hx : x ≤ 100) : P * x / 100 ≤ P := by
  have : P * x ≤ P * 100 := Nat.mul_le_mul_left _ hx
  omega
theorem part_val {P x : Nat} (hP : P ≤ 1000000000) (hx : x ≤ 100) : ((((nI P).toInt64 * (nI x).toInt64) / (100 : Int64))).toInt32 = nI (P * x / 100) := by
  have : P * x ≤ P * 100 := Nat.mul_le_mul_left _ hx
  rw [nI_l (by omega), nI_l (by omega), lN_mul, show (100 : Int64) = lN 100 from rfl, pk_lDiv (by omega) (by omega) (by omega), lN_i]
/-! the class -/
def PX (n : Nat) (σ σ' : Mem) : Prop := (∀ a, ¬ (446 ≤ a ∧ a < 456 + 10 * n) → ¬ (a = 429 ∨ (540 ≤ a ∧ a < 555 ∧ a % 3 = 2)) → mI σ' a = mI σ a) ∧ mL σ' = mL σ ∧ mR σ' = mR σ
theorem PX.refl (n : Nat) (σ : Mem) : PX n σ σ := ⟨fun _ _ _ => rfl, rfl, rfl⟩
theorem PX.trans {n : Nat} {σ σ1 σ2 : Mem} (h : PX n σ σ1) (g : PX n σ1 σ2) : PX n σ σ2 := ⟨fun a h1 h2 => (g.1 a h1 h2).trans (h.1 a h1 h2), g.2.1.trans h.2.1, g.2.2.trans h.2.2⟩
theorem PX.up {n : Nat} {σ σ1 : Mem} (h : PX n σ σ1) : PX (n + 1) σ σ1 := ⟨fun a h1 h2 => h.1 a (by omega) h2, h.2.1, h.2.2⟩
theorem PX_cx {n : Nat} {σ σ1 : Mem} (h : CX (446 + 10 * n) σ σ1) : PX n σ σ1 := ⟨fun a h1 h2 => h.1 a (by omega) h2, h.2.1, h.2.2⟩
theorem SC_px {A : Gh} {σ σ' : Mem} {n : Nat} (hA : gOk A) (h : CRel σ A) (hn : n ≤ 6) (g : PX n σ σ') : SC (gL A).1 (gD A).1 σ σ' := SC_of hA.2.1.1 hA.2.2.1.1 h.2.2.2.2.2.1.c (fun a ha => g.1 a (by omega) (by omega)) g.2.1 g.2.2
theorem ra445 (i : Nat) : ra 445 i = 446 + 10 * i := by unfold ra; rw [if_neg (by omega), if_neg (by omega), if_neg (by omega)]
theorem ok445 {i : Nat} (h : i < 7) : OkO (446 + 10 * i) := ⟨by omega, by rw [← ra445]; exact ra_445 h⟩
def above (o n : Nat) : Prop := o = 6 ∨ ∃ i, n < i ∧ i < 7 ∧ o = 446 + 10 * i
theorem RS.px {σ σ' : Mem} {o n : Nat} {K : Cy} {w : Rw} (h : RS σ o K w) (ho : above o n) (g : PX n σ σ') : RS σ' o K w := h.fr fun a h1 h2 => by
  rcases ho with rfl | ⟨i, i1, i2, rfl⟩
  · exact g.1 a (by omega) (by omega)
  · exact g.1 a (by omega) (by omega)
theorem PR_copy {A : Gh} {σ : Mem} {o n N : Nat} {w : Rw} (hA : gOk A) (hC : CRel σ A) (hr : RS σ o (gK A) w) (hw : Wf (cT (gK A)) (cB (gK A)) N w) (ho : above o n) (hn : n < 7) : ∃ σ', f_State_copyFrom σ (446 + 10 * n) o = some σ' ∧ RS σ' (446 + 10 * n) (gK A) w ∧ RS σ' o (gK A) w ∧ PX n σ σ' ∧ CRel σ' A := by
  have hd : 446 + 10 * n + 10 ≤ o ∨ o + 10 ≤ 446 + 10 * n := by
    rcases ho with rfl | ⟨i, i1, i2, rfl⟩ <;> omega
  obtain ⟨σ1, g1, g2, g3, g4, g5, g6, g7⟩ := State_copyFrom hd hA.T8 hA.B6 hr hw
  have px := PX_cx (copy_CX g4 g5 g6)
  exact ⟨σ1, g1, g2, hr.px ho px, px, hC.scr (SC_px hA hC (by omega) px)⟩
theorem PR_hour {A : Gh} {σ : Mem} {n N : Nat} {w : Rw} (hA : gOk A) (hc : hasC A) (hC : CRel σ A) (hr : RS σ (446 + 10 * n) (gK A) w) (hw : Wf (cT (gK A)) (cB (gK A)) N w) (hN : N < 2 ^ 30) (hn : n < 7) : ∃ σ', f_Trade_passHour σ (446 + 10 * n) = some σ' ∧ RS σ' (446 + 10 * n) (gK A) (paH (gK A) w) ∧ PX n σ σ' ∧ CRel σ' A := by
  obtain ⟨σ1, g1, g2, g3⟩ := Trade_passHour hA.J hc.2.2.1 hC.k (ok445 hn) hC.j hr hw hN
  have px := PX_cx g2.2.1
  exact ⟨σ1, g1, g2.1, px, hC.scr (SC_px hA hC (by omega) px)⟩
theorem PR_set {A : Gh} {σ : Mem} {n N : Nat} {w : Rw} {v : Int32} (hA : gOk A) (hC : CRel σ A) (hr : RS σ (446 + 10 * n) (gK A) w) (hw : Wf (cT (gK A)) (cB (gK A)) N w) (hn : n < 7) : RS (sI σ (446 + 10 * n) 12 v) (446 + 10 * n) (gK A) (upd w 128 v) ∧ PX n σ (sI σ (446 + 10 * n) 12 v) ∧ CRel (sI σ (446 + 10 * n) 12 v) A := by
  have h126 : ∃ n, n ≤ 24 ∧ w 126 = nI n := by obtain ⟨m, m1, m2, -⟩ := hw.1; exact ⟨m, m1, m2⟩
  have cr := CR_field (f := 12) (j := 128) (v := v) hA.J hA.T8 hA.B6 (ok445 hn) hC.j hr h126 (Or.inr ⟨rfl, rfl⟩)
  have px := PX_cx cr.2.1
  exact ⟨cr.1, px, hC.scr (SC_px hA hC (by omega) px)⟩
theorem PR_all {A : Gh} {y : Int32} {x : Nat} (hA : gOk A) (hc : hasC A) (hx : x ≤ 100) : ∀ n, n ≤ 6 → ∀ m o w N P σ, n < m → P ≤ 1000000000 → above o n → CRel σ A → RS σ o (gK A) w → Wf (cT (gK A)) (cB (gK A)) N w → N + n < 2 ^ 29 → ∃ σ', f_PR m 0 σ o (nI n) (nI P) y (nI x) = some (nI (odS (gK A) y x n w P), σ') ∧ PX n σ σ' := by
  intro n
  induction n with
  | zero =>
    intro _ m o w N P σ hm hP ho hC hr hw hN
    obtain ⟨m, rfl⟩ : ∃ k, m = k + 1 := ⟨m - 1, by omega⟩
    obtain ⟨k, k1, k2, -⟩ := hw.1
    have h13 : mI σ o 13 = w 129 := hr.2.2.2.2.2.1.2.2.2.1
    show ∃ σ', f_Outlook_partsReaching (f_PR m) σ o (nI 0) (nI P) y (nI x) = _ ∧ _
    unfold f_Outlook_partsReaching f_Outlook_partsReaching_J13
    rw [if_pos (show nI 0 ≤ (0 : Int32) by decide), dueA_RS hr k1 k2, Option.bind_some, h13]
    unfold odS
    rw [mny_eq k1 k2]
    by_cases q : w 129 + dueA (fun k => w (30 + k)) k < y
    · rw [if_pos q, if_pos q]
      exact ⟨σ, rfl, PX.refl _ _⟩
    · rw [if_neg q, if_neg q]
      exact ⟨σ, rfl, PX.refl _ _⟩
  | succ n ih =>
    intro hn m o w N P σ hm hP ho hC hr hw hN
    obtain ⟨m, rfl⟩ : ∃ k, m = k + 1 := ⟨m - 1, by omega⟩
    have pl := part_le (P := P) hx
    have abv : above (446 + 10 * (n + 1)) n := Or.inr ⟨n + 1, by omega, by omega, rfl⟩
    have j113 : ∀ a τ, CRel τ A → RS τ o (gK A) w → ∃ τ', f_Outlook_partsReaching_J113 (f_PR m) τ o (nI (n + 1)) (nI P) y (nI x) (446 + 10 * (n + 1)) (nI (P * x / 100)) (nI a) = some (nI (a + odS (gK A) y x n (paH (gK A) w) (P - P * x / 100)), τ') ∧ PX (n + 1) τ τ' := fun a τ hC1 hr1 => by
      unfold f_Outlook_partsReaching_J113
      by_cases q : P ≤ P * x / 100
      · rw [if_pos (nI_le q (by omega)), show P - P * x / 100 = 0 by omega, odS_0 hx]
        exact ⟨τ, rfl, PX.refl _ _⟩
      · obtain ⟨τ1, g1, g2, -, g4, g5⟩ := PR_copy hA hC1 hr1 hw ho (by omega)
        obtain ⟨τ2, k1, k2, k3, k4⟩ := PR_hour hA hc g5 g2 hw (by omega) (by omega)
        obtain ⟨τ3, p1, p2⟩ := ih (by omega) m _ _ (N + 1) (P - P * x / 100) τ2 (by omega) (by omega) abv k4 k2 (paH_wf hc.2.2.1 rfl rfl hw) (by omega)
        rw [if_neg (nI_ge (by omega) (by omega)), g1, Option.bind_some, k1, Option.bind_some, pk_sub pl, z_sub1 (by omega), Nat.add_sub_cancel, p1, Option.bind_some]
        exact ⟨τ3, by rw [nI_add], (g4.trans k3).trans p2.up⟩
    show ∃ σ', f_Outlook_partsReaching (f_PR m) σ o (nI (n + 1)) (nI P) y (nI x) = _ ∧ _
    unfold f_Outlook_partsReaching
    rw [if_neg (show ¬ nI (n + 1) ≤ (0 : Int32) from nI_ge (a := 0) (by omega) (by omega)), if_pos (show nI (n + 1) < Int32.ofNat 7 from nI_lt (b := 7) (by omega) (by omega)), if_pos (inb_nI (by omega) (by decide)), nI_clamp (by omega), ra445, part_val hP hx, odS_s]
    by_cases q : P * x / 100 = 0
    · rw [if_pos (show nI (P * x / 100) ≤ (0 : Int32) by rw [q]; decide)]
      obtain ⟨τ', p1, p2⟩ := j113 0 σ hC hr
      rw [show nI 0 = (0 : Int32) from rfl] at p1
      have z0 : odS (gK A) y x n (awH (gK A) w) (P * x / 100) = 0 := by rw [q]; exact odS_0 hx _ _
      rw [z0]
      exact ⟨τ', p1, p2⟩
    · rw [if_neg (show ¬ nI (P * x / 100) ≤ (0 : Int32) from nI_ge (a := 0) (by omega) (by omega))]
      obtain ⟨τ1, g1, g2, g3, g4, g5⟩ := PR_copy hA hC hr hw ho (by omega)
      obtain ⟨h1, h2, h3⟩ := PR_set (v := 15) hA g5 g2 hw (by omega)
      obtain ⟨τ2, k1, k2, k3, k4⟩ := PR_hour hA hc h3 h1 (clerk_wf hc.2.2.1 hw) (by omega) (by omega)
      have r2 := (g3.px ho h2).px ho k3
      have e12 : mI τ2 o 12 = w 128 := r2.2.2.2.2.2.1.2.2.1
      obtain ⟨l1, l2, l3⟩ := PR_set (v := w 128) hA k4 k2 (paH_wf hc.2.2.1 rfl rfl (clerk_wf hc.2.2.1 hw)) (by omega)
      obtain ⟨τ3, p1, p2⟩ := ih (by omega) m _ _ (N + 1) (P * x / 100) _ (by omega) (by omega) abv l3 l1 (awH_wf hc.2.2.1 hw) (by omega)
      have px := (((g4.trans h2).trans k3).trans l2).trans p2.up
      have c3 := hC.scr (SC_px hA hC (by omega) px)
      obtain ⟨τ4, j1, j2⟩ := j113 (odS (gK A) y x n (awH (gK A) w) (P * x / 100)) τ3 c3 (hr.px ho px)
      rw [g1, Option.bind_some, k1, Option.bind_some, e12, z_sub1 (by omega), Nat.add_sub_cancel, show f_PR m 0 (sI τ2 (446 + 10 * (n + 1)) 12 (w 128)) (446 + 10 * (n + 1)) (nI n) (nI (P * x / 100)) y (nI x) = some (nI (odS (gK A) y x n (awH (gK A) w) (P * x / 100)), τ3) from p1, Option.bind_some, Int32.zero_add, j1]
      exact ⟨τ4, rfl, px.trans j2⟩
