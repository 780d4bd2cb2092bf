/-! the class: a State is copied -/
def cpz (n m : Nat) (i : Nat) : Nat := if i < 5 then 8 else if i < 8 then 6 else if i = 8 then 4 * n else 3 * m
def Cp (n m : Nat) (σ : Mem) (o p j : Nat) (σ' : Mem) : Prop := (∀ c, ¬ (o < c ∧ c ≤ o + j) → mI σ' c = mI σ c) ∧ mL σ' = mL σ ∧ mR σ' = mR σ ∧ (∀ i k, 1 ≤ i → i ≤ j → k < cpz n m i → mI σ' (o + i) k = mI σ (p + i) k)
theorem Cp.zero (n m : Nat) (σ : Mem) (o p : Nat) : Cp n m σ o p 0 σ := ⟨fun _ _ => rfl, rfl, rfl, fun i k h1 h2 => by omega⟩
theorem Cp.step {n m : Nat} {σ σ' : Mem} {o p j : Nat} {z : Int32} (hd : o + 10 ≤ p ∨ p + 10 ≤ o) (hj : j < 9) (hn : n ≤ 24) (hm : m ≤ 60) (h : Cp n m σ o p j σ') (hz : z = nI (cpz n m (j + 1))) : Cp n m σ o p (j + 1) (rI σ' (o + (j + 1)) (cpyM (mI σ' (p + (j + 1))) (mI σ' (o + (j + 1))) 0 0 z)) := by
  obtain ⟨h1, h2, h3, h4⟩ := h
  have hs : cpz n m (j + 1) < 2 ^ 31 := by unfold cpz; (repeat' split) <;> omega
  subst hz
  rw [show cpyM (mI σ' (p + (j + 1))) (mI σ' (o + (j + 1))) 0 0 (nI (cpz n m (j + 1))) = _ from cpyM_nI (s := 0) (d := 0) (by omega) (by omega) hs]
  refine ⟨fun c hc => by rw [rowr_ne (by omega)]; exact h1 c (by omega), h2, h3, fun i k i1 i2 hk => ?_⟩
  by_cases hi : i = j + 1
  · subst hi
    rw [rowr_self, if_pos ⟨by omega, by omega⟩, h1 _ (by omega)]
    congr 1; omega
  · rw [rowr_ne (by omega)]
    exact h4 i k i1 (by omega) hk
theorem State_copyFrom {K : Cy} {σ : Mem} {o p : Nat} {w : Rw} {N T B : Nat} (hd : o + 10 ≤ p ∨ p + 10 ≤ o) (hT : cT K ≤ 8) (hB : cB K ≤ 6) (hr : RS σ p K w) (hw : Wf T B N w) : ∃ σ', f_State_copyFrom σ o p = some σ' ∧ RS σ' o K w ∧ (RG σ p w → RG σ' o w) ∧ (∀ c, ¬ (o ≤ c ∧ c < o + 10) → mI σ' c = mI σ c) ∧ mL σ' = mL σ ∧ mR σ' = mR σ ∧ (∀ k, k < 9 → mI σ' o k = mI σ o k) := by
  obtain ⟨n, n1, n2, -⟩ := hw.1
  obtain ⟨m, m1, m2⟩ := hr.2.2.2.2.2.2
  have h9 : mI σ p 9 = nI n := hr.2.2.2.2.2.1.1.trans n2
  unfold f_State_copyFrom
  have c0 := Cp.zero n m σ o p
  rw [if_pos (by decide), Option.bind_some]
  have c1 := c0.step (z := 8) hd (by omega) n1 m1 rfl
  generalize rI σ (o + (0 + 1)) (cpyM (mI σ (p + (0 + 1))) (mI σ (o + (0 + 1))) 0 0 8) = σ1 at c1 ⊢
  rw [if_pos (by decide), Option.bind_some]
  have c2 := c1.step (z := 8) hd (by omega) n1 m1 rfl
  generalize rI σ1 (o + (1 + 1)) (cpyM (mI σ1 (p + (1 + 1))) (mI σ1 (o + (1 + 1))) 0 0 8) = σ2 at c2 ⊢
  rw [if_pos (by decide), Option.bind_some]
  have c3 := c2.step (z := 8) hd (by omega) n1 m1 rfl
  generalize rI σ2 (o + (2 + 1)) (cpyM (mI σ2 (p + (2 + 1))) (mI σ2 (o + (2 + 1))) 0 0 8) = σ3 at c3 ⊢
  rw [if_pos (by decide), Option.bind_some]
  have c4 := c3.step (z := 8) hd (by omega) n1 m1 rfl
  generalize rI σ3 (o + (3 + 1)) (cpyM (mI σ3 (p + (3 + 1))) (mI σ3 (o + (3 + 1))) 0 0 8) = σ4 at c4 ⊢
  rw [if_pos (by decide), Option.bind_some]
  have c5 := c4.step (z := 6) hd (by omega) n1 m1 rfl
  generalize rI σ4 (o + (4 + 1)) (cpyM (mI σ4 (p + (4 + 1))) (mI σ4 (o + (4 + 1))) 0 0 6) = σ5 at c5 ⊢
  rw [if_pos (by decide), Option.bind_some]
  have c6 := c5.step (z := 6) hd (by omega) n1 m1 rfl
  generalize rI σ5 (o + (5 + 1)) (cpyM (mI σ5 (p + (5 + 1))) (mI σ5 (o + (5 + 1))) 0 0 6) = σ6 at c6 ⊢
  rw [if_pos (by decide), Option.bind_some]
  have c7 := c6.step (z := 6) hd (by omega) n1 m1 rfl
  generalize rI σ6 (o + (6 + 1)) (cpyM (mI σ6 (p + (6 + 1))) (mI σ6 (o + (6 + 1))) 0 0 6) = σ7 at c7 ⊢
  have e9 : mI σ7 p 9 * (4 : Int32) = nI (4 * n) := by rw [c7.1 p (by omega), h9, nI_mul4]
  rw [e9, if_pos (show cpyB 96 96 (0 : Int32) (0 : Int32) (nI (4 * n)) = true from cpyB_nI (s := 0) (d := 0) (by omega) (by omega) (by omega) (by omega)), Option.bind_some]
  have c8 := c7.step (z := nI (4 * n)) hd (by omega) n1 m1 rfl
  generalize rI σ7 (o + (7 + 1)) (cpyM (mI σ7 (p + (7 + 1))) (mI σ7 (o + (7 + 1))) 0 0 (nI (4 * n))) = σ8 at c8 ⊢
  have e10 : mI σ8 p 10 * (3 : Int32) = nI (3 * m) := by rw [c8.1 p (by omega), m2, nI_mul3]
  rw [e10, if_pos (show cpyB 180 180 (0 : Int32) (0 : Int32) (nI (3 * m)) = true from cpyB_nI (s := 0) (d := 0) (by omega) (by omega) (by omega) (by omega)), Option.bind_some]
  have c9 := c8.step (z := nI (3 * m)) hd (by omega) n1 m1 rfl
  generalize rI σ8 (o + (8 + 1)) (cpyM (mI σ8 (p + (8 + 1))) (mI σ8 (o + (8 + 1))) 0 0 (nI (3 * m))) = σ9 at c9 ⊢
  have np : p ≠ o := by omega
  simp only [row_ne np]
  obtain ⟨k1, k2, k3, k4⟩ := c9
  rw [k1 p (by omega)]
  have kr : ∀ i k, 1 ≤ i → i ≤ 9 → k < cpz n m i → mI (sI (sI (sI (sI (sI (sI σ9 o 9 (mI σ p 9)) o 10 (mI σ p 10)) o 11 (mI σ p 11)) o 12 (mI σ p 12)) o 13 (mI σ p 13)) o 14 (mI σ p 14)) (o + i) k = mI σ (p + i) k := fun i k i1 i2 hk => by
    simp (disch := omega) only [row_ne]
    exact k4 i k i1 i2 hk
  have ko : ∀ k, mI (sI (sI (sI (sI (sI (sI σ9 o 9 (mI σ p 9)) o 10 (mI σ p 10)) o 11 (mI σ p 11)) o 12 (mI σ p 12)) o 13 (mI σ p 13)) o 14 (mI σ p 14)) o k = if k = 14 then mI σ p 14 else if k = 13 then mI σ p 13 else if k = 12 then mI σ p 12 else if k = 11 then mI σ p 11 else if k = 10 then mI σ p 10 else if k = 9 then mI σ p 9 else mI σ o k := fun k => by
    simp only [row_sI, upd_at, k1 o (by omega)]
  refine ⟨_, rfl, ?_, ?_, fun c hc => ?_, k2, k3, fun k hk => ?_⟩
  · obtain ⟨r1, r2, r3, r4, r5, ⟨r6, r7, r8, r9, r10⟩, r11⟩ := hr
    refine ⟨fun t ht => ?_, fun t ht => ?_, fun b hb => ?_, fun b hb => ?_, fun i hi => ?_, ⟨?_, ?_, ?_, ?_, ?_⟩, ?_⟩
    · rw [kr 1 t (by omega) (by omega) ht, kr 2 t (by omega) (by omega) ht, kr 3 t (by omega) (by omega) ht]; exact r1 t ht
    · rw [kr 4 t (by omega) (by omega) (show t < 8 by omega)]; exact r2 t ht
    · rw [kr 5 b (by omega) (by omega) hb]; exact r3 b hb
    · rw [kr 6 b (by omega) (by omega) (show b < 6 by omega), kr 7 b (by omega) (by omega) (show b < 6 by omega)]; exact r4 b hb
    · have hi2 := hi
      rw [mny_eq n1 n2] at hi2
      rw [kr 8 i (by omega) (by omega) hi2]; exact r5 i hi
    · rw [ko]; exact r6
    · rw [ko]; exact r7
    · rw [ko]; exact r8
    · rw [ko]; exact r9
    · rw [ko]; exact r10
    · rw [ko]; exact r11
  · rintro ⟨q1, q2, q3⟩
    refine ⟨q1, by rw [ko]; exact q2, fun i hi => ?_⟩
    have : lnS w = m := lnS_eq m1 (q2.symm.trans m2)
    rw [this] at hi
    rw [kr 9 i (by omega) (by omega) hi]
    exact q3 i (by rw [this]; exact hi)
  · simp (disch := omega) only [row_ne]
    exact k1 c (by omega)
  · rw [ko, if_neg (by omega), if_neg (by omega), if_neg (by omega), if_neg (by omega), if_neg (by omega), if_neg (by omega)]
