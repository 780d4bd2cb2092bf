/-! the model's rows: what is due -/
theorem cl126 : (126 : Int32).toNatClampNeg = 126 := by decide
theorem nI_4mul (k : Nat) : (4 : Int32) * nI k = nI (4 * k) := by rw [show (4 : Int32) = nI 4 from rfl, pk_mul]
theorem nI_30 (k : Nat) : (30 : Int32) + nI k = nI (30 + k) := by rw [show (30 : Int32) = nI 30 from rfl, nI_add]
theorem inbL {i : Int32} {n m : Nat} (h : inb i n = true) (hm : n ≤ m) : inb i m = true := by
  simp only [inb, Bool.and_eq_true, decide_eq_true_eq] at h ⊢
  exact ⟨h.1, by omega⟩
theorem i126 {m : Nat} (h : 131 ≤ m) : inb (126 : Int32) m = true := inbL (n := 131) (by decide) h
theorem nI_z (x : Int32) : x + (0 : Int32) = x := by simp
theorem Model_dueOf {σ : Mem} {a : Nat} {b : Int32} {n : Nat} (hl : 131 ≤ ln a) (hc : mI σ a 126 = nI n) (hn : n ≤ 24) : f_Model_dueOf σ a b = some (dueS (fun k => mI σ a (30 + k)) b n) := by
  unfold f_Model_dueOf
  refine loopF_count (fun i => (dueS (fun k => mI σ a (30 + k)) b i, nI i)) _ n 0 (fun j _ hj => ?_) ?_ FU (by unfold FU; omega)
  · have h1 : ¬ nI n ≤ nI j := fun q => by have := (nI_leI (a := n) (b := j) (by omega) (by omega)).mp q; omega
    have e1 : (30 : Int32) + (4 : Int32) * nI j = nI (30 + 4 * j) := by rw [nI_4mul, nI_30]
    have e2 : nI (30 + 4 * j) + (3 : Int32) = nI (30 + (4 * j + 3)) := nI_addc _ 3
    have e3 : nI j + (1 : Int32) = nI (j + 1) := nI_1 j
    unfold f_Model_dueOf_L4
    simp only [i126 hl, cl126, hc, h1, if_false, e1, e2, e3, inbL (inb_nI (show 30 + 4 * j < 131 by omega) (by decide)) hl, inbL (inb_nI (show 30 + (4 * j + 3) < 131 by omega) (by decide)) hl, if_true, nI_clamp (show 30 + 4 * j < 2 ^ 31 by omega), nI_clamp (show 30 + (4 * j + 3) < 2 ^ 31 by omega), dueS, nI_z]
    by_cases hb : mI σ a (30 + 4 * j) = b
    · simp only [hb, if_true]
    · simp only [hb, if_false]
  · unfold f_Model_dueOf_L4
    simp only [i126 hl, cl126, hc, Nat.zero_add, if_true]
    exact if_pos (nI_le (Nat.le_refl _) (by omega))
theorem Model_allDue {σ : Mem} {a : Nat} {n : Nat} (hl : 131 ≤ ln a) (hc : mI σ a 126 = nI n) (hn : n ≤ 24) : f_Model_allDue σ a = some (dueA (fun k => mI σ a (30 + k)) n) := by
  unfold f_Model_allDue
  refine loopF_count (fun i => (dueA (fun k => mI σ a (30 + k)) i, nI i)) _ n 0 (fun j _ hj => ?_) ?_ FU (by unfold FU; omega)
  · have h1 : ¬ nI n ≤ nI j := fun q => by have := (nI_leI (a := n) (b := j) (by omega) (by omega)).mp q; omega
    have e1 : (30 : Int32) + (4 : Int32) * nI j = nI (30 + 4 * j) := by rw [nI_4mul, nI_30]
    have e2 : nI (30 + 4 * j) + (3 : Int32) = nI (30 + (4 * j + 3)) := nI_addc _ 3
    have e3 : nI j + (1 : Int32) = nI (j + 1) := nI_1 j
    unfold f_Model_allDue_L4
    simp only [i126 hl, cl126, hc, h1, if_false, e1, e2, e3, inbL (inb_nI (show 30 + (4 * j + 3) < 131 by omega) (by decide)) hl, if_true, nI_clamp (show 30 + (4 * j + 3) < 2 ^ 31 by omega), dueA]
  · unfold f_Model_allDue_L4
    simp only [i126 hl, cl126, hc, Nat.zero_add, if_true]
    exact if_pos (nI_le (Nat.le_refl _) (by omega))
