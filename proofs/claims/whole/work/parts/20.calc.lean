/-! reading memory behind stores -/
theorem mI_sI (σ : Mem) (a k : Nat) (v : Int32) (b j : Nat) : mI (sI σ a k v) b j = if b = a ∧ j = k then v else mI σ b j := by
  by_cases hb : b = a
  · subst hb
    by_cases hj : j = k
    · subst hj; simp [sI, mI_rI_self, upd]
    · simp [sI, mI_rI_self, upd, hj]
  · rw [sI, mI_rI_ne hb, if_neg (fun q => hb q.1)]
theorem mI_rI (σ : Mem) (a : Nat) (f : Nat → Int32) (b : Nat) : mI (rI σ a f) b = if b = a then f else mI σ b := by
  by_cases hb : b = a
  · subst hb; rw [mI_rI_self, if_pos rfl]
  · rw [mI_rI_ne hb, if_neg hb]
theorem mI_sI_cell (σ : Mem) (a k : Nat) (v : Int32) (b : Nat) (h : b ≠ a) : mI (sI σ a k v) b = mI σ b := by rw [sI, mI_rI_ne h]
theorem mL_sI (σ : Mem) (a k : Nat) (v : Int32) : mL (sI σ a k v) = mL σ := rfl
theorem mR_sI (σ : Mem) (a k : Nat) (v : Int32) : mR (sI σ a k v) = mR σ := rfl
theorem mL_rI (σ : Mem) (a : Nat) (f : Nat → Int32) : mL (rI σ a f) = mL σ := rfl
theorem mR_rI (σ : Mem) (a : Nat) (f : Nat → Int32) : mR (rI σ a f) = mR σ := rfl
theorem mI_sL (σ : Mem) (a k : Nat) (v : Int64) : mI (sL σ a k v) = mI σ := rfl
theorem mR_sL (σ : Mem) (a k : Nat) (v : Int64) : mR (sL σ a k v) = mR σ := rfl
theorem mI_sR (σ : Mem) (a k v : Nat) : mI (sR σ a k v) = mI σ := rfl
theorem mL_sR (σ : Mem) (a k v : Nat) : mL (sR σ a k v) = mL σ := rfl
theorem mR_sR (σ : Mem) (a k v b j : Nat) : mR (sR σ a k v) b j = if b = a ∧ j = k then v else mR σ b j := by
  show va_up σ.2.2 a (va_up (mR σ a) k v) b j = _
  by_cases hb : b = a
  · subst hb
    rw [va_up_self]
    by_cases hj : j = k
    · subst hj; rw [va_up_self, if_pos ⟨rfl, rfl⟩]
    · rw [va_up_ne _ _ hj, if_neg (fun q => hj q.2)]
  · rw [va_up_ne _ _ hb, if_neg (fun q => hb q.1)]; rfl
theorem mL_sL (σ : Mem) (a k : Nat) (v : Int64) (b j : Nat) : mL (sL σ a k v) b j = if b = a ∧ j = k then v else mL σ b j := by
  show va_up σ.2.1 a (vp_updL (mL σ a) k v) b j = _
  by_cases hb : b = a
  · subst hb
    rw [va_up_self]
    by_cases hj : j = k
    · subst hj; simp [vp_updL]
    · simp [vp_updL, hj]
  · rw [va_up_ne _ _ hb, if_neg (fun q => hb q.1)]; rfl
/-- the two memories are the same but in the cells S -/
def eqX (S : Nat → Prop) (σ σ' : Mem) : Prop := ∀ a, ¬ S a → mI σ' a = mI σ a ∧ mL σ' a = mL σ a ∧ mR σ' a = mR σ a
theorem eqX.refl (S : Nat → Prop) (σ : Mem) : eqX S σ σ := fun _ _ => ⟨rfl, rfl, rfl⟩
theorem eqX.trans {S : Nat → Prop} {σ σ1 σ2 : Mem} (h : eqX S σ σ1) (h2 : eqX S σ1 σ2) : eqX S σ σ2 := fun a ha => ⟨(h2 a ha).1.trans (h a ha).1, (h2 a ha).2.1.trans (h a ha).2.1, (h2 a ha).2.2.trans (h a ha).2.2⟩
theorem eqX.mono {S S' : Nat → Prop} {σ σ' : Mem} (h : eqX S σ σ') (hs : ∀ a, S a → S' a) : eqX S' σ σ' := fun a ha => h a fun q => ha (hs a q)
theorem eqX_sI {S : Nat → Prop} {σ : Mem} {a k : Nat} {v : Int32} (h : S a) : eqX S σ (sI σ a k v) := fun b hb => ⟨mI_sI_cell _ _ _ _ _ (fun q => hb (q ▸ h)), rfl, rfl⟩
theorem eqX_rI {S : Nat → Prop} {σ : Mem} {a : Nat} {f : Nat → Int32} (h : S a) : eqX S σ (rI σ a f) := fun b hb => ⟨mI_rI_ne (fun q => hb (q ▸ h)), rfl, rfl⟩
/-! indices -/
theorem inb_nI {k n : Nat} (h : k < n) (hn : n < 2 ^ 31) : inb (nI k) n = true := by
  simp only [inb, Bool.and_eq_true, Bool.not_eq_true', decide_eq_false_iff_not, decide_eq_true_eq]
  exact ⟨nI_pos (by omega), by rw [nI_clamp (by omega)]; exact h⟩
theorem loopF_inl {α β : Type} {step : α → Option (α ⊕ β)} {n : Nat} {a b : α} (h : step a = some (.inl b)) : loopF step (n + 1) a = loopF step n b := by rw [loopF_succ, h]
theorem loopF_inr {α β : Type} {step : α → Option (α ⊕ β)} {n : Nat} {a : α} {b : β} (h : step a = some (.inr b)) : loopF step (n + 1) a = some b := by rw [loopF_succ, h]
theorem FU_at (k : Nat) (h : k ≤ 20000) : ∃ m, FU = m + k := ⟨20000 - k, by unfold FU; omega⟩
/-- a counted loop: each of n steps carries the state a i to a (i + 1), the step behind them ends it -/
theorem loopF_count {α β : Type} {step : α → Option (α ⊕ β)} (a : Nat → α) (b : β) : ∀ (n i : Nat), (∀ j, i ≤ j → j < i + n → step (a j) = some (.inl (a (j + 1)))) → step (a (i + n)) = some (.inr b) → ∀ m, n < m → loopF step m (a i) = some b := by
  intro n
  induction n with
  | zero =>
    intro i _ he m hm
    obtain ⟨m, rfl⟩ : ∃ k, m = k + 1 := ⟨m - 1, by omega⟩
    exact loopF_inr he
  | succ n ih =>
    intro i hs he m hm
    obtain ⟨m, rfl⟩ : ∃ k, m = k + 1 := ⟨m - 1, by omega⟩
    rw [loopF_inl (hs i (Nat.le_refl _) (by omega))]
    exact ih (i + 1) (fun j h1 h2 => hs j (by omega) (by omega)) (by rw [show i + 1 + n = i + (n + 1) by omega]; exact he) m (by omega)
/-! what is due -/
/-- the sum over the first n bills of a row f (four numbers a bill) of those of buyer b -/
def dueS (f : Nat → Int32) (b : Int32) : Nat → Int32
  | 0 => 0
  | n + 1 => if f (4 * n) = b then dueS f b n + f (4 * n + 3) else dueS f b n
theorem nI_mul4 (k : Nat) : nI k * (4 : Int32) = nI (4 * k) := by rw [show (4 : Int32) = nI 4 from rfl, pk_mul, Nat.mul_comm]
theorem nI_addc (k : Nat) (c : Nat) : nI k + nI c = nI (k + c) := nI_add k c
theorem State_dueOf {σ : Mem} {o : Nat} {b : Int32} {n : Nat} (hc : mI σ o 9 = nI n) (hn : n ≤ 24) : f_State_dueOf σ o b = some (dueS (mI σ (o + 8)) b n) := by
  unfold f_State_dueOf
  refine loopF_count (fun i => (dueS (mI σ (o + 8)) b i, nI i)) _ n 0 (fun j _ hj => ?_) ?_ FU (by unfold FU; omega)
  · have h1 : ¬ nI n ≤ nI j := fun q => by have := (nI_leI (a := n) (b := j) (by omega) (by omega)).mp q; omega
    have e1 : nI j * (4 : Int32) = nI (4 * j) := nI_mul4 j
    have e2 : nI (4 * j) + (3 : Int32) = nI (4 * j + 3) := nI_addc _ 3
    have e3 : nI j + (1 : Int32) = nI (j + 1) := nI_1 j
    unfold f_State_dueOf_L4
    simp only [hc, h1, if_false, e1, e2, e3, inb_nI (show 4 * j < 96 by omega) (by decide), inb_nI (show 4 * j + 3 < 96 by omega) (by decide), if_true, nI_clamp (show 4 * j < 2 ^ 31 by omega), nI_clamp (show 4 * j + 3 < 2 ^ 31 by omega), dueS]
    by_cases hb : mI σ (o + 8) (4 * j) = b
    · simp only [hb, if_true]
    · simp only [hb, if_false]
  · unfold f_State_dueOf_L4
    simp only [hc, Nat.zero_add]
    exact if_pos (nI_le (Nat.le_refl _) (by omega))
/-- the sum over the first n bills of a row f -/
def dueA (f : Nat → Int32) : Nat → Int32
  | 0 => 0
  | n + 1 => dueA f n + f (4 * n + 3)
theorem State_dueOfAll {σ : Mem} {o : Nat} {n : Nat} (hc : mI σ o 9 = nI n) (hn : n ≤ 24) : f_State_dueOfAll σ o = some (dueA (mI σ (o + 8)) n) := by
  unfold f_State_dueOfAll
  refine loopF_count (fun i => (dueA (mI σ (o + 8)) i, nI i)) _ n 0 (fun j _ hj => ?_) ?_ FU (by unfold FU; omega)
  · have h1 : ¬ nI n ≤ nI j := fun q => by have := (nI_leI (a := n) (b := j) (by omega) (by omega)).mp q; omega
    have e1 : nI j * (4 : Int32) = nI (4 * j) := nI_mul4 j
    have e2 : nI (4 * j) + (3 : Int32) = nI (4 * j + 3) := nI_addc _ 3
    have e3 : nI j + (1 : Int32) = nI (j + 1) := nI_1 j
    unfold f_State_dueOfAll_L4
    simp only [hc, h1, if_false, e1, e2, e3, inb_nI (show 4 * j + 3 < 96 by omega) (by decide), if_true, nI_clamp (show 4 * j + 3 < 2 ^ 31 by omega), dueA]
  · unfold f_State_dueOfAll_L4
    simp only [hc, Nat.zero_add]
    exact if_pos (nI_le (Nat.le_refl _) (by omega))
