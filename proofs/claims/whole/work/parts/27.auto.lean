/-! numbers: what simp may use with omega -/
theorem z_in {k n : Nat} (h : k < n) (hn : n < 2 ^ 31) : inb (nI k) n = true := inb_nI h hn
theorem z_cl {k : Nat} (h : k < 2 ^ 31) : (nI k).toNatClampNeg = k := nI_clamp h
theorem c_le_t {a b : Nat} (h : a ≤ b) (hb : b < 2 ^ 31) : (nI a ≤ nI b) = True := eq_true (nI_le h hb)
theorem c_le_f {a b : Nat} (h : b < a) (ha : a < 2 ^ 31) : (nI a ≤ nI b) = False := eq_false (nI_ge h ha)
theorem c_lt_t {a b : Nat} (h : a < b) (hb : b < 2 ^ 31) : (nI a < nI b) = True := eq_true (nI_lt h hb)
theorem c_lt_f {a b : Nat} (h : b ≤ a) (ha : a < 2 ^ 31) : (nI a < nI b) = False := eq_false (nI_nlt h ha)
theorem c_eq_t {a b : Nat} (h : a = b) : (nI a = nI b) = True := eq_true (by rw [h])
theorem c_eq_f {a b : Nat} (h : a ≠ b) (ha : a < 2 ^ 31) (hb : b < 2 ^ 31) : (nI a = nI b) = False := eq_false fun q => h ((nI_eq ha hb).mp q)
theorem c_le0_t {a : Nat} (h : a = 0) : (nI a ≤ (0 : Int32)) = True := eq_true (by subst h; decide)
theorem c_le0_f {a : Nat} (h : 0 < a) (ha : a < 2 ^ 31) : (nI a ≤ (0 : Int32)) = False := eq_false (nI_nle h ha)
theorem c_0le {a : Nat} (ha : a < 2 ^ 31) : ((0 : Int32) ≤ nI a) = True := eq_true (nI_pos' ha)
theorem c_lt0 {a : Nat} (ha : a < 2 ^ 31) : (nI a < (0 : Int32)) = False := eq_false (nI_pos ha)
theorem c_0lt {a : Nat} (h : 0 < a) (ha : a < 2 ^ 31) : ((0 : Int32) < nI a) = True := eq_true (nI_lt (a := 0) h ha)
theorem c_eq0_f {a : Nat} (h : 0 < a) (ha : a < 2 ^ 31) : (nI a = (0 : Int32)) = False := eq_false (nI_ne0 h ha)
theorem c_eq1_f {a : Nat} (h : a ≠ 1) (ha : a < 2 ^ 31) : (nI a = (1 : Int32)) = False := eq_false fun q => h ((nI_eq (b := 1) ha (by decide)).mp q)
theorem c_eq0_t {a : Nat} (h : a = 0) : (nI a = (0 : Int32)) = True := eq_true (by rw [h]; rfl)
theorem c_eq1_t {a : Nat} (h : a = 1) : (nI a = (1 : Int32)) = True := eq_true (by rw [h]; rfl)
theorem c_1le {a : Nat} (h : 1 ≤ a) (ha : a < 2 ^ 31) : ((1 : Int32) ≤ nI a) = True := eq_true (nI_le (a := 1) h ha)
theorem c_lt1 {a : Nat} (h : 1 ≤ a) (ha : a < 2 ^ 31) : (nI a < (1 : Int32)) = False := eq_false (nI_nlt (b := 1) h ha)
theorem nI_ne_m1 {a : Nat} (ha : a < 2 ^ 31) : nI a ≠ (-1 : Int32) := fun q => by
  have h := nI_pos' ha
  rw [q] at h
  exact absurd h (by decide)
theorem c_m1 {a : Nat} (ha : a < 2 ^ 31) : (nI a = (-1 : Int32)) = False := eq_false (nI_ne_m1 ha)
theorem z_sub {a b : Nat} (h : b ≤ a) : nI a - nI b = nI (a - b) := pk_sub h
theorem z_sub1 {a : Nat} (h : 1 ≤ a) : nI a - (1 : Int32) = nI (a - 1) := pk_sub (b := 1) h
theorem l_2 : (2 : Int32) = nI 2 := rfl
theorem l_3 : (3 : Int32) = nI 3 := rfl
theorem l_4 : (4 : Int32) = nI 4 := rfl
theorem l_5 : (5 : Int32) = nI 5 := rfl
theorem l_6 : (6 : Int32) = nI 6 := rfl
theorem l_7 : (7 : Int32) = nI 7 := rfl
theorem l_8 : (8 : Int32) = nI 8 := rfl
theorem l_9 : (9 : Int32) = nI 9 := rfl
theorem l_10 : (10 : Int32) = nI 10 := rfl
theorem l_11 : (11 : Int32) = nI 11 := rfl
theorem l_12 : (12 : Int32) = nI 12 := rfl
theorem l_13 : (13 : Int32) = nI 13 := rfl
theorem l_15 : (15 : Int32) = nI 15 := rfl
theorem l_16 : (16 : Int32) = nI 16 := rfl
theorem l_20 : (20 : Int32) = nI 20 := rfl
theorem l_23 : (23 : Int32) = nI 23 := rfl
theorem l_24 : (24 : Int32) = nI 24 := rfl
theorem l_30 : (30 : Int32) = nI 30 := rfl
theorem l_32 : (32 : Int32) = nI 32 := rfl
theorem l_40 : (40 : Int32) = nI 40 := rfl
theorem l_41 : (41 : Int32) = nI 41 := rfl
theorem l_48 : (48 : Int32) = nI 48 := rfl
theorem l_50 : (50 : Int32) = nI 50 := rfl
theorem l_57 : (57 : Int32) = nI 57 := rfl
theorem l_59 : (59 : Int32) = nI 59 := rfl
theorem l_60 : (60 : Int32) = nI 60 := rfl
theorem l_61 : (61 : Int32) = nI 61 := rfl
theorem l_99 : (99 : Int32) = nI 99 := rfl
theorem l_100 : (100 : Int32) = nI 100 := rfl
theorem l_104 : (104 : Int32) = nI 104 := rfl
theorem l_109 : (109 : Int32) = nI 109 := rfl
theorem l_112 : (112 : Int32) = nI 112 := rfl
theorem l_115 : (115 : Int32) = nI 115 := rfl
theorem l_116 : (116 : Int32) = nI 116 := rfl
theorem l_119 : (119 : Int32) = nI 119 := rfl
theorem l_126 : (126 : Int32) = nI 126 := rfl
theorem l_127 : (127 : Int32) = nI 127 := rfl
theorem l_128 : (128 : Int32) = nI 128 := rfl
theorem l_129 : (129 : Int32) = nI 129 := rfl
theorem l_130 : (130 : Int32) = nI 130 := rfl
theorem l_131 : (131 : Int32) = nI 131 := rfl
theorem l_132 : (132 : Int32) = nI 132 := rfl
theorem l_177 : (177 : Int32) = nI 177 := rfl
theorem l_192 : (192 : Int32) = nI 192 := rfl
theorem l_240 : (240 : Int32) = nI 240 := rfl
theorem l_312 : (312 : Int32) = nI 312 := rfl
theorem l_999 : (999 : Int32) = nI 999 := rfl
theorem l_1000 : (1000 : Int32) = nI 1000 := rfl
theorem l_9999 : (9999 : Int32) = nI 9999 := rfl
theorem upd_at (f : Nat → Int32) (k : Nat) (x : Int32) (j : Nat) : upd f k x j = if j = k then x else f j := rfl
theorem upd_self (f : Nat → Int32) (k : Nat) (x : Int32) : upd f k x k = x := by simp [upd]
theorem upd_ne {f : Nat → Int32} {k j : Nat} {x : Int32} (h : j ≠ k) : upd f k x j = f j := by simp [upd, h]
theorem row_sI (σ : Mem) (a k : Nat) (v : Int32) : mI (sI σ a k v) a = upd (mI σ a) k v := by rw [sI, mI_rI_self]
theorem row_ne {σ : Mem} {a k : Nat} {v : Int32} {b : Nat} (h : b ≠ a) : mI (sI σ a k v) b = mI σ b := mI_sI_cell _ _ _ _ _ h
theorem rowr_self (σ : Mem) (a : Nat) (f : Nat → Int32) : mI (rI σ a f) a = f := mI_rI_self
theorem rowr_ne {σ : Mem} {a : Nat} {f : Nat → Int32} {b : Nat} (h : b ≠ a) : mI (rI σ a f) b = mI σ b := mI_rI_ne h
/-- a loop of at most N steps more: what holds at each of its beginnings, what at its end -/
theorem loopF_inv {α β : Type} {step : α → Option (α ⊕ β)} (I : Nat → α → Prop) (P : β → Prop) (N : Nat) (hs : ∀ i a, i ≤ N → I i a → (i < N ∧ ∃ b, step a = some (.inl b) ∧ I (i + 1) b) ∨ ∃ b, step a = some (.inr b) ∧ P b) : ∀ (n i : Nat) (a : α), N - i = n → i ≤ N → I i a → ∀ m, n < m → ∃ b, loopF step m a = some b ∧ P b := by
  intro n
  induction n with
  | zero =>
    intro i a hn hi h m hm
    obtain ⟨m, rfl⟩ : ∃ k, m = k + 1 := ⟨m - 1, by omega⟩
    rcases hs i a hi h with ⟨h1, -⟩ | ⟨b, h1, h2⟩
    · omega
    · exact ⟨b, loopF_inr h1, h2⟩
  | succ n ih =>
    intro i a hn hi h m hm
    obtain ⟨m, rfl⟩ : ∃ k, m = k + 1 := ⟨m - 1, by omega⟩
    rcases hs i a hi h with ⟨h1, b, h2, h3⟩ | ⟨b, h1, h2⟩
    · rw [loopF_inl h2]
      exact ih (i + 1) b (by omega) (by omega) h3 m (by omega)
    · exact ⟨b, loopF_inr h1, h2⟩
theorem loopF_fu {α β : Type} {step : α → Option (α ⊕ β)} (I : Nat → α → Prop) (P : β → Prop) (N : Nat) {a : α} (h0 : I 0 a) (hN : N < 20000) (hs : ∀ i a, i ≤ N → I i a → (i < N ∧ ∃ b, step a = some (.inl b) ∧ I (i + 1) b) ∨ ∃ b, step a = some (.inr b) ∧ P b) : ∃ b, loopF step FU a = some b ∧ P b :=
  loopF_inv I P N hs N 0 a (by omega) (by omega) h0 FU (by unfold FU; omega)
/-! the first of a row -/
theorem firstR_cases {β : Type} (P : Nat → Bool) (r : Nat → β) (r0 : β) : ∀ (n i : Nat), (∃ j, i ≤ j ∧ j < i + n ∧ P j = true ∧ (∀ k, i ≤ k → k < j → P k = false) ∧ firstR P r r0 n i = r j) ∨ ((∀ j, i ≤ j → j < i + n → P j = false) ∧ firstR P r r0 n i = r0) := by
  intro n
  induction n with
  | zero => intro i; exact Or.inr ⟨fun j h1 h2 => by omega, rfl⟩
  | succ n ih =>
    intro i
    cases hP : P i with
    | true => exact Or.inl ⟨i, Nat.le_refl _, by omega, hP, fun k h1 h2 => by omega, by simp [firstR, hP]⟩
    | false =>
      have e : firstR P r r0 (n + 1) i = firstR P r r0 n (i + 1) := by simp [firstR, hP]
      rcases ih (i + 1) with ⟨j, h1, h2, h3, h4, h5⟩ | ⟨h1, h2⟩
      · refine Or.inl ⟨j, by omega, by omega, h3, fun k k1 k2 => ?_, e.trans h5⟩
        by_cases hk : k = i
        · subst hk; exact hP
        · exact h4 k (by omega) k2
      · refine Or.inr ⟨fun j j1 j2 => ?_, e.trans h2⟩
        by_cases hk : j = i
        · subst hk; exact hP
        · exact h1 j (by omega) (by omega)
theorem holdS_cases (w : Nat → Int32) (T : Nat) (b : Int32) : (∃ t, t < T ∧ w t = b ∧ w (8 + t) = 0 ∧ holdS w T b = nI t) ∨ ((∀ t, t < T → ¬ (w t = b ∧ w (8 + t) = 0)) ∧ holdS w T b = -1) := by
  rcases firstR_cases (fun t => decide (w t = b ∧ w (8 + t) = 0)) (fun t => nI t) (-1) T 0 with ⟨j, -, h2, h3, -, h5⟩ | ⟨h1, h2⟩
  · have h3 := of_decide_eq_true h3
    exact Or.inl ⟨j, by omega, h3.1, h3.2, h5⟩
  · exact Or.inr ⟨fun t ht => of_decide_eq_false (h1 t (Nat.zero_le _) (by omega)), h2⟩
