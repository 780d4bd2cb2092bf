/-! texts: a row of signs, and those who read it -/
abbrev Tx : Type := Nat → Nat
def sg (X : Tx) (L i : Nat) : Nat := if i < L then X i else 0
def skF (X : Tx) (L : Nat) : Nat → Nat → Nat
  | 0, i => i
  | n + 1, i => if i < L ∧ X i = 32 then skF X L n (i + 1) else i
/-- behind all blanks -/
def sk (X : Tx) (L i : Nat) : Nat := skF X L (L - i) i
def okX (X : Tx) (L : Nat) : Prop := L ≤ 240 ∧ ∀ j, j < L → 1 ≤ X j ∧ X j < 256
theorem skF_ge (X : Tx) (L : Nat) : ∀ n i, i ≤ skF X L n i := by
  intro n
  induction n with
  | zero => intro i; exact Nat.le_refl _
  | succ n ih =>
    intro i
    unfold skF
    split
    · exact Nat.le_trans (by omega) (ih (i + 1))
    · exact Nat.le_refl _
theorem skF_le (X : Tx) (L : Nat) : ∀ n i, i ≤ L → skF X L n i ≤ L := by
  intro n
  induction n with
  | zero => intro i h; exact h
  | succ n ih =>
    intro i h
    unfold skF
    split
    · rename_i q; exact ih (i + 1) (by omega)
    · exact h
theorem skF_end (X : Tx) (L : Nat) : ∀ n i, L - i ≤ n → ¬ (skF X L n i < L ∧ X (skF X L n i) = 32) := by
  intro n
  induction n with
  | zero => intro i h q; have : i < L := q.1; omega
  | succ n ih =>
    intro i h
    unfold skF
    split
    · exact ih (i + 1) (by omega)
    · assumption
theorem sk_ge (X : Tx) (L i : Nat) : i ≤ sk X L i := skF_ge X L _ i
theorem sk_le {X : Tx} {L i : Nat} (h : i ≤ L) : sk X L i ≤ L := skF_le X L _ i h
theorem sk_end (X : Tx) (L i : Nat) : ¬ (sk X L i < L ∧ X (sk X L i) = 32) := skF_end X L _ i (Nat.le_refl _)
theorem sk_at {X : Tx} {L i : Nat} (h : ¬ (i < L ∧ X i = 32)) : sk X L i = i := by
  unfold sk
  cases L - i with
  | zero => rfl
  | succ n => exact if_neg h
theorem sk_sk (X : Tx) (L i : Nat) : sk X L (sk X L i) = sk X L i := sk_at (sk_end X L i)
theorem sg_lt {X : Tx} {L i : Nat} (h : sg X L i ≠ 0) : i < L := by
  unfold sg at h
  by_cases q : i < L
  · exact q
  · rw [if_neg q] at h; exact absurd rfl h
theorem sg_256 {X : Tx} {L i : Nat} (hx : okX X L) : sg X L i < 256 := by
  unfold sg
  split
  · rename_i q; exact (hx.2 i q).2
  · omega
theorem sg_0 {X : Tx} {L i : Nat} (hx : okX X L) : sg X L i = 0 ↔ ¬ i < L := by
  unfold sg
  by_cases q : i < L
  · rw [if_pos q]
    have := (hx.2 i q).1
    constructor
    · intro h; omega
    · intro h; exact absurd q h
  · rw [if_neg q]; exact ⟨fun _ => q, fun _ => rfl⟩
def dg (X : Tx) (L i : Nat) : Bool := decide (i < L) && (decide (48 ≤ X i) && decide (X i ≤ 57))
theorem dg_t {X : Tx} {L i : Nat} (h : dg X L i = true) : i < L ∧ 48 ≤ X i ∧ X i ≤ 57 := by
  unfold dg at h
  rw [Bool.and_eq_true, Bool.and_eq_true] at h
  exact ⟨of_decide_eq_true h.1, of_decide_eq_true h.2.1, of_decide_eq_true h.2.2⟩
theorem dg_of {X : Tx} {L i : Nat} (h : i < L ∧ 48 ≤ X i ∧ X i ≤ 57) : dg X L i = true := by
  unfold dg
  rw [decide_eq_true h.1, decide_eq_true h.2.1, decide_eq_true h.2.2]
  rfl
theorem dg_no {X : Tx} {L i : Nat} (h : ¬ (i < L ∧ 48 ≤ X i ∧ X i ≤ 57)) : dg X L i = false := by
  cases q : dg X L i with
  | false => rfl
  | true => exact absurd (dg_t q) h
/-! the class's tape -/
def CAt (X : Tx) (L i : Nat) (σ : Mem) : Prop := mI σ 1 1 = nI L ∧ mI σ 1 2 = nI i ∧ ∀ j, j < L → mI σ 2 j = nI (X j)
def AX (σ σ' : Mem) : Prop := (∀ a, a ≠ 1 → mI σ' a = mI σ a) ∧ (∀ k, k ≠ 2 → k ≠ 3 → mI σ' 1 k = mI σ 1 k) ∧ mL σ' = mL σ ∧ mR σ' = mR σ
theorem AX.refl (σ : Mem) : AX σ σ := ⟨fun _ _ => rfl, fun _ _ _ => rfl, rfl, rfl⟩
theorem AX.trans {σ σ1 σ2 : Mem} (h : AX σ σ1) (g : AX σ1 σ2) : AX σ σ2 := ⟨fun a ha => (g.1 a ha).trans (h.1 a ha), fun k h1 h2 => (g.2.1 k h1 h2).trans (h.2.1 k h1 h2), g.2.2.1.trans h.2.2.1, g.2.2.2.trans h.2.2.2⟩
theorem AX_sI {σ : Mem} {k : Nat} {v : Int32} (h : k = 2 ∨ k = 3) : AX σ (sI σ 1 k v) := ⟨fun a ha => row_ne ha, fun j h1 h2 => by rw [row_sI, upd_ne (by omega)], rfl, rfl⟩
theorem CAt.to {X : Tx} {L i j : Nat} {σ : Mem} (h : CAt X L i σ) : CAt X L j (sI σ 1 2 (nI j)) := ⟨by rw [row_sI, upd_ne (by omega)]; exact h.1, by rw [row_sI, upd_self], fun k hk => by rw [row_ne (by omega)]; exact h.2.2 k hk⟩
theorem CAt.vl {X : Tx} {L i : Nat} {σ : Mem} {v : Int32} (h : CAt X L i σ) : CAt X L i (sI σ 1 3 v) := ⟨by rw [row_sI, upd_ne (by omega)]; exact h.1, by rw [row_sI, upd_ne (by omega)]; exact h.2.1, fun k hk => by rw [row_ne (by omega)]; exact h.2.2 k hk⟩
theorem CAt.fr {X : Tx} {L i : Nat} {σ σ' : Mem} (h : CAt X L i σ) (g1 : mI σ' 1 = mI σ 1) (g2 : mI σ' 2 = mI σ 2) : CAt X L i σ' := by unfold CAt; rw [g1, g2]; exact h
theorem sign_go {X : Tx} {L : Nat} (hx : okX X L) : ∀ n i σ, L - i = n → i ≤ L → CAt X L i σ → ∀ m, n < m → ∃ σ', loopF f_Tape_sign_L0 m σ = some σ' ∧ CAt X L (skF X L n i) σ' ∧ AX σ σ' := by
  have h240 := hx.1
  intro n
  induction n with
  | zero =>
    intro i σ hn hi h m hm
    obtain ⟨m, rfl⟩ : ∃ k, m = k + 1 := ⟨m - 1, by omega⟩
    refine ⟨σ, loopF_inr ?_, h, AX.refl _⟩
    unfold f_Tape_sign_L0
    rw [h.1, h.2.1, if_pos (nI_le (by omega) (by omega))]
  | succ n ih =>
    intro i σ hn hi h m hm
    obtain ⟨m, rfl⟩ : ∃ k, m = k + 1 := ⟨m - 1, by omega⟩
    have h256 := (hx.2 i (by omega)).2
    have st : f_Tape_sign_L0 σ = if X i = 32 then some (.inl (sI σ 1 2 (nI (i + 1)))) else some (.inr σ) := by
      unfold f_Tape_sign_L0
      rw [h.1, h.2.1, if_neg (nI_ge (by omega) (by omega)), if_pos (inb_nI (show i < 240 by omega) (by decide)), nI_clamp (by omega), h.2.2 i (by omega), nI_1]
      by_cases q : X i = 32
      · rw [if_pos (show nI (X i) = (32 : Int32) by rw [q]; rfl), if_pos q]
      · rw [if_neg (show ¬ nI (X i) = (32 : Int32) from fun p => q ((nI_eq (b := 32) (by omega) (by decide)).mp p)), if_neg q]
    unfold skF
    by_cases q : X i = 32
    · rw [if_pos q] at st
      rw [if_pos ⟨by omega, q⟩, loopF_inl st]
      obtain ⟨σ', g1, g2, g3⟩ := ih (i + 1) _ (by omega) (by omega) (h.to (j := i + 1)) m (by omega)
      exact ⟨σ', g1, g2, (AX_sI (Or.inl rfl)).trans g3⟩
    · rw [if_neg q] at st
      rw [if_neg (fun p => q p.2)]
      exact ⟨σ, loopF_inr st, h, AX.refl _⟩
theorem Tape_sign {X : Tx} {L i : Nat} {σ : Mem} (hx : okX X L) (h : CAt X L i σ) (hi : i ≤ L) : ∃ σ', f_Tape_sign σ = some (nI (sg X L (sk X L i)), σ') ∧ CAt X L (sk X L i) σ' ∧ AX σ σ' := by
  have h240 := hx.1
  obtain ⟨σ', g1, g2, g3⟩ := sign_go hx (L - i) i σ rfl hi h FU (by unfold FU; omega)
  have g2 : CAt X L (sk X L i) σ' := g2
  have kle := sk_le (X := X) hi
  refine ⟨σ', ?_, g2, g3⟩
  unfold f_Tape_sign f_Tape_sign_J38
  rw [g1, Option.bind_some, g2.1, g2.2.1]
  unfold sg
  by_cases q : sk X L i < L
  · rw [if_neg (nI_ge q (by omega)), if_pos (inb_nI (show sk X L i < 240 by omega) (by decide)), nI_clamp (by omega), g2.2.2 _ q, if_pos q]
  · rw [if_pos (nI_le (by omega) (by omega)), if_neg q]
    rfl
theorem Tape_passes {X : Tx} {L i c : Nat} {σ : Mem} (hx : okX X L) (h : CAt X L i σ) (hi : i ≤ L) (hc : c < 256) : ∃ σ', f_Tape_passes σ (nI c) = some (if sg X L (sk X L i) = c then 1 else 0, σ') ∧ CAt X L (if sg X L (sk X L i) = c then sk X L i + 1 else sk X L i) σ' ∧ AX σ σ' := by
  obtain ⟨σ1, g1, g2, g3⟩ := Tape_sign hx h hi
  unfold f_Tape_passes
  rw [g1, Option.bind_some]
  dsimp only
  have h2 := sg_256 (i := sk X L i) hx
  by_cases q : sg X L (sk X L i) = c
  · rw [if_pos (by rw [q]), if_pos q, if_pos q, g2.2.1, nI_1]
    exact ⟨_, rfl, g2.to, g3.trans (AX_sI (Or.inl rfl))⟩
  · rw [if_neg (fun p => q ((nI_eq (by omega) (by omega)).mp p)), if_neg q, if_neg q]
    exact ⟨σ1, rfl, g2, g3⟩
theorem Tape_atDigit {X : Tx} {L i : Nat} {σ : Mem} (hx : okX X L) (h : CAt X L i σ) (hi : i ≤ L) : f_Tape_atDigit σ = some (b01 (dg X L i)) := by
  have h240 := hx.1
  unfold f_Tape_atDigit
  rw [h.1, h.2.1]
  by_cases q : i < L
  · have h256 := (hx.2 i q).2
    rw [if_neg (nI_ge q (by omega)), if_pos (inb_nI (show i < 240 by omega) (by decide)), nI_clamp (by omega), h.2.2 i q]
    by_cases q1 : X i < 48
    · rw [if_pos (show nI (X i) < (48 : Int32) from nI_lt (b := 48) q1 (by omega)), dg_no (by omega)]; rfl
    · rw [if_neg (show ¬ nI (X i) < (48 : Int32) from nI_nlt (b := 48) (by omega) (by omega))]
      by_cases q2 : 57 < X i
      · rw [if_pos (show (57 : Int32) < nI (X i) from nI_lt (a := 57) q2 (by omega)), dg_no (by omega)]; rfl
      · rw [if_neg (show ¬ (57 : Int32) < nI (X i) from nI_nlt (a := 57) (by omega) (by omega)), dg_of (by omega)]; rfl
  · rw [if_pos (nI_le (by omega) (by omega)), dg_no (by omega)]; rfl
theorem Tape_passesDigit {X : Tx} {L i : Nat} {σ : Mem} (hx : okX X L) (h : CAt X L i σ) (hi : i ≤ L) : ∃ σ', f_Tape_passesDigit σ = some (b01 (dg X L (sk X L i)), σ') ∧ CAt X L (if dg X L (sk X L i) = true then sk X L i + 1 else sk X L i) σ' ∧ AX σ σ' ∧ (dg X L (sk X L i) = true → mI σ' 1 3 = nI (X (sk X L i) - 48)) := by
  have h240 := hx.1
  obtain ⟨σ1, g1, g2, g3⟩ := Tape_sign hx h hi
  have kle := sk_le (X := X) hi
  unfold f_Tape_passesDigit
  rw [g1, Option.bind_some]
  dsimp only
  rw [Tape_atDigit hx g2 kle, Option.bind_some]
  cases q : dg X L (sk X L i) with
  | false =>
    rw [if_pos (show b01 false = 0 from rfl), if_neg (by decide)]
    exact ⟨σ1, rfl, g2, g3, fun p => absurd p (by decide)⟩
  | true =>
    obtain ⟨d1, d2, d3⟩ := dg_t q
    rw [if_neg (show ¬ b01 true = 0 by decide), if_pos rfl, g2.2.1, if_pos (inb_nI (show sk X L i < 240 by omega) (by decide)), nI_clamp (by omega), g2.2.2 _ d1, show (48 : Int32) = nI 48 from rfl, pk_sub d2, row_sI, upd_ne (by omega), g2.2.1, nI_1]
    refine ⟨_, rfl, (g2.vl (v := nI (X (sk X L i) - 48))).to, (g3.trans (AX_sI (Or.inr rfl))).trans (AX_sI (Or.inl rfl)), fun _ => ?_⟩
    rw [row_sI, upd_ne (by omega), row_sI, upd_self]
/-- digits, n at most -/
def ngF (X : Tx) (L : Nat) : Nat → Nat → Nat → Nat × Nat
  | 0, v, i => (v, i)
  | n + 1, v, i => if dg X L i = true then ngF X L n (v * 10 + (X i - 48)) (i + 1) else (v, i)
theorem ngF_le (X : Tx) (L : Nat) : ∀ n v i, i ≤ L → (ngF X L n v i).2 ≤ L ∧ i ≤ (ngF X L n v i).2 := by
  intro n
  induction n with
  | zero => intro v i h; exact ⟨h, Nat.le_refl _⟩
  | succ n ih =>
    intro v i h
    unfold ngF
    split
    · rename_i q
      have := dg_t q
      have := ih (v * 10 + (X i - 48)) (i + 1) (by omega)
      omega
    · exact ⟨h, Nat.le_refl _⟩
theorem ngF_v (X : Tx) (L : Nat) : ∀ n v i, (ngF X L n v i).1 < (v + 1) * 10 ^ n := by
  intro n
  induction n with
  | zero => intro v i; show v < (v + 1) * 1; omega
  | succ n ih =>
    intro v i
    have p : 1 ≤ 10 ^ n := Nat.one_le_pow _ _ (by decide)
    unfold ngF
    split
    · rename_i q
      have d := dg_t q
      have h := ih (v * 10 + (X i - 48)) (i + 1)
      refine Nat.lt_of_lt_of_le h ?_
      rw [Nat.pow_succ, Nat.mul_comm (10 ^ n) 10, ← Nat.mul_assoc]
      exact Nat.mul_le_mul_right _ (by omega)
    · have : v + 1 ≤ (v + 1) * 10 ^ (n + 1) := Nat.le_mul_of_pos_right _ (Nat.pow_pos (by decide))
      show v < _
      omega
theorem digits_go {X : Tx} {L : Nat} (hx : okX X L) (N : Nat) (hN : N < 10) : ∀ n z v i σ, z + n = N → i ≤ L → CAt X L i σ → mI σ 1 3 = nI v → ∀ m, n < m → ∃ σ', loopF (f_Tape_passesNumber_L21 (nI N)) m (σ, nI z) = some σ' ∧ CAt X L (ngF X L n v i).2 σ' ∧ mI σ' 1 3 = nI (ngF X L n v i).1 ∧ AX σ σ' := by
  have h240 := hx.1
  intro n
  induction n with
  | zero =>
    intro z v i σ hz hi h hv m hm
    obtain ⟨m, rfl⟩ : ∃ k, m = k + 1 := ⟨m - 1, by omega⟩
    refine ⟨σ, loopF_inr ?_, h, hv, AX.refl _⟩
    unfold f_Tape_passesNumber_L21
    dsimp only
    rw [if_pos (nI_le (by omega) (by omega))]
  | succ n ih =>
    intro z v i σ hz hi h hv m hm
    obtain ⟨m, rfl⟩ : ∃ k, m = k + 1 := ⟨m - 1, by omega⟩
    unfold ngF
    cases q : dg X L i with
    | false =>
      rw [if_neg (by decide)]
      refine ⟨σ, loopF_inr ?_, h, hv, AX.refl _⟩
      unfold f_Tape_passesNumber_L21
      dsimp only
      rw [if_neg (nI_ge (by omega) (by omega)), Tape_atDigit hx h hi, q, Option.bind_some, if_pos (show b01 false = 0 from rfl)]
    | true =>
      obtain ⟨d1, d2, d3⟩ := dg_t q
      rw [if_pos rfl]
      have st : f_Tape_passesNumber_L21 (nI N) (σ, nI z) = some (.inl (sI (sI σ 1 3 (nI (v * 10 + (X i - 48)))) 1 2 (nI (i + 1)), nI (z + 1))) := by
        unfold f_Tape_passesNumber_L21
        dsimp only
        rw [if_neg (nI_ge (by omega) (by omega)), Tape_atDigit hx h hi, q, Option.bind_some, if_neg (show ¬ b01 true = 0 by decide), h.2.1, if_pos (inb_nI (show i < 240 by omega) (by decide)), nI_clamp (by omega), hv, h.2.2 i d1, show (10 : Int32) = nI 10 from rfl, show (48 : Int32) = nI 48 from rfl, pk_mul, nI_add, pk_sub (by omega), row_sI, upd_ne (by omega), h.2.1, nI_1, nI_1, show v * 10 + X i - 48 = v * 10 + (X i - 48) by omega]
      obtain ⟨σ', g1, g2, g3, g4⟩ := ih (z + 1) (v * 10 + (X i - 48)) (i + 1) _ (by omega) (by omega) ((h.vl (v := nI (v * 10 + (X i - 48)))).to (j := i + 1)) (by rw [row_sI, upd_ne (by omega), row_sI, upd_self]) m (by omega)
      exact ⟨σ', (loopF_inl st).trans g1, g2, g3, ((AX_sI (Or.inr rfl)).trans (AX_sI (Or.inl rfl))).trans g4⟩
/-- a number of up to n digits: how far, and what -/
def nbP (X : Tx) (L n i : Nat) : Nat × Option Nat := if dg X L (sk X L i) = true then (if dg X L (ngF X L n 0 (sk X L i)).2 = true then ((ngF X L n 0 (sk X L i)).2, none) else ((ngF X L n 0 (sk X L i)).2, some (ngF X L n 0 (sk X L i)).1)) else (sk X L i, none)
def is1 {α : Type} (o : Option α) : Int32 := match o with | none => 0 | some _ => 1
theorem Tape_passesNumber {X : Tx} {L i n : Nat} {σ : Mem} (hx : okX X L) (hn : n < 10) (h : CAt X L i σ) (hi : i ≤ L) : ∃ σ', f_Tape_passesNumber σ (nI n) = some (is1 (nbP X L n i).2, σ') ∧ CAt X L (nbP X L n i).1 σ' ∧ AX σ σ' ∧ ∀ v, (nbP X L n i).2 = some v → mI σ' 1 3 = nI v := by
  have h240 := hx.1
  obtain ⟨σ1, g1, g2, g3⟩ := Tape_sign hx h hi
  have kle := sk_le (X := X) hi
  unfold f_Tape_passesNumber nbP
  rw [g1, Option.bind_some]
  dsimp only
  rw [Tape_atDigit hx g2 kle, Option.bind_some]
  cases q : dg X L (sk X L i) with
  | false =>
    rw [if_pos (show b01 false = 0 from rfl), if_neg (by decide)]
    exact ⟨σ1, rfl, g2, g3, fun v p => by cases p⟩
  | true =>
    rw [if_neg (show ¬ b01 true = 0 by decide), if_pos rfl]
    obtain ⟨σ2, k1, k2, k3, k4⟩ := digits_go hx n hn n 0 0 (sk X L i) (sI σ1 1 3 0) (by omega) kle g2.vl (by rw [row_sI, upd_self]; rfl) FU (by unfold FU; omega)
    rw [show loopF (f_Tape_passesNumber_L21 (nI n)) FU (sI σ1 1 3 (0 : Int32), (0 : Int32)) = some σ2 from k1, Option.bind_some]
    unfold f_Tape_passesNumber_J73
    rw [Tape_atDigit hx k2 (ngF_le X L n 0 _ kle).1, Option.bind_some]
    have ax := (g3.trans (AX_sI (Or.inr rfl))).trans k4
    cases q2 : dg X L (ngF X L n 0 (sk X L i)).2 with
    | true =>
      rw [if_neg (show ¬ b01 true = 0 by decide), if_pos rfl]
      exact ⟨σ2, rfl, k2, ax, fun v p => by cases p⟩
    | false =>
      rw [if_pos (show b01 false = 0 from rfl), if_neg (by decide)]
      exact ⟨σ2, rfl, k2, ax, fun v p => by cases p; exact k3⟩
/-- a number within bounds -/
def nmP (X : Tx) (L lo hi i : Nat) : Nat × Option Nat := match (nbP X L 2 i).2 with
  | none => ((nbP X L 2 i).1, none)
  | some v => if lo ≤ v ∧ v ≤ hi then ((nbP X L 2 i).1, some v) else ((nbP X L 2 i).1 - 1, none)
theorem nbP_v {X : Tx} {L n i v : Nat} (h : (nbP X L n i).2 = some v) : v < 10 ^ n := by
  unfold nbP at h
  split at h
  · split at h
    · cases h
    · cases h
      have := ngF_v X L n 0 (sk X L i)
      rw [Nat.zero_add, Nat.one_mul] at this
      exact this
  · cases h
theorem ngF_gt {X : Tx} {L n v i : Nat} (hn : 0 < n) (h : dg X L i = true) (hi : i ≤ L) : i < (ngF X L n v i).2 := by
  obtain ⟨n, rfl⟩ : ∃ k, n = k + 1 := ⟨n - 1, by omega⟩
  unfold ngF
  rw [if_pos h]
  have := dg_t h
  have := ngF_le X L n (v * 10 + (X i - 48)) (i + 1) (by omega)
  omega
theorem nbP_le {X : Tx} {L n i : Nat} (hn : 0 < n) (hi : i ≤ L) : (nbP X L n i).1 ≤ L ∧ i ≤ (nbP X L n i).1 ∧ ∀ v, (nbP X L n i).2 = some v → i < (nbP X L n i).1 := by
  have a := sk_ge X L i
  have b := sk_le (X := X) hi
  have c := ngF_le X L n 0 (sk X L i) b
  unfold nbP
  split
  · rename_i q
    have d := ngF_gt (v := 0) hn q b
    split
    · exact ⟨c.1, by omega, fun v p => by cases p⟩
    · exact ⟨c.1, by show i ≤ (ngF X L n 0 (sk X L i)).2; omega, fun v _ => by show i < (ngF X L n 0 (sk X L i)).2; omega⟩
  · exact ⟨b, a, fun v p => by cases p⟩
theorem Tape_within {X : Tx} {L i lo hi : Nat} {σ : Mem} (hx : okX X L) (h1 : lo < 1000) (h2 : hi < 1000) (h : CAt X L i σ) (hi' : i ≤ L) : ∃ σ', f_Tape_passesNumberWithin σ (nI lo) (nI hi) = some (is1 (nmP X L lo hi i).2, σ') ∧ CAt X L (nmP X L lo hi i).1 σ' ∧ AX σ σ' ∧ ∀ v, (nmP X L lo hi i).2 = some v → mI σ' 1 3 = nI v := by
  obtain ⟨σ1, g1, g2, g3, g4⟩ := Tape_passesNumber (n := 2) hx (by omega) h hi'
  have le := nbP_le (X := X) (n := 2) (by omega) hi'
  unfold f_Tape_passesNumberWithin nmP
  rw [show (2 : Int32) = nI 2 from rfl, g1, Option.bind_some]
  dsimp only
  cases q : (nbP X L 2 i).2 with
  | none =>
    rw [if_pos (show is1 (none : Option Nat) = 0 from rfl)]
    exact ⟨σ1, rfl, g2, g3, fun v p => by cases p⟩
  | some v =>
    have hv := nbP_v q
    have h100 : (10 : Nat) ^ 2 = 100 := by decide
    have lt := le.2.2 v q
    rw [if_neg (show ¬ is1 (some v) = 0 from (by decide : ¬ (1 : Int32) = 0)), g4 v q]
    dsimp only
    have bad : ¬ (lo ≤ v ∧ v ≤ hi) → ∃ σ', f_Tape_passesNumberWithin_J26 σ1 (nI lo) (nI hi) = some (is1 ((nbP X L 2 i).1 - 1, (none : Option Nat)).2, σ') ∧ CAt X L ((nbP X L 2 i).1 - 1, (none : Option Nat)).1 σ' ∧ AX σ σ' ∧ ∀ w, ((nbP X L 2 i).1 - 1, (none : Option Nat)).2 = some w → mI σ' 1 3 = nI w := fun _ => by
      unfold f_Tape_passesNumberWithin_J26
      rw [g2.2.1, z_sub1 (by omega)]
      exact ⟨_, rfl, g2.to, g3.trans (AX_sI (Or.inl rfl)), fun w p => by cases p⟩
    by_cases q1 : v < lo
    · rw [if_pos (nI_lt q1 (by omega)), if_neg (by omega)]
      exact bad (by omega)
    · rw [if_neg (nI_nlt (by omega) (by omega))]
      by_cases q2 : v ≤ hi
      · rw [if_pos (nI_le q2 (by omega)), if_pos (by omega)]
        exact ⟨σ1, rfl, g2, g3, fun w p => by cases p; exact g4 v q⟩
      · rw [if_neg (nI_ge (by omega) (by omega)), if_neg (by omega)]
        exact bad (by omega)
