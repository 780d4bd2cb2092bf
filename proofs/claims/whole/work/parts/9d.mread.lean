/-! the reference's reader -/
theorem by_tab : ∀ c, c < 256 → ((nI c).toInt8.toInt32 = (32 : Int32) ↔ c = 32) ∧ (nI c).toInt8.toInt32 &&& (255 : Int32) = nI c ∧ ((nI c).toInt8.toInt32 < (48 : Int32) ↔ (c < 48 ∨ 128 ≤ c)) ∧ ((57 : Int32) < (nI c).toInt8.toInt32 ↔ (57 < c ∧ c < 128)) ∧ ((48 ≤ c ∧ c ≤ 57) → (nI c).toInt8.toInt32 = nI c) := by decide +kernel
/-- where the text lies -/
def okA (a b : Nat) : Prop := kd a = 14 ∧ b + 240 ≤ ln a ∧ a ≠ 565 ∧ b < 1000 ∧ ln a < 2000
theorem okA_6 : okA 566 0 := ⟨by decide +kernel, by decide +kernel, by decide, by decide, by decide +kernel⟩
theorem okA_7 {q : Nat} (h : q < 4) : okA 567 (240 * q) := ⟨by decide +kernel, by rw [show ln 567 = 960 by decide +kernel]; omega, by decide, by omega, by decide +kernel⟩
def MAt (X : Tx) (L a b i : Nat) (f d : Int32) (σ : Mem) : Prop := mR σ 565 5 = a ∧ mI σ 565 8 = nI b ∧ mI σ 565 9 = nI L ∧ mI σ 565 10 = nI i ∧ mI σ 565 11 = f ∧ mI σ 565 12 = d ∧ ∀ j, j < L → mI σ a (b + j) = (nI (X j)).toInt8.toInt32
def RX (σ σ' : Mem) : Prop := (∀ c, c ≠ 565 → mI σ' c = mI σ c) ∧ (∀ k, k ≠ 10 → k ≠ 11 → k ≠ 12 → mI σ' 565 k = mI σ 565 k) ∧ mL σ' = mL σ ∧ mR σ' = mR σ
theorem RX.refl (σ : Mem) : RX σ σ := ⟨fun _ _ => rfl, fun _ _ _ _ => rfl, rfl, rfl⟩
theorem RX.trans {σ σ1 σ2 : Mem} (h : RX σ σ1) (g : RX σ1 σ2) : RX σ σ2 := ⟨fun a ha => (g.1 a ha).trans (h.1 a ha), fun k h1 h2 h3 => (g.2.1 k h1 h2 h3).trans (h.2.1 k h1 h2 h3), g.2.2.1.trans h.2.2.1, g.2.2.2.trans h.2.2.2⟩
theorem RX_sI {σ : Mem} {k : Nat} {v : Int32} (h : k = 10 ∨ k = 11 ∨ k = 12) : RX σ (sI σ 565 k v) := ⟨fun a ha => row_ne ha, fun j h1 h2 h3 => by rw [row_sI, upd_ne (by omega)], rfl, rfl⟩
theorem MAt.to {X : Tx} {L a b i j : Nat} {f d : Int32} {σ : Mem} (ha : okA a b) (h : MAt X L a b i f d σ) : MAt X L a b j f d (sI σ 565 10 (nI j)) :=
  ⟨h.1, by rw [row_sI, upd_ne (by omega)]; exact h.2.1, by rw [row_sI, upd_ne (by omega)]; exact h.2.2.1, by rw [row_sI, upd_self], by rw [row_sI, upd_ne (by omega)]; exact h.2.2.2.2.1, by rw [row_sI, upd_ne (by omega)]; exact h.2.2.2.2.2.1, fun k hk => by rw [row_ne ha.2.2.1]; exact h.2.2.2.2.2.2 k hk⟩
theorem MAt.fl {X : Tx} {L a b i : Nat} {f d g : Int32} {σ : Mem} (ha : okA a b) (h : MAt X L a b i f d σ) : MAt X L a b i g d (sI σ 565 11 g) :=
  ⟨h.1, by rw [row_sI, upd_ne (by omega)]; exact h.2.1, by rw [row_sI, upd_ne (by omega)]; exact h.2.2.1, by rw [row_sI, upd_ne (by omega)]; exact h.2.2.2.1, by rw [row_sI, upd_self], by rw [row_sI, upd_ne (by omega)]; exact h.2.2.2.2.2.1, fun k hk => by rw [row_ne ha.2.2.1]; exact h.2.2.2.2.2.2 k hk⟩
theorem MAt.dp {X : Tx} {L a b i : Nat} {f d g : Int32} {σ : Mem} (ha : okA a b) (h : MAt X L a b i f d σ) : MAt X L a b i f g (sI σ 565 12 g) :=
  ⟨h.1, by rw [row_sI, upd_ne (by omega)]; exact h.2.1, by rw [row_sI, upd_ne (by omega)]; exact h.2.2.1, by rw [row_sI, upd_ne (by omega)]; exact h.2.2.2.1, by rw [row_sI, upd_ne (by omega)]; exact h.2.2.2.2.1, by rw [row_sI, upd_self], fun k hk => by rw [row_ne ha.2.2.1]; exact h.2.2.2.2.2.2 k hk⟩
/-- other cells may change -/
theorem MAt.fr {X : Tx} {L a b i : Nat} {f d : Int32} {σ σ' : Mem} (h : MAt X L a b i f d σ) (g1 : ∀ k, (k = 8 ∨ k = 9 ∨ k = 10 ∨ k = 11 ∨ k = 12) → mI σ' 565 k = mI σ 565 k) (g2 : mI σ' a = mI σ a) (g3 : mR σ' 565 5 = mR σ 565 5) : MAt X L a b i f d σ' := by
  unfold MAt
  rw [g3, g1 8 (by omega), g1 9 (by omega), g1 10 (by omega), g1 11 (by omega), g1 12 (by omega), g2]
  exact h
def sgM (n : Nat) : Int32 := if n = 0 then -1 else nI n
theorem sgM_eq {n c : Nat} (hn : n < 256) (hc : 1 ≤ c) (hc2 : c < 256) : sgM n = nI c ↔ n = c := by
  unfold sgM
  by_cases q : n = 0
  · rw [if_pos q]
    exact ⟨fun h => absurd h.symm (nI_ne_m1 (by omega)), fun h => by omega⟩
  · rw [if_neg q]
    exact nI_eq (by omega) (by omega)
theorem sgM_m1 {n : Nat} (hn : n < 256) : sgM n = (-1 : Int32) ↔ n = 0 := by
  unfold sgM
  by_cases q : n = 0
  · rw [if_pos q]; exact ⟨fun _ => q, fun _ => rfl⟩
  · rw [if_neg q]; exact ⟨fun h => absurd h (nI_ne_m1 (by omega)), fun h => absurd h q⟩
theorem look_go {X : Tx} {L a b : Nat} {f d : Int32} (hx : okX X L) (ha : okA a b) : ∀ n i σ, L - i = n → i ≤ L → MAt X L a b i f d σ → ∀ m, n < m → ∃ σ', loopF f_Model_look_L0 m σ = some σ' ∧ MAt X L a b (skF X L n i) f d σ' ∧ RX σ σ' := by
  have h240 := hx.1
  obtain ⟨a1, a2, a3, a4, a5⟩ := ha
  intro n
  induction n with
  | zero =>
    intro i σ hn hi h m hm
    obtain ⟨m, rfl⟩ : ∃ k, m = k + 1 := ⟨m - 1, by omega⟩
    refine ⟨σ, loopF_inr ?_, h, RX.refl _⟩
    unfold f_Model_look_L0
    rw [h.2.2.1, h.2.2.2.1, if_pos (nI_le (by omega) (by omega))]
  | succ n ih =>
    intro i σ hn hi h m hm
    obtain ⟨m, rfl⟩ : ∃ k, m = k + 1 := ⟨m - 1, by omega⟩
    have h256 := (hx.2 i (by omega)).2
    have st : f_Model_look_L0 σ = if X i = 32 then some (.inl (sI σ 565 10 (nI (i + 1)))) else some (.inr σ) := by
      unfold f_Model_look_L0
      rw [h.1, h.2.1, h.2.2.1, h.2.2.2.1, if_neg (nI_ge (by omega) (by omega)), if_pos a1, nI_add, if_pos (inb_nI (show b + i < ln a by omega) (by omega)), nI_clamp (by omega), h.2.2.2.2.2.2 i (by omega), nI_1]
      by_cases q : X i = 32
      · rw [if_pos ((by_tab _ h256).1.mpr q), if_pos q]
      · rw [if_neg (fun p => q ((by_tab _ h256).1.mp p)), if_neg q]
    unfold skF
    by_cases q : X i = 32
    · rw [if_pos q] at st
      rw [if_pos ⟨by omega, q⟩, loopF_inl st]
      obtain ⟨σ', g1, g2, g3⟩ := ih (i + 1) _ (by omega) (by omega) (h.to (j := i + 1) ⟨a1, a2, a3, a4, a5⟩) m (by omega)
      exact ⟨σ', g1, g2, (RX_sI (Or.inl rfl)).trans g3⟩
    · rw [if_neg q] at st
      rw [if_neg (fun p => q p.2)]
      exact ⟨σ, loopF_inr st, h, RX.refl _⟩
theorem Model_look {X : Tx} {L a b i : Nat} {f d : Int32} {σ : Mem} (hx : okX X L) (ha : okA a b) (h : MAt X L a b i f d σ) (hi : i ≤ L) : ∃ σ', f_Model_look σ = some (sgM (sg X L (sk X L i)), σ') ∧ MAt X L a b (sk X L i) f d σ' ∧ RX σ σ' := by
  have h240 := hx.1
  obtain ⟨σ', g1, g2, g3⟩ := look_go hx ha (L - i) i σ rfl hi h FU (by unfold FU; omega)
  have g2 : MAt X L a b (sk X L i) f d σ' := g2
  have kle := sk_le (X := X) hi
  obtain ⟨a1, a2, a3, a4, a5⟩ := ha
  refine ⟨σ', ?_, g2, g3⟩
  unfold f_Model_look f_Model_look_J43
  rw [g1, Option.bind_some, g2.1, g2.2.1, g2.2.2.1, g2.2.2.2.1]
  unfold sg
  by_cases q : sk X L i < L
  · have h1 := hx.2 _ q
    rw [if_neg (nI_ge q (by omega)), if_pos a1, nI_add, if_pos (inb_nI (show b + sk X L i < ln a by omega) (by omega)), nI_clamp (by omega), g2.2.2.2.2.2.2 _ q, (by_tab _ h1.2).2.1, if_pos q]
    unfold sgM
    rw [if_neg (by omega)]
  · rw [if_pos (nI_le (by omega) (by omega)), if_neg q]
    rfl
theorem Model_isDigit {X : Tx} {L a b i : Nat} {f d : Int32} {σ : Mem} (hx : okX X L) (ha : okA a b) (h : MAt X L a b i f d σ) (hi : i ≤ L) : f_Model_isDigit σ = some (b01 (dg X L i)) := by
  have h240 := hx.1
  obtain ⟨a1, a2, a3, a4, a5⟩ := ha
  unfold f_Model_isDigit
  rw [h.1, h.2.1, h.2.2.1, h.2.2.2.1]
  by_cases q : i < L
  · have h256 := (hx.2 i q).2
    obtain ⟨-, -, t1, t2, -⟩ := by_tab _ h256
    rw [if_neg (nI_ge q (by omega)), if_pos a1, nI_add, if_pos (inb_nI (show b + i < ln a by omega) (by omega)), nI_clamp (by omega), h.2.2.2.2.2.2 i q]
    by_cases q1 : X i < 48 ∨ 128 ≤ X i
    · rw [if_pos (t1.mpr q1), dg_no (by omega)]; rfl
    · rw [if_neg (fun p => q1 (t1.mp p))]
      by_cases q2 : 57 < X i ∧ X i < 128
      · rw [if_pos (t2.mpr q2), dg_no (by omega)]; rfl
      · rw [if_neg (fun p => q2 (t2.mp p)), dg_of (by omega)]; rfl
  · rw [if_pos (nI_le (by omega) (by omega)), dg_no (by omega)]; rfl
/-- the fault, once there is one, stays -/
def flt (f : Int32) (i : Nat) : Int32 := if f = -1 then nI i else f
theorem Model_fails {X : Tx} {L a b i : Nat} {f d : Int32} {σ : Mem} (ha : okA a b) (h : MAt X L a b i f d σ) : ∃ σ', f_Model_fails σ = some (0, σ') ∧ MAt X L a b i (flt f i) d σ' ∧ RX σ σ' := by
  unfold f_Model_fails flt
  rw [h.2.2.2.2.1, h.2.2.2.1]
  by_cases q : f = -1
  · rw [if_pos q, if_pos q]
    exact ⟨_, rfl, h.fl ha, RX_sI (Or.inr (Or.inl rfl))⟩
  · rw [if_neg q, if_neg q]
    exact ⟨σ, rfl, h, RX.refl _⟩
theorem bzb0 : bzb (0 : Int32) = true := by decide
theorem Model_takes {X : Tx} {L a b i c : Nat} {d : Int32} {σ : Mem} (hx : okX X L) (ha : okA a b) (h : MAt X L a b i (-1) d σ) (hi : i ≤ L) (hc : 1 ≤ c) (hc2 : c < 256) : ∃ σ', f_Model_takes σ (nI c) = some (if sg X L (sk X L i) = c then 1 else 0, σ') ∧ MAt X L a b (if sg X L (sk X L i) = c then sk X L i + 1 else sk X L i) (if sg X L (sk X L i) = c then -1 else nI (sk X L i)) d σ' ∧ RX σ σ' := by
  obtain ⟨σ1, g1, g2, g3⟩ := Model_look hx ha h hi
  unfold f_Model_takes
  rw [h.2.2.2.2.1, if_pos rfl, g1, Option.bind_some]
  dsimp only
  have h2 := sg_256 (i := sk X L i) hx
  by_cases q : sg X L (sk X L i) = c
  · rw [if_pos ((sgM_eq h2 hc hc2).mpr q), if_pos q, if_pos q, if_pos q, g2.2.2.2.1, nI_1]
    exact ⟨_, rfl, g2.to ha, g3.trans (RX_sI (Or.inl rfl))⟩
  · obtain ⟨σ2, k1, k2, k3⟩ := Model_fails ha g2
    rw [if_neg (fun p => q ((sgM_eq h2 hc hc2).mp p)), if_neg q, if_neg q, if_neg q, k1, Option.bind_some]
    dsimp only
    rw [if_pos bzb0]
    exact ⟨σ2, rfl, k2, g3.trans k3⟩
theorem Model_takes_f {X : Tx} {L a b i : Nat} {f d c : Int32} {σ : Mem} (ha : okA a b) (h : MAt X L a b i f d σ) (hf : f ≠ -1) : f_Model_takes σ c = some (0, σ) := by
  unfold f_Model_takes f_Model_fails
  rw [h.2.2.2.2.1, if_neg hf, if_neg hf, Option.bind_some]
  dsimp only
  rw [if_pos bzb0]
/-- a digit -/
theorem Model_digit {X : Tx} {L a b i : Nat} {d : Int32} {σ : Mem} (hx : okX X L) (ha : okA a b) (h : MAt X L a b i (-1) d σ) (hi : i ≤ L) : ∃ σ', f_Model_digit σ = some (if dg X L (sk X L i) = true then nI (X (sk X L i) - 48) else 0, σ') ∧ MAt X L a b (if dg X L (sk X L i) = true then sk X L i + 1 else sk X L i) (if dg X L (sk X L i) = true then -1 else nI (sk X L i)) d σ' ∧ RX σ σ' := by
  obtain ⟨σ1, g1, g2, g3⟩ := Model_look hx ha h hi
  have kle := sk_le (X := X) hi
  unfold f_Model_digit
  rw [g1, Option.bind_some]
  dsimp only
  rw [Model_isDigit hx ha g2 kle, Option.bind_some]
  cases q : dg X L (sk X L i) with
  | false =>
    obtain ⟨σ2, k1, k2, k3⟩ := Model_fails ha g2
    rw [if_pos (show b01 false = 0 from rfl), if_neg (by decide), if_neg (by decide), if_neg (by decide), k1, Option.bind_some]
    exact ⟨σ2, rfl, k2, g3.trans k3⟩
  | true =>
    obtain ⟨d1, d2, d3⟩ := dg_t q
    have e : sgM (sg X L (sk X L i)) - (48 : Int32) = nI (X (sk X L i) - 48) := by
      unfold sg sgM
      rw [if_pos d1, if_neg (by omega), show (48 : Int32) = nI 48 from rfl, pk_sub d2]
    rw [if_neg (show ¬ b01 true = 0 by decide), if_pos rfl, if_pos rfl, if_pos rfl, e, g2.2.2.2.1, nI_1]
    exact ⟨_, rfl, g2.to ha, g3.trans (RX_sI (Or.inl rfl))⟩
theorem Model_here {X : Tx} {L a b i : Nat} {f d : Int32} {σ : Mem} (hx : okX X L) (ha : okA a b) (h : MAt X L a b i f d σ) (hi : i < L) : f_Model_here σ = some (nI (X i)) := by
  have h240 := hx.1
  obtain ⟨a1, a2, a3, a4, a5⟩ := ha
  have h1 := hx.2 _ hi
  unfold f_Model_here
  rw [h.1, h.2.1, h.2.2.1, h.2.2.2.1, if_neg (nI_ge hi (by omega)), if_pos a1, nI_add, if_pos (inb_nI (show b + i < ln a by omega) (by omega)), nI_clamp (by omega), h.2.2.2.2.2.2 _ hi, (by_tab _ h1.2).2.1]
/-- a number within bounds -/
theorem ngF_2 {X : Tx} {L i : Nat} (h : dg X L i = true) : ngF X L 2 0 i = if dg X L (i + 1) = true then ((X i - 48) * 10 + (X (i + 1) - 48), i + 2) else (X i - 48, i + 1) := by
  unfold ngF ngF
  rw [if_pos h, Nat.zero_mul, Nat.zero_add]
  rfl
theorem Model_number {X : Tx} {L a b i lo hi : Nat} {d : Int32} {σ : Mem} (hx : okX X L) (ha : okA a b) (h1 : lo < 1000) (h2 : hi < 1000) (h : MAt X L a b i (-1) d σ) (hi' : i ≤ L) : ∃ σ' r, f_Model_number σ (nI lo) (nI hi) = some (r, σ') ∧ RX σ σ' ∧ (∀ v, (nmP X L lo hi i).2 = some v → r = nI v ∧ MAt X L a b (nmP X L lo hi i).1 (-1) d σ') ∧ ((nmP X L lo hi i).2 = none → ∃ k, MAt X L a b k (nI (nmP X L lo hi i).1) d σ') := by
  obtain ⟨σ1, g1, g2, g3⟩ := Model_look hx ha h hi'
  have kle := sk_le (X := X) hi'
  unfold f_Model_number
  rw [g1, Option.bind_some]
  dsimp only
  rw [Model_isDigit hx ha g2 kle, Option.bind_some]
  cases q : dg X L (sk X L i) with
  | false =>
    obtain ⟨σ2, k1, k2, k3⟩ := Model_fails ha g2
    rw [if_pos (show b01 false = 0 from rfl), k1, Option.bind_some]
    have e : nbP X L 2 i = (sk X L i, none) := by unfold nbP; rw [q, if_neg (by decide)]
    have e2 : nmP X L lo hi i = (sk X L i, none) := by unfold nmP; rw [e]
    refine ⟨σ2, 0, rfl, g3.trans k3, fun v p => ?_, fun _ => ⟨sk X L i, ?_⟩⟩
    · rw [e2] at p; cases p
    · rw [e2]; exact k2
  | true =>
    obtain ⟨d1, d2, d3⟩ := dg_t q
    have nb : nbP X L 2 i = if dg X L (ngF X L 2 0 (sk X L i)).2 = true then ((ngF X L 2 0 (sk X L i)).2, none) else ((ngF X L 2 0 (sk X L i)).2, some (ngF X L 2 0 (sk X L i)).1) := by unfold nbP; rw [q, if_pos rfl]
    have e : sgM (sg X L (sk X L i)) - (48 : Int32) = nI (X (sk X L i) - 48) := by
      unfold sg sgM
      rw [if_pos d1, if_neg (by omega), show (48 : Int32) = nI 48 from rfl, pk_sub d2]
    have j67 : ∀ v k τ, v < 100 → k ≤ L → 1 ≤ k → MAt X L a b k (-1) d τ → ngF X L 2 0 (sk X L i) = (v, k) → ∃ σ' r, f_Model_number_J67 τ (nI lo) (nI hi) (nI v) = some (r, σ') ∧ RX τ σ' ∧ (∀ v, (nmP X L lo hi i).2 = some v → r = nI v ∧ MAt X L a b (nmP X L lo hi i).1 (-1) d σ') ∧ ((nmP X L lo hi i).2 = none → ∃ k, MAt X L a b k (nI (nmP X L lo hi i).1) d σ') := fun v k τ hv hk k1 hm hn => by
      unfold f_Model_number_J67
      rw [Model_isDigit hx ha hm hk, Option.bind_some]
      rw [hn] at nb
      cases qk : dg X L k with
      | true =>
        obtain ⟨σ2, p1, p2, p3⟩ := Model_fails ha hm
        have nb' : nbP X L 2 i = (k, none) := by rw [nb]; show (if dg X L k = true then _ else _) = _; rw [qk, if_pos rfl]
        have e2 : nmP X L lo hi i = (k, none) := by unfold nmP; rw [nb']
        rw [if_neg (show ¬ b01 true = 0 by decide), p1, Option.bind_some]
        refine ⟨σ2, 0, rfl, p3, fun w p => ?_, fun _ => ⟨k, ?_⟩⟩
        · rw [e2] at p; cases p
        · rw [e2]; exact p2
      | false =>
        have nb' : nbP X L 2 i = (k, some v) := by rw [nb]; show (if dg X L k = true then _ else _) = _; rw [qk, if_neg (by decide)]
        rw [if_pos (show b01 false = 0 from rfl), nI_l (show lo < 2 ^ 31 by omega), nI_l (show hi < 2 ^ 31 by omega), Model_isInR (by omega) (by omega), Option.bind_some]
        unfold isR
        by_cases q1 : v < lo
        · have e2 : nmP X L lo hi i = (k - 1, none) := by unfold nmP; rw [nb']; show (if lo ≤ v ∧ v ≤ hi then _ else _) = _; rw [if_neg (by omega)]
          obtain ⟨σ2, p1, p2, p3⟩ := Model_fails ha (hm.to (j := k - 1) ha)
          rw [if_pos (nI_lt q1 (by omega)), if_pos rfl, hm.2.2.2.1, z_sub1 k1, p1, Option.bind_some]
          refine ⟨σ2, _, rfl, (RX_sI (Or.inl rfl)).trans p3, fun w p => ?_, fun _ => ⟨k - 1, ?_⟩⟩
          · rw [e2] at p; cases p
          · rw [e2]; exact p2
        · rw [if_neg (nI_nlt (by omega) (by omega))]
          by_cases q2 : hi < v
          · have e2 : nmP X L lo hi i = (k - 1, none) := by unfold nmP; rw [nb']; show (if lo ≤ v ∧ v ≤ hi then _ else _) = _; rw [if_neg (by omega)]
            obtain ⟨σ2, p1, p2, p3⟩ := Model_fails ha (hm.to (j := k - 1) ha)
            rw [if_pos (nI_lt q2 (by omega)), if_pos rfl, hm.2.2.2.1, z_sub1 k1, p1, Option.bind_some]
            refine ⟨σ2, _, rfl, (RX_sI (Or.inl rfl)).trans p3, fun w p => ?_, fun _ => ⟨k - 1, ?_⟩⟩
            · rw [e2] at p; cases p
            · rw [e2]; exact p2
          · have e2 : nmP X L lo hi i = (k, some v) := by unfold nmP; rw [nb']; show (if lo ≤ v ∧ v ≤ hi then _ else _) = _; rw [if_pos (by omega)]
            rw [if_neg (nI_nlt (by omega) (by omega)), if_neg (by decide)]
            refine ⟨τ, _, rfl, RX.refl _, fun w p => ?_, fun p => ?_⟩
            · rw [e2] at p ⊢; cases p; exact ⟨rfl, hm⟩
            · rw [e2] at p; cases p
    have m1 := g2.to (j := sk X L i + 1) ha
    rw [if_neg (show ¬ b01 true = 0 by decide), e, g2.2.2.2.1, nI_1, Model_isDigit hx ha m1 (by omega), Option.bind_some]
    cases q2 : dg X L (sk X L i + 1) with
    | false =>
      rw [if_pos (show b01 false = 0 from rfl)]
      obtain ⟨σ', r, p1, p2, p3, p4⟩ := j67 (X (sk X L i) - 48) (sk X L i + 1) _ (by omega) (by omega) (by omega) m1 (by rw [ngF_2 q, q2, if_neg (by decide)])
      exact ⟨σ', r, p1, (g3.trans (RX_sI (Or.inl rfl))).trans p2, p3, p4⟩
    | true =>
      obtain ⟨e1, e2, e3⟩ := dg_t q2
      rw [if_neg (show ¬ b01 true = 0 by decide), Model_here hx ha m1 e1, Option.bind_some, m1.2.2.2.1, nI_1, show (10 : Int32) * nI (X (sk X L i) - 48) + nI (X (sk X L i + 1)) - (48 : Int32) = nI ((X (sk X L i) - 48) * 10 + (X (sk X L i + 1) - 48)) by
        rw [show (10 : Int32) = nI 10 from rfl, show (48 : Int32) = nI 48 from rfl, pk_mul, nI_add, pk_sub (by omega)]
        exact congrArg nI (by omega)]
      obtain ⟨σ', r, p1, p2, p3, p4⟩ := j67 ((X (sk X L i) - 48) * 10 + (X (sk X L i + 1) - 48)) (sk X L i + 2) _ (by omega) (by omega) (by omega) (m1.to ha) (by rw [ngF_2 q, q2, if_pos rfl])
      exact ⟨σ', r, p1, ((g3.trans (RX_sI (Or.inl rfl))).trans (RX_sI (Or.inl rfl))).trans p2, p3, p4⟩
