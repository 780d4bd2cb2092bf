/-! days: one step -/
def spI (o : Option Nat) : Int32 := match o with | none => -1 | some q => nI q
def spD (c : Nat) : Option Nat := if c = 112 then some 0 else if c = 98 then some 1 else if c = 103 then some 2 else if c = 121 then some 3 else if c = 104 then some 4 else none
def ndD (q : Nat) : Nat := if q = 0 ∨ q = 2 then 2 else if q = 4 then 0 else 1
theorem spD_lt {c q : Nat} (h : spD c = some q) : q < 5 := by
  unfold spD at h
  repeat' split at h
  all_goals first | (cases h; decide) | cases h
theorem spD_0 {c q : Nat} (h : spD c = some q) : c ≠ 0 := by
  intro z
  subst z
  cases h
theorem spD_c : ∀ c, c < 256 → loopF (f_Day_stepReads_L11 m00 0 0 (nI c)) FU ((-1 : Int32), (0 : Int32)) = some (spI (spD c)) := by decide +kernel
theorem spD_m : ∀ c, c < 256 → loopF (f_Model_spotOf_L2 m00 5 (sgM c)) FU (0 : Int32) = some (spI (spD c)) := by decide +kernel
theorem tb6 : ∀ q, q < 5 → tb 6 q = nI (ndD q) := by decide +kernel
abbrev R3 : Type := Int32 × Int32 × Int32
def stP (X : Tx) (L i : Nat) : Nat × Option R3 := match spD (sg X L (sk X L i)) with
  | none => (sk X L i, none)
  | some q => if ndD q = 0 then (sk X L i + 1, some (nI q, -1, -1)) else
    if dg X L (sk X L (sk X L i + 1)) = true then
      (if ndD q = 1 then (sk X L (sk X L i + 1) + 1, some (nI q, nI (X (sk X L (sk X L i + 1)) - 48), -1)) else
        if dg X L (sk X L (sk X L (sk X L i + 1) + 1)) = true then (sk X L (sk X L (sk X L i + 1) + 1) + 1, some (nI q, nI (X (sk X L (sk X L i + 1)) - 48), nI (X (sk X L (sk X L (sk X L i + 1) + 1)) - 48))) else (sk X L (sk X L (sk X L i + 1) + 1), none))
    else (sk X L (sk X L i + 1), none)
theorem ndD_ty {q : Nat} : ndD q = 0 ∨ ndD q = 1 ∨ ndD q = 2 := by unfold ndD; split <;> (try split) <;> omega
theorem stP_ok {X : Tx} {L i : Nat} (hi : i ≤ L) : (stP X L i).1 ≤ L ∧ ∀ r, (stP X L i).2 = some r → i < (stP X L i).1 ∧ ∃ q, q ≤ 4 ∧ r.1 = nI q := by
  have a := sk_ge X L i
  have b := sk_le (X := X) hi
  unfold stP
  cases h : spD (sg X L (sk X L i)) with
  | none => exact ⟨b, fun r p => by cases p⟩
  | some q =>
    have hq := spD_lt h
    have hs := sg_lt (spD_0 h)
    have c := sk_ge X L (sk X L i + 1)
    have d := sk_le (X := X) (show sk X L i + 1 ≤ L by omega)
    dsimp only
    by_cases n0 : ndD q = 0
    · rw [if_pos n0]
      exact ⟨by show sk X L i + 1 ≤ L; omega, fun r p => by cases p; exact ⟨by show i < sk X L i + 1; omega, q, by omega, rfl⟩⟩
    · rw [if_neg n0]
      by_cases d1 : dg X L (sk X L (sk X L i + 1)) = true
      · rw [if_pos d1]
        have e := dg_t d1
        by_cases n1 : ndD q = 1
        · rw [if_pos n1]
          exact ⟨by show sk X L (sk X L i + 1) + 1 ≤ L; omega, fun r p => by cases p; exact ⟨by show i < sk X L (sk X L i + 1) + 1; omega, q, by omega, rfl⟩⟩
        · rw [if_neg n1]
          have f := sk_ge X L (sk X L (sk X L i + 1) + 1)
          have g := sk_le (X := X) (show sk X L (sk X L i + 1) + 1 ≤ L by omega)
          by_cases d2 : dg X L (sk X L (sk X L (sk X L i + 1) + 1)) = true
          · rw [if_pos d2]
            have e := dg_t d2
            exact ⟨by show sk X L (sk X L (sk X L i + 1) + 1) + 1 ≤ L; omega, fun r p => by cases p; exact ⟨by show i < sk X L (sk X L (sk X L i + 1) + 1) + 1; omega, q, by omega, rfl⟩⟩
          · rw [if_neg d2]
            exact ⟨g, fun r p => by cases p⟩
      · rw [if_neg d1]
        exact ⟨d, fun r p => by cases p⟩
/-! the class -/
def DX (o : Nat) (σ σ' : Mem) : Prop := (∀ a, a ≠ 1 → a ≠ o → a ≠ o + 1 → mI σ' a = mI σ a) ∧ (∀ k, k ≠ 2 → k ≠ 3 → mI σ' 1 k = mI σ 1 k) ∧ mL σ' = mL σ ∧ mR σ' = mR σ
theorem DX.refl (o : Nat) (σ : Mem) : DX o σ σ := ⟨fun _ _ _ _ => rfl, fun _ _ _ => rfl, rfl, rfl⟩
theorem DX.trans {o : Nat} {σ σ1 σ2 : Mem} (h : DX o σ σ1) (g : DX o σ1 σ2) : DX o σ σ2 := ⟨fun a h1 h2 h3 => (g.1 a h1 h2 h3).trans (h.1 a h1 h2 h3), fun k h1 h2 => (g.2.1 k h1 h2).trans (h.2.1 k h1 h2), g.2.2.1.trans h.2.2.1, g.2.2.2.trans h.2.2.2⟩
theorem DX_ax {o : Nat} {σ σ' : Mem} (h : AX σ σ') : DX o σ σ' := ⟨fun a h1 _ _ => h.1 a h1, h.2⟩
theorem DX_sI {o a k : Nat} {v : Int32} {σ : Mem} (h : a = o ∨ a = o + 1) (ho : 2 < o) : DX o σ (sI σ a k v) := ⟨fun c _ h2 h3 => row_ne (by omega), fun j _ _ => by rw [row_ne (by omega)], rfl, rfl⟩
theorem CAt.dx {X : Tx} {L i a k : Nat} {v : Int32} {σ : Mem} (h : CAt X L i σ) (ha : 2 < a) : CAt X L i (sI σ a k v) := h.fr (row_ne (by omega)) (row_ne (by omega))
theorem day_step {X : Tx} {L i o n : Nat} {σ : Mem} (hx : okX X L) (ho : 2 < o) (hn : n < 16) (h : CAt X L i σ) (hi : i ≤ L) : ∃ σ', f_Day_stepReads σ o (nI (3 * n)) = some (is1 (stP X L i).2, σ') ∧ CAt X L (stP X L i).1 σ' ∧ DX o σ σ' ∧ (∀ k, k < 3 * n → mI σ' (o + 1) k = mI σ (o + 1) k) ∧ ∀ r, (stP X L i).2 = some r → mI σ' (o + 1) (3 * n) = r.1 ∧ mI σ' (o + 1) (3 * n + 1) = r.2.1 ∧ mI σ' (o + 1) (3 * n + 2) = r.2.2 := by
  obtain ⟨σ1, g1, g2, g3⟩ := Tape_sign hx h hi
  have kle := sk_le (X := X) hi
  have s256 := sg_256 (i := sk X L i) hx
  have lp : ∀ y, loopF (f_Day_stepReads_L11 σ1 o (nI (3 * n)) y) FU ((-1 : Int32), (0 : Int32)) = loopF (f_Day_stepReads_L11 m00 0 0 y) FU ((-1 : Int32), (0 : Int32)) := fun y => rfl
  unfold f_Day_stepReads
  rw [g1, Option.bind_some]
  dsimp only
  rw [lp, spD_c _ s256, Option.bind_some]
  have c1 : nI (3 * n) + (1 : Int32) = nI (3 * n + 1) := nI_1 _
  have c2 : nI (3 * n) + (2 : Int32) = nI (3 * n + 2) := by rw [show (2 : Int32) = nI 2 from rfl, nI_add]
  unfold stP
  cases hq : spD (sg X L (sk X L i)) with
  | none =>
    rw [if_pos (show spI none = -1 from rfl)]
    exact ⟨σ1, rfl, g2, DX_ax g3, fun k _ => by rw [g3.1 _ (by omega)], fun r p => by cases p⟩
  | some q =>
    have q5 := spD_lt hq
    have hs := sg_lt (spD_0 hq)
    rw [if_neg (show ¬ spI (some q) = -1 from nI_ne_m1 (by omega)), c1, c2, if_pos (inb_nI (show 3 * n < 48 by omega) (by decide)), if_pos (inb_nI (show 3 * n + 1 < 48 by omega) (by decide)), if_pos (inb_nI (show 3 * n + 2 < 48 by omega) (by decide)), nI_clamp (show 3 * n < 2 ^ 31 by omega), nI_clamp (show 3 * n + 1 < 2 ^ 31 by omega), nI_clamp (show 3 * n + 2 < 2 ^ 31 by omega), g2.2.1, nI_1]
    show ∃ σ', loopF (f_Day_stepReads_L85 o (nI (3 * n)) (nI q)) FU (sI (sI (sI (sI σ1 1 2 (nI (sk X L i + 1))) (o + 1) (3 * n) (nI q)) (o + 1) (3 * n + 1) (-1 : Int32)) (o + 1) (3 * n + 2) (-1 : Int32), nI 1) = _ ∧ _
    have k0 : CAt X L (sk X L i + 1) (sI (sI (sI (sI σ1 1 2 (nI (sk X L i + 1))) (o + 1) (3 * n) (nI q)) (o + 1) (3 * n + 1) (-1 : Int32)) (o + 1) (3 * n + 2) (-1 : Int32)) := (((g2.to (j := sk X L i + 1)).dx (by omega)).dx (by omega)).dx (by omega)
    have x0 : DX o σ (sI (sI (sI (sI σ1 1 2 (nI (sk X L i + 1))) (o + 1) (3 * n) (nI q)) (o + 1) (3 * n + 1) (-1 : Int32)) (o + 1) (3 * n + 2) (-1 : Int32)) := (((DX_ax (g3.trans (AX_sI (Or.inl rfl)))).trans (DX_sI (Or.inr rfl) ho)).trans (DX_sI (Or.inr rfl) ho)).trans (DX_sI (Or.inr rfl) ho)
    have r0 : mI (sI (sI (sI (sI σ1 1 2 (nI (sk X L i + 1))) (o + 1) (3 * n) (nI q)) (o + 1) (3 * n + 1) (-1 : Int32)) (o + 1) (3 * n + 2) (-1 : Int32)) (o + 1) = upd (upd (upd (mI σ (o + 1)) (3 * n) (nI q)) (3 * n + 1) (-1)) (3 * n + 2) (-1) := by rw [row_sI, row_sI, row_sI, row_ne (show o + 1 ≠ 1 by omega), g3.1 (o + 1) (by omega)]
    generalize sI (sI (sI (sI σ1 1 2 (nI (sk X L i + 1))) (o + 1) (3 * n) (nI q)) (o + 1) (3 * n + 1) (-1 : Int32)) (o + 1) (3 * n + 2) (-1 : Int32) = σ2 at k0 x0 r0 ⊢
    dsimp only
    obtain ⟨m, hm⟩ := FU_at 3 (by omega)
    have stop : ∀ τ z, ndD q < z → z < 100 → f_Day_stepReads_L85 o (nI (3 * n)) (nI q) (τ, nI z) = some (.inr (1, τ)) := fun τ z h1 h2 => by
      unfold f_Day_stepReads_L85
      dsimp only
      rw [if_pos (inb_nI (show q < 5 by omega) (by decide)), nI_clamp (show q < 2 ^ 31 by omega), tb6 q q5, if_pos (nI_lt h1 (by omega))]
    have go : ∀ τ z j, z ≤ ndD q → 1 ≤ z → z ≤ 2 → j ≤ L → CAt X L j τ → ∃ τ', f_Day_stepReads_L85 o (nI (3 * n)) (nI q) (τ, nI z) = some (if dg X L (sk X L j) = true then .inl (sI τ' (o + 1) (3 * n + z) (nI (X (sk X L j) - 48)), nI (z + 1)) else .inr (0, τ')) ∧ CAt X L (if dg X L (sk X L j) = true then sk X L j + 1 else sk X L j) τ' ∧ AX τ τ' := fun τ z j h1 h2 h3 hj hc => by
      obtain ⟨τ', p1, p2, p3, p4⟩ := Tape_passesDigit hx hc hj
      refine ⟨τ', ?_, p2, p3⟩
      unfold f_Day_stepReads_L85
      dsimp only
      rw [if_pos (inb_nI (show q < 5 by omega) (by decide)), nI_clamp (show q < 2 ^ 31 by omega), tb6 q q5, if_neg (nI_nlt h1 (by have := ndD_ty (q := q); omega)), p1, Option.bind_some]
      dsimp only
      cases hd : dg X L (sk X L j) with
      | false => rw [if_pos (show b01 false = 0 from rfl), if_neg (by decide)]
      | true => rw [if_neg (show ¬ b01 true = 0 by decide), if_pos rfl, nI_add, if_pos (inb_nI (show 3 * n + z < 48 by omega) (by decide)), nI_clamp (by omega), p4 hd, nI_1]
    have d2 := sk_le (X := X) (show sk X L i + 1 ≤ L by omega)
    by_cases n0 : ndD q = 0
    · rw [if_pos n0, hm, loopF_inr (stop σ2 1 (by omega) (by omega))]
      refine ⟨σ2, rfl, k0, x0, fun k hk => ?_, fun r p => ?_⟩
      · rw [r0, upd_ne (by omega), upd_ne (by omega), upd_ne (by omega)]
      · cases p
        rw [r0]
        exact ⟨by rw [upd_ne (by omega), upd_ne (by omega), upd_self], by rw [upd_ne (by omega), upd_self], by rw [upd_self]⟩
    · rw [if_neg n0]
      obtain ⟨τ1, a1, a2, a3⟩ := go σ2 1 (sk X L i + 1) (by have := ndD_ty (q := q); omega) (by omega) (by omega) (by omega) k0
      have r1 : mI τ1 (o + 1) = mI σ2 (o + 1) := a3.1 _ (by omega)
      cases hd : dg X L (sk X L (sk X L i + 1)) with
      | false =>
        rw [hd, if_neg (by decide)] at a1 a2
        rw [if_neg (by decide), hm, loopF_inr a1]
        refine ⟨τ1, rfl, a2, x0.trans (DX_ax a3), fun k hk => ?_, fun r p => by cases p⟩
        rw [r1, r0, upd_ne (by omega), upd_ne (by omega), upd_ne (by omega)]
      | true =>
        rw [hd, if_pos rfl] at a1 a2
        have e1 := dg_t hd
        have a2' := a2.dx (a := o + 1) (k := 3 * n + 1) (v := nI (X (sk X L (sk X L i + 1)) - 48)) (by omega)
        have d3 := sk_le (X := X) (show sk X L (sk X L i + 1) + 1 ≤ L by omega)
        rw [if_pos rfl]
        by_cases n1 : ndD q = 1
        · rw [if_pos n1, hm, loopF_inl a1, loopF_inr (stop _ 2 (by omega) (by omega))]
          refine ⟨_, rfl, a2', (x0.trans (DX_ax a3)).trans (DX_sI (Or.inr rfl) ho), fun k hk => ?_, fun r p => ?_⟩
          · rw [row_sI, upd_ne (by omega), r1, r0, upd_ne (by omega), upd_ne (by omega), upd_ne (by omega)]
          · cases p
            rw [row_sI, r1, r0]
            exact ⟨by rw [upd_ne (by omega), upd_ne (by omega), upd_ne (by omega), upd_self], by rw [upd_self], by rw [upd_ne (by omega), upd_self]⟩
        · rw [if_neg n1]
          have n2 : ndD q = 2 := by have := ndD_ty (q := q); omega
          obtain ⟨τ2, b1, b2, b3⟩ := go _ 2 (sk X L (sk X L i + 1) + 1) (by omega) (by omega) (by omega) (by omega) a2'
          have r2 : mI τ2 (o + 1) = upd (mI σ2 (o + 1)) (3 * n + 1) (nI (X (sk X L (sk X L i + 1)) - 48)) := by rw [b3.1 _ (by omega), row_sI, r1]
          cases hd2 : dg X L (sk X L (sk X L (sk X L i + 1) + 1)) with
          | false =>
            rw [hd2, if_neg (by decide)] at b1 b2
            rw [if_neg (by decide), hm, loopF_inl a1, loopF_inr b1]
            refine ⟨τ2, rfl, b2, ((x0.trans (DX_ax a3)).trans (DX_sI (Or.inr rfl) ho)).trans (DX_ax b3), fun k hk => ?_, fun r p => by cases p⟩
            rw [r2, upd_ne (by omega), r0, upd_ne (by omega), upd_ne (by omega), upd_ne (by omega)]
          | true =>
            rw [hd2, if_pos rfl] at b1 b2
            rw [if_pos rfl, hm, loopF_inl a1, loopF_inl b1, loopF_inr (stop _ 3 (by omega) (by omega))]
            refine ⟨_, rfl, b2.dx (by omega), (((x0.trans (DX_ax a3)).trans (DX_sI (Or.inr rfl) ho)).trans (DX_ax b3)).trans (DX_sI (Or.inr rfl) ho), fun k hk => ?_, fun r p => ?_⟩
            · rw [row_sI, upd_ne (by omega), r2, upd_ne (by omega), r0, upd_ne (by omega), upd_ne (by omega), upd_ne (by omega)]
            · cases p
              rw [row_sI, r2, r0]
              exact ⟨by rw [upd_ne (by omega), upd_ne (by omega), upd_ne (by omega), upd_ne (by omega), upd_self], by rw [upd_ne (by omega), upd_self], by rw [upd_self]⟩
