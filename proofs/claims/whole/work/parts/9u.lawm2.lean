/-! laws: the reference's atoms and conditions -/
theorem am_tab : ∀ c, c < 256 → f_Model_isAmong m00 1 (sgM c) = some (b01 (ltI c).isSome) := by decide +kernel
theorem lc_tab : ∀ q, q < 6 → ltI (lcd q) = some q ∧ lcd q < 128 ∧ 1 ≤ lcd q := by decide
theorem ltI_lcd {c q : Nat} (h : ltI c = some q) : lcd q = c := by
  unfold ltI at h
  repeat' split at h
  all_goals first | (cases h; subst_vars; rfl) | cases h
theorem goesIn_no {X : Tx} {L a b i : Nat} {σ : Mem} (ha : okA a b) (h : MAt X L a b i (-1) (nI 6) σ) : ∃ σ', f_Model_goesIn σ = some (0, σ') ∧ RX σ σ' ∧ MAt X L a b i (nI i) (nI 6) σ' := by
  obtain ⟨σ1, g1, g2, g3⟩ := Model_fails ha h
  refine ⟨σ1, ?_, g3, g2⟩
  unfold f_Model_goesIn
  rw [h.2.2.2.2.2.1, if_pos (show nI 6 = (6 : Int32) from rfl), g1, Option.bind_some]
  dsimp only
  rw [if_pos bzb0]
theorem goesIn_ok {X : Tx} {L a b i dp : Nat} {σ : Mem} (ha : okA a b) (hd : dp < 6) (h : MAt X L a b i (-1) (nI dp) σ) : ∃ σ', f_Model_goesIn σ = some (1, σ') ∧ RX σ σ' ∧ MAt X L a b (i + 1) (-1) (nI (dp + 1)) σ' := by
  refine ⟨sI (sI σ 565 12 (nI (dp + 1))) 565 10 (nI (i + 1)), ?_, (RX_sI (Or.inr (Or.inr rfl))).trans (RX_sI (Or.inl rfl)), (h.dp ha).to ha⟩
  unfold f_Model_goesIn
  rw [h.2.2.2.2.2.1, if_neg (show ¬ nI dp = (6 : Int32) from fun p => by have := (nI_eq (b := 6) (by omega) (by decide)).mp p; omega), nI_1, row_sI _ 565 12, upd_ne (by omega), h.2.2.2.1, nI_1]
/-- in, what stands there, out -/
theorem out_m {X : Tx} {L a b c dp : Nat} {g : Int32 → Prop} {P : Nat → Res} {G : Mem → Option (Int32 × Mem)} {i : Nat} {σ : Mem} (hx : okX X L) (ha : okA a b) (hc : 1 ≤ c) (hc2 : c < 256) (hP : okP L P) (hG : MCon g X L a b P (dp + 1) G) (hi : i ≤ L) (h : MAt X L a b i (-1) (nI (dp + 1)) σ) : ∃ v σ1 q σ2, G σ = some (v, σ1) ∧ g v ∧ f_Model_takes σ1 (nI c) = some (q, σ2) ∧ RX σ σ2 ∧ (∀ r, (thn X L c (P i)).2 = some r → q = 1 ∧ MAt X L a b (thn X L c (P i)).1 (-1) (nI (dp + 1)) σ2 ∧ (bdl (lets σ) → v = r.2 (lets σ))) ∧ ((thn X L c (P i)).2 = none → q = 0 ∧ ∃ j d, MAt X L a b j (nI (thn X L c (P i)).1) d σ2) := by
  have h240 := hx.1
  obtain ⟨v, σ1, g1, g2, g3, g4, g5⟩ := hG i σ hi h
  obtain ⟨p1, p2⟩ := hP i hi
  unfold thn
  cases hr : (P i).2 with
  | none =>
    obtain ⟨j, d, hj⟩ := g5 hr
    refine ⟨v, σ1, 0, σ1, g1, g2, Model_takes_f ha hj (nI_ne_m1 (by omega)), g3, fun r p => (by cases p), fun _ => ⟨rfl, j, d, hj⟩⟩
  | some r =>
    obtain ⟨m1, v1⟩ := g4 r hr
    obtain ⟨σ2, k1, k2, k3⟩ := Model_takes (c := c) hx ha m1 p1 hc hc2
    dsimp only
    by_cases q : sg X L (sk X L (P i).1) = c
    · rw [if_pos q] at k1
      rw [if_pos q, if_pos q] at k2
      rw [if_pos q]
      exact ⟨v, σ1, 1, σ2, g1, g2, k1, g3.trans k3, fun s p => by cases p; exact ⟨rfl, k2, v1⟩, fun p => by cases p⟩
    · rw [if_neg q] at k1
      rw [if_neg q, if_neg q] at k2
      rw [if_neg q]
      exact ⟨v, σ1, 0, σ2, g1, g2, k1, g3.trans k3, fun s p => (by cases p), fun _ => ⟨rfl, _, _, k2⟩⟩
theorem digits_m {X : Tx} {L a b : Nat} {rc : Nat → Mem → Option (Int32 × Mem)} {d : Int32} (hx : okX X L) (ha : okA a b) : ∀ n z v i σ, z + n = 4 → i ≤ L → MAt X L a b i (-1) d σ → ∀ m, n < m → ∃ w σ', loopF (f_Model_atom_L90 rc) m (σ, nI v, nI z) = some (w, σ') ∧ RX σ σ' ∧ (dg X L (ngF X L n v i).2 = false → w = nI (ngF X L n v i).1 ∧ MAt X L a b (ngF X L n v i).2 (-1) d σ') ∧ (dg X L (ngF X L n v i).2 = true → MAt X L a b (ngF X L n v i).2 (nI (ngF X L n v i).2) d σ') := by
  have h240 := hx.1
  intro n
  induction n with
  | zero =>
    intro z v i σ hz hi h m hm
    obtain ⟨m, rfl⟩ : ∃ k, m = k + 1 := ⟨m - 1, by omega⟩
    show ∃ w σ', _ ∧ _ ∧ (dg X L i = false → w = nI v ∧ MAt X L a b i (-1) d σ') ∧ (dg X L i = true → MAt X L a b i (nI i) d σ')
    cases q : dg X L i with
    | false =>
      refine ⟨nI v, σ, loopF_inr ?_, RX.refl _, fun _ => ⟨rfl, h⟩, fun p => by cases p⟩
      unfold f_Model_atom_L90
      dsimp only
      rw [Model_isDigit hx ha h hi, q, Option.bind_some, if_pos (show b01 false = 0 from rfl)]
    | true =>
      obtain ⟨σ1, g1, g2, g3⟩ := Model_fails ha h
      refine ⟨0, σ1, loopF_inr ?_, g3, fun p => (by cases p), fun _ => g2⟩
      unfold f_Model_atom_L90
      dsimp only
      rw [Model_isDigit hx ha h hi, q, Option.bind_some, if_neg (show ¬ b01 true = 0 by decide), h.2.2.2.2.1, if_pos rfl, show z = 4 by omega, if_pos (show nI 4 = (4 : Int32) from rfl), g1, Option.bind_some]
  | succ n ih =>
    intro z v i σ hz hi h m hm
    obtain ⟨m, rfl⟩ : ∃ k, m = k + 1 := ⟨m - 1, by omega⟩
    unfold ngF
    cases q : dg X L i with
    | false =>
      rw [if_neg (by decide)]
      dsimp only
      rw [q]
      refine ⟨nI v, σ, loopF_inr ?_, RX.refl _, fun _ => ⟨rfl, h⟩, fun p => by cases p⟩
      unfold f_Model_atom_L90
      dsimp only
      rw [Model_isDigit hx ha h hi, q, Option.bind_some, if_pos (show b01 false = 0 from rfl)]
    | true =>
      obtain ⟨d1, d2, d3⟩ := dg_t q
      obtain ⟨a1, a2, a3, a4, a5⟩ := ha
      rw [if_pos rfl]
      have tb := (by_tab (X i) (by omega)).2.2.2.2 ⟨d2, d3⟩
      have st : f_Model_atom_L90 rc (σ, nI v, nI z) = some (.inl (sI σ 565 10 (nI (i + 1)), nI (v * 10 + (X i - 48)), nI (z + 1))) := by
        unfold f_Model_atom_L90
        dsimp only
        rw [Model_isDigit hx ⟨a1, a2, a3, a4, a5⟩ h hi, q, Option.bind_some, if_neg (show ¬ b01 true = 0 by decide), h.2.2.2.2.1, if_pos rfl, if_neg (show ¬ nI z = (4 : Int32) from fun p => by have := (nI_eq (b := 4) (by omega) (by decide)).mp p; omega), h.1, if_pos a1, h.2.1, h.2.2.2.1, nI_add, if_pos (inb_nI (show b + i < ln a by omega) (by omega)), nI_clamp (by omega), h.2.2.2.2.2.2 i d1, tb, show (10 : Int32) = nI 10 from rfl, show (48 : Int32) = nI 48 from rfl, pk_mul, nI_add, pk_sub (by omega), nI_1, nI_1, show 10 * v + X i - 48 = v * 10 + (X i - 48) by omega]
      obtain ⟨w, σ', g1, g2, g3, g4⟩ := ih (z + 1) (v * 10 + (X i - 48)) (i + 1) _ (by omega) (by omega) (h.to (j := i + 1) ⟨a1, a2, a3, a4, a5⟩) m (by omega)
      exact ⟨w, σ', (loopF_inl st).trans g1, (RX_sI (Or.inl rfl)).trans g2, g3, g4⟩
theorem atom_m {X : Tx} {L a b n r : Nat} (hx : okX X L) (ha : okA a b) (hr6 : r ≤ 6) (hG : ∀ r', r = r' + 1 → MCon gT1 X L a b (suP X L r') (6 - r') (fun σ => f_MS n 0 σ)) : MCon gT1 X L a b (atS X L r) (6 - r) (fun σ => f_MS (n + 1) 2 σ) := by
  have h240 := hx.1
  intro i σ hi h
  have aa := sk_ge X L i
  have bb := sk_le (X := X) hi
  obtain ⟨σ1, g1, g2, g3⟩ := Model_look hx ha h hi
  have s256 := sg_256 (i := sk X L i) hx
  have lp : ∀ y, f_Model_isAmong σ1 1 y = f_Model_isAmong m00 1 y := fun y => rfl
  show ∃ v σ', f_Model_atom (f_MS n) σ = some (v, σ') ∧ _
  unfold f_Model_atom atS atP
  rw [g1, Option.bind_some]
  dsimp only
  rw [lp, am_tab _ s256, Option.bind_some]
  by_cases q : sg X L (sk X L i) = 91
  · have hn : ltI (sg X L (sk X L i)) = none := by rw [q]; rfl
    have lt := sg_lt (X := X) (L := L) (i := sk X L i) (by omega)
    rw [hn, if_pos (show b01 (none : Option Nat).isSome = 0 from rfl), show (91 : Int32) = nI 91 from rfl, sgif s256 (by omega) (by omega), if_pos q, if_pos q]
    cases r with
    | zero =>
      obtain ⟨σ2, k1, k2, k3⟩ := goesIn_no ha g2
      rw [k1, Option.bind_some]
      dsimp only
      rw [if_pos rfl]
      exact ⟨0, σ2, rfl, trivial, g3.trans k2, fun r p => (by cases p), fun _ => ⟨_, _, k3⟩⟩
    | succ r =>
      obtain ⟨σ2, k1, k2, k3⟩ := goesIn_ok ha (show 6 - (r + 1) < 6 by omega) g2
      have e6 : 6 - (r + 1) + 1 = 6 - r := by omega
      have hG' := hG r rfl
      rw [← e6] at hG'
      obtain ⟨v, σ3, qv, σ4, p1, p2, p3, p4, p5, p6⟩ := out_m (c := 93) hx ha (by omega) (by omega) (suP_ok X L r) hG' (by omega) k3
      rw [k1, Option.bind_some]
      dsimp only
      rw [if_neg (show ¬ (1 : Int32) = 0 by decide), p1, Option.bind_some]
      dsimp only
      rw [show (93 : Int32) = nI 93 from rfl, p3, Option.bind_some]
      dsimp only
      have el : lets σ2 = lets σ := (lets_rx k2).trans (lets_rx g3)
      cases ht : (thn X L 93 (suP X L r (sk X L i + 1))).2 with
      | none =>
        obtain ⟨z1, j, d, z2⟩ := p6 ht
        rw [z1, if_pos rfl]
        exact ⟨0, σ4, rfl, trivial, (g3.trans k2).trans p4, fun r p => (by cases p), fun _ => ⟨j, d, z2⟩⟩
      | some y =>
        obtain ⟨z1, z2, z3⟩ := p5 y ht
        rw [z1, if_neg (show ¬ (1 : Int32) = 0 by decide), z2.2.2.2.2.2.1, z_sub1 (by omega), Nat.add_sub_cancel]
        refine ⟨v, _, rfl, trivial, ((g3.trans k2).trans p4).trans (RX_sI (Or.inr (Or.inr rfl))), fun r p => ?_, fun p => (by cases p)⟩
        cases p
        rw [el] at z3
        exact ⟨z2.dp ha, z3⟩
  · rw [if_neg q]
    cases hq : ltI (sg X L (sk X L i)) with
    | some k =>
      have lt := sg_lt (X := X) (L := L) (i := sk X L i) (ltI_6 hq).2.1
      have l1 := ltI_lcd hq
      have l2 := lc_tab k (ltI_6 hq).1
      have e : sgM (sg X L (sk X L i)) = nI (sg X L (sk X L i)) := by unfold sgM; rw [if_neg (ltI_6 hq).2.1]
      rw [if_neg (show ¬ b01 (some k).isSome = 0 from (by decide : ¬ b01 true = 0)), e, if_pos (inb_nI (show sg X L (sk X L i) < 128 by omega) (by decide)), nI_clamp (by omega), g2.2.2.2.1, nI_1, row_ne (show (569 : Nat) ≠ 565 by omega), g3.1 569 (by omega)]
      refine ⟨_, _, rfl, trivial, g3.trans (RX_sI (Or.inl rfl)), fun r p => ?_, fun p => (by cases p)⟩
      cases p
      refine ⟨g2.to ha, fun _ => ?_⟩
      show _ = mI σ 569 (lcd k)
      rw [l1]
    | none =>
      rw [if_pos (show b01 (none : Option Nat).isSome = 0 from rfl), show (91 : Int32) = nI 91 from rfl, sgif s256 (by omega) (by omega), if_neg q, Model_isDigit hx ha g2 bb, Option.bind_some]
      dsimp only
      unfold nbP
      cases hd : dg X L (sk X L i) with
      | false =>
        obtain ⟨σ2, k1, k2, k3⟩ := Model_fails ha g2
        rw [if_pos (show b01 false = 0 from rfl), if_neg (by decide), k1, Option.bind_some]
        dsimp only
        have st : f_Model_atom_L90 (f_MS n) (σ2, (0 : Int32), (0 : Int32)) = some (.inr ((0 : Int32), σ2)) := by
          unfold f_Model_atom_L90
          dsimp only
          rw [Model_isDigit hx ha k2 bb, hd, Option.bind_some, if_pos (show b01 false = 0 from rfl)]
        obtain ⟨m, hm⟩ := FU_at 1 (by omega)
        rw [hm, loopF_inr st]
        exact ⟨0, σ2, rfl, trivial, g3.trans k3, fun r p => (by cases p), fun _ => ⟨_, _, k2⟩⟩
      | true =>
        obtain ⟨w, σ2, k1, k2, k3, k4⟩ := digits_m (rc := f_MS n) hx ha 4 0 0 (sk X L i) σ1 rfl bb g2 FU (by unfold FU; omega)
        rw [if_neg (show ¬ b01 true = 0 by decide), if_pos rfl]
        refine ⟨w, σ2, k1, trivial, g3.trans k2, fun r p => ?_, fun p => ?_⟩
        · cases hk : dg X L (ngF X L 4 0 (sk X L i)).2 with
          | true => rw [hk, if_pos rfl] at p; cases p
          | false =>
            rw [hk, if_neg (by decide)] at p
            rw [if_neg (by decide)]
            cases p
            obtain ⟨e1, e2⟩ := k3 hk
            exact ⟨e2, fun _ => e1⟩
        · cases hk : dg X L (ngF X L 4 0 (sk X L i)).2 with
          | true => rw [if_pos rfl]; exact ⟨_, _, k4 hk⟩
          | false => rw [hk, if_neg (by decide)] at p; cases p
theorem MS_all {X : Tx} {L a b : Nat} (hx : okX X L) (ha : okA a b) : ∀ r, r ≤ 6 → ∀ n, 3 * r + 3 ≤ n → MCon gT1 X L a b (suP X L r) (6 - r) (fun σ => f_MS n 0 σ) := by
  intro r
  induction r with
  | zero =>
    intro _ n hn
    obtain ⟨n, rfl⟩ : ∃ k, n = k + 3 := ⟨n - 3, by omega⟩
    exact sum_m hx ha (term_m hx ha (atom_m hx ha (by omega) fun r' p => by omega))
  | succ r ih =>
    intro hr n hn
    obtain ⟨n, rfl⟩ : ∃ k, n = k + 3 := ⟨n - 3, by omega⟩
    exact sum_m hx ha (term_m hx ha (atom_m hx ha hr fun r' p => by
      obtain rfl : r = r' := by omega
      exact ih (by omega) n (by omega)))
