/-! laws: the class reads conditions -/
theorem atP_sk {X : Tx} {L : Nat} {S : Option (Nat → Res)} {i : Nat} : atP X L S (sk X L i) = atP X L S i := by
  unfold atP
  rw [sk_sk, nbP_sk]
theorem chP_sk {X : Tx} {L : Nat} {op : Nat → Bool} {P : Nat → Res} {i : Nat} (h : P (sk X L i) = P i) : chP X L op P (sk X L i) = chP X L op P i := by
  unfold chP
  rw [h]
theorem suP_sk {X : Tx} {L r i : Nat} : suP X L r (sk X L i) = suP X L r i := by
  rw [suP_e]
  exact chP_sk (chP_sk (by unfold atS; exact atP_sk))
theorem cmP_sk {X : Tx} {L r i : Nat} : cmP X L r (sk X L i) = cmP X L r i := by
  unfold cmP
  rw [suP_sk]
theorem unP_sk {X : Tx} {L r i : Nat} : unP X L r (sk X L i) = unP X L r i := by
  cases r with
  | zero => unfold unP; rw [sk_sk, cmP_sk]
  | succ r => unfold unP; rw [sk_sk, cmP_sk]
theorem coP_sk {X : Tx} {L r i : Nat} : coP X L r (sk X L i) = coP X L r i := chP_sk (chP_sk unP_sk)
theorem Law_isComparison (σ : Mem) (o c : Nat) (hc : c < 256) : f_Law_isComparison σ o (nI c) = some (b01 (isC c)) := by
  unfold f_Law_isComparison isC
  rw [show (61 : Int32) = nI 61 from rfl, show (60 : Int32) = nI 60 from rfl, show (62 : Int32) = nI 62 from rfl, ifs hc (by omega), ifs hc (by omega), ifs hc (by omega)]
  by_cases q1 : c = 61
  · rw [if_pos q1, decide_eq_true q1]; rfl
  · rw [if_neg q1, decide_eq_false q1]
    by_cases q2 : c = 60
    · rw [if_pos q2, decide_eq_true q2]; rfl
    · rw [if_neg q2, decide_eq_false q2]
      by_cases q3 : c = 62
      · rw [if_pos q3, decide_eq_true q3]; rfl
      · rw [if_neg q3, decide_eq_false q3]; rfl
theorem cmF_c {X : Tx} {L o r i : Nat} {c pre : List Int32} {d : Den} {σ : Mem} (hx : okX X L) (ho : 2 < o) (hr : r ≤ 6) (hi : i ≤ L) (hl : (pre ++ c).length ≤ i) (h : CL X L o i (pre ++ c) σ) : ∃ σ', f_Law_comparisonReads σ o (nI (6 - r)) = some (is1 (cmF X L r c d i).2, σ') ∧ CAt X L (cmF X L r c d i).1 σ' ∧ DX o σ σ' ∧ ∀ s, (cmF X L r c d i).2 = some s → CL X L o (cmF X L r c d i).1 (pre ++ s.1) σ' := by
  have h240 := hx.1
  have a := sk_ge X L i
  have b := sk_le (X := X) hi
  obtain ⟨σ1, g1, g2, g3⟩ := Tape_sign hx h.1 hi
  have s256 := sg_256 (i := sk X L i) hx
  have h1 := h.ax ho g3 g2
  unfold f_Law_comparisonReads cmF
  rw [g1, Option.bind_some]
  dsimp only
  rw [Law_isComparison _ _ _ s256, Option.bind_some]
  cases q : isC (sg X L (sk X L i)) with
  | false =>
    rw [if_pos (show b01 false = 0 from rfl), if_neg (by decide)]
    exact ⟨σ1, rfl, g2, DX_ax g3, fun s p => by cases p⟩
  | true =>
    have lt := sg_lt (X := X) (L := L) (i := sk X L i) (isC_0 q).1
    have h2 : CL X L o (sk X L i + 1) (pre ++ c) (sI σ1 1 2 (nI (sk X L i + 1))) := h1.ax ho (AX_sI (Or.inl rfl)) g2.to
    obtain ⟨σ2, k1, k2, k3, k4⟩ := LS_all hx ho r hr 24 (by omega) (sk X L i + 1) (pre ++ c) _ (by omega) (by omega) h2
    obtain ⟨p1, p2⟩ := suP_ok X L r (sk X L i + 1) (by omega)
    have dx : DX o σ σ2 := (DX_ax (g3.trans (AX_sI (Or.inl rfl)))).trans k3
    dsimp only at k1
    rw [if_neg (show ¬ b01 true = 0 by decide), if_pos rfl, g2.2.1, nI_1, k1, Option.bind_some]
    dsimp only
    cases hs : (suP X L r (sk X L i + 1)).2 with
    | none =>
      rw [if_pos is1_none]
      exact ⟨σ2, rfl, k2, dx, fun s p => by cases p⟩
    | some x =>
      obtain ⟨p3, p4⟩ := p2 x hs
      have h3 := k4 x hs
      obtain ⟨σ3, w1, w2, w3⟩ := h3.put (v := -(nI (sg X L (sk X L i)))) ho (by rw [List.length_append]; omega)
      rw [if_neg (is1_some x), w1, Option.bind_some]
      refine ⟨σ3, rfl, w2.1, dx.trans w3, fun s p => ?_⟩
      cases p
      have ea : pre ++ c ++ x.1 ++ [-(nI (sg X L (sk X L i)))] = pre ++ (c ++ x.1 ++ [-(nI (sg X L (sk X L i)))]) := by simp
      rw [ea] at w2
      exact w2
theorem unit_c {X : Tx} {L o n r : Nat} (hx : okX X L) (ho : 2 < o) (hr6 : r ≤ 6) (hU : ∀ r', r = r' + 1 → CCon X L o (unP X L r') (fun σ => f_LC n 4 σ o (nI (6 - r')))) (hC : ∀ r', r = r' + 1 → CCon X L o (coP X L r') (fun σ => f_LC n 0 σ o (nI (6 - r')))) : CCon X L o (unP X L r) (fun σ => f_LC (n + 1) 4 σ o (nI (6 - r))) := by
  have h240 := hx.1
  intro i cs σ hi hl h
  have a := sk_ge X L i
  have b := sk_le (X := X) hi
  obtain ⟨σ1, g1, g2, g3⟩ := Tape_sign hx h.1 hi
  have s256 := sg_256 (i := sk X L i) hx
  have h1 := h.ax ho g3 g2
  show ∃ σ', f_Law_unitReads (f_LC n) σ o (nI (6 - r)) = _ ∧ _
  have cmp : ¬ (sg X L (sk X L i) = 33 ∨ sg X L (sk X L i) = 40) → ∃ σ', f_Law_unitReads (f_LC n) σ o (nI (6 - r)) = some (is1 (cmP X L r i).2, σ') ∧ CAt X L (cmP X L r i).1 σ' ∧ DX o σ σ' ∧ ∀ s, (cmP X L r i).2 = some s → CL X L o (cmP X L r i).1 (cs ++ s.1) σ' := fun q => by
    obtain ⟨σ2, k1, k2, k3, k4⟩ := LS_all hx ho r hr6 24 (by omega) (sk X L i) cs σ1 b (by omega) h1
    rw [suP_sk] at k1 k2 k4
    dsimp only at k1
    obtain ⟨p1, p2⟩ := suP_ok X L r i hi
    unfold f_Law_unitReads
    rw [g1, Option.bind_some]
    dsimp only
    rw [show (33 : Int32) = nI 33 from rfl, show (40 : Int32) = nI 40 from rfl, ifs s256 (by omega), ifs s256 (by omega), if_neg (fun z => q (Or.inl z)), if_neg (fun z => q (Or.inr z)), k1, Option.bind_some]
    dsimp only
    unfold cmP
    cases hs : (suP X L r i).2 with
    | none =>
      rw [if_pos is1_none]
      exact ⟨σ2, rfl, k2, (DX_ax g3).trans k3, fun s p => by cases p⟩
    | some x =>
      obtain ⟨p3, p4⟩ := p2 x hs
      obtain ⟨σ3, w1, w2, w3, w4⟩ := cmF_c (r := r) (d := x.2) hx ho hr6 p1 (by rw [List.length_append]; omega) (k4 x hs)
      rw [if_neg (is1_some x), w1, Option.bind_some]
      dsimp only
      refine ⟨σ3, ?_, w2, ((DX_ax g3).trans k3).trans w3, w4⟩
      cases (cmF X L r x.1 x.2 (suP X L r i).1).2 with
      | none => rfl
      | some y => rfl
  cases r with
  | zero =>
    unfold unP
    by_cases q : sg X L (sk X L i) = 33 ∨ sg X L (sk X L i) = 40
    · rw [if_pos q]
      have e : f_Law_unitReads (f_LC n) σ o (nI (6 - 0)) = some ((0 : Int32), σ1) := by
        unfold f_Law_unitReads f_Law_unitReads_J41
        rw [g1, Option.bind_some]
        dsimp only
        rw [if_neg (show ¬ nI (6 - 0) < (6 : Int32) by decide), show (33 : Int32) = nI 33 from rfl, show (40 : Int32) = nI 40 from rfl, ifs s256 (by omega), ifs s256 (by omega)]
        rcases q with q | q
        · rw [if_pos q]
        · rw [if_neg (by omega), if_pos q]
      rw [e]
      exact ⟨σ1, rfl, g2, DX_ax g3, fun s p => by cases p⟩
    · rw [if_neg q]
      exact cmp q
  | succ r =>
    unfold unP
    have h2 : sg X L (sk X L i) ≠ 0 → CL X L o (sk X L i + 1) cs (sI σ1 1 2 (nI (sk X L i + 1))) := fun _ => h1.ax ho (AX_sI (Or.inl rfl)) g2.to
    have j41 : ∀ y, f_Law_unitReads_J41 (f_LC n) σ1 o (nI (6 - (r + 1))) y = if y = (40 : Int32) then ((f_LC n 0 (sI σ1 1 2 (nI (sk X L i + 1))) o (nI (6 - r))).bind fun q8 => if q8.1 = (0 : Int32) then some ((0 : Int32), q8.2) else (f_Tape_passes q8.2 (41 : Int32)).bind fun q10 => if q10.1 = (0 : Int32) then some ((0 : Int32), q10.2) else some ((1 : Int32), q10.2)) else (f_LC n 4 (sI σ1 1 2 (nI (sk X L i + 1))) o (nI (6 - r))).bind fun q5 => if q5.1 = (0 : Int32) then some ((0 : Int32), q5.2) else (f_Law_put q5.2 o (-33 : Int32)).bind fun q7 => some ((1 : Int32), q7) := fun y => by
      unfold f_Law_unitReads_J41
      rw [if_pos (show nI (6 - (r + 1)) < (6 : Int32) from nI_lt (b := 6) (by omega) (by omega)), g2.2.1, nI_1, nI_1, show 6 - (r + 1) + 1 = 6 - r by omega]
    by_cases q1 : sg X L (sk X L i) = 33
    · have lt := sg_lt (X := X) (L := L) (i := sk X L i) (by omega)
      obtain ⟨σ2, k1, k2, k3, k4⟩ := hU r rfl (sk X L i + 1) cs _ (by omega) (by omega) (h2 (by omega))
      dsimp only at k1
      obtain ⟨p1, p2⟩ := unP_ok X L r (sk X L i + 1) (by omega)
      have dx : DX o σ σ2 := (DX_ax (g3.trans (AX_sI (Or.inl rfl)))).trans k3
      have e : f_Law_unitReads (f_LC n) σ o (nI (6 - (r + 1))) = (if is1 (unP X L r (sk X L i + 1)).2 = (0 : Int32) then some ((0 : Int32), σ2) else (f_Law_put σ2 o (-33 : Int32)).bind fun q7 => some ((1 : Int32), q7)) := by
        unfold f_Law_unitReads
        rw [g1, Option.bind_some]
        dsimp only
        rw [j41, q1, if_pos (show nI 33 = (33 : Int32) from rfl), if_neg (show ¬ nI 33 = (40 : Int32) by decide), k1, Option.bind_some]
      rw [e, if_pos q1]
      unfold ngP
      cases hs : (unP X L r (sk X L i + 1)).2 with
      | none =>
        rw [if_pos is1_none]
        exact ⟨σ2, rfl, k2, dx, fun s p => by cases p⟩
      | some x =>
        obtain ⟨p3, p4⟩ := p2 x hs
        obtain ⟨σ3, w1, w2, w3⟩ := (k4 x hs).put (v := -(nI 33)) ho (by rw [List.length_append]; omega)
        rw [if_neg (is1_some x), show (-33 : Int32) = -(nI 33) from rfl, w1, Option.bind_some]
        refine ⟨σ3, rfl, w2.1, dx.trans w3, fun s p => ?_⟩
        cases p
        rw [List.append_assoc] at w2
        exact w2
    · rw [if_neg q1]
      by_cases q2 : sg X L (sk X L i) = 40
      · have lt := sg_lt (X := X) (L := L) (i := sk X L i) (by omega)
        obtain ⟨σ2, k1, k2, k3, k4⟩ := thn_c (c := 41) hx ho (by omega) (coP_ok X L r) (hC r rfl) (sk X L i + 1) cs _ (by omega) (by omega) (h2 (by omega))
        rw [if_pos q2]
        refine ⟨σ2, ?_, k2, (DX_ax (g3.trans (AX_sI (Or.inl rfl)))).trans k3, k4⟩
        unfold f_Law_unitReads
        rw [g1, Option.bind_some]
        dsimp only
        rw [j41, q2, if_neg (show ¬ nI 40 = (33 : Int32) by decide), if_pos (show nI 40 = (40 : Int32) from rfl), if_pos (show nI 40 = (40 : Int32) from rfl)]
        exact k1
      · rw [if_neg q2]
        exact cmp (by omega)
/-- what goes on behind a first one -/
def CGo (X : Tx) (L o : Nat) (op : Nat → Bool) (P : Nat → Res) (F : Mem → Option (Int32 × Mem)) : Prop := ∀ c d i pre τ, i ≤ L → (pre ++ c).length ≤ i → CL X L o i (pre ++ c) τ → ∃ σ', F τ = some (is1 (chF X L op P 240 c d i).2, σ') ∧ CAt X L (chF X L op P 240 c d i).1 σ' ∧ DX o τ σ' ∧ ∀ r, (chF X L op P 240 c d i).2 = some r → CL X L o (chF X L op P 240 c d i).1 (pre ++ r.1) σ'
theorem passes_as {τ : Mem} {τ1 : Mem} {c k : Nat} (hc : c < 256) (hk : k < 256) {p : Nat} (g1 : f_Tape_sign τ = some (nI c, τ1)) (g2 : mI τ1 1 2 = nI p) : f_Tape_passes τ (nI k) = if c = k then some ((1 : Int32), sI τ1 1 2 (nI (p + 1))) else some ((0 : Int32), τ1) := by
  unfold f_Tape_passes
  rw [g1, Option.bind_some]
  dsimp only
  rw [ifs hc hk, g2, nI_1]
theorem LC_e3 (n : Nat) (σ : Mem) (o : Nat) (x : Int32) : f_LC (n + 1) 3 σ o x = f_Law_truthGoesOn (f_LC n) σ o x := by
  rw [f_LC]
  exact (if_neg (show ¬ (3 : Nat) = 0 by decide)).trans ((if_neg (show ¬ (3 : Nat) = 1 by decide)).trans ((if_neg (show ¬ (3 : Nat) = 2 by decide)).trans (if_pos rfl)))
theorem LC_e1 (n : Nat) (σ : Mem) (o : Nat) (x : Int32) : f_LC (n + 1) 1 σ o x = f_Law_conditionGoesOn (f_LC n) σ o x := by
  rw [f_LC]
  exact (if_neg (show ¬ (1 : Nat) = 0 by decide)).trans (if_pos rfl)
theorem and_go {X : Tx} {L o n r : Nat} {x2 : Int32} (hx : okX X L) (ho : 2 < o) (hG : CCon X L o (unP X L r) (fun σ => f_LC n 4 σ o x2)) : CGo X L o opA (unP X L r) (fun σ => f_LC (n + 1) 3 σ o x2) := fun c d i pre τ hi hl h => by
  dsimp only
  rw [LC_e3]
  unfold f_Law_truthGoesOn
  refine chain_go (G := fun σ => f_LC n 4 σ o x2) (stp := f_Law_truthGoesOn_L2 (f_LC n) o x2) hx ho (by decide) (unP_ok X L r) hG (fun τ z i τ1 hz hi h g1 g2 => ?_) (fun τ => ?_) 240 0 c d i pre τ rfl hi hl h FU (by unfold FU; omega)
  · have s256 := sg_256 (i := sk X L i) hx
    unfold f_Law_truthGoesOn_L2
    dsimp only
    rw [if_neg (show ¬ (240 : Int32) ≤ nI z from nI_ge (b := 240) hz (by omega)), show (38 : Int32) = nI 38 from rfl, passes_as s256 (by omega) g1 g2.2.1]
    unfold opA
    by_cases q : sg X L (sk X L i) = 38
    · rw [if_pos q, decide_eq_true q, if_pos rfl, Option.bind_some]
      dsimp only
      rw [if_neg (show ¬ (1 : Int32) = 0 by decide), nI_1, q]
    · rw [if_neg q, decide_eq_false q, if_neg (by decide), Option.bind_some]
      dsimp only
      rw [if_pos rfl]
  · unfold f_Law_truthGoesOn_L2
    dsimp only
    rw [if_pos (show (240 : Int32) ≤ nI 240 by decide)]
theorem or_go {X : Tx} {L o n r : Nat} {x2 : Int32} (hx : okX X L) (ho : 2 < o) (hG : CCon X L o (trP X L r) (fun σ => f_LC n 2 σ o x2)) : CGo X L o opO (trP X L r) (fun σ => f_LC (n + 1) 1 σ o x2) := fun c d i pre τ hi hl h => by
  dsimp only
  rw [LC_e1]
  unfold f_Law_conditionGoesOn
  refine chain_go (G := fun σ => f_LC n 2 σ o x2) (stp := f_Law_conditionGoesOn_L2 (f_LC n) o x2) hx ho (by decide) (trP_ok X L r) hG (fun τ z i τ1 hz hi h g1 g2 => ?_) (fun τ => ?_) 240 0 c d i pre τ rfl hi hl h FU (by unfold FU; omega)
  · have s256 := sg_256 (i := sk X L i) hx
    unfold f_Law_conditionGoesOn_L2
    dsimp only
    rw [if_neg (show ¬ (240 : Int32) ≤ nI z from nI_ge (b := 240) hz (by omega)), show (124 : Int32) = nI 124 from rfl, passes_as s256 (by omega) g1 g2.2.1]
    unfold opO
    by_cases q : sg X L (sk X L i) = 124
    · rw [if_pos q, decide_eq_true q, if_pos rfl, Option.bind_some]
      dsimp only
      rw [if_neg (show ¬ (1 : Int32) = 0 by decide), nI_1, q]
    · rw [if_neg q, decide_eq_false q, if_neg (by decide), Option.bind_some]
      dsimp only
      rw [if_pos rfl]
  · unfold f_Law_conditionGoesOn_L2
    dsimp only
    rw [if_pos (show (240 : Int32) ≤ nI 240 by decide)]
/-- a first one, and what goes on behind it -/
theorem first_go {X : Tx} {L o : Nat} {op : Nat → Bool} {P : Nat → Res} {G1 H F : Mem → Option (Int32 × Mem)} (hP : okP L P) (hG1 : CCon X L o P G1) (hH : CGo X L o op P H) (hF : ∀ σ, F σ = (G1 σ).bind fun q1 => if q1.1 = (0 : Int32) then some ((0 : Int32), q1.2) else (H q1.2).bind fun q3 => if q3.1 = (0 : Int32) then some ((0 : Int32), q3.2) else some ((1 : Int32), q3.2)) : CCon X L o (chP X L op P) F := by
  intro i cs σ hi hc h
  obtain ⟨σ1, g1, g2, g3, g4⟩ := hG1 i cs σ hi hc h
  obtain ⟨p1, p2⟩ := hP i hi
  unfold chP
  rw [hF, g1, Option.bind_some]
  dsimp only
  cases hr : (P i).2 with
  | none =>
    rw [if_pos is1_none]
    exact ⟨σ1, rfl, g2, g3, fun r p => by cases p⟩
  | some r =>
    obtain ⟨p3, p4⟩ := p2 r hr
    rw [if_neg (is1_some r)]
    obtain ⟨σ', e1, e2, e3, e4⟩ := hH r.1 r.2 (P i).1 cs σ1 p1 (by rw [List.length_append]; omega) (g4 r hr)
    rw [e1, Option.bind_some]
    dsimp only
    refine ⟨σ', ?_, e2, g3.trans e3, e4⟩
    cases (chF X L op P 240 r.1 r.2 (P i).1).2 with
    | none => rfl
    | some y => rfl
theorem LC_all {X : Tx} {L o : Nat} (hx : okX X L) (ho : 2 < o) : ∀ r, r ≤ 6 → (∀ n, 5 * r + 1 ≤ n → CCon X L o (unP X L r) (fun σ => f_LC n 4 σ o (nI (6 - r)))) ∧ (∀ n, 5 * r + 2 ≤ n → CGo X L o opA (unP X L r) (fun σ => f_LC n 3 σ o (nI (6 - r)))) ∧ (∀ n, 5 * r + 3 ≤ n → CCon X L o (trP X L r) (fun σ => f_LC n 2 σ o (nI (6 - r)))) ∧ (∀ n, 5 * r + 4 ≤ n → CGo X L o opO (trP X L r) (fun σ => f_LC n 1 σ o (nI (6 - r)))) ∧ ∀ n, 5 * r + 5 ≤ n → CCon X L o (coP X L r) (fun σ => f_LC n 0 σ o (nI (6 - r))) := by
  have up : ∀ r, (∀ n, 5 * r + 1 ≤ n → CCon X L o (unP X L r) (fun σ => f_LC n 4 σ o (nI (6 - r)))) → (∀ n, 5 * r + 1 ≤ n → CCon X L o (unP X L r) (fun σ => f_LC n 4 σ o (nI (6 - r)))) ∧ (∀ n, 5 * r + 2 ≤ n → CGo X L o opA (unP X L r) (fun σ => f_LC n 3 σ o (nI (6 - r)))) ∧ (∀ n, 5 * r + 3 ≤ n → CCon X L o (trP X L r) (fun σ => f_LC n 2 σ o (nI (6 - r)))) ∧ (∀ n, 5 * r + 4 ≤ n → CGo X L o opO (trP X L r) (fun σ => f_LC n 1 σ o (nI (6 - r)))) ∧ ∀ n, 5 * r + 5 ≤ n → CCon X L o (coP X L r) (fun σ => f_LC n 0 σ o (nI (6 - r))) := fun r h1 => by
    have h2 : ∀ n, 5 * r + 2 ≤ n → CGo X L o opA (unP X L r) (fun σ => f_LC n 3 σ o (nI (6 - r))) := fun n hn => by
      obtain ⟨n, rfl⟩ : ∃ k, n = k + 1 := ⟨n - 1, by omega⟩
      exact and_go hx ho (h1 n (by omega))
    have h3 : ∀ n, 5 * r + 3 ≤ n → CCon X L o (trP X L r) (fun σ => f_LC n 2 σ o (nI (6 - r))) := fun n hn => by
      obtain ⟨n, rfl⟩ : ∃ k, n = k + 1 := ⟨n - 1, by omega⟩
      exact first_go (unP_ok X L r) (h1 n (by omega)) (h2 n (by omega)) fun σ => rfl
    have h4 : ∀ n, 5 * r + 4 ≤ n → CGo X L o opO (trP X L r) (fun σ => f_LC n 1 σ o (nI (6 - r))) := fun n hn => by
      obtain ⟨n, rfl⟩ : ∃ k, n = k + 1 := ⟨n - 1, by omega⟩
      exact or_go hx ho (h3 n (by omega))
    exact ⟨h1, h2, h3, h4, fun n hn => by
      obtain ⟨n, rfl⟩ : ∃ k, n = k + 1 := ⟨n - 1, by omega⟩
      exact first_go (trP_ok X L r) (h3 n (by omega)) (h4 n (by omega)) fun σ => rfl⟩
  intro r
  induction r with
  | zero =>
    intro _
    refine up 0 fun n hn => ?_
    obtain ⟨n, rfl⟩ : ∃ k, n = k + 1 := ⟨n - 1, by omega⟩
    exact unit_c hx ho (by omega) (fun r' p => by omega) (fun r' p => by omega)
  | succ r ih =>
    intro hr
    obtain ⟨i1, i2, i3, i4, i5⟩ := ih (by omega)
    refine up (r + 1) fun n hn => ?_
    obtain ⟨n, rfl⟩ : ∃ k, n = k + 1 := ⟨n - 1, by omega⟩
    refine unit_c hx ho hr (fun r' p => ?_) (fun r' p => ?_)
    · obtain rfl : r = r' := by omega
      exact i1 n (by omega)
    · obtain rfl : r = r' := by omega
      exact i5 n (by omega)
