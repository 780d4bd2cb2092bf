/-! laws: the reference's conditions -/
def g01 (v : Int32) : Prop := v = 0 ∨ v = 1
theorem g01_bz {v : Int32} (h : g01 v) : bzb v = true := by
  rcases h with rfl | rfl
  · decide
  · decide
theorem cl0 : clS 0 = 0 := by decide
theorem cl1 : clS 1 = 1 := by decide
def cmV (s : Nat) (p q : Int32) : Int32 := if s = 61 then (if p = q then 1 else 0) else if s = 60 then (if q ≤ p then 0 else 1) else (if p ≤ q then 0 else 1)
theorem cmV_jo {s : Nat} {p q : Int32} (h : isC s = true) : cmV s p q = jo s p q := by
  rcases (isC_0 h).2 with rfl | rfl | rfl
  · rw [jo61, cl0, cl1]; unfold cmV; rw [if_pos rfl]
  · rw [jo60, cl0, cl1]; unfold cmV; rw [if_neg (show ¬ (60 : Nat) = 61 by decide), if_pos rfl]
  · rw [jo62, cl0, cl1]; unfold cmV; rw [if_neg (show ¬ (62 : Nat) = 61 by decide), if_neg (show ¬ (62 : Nat) = 60 by decide)]
theorem cmV_g (s : Nat) (p q : Int32) : g01 (cmV s p q) := by
  unfold cmV
  repeat' split
  all_goals first | exact Or.inl rfl | exact Or.inr rfl
theorem Model_isSign (σ : Mem) (c : Nat) (hc : c < 256) : f_Model_isSign σ (sgM c) = some (b01 (isC c)) := by
  unfold f_Model_isSign isC
  rw [show (61 : Int32) = nI 61 from rfl, show (60 : Int32) = nI 60 from rfl, show (62 : Int32) = nI 62 from rfl, sgif hc (by omega) (by omega), sgif hc (by omega) (by omega), sgif hc (by omega) (by omega)]
  by_cases q1 : c = 61
  · rw [if_pos q1, decide_eq_true q1]; rfl
  · rw [if_neg q1, decide_eq_false q1]
    by_cases q2 : c = 60
    · rw [if_pos q2, decide_eq_true q2]; rfl
    · rw [if_neg q2, decide_eq_false q2]
      by_cases q3 : c = 62
      · rw [if_pos q3, decide_eq_true q3]; rfl
      · rw [if_neg q3, decide_eq_false q3]; rfl
def tailM (one : Int32) (τ : Mem) : Option (Int32 × Mem) :=
  (f_Model_look τ).bind fun q4 =>
  (f_Model_isSign q4.2 q4.1).bind fun q5 =>
  if q5 = (0 : Int32) then
    (f_Model_fails q4.2).bind fun q13 =>
    if bzb q13.1 then
      some (q13.1, q13.2)
    else none
  else
    (f_MS 24 0 (sI q4.2 565 10 ((mI q4.2 565 10) + (1 : Int32)))).bind fun q7 =>
    if q4.1 = (61 : Int32) then
      if one = q7.1 then
        some ((1 : Int32), q7.2)
      else
        some ((0 : Int32), q7.2)
    else
      if q4.1 = (60 : Int32) then
        if q7.1 ≤ one then
          some ((0 : Int32), q7.2)
        else
          some ((1 : Int32), q7.2)
      else
        if one ≤ q7.1 then
          some ((0 : Int32), q7.2)
        else
          some ((1 : Int32), q7.2)
theorem compares0 (σ : Mem) (x : Int32) : f_Model_compares σ 0 x = (f_MS 24 0 σ).bind fun q2 => if (mI q2.2 565 11) = (-1 : Int32) then tailM q2.1 q2.2 else some ((0 : Int32), q2.2) := by
  unfold f_Model_compares
  rw [if_pos rfl]
  rfl
theorem compares1 (σ : Mem) (x : Int32) : f_Model_compares σ 1 x = if (mI σ 565 11) = (-1 : Int32) then tailM x σ else some ((0 : Int32), σ) := by
  unfold f_Model_compares
  rw [if_neg (show ¬ (1 : Int32) = 0 by decide)]
  rfl
theorem cmF_m {X : Tx} {L a b r i : Nat} {c : List Int32} {d : Den} {one : Int32} {τ : Mem} (hx : okX X L) (ha : okA a b) (hr : r ≤ 6) (hi : i ≤ L) (h : MAt X L a b i (-1) (nI (6 - r)) τ) : ∃ v σ', tailM one τ = some (v, σ') ∧ g01 v ∧ RX τ σ' ∧ (∀ s, (cmF X L r c d i).2 = some s → MAt X L a b (cmF X L r c d i).1 (-1) (nI (6 - r)) σ' ∧ (bdl (lets τ) → one = d (lets τ) → v = s.2 (lets τ))) ∧ ((cmF X L r c d i).2 = none → ∃ j e, MAt X L a b j (nI (cmF X L r c d i).1) e σ') := by
  have bb := sk_le (X := X) hi
  obtain ⟨σ1, g1, g2, g3⟩ := Model_look hx ha h hi
  have s256 := sg_256 (i := sk X L i) hx
  unfold tailM cmF
  rw [g1, Option.bind_some]
  dsimp only
  rw [Model_isSign _ _ s256, Option.bind_some]
  cases q : isC (sg X L (sk X L i)) with
  | false =>
    obtain ⟨σ2, k1, k2, k3⟩ := Model_fails ha g2
    rw [if_pos (show b01 false = 0 from rfl), if_neg (by decide), k1, Option.bind_some]
    dsimp only
    rw [if_pos bzb0]
    exact ⟨0, σ2, rfl, Or.inl rfl, g3.trans k3, fun s p => (by cases p), fun _ => ⟨_, _, k2⟩⟩
  | true =>
    have lt := sg_lt (X := X) (L := L) (i := sk X L i) (isC_0 q).1
    have m1 := g2.to (j := sk X L i + 1) ha
    obtain ⟨w, σ2, k1, -, k3, k4, k5⟩ := MS_all hx ha r hr 24 (by omega) (sk X L i + 1) _ (by omega) m1
    dsimp only at k1
    have el : lets (sI σ1 565 10 (nI (sk X L i + 1))) = lets τ := lets_rx (g3.trans (RX_sI (Or.inl rfl)))
    have e : (if sgM (sg X L (sk X L i)) = (61 : Int32) then (if one = w then some ((1 : Int32), σ2) else some ((0 : Int32), σ2)) else if sgM (sg X L (sk X L i)) = (60 : Int32) then (if w ≤ one then some ((0 : Int32), σ2) else some ((1 : Int32), σ2)) else (if one ≤ w then some ((0 : Int32), σ2) else some ((1 : Int32), σ2))) = some (cmV (sg X L (sk X L i)) one w, σ2) := by
      rw [show (61 : Int32) = nI 61 from rfl, show (60 : Int32) = nI 60 from rfl, sgif s256 (by omega) (by omega), sgif s256 (by omega) (by omega)]
      unfold cmV
      repeat' split
      all_goals rfl
    rw [if_neg (show ¬ b01 true = 0 by decide), if_pos rfl, g2.2.2.2.1, nI_1, k1, Option.bind_some]
    dsimp only
    rw [e]
    refine ⟨_, σ2, rfl, cmV_g _ _ _, (g3.trans (RX_sI (Or.inl rfl))).trans k3, fun s p => ?_, fun p => ?_⟩
    · cases hs : (suP X L r (sk X L i + 1)).2 with
      | none => rw [hs] at p; cases p
      | some x =>
        rw [hs] at p
        cases p
        obtain ⟨n1, n2⟩ := k4 x hs
        refine ⟨n1, fun hb ho => ?_⟩
        rw [el] at n2
        rw [cmV_jo q, ho, n2 hb]
    · cases hs : (suP X L r (sk X L i + 1)).2 with
      | none => exact k5 hs
      | some x => rw [hs] at p; cases p
theorem cmP_m {X : Tx} {L a b r : Nat} (hx : okX X L) (ha : okA a b) (hr : r ≤ 6) : MCon g01 X L a b (cmP X L r) (6 - r) (fun σ => f_Model_compares σ 0 0) := by
  have h240 := hx.1
  intro i σ hi h
  obtain ⟨w, σ1, k1, -, k3, k4, k5⟩ := MS_all hx ha r hr 24 (by omega) i σ hi h
  obtain ⟨p1, p2⟩ := suP_ok X L r i hi
  dsimp only at k1 ⊢
  rw [compares0, k1, Option.bind_some]
  dsimp only
  unfold cmP
  cases hs : (suP X L r i).2 with
  | none =>
    obtain ⟨j, e, hj⟩ := k5 hs
    rw [hj.2.2.2.2.1, if_neg (nI_ne_m1 (by omega))]
    exact ⟨0, σ1, rfl, Or.inl rfl, k3, fun s p => (by cases p), fun _ => ⟨j, e, hj⟩⟩
  | some x =>
    obtain ⟨m1, v1⟩ := k4 x hs
    obtain ⟨v, σ2, n1, n2, n3, n4, n5⟩ := cmF_m (c := x.1) (d := x.2) (one := w) hx ha hr p1 m1
    rw [m1.2.2.2.2.1, if_pos rfl, n1]
    rw [lets_rx k3] at n4
    exact ⟨v, σ2, rfl, n2, k3.trans n3, fun s p => ⟨(n4 s p).1, fun hb => (n4 s p).2 hb (v1 hb)⟩, n5⟩
theorem not_v {v : Int32} (h : g01 v) : (if v = 0 then (1 : Int32) else 0) = (1 : Int32) - v ∧ g01 (if v = 0 then (1 : Int32) else 0) := by
  rcases h with rfl | rfl
  · exact ⟨by decide, Or.inr rfl⟩
  · exact ⟨by decide, Or.inl rfl⟩
theorem unit_m {X : Tx} {L a b n r : Nat} (hx : okX X L) (ha : okA a b) (hr6 : r ≤ 6) (hU : ∀ r', r = r' + 1 → MCon g01 X L a b (unP X L r') (6 - r') (fun σ => f_MC n 2 σ 0 0)) (hC : ∀ r', r = r' + 1 → MCon g01 X L a b (coP X L r') (6 - r') (fun σ => f_MC n 0 σ 0 0)) : MCon g01 X L a b (unP X L r) (6 - r) (fun σ => f_MC (n + 1) 2 σ 0 0) := by
  have h240 := hx.1
  intro i σ hi h
  have aa := sk_ge X L i
  have bb := sk_le (X := X) hi
  obtain ⟨σ1, g1, g2, g3⟩ := Model_look hx ha h hi
  have s256 := sg_256 (i := sk X L i) hx
  show ∃ v σ', f_Model_unit (f_MC n) σ = some (v, σ') ∧ _
  have el := lets_rx g3
  have cmp : ¬ (sg X L (sk X L i) = 33 ∨ sg X L (sk X L i) = 40) → ∃ v σ', f_Model_unit (f_MC n) σ = some (v, σ') ∧ g01 v ∧ RX σ σ' ∧ (∀ s, (cmP X L r i).2 = some s → MAt X L a b (cmP X L r i).1 (-1) (nI (6 - r)) σ' ∧ (bdl (lets σ) → v = s.2 (lets σ))) ∧ ((cmP X L r i).2 = none → ∃ j e, MAt X L a b j (nI (cmP X L r i).1) e σ') := fun q => by
    obtain ⟨v, σ2, n1, n2, n3, n4, n5⟩ := cmP_m hx ha hr6 (sk X L i) σ1 bb g2
    rw [cmP_sk] at n4 n5
    rw [el] at n4
    dsimp only at n1
    refine ⟨v, σ2, ?_, n2, g3.trans n3, n4, n5⟩
    unfold f_Model_unit
    rw [g1, Option.bind_some]
    dsimp only
    rw [show (33 : Int32) = nI 33 from rfl, show (40 : Int32) = nI 40 from rfl, sgif s256 (by omega) (by omega), sgif s256 (by omega) (by omega), if_neg (fun z => q (Or.inl z)), if_neg (fun z => q (Or.inr z)), n1, Option.bind_some]
    dsimp only
    rw [if_pos (g01_bz n2)]
  have e33 : sg X L (sk X L i) = 33 → f_Model_unit (f_MC n) σ = (f_Model_goesIn σ1).bind fun q12 => if q12.1 = (0 : Int32) then some ((0 : Int32), q12.2) else (f_MC n 2 q12.2 0 0).bind fun q14 => if q14.1 = (0 : Int32) then some ((1 : Int32), sI q14.2 565 12 ((mI q14.2 565 12) - (1 : Int32))) else some ((0 : Int32), sI q14.2 565 12 ((mI q14.2 565 12) - (1 : Int32))) := fun q => by
    unfold f_Model_unit
    rw [g1, Option.bind_some]
    dsimp only
    rw [show (33 : Int32) = nI 33 from rfl, sgif s256 (by omega) (by omega), if_pos q]
  have e40 : sg X L (sk X L i) = 40 → f_Model_unit (f_MC n) σ = (f_Model_goesIn σ1).bind fun q6 => if q6.1 = (0 : Int32) then some ((0 : Int32), q6.2) else (f_MC n 0 q6.2 (0 : Int32) (0 : Int32)).bind fun q8 => (f_Model_takes q8.2 (41 : Int32)).bind fun q9 => if q9.1 = (0 : Int32) then some ((0 : Int32), q9.2) else if bzb q8.1 then some (q8.1, sI q9.2 565 12 ((mI q9.2 565 12) - (1 : Int32))) else none := fun q => by
    unfold f_Model_unit
    rw [g1, Option.bind_some]
    dsimp only
    rw [show (33 : Int32) = nI 33 from rfl, show (40 : Int32) = nI 40 from rfl, sgif s256 (by omega) (by omega), sgif s256 (by omega) (by omega), if_neg (by omega), if_pos q]
  cases r with
  | zero =>
    unfold unP
    by_cases q : sg X L (sk X L i) = 33 ∨ sg X L (sk X L i) = 40
    · obtain ⟨σ2, k1, k2, k3⟩ := goesIn_no ha g2
      have e : f_Model_unit (f_MC n) σ = some ((0 : Int32), σ2) := by
        rcases q with q | q
        · rw [e33 q, k1, Option.bind_some]; dsimp only; rw [if_pos rfl]
        · rw [e40 q, k1, Option.bind_some]; dsimp only; rw [if_pos rfl]
      rw [e, if_pos q]
      exact ⟨0, σ2, rfl, Or.inl rfl, g3.trans k2, fun r p => (by cases p), fun _ => ⟨_, _, k3⟩⟩
    · rw [if_neg q]
      exact cmp q
  | succ r =>
    unfold unP
    have e6 : 6 - (r + 1) + 1 = 6 - r := by omega
    by_cases q1 : sg X L (sk X L i) = 33
    · have lt := sg_lt (X := X) (L := L) (i := sk X L i) (by omega)
      obtain ⟨σ2, k1, k2, k3⟩ := goesIn_ok ha (show 6 - (r + 1) < 6 by omega) g2
      rw [e6] at k3
      obtain ⟨v, σ3, n1, n2, n3, n4, n5⟩ := hU r rfl (sk X L i + 1) σ2 (by omega) k3
      dsimp only at n1
      obtain ⟨nv1, nv2⟩ := not_v n2
      have e : f_Model_unit (f_MC n) σ = some (if v = 0 then (1 : Int32) else 0, sI σ3 565 12 ((mI σ3 565 12) - (1 : Int32))) := by
        rw [e33 q1, k1, Option.bind_some]
        dsimp only
        rw [if_neg (show ¬ (1 : Int32) = 0 by decide), n1, Option.bind_some]
        dsimp only
        split <;> rfl
      rw [e, if_pos q1]
      unfold ngP
      refine ⟨_, _, rfl, nv2, ((g3.trans k2).trans n3).trans (RX_sI (Or.inr (Or.inr rfl))), fun s p => ?_, fun p => ?_⟩
      · cases hs : (unP X L r (sk X L i + 1)).2 with
        | none => rw [hs] at p; cases p
        | some x =>
          rw [hs] at p
          cases p
          obtain ⟨m1, v1⟩ := n4 x hs
          rw [lets_rx k2, el] at v1
          refine ⟨?_, fun hb => ?_⟩
          · rw [m1.2.2.2.2.2.1, z_sub1 (by omega), show 6 - r - 1 = 6 - (r + 1) by omega]
            exact m1.dp ha
          · rw [nv1, v1 hb]
      · cases hs : (unP X L r (sk X L i + 1)).2 with
        | none =>
          obtain ⟨j, e, hj⟩ := n5 hs
          exact ⟨j, _, hj.dp ha⟩
        | some x => rw [hs] at p; cases p
    · rw [if_neg q1]
      by_cases q2 : sg X L (sk X L i) = 40
      · have lt := sg_lt (X := X) (L := L) (i := sk X L i) (by omega)
        obtain ⟨σ2, k1, k2, k3⟩ := goesIn_ok ha (show 6 - (r + 1) < 6 by omega) g2
        have hC' := hC r rfl
        rw [← e6] at hC'
        obtain ⟨v, σ3, qv, σ4, p1, p2, p3, p4, p5, p6⟩ := out_m (c := 41) hx ha (by omega) (by omega) (coP_ok X L r) hC' (by omega) k3
        have el2 : lets σ2 = lets σ := (lets_rx k2).trans el
        rw [if_pos q2, e40 q2, k1, Option.bind_some]
        dsimp only
        rw [if_neg (show ¬ (1 : Int32) = 0 by decide), show f_MC n 0 σ2 0 0 = some (v, σ3) from p1, Option.bind_some]
        dsimp only
        rw [show (41 : Int32) = nI 41 from rfl, p3, Option.bind_some]
        dsimp only
        have eco : thn X L 41 (chP X L opO (chP X L opA (unP X L r)) (sk X L i + 1)) = thn X L 41 (coP X L r (sk X L i + 1)) := rfl
        rw [eco]
        cases ht : (thn X L 41 (coP X L r (sk X L i + 1))).2 with
        | none =>
          obtain ⟨z1, j, d, z2⟩ := p6 ht
          rw [z1, if_pos rfl]
          exact ⟨0, σ4, rfl, Or.inl rfl, (g3.trans k2).trans p4, fun r p => (by cases p), fun _ => ⟨j, d, z2⟩⟩
        | some y =>
          obtain ⟨z1, z2, z3⟩ := p5 y ht
          rw [z1, if_neg (show ¬ (1 : Int32) = 0 by decide), if_pos (g01_bz p2), z2.2.2.2.2.2.1, z_sub1 (by omega), Nat.add_sub_cancel]
          refine ⟨v, _, rfl, p2, ((g3.trans k2).trans p4).trans (RX_sI (Or.inr (Or.inr rfl))), fun s p => ?_, fun p => (by cases p)⟩
          cases p
          rw [el2] at z3
          exact ⟨z2.dp ha, z3⟩
      · rw [if_neg q2]
        exact cmp (by omega)
/-! no wrong numbers -/
theorem unP_bd (X : Tx) (L : Nat) : ∀ r, (∀ i s, (unP X L r i).2 = some s → ∀ l, s.2 l ≠ Int32.minValue) ∧ ∀ i s, (unP X L r i).2 = some s → ∀ l, g01 (s.2 l) := by
  have cm : ∀ r i s, (cmP X L r i).2 = some s → ∀ l, g01 (s.2 l) := fun r i s p l => by
    unfold cmP at p
    cases h : (suP X L r i).2 with
    | none => rw [h] at p; cases p
    | some x =>
      rw [h] at p
      dsimp only at p
      unfold cmF at p
      cases q : isC (sg X L (sk X L (suP X L r i).1)) with
      | false => rw [q, if_neg (by decide)] at p; cases p
      | true =>
        rw [q, if_pos rfl] at p
        cases h2 : (suP X L r (sk X L (suP X L r i).1 + 1)).2 with
        | none => rw [h2] at p; cases p
        | some y =>
          rw [h2] at p
          cases p
          show g01 (jo _ _ _)
          rw [← cmV_jo q]
          exact cmV_g _ _ _
  have jo01 : ∀ op : Nat → Bool, (∀ s, op s = true → s = 38 ∨ s = 124) → ∀ s v w, op s = true → g01 v → g01 w → g01 (jo s v w) := fun op ho s v w h hv hw => by
    rcases ho s h with rfl | rfl <;> rcases hv with rfl | rfl <;> rcases hw with rfl | rfl <;> first | (left; decide) | (right; decide)
  have ch : ∀ op : Nat → Bool, (∀ s, op s = true → s = 38 ∨ s = 124) → ∀ P : Nat → Res, (∀ i s, (P i).2 = some s → ∀ l, g01 (s.2 l)) → ∀ i s, (chP X L op P i).2 = some s → ∀ l, g01 (s.2 l) := fun op ho P hP => by
    have go : ∀ n c d i, (∀ l, g01 (d l)) → ∀ r, (chF X L op P n c d i).2 = some r → ∀ l, g01 (r.2 l) := by
      intro n
      induction n with
      | zero => intro c d i _ r p; cases p
      | succ n ih =>
        intro c d i hd r p
        unfold chF at p
        cases q : op (sg X L (sk X L i)) with
        | false => rw [q, if_neg (by decide)] at p; cases p; exact hd
        | true =>
          rw [q, if_pos rfl] at p
          cases h : (P (sk X L i + 1)).2 with
          | none => rw [h] at p; cases p
          | some x => rw [h] at p; exact ih _ _ _ (fun l => jo01 op ho _ _ _ q (hd l) (hP _ x h l)) r p
    intro i s p
    unfold chP at p
    cases h : (P i).2 with
    | none => rw [h] at p; cases p
    | some x => rw [h] at p; exact go 240 x.1 x.2 _ (hP i x h) s p
  have hA : ∀ s, opA s = true → s = 38 ∨ s = 124 := fun s h => Or.inl (of_decide_eq_true h)
  have hO : ∀ s, opO s = true → s = 38 ∨ s = 124 := fun s h => Or.inr (of_decide_eq_true h)
  have key : ∀ r i s, (unP X L r i).2 = some s → ∀ l, g01 (s.2 l) := by
    intro r
    induction r with
    | zero =>
      intro i s p
      unfold unP at p
      split at p
      · cases p
      · exact cm 0 i s p
    | succ r ih =>
      intro i s p
      unfold unP at p
      split at p
      · unfold ngP at p
        cases h : (unP X L r (sk X L i + 1)).2 with
        | none => rw [h] at p; cases p
        | some x =>
          rw [h] at p
          cases p
          intro l
          show g01 ((1 : Int32) - x.2 l)
          have := not_v (ih _ x h l)
          rw [← this.1]
          exact this.2
      · split at p
        · exact ch opO hO _ (ch opA hA _ ih) _ s (thn_some p)
        · exact cm (r + 1) i s p
  intro r
  refine ⟨fun i s p l => ?_, key r⟩
  rcases key r i s p l with h | h <;> rw [h] <;> decide
