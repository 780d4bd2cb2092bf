/-! a city told: the class reads it whole -/
theorem city_go {X : Tx} {L c : Nat} (hx : okX X L) (hc : c = 430 ∨ c = 536) : ∀ f s i n σ, f + n = 16 → i ≤ L → CAt X L i σ → CCi c s σ → okCi s → ∀ m, f < m → ∃ e, loopF (f_City_read_L35 c) m (σ, nI n) = some e ∧ Sum.elim (fun τ => ∃ s', CAt X L (ciF X L f s i).1 τ ∧ CCi c s' τ ∧ okCi s' ∧ (ciF X L f s i).2 = (if 0 < s'.2.1.1 ∧ 0 < s'.2.1.2 then some s' else none) ∧ C4 c σ τ) (fun r : Int32 × Mem => r.1 = nI (ciF X L f s i).1 ∧ (ciF X L f s i).2 = none ∧ C4 c σ r.2) e := by
  intro f
  induction f with
  | zero =>
    intro s i n σ hf hi h hs ho m hm
    obtain ⟨m, rfl⟩ : ∃ k, m = k + 1 := ⟨m - 1, by omega⟩
    refine ⟨.inr (nI i, σ), loopF_inr ?_, rfl, rfl, C4.refl _ _⟩
    unfold f_City_read_L35
    dsimp only
    rw [if_pos (show (15 : Int32) < nI n from nI_lt (a := 15) (by omega) (by omega)), h.2.1]
  | succ f ih =>
    intro s i n σ hf hi h hs ho m hm
    obtain ⟨m, rfl⟩ : ∃ k, m = k + 1 := ⟨m - 1, by omega⟩
    obtain ⟨σ1, g1, g2, g3, g4⟩ := City_clause hx hc h hi hs ho
    obtain ⟨c1, c2⟩ := clP_ok hx hi ho
    have z15 : ¬ (15 : Int32) < nI n := nI_nlt (a := 15) (by omega) (by omega)
    unfold ciF
    cases hq : (clP X L s i).2 with
    | none =>
      rw [hq] at g1
      refine ⟨.inr (nI (clP X L s i).1, σ1), loopF_inr ?_, rfl, rfl, g3⟩
      unfold f_City_read_L35
      dsimp only
      rw [if_neg z15, g1, Option.bind_some]
      dsimp only
      rw [if_pos (show is1 (none : Option ciT) = 0 from rfl), g2.2.1]
    | some s' =>
      rw [hq] at g1
      have hs' := g4 s' hq
      obtain ⟨d1, d2, d3, d4, d5⟩ := c2 s' hq
      have s256 := sg_256 (i := sk X L (clP X L s i).1) hx
      obtain ⟨σ2, k1, k2, k3⟩ := Tape_sign hx g2 c1
      rw [d4] at k1 k2 s256
      dsimp only
      rw [d4]
      rcases d5 with d5 | d5
      · rw [if_pos d5]
        refine ⟨.inl σ2, loopF_inr ?_, s', k2, hs'.ax (by omega) k3, d1, rfl, g3.trans (C4_ax k3)⟩
        unfold f_City_read_L35
        dsimp only
        rw [if_neg z15, g1, Option.bind_some]
        dsimp only
        rw [if_neg (show ¬ is1 (some s') = 0 from (by decide : ¬ (1 : Int32) = 0)), k1, Option.bind_some]
        dsimp only
        rw [if_pos (show nI (sg X L (clP X L s i).1) = 0 by rw [d5]; rfl)]
      · have lt := sg_lt (X := X) (L := L) (i := (clP X L s i).1) (by omega)
        obtain ⟨σ3, p1, p2, p3⟩ := Tape_passes (c := 59) hx k2 c1 (by omega)
        rw [d4, if_pos d5] at p1 p2
        rw [if_neg (by omega), if_pos d5]
        have st : f_City_read_L35 c (σ, nI n) = some (.inl (σ3, nI (n + 1))) := by
          unfold f_City_read_L35
          dsimp only
          rw [if_neg z15, g1, Option.bind_some]
          dsimp only
          rw [if_neg (show ¬ is1 (some s') = 0 from (by decide : ¬ (1 : Int32) = 0)), k1, Option.bind_some]
          dsimp only
          rw [if_neg (nI_ne0 (by omega) (by omega)), show (59 : Int32) = nI 59 from rfl, p1, Option.bind_some]
          dsimp only
          rw [if_neg (show ¬ (1 : Int32) = 0 by decide), nI_1]
        obtain ⟨e, q1, q2⟩ := ih s' ((clP X L s i).1 + 1) (n + 1) σ3 (by omega) (by omega) p2 ((hs'.ax (by omega) k3).ax (by omega) p3) d1 m (by omega)
        have fr := (g3.trans (C4_ax k3)).trans (C4_ax (c := c) p3)
        refine ⟨e, (loopF_inl st).trans q1, ?_⟩
        cases e with
        | inl τ =>
          obtain ⟨s2, a1, a2, a3, a4, a5⟩ := q2
          exact ⟨s2, a1, a2, a3, a4, fr.trans a5⟩
        | inr r =>
          obtain ⟨a1, a2, a3⟩ := q2
          exact ⟨a1, a2, fr.trans a3⟩
def ci0 : ciT := (false, (0, 0), fun q => nI (usI 0 q), fun _ => 0, fun _ => 0)
theorem ci0_ok : okCi ci0 := ⟨Nat.zero_le _, Nat.zero_le _, us_ok 0 (by omega), fun t ht => absurd ht (Nat.not_lt_zero _), fun t ht => absurd ht (Nat.not_lt_zero _)⟩
def ciR (X : Tx) (L : Nat) : Nat × Option ciT := ciF X L 16 ci0 0
theorem City_read {X : Tx} {L c : Nat} {σ : Mem} (hx : okX X L) (hc : c = 430 ∨ c = 536) (h : CTx X L σ) : ∃ σ', f_City_read σ c = some (ftS (ciR X L), σ') ∧ C4 c σ σ' ∧ ∀ s, (ciR X L).2 = some s → CCi c s σ' := by
  have hB : cpyB 11 4 (0 : Int32) (0 : Int32) (4 : Int32) = true := by decide
  have x1 : C4 c σ (sI (rI (sI (sI (sI σ c 3 (0 : Int32)) c 4 (0 : Int32)) c 5 (0 : Int32)) (c + 1) (cpyM (tb 1) (mI (sI (sI (sI σ c 3 (0 : Int32)) c 4 (0 : Int32)) c 5 (0 : Int32)) (c + 1)) (0 : Int32) (0 : Int32) (4 : Int32))) 1 2 (0 : Int32)) := ((((C4_sI (by omega)).trans (C4_sI (by omega))).trans (C4_sI (by omega))).trans (C4_ix (a := c + 1) (by omega) (IX_rI (by omega)))).trans (C4_ax (AX_sI (Or.inl rfl)))
  have h1 : CAt X L 0 (sI (rI (sI (sI (sI σ c 3 (0 : Int32)) c 4 (0 : Int32)) c 5 (0 : Int32)) (c + 1) (cpyM (tb 1) (mI (sI (sI (sI σ c 3 (0 : Int32)) c 4 (0 : Int32)) c 5 (0 : Int32)) (c + 1)) (0 : Int32) (0 : Int32) (4 : Int32))) 1 2 (0 : Int32)) := by
    refine CTx.to (j := 0) ⟨?_, fun j hj => ?_⟩
    · rw [rowr_ne (by omega), row_ne (by omega), row_ne (by omega), row_ne (by omega)]; exact h.1
    · rw [rowr_ne (by omega), row_ne (by omega), row_ne (by omega), row_ne (by omega)]; exact h.2 j hj
  have h2 : CCi c ci0 (sI (rI (sI (sI (sI σ c 3 (0 : Int32)) c 4 (0 : Int32)) c 5 (0 : Int32)) (c + 1) (cpyM (tb 1) (mI (sI (sI (sI σ c 3 (0 : Int32)) c 4 (0 : Int32)) c 5 (0 : Int32)) (c + 1)) (0 : Int32) (0 : Int32) (4 : Int32))) 1 2 (0 : Int32)) := by
    refine ⟨?_, ?_, ?_, fun k hk => ?_, fun k hk => absurd hk (Nat.not_lt_zero _), fun k hk => absurd hk (Nat.not_lt_zero _)⟩
    · rw [row_ne (show c ≠ 1 by omega), rowr_ne (by omega), row_sI, upd_ne (by omega), row_sI, upd_ne (by omega), row_sI, upd_self]; rfl
    · rw [row_ne (show c ≠ 1 by omega), rowr_ne (by omega), row_sI, upd_ne (by omega), row_sI, upd_self]; rfl
    · rw [row_ne (show c ≠ 1 by omega), rowr_ne (by omega), row_sI, upd_self]; rfl
    · rw [row_ne (show c + 1 ≠ 1 by omega), rowr_self, show cpyM (tb 1) (mI (sI (sI (sI σ c 3 (0 : Int32)) c 4 (0 : Int32)) c 5 (0 : Int32)) (c + 1)) 0 0 4 = _ from cpyM_nI (s := 0) (d := 0) (n := 4) (by omega) (by omega) (by omega)]
      dsimp only
      rw [if_pos (by omega), Nat.sub_zero]
      exact (it_tb 0 (by omega) k hk hk).1
  generalize hg : sI (rI (sI (sI (sI σ c 3 (0 : Int32)) c 4 (0 : Int32)) c 5 (0 : Int32)) (c + 1) (cpyM (tb 1) (mI (sI (sI (sI σ c 3 (0 : Int32)) c 4 (0 : Int32)) c 5 (0 : Int32)) (c + 1)) (0 : Int32) (0 : Int32) (4 : Int32))) 1 2 (0 : Int32) = σ1 at x1 h1 h2
  obtain ⟨e, p1, p2⟩ := city_go hx hc 16 ci0 0 0 σ1 rfl (Nat.zero_le _) h1 h2 ci0_ok FU (by unfold FU; omega)
  unfold f_City_read
  rw [if_pos hB, Option.bind_some, hg, show loopF (f_City_read_L35 c) FU (σ1, (0 : Int32)) = some e from p1, Option.bind_some]
  cases e with
  | inl τ =>
    obtain ⟨s', a1, a2, a3, a4, a5⟩ := p2
    have a1 : CAt X L (ciR X L).1 τ := a1
    have a4 : (ciR X L).2 = if 0 < s'.2.1.1 ∧ 0 < s'.2.1.2 then some s' else none := a4
    refine ⟨τ, ?_, x1.trans a5, fun s p => ?_⟩
    · show (if mI τ c 3 ≤ (0 : Int32) then some (mI τ 1 2, τ) else if mI τ c 4 ≤ (0 : Int32) then some (mI τ 1 2, τ) else some ((-1 : Int32), τ)) = _
      rw [a2.1, a2.2.1, a1.2.1]
      unfold ftS
      rw [a4]
      have t8 := a3.1
      have b6 := a3.2.1
      by_cases q1 : 0 < s'.2.1.1
      · rw [if_neg (nI_nle q1 (by omega))]
        by_cases q2 : 0 < s'.2.1.2
        · rw [if_neg (nI_nle q2 (by omega)), if_pos ⟨q1, q2⟩]
        · rw [if_pos (show nI s'.2.1.2 ≤ 0 by rw [show s'.2.1.2 = 0 by omega]; decide), if_neg (fun z => q2 z.2)]
      · rw [if_pos (show nI s'.2.1.1 ≤ 0 by rw [show s'.2.1.1 = 0 by omega]; decide), if_neg (fun z => q1 z.1)]
    · rw [a4] at p
      by_cases q : 0 < s'.2.1.1 ∧ 0 < s'.2.1.2
      · rw [if_pos q] at p; cases p; exact a2
      · rw [if_neg q] at p; cases p
  | inr r =>
    obtain ⟨a1, a2, a3⟩ := p2
    have a1 : r.1 = nI (ciR X L).1 := a1
    have a2 : (ciR X L).2 = none := a2
    refine ⟨r.2, ?_, x1.trans a3, fun s p => by rw [a2] at p; cases p⟩
    show some r = _
    unfold ftS
    rw [a2, ← a1]
/-! the reference: items -/
def RXa (a : Nat) (σ σ' : Mem) : Prop := (∀ c, c ≠ 565 → c ≠ a → mI σ' c = mI σ c) ∧ (∀ k, k ≠ 10 → k ≠ 11 → k ≠ 12 → mI σ' 565 k = mI σ 565 k) ∧ mL σ' = mL σ ∧ mR σ' = mR σ
theorem RXa.refl (a : Nat) (σ : Mem) : RXa a σ σ := ⟨fun _ _ _ => rfl, fun _ _ _ _ => rfl, rfl, rfl⟩
theorem RXa.trans {a : Nat} {σ σ1 σ2 : Mem} (h : RXa a σ σ1) (g : RXa a σ1 σ2) : RXa a σ σ2 := ⟨fun c h1 h2 => (g.1 c h1 h2).trans (h.1 c h1 h2), fun k h1 h2 h3 => (g.2.1 k h1 h2 h3).trans (h.2.1 k h1 h2 h3), g.2.2.1.trans h.2.2.1, g.2.2.2.trans h.2.2.2⟩
theorem RXa_rx {a : Nat} {σ σ' : Mem} (h : RX σ σ') : RXa a σ σ' := ⟨fun c h1 _ => h.1 c h1, h.2⟩
theorem RXa_sI {a k : Nat} {v : Int32} {σ : Mem} (ha : a ≠ 565) : RXa a σ (sI σ a k v) := ⟨fun c _ h2 => row_ne h2, fun j _ _ _ => by rw [row_ne (fun q => ha q.symm)], rfl, rfl⟩
theorem itF_sk {X : Tx} {L k f i : Nat} {met : Nat → Bool} {row : Rw} : itF X L k (f + 1) met row (sk X L i) = itF X L k (f + 1) met row i := by
  unfold itF
  rw [sk_sk]
/-- how the reference stands behind a piece that may have failed -/
def MEnd {α : Type} (X : Tx) (L : Nat) (d : Int32) (r : Nat × Option α) (σ : Mem) : Prop := (∀ x, r.2 = some x → MAt X L 566 0 r.1 (-1) d σ) ∧ (r.2 = none → (∃ k, MAt X L 566 0 k (nI r.1) d σ) ∨ (MAt X L 566 0 r.1 (-1) d σ ∧ r.1 ≤ L ∧ sk X L r.1 = r.1 ∧ sg X L r.1 ≠ 0 ∧ sg X L r.1 ≠ 59))
theorem items_m {X : Tx} {L k a st : Nat} {d : Int32} (hx : okX X L) (hk : k < 3) (ha : a ≠ 565 ∧ a ≠ 566) (hl : st + itn k ≤ ln a) (hl2 : ln a < 1000) : ∀ f n met x row j σ, f + n = itn k + 1 → ctS met (itn k) = n → j ≤ L → sk X L j = j → MAt X L 566 0 j (-1) d σ → Bt x met → (∀ q, q < itn k → mI σ a (st + q) = row q) → ∀ m, f + 1 < m → ∃ σ', loopF (f_Model_readItems_L45 (nI (kc k)) a (nI st) (2 + k)) m (σ, x, spI (itm k (sg X L j))) = some σ' ∧ RXa a σ σ' ∧ (∀ j, j < st → mI σ' a j = mI σ a j) ∧ MEnd X L d (itF X L k f met row j) σ' ∧ ∀ r, (itF X L k f met row j).2 = some r → ∀ q, q < itn k → mI σ' a (st + q) = r q := by
  have i4 := itn_4 k
  have hA := okA_6
  have h240 := hx.1
  intro f
  induction f with
  | zero =>
    intro n met x row j σ hf hct
    have := ctS_le met (itn k)
    omega
  | succ f ih =>
    intro n met x row j σ hf hct hj hsj h hb hr m hm
    obtain ⟨m, rfl⟩ : ∃ k, m = k + 2 := ⟨m - 2, by omega⟩
    have s256 := sg_256 (i := j) hx
    have out : spI (itm k (sg X L j)) = -1 → loopF (f_Model_readItems_L45 (nI (kc k)) a (nI st) (2 + k)) (m + 2) (σ, x, spI (itm k (sg X L j))) = some σ := fun e => by
      refine loopF_inr ?_
      unfold f_Model_readItems_L45
      dsimp only
      rw [if_pos e]
    unfold itF
    rw [hsj]
    by_cases c : sg X L j = 0 ∨ sg X L j = 59
    · have hn : itm k (sg X L j) = none := by
        cases hq : itm k (sg X L j) with
        | none => rfl
        | some q => have := it_lt hk hq; omega
      rw [if_pos c]
      exact ⟨σ, out (by rw [hn]; rfl), RXa.refl _ _, fun _ _ => rfl, ⟨fun _ _ => h, fun p => by cases p⟩, fun r p q hq => by cases p; exact hr q hq⟩
    · rw [if_neg c]
      cases hq : itm k (sg X L j) with
      | none =>
        rw [hq] at out
        exact ⟨σ, out rfl, RXa.refl _ _, fun _ _ => rfl, ⟨fun _ p => (by cases p), fun _ => Or.inr ⟨h, hj, hsj, by show sg X L j ≠ 0; omega, by show sg X L j ≠ 59; omega⟩⟩, fun r p => by cases p⟩
      | some q =>
        obtain ⟨q1, -, -⟩ := it_lt hk hq
        obtain ⟨-, -, -, t4, t5, -, -, -⟩ := it_tb k hk q (by omega) q1
        obtain ⟨u1, u2, -⟩ := it_le k hk q (by omega) q1
        have lt := sg_lt (X := X) (L := L) (i := j) (by omega)
        dsimp only
        have st0 : f_Model_readItems_L45 (nI (kc k)) a (nI st) (2 + k) (σ, x, spI (some q)) = if (if (if met q = true then (1 : Int32) else 0) = (1 : Int32) then (1 : Int32) else 0) = (0 : Int32) then (f_Model_number (sI σ 565 10 (nI (j + 1))) (nI (loI k q)) (nI (hiI k q))).bind fun q14 => (if inb (nI st + nI q) (ln a) then (if (mI (sI q14.2 a (nI st + nI q).toNatClampNeg q14.1) 565 11) = (-1 : Int32) then (f_Model_look (sI q14.2 a (nI st + nI q).toNatClampNeg q14.1)).bind fun q17 => (f_Model_spotOf q17.2 (2 + k) q17.1).bind fun q18 => some (.inl (q17.2, (x ||| ((1 : Int32) <<< (nI q &&& 31))), q18)) else some (.inl ((sI q14.2 a (nI st + nI q).toNatClampNeg q14.1), (x ||| ((1 : Int32) <<< (nI q &&& 31))), nI q))) else none) else (f_Model_fails σ).bind fun q19 => some (.inr q19.2) := by
          unfold f_Model_readItems_L45
          dsimp only
          rw [show spI (some q) = nI q from rfl, if_neg (nI_ne_m1 (by omega)), h.2.2.2.2.1, if_pos rfl, Model_has, Option.bind_some, hb.bit (show q < 8 by omega), h.2.2.2.1, nI_1, show f_Model_leastOf (sI σ 565 10 (nI (j + 1))) (nI (kc k)) (nI q) = some (nI (loI k q)) from u1, Option.bind_some, show f_Model_mostOf (sI σ 565 10 (nI (j + 1))) (nI (kc k)) (nI q) = some (nI (hiI k q)) from u2, Option.bind_some]
        cases hm' : met q with
        | true =>
          obtain ⟨σ1, p1, p2, p3⟩ := Model_fails hA h
          rw [hm', if_pos rfl, if_pos rfl, if_neg (show ¬ (1 : Int32) = 0 by decide), p1, Option.bind_some] at st0
          rw [if_pos rfl]
          exact ⟨σ1, loopF_inr st0, RXa_rx p3, fun j _ => by rw [p3.1 a ha.1], ⟨fun _ p => (by cases p), fun _ => Or.inl ⟨j, p2⟩⟩, fun r p => by cases p⟩
        | false =>
          rw [hm', if_neg (show ¬ false = true by decide), if_neg (show ¬ (0 : Int32) = 1 by decide), if_pos (show (0 : Int32) = 0 from rfl)] at st0
          rw [if_neg (by decide)]
          obtain ⟨n1, n2⟩ := nmP_ok (X := X) (lo := loI k q) (hi := hiI k q) (show j + 1 ≤ L by omega)
          obtain ⟨σ2, v, k1, k2, k3, k4⟩ := Model_number (lo := loI k q) (hi := hiI k q) hx hA (by omega) (by omega) (h.to (j := j + 1) hA) (by omega)
          have ax : RX σ σ2 := (RX_sI (Or.inl rfl)).trans k2
          rw [k1, Option.bind_some] at st0
          dsimp only at st0
          rw [nI_add, if_pos (inb_nI (show st + q < ln a by omega) (by omega)), nI_clamp (show st + q < 2 ^ 31 by omega)] at st0
          have ra2 : RXa a σ (sI σ2 a (st + q) v) := (RXa_rx ax).trans (RXa_sI ha.1)
          have lo2 : ∀ i, i < st → mI (sI σ2 a (st + q) v) a i = mI σ a i := fun i hi => by rw [row_sI, upd_ne (by omega), ax.1 a ha.1]
          cases hn : (nmP X L (loI k q) (hiI k q) (j + 1)).2 with
          | none =>
            obtain ⟨k', hk'⟩ := k4 hn
            have m2 := hk'.ce (c := a) (k := st + q) (v := v) ha.1 ha.2
            rw [m2.2.2.2.2.1, if_neg (nI_ne_m1 (by omega))] at st0
            refine ⟨sI σ2 a (st + q) v, ?_, ra2, lo2, ⟨fun _ p => (by cases p), fun _ => Or.inl ⟨k', m2⟩⟩, fun r p => by cases p⟩
            rw [loopF_inl st0]
            refine loopF_inr ?_
            unfold f_Model_readItems_L45
            dsimp only
            rw [if_neg (nI_ne_m1 (by omega)), m2.2.2.2.2.1, if_neg (nI_ne_m1 (by omega))]
          | some w =>
            obtain ⟨e1, e2⟩ := k3 w hn
            subst e1
            obtain ⟨n3, n4⟩ := n2 w hn
            have m2 := e2.ce (c := a) (k := st + q) (v := nI w) ha.1 ha.2
            obtain ⟨σ3, l1, l2, l3⟩ := Model_look hx hA m2 n1
            have s256' := sg_256 (i := sk X L (nmP X L (loI k q) (hiI k q) (j + 1)).1) hx
            have lp : ∀ y, f_Model_spotOf σ3 (2 + k) y = loopF (f_Model_spotOf_L2 m00 (2 + k) y) FU (0 : Int32) := fun y => rfl
            rw [m2.2.2.2.2.1, if_pos rfl, l1, Option.bind_some] at st0
            dsimp only at st0
            rw [lp, it_m k hk _ s256', Option.bind_some] at st0
            have ct2 : ctS (fun t => met t || decide (t = q)) (itn k) = n + 1 := by rw [ctS_or met q hm', hct, if_pos q1]
            have f1 : f ≠ 0 := fun z => by have := ctS_le (fun t => met t || decide (t = q)) (itn k); omega
            obtain ⟨f, rfl⟩ : ∃ g, f = g + 1 := ⟨f - 1, by omega⟩
            obtain ⟨σ4, p1, p2, p3, p4, p5⟩ := ih (n + 1) (fun t => met t || decide (t = q)) (x ||| ((1 : Int32) <<< (nI q &&& 31))) (upd row q (nI w)) (sk X L (nmP X L (loI k q) (hiI k q) (j + 1)).1) σ3 (by omega) ct2 (sk_le n1) (sk_sk _ _ _) l2 (hb.or (by omega)) (fun t ht => by
              rw [l3.1 a ha.1, row_sI, upd_at, upd_at]
              by_cases e : t = q
              · rw [if_pos (by omega), if_pos e]
              · rw [if_neg (by omega), if_neg e, ax.1 a ha.1]; exact hr t ht) (m + 1) (by omega)
            rw [itF_sk] at p4 p5
            dsimp only
            refine ⟨σ4, (loopF_inl st0).trans p1, (ra2.trans (RXa_rx l3)).trans p2, fun i hi => ?_, p4, p5⟩
            rw [p3 i hi, l3.1 a ha.1]; exact lo2 i hi
theorem Model_items {X : Tx} {L k a st i : Nat} {d : Int32} {σ : Mem} (hx : okX X L) (hk : k < 3) (ha : a ≠ 565 ∧ a ≠ 566) (hl : st + itn k ≤ ln a) (hl2 : ln a < 1000) (h : MAt X L 566 0 i (-1) d σ) (hi : i ≤ L) : ∃ σ', f_Model_readItems σ (nI (kc k)) a (nI st) (2 + k) = some σ' ∧ RXa a σ σ' ∧ (∀ j, j < st → mI σ' a j = mI σ a j) ∧ MEnd X L d (itR X L k i) σ' ∧ ∀ r, (itR X L k i).2 = some r → ∀ q, q < itn k → mI σ' a (st + q) = r q := by
  have i4 := itn_4 k
  have hA := okA_6
  have sl : slen (2 + k) = nI (itn k) := by
    have : ∀ k, k < 3 → slen (2 + k) = nI (itn k) := by decide
    exact this k hk
  obtain ⟨σ1, g1, g2, g3, g4⟩ := loopF_go (step := f_Model_readItems_L3 (nI (kc k)) a (nI st) (2 + k)) (a := (σ, (0 : Int32))) (fun i s => s.2 = nI i ∧ FX a σ s.1 ∧ (∀ j, j < st → mI s.1 a j = mI σ a j) ∧ ∀ q, q < i → mI s.1 a (st + q) = nI (usI k q)) (fun r => FX a σ r ∧ (∀ j, j < st → mI r a j = mI σ a j) ∧ ∀ q, q < itn k → mI r a (st + q) = nI (usI k q)) (itn k) ⟨rfl, ⟨fun _ _ => rfl, rfl, rfl⟩, fun _ _ => rfl, fun q hq => by omega⟩ (by omega) (by
    rintro i ⟨τ, z⟩ hi ⟨e1, e2, e3, e4⟩
    simp only at e1 e2 e3 e4
    subst e1
    unfold f_Model_readItems_L3
    dsimp only
    rw [sl]
    by_cases hlt : i < itn k
    · have u3 := (it_le k hk i (by omega) hlt).2.2
      rw [if_neg (nI_ge hlt (by omega)), show f_Model_usual τ (nI (kc k)) (nI i) = some (nI (usI k i)) from u3, Option.bind_some, nI_add, if_pos (inb_nI (show st + i < ln a by omega) (by omega)), nI_clamp (by omega), nI_1]
      refine exL ⟨hlt, rfl, ⟨fun c hc => by rw [row_ne hc]; exact e2.1 c hc, e2.2⟩, fun j hj => by rw [row_sI, upd_ne (by omega)]; exact e3 j hj, fun q hq => ?_⟩
      rw [row_sI, upd_at]
      by_cases e : q = i
      · rw [if_pos (by omega), e]
      · rw [if_neg (by omega)]; exact e4 q (by omega)
    · have : i = itn k := by omega
      subst this
      rw [if_pos (nI_le (Nat.le_refl _) (by omega))]
      exact exR ⟨e2, e3, e4⟩)
  have h1 : MAt X L 566 0 i (-1) d σ1 := h.fr (fun k _ => by rw [g2.1 565 (fun q => ha.1 q.symm)]) (g2.1 566 (fun q => ha.2 q.symm)) (by rw [g2.2.2])
  obtain ⟨σ2, l1, l2, l3⟩ := Model_look hx hA h1 hi
  have s256 := sg_256 (i := sk X L i) hx
  have lp : ∀ y, f_Model_spotOf σ2 (2 + k) y = loopF (f_Model_spotOf_L2 m00 (2 + k) y) FU (0 : Int32) := fun y => rfl
  obtain ⟨σ3, p1, p2, p3, p4, p5⟩ := items_m (st := st) hx hk ha hl hl2 (itn k + 1) 0 (fun _ => false) 0 (fun q => nI (usI k q)) (sk X L i) σ2 rfl (by
    have : ∀ n, ctS (fun _ => false) n = 0 := by
      intro n
      induction n with
      | zero => rfl
      | succ n ih => show ctS (fun _ => false) n + (if false = true then 1 else 0) = 0; rw [ih]; rfl
    exact this _) (sk_le hi) (sk_sk _ _ _) l2 Bt.zero (fun q hq => by rw [l3.1 a ha.1]; exact g4 q hq) FU (by unfold FU; omega)
  rw [itF_sk] at p4 p5
  refine ⟨σ3, ?_, ?_, fun j hj => ?_, p4, p5⟩
  · unfold f_Model_readItems
    rw [g1, Option.bind_some, l1, Option.bind_some]
    dsimp only
    rw [lp, it_m k hk _ s256, Option.bind_some]
    exact p1
  · exact RXa.trans (RXa.trans ⟨fun c _ h2 => g2.1 c h2, fun k _ _ _ => by rw [g2.1 565 (fun q => ha.1 q.symm)], g2.2⟩ (RXa_rx l3)) p2
  · rw [p3 j hj, l3.1 a ha.1]; exact g3 j hj
