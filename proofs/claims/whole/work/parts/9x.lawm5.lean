/-! laws: the reference's clauses, and a law gone through -/
theorem am0_tab : ∀ c, c < 256 → f_Model_isAmong m00 0 (sgM c) = some (b01 (decide (c = 121))) := by decide +kernel
def fnL : List Cl → (Nat → Int32) → Option Int32
  | [], _ => none
  | k :: ks, l => match k.1 with
    | none => some (k.2.2 l)
    | some x => if x.2 l = 0 then fnL ks l else some (k.2.2 l)
theorem fnL_dn : ∀ ks l, dnL ks l = (fnL ks l).getD 0 := by
  intro ks
  induction ks with
  | nil => intro l; rfl
  | cons k ks ih =>
    intro l
    obtain ⟨kc, y⟩ := k
    cases kc with
    | none => rfl
    | some x =>
      show (if x.2 l = 0 then dnL ks l else y.2 l) = (if x.2 l = 0 then fnL ks l else some (y.2 l)).getD 0
      split
      · exact ih l
      · rfl
theorem fnL_snoc : ∀ ks k l, fnL (ks ++ [k]) l = match fnL ks l with
    | some v => some v
    | none => fnL [k] l := by
  intro ks
  induction ks with
  | nil => intro k l; rfl
  | cons a ks ih =>
    intro k l
    obtain ⟨kc, y⟩ := a
    cases kc with
    | none => rfl
    | some x =>
      show (if x.2 l = 0 then fnL (ks ++ [k]) l else some (y.2 l)) = match (if x.2 l = 0 then fnL ks l else some (y.2 l)) with
        | some v => some v
        | none => fnL [k] l
      split
      · exact ih k l
      · rfl
def RC (σ σ' : Mem) : Prop := (∀ c, c ≠ 565 → mI σ' c = mI σ c) ∧ (∀ k, k ≠ 10 → k ≠ 11 → k ≠ 12 → k ≠ 14 → k ≠ 17 → mI σ' 565 k = mI σ 565 k) ∧ mL σ' = mL σ ∧ mR σ' = mR σ
theorem RC.refl (σ : Mem) : RC σ σ := ⟨fun _ _ => rfl, fun _ _ _ _ _ _ => rfl, rfl, rfl⟩
theorem RC.trans {σ σ1 σ2 : Mem} (h : RC σ σ1) (g : RC σ1 σ2) : RC σ σ2 := ⟨fun a ha => (g.1 a ha).trans (h.1 a ha), fun k h1 h2 h3 h4 h5 => (g.2.1 k h1 h2 h3 h4 h5).trans (h.2.1 k h1 h2 h3 h4 h5), g.2.2.1.trans h.2.2.1, g.2.2.2.trans h.2.2.2⟩
theorem RX.rc {σ σ1 : Mem} (h : RX σ σ1) : RC σ σ1 := ⟨h.1, fun k h1 h2 h3 _ _ => h.2.1 k h1 h2 h3, h.2.2.1, h.2.2.2⟩
theorem RC_sI {σ : Mem} {k : Nat} {v : Int32} (h : k = 14 ∨ k = 17) : RC σ (sI σ 565 k v) := ⟨fun a ha => row_ne ha, fun j h1 h2 h3 h4 h5 => by rw [row_sI, upd_ne (by omega)], rfl, rfl⟩
theorem lets_rc {σ σ' : Mem} (g : RC σ σ') : lets σ' = lets σ := by unfold lets; rw [g.1 569 (by omega)]
/-- what has been found by the clauses so far -/
def Fnd (ks : List Cl) (σ : Mem) : Prop := bdl (lets σ) → mI σ 565 17 = is1 (fnL ks (lets σ)) ∧ mI σ 565 14 = (fnL ks (lets σ)).getD 0
theorem Fnd.rx {ks : List Cl} {σ σ' : Mem} (h : Fnd ks σ) (g : RX σ σ') : Fnd ks σ' := fun hb => by
  rw [lets_rx g] at hb ⊢
  rw [g.2.1 17 (by omega) (by omega) (by omega), g.2.1 14 (by omega) (by omega) (by omega)]
  exact h hb
/-- what the reading of a clause leaves -/
def Cr (X : Tx) (L a b : Nat) (ks : List Cl) (R : Nat × Option Cl) (σ : Mem) (o : Option Mem) : Prop := ∃ σ', o = some σ' ∧ RC σ σ' ∧ (∀ k, R.2 = some k → MAt X L a b R.1 (-1) (nI 0) σ' ∧ Fnd (ks ++ [k]) σ') ∧ (R.2 = none → ∃ j d, MAt X L a b j (nI R.1) d σ')
theorem Cr.pre {X : Tx} {L a b : Nat} {ks : List Cl} {R : Nat × Option Cl} {σ0 σ : Mem} {o : Option Mem} (h : Cr X L a b ks R σ o) (g : RC σ0 σ) : Cr X L a b ks R σ0 o := by
  obtain ⟨σ', h1, h2, h3, h4⟩ := h
  exact ⟨σ', h1, g.trans h2, h3, h4⟩
theorem keep_no {X : Tx} {L a b i : Nat} {f d y1 y2 y3 : Int32} {σ : Mem} (h : MAt X L a b i f d σ) (hf : f ≠ -1) : f_Model_clause_J134 σ y1 y2 y3 = some σ := by
  unfold f_Model_clause_J134
  rw [h.2.2.2.2.1, if_neg hf]
theorem keep_m {X : Tx} {L a b i : Nat} {y2 y3 : Int32} {σ : Mem} {ks : List Cl} {k : Cl} (ha : okA a b) (h : MAt X L a b i (-1) (nI 0) σ) (h13 : mI σ 565 13 = 121) (hF : Fnd ks σ) (hy : bdl (lets σ) → y3 = k.2.2 (lets σ) ∧ match k.1 with
    | none => y2 = 1
    | some x => y2 = x.2 (lets σ)) : Cr X L a b ks (i, some k) σ (f_Model_clause_J134 σ 121 y2 y3) := by
  obtain ⟨kc, y⟩ := k
  have f1 : ∀ l v, fnL ks l = some v → fnL (ks ++ [(kc, y)]) l = some v := fun l v e => by rw [fnL_snoc, e]
  have f2 : ∀ l, fnL ks l = none → fnL (ks ++ [(kc, y)]) l = fnL [(kc, y)] l := fun l e => by rw [fnL_snoc, e]
  have hn : ∀ l, fnL [(none, y)] l = some (y.2 l) := fun l => rfl
  have hs : ∀ x l, fnL [(some x, y)] l = if x.2 l = 0 then none else some (y.2 l) := fun x l => rfl
  unfold f_Model_clause_J134
  rw [h.2.2.2.2.1, if_pos rfl, h13, if_pos rfl]
  by_cases q17 : mI σ 565 17 = 0
  · rw [if_pos q17]
    have n0 : bdl (lets σ) → fnL ks (lets σ) = none := fun hb => by
      have := (hF hb).1
      rw [q17] at this
      cases e : fnL ks (lets σ) with
      | none => rfl
      | some v => rw [e] at this; exact absurd this (show ¬ (0 : Int32) = 1 by decide)
    by_cases q2 : y2 = 0
    · rw [if_pos q2]
      refine ⟨σ, rfl, RC.refl _, fun k' p => ?_, fun p => (by cases p)⟩
      cases p
      refine ⟨h, fun hb => ?_⟩
      have e0 := n0 hb
      obtain ⟨y3e, hyy⟩ := hy hb
      have e1 : fnL (ks ++ [(kc, y)]) (lets σ) = none := by
        rw [f2 _ e0]
        cases kc with
        | none => exact absurd (q2.symm.trans hyy) (by decide)
        | some x => rw [hs, if_pos (hyy.symm.trans q2)]
      rw [e1, ← e0]
      exact hF hb
    · rw [if_neg q2]
      refine ⟨_, rfl, (RC_sI (Or.inr rfl)).trans (RC_sI (Or.inl rfl)), fun k' p => ?_, fun p => (by cases p)⟩
      cases p
      refine ⟨h.fr (fun k hk => by rw [row_sI, upd_ne (by omega), row_sI, upd_ne (by omega)]) (by rw [row_ne ha.2.2.1, row_ne ha.2.2.1]) rfl, fun hb => ?_⟩
      have el : lets (sI (sI σ 565 17 (1 : Int32)) 565 14 y3) = lets σ := lets_rc ((RC_sI (Or.inr rfl)).trans (RC_sI (Or.inl rfl)))
      rw [el] at hb ⊢
      obtain ⟨y3e, hyy⟩ := hy hb
      have e1 : fnL (ks ++ [(kc, y)]) (lets σ) = some y3 := by
        rw [f2 _ (n0 hb), y3e]
        cases kc with
        | none => rfl
        | some x => rw [hs, if_neg (fun z => q2 (hyy.trans z))]
      rw [e1, row_sI, upd_ne (by omega), row_sI, upd_self]
      exact ⟨rfl, by rw [upd_self]; rfl⟩
  · rw [if_neg q17]
    refine ⟨σ, rfl, RC.refl _, fun k' p => ?_, fun p => (by cases p)⟩
    cases p
    refine ⟨h, fun hb => ?_⟩
    cases e : fnL ks (lets σ) with
    | none => have := (hF hb).1; rw [e] at this; exact absurd this q17
    | some v => rw [f1 _ v e, ← e]; exact hF hb
theorem ans_m {X : Tx} {L a b : Nat} {v : Int32} {c : Res} {σ : Mem} {ks : List Cl} (hx : okX X L) (ha : okA a b) (hc : c.1 ≤ L) (h13 : mI σ 565 13 = 121) (hF : Fnd ks σ) (h1 : ∀ r, c.2 = some r → MAt X L a b c.1 (-1) (nI 0) σ ∧ (bdl (lets σ) → v = r.2 (lets σ))) (h2 : c.2 = none → ∃ j d, MAt X L a b j (nI c.1) d σ) : Cr X L a b ks (anP X L c) σ ((f_Model_takes σ (63 : Int32)).bind fun q9 => if q9.1 = (0 : Int32) then some q9.2 else (f_MS 24 0 q9.2).bind fun q11 => f_Model_clause_J134 q11.2 121 v q11.1) := by
  have h240 := hx.1
  unfold anP
  cases hq : c.2 with
  | none =>
    obtain ⟨j, d, hj⟩ := h2 hq
    rw [Model_takes_f ha hj (nI_ne_m1 (by omega)), Option.bind_some]
    dsimp only
    rw [if_pos rfl]
    exact ⟨σ, rfl, RC.refl _, fun k p => (by cases p), fun _ => ⟨j, d, hj⟩⟩
  | some x =>
    obtain ⟨m1, v1⟩ := h1 x hq
    have b1 := sk_le (X := X) hc
    obtain ⟨σ2, k1, k2, k3⟩ := Model_takes (c := 63) hx ha m1 hc (by omega) (by omega)
    rw [show (63 : Int32) = nI 63 from rfl, k1, Option.bind_some]
    dsimp only
    by_cases q : sg X L (sk X L c.1) = 63
    · have lt := sg_lt (X := X) (L := L) (i := sk X L c.1) (by omega)
      rw [if_pos q, if_pos q] at k2
      rw [if_pos q, if_pos q, if_neg (show ¬ (1 : Int32) = 0 by decide)]
      obtain ⟨w, σ3, n1, n2, n3, n4, n5⟩ := MS_all hx ha 6 (by omega) 24 (by omega) (sk X L c.1 + 1) σ2 (by omega) k2
      have n1 : f_MS 24 0 σ2 = some (w, σ3) := n1
      rw [n1, Option.bind_some]
      dsimp only
      have rx := k3.trans n3
      cases hs : (suP X L 6 (sk X L c.1 + 1)).2 with
      | none =>
        obtain ⟨j, d, hj⟩ := n5 hs
        obtain ⟨s1, s2⟩ := suP_ok X L 6 (sk X L c.1 + 1) (by omega)
        rw [keep_no hj (nI_ne_m1 (by omega))]
        exact ⟨σ3, rfl, rx.rc, fun k p => (by cases p), fun _ => ⟨j, d, hj⟩⟩
      | some y =>
        obtain ⟨m3, v3⟩ := n4 y hs
        have el := lets_rx rx
        have el2 := lets_rx k3
        refine (keep_m (k := (some x, y)) ha m3 (by rw [rx.2.1 13 (by omega) (by omega) (by omega)]; exact h13) (hF.rx rx) (fun hb => ?_)).pre rx.rc
        rw [el] at hb ⊢
        rw [el2] at v3
        exact ⟨v3 hb, v1 hb⟩
    · rw [if_neg q, if_neg q] at k2
      rw [if_neg q, if_neg q, if_pos rfl]
      exact ⟨σ2, rfl, k3.rc, fun k p => (by cases p), fun _ => ⟨_, _, k2⟩⟩
theorem J64_e (σ : Mem) : f_Model_clause_J64 σ 121 = (f_MC 30 0 σ (0 : Int32) (0 : Int32)).bind fun q8 => (f_Model_takes q8.2 (63 : Int32)).bind fun q9 => if q9.1 = (0 : Int32) then some q9.2 else (f_MS 24 0 q9.2).bind fun q11 => f_Model_clause_J134 q11.2 121 q8.1 q11.1 := by
  unfold f_Model_clause_J64
  rfl
theorem clauseM {X : Tx} {L a b i : Nat} {σ : Mem} {ks : List Cl} (hx : okX X L) (ha : okA a b) (hi : i ≤ L) (h : MAt X L a b i (-1) (nI 0) σ) (h13 : mI σ 565 13 = 121) (hF : Fnd ks σ) : Cr X L a b ks (lcP X L i) σ (f_Model_clause σ) := by
  have h240 := hx.1
  have bb := sk_le (X := X) hi
  obtain ⟨σ1, g1, g2, g3⟩ := Model_look hx ha h hi
  have s256 := sg_256 (i := sk X L i) hx
  have lp : ∀ y, f_Model_isAmong σ1 0 y = f_Model_isAmong m00 0 y := fun y => rfl
  unfold f_Model_clause lcP
  rw [g1, Option.bind_some]
  dsimp only
  rw [lp, am0_tab _ s256, Option.bind_some]
  by_cases q1 : sg X L (sk X L i) = 121
  · have lt := sg_lt (X := X) (L := L) (i := sk X L i) (by omega)
    have e121 : sgM (sg X L (sk X L i)) = 121 := by rw [q1]; rfl
    have m1 : MAt X L a b (sk X L i + 1) (-1) (nI 0) (sI σ1 565 10 (nI (sk X L i + 1))) := g2.to ha
    have r1 : RX σ (sI σ1 565 10 (nI (sk X L i + 1))) := g3.trans (RX_sI (Or.inl rfl))
    rw [decide_eq_true q1, if_neg (show ¬ b01 true = 0 by decide), if_pos q1, e121, g2.2.2.2.1, nI_1]
    have b2 := sk_le (X := X) (show sk X L i + 1 ≤ L by omega)
    obtain ⟨σ2, k1, k2, k3⟩ := Model_takes (c := 58) hx ha m1 (by omega) (by omega) (by omega)
    rw [show (58 : Int32) = nI 58 from rfl, k1, Option.bind_some]
    dsimp only
    have r2 := r1.trans k3
    by_cases q2 : sg X L (sk X L (sk X L i + 1)) = 58
    · have lt2 := sg_lt (X := X) (L := L) (i := sk X L (sk X L i + 1)) (by omega)
      rw [if_pos q2, if_pos q2] at k2
      rw [if_pos q2, if_pos q2, if_neg (show ¬ (1 : Int32) = 0 by decide)]
      generalize hp : sk X L (sk X L i + 1) + 1 = p at k2 ⊢
      have hpL : p ≤ L := by omega
      have b3 := sk_le (X := X) hpL
      obtain ⟨σ3, l1, l2, l3⟩ := Model_look hx ha k2 hpL
      have t256 := sg_256 (i := sk X L p) hx
      have r3 := r2.trans l3
      have c13 : ∀ {τ}, RX σ τ → mI τ 565 13 = 121 := fun g => by rw [g.2.1 13 (by omega) (by omega) (by omega)]; exact h13
      obtain ⟨cc1, cc2⟩ := coP_ok X L 6 p hpL
      rw [l1, Option.bind_some]
      dsimp only
      rw [show (33 : Int32) = nI 33 from rfl, show (40 : Int32) = nI 40 from rfl, sgif t256 (by omega) (by omega), sgif t256 (by omega) (by omega)]
      unfold lbP
      by_cases q3 : sg X L (sk X L p) = 33 ∨ sg X L (sk X L p) = 40
      · have j64 : Cr X L a b ks (anP X L (coP X L 6 p)) σ (f_Model_clause_J64 σ3 121) := by
          obtain ⟨v, σ4, n1, n2, n3, n4, n5⟩ := (MC_all hx ha 6 (by omega)).2.2 30 (by omega) (sk X L p) σ3 b3 l2
          rw [coP_sk] at n4 n5
          have n1 : f_MC 30 0 σ3 (0 : Int32) (0 : Int32) = some (v, σ4) := n1
          have r4 := r3.trans n3
          have el := lets_rx n3
          rw [J64_e, n1, Option.bind_some]
          exact (ans_m hx ha cc1 (c13 r4) (hF.rx r4) (fun r p => ⟨(n4 r p).1, fun hb => by rw [el] at hb ⊢; exact (n4 r p).2 hb⟩) n5).pre r4.rc
        rw [if_pos q3]
        rcases q3 with z | z
        · rw [if_pos z]; exact j64
        · rw [if_neg (by omega), if_pos z]; exact j64
      · rw [if_neg (fun z => q3 (Or.inl z)), if_neg (fun z => q3 (Or.inr z)), if_neg q3]
        obtain ⟨one, σ4, n1, n2, n3, n4, n5⟩ := MS_all hx ha 6 (by omega) 24 (by omega) (sk X L p) σ3 b3 l2
        rw [suP_sk] at n4 n5
        have n1 : f_MS 24 0 σ3 = some (one, σ4) := n1
        have r4 := r3.trans n3
        obtain ⟨s1, s2⟩ := suP_ok X L 6 p hpL
        rw [n1, Option.bind_some]
        dsimp only
        cases hsu : (suP X L 6 p).2 with
        | none =>
          obtain ⟨j, d, hj⟩ := n5 hsu
          have hf : nI (suP X L 6 p).1 ≠ -1 := nI_ne_m1 (by omega)
          rw [hj.2.2.2.2.1, if_neg hf, keep_no hj hf]
          exact ⟨σ4, rfl, r4.rc, fun k p => (by cases p), fun _ => ⟨j, d, hj⟩⟩
        | some x =>
          obtain ⟨m4, v4⟩ := n4 x hsu
          have b4 := sk_le (X := X) s1
          obtain ⟨σ5, t1, t2, t3⟩ := Model_look hx ha m4 s1
          have u256 := sg_256 (i := sk X L (suP X L 6 p).1) hx
          have r5 := r4.trans t3
          have v5 : bdl (lets σ5) → one = x.2 (lets σ5) := by rw [lets_rx t3, lets_rx n3]; exact v4
          rw [m4.2.2.2.2.1, if_pos rfl, t1, Option.bind_some]
          dsimp only
          rw [Model_isSign _ _ u256, Option.bind_some]
          cases hic : isC (sg X L (sk X L (suP X L 6 p).1)) with
          | false =>
            rw [if_pos (show b01 false = 0 from rfl), if_neg (by decide)]
            exact (keep_m (k := (none, x)) ha t2 (c13 r5) (hF.rx r5) (fun hb => ⟨v5 hb, rfl⟩)).pre r5.rc
          | true =>
            rw [if_neg (show ¬ b01 true = 0 by decide), if_pos rfl]
            obtain ⟨v, σ6, w1, w2, w3, w4, w5⟩ := cond1_m hx ha hpL q3 hsu t2 v5
            have r6 := r5.trans w3
            have el := lets_rx w3
            rw [w1, Option.bind_some]
            exact (ans_m hx ha cc1 (c13 r6) (hF.rx r6) (fun r p => ⟨(w4 r p).1, fun hb => by rw [el] at hb ⊢; exact (w4 r p).2 hb⟩) w5).pre r6.rc
    · rw [if_neg q2, if_neg q2] at k2
      rw [if_neg q2, if_neg q2, if_pos rfl]
      exact ⟨σ2, rfl, r2.rc, fun k p => (by cases p), fun _ => ⟨_, _, k2⟩⟩
  · obtain ⟨σ2, k1, k2, k3⟩ := Model_fails ha g2
    rw [decide_eq_false q1, if_pos (show b01 false = 0 from rfl), if_neg q1, k1, Option.bind_some]
    exact ⟨σ2, rfl, (g3.trans k3).rc, fun k p => (by cases p), fun _ => ⟨_, _, k2⟩⟩
def Lr (ks : Nat × Option (List Cl × List Int32)) (σ : Mem) (o : Option Mem) : Prop := ∃ σ', o = some σ' ∧ RC σ σ' ∧ mI σ' 565 11 = ftS ks ∧ ∀ r, ks.2 = some r → Fnd r.1 σ'
theorem lawM {X : Tx} {L a b x1 : Nat} {x2 x3 : Int32} (hx : okX X L) (ha : okA a b) : ∀ f ks cs i σ, L ≤ i + f → i ≤ L → MAt X L a b i (-1) (nI 0) σ → mI σ 565 13 = 121 → Fnd ks σ → ∀ m, f < m → Lr (lwF X L f ks cs i) σ ((f_Model_clause σ).bind fun q2 => (loopF (f_Model_goThrough_L32 x1 x2 x3) m q2).bind fun w7 => f_Model_goThrough_J66 w7 x1 x2 x3) := by
  have h240 := hx.1
  have no : ∀ j c f d τ m, MAt X L a b j f d τ → f = nI c → c < 1000 → 0 < m → ((loopF (f_Model_goThrough_L32 x1 x2 x3) m τ).bind fun w7 => f_Model_goThrough_J66 w7 x1 x2 x3) = some τ := fun j c f d τ m h hf hc hm => by
    obtain ⟨m, rfl⟩ : ∃ k, m = k + 1 := ⟨m - 1, by omega⟩
    have hne : f ≠ -1 := by rw [hf]; exact nI_ne_m1 (by omega)
    have st : f_Model_goThrough_L32 x1 x2 x3 τ = some (.inr τ) := by
      unfold f_Model_goThrough_L32
      rw [h.2.2.2.2.1, if_neg hne]
    rw [loopF_inr st, Option.bind_some]
    unfold f_Model_goThrough_J66
    rw [h.2.2.2.2.1, if_neg hne]
  intro f
  induction f with
  | zero =>
    intro ks cs i σ hf hi h h13 hF m hm
    obtain rfl : i = L := by omega
    obtain ⟨σ1, g1, g2, g3, g4⟩ := clauseM hx ha hi h h13 hF
    have e : lcP X i i = (i, none) := by
      have es : sk X i i = i := sk_at (by omega)
      have e0 : sg X i i = 0 := (sg_0 hx).mpr (by omega)
      unfold lcP
      rw [es, e0, if_neg (by decide)]
    rw [e] at g4
    obtain ⟨j, d, hj⟩ := g4 rfl
    rw [g1, Option.bind_some, no j i _ d σ1 m hj rfl (by omega) hm]
    exact ⟨σ1, rfl, g2, hj.2.2.2.2.1, fun r p => (by cases p)⟩
  | succ f ih =>
    intro ks cs i σ hf hi h h13 hF m hm
    obtain ⟨σ1, g1, g2, g3, g4⟩ := clauseM hx ha hi h h13 hF
    obtain ⟨c1, c2⟩ := lcP_ok (X := X) hi
    rw [g1, Option.bind_some]
    unfold lwF
    cases hq : (lcP X L i).2 with
    | none =>
      obtain ⟨j, d, hj⟩ := g4 hq
      rw [no j _ _ d σ1 m hj rfl (by omega) (by omega)]
      exact ⟨σ1, rfl, g2, hj.2.2.2.2.1, fun r p => (by cases p)⟩
    | some k =>
      obtain ⟨m1, f1⟩ := g3 k hq
      obtain ⟨m, rfl⟩ : ∃ k, m = k + 1 := ⟨m - 1, by omega⟩
      have lk := c2 k cs.length hq
      have kp := klC_pos cs.length k
      have aa := sk_ge X L (lcP X L i).1
      have bb := sk_le (X := X) c1
      have s256 := sg_256 (i := sk X L (lcP X L i).1) hx
      obtain ⟨σ2, l1, l2, l3⟩ := Model_look hx ha m1 c1
      have r2 : RC σ σ2 := g2.trans l3.rc
      have f2 := f1.rx l3
      dsimp only
      by_cases q1 : sg X L (sk X L (lcP X L i).1) = 59
      · have lt := sg_lt (X := X) (L := L) (i := sk X L (lcP X L i).1) (by omega)
        rw [if_neg (by omega), if_pos q1]
        have m3 : MAt X L a b (sk X L (lcP X L i).1 + 1) (-1) (nI 0) (sI σ2 565 10 (nI (sk X L (lcP X L i).1 + 1))) := l2.to ha
        have r3 : RC σ (sI σ2 565 10 (nI (sk X L (lcP X L i).1 + 1))) := r2.trans (RX_sI (Or.inl rfl)).rc
        have f3 : Fnd (ks ++ [k]) (sI σ2 565 10 (nI (sk X L (lcP X L i).1 + 1))) := f2.rx (RX_sI (Or.inl rfl))
        obtain ⟨σ4, i1, i2, i3, i4⟩ := ih (ks ++ [k]) (cs ++ klC cs.length k) (sk X L (lcP X L i).1 + 1) _ (by omega) (by omega) m3 (by rw [r3.2.1 13 (by omega) (by omega) (by omega) (by omega) (by omega)]; exact h13) f3 m (by omega)
        obtain ⟨σ5, u1, u2, u3, u4⟩ := clauseM hx ha (show sk X L (lcP X L i).1 + 1 ≤ L by omega) m3 (by rw [r3.2.1 13 (by omega) (by omega) (by omega) (by omega) (by omega)]; exact h13) f3
        have st : f_Model_goThrough_L32 x1 x2 x3 σ1 = some (.inl σ5) := by
          unfold f_Model_goThrough_L32
          rw [m1.2.2.2.2.1, if_pos rfl, l1, Option.bind_some]
          dsimp only
          rw [show (59 : Int32) = nI 59 from rfl, sgif s256 (by omega) (by omega), if_pos q1, l2.2.2.2.1, nI_1, u1]
          rfl
        rw [u1, Option.bind_some] at i1
        refine ⟨σ4, ?_, r3.trans i2, i3, i4⟩
        rw [loopF_inl st]
        exact i1
      · have st : f_Model_goThrough_L32 x1 x2 x3 σ1 = some (.inr σ2) := by
          unfold f_Model_goThrough_L32
          rw [m1.2.2.2.2.1, if_pos rfl, l1, Option.bind_some]
          dsimp only
          rw [show (59 : Int32) = nI 59 from rfl, sgif s256 (by omega) (by omega), if_neg q1]
        obtain ⟨σ3, p1, p2, p3⟩ := Model_look hx ha l2 bb
        rw [sk_sk] at p1 p2
        rw [loopF_inr st, Option.bind_some]
        unfold f_Model_goThrough_J66
        rw [l2.2.2.2.2.1, if_pos rfl, p1, Option.bind_some]
        dsimp only
        by_cases q0 : sg X L (sk X L (lcP X L i).1) = 0
        · rw [if_pos ((sgM_m1 s256).mpr q0), if_pos q0]
          exact ⟨σ3, rfl, r2.trans p3.rc, p2.2.2.2.2.1, fun r p => by cases p; exact f2.rx p3⟩
        · obtain ⟨σ4, n1, n2, n3⟩ := Model_fails ha p2
          rw [if_neg (fun z => q0 ((sgM_m1 s256).mp z)), if_neg q0, if_neg q1, n1, Option.bind_some]
          exact ⟨σ4, rfl, (r2.trans p3.rc).trans n3.rc, n2.2.2.2.2.1, fun r p => (by cases p)⟩
/-- a law gone through -/
theorem goThrough {X : Tx} {L a b : Nat} {σ : Mem} (hx : okX X L) (ha : okA a b) (ht : ∀ j, j < L → mI σ a (b + j) = (nI (X j)).toInt8.toInt32) : ∃ σ', f_Model_goThrough σ a (nI b) (nI L) = some σ' ∧ GT σ σ' ∧ mI σ' 565 11 = ftS (lwR X L) ∧ ∀ r, (lwR X L).2 = some r → bdl (lets σ) → mI σ' 565 14 = dnL r.1 (lets σ) := by
  unfold f_Model_goThrough f_Model_starts
  rw [Option.bind_some]
  generalize hτ : sI (sI (sI (sI (sI (sI (sI (sI (sR σ 565 5 a) 565 8 (nI b)) 565 9 (nI L)) 565 10 (0 : Int32)) 565 11 (-1 : Int32)) 565 13 (121 : Int32)) 565 12 (0 : Int32)) 565 17 (0 : Int32)) 565 14 (0 : Int32) = τ
  have g0 : ∀ c, c ≠ 565 → mI τ c = mI σ c := fun c hc => by rw [← hτ, row_ne hc, row_ne hc, row_ne hc, row_ne hc, row_ne hc, row_ne hc, row_ne hc, row_ne hc]; rfl
  have gk : ∀ k, mI τ 565 k = if k = 14 then 0 else if k = 17 then 0 else if k = 12 then 0 else if k = 13 then 121 else if k = 11 then -1 else if k = 10 then 0 else if k = 9 then nI L else if k = 8 then nI b else mI σ 565 k := fun k => by
    rw [← hτ]
    simp only [row_sI, upd_at]
    rfl
  have gL : mL τ = mL σ := by rw [← hτ]; rfl
  have gR : ∀ c k, mR τ c k = if c = 565 ∧ k = 5 then a else mR σ c k := fun c k => by rw [← hτ]; exact mR_sR σ 565 5 a c k
  have el : lets τ = lets σ := by unfold lets; rw [g0 569 (by omega)]
  have m0 : MAt X L a b 0 (-1) (nI 0) τ := ⟨by rw [gR, if_pos ⟨rfl, rfl⟩], gk 8, gk 9, gk 10, gk 11, gk 12, fun j hj => by rw [g0 a ha.2.2.1]; exact ht j hj⟩
  have f0 : Fnd [] τ := fun _ => ⟨gk 17, gk 14⟩
  obtain ⟨σ', p1, p2, p3, p4⟩ := lawM (x1 := a) (x2 := nI b) (x3 := nI L) hx ha 240 [] [] 0 τ (by have := hx.1; omega) (Nat.zero_le _) m0 (gk 13) f0 FU (by unfold FU; omega)
  refine ⟨σ', p1, ⟨fun c hc => (p2.1 c hc).trans (g0 c hc), p2.2.2.1.trans gL, fun c k hck => ?_, fun k hk => ?_⟩, p3, fun r hr hb => ?_⟩
  · rw [p2.2.2.2, gR, if_neg (fun z => by omega)]
  · rw [p2.2.1 k (by omega) (by omega) (by omega) (by omega) (by omega), gk, if_neg (by omega), if_neg (by omega), if_neg (by omega), if_neg (by omega), if_neg (by omega), if_neg (by omega), if_neg (by omega), if_neg (by omega)]
  · have e2 : lets σ' = lets σ := (lets_rc p2).trans el
    have := (p4 r hr (by rw [e2]; exact hb)).2
    rw [e2] at this
    rw [this, fnL_dn]
