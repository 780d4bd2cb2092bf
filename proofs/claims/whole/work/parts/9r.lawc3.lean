/-! laws: clauses, and a law whole; the class -/
abbrev Cl : Type := Option (List Int32 × Den) × (List Int32 × Den)
def klC (n : Nat) (k : Cl) : List Int32 := match k.1 with
  | none => k.2.1 ++ [-(nI 59)]
  | some x => x.1 ++ [-(nI 63)] ++ [nI (n + x.1.length + 2 + k.2.1.length + 1)] ++ k.2.1 ++ [-(nI 59)]
def anP (X : Tx) (L : Nat) (c : Res) : Nat × Option Cl := match c.2 with
  | none => (c.1, none)
  | some x => if sg X L (sk X L c.1) = 63 then ((suP X L 6 (sk X L c.1 + 1)).1, (suP X L 6 (sk X L c.1 + 1)).2.map fun y => (some x, y)) else (sk X L c.1, none)
def lbP (X : Tx) (L p : Nat) : Nat × Option Cl := if sg X L (sk X L p) = 33 ∨ sg X L (sk X L p) = 40 then anP X L (coP X L 6 p) else match (suP X L 6 p).2 with
  | none => ((suP X L 6 p).1, none)
  | some x => if isC (sg X L (sk X L (suP X L 6 p).1)) = true then anP X L (coP X L 6 p) else (sk X L (suP X L 6 p).1, some (none, x))
def lcP (X : Tx) (L i : Nat) : Nat × Option Cl := if sg X L (sk X L i) = 121 then (if sg X L (sk X L (sk X L i + 1)) = 58 then lbP X L (sk X L (sk X L i + 1) + 1) else (sk X L (sk X L i + 1), none)) else (sk X L i, none)
def lwF (X : Tx) (L : Nat) : Nat → List Cl → List Int32 → Nat → Nat × Option (List Cl × List Int32)
  | 0, _, _, i => (i, none)
  | f + 1, ks, cs, i => match (lcP X L i).2 with
    | none => ((lcP X L i).1, none)
    | some k => if sg X L (sk X L (lcP X L i).1) = 0 then (sk X L (lcP X L i).1, some (ks ++ [k], cs ++ klC cs.length k)) else if sg X L (sk X L (lcP X L i).1) = 59 then lwF X L f (ks ++ [k]) (cs ++ klC cs.length k) (sk X L (lcP X L i).1 + 1) else (sk X L (lcP X L i).1, none)
theorem anP_ok {X : Tx} {L p : Nat} {c : Res} (hc : c.1 ≤ L) (hl : ∀ x, c.2 = some x → p + x.1.length ≤ c.1) : (anP X L c).1 ≤ L ∧ ∀ k n, (anP X L c).2 = some k → p + (klC n k).length ≤ (anP X L c).1 + 2 := by
  have a := sk_ge X L c.1
  have b := sk_le (X := X) hc
  unfold anP
  cases h : c.2 with
  | none => exact ⟨hc, fun k n q => by cases q⟩
  | some x =>
    dsimp only
    by_cases q : sg X L (sk X L c.1) = 63
    · have lt := sg_lt (X := X) (L := L) (i := sk X L c.1) (by omega)
      obtain ⟨s1, s2⟩ := suP_ok X L 6 (sk X L c.1 + 1) (by omega)
      rw [if_pos q]
      refine ⟨s1, fun k n e => ?_⟩
      cases hs : (suP X L 6 (sk X L c.1 + 1)).2 with
      | none => rw [hs] at e; cases e
      | some y =>
        rw [hs] at e; cases e
        have := s2 y hs
        have := hl x h
        show p + (x.1 ++ [-(nI 63)] ++ [nI (n + x.1.length + 2 + y.1.length + 1)] ++ y.1 ++ [-(nI 59)]).length ≤ _
        rw [List.length_append, List.length_append, List.length_append, List.length_append, List.length_singleton, List.length_singleton, List.length_singleton]
        show p + _ ≤ (suP X L 6 (sk X L c.1 + 1)).1 + 2
        omega
    · rw [if_neg q]
      exact ⟨b, fun k n e => by cases e⟩
theorem lbP_ok {X : Tx} {L p : Nat} (hp : p ≤ L) : (lbP X L p).1 ≤ L ∧ ∀ k n, (lbP X L p).2 = some k → p + (klC n k).length ≤ (lbP X L p).1 + 2 := by
  obtain ⟨c1, c2⟩ := coP_ok X L 6 p hp
  have an := anP_ok (X := X) (p := p) c1 fun x hx => (c2 x hx).2
  unfold lbP
  split
  · exact an
  · obtain ⟨s1, s2⟩ := suP_ok X L 6 p hp
    have a := sk_ge X L (suP X L 6 p).1
    have b := sk_le (X := X) s1
    cases h : (suP X L 6 p).2 with
    | none => exact ⟨s1, fun k n e => by cases e⟩
    | some x =>
      dsimp only
      split
      · exact an
      · refine ⟨b, fun k n e => ?_⟩
        cases e
        have := s2 x h
        show p + (x.1 ++ [-(nI 59)]).length ≤ sk X L (suP X L 6 p).1 + 2
        rw [List.length_append, List.length_singleton]
        omega
theorem lcP_ok {X : Tx} {L i : Nat} (hi : i ≤ L) : (lcP X L i).1 ≤ L ∧ ∀ k n, (lcP X L i).2 = some k → i + (klC n k).length ≤ (lcP X L i).1 := by
  have a := sk_ge X L i
  have b := sk_le (X := X) hi
  unfold lcP
  by_cases q1 : sg X L (sk X L i) = 121
  · have lt := sg_lt (X := X) (L := L) (i := sk X L i) (by omega)
    have a2 := sk_ge X L (sk X L i + 1)
    have b2 := sk_le (X := X) (show sk X L i + 1 ≤ L by omega)
    rw [if_pos q1]
    by_cases q2 : sg X L (sk X L (sk X L i + 1)) = 58
    · have lt2 := sg_lt (X := X) (L := L) (i := sk X L (sk X L i + 1)) (by omega)
      rw [if_pos q2]
      obtain ⟨l1, l2⟩ := lbP_ok (X := X) (show sk X L (sk X L i + 1) + 1 ≤ L by omega)
      exact ⟨l1, fun k n e => by have := l2 k n e; omega⟩
    · rw [if_neg q2]
      exact ⟨b2, fun k n e => by cases e⟩
  · rw [if_neg q1]
    exact ⟨b, fun k n e => by cases e⟩
theorem klC_pos (n : Nat) (k : Cl) : 1 ≤ (klC n k).length := by
  unfold klC
  cases k.1 with
  | none => rw [List.length_append, List.length_singleton]; omega
  | some x => rw [List.length_append, List.length_singleton]; omega
theorem lwF_ok {X : Tx} {L : Nat} : ∀ f ks cs i, i ≤ L → cs.length ≤ i → (lwF X L f ks cs i).1 ≤ L ∧ ∀ r, (lwF X L f ks cs i).2 = some r → r.2.length ≤ (lwF X L f ks cs i).1 := by
  intro f
  induction f with
  | zero => intro ks cs i hi _; exact ⟨hi, fun r p => by cases p⟩
  | succ f ih =>
    intro ks cs i hi hc
    obtain ⟨c1, c2⟩ := lcP_ok (X := X) hi
    unfold lwF
    cases h : (lcP X L i).2 with
    | none => exact ⟨c1, fun r p => by cases p⟩
    | some k =>
      have := c2 k cs.length h
      have a := sk_ge X L (lcP X L i).1
      have b := sk_le (X := X) c1
      have ln : (cs ++ klC cs.length k).length ≤ (lcP X L i).1 := by rw [List.length_append]; omega
      dsimp only
      split
      · exact ⟨b, fun r p => by cases p; show (cs ++ klC cs.length k).length ≤ sk X L (lcP X L i).1; omega⟩
      · split
        · rename_i e1 e2
          have lt := sg_lt (X := X) (L := L) (i := sk X L (lcP X L i).1) e1
          exact ih _ _ _ (by omega) (by omega)
        · exact ⟨b, fun r p => by cases p⟩
/-! the class -/
theorem RowIs.set {row : Rw} {a b : List Int32} {u v : Int32} (h : RowIs row (a ++ [u] ++ b)) : RowIs (upd row a.length v) (a ++ [v] ++ b) := by
  intro j hj
  have hl : (a ++ [v] ++ b).length = (a ++ [u] ++ b).length := by simp
  have hh := h j (by rw [← hl]; exact hj)
  rw [upd_at]
  by_cases e : j = a.length
  · rw [if_pos e, e]
    simp [List.getD_eq_getElem?_getD]
  · rw [if_neg e, hh]
    simp only [List.getD_eq_getElem?_getD]
    by_cases e2 : j < a.length
    · rw [List.append_assoc, List.append_assoc, List.getElem?_append_left e2, List.getElem?_append_left e2]
    · rw [List.getElem?_append_right (by simp; omega), List.getElem?_append_right (by simp; omega)]
      simp
theorem ans_c {X : Tx} {L o : Nat} {c : Res} {cs : List Int32} {x : List Int32 × Den} {σ : Mem} (hx : okX X L) (ho : 2 < o) (hc : c.1 ≤ L) (h2 : c.2 = some x) (hl : (cs ++ x.1).length + 2 ≤ c.1) (h : CL X L o c.1 (cs ++ x.1) σ) : ∃ σ', f_Law_answerReads σ o = some (is1 (anP X L c).2, σ') ∧ CAt X L (anP X L c).1 σ' ∧ DX o σ σ' ∧ ∀ k, (anP X L c).2 = some k → CL X L o (anP X L c).1 (cs ++ klC cs.length k) σ' := by
  have h240 := hx.1
  have a := sk_ge X L c.1
  have b := sk_le (X := X) hc
  obtain ⟨σ1, g1, g2, g3⟩ := Tape_passes (c := 63) hx h.1 hc (by omega)
  unfold f_Law_answerReads anP
  rw [h2, show (63 : Int32) = nI 63 from rfl, g1, Option.bind_some]
  dsimp only
  by_cases q : sg X L (sk X L c.1) = 63
  · have lt := sg_lt (X := X) (L := L) (i := sk X L c.1) (by omega)
    rw [if_pos q] at g2
    have e1 : CL X L o (sk X L c.1 + 1) (cs ++ x.1) σ1 := h.ax ho g3 g2
    obtain ⟨σ2, w1, w2, w3⟩ := e1.put (v := -(nI 63)) ho (by omega)
    have l2 : (cs ++ x.1 ++ [-(nI 63)]).length = (cs ++ x.1).length + 1 := by rw [List.length_append, List.length_singleton]
    obtain ⟨σ3, v1, v2, v3⟩ := w2.put (v := 0) ho (by omega)
    have l3 : (cs ++ x.1 ++ [-(nI 63)] ++ [(0 : Int32)]).length = (cs ++ x.1).length + 2 := by rw [List.length_append, l2, List.length_singleton]
    obtain ⟨σ4, k1, k2, k3, k4⟩ := LS_all hx ho 6 (by omega) 24 (by omega) (sk X L c.1 + 1) _ σ3 (by omega) (by omega) v2
    obtain ⟨p1, p2⟩ := suP_ok X L 6 (sk X L c.1 + 1) (by omega)
    have dx : DX o σ σ4 := (((DX_ax g3).trans w3).trans v3).trans k3
    have k1 : f_LS 24 0 σ3 o (0 : Int32) = some (is1 (suP X L 6 (sk X L c.1 + 1)).2, σ4) := k1
    rw [if_pos q, if_pos q, if_neg (show ¬ (1 : Int32) = 0 by decide), w1, Option.bind_some, v1, Option.bind_some, k1, Option.bind_some]
    dsimp only
    cases hs : (suP X L 6 (sk X L c.1 + 1)).2 with
    | none =>
      rw [if_pos is1_none]
      exact ⟨σ4, rfl, k2, dx, fun k p => by cases p⟩
    | some y =>
      obtain ⟨p3, p4⟩ := p2 y hs
      have e4 := k4 y hs
      have l4 : (cs ++ x.1 ++ [-(nI 63)] ++ [(0 : Int32)] ++ y.1).length = (cs ++ x.1).length + 2 + y.1.length := by rw [List.length_append, l3]
      obtain ⟨σ5, u1, u2, u3⟩ := e4.put (v := -(nI 59)) ho (by omega)
      have l5 : (cs ++ x.1 ++ [-(nI 63)] ++ [(0 : Int32)] ++ y.1 ++ [-(nI 59)]).length = (cs ++ x.1).length + 2 + y.1.length + 1 := by rw [List.length_append, l4, List.length_singleton]
      rw [if_neg (is1_some y), show (-59 : Int32) = -(nI 59) from rfl, u1, Option.bind_some, w2.2.1, u2.2.1, l5, l2, if_neg (show ¬ (240 : Int32) ≤ nI ((cs ++ x.1).length + 1) from nI_ge (b := 240) (by omega) (by omega)), if_pos (inb_nI (show (cs ++ x.1).length + 1 < 240 by omega) (by decide)), nI_clamp (by omega)]
      refine ⟨_, rfl, (u2.1.dx (by omega)), (dx.trans u3).trans (DX_sI (Or.inr rfl) ho), fun k p => ?_⟩
      cases p
      have ea : cs ++ klC cs.length (some x, y) = (cs ++ x.1 ++ [-(nI 63)]) ++ [nI ((cs ++ x.1).length + 2 + y.1.length + 1)] ++ (y.1 ++ [-(nI 59)]) := by
        unfold klC
        rw [List.length_append]
        simp
      rw [ea]
      refine ⟨u2.1.dx (by omega), ?_, ?_⟩
      · rw [row_ne (show o ≠ o + 1 by omega), u2.2.1, l5]
        refine congrArg nI ?_
        simp only [List.length_append, List.length_singleton]
        omega
      · rw [row_sI, ← l2]
        refine RowIs.set (u := 0) ?_
        have r5 := u2.2.2
        rw [show cs ++ x.1 ++ [-(nI 63)] ++ [(0 : Int32)] ++ y.1 ++ [-(nI 59)] = (cs ++ x.1 ++ [-(nI 63)]) ++ [(0 : Int32)] ++ (y.1 ++ [-(nI 59)]) by simp] at r5
        exact r5
  · rw [if_neg q] at g2
    rw [if_neg q, if_neg q, if_pos rfl]
    exact ⟨σ1, rfl, g2, DX_ax g3, fun k p => by cases p⟩
theorem clauseL_c {X : Tx} {L o i : Nat} {cs : List Int32} {σ : Mem} (hx : okX X L) (ho : 2 < o) (hi : i ≤ L) (hl : cs.length ≤ i) (h : CL X L o i cs σ) : ∃ σ', f_Law_clauseReads σ o = some (is1 (lcP X L i).2, σ') ∧ CAt X L (lcP X L i).1 σ' ∧ DX o σ σ' ∧ ∀ k, (lcP X L i).2 = some k → CL X L o (lcP X L i).1 (cs ++ klC cs.length k) σ' := by
  have h240 := hx.1
  have a := sk_ge X L i
  have b := sk_le (X := X) hi
  obtain ⟨-, lc2, lc3, lc4, lc5⟩ := LC_all hx ho 6 (by omega)
  obtain ⟨σ1, g1, g2, g3⟩ := Tape_passes (c := 121) hx h.1 hi (by omega)
  unfold f_Law_clauseReads lcP
  rw [show (121 : Int32) = nI 121 from rfl, g1, Option.bind_some]
  dsimp only
  by_cases q1 : sg X L (sk X L i) = 121
  · have lt := sg_lt (X := X) (L := L) (i := sk X L i) (by omega)
    rw [if_pos q1] at g2
    rw [if_pos q1, if_pos q1, if_neg (show ¬ (1 : Int32) = 0 by decide)]
    have a2 := sk_ge X L (sk X L i + 1)
    have b2 := sk_le (X := X) (show sk X L i + 1 ≤ L by omega)
    obtain ⟨σ2, k1, k2, k3⟩ := Tape_passes (c := 58) hx g2 (by omega) (by omega)
    rw [show (58 : Int32) = nI 58 from rfl, k1, Option.bind_some]
    dsimp only
    by_cases q2 : sg X L (sk X L (sk X L i + 1)) = 58
    · have lt2 := sg_lt (X := X) (L := L) (i := sk X L (sk X L i + 1)) (by omega)
      rw [if_pos q2] at k2
      rw [if_pos q2, if_pos q2, if_neg (show ¬ (1 : Int32) = 0 by decide)]
      generalize hp : sk X L (sk X L i + 1) + 1 = p at k2 ⊢
      have hpL : p ≤ L := by omega
      have a3 := sk_ge X L p
      have b3 := sk_le (X := X) hpL
      have e2 : CL X L o p cs σ2 := (h.ax ho g3 g2).ax ho k3 k2
      have x2 : DX o σ σ2 := DX_ax (g3.trans k3)
      obtain ⟨σ3, m1, m2, m3⟩ := Tape_sign hx k2 hpL
      have s256 := sg_256 (i := sk X L p) hx
      have e3 : CL X L o (sk X L p) cs σ3 := e2.ax ho m3 m2
      have x3 : DX o σ σ3 := x2.trans (DX_ax m3)
      obtain ⟨c1, c2⟩ := coP_ok X L 6 p hpL
      rw [m1, Option.bind_some]
      dsimp only
      rw [show (33 : Int32) = nI 33 from rfl, show (40 : Int32) = nI 40 from rfl, ifs s256 (by omega), ifs s256 (by omega)]
      unfold lbP
      by_cases q3 : sg X L (sk X L p) = 33 ∨ sg X L (sk X L p) = 40
      · have ej : (if sg X L (sk X L p) = 33 then f_Law_clauseReads_J37 σ3 o else if sg X L (sk X L p) = 40 then f_Law_clauseReads_J37 σ3 o else ((f_LS 24 0 σ3 o (0 : Int32)).bind fun q12 => if q12.1 = (0 : Int32) then some ((0 : Int32), q12.2) else (f_Tape_sign q12.2).bind fun q14 => (f_Law_isComparison q14.2 o q14.1).bind fun q15 => if q15 = (0 : Int32) then (f_Law_put q14.2 o (-59 : Int32)).bind fun q25 => some ((1 : Int32), q25) else (f_Law_comparisonReads q14.2 o (0 : Int32)).bind fun q17 => if q17.1 = (0 : Int32) then some ((0 : Int32), q17.2) else (f_LC 40 3 q17.2 o (0 : Int32)).bind fun q19 => if q19.1 = (0 : Int32) then some ((0 : Int32), q19.2) else (f_LC 40 1 q19.2 o (0 : Int32)).bind fun q21 => if q21.1 = (0 : Int32) then some ((0 : Int32), q21.2) else (f_Law_answerReads q21.2 o).bind fun q23 => if q23.1 = (0 : Int32) then some ((0 : Int32), q23.2) else some ((1 : Int32), q23.2))) = f_Law_clauseReads_J37 σ3 o := by
          rcases q3 with z | z
          · rw [if_pos z]
          · rw [if_neg (by omega), if_pos z]
        rw [ej, if_pos q3]
        obtain ⟨σ4, n1, n2, n3, n4⟩ := lc5 40 (by omega) (sk X L p) cs σ3 b3 (by omega) e3
        rw [coP_sk] at n1 n2 n4
        have n1 : f_LC 40 0 σ3 o (0 : Int32) = some (is1 (coP X L 6 p).2, σ4) := n1
        unfold f_Law_clauseReads_J37
        rw [n1, Option.bind_some]
        dsimp only
        cases hco : (coP X L 6 p).2 with
        | none =>
          rw [if_pos is1_none]
          have ea : anP X L (coP X L 6 p) = ((coP X L 6 p).1, none) := by unfold anP; rw [hco]
          rw [ea]
          exact ⟨σ4, rfl, n2, x3.trans n3, fun k p => by cases p⟩
        | some x =>
          obtain ⟨c3, c4⟩ := c2 x hco
          obtain ⟨σ5, u1, u2, u3, u4⟩ := ans_c hx ho c1 hco (by rw [List.length_append]; omega) (n4 x hco)
          rw [if_neg (is1_some x), u1, Option.bind_some]
          dsimp only
          refine ⟨σ5, ?_, u2, (x3.trans n3).trans u3, u4⟩
          cases (anP X L (coP X L 6 p)).2 with
          | none => rfl
          | some y => rfl
      · rw [if_neg (fun z => q3 (Or.inl z)), if_neg (fun z => q3 (Or.inr z)), if_neg q3]
        obtain ⟨σ4, n1, n2, n3, n4⟩ := LS_all hx ho 6 (by omega) 24 (by omega) (sk X L p) cs σ3 b3 (by omega) e3
        rw [suP_sk] at n1 n2 n4
        have n1 : f_LS 24 0 σ3 o (0 : Int32) = some (is1 (suP X L 6 p).2, σ4) := n1
        obtain ⟨s1, s2⟩ := suP_ok X L 6 p hpL
        rw [n1, Option.bind_some]
        dsimp only
        cases hsu : (suP X L 6 p).2 with
        | none =>
          rw [if_pos is1_none]
          exact ⟨σ4, rfl, n2, x3.trans n3, fun k p => by cases p⟩
        | some x =>
          obtain ⟨s3, s4⟩ := s2 x hsu
          have e4 := n4 x hsu
          have a4 := sk_ge X L (suP X L 6 p).1
          have b4 := sk_le (X := X) s1
          obtain ⟨σ5, t1, t2, t3⟩ := Tape_sign hx n2 s1
          have s256' := sg_256 (i := sk X L (suP X L 6 p).1) hx
          have e5 := e4.ax ho t3 t2
          have x5 : DX o σ σ5 := (x3.trans n3).trans (DX_ax t3)
          rw [if_neg (is1_some x), t1, Option.bind_some]
          dsimp only
          rw [Law_isComparison _ _ _ s256', Option.bind_some]
          cases hic : isC (sg X L (sk X L (suP X L 6 p).1)) with
          | false =>
            rw [if_pos (show b01 false = 0 from rfl), if_neg (by decide)]
            obtain ⟨σ6, w1, w2, w3⟩ := e5.put (v := -(nI 59)) ho (by rw [List.length_append]; omega)
            rw [show (-59 : Int32) = -(nI 59) from rfl, w1, Option.bind_some]
            refine ⟨σ6, rfl, w2.1, x5.trans w3, fun k z => ?_⟩
            cases z
            rw [List.append_assoc] at w2
            exact w2
          | true =>
            rw [if_neg (show ¬ b01 true = 0 by decide), if_pos rfl]
            -- the sum begins a condition
            have eu : unP X L 6 p = cmF X L 6 x.1 x.2 (sk X L (suP X L 6 p).1) := by
              show unP X L (5 + 1) p = _
              unfold unP
              rw [if_neg (fun z => q3 (Or.inl z)), if_neg (fun z => q3 (Or.inr z))]
              unfold cmP
              rw [hsu]
              dsimp only
              unfold cmF
              rw [sk_sk]
            obtain ⟨u1, u2⟩ := unP_ok X L 6 p hpL
            obtain ⟨σ6, w1, w2, w3, w4⟩ := cmF_c (r := 6) (d := x.2) hx ho (by omega) b4 (by rw [List.length_append]; omega) e5
            rw [← eu] at w1 w2 w4
            have w1 : f_Law_comparisonReads σ5 o (0 : Int32) = some (is1 (unP X L 6 p).2, σ6) := w1
            rw [w1, Option.bind_some]
            dsimp only
            have x6 := x5.trans w3
            have et : trP X L 6 p = match (unP X L 6 p).2 with
              | none => ((unP X L 6 p).1, none)
              | some r => chF X L opA (unP X L 6) 240 r.1 r.2 (unP X L 6 p).1 := rfl
            have ec : coP X L 6 p = match (trP X L 6 p).2 with
              | none => ((trP X L 6 p).1, none)
              | some r => chF X L opO (trP X L 6) 240 r.1 r.2 (trP X L 6 p).1 := rfl
            cases hun : (unP X L 6 p).2 with
            | none =>
              rw [hun] at et
              rw [et] at ec
              have ea : anP X L (coP X L 6 p) = ((unP X L 6 p).1, none) := by unfold anP; rw [ec]
              rw [if_pos is1_none, ea]
              exact ⟨σ6, rfl, w2, x6, fun k z => by cases z⟩
            | some y =>
              obtain ⟨u3, u4⟩ := u2 y hun
              rw [hun] at et
              have et : trP X L 6 p = chF X L opA (unP X L 6) 240 y.1 y.2 (unP X L 6 p).1 := et
              obtain ⟨σ7, v1, v2, v3, v4⟩ := lc2 40 (by omega) y.1 y.2 (unP X L 6 p).1 cs σ6 u1 (by rw [List.length_append]; omega) (w4 y hun)
              rw [← et] at v1 v2 v4
              have v1 : f_LC 40 3 σ6 o (0 : Int32) = some (is1 (trP X L 6 p).2, σ7) := v1
              obtain ⟨t1', t2'⟩ := trP_ok X L 6 p hpL
              rw [if_neg (is1_some y), v1, Option.bind_some]
              dsimp only
              cases htr : (trP X L 6 p).2 with
              | none =>
                rw [htr] at ec
                have ea : anP X L (coP X L 6 p) = ((trP X L 6 p).1, none) := by unfold anP; rw [ec]
                rw [if_pos is1_none, ea]
                exact ⟨σ7, rfl, v2, x6.trans v3, fun k z => by cases z⟩
              | some z =>
                obtain ⟨t3', t4'⟩ := t2' z htr
                rw [htr] at ec
                have ec : coP X L 6 p = chF X L opO (trP X L 6) 240 z.1 z.2 (trP X L 6 p).1 := ec
                obtain ⟨σ8, r1, r2, r3, r4⟩ := lc4 40 (by omega) z.1 z.2 (trP X L 6 p).1 cs σ7 t1' (by rw [List.length_append]; omega) (v4 z htr)
                rw [← ec] at r1 r2 r4
                have r1 : f_LC 40 1 σ7 o (0 : Int32) = some (is1 (coP X L 6 p).2, σ8) := r1
                rw [if_neg (is1_some z), r1, Option.bind_some]
                dsimp only
                cases hco : (coP X L 6 p).2 with
                | none =>
                  have ea : anP X L (coP X L 6 p) = ((coP X L 6 p).1, none) := by unfold anP; rw [hco]
                  rw [if_pos is1_none, ea]
                  exact ⟨σ8, rfl, r2, (x6.trans v3).trans r3, fun k z => by cases z⟩
                | some w =>
                  obtain ⟨c3, c4⟩ := c2 w hco
                  obtain ⟨σ9, y1, y2, y3, y4⟩ := ans_c hx ho c1 hco (by rw [List.length_append]; omega) (r4 w hco)
                  rw [if_neg (is1_some w), y1, Option.bind_some]
                  dsimp only
                  refine ⟨σ9, ?_, y2, ((x6.trans v3).trans r3).trans y3, y4⟩
                  cases (anP X L (coP X L 6 p)).2 with
                  | none => rfl
                  | some y => rfl
    · rw [if_neg q2] at k2
      rw [if_neg q2, if_neg q2, if_pos rfl]
      exact ⟨σ2, rfl, k2, DX_ax (g3.trans k3), fun k p => by cases p⟩
  · rw [if_neg q1] at g2
    rw [if_neg q1, if_neg q1, if_pos rfl]
    exact ⟨σ1, rfl, g2, DX_ax g3, fun k p => by cases p⟩
theorem law_go {X : Tx} {L o : Nat} (hx : okX X L) (ho : 2 < o) : ∀ f ks cs i n σ, f + n = 240 → i ≤ L → cs.length ≤ i → CL X L o i cs σ → ∀ m, f < m → ∃ σ', loopF (f_Law_read_L12 o) m (σ, nI n) = some (ftS (lwF X L f ks cs i), σ') ∧ DX o σ σ' ∧ ∀ r, (lwF X L f ks cs i).2 = some r → mI σ' o 2 = nI r.2.length ∧ RowIs (mI σ' (o + 1)) r.2 := by
  intro f
  induction f with
  | zero =>
    intro ks cs i n σ hf hi hl h m hm
    obtain ⟨m, rfl⟩ : ∃ k, m = k + 1 := ⟨m - 1, by omega⟩
    refine ⟨σ, loopF_inr ?_, DX.refl _ _, fun r p => by cases p⟩
    unfold f_Law_read_L12
    dsimp only
    rw [show n = 240 by omega, if_pos (show (240 : Int32) ≤ nI 240 by decide), h.1.2.1]
    rfl
  | succ f ih =>
    intro ks cs i n σ hf hi hl h m hm
    obtain ⟨m, rfl⟩ : ∃ k, m = k + 1 := ⟨m - 1, by omega⟩
    obtain ⟨σ1, g1, g2, g3, g4⟩ := clauseL_c hx ho hi hl h
    obtain ⟨c1, c2⟩ := lcP_ok (X := X) hi
    have z240 : ¬ (240 : Int32) ≤ nI n := nI_ge (b := 240) (by omega) (by omega)
    unfold lwF
    cases hq : (lcP X L i).2 with
    | none =>
      rw [hq] at g1
      refine ⟨σ1, loopF_inr ?_, g3, fun r p => by cases p⟩
      unfold f_Law_read_L12
      dsimp only
      rw [if_neg z240, g1, Option.bind_some]
      dsimp only
      rw [if_pos is1_none, g2.2.1]
      rfl
    | some k =>
      rw [hq] at g1
      have e1 := g4 k hq
      have lk := c2 k cs.length hq
      have a := sk_ge X L (lcP X L i).1
      have b := sk_le (X := X) c1
      have s256 := sg_256 (i := sk X L (lcP X L i).1) hx
      have ln : (cs ++ klC cs.length k).length ≤ (lcP X L i).1 := by rw [List.length_append]; omega
      obtain ⟨σ2, k1, k2, k3⟩ := Tape_sign hx g2 c1
      have e2 := e1.ax ho k3 k2
      have x2 := g3.trans (DX_ax (o := o) k3)
      dsimp only
      by_cases q0 : sg X L (sk X L (lcP X L i).1) = 0
      · rw [if_pos q0]
        refine ⟨σ2, loopF_inr ?_, x2, fun r p => by cases p; exact e2.2⟩
        unfold f_Law_read_L12
        dsimp only
        rw [if_neg z240, g1, Option.bind_some]
        dsimp only
        rw [if_neg (is1_some k), k1, Option.bind_some]
        dsimp only
        rw [if_pos (show nI (sg X L (sk X L (lcP X L i).1)) = 0 by rw [q0]; rfl)]
        rfl
      · rw [if_neg q0]
        obtain ⟨σ3, p1, p2, p3⟩ := Tape_passes (c := 59) hx k2 b (by omega)
        rw [sk_sk] at p1 p2
        by_cases q1 : sg X L (sk X L (lcP X L i).1) = 59
        · have lt := sg_lt (X := X) (L := L) (i := sk X L (lcP X L i).1) q0
          rw [if_pos q1] at p1 p2
          rw [if_pos q1]
          have st : f_Law_read_L12 o (σ, nI n) = some (.inl (σ3, nI (n + 1))) := by
            unfold f_Law_read_L12
            dsimp only
            rw [if_neg z240, g1, Option.bind_some]
            dsimp only
            rw [if_neg (is1_some k), k1, Option.bind_some]
            dsimp only
            rw [if_neg (nI_ne0 (by omega) (by omega)), show (59 : Int32) = nI 59 from rfl, p1, Option.bind_some]
            dsimp only
            rw [if_neg (show ¬ (1 : Int32) = 0 by decide), nI_1]
          obtain ⟨σ4, r1, r2, r3⟩ := ih (ks ++ [k]) (cs ++ klC cs.length k) (sk X L (lcP X L i).1 + 1) (n + 1) σ3 (by omega) (by omega) (by omega) (e2.ax ho p3 p2) m (by omega)
          exact ⟨σ4, (loopF_inl st).trans r1, (x2.trans (DX_ax p3)).trans r2, r3⟩
        · rw [if_neg q1] at p1 p2
          rw [if_neg q1]
          refine ⟨σ3, loopF_inr ?_, x2.trans (DX_ax p3), fun r p => by cases p⟩
          unfold f_Law_read_L12
          dsimp only
          rw [if_neg z240, g1, Option.bind_some]
          dsimp only
          rw [if_neg (is1_some k), k1, Option.bind_some]
          dsimp only
          rw [if_neg (nI_ne0 (by omega) (by omega)), show (59 : Int32) = nI 59 from rfl, p1, Option.bind_some]
          dsimp only
          rw [if_pos rfl, p2.2.1]
          rfl
def lwR (X : Tx) (L : Nat) : Nat × Option (List Cl × List Int32) := lwF X L 240 [] [] 0
theorem Law_read {X : Tx} {L o : Nat} {σ : Mem} (hx : okX X L) (ho : 2 < o) (h : CTx X L σ) : ∃ σ', f_Law_read σ o = some (ftS (lwR X L), σ') ∧ DX o σ σ' ∧ ∀ r, (lwR X L).2 = some r → mI σ' o 2 = nI r.2.length ∧ RowIs (mI σ' (o + 1)) r.2 := by
  have c0 : CL X L o 0 [] (sI (sI σ o 2 (0 : Int32)) 1 2 (0 : Int32)) := ⟨(h.dx (a := o) (k := 2) (v := 0) ho).to (j := 0), by rw [row_ne (by omega), row_sI, upd_self]; rfl, fun j hj => absurd hj (Nat.not_lt_zero _)⟩
  obtain ⟨σ1, g1, g2, g3⟩ := law_go hx ho 240 [] [] 0 0 _ rfl (Nat.zero_le _) (Nat.le_refl _) c0 FU (by unfold FU; omega)
  exact ⟨σ1, g1, ((DX_sI (Or.inl rfl) ho).trans (DX_ax (AX_sI (Or.inl rfl)))).trans g2, g3⟩
