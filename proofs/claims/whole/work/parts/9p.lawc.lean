/-! laws: the class reads them -/
theorem RowIs.app1 {row row' : Rw} {cs : List Int32} {a : Int32} (h : RowIs row cs) (h0 : ∀ j, j < cs.length → row' j = row j) (h1 : row' cs.length = a) : RowIs row' (cs ++ [a]) := by
  intro j hj
  rw [List.length_append, List.length_singleton] at hj
  by_cases e : j < cs.length
  · rw [h0 j e, h j e]
    simp [List.getD_eq_getElem?_getD, List.getElem?_append, e]
  · have : j = cs.length := by omega
    subst this
    rw [h1]
    simp [List.getD_eq_getElem?_getD]
def CL (X : Tx) (L o i : Nat) (cs : List Int32) (σ : Mem) : Prop := CAt X L i σ ∧ mI σ o 2 = nI cs.length ∧ RowIs (mI σ (o + 1)) cs
theorem CL.ax {X : Tx} {L o i j : Nat} {cs : List Int32} {σ σ' : Mem} (ho : 2 < o) (h : CL X L o i cs σ) (g : AX σ σ') (c : CAt X L j σ') : CL X L o j cs σ' := ⟨c, by rw [g.1 o (by omega)]; exact h.2.1, by rw [g.1 (o + 1) (by omega)]; exact h.2.2⟩
theorem CL.put {X : Tx} {L o i : Nat} {cs : List Int32} {v : Int32} {σ : Mem} (ho : 2 < o) (h : CL X L o i cs σ) (hn : cs.length < 240) : ∃ σ', f_Law_put σ o v = some σ' ∧ CL X L o i (cs ++ [v]) σ' ∧ DX o σ σ' := by
  refine ⟨sI (sI σ (o + 1) cs.length v) o 2 (nI (cs.length + 1)), ?_, ⟨(h.1.dx (by omega)).dx (by omega), ?_, ?_⟩, (DX_sI (Or.inr rfl) ho).trans (DX_sI (Or.inl rfl) ho)⟩
  · unfold f_Law_put
    rw [h.2.1, if_neg (show ¬ (240 : Int32) ≤ nI cs.length from nI_ge (b := 240) hn (by omega)), if_pos (inb_nI hn (by decide)), nI_clamp (by omega), row_ne (show o ≠ o + 1 by omega), h.2.1, nI_1]
  · rw [row_sI, upd_self, List.length_append, List.length_singleton]
  · rw [row_ne (show o + 1 ≠ o by omega), row_sI]
    exact h.2.2.app1 (fun j hj => upd_ne (by omega)) (upd_self _ _ _)
/-- the class's reader F reads what P says -/
def CCon (X : Tx) (L o : Nat) (P : Nat → Res) (F : Mem → Option (Int32 × Mem)) : Prop := ∀ i cs σ, i ≤ L → cs.length ≤ i → CL X L o i cs σ → ∃ σ', F σ = some (is1 (P i).2, σ') ∧ CAt X L (P i).1 σ' ∧ DX o σ σ' ∧ ∀ r, (P i).2 = some r → CL X L o (P i).1 (cs ++ r.1) σ'
theorem CCon.of {X : Tx} {L o : Nat} {P : Nat → Res} {F F' : Mem → Option (Int32 × Mem)} (h : CCon X L o P F) (e : ∀ σ v σ', F σ = some (v, σ') → (v = 0 ∨ v = 1) → F' σ = some (v, σ')) : CCon X L o P F' := fun i cs σ h1 h2 h3 => by
  obtain ⟨σ', g1, g2⟩ := h i cs σ h1 h2 h3
  exact ⟨σ', e σ _ σ' g1 (by cases (P i).2 <;> first | exact Or.inl rfl | exact Or.inr rfl), g2⟩
theorem is1_some {α : Type} (x : α) : ¬ is1 (some x) = 0 := (by decide : ¬ (1 : Int32) = 0)
theorem is1_none {α : Type} : is1 (none : Option α) = 0 := rfl
theorem chain_go {X : Tx} {L o : Nat} {op : Nat → Bool} {P : Nat → Res} {G : Mem → Option (Int32 × Mem)} {stp : Mem × Int32 → Option ((Mem × Int32) ⊕ (Int32 × Mem))} (hx : okX X L) (ho : 2 < o) (h0 : op 0 = false) (hP : okP L P) (hG : CCon X L o P G) (hs : ∀ τ z i τ1, z < 240 → i ≤ L → CAt X L i τ → f_Tape_sign τ = some (nI (sg X L (sk X L i)), τ1) → CAt X L (sk X L i) τ1 → stp (τ, nI z) = if op (sg X L (sk X L i)) = true then (G (sI τ1 1 2 (nI (sk X L i + 1)))).bind fun q => if q.1 = (0 : Int32) then some (.inr ((0 : Int32), q.2)) else (f_Law_put q.2 o (-(nI (sg X L (sk X L i))))).bind fun q8 => some (.inl (q8, nI (z + 1))) else some (.inr ((1 : Int32), τ1))) (he : ∀ τ, stp (τ, nI 240) = some (.inr ((0 : Int32), τ))) : ∀ n z c d i pre τ, n + z = 240 → i ≤ L → (pre ++ c).length ≤ i → CL X L o i (pre ++ c) τ → ∀ m, n < m → ∃ σ', loopF stp m (τ, nI z) = some (is1 (chF X L op P n c d i).2, σ') ∧ CAt X L (chF X L op P n c d i).1 σ' ∧ DX o τ σ' ∧ ∀ r, (chF X L op P n c d i).2 = some r → CL X L o (chF X L op P n c d i).1 (pre ++ r.1) σ' := by
  have h240 := hx.1
  intro n
  induction n with
  | zero =>
    intro z c d i pre τ hz hi hc h m hm
    obtain ⟨m, rfl⟩ : ∃ k, m = k + 1 := ⟨m - 1, by omega⟩
    refine ⟨τ, loopF_inr ?_, h.1, DX.refl _ _, fun r p => by cases p⟩
    rw [show z = 240 by omega]
    exact he τ
  | succ n ih =>
    intro z c d i pre τ hz hi hc h m hm
    obtain ⟨m, rfl⟩ : ∃ k, m = k + 1 := ⟨m - 1, by omega⟩
    obtain ⟨τ1, g1, g2, g3⟩ := Tape_sign hx h.1 hi
    have a := sk_ge X L i
    have b := sk_le (X := X) hi
    have st := hs τ z i τ1 (by omega) hi h.1 g1 g2
    have h1 := h.ax ho g3 g2
    unfold chF
    cases q : op (sg X L (sk X L i)) with
    | false =>
      rw [q, if_neg (by decide)] at st
      rw [if_neg (by decide)]
      exact ⟨τ1, loopF_inr st, g2, DX_ax g3, fun r p => by cases p; exact h1⟩
    | true =>
      rw [q, if_pos rfl] at st
      rw [if_pos rfl]
      have lt := sg_lt (X := X) (L := L) (i := sk X L i) (fun z => by rw [z, h0] at q; cases q)
      have h2 : CL X L o (sk X L i + 1) (pre ++ c) (sI τ1 1 2 (nI (sk X L i + 1))) := h1.ax ho (AX_sI (Or.inl rfl)) g2.to
      obtain ⟨τ2, k1, k2, k3, k4⟩ := hG (sk X L i + 1) (pre ++ c) _ (by omega) (by omega) h2
      obtain ⟨p1, p2⟩ := hP (sk X L i + 1) (by omega)
      have dx2 : DX o τ τ2 := (DX_ax (g3.trans (AX_sI (Or.inl rfl)))).trans k3
      rw [k1, Option.bind_some] at st
      dsimp only at st
      cases hr : (P (sk X L i + 1)).2 with
      | none =>
        rw [hr, if_pos is1_none] at st
        exact ⟨τ2, loopF_inr st, k2, dx2, fun r p => by cases p⟩
      | some r =>
        obtain ⟨p3, p4⟩ := p2 r hr
        have h3 := k4 r hr
        have l3 : (pre ++ c ++ r.1).length + 1 ≤ (P (sk X L i + 1)).1 := by rw [List.length_append]; omega
        obtain ⟨τ3, w1, w2, w3⟩ := h3.put (v := -(nI (sg X L (sk X L i)))) ho (by omega)
        rw [hr, if_neg (is1_some r), w1, Option.bind_some] at st
        have ea : pre ++ c ++ r.1 ++ [-(nI (sg X L (sk X L i)))] = pre ++ (c ++ r.1 ++ [-(nI (sg X L (sk X L i)))]) := by simp
        rw [ea] at w2
        obtain ⟨σ', e1, e2, e3, e4⟩ := ih (z + 1) (c ++ r.1 ++ [-(nI (sg X L (sk X L i)))]) (fun l => jo (sg X L (sk X L i)) (d l) (r.2 l)) (P (sk X L i + 1)).1 pre τ3 (by omega) p1 (by rw [← ea, List.length_append, List.length_singleton]; exact l3) w2 m (by omega)
        exact ⟨σ', (loopF_inl st).trans e1, e2, (dx2.trans w3).trans e3, e4⟩
theorem chain_con {X : Tx} {L o : Nat} {op : Nat → Bool} {P : Nat → Res} {G G1 F : Mem → Option (Int32 × Mem)} {stp : Mem × Int32 → Option ((Mem × Int32) ⊕ (Int32 × Mem))} (hx : okX X L) (ho : 2 < o) (h0 : op 0 = false) (hP : okP L P) (hG : CCon X L o P G) (hG1 : CCon X L o P G1) (hs : ∀ τ z i τ1, z < 240 → i ≤ L → CAt X L i τ → f_Tape_sign τ = some (nI (sg X L (sk X L i)), τ1) → CAt X L (sk X L i) τ1 → stp (τ, nI z) = if op (sg X L (sk X L i)) = true then (G (sI τ1 1 2 (nI (sk X L i + 1)))).bind fun q => if q.1 = (0 : Int32) then some (.inr ((0 : Int32), q.2)) else (f_Law_put q.2 o (-(nI (sg X L (sk X L i))))).bind fun q8 => some (.inl (q8, nI (z + 1))) else some (.inr ((1 : Int32), τ1))) (he : ∀ τ, stp (τ, nI 240) = some (.inr ((0 : Int32), τ))) (hF : ∀ σ, F σ = (G1 σ).bind fun q1 => if q1.1 = (0 : Int32) then some ((0 : Int32), q1.2) else loopF stp FU (q1.2, (0 : Int32))) : CCon X L o (chP X L op P) F := by
  intro i cs σ hi hc h
  obtain ⟨σ1, g1, g2, g3, g4⟩ := hG1 i cs σ hi hc h
  obtain ⟨p1, p2⟩ := hP i hi
  unfold chP
  rw [hF, g1, Option.bind_some]
  dsimp only
  cases hr : (P i).2 with
  | none =>
    rw [if_pos is1_none]
    exact ⟨σ1, rfl, g2, g3, fun r p => by cases p⟩
  | some r =>
    obtain ⟨p3, p4⟩ := p2 r hr
    rw [if_neg (is1_some r)]
    obtain ⟨σ', e1, e2, e3, e4⟩ := chain_go hx ho h0 hP hG hs he 240 0 r.1 r.2 (P i).1 cs σ1 rfl p1 (by rw [List.length_append]; omega) (g4 r hr) FU (by unfold FU; omega)
    exact ⟨σ', e1, e2, g3.trans e3, e4⟩
theorem ifs {α : Type} {c k : Nat} (hc : c < 256) (hk : k < 256) {x y : α} : (if nI c = nI k then x else y) = if c = k then x else y := nI_if hc hk x y
theorem two_op {α : Type} {c k1 k2 : Nat} (x y : α) : (if c = k1 then x else if c = k2 then x else y) = if (decide (c = k1) || decide (c = k2)) = true then x else y := by
  by_cases q1 : c = k1
  · rw [if_pos q1, decide_eq_true q1, Bool.true_or, if_pos rfl]
  · rw [if_neg q1, decide_eq_false q1, Bool.false_or]
    by_cases q2 : c = k2
    · rw [if_pos q2, decide_eq_true q2, if_pos rfl]
    · rw [if_neg q2, decide_eq_false q2, if_neg (by decide)]
theorem sum_c {X : Tx} {L o n r : Nat} {x2 : Int32} (hx : okX X L) (ho : 2 < o) (hG : CCon X L o (teS X L r) (fun σ => f_LS n 1 σ o x2)) : CCon X L o (suP X L r) (fun σ => f_LS (n + 1) 0 σ o x2) := by
  rw [suP_e]
  refine chain_con (G := fun σ => f_LS n 1 σ o x2) (stp := f_Law_sumReads_L13 (f_LS n) o x2) hx ho (by decide) (teS_ok X L r) hG hG (fun τ z i τ1 hz hi h g1 g2 => ?_) (fun τ => ?_) (fun σ => rfl)
  · have s256 := sg_256 (i := sk X L i) hx
    unfold f_Law_sumReads_L13
    dsimp only
    rw [if_neg (show ¬ (240 : Int32) ≤ nI z from nI_ge (b := 240) hz (by omega)), g1, Option.bind_some]
    dsimp only
    rw [g2.2.1, nI_1, nI_1, show (43 : Int32) = nI 43 from rfl, show (45 : Int32) = nI 45 from rfl, ifs s256 (by omega), ifs s256 (by omega), two_op]
    rfl
  · unfold f_Law_sumReads_L13
    dsimp only
    rw [if_pos (show (240 : Int32) ≤ nI 240 by decide)]
theorem term_c {X : Tx} {L o n r : Nat} {x2 : Int32} (hx : okX X L) (ho : 2 < o) (hG : CCon X L o (atS X L r) (fun σ => f_LS n 2 σ o x2)) : CCon X L o (teS X L r) (fun σ => f_LS (n + 1) 1 σ o x2) := by
  refine chain_con (G := fun σ => f_LS n 2 σ o x2) (stp := f_Law_termReads_L13 (f_LS n) o x2) hx ho (by decide) (atS_ok X L r) hG hG (fun τ z i τ1 hz hi h g1 g2 => ?_) (fun τ => ?_) (fun σ => rfl)
  · have s256 := sg_256 (i := sk X L i) hx
    unfold f_Law_termReads_L13
    dsimp only
    rw [if_neg (show ¬ (240 : Int32) ≤ nI z from nI_ge (b := 240) hz (by omega)), g1, Option.bind_some]
    dsimp only
    rw [g2.2.1, nI_1, nI_1, show (42 : Int32) = nI 42 from rfl, show (47 : Int32) = nI 47 from rfl, ifs s256 (by omega), ifs s256 (by omega), two_op]
    rfl
  · unfold f_Law_termReads_L13
    dsimp only
    rw [if_pos (show (240 : Int32) ≤ nI 240 by decide)]
theorem tb0 : ∀ a, a < 6 → ∀ c, c < 256 → (tb 0 a = nI c ↔ ltI c = some a) := by decide +kernel
theorem lets_go {rc : Nat → Mem → Nat → Int32 → Option (Int32 × Mem)} {σ : Mem} {o c : Nat} {x2 : Int32} (hc : c < 256) : ∀ k a, a + k = 6 → (∀ b, b < a → ltI c ≠ some b) → ∀ m, k < m → loopF (f_Law_atomReads_L58 rc σ o x2 (nI c)) m (nI a) = match ltI c with
    | none => some (.inl ())
    | some q => (f_Law_put (sI σ 1 2 ((mI σ 1 2) + (1 : Int32))) o ((-1 : Int32) - nI q)).bind fun q6 => some (.inr ((1 : Int32), q6)) := by
  intro k
  induction k with
  | zero =>
    intro a ha hb m hm
    obtain ⟨m, rfl⟩ : ∃ k, m = k + 1 := ⟨m - 1, by omega⟩
    have hn : ltI c = none := by
      cases h : ltI c with
      | none => rfl
      | some q => exact absurd h (hb q (by have := (ltI_6 h).1; omega))
    rw [hn]
    refine loopF_inr ?_
    unfold f_Law_atomReads_L58
    rw [if_pos (show Int32.ofNat 6 ≤ nI a from nI_le (a := 6) (by omega) (by omega))]
  | succ k ih =>
    intro a ha hb m hm
    obtain ⟨m, rfl⟩ : ∃ k, m = k + 1 := ⟨m - 1, by omega⟩
    have t := tb0 a (by omega) c hc
    have st : f_Law_atomReads_L58 rc σ o x2 (nI c) (nI a) = if tb 0 a = nI c then ((f_Law_put (sI σ 1 2 ((mI σ 1 2) + (1 : Int32))) o ((-1 : Int32) - nI a)).bind fun q6 => some (.inr (.inr ((1 : Int32), q6)))) else some (.inl (nI (a + 1))) := by
      unfold f_Law_atomReads_L58
      rw [if_neg (show ¬ Int32.ofNat 6 ≤ nI a from nI_ge (b := 6) (by omega) (by omega)), if_pos (inb_nI (show a < 6 by omega) (by decide)), nI_clamp (by omega), nI_1]
    by_cases q : ltI c = some a
    · rw [if_pos (t.mpr q)] at st
      rw [q]
      dsimp only
      cases hp : f_Law_put (sI σ 1 2 ((mI σ 1 2) + (1 : Int32))) o ((-1 : Int32) - nI a) with
      | none =>
        rw [hp] at st
        rw [loopF_succ, st]
        rfl
      | some σ' =>
        rw [hp] at st
        exact loopF_inr st
    · rw [if_neg (fun p => q (t.mp p))] at st
      rw [loopF_inl st]
      refine ih (a + 1) (by omega) (fun b h1 => ?_) m (by omega)
      by_cases e : b = a
      · rw [e]; exact q
      · exact hb b (by omega)
theorem nbP_sk {X : Tx} {L n i : Nat} : nbP X L n (sk X L i) = nbP X L n i := by unfold nbP; rw [sk_sk]
theorem thn_c {X : Tx} {L o c : Nat} {P : Nat → Res} {F : Mem → Option (Int32 × Mem)} (hx : okX X L) (ho : 2 < o) (hc : c < 256) (hP : okP L P) (h : CCon X L o P F) : CCon X L o (fun i => thn X L c (P i)) (fun σ => (F σ).bind fun q13 => if q13.1 = (0 : Int32) then some ((0 : Int32), q13.2) else (f_Tape_passes q13.2 (nI c)).bind fun q15 => if q15.1 = (0 : Int32) then some ((0 : Int32), q15.2) else some ((1 : Int32), q15.2)) := by
  intro i cs σ hi hl hcl
  obtain ⟨σ1, g1, g2, g3, g4⟩ := h i cs σ hi hl hcl
  obtain ⟨p1, p2⟩ := hP i hi
  dsimp only
  rw [g1, Option.bind_some]
  dsimp only
  unfold thn
  cases hr : (P i).2 with
  | none =>
    rw [if_pos is1_none]
    exact ⟨σ1, rfl, g2, g3, fun r p => by cases p⟩
  | some r =>
    obtain ⟨σ2, k1, k2, k3⟩ := Tape_passes (c := c) hx g2 p1 hc
    rw [if_neg (is1_some r), k1, Option.bind_some]
    dsimp only
    have h1 := g4 r hr
    by_cases q : sg X L (sk X L (P i).1) = c
    · rw [if_pos q] at k2
      rw [if_pos q, if_pos q, if_neg (show ¬ (1 : Int32) = 0 by decide)]
      exact ⟨σ2, rfl, k2, g3.trans (DX_ax k3), fun s p => by cases p; exact h1.ax ho k3 k2⟩
    · rw [if_neg q] at k2
      rw [if_neg q, if_neg q, if_pos rfl]
      exact ⟨σ2, rfl, k2, g3.trans (DX_ax k3), fun s p => by cases p⟩
theorem atom_c {X : Tx} {L o n r : Nat} (hx : okX X L) (ho : 2 < o) (hr6 : r ≤ 6) (hG : ∀ r', r = r' + 1 → CCon X L o (suP X L r') (fun σ => f_LS n 0 σ o (nI (6 - r')))) : CCon X L o (atS X L r) (fun σ => f_LS (n + 1) 2 σ o (nI (6 - r))) := by
  have h240 := hx.1
  intro i cs σ hi hl h
  have a := sk_ge X L i
  have b := sk_le (X := X) hi
  obtain ⟨σ1, g1, g2, g3⟩ := Tape_sign hx h.1 hi
  have s256 := sg_256 (i := sk X L i) hx
  have h1 := h.ax ho g3 g2
  show ∃ σ', f_Law_atomReads (f_LS n) σ o (nI (6 - r)) = _ ∧ _
  unfold f_Law_atomReads atS atP
  rw [g1, Option.bind_some]
  dsimp only
  rw [show (91 : Int32) = nI 91 from rfl, ifs s256 (by omega)]
  by_cases q : sg X L (sk X L i) = 91
  · have lt := sg_lt (X := X) (L := L) (i := sk X L i) (by omega)
    rw [if_pos q, if_pos q]
    cases r with
    | zero =>
      rw [if_neg (show ¬ nI (6 - 0) < (6 : Int32) by decide)]
      exact ⟨σ1, rfl, g2, DX_ax g3, fun r p => by cases p⟩
    | succ r =>
      have h2 : CL X L o (sk X L i + 1) cs (sI σ1 1 2 (nI (sk X L i + 1))) := h1.ax ho (AX_sI (Or.inl rfl)) g2.to
      obtain ⟨σ2, k1, k2, k3, k4⟩ := thn_c (c := 93) hx ho (by omega) (suP_ok X L r) (hG r rfl) (sk X L i + 1) cs _ (by omega) (by omega) h2
      rw [if_pos (show nI (6 - (r + 1)) < (6 : Int32) from nI_lt (b := 6) (by omega) (by omega)), g2.2.1, nI_1, nI_1, show 6 - (r + 1) + 1 = 6 - r by omega, show (93 : Int32) = nI 93 from rfl]
      exact ⟨σ2, k1, k2, (DX_ax (g3.trans (AX_sI (Or.inl rfl)))).trans k3, k4⟩
  · rw [if_neg q, if_neg q, show (0 : Int32) = nI 0 from rfl, lets_go s256 6 0 rfl (fun b hb => by omega) FU (by unfold FU; omega)]
    cases hq : ltI (sg X L (sk X L i)) with
    | some k =>
      have lt := sg_lt (X := X) (L := L) (i := sk X L i) (ltI_6 hq).2.1
      have h2 : CL X L o (sk X L i + 1) cs (sI σ1 1 2 (nI (sk X L i + 1))) := h1.ax ho (AX_sI (Or.inl rfl)) g2.to
      obtain ⟨σ2, w1, w2, w3⟩ := h2.put (v := (-1 : Int32) - nI k) ho (by omega)
      dsimp only
      rw [g2.2.1, nI_1, w1]
      exact ⟨σ2, rfl, w2.1, (DX_ax (g3.trans (AX_sI (Or.inl rfl)))).trans w3, fun r p => by cases p; exact w2⟩
    | none =>
      obtain ⟨n1, n2, n3⟩ := nbP_le (X := X) (n := 4) (by omega) hi
      obtain ⟨σ2, k1, k2, k3, k4⟩ := Tape_passesNumber (n := 4) hx (by omega) g2 b
      rw [nbP_sk] at k1 k2 k4
      dsimp only
      show ∃ σ', ((f_Tape_passesNumber σ1 (4 : Int32)).bind fun q8 => if q8.1 = nI 0 then some (nI 0, q8.2) else (f_Law_put q8.2 o (mI q8.2 1 3)).bind fun q10 => some ((1 : Int32), q10)) = _ ∧ _
      rw [show (4 : Int32) = nI 4 from rfl, k1, Option.bind_some]
      dsimp only
      cases hn : (nbP X L 4 i).2 with
      | none =>
        rw [if_pos (show is1 (none : Option Nat) = nI 0 from rfl)]
        exact ⟨σ2, rfl, k2, DX_ax (g3.trans k3), fun r p => by cases p⟩
      | some v =>
        have l := n3 v hn
        have h2 := h1.ax ho k3 k2
        obtain ⟨σ3, w1, w2, w3⟩ := h2.put (v := nI v) ho (by omega)
        rw [if_neg (show ¬ is1 (some v) = nI 0 from is1_some v), k4 v hn, w1, Option.bind_some]
        exact ⟨σ3, rfl, w2.1, (DX_ax (g3.trans k3)).trans w3, fun r p => by cases p; exact w2⟩
theorem LS_all {X : Tx} {L o : Nat} (hx : okX X L) (ho : 2 < o) : ∀ r, r ≤ 6 → ∀ n, 3 * r + 3 ≤ n → CCon X L o (suP X L r) (fun σ => f_LS n 0 σ o (nI (6 - r))) := by
  intro r
  induction r with
  | zero =>
    intro _ n hn
    obtain ⟨n, rfl⟩ : ∃ k, n = k + 3 := ⟨n - 3, by omega⟩
    exact sum_c hx ho (term_c hx ho (atom_c hx ho (by omega) fun r' p => by omega))
  | succ r ih =>
    intro hr n hn
    obtain ⟨n, rfl⟩ : ∃ k, n = k + 3 := ⟨n - 3, by omega⟩
    exact sum_c hx ho (term_c hx ho (atom_c hx ho hr fun r' p => by
      obtain rfl : r = r' := by omega
      exact ih (by omega) n (by omega)))
