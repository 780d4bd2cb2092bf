/-! days, whole -/
def RowIs (row : Rw) (cs : List Int32) : Prop := ∀ j, j < cs.length → row j = cs.getD j 0
theorem RowIs.app3 {row row' : Rw} {cs : List Int32} {a b c : Int32} (h : RowIs row cs) (h0 : ∀ j, j < cs.length → row' j = row j) (h1 : row' cs.length = a) (h2 : row' (cs.length + 1) = b) (h3 : row' (cs.length + 2) = c) : RowIs row' (cs ++ [a, b, c]) := by
  intro j hj
  rw [List.length_append] at hj
  have hj : j < cs.length + 3 := hj
  by_cases e : j < cs.length
  · rw [h0 j e, h j e]
    simp [List.getD_eq_getElem?_getD, List.getElem?_append, e]
  · rcases (show j = cs.length ∨ j = cs.length + 1 ∨ j = cs.length + 2 by omega) with rfl | rfl | rfl
    · rw [h1]; simp [List.getD_eq_getElem?_getD]
    · rw [h2]; simp [List.getD_eq_getElem?_getD, List.getElem?_append]
    · rw [h3]; simp [List.getD_eq_getElem?_getD, List.getElem?_append]
def daF (X : Tx) (L : Nat) : Nat → List Int32 → Nat → Nat × Option (List Int32)
  | 0, _, i => (i, none)
  | f + 1, cs, i => match (stP X L i).2 with
    | none => ((stP X L i).1, none)
    | some r => if sg X L (sk X L (stP X L i).1) = 0 then (sk X L (stP X L i).1, some (cs ++ [r.1, r.2.1, r.2.2])) else if sg X L (sk X L (stP X L i).1) = 59 then (if f = 0 then (sk X L (stP X L i).1, none) else daF X L f (cs ++ [r.1, r.2.1, r.2.2]) (sk X L (stP X L i).1 + 1)) else (sk X L (stP X L i).1, none)
/-- what a day may be -/
def okDay (cs : List Int32) : Prop := ∃ n, n ≤ 16 ∧ cs.length = 3 * n ∧ ∀ j, j < n → ∃ q, q ≤ 4 ∧ cs.getD (3 * j) 0 = nI q
theorem okDay.app {cs : List Int32} {r : R3} (h : okDay cs) (hl : cs.length < 48) (hr : ∃ q, q ≤ 4 ∧ r.1 = nI q) : okDay (cs ++ [r.1, r.2.1, r.2.2]) := by
  obtain ⟨n, n1, n2, n3⟩ := h
  refine ⟨n + 1, by omega, by rw [List.length_append, n2]; show 3 * n + 3 = _; omega, fun j hj => ?_⟩
  by_cases e : j < n
  · obtain ⟨q, q1, q2⟩ := n3 j e
    refine ⟨q, q1, ?_⟩
    rw [← q2]
    simp [List.getD_eq_getElem?_getD, List.getElem?_append, show 3 * j < cs.length by omega]
  · have : j = n := by omega
    subst this
    obtain ⟨q, q1, q2⟩ := hr
    refine ⟨q, q1, ?_⟩
    rw [← q2, ← n2]
    simp [List.getD_eq_getElem?_getD]
theorem daF_ok {X : Tx} {L : Nat} : ∀ f n cs i, f + n = 16 → cs.length = 3 * n → okDay cs → i ≤ L → (daF X L f cs i).1 ≤ L ∧ ∀ cs', (daF X L f cs i).2 = some cs' → okDay cs' ∧ 3 ≤ cs'.length := by
  intro f
  induction f with
  | zero => intro n cs i hf hl hd hi; exact ⟨hi, fun cs' p => by cases p⟩
  | succ f ih =>
    intro n cs i hf hl hd hi
    obtain ⟨s1, s2⟩ := stP_ok (X := X) hi
    unfold daF
    cases h : (stP X L i).2 with
    | none => exact ⟨s1, fun cs' p => by cases p⟩
    | some r =>
      obtain ⟨s3, s4⟩ := s2 r h
      have k := sk_le (X := X) s1
      have od := hd.app (r := r) (by omega) s4
      have ln : (cs ++ [r.1, r.2.1, r.2.2]).length = 3 * (n + 1) := by rw [List.length_append, hl]; show 3 * n + 3 = _; omega
      dsimp only
      split
      · exact ⟨k, fun cs' p => by cases p; exact ⟨od, by omega⟩⟩
      · split
        · split
          · exact ⟨k, fun cs' p => by cases p⟩
          · rename_i c1 c2 c3
            have := sg_lt (X := X) (L := L) (i := sk X L (stP X L i).1) (by omega)
            exact ih (n + 1) _ _ (by omega) ln od (by omega)
        · exact ⟨k, fun cs' p => by cases p⟩
/-! the class -/
theorem days_go {X : Tx} {L o : Nat} (hx : okX X L) (ho : 2 < o) : ∀ f n cs i σ, f + n = 16 → cs.length = 3 * n → i ≤ L → CAt X L i σ → RowIs (mI σ (o + 1)) cs → ∀ m, f < m → ∃ σ', loopF (f_Day_stepsRead_L2 o) m (σ, nI n) = some (is1 (daF X L f cs i).2, σ') ∧ CAt X L (daF X L f cs i).1 σ' ∧ DX o σ σ' ∧ ∀ cs', (daF X L f cs i).2 = some cs' → mI σ' o 1 = nI (cs'.length / 3) ∧ RowIs (mI σ' (o + 1)) cs' := by
  intro f
  induction f with
  | zero =>
    intro n cs i σ hf hl hi h hr m hm
    obtain ⟨m, rfl⟩ : ∃ k, m = k + 1 := ⟨m - 1, by omega⟩
    refine ⟨σ, loopF_inr ?_, h, DX.refl _ _, fun cs' p => by cases p⟩
    unfold f_Day_stepsRead_L2
    dsimp only
    rw [if_pos (show (16 : Int32) ≤ nI n from nI_le (a := 16) (by omega) (by omega))]
    rfl
  | succ f ih =>
    intro n cs i σ hf hl hi h hr m hm
    obtain ⟨m, rfl⟩ : ∃ k, m = k + 1 := ⟨m - 1, by omega⟩
    obtain ⟨σ1, g1, g2, g3, g4, g5⟩ := day_step (n := n) hx ho (by omega) h hi
    obtain ⟨s1, s2⟩ := stP_ok (X := X) hi
    have z16 : ¬ (16 : Int32) ≤ nI n := nI_ge (b := 16) (by omega) (by omega)
    unfold daF
    cases hq : (stP X L i).2 with
    | none =>
      rw [hq] at g1
      refine ⟨σ1, loopF_inr ?_, g2, g3, fun cs' p => by cases p⟩
      unfold f_Day_stepsRead_L2
      dsimp only
      rw [if_neg z16, nI_mul3, g1, Option.bind_some]
      rfl
    | some r =>
      rw [hq] at g1
      have g5 := g5 r hq
      have g2' := g2.dx (a := o) (k := 1) (v := nI (n + 1)) ho
      obtain ⟨σ2, k1, k2, k3⟩ := Tape_sign hx g2' s1
      have kle := sk_le (X := X) s1
      have s256 := sg_256 (i := sk X L (stP X L i).1) hx
      have dx2 : DX o σ σ2 := (g3.trans (DX_sI (Or.inl rfl) ho)).trans (DX_ax k3)
      have e1 : mI σ2 o 1 = nI (n + 1) := by rw [k3.1 o (by omega), row_sI, upd_self]
      have ln : (cs ++ [r.1, r.2.1, r.2.2]).length = 3 * (n + 1) := by rw [List.length_append, hl]; show 3 * n + 3 = _; omega
      have rw2 : RowIs (mI σ2 (o + 1)) (cs ++ [r.1, r.2.1, r.2.2]) := by
        rw [k3.1 _ (by omega), row_ne (by omega)]
        refine hr.app3 (fun j hj => g4 j (by omega)) ?_ ?_ ?_
        · rw [hl]; exact g5.1
        · rw [hl]; exact g5.2.1
        · rw [hl]; exact g5.2.2
      have st : f_Day_stepsRead_L2 o (σ, nI n) = if sg X L (sk X L (stP X L i).1) = 0 then some (.inr (1, σ2)) else if sg X L (sk X L (stP X L i).1) = 59 then (if f = 0 then some (.inr (0, σ2)) else some (.inl (sI σ2 1 2 (nI (sk X L (stP X L i).1 + 1)), nI (n + 1)))) else some (.inr (0, σ2)) := by
        unfold f_Day_stepsRead_L2
        dsimp only
        rw [if_neg z16, nI_mul3, g1, Option.bind_some]
        dsimp only
        rw [if_neg (show ¬ is1 (some r) = 0 from (by decide : ¬ (1 : Int32) = 0)), nI_1, k1, Option.bind_some]
        dsimp only
        by_cases q0 : sg X L (sk X L (stP X L i).1) = 0
        · rw [if_pos (show nI (sg X L (sk X L (stP X L i).1)) = 0 by rw [q0]; rfl), if_pos q0]
        · rw [if_neg (nI_ne0 (by omega) (by omega)), if_neg q0]
          by_cases q1 : sg X L (sk X L (stP X L i).1) = 59
          · rw [if_pos (show nI (sg X L (sk X L (stP X L i).1)) = (59 : Int32) by rw [q1]; rfl), if_pos q1, e1]
            by_cases q2 : f = 0
            · rw [if_pos (show nI (n + 1) = (16 : Int32) by rw [show n + 1 = 16 by omega]; rfl), if_pos q2]
            · rw [if_neg (show ¬ nI (n + 1) = (16 : Int32) from fun p => q2 (by have := (nI_eq (b := 16) (by omega) (by decide)).mp p; omega)), if_neg q2, k2.2.1, nI_1]
          · rw [if_neg (show ¬ nI (sg X L (sk X L (stP X L i).1)) = (59 : Int32) from fun p => q1 ((nI_eq (b := 59) (by omega) (by decide)).mp p)), if_neg q1]
      dsimp only
      by_cases q0 : sg X L (sk X L (stP X L i).1) = 0
      · rw [if_pos q0] at st ⊢
        refine ⟨σ2, loopF_inr st, k2, dx2, fun cs' p => ?_⟩
        cases p
        exact ⟨by rw [e1, ln, Nat.mul_div_cancel_left _ (by decide)], rw2⟩
      · rw [if_neg q0] at st ⊢
        by_cases q1 : sg X L (sk X L (stP X L i).1) = 59
        · rw [if_pos q1] at st ⊢
          by_cases q2 : f = 0
          · rw [if_pos q2] at st ⊢
            exact ⟨σ2, loopF_inr st, k2, dx2, fun cs' p => by cases p⟩
          · rw [if_neg q2] at st ⊢
            have lt := sg_lt (X := X) (L := L) (i := sk X L (stP X L i).1) q0
            obtain ⟨σ3, p1, p2, p3, p4⟩ := ih (n + 1) _ (sk X L (stP X L i).1 + 1) (sI σ2 1 2 (nI (sk X L (stP X L i).1 + 1))) (by omega) ln (by omega) k2.to (by rw [row_ne (by omega)]; exact rw2) m (by omega)
            exact ⟨σ3, (loopF_inl st).trans p1, p2, (dx2.trans (DX_ax (AX_sI (Or.inl rfl)))).trans p3, p4⟩
        · rw [if_neg q1] at st ⊢
          exact ⟨σ2, loopF_inr st, k2, dx2, fun cs' p => by cases p⟩
/-- the fault of a text: where it is, or -1 -/
def ftS {α : Type} (r : Nat × Option α) : Int32 := match r.2 with | none => nI r.1 | some _ => -1
/-- the tape, wherever its reader stands -/
def CTx (X : Tx) (L : Nat) (σ : Mem) : Prop := mI σ 1 1 = nI L ∧ ∀ j, j < L → mI σ 2 j = nI (X j)
theorem CTx.to {X : Tx} {L j : Nat} {σ : Mem} (h : CTx X L σ) : CAt X L j (sI σ 1 2 (nI j)) := ⟨by rw [row_sI, upd_ne (by omega)]; exact h.1, by rw [row_sI, upd_self], fun k hk => by rw [row_ne (by omega)]; exact h.2 k hk⟩
theorem CTx.dx {X : Tx} {L a k : Nat} {v : Int32} {σ : Mem} (h : CTx X L σ) (ha : 2 < a) : CTx X L (sI σ a k v) := ⟨by rw [row_ne (by omega)]; exact h.1, fun j hj => by rw [row_ne (by omega)]; exact h.2 j hj⟩
theorem Day_read {X : Tx} {L o : Nat} {σ : Mem} (hx : okX X L) (ho : 2 < o) (h : CTx X L σ) : ∃ σ', f_Day_read σ o = some (ftS (daF X L 16 [] 0), σ') ∧ DX o σ σ' ∧ ∀ cs', (daF X L 16 [] 0).2 = some cs' → mI σ' o 1 = nI (cs'.length / 3) ∧ RowIs (mI σ' (o + 1)) cs' := by
  have c0 : CAt X L 0 (sI (sI σ o 1 (0 : Int32)) 1 2 (0 : Int32)) := (h.dx (a := o) (k := 1) (v := 0) ho).to (j := 0)
  obtain ⟨σ1, g1, g2, g3, g4⟩ := days_go hx ho 16 0 [] 0 _ rfl rfl (Nat.zero_le _) c0 (fun j hj => by simp at hj) FU (by unfold FU; omega)
  have dx : DX o σ σ1 := ((DX_sI (Or.inl rfl) ho).trans (DX_ax (AX_sI (Or.inl rfl)))).trans g3
  refine ⟨σ1, ?_, dx, g4⟩
  unfold f_Day_read f_Day_stepsRead ftS
  rw [show loopF (f_Day_stepsRead_L2 o) FU (sI (sI σ o 1 (0 : Int32)) 1 2 (0 : Int32), (0 : Int32)) = _ from g1, Option.bind_some]
  dsimp only
  rw [g2.2.1]
  cases (daF X L 16 [] 0).2 with
  | none => rfl
  | some cs => rfl
/-! the reference -/
def PX2 (σ σ' : Mem) : Prop := (∀ c, c ≠ 565 → c ≠ 576 → c ≠ 577 → mI σ' c = mI σ c) ∧ (∀ k, ¬ (8 ≤ k ∧ k ≤ 12) → mI σ' 565 k = mI σ 565 k) ∧ (∀ k, k < 192 → mI σ' 576 k = mI σ 576 k) ∧ (∀ k, k < 4 → mI σ' 577 k = mI σ 577 k) ∧ mL σ' = mL σ ∧ ∀ c k, (c ≠ 565 ∨ k ≠ 5) → mR σ' c k = mR σ c k
theorem PX2.refl (σ : Mem) : PX2 σ σ := ⟨fun _ _ _ _ => rfl, fun _ _ => rfl, fun _ _ => rfl, fun _ _ => rfl, rfl, fun _ _ _ => rfl⟩
theorem PX2.trans {σ σ1 σ2 : Mem} (h : PX2 σ σ1) (g : PX2 σ1 σ2) : PX2 σ σ2 := ⟨fun c h1 h2 h3 => (g.1 c h1 h2 h3).trans (h.1 c h1 h2 h3), fun k hk => (g.2.1 k hk).trans (h.2.1 k hk), fun k hk => (g.2.2.1 k hk).trans (h.2.2.1 k hk), fun k hk => (g.2.2.2.1 k hk).trans (h.2.2.2.1 k hk), g.2.2.2.2.1.trans h.2.2.2.2.1, fun c k hk => (g.2.2.2.2.2 c k hk).trans (h.2.2.2.2.2 c k hk)⟩
theorem PX2_rx {σ σ' : Mem} (h : RX σ σ') : PX2 σ σ' := ⟨fun c h1 _ _ => h.1 c h1, fun k hk => h.2.1 k (by omega) (by omega) (by omega), fun k _ => by rw [h.1 576 (by omega)], fun k _ => by rw [h.1 577 (by omega)], h.2.2.1, fun c k _ => by rw [h.2.2.2]⟩
theorem PX2_6 {σ : Mem} {k : Nat} {v : Int32} (h : 192 ≤ k) : PX2 σ (sI σ 576 k v) := ⟨fun c _ h2 _ => row_ne h2, fun k _ => by rw [row_ne (by omega)], fun j hj => by rw [row_sI, upd_ne (by omega)], fun j _ => by rw [row_ne (by omega)], rfl, fun _ _ _ => rfl⟩
theorem MAt.ce {X : Tx} {L a b i c k : Nat} {f d v : Int32} {σ : Mem} (h : MAt X L a b i f d σ) (hc : c ≠ 565) (hc2 : c ≠ a) : MAt X L a b i f d (sI σ c k v) := h.fr (fun j _ => by rw [row_ne (fun q => hc q.symm)]) (row_ne (fun q => hc2 q.symm)) rfl
theorem plan_step {X : Tx} {L i r : Nat} {d : Int32} {σ : Mem} (hx : okX X L) (hr1 : 192 ≤ r) (hr2 : r + 2 < 240) (h : MAt X L 566 0 i (-1) d σ) (hi : i ≤ L) : ∃ σ', f_Model_readStep σ (nI r) = some σ' ∧ PX2 σ σ' ∧ (∀ k, k < r → mI σ' 576 k = mI σ 576 k) ∧ (∀ t, (stP X L i).2 = some t → MAt X L 566 0 (stP X L i).1 (-1) d σ' ∧ mI σ' 576 r = t.1 ∧ mI σ' 576 (r + 1) = t.2.1 ∧ mI σ' 576 (r + 2) = t.2.2) ∧ ((stP X L i).2 = none → ∃ k, MAt X L 566 0 k (nI (stP X L i).1) d σ') := by
  have ha := okA_6
  obtain ⟨σ1, g1, g2, g3⟩ := Model_look hx ha h hi
  have kle := sk_le (X := X) hi
  have s256 := sg_256 (i := sk X L i) hx
  have lp : ∀ y, f_Model_spotOf σ1 5 y = loopF (f_Model_spotOf_L2 m00 5 y) FU (0 : Int32) := fun y => rfl
  unfold f_Model_readStep
  rw [g1, Option.bind_some]
  dsimp only
  rw [lp, spD_m _ s256, Option.bind_some]
  have c1 : nI r + (1 : Int32) = nI (r + 1) := nI_1 _
  have c2 : nI r + (2 : Int32) = nI (r + 2) := by rw [show (2 : Int32) = nI 2 from rfl, nI_add]
  unfold stP
  cases hq : spD (sg X L (sk X L i)) with
  | none =>
    obtain ⟨σ2, k1, k2, k3⟩ := Model_fails ha g2
    rw [if_pos (show spI none = -1 from rfl), k1, Option.bind_some]
    refine ⟨σ2, rfl, PX2_rx (g3.trans k3), fun k _ => by rw [k3.1 576 (by omega), g3.1 576 (by omega)], fun t p => (by cases p), fun _ => ⟨sk X L i, k2⟩⟩
  | some q =>
    have q5 := spD_lt hq
    have hs := sg_lt (spD_0 hq)
    rw [if_neg (show ¬ spI (some q) = -1 from nI_ne_m1 (by omega)), c1, c2, if_pos (inb_nI (show r < 240 by omega) (by decide)), if_pos (inb_nI (show r + 1 < 240 by omega) (by decide)), if_pos (inb_nI (show r + 2 < 240 by omega) (by decide)), nI_clamp (show r < 2 ^ 31 by omega), nI_clamp (show r + 1 < 2 ^ 31 by omega), nI_clamp (show r + 2 < 2 ^ 31 by omega), g2.2.2.2.1, nI_1, show spI (some q) = nI q from rfl]
    have k0 : MAt X L 566 0 (sk X L i + 1) (-1) d (sI (sI (sI (sI σ1 565 10 (nI (sk X L i + 1))) 576 r (nI q)) 576 (r + 1) (-1 : Int32)) 576 (r + 2) (-1 : Int32)) := (((g2.to (j := sk X L i + 1) ha).ce (by omega) (by omega)).ce (by omega) (by omega)).ce (by omega) (by omega)
    have x0 : PX2 σ (sI (sI (sI (sI σ1 565 10 (nI (sk X L i + 1))) 576 r (nI q)) 576 (r + 1) (-1 : Int32)) 576 (r + 2) (-1 : Int32)) := (((PX2_rx (g3.trans (RX_sI (Or.inl rfl)))).trans (PX2_6 hr1)).trans (PX2_6 (by omega))).trans (PX2_6 (by omega))
    have r0 : mI (sI (sI (sI (sI σ1 565 10 (nI (sk X L i + 1))) 576 r (nI q)) 576 (r + 1) (-1 : Int32)) 576 (r + 2) (-1 : Int32)) 576 = upd (upd (upd (mI σ 576) r (nI q)) (r + 1) (-1)) (r + 2) (-1) := by rw [row_sI, row_sI, row_sI, row_ne (show (576 : Nat) ≠ 565 by omega), g3.1 576 (by omega)]
    generalize sI (sI (sI (sI σ1 565 10 (nI (sk X L i + 1))) 576 r (nI q)) 576 (r + 1) (-1 : Int32)) 576 (r + 2) (-1 : Int32) = σ2 at k0 x0 r0 ⊢
    dsimp only
    have d2 := sk_le (X := X) (show sk X L i + 1 ≤ L by omega)
    by_cases n0 : ndD q = 0
    · have q4 : q = 4 := by unfold ndD at n0; repeat' split at n0
                            all_goals omega
      rw [if_pos n0, if_pos (show nI q = (4 : Int32) by rw [q4]; rfl)]
      refine ⟨σ2, rfl, x0, fun k hk => ?_, fun t p => ?_, fun p => by cases p⟩
      · rw [r0, upd_ne (by omega), upd_ne (by omega), upd_ne (by omega)]
      · cases p
        rw [r0]
        exact ⟨k0, by rw [upd_ne (by omega), upd_ne (by omega), upd_self], by rw [upd_ne (by omega), upd_self], by rw [upd_self]⟩
    · have q4 : q ≠ 4 := fun z => n0 (by rw [z]; rfl)
      obtain ⟨τ1, a1, a2, a3⟩ := Model_digit hx ha k0 (by omega)
      have r1 : mI τ1 576 = mI σ2 576 := a3.1 576 (by omega)
      rw [if_neg n0, if_neg (show ¬ nI q = (4 : Int32) from fun p => q4 ((nI_eq (b := 4) (by omega) (by decide)).mp p)), a1, Option.bind_some]
      dsimp only
      cases hd : dg X L (sk X L (sk X L i + 1)) with
      | false =>
        rw [hd, if_neg (by decide), if_neg (by decide)] at a2
        have m1 := a2.ce (c := 576) (k := r + 1) (v := 0) (by omega) (by omega)
        rw [if_neg (show ¬ false = true by decide), if_neg (show ¬ false = true by decide), m1.2.2.2.2.1, if_neg (nI_ne_m1 (by have := hx.1; omega))]
        refine ⟨_, rfl, (x0.trans (PX2_rx a3)).trans (PX2_6 (by omega)), fun k hk => ?_, fun t p => (by cases p), fun _ => ⟨_, m1⟩⟩
        rw [row_sI, upd_ne (by omega), r1, r0, upd_ne (by omega), upd_ne (by omega), upd_ne (by omega)]
      | true =>
        rw [hd, if_pos rfl, if_pos rfl] at a2
        have e1 := dg_t hd
        have m1 := a2.ce (c := 576) (k := r + 1) (v := nI (X (sk X L (sk X L i + 1)) - 48)) (by omega) (by omega)
        have x1 := (x0.trans (PX2_rx a3)).trans (PX2_6 (k := r + 1) (v := nI (X (sk X L (sk X L i + 1)) - 48)) (by omega))
        have d3 := sk_le (X := X) (show sk X L (sk X L i + 1) + 1 ≤ L by omega)
        rw [if_pos rfl, if_pos rfl, m1.2.2.2.2.1, if_pos rfl]
        by_cases n1 : ndD q = 1
        · have qn : q ≠ 0 ∧ q ≠ 2 := ⟨fun z => by rw [z] at n1; exact absurd n1 (by decide), fun z => by rw [z] at n1; exact absurd n1 (by decide)⟩
          rw [if_pos n1, if_neg (nI_ne0 (by omega) (by omega)), if_neg (show ¬ nI q = (2 : Int32) from fun p => qn.2 ((nI_eq (b := 2) (by omega) (by decide)).mp p))]
          refine ⟨_, rfl, x1, fun k hk => ?_, fun t p => ?_, fun p => by cases p⟩
          · rw [row_sI, upd_ne (by omega), r1, r0, upd_ne (by omega), upd_ne (by omega), upd_ne (by omega)]
          · cases p
            refine ⟨m1, ?_⟩
            rw [row_sI, r1, r0]
            exact ⟨by rw [upd_ne (by omega), upd_ne (by omega), upd_ne (by omega), upd_self], by rw [upd_self], by rw [upd_ne (by omega), upd_self]⟩
        · obtain ⟨τ2, b1, b2, b3⟩ := Model_digit hx ha m1 (by omega)
          have r2 : mI τ2 576 = upd (mI σ2 576) (r + 1) (nI (X (sk X L (sk X L i + 1)) - 48)) := by rw [b3.1 576 (by omega), row_sI, r1]
          have j92 : f_Model_readStep_J92 (sI τ1 576 (r + 1) (nI (X (sk X L (sk X L i + 1)) - 48))) (nI r) = some (sI τ2 576 (r + 2) (if dg X L (sk X L (sk X L (sk X L i + 1) + 1)) = true then nI (X (sk X L (sk X L (sk X L i + 1) + 1)) - 48) else 0)) := by
            unfold f_Model_readStep_J92
            rw [b1, Option.bind_some]
            dsimp only
            rw [c2, if_pos (inb_nI (show r + 2 < 240 by omega) (by decide)), nI_clamp (by omega)]
          have both : (if nI q = (0 : Int32) then f_Model_readStep_J92 (sI τ1 576 (r + 1) (nI (X (sk X L (sk X L i + 1)) - 48))) (nI r) else if nI q = (2 : Int32) then f_Model_readStep_J92 (sI τ1 576 (r + 1) (nI (X (sk X L (sk X L i + 1)) - 48))) (nI r) else some (sI τ1 576 (r + 1) (nI (X (sk X L (sk X L i + 1)) - 48)))) = f_Model_readStep_J92 (sI τ1 576 (r + 1) (nI (X (sk X L (sk X L i + 1)) - 48))) (nI r) := by
            have : q = 0 ∨ q = 2 := by
              by_cases z : q = 0 ∨ q = 2
              · exact z
              · exact absurd (show ndD q = 1 by unfold ndD; rw [if_neg z, if_neg q4]) n1
            rcases this with z | z
            · rw [if_pos (show nI q = (0 : Int32) by rw [z]; rfl)]
            · rw [if_neg (show ¬ nI q = (0 : Int32) by rw [z]; decide), if_pos (show nI q = (2 : Int32) by rw [z]; rfl)]
          rw [if_neg n1, both, j92]
          cases hd2 : dg X L (sk X L (sk X L (sk X L i + 1) + 1)) with
          | false =>
            rw [hd2, if_neg (by decide), if_neg (by decide)] at b2
            rw [if_neg (show ¬ false = true by decide), if_neg (show ¬ false = true by decide)]
            refine ⟨_, rfl, (x1.trans (PX2_rx b3)).trans (PX2_6 (by omega)), fun k hk => ?_, fun t p => (by cases p), fun _ => ⟨_, b2.ce (by omega) (by omega)⟩⟩
            rw [row_sI, upd_ne (by omega), r2, upd_ne (by omega), r0, upd_ne (by omega), upd_ne (by omega), upd_ne (by omega)]
          | true =>
            rw [hd2, if_pos rfl, if_pos rfl] at b2
            rw [if_pos rfl, if_pos rfl]
            refine ⟨_, rfl, (x1.trans (PX2_rx b3)).trans (PX2_6 (by omega)), fun k hk => ?_, fun t p => ?_, fun p => (by cases p)⟩
            · rw [row_sI, upd_ne (by omega), r2, upd_ne (by omega), r0, upd_ne (by omega), upd_ne (by omega), upd_ne (by omega)]
            · cases p
              refine ⟨b2.ce (by omega) (by omega), ?_⟩
              rw [row_sI, r2, r0]
              exact ⟨by rw [upd_ne (by omega), upd_ne (by omega), upd_ne (by omega), upd_ne (by omega), upd_self], by rw [upd_ne (by omega), upd_self], by rw [upd_self]⟩
