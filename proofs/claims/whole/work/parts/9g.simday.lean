/-! days: the reference reads them; fault and text -/
def RowM (σ : Mem) (cs : List Int32) : Prop := ∀ j, j < cs.length → mI σ 576 (192 + j) = cs.getD j 0
theorem RowM.rw {σ : Mem} {cs : List Int32} (h : RowM σ cs) : RowIs (fun j => mI σ 576 (192 + j)) cs := h
theorem plan_go {X : Tx} {L : Nat} {d : Int32} (hx : okX X L) : ∀ f n cs i σ, (f + 1) + n = 16 → cs.length = 3 * n → i ≤ L → MAt X L 566 0 i (-1) d σ → RowM σ cs → ∀ m, f + 2 < m → ∃ e, loopF f_Model_readPlan_L17 m (σ, nI n, 1) = some e ∧ Sum.elim (fun s : Mem × Int32 => ∃ j cs', MAt X L 566 0 j (-1) d s.1 ∧ j ≤ L ∧ sk X L j = j ∧ s.2 = nI (cs'.length / 3) ∧ RowM s.1 cs' ∧ PX2 σ s.1 ∧ daF X L (f + 1) cs i = if sg X L j = 0 then (j, some cs') else (j, none)) (fun τ => (∃ k, MAt X L 566 0 k (nI (daF X L (f + 1) cs i).1) d τ) ∧ (daF X L (f + 1) cs i).2 = none ∧ PX2 σ τ) e := by
  have ha := okA_6
  have h240 := hx.1
  intro f
  induction f with
  | zero =>
    intro n cs i σ hf hl hi h hr m hm
    obtain ⟨m, rfl⟩ : ∃ k, m = k + 2 := ⟨m - 2, by omega⟩
    obtain ⟨σ1, g1, g2, g3, g4, g5⟩ := plan_step (r := 192 + 3 * n) hx (by omega) (by omega) h hi
    obtain ⟨s1, s2⟩ := stP_ok (X := X) hi
    have ix : (3 : Int32) * ((64 : Int32) + nI n) = nI (192 + 3 * n) := by rw [show (64 : Int32) = nI 64 from rfl, nI_add, nI_3mul]; exact congrArg nI (by omega)
    unfold daF
    cases hq : (stP X L i).2 with
    | none =>
      obtain ⟨k, hk⟩ := g5 hq
      refine ⟨.inr σ1, loopF_inr ?_, ⟨k, hk⟩, rfl, g2⟩
      unfold f_Model_readPlan_L17
      dsimp only
      rw [if_neg (show ¬ (1 : Int32) = 0 by decide), ix, g1, Option.bind_some, hk.2.2.2.2.1, if_neg (nI_ne_m1 (by omega))]
    | some r =>
      obtain ⟨m1, r1, r2, r3⟩ := g4 r hq
      obtain ⟨σ2, k1, k2, k3⟩ := Model_look hx ha m1 s1
      have kle := sk_le (X := X) s1
      have s256 := sg_256 (i := sk X L (stP X L i).1) hx
      have px := g2.trans (PX2_rx k3)
      have rw2 : RowM σ2 (cs ++ [r.1, r.2.1, r.2.2]) := by
        have e6 : mI σ2 576 = mI σ1 576 := k3.1 576 (by omega)
        refine RowIs.app3 (row' := fun j => mI σ2 576 (192 + j)) hr.rw (fun j hj => ?_) ?_ ?_ ?_
        · show mI σ2 576 (192 + j) = mI σ 576 (192 + j)
          rw [e6]; exact g3 _ (by omega)
        · show mI σ2 576 (192 + cs.length) = r.1
          rw [e6, hl]; exact r1
        · show mI σ2 576 (192 + (cs.length + 1)) = r.2.1
          rw [e6, hl, ← Nat.add_assoc]; exact r2
        · show mI σ2 576 (192 + (cs.length + 2)) = r.2.2
          rw [e6, hl, ← Nat.add_assoc]; exact r3
      have ln : (cs ++ [r.1, r.2.1, r.2.2]).length = 3 * (n + 1) := by rw [List.length_append, hl]; show 3 * n + 3 = _; omega
      dsimp only
      by_cases q1 : sg X L (sk X L (stP X L i).1) = 59
      · obtain ⟨σ3, p1, p2, p3⟩ := Model_fails ha k2
        rw [if_neg (by omega), if_pos q1, if_pos rfl]
        refine ⟨.inr σ3, loopF_inr ?_, ⟨_, p2⟩, rfl, px.trans (PX2_rx p3)⟩
        unfold f_Model_readPlan_L17
        dsimp only
        rw [if_neg (show ¬ (1 : Int32) = 0 by decide), ix, g1, Option.bind_some, m1.2.2.2.2.1, if_pos rfl, k1, Option.bind_some]
        dsimp only
        rw [if_pos (show sgM (sg X L (sk X L (stP X L i).1)) = (59 : Int32) from (sgM_eq s256 (c := 59) (by omega) (by omega)).mpr q1), if_neg (show ¬ (1 : Int32) = 0 by decide), nI_1, if_pos (show nI (n + 1) = (16 : Int32) by rw [show n + 1 = 16 by omega]; rfl), p1, Option.bind_some]
      · refine ⟨.inl (σ2, nI (n + 1)), ?_, sk X L (stP X L i).1, cs ++ [r.1, r.2.1, r.2.2], k2, kle, sk_sk _ _ _, by rw [ln, Nat.mul_div_cancel_left _ (by decide)], rw2, px, ?_⟩
        · have st : f_Model_readPlan_L17 (σ, nI n, 1) = some (.inl (σ2, nI (n + 1), 0)) := by
            unfold f_Model_readPlan_L17
            dsimp only
            rw [if_neg (show ¬ (1 : Int32) = 0 by decide), ix, g1, Option.bind_some, m1.2.2.2.2.1, if_pos rfl, k1, Option.bind_some]
            dsimp only
            rw [if_neg (show ¬ sgM (sg X L (sk X L (stP X L i).1)) = (59 : Int32) from fun p => q1 ((sgM_eq s256 (c := 59) (by omega) (by omega)).mp p)), if_pos (show (0 : Int32) = 0 from rfl), if_pos (show (0 : Int32) = 0 from rfl), nI_1]
          rw [loopF_inl st]
          refine loopF_inr ?_
          unfold f_Model_readPlan_L17
          dsimp only
          rw [if_pos rfl]
        · by_cases q0 : sg X L (sk X L (stP X L i).1) = 0
          · rw [if_pos q0, if_pos q0]
          · rw [if_neg q0, if_neg q1, if_neg q0]
  | succ f ih =>
    intro n cs i σ hf hl hi h hr m hm
    obtain ⟨m, rfl⟩ : ∃ k, m = k + 2 := ⟨m - 2, by omega⟩
    obtain ⟨σ1, g1, g2, g3, g4, g5⟩ := plan_step (r := 192 + 3 * n) hx (by omega) (by omega) h hi
    obtain ⟨s1, s2⟩ := stP_ok (X := X) hi
    have ix : (3 : Int32) * ((64 : Int32) + nI n) = nI (192 + 3 * n) := by rw [show (64 : Int32) = nI 64 from rfl, nI_add, nI_3mul]; exact congrArg nI (by omega)
    have un : daF X L (f + 1 + 1) cs i = match (stP X L i).2 with
      | none => ((stP X L i).1, none)
      | some r => if sg X L (sk X L (stP X L i).1) = 0 then (sk X L (stP X L i).1, some (cs ++ [r.1, r.2.1, r.2.2])) else if sg X L (sk X L (stP X L i).1) = 59 then (if f + 1 = 0 then (sk X L (stP X L i).1, none) else daF X L (f + 1) (cs ++ [r.1, r.2.1, r.2.2]) (sk X L (stP X L i).1 + 1)) else (sk X L (stP X L i).1, none) := rfl
    rw [un]
    cases hq : (stP X L i).2 with
    | none =>
      obtain ⟨k, hk⟩ := g5 hq
      refine ⟨.inr σ1, loopF_inr ?_, ⟨k, hk⟩, rfl, g2⟩
      unfold f_Model_readPlan_L17
      dsimp only
      rw [if_neg (show ¬ (1 : Int32) = 0 by decide), ix, g1, Option.bind_some, hk.2.2.2.2.1, if_neg (nI_ne_m1 (by omega))]
    | some r =>
      obtain ⟨m1, r1, r2, r3⟩ := g4 r hq
      obtain ⟨σ2, k1, k2, k3⟩ := Model_look hx ha m1 s1
      have kle := sk_le (X := X) s1
      have s256 := sg_256 (i := sk X L (stP X L i).1) hx
      have px := g2.trans (PX2_rx k3)
      have rw2 : RowM σ2 (cs ++ [r.1, r.2.1, r.2.2]) := by
        have e6 : mI σ2 576 = mI σ1 576 := k3.1 576 (by omega)
        refine RowIs.app3 (row' := fun j => mI σ2 576 (192 + j)) hr.rw (fun j hj => ?_) ?_ ?_ ?_
        · show mI σ2 576 (192 + j) = mI σ 576 (192 + j)
          rw [e6]; exact g3 _ (by omega)
        · show mI σ2 576 (192 + cs.length) = r.1
          rw [e6, hl]; exact r1
        · show mI σ2 576 (192 + (cs.length + 1)) = r.2.1
          rw [e6, hl, ← Nat.add_assoc]; exact r2
        · show mI σ2 576 (192 + (cs.length + 2)) = r.2.2
          rw [e6, hl, ← Nat.add_assoc]; exact r3
      have ln : (cs ++ [r.1, r.2.1, r.2.2]).length = 3 * (n + 1) := by rw [List.length_append, hl]; show 3 * n + 3 = _; omega
      dsimp only
      by_cases q1 : sg X L (sk X L (stP X L i).1) = 59
      · have lt := sg_lt (X := X) (L := L) (i := sk X L (stP X L i).1) (by omega)
        obtain ⟨e, p1, p2⟩ := ih (n + 1) (cs ++ [r.1, r.2.1, r.2.2]) (sk X L (stP X L i).1 + 1) (sI σ2 565 10 (nI (sk X L (stP X L i).1 + 1))) (by omega) ln (by omega) (k2.to ha) (fun j hj => by rw [row_ne (by omega)]; exact rw2 j hj) (m + 1) (by omega)
        have st : f_Model_readPlan_L17 (σ, nI n, 1) = some (.inl (sI σ2 565 10 (nI (sk X L (stP X L i).1 + 1)), nI (n + 1), 1)) := by
          unfold f_Model_readPlan_L17
          dsimp only
          rw [if_neg (show ¬ (1 : Int32) = 0 by decide), ix, g1, Option.bind_some, m1.2.2.2.2.1, if_pos rfl, k1, Option.bind_some]
          dsimp only
          rw [if_pos (show sgM (sg X L (sk X L (stP X L i).1)) = (59 : Int32) from (sgM_eq s256 (c := 59) (by omega) (by omega)).mpr q1), if_neg (show ¬ (1 : Int32) = 0 by decide), nI_1, if_neg (show ¬ nI (n + 1) = (16 : Int32) from fun p => by have := (nI_eq (b := 16) (by omega) (by decide)).mp p; omega), if_neg (show ¬ (1 : Int32) = 0 by decide), k2.2.2.2.1, nI_1]
        have px2 := px.trans (PX2_rx (RX_sI (k := 10) (v := nI (sk X L (stP X L i).1 + 1)) (Or.inl rfl)))
        rw [if_neg (by omega), if_pos q1, if_neg (by omega)]
        refine ⟨e, (loopF_inl st).trans p1, ?_⟩
        cases e with
        | inl s =>
          obtain ⟨j, cs', a1, a2, a3, a4, a5, a6, a7⟩ := p2
          exact ⟨j, cs', a1, a2, a3, a4, a5, px2.trans a6, a7⟩
        | inr τ =>
          obtain ⟨a1, a2, a3⟩ := p2
          exact ⟨a1, a2, px2.trans a3⟩
      · refine ⟨.inl (σ2, nI (n + 1)), ?_, sk X L (stP X L i).1, cs ++ [r.1, r.2.1, r.2.2], k2, kle, sk_sk _ _ _, by rw [ln, Nat.mul_div_cancel_left _ (by decide)], rw2, px, ?_⟩
        · have st : f_Model_readPlan_L17 (σ, nI n, 1) = some (.inl (σ2, nI (n + 1), 0)) := by
            unfold f_Model_readPlan_L17
            dsimp only
            rw [if_neg (show ¬ (1 : Int32) = 0 by decide), ix, g1, Option.bind_some, m1.2.2.2.2.1, if_pos rfl, k1, Option.bind_some]
            dsimp only
            rw [if_neg (show ¬ sgM (sg X L (sk X L (stP X L i).1)) = (59 : Int32) from fun p => q1 ((sgM_eq s256 (c := 59) (by omega) (by omega)).mp p)), if_pos (show (0 : Int32) = 0 from rfl), if_pos (show (0 : Int32) = 0 from rfl), nI_1]
          rw [loopF_inl st]
          refine loopF_inr ?_
          unfold f_Model_readPlan_L17
          dsimp only
          rw [if_pos rfl]
        · by_cases q0 : sg X L (sk X L (stP X L i).1) = 0
          · rw [if_pos q0, if_pos q0]
          · rw [if_neg q0, if_neg q1, if_neg q0]
/-- the reference's tape, wherever its reader stands -/
def MTt (X : Tx) (L : Nat) (σ : Mem) : Prop := mI σ 565 6 = nI L ∧ ∀ j, j < L → mI σ 566 j = (nI (X j)).toInt8.toInt32
theorem starts_at {X : Tx} {L : Nat} {σ : Mem} (h : MTt X L σ) : f_Model_starts σ 566 0 (mI σ 565 6) = some (sI (sI (sI (sI (sR σ 565 5 566) 565 8 0) 565 9 (nI L)) 565 10 0) 565 11 (-1)) ∧ MAt X L 566 0 0 (-1) (mI σ 565 12) (sI (sI (sI (sI (sR σ 565 5 566) 565 8 0) 565 9 (nI L)) 565 10 0) 565 11 (-1)) := by
  refine ⟨by unfold f_Model_starts; rw [h.1], ?_, ?_, ?_, ?_, ?_, ?_, fun j hj => ?_⟩
  · rw [mR_sI, mR_sI, mR_sI, mR_sI, mR_sR, if_pos ⟨rfl, rfl⟩]
  · rw [row_sI _ 565 11, upd_ne (by omega), row_sI _ 565 10, upd_ne (by omega), row_sI _ 565 9, upd_ne (by omega), row_sI, upd_self]; rfl
  · rw [row_sI _ 565 11, upd_ne (by omega), row_sI _ 565 10, upd_ne (by omega), row_sI, upd_self]
  · rw [row_sI _ 565 11, upd_ne (by omega), row_sI, upd_self]; rfl
  · rw [row_sI, upd_self]
  · rw [row_sI _ 565 11, upd_ne (by omega), row_sI _ 565 10, upd_ne (by omega), row_sI _ 565 9, upd_ne (by omega), row_sI, upd_ne (by omega), mI_sR]
  · rw [row_ne (by omega), row_ne (by omega), row_ne (by omega), row_ne (by omega), mI_sR, Nat.zero_add]; exact h.2 j hj
theorem PX2_st {σ : Mem} {v : Int32} : PX2 σ (sI (sI (sI (sI (sR σ 565 5 566) 565 8 0) 565 9 v) 565 10 0) 565 11 (-1)) :=
  ⟨fun c h1 _ _ => by rw [row_ne h1, row_ne h1, row_ne h1, row_ne h1, mI_sR], fun k hk => by rw [row_sI _ 565 11, upd_ne (by omega), row_sI _ 565 10, upd_ne (by omega), row_sI _ 565 9, upd_ne (by omega), row_sI, upd_ne (by omega), mI_sR], fun k _ => by rw [row_ne (by omega), row_ne (by omega), row_ne (by omega), row_ne (by omega), mI_sR], fun k _ => by rw [row_ne (by omega), row_ne (by omega), row_ne (by omega), row_ne (by omega), mI_sR], rfl, fun c k hk => by rw [mR_sI, mR_sI, mR_sI, mR_sI, mR_sR, if_neg (by omega)]⟩
theorem Model_readPlan {X : Tx} {L : Nat} {σ : Mem} (hx : okX X L) (h : MTt X L σ) : ∃ σ', f_Model_readPlan σ = some σ' ∧ mI σ' 565 11 = ftS (daF X L 16 [] 0) ∧ PX2 σ σ' ∧ ∀ cs', (daF X L 16 [] 0).2 = some cs' → mI σ' 577 4 = nI (cs'.length / 3) ∧ RowM σ' cs' := by
  have ha := okA_6
  obtain ⟨s1, s2⟩ := starts_at h
  have s3 : PX2 σ _ := PX2_st (σ := σ) (v := nI L)
  generalize sI (sI (sI (sI (sR σ 565 5 566) 565 8 0) 565 9 (nI L)) 565 10 0) 565 11 (-1) = σ1 at s1 s2 s3
  obtain ⟨e, p1, p2⟩ := plan_go hx 15 0 [] 0 σ1 rfl rfl (Nat.zero_le _) s2 (fun j hj => by simp at hj) FU (by unfold FU; omega)
  unfold f_Model_readPlan
  rw [s1, Option.bind_some, show loopF f_Model_readPlan_L17 FU (σ1, (0 : Int32), (1 : Int32)) = some e from p1, Option.bind_some]
  cases e with
  | inr τ =>
    obtain ⟨⟨k, a1⟩, a2, a3⟩ := p2
    have a1 : MAt X L 566 0 k (nI (daF X L 16 [] 0).1) (mI σ 565 12) τ := a1
    have a2 : (daF X L 16 [] 0).2 = none := a2
    refine ⟨τ, rfl, ?_, s3.trans a3, fun cs' p => ?_⟩
    · rw [a1.2.2.2.2.1]; unfold ftS; rw [a2]
    · rw [a2] at p; cases p
  | inl s =>
    obtain ⟨τ, w⟩ := s
    obtain ⟨j, cs', a1, a2, a3, a4, a5, a6, a7⟩ := p2
    have a7 : daF X L 16 [] 0 = if sg X L j = 0 then (j, some cs') else (j, none) := a7
    simp only at a1 a4 a5 a6
    subst a4
    have s256 := sg_256 (i := j) hx
    have m1 := a1.ce (c := 577) (k := 4) (v := nI (cs'.length / 3)) (by omega) (by omega)
    have px : PX2 τ (sI τ 577 4 (nI (cs'.length / 3))) := ⟨fun c _ _ h3 => row_ne h3, fun k _ => by rw [row_ne (by omega)], fun k _ => by rw [row_ne (by omega)], fun k hk => by rw [row_sI, upd_ne (by omega)], rfl, fun _ _ _ => rfl⟩
    obtain ⟨σ2, k1, k2, k3⟩ := Model_look hx ha m1 a2
    rw [a3] at k1 k2
    show ∃ σ', ((f_Model_look (sI τ 577 (4 : Int32).toNatClampNeg (nI (cs'.length / 3)))).bind fun q18 => if q18.1 = (-1 : Int32) then some q18.2 else (f_Model_fails q18.2).bind fun q20 => some q20.2) = _ ∧ _
    rw [show (4 : Int32).toNatClampNeg = 4 from rfl, k1, Option.bind_some]
    dsimp only
    by_cases q0 : sg X L j = 0
    · rw [if_pos q0] at a7
      rw [if_pos ((sgM_m1 s256).mpr q0), a7]
      refine ⟨σ2, rfl, k2.2.2.2.2.1, ((s3.trans a6).trans px).trans (PX2_rx k3), fun cs2 p => ?_⟩
      cases p
      exact ⟨by rw [k3.1 577 (by omega), row_sI, upd_self], fun j hj => by rw [k3.1 576 (by omega), row_ne (by omega)]; exact a5 j hj⟩
    · obtain ⟨σ3, q1, q2, q3⟩ := Model_fails ha k2
      rw [if_neg q0] at a7
      rw [if_neg (fun p => q0 ((sgM_m1 s256).mp p)), q1, Option.bind_some, a7]
      exact ⟨σ3, rfl, q2.2.2.2.2.1, (((s3.trans a6).trans px).trans (PX2_rx k3)).trans (PX2_rx q3), fun cs2 p => by cases p⟩
