/-! buyer: when it throws, what it answers -/
def f_Game_buyerBad (σ : Mem) (x1 : Int32) (x2 : Int32) : Option (Int32) :=
  (f_Trade_isBuyer σ x1).bind fun q1 =>
  if q1 = (0 : Int32) then
    some (1 : Int32)
  else
    if x2 < (0 : Int32) then
      some (1 : Int32)
    else
      if x2 ≤ (6 : Int32) then
        some (0 : Int32)
      else
        some (1 : Int32)
def f_Game_buyer (σ : Mem) (x1 : Int32) (x2 : Int32) : Option (Int32) :=
  if x2 = (0 : Int32) then
    if inb x1 6 then
      some (mI σ 12 x1.toNatClampNeg)
    else none
  else
  if x2 = (1 : Int32) then
    if inb x1 6 then
      some (mI σ 13 x1.toNatClampNeg)
    else none
  else
  if x2 = (2 : Int32) then
    if kd (mR σ 428 1) = 2 then
      f_City_nerveOf σ (mR σ 428 1) x1
    else none
  else
  if x2 = (3 : Int32) then
    if kd (mR σ 428 1) = 2 then
      f_City_kindOf σ (mR σ 428 1) x1
    else none
  else
  if x2 = (4 : Int32) then
    if inb x1 6 then
      some (mI σ 11 x1.toNatClampNeg)
    else none
  else
  if x2 = (5 : Int32) then
    f_State_dueOf σ 6 x1
  else
    f_State_billsOf σ 6 x1
def SimB (x y : Int32) : Prop := ∀ A, gOk A → ∃ bad v, (bad = 0 ∨ bad = 1) ∧ (∀ σ, CRel σ A → f_Game_buyerBad σ x y = some bad ∧ (bad = 0 → f_Game_buyer σ x y = some v)) ∧ ∀ σ, MRel σ A → ∃ w σ', f_Model_buyer σ x y = some (w, σ') ∧ MRel σ' A ∧ EqLo σ σ' ∧ mI σ' 565 0 = bad ∧ (bad = 0 → w = v)
theorem sim_buyer (x y : Int32) : SimB x y := fun A hA => by
  have t8 := hA.T8
  have b6 := hA.B6
  have e6 : (6 : Int64) = lN 6 := rfl
  have one : ∀ σ : Mem, ¬ (mI (sI σ 565 0 (1 : Int32)) 565 0) ≤ (0 : Int32) := fun σ => by rw [row_sI, upd_self]; decide
  have zer : ∀ σ : Mem, (mI (sI σ 565 0 (0 : Int32)) 565 0) ≤ (0 : Int32) := fun σ => by rw [row_sI, upd_self]; decide
  rcases isS_ty (cB (gK A)) x (by omega) with q | ⟨q, b, b1, rfl⟩
  · refine ⟨1, 0, Or.inr rfl, fun σ hC => ⟨?_, fun z => absurd z (by decide)⟩, fun σ hM => ⟨0, sI σ 565 0 1, ?_, hM.z hA, (SM_0 hM).2.2.2.2.2, by rw [row_sI, upd_self], fun z => absurd z (by decide)⟩⟩
    · unfold f_Game_buyerBad; rw [Trade_isBuyer hC.k, q, Option.bind_some, if_pos rfl]
    · unfold f_Model_buyer; rw [Model_isBuyer hM.k, q, Option.bind_some, if_pos rfl, if_neg (one σ)]
  · have hc := hA.city (Or.inr (by omega))
    obtain ⟨n, n1, n2, -⟩ := hc.2.2.2.1.1.1
    rcases rng0 6 y (by omega) with ⟨r1, r2⟩ | ⟨r1, r2, r3⟩ | ⟨r1, j, j1, rfl⟩
    · refine ⟨1, 0, Or.inr rfl, fun σ hC => ⟨?_, fun z => absurd z (by decide)⟩, fun σ hM => ⟨0, sI σ 565 0 1, ?_, hM.z hA, (SM_0 hM).2.2.2.2.2, by rw [row_sI, upd_self], fun z => absurd z (by decide)⟩⟩
      · unfold f_Game_buyerBad; rw [Trade_isBuyer hC.k, q, Option.bind_some, if_neg (by decide), if_pos r1]
      · unfold f_Model_buyer; rw [Model_isBuyer hM.k, q, Option.bind_some, if_neg (by decide), l0, e6, Model_isInR (by omega) (by omega), r2, Option.bind_some, if_pos rfl, if_neg (one σ)]
    · refine ⟨1, 0, Or.inr rfl, fun σ hC => ⟨?_, fun z => absurd z (by decide)⟩, fun σ hM => ⟨0, sI σ 565 0 1, ?_, hM.z hA, (SM_0 hM).2.2.2.2.2, by rw [row_sI, upd_self], fun z => absurd z (by decide)⟩⟩
      · unfold f_Game_buyerBad; rw [Trade_isBuyer hC.k, q, Option.bind_some, if_neg (by decide), if_neg r1, if_neg (show ¬ y ≤ (6 : Int32) from Int32.not_le.mpr r2)]
      · unfold f_Model_buyer; rw [Model_isBuyer hM.k, q, Option.bind_some, if_neg (by decide), l0, e6, Model_isInR (by omega) (by omega), r3, Option.bind_some, if_pos rfl, if_neg (one σ)]
    · have hb : ∀ σ, CRel σ A → f_Game_buyerBad σ (nI b) (nI j) = some 0 := fun σ hC => by
        unfold f_Game_buyerBad; rw [Trade_isBuyer hC.k, q, Option.bind_some, if_neg (by decide), if_neg (nI_pos (by omega)), if_pos (show nI j ≤ (6 : Int32) from nI_le (b := 6) j1 (by omega))]
      have hm : ∀ σ, MRel σ A → ∀ v, ((if nI j = (0 : Int32) then (if inb ((24 : Int32) + nI b) 312 then some ((mI (sI σ 565 0 (0 : Int32)) 578 ((24 : Int32) + nI b).toNatClampNeg), (sI σ 565 0 (0 : Int32))) else none) else if nI j = (4 : Int32) then ((f_Model_holds (sI σ 565 0 (0 : Int32)) 578 (nI b)).bind fun q31 => some (q31, (sI σ 565 0 (0 : Int32)))) else if nI j = (5 : Int32) then ((f_Model_dueOf (sI σ 565 0 (0 : Int32)) 578 (nI b)).bind fun q33 => some (q33, (sI σ 565 0 (0 : Int32)))) else if nI j = (6 : Int32) then ((f_Model_billsOf (sI σ 565 0 (0 : Int32)) (nI b)).bind fun q35 => some (q35, (sI σ 565 0 (0 : Int32)))) else if inb (((4 : Int32) * nI b) + nI j) 24 then some ((mI (sI σ 565 0 (0 : Int32)) 574 (((4 : Int32) * nI b) + nI j).toNatClampNeg), (sI σ 565 0 (0 : Int32))) else none) = some (v, sI σ 565 0 (0 : Int32))) → ∃ w σ', f_Model_buyer σ (nI b) (nI j) = some (w, σ') ∧ MRel σ' A ∧ EqLo σ σ' ∧ mI σ' 565 0 = (0 : Int32) ∧ ((0 : Int32) = 0 → w = v) := fun σ hM v hv => by
        refine ⟨v, sI σ 565 0 0, ?_, hM.z hA, (SM_0 hM).2.2.2.2.2, by rw [row_sI, upd_self], fun _ => rfl⟩
        unfold f_Model_buyer
        rw [Model_isBuyer hM.k, q, Option.bind_some, if_neg (by decide), show (0 : Int64) = lN 0 from rfl, e6, Model_isInR (by omega) (by omega), r1, Option.bind_some, if_neg (by decide), if_pos (zer σ)]
        exact hv
      have hcl := nI_clamp (show b < 2 ^ 31 by omega)
      have hi6 := inb_nI (show b < 6 by omega) (show 6 < 2 ^ 31 by decide)
      have fld : ∀ σ, MRel σ A → ∀ j, 1 ≤ j → j ≤ 3 → (if inb (((4 : Int32) * nI b) + nI j) 24 then some ((mI (sI σ 565 0 (0 : Int32)) 574 (((4 : Int32) * nI b) + nI j).toNatClampNeg), (sI σ 565 0 (0 : Int32))) else none) = some (cF (gK A) (4 * b + j), sI σ 565 0 (0 : Int32)) := fun σ hM j z1 z2 => by
        rw [show (4 : Int32) * nI b + nI j = nI (4 * b + j) by rw [show (4 : Int32) = nI 4 from rfl, pk_mul, nI_add], if_pos (inb_nI (show 4 * b + j < 24 by omega) (by decide)), nI_clamp (by omega), row_ne (by omega), hM.k.2.2.2.2.1]
      have : j = 0 ∨ j = 1 ∨ j = 2 ∨ j = 3 ∨ j = 4 ∨ j = 5 ∨ j = 6 := by omega
      rcases this with rfl | rfl | rfl | rfl | rfl | rfl | rfl
      · refine ⟨0, gW A (24 + b), Or.inl rfl, fun σ hC => ⟨hb σ hC, fun _ => ?_⟩, fun σ hM => hm σ hM _ ?_⟩
        · obtain ⟨hr, -⟩ := hC.n hc
          unfold f_Game_buyer
          rw [if_pos (show nI 0 = (0 : Int32) from rfl), if_pos hi6, hcl, (hr.2.2.2.1 b b1).1]
        · rw [if_pos (show nI 0 = (0 : Int32) from rfl), show (24 : Int32) + nI b = nI (24 + b) by rw [show (24 : Int32) = nI 24 from rfl, nI_add], if_pos (inb_nI (show 24 + b < 312 by omega) (by decide)), nI_clamp (by omega), row_ne (by omega), hM.w]
      · refine ⟨0, cF (gK A) (4 * b + 1), Or.inl rfl, fun σ hC => ⟨hb σ hC, fun _ => ?_⟩, fun σ hM => hm σ hM _ ?_⟩
        · obtain ⟨hr, -⟩ := hC.n hc
          unfold f_Game_buyer
          rw [if_neg (show ¬ nI 1 = (0 : Int32) by decide), if_pos (show nI 1 = (1 : Int32) from rfl), if_pos hi6, hcl, (hr.2.2.2.1 b b1).2, hA.2.2.2.2.2.1 b b1]
        · rw [if_neg (show ¬ nI 1 = (0 : Int32) by decide), if_neg (show ¬ nI 1 = (4 : Int32) by decide), if_neg (show ¬ nI 1 = (5 : Int32) by decide), if_neg (show ¬ nI 1 = (6 : Int32) by decide), fld σ hM 1 (by omega) (by omega)]
      · refine ⟨0, cF (gK A) (4 * b + 2), Or.inl rfl, fun σ hC => ⟨hb σ hC, fun _ => ?_⟩, fun σ hM => hm σ hM _ ?_⟩
        · have hk := hC.k
          unfold f_Game_buyer
          rw [if_neg (show ¬ nI 2 = (0 : Int32) by decide), if_neg (show ¬ nI 2 = (1 : Int32) by decide), if_pos (show nI 2 = (2 : Int32) from rfl), if_pos hk.1, City_nerveOf (by omega), hk.2.2.2.2.2.2 (4 * b + 2) (by omega)]
        · rw [if_neg (show ¬ nI 2 = (0 : Int32) by decide), if_neg (show ¬ nI 2 = (4 : Int32) by decide), if_neg (show ¬ nI 2 = (5 : Int32) by decide), if_neg (show ¬ nI 2 = (6 : Int32) by decide), fld σ hM 2 (by omega) (by omega)]
      · refine ⟨0, cF (gK A) (4 * b + 3), Or.inl rfl, fun σ hC => ⟨hb σ hC, fun _ => ?_⟩, fun σ hM => hm σ hM _ ?_⟩
        · have hk := hC.k
          unfold f_Game_buyer
          rw [if_neg (show ¬ nI 3 = (0 : Int32) by decide), if_neg (show ¬ nI 3 = (1 : Int32) by decide), if_neg (show ¬ nI 3 = (2 : Int32) by decide), if_pos (show nI 3 = (3 : Int32) from rfl), if_pos hk.1, City_kindOf (by omega), hk.2.2.2.2.2.2 (4 * b + 3) (by omega)]
        · rw [if_neg (show ¬ nI 3 = (0 : Int32) by decide), if_neg (show ¬ nI 3 = (4 : Int32) by decide), if_neg (show ¬ nI 3 = (5 : Int32) by decide), if_neg (show ¬ nI 3 = (6 : Int32) by decide), fld σ hM 3 (by omega) (by omega)]
      · refine ⟨0, holdS (gW A) (cT (gK A)) (nI b), Or.inl rfl, fun σ hC => ⟨hb σ hC, fun _ => ?_⟩, fun σ hM => hm σ hM _ ?_⟩
        · obtain ⟨hr, -⟩ := hC.n hc
          unfold f_Game_buyer
          rw [if_neg (show ¬ nI 4 = (0 : Int32) by decide), if_neg (show ¬ nI 4 = (1 : Int32) by decide), if_neg (show ¬ nI 4 = (2 : Int32) by decide), if_neg (show ¬ nI 4 = (3 : Int32) by decide), if_pos (show nI 4 = (4 : Int32) from rfl), if_pos hi6, hcl, hr.2.2.1 b (by omega)]
        · have hz := hM.z (v := 0) hA
          rw [if_neg (show ¬ nI 4 = (0 : Int32) by decide), if_pos (show nI 4 = (4 : Int32) from rfl), Model_holds ln578 hz.k.1 t8, hz.w]
          rfl
      · refine ⟨0, dueS (fun k => gW A (30 + k)) (nI b) n, Or.inl rfl, fun σ hC => ⟨hb σ hC, fun _ => ?_⟩, fun σ hM => hm σ hM _ ?_⟩
        · obtain ⟨hr, -⟩ := hC.n hc
          unfold f_Game_buyer
          rw [if_neg (show ¬ nI 5 = (0 : Int32) by decide), if_neg (show ¬ nI 5 = (1 : Int32) by decide), if_neg (show ¬ nI 5 = (2 : Int32) by decide), if_neg (show ¬ nI 5 = (3 : Int32) by decide), if_neg (show ¬ nI 5 = (4 : Int32) by decide), if_pos (show nI 5 = (5 : Int32) from rfl), dueS_RS hr n1 n2]
        · have hz := hM.z (v := 0) hA
          rw [if_neg (show ¬ nI 5 = (0 : Int32) by decide), if_neg (show ¬ nI 5 = (4 : Int32) by decide), if_pos (show nI 5 = (5 : Int32) from rfl), Model_dueOf ln578 (by rw [hz.w]; exact n2) n1, hz.w]
          rfl
      · refine ⟨0, cntS (fun k => gW A (30 + k)) (nI b) n, Or.inl rfl, fun σ hC => ⟨hb σ hC, fun _ => ?_⟩, fun σ hM => hm σ hM _ ?_⟩
        · obtain ⟨hr, -⟩ := hC.n hc
          unfold f_Game_buyer
          rw [if_neg (show ¬ nI 6 = (0 : Int32) by decide), if_neg (show ¬ nI 6 = (1 : Int32) by decide), if_neg (show ¬ nI 6 = (2 : Int32) by decide), if_neg (show ¬ nI 6 = (3 : Int32) by decide), if_neg (show ¬ nI 6 = (4 : Int32) by decide), if_neg (show ¬ nI 6 = (5 : Int32) by decide), cntS_RS hr n1 n2]
        · have hz := hM.z (v := 0) hA
          rw [if_neg (show ¬ nI 6 = (0 : Int32) by decide), if_neg (show ¬ nI 6 = (4 : Int32) by decide), if_neg (show ¬ nI 6 = (5 : Int32) by decide), if_pos (show nI 6 = (6 : Int32) from rfl), Model_billsOf (by rw [hz.w]; exact n2) n1, hz.w]
          rfl
