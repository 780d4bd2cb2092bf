/-! game answers alike -/
def slH (p x z : Int32) : Int32 := if z = (1 : Int32) then p - p * x / (10 : Int32) else if z = (2 : Int32) then 1 else 0
def byS (p lk du x z : Int32) : Int32 := if z = (1 : Int32) then lk - (p - p * x / (10 : Int32)) else if z = (2 : Int32) then lk / (4 : Int32) - du else 0
theorem SC_bar {A : Gh} {σ : Mem} {a k : Nat} {v : Int32} (hA : gOk A) (hC : CRel σ A) (ha : 531 ≤ a ∧ a < 536) : SC (gL A).1 (gD A).1 σ (sI σ a k v) := SC_of hA.2.1.1 hA.2.2.1.1 hC.2.2.2.2.2.1.c (fun c hc => row_ne (by omega)) rfl rfl
theorem Bargain_sitDown {A : Gh} {σ : Mem} {b t : Nat} (hA : gOk A) (hc : hasC A) (hC : CRel σ A) (hb : b < cB (gK A)) (ht : t < cT (gK A)) : ∃ σ', f_Bargain_sitDown σ 6 (nI b) (nI t) = some σ' ∧ SC (gL A).1 (gD A).1 σ σ' ∧ mI σ' 531 6 = nI t ∧ mI σ' 531 7 = cW (gK A) (3 * t) ∧ mI σ' 533 t = lkS (gK A) (gW A) b t ∧ mI σ' 534 t = duS (gK A) (gW A) b t := by
  have t8 := hA.T8
  have b6 := hA.B6
  have s1 := SC_bar (a := 531) (k := 6) (v := nI t) hA hC (by omega)
  have c1 := hC.scr s1
  have hp : mI (sI σ 531 6 (nI t)) (mR (sI σ 531 6 (nI t)) 428 1 + 2) (3 * t) = cW (gK A) (3 * t) := c1.k.2.2.2.2.2.1 _ (by omega)
  have s2 := SC_bar (a := 531) (k := 7) (v := cW (gK A) (3 * t)) hA c1 (by omega)
  have c2 := c1.scr s2
  generalize e3 : (10 : Int32) + (8 : Int32) * mI (sI (sI σ 531 6 (nI t)) 531 7 (cW (gK A) (3 * t))) (6 + 4) t = v3
  have s3 := SC_bar (a := 532) (k := t) (v := v3) hA c2 (by omega)
  have c3 := c2.scr s3
  obtain ⟨σ4, g1, g2⟩ := Trade_liked hA.J hc.2.2.1 c3.k ok6 c3.j (c3.n hc).1 hb ht
  have s4 := SC_cy hA c3 g2
  have c4 := c3.scr s4
  have s5 := SC_bar (a := 533) (k := t) (v := lkS (gK A) (gW A) b t) hA c4 (by omega)
  have c5 := c4.scr s5
  have hd := Trade_dueIfPutBack (o := 6) (b := b) (t := t) c5.k.1 (by omega) (by omega)
  rw [c5.k.2.2.2.2.2.1 _ (by omega), c5.k.2.2.2.2.2.2 _ (by omega), (c5.n hc).1.2.2.2.2.2.1.2.1] at hd
  have s6 := SC_bar (a := 534) (k := t) (v := duS (gK A) (gW A) b t) hA c5 (by omega)
  refine ⟨_, ?_, ((((s1.trans s2).trans s3).trans s4).trans s5).trans s6, ?_, ?_, ?_, ?_⟩
  · unfold f_Bargain_sitDown f_Bargain_lookAt
    rw [if_pos hC.k.1, City_priceOf (by omega), show mR σ 428 1 = mR (sI σ 531 6 (nI t)) 428 1 from rfl, hp, Option.bind_some, if_pos (inb_nI (by omega) (by decide)), nI_clamp (by omega), e3, g1, Option.bind_some]
    dsimp only
    rw [hd]
    rfl
  · rw [row_ne (by omega), row_ne (by omega), g2.1 531 (by omega), row_ne (by omega), row_sI, upd_ne (by omega), row_sI, upd_self]
  · rw [row_ne (by omega), row_ne (by omega), g2.1 531 (by omega), row_ne (by omega), row_sI, upd_self]
  · rw [row_ne (by omega), row_sI, upd_self]
  · rw [row_sI, upd_self]
theorem Bargain_sellerHas {σ : Mem} {p x z : Int32} (h : mI σ 531 7 = p) : f_Bargain_sellerHas σ x z = some (slH p x z) := by
  unfold f_Bargain_sellerHas slH
  rw [h]
  split
  · rfl
  · split <;> rfl
theorem Bargain_buyerHas {σ : Mem} {p lk du x z : Int32} {t : Nat} (ht : t < 8) (h6 : mI σ 531 6 = nI t) (h : mI σ 531 7 = p) (h1 : mI σ 533 t = lk) (h2 : mI σ 534 t = du) : f_Bargain_buyerHas σ x z = some (byS p lk du x z) := by
  unfold f_Bargain_buyerHas byS
  rw [h6, Bargain_sellerHas h, if_pos (inb_nI ht (by decide)), nI_clamp (by omega), h1, h2]
  by_cases q : z = 1
  · rw [if_pos q, if_pos q, Option.bind_some]
    unfold slH
    rw [if_pos q]
  · rw [if_neg q, if_neg q]
    split
    · exact if_pos (inb_nI ht (by decide))
    · rfl
/-- what either player has -/
def gmS (p lk du x z e : Int32) : Int32 := if e = (0 : Int32) then slH p x z else byS p lk du x z
theorem Model_gameOf {A : Gh} {σ : Mem} {b t z : Nat} {x e : Int32} (hA : gOk A) (hc : hasC A) (hM : MRel σ A) (hb : b < cB (gK A)) (ht : t < cT (gK A)) (hz : z < 3) : ∃ σ', f_Model_gameOf σ (nI b) (nI t) x (nI z) e = some (gmS (cW (gK A) (3 * t)) (lkS (gK A) (gW A) b t) (duS (gK A) (gW A) b t) x (nI z) e, σ') ∧ SM (gL A).1 (gL A).2.1 σ σ' := by
  have t8 := hA.T8
  have b6 := hA.B6
  obtain ⟨σ', g1, g2, g3⟩ := Model_likingOf (a := 578) (N := 10000) hA.I hc.2.2.1 hM.k (Or.inl rfl) hM.i (by rw [hM.w]; exact hc.2.2.2.1.1) (by omega) hb ht
  rw [hM.w] at g1
  have sm : SM (gL A).1 (gL A).2.1 σ σ' := SM_mx (Or.inr rfl) g2 g3.1
  have hM' := hM.scr hA sm
  have hd := Model_dueFor (σ := σ') (a := 578) (b := b) (t := t) (by decide +kernel) (by omega) (by omega)
  rw [hM'.k.2.2.2.1, hM'.k.2.2.2.2.1, hM'.w] at hd
  refine ⟨σ', ?_, sm⟩
  unfold f_Model_gameOf
  rw [nI_3mul, if_pos (inb_nI (show 3 * t < 24 by omega) (by decide)), nI_clamp (by omega), g1, Option.bind_some, hM.k.2.2.2.1]
  dsimp only
  rw [hd]
  unfold gmS slH byS
  rcases (show z = 0 ∨ z = 1 ∨ z = 2 by omega) with rfl | rfl | rfl
  · rw [if_pos (show nI 0 = (0 : Int32) from rfl), if_neg (show ¬ nI 0 = (1 : Int32) by decide), if_neg (show ¬ nI 0 = (2 : Int32) by decide), if_neg (show ¬ nI 0 = (1 : Int32) by decide), if_neg (show ¬ nI 0 = (2 : Int32) by decide)]
    by_cases q : e = 0
    · rw [if_pos q]
    · rw [if_neg q]
  · rw [if_neg (show ¬ nI 1 = (0 : Int32) by decide), if_pos (show nI 1 = (1 : Int32) from rfl), if_pos (show nI 1 = (1 : Int32) from rfl), if_pos (show nI 1 = (1 : Int32) from rfl)]
    by_cases q : e = 0
    · rw [if_pos q, if_pos q]
    · rw [if_neg q, if_neg q]
  · rw [if_neg (show ¬ nI 2 = (0 : Int32) by decide), if_neg (show ¬ nI 2 = (1 : Int32) by decide), if_neg (show ¬ nI 2 = (1 : Int32) by decide), if_pos (show nI 2 = (2 : Int32) from rfl), if_neg (show ¬ nI 2 = (1 : Int32) by decide), if_pos (show nI 2 = (2 : Int32) from rfl)]
    by_cases q : e = 0
    · rw [if_pos q, if_pos q]
    · rw [if_neg q, if_neg q]
      rfl
theorem deal_both {A : Gh} (hA : gOk A) (x y : Int32) : ((∀ σ, CRel σ A → f_Game_canDeal σ x y = some 0) ∧ ∀ σ, MRel σ A → f_Model_canPlay σ x y = some 0) ∨ ∃ b t, b < cB (gK A) ∧ t < cT (gK A) ∧ x = nI b ∧ y = nI t ∧ (∀ σ, CRel σ A → f_Game_canDeal σ x y = some 1) ∧ ∀ σ, MRel σ A → f_Model_canPlay σ x y = some 1 := by
  have t8 := hA.T8
  have b6 := hA.B6
  rcases isS_ty (cB (gK A)) x (by omega) with q | ⟨q, b, b1, rfl⟩
  · refine Or.inl ⟨fun σ hC => ?_, fun σ hM => ?_⟩
    · unfold f_Game_canDeal; rw [Trade_isBuyer hC.k, q]; rfl
    · unfold f_Model_canPlay; rw [Model_isBuyer hM.k, q]; rfl
  · rcases isS_ty (cT (gK A)) y (by omega) with p | ⟨p, t, t1, rfl⟩
    · refine Or.inl ⟨fun σ hC => ?_, fun σ hM => ?_⟩
      · unfold f_Game_canDeal; rw [Trade_isBuyer hC.k, q, Option.bind_some, if_neg (by decide), Trade_isThing hC.k, p]; rfl
      · unfold f_Model_canPlay; rw [Model_isBuyer hM.k, q, Option.bind_some, if_neg (by decide), Model_isThing hM.k, p]; rfl
    · have hc := hA.city (Or.inl (by omega))
      have cq : ∀ σ, CRel σ A → f_Game_canDeal σ (nI b) (nI t) = some (if gW A (8 + t) = 0 then 1 else 0) := fun σ hC => by
        unfold f_Game_canDeal
        have h8 : mI σ 8 t = gW A (8 + t) := ((hC.n hc).1.1 t (by omega)).2.1
        rw [Trade_isBuyer hC.k, q, Option.bind_some, if_neg (by decide), Trade_isThing hC.k, p, Option.bind_some, if_neg (by decide), if_pos (inb_nI (show t < 8 by omega) (by decide)), nI_clamp (by omega), h8]
        split <;> rfl
      have mq : ∀ σ, MRel σ A → f_Model_canPlay σ (nI b) (nI t) = some (if gW A (8 + t) = 0 then 1 else 0) := fun σ hM => by
        unfold f_Model_canPlay
        rw [Model_isBuyer hM.k, q, Option.bind_some, if_neg (by decide), Model_isThing hM.k, p, Option.bind_some, if_neg (by decide), show (8 : Int32) = nI 8 from rfl, nI_add, if_pos (inb_nI (show 8 + t < 312 by omega) (by decide)), nI_clamp (by omega), hM.w]
        split <;> rfl
      by_cases e : gW A (8 + t) = 0
      · exact Or.inr ⟨b, t, b1, t1, rfl, rfl, fun σ hC => by rw [cq σ hC, if_pos e], fun σ hM => by rw [mq σ hM, if_pos e]⟩
      · exact Or.inl ⟨fun σ hC => by rw [cq σ hC, if_neg e], fun σ hM => by rw [mq σ hM, if_neg e]⟩
theorem sim_game (x y s z e : Int32) : Sim (fun σ => f_Game_game σ x y s z e) (fun σ => f_Model_game σ x y s z e) := Sim.ro fun A hA => by
  have t8 := hA.T8
  have e0 : (0 : Int64) = lN 0 := rfl
  have no : (∀ σ, CRel σ A → f_Game_game σ x y s z e = some (-1000000, σ)) → (∀ σ, MRel σ A → f_Model_game σ x y s z e = some (-1000000, sI σ 565 0 0)) → ∃ r, (∀ σ, CRel σ A → ∃ σ', (fun σ => f_Game_game σ x y s z e) σ = some (r, σ') ∧ SC (gL A).1 (gD A).1 σ σ') ∧ (∀ σ, MRel σ A → ∃ σ', (fun σ => f_Model_game σ x y s z e) σ = some (r, σ') ∧ SM (gL A).1 (gL A).2.1 σ σ') := fun h1 h2 =>
    ⟨-1000000, fun σ hC => ⟨σ, h1 σ hC, SC.refl _ _ _⟩, fun σ hM => ⟨_, h2 σ hM, SM_0 (v := 0) hM⟩⟩
  rcases deal_both hA x y with ⟨d1, d2⟩ | ⟨b, t, b1, t1, rfl, rfl, d1, d2⟩
  · refine no (fun σ hC => ?_) (fun σ hM => ?_)
    · unfold f_Game_game; rw [d1 σ hC]; rfl
    · unfold f_Model_game; rw [d2 _ (hM.z (v := 0) hA)]; rfl
  · have hc := hA.city (Or.inl (by omega))
    have cq : ∀ σ, CRel σ A → f_Game_game σ (nI b) (nI t) s z e = if s < 0 then some (-1000000, σ) else if (3 : Int32) < s then some (-1000000, σ) else if z < 0 then some (-1000000, σ) else if (2 : Int32) < z then some (-1000000, σ) else if e < 0 then some (-1000000, σ) else if e ≤ 1 then (f_Bargain_sitDown σ 6 (nI b) (nI t)).bind fun q9 => if e = (0 : Int32) then (f_Bargain_sellerHas q9 s z).bind fun q12 => some (q12, q9) else (f_Bargain_buyerHas q9 s z).bind fun q11 => some (q11, q9) else some (-1000000, σ) := fun σ hC => by
      unfold f_Game_game
      rw [d1 σ hC, Option.bind_some, if_neg (by decide)]
    have mq : ∀ σ, MRel σ A → f_Model_game σ (nI b) (nI t) s z e = if isR 0 3 s = 0 then some (-1000000, sI σ 565 0 0) else if isR 0 2 z = 0 then some (-1000000, sI σ 565 0 0) else if isR 0 1 e = 0 then some (-1000000, sI σ 565 0 0) else (f_Model_gameOf (sI σ 565 0 0) (nI b) (nI t) s z e).bind fun q9 => some (q9.1, q9.2) := fun σ hM => by
      unfold f_Model_game
      rw [d2 _ (hM.z (v := 0) hA), Option.bind_some, if_neg (by decide), e0, show (3 : Int64) = lN 3 from rfl, show (2 : Int64) = lN 2 from rfl, show (1 : Int64) = lN 1 from rfl, Model_isInR (by omega) (by omega), Option.bind_some, Model_isInR (by omega) (by omega), Option.bind_some, Model_isInR (by omega) (by omega), Option.bind_some]
    rcases rng0 3 s (by omega) with ⟨q1, q2⟩ | ⟨q1, q2, q3⟩ | ⟨q1, n, n2, rfl⟩
    · exact no (fun σ hC => by rw [cq σ hC, if_pos q1]) (fun σ hM => by rw [mq σ hM, if_pos q2])
    · exact no (fun σ hC => by rw [cq σ hC, if_neg q1, if_pos (show (3 : Int32) < s from q2)]) (fun σ hM => by rw [mq σ hM, if_pos q3])
    have a1 : ¬ nI n < (0 : Int32) := nI_nlt (b := 0) (by omega) (by omega)
    have a2 : ¬ (3 : Int32) < nI n := nI_nlt (a := 3) n2 (by omega)
    have a3 : ¬ isR 0 3 (nI n) = 0 := by rw [q1]; decide
    rcases rng0 2 z (by omega) with ⟨q1, q2⟩ | ⟨q1, q2, q3⟩ | ⟨q1, m, m2, rfl⟩
    · exact no (fun σ hC => by rw [cq σ hC, if_neg a1, if_neg a2, if_pos q1]) (fun σ hM => by rw [mq σ hM, if_neg a3, if_pos q2])
    · exact no (fun σ hC => by rw [cq σ hC, if_neg a1, if_neg a2, if_neg q1, if_pos (show (2 : Int32) < z from q2)]) (fun σ hM => by rw [mq σ hM, if_neg a3, if_pos q3])
    have a4 : ¬ nI m < (0 : Int32) := nI_nlt (b := 0) (by omega) (by omega)
    have a5 : ¬ (2 : Int32) < nI m := nI_nlt (a := 2) m2 (by omega)
    have a6 : ¬ isR 0 2 (nI m) = 0 := by rw [q1]; decide
    rcases rng0 1 e (by omega) with ⟨q1, q2⟩ | ⟨q1, q2, q3⟩ | ⟨q1, k, k2, rfl⟩
    · exact no (fun σ hC => by rw [cq σ hC, if_neg a1, if_neg a2, if_neg a4, if_neg a5, if_pos q1]) (fun σ hM => by rw [mq σ hM, if_neg a3, if_neg a6, if_pos q2])
    · exact no (fun σ hC => by rw [cq σ hC, if_neg a1, if_neg a2, if_neg a4, if_neg a5, if_neg q1, if_neg (show ¬ e ≤ (1 : Int32) from Int32.not_le.mpr q2)]) (fun σ hM => by rw [mq σ hM, if_neg a3, if_neg a6, if_pos q3])
    have a7 : ¬ nI k < (0 : Int32) := nI_nlt (b := 0) (by omega) (by omega)
    have a8 : nI k ≤ (1 : Int32) := nI_le (b := 1) k2 (by omega)
    have a9 : ¬ isR 0 1 (nI k) = 0 := by rw [q1]; decide
    refine ⟨gmS (cW (gK A) (3 * t)) (lkS (gK A) (gW A) b t) (duS (gK A) (gW A) b t) (nI n) (nI m) (nI k), fun σ hC => ?_, fun σ hM => ?_⟩
    · obtain ⟨σ', g1, g2, g3, g4, g5, g6⟩ := Bargain_sitDown hA hc hC b1 t1
      refine ⟨σ', ?_, g2⟩
      show f_Game_game σ (nI b) (nI t) (nI n) (nI m) (nI k) = _
      rw [cq σ hC, if_neg a1, if_neg a2, if_neg a4, if_neg a5, if_neg a7, if_pos a8, g1, Option.bind_some, Bargain_sellerHas g4, Bargain_buyerHas (by omega) g3 g4 g5 g6, Option.bind_some, Option.bind_some]
      unfold gmS
      split <;> rfl
    · have hz := hM.z (v := 0) hA
      obtain ⟨σ', g1, g2⟩ := Model_gameOf (x := nI n) (e := nI k) hA hc hz b1 t1 (show m < 3 by omega)
      refine ⟨σ', ?_, (SM_0 (v := 0) hM).trans g2⟩
      show f_Model_game σ (nI b) (nI t) (nI n) (nI m) (nI k) = _
      rw [mq σ hM, if_neg a3, if_neg a6, if_neg a9, g1]
      rfl
