/-! rests: the reference -/
def flg (q : Bool) : Int32 := if q = true then 1 else 0
theorem flg_0 : flg false = 0 := rfl
theorem flg_1 : flg true = 1 := rfl
theorem rests_48 {A : Gh} {τ : Mem} {b t s z : Nat} {x y : Int32} (hA : gOk A) (hc : hasC A) (hM : MRel τ A) (hb : b < cB (gK A)) (ht : t < cT (gK A)) (hz : z < 3) : ∃ τ', loopF (f_Model_rests_L48 (nI b) (nI t) x y (nI s) (nI z)) FU (τ, 1, 0) = some (τ', flg (allR (rqS (cW (gK A) (3 * t)) s z) 4)) ∧ SM (gL A).1 (gL A).2.1 τ τ' := by
  obtain ⟨⟨τ', v⟩, g1, g2, g3⟩ := loopF_go (step := f_Model_rests_L48 (nI b) (nI t) x y (nI s) (nI z)) (a := (τ, (1 : Int32), (0 : Int32))) (fun i a => a.2.2 = nI i ∧ a.2.1 = flg (allR (rqS (cW (gK A) (3 * t)) s z) i) ∧ SM (gL A).1 (gL A).2.1 τ a.1) (fun r => r.2 = flg (allR (rqS (cW (gK A) (3 * t)) s z) 4) ∧ SM (gL A).1 (gL A).2.1 τ r.1) 4 ⟨rfl, rfl, SM.refl hM.t⟩ (by omega) (by
    rintro i ⟨τ1, f, k⟩ hi ⟨e1, e2, e3⟩
    simp only at e1 e2 e3
    subst e1
    unfold f_Model_rests_L48
    dsimp only
    by_cases hlt : i < 4
    · rw [if_neg (show ¬ (4 : Int32) ≤ nI i from nI_ge (b := 4) hlt (by omega))]
      cases q : allR (rqS (cW (gK A) (3 * t)) s z) i with
      | false =>
        rw [q] at e2
        rw [e2, if_pos flg_0, nI_1]
        exact exL ⟨hlt, rfl, by rw [allR_s, q]; rfl, e3⟩
      | true =>
        rw [q] at e2
        obtain ⟨τ2, g1, g2⟩ := Model_gameOf (x := nI i) (e := 0) hA hc (hM.scr hA e3) hb ht hz
        obtain ⟨τ3, g3, g4⟩ := Model_gameOf (x := nI s) (e := 0) hA hc (hM.scr hA (e3.trans g2)) hb ht hz
        rw [e2, if_neg (show ¬ flg true = 0 by decide), g1, Option.bind_some, g3, Option.bind_some, nI_1]
        unfold gmS
        rw [if_pos rfl, if_pos rfl]
        by_cases p : slH (cW (gK A) (3 * t)) (nI i) (nI z) ≤ slH (cW (gK A) (3 * t)) (nI s) (nI z)
        · rw [if_neg (Int32.not_lt.mpr p)]
          exact exL ⟨hlt, rfl, by rw [allR_s, q, Bool.true_and, show rqS (cW (gK A) (3 * t)) s z i = true from decide_eq_true p]; rfl, (e3.trans g2).trans g4⟩
        · rw [if_pos (Int32.not_le.mp p)]
          exact exL ⟨hlt, rfl, by rw [allR_s, q, Bool.true_and, show rqS (cW (gK A) (3 * t)) s z i = false from decide_eq_false p]; rfl, (e3.trans g2).trans g4⟩
    · have : i = 4 := by omega
      subst this
      rw [if_pos (show (4 : Int32) ≤ nI 4 by decide)]
      exact exR ⟨e2, e3⟩)
  dsimp only at g2 g3
  subst g2
  exact ⟨τ', g1, g3⟩
theorem rests_100 {A : Gh} {τ : Mem} {b t s z : Nat} {x y : Int32} {F : Bool} (hA : gOk A) (hc : hasC A) (hM : MRel τ A) (hb : b < cB (gK A)) (ht : t < cT (gK A)) (hz : z < 3) : ∃ τ', loopF (f_Model_rests_L100 (nI b) (nI t) x y (nI s) (nI z)) FU (τ, flg F, 0) = some (τ', flg (F && allR (rqB (cW (gK A) (3 * t)) (lkS (gK A) (gW A) b t) (duS (gK A) (gW A) b t) s z) 3)) ∧ SM (gL A).1 (gL A).2.1 τ τ' := by
  obtain ⟨⟨τ', v⟩, g1, g2, g3⟩ := loopF_go (step := f_Model_rests_L100 (nI b) (nI t) x y (nI s) (nI z)) (a := (τ, flg F, (0 : Int32))) (fun i a => a.2.2 = nI i ∧ a.2.1 = flg (F && allR (rqB (cW (gK A) (3 * t)) (lkS (gK A) (gW A) b t) (duS (gK A) (gW A) b t) s z) i) ∧ SM (gL A).1 (gL A).2.1 τ a.1) (fun r => r.2 = flg (F && allR (rqB (cW (gK A) (3 * t)) (lkS (gK A) (gW A) b t) (duS (gK A) (gW A) b t) s z) 3) ∧ SM (gL A).1 (gL A).2.1 τ r.1) 3 ⟨rfl, by show _ = flg (F && true); rw [Bool.and_true], SM.refl hM.t⟩ (by omega) (by
    rintro i ⟨τ1, f, k⟩ hi ⟨e1, e2, e3⟩
    simp only at e1 e2 e3
    subst e1
    unfold f_Model_rests_L100
    dsimp only
    by_cases hlt : i < 3
    · rw [if_neg (show ¬ (3 : Int32) ≤ nI i from nI_ge (b := 3) hlt (by omega))]
      cases q : (F && allR (rqB (cW (gK A) (3 * t)) (lkS (gK A) (gW A) b t) (duS (gK A) (gW A) b t) s z) i) with
      | false =>
        rw [q] at e2
        rw [e2, if_pos flg_0, nI_1]
        exact exL ⟨hlt, rfl, by rw [allR_s, ← Bool.and_assoc, q]; rfl, e3⟩
      | true =>
        rw [q] at e2
        obtain ⟨τ2, g1, g2⟩ := Model_gameOf (x := nI s) (e := 1) hA hc (hM.scr hA e3) hb ht (show i < 3 from hlt)
        obtain ⟨τ3, g3, g4⟩ := Model_gameOf (x := nI s) (e := 1) hA hc (hM.scr hA (e3.trans g2)) hb ht hz
        rw [e2, if_neg (show ¬ flg true = 0 by decide), g1, Option.bind_some, g3, Option.bind_some, nI_1]
        unfold gmS
        rw [if_neg (show ¬ (1 : Int32) = 0 by decide), if_neg (show ¬ (1 : Int32) = 0 by decide)]
        by_cases p : byS (cW (gK A) (3 * t)) (lkS (gK A) (gW A) b t) (duS (gK A) (gW A) b t) (nI s) (nI i) ≤ byS (cW (gK A) (3 * t)) (lkS (gK A) (gW A) b t) (duS (gK A) (gW A) b t) (nI s) (nI z)
        · rw [if_neg (Int32.not_lt.mpr p)]
          exact exL ⟨hlt, rfl, by rw [allR_s, ← Bool.and_assoc, q, Bool.true_and, show rqB (cW (gK A) (3 * t)) (lkS (gK A) (gW A) b t) (duS (gK A) (gW A) b t) s z i = true from decide_eq_true p]; rfl, (e3.trans g2).trans g4⟩
        · rw [if_pos (Int32.not_le.mp p)]
          exact exL ⟨hlt, rfl, by rw [allR_s, ← Bool.and_assoc, q, Bool.true_and, show rqB (cW (gK A) (3 * t)) (lkS (gK A) (gW A) b t) (duS (gK A) (gW A) b t) s z i = false from decide_eq_false p]; rfl, (e3.trans g2).trans g4⟩
    · have : i = 3 := by omega
      subst this
      rw [if_pos (show (3 : Int32) ≤ nI 3 by decide)]
      exact exR ⟨e2, e3⟩)
  dsimp only at g2 g3
  subst g2
  exact ⟨τ', g1, g3⟩
def tgM (τ : Mem) (r : Int32 ⊕ Int32) : (Mem × Int32) ⊕ (Int32 × Mem) := Sum.elim (fun c => .inl (τ, c)) (fun v => .inr (v, τ)) r
def reA (A : Gh) (b t s z : Nat) : Bool := reS (cW (gK A) (3 * t)) (lkS (gK A) (gW A) b t) (duS (gK A) (gW A) b t) s z
theorem rests_36 {A : Gh} {b t s : Nat} {x : Int32} (hA : gOk A) (hc : hasC A) (hb : b < cB (gK A)) (ht : t < cT (gK A)) : ∀ n j c m τ, j + n = 3 → n < m → MRel τ A → ∃ τ', loopF (f_Model_rests_L36 (nI b) (nI t) x (nI s)) m (τ, c, nI j) = some (tgM τ' (rsI (reA A b t s) x s n j c)) ∧ SM (gL A).1 (gL A).2.1 τ τ' := by
  intro n
  induction n with
  | zero =>
    intro j c m τ hj hm hM
    have : j = 3 := by omega
    subst this
    obtain ⟨m, rfl⟩ : ∃ k, m = k + 1 := ⟨m - 1, by omega⟩
    refine ⟨τ, loopF_inr ?_, SM.refl hM.t⟩
    unfold f_Model_rests_L36
    dsimp only
    rw [if_pos (show (3 : Int32) ≤ nI 3 by decide)]
    rfl
  | succ n ih =>
    intro j c m τ hj hm hM
    obtain ⟨m, rfl⟩ : ∃ k, m = k + 1 := ⟨m - 1, by omega⟩
    obtain ⟨τ1, g1, g2⟩ := rests_48 (s := s) (z := j) (x := x) (y := c) hA hc hM hb ht (by omega)
    obtain ⟨τ2, g3, g4⟩ := rests_100 (s := s) (z := j) (x := x) (y := c) (F := allR (rqS (cW (gK A) (3 * t)) s j) 4) hA hc (hM.scr hA g2) hb ht (by omega)
    have st : f_Model_rests_L36 (nI b) (nI t) x (nI s) (τ, c, nI j) = if reA A b t s j = true then (if c = x then some (.inr (.inr ((10 : Int32) * nI s + nI j, τ2))) else some (.inl (τ2, c + 1, nI (j + 1)))) else some (.inl (τ2, c, nI (j + 1))) := by
      unfold f_Model_rests_L36
      dsimp only
      rw [if_neg (show ¬ (3 : Int32) ≤ nI j from nI_ge (b := 3) (by omega) (by omega)), g1, Option.bind_some]
      dsimp only
      rw [g3, Option.bind_some]
      dsimp only
      rw [nI_1, show (allR (rqS (cW (gK A) (3 * t)) s j) 4 && allR (rqB (cW (gK A) (3 * t)) (lkS (gK A) (gW A) b t) (duS (gK A) (gW A) b t) s j) 3) = reA A b t s j from rfl]
      cases reA A b t s j
      · rfl
      · rfl
    unfold rsI
    by_cases q : reA A b t s j = true
    · rw [if_pos q] at st ⊢
      by_cases e : c = x
      · rw [if_pos e] at st ⊢
        exact ⟨τ2, loopF_inr st, g2.trans g4⟩
      · rw [if_neg e] at st ⊢
        rw [loopF_inl st]
        obtain ⟨τ3, p1, p2⟩ := ih (j + 1) (c + 1) m τ2 (by omega) (by omega) (hM.scr hA (g2.trans g4))
        exact ⟨τ3, p1, (g2.trans g4).trans p2⟩
    · rw [if_neg q] at st ⊢
      rw [loopF_inl st]
      obtain ⟨τ3, p1, p2⟩ := ih (j + 1) c m τ2 (by omega) (by omega) (hM.scr hA (g2.trans g4))
      exact ⟨τ3, p1, (g2.trans g4).trans p2⟩
theorem rests_27 {A : Gh} {b t : Nat} {x : Int32} (hA : gOk A) (hc : hasC A) (hb : b < cB (gK A)) (ht : t < cT (gK A)) : ∀ n s c m τ, s + n = 4 → n < m → MRel τ A → ∃ τ', loopF (f_Model_rests_L27 (nI b) (nI t) x) m (τ, c, nI s) = some (tgM τ' (rsO (reA A b t) x n s c)) ∧ SM (gL A).1 (gL A).2.1 τ τ' := by
  intro n
  induction n with
  | zero =>
    intro j c m τ hj hm hM
    have : j = 4 := by omega
    subst this
    obtain ⟨m, rfl⟩ : ∃ k, m = k + 1 := ⟨m - 1, by omega⟩
    refine ⟨τ, loopF_inr ?_, SM.refl hM.t⟩
    unfold f_Model_rests_L27
    dsimp only
    rw [if_pos (show (4 : Int32) ≤ nI 4 by decide)]
    rfl
  | succ n ih =>
    intro s c m τ hj hm hM
    obtain ⟨m, rfl⟩ : ∃ k, m = k + 1 := ⟨m - 1, by omega⟩
    obtain ⟨τ1, g1, g2⟩ := rests_36 (s := s) (x := x) hA hc hb ht 3 0 c FU τ (by omega) (by decide) hM
    have st : f_Model_rests_L27 (nI b) (nI t) x (τ, c, nI s) = Sum.elim (fun w => some (.inl (τ1, w, nI (s + 1)))) (fun v => some (.inr (.inr (v, τ1)))) (rsI (reA A b t s) x s 3 0 c) := by
      unfold f_Model_rests_L27
      dsimp only
      rw [if_neg (show ¬ (4 : Int32) ≤ nI s from nI_ge (b := 4) (by omega) (by omega)), show (0 : Int32) = nI 0 from rfl, g1, Option.bind_some, nI_1]
      cases rsI (reA A b t s) x s 3 0 c with
      | inl c' => rfl
      | inr v => rfl
    unfold rsO
    cases e : rsI (reA A b t s) x s 3 0 c with
    | inl c' =>
      rw [e] at st
      rw [loopF_inl st]
      obtain ⟨τ3, p1, p2⟩ := ih (s + 1) c' m τ1 (by omega) (by omega) (hM.scr hA g2)
      exact ⟨τ3, p1, g2.trans p2⟩
    | inr v =>
      rw [e] at st
      exact ⟨τ1, loopF_inr st, g2⟩
theorem sim_rests (x y z : Int32) : Sim (fun σ => f_Game_rests σ x y z) (fun σ => f_Model_rests σ x y z) := Sim.ro fun A hA => by
  have t8 := hA.T8
  rcases deal_both hA x y with ⟨d1, d2⟩ | ⟨b, t, b1, t1, rfl, rfl, d1, d2⟩
  · refine ⟨-1, fun σ hC => ⟨σ, ?_, SC.refl _ _ _⟩, fun σ hM => ⟨_, ?_, SM_0 (v := 0) hM⟩⟩
    · unfold f_Game_rests; rw [d1 σ hC]; rfl
    · unfold f_Model_rests; rw [d2 _ (hM.z (v := 0) hA)]; rfl
  · have hc := hA.city (Or.inl (by omega))
    by_cases q : (-1 : Int32) ≤ z
    · refine ⟨rsF z (rsO (reA A b t) z 4 0 0), fun σ hC => ?_, fun σ hM => ?_⟩
      · obtain ⟨σ', g1, g2, g3, g4, g5, g6⟩ := Bargain_sitDown hA hc hC b1 t1
        refine ⟨σ', ?_, g2⟩
        unfold f_Game_rests
        rw [d1 σ hC, Option.bind_some, if_neg (by decide), if_pos q, g1, Option.bind_some, Bargain_nthRest (f := reA A b t) (fun s z => Bargain_isRest (fun x z => Bargain_sellerHas g4) (fun x z => Bargain_buyerHas (by omega) g3 g4 g5 g6))]
        rfl
      · have hz := hM.z (v := 0) hA
        obtain ⟨τ, g1, g2⟩ := rests_27 (x := z) hA hc b1 t1 4 0 0 FU _ (by omega) (by decide) hz
        rw [show nI 0 = (0 : Int32) from rfl] at g1
        refine ⟨τ, ?_, (SM_0 (v := 0) hM).trans g2⟩
        unfold f_Model_rests
        rw [d2 _ hz, Option.bind_some, if_neg (by decide), if_pos q, g1, Option.bind_some]
        unfold rsF
        cases rsO (reA A b t) z 4 0 0 with
        | inl c =>
          show (if z = -1 then some (c, τ) else some (-1, τ)) = some (if z = -1 then c else -1, τ)
          split <;> rfl
        | inr v => rfl
    · refine ⟨-1, fun σ hC => ⟨σ, ?_, SC.refl _ _ _⟩, fun σ hM => ⟨_, ?_, SM_0 (v := 0) hM⟩⟩
      · unfold f_Game_rests; rw [d1 σ hC, Option.bind_some, if_neg (by decide), if_neg q]
      · unfold f_Model_rests; rw [d2 _ (hM.z (v := 0) hA), Option.bind_some, if_neg (by decide), if_neg q]
