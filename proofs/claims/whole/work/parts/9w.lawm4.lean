/-! laws: the reference's truths, conditions, clauses -/
def jAn (s : Nat) (v w : Int32) : Int32 := if v = 0 then 0 else if w = 0 then 0 else 1
def jO (s : Nat) (v w : Int32) : Int32 := if v = 0 then (if w = 0 then 0 else 1) else 1
theorem jAn_ok {s : Nat} {v w : Int32} (hs : opA s = true) (hv : g01 v) (hw : g01 w) : jAn s v w = jo s v w ∧ g01 (jAn s v w) := by
  have : s = 38 := of_decide_eq_true hs
  subst this
  rcases hv with rfl | rfl <;> rcases hw with rfl | rfl
  · exact ⟨by decide, Or.inl rfl⟩
  · exact ⟨by decide, Or.inl rfl⟩
  · exact ⟨by decide, Or.inl rfl⟩
  · exact ⟨by decide, Or.inr rfl⟩
theorem jO_ok {s : Nat} {v w : Int32} (hs : opO s = true) (hv : g01 v) (hw : g01 w) : jO s v w = jo s v w ∧ g01 (jO s v w) := by
  have : s = 124 := of_decide_eq_true hs
  subst this
  rcases hv with rfl | rfl <;> rcases hw with rfl | rfl
  · exact ⟨by decide, Or.inl rfl⟩
  · exact ⟨by decide, Or.inr rfl⟩
  · exact ⟨by decide, Or.inr rfl⟩
  · exact ⟨by decide, Or.inr rfl⟩
theorem unP_bdP (X : Tx) (L r : Nat) : bdP (unP X L r) := fun i s p l _ => (unP_bd X L r).1 i s p l
theorem trP_bdP (X : Tx) (L r : Nat) : bdP (trP X L r) := chP_bd (unP_bdP X L r)
/-- what goes on behind a first one -/
def MGo (X : Tx) (L a b : Nat) (op : Nat → Bool) (P : Nat → Res) (dp : Nat) (F : Mem × Int32 → Option (Int32 × Mem)) : Prop := (∀ c d i τ v, i ≤ L → 1 ≤ i → MAt X L a b i (-1) (nI dp) τ → g01 v → (bdl (lets τ) → v = d (lets τ)) → bdD d → ∃ v' σ', F (τ, v) = some (v', σ') ∧ g01 v' ∧ RX τ σ' ∧ (∀ r, (chF X L op P 240 c d i).2 = some r → MAt X L a b (chF X L op P 240 c d i).1 (-1) (nI dp) σ' ∧ (bdl (lets τ) → v' = r.2 (lets τ))) ∧ ((chF X L op P 240 c d i).2 = none → ∃ j e, MAt X L a b j (nI (chF X L op P 240 c d i).1) e σ')) ∧ ∀ τ v i f d, MAt X L a b i f d τ → f ≠ -1 → g01 v → F (τ, v) = some (v, τ)
theorem andL {X : Tx} {L a b n r dp : Nat} {x1 x2 : Int32} (hx : okX X L) (ha : okA a b) (hG : MCon g01 X L a b (unP X L r) dp (fun σ => f_MC n 2 σ 0 0)) : MGo X L a b opA (unP X L r) dp (fun s => loopF (f_Model_part_L18 (f_MC n) x1 x2) FU s) := by
  have hf : ∀ τ v i f d, MAt X L a b i f d τ → f ≠ -1 → g01 v → f_Model_part_L18 (f_MC n) x1 x2 (τ, v) = some (.inr (v, τ)) := fun τ v i f d h hf hg => by
    unfold f_Model_part_L18
    dsimp only
    rw [h.2.2.2.2.1, if_neg hf, if_pos (g01_bz hg)]
  refine ⟨fun c d i τ v hi h1 h hg hv hd => ?_, fun τ v i f d h hff hg => ?_⟩
  · refine chain_m (G := fun σ => f_MC n 2 σ 0 0) (J := jAn) (stp := f_Model_part_L18 (f_MC n) x1 x2) hx (by decide) (unP_ok X L r) hG (fun τ v i hi h q hg => ?_) (fun τ v i hi h q hg => ?_) hf (fun s v w h1 h2 h3 => (jAn_ok h1 h2 h3).2) (fun s v w h1 h2 h3 _ => (jAn_ok h1 h2 h3).1) 240 c d i τ v hi (by omega) h hg hv hd FU (by unfold FU; omega)
    · obtain ⟨σ1, g1, g2, g3⟩ := Model_look hx ha h hi
      have s256 := sg_256 (i := sk X L i) hx
      refine ⟨σ1, ?_, g2, g3⟩
      unfold f_Model_part_L18
      dsimp only
      rw [h.2.2.2.2.1, if_pos rfl, g1, Option.bind_some]
      dsimp only
      rw [show (38 : Int32) = nI 38 from rfl, sgif s256 (by omega) (by omega), if_neg (of_decide_eq_false q), if_pos (g01_bz hg)]
    · obtain ⟨σ1, g1, g2, g3⟩ := Model_look hx ha h hi
      have s256 := sg_256 (i := sk X L i) hx
      refine ⟨sI σ1 565 10 (nI (sk X L i + 1)), g2.to ha, g3.trans (RX_sI (Or.inl rfl)), ?_⟩
      unfold f_Model_part_L18
      dsimp only
      rw [h.2.2.2.2.1, if_pos rfl, g1, Option.bind_some]
      dsimp only
      rw [show (38 : Int32) = nI 38 from rfl, sgif s256 (by omega) (by omega), if_pos (of_decide_eq_true q), g2.2.2.2.1, nI_1]
      refine congrArg _ (funext fun p => ?_)
      unfold jAn
      split
      · rfl
      · split <;> rfl
  · obtain ⟨m, hm⟩ := FU_at 1 (by omega)
    dsimp only
    rw [hm]
    exact loopF_inr (hf τ v i f d h hff hg)
theorem orL {X : Tx} {L a b n r dp : Nat} {x1 x2 : Int32} (hx : okX X L) (ha : okA a b) (hG : MCon g01 X L a b (trP X L r) dp (fun σ => f_MC n 1 σ 0 0)) : MGo X L a b opO (trP X L r) dp (fun s => loopF (f_Model_condition_L7 (f_MC n) x1 x2) FU s) := by
  have hf : ∀ τ v i f d, MAt X L a b i f d τ → f ≠ -1 → g01 v → f_Model_condition_L7 (f_MC n) x1 x2 (τ, v) = some (.inr (v, τ)) := fun τ v i f d h hf hg => by
    unfold f_Model_condition_L7
    dsimp only
    rw [h.2.2.2.2.1, if_neg hf, if_pos (g01_bz hg)]
  refine ⟨fun c d i τ v hi h1 h hg hv hd => ?_, fun τ v i f d h hff hg => ?_⟩
  · refine chain_m (G := fun σ => f_MC n 1 σ 0 0) (J := jO) (stp := f_Model_condition_L7 (f_MC n) x1 x2) hx (by decide) (trP_ok X L r) hG (fun τ v i hi h q hg => ?_) (fun τ v i hi h q hg => ?_) hf (fun s v w h1 h2 h3 => (jO_ok h1 h2 h3).2) (fun s v w h1 h2 h3 _ => (jO_ok h1 h2 h3).1) 240 c d i τ v hi (by omega) h hg hv hd FU (by unfold FU; omega)
    · obtain ⟨σ1, g1, g2, g3⟩ := Model_look hx ha h hi
      have s256 := sg_256 (i := sk X L i) hx
      refine ⟨σ1, ?_, g2, g3⟩
      unfold f_Model_condition_L7
      dsimp only
      rw [h.2.2.2.2.1, if_pos rfl, g1, Option.bind_some]
      dsimp only
      rw [show (124 : Int32) = nI 124 from rfl, sgif s256 (by omega) (by omega), if_neg (of_decide_eq_false q), if_pos (g01_bz hg)]
    · obtain ⟨σ1, g1, g2, g3⟩ := Model_look hx ha h hi
      have s256 := sg_256 (i := sk X L i) hx
      refine ⟨sI σ1 565 10 (nI (sk X L i + 1)), g2.to ha, g3.trans (RX_sI (Or.inl rfl)), ?_⟩
      unfold f_Model_condition_L7
      dsimp only
      rw [h.2.2.2.2.1, if_pos rfl, g1, Option.bind_some]
      dsimp only
      rw [show (124 : Int32) = nI 124 from rfl, sgif s256 (by omega) (by omega), if_pos (of_decide_eq_true q), g2.2.2.2.1, nI_1]
      refine congrArg _ (funext fun p => ?_)
      unfold jO
      split
      · split <;> rfl
      · rfl
  · obtain ⟨m, hm⟩ := FU_at 1 (by omega)
    dsimp only
    rw [hm]
    exact loopF_inr (hf τ v i f d h hff hg)
/-- a first one that has been read, and what goes on -/
theorem go_m {X : Tx} {L a b dp : Nat} {op : Nat → Bool} {P : Nat → Res} {H : Mem × Int32 → Option (Int32 × Mem)} {v : Int32} {σ0 σ : Mem} {R R' : Res} (hx : okX X L) (hR1 : R.1 ≤ L) (hR0 : ∀ r, R.2 = some r → 1 ≤ R.1 ∧ bdD r.2) (hH : MGo X L a b op P dp H) (hg : g01 v) (hr : RX σ0 σ) (h1 : ∀ r, R.2 = some r → MAt X L a b R.1 (-1) (nI dp) σ ∧ (bdl (lets σ0) → v = r.2 (lets σ0))) (h2 : R.2 = none → ∃ j d, MAt X L a b j (nI R.1) d σ) (hR' : R' = match R.2 with
    | none => (R.1, none)
    | some r => chF X L op P 240 r.1 r.2 R.1) : ∃ v' σ', H (σ, v) = some (v', σ') ∧ g01 v' ∧ RX σ0 σ' ∧ (∀ r, R'.2 = some r → MAt X L a b R'.1 (-1) (nI dp) σ' ∧ (bdl (lets σ0) → v' = r.2 (lets σ0))) ∧ (R'.2 = none → ∃ j d, MAt X L a b j (nI R'.1) d σ') := by
  have h240 := hx.1
  cases hq : R.2 with
  | none =>
    rw [hq] at hR'
    obtain ⟨j, d, hj⟩ := h2 hq
    subst hR'
    exact ⟨v, σ, hH.2 σ v j _ d hj (nI_ne_m1 (by omega)) hg, hg, hr, fun r p => (by cases p), fun _ => ⟨j, d, hj⟩⟩
  | some r =>
    rw [hq] at hR'
    have hR' : R' = chF X L op P 240 r.1 r.2 R.1 := hR'
    obtain ⟨m1, v1⟩ := h1 r hq
    obtain ⟨o1, o2⟩ := hR0 r hq
    have el := lets_rx hr
    obtain ⟨v', σ', e1, e2, e3, e4, e5⟩ := hH.1 r.1 r.2 R.1 σ v hR1 o1 m1 hg (fun hb => by rw [el] at hb ⊢; exact v1 hb) o2
    rw [← hR'] at e4 e5
    rw [el] at e4
    exact ⟨v', σ', e1, e2, hr.trans e3, e4, e5⟩
theorem MC_all {X : Tx} {L a b : Nat} (hx : okX X L) (ha : okA a b) : ∀ r, r ≤ 6 → (∀ n, 3 * r + 1 ≤ n → MCon g01 X L a b (unP X L r) (6 - r) (fun σ => f_MC n 2 σ 0 0)) ∧ (∀ n, 3 * r + 2 ≤ n → MCon g01 X L a b (trP X L r) (6 - r) (fun σ => f_MC n 1 σ 0 0)) ∧ ∀ n, 3 * r + 3 ≤ n → MCon g01 X L a b (coP X L r) (6 - r) (fun σ => f_MC n 0 σ 0 0) := by
  have up : ∀ r, (∀ n, 3 * r + 1 ≤ n → MCon g01 X L a b (unP X L r) (6 - r) (fun σ => f_MC n 2 σ 0 0)) → (∀ n, 3 * r + 1 ≤ n → MCon g01 X L a b (unP X L r) (6 - r) (fun σ => f_MC n 2 σ 0 0)) ∧ (∀ n, 3 * r + 2 ≤ n → MCon g01 X L a b (trP X L r) (6 - r) (fun σ => f_MC n 1 σ 0 0)) ∧ ∀ n, 3 * r + 3 ≤ n → MCon g01 X L a b (coP X L r) (6 - r) (fun σ => f_MC n 0 σ 0 0) := fun r h1 => by
    have h2 : ∀ n, 3 * r + 2 ≤ n → MCon g01 X L a b (trP X L r) (6 - r) (fun σ => f_MC n 1 σ 0 0) := fun n hn => by
      obtain ⟨n, rfl⟩ : ∃ k, n = k + 1 := ⟨n - 1, by omega⟩
      intro i σ hi h
      obtain ⟨v, σ1, g1, g2, g3, g4, g5⟩ := h1 n (by omega) i σ hi h
      obtain ⟨p1, p2⟩ := unP_ok X L r i hi
      have g1 : f_MC n 2 σ 0 0 = some (v, σ1) := g1
      obtain ⟨v', σ', e1, e2, e3, e4, e5⟩ := go_m (R' := trP X L r i) hx p1 (fun s q => ⟨by have := (p2 s q).1; omega, unP_bdP X L r i s q⟩) (andL (x1 := 0) (x2 := 0) hx ha (h1 n (by omega))) g2 g3 g4 g5 rfl
      refine ⟨v', σ', ?_, e2, e3, e4, e5⟩
      show f_Model_part (f_MC n) σ 0 0 = _
      unfold f_Model_part
      rw [if_pos rfl, g1, Option.bind_some]
      exact e1
    refine ⟨h1, h2, fun n hn => ?_⟩
    obtain ⟨n, rfl⟩ : ∃ k, n = k + 1 := ⟨n - 1, by omega⟩
    intro i σ hi h
    obtain ⟨v, σ1, g1, g2, g3, g4, g5⟩ := h2 n (by omega) i σ hi h
    obtain ⟨p1, p2⟩ := trP_ok X L r i hi
    have g1 : f_MC n 1 σ 0 0 = some (v, σ1) := g1
    obtain ⟨v', σ', e1, e2, e3, e4, e5⟩ := go_m (R' := coP X L r i) hx p1 (fun s q => ⟨by have := (p2 s q).1; omega, trP_bdP X L r i s q⟩) (orL (x1 := 0) (x2 := 0) hx ha (h2 n (by omega))) g2 g3 g4 g5 rfl
    refine ⟨v', σ', ?_, e2, e3, e4, e5⟩
    show f_Model_condition (f_MC n) σ 0 0 = _
    unfold f_Model_condition
    rw [g1, Option.bind_some]
    exact e1
  intro r
  induction r with
  | zero =>
    intro _
    refine up 0 fun n hn => ?_
    obtain ⟨n, rfl⟩ : ∃ k, n = k + 1 := ⟨n - 1, by omega⟩
    exact unit_m hx ha (by omega) (fun r' p => by omega) (fun r' p => by omega)
  | succ r ih =>
    intro hr
    obtain ⟨i1, i2, i3⟩ := ih (by omega)
    refine up (r + 1) fun n hn => ?_
    obtain ⟨n, rfl⟩ : ∃ k, n = k + 1 := ⟨n - 1, by omega⟩
    refine unit_m hx ha hr (fun r' p => ?_) (fun r' p => ?_)
    · obtain rfl : r = r' := by omega
      exact i1 n (by omega)
    · obtain rfl : r = r' := by omega
      exact i3 n (by omega)
theorem MC_e0 (n : Nat) (σ : Mem) (x y : Int32) : f_MC (n + 1) 0 σ x y = f_Model_condition (f_MC n) σ x y := by
  rw [f_MC]
  exact if_pos rfl
theorem MC_e1 (n : Nat) (σ : Mem) (x y : Int32) : f_MC (n + 1) 1 σ x y = f_Model_part (f_MC n) σ x y := by
  rw [f_MC]
  exact (if_neg (by decide)).trans (if_pos rfl)
/-- a condition whose first sum has been read -/
theorem cond1_m {X : Tx} {L a b p : Nat} {x : List Int32 × Den} {one : Int32} {σ : Mem} (hx : okX X L) (ha : okA a b) (hp : p ≤ L) (q3 : ¬ (sg X L (sk X L p) = 33 ∨ sg X L (sk X L p) = 40)) (hsu : (suP X L 6 p).2 = some x) (h : MAt X L a b (sk X L (suP X L 6 p).1) (-1) (nI 0) σ) (hv : bdl (lets σ) → one = x.2 (lets σ)) : ∃ v σ', f_MC 30 0 σ 1 one = some (v, σ') ∧ g01 v ∧ RX σ σ' ∧ (∀ r, (coP X L 6 p).2 = some r → MAt X L a b (coP X L 6 p).1 (-1) (nI 0) σ' ∧ (bdl (lets σ) → v = r.2 (lets σ))) ∧ ((coP X L 6 p).2 = none → ∃ j d, MAt X L a b j (nI (coP X L 6 p).1) d σ') := by
  have b4 := sk_le (X := X) (suP_ok X L 6 p hp).1
  have eu : unP X L 6 p = cmF X L 6 x.1 x.2 (sk X L (suP X L 6 p).1) := by
    show unP X L (5 + 1) p = _
    unfold unP
    rw [if_neg (fun z => q3 (Or.inl z)), if_neg (fun z => q3 (Or.inr z))]
    unfold cmP
    rw [hsu]
    dsimp only
    unfold cmF
    rw [sk_sk]
  obtain ⟨i1, i2, i3⟩ := MC_all hx ha 6 (by omega)
  obtain ⟨v1, σ1, k1, k2, k3, k4, k5⟩ := cmF_m (r := 6) (c := x.1) (d := x.2) (one := one) hx ha (by omega) b4 h
  rw [← eu] at k4 k5
  obtain ⟨u1, u2⟩ := unP_ok X L 6 p hp
  obtain ⟨t1, t2⟩ := trP_ok X L 6 p hp
  obtain ⟨v2, σ2, m1, m2, m3, m4, m5⟩ := go_m (R := unP X L 6 p) (R' := trP X L 6 p) hx u1 (fun s q => ⟨by have := (u2 s q).1; omega, unP_bdP X L 6 p s q⟩) (andL (n := 28) (x1 := 1) (x2 := one) hx ha (i1 28 (by omega))) k2 k3 (fun r q => ⟨(k4 r q).1, fun hb => (k4 r q).2 hb (hv hb)⟩) k5 rfl
  obtain ⟨v3, σ3, n1, n2, n3, n4, n5⟩ := go_m (R := trP X L 6 p) (R' := coP X L 6 p) hx t1 (fun s q => ⟨by have := (t2 s q).1; omega, trP_bdP X L 6 p s q⟩) (orL (n := 29) (x1 := 1) (x2 := one) hx ha (i2 29 (by omega))) m2 m3 m4 m5 rfl
  refine ⟨v3, σ3, ?_, n2, n3, n4, n5⟩
  have e29 : f_MC 29 1 σ 1 one = some (v2, σ2) := by
    rw [MC_e1 28]
    unfold f_Model_part
    rw [if_neg (show ¬ (1 : Int32) = 0 by decide), compares1, h.2.2.2.2.1, if_pos rfl, k1, Option.bind_some]
    exact m1
  rw [MC_e0 29]
  unfold f_Model_condition
  rw [e29, Option.bind_some]
  exact n1
