/-! laws: the reference reads them -/
def lcd (q : Nat) : Nat := if q = 0 then 112 else if q = 1 then 119 else if q = 2 then 100 else if q = 3 then 109 else if q = 4 then 115 else 104
def lets (σ : Mem) : Nat → Int32 := fun q => mI σ 569 (lcd q)
def bdl (l : Nat → Int32) : Prop := ∀ q, q < 6 → ∃ n, n < 1000 ∧ l q = nI n
theorem clS_w (y : Int64) : ((lmax (-1000000 : Int64) (lmin (1000000 : Int64) y))).toInt32 = clS y := by
  unfold clS lmax lmin
  by_cases h1 : y ≤ (1000000 : Int64)
  · rw [if_pos ((lg_cmp_le _ _).mpr h1)]
    by_cases h2 : (-1000000 : Int64) ≤ y
    · rw [if_pos ((lg_cmp_ge _ _).mpr h2)]
      by_cases h3 : y < (1000000 : Int64)
      · rw [if_pos h3, if_neg (Int64.not_lt.mpr h2)]
      · have e : y = 1000000 := Int64.le_antisymm h1 (Int64.not_lt.mp h3)
        rw [e]; decide
    · have h2' : y < (-1000000 : Int64) := Int64.not_le.mp h2
      rw [if_neg (fun p => h2 ((lg_cmp_ge _ _).mp p)), if_pos (show y < (1000000 : Int64) from Int64.lt_trans h2' (by decide)), if_pos h2']
      decide
  · have h1' : (1000000 : Int64) < y := Int64.not_le.mp h1
    rw [if_neg (fun p => h1 ((lg_cmp_le _ _).mp p)), if_neg (Int64.not_lt.mpr (Int64.le_of_lt h1'))]
    decide
theorem Model_within (σ : Mem) (y : Int64) : f_Model_within σ y = some (clS y) := by
  unfold f_Model_within
  rw [clS_w]
theorem clS_min (y : Int64) : clS y ≠ Int32.minValue := by
  unfold clS
  by_cases h1 : y ≤ (1000000 : Int64)
  · rw [if_pos ((lg_cmp_le _ _).mpr h1)]
    by_cases h2 : (-1000000 : Int64) ≤ y
    · rw [if_pos ((lg_cmp_ge _ _).mpr h2)]
      intro q
      rw [Int64.le_iff_toInt_le] at h1 h2
      have e1 : (1000000 : Int64).toInt = 1000000 := by decide
      have e2 : (-1000000 : Int64).toInt = -1000000 := by decide
      rw [e1] at h1
      rw [e2] at h2
      have e3 : y.toInt32.toInt = Int32.minValue.toInt := by rw [q]
      rw [Int64.toInt_toInt32, show Int32.minValue.toInt = -2147483648 by decide] at e3
      unfold Int.bmod at e3
      simp only at e3
      split at e3 <;> omega
    · rw [if_neg (fun p => h2 ((lg_cmp_ge _ _).mp p))]; decide
  · rw [if_neg (fun p => h1 ((lg_cmp_le _ _).mp p))]; decide
theorem jo_min (c : Nat) (a b : Int32) : jo c a b ≠ Int32.minValue := by
  unfold jo
  repeat' split
  all_goals exact clS_min _
/-- what the letters stand for being small, d is no wrong number -/
def bdD (d : Den) : Prop := ∀ l, bdl l → d l ≠ Int32.minValue
/-- the reference's reader F reads what P says -/
def MCon (g : Int32 → Prop) (X : Tx) (L a b : Nat) (P : Nat → Res) (dp : Nat) (F : Mem → Option (Int32 × Mem)) : Prop := ∀ i σ, i ≤ L → MAt X L a b i (-1) (nI dp) σ → ∃ v σ', F σ = some (v, σ') ∧ g v ∧ RX σ σ' ∧ (∀ r, (P i).2 = some r → MAt X L a b (P i).1 (-1) (nI dp) σ' ∧ (bdl (lets σ) → v = r.2 (lets σ))) ∧ ((P i).2 = none → ∃ j d, MAt X L a b j (nI (P i).1) d σ')
def bdP (P : Nat → Res) : Prop := ∀ i r, (P i).2 = some r → bdD r.2
theorem lets_rx {σ σ' : Mem} (g : RX σ σ') : lets σ' = lets σ := by unfold lets; rw [g.1 569 (by omega)]
theorem chain_m {g : Int32 → Prop} {X : Tx} {L a b dp : Nat} {op : Nat → Bool} {P : Nat → Res} {G : Mem → Option (Int32 × Mem)} {J : Nat → Int32 → Int32 → Int32} {stp : Mem × Int32 → Option ((Mem × Int32) ⊕ (Int32 × Mem))} (hx : okX X L) (h0 : op 0 = false) (hP : okP L P) (hG : MCon g X L a b P dp G)
    (hstop : ∀ τ v i, i ≤ L → MAt X L a b i (-1) (nI dp) τ → op (sg X L (sk X L i)) = false → g v → ∃ τ', stp (τ, v) = some (.inr (v, τ')) ∧ MAt X L a b (sk X L i) (-1) (nI dp) τ' ∧ RX τ τ')
    (hgo : ∀ τ v i, i ≤ L → MAt X L a b i (-1) (nI dp) τ → op (sg X L (sk X L i)) = true → g v → ∃ τ1, MAt X L a b (sk X L i + 1) (-1) (nI dp) τ1 ∧ RX τ τ1 ∧ stp (τ, v) = (G τ1).bind fun q => some (.inl (q.2, J (sg X L (sk X L i)) v q.1)))
    (hf : ∀ τ v i f d, MAt X L a b i f d τ → f ≠ -1 → g v → stp (τ, v) = some (.inr (v, τ)))
    (hJg : ∀ s v w, op s = true → g v → g w → g (J s v w)) (hJ : ∀ s v w, op s = true → g v → g w → v ≠ Int32.minValue → J s v w = jo s v w) : ∀ n c d i τ v, i ≤ L → 241 ≤ i + n → MAt X L a b i (-1) (nI dp) τ → g v → (bdl (lets τ) → v = d (lets τ)) → bdD d → ∀ m, n + 1 < m → ∃ v' σ', loopF stp m (τ, v) = some (v', σ') ∧ g v' ∧ RX τ σ' ∧ (∀ r, (chF X L op P n c d i).2 = some r → MAt X L a b (chF X L op P n c d i).1 (-1) (nI dp) σ' ∧ (bdl (lets τ) → v' = r.2 (lets τ))) ∧ ((chF X L op P n c d i).2 = none → ∃ j e, MAt X L a b j (nI (chF X L op P n c d i).1) e σ') := by
  have h240 := hx.1
  intro n
  induction n with
  | zero => intro c d i τ v hi h241; omega
  | succ n ih =>
    intro c d i τ v hi h241 h hgv hv hd m hm
    obtain ⟨m, rfl⟩ : ∃ k, m = k + 2 := ⟨m - 2, by omega⟩
    have aa := sk_ge X L i
    have bb := sk_le (X := X) hi
    unfold chF
    cases q : op (sg X L (sk X L i)) with
    | false =>
      obtain ⟨τ', g1, g2, g3⟩ := hstop τ v i hi h q hgv
      rw [if_neg (by decide)]
      exact ⟨v, τ', loopF_inr g1, hgv, g3, fun r p => by cases p; exact ⟨g2, hv⟩, fun p => by cases p⟩
    | true =>
      have lt := sg_lt (X := X) (L := L) (i := sk X L i) (fun z => by rw [z, h0] at q; cases q)
      obtain ⟨τ1, g1, g2, g3⟩ := hgo τ v i hi h q hgv
      obtain ⟨w, τ2, k1, k2, k3, k4, k5⟩ := hG (sk X L i + 1) τ1 (by omega) g1
      obtain ⟨p1, p2⟩ := hP (sk X L i + 1) (by omega)
      have gj := hJg (sg X L (sk X L i)) v w q hgv k2
      rw [k1, Option.bind_some] at g3
      rw [if_pos rfl]
      cases hr : (P (sk X L i + 1)).2 with
      | none =>
        obtain ⟨j, dd, hj⟩ := k5 hr
        refine ⟨J (sg X L (sk X L i)) v w, τ2, ?_, gj, g2.trans k3, fun r p => (by cases p), fun _ => ⟨j, dd, hj⟩⟩
        rw [loopF_inl g3]
        exact loopF_inr (hf τ2 _ j _ dd hj (nI_ne_m1 (by omega)) gj)
      | some r =>
        obtain ⟨p3, p4⟩ := p2 r hr
        obtain ⟨m2, v2⟩ := k4 r hr
        have el : lets τ2 = lets τ := (lets_rx k3).trans (lets_rx g2)
        obtain ⟨v', σ', e1, e2, e3, e4, e5⟩ := ih (c ++ r.1 ++ [-(nI (sg X L (sk X L i)))]) (fun l => jo (sg X L (sk X L i)) (d l) (r.2 l)) (P (sk X L i + 1)).1 τ2 (J (sg X L (sk X L i)) v w) p1 (by omega) m2 gj (fun hb => by
          rw [el] at hb ⊢
          have ev := hv hb
          have ew : w = r.2 (lets τ) := by
            have := v2 (by rw [lets_rx g2]; exact hb)
            rw [lets_rx g2] at this
            exact this
          rw [hJ _ v w q hgv k2 (by rw [ev]; exact hd _ hb), ev, ew]) (fun l _ => jo_min _ _ _) (m + 1) (by omega)
        rw [el] at e4
        exact ⟨v', σ', (loopF_inl g3).trans e1, e2, (g2.trans k3).trans e3, e4, e5⟩
/-- a first one, and what goes on behind it -/
theorem first_m {g : Int32 → Prop} {X : Tx} {L a b dp : Nat} {op : Nat → Bool} {P : Nat → Res} {G G1 F : Mem → Option (Int32 × Mem)} {J : Nat → Int32 → Int32 → Int32} {stp : Mem × Int32 → Option ((Mem × Int32) ⊕ (Int32 × Mem))} (hx : okX X L) (h0 : op 0 = false) (hP : okP L P) (hb : bdP P) (hG : MCon g X L a b P dp G) (hG1 : MCon g X L a b P dp G1)
    (hstop : ∀ τ v i, i ≤ L → MAt X L a b i (-1) (nI dp) τ → op (sg X L (sk X L i)) = false → g v → ∃ τ', stp (τ, v) = some (.inr (v, τ')) ∧ MAt X L a b (sk X L i) (-1) (nI dp) τ' ∧ RX τ τ')
    (hgo : ∀ τ v i, i ≤ L → MAt X L a b i (-1) (nI dp) τ → op (sg X L (sk X L i)) = true → g v → ∃ τ1, MAt X L a b (sk X L i + 1) (-1) (nI dp) τ1 ∧ RX τ τ1 ∧ stp (τ, v) = (G τ1).bind fun q => some (.inl (q.2, J (sg X L (sk X L i)) v q.1)))
    (hf : ∀ τ v i f d, MAt X L a b i f d τ → f ≠ -1 → g v → stp (τ, v) = some (.inr (v, τ)))
    (hJg : ∀ s v w, op s = true → g v → g w → g (J s v w)) (hJ : ∀ s v w, op s = true → g v → g w → v ≠ Int32.minValue → J s v w = jo s v w) (hF : ∀ σ, F σ = (G1 σ).bind fun q1 => loopF stp FU (q1.2, q1.1)) : MCon g X L a b (chP X L op P) dp F := by
  have h240 := hx.1
  intro i σ hi h
  obtain ⟨v, σ1, g1, g2, g3, g4, g5⟩ := hG1 i σ hi h
  obtain ⟨p1, p2⟩ := hP i hi
  unfold chP
  rw [hF, g1, Option.bind_some]
  dsimp only
  cases hr : (P i).2 with
  | none =>
    obtain ⟨j, dd, hj⟩ := g5 hr
    obtain ⟨m, hm⟩ := FU_at 1 (by omega)
    refine ⟨v, σ1, ?_, g2, g3, fun r p => (by cases p), fun _ => ⟨j, dd, hj⟩⟩
    rw [hm]
    exact loopF_inr (hf σ1 v j _ dd hj (nI_ne_m1 (by omega)) g2)
  | some r =>
    obtain ⟨p3, p4⟩ := p2 r hr
    obtain ⟨m1, v1⟩ := g4 r hr
    have el := lets_rx g3
    obtain ⟨v', σ', e1, e2, e3, e4, e5⟩ := chain_m hx h0 hP hG hstop hgo hf hJg hJ 240 r.1 r.2 (P i).1 σ1 v p1 (by omega) m1 g2 (fun hb => by rw [el] at hb ⊢; exact v1 hb) (hb i r hr) FU (by unfold FU; omega)
    rw [el] at e4
    exact ⟨v', σ', e1, e2, g3.trans e3, e4, e5⟩
def gT1 : Int32 → Prop := fun _ => True
/-! no wrong numbers -/
theorem chP_bd {X : Tx} {L : Nat} {op : Nat → Bool} {P : Nat → Res} (hP : bdP P) : bdP (chP X L op P) := by
  have go : ∀ n c d i, bdD d → ∀ r, (chF X L op P n c d i).2 = some r → bdD r.2 := by
    intro n
    induction n with
    | zero => intro c d i _ r p; cases p
    | succ n ih =>
      intro c d i hd r p
      unfold chF at p
      split at p
      · cases h : (P (sk X L i + 1)).2 with
        | none => rw [h] at p; cases p
        | some x => rw [h] at p; exact ih _ _ _ (fun l _ => jo_min _ _ _) r p
      · cases p; exact hd
  intro i r p
  unfold chP at p
  cases h : (P i).2 with
  | none => rw [h] at p; cases p
  | some x => rw [h] at p; exact go 240 x.1 x.2 _ (hP i x h) r p
theorem nI_min {n : Nat} (h : n < 2 ^ 31) : nI n ≠ Int32.minValue := fun q => by
  have := nI_pos h
  rw [q] at this
  exact this (by decide)
theorem atP_bd {X : Tx} {L : Nat} {S : Option (Nat → Res)} (hS : ∀ s, S = some s → bdP s) : bdP (atP X L S) := by
  intro i r p
  unfold atP at p
  split at p
  · cases S with
    | none => cases p
    | some s => exact hS s rfl _ r (thn_some p)
  · cases h : ltI (sg X L (sk X L i)) with
    | some q =>
      rw [h] at p
      cases p
      intro l hl
      obtain ⟨n, n1, n2⟩ := hl q (ltI_6 h).1
      show l q ≠ _
      rw [n2]
      exact nI_min (by omega)
    | none =>
      rw [h] at p
      dsimp only at p
      cases hn : (nbP X L 4 i).2 with
      | none => rw [hn] at p; cases p
      | some v =>
        rw [hn] at p
        cases p
        have : v < 10 ^ 4 := nbP_v hn
        intro l _
        exact nI_min (by omega)
theorem suP_bd (X : Tx) (L : Nat) : ∀ r, bdP (suP X L r) := by
  intro r
  induction r with
  | zero => exact chP_bd (chP_bd (atP_bd fun s p => by cases p))
  | succ r ih => exact chP_bd (chP_bd (atP_bd fun s p => by cases p; exact ih))
theorem atS_bd (X : Tx) (L r : Nat) : bdP (atS X L r) := by
  cases r with
  | zero => exact atP_bd fun s p => by cases p
  | succ r => exact atP_bd fun s p => by cases p; exact suP_bd X L r
/-! sums -/
def jS (s : Nat) (v w : Int32) : Int32 := if s = 43 then clS (v.toInt64 + w.toInt64) else clS (v.toInt64 - w.toInt64)
def jT (s : Nat) (v w : Int32) : Int32 := if s = 42 then clS (v.toInt64 * w.toInt64) else if w = 0 then clS 0 else clS (v.toInt64 / w.toInt64)
theorem jo38 (a b : Int32) : jo 38 a b = clS (a &&& b).toInt64 := by
  unfold jo
  rw [if_pos rfl]
theorem jo42 (a b : Int32) : jo 42 a b = clS (a.toInt64 * b.toInt64) := by
  unfold jo
  rw [if_neg (show ¬ (42 : Nat) = 38 by decide), if_pos rfl]
theorem jo43 (a b : Int32) : jo 43 a b = clS (a.toInt64 + b.toInt64) := by
  unfold jo
  rw [if_neg (show ¬ (43 : Nat) = 38 by decide), if_neg (show ¬ (43 : Nat) = 42 by decide), if_pos rfl]
theorem jo45 (a b : Int32) : jo 45 a b = clS (a.toInt64 - b.toInt64) := by
  unfold jo
  rw [if_neg (show ¬ (45 : Nat) = 38 by decide), if_neg (show ¬ (45 : Nat) = 42 by decide), if_neg (show ¬ (45 : Nat) = 43 by decide), if_pos rfl]
theorem jo47 (a b : Int32) : jo 47 a b = if b = 0 then clS 0 else clS (a / b).toInt64 := by
  unfold jo
  rw [if_neg (show ¬ (47 : Nat) = 38 by decide), if_neg (show ¬ (47 : Nat) = 42 by decide), if_neg (show ¬ (47 : Nat) = 43 by decide), if_neg (show ¬ (47 : Nat) = 45 by decide), if_pos rfl]
theorem jo60 (a b : Int32) : jo 60 a b = if b ≤ a then clS 0 else clS 1 := by
  unfold jo
  rw [if_neg (show ¬ (60 : Nat) = 38 by decide), if_neg (show ¬ (60 : Nat) = 42 by decide), if_neg (show ¬ (60 : Nat) = 43 by decide), if_neg (show ¬ (60 : Nat) = 45 by decide), if_neg (show ¬ (60 : Nat) = 47 by decide), if_pos rfl]
theorem jo61 (a b : Int32) : jo 61 a b = if a = b then clS 1 else clS 0 := by
  unfold jo
  rw [if_neg (show ¬ (61 : Nat) = 38 by decide), if_neg (show ¬ (61 : Nat) = 42 by decide), if_neg (show ¬ (61 : Nat) = 43 by decide), if_neg (show ¬ (61 : Nat) = 45 by decide), if_neg (show ¬ (61 : Nat) = 47 by decide), if_neg (show ¬ (61 : Nat) = 60 by decide), if_pos rfl]
theorem jo62 (a b : Int32) : jo 62 a b = if a ≤ b then clS 0 else clS 1 := by
  unfold jo
  rw [if_neg (show ¬ (62 : Nat) = 38 by decide), if_neg (show ¬ (62 : Nat) = 42 by decide), if_neg (show ¬ (62 : Nat) = 43 by decide), if_neg (show ¬ (62 : Nat) = 45 by decide), if_neg (show ¬ (62 : Nat) = 47 by decide), if_neg (show ¬ (62 : Nat) = 60 by decide), if_neg (show ¬ (62 : Nat) = 61 by decide), if_pos rfl]
theorem jo124 (a b : Int32) : jo 124 a b = clS (a ||| b).toInt64 := by
  unfold jo
  rw [if_neg (show ¬ (124 : Nat) = 38 by decide), if_neg (show ¬ (124 : Nat) = 42 by decide), if_neg (show ¬ (124 : Nat) = 43 by decide), if_neg (show ¬ (124 : Nat) = 45 by decide), if_neg (show ¬ (124 : Nat) = 47 by decide), if_neg (show ¬ (124 : Nat) = 60 by decide), if_neg (show ¬ (124 : Nat) = 61 by decide), if_neg (show ¬ (124 : Nat) = 62 by decide)]
theorem jS_jo {s : Nat} {v w : Int32} (h : opS s = true) : jS s v w = jo s v w := by
  unfold opS at h
  rw [Bool.or_eq_true, decide_eq_true_eq, decide_eq_true_eq] at h
  rcases h with rfl | rfl
  · rw [jo43]; unfold jS; rw [if_pos rfl]
  · rw [jo45]; unfold jS; rw [if_neg (show ¬ (45 : Nat) = 43 by decide)]
theorem jT_jo {s : Nat} {v w : Int32} (h : opT s = true) (hv : v ≠ Int32.minValue) : jT s v w = jo s v w := by
  unfold opT at h
  rw [Bool.or_eq_true, decide_eq_true_eq, decide_eq_true_eq] at h
  rcases h with rfl | rfl
  · rw [jo42]; unfold jT; rw [if_pos rfl]
  · rw [jo47]; unfold jT; rw [if_neg (show ¬ (47 : Nat) = 42 by decide), Int32.toInt64_div_of_ne_left v w hv]
theorem look2 {X : Tx} {L a b i : Nat} {f d : Int32} {σ : Mem} (hx : okX X L) (ha : okA a b) (h : MAt X L a b i f d σ) (hi : i ≤ L) : ∃ σ1 σ2 σ3, f_Model_look σ = some (sgM (sg X L (sk X L i)), σ1) ∧ f_Model_look σ1 = some (sgM (sg X L (sk X L i)), σ2) ∧ f_Model_look σ2 = some (sgM (sg X L (sk X L i)), σ3) ∧ MAt X L a b (sk X L i) f d σ1 ∧ MAt X L a b (sk X L i) f d σ2 ∧ MAt X L a b (sk X L i) f d σ3 ∧ RX σ σ1 ∧ RX σ σ2 ∧ RX σ σ3 := by
  have bb := sk_le (X := X) hi
  obtain ⟨σ1, a1, a2, a3⟩ := Model_look hx ha h hi
  obtain ⟨σ2, b1, b2, b3⟩ := Model_look hx ha a2 bb
  rw [sk_sk] at b1 b2
  obtain ⟨σ3, c1, c2, c3⟩ := Model_look hx ha b2 bb
  rw [sk_sk] at c1 c2
  exact ⟨σ1, σ2, σ3, a1, b1, c1, a2, b2, c2, a3, a3.trans b3, (a3.trans b3).trans c3⟩
theorem sgif {α : Type} {n c : Nat} (hn : n < 256) (hc : 1 ≤ c) (hc2 : c < 256) (x y : α) : (if sgM n = nI c then x else y) = if n = c then x else y := by
  by_cases q : n = c
  · rw [if_pos ((sgM_eq hn hc hc2).mpr q), if_pos q]
  · rw [if_neg (fun p => q ((sgM_eq hn hc hc2).mp p)), if_neg q]
theorem i64_0 (w : Int32) : (w.toInt64 = 0) ↔ w = 0 := by
  constructor
  · intro h
    refine Int32.toInt_inj.mp ?_
    rw [← Int32.toInt_toInt64, h]
    decide
  · rintro rfl; decide
theorem sum_m {X : Tx} {L a b n r dp : Nat} (hx : okX X L) (ha : okA a b) (hG : MCon gT1 X L a b (teS X L r) dp (fun σ => f_MS n 1 σ)) : MCon gT1 X L a b (suP X L r) dp (fun σ => f_MS (n + 1) 0 σ) := by
  rw [suP_e]
  refine first_m (G := fun σ => f_MS n 1 σ) (G1 := fun σ => f_MS n 1 σ) (J := jS) (stp := f_Model_sum_L5 (f_MS n)) hx (by decide) (teS_ok X L r) (chP_bd (atS_bd X L r)) hG hG (fun τ v i hi h q _ => ?_) (fun τ v i hi h q _ => ?_) (fun τ v i f d h hf _ => ?_) (fun _ _ _ _ _ _ => trivial) (fun s v w h _ _ _ => jS_jo h) (fun σ => rfl)
  · obtain ⟨σ1, σ2, σ3, l1, l2, l3, m1, m2, m3, x1, x2, x3⟩ := look2 hx ha h hi
    have s256 := sg_256 (i := sk X L i) hx
    unfold opS at q
    rw [Bool.or_eq_false_iff, decide_eq_false_iff_not, decide_eq_false_iff_not] at q
    refine ⟨σ2, ?_, m2, x2⟩
    unfold f_Model_sum_L5
    dsimp only
    rw [h.2.2.2.2.1, if_pos rfl, l1, Option.bind_some]
    dsimp only
    rw [show (43 : Int32) = nI 43 from rfl, sgif s256 (by omega) (by omega), if_neg q.1, l2, Option.bind_some]
    dsimp only
    rw [show (45 : Int32) = nI 45 from rfl, sgif s256 (by omega) (by omega), if_neg q.2]
  · obtain ⟨σ1, σ2, σ3, l1, l2, l3, m1, m2, m3, x1, x2, x3⟩ := look2 hx ha h hi
    have s256 := sg_256 (i := sk X L i) hx
    unfold opS at q
    rw [Bool.or_eq_true, decide_eq_true_eq, decide_eq_true_eq] at q
    rcases q with q | q
    · refine ⟨sI σ2 565 10 (nI (sk X L i + 1)), m2.to ha, x2.trans (RX_sI (Or.inl rfl)), ?_⟩
      unfold f_Model_sum_L5
      dsimp only
      rw [h.2.2.2.2.1, if_pos rfl, l1, Option.bind_some]
      dsimp only
      rw [show (43 : Int32) = nI 43 from rfl, sgif s256 (by omega) (by omega), if_pos q, l2, Option.bind_some]
      dsimp only
      rw [sgif s256 (by omega) (by omega), if_pos q, m2.2.2.2.1, nI_1]
      simp only [Model_within, Option.bind_some]
      rw [q]
      rfl
    · refine ⟨sI σ3 565 10 (nI (sk X L i + 1)), m3.to ha, x3.trans (RX_sI (Or.inl rfl)), ?_⟩
      unfold f_Model_sum_L5
      dsimp only
      rw [h.2.2.2.2.1, if_pos rfl, l1, Option.bind_some]
      dsimp only
      rw [show (43 : Int32) = nI 43 from rfl, sgif s256 (by omega) (by omega), if_neg (by omega), l2, Option.bind_some]
      dsimp only
      rw [show (45 : Int32) = nI 45 from rfl, sgif s256 (by omega) (by omega), if_pos q, l3, Option.bind_some]
      dsimp only
      rw [sgif s256 (by omega) (by omega), if_neg (by omega), m3.2.2.2.1, nI_1]
      simp only [Model_within, Option.bind_some]
      rw [q]
      rfl
  · unfold f_Model_sum_L5
    dsimp only
    rw [h.2.2.2.2.1, if_neg hf]
theorem term_m {X : Tx} {L a b n r dp : Nat} (hx : okX X L) (ha : okA a b) (hG : MCon gT1 X L a b (atS X L r) dp (fun σ => f_MS n 2 σ)) : MCon gT1 X L a b (teS X L r) dp (fun σ => f_MS (n + 1) 1 σ) := by
  refine first_m (G := fun σ => f_MS n 2 σ) (G1 := fun σ => f_MS n 2 σ) (J := jT) (stp := f_Model_term_L5 (f_MS n)) hx (by decide) (atS_ok X L r) (atS_bd X L r) hG hG (fun τ v i hi h q _ => ?_) (fun τ v i hi h q _ => ?_) (fun τ v i f d h hf _ => ?_) (fun _ _ _ _ _ _ => trivial) (fun s v w h _ _ hv => jT_jo h hv) (fun σ => rfl)
  · obtain ⟨σ1, σ2, σ3, l1, l2, l3, m1, m2, m3, x1, x2, x3⟩ := look2 hx ha h hi
    have s256 := sg_256 (i := sk X L i) hx
    unfold opT at q
    rw [Bool.or_eq_false_iff, decide_eq_false_iff_not, decide_eq_false_iff_not] at q
    refine ⟨σ2, ?_, m2, x2⟩
    unfold f_Model_term_L5
    dsimp only
    rw [h.2.2.2.2.1, if_pos rfl, l1, Option.bind_some]
    dsimp only
    rw [show (42 : Int32) = nI 42 from rfl, sgif s256 (by omega) (by omega), if_neg q.1, l2, Option.bind_some]
    dsimp only
    rw [show (47 : Int32) = nI 47 from rfl, sgif s256 (by omega) (by omega), if_neg q.2]
  · obtain ⟨σ1, σ2, σ3, l1, l2, l3, m1, m2, m3, x1, x2, x3⟩ := look2 hx ha h hi
    have s256 := sg_256 (i := sk X L i) hx
    unfold opT at q
    rw [Bool.or_eq_true, decide_eq_true_eq, decide_eq_true_eq] at q
    rcases q with q | q
    · refine ⟨sI σ2 565 10 (nI (sk X L i + 1)), m2.to ha, x2.trans (RX_sI (Or.inl rfl)), ?_⟩
      unfold f_Model_term_L5
      dsimp only
      rw [h.2.2.2.2.1, if_pos rfl, l1, Option.bind_some]
      dsimp only
      rw [show (42 : Int32) = nI 42 from rfl, sgif s256 (by omega) (by omega), if_pos q, l2, Option.bind_some]
      dsimp only
      rw [sgif s256 (by omega) (by omega), if_pos q, m2.2.2.2.1, nI_1]
      simp only [Model_within, Option.bind_some]
      rw [q]
      rfl
    · refine ⟨sI σ3 565 10 (nI (sk X L i + 1)), m3.to ha, x3.trans (RX_sI (Or.inl rfl)), ?_⟩
      unfold f_Model_term_L5
      dsimp only
      rw [h.2.2.2.2.1, if_pos rfl, l1, Option.bind_some]
      dsimp only
      rw [show (42 : Int32) = nI 42 from rfl, sgif s256 (by omega) (by omega), if_neg (by omega), l2, Option.bind_some]
      dsimp only
      rw [show (47 : Int32) = nI 47 from rfl, sgif s256 (by omega) (by omega), if_pos q, l3, Option.bind_some]
      dsimp only
      rw [sgif s256 (by omega) (by omega), if_neg (by omega), m3.2.2.2.1, nI_1]
      simp only [Model_within, Option.bind_some]
      rw [q]
      cases f_MS n 2 (sI σ3 565 10 (nI (sk X L i + 1))) with
      | none => rfl
      | some p =>
        rw [Option.bind_some, Option.bind_some, if_pos trivial]
        unfold jT
        rw [if_neg (show ¬ (47 : Nat) = 42 by decide)]
        by_cases z : p.1 = 0
        · rw [if_pos ((lg_cmp_eq _ _).mpr ((i64_0 _).mpr z)), if_pos z]
        · rw [if_neg (fun w => z ((i64_0 _).mp ((lg_cmp_eq _ _).mp w))), if_neg (fun w => z ((i64_0 _).mp w)), if_neg z]
  · unfold f_Model_term_L5
    dsimp only
    rw [h.2.2.2.2.1, if_neg hf]
