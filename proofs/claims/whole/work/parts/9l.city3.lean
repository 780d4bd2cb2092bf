/-! a city told: the reference reads it whole -/
def MCi (s : ciT) (σ : Mem) : Prop := mI σ 565 28 = nI s.2.1.1 ∧ mI σ 565 29 = nI s.2.1.2 ∧ mI σ 565 31 = b01 s.1 ∧ (∀ k, k < 4 → mI σ 571 k = s.2.2.1 k) ∧ (∀ k, k < 3 * s.2.1.1 → mI σ 573 k = s.2.2.2.1 k) ∧ ∀ k, k < 4 * s.2.1.2 → mI σ 575 k = s.2.2.2.2 k
def R4 (σ σ' : Mem) : Prop := (∀ c, c ≠ 565 → c ≠ 571 → c ≠ 573 → c ≠ 575 → mI σ' c = mI σ c) ∧ (∀ k, ¬ ((8 ≤ k ∧ k ≤ 12) ∨ k = 28 ∨ k = 29 ∨ k = 31) → mI σ' 565 k = mI σ 565 k) ∧ mL σ' = mL σ ∧ ∀ c k, (c ≠ 565 ∨ k ≠ 5) → mR σ' c k = mR σ c k
theorem R4.refl (σ : Mem) : R4 σ σ := ⟨fun _ _ _ _ _ => rfl, fun _ _ => rfl, rfl, fun _ _ _ => rfl⟩
theorem R4.trans {σ σ1 σ2 : Mem} (h : R4 σ σ1) (g : R4 σ1 σ2) : R4 σ σ2 := ⟨fun c h1 h2 h3 h4 => (g.1 c h1 h2 h3 h4).trans (h.1 c h1 h2 h3 h4), fun k hk => (g.2.1 k hk).trans (h.2.1 k hk), g.2.2.1.trans h.2.2.1, fun c k hk => (g.2.2.2 c k hk).trans (h.2.2.2 c k hk)⟩
theorem R4_rx {σ σ' : Mem} (h : RX σ σ') : R4 σ σ' := ⟨fun c h1 _ _ _ => h.1 c h1, fun k hk => h.2.1 k (by omega) (by omega) (by omega), h.2.2.1, fun c k _ => by rw [h.2.2.2]⟩
theorem R4_ra {a : Nat} {σ σ' : Mem} (ha : a = 571 ∨ a = 573 ∨ a = 575) (h : RXa a σ σ') : R4 σ σ' := ⟨fun c h1 _ _ _ => h.1 c h1 (by omega), fun k hk => h.2.1 k (by omega) (by omega) (by omega), h.2.2.1, fun c k _ => by rw [h.2.2.2]⟩
theorem R4_5 {σ : Mem} {k : Nat} {v : Int32} (hk : (8 ≤ k ∧ k ≤ 12) ∨ k = 28 ∨ k = 29 ∨ k = 31) : R4 σ (sI σ 565 k v) := ⟨fun c h1 _ _ _ => row_ne h1, fun j hj => by rw [row_sI, upd_ne (by omega)], rfl, fun _ _ _ => rfl⟩
theorem MCi.rx {s : ciT} {σ σ' : Mem} (h : MCi s σ) (g : RX σ σ') : MCi s σ' := by
  unfold MCi
  rw [g.2.1 28 (by omega) (by omega) (by omega), g.2.1 29 (by omega) (by omega) (by omega), g.2.1 31 (by omega) (by omega) (by omega), g.1 571 (by omega), g.1 573 (by omega), g.1 575 (by omega)]
  exact h
theorem MAt.f5 {X : Tx} {L a b i k : Nat} {f d v : Int32} {σ : Mem} (ha : okA a b) (h : MAt X L a b i f d σ) (hk : ¬ (8 ≤ k ∧ k ≤ 12)) : MAt X L a b i f d (sI σ 565 k v) := h.fr (fun j hj => by rw [row_sI, upd_ne (by omega)]) (row_ne ha.2.2.1) rfl
theorem MEnd.map {α β : Type} {X : Tx} {L p : Nat} {d : Int32} {o : Option α} {f : α → β} {σ : Mem} (h : MEnd X L d (p, o) σ) : MEnd X L d (p, o.map f) σ := by
  cases o with
  | none => exact ⟨fun x q => (by cases q), fun _ => h.2 rfl⟩
  | some x => exact ⟨fun y _ => h.1 x rfl, fun q => by cases q⟩
theorem clause_m {X : Tx} {L i : Nat} {d : Int32} {s : ciT} {σ : Mem} (hx : okX X L) (h : MAt X L 566 0 i (-1) d σ) (hi : i ≤ L) (hs : MCi s σ) (ho : okCi s) : ∃ σ', f_Model_readClause σ = some σ' ∧ R4 σ σ' ∧ MEnd X L d (clP X L s i) σ' ∧ ∀ s', (clP X L s i).2 = some s' → MCi s' σ' := by
  have hA := okA_6
  have b := sk_le (X := X) hi
  have o1 := ho.1
  have o2 := ho.2.1
  obtain ⟨τ, g1, g2, g3⟩ := Model_look hx hA h hi
  have s256 := sg_256 (i := sk X L i) hx
  have hs1 := hs.rx g3
  unfold f_Model_readClause
  rw [g1, Option.bind_some]
  dsimp only
  -- nothing that may stand here
  have no : (clP X L s i) = (sk X L i, none) → ∃ σ', f_Model_readClause_J52 τ (sgM (sg X L (sk X L i))) = some σ' ∧ R4 σ σ' ∧ MEnd X L d (clP X L s i) σ' ∧ ∀ s', (clP X L s i).2 = some s' → MCi s' σ' := fun e => by
    obtain ⟨σ1, p1, p2, p3⟩ := Model_fails hA g2
    unfold f_Model_readClause_J52
    rw [if_pos rfl, p1, Option.bind_some, e]
    exact ⟨σ1, rfl, R4_rx (g3.trans p3), ⟨fun _ p => (by cases p), fun _ => Or.inl ⟨_, p2⟩⟩, fun s' p => by cases p⟩
  by_cases c1 : sg X L (sk X L i) = 115 ∧ s.1 = false
  · have lt := sg_lt (X := X) (L := L) (i := sk X L i) (by omega)
    have y1 : sgM (sg X L (sk X L i)) = (115 : Int32) := (sgM_eq s256 (c := 115) (by omega) (by omega)).mpr c1.1
    have m1 := (g2.to (j := sk X L i + 1) hA).f5 (k := 31) (v := 1) hA (by omega)
    obtain ⟨σ1, p1, p2, p3, p4, p5⟩ := Model_items (k := 0) (a := 571) (st := 0) hx (by omega) ⟨by omega, by omega⟩ (by decide +kernel) (by decide +kernel) m1 (by omega)
    have e : clP X L s i = ((itR X L 0 (sk X L i + 1)).1, (itR X L 0 (sk X L i + 1)).2.map fun r => (true, s.2.1, r, s.2.2.2.1, s.2.2.2.2)) := by unfold clP; rw [if_pos c1]
    rw [e]
    refine ⟨σ1, ?_, ((R4_rx g3).trans ((R4_5 (k := 10) (by omega)).trans (R4_5 (k := 31) (by omega)))).trans (R4_ra (by omega) p2), MEnd.map p4, fun s' p => ?_⟩
    · unfold f_Model_readClause_J48
      rw [y1, if_pos rfl, hs1.2.2.1, c1.2, if_pos (show b01 false = 0 from rfl), if_neg (show ¬ (1 : Int32) = 0 by decide), if_pos rfl, g2.2.2.2.1, nI_1, show f_Model_readItems (sI (sI τ 565 10 (nI (sk X L i + 1))) 565 31 1) 115 571 0 2 = some σ1 from p1]
      rfl
    · cases hr : (itR X L 0 (sk X L i + 1)).2 with
      | none => rw [hr] at p; cases p
      | some r =>
        rw [hr] at p; cases p
        obtain ⟨e1, e2, e3, e4, e5, e6⟩ := hs1
        refine ⟨?_, ?_, ?_, fun k hk => ?_, fun k hk => ?_, fun k hk => ?_⟩
        · rw [p2.2.1 28 (by omega) (by omega) (by omega), row_sI _ 565 31, upd_ne (by omega), row_sI, upd_ne (by omega)]; exact e1
        · rw [p2.2.1 29 (by omega) (by omega) (by omega), row_sI _ 565 31, upd_ne (by omega), row_sI, upd_ne (by omega)]; exact e2
        · rw [p2.2.1 31 (by omega) (by omega) (by omega), row_sI, upd_self]; rfl
        · have := p5 r hr k hk
          rw [Nat.zero_add] at this
          exact this
        · rw [p2.1 573 (by omega) (by omega), row_ne (by omega), row_ne (by omega)]; exact e5 k hk
        · rw [p2.1 575 (by omega) (by omega), row_ne (by omega), row_ne (by omega)]; exact e6 k hk
  · have to18 : (if sgM (sg X L (sk X L i)) = (115 : Int32) then (if (mI τ 565 31) = (0 : Int32) then f_Model_readClause_J48 τ (sgM (sg X L (sk X L i))) else f_Model_readClause_J18 τ (sgM (sg X L (sk X L i)))) else f_Model_readClause_J18 τ (sgM (sg X L (sk X L i)))) = f_Model_readClause_J18 τ (sgM (sg X L (sk X L i))) := by
      by_cases q : sg X L (sk X L i) = 115
      · have : s.1 = true := by cases z : s.1 with
          | true => rfl
          | false => exact absurd ⟨q, z⟩ c1
        rw [if_pos (show sgM (sg X L (sk X L i)) = (115 : Int32) from (sgM_eq s256 (c := 115) (by omega) (by omega)).mpr q), hs1.2.2.1, this, if_neg (show ¬ b01 true = 0 by decide)]
      · rw [if_neg (show ¬ sgM (sg X L (sk X L i)) = (115 : Int32) from fun p => q ((sgM_eq s256 (c := 115) (by omega) (by omega)).mp p))]
    rw [to18]
    unfold f_Model_readClause_J18
    by_cases c2 : sg X L (sk X L i) = 116 ∧ s.2.1.1 < 8
    · have lt := sg_lt (X := X) (L := L) (i := sk X L i) (by omega)
      have y1 : sgM (sg X L (sk X L i)) = (116 : Int32) := (sgM_eq s256 (c := 116) (by omega) (by omega)).mpr c2.1
      have m1 := (g2.to (j := sk X L i + 1) hA).f5 (k := 28) (v := nI (s.2.1.1 + 1)) hA (by omega)
      obtain ⟨σ1, p1, p2, p3, p4, p5⟩ := Model_items (k := 1) (a := 573) (st := 3 * s.2.1.1) hx (by omega) ⟨by omega, by omega⟩ (by rw [show ln 573 = 24 by decide +kernel]; show 3 * s.2.1.1 + 3 ≤ 24; omega) (by decide +kernel) m1 (by omega)
      have e : clP X L s i = ((itR X L 1 (sk X L i + 1)).1, (itR X L 1 (sk X L i + 1)).2.map fun r => (s.1, (s.2.1.1 + 1, s.2.1.2), s.2.2.1, puW r s.2.2.2.1 (3 * s.2.1.1) 3, s.2.2.2.2)) := by unfold clP; rw [if_neg c1, if_pos c2]
      rw [e]
      refine ⟨σ1, ?_, ((R4_rx g3).trans ((R4_5 (k := 10) (by omega)).trans (R4_5 (k := 28) (by omega)))).trans (R4_ra (by omega) p2), MEnd.map p4, fun s' p => ?_⟩
      · unfold f_Model_readClause_J48
        rw [y1, if_pos (show (116 : Int32) = 116 from rfl), hs1.1, if_pos (show nI s.2.1.1 < (8 : Int32) from nI_lt (b := 8) c2.2 (by omega)), if_neg (show ¬ (1 : Int32) = 0 by decide), if_neg (show ¬ (116 : Int32) = 115 by decide), if_pos (show (116 : Int32) = 116 from rfl), g2.2.2.2.1, nI_1, row_sI _ 565 10, upd_ne (by omega), hs1.1, nI_1, row_sI _ 565 28, upd_self, z_sub1 (by omega), Nat.add_sub_cancel, nI_3mul, show f_Model_readItems (sI (sI τ 565 10 (nI (sk X L i + 1))) 565 28 (nI (s.2.1.1 + 1))) 116 573 (nI (3 * s.2.1.1)) 3 = some σ1 from p1]
        rfl
      · cases hr : (itR X L 1 (sk X L i + 1)).2 with
        | none => rw [hr] at p; cases p
        | some r =>
          rw [hr] at p; cases p
          obtain ⟨e1, e2, e3, e4, e5, e6⟩ := hs1
          refine ⟨?_, ?_, ?_, fun k hk => ?_, fun k hk => ?_, fun k hk => ?_⟩
          · rw [p2.2.1 28 (by omega) (by omega) (by omega), row_sI, upd_self]
          · rw [p2.2.1 29 (by omega) (by omega) (by omega), row_sI _ 565 28, upd_ne (by omega), row_sI, upd_ne (by omega)]; exact e2
          · rw [p2.2.1 31 (by omega) (by omega) (by omega), row_sI _ 565 28, upd_ne (by omega), row_sI, upd_ne (by omega)]; exact e3
          · rw [p2.1 571 (by omega) (by omega), row_ne (by omega), row_ne (by omega)]; exact e4 k hk
          · have hk : k < 3 * (s.2.1.1 + 1) := hk
            show _ = puW r s.2.2.2.1 (3 * s.2.1.1) 3 k
            unfold puW
            by_cases e : 3 * s.2.1.1 ≤ k
            · rw [if_pos (by omega)]
              have := p5 r hr (k - 3 * s.2.1.1) (by show k - 3 * s.2.1.1 < 3; omega)
              rw [Nat.add_sub_of_le e] at this
              exact this
            · rw [if_neg (by omega), p3 k (by omega), row_ne (by omega), row_ne (by omega)]; exact e5 k (by omega)
          · rw [p2.1 575 (by omega) (by omega), row_ne (by omega), row_ne (by omega)]; exact e6 k hk
    · have to33 : (if sgM (sg X L (sk X L i)) = (116 : Int32) then (if (mI τ 565 28) < (8 : Int32) then f_Model_readClause_J48 τ (sgM (sg X L (sk X L i))) else f_Model_readClause_J33 τ (sgM (sg X L (sk X L i)))) else f_Model_readClause_J33 τ (sgM (sg X L (sk X L i)))) = f_Model_readClause_J33 τ (sgM (sg X L (sk X L i))) := by
        by_cases q : sg X L (sk X L i) = 116
        · rw [if_pos (show sgM (sg X L (sk X L i)) = (116 : Int32) from (sgM_eq s256 (c := 116) (by omega) (by omega)).mpr q), hs1.1, if_neg (show ¬ nI s.2.1.1 < (8 : Int32) from nI_nlt (b := 8) (by omega) (by omega))]
        · rw [if_neg (show ¬ sgM (sg X L (sk X L i)) = (116 : Int32) from fun p => q ((sgM_eq s256 (c := 116) (by omega) (by omega)).mp p))]
      rw [to33]
      unfold f_Model_readClause_J33
      by_cases c3 : sg X L (sk X L i) = 98 ∧ s.2.1.2 < 6
      · have lt := sg_lt (X := X) (L := L) (i := sk X L i) (by omega)
        have y1 : sgM (sg X L (sk X L i)) = (98 : Int32) := (sgM_eq s256 (c := 98) (by omega) (by omega)).mpr c3.1
        have m1 := (g2.to (j := sk X L i + 1) hA).f5 (k := 29) (v := nI (s.2.1.2 + 1)) hA (by omega)
        obtain ⟨σ1, p1, p2, p3, p4, p5⟩ := Model_items (k := 2) (a := 575) (st := 4 * s.2.1.2) hx (by omega) ⟨by omega, by omega⟩ (by rw [show ln 575 = 24 by decide +kernel]; show 4 * s.2.1.2 + 4 ≤ 24; omega) (by decide +kernel) m1 (by omega)
        have e : clP X L s i = ((itR X L 2 (sk X L i + 1)).1, (itR X L 2 (sk X L i + 1)).2.map fun r => (s.1, (s.2.1.1, s.2.1.2 + 1), s.2.2.1, s.2.2.2.1, puW r s.2.2.2.2 (4 * s.2.1.2) 4)) := by unfold clP; rw [if_neg c1, if_neg c2, if_pos c3]
        rw [e]
        refine ⟨σ1, ?_, ((R4_rx g3).trans ((R4_5 (k := 10) (by omega)).trans (R4_5 (k := 29) (by omega)))).trans (R4_ra (by omega) p2), MEnd.map p4, fun s' p => ?_⟩
        · unfold f_Model_readClause_J48
          rw [y1, if_pos (show (98 : Int32) = 98 from rfl), hs1.2.1, if_neg (show ¬ (6 : Int32) ≤ nI s.2.1.2 from nI_ge (b := 6) (by omega) (by omega)), if_neg (show ¬ (1 : Int32) = 0 by decide), if_neg (show ¬ (98 : Int32) = 115 by decide), if_neg (show ¬ (98 : Int32) = 116 by decide), g2.2.2.2.1, nI_1, row_sI _ 565 10, upd_ne (by omega), hs1.2.1, nI_1, row_sI _ 565 29, upd_self, z_sub1 (by omega), Nat.add_sub_cancel, show (4 : Int32) * nI s.2.1.2 = nI (4 * s.2.1.2) by rw [show (4 : Int32) = nI 4 from rfl, pk_mul], show f_Model_readItems (sI (sI τ 565 10 (nI (sk X L i + 1))) 565 29 (nI (s.2.1.2 + 1))) 98 575 (nI (4 * s.2.1.2)) 4 = some σ1 from p1]
          rfl
        · cases hr : (itR X L 2 (sk X L i + 1)).2 with
          | none => rw [hr] at p; cases p
          | some r =>
            rw [hr] at p; cases p
            obtain ⟨e1, e2, e3, e4, e5, e6⟩ := hs1
            refine ⟨?_, ?_, ?_, fun k hk => ?_, fun k hk => ?_, fun k hk => ?_⟩
            · rw [p2.2.1 28 (by omega) (by omega) (by omega), row_sI _ 565 29, upd_ne (by omega), row_sI, upd_ne (by omega)]; exact e1
            · rw [p2.2.1 29 (by omega) (by omega) (by omega), row_sI, upd_self]
            · rw [p2.2.1 31 (by omega) (by omega) (by omega), row_sI _ 565 29, upd_ne (by omega), row_sI, upd_ne (by omega)]; exact e3
            · rw [p2.1 571 (by omega) (by omega), row_ne (by omega), row_ne (by omega)]; exact e4 k hk
            · rw [p2.1 573 (by omega) (by omega), row_ne (by omega), row_ne (by omega)]; exact e5 k hk
            · have hk : k < 4 * (s.2.1.2 + 1) := hk
              show _ = puW r s.2.2.2.2 (4 * s.2.1.2) 4 k
              unfold puW
              by_cases e : 4 * s.2.1.2 ≤ k
              · rw [if_pos (by omega)]
                have := p5 r hr (k - 4 * s.2.1.2) (by show k - 4 * s.2.1.2 < 4; omega)
                rw [Nat.add_sub_of_le e] at this
                exact this
              · rw [if_neg (by omega), p3 k (by omega), row_ne (by omega), row_ne (by omega)]; exact e6 k (by omega)
      · have to52 : (if sgM (sg X L (sk X L i)) = (98 : Int32) then (if (6 : Int32) ≤ (mI τ 565 29) then f_Model_readClause_J52 τ (sgM (sg X L (sk X L i))) else f_Model_readClause_J48 τ (sgM (sg X L (sk X L i)))) else f_Model_readClause_J52 τ (sgM (sg X L (sk X L i)))) = f_Model_readClause_J52 τ (sgM (sg X L (sk X L i))) := by
          by_cases q : sg X L (sk X L i) = 98
          · rw [if_pos (show sgM (sg X L (sk X L i)) = (98 : Int32) from (sgM_eq s256 (c := 98) (by omega) (by omega)).mpr q), hs1.2.1, if_pos (show (6 : Int32) ≤ nI s.2.1.2 from nI_le (a := 6) (by omega) (by omega))]
          · rw [if_neg (show ¬ sgM (sg X L (sk X L i)) = (98 : Int32) from fun p => q ((sgM_eq s256 (c := 98) (by omega) (by omega)).mp p))]
        rw [to52]
        exact no (by unfold clP; rw [if_neg c1, if_neg c2, if_neg c3])
/-- what the reference makes of it in the end -/
def CFin (X : Tx) (L : Nat) (σ : Mem) (r : Nat × Option ciT) (τ : Mem) : Prop := ∃ σ', f_Model_readCity_J111 τ = some σ' ∧ mI σ' 565 11 = ftS r ∧ R4 σ σ' ∧ ∀ s, r.2 = some s → MCi s σ'
theorem city_m {X : Tx} {L : Nat} {d : Int32} (hx : okX X L) : ∀ f s i n σ, f + n = 16 → cnI s = n → i ≤ L → MAt X L 566 0 i (-1) d σ → MCi s σ → okCi s → ∀ m, f + 1 < m → ∃ τ, loopF f_Model_readCity_L55 m (σ, 1) = some τ ∧ CFin X L σ (ciF X L f s i) τ := by
  have hA := okA_6
  have h240 := hx.1
  intro f
  induction f with
  | zero =>
    intro s i n σ hf hn _ _ _ ho
    have := ho.1
    have := ho.2.1
    unfold cnI at hn
    split at hn <;> omega
  | succ f ih =>
    intro s i n σ hf hn hi h hs ho m hm
    obtain ⟨m, rfl⟩ : ∃ k, m = k + 2 := ⟨m - 2, by omega⟩
    obtain ⟨σ1, g1, g2, g3, g4⟩ := clause_m hx h hi hs ho
    obtain ⟨c1, c2⟩ := clP_ok hx hi ho
    have stop : ∀ τ, f_Model_readCity_L55 (τ, 0) = some (.inr τ) := fun τ => by
      unfold f_Model_readCity_L55
      dsimp only
      rw [if_pos rfl]
    have lo2 : ∀ τ, f_Model_readCity_L55 (σ, 1) = some (.inl (τ, 0)) → loopF f_Model_readCity_L55 (m + 2) (σ, 1) = some τ := fun τ e => by rw [loopF_inl e, loopF_inr (stop τ)]
    have st0 : f_Model_readCity_L55 (σ, 1) = if (mI σ1 565 11) = (-1 : Int32) then (f_Model_look σ1).bind fun q11 => (if q11.1 = (59 : Int32) then some (.inl (sI q11.2 565 10 (mI q11.2 565 10 + (1 : Int32)), (1 : Int32))) else some (.inl (q11.2, (0 : Int32)))) else some (.inl (σ1, (0 : Int32))) := by
      unfold f_Model_readCity_L55
      dsimp only
      rw [if_neg (show ¬ (1 : Int32) = 0 by decide), h.2.2.2.2.1, if_pos rfl, g1, Option.bind_some]
      rfl
    unfold ciF
    cases hq : (clP X L s i).2 with
    | none =>
      rcases g3.2 hq with ⟨k, hk⟩ | ⟨h1, h2, h3, h4, h5⟩
      · rw [hk.2.2.2.2.1, if_neg (nI_ne_m1 (by omega))] at st0
        refine ⟨σ1, lo2 _ st0, σ1, ?_, hk.2.2.2.2.1, g2, fun s p => by cases p⟩
        unfold f_Model_readCity_J111
        rw [hk.2.2.2.2.1, if_neg (nI_ne_m1 (by omega))]
      · obtain ⟨σ2, k1, k2, k3⟩ := Model_look hx hA h1 h2
        rw [h3] at k1 k2
        have s256 := sg_256 (i := (clP X L s i).1) hx
        rw [h1.2.2.2.2.1, if_pos rfl, k1, Option.bind_some] at st0
        dsimp only at st0
        rw [if_neg (show ¬ sgM (sg X L (clP X L s i).1) = (59 : Int32) from fun p => h5 ((sgM_eq s256 (c := 59) (by omega) (by omega)).mp p))] at st0
        obtain ⟨σ3, l1, l2, l3⟩ := Model_look hx hA k2 h2
        rw [h3] at l1 l2
        obtain ⟨σ4, n1, n2, n3⟩ := Model_fails hA l2
        refine ⟨σ2, lo2 _ st0, σ4, ?_, n2.2.2.2.2.1, ((g2.trans (R4_rx k3)).trans (R4_rx l3)).trans (R4_rx n3), fun s p => by cases p⟩
        unfold f_Model_readCity_J111
        rw [k2.2.2.2.2.1, if_pos rfl, l1, Option.bind_some]
        dsimp only
        rw [if_neg (fun p => h4 ((sgM_m1 s256).mp p)), n1]
        rfl
    | some s' =>
      have h1 := g3.1 s' hq
      have hs' := g4 s' hq
      obtain ⟨d1, d2, d3, d4, d5⟩ := c2 s' hq
      obtain ⟨σ2, k1, k2, k3⟩ := Model_look hx hA h1 c1
      rw [d4] at k1 k2
      have s256 := sg_256 (i := (clP X L s i).1) hx
      have hs2 := hs'.rx k3
      rw [h1.2.2.2.2.1, if_pos rfl, k1, Option.bind_some] at st0
      dsimp only at st0
      dsimp only
      rw [d4]
      have t8 := d1.1
      have b6 := d1.2.1
      rcases d5 with d5 | d5
      · rw [if_neg (show ¬ sgM (sg X L (clP X L s i).1) = (59 : Int32) from fun p => by have := (sgM_eq s256 (c := 59) (by omega) (by omega)).mp p; omega)] at st0
        rw [if_pos d5]
        obtain ⟨σ3, l1, l2, l3⟩ := Model_look hx hA k2 c1
        rw [d4] at l1 l2
        have hs3 := hs2.rx l3
        obtain ⟨σ4, n1, n2, n3⟩ := Model_fails hA l2
        have fr := (g2.trans (R4_rx k3)).trans (R4_rx l3)
        have j0 : f_Model_readCity_J111 σ2 = if nI s'.2.1.1 = (0 : Int32) then some σ4 else if nI s'.2.1.2 = (0 : Int32) then some σ4 else some σ3 := by
          unfold f_Model_readCity_J111
          rw [k2.2.2.2.2.1, if_pos rfl, l1, Option.bind_some]
          dsimp only
          rw [if_pos ((sgM_m1 s256).mpr d5), hs3.1, hs3.2.1, n1]
          rfl
        refine ⟨σ2, lo2 _ st0, ?_⟩
        by_cases q1 : 0 < s'.2.1.1
        · rw [if_neg (nI_ne0 q1 (by omega))] at j0
          by_cases q2 : 0 < s'.2.1.2
          · rw [if_neg (nI_ne0 q2 (by omega))] at j0
            rw [if_pos ⟨q1, q2⟩]
            exact ⟨σ3, j0, l2.2.2.2.2.1, fr, fun s p => by cases p; exact hs3⟩
          · rw [if_pos (show nI s'.2.1.2 = 0 by rw [show s'.2.1.2 = 0 by omega]; rfl)] at j0
            rw [if_neg (fun z => q2 z.2)]
            exact ⟨σ4, j0, n2.2.2.2.2.1, fr.trans (R4_rx n3), fun s p => by cases p⟩
        · rw [if_pos (show nI s'.2.1.1 = 0 by rw [show s'.2.1.1 = 0 by omega]; rfl)] at j0
          rw [if_neg (fun z => q1 z.1)]
          exact ⟨σ4, j0, n2.2.2.2.2.1, fr.trans (R4_rx n3), fun s p => by cases p⟩
      · have lt := sg_lt (X := X) (L := L) (i := (clP X L s i).1) (by omega)
        rw [if_pos (show sgM (sg X L (clP X L s i).1) = (59 : Int32) from (sgM_eq s256 (c := 59) (by omega) (by omega)).mpr d5), k2.2.2.2.1, nI_1] at st0
        rw [if_neg (by omega), if_pos d5]
        have x10 : RX σ2 (sI σ2 565 10 (nI ((clP X L s i).1 + 1))) := RX_sI (Or.inl rfl)
        obtain ⟨τ, p1, σ', p2, p3, p4, p5⟩ := ih s' ((clP X L s i).1 + 1) (n + 1) (sI σ2 565 10 (nI ((clP X L s i).1 + 1))) (by omega) (by unfold cnI at hn ⊢; omega) (by omega) (k2.to hA) (hs2.rx x10) d1 (m + 1) (by omega)
        exact ⟨τ, (loopF_inl st0).trans p1, σ', p2, p3, ((g2.trans (R4_rx k3)).trans (R4_rx x10)).trans p4, p5⟩
theorem Model_readCity {X : Tx} {L : Nat} {σ : Mem} (hx : okX X L) (h : MTt X L σ) : ∃ σ', f_Model_readCity σ = some σ' ∧ mI σ' 565 11 = ftS (ciR X L) ∧ R4 σ σ' ∧ ∀ s, (ciR X L).2 = some s → MCi s σ' := by
  have hA := okA_6
  obtain ⟨s1, s2⟩ := starts_at h
  have s3 : R4 σ (sI (sI (sI (sI (sR σ 565 5 566) 565 8 0) 565 9 (nI L)) 565 10 0) 565 11 (-1)) := by
    have p := PX2_st (σ := σ) (v := nI L)
    refine ⟨fun c h1 _ _ _ => by rw [row_ne h1, row_ne h1, row_ne h1, row_ne h1, mI_sR], fun k hk => p.2.1 k (by omega), p.2.2.2.2.1, p.2.2.2.2.2⟩
  generalize sI (sI (sI (sI (sR σ 565 5 566) 565 8 0) 565 9 (nI L)) 565 10 0) 565 11 (-1) = σ1 at s1 s2 s3
  have m2 := ((s2.f5 (k := 28) (v := 0) hA (by omega)).f5 (k := 29) (v := 0) hA (by omega)).f5 (k := 31) (v := 0) hA (by omega)
  obtain ⟨σ2, g1, g2, g3⟩ := loopF_go (step := f_Model_readCity_L30) (a := (sI (sI (sI σ1 565 28 (0 : Int32)) 565 29 (0 : Int32)) 565 31 (0 : Int32), (0 : Int32))) (fun i s => s.2 = nI i ∧ FX 571 (sI (sI (sI σ1 565 28 (0 : Int32)) 565 29 (0 : Int32)) 565 31 (0 : Int32)) s.1 ∧ ∀ q, q < i → mI s.1 571 q = nI (usI 0 q)) (fun r => FX 571 (sI (sI (sI σ1 565 28 (0 : Int32)) 565 29 (0 : Int32)) 565 31 (0 : Int32)) r ∧ ∀ q, q < 4 → mI r 571 q = nI (usI 0 q)) 4 ⟨rfl, ⟨fun _ _ => rfl, rfl, rfl⟩, fun q hq => by omega⟩ (by omega) (by
    rintro i ⟨τ, z⟩ hi ⟨e1, e2, e3⟩
    simp only at e1 e2 e3
    subst e1
    unfold f_Model_readCity_L30
    dsimp only
    by_cases hlt : i < 4
    · have u3 := (it_le 0 (by omega) i hlt hlt).2.2
      rw [if_neg (show ¬ (4 : Int32) ≤ nI i from nI_ge (b := 4) hlt (by omega)), show f_Model_usual τ 115 (nI i) = some (nI (usI 0 i)) from u3, Option.bind_some, if_pos (inb_nI hlt (by decide)), nI_clamp (by omega), nI_1]
      refine exL ⟨hlt, rfl, ⟨fun c hc => by rw [row_ne hc]; exact e2.1 c hc, e2.2⟩, fun q hq => ?_⟩
      rw [row_sI, upd_at]
      by_cases e : q = i
      · rw [if_pos e, e]
      · rw [if_neg e]; exact e3 q (by omega)
    · have : i = 4 := by omega
      subst this
      rw [if_pos (show (4 : Int32) ≤ nI 4 by decide)]
      exact exR ⟨e2, e3⟩)
  have m3 : MAt X L 566 0 0 (-1) (mI σ 565 12) σ2 := m2.fr (fun k _ => by rw [g2.1 565 (by omega)]) (g2.1 566 (by omega)) (by rw [g2.2.2])
  have c3 : MCi ci0 σ2 := by
    refine ⟨?_, ?_, ?_, g3, fun k hk => absurd hk (Nat.not_lt_zero _), fun k hk => absurd hk (Nat.not_lt_zero _)⟩
    · rw [g2.1 565 (by omega), row_sI _ 565 31, upd_ne (by omega), row_sI _ 565 29, upd_ne (by omega), row_sI, upd_self]; rfl
    · rw [g2.1 565 (by omega), row_sI _ 565 31, upd_ne (by omega), row_sI, upd_self]; rfl
    · rw [g2.1 565 (by omega), row_sI, upd_self]; rfl
  obtain ⟨τ, p1, σ', p2, p3, p4, p5⟩ := city_m hx 16 ci0 0 0 σ2 rfl rfl (Nat.zero_le _) m3 c3 ci0_ok FU (by unfold FU; omega)
  have fr : R4 σ σ2 := (s3.trans (((R4_5 (k := 28) (by omega)).trans (R4_5 (k := 29) (by omega))).trans (R4_5 (k := 31) (by omega)))).trans ⟨fun c _ h2 _ _ => g2.1 c h2, fun k _ => by rw [g2.1 565 (by omega)], g2.2.1, fun c k _ => by rw [g2.2.2]⟩
  refine ⟨σ', ?_, p3, fr.trans p4, p5⟩
  unfold f_Model_readCity
  rw [s1, Option.bind_some, g1, Option.bind_some, p1, Option.bind_some]
  exact p2
