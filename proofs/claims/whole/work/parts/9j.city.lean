/-! a city told, whole; the class -/
abbrev ciT : Type := Bool × (Nat × Nat) × Rw × Rw × Rw
def itR (X : Tx) (L k i : Nat) : Nat × Option Rw := itF X L k (itn k + 1) (fun _ => false) (fun q => nI (usI k q)) i
def puW (r W : Rw) (st n : Nat) : Rw := fun i => if st ≤ i ∧ i < st + n then r (i - st) else W i
def clP (X : Tx) (L : Nat) (s : ciT) (i : Nat) : Nat × Option ciT :=
  if sg X L (sk X L i) = 115 ∧ s.1 = false then ((itR X L 0 (sk X L i + 1)).1, (itR X L 0 (sk X L i + 1)).2.map fun r => (true, s.2.1, r, s.2.2.2.1, s.2.2.2.2))
  else if sg X L (sk X L i) = 116 ∧ s.2.1.1 < 8 then ((itR X L 1 (sk X L i + 1)).1, (itR X L 1 (sk X L i + 1)).2.map fun r => (s.1, (s.2.1.1 + 1, s.2.1.2), s.2.2.1, puW r s.2.2.2.1 (3 * s.2.1.1) 3, s.2.2.2.2))
  else if sg X L (sk X L i) = 98 ∧ s.2.1.2 < 6 then ((itR X L 2 (sk X L i + 1)).1, (itR X L 2 (sk X L i + 1)).2.map fun r => (s.1, (s.2.1.1, s.2.1.2 + 1), s.2.2.1, s.2.2.2.1, puW r s.2.2.2.2 (4 * s.2.1.2) 4))
  else (sk X L i, none)
def ciF (X : Tx) (L : Nat) : Nat → ciT → Nat → Nat × Option ciT
  | 0, _, i => (i, none)
  | f + 1, s, i => match (clP X L s i).2 with
    | none => ((clP X L s i).1, none)
    | some s' => if sg X L (sk X L (clP X L s i).1) = 0 then (sk X L (clP X L s i).1, if 0 < s'.2.1.1 ∧ 0 < s'.2.1.2 then some s' else none) else if sg X L (sk X L (clP X L s i).1) = 59 then ciF X L f s' (sk X L (clP X L s i).1 + 1) else (sk X L (clP X L s i).1, none)
def okCi (s : ciT) : Prop := s.2.1.1 ≤ 8 ∧ s.2.1.2 ≤ 6 ∧ okIt 0 s.2.2.1 ∧ (∀ t, t < s.2.1.1 → okIt 1 fun q => s.2.2.2.1 (3 * t + q)) ∧ ∀ b, b < s.2.1.2 → okIt 2 fun q => s.2.2.2.2 (4 * b + q)
theorem us_ok (k : Nat) (hk : k < 3) : okIt k (fun q => nI (usI k q)) := fun q hq => by
  have := itn_4 k
  obtain ⟨-, -, -, -, -, -, h1, h2⟩ := it_tb k hk q (by omega) hq
  exact ⟨usI k q, h1, h2, rfl⟩
theorem clP_ok {X : Tx} {L i : Nat} {s : ciT} (hx : okX X L) (hi : i ≤ L) (ho : okCi s) : (clP X L s i).1 ≤ L ∧ ∀ s', (clP X L s i).2 = some s' → okCi s' ∧ i < (clP X L s i).1 ∧ (if s'.1 = true then 1 else 0) + s'.2.1.1 + s'.2.1.2 = (if s.1 = true then 1 else 0) + s.2.1.1 + s.2.1.2 + 1 ∧ sk X L (clP X L s i).1 = (clP X L s i).1 ∧ (sg X L (clP X L s i).1 = 0 ∨ sg X L (clP X L s i).1 = 59) := by
  have a := sk_ge X L i
  have b := sk_le (X := X) hi
  obtain ⟨o1, o2, o3, o4, o5⟩ := ho
  have it : ∀ k, k < 3 → sg X L (sk X L i) ≠ 0 → (itR X L k (sk X L i + 1)).1 ≤ L ∧ ∀ r, (itR X L k (sk X L i + 1)).2 = some r → okIt k r ∧ sk X L i + 1 ≤ (itR X L k (sk X L i + 1)).1 ∧ sk X L (itR X L k (sk X L i + 1)).1 = (itR X L k (sk X L i + 1)).1 ∧ (sg X L (itR X L k (sk X L i + 1)).1 = 0 ∨ sg X L (itR X L k (sk X L i + 1)).1 = 59) := fun k hk hs => by
    have lt := sg_lt hs
    exact itF_ok hx hk _ _ _ _ (by omega) (us_ok k hk)
  unfold clP
  by_cases c1 : sg X L (sk X L i) = 115 ∧ s.1 = false
  · rw [if_pos c1]
    obtain ⟨i1, i2⟩ := it 0 (by omega) (by omega)
    refine ⟨i1, fun s' p => ?_⟩
    cases h : (itR X L 0 (sk X L i + 1)).2 with
    | none => rw [h] at p; cases p
    | some r =>
      rw [h] at p; cases p
      obtain ⟨j1, j2, j3, j4⟩ := i2 r h
      exact ⟨⟨o1, o2, j1, o4, o5⟩, by show i < (itR X L 0 (sk X L i + 1)).1; omega, by rw [c1.2]; show 1 + s.2.1.1 + s.2.1.2 = 0 + s.2.1.1 + s.2.1.2 + 1; omega, j3, j4⟩
  · rw [if_neg c1]
    by_cases c2 : sg X L (sk X L i) = 116 ∧ s.2.1.1 < 8
    · rw [if_pos c2]
      obtain ⟨i1, i2⟩ := it 1 (by omega) (by omega)
      refine ⟨i1, fun s' p => ?_⟩
      cases h : (itR X L 1 (sk X L i + 1)).2 with
      | none => rw [h] at p; cases p
      | some r =>
        rw [h] at p; cases p
        obtain ⟨j1, j2, j3, j4⟩ := i2 r h
        refine ⟨⟨by show s.2.1.1 + 1 ≤ 8; omega, o2, o3, fun t ht q hq => ?_, o5⟩, by show i < (itR X L 1 (sk X L i + 1)).1; omega, by show (if s.1 = true then 1 else 0) + (s.2.1.1 + 1) + s.2.1.2 = _; omega, j3, j4⟩
        have ht : t < s.2.1.1 + 1 := ht
        have hq' : q < 3 := hq
        show ∃ v, _ ∧ _ ∧ puW r s.2.2.2.1 (3 * s.2.1.1) 3 (3 * t + q) = nI v
        unfold puW
        by_cases e : t = s.2.1.1
        · rw [if_pos (by omega), e, Nat.add_sub_cancel_left]; exact j1 q hq
        · rw [if_neg (by omega)]; exact o4 t (by omega) q hq
    · rw [if_neg c2]
      by_cases c3 : sg X L (sk X L i) = 98 ∧ s.2.1.2 < 6
      · rw [if_pos c3]
        obtain ⟨i1, i2⟩ := it 2 (by omega) (by omega)
        refine ⟨i1, fun s' p => ?_⟩
        cases h : (itR X L 2 (sk X L i + 1)).2 with
        | none => rw [h] at p; cases p
        | some r =>
          rw [h] at p; cases p
          obtain ⟨j1, j2, j3, j4⟩ := i2 r h
          refine ⟨⟨o1, by show s.2.1.2 + 1 ≤ 6; omega, o3, o4, fun t ht q hq => ?_⟩, by show i < (itR X L 2 (sk X L i + 1)).1; omega, by show (if s.1 = true then 1 else 0) + s.2.1.1 + (s.2.1.2 + 1) = _; omega, j3, j4⟩
          have ht : t < s.2.1.2 + 1 := ht
          have hq' : q < 4 := hq
          show ∃ v, _ ∧ _ ∧ puW r s.2.2.2.2 (4 * s.2.1.2) 4 (4 * t + q) = nI v
          unfold puW
          by_cases e : t = s.2.1.2
          · rw [if_pos (by omega), e, Nat.add_sub_cancel_left]; exact j1 q hq
          · rw [if_neg (by omega)]; exact o5 t (by omega) q hq
      · rw [if_neg c3]
        exact ⟨b, fun s' p => by cases p⟩
def cnI (s : ciT) : Nat := (if s.1 = true then 1 else 0) + s.2.1.1 + s.2.1.2
theorem ciF_ok {X : Tx} {L : Nat} (hx : okX X L) : ∀ f s i, i ≤ L → okCi s → (ciF X L f s i).1 ≤ L ∧ ∀ s', (ciF X L f s i).2 = some s' → okCi s' ∧ 0 < s'.2.1.1 ∧ 0 < s'.2.1.2 := by
  intro f
  induction f with
  | zero => intro s i hi _; exact ⟨hi, fun s' p => by cases p⟩
  | succ f ih =>
    intro s i hi ho
    obtain ⟨c1, c2⟩ := clP_ok hx hi ho
    unfold ciF
    cases h : (clP X L s i).2 with
    | none => exact ⟨c1, fun s' p => by cases p⟩
    | some s1 =>
      obtain ⟨d1, d2, d3, d4, d5⟩ := c2 s1 h
      have k := sk_le (X := X) c1
      dsimp only
      split
      · refine ⟨k, fun s' p => ?_⟩
        by_cases q : 0 < s1.2.1.1 ∧ 0 < s1.2.1.2
        · rw [if_pos q] at p; cases p; exact ⟨d1, q⟩
        · rw [if_neg q] at p; cases p
      · split
        · rename_i e1 e2
          have := sg_lt (X := X) (L := L) (i := sk X L (clP X L s i).1) e1
          exact ih s1 _ (by omega) d1
        · exact ⟨k, fun s' p => by cases p⟩
/-! the class -/
def CCi (c : Nat) (s : ciT) (σ : Mem) : Prop := mI σ c 3 = nI s.2.1.1 ∧ mI σ c 4 = nI s.2.1.2 ∧ mI σ c 5 = b01 s.1 ∧ (∀ k, k < 4 → mI σ (c + 1) k = s.2.2.1 k) ∧ (∀ k, k < 3 * s.2.1.1 → mI σ (c + 2) k = s.2.2.2.1 k) ∧ ∀ k, k < 4 * s.2.1.2 → mI σ (c + 3) k = s.2.2.2.2 k
def C4 (c : Nat) (σ σ' : Mem) : Prop := (∀ a, a ≠ 1 → ¬ (c ≤ a ∧ a < c + 4) → mI σ' a = mI σ a) ∧ (∀ k, k ≠ 2 → k ≠ 3 → mI σ' 1 k = mI σ 1 k) ∧ mL σ' = mL σ ∧ mR σ' = mR σ
theorem C4.refl (c : Nat) (σ : Mem) : C4 c σ σ := ⟨fun _ _ _ => rfl, fun _ _ _ => rfl, rfl, rfl⟩
theorem C4.trans {c : Nat} {σ σ1 σ2 : Mem} (h : C4 c σ σ1) (g : C4 c σ1 σ2) : C4 c σ σ2 := ⟨fun a h1 h2 => (g.1 a h1 h2).trans (h.1 a h1 h2), fun k h1 h2 => (g.2.1 k h1 h2).trans (h.2.1 k h1 h2), g.2.2.1.trans h.2.2.1, g.2.2.2.trans h.2.2.2⟩
theorem C4_ax {c : Nat} {σ σ' : Mem} (h : AX σ σ') : C4 c σ σ' := ⟨fun a h1 _ => h.1 a h1, h.2⟩
theorem C4_ix {c a : Nat} {σ σ' : Mem} (ha : c ≤ a ∧ a < c + 4) (h : IX a σ σ') : C4 c σ σ' := ⟨fun b h1 h2 => h.1 b h1 (by omega), h.2⟩
theorem C4_sI {c k : Nat} {v : Int32} {σ : Mem} (hc : 2 < c) : C4 c σ (sI σ c k v) := ⟨fun a _ h2 => row_ne (by omega), fun j _ _ => by rw [row_ne (by omega)], rfl, rfl⟩
theorem CCi.ax {c : Nat} {s : ciT} {σ σ' : Mem} (hc : 2 < c) (h : CCi c s σ) (g : AX σ σ') : CCi c s σ' := by
  unfold CCi
  rw [g.1 c (by omega), g.1 (c + 1) (by omega), g.1 (c + 2) (by omega), g.1 (c + 3) (by omega)]
  exact h
theorem City_items {X : Tx} {L k o a st i : Nat} {σ : Mem} (hx : okX X L) (hk : k < 3) (ha : 2 < a) (hl : st + itn k ≤ ln a) (hl2 : ln a < 1000) (h : CAt X L i σ) (hi : i ≤ L) : ∃ σ', f_City_itemsRead σ o a (nI st) (nI (fi k)) (nI (itn k)) = some (is1 (itR X L k i).2, σ') ∧ CAt X L (itR X L k i).1 σ' ∧ IX a σ σ' ∧ (∀ j, j < st → mI σ' a j = mI σ a j) ∧ ∀ r, (itR X L k i).2 = some r → ∀ q, q < itn k → mI σ' a (st + q) = r q := by
  have i4 := itn_4 k
  have f11 : fi k + itn k ≤ 11 := by
    have : ∀ k, k < 3 → fi k + itn k ≤ 11 := by decide
    exact this k hk
  have hB : cpyB 11 (ln a) (nI (fi k)) (nI st) (nI (itn k)) = true := cpyB_nI (by omega) (by omega) (by omega) (by omega)
  have hM : cpyM (tb 1) (mI σ a) (nI (fi k)) (nI st) (nI (itn k)) = va_cpy (tb 1) (mI σ a) (fi k) st (itn k) := cpyM_nI (by omega) (by omega) (by omega)
  have c1 : CAt X L i (rI σ a (va_cpy (tb 1) (mI σ a) (fi k) st (itn k))) := h.fr (rowr_ne (by omega)) (rowr_ne (by omega))
  obtain ⟨σ', g1, g2, g3, g4, g5⟩ := items_go (o := o) hx hk ha hl hl2 (itn k + 1) 0 (fun _ => false) 0 (fun q => nI (usI k q)) i _ rfl hi c1 Bt.zero (fun q hq => by
    rw [rowr_self, pk_cpy_in (by omega) (by omega), Nat.add_sub_cancel_left]
    exact (it_tb k hk q (by omega) hq).1) FU (by unfold FU; omega)
  refine ⟨σ', ?_, g2, (IX_rI ha).trans g3, fun j hj => ?_, g5⟩
  · unfold f_City_itemsRead
    rw [if_pos hB, hM, Option.bind_some]
    exact g1
  · rw [g4 j hj, rowr_self, pk_cpy_out (Or.inl hj)]
theorem bzis {α : Type} (o : Option α) : bzb (is1 o) = true := by
  cases o with
  | none => exact (by decide : bzb 0 = true)
  | some _ => exact (by decide : bzb 1 = true)
theorem mapS {α β : Type} {o : Option α} (f : α → β) : is1 (o.map f) = is1 o := by cases o <;> rfl
theorem City_J82 {X : Tx} {L c i : Nat} {s : ciT} {σ : Mem} (hx : okX X L) (hc : c = 430 ∨ c = 536) (h : CAt X L i σ) (hi : i ≤ L) (hs : CCi c s σ) (ho : okCi s) (n1 : ¬ (sg X L (sk X L i) = 115 ∧ s.1 = false)) (n2 : ¬ (sg X L (sk X L i) = 116 ∧ s.2.1.1 < 8)) : ∃ σ', f_City_clauseReads_J82 σ c = some (is1 (clP X L s i).2, σ') ∧ CAt X L (clP X L s i).1 σ' ∧ C4 c σ σ' ∧ ∀ s', (clP X L s i).2 = some s' → CCi c s' σ' := by
  have b := sk_le (X := X) hi
  have o2 := ho.2.1
  have l3 : ln (c + 3) = 24 := by rcases hc with rfl | rfl <;> decide +kernel
  unfold f_City_clauseReads_J82 clP
  rw [if_neg n1, if_neg n2, hs.2.1]
  by_cases q6 : 6 ≤ s.2.1.2
  · obtain ⟨σ1, g1, g2, g3⟩ := Tape_sign hx h hi
    rw [if_pos (show (6 : Int32) ≤ nI s.2.1.2 from nI_le (a := 6) q6 (by omega)), if_neg (by omega), g1, Option.bind_some]
    exact ⟨σ1, rfl, g2, C4_ax g3, fun s' p => by cases p⟩
  · rw [if_neg (show ¬ (6 : Int32) ≤ nI s.2.1.2 from nI_ge (b := 6) (by omega) (by omega))]
    obtain ⟨σ1, g1, g2, g3⟩ := Tape_passes (c := 98) hx h hi (by omega)
    rw [show (98 : Int32) = nI 98 from rfl, g1, Option.bind_some]
    dsimp only
    by_cases q : sg X L (sk X L i) = 98
    · have lt := sg_lt (X := X) (L := L) (i := sk X L i) (by omega)
      rw [if_pos q] at g2
      have hs1 := hs.ax (by omega) g3
      rw [if_pos q, if_pos (show sg X L (sk X L i) = 98 ∧ s.2.1.2 < 6 from ⟨q, by omega⟩), if_neg (show ¬ (1 : Int32) = 0 by decide), hs1.2.1, nI_1, row_sI, upd_self, z_sub1 (by omega), Nat.add_sub_cancel, show nI s.2.1.2 * (4 : Int32) = nI (4 * s.2.1.2) by rw [show (4 : Int32) = nI 4 from rfl, pk_mul, Nat.mul_comm]]
      obtain ⟨σ2, k1, k2, k3, k4, k5⟩ := City_items (k := 2) (o := c) (a := c + 3) (st := 4 * s.2.1.2) hx (by omega) (by omega) (by rw [l3]; show 4 * s.2.1.2 + 4 ≤ 24; omega) (by omega) (g2.dx (a := c) (k := 4) (v := nI (s.2.1.2 + 1)) (by omega)) (by omega)
      rw [show (7 : Int32) = nI (fi 2) from rfl, show (4 : Int32) = nI (itn 2) from rfl, k1, Option.bind_some]
      dsimp only
      rw [if_pos (bzis _), mapS]
      refine ⟨σ2, rfl, k2, ((C4_ax g3).trans (C4_sI (by omega))).trans (C4_ix (by omega) k3), fun s' p => ?_⟩
      cases hr : (itR X L 2 (sk X L i + 1)).2 with
      | none => rw [hr] at p; cases p
      | some r =>
        rw [hr] at p; cases p
        obtain ⟨e1, e2, e3, e4, e5, e6⟩ := hs1
        refine ⟨?_, ?_, ?_, fun k hk => ?_, fun k hk => ?_, fun k hk => ?_⟩
        · rw [k3.1 c (by omega) (by omega), row_sI, upd_ne (by omega)]; exact e1
        · rw [k3.1 c (by omega) (by omega), row_sI, upd_self]
        · rw [k3.1 c (by omega) (by omega), row_sI, upd_ne (by omega)]; exact e3
        · rw [k3.1 (c + 1) (by omega) (by omega), row_ne (by omega)]; exact e4 k hk
        · rw [k3.1 (c + 2) (by omega) (by omega), row_ne (by omega)]; exact e5 k hk
        · have hk : k < 4 * (s.2.1.2 + 1) := hk
          show _ = puW r s.2.2.2.2 (4 * s.2.1.2) 4 k
          unfold puW
          by_cases e : 4 * s.2.1.2 ≤ k
          · rw [if_pos (by omega)]
            have := k5 r hr (k - 4 * s.2.1.2) (by show k - 4 * s.2.1.2 < 4; omega)
            rw [Nat.add_sub_of_le e] at this
            exact this
          · rw [if_neg (by omega), k4 k (by omega), row_ne (by omega)]; exact e6 k (by omega)
    · obtain ⟨σ2, k1, k2, k3⟩ := Tape_sign hx g2 (by rw [if_neg q]; exact b)
      rw [if_neg q, sk_sk] at k2
      rw [if_neg q, if_neg (show ¬ (sg X L (sk X L i) = 98 ∧ s.2.1.2 < 6) from fun p => q p.1), if_pos (show (0 : Int32) = 0 from rfl), k1, Option.bind_some]
      exact ⟨σ2, rfl, k2, C4_ax (g3.trans k3), fun s' p => by cases p⟩
theorem City_J34 {X : Tx} {L c i : Nat} {s : ciT} {σ : Mem} (hx : okX X L) (hc : c = 430 ∨ c = 536) (h : CAt X L i σ) (hi : i ≤ L) (hs : CCi c s σ) (ho : okCi s) (n1 : ¬ (sg X L (sk X L i) = 115 ∧ s.1 = false)) : ∃ σ', f_City_clauseReads_J34 σ c = some (is1 (clP X L s i).2, σ') ∧ CAt X L (clP X L s i).1 σ' ∧ C4 c σ σ' ∧ ∀ s', (clP X L s i).2 = some s' → CCi c s' σ' := by
  have b := sk_le (X := X) hi
  have o1 := ho.1
  have l2 : ln (c + 2) = 24 := by rcases hc with rfl | rfl <;> decide +kernel
  unfold f_City_clauseReads_J34
  rw [hs.1]
  by_cases q8 : 8 ≤ s.2.1.1
  · rw [if_pos (show (8 : Int32) ≤ nI s.2.1.1 from nI_le (a := 8) q8 (by omega))]
    exact City_J82 hx hc h hi hs ho n1 (by omega)
  · rw [if_neg (show ¬ (8 : Int32) ≤ nI s.2.1.1 from nI_ge (b := 8) (by omega) (by omega))]
    obtain ⟨σ1, g1, g2, g3⟩ := Tape_passes (c := 116) hx h hi (by omega)
    rw [show (116 : Int32) = nI 116 from rfl, g1, Option.bind_some]
    dsimp only
    by_cases q : sg X L (sk X L i) = 116
    · have lt := sg_lt (X := X) (L := L) (i := sk X L i) (by omega)
      rw [if_pos q] at g2
      have hs1 := hs.ax (by omega) g3
      unfold clP
      rw [if_neg n1, if_pos q, if_pos (show sg X L (sk X L i) = 116 ∧ s.2.1.1 < 8 from ⟨q, by omega⟩), if_neg (show ¬ (1 : Int32) = 0 by decide), hs1.1, nI_1, row_sI, upd_self, z_sub1 (by omega), Nat.add_sub_cancel, nI_mul3]
      obtain ⟨σ2, k1, k2, k3, k4, k5⟩ := City_items (k := 1) (o := c) (a := c + 2) (st := 3 * s.2.1.1) hx (by omega) (by omega) (by rw [l2]; show 3 * s.2.1.1 + 3 ≤ 24; omega) (by omega) (g2.dx (a := c) (k := 3) (v := nI (s.2.1.1 + 1)) (by omega)) (by omega)
      rw [show (4 : Int32) = nI (fi 1) from rfl, show (3 : Int32) = nI (itn 1) from rfl, k1, Option.bind_some]
      dsimp only
      rw [if_pos (bzis _), mapS]
      refine ⟨σ2, rfl, k2, ((C4_ax g3).trans (C4_sI (by omega))).trans (C4_ix (by omega) k3), fun s' p => ?_⟩
      cases hr : (itR X L 1 (sk X L i + 1)).2 with
      | none => rw [hr] at p; cases p
      | some r =>
        rw [hr] at p; cases p
        obtain ⟨e1, e2, e3, e4, e5, e6⟩ := hs1
        refine ⟨?_, ?_, ?_, fun k hk => ?_, fun k hk => ?_, fun k hk => ?_⟩
        · rw [k3.1 c (by omega) (by omega), row_sI, upd_self]
        · rw [k3.1 c (by omega) (by omega), row_sI, upd_ne (by omega)]; exact e2
        · rw [k3.1 c (by omega) (by omega), row_sI, upd_ne (by omega)]; exact e3
        · rw [k3.1 (c + 1) (by omega) (by omega), row_ne (by omega)]; exact e4 k hk
        · have hk : k < 3 * (s.2.1.1 + 1) := hk
          show _ = puW r s.2.2.2.1 (3 * s.2.1.1) 3 k
          unfold puW
          by_cases e : 3 * s.2.1.1 ≤ k
          · rw [if_pos (by omega)]
            have := k5 r hr (k - 3 * s.2.1.1) (by show k - 3 * s.2.1.1 < 3; omega)
            rw [Nat.add_sub_of_le e] at this
            exact this
          · rw [if_neg (by omega), k4 k (by omega), row_ne (by omega)]; exact e5 k (by omega)
        · rw [k3.1 (c + 3) (by omega) (by omega), row_ne (by omega)]; exact e6 k hk
    · rw [if_neg q] at g2
      have e : clP X L s (sk X L i) = clP X L s i := by unfold clP; rw [sk_sk]
      obtain ⟨σ2, k1, k2, k3, k4⟩ := City_J82 hx hc g2 b (hs.ax (by omega) g3) ho (by rw [sk_sk]; exact n1) (by rw [sk_sk]; exact fun p => q p.1)
      rw [e] at k1 k2 k4
      rw [if_neg q, if_pos (show (0 : Int32) = 0 from rfl), k1]
      exact ⟨σ2, rfl, k2, (C4_ax g3).trans k3, k4⟩
theorem City_clause {X : Tx} {L c i : Nat} {s : ciT} {σ : Mem} (hx : okX X L) (hc : c = 430 ∨ c = 536) (h : CAt X L i σ) (hi : i ≤ L) (hs : CCi c s σ) (ho : okCi s) : ∃ σ', f_City_clauseReads σ c = some (is1 (clP X L s i).2, σ') ∧ CAt X L (clP X L s i).1 σ' ∧ C4 c σ σ' ∧ ∀ s', (clP X L s i).2 = some s' → CCi c s' σ' := by
  have b := sk_le (X := X) hi
  have l1 : ln (c + 1) = 4 := by rcases hc with rfl | rfl <;> decide +kernel
  unfold f_City_clauseReads
  rw [hs.2.2.1]
  cases hr0 : s.1 with
  | true =>
    rw [if_neg (show ¬ b01 true = 0 by decide)]
    exact City_J34 hx hc h hi hs ho (by rw [hr0]; exact fun p => absurd p.2 (by decide))
  | false =>
    rw [if_pos (show b01 false = 0 from rfl)]
    obtain ⟨σ1, g1, g2, g3⟩ := Tape_passes (c := 115) hx h hi (by omega)
    rw [show (115 : Int32) = nI 115 from rfl, g1, Option.bind_some]
    dsimp only
    by_cases q : sg X L (sk X L i) = 115
    · have lt := sg_lt (X := X) (L := L) (i := sk X L i) (by omega)
      rw [if_pos q] at g2
      have hs1 := hs.ax (by omega) g3
      unfold clP
      rw [if_pos q, if_pos (show sg X L (sk X L i) = 115 ∧ s.1 = false from ⟨q, hr0⟩), if_neg (show ¬ (1 : Int32) = 0 by decide)]
      obtain ⟨σ2, k1, k2, k3, k4, k5⟩ := City_items (k := 0) (o := c) (a := c + 1) (st := 0) hx (by omega) (by omega) (by rw [l1]; decide) (by omega) (g2.dx (a := c) (k := 5) (v := 1) (by omega)) (by omega)
      rw [show (0 : Int32) = nI (fi 0) from rfl, show (4 : Int32) = nI (itn 0) from rfl, show f_City_itemsRead (sI σ1 c 5 1) c (c + 1) (nI (fi 0)) (nI (fi 0)) (nI (itn 0)) = _ from k1, Option.bind_some]
      dsimp only
      rw [if_pos (bzis _), mapS]
      refine ⟨σ2, rfl, k2, ((C4_ax g3).trans (C4_sI (by omega))).trans (C4_ix (by omega) k3), fun s' p => ?_⟩
      cases hr : (itR X L 0 (sk X L i + 1)).2 with
      | none => rw [hr] at p; cases p
      | some r =>
        rw [hr] at p; cases p
        obtain ⟨e1, e2, e3, e4, e5, e6⟩ := hs1
        refine ⟨?_, ?_, ?_, fun k hk => ?_, fun k hk => ?_, fun k hk => ?_⟩
        · rw [k3.1 c (by omega) (by omega), row_sI, upd_ne (by omega)]; exact e1
        · rw [k3.1 c (by omega) (by omega), row_sI, upd_ne (by omega)]; exact e2
        · rw [k3.1 c (by omega) (by omega), row_sI, upd_self]; rfl
        · have := k5 r hr k hk
          rw [Nat.zero_add] at this
          exact this
        · rw [k3.1 (c + 2) (by omega) (by omega), row_ne (by omega)]; exact e5 k hk
        · rw [k3.1 (c + 3) (by omega) (by omega), row_ne (by omega)]; exact e6 k hk
    · rw [if_neg q] at g2
      have e : clP X L s (sk X L i) = clP X L s i := by unfold clP; rw [sk_sk]
      obtain ⟨σ2, k1, k2, k3, k4⟩ := City_J34 hx hc g2 b (hs.ax (by omega) g3) ho (by rw [sk_sk]; exact fun p => q p.1)
      rw [e] at k1 k2 k4
      rw [if_neg q, if_pos (show (0 : Int32) = 0 from rfl), k1]
      exact ⟨σ2, rfl, k2, (C4_ax g3).trans k3, k4⟩
