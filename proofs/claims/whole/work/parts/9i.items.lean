/-! a city told: its items -/
def fi (k : Nat) : Nat := if k = 0 then 0 else if k = 1 then 4 else 7
def itn (k : Nat) : Nat := if k = 1 then 3 else 4
def kc (k : Nat) : Nat := if k = 0 then 115 else if k = 1 then 116 else 98
def itm (k c : Nat) : Option Nat := if k = 0 then (if c = 114 then some 0 else if c = 104 then some 1 else if c = 121 then some 2 else if c = 105 then some 3 else none) else if k = 1 then (if c = 112 then some 0 else if c = 119 then some 1 else if c = 115 then some 2 else none) else (if c = 109 then some 0 else if c = 100 then some 1 else if c = 110 then some 2 else if c = 107 then some 3 else none)
def loI (k q : Nat) : Nat := (tb 3 (fi k + q)).toNatClampNeg
def hiI (k q : Nat) : Nat := (tb 4 (fi k + q)).toNatClampNeg
def usI (k q : Nat) : Nat := (tb 1 (fi k + q)).toNatClampNeg
theorem it_c : ∀ k, k < 3 → ∀ c, c < 256 → loopF (f_City_itemOf_L3 m00 0 (nI c) (nI (fi k)) (nI (itn k))) FU (0 : Int32) = some (spI (itm k c)) := by decide +kernel
theorem it_m : ∀ k, k < 3 → ∀ c, c < 256 → loopF (f_Model_spotOf_L2 m00 (2 + k) (sgM c)) FU (0 : Int32) = some (spI (itm k c)) := by decide +kernel
theorem it_lt {k c q : Nat} (hk : k < 3) (h : itm k c = some q) : q < itn k ∧ c ≠ 0 ∧ c ≠ 59 := by
  unfold itm at h
  repeat' split at h
  all_goals first | (cases h; refine ⟨?_, by omega, by omega⟩; unfold itn; split <;> omega) | cases h
theorem it_10 {k c q : Nat} (h : itm k c = some q) : q < 10 := by
  unfold itm at h
  repeat' split at h
  all_goals first | (cases h; decide) | cases h
theorem it_ta : ∀ k, k < 3 → ∀ q, q < 4 → q < itn k → tb 1 (fi k + q) = nI (usI k q) ∧ tb 3 (fi k + q) = nI (loI k q) ∧ tb 4 (fi k + q) = nI (hiI k q) := by decide +kernel
theorem it_td : ∀ k, k < 3 → ∀ q, q < 4 → q < itn k → loI k q < 100 ∧ hiI k q < 100 ∧ fi k + q < 11 := by decide +kernel
theorem it_te : ∀ k, k < 3 → ∀ q, q < 4 → q < itn k → loI k q ≤ usI k q ∧ usI k q ≤ hiI k q := by decide +kernel
theorem it_tb (k : Nat) (hk : k < 3) (q : Nat) (h4 : q < 4) (h : q < itn k) : tb 1 (fi k + q) = nI (usI k q) ∧ tb 3 (fi k + q) = nI (loI k q) ∧ tb 4 (fi k + q) = nI (hiI k q) ∧ loI k q < 100 ∧ hiI k q < 100 ∧ fi k + q < 11 ∧ loI k q ≤ usI k q ∧ usI k q ≤ hiI k q := by
  obtain ⟨a1, a2, a3⟩ := it_ta k hk q h4 h
  obtain ⟨b1, b2, b3⟩ := it_td k hk q h4 h
  exact ⟨a1, a2, a3, b1, b2, b3, it_te k hk q h4 h⟩
theorem it_le : ∀ k, k < 3 → ∀ q, q < 4 → q < itn k → f_Model_leastOf m00 (nI (kc k)) (nI q) = some (nI (loI k q)) ∧ f_Model_mostOf m00 (nI (kc k)) (nI q) = some (nI (hiI k q)) ∧ f_Model_usual m00 (nI (kc k)) (nI q) = some (nI (usI k q)) := by decide +kernel
theorem itn_4 (k : Nat) : itn k = 3 ∨ itn k = 4 := by unfold itn; split <;> omega
/-- items, one after the other -/
def itF (X : Tx) (L k : Nat) : Nat → (Nat → Bool) → Rw → Nat → Nat × Option Rw
  | 0, _, _, i => (i, none)
  | f + 1, met, row, i => if sg X L (sk X L i) = 0 ∨ sg X L (sk X L i) = 59 then (sk X L i, some row) else match itm k (sg X L (sk X L i)) with
    | none => (sk X L i, none)
    | some q => if met q = true then (sk X L i, none) else match (nmP X L (loI k q) (hiI k q) (sk X L i + 1)).2 with
      | none => ((nmP X L (loI k q) (hiI k q) (sk X L i + 1)).1, none)
      | some v => itF X L k f (fun t => met t || decide (t = q)) (upd row q (nI v)) (nmP X L (loI k q) (hiI k q) (sk X L i + 1)).1
theorem nmP_ok {X : Tx} {L lo hi i : Nat} (h : i ≤ L) : (nmP X L lo hi i).1 ≤ L ∧ ∀ v, (nmP X L lo hi i).2 = some v → i < (nmP X L lo hi i).1 ∧ lo ≤ v ∧ v ≤ hi := by
  have a := nbP_le (X := X) (n := 2) (by omega) h
  unfold nmP
  cases q : (nbP X L 2 i).2 with
  | none => exact ⟨a.1, fun v p => by cases p⟩
  | some v =>
    dsimp only
    by_cases c : lo ≤ v ∧ v ≤ hi
    · rw [if_pos c]
      exact ⟨a.1, fun w p => by cases p; exact ⟨a.2.2 v q, c⟩⟩
    · rw [if_neg c]
      exact ⟨by show (nbP X L 2 i).1 - 1 ≤ L; omega, fun w p => by cases p⟩
/-- what the items may be -/
def okIt (k : Nat) (row : Rw) : Prop := ∀ q, q < itn k → ∃ v, loI k q ≤ v ∧ v ≤ hiI k q ∧ row q = nI v
theorem itF_ok {X : Tx} {L k : Nat} (hx : okX X L) (hk : k < 3) : ∀ f met row i, i ≤ L → okIt k row → (itF X L k f met row i).1 ≤ L ∧ ∀ r, (itF X L k f met row i).2 = some r → okIt k r ∧ i ≤ (itF X L k f met row i).1 ∧ sk X L (itF X L k f met row i).1 = (itF X L k f met row i).1 ∧ (sg X L (itF X L k f met row i).1 = 0 ∨ sg X L (itF X L k f met row i).1 = 59) := by
  intro f
  induction f with
  | zero => intro met row i hi ho; exact ⟨hi, fun r p => by cases p⟩
  | succ f ih =>
    intro met row i hi ho
    have a := sk_ge X L i
    have b := sk_le (X := X) hi
    have s256 := sg_256 (i := sk X L i) hx
    unfold itF
    by_cases c : sg X L (sk X L i) = 0 ∨ sg X L (sk X L i) = 59
    · rw [if_pos c]
      exact ⟨b, fun r p => by cases p; exact ⟨ho, a, sk_sk _ _ _, c⟩⟩
    · rw [if_neg c]
      cases h : itm k (sg X L (sk X L i)) with
      | none => exact ⟨b, fun r p => by cases p⟩
      | some q =>
        obtain ⟨q1, -, -⟩ := it_lt hk h
        have lt := sg_lt (X := X) (L := L) (i := sk X L i) (by omega)
        obtain ⟨n1, n2⟩ := nmP_ok (X := X) (lo := loI k q) (hi := hiI k q) (show sk X L i + 1 ≤ L by omega)
        dsimp only
        cases m : met q with
        | true => rw [if_pos rfl]; exact ⟨b, fun r p => by cases p⟩
        | false =>
          rw [if_neg (by decide)]
          cases hn : (nmP X L (loI k q) (hiI k q) (sk X L i + 1)).2 with
          | none => exact ⟨n1, fun r p => by cases p⟩
          | some v =>
            obtain ⟨n3, n4⟩ := n2 v hn
            obtain ⟨r1, r2⟩ := ih (fun t => met t || decide (t = q)) (upd row q (nI v)) (nmP X L (loI k q) (hiI k q) (sk X L i + 1)).1 n1 (fun t ht => by
              rw [upd_at]
              by_cases e : t = q
              · rw [if_pos e, e]; exact ⟨v, n4.1, n4.2, rfl⟩
              · rw [if_neg e]; exact ho t ht)
            dsimp only
            refine ⟨r1, fun r p => ?_⟩
            obtain ⟨p1, p2, p3⟩ := r2 r p
            exact ⟨p1, by omega, p3⟩
/-! counting what was met -/
theorem ctS_le (f : Nat → Bool) : ∀ n, ctS f n ≤ n := by
  intro n
  induction n with
  | zero => exact Nat.le_refl _
  | succ n ih => unfold ctS; split <;> omega
theorem ctS_full (f : Nat → Bool) : ∀ n, ctS f n = n → ∀ k, k < n → f k = true := by
  intro n
  induction n with
  | zero => intro _ k hk; omega
  | succ n ih =>
    intro h k hk
    have le := ctS_le f n
    have e : ctS f (n + 1) = ctS f n + if f n = true then 1 else 0 := rfl
    rw [e] at h
    cases hf : f n with
    | false => rw [hf, if_neg (by decide)] at h; omega
    | true =>
      rw [hf, if_pos rfl] at h
      by_cases z : k = n
      · rw [z]; exact hf
      · exact ih (by omega) k (by omega)
theorem ctS_or (f : Nat → Bool) (q : Nat) (hq : f q = false) : ∀ n, ctS (fun t => f t || decide (t = q)) n = ctS f n + if q < n then 1 else 0 := by
  intro n
  induction n with
  | zero => rfl
  | succ n ih =>
    show ctS (fun t => f t || decide (t = q)) n + (if (f n || decide (n = q)) = true then 1 else 0) = ctS f n + (if f n = true then 1 else 0) + (if q < n + 1 then 1 else 0)
    rw [ih]
    by_cases e : n = q
    · subst e
      rw [hq, decide_eq_true rfl, Bool.false_or, if_pos rfl, if_neg (by omega), if_neg (by decide), if_pos (by omega)]
    · rw [decide_eq_false e, Bool.or_false]
      by_cases e2 : q < n
      · rw [if_pos e2, if_pos (show q < n + 1 by omega)]; omega
      · rw [if_neg e2, if_neg (show ¬ q < n + 1 by omega)]; omega
/-! the class -/
def IX (a : Nat) (σ σ' : Mem) : Prop := (∀ c, c ≠ 1 → c ≠ a → mI σ' c = mI σ c) ∧ (∀ k, k ≠ 2 → k ≠ 3 → mI σ' 1 k = mI σ 1 k) ∧ mL σ' = mL σ ∧ mR σ' = mR σ
theorem IX.refl (a : Nat) (σ : Mem) : IX a σ σ := ⟨fun _ _ _ => rfl, fun _ _ _ => rfl, rfl, rfl⟩
theorem IX.trans {a : Nat} {σ σ1 σ2 : Mem} (h : IX a σ σ1) (g : IX a σ1 σ2) : IX a σ σ2 := ⟨fun c h1 h2 => (g.1 c h1 h2).trans (h.1 c h1 h2), fun k h1 h2 => (g.2.1 k h1 h2).trans (h.2.1 k h1 h2), g.2.2.1.trans h.2.2.1, g.2.2.2.trans h.2.2.2⟩
theorem IX_ax {a : Nat} {σ σ' : Mem} (h : AX σ σ') : IX a σ σ' := ⟨fun c h1 _ => h.1 c h1, h.2⟩
theorem IX_sI {a k : Nat} {v : Int32} {σ : Mem} (ha : 2 < a) : IX a σ (sI σ a k v) := ⟨fun c _ h2 => row_ne h2, fun j _ _ => by rw [row_ne (by omega)], rfl, rfl⟩
theorem IX_rI {a : Nat} {f : Rw} {σ : Mem} (ha : 2 < a) : IX a σ (rI σ a f) := ⟨fun c _ h2 => rowr_ne h2, fun j _ _ => by rw [rowr_ne (by omega)], rfl, rfl⟩
theorem items_go {X : Tx} {L k o a st : Nat} (hx : okX X L) (hk : k < 3) (ha : 2 < a) (hl : st + itn k ≤ ln a) (hl2 : ln a < 1000) : ∀ f n met x row i σ, f + n = itn k + 1 → i ≤ L → CAt X L i σ → Bt x met → (∀ q, q < itn k → mI σ a (st + q) = row q) → ∀ m, f < m → ∃ σ', loopF (f_City_itemsRead_L18 o a (nI st) (nI (fi k)) (nI (itn k))) m (σ, x, nI n) = some (is1 (itF X L k f met row i).2, σ') ∧ CAt X L (itF X L k f met row i).1 σ' ∧ IX a σ σ' ∧ (∀ j, j < st → mI σ' a j = mI σ a j) ∧ ∀ r, (itF X L k f met row i).2 = some r → ∀ q, q < itn k → mI σ' a (st + q) = r q := by
  have i4 := itn_4 k
  intro f
  induction f with
  | zero =>
    intro n met x row i σ hf hi h hb hr m hm
    obtain ⟨m, rfl⟩ : ∃ k, m = k + 1 := ⟨m - 1, by omega⟩
    refine ⟨σ, loopF_inr ?_, h, IX.refl _ _, fun _ _ => rfl, fun r p => by cases p⟩
    unfold f_City_itemsRead_L18
    dsimp only
    rw [if_pos (nI_lt (by omega) (by omega))]
    rfl
  | succ f ih =>
    intro n met x row i σ hf hi h hb hr m hm
    obtain ⟨m, rfl⟩ : ∃ k, m = k + 1 := ⟨m - 1, by omega⟩
    obtain ⟨σ1, g1, g2, g3⟩ := Tape_sign hx h hi
    have b := sk_le (X := X) hi
    have s256 := sg_256 (i := sk X L i) hx
    have lp : ∀ y z w, f_City_itemOf σ1 o y z w = loopF (f_City_itemOf_L3 m00 0 y z w) FU (0 : Int32) := fun y z w => rfl
    have ru : ∀ τ : Mem, mI τ a = mI σ a → ∀ q, q < itn k → mI τ a (st + q) = row q := fun τ e q hq => by rw [e]; exact hr q hq
    have zn : ¬ nI (itn k) < nI n := nI_nlt (by omega) (by omega)
    unfold itF
    by_cases c : sg X L (sk X L i) = 0 ∨ sg X L (sk X L i) = 59
    · rw [if_pos c]
      refine ⟨σ1, loopF_inr ?_, g2, IX_ax g3, fun j _ => by rw [g3.1 a (by omega)], fun r p q hq => by cases p; exact ru σ1 (g3.1 a (by omega)) q hq⟩
      unfold f_City_itemsRead_L18
      dsimp only
      rw [if_neg zn, g1, Option.bind_some]
      dsimp only
      rcases c with c | c
      · rw [if_pos (show nI (sg X L (sk X L i)) = 0 by rw [c]; rfl)]; rfl
      · rw [if_neg (nI_ne0 (by omega) (by omega)), if_pos (show nI (sg X L (sk X L i)) = (59 : Int32) by rw [c]; rfl)]; rfl
    · rw [if_neg c]
      have c0 : ¬ nI (sg X L (sk X L i)) = 0 := nI_ne0 (by omega) (by omega)
      have c1 : ¬ nI (sg X L (sk X L i)) = (59 : Int32) := fun p => c (Or.inr ((nI_eq (b := 59) (by omega) (by decide)).mp p))
      have st0 : f_City_itemsRead_L18 o a (nI st) (nI (fi k)) (nI (itn k)) (σ, x, nI n) = if spI (itm k (sg X L (sk X L i))) = (-1 : Int32) then some (.inr ((0 : Int32), σ1)) else if ((x >>> (spI (itm k (sg X L (sk X L i))) &&& 31)) &&& (1 : Int32)) = (1 : Int32) then some (.inr ((0 : Int32), σ1)) else if inb (nI (fi k) + spI (itm k (sg X L (sk X L i)))) 11 then (f_Tape_passesNumberWithin (sI σ1 1 2 (nI (sk X L i + 1))) (tb 3 (nI (fi k) + spI (itm k (sg X L (sk X L i)))).toNatClampNeg) (tb 4 (nI (fi k) + spI (itm k (sg X L (sk X L i)))).toNatClampNeg)).bind fun q11 => if q11.1 = (0 : Int32) then some (.inr ((0 : Int32), q11.2)) else if inb (nI st + spI (itm k (sg X L (sk X L i)))) (ln a) then some (.inl ((sI q11.2 a (nI st + spI (itm k (sg X L (sk X L i)))).toNatClampNeg (mI q11.2 1 3)), (x ||| ((1 : Int32) <<< (spI (itm k (sg X L (sk X L i))) &&& 31))), nI (n + 1))) else none else none := by
        unfold f_City_itemsRead_L18
        dsimp only
        rw [if_neg zn, g1, Option.bind_some]
        dsimp only
        rw [if_neg c0, if_neg c1, lp, it_c k hk _ s256, Option.bind_some, g2.2.1, nI_1, nI_1]
      cases hq : itm k (sg X L (sk X L i)) with
      | none =>
        rw [hq, if_pos (show spI none = -1 from rfl)] at st0
        exact ⟨σ1, loopF_inr st0, g2, IX_ax g3, fun j _ => by rw [g3.1 a (by omega)], fun r p => by cases p⟩
      | some q =>
        obtain ⟨q1, -, -⟩ := it_lt hk hq
        obtain ⟨-, t2, t3, t4, t5, t6, -, -⟩ := it_tb k hk q (by omega) q1
        have lt := sg_lt (X := X) (L := L) (i := sk X L i) (by omega)
        rw [hq, if_neg (show ¬ spI (some q) = -1 from nI_ne_m1 (by omega)), show spI (some q) = nI q from rfl, hb.bit (show q < 8 by omega), nI_add, nI_add, if_pos (inb_nI t6 (by decide)), nI_clamp (show fi k + q < 2 ^ 31 by omega), t2, t3] at st0
        dsimp only
        cases hm' : met q with
        | true =>
          rw [hm', if_pos rfl, if_pos rfl] at st0
          rw [if_pos rfl]
          exact ⟨σ1, loopF_inr st0, g2, IX_ax g3, fun j _ => by rw [g3.1 a (by omega)], fun r p => by cases p⟩
        | false =>
          rw [hm', if_neg (show ¬ (if false = true then (1 : Int32) else 0) = 1 by decide)] at st0
          rw [if_neg (by decide)]
          obtain ⟨n1, n2⟩ := nmP_ok (X := X) (lo := loI k q) (hi := hiI k q) (show sk X L i + 1 ≤ L by omega)
          obtain ⟨σ2, k1, k2, k3, k4⟩ := Tape_within (lo := loI k q) (hi := hiI k q) hx (by omega) (by omega) (g2.to (j := sk X L i + 1)) (by omega)
          have ax : AX σ σ2 := (g3.trans (AX_sI (Or.inl rfl))).trans k3
          rw [k1, Option.bind_some] at st0
          dsimp only at st0
          cases hn : (nmP X L (loI k q) (hiI k q) (sk X L i + 1)).2 with
          | none =>
            rw [hn, if_pos (show is1 (none : Option Nat) = 0 from rfl)] at st0
            exact ⟨σ2, loopF_inr st0, k2, IX_ax ax, fun j _ => by rw [ax.1 a (by omega)], fun r p => by cases p⟩
          | some v =>
            rw [hn, if_neg (show ¬ is1 (some v) = 0 from (by decide : ¬ (1 : Int32) = 0)), if_pos (inb_nI (show st + q < ln a by omega) (by omega)), nI_clamp (show st + q < 2 ^ 31 by omega), k4 v hn] at st0
            obtain ⟨σ3, p1, p2, p3, p4, p5⟩ := ih (n + 1) (fun t => met t || decide (t = q)) (x ||| ((1 : Int32) <<< (nI q &&& 31))) (upd row q (nI v)) (nmP X L (loI k q) (hiI k q) (sk X L i + 1)).1 (sI σ2 a (st + q) (nI v)) (by omega) n1 (k2.dx ha) (hb.or (by omega)) (fun t ht => by
              rw [row_sI, upd_at, upd_at]
              by_cases e : t = q
              · rw [if_pos (by omega), if_pos e]
              · rw [if_neg (by omega), if_neg e]; exact ru σ2 (ax.1 a (by omega)) t ht) m (by omega)
            dsimp only
            refine ⟨σ3, (loopF_inl st0).trans p1, p2, ((IX_ax ax).trans (IX_sI ha)).trans p3, fun j hj => ?_, p5⟩
            rw [p4 j hj, row_sI, upd_ne (by omega), ax.1 a (by omega)]
