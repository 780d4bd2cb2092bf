/-! laws: what the class's steps come to -/
def Rcd (row : Rw) (k : Nat) (c : List Int32) : Prop := ∀ j, j < c.length → row (k + j) = c.getD j 0
theorem Rcd_app {row : Rw} {k : Nat} {a b : List Int32} (h : Rcd row k (a ++ b)) : Rcd row k a ∧ Rcd row (k + a.length) b := by
  refine ⟨fun j hj => ?_, fun j hj => ?_⟩
  · rw [h j (by rw [List.length_append]; omega)]
    simp [List.getD_eq_getElem?_getD, List.getElem?_append, hj]
  · rw [Nat.add_assoc, h (a.length + j) (by rw [List.length_append]; omega)]
    simp [List.getD_eq_getElem?_getD, List.getElem?_append, show ¬ (a.length + j < a.length) by omega]
def l6 (r : Rw) : Rw := fun q => r (if q < 5 then q else 5)
theorem l6_q {r : Rw} {q : Nat} (h : q < 6) : l6 r q = r q := by
  unfold l6
  split
  · rfl
  · rw [show q = 5 by omega]
/-- steps c, h more on the stack at most, come to d -/
def Ex (o h : Nat) (c : List Int32) (d : Den) : Prop := ∀ τ N k t fr, N ≤ 240 → mI τ o 2 = nI N → Rcd (mI τ (o + 1)) k c → k + c.length ≤ N → fr ≤ k → t + h ≤ 32 → ∃ τ', (∀ m, loopF (f_Law_worth_L7 o 429) (m + c.length) (τ, nI t, nI fr, nI k) = loopF (f_Law_worth_L7 o 429) m (τ', nI (t + 1), nI fr, nI (k + c.length))) ∧ mI τ' (o + 2) t = d (l6 (mI τ 429)) ∧ (∀ j, j < t → mI τ' (o + 2) j = mI τ (o + 2) j) ∧ FX (o + 2) τ τ'
theorem Ex.mono {o h h' : Nat} {c : List Int32} {d : Den} (g : Ex o h c d) (hh : h ≤ h') : Ex o h' c d := fun τ N k t fr h1 h2 h3 h4 h5 h6 => g τ N k t fr h1 h2 h3 h4 h5 (by omega)
theorem lt_tab : ∀ q, q < 6 → ¬ ((-1 : Int32) - nI q < -(Int32.ofNat 6)) ∧ ((-1 : Int32) - nI q < (0 : Int32)) ∧ (-1 : Int32) - ((-1 : Int32) - nI q) = nI q := by decide
theorem ln429 : ln 429 = 6 := by decide +kernel
theorem Ex_let {o q h : Nat} (ho : 429 < o) (hq : q < 6) (hh : 1 ≤ h) : Ex o h [(-1 : Int32) - nI q] (fun l => l q) := by
  intro τ N k t fr hN h2 h3 h4 h5 h6
  have h4 : k + 1 ≤ N := h4
  have hk : mI τ (o + 1) k = (-1 : Int32) - nI q := h3 0 (by show 0 < 1; omega)
  obtain ⟨t1, t2, t3⟩ := lt_tab q hq
  refine ⟨sI τ (o + 2) t (mI τ 429 q), fun m => ?_, by rw [row_sI, upd_self]; exact (l6_q hq).symm, fun j hj => by rw [row_sI, upd_ne (by omega)], fun c hc => row_ne hc, rfl, rfl⟩
  refine loopF_inl ?_
  unfold f_Law_worth_L7
  dsimp only
  rw [h2, if_neg (nI_ge (by omega) (by omega)), if_pos (nI_le h5 (by omega)), if_pos (inb_nI (show k < 240 by omega) (by decide)), nI_clamp (by omega), hk, if_neg t1, if_pos (show nI t < Int32.ofNat 32 from nI_lt (b := 32) (by omega) (by omega)), if_pos t2, t3, ln429, if_pos (inb_nI hq (by decide)), if_pos (inb_nI (show t < 32 by omega) (by decide)), nI_clamp (show q < 2 ^ 31 by omega), nI_clamp (show t < 2 ^ 31 by omega), nI_1, nI_1]
  rfl
theorem nI_nm6 {n : Nat} (h : n < 2 ^ 31) : ¬ nI n < -(Int32.ofNat 6) := fun q => nI_pos h (Int32.lt_trans q (by decide))
theorem Ex_num {o n h : Nat} (ho : 429 < o) (hn : n < 10000) (hh : 1 ≤ h) : Ex o h [nI n] (fun _ => nI n) := by
  intro τ N k t fr hN h2 h3 h4 h5 h6
  have h4 : k + 1 ≤ N := h4
  have hk : mI τ (o + 1) k = nI n := h3 0 (by show 0 < 1; omega)
  refine ⟨sI τ (o + 2) t (nI n), fun m => ?_, by rw [row_sI, upd_self], fun j hj => by rw [row_sI, upd_ne (by omega)], fun c hc => row_ne hc, rfl, rfl⟩
  refine loopF_inl ?_
  unfold f_Law_worth_L7
  dsimp only
  rw [h2, if_neg (nI_ge (by omega) (by omega)), if_pos (nI_le h5 (by omega)), if_pos (inb_nI (show k < 240 by omega) (by decide)), nI_clamp (by omega), hk, if_neg (nI_nm6 (by omega)), if_pos (show nI t < Int32.ofNat 32 from nI_lt (b := 32) (by omega) (by omega)), if_neg (nI_pos (by omega)), if_pos (inb_nI (show t < 32 by omega) (by decide)), nI_clamp (show t < 2 ^ 31 by omega), nI_1, nI_1]
  rfl
def isOp (s : Nat) : Bool := decide (s = 38) || decide (s = 42) || decide (s = 43) || decide (s = 45) || decide (s = 47) || decide (s = 60) || decide (s = 61) || decide (s = 62) || decide (s = 124)
theorem op_tab : ∀ s, s < 256 → isOp s = true → (-(nI s) < -(Int32.ofNat 6)) ∧ ¬ (-(nI s) = (-59 : Int32)) ∧ ¬ (-(nI s) = (-63 : Int32)) ∧ ¬ (-(nI s) = (-33 : Int32)) ∧ -(-(nI s)) = nI s := by decide +kernel
theorem Ex_bin {o h1 h2 H s : Nat} {c1 c2 : List Int32} {d1 d2 : Den} (ho : 429 < o) (e1 : Ex o h1 c1 d1) (e2 : Ex o h2 c2 d2) (hs : s < 256) (hop : isOp s = true) (hh1 : h1 ≤ H) (hh2 : h2 + 1 ≤ H) (hH : 2 ≤ H) : Ex o H (c1 ++ c2 ++ [-(nI s)]) (fun l => jo s (d1 l) (d2 l)) := by
  intro τ N k t fr hN g2 g3 g4 g5 g6
  obtain ⟨r12, r3⟩ := Rcd_app g3
  obtain ⟨r1, r2⟩ := Rcd_app r12
  have len : (c1 ++ c2 ++ [-(nI s)]).length = c1.length + c2.length + 1 := by rw [List.length_append, List.length_append, List.length_singleton]
  rw [len] at g4
  obtain ⟨τ1, a1, a2, a3, a4⟩ := e1 τ N k t fr hN g2 r1 (by omega) g5 (by omega)
  obtain ⟨τ2, b1, b2, b3, b4⟩ := e2 τ1 N (k + c1.length) (t + 1) fr hN (by rw [a4.1 o (by omega)]; exact g2) (by rw [a4.1 (o + 1) (by omega)]; exact r2) (by omega) (by omega) (by omega)
  have fx2 : FX (o + 2) τ τ2 := ⟨fun c hc => (b4.1 c hc).trans (a4.1 c hc), b4.2.1.trans a4.2.1, b4.2.2.trans a4.2.2⟩
  obtain ⟨t1, t2, t3, t4, t5⟩ := op_tab s hs hop
  have hk : mI τ2 (o + 1) (k + c1.length + c2.length) = -(nI s) := by
    have := r3 0 (by show 0 < 1; omega)
    rw [List.length_append, ← Nat.add_assoc] at this
    rw [fx2.1 (o + 1) (by omega)]
    exact this
  have v1 : mI τ2 (o + 2) t = d1 (l6 (mI τ 429)) := by rw [b3 t (by omega)]; exact a2
  have v2 : mI τ2 (o + 2) (t + 1) = d2 (l6 (mI τ 429)) := by rw [b2, a4.1 429 (by omega)]
  have e1' : nI (t + 1 + 1) + (-1 : Int32) = nI (t + 1) := by rw [← Int32.sub_eq_add_neg, z_sub1 (by omega)]; rfl
  have e2' : nI (t + 1) - (1 : Int32) = nI t := by rw [z_sub1 (by omega)]; rfl
  refine ⟨sI τ2 (o + 2) t (jo s (d1 (l6 (mI τ 429))) (d2 (l6 (mI τ 429)))), fun m => ?_, by rw [row_sI, upd_self], fun j hj => ?_, fun c hc => (row_ne hc).trans (fx2.1 c hc), fx2.2⟩
  · rw [len, show m + (c1.length + c2.length + 1) = (m + 1 + c2.length) + c1.length by omega, a1, b1]
    refine (loopF_inl ?_).trans (by rw [show k + (c1.length + c2.length + 1) = k + c1.length + c2.length + 1 by omega])
    unfold f_Law_worth_L7
    dsimp only
    rw [fx2.1 o (by omega), g2, if_neg (nI_ge (by omega) (by omega)), if_pos (nI_le (by omega) (by omega)), if_pos (inb_nI (show k + c1.length + c2.length < 240 by omega) (by decide)), nI_clamp (show k + c1.length + c2.length < 2 ^ 31 by omega), hk, if_pos t1, if_pos (show (1 : Int32) ≤ nI (t + 1 + 1) from nI_le (a := 1) (by omega) (by omega)), if_neg t2, if_neg t3, if_neg t4, if_neg (show ¬ nI (t + 1 + 1) < (2 : Int32) from nI_nlt (b := 2) (by omega) (by omega)), e1', e2', if_pos (inb_nI (show t < 32 by omega) (by decide)), if_pos (inb_nI (show t + 1 < 32 by omega) (by decide)), nI_clamp (show t < 2 ^ 31 by omega), nI_clamp (show t + 1 < 2 ^ 31 by omega), t5, v1, v2, Law_joined _ _ _ _ _ hs, Option.bind_some, nI_1]
  · rw [row_sI, upd_ne (by omega), b3 j (by omega), a3 j hj]
theorem Ex_not {o h : Nat} {c : List Int32} {d : Den} (ho : 429 < o) (hh : 1 ≤ h) (e : Ex o h c d) : Ex o h (c ++ [-(nI 33)]) (fun l => (1 : Int32) - d l) := by
  intro τ N k t fr hN g2 g3 g4 g5 g6
  obtain ⟨r1, r3⟩ := Rcd_app g3
  have len : (c ++ [-(nI 33)]).length = c.length + 1 := by rw [List.length_append, List.length_singleton]
  rw [len] at g4
  obtain ⟨τ1, a1, a2, a3, a4⟩ := e τ N k t fr hN g2 r1 (by omega) g5 g6
  have hk : mI τ1 (o + 1) (k + c.length) = -(nI 33) := by
    have := r3 0 (by show 0 < 1; omega)
    rw [a4.1 (o + 1) (by omega)]
    exact this
  have e2' : nI (t + 1) - (1 : Int32) = nI t := by rw [z_sub1 (by omega)]; rfl
  refine ⟨sI τ1 (o + 2) t ((1 : Int32) - d (l6 (mI τ 429))), fun m => ?_, by rw [row_sI, upd_self], fun j hj => ?_, fun c hc => (row_ne hc).trans (a4.1 c hc), a4.2⟩
  · rw [len, show m + (c.length + 1) = (m + 1) + c.length by omega, a1]
    refine (loopF_inl ?_).trans (by rw [show k + (c.length + 1) = k + c.length + 1 by omega])
    unfold f_Law_worth_L7
    dsimp only
    rw [a4.1 o (by omega), g2, if_neg (nI_ge (by omega) (by omega)), if_pos (nI_le (by omega) (by omega)), if_pos (inb_nI (show k + c.length < 240 by omega) (by decide)), nI_clamp (show k + c.length < 2 ^ 31 by omega), hk, if_pos (show -(nI 33) < -(Int32.ofNat 6) by decide), if_pos (show (1 : Int32) ≤ nI (t + 1) from nI_le (a := 1) (by omega) (by omega)), if_neg (show ¬ -(nI 33) = (-59 : Int32) by decide), if_neg (show ¬ -(nI 33) = (-63 : Int32) by decide), if_pos (show -(nI 33) = (-33 : Int32) from rfl), e2', if_pos (inb_nI (show t < 32 by omega) (by decide)), nI_clamp (show t < 2 ^ 31 by omega), a2, nI_1]
  · rw [row_sI, upd_ne (by omega), a3 j hj]
/-! every reader's steps -/
def ExP (o h : Nat) (P : Nat → Res) : Prop := ∀ i r, (P i).2 = some r → Ex o h r.1 r.2
theorem chF_ex {X : Tx} {L o a : Nat} {op : Nat → Bool} {P : Nat → Res} (hx : okX X L) (ho : 429 < o) (ha : 1 ≤ a) (hop : ∀ s, op s = true → isOp s = true) (hP : ExP o a P) : ∀ n c d i, Ex o (a + 1) c d → ∀ r, (chF X L op P n c d i).2 = some r → Ex o (a + 1) r.1 r.2 := by
  intro n
  induction n with
  | zero => intro c d i _ r p; cases p
  | succ n ih =>
    intro c d i e r p
    unfold chF at p
    cases q : op (sg X L (sk X L i)) with
    | false => rw [q, if_neg (by decide)] at p; cases p; exact e
    | true =>
      rw [q, if_pos rfl] at p
      cases h : (P (sk X L i + 1)).2 with
      | none => rw [h] at p; cases p
      | some x =>
        rw [h] at p
        exact ih _ _ _ (Ex_bin ho e (hP _ x h) (sg_256 hx) (hop _ q) (Nat.le_refl _) (Nat.le_refl _) (by omega)) r p
theorem chP_ex {X : Tx} {L o a : Nat} {op : Nat → Bool} {P : Nat → Res} (hx : okX X L) (ho : 429 < o) (ha : 1 ≤ a) (hop : ∀ s, op s = true → isOp s = true) (hP : ExP o a P) : ExP o (a + 1) (chP X L op P) := by
  intro i r p
  unfold chP at p
  cases h : (P i).2 with
  | none => rw [h] at p; cases p
  | some x =>
    rw [h] at p
    exact chF_ex hx ho ha hop hP 240 x.1 x.2 _ ((hP i x h).mono (by omega)) r p
theorem opT_op {s : Nat} (h : opT s = true) : isOp s = true := by
  unfold opT at h
  rw [Bool.or_eq_true, decide_eq_true_eq, decide_eq_true_eq] at h
  rcases h with rfl | rfl <;> decide
theorem opS_op {s : Nat} (h : opS s = true) : isOp s = true := by
  unfold opS at h
  rw [Bool.or_eq_true, decide_eq_true_eq, decide_eq_true_eq] at h
  rcases h with rfl | rfl <;> decide
theorem opA_op {s : Nat} (h : opA s = true) : isOp s = true := by
  unfold opA at h
  rw [decide_eq_true_eq] at h
  subst h; decide
theorem opO_op {s : Nat} (h : opO s = true) : isOp s = true := by
  unfold opO at h
  rw [decide_eq_true_eq] at h
  subst h; decide
theorem isC_op {s : Nat} (h : isC s = true) : isOp s = true := by
  rcases (isC_0 h).2 with rfl | rfl | rfl <;> decide
theorem thn_some {X : Tx} {L c : Nat} {r : Res} {s : List Int32 × Den} (h : (thn X L c r).2 = some s) : r.2 = some s := by
  unfold thn at h
  cases h2 : r.2 with
  | none => rw [h2] at h; cases h
  | some x =>
    rw [h2] at h
    dsimp only at h
    split at h
    · exact h
    · cases h
theorem atP_ex {X : Tx} {L o a : Nat} {S : Option (Nat → Res)} (ho : 429 < o) (ha : 1 ≤ a) (hS : ∀ s, S = some s → ExP o a s) : ExP o a (atP X L S) := by
  intro i r p
  unfold atP at p
  split at p
  · cases S with
    | none => cases p
    | some s => exact hS s rfl _ r (thn_some p)
  · cases h : ltI (sg X L (sk X L i)) with
    | some q =>
      rw [h] at p
      cases p
      exact Ex_let ho (ltI_6 h).1 ha
    | none =>
      rw [h] at p
      dsimp only at p
      cases hn : (nbP X L 4 i).2 with
      | none => rw [hn] at p; cases p
      | some v =>
        rw [hn] at p
        cases p
        exact Ex_num ho (nbP_v hn) ha
theorem suP_ex {X : Tx} {L o : Nat} (hx : okX X L) (ho : 429 < o) : ∀ r, ExP o (2 * r + 3) (suP X L r) := by
  intro r
  induction r with
  | zero => exact chP_ex hx ho (by omega) (fun s => opS_op) (chP_ex hx ho (by omega) (fun s => opT_op) (atP_ex (a := 1) ho (by omega) fun s p => by cases p))
  | succ r ih => exact chP_ex hx ho (by omega) (fun s => opS_op) (chP_ex hx ho (by omega) (fun s => opT_op) (atP_ex (a := 2 * r + 3) ho (by omega) fun s p => by cases p; exact ih))
theorem cmP_ex {X : Tx} {L o : Nat} (hx : okX X L) (ho : 429 < o) (r : Nat) : ExP o (2 * r + 4) (cmP X L r) := by
  intro i s p
  unfold cmP at p
  cases h : (suP X L r i).2 with
  | none => rw [h] at p; cases p
  | some x =>
    rw [h] at p
    dsimp only at p
    unfold cmF at p
    cases q : isC (sg X L (sk X L (suP X L r i).1)) with
    | false => rw [q, if_neg (by decide)] at p; cases p
    | true =>
      rw [q, if_pos rfl] at p
      cases h2 : (suP X L r (sk X L (suP X L r i).1 + 1)).2 with
      | none => rw [h2] at p; cases p
      | some y =>
        rw [h2] at p
        cases p
        exact Ex_bin ho (suP_ex hx ho r i x h) (suP_ex hx ho r _ y h2) (sg_256 hx) (isC_op q) (by omega) (by omega) (by omega)
theorem unP_ex {X : Tx} {L o : Nat} (hx : okX X L) (ho : 429 < o) : ∀ r, ExP o (2 * r + 4) (unP X L r) := by
  intro r
  induction r with
  | zero =>
    intro i s p
    unfold unP at p
    split at p
    · cases p
    · exact cmP_ex hx ho 0 i s p
  | succ r ih =>
    intro i s p
    unfold unP at p
    split at p
    · unfold ngP at p
      cases h : (unP X L r (sk X L i + 1)).2 with
      | none => rw [h] at p; cases p
      | some x => rw [h] at p; cases p; exact Ex_not ho (by omega) ((ih _ x h).mono (by omega))
    · split at p
      · exact chP_ex hx ho (by omega) (fun s => opO_op) (chP_ex hx ho (by omega) (fun s => opA_op) ih) _ s (thn_some p)
      · exact cmP_ex hx ho (r + 1) i s p
theorem coP_ex {X : Tx} {L o : Nat} (hx : okX X L) (ho : 429 < o) (r : Nat) : ExP o (2 * r + 6) (coP X L r) := chP_ex hx ho (by omega) (fun s => opO_op) (chP_ex hx ho (by omega) (fun s => opA_op) (unP_ex hx ho r))
/-! a law whole -/
def okK (o : Nat) (k : Cl) : Prop := (∀ x, k.1 = some x → Ex o 18 x.1 x.2) ∧ Ex o 18 k.2.1 k.2.2
theorem anP_ex {X : Tx} {L o : Nat} {c : Res} (hx : okX X L) (ho : 429 < o) (hc : ∀ x, c.2 = some x → Ex o 18 x.1 x.2) : ∀ k, (anP X L c).2 = some k → okK o k := by
  intro k p
  unfold anP at p
  cases h : c.2 with
  | none => rw [h] at p; cases p
  | some x =>
    rw [h] at p
    dsimp only at p
    split at p
    · cases hs : (suP X L 6 (sk X L c.1 + 1)).2 with
      | none => rw [hs] at p; cases p
      | some y =>
        rw [hs] at p
        cases p
        exact ⟨fun z q => by cases q; exact hc x h, (suP_ex hx ho 6 _ y hs).mono (by omega)⟩
    · cases p
theorem lcP_ex {X : Tx} {L o i : Nat} (hx : okX X L) (ho : 429 < o) : ∀ k, (lcP X L i).2 = some k → okK o k := by
  intro k p
  unfold lcP at p
  split at p
  · split at p
    · unfold lbP at p
      split at p
      · exact anP_ex hx ho (fun x q => coP_ex hx ho 6 _ x q) k p
      · cases h : (suP X L 6 (sk X L (sk X L i + 1) + 1)).2 with
        | none => rw [h] at p; cases p
        | some x =>
          rw [h] at p
          dsimp only at p
          split at p
          · exact anP_ex hx ho (fun x q => coP_ex hx ho 6 _ x q) k p
          · cases p
            exact ⟨fun z q => (by cases q), (suP_ex hx ho 6 _ x h).mono (by omega)⟩
    · cases p
  · cases p
def lwC : Nat → List Cl → List Int32
  | _, [] => []
  | n, k :: ks => klC n k ++ lwC (n + (klC n k).length) ks
theorem lwC_snoc : ∀ ks n k, lwC n (ks ++ [k]) = lwC n ks ++ klC (n + (lwC n ks).length) k := by
  intro ks
  induction ks with
  | nil => intro n k; show klC n k ++ [] = [] ++ klC (n + 0) k; simp
  | cons a ks ih =>
    intro n k
    show klC n a ++ lwC (n + (klC n a).length) (ks ++ [k]) = klC n a ++ lwC (n + (klC n a).length) ks ++ klC (n + (klC n a ++ lwC (n + (klC n a).length) ks).length) k
    rw [ih, List.append_assoc, List.length_append, Nat.add_assoc]
theorem lwF_ex {X : Tx} {L o : Nat} (hx : okX X L) (ho : 429 < o) : ∀ f ks cs i, cs = lwC 0 ks → (∀ k, k ∈ ks → okK o k) → ∀ r, (lwF X L f ks cs i).2 = some r → r.2 = lwC 0 r.1 ∧ ∀ k, k ∈ r.1 → okK o k := by
  intro f
  induction f with
  | zero => intro ks cs i _ _ r p; cases p
  | succ f ih =>
    intro ks cs i hc hk r p
    unfold lwF at p
    cases h : (lcP X L i).2 with
    | none => rw [h] at p; cases p
    | some k =>
      have e : cs ++ klC cs.length k = lwC 0 (ks ++ [k]) := by rw [lwC_snoc, Nat.zero_add, hc]
      have hk' : ∀ a, a ∈ ks ++ [k] → okK o a := fun a ha => by
        rcases List.mem_append.mp ha with q | q
        · exact hk a q
        · rw [List.mem_singleton.mp q]; exact lcP_ex hx ho k h
      rw [h] at p
      dsimp only at p
      split at p
      · cases p; exact ⟨e, hk'⟩
      · split at p
        · exact ih _ _ _ e hk' r p
        · cases p
/-- what a law comes to -/
def dnL : List Cl → Den
  | [] => fun _ => 0
  | k :: ks => match k.1 with
    | none => k.2.2
    | some x => fun l => if x.2 l = 0 then dnL ks l else k.2.2 l
theorem skip_x {o N : Nat} {τ : Mem} {t : Int32} (hN : N ≤ 240) (h2 : mI τ o 2 = nI N) : ∀ j k fr, k + j = fr → fr ≤ N → ∀ m, loopF (f_Law_worth_L7 o 429) (m + j) (τ, t, nI fr, nI k) = loopF (f_Law_worth_L7 o 429) m (τ, t, nI fr, nI fr) := by
  intro j
  induction j with
  | zero => intro k fr hk _ m; rw [show k = fr by omega]; rfl
  | succ j ih =>
    intro k fr hk hf m
    rw [show m + (j + 1) = (m + j) + 1 by omega]
    refine (loopF_inl ?_).trans (ih (k + 1) fr (by omega) hf m)
    unfold f_Law_worth_L7
    dsimp only
    rw [h2, if_neg (nI_ge (by omega) (by omega)), if_neg (nI_ge (by omega) (by omega)), nI_1]
theorem end_x {o N k fr : Nat} {τ : Mem} (ho : 429 < o) (hN : N ≤ 240) (h2 : mI τ o 2 = nI N) (hk : k < N) (hf : fr ≤ k) (hc : mI τ (o + 1) k = -(nI 59)) (m : Nat) : loopF (f_Law_worth_L7 o 429) (m + 1) (τ, nI 1, nI fr, nI k) = some (mI τ (o + 2) 0, τ) := by
  refine loopF_inr ?_
  unfold f_Law_worth_L7
  dsimp only
  rw [h2, if_neg (nI_ge (by omega) (by omega)), if_pos (nI_le hf (by omega)), if_pos (inb_nI (show k < 240 by omega) (by decide)), nI_clamp (by omega), hc, if_pos (show -(nI 59) < -(Int32.ofNat 6) by decide), if_pos (show (1 : Int32) ≤ nI 1 by decide), if_pos (show -(nI 59) = (-59 : Int32) from rfl), show nI 1 - (1 : Int32) = nI 0 by decide, if_pos (inb_nI (show 0 < 32 by omega) (by decide)), nI_clamp (show 0 < 2 ^ 31 by omega)]
theorem law_x {o : Nat} (ho : 429 < o) : ∀ ks n τ fr N, (∀ k, k ∈ ks → okK o k) → N ≤ 240 → N = n + (lwC n ks).length → mI τ o 2 = nI N → Rcd (mI τ (o + 1)) n (lwC n ks) → fr ≤ n → ∀ m, (lwC n ks).length < m → ∃ τ', loopF (f_Law_worth_L7 o 429) m (τ, nI 0, nI fr, nI n) = some (dnL ks (l6 (mI τ 429)), τ') ∧ FX (o + 2) τ τ' := by
  intro ks
  induction ks with
  | nil =>
    intro n τ fr N _ hN hn h2 _ _ m hm
    obtain ⟨m, rfl⟩ : ∃ k, m = k + 1 := ⟨m - 1, by omega⟩
    have hn : N = n + 0 := hn
    refine ⟨τ, loopF_inr ?_, fun _ _ => rfl, rfl, rfl⟩
    unfold f_Law_worth_L7
    dsimp only
    rw [h2, if_pos (nI_le (by omega) (by omega))]
    rfl
  | cons k ks ih =>
    intro n τ fr N hk hN hn h2 hr hf m hm
    have hk0 := hk k (List.mem_cons_self ..)
    have hn : N = n + (klC n k ++ lwC (n + (klC n k).length) ks).length := hn
    have hm : (klC n k ++ lwC (n + (klC n k).length) ks).length < m := hm
    have hr : Rcd (mI τ (o + 1)) n (klC n k ++ lwC (n + (klC n k).length) ks) := hr
    rw [List.length_append] at hn hm
    obtain ⟨r1, r2⟩ := Rcd_app hr
    obtain ⟨kc, y⟩ := k
    obtain ⟨e1, e2⟩ := hk0
    have ey : Ex o 18 y.1 y.2 := e2
    clear e2
    cases kc with
    | none =>
      have r1 : Rcd (mI τ (o + 1)) n (y.1 ++ [-(nI 59)]) := r1
      have ln : (klC n (none, y)).length = y.1.length + 1 := by show (y.1 ++ [-(nI 59)]).length = _; rw [List.length_append, List.length_singleton]
      obtain ⟨s1, s2⟩ := Rcd_app r1
      obtain ⟨τ1, a1, a2, a3, a4⟩ := ey τ N n 0 fr hN h2 s1 (by omega) hf (by omega)
      obtain ⟨m, rfl⟩ : ∃ j, m = j + 1 + y.1.length := ⟨m - 1 - y.1.length, by omega⟩
      refine ⟨τ1, ?_, a4⟩
      rw [a1 (m + 1), end_x ho hN (by rw [a4.1 o (by omega)]; exact h2) (by omega) (by omega) (by rw [a4.1 (o + 1) (by omega)]; exact s2 0 (by show 0 < 1; omega)), a2]
      rfl
    | some x =>
      have e1 := e1 x rfl
      have ekc : klC n (some x, y) = x.1 ++ [-(nI 63)] ++ [nI (n + x.1.length + 2 + y.1.length + 1)] ++ y.1 ++ [-(nI 59)] := rfl
      have ln : (klC n (some x, y)).length = x.1.length + 2 + y.1.length + 1 := by rw [ekc]; simp only [List.length_append, List.length_singleton]
      rw [ekc] at r1
      obtain ⟨s4, s5⟩ := Rcd_app r1
      obtain ⟨s3, s4⟩ := Rcd_app s4
      obtain ⟨s2, s3⟩ := Rcd_app s3
      obtain ⟨s1, s2⟩ := Rcd_app s2
      simp only [List.length_append, List.length_singleton] at s3 s4 s5
      obtain ⟨τ1, a1, a2, a3, a4⟩ := e1 τ N n 0 fr hN h2 s1 (by omega) hf (by omega)
      have h2' : mI τ1 o 2 = nI N := by rw [a4.1 o (by omega)]; exact h2
      have q63 : mI τ1 (o + 1) (n + x.1.length) = -(nI 63) := by rw [a4.1 (o + 1) (by omega)]; exact s2 0 (by show 0 < 1; omega)
      have qpl : mI τ1 (o + 1) (n + x.1.length + 1) = nI (n + x.1.length + 2 + y.1.length + 1) := by
        rw [a4.1 (o + 1) (by omega)]
        have := s3 0 (by show 0 < 1; omega)
        rw [show n + (x.1.length + 1) + 0 = n + x.1.length + 1 by omega] at this
        exact this
      have e0 : nI (0 + 1) + (-1 : Int32) = nI 0 := by decide
      have c2 : nI (n + x.1.length) + (2 : Int32) = nI (n + x.1.length + 2) := by rw [show (2 : Int32) = nI 2 from rfl, nI_add]
      have stq : f_Law_worth_L7 o 429 (τ1, nI (0 + 1), nI fr, nI (n + x.1.length)) = some (.inl (τ1, nI 0, if x.2 (l6 (mI τ 429)) = 0 then nI (n + x.1.length + 2 + y.1.length + 1) else nI (n + x.1.length + 2), nI (n + x.1.length + 1))) := by
        unfold f_Law_worth_L7
        dsimp only
        rw [h2', if_neg (nI_ge (by omega) (by omega)), if_pos (nI_le (by omega) (by omega)), if_pos (inb_nI (show n + x.1.length < 240 by omega) (by decide)), nI_clamp (show n + x.1.length < 2 ^ 31 by omega), q63, if_pos (show -(nI 63) < -(Int32.ofNat 6) by decide), if_pos (show (1 : Int32) ≤ nI (0 + 1) by decide), if_neg (show ¬ -(nI 63) = (-59 : Int32) by decide), if_pos (show -(nI 63) = (-63 : Int32) from rfl), e0, if_pos (inb_nI (show 0 < 32 by omega) (by decide)), nI_clamp (show 0 < 2 ^ 31 by omega), a2, nI_1, c2, if_neg (show ¬ nI N ≤ nI (n + x.1.length + 1) from nI_ge (by omega) (by omega)), if_pos (inb_nI (show n + x.1.length + 1 < 240 by omega) (by decide)), nI_clamp (show n + x.1.length + 1 < 2 ^ 31 by omega), qpl]
        split <;> rfl
      obtain ⟨m, rfl⟩ : ∃ j, m = j + 1 + x.1.length := ⟨m - 1 - x.1.length, by omega⟩
      by_cases qz : x.2 (l6 (mI τ 429)) = 0
      · rw [if_pos qz] at stq
        obtain ⟨m, rfl⟩ : ∃ j, m = j + (1 + y.1.length + 1) := ⟨m - (1 + y.1.length + 1), by omega⟩
        have en : n + (klC n (some x, y)).length = n + x.1.length + 2 + y.1.length + 1 := by omega
        obtain ⟨τ', b1, b2⟩ := ih (n + x.1.length + 2 + y.1.length + 1) τ1 (n + x.1.length + 2 + y.1.length + 1) N (fun a ha => hk a (List.mem_cons_of_mem _ ha)) hN (by rw [← en]; omega) h2' (by rw [a4.1 (o + 1) (by omega), ← en]; exact r2) (Nat.le_refl _) m (by rw [← en]; omega)
        refine ⟨τ', ?_, fun c hc => (b2.1 c hc).trans (a4.1 c hc), b2.2.1.trans a4.2.1, b2.2.2.trans a4.2.2⟩
        rw [a1, loopF_inl stq, skip_x hN h2' (1 + y.1.length + 1) (n + x.1.length + 1) (n + x.1.length + 2 + y.1.length + 1) (by omega) (by omega), b1, a4.1 429 (by omega)]
        show _ = some (if x.2 (l6 (mI τ 429)) = 0 then dnL ks (l6 (mI τ 429)) else y.2 (l6 (mI τ 429)), τ')
        rw [if_pos qz]
      · rw [if_neg qz] at stq
        obtain ⟨m, rfl⟩ : ∃ j, m = (j + 1 + y.1.length) + 1 := ⟨m - 2 - y.1.length, by omega⟩
        obtain ⟨τ2, b1, b2, b3, b4⟩ := ey τ1 N (n + x.1.length + 2) 0 (n + x.1.length + 2) hN h2' (by
          rw [a4.1 (o + 1) (by omega)]
          rw [show n + (x.1.length + 1 + 1) = n + x.1.length + 2 by omega] at s4
          exact s4) (by omega) (Nat.le_refl _) (by omega)
        refine ⟨τ2, ?_, fun c hc => (b4.1 c hc).trans (a4.1 c hc), b4.2.1.trans a4.2.1, b4.2.2.trans a4.2.2⟩
        rw [a1, loopF_inl stq, skip_x hN h2' 1 (n + x.1.length + 1) (n + x.1.length + 2) (by omega) (by omega), b1 (m + 1), end_x ho hN (by rw [b4.1 o (by omega)]; exact h2') (by omega) (by omega) (by
          rw [b4.1 (o + 1) (by omega), a4.1 (o + 1) (by omega)]
          have := s5 0 (by show 0 < 1; omega)
          rw [show n + (x.1.length + 1 + 1 + y.1.length) + 0 = n + x.1.length + 2 + y.1.length by omega] at this
          exact this), b2, a4.1 429 (by omega)]
        show _ = some (if x.2 (l6 (mI τ 429)) = 0 then dnL ks (l6 (mI τ 429)) else y.2 (l6 (mI τ 429)), τ2)
        rw [if_neg qz]
theorem Law_worth {o : Nat} {ks : List Cl} {τ : Mem} (ho : 429 < o) (hk : ∀ k, k ∈ ks → okK o k) (hl : (lwC 0 ks).length ≤ 240) (h2 : mI τ o 2 = nI (lwC 0 ks).length) (hr : RowIs (mI τ (o + 1)) (lwC 0 ks)) : ∃ τ', f_Law_worth τ o 429 = some (dnL ks (l6 (mI τ 429)), τ') ∧ FX (o + 2) τ τ' := by
  refine law_x ho ks 0 τ 0 (lwC 0 ks).length hk hl (by omega) h2 (fun j hj => by rw [Nat.zero_add]; exact hr j hj) (Nat.le_refl _) FU (by unfold FU; omega)
