/-! seek: the reference -/
theorem try_num {σ : Mem} {p : List Nat} {T : Nat} {x1 y2 : Int32} (hp : OrS (mI σ 584) p T) (hk : mI σ 565 47 = nI p.length) (h4 : p.length ≤ 4) : ∀ d i r, i + d = p.length → ∀ m, d < m → loopF (f_Model_triesOrder_L7 σ x1 y2) m (nI r, nI i) = some (nI ((p.drop i).foldl (fun r t => r * 10 + t) r)) := by
  intro d
  induction d with
  | zero =>
    intro i r hi m hm
    obtain ⟨m, rfl⟩ : ∃ k, m = k + 1 := ⟨m - 1, by omega⟩
    refine loopF_inr ?_
    unfold f_Model_triesOrder_L7
    dsimp only
    rw [hk, if_pos (nI_le (by omega) (by omega)), show i = p.length by omega, List.drop_length]
    rfl
  | succ d ih =>
    intro i r hi m hm
    obtain ⟨m, rfl⟩ : ∃ k, m = k + 1 := ⟨m - 1, by omega⟩
    rw [drop_at (show i < p.length by omega), List.foldl_cons]
    refine (loopF_inl (b := (nI (r * 10 + p.getD i 0), nI (i + 1))) ?_).trans (ih (i + 1) _ (by omega) m (by omega))
    unfold f_Model_triesOrder_L7
    dsimp only
    rw [hk, if_neg (nI_ge (by omega) (by omega)), if_pos (inb_nI (show i < 4 by omega) (by decide)), nI_clamp (by omega), (hp i (by omega)).1, show (10 : Int32) = nI 10 from rfl, pk_mul, nI_add, nI_1, Nat.mul_comm 10 r]
theorem try_wo {A : Gh} {σ : Mem} {p : List Nat} {b : Nat} {y3 : Int32} (hA : gOk A) (hc : hasC A) (hM : MRel σ A) (hp : OrS (mI σ 584) p (cT (gK A))) (h4 : p.length ≤ 4) (hb : b < cB (gK A)) : ∀ i, i ≤ p.length → ∀ τ, MX 569 σ τ → iA A τ → ∀ m, i < m → ∃ τ', loopF (f_Model_triesOrder_L43 (nI b) y3) m (τ, woS (gK A) (gW A) b (p.drop i), nI i - (1 : Int32)) = some (τ', woS (gK A) (gW A) b p) ∧ MX 569 σ τ' ∧ iA A τ' := by
  have t8 := hA.T8
  have b6 := hA.B6
  intro i
  induction i with
  | zero =>
    intro _ τ hx hi m hm
    obtain ⟨m, rfl⟩ : ∃ k, m = k + 1 := ⟨m - 1, by omega⟩
    refine ⟨τ, loopF_inr ?_, hx, hi⟩
    unfold f_Model_triesOrder_L43
    dsimp only
    rw [if_pos (by decide), List.drop_zero]
  | succ i ih =>
    intro hi τ hx hj m hm
    obtain ⟨m, rfl⟩ : ∃ k, m = k + 1 := ⟨m - 1, by omega⟩
    obtain ⟨o1, o2⟩ := hp i (by omega)
    have hM1 := hM.scr hA (SM_mx (Or.inr rfl) hx hj.1)
    obtain ⟨τ2, g1, g2, g3⟩ := Model_likingOf (a := 578) (N := 10000) hA.I hc.2.2.1 hM1.k (Or.inl rfl) hj (by rw [hM1.w]; exact hc.2.2.2.1.1) (by omega) hb o2
    rw [hM1.w] at g1
    have hx2 : MX 569 σ τ2 := hx.trans g2
    have hM2 := hM.scr hA (SM_mx (Or.inr rfl) hx2 g3.1)
    have hd := Model_dueFor (σ := τ2) (a := 578) (b := b) (t := p.getD i 0) (by decide +kernel) (by omega) (by omega)
    rw [hM2.k.2.2.2.1, hM2.k.2.2.2.2.1, hM2.w] at hd
    obtain ⟨τ', k1, k2, k3⟩ := ih (by omega) τ2 hx2 g3 m (by omega)
    refine ⟨τ', ?_, k2, k3⟩
    refine (loopF_inl (b := (τ2, woS (gK A) (gW A) b (p.drop i), nI i - (1 : Int32))) ?_).trans k1
    rw [z_sub1 (by omega), Nat.add_sub_cancel]
    unfold f_Model_triesOrder_L43
    dsimp only
    rw [if_neg (nI_pos (by omega)), if_pos (inb_nI (show i < 4 by omega) (by decide)), nI_clamp (by omega), hx.1 584 (by omega) (by omega) (by omega) (by omega) (by omega), o1, Model_weightOf hM1.k o2 t8, Option.bind_some, g1, Option.bind_some]
    dsimp only
    rw [hd, Option.bind_some, drop_at (show i < p.length by omega), Int32.sub_eq_add_neg (nI i)]
    rfl
def BwM (σ : Mem) (b : Bw) : Prop := mI σ 565 48 = b.1 ∧ mI σ 565 49 = nI b.2 ∧ b.2 < 2 ^ 31
def GX (A : Gh) (k : Nat) (σ σ' : Mem) : Prop := SM (gL A).1 (gL A).2.1 σ σ' ∧ (∀ i, i < k → mI σ' 584 i = mI σ 584 i) ∧ mI σ' 565 47 = mI σ 565 47
theorem GX.refl {A : Gh} {k : Nat} {σ : Mem} (h : MRel σ A) : GX A k σ σ := ⟨SM.refl h.t, fun _ _ => rfl, rfl⟩
theorem GX.trans {A : Gh} {k : Nat} {σ σ1 σ2 : Mem} (h : GX A k σ σ1) (g : GX A k σ1 σ2) : GX A k σ σ2 := ⟨h.1.trans g.1, fun i hi => (g.2.1 i hi).trans (h.2.1 i hi), g.2.2.trans h.2.2⟩
/-- trying an order, whatever was the best -/
theorem try_one {A : Gh} {σ : Mem} {p : List Nat} {b : Nat} (hA : gOk A) (hc : hasC A) (hM : MRel σ A) (hp : OrS (mI σ 584) p (cT (gK A))) (hk : mI σ 565 47 = nI p.length) (h4 : p.length ≤ 4) (hb : b < cB (gK A)) : ∃ τ, GX A p.length σ τ ∧ mI τ 565 48 = mI σ 565 48 ∧ mI τ 565 49 = mI σ 565 49 ∧ f_Model_triesOrder σ (nI b) = if mI τ 565 49 = (-1 : Int32) then some (sI (sI τ 565 48 (woS (gK A) (gW A) b p)) 565 49 (nI (nuS p))) else if woS (gK A) (gW A) b p < mI τ 565 48 then some τ else if woS (gK A) (gW A) b p = mI τ 565 48 then if nI (nuS p) ≤ mI τ 565 49 then some (sI (sI τ 565 48 (woS (gK A) (gW A) b p)) 565 49 (nI (nuS p))) else some τ else some (sI (sI τ 565 48 (woS (gK A) (gW A) b p)) 565 49 (nI (nuS p))) := by
  have h1 := try_num (x1 := nI b) (y2 := 0) hp hk h4 p.length 0 1 (by omega) FU (by unfold FU; omega)
  obtain ⟨τ, k1, k2, k3⟩ := try_wo (b := b) (y3 := nI (nuS p)) hA hc hM hp h4 hb p.length (Nat.le_refl _) σ (MX.refl _ _) hM.i FU (by unfold FU; omega)
  rw [List.drop_length] at k1
  refine ⟨τ, ⟨SM_mx (Or.inr rfl) k2 k3.1, fun i _ => by rw [k2.1 584 (by omega) (by omega) (by omega) (by omega) (by omega)], k2.2.2.2 47 (by omega)⟩, k2.2.2.2 48 (by omega), k2.2.2.2 49 (by omega), ?_⟩
  unfold f_Model_triesOrder
  rw [show loopF (f_Model_triesOrder_L7 σ (nI b) 0) FU ((1 : Int32), (0 : Int32)) = some (nI (nuS p)) from h1, Option.bind_some, hk, show loopF (f_Model_triesOrder_L43 (nI b) (nI (nuS p))) FU (σ, (0 : Int32), nI p.length - (1 : Int32)) = some (τ, woS (gK A) (gW A) b p) from k1, Option.bind_some]
theorem GX_set {A : Gh} {k : Nat} {σ τ : Mem} {u v : Int32} (h : GX A k σ τ) : GX A k σ (sI (sI τ 565 48 u) 565 49 v) := by
  have m1 : SM (gL A).1 (gL A).2.1 τ (sI τ 565 48 u) := SM_sI h.1.2.2.2.2.1 (Or.inr ⟨rfl, by omega⟩)
  refine ⟨(h.1.trans m1).trans (SM_sI m1.2.2.2.2.1 (Or.inr ⟨rfl, by omega⟩)), fun i hi => ?_, ?_⟩
  · rw [row_ne (by omega), row_ne (by omega)]; exact h.2.1 i hi
  · rw [row_sI _ 565 49, upd_ne (by omega), row_sI, upd_ne (by omega)]; exact h.2.2
theorem BwM_set {τ : Mem} {u : Int32} {r : Nat} (h : r < 2 ^ 31) : BwM (sI (sI τ 565 48 u) 565 49 (nI r)) (u, r) := ⟨by rw [row_sI _ 565 49, upd_ne (by omega), row_sI, upd_self], by rw [row_sI, upd_self], h⟩
theorem try_first {A : Gh} {σ : Mem} {b : Nat} (hA : gOk A) (hc : hasC A) (hM : MRel σ A) (hk : mI σ 565 47 = nI 0) (hn : mI σ 565 49 = -1) (hb : b < cB (gK A)) : ∃ σ', f_Model_triesOrder σ (nI b) = some σ' ∧ GX A 0 σ σ' ∧ BwM σ' (0, 1) := by
  obtain ⟨τ, g1, g2, g3, g4⟩ := try_one (p := []) (b := b) hA hc hM (OrS.nil _ _) hk (by decide) hb
  rw [if_pos (g3.trans hn)] at g4
  exact ⟨_, g4, GX_set g1, BwM_set (show nuS [] < 2 ^ 31 by decide)⟩
theorem try_more {A : Gh} {σ : Mem} {p : List Nat} {b : Nat} {bb : Bw} (hA : gOk A) (hc : hasC A) (hM : MRel σ A) (hp : OrS (mI σ 584) p (cT (gK A))) (hk : mI σ 565 47 = nI p.length) (h4 : p.length ≤ 4) (hb : b < cB (gK A)) (hB : BwM σ bb) (hu : nuS p < 2 ^ 31) : ∃ σ' b', f_Model_triesOrder σ (nI b) = some σ' ∧ GX A p.length σ σ' ∧ BwM σ' b' ∧ Jn bb (fun s => s = (woS (gK A) (gW A) b p, nuS p)) b' := by
  obtain ⟨τ, g1, g2, g3, g4⟩ := try_one (p := p) (b := b) hA hc hM hp hk h4 hb
  rw [g2, g3, hB.1, hB.2.1, if_neg (nI_ne_m1 hB.2.2)] at g4
  have hT : BwM τ bb := ⟨g2.trans hB.1, g3.trans hB.2.1, hB.2.2⟩
  by_cases q : woS (gK A) (gW A) b p < bb.1
  · rw [if_pos q] at g4
    exact ⟨τ, bb, g4, g1, hT, Jn.keep (Or.inl q)⟩
  · rw [if_neg q] at g4
    by_cases q2 : woS (gK A) (gW A) b p = bb.1
    · rw [if_pos q2] at g4
      by_cases q3 : nuS p ≤ bb.2
      · rw [if_pos (nI_le q3 hB.2.2)] at g4
        exact ⟨_, _, g4, GX_set g1, BwM_set hu, Jn.set (Or.inr ⟨q2.symm, q3⟩)⟩
      · rw [if_neg (nI_ge (by omega) hu)] at g4
        exact ⟨τ, bb, g4, g1, hT, Jn.keep (Or.inr ⟨q2, by show bb.2 ≤ nuS p; omega⟩)⟩
    · rw [if_neg q2] at g4
      refine ⟨_, _, g4, GX_set g1, BwM_set hu, Jn.set (Or.inl ?_)⟩
      show bb.1 < woS (gK A) (gW A) b p
      rcases i_le (Int32.not_lt.mp q) with h | h
      · exact h
      · exact absurd h.symm q2
/-- all orders that begin with p and go on with up to m things more -/
def Tm (A : Gh) (b : Nat) (p : List Nat) (f : Nat → Bool) (m : Nat) (s : Bw) : Prop := ∃ k, k ≤ m ∧ Tn (gK A) (gW A) b p f k s
def Tk (A : Gh) (b : Nat) (p : List Nat) (f : Nat → Bool) (m i : Nat) (s : Bw) : Prop := ∃ t, t < i ∧ f t = true ∧ Tm A b (p ++ [t]) (mi f t) m s
theorem Tk_s {A : Gh} {b : Nat} {p : List Nat} {f : Nat → Bool} {m i : Nat} (s : Bw) : Tk A b p f m (i + 1) s ↔ Tk A b p f m i s ∨ (f i = true ∧ Tm A b (p ++ [i]) (mi f i) m s) := by
  constructor
  · rintro ⟨t, h1, h2, h3⟩
    by_cases e : t = i
    · subst e; exact Or.inr ⟨h2, h3⟩
    · exact Or.inl ⟨t, by omega, h2, h3⟩
  · rintro (⟨t, h1, h2, h3⟩ | ⟨h2, h3⟩)
    · exact ⟨t, by omega, h2, h3⟩
    · exact ⟨i, by omega, h2, h3⟩
theorem Tk_n {A : Gh} {b : Nat} {p : List Nat} {f : Nat → Bool} {m T : Nat} (hf : ∀ t, f t = true → t < T) (h8 : T ≤ 8) (s : Bw) : (∃ k, 1 ≤ k ∧ k ≤ m + 1 ∧ Tn (gK A) (gW A) b p f k s) ↔ Tk A b p f m T s := by
  constructor
  · rintro ⟨k, k1, k2, k3⟩
    obtain ⟨k, rfl⟩ : ∃ j, k = j + 1 := ⟨k - 1, by omega⟩
    obtain ⟨t, t1, t2, t3⟩ := (Tn_s s).mp k3
    exact ⟨t, hf t t2, t2, k, by omega, t3⟩
  · rintro ⟨t, t1, t2, k, k1, k2⟩
    exact ⟨k + 1, by omega, by omega, (Tn_s s).mpr ⟨t, by omega, t2, k2⟩⟩
theorem Tm_s {A : Gh} {b : Nat} {p : List Nat} {f : Nat → Bool} {m T : Nat} (hf : ∀ t, f t = true → t < T) (h8 : T ≤ 8) (s : Bw) : Tm A b p f (m + 1) s ↔ s = (woS (gK A) (gW A) b p, nuS p) ∨ Tk A b p f m T s := by
  rw [← Tk_n hf h8]
  constructor
  · rintro ⟨k, k1, k2⟩
    by_cases e : k = 0
    · subst e; exact Or.inl ((Tn_0 s).mp k2)
    · exact Or.inr ⟨k, by omega, k1, k2⟩
  · rintro (h | ⟨k, k1, k2, k3⟩)
    · exact ⟨0, by omega, (Tn_0 s).mpr h⟩
    · exact ⟨k, k2, k3⟩
def GOs (A : Gh) (b m : Nat) : Prop := ∀ fu p f g x σ bb, m < fu → p.length + m ≤ 4 → nuS p < 2 * 10 ^ p.length → MRel σ A → OrS (mI σ 584) p (cT (gK A)) → mI σ 565 47 = nI p.length → Bt x g → (∀ t, t < cT (gK A) → f t = (fr7 A t && !g t)) → (∀ t, f t = true → t < cT (gK A)) → BwM σ bb → ∃ σ' b', f_GO fu 0 σ (nI b) (nI m) x = some σ' ∧ BwM σ' b' ∧ Jn bb (Tm A b p f m) b' ∧ GX A p.length σ σ'
theorem pow4 {k n : Nat} (h : n < 2 * 10 ^ k) (hk : k ≤ 4) : n < 2 ^ 31 := by
  have : 10 ^ k ≤ 10 ^ 4 := Nat.pow_le_pow_right (by decide) hk
  omega
theorem GO_loop {A : Gh} {b m fu : Nat} {p : List Nat} {f g : Nat → Bool} {x : Int32} {σ : Mem} {bb : Bw} (hA : gOk A) (hG : GOs A b m) (hfu : m < fu) (h4 : p.length + (m + 1) ≤ 4) (hu : nuS p < 2 * 10 ^ p.length) (hM : MRel σ A) (hp : OrS (mI σ 584) p (cT (gK A))) (hk : mI σ 565 47 = nI p.length) (hx : Bt x g) (hfg : ∀ t, t < cT (gK A) → f t = (fr7 A t && !g t)) (hf : ∀ t, f t = true → t < cT (gK A)) (hB : BwM σ bb) : ∃ σ' b', loopF (f_Model_goOrders_L13 (f_GO fu) (nI b) (nI (m + 1)) x) FU (σ, 0) = some σ' ∧ BwM σ' b' ∧ Jn bb (Tk A b p f m (cT (gK A))) b' ∧ GX A p.length σ σ' := by
  have t8 := hA.T8
  obtain ⟨σ', g1, b', g2, g3, g4⟩ := loopF_go (step := f_Model_goOrders_L13 (f_GO fu) (nI b) (nI (m + 1)) x) (a := (σ, (0 : Int32))) (fun i s => s.2 = nI i ∧ ∃ bi, BwM s.1 bi ∧ Jn bb (Tk A b p f m i) bi ∧ GX A p.length σ s.1) (fun r => ∃ b', BwM r b' ∧ Jn bb (Tk A b p f m (cT (gK A))) b' ∧ GX A p.length σ r) (cT (gK A)) ⟨rfl, bb, hB, Jn.none (fun s ⟨t, t1, _⟩ => by omega), GX.refl hM⟩ (by omega) (by
    rintro i ⟨τ, z⟩ hi ⟨e1, bi, e2, e3, e4⟩
    simp only at e1 e2 e3 e4
    subst e1
    have hM1 := hM.scr hA e4.1
    unfold f_Model_goOrders_L13
    dsimp only
    rw [hM1.k.1]
    by_cases hlt : i < cT (gK A)
    · have no : f i = false → ∃ r, (some (Sum.inl (τ, nI i + (1 : Int32))) : Option ((Mem × Int32) ⊕ Mem)) = some r ∧ Sum.elim (fun s => i < cT (gK A) ∧ s.2 = nI (i + 1) ∧ ∃ bi, BwM s.1 bi ∧ Jn bb (Tk A b p f m (i + 1)) bi ∧ GX A p.length σ s.1) (fun r => ∃ b', BwM r b' ∧ Jn bb (Tk A b p f m (cT (gK A))) b' ∧ GX A p.length σ r) r := fun hfi =>
        exL ⟨hlt, nI_1 i, bi, e2, e3.iff fun s => by rw [Tk_s]; exact ⟨fun q => q.elim id fun r => by rw [hfi] at r; exact absurd r.1 (by decide), Or.inl⟩, e4⟩
      have fi := hfg i hlt
      rw [if_neg (nI_ge hlt (by omega)), Model_has, Option.bind_some, hx.bit (show i < 8 by omega)]
      cases hgi : g i with
      | true =>
        rw [if_pos rfl, if_pos rfl, if_neg (by decide)]
        exact no (by rw [fi, hgi, Bool.not_true, Bool.and_false])
      | false =>
        rw [if_neg (show ¬ (false = true) by decide), if_neg (show ¬ (0 : Int32) = 1 by decide), if_pos rfl, Model_isFree (Or.inl rfl) hM1.k.1 t8 hlt, Option.bind_some, hM1.w]
        by_cases q : gW A i = -1
        · have hfi : f i = true := by rw [fi, hgi]; show (decide (gW A i = -1) && _) = true; rw [decide_eq_true q]; rfl
          have len : (p ++ [i]).length = p.length + 1 := by rw [List.length_append, List.length_singleton]
          have k47 : mI τ 565 47 = nI p.length := e4.2.2.trans hk
          have m1 : SM (gL A).1 (gL A).2.1 τ (sI τ 584 p.length (nI i)) := SM_sI hM1.t (by omega)
          have m2 : SM (gL A).1 (gL A).2.1 (sI τ 584 p.length (nI i)) (sI (sI τ 584 p.length (nI i)) 565 47 (nI (p.length + 1))) := SM_sI m1.2.2.2.2.1 (Or.inr ⟨rfl, by omega⟩)
          have hM2 := (hM1.scr hA m1).scr hA m2
          obtain ⟨σ2, b2, k1, k2, k3, k4⟩ := hG fu (p ++ [i]) (mi f i) (fun t => g t || decide (t = i)) (x ||| ((1 : Int32) <<< (nI i &&& 31))) (sI (sI τ 584 p.length (nI i)) 565 47 (nI (p.length + 1))) bi hfu (by omega) (by rw [len, nuS_snoc, Nat.pow_succ]; omega) hM2 (hp.snoc (fun j hj => by rw [row_ne (by omega), row_sI, upd_ne (by omega)]; exact e4.2.1 j hj) (by rw [row_ne (by omega), row_sI, upd_self]) hlt) (by rw [row_sI, upd_self, len]) (hx.or (by omega)) (fun t ht => by unfold mi; rw [hfg t ht, Bool.not_or, Bool.and_assoc]) (fun t ht => hf t (mi_t ht)) ⟨by rw [row_sI _ 565 47, upd_ne (by omega), row_ne (by omega)]; exact e2.1, by rw [row_sI _ 565 47, upd_ne (by omega), row_ne (by omega)]; exact e2.2.1, e2.2.2⟩
          have k47' : mI σ2 565 47 = nI (p.length + 1) := by rw [k4.2.2, row_sI, upd_self]
          have m3 : SM (gL A).1 (gL A).2.1 σ2 (sI σ2 565 47 (nI p.length)) := SM_sI k4.1.2.2.2.2.1 (Or.inr ⟨rfl, by omega⟩)
          rw [if_pos q, if_neg (show ¬ (1 : Int32) = 0 by decide), k47, if_pos (inb_nI (show p.length < 4 by omega) (by decide)), nI_clamp (by omega), row_ne (show (565 : Nat) ≠ 584 by omega), k47, nI_1, z_sub1 (by omega), Nat.add_sub_cancel, k1, Option.bind_some, k47', z_sub1 (by omega), Nat.add_sub_cancel, nI_1]
          refine exL ⟨hlt, rfl, b2, ⟨?_, ?_, k2.2.2⟩, e3.comp k3 fun s => ?_, e4.trans ⟨((m1.trans m2).trans k4.1).trans m3, fun j hj => ?_, ?_⟩⟩
          · rw [row_sI, upd_ne (by omega)]; exact k2.1
          · rw [row_sI, upd_ne (by omega)]; exact k2.2.1
          · rw [Tk_s]; exact or_congr Iff.rfl ⟨fun q => q.2, fun q => ⟨hfi, q⟩⟩
          · rw [row_ne (by omega), k4.2.1 j (by omega), row_ne (by omega), row_sI, upd_ne (by omega)]
          · rw [row_sI, upd_self]; exact k47.symm
        · rw [if_neg q, if_pos rfl]
          exact no (by rw [fi]; show (decide (gW A i = -1) && _) = false; rw [decide_eq_false q]; rfl)
    · have : i = cT (gK A) := by omega
      subst this
      rw [if_pos (nI_le (Nat.le_refl _) (by omega))]
      exact exR ⟨bi, e2, e3, e4⟩)
  exact ⟨σ', b', g1, g2, g3, g4⟩
theorem GO_all {A : Gh} {b : Nat} (hA : gOk A) (hc : hasC A) (hb : b < cB (gK A)) : ∀ m, GOs A b m := by
  have t8 := hA.T8
  intro m
  induction m with
  | zero =>
    intro fu p f g x σ bb hfu h4 hu hM hp hk hx hfg hf hB
    obtain ⟨fu, rfl⟩ : ∃ k, fu = k + 1 := ⟨fu - 1, by omega⟩
    obtain ⟨σ', b', g1, g2, g3, g4⟩ := try_more (p := p) (b := b) hA hc hM hp hk (by omega) hb hB (pow4 hu (by omega))
    refine ⟨σ', b', ?_, g3, g4.iff fun s => ?_, g2⟩
    · show f_Model_goOrders (f_GO fu) σ (nI b) (nI 0) x = _
      unfold f_Model_goOrders
      rw [g1, Option.bind_some, if_pos (show nI 0 = (0 : Int32) from rfl)]
    · constructor
      · rintro ⟨k, k1, k2⟩
        have : k = 0 := by omega
        subst this
        exact (Tn_0 s).mp k2
      · intro h
        exact ⟨0, by omega, (Tn_0 s).mpr h⟩
  | succ m ih =>
    intro fu p f g x σ bb hfu h4 hu hM hp hk hx hfg hf hB
    obtain ⟨fu, rfl⟩ : ∃ k, fu = k + 1 := ⟨fu - 1, by omega⟩
    obtain ⟨σ1, b1, g1, g2, g3, g4⟩ := try_more (p := p) (b := b) hA hc hM hp hk (by omega) hb hB (pow4 hu (by omega))
    obtain ⟨σ2, b2, k1, k2, k3, k4⟩ := GO_loop hA ih (show m < fu by omega) h4 hu (hM.scr hA g2.1) (hp.fr g2.2.1) (g2.2.2.trans hk) hx hfg hf g3
    refine ⟨σ2, b2, ?_, k2, g4.comp k3 fun s => Tm_s hf t8 s, g2.trans k4⟩
    show f_Model_goOrders (f_GO fu) σ (nI b) (nI (m + 1)) x = _
    unfold f_Model_goOrders
    rw [g1, Option.bind_some, if_neg (nI_ne0 (by omega) (by omega))]
    exact k1
theorem seek_model {A : Gh} {σ : Mem} {b n : Nat} (hA : gOk A) (hc : hasC A) (hM : MRel σ A) (hb : b < cB (gK A)) (hn : n + 1 ≤ 4) : ∃ σ' bb, f_GO 8 0 (sI (sI (sI σ 565 47 (0 : Int32)) 565 49 (-1 : Int32)) 565 48 (0 : Int32)) (nI b) (nI (n + 1)) 0 = some σ' ∧ SM (gL A).1 (gL A).2.1 σ σ' ∧ BwM σ' bb ∧ Jn (0, 1) (Tw A b (n + 1)) bb := by
  have t8 := hA.T8
  have m1 : SM (gL A).1 (gL A).2.1 σ (sI σ 565 47 (0 : Int32)) := SM_sI hM.t (Or.inr ⟨rfl, by omega⟩)
  have m2 : SM (gL A).1 (gL A).2.1 (sI σ 565 47 (0 : Int32)) (sI (sI σ 565 47 (0 : Int32)) 565 49 (-1 : Int32)) := SM_sI m1.2.2.2.2.1 (Or.inr ⟨rfl, by omega⟩)
  have m3 : SM (gL A).1 (gL A).2.1 (sI (sI σ 565 47 (0 : Int32)) 565 49 (-1 : Int32)) (sI (sI (sI σ 565 47 (0 : Int32)) 565 49 (-1 : Int32)) 565 48 (0 : Int32)) := SM_sI m2.2.2.2.2.1 (Or.inr ⟨rfl, by omega⟩)
  have m4 := (m1.trans m2).trans m3
  have hM1 := hM.scr hA m4
  have k47 : mI (sI (sI (sI σ 565 47 (0 : Int32)) 565 49 (-1 : Int32)) 565 48 (0 : Int32)) 565 47 = nI 0 := by rw [row_sI _ 565 48, upd_ne (by omega), row_sI _ 565 49, upd_ne (by omega), row_sI, upd_self]; rfl
  have k49 : mI (sI (sI (sI σ 565 47 (0 : Int32)) 565 49 (-1 : Int32)) 565 48 (0 : Int32)) 565 49 = -1 := by rw [row_sI _ 565 48, upd_ne (by omega), row_sI, upd_self]
  generalize sI (sI (sI σ 565 47 (0 : Int32)) 565 49 (-1 : Int32)) 565 48 (0 : Int32) = τ at m4 hM1 k47 k49 ⊢
  obtain ⟨σ1, g1, g2, g3⟩ := try_first hA hc hM1 k47 k49 hb
  obtain ⟨σ2, b2, p1, p2, p3, p4⟩ := GO_loop (p := []) (f := frT A) (g := fun _ => false) (x := 0) (fu := 7) hA (GO_all hA hc hb n) (by omega) (by show 0 + (n + 1) ≤ 4; omega) (by decide) (hM1.scr hA g2.1) (OrS.nil _ _) (g2.2.2.trans k47) Bt.zero (fun t ht => by unfold frT; rw [decide_eq_true ht, Bool.true_and, Bool.not_false, Bool.and_true]) (fun t ht => frT_lt ht) g3
  refine ⟨σ2, b2, ?_, (m4.trans g2.1).trans p4.1, p2, p3.iff fun s => Tk_n (fun t ht => frT_lt ht) t8 s⟩
  show f_Model_goOrders (f_GO 7) τ (nI b) (nI (n + 1)) 0 = _
  unfold f_Model_goOrders
  rw [g1, Option.bind_some, if_neg (nI_ne0 (by omega) (by omega))]
  exact p1
theorem seek_both {A : Gh} {b n : Nat} (hA : gOk A) (hc : hasC A) (hb : b < cB (gK A)) (hn : n + 1 ≤ 4) : ∃ bb : Bw, (∀ σ, CRel σ A → ∃ σ', f_Bargain_seekOrders σ 6 (nI b) (nI (n + 1)) = some σ' ∧ SC (gL A).1 (gD A).1 σ σ' ∧ BwC σ' bb) ∧ ∀ σ, MRel σ A → ∃ σ', f_GO 8 0 (sI (sI (sI σ 565 47 (0 : Int32)) 565 49 (-1 : Int32)) 565 48 (0 : Int32)) (nI b) (nI (n + 1)) 0 = some σ' ∧ SM (gL A).1 (gL A).2.1 σ σ' ∧ BwM σ' bb := by
  have key : ∀ bb, Jn (0, 1) (Tw A b (n + 1)) bb → (∀ σ, CRel σ A → ∃ σ', f_Bargain_seekOrders σ 6 (nI b) (nI (n + 1)) = some σ' ∧ SC (gL A).1 (gD A).1 σ σ' ∧ BwC σ' bb) ∧ ∀ σ, MRel σ A → ∃ σ', f_GO 8 0 (sI (sI (sI σ 565 47 (0 : Int32)) 565 49 (-1 : Int32)) 565 48 (0 : Int32)) (nI b) (nI (n + 1)) 0 = some σ' ∧ SM (gL A).1 (gL A).2.1 σ σ' ∧ BwM σ' bb := fun bb hj => by
    refine ⟨fun σ hC => ?_, fun σ hM => ?_⟩
    · obtain ⟨σ', b', g1, g2, g3, g4⟩ := seek_class hA hc hC hb hn
      rw [hj.uni g4]
      exact ⟨σ', g1, g2, g3⟩
    · obtain ⟨σ', b', g1, g2, g3, g4⟩ := seek_model hA hc hM hb hn
      rw [hj.uni g4]
      exact ⟨σ', g1, g2, g3⟩
  by_cases h1 : ∃ σ, CRel σ A
  · obtain ⟨σ, hC⟩ := h1
    obtain ⟨-, bb, -, -, -, g4⟩ := seek_class hA hc hC hb hn
    exact ⟨bb, key bb g4⟩
  · by_cases h2 : ∃ σ, MRel σ A
    · obtain ⟨σ, hM⟩ := h2
      obtain ⟨-, bb, -, -, -, g4⟩ := seek_model hA hc hM hb hn
      exact ⟨bb, key bb g4⟩
    · exact ⟨(0, 1), fun σ hC => absurd ⟨σ, hC⟩ h1, fun σ hM => absurd ⟨σ, hM⟩ h2⟩
theorem sim_seek (x s e : Int32) : Sim (fun σ => f_Game_seek σ x s e) (fun σ => f_Model_seek σ x s e) := Sim.ro fun A hA => by
  have t8 := hA.T8
  have b6 := hA.B6
  have no : (∀ σ, CRel σ A → f_Game_seek σ x s e = some (-1, σ)) → (∀ σ, MRel σ A → f_Model_seek σ x s e = some (-1, sI σ 565 0 0)) → ∃ r, (∀ σ, CRel σ A → ∃ σ', (fun σ => f_Game_seek σ x s e) σ = some (r, σ') ∧ SC (gL A).1 (gD A).1 σ σ') ∧ (∀ σ, MRel σ A → ∃ σ', (fun σ => f_Model_seek σ x s e) σ = some (r, σ') ∧ SM (gL A).1 (gL A).2.1 σ σ') := fun h1 h2 =>
    ⟨-1, fun σ hC => ⟨σ, h1 σ hC, SC.refl _ _ _⟩, fun σ hM => ⟨_, h2 σ hM, SM_0 (v := 0) hM⟩⟩
  rcases isS_ty (cB (gK A)) x (by omega) with q | ⟨q, b, b1, rfl⟩
  · refine no (fun σ hC => ?_) (fun σ hM => ?_)
    · unfold f_Game_seek; rw [Trade_isBuyer hC.k, q]; rfl
    · unfold f_Model_seek; rw [Model_isBuyer (hM.z (v := 0) hA).k, q]; rfl
  · have hc := hA.city (Or.inr (by omega))
    have c0 : ∀ σ, CRel σ A → f_Game_seek σ (nI b) s e = if holdS (gW A) (cT (gK A)) (nI b) = -1 then (if s < 1 then some (-1, σ) else if (4 : Int32) < s then some (-1, σ) else if e < 0 then some (-1, σ) else if e ≤ 1 then (f_Bargain_seekOrders σ 6 (nI b) s).bind fun q9 => if e = (0 : Int32) then some (mI q9 531 4, q9) else some (mI q9 531 5, q9) else some (-1, σ)) else some (-1, σ) := fun σ hC => by
      unfold f_Game_seek
      have h11 : mI σ 11 b = holdS (gW A) (cT (gK A)) (nI b) := (hC.n hc).1.2.2.1 b (by omega)
      rw [Trade_isBuyer hC.k, q, Option.bind_some, if_neg (by decide), if_pos (inb_nI (show b < 6 by omega) (by decide)), nI_clamp (by omega), h11]
    have m0 : ∀ σ, MRel σ A → f_Model_seek σ (nI b) s e = if holdS (gW A) (cT (gK A)) (nI b) = -1 then (if isR 1 4 s = 0 then some (-1, sI σ 565 0 0) else if isR 0 1 e = 0 then some (-1, sI σ 565 0 0) else (f_GO 8 0 (sI (sI (sI (sI σ 565 0 0) 565 47 (0 : Int32)) 565 49 (-1 : Int32)) 565 48 (0 : Int32)) (nI b) s 0).bind fun q9 => if e = (0 : Int32) then some (mI q9 565 48, q9) else some (mI q9 565 49, q9)) else some (-1, sI σ 565 0 0) := fun σ hM => by
      have hz := hM.z (v := 0) hA
      unfold f_Model_seek
      rw [Model_isBuyer hz.k, q, Option.bind_some, if_neg (by decide), Model_holds (by decide +kernel) hz.k.1 t8, Option.bind_some, hz.w, show (4 : Int64) = lN 4 from rfl, show (1 : Int64) = lN 1 from rfl, show (0 : Int64) = lN 0 from rfl, Model_isInR (by omega) (by omega), Option.bind_some, Model_isInR (by omega) (by omega), Option.bind_some]
    by_cases qh : holdS (gW A) (cT (gK A)) (nI b) = -1
    · have c1 : ∀ σ, CRel σ A → f_Game_seek σ (nI b) s e = _ := fun σ hC => (c0 σ hC).trans (if_pos qh)
      have m1 : ∀ σ, MRel σ A → f_Model_seek σ (nI b) s e = _ := fun σ hM => (m0 σ hM).trans (if_pos qh)
      rcases rng1 4 s (by omega) (by omega) with ⟨q1, q2⟩ | ⟨q1, q2, q3⟩ | ⟨q1, n, n0, n2, rfl⟩
      · exact no (fun σ hC => by rw [c1 σ hC, if_pos q1]) (fun σ hM => by rw [m1 σ hM, if_pos q2])
      · exact no (fun σ hC => by rw [c1 σ hC, if_neg q1, if_pos (show (4 : Int32) < s from q2)]) (fun σ hM => by rw [m1 σ hM, if_pos q3])
      have a1 : ¬ nI n < (1 : Int32) := nI_nlt (b := 1) (by omega) (by omega)
      have a2 : ¬ (4 : Int32) < nI n := nI_nlt (a := 4) n2 (by omega)
      have a3 : ¬ isR 1 4 (nI n) = 0 := by rw [q1]; decide
      rcases rng0 1 e (by omega) with ⟨q1, q2⟩ | ⟨q1, q2, q3⟩ | ⟨q1, k, k2, rfl⟩
      · exact no (fun σ hC => by rw [c1 σ hC, if_neg a1, if_neg a2, if_pos q1]) (fun σ hM => by rw [m1 σ hM, if_neg a3, if_pos q2])
      · exact no (fun σ hC => by rw [c1 σ hC, if_neg a1, if_neg a2, if_neg q1, if_neg (show ¬ e ≤ (1 : Int32) from Int32.not_le.mpr q2)]) (fun σ hM => by rw [m1 σ hM, if_neg a3, if_pos q3])
      have a7 : ¬ nI k < (0 : Int32) := nI_nlt (b := 0) (by omega) (by omega)
      have a8 : nI k ≤ (1 : Int32) := nI_le (b := 1) k2 (by omega)
      have a9 : ¬ isR 0 1 (nI k) = 0 := by rw [q1]; decide
      obtain ⟨n, rfl⟩ : ∃ j, n = j + 1 := ⟨n - 1, by omega⟩
      obtain ⟨bb, f1, f2⟩ := seek_both hA hc b1 n2
      refine ⟨if nI k = (0 : Int32) then bb.1 else nI bb.2, fun σ hC => ?_, fun σ hM => ?_⟩
      · obtain ⟨σ', g1, g2, g3⟩ := f1 σ hC
        refine ⟨σ', ?_, g2⟩
        show f_Game_seek σ (nI b) (nI (n + 1)) (nI k) = _
        rw [c1 σ hC, if_neg a1, if_neg a2, if_neg a7, if_pos a8, g1, Option.bind_some, g3.1, g3.2]
        split <;> rfl
      · have hz := hM.z (v := 0) hA
        obtain ⟨σ', g1, g2, g3⟩ := f2 _ hz
        refine ⟨σ', ?_, (SM_0 (v := 0) hM).trans g2⟩
        show f_Model_seek σ (nI b) (nI (n + 1)) (nI k) = _
        rw [m1 σ hM, if_neg a3, if_neg a9, g1, Option.bind_some, g3.1, g3.2.1]
        split <;> rfl
    · exact no (fun σ hC => by rw [c0 σ hC, if_neg qh]) (fun σ hM => by rw [m0 σ hM, if_neg qh])
