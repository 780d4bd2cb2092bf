/-! seek: the class -/
def CtS (σ : Mem) (K : Cy) (w : Rw) (b n : Nat) : Prop := ∀ t, t < n → mI σ 532 t = chS K t ∧ mI σ 533 t = lkS K w b t ∧ mI σ 534 t = duS K w b t
theorem CtS.fr {σ σ' : Mem} {K : Cy} {w : Rw} {b n : Nat} (h : CtS σ K w b n) (g : ∀ a, (a = 532 ∨ a = 533 ∨ a = 534) → mI σ' a = mI σ a) : CtS σ' K w b n := fun t ht => by
  rw [g 532 (by omega), g 533 (by omega), g 534 (by omega)]
  exact h t ht
def BX (k : Nat) (σ σ' : Mem) : Prop := (∀ a, a ≠ 531 → a ≠ 535 → mI σ' a = mI σ a) ∧ (∀ i, i < k → mI σ' 535 i = mI σ 535 i) ∧ mL σ' = mL σ ∧ mR σ' = mR σ
theorem BX.refl (k : Nat) (σ : Mem) : BX k σ σ := ⟨fun _ _ _ => rfl, fun _ _ => rfl, rfl, rfl⟩
theorem BX.trans {k : Nat} {σ σ1 σ2 : Mem} (h : BX k σ σ1) (g : BX k σ1 σ2) : BX k σ σ2 := ⟨fun a h1 h2 => (g.1 a h1 h2).trans (h.1 a h1 h2), fun i hi => (g.2.1 i hi).trans (h.2.1 i hi), g.2.2.1.trans h.2.2.1, g.2.2.2.trans h.2.2.2⟩
theorem BX.dn {k j : Nat} {σ σ1 : Mem} (h : BX k σ σ1) (hj : j ≤ k) : BX j σ σ1 := ⟨h.1, fun i hi => h.2.1 i (by omega), h.2.2⟩
def BwC (σ : Mem) (b : Bw) : Prop := mI σ 531 4 = b.1 ∧ mI σ 531 5 = nI b.2
theorem weigh_go {K : Cy} {w : Rw} {b : Nat} {σ : Mem} {p : List Nat} {x1 x2 : Int32} (h8 : cT K ≤ 8) (hc : CtS σ K w b (cT K)) (hp : OrS (mI σ 535) p (cT K)) (h4 : p.length ≤ 4) : ∀ i, i ≤ p.length → ∀ m, i < m → loopF (f_Bargain_weigh_L7 σ x1 x2) m (woS K w b (p.drop i), nI i - (1 : Int32)) = some (woS K w b p) := by
  intro i
  induction i with
  | zero =>
    intro _ m hm
    obtain ⟨m, rfl⟩ : ∃ k, m = k + 1 := ⟨m - 1, by omega⟩
    refine loopF_inr ?_
    unfold f_Bargain_weigh_L7
    dsimp only
    rw [if_pos (by decide), List.drop_zero]
  | succ i ih =>
    intro hi m hm
    obtain ⟨m, rfl⟩ : ∃ k, m = k + 1 := ⟨m - 1, by omega⟩
    obtain ⟨o1, o2⟩ := hp i (by omega)
    obtain ⟨c1, c2, c3⟩ := hc _ o2
    refine (loopF_inl (b := (woS K w b (p.drop i), nI i - (1 : Int32))) ?_).trans (ih (by omega) m (by omega))
    rw [z_sub1 (by omega), Nat.add_sub_cancel]
    unfold f_Bargain_weigh_L7
    dsimp only
    rw [if_neg (nI_pos (by omega)), if_pos (inb_nI (show i < 4 by omega) (by decide)), nI_clamp (by omega), o1, if_pos (inb_nI (show p.getD i 0 < 8 by omega) (by decide)), nI_clamp (show p.getD i 0 < 2 ^ 31 by omega), c1, c2, c3, drop_at (show i < p.length by omega), Int32.sub_eq_add_neg (nI i)]
    rfl
theorem Bargain_weigh {K : Cy} {w : Rw} {b : Nat} {σ : Mem} {p : List Nat} {x2 : Int32} (h8 : cT K ≤ 8) (hc : CtS σ K w b (cT K)) (hp : OrS (mI σ 535) p (cT K)) (h4 : p.length ≤ 4) : f_Bargain_weigh σ (nI p.length) x2 = if woS K w b p ≤ mI σ 531 4 then some σ else some (sI (sI σ 531 4 (woS K w b p)) 531 5 x2) := by
  have h := weigh_go (x1 := nI p.length) (x2 := x2) h8 hc hp h4 p.length (Nat.le_refl _) FU (by unfold FU; omega)
  rw [List.drop_length] at h
  unfold f_Bargain_weigh
  rw [show loopF (f_Bargain_weigh_L7 σ (nI p.length) x2) FU (0, nI p.length - (1 : Int32)) = some (woS K w b p) from h]
  rfl
theorem TO_all {K : Cy} {w : Rw} {b : Nat} (h8 : cT K ≤ 8) : ∀ m fu p f x σ bb, m < fu → p.length + m ≤ 4 → CtS σ K w b (cT K) → OrS (mI σ 535) p (cT K) → Bt x f → (∀ t, f t = true → t < cT K) → BwC σ bb → bb.2 < nuS p * 10 ^ m → ∃ σ' b', f_TO fu 0 σ (nI (p.length + m)) (nI p.length) x (nI (nuS p)) = some σ' ∧ BwC σ' b' ∧ Jn bb (Tn K w b p f m) b' ∧ b'.2 < (nuS p + 1) * 10 ^ m ∧ BX p.length σ σ' := by
  intro m
  induction m with
  | zero =>
    intro fu p f x σ bb hfu h4 hc hp hx hf hb hn
    obtain ⟨fu, rfl⟩ : ∃ k, fu = k + 1 := ⟨fu - 1, by omega⟩
    rw [Nat.pow_zero, Nat.mul_one] at hn
    rw [Nat.pow_zero, Nat.mul_one, Nat.add_zero]
    have jj : ∀ {c}, Jn bb (fun s => s = (woS K w b p, nuS p)) c → Jn bb (Tn K w b p f 0) c := fun h => h.iff Tn_0
    show ∃ σ' b', f_Bargain_tryOrders (f_TO fu) σ (nI p.length) (nI p.length) x (nI (nuS p)) = _ ∧ _
    unfold f_Bargain_tryOrders
    rw [if_pos (nI_le (Nat.le_refl _) (by omega)), Bargain_weigh h8 hc hp (by omega), hb.1]
    by_cases q : woS K w b p ≤ bb.1
    · rw [if_pos q, Option.bind_some]
      refine ⟨σ, bb, rfl, hb, jj (Jn.keep ?_), by omega, BX.refl _ _⟩
      rcases i_le q with h | h
      · exact Or.inl h
      · exact Or.inr ⟨h, Nat.le_of_lt hn⟩
    · rw [if_neg q, Option.bind_some]
      refine ⟨_, (woS K w b p, nuS p), rfl, ⟨?_, ?_⟩, jj (Jn.set (Or.inl (Int32.not_le.mp q))), by show nuS p < nuS p + 1; omega, fun a h1 h2 => ?_, fun i _ => ?_, rfl, rfl⟩
      · rw [row_sI _ 531 5, upd_ne (by omega), row_sI, upd_self]
      · rw [row_sI, upd_self]
      · rw [row_ne h1, row_ne h1]
      · rw [row_ne (by omega), row_ne (by omega)]
  | succ m ih =>
    intro fu p f x σ bb hfu h4 hc hp hx hf hb hn
    obtain ⟨fu, rfl⟩ : ∃ k, fu = k + 1 := ⟨fu - 1, by omega⟩
    have pm : nuS p * 10 ^ (m + 1) = (nuS p * 10) * 10 ^ m := by rw [Nat.pow_succ, Nat.mul_assoc, Nat.mul_comm 10]
    have pm' : (nuS p + 1) * 10 ^ (m + 1) = (nuS p * 10 + 10) * 10 ^ m := by rw [Nat.pow_succ, Nat.mul_comm (10 ^ m) 10, ← Nat.mul_assoc, Nat.add_mul (nuS p) 1 10, Nat.one_mul]
    show ∃ σ' b', f_Bargain_tryOrders (f_TO fu) σ (nI (p.length + (m + 1))) (nI p.length) x (nI (nuS p)) = _ ∧ _
    unfold f_Bargain_tryOrders
    rw [if_neg (nI_ge (by omega) (by omega)), if_pos (show nI p.length < (4 : Int32) from nI_lt (b := 4) (by omega) (by omega))]
    obtain ⟨σ', g1, b', g2, g3, g4, g5⟩ := loopF_go (step := f_Bargain_tryOrders_L21 (f_TO fu) (nI (p.length + (m + 1))) (nI p.length) x (nI (nuS p))) (a := (σ, (0 : Int32))) (fun i s => s.2 = nI i ∧ ∃ bi, BwC s.1 bi ∧ Jn bb (Tl K w b p f m i) bi ∧ bi.2 < (nuS p * 10 + i) * 10 ^ m ∧ BX p.length σ s.1) (fun r => ∃ b', BwC r b' ∧ Jn bb (Tn K w b p f (m + 1)) b' ∧ b'.2 < (nuS p + 1) * 10 ^ (m + 1) ∧ BX p.length σ r) 8 ⟨rfl, bb, hb, Jn.none (fun s ⟨t, t1, _⟩ => by omega), by rw [Nat.add_zero, ← pm]; exact hn, BX.refl _ _⟩ (by omega) (by
      rintro i ⟨τ, z⟩ hi ⟨e1, bi, e2, e3, e4, e5⟩
      simp only at e1 e2 e3 e4 e5
      subst e1
      unfold f_Bargain_tryOrders_L21
      dsimp only
      have up : (nuS p * 10 + i) * 10 ^ m ≤ (nuS p * 10 + (i + 1)) * 10 ^ m := Nat.mul_le_mul_right _ (by omega)
      by_cases hlt : i < 8
      · rw [if_neg (show ¬ (8 : Int32) ≤ nI i from nI_ge (b := 8) hlt (by omega)), hx.bit hlt]
        cases hfi : f i with
        | true =>
          have hT := hf i hfi
          have len : (p ++ [i]).length = p.length + 1 := by rw [List.length_append, List.length_singleton]
          have bx1 : BX p.length τ (sI τ 535 p.length (nI i)) := ⟨fun a h1 h2 => row_ne h2, fun j hj => by rw [row_sI, upd_ne (by omega)], rfl, rfl⟩
          obtain ⟨σ2, b2, k1, k2, k3, k4, k5⟩ := ih fu (p ++ [i]) (mi f i) (x &&& (((1 : Int32) <<< (nI i &&& 31)) ^^^ (-1 : Int32))) (sI τ 535 p.length (nI i)) bi (by omega) (by omega) (hc.fr fun a ha => by rw [row_ne (by omega), e5.1 a (by omega) (by omega)]) (hp.snoc (fun j hj => by rw [row_sI, upd_ne (by omega)]; exact e5.2.1 j hj) (by rw [row_sI, upd_self]) hT) (hx.mi hlt) (fun t ht => hf t (mi_t ht)) ⟨by rw [row_ne (by omega)]; exact e2.1, by rw [row_ne (by omega)]; exact e2.2⟩ (by rw [nuS_snoc]; exact e4)
          rw [len, nuS_snoc, show p.length + 1 + m = p.length + (m + 1) by omega] at k1
          rw [nuS_snoc] at k4
          rw [if_pos rfl, if_pos rfl, if_pos (inb_nI (show p.length < 4 by omega) (by decide)), nI_clamp (by omega), nI_1, show nI (nuS p) * (10 : Int32) + nI i = nI (nuS p * 10 + i) by rw [show (10 : Int32) = nI 10 from rfl, pk_mul, nI_add], k1, Option.bind_some, nI_1]
          exact exL ⟨hlt, rfl, b2, k2, e3.comp k3 fun s => by rw [Tl_s]; exact or_congr Iff.rfl ⟨fun q => q.2, fun q => ⟨hfi, q⟩⟩, by show b2.2 < _; rw [← Nat.add_assoc]; exact k4, e5.trans (bx1.trans (k5.dn (by omega)))⟩
        | false =>
          rw [if_neg (by decide), nI_1]
          exact exL ⟨hlt, rfl, bi, e2, e3.iff fun s => by rw [Tl_s]; exact ⟨fun q => q.elim id fun r => by rw [hfi] at r; exact absurd r.1 (by decide), Or.inl⟩, Nat.lt_of_lt_of_le e4 up, e5⟩
      · have : i = 8 := by omega
        subst this
        rw [if_pos (show (8 : Int32) ≤ nI 8 by decide)]
        exact exR ⟨bi, e2, e3.iff Tn_s, by rw [pm']; exact Nat.lt_of_lt_of_le e4 (Nat.mul_le_mul_right _ (by omega)), e5⟩)
    exact ⟨σ', b', g1, g2, g3, g4, g5⟩
theorem Bargain_lookAt {A : Gh} {σ : Mem} {b t : Nat} (hA : gOk A) (hc : hasC A) (hC : CRel σ A) (hb : b < cB (gK A)) (ht : t < cT (gK A)) : ∃ σ', f_Bargain_lookAt σ 6 (nI b) (nI t) = some σ' ∧ SC (gL A).1 (gD A).1 σ σ' ∧ mI σ' 532 = upd (mI σ 532) t (chS (gK A) t) ∧ mI σ' 533 = upd (mI σ 533) t (lkS (gK A) (gW A) b t) ∧ mI σ' 534 = upd (mI σ 534) t (duS (gK A) (gW A) b t) := by
  have t8 := hA.T8
  have b6 := hA.B6
  have e3 : (10 : Int32) + (8 : Int32) * mI σ (6 + 4) t = chS (gK A) t := by rw [(hC.n hc).1.2.1 t ht]; rfl
  have s3 := SC_bar (a := 532) (k := t) (v := chS (gK A) t) hA hC (by omega)
  have c3 := hC.scr s3
  obtain ⟨σ4, g1, g2⟩ := Trade_liked hA.J hc.2.2.1 c3.k ok6 c3.j (c3.n hc).1 hb ht
  have s4 := SC_cy hA c3 g2
  have c4 := c3.scr s4
  have s5 := SC_bar (a := 533) (k := t) (v := lkS (gK A) (gW A) b t) hA c4 (by omega)
  have c5 := c4.scr s5
  have hd := Trade_dueIfPutBack (o := 6) (b := b) (t := t) c5.k.1 (by omega) (by omega)
  rw [c5.k.2.2.2.2.2.1 _ (by omega), c5.k.2.2.2.2.2.2 _ (by omega), (c5.n hc).1.2.2.2.2.2.1.2.1] at hd
  have s6 := SC_bar (a := 534) (k := t) (v := duS (gK A) (gW A) b t) hA c5 (by omega)
  refine ⟨_, ?_, ((s3.trans s4).trans s5).trans s6, ?_, ?_, ?_⟩
  · unfold f_Bargain_lookAt
    rw [if_pos (inb_nI (by omega) (by decide)), nI_clamp (by omega), e3, g1, Option.bind_some]
    dsimp only
    rw [hd]
    rfl
  · rw [row_ne (by omega), row_ne (by omega), g2.1 532 (by omega), row_sI]
  · rw [row_ne (by omega), row_sI, g2.1 533 (by omega), row_ne (by omega)]
  · rw [row_sI, row_ne (by omega), g2.1 534 (by omega), row_ne (by omega)]
def frT (A : Gh) : Nat → Bool := fun t => decide (t < cT (gK A)) && fr7 A t
theorem frT_lt {A : Gh} {t : Nat} (h : frT A t = true) : t < cT (gK A) := by
  unfold frT at h
  rw [Bool.and_eq_true] at h
  exact of_decide_eq_true h.1
theorem seek_look {A : Gh} {σ : Mem} {b : Nat} {x4 : Int32} (hA : gOk A) (hc : hasC A) (hC : CRel σ A) (hb : b < cB (gK A)) : ∃ σ' x, loopF (f_Bargain_seekOrders_L6 6 (nI b) x4) FU (σ, 0, 0) = some (σ', x) ∧ SC (gL A).1 (gD A).1 σ σ' ∧ Bt x (frT A) ∧ CtS σ' (gK A) (gW A) b (cT (gK A)) := by
  have t8 := hA.T8
  obtain ⟨⟨σ', x⟩, g1, g2, g3, g4⟩ := loopF_go (step := f_Bargain_seekOrders_L6 6 (nI b) x4) (a := (σ, (0 : Int32), (0 : Int32))) (fun i s => s.2.2 = nI i ∧ SC (gL A).1 (gD A).1 σ s.1 ∧ Bt s.2.1 (fun t => decide (t < i) && fr7 A t) ∧ CtS s.1 (gK A) (gW A) b i) (fun r => SC (gL A).1 (gD A).1 σ r.1 ∧ Bt r.2 (frT A) ∧ CtS r.1 (gK A) (gW A) b (cT (gK A))) (cT (gK A)) ⟨rfl, SC.refl _ _ _, Bt.zero.iff fun t _ => by simp, fun t ht => by omega⟩ (by omega) (by
    rintro i ⟨τ, x, z⟩ hi ⟨e1, e2, e3, e4⟩
    simp only at e1 e2 e3 e4
    subst e1
    have c1 := hC.scr e2
    unfold f_Bargain_seekOrders_L6
    dsimp only
    rw [if_pos c1.k.1, c1.k.2.2.1]
    by_cases hlt : i < cT (gK A)
    · obtain ⟨τ2, k1, k2, k3, k4, k5⟩ := Bargain_lookAt hA hc c1 hb hlt
      have c2 := c1.scr k2
      have h7 : mI τ2 (6 + 1) i = gW A i := ((c2.n hc).1.1 i (by omega)).1
      have ct : CtS τ2 (gK A) (gW A) b (i + 1) := fun t ht => by
        rw [k3, k4, k5, upd_at, upd_at, upd_at]
        by_cases e : t = i
        · rw [if_pos e, if_pos e, if_pos e, e]; exact ⟨rfl, rfl, rfl⟩
        · rw [if_neg e, if_neg e, if_neg e]; exact e4 t (by omega)
      rw [if_neg (nI_ge hlt (by omega)), k1, Option.bind_some, if_pos (inb_nI (show i < 8 by omega) (by decide)), nI_clamp (by omega), h7, nI_1]
      by_cases q : gW A i = -1
      · rw [if_pos q]
        refine exL ⟨hlt, rfl, e2.trans k2, (e3.or (show i < 8 by omega)).iff fun t ht => ?_, ct⟩
        by_cases e : t = i
        · subst e
          have : fr7 A t = true := decide_eq_true q
          simp [this]
        · have : (decide (t < i + 1)) = decide (t < i) := decide_eq_decide.mpr (by omega)
          simp [e, this]
      · rw [if_neg q]
        refine exL ⟨hlt, rfl, e2.trans k2, e3.iff fun t ht => ?_, ct⟩
        by_cases e : t = i
        · subst e
          have : fr7 A t = false := decide_eq_false q
          simp [this]
        · have : (decide (t < i + 1)) = decide (t < i) := decide_eq_decide.mpr (by omega)
          simp [this]
    · have : i = cT (gK A) := by omega
      subst this
      rw [if_pos (nI_le (Nat.le_refl _) (by omega))]
      exact exR ⟨e2, e3, e4⟩)
  exact ⟨σ', x, g1, g2, g3, g4⟩
/-- what has been met once all orders of 1 to n things have been -/
def Tw (A : Gh) (b n : Nat) (s : Bw) : Prop := ∃ k, 1 ≤ k ∧ k ≤ n ∧ Tn (gK A) (gW A) b [] (frT A) k s
theorem Tw_s {A : Gh} {b n : Nat} (s : Bw) : Tw A b (n + 1) s ↔ Tw A b n s ∨ Tn (gK A) (gW A) b [] (frT A) (n + 1) s := by
  constructor
  · rintro ⟨k, k1, k2, k3⟩
    by_cases e : k = n + 1
    · subst e; exact Or.inr k3
    · exact Or.inl ⟨k, k1, by omega, k3⟩
  · rintro (⟨k, k1, k2, k3⟩ | h)
    · exact ⟨k, k1, by omega, k3⟩
    · exact ⟨n + 1, by omega, by omega, h⟩
theorem SC_bx {A : Gh} {σ σ' : Mem} {k : Nat} (hA : gOk A) (h : CRel σ A) (g : BX k σ σ') : SC (gL A).1 (gD A).1 σ σ' := SC_of hA.2.1.1 hA.2.2.1.1 h.2.2.2.2.2.1.c (fun a ha => g.1 a (by omega) (by omega)) g.2.2.1 g.2.2.2
theorem seek_class {A : Gh} {σ : Mem} {b n : Nat} (hA : gOk A) (hc : hasC A) (hC : CRel σ A) (hb : b < cB (gK A)) (hn : n ≤ 4) : ∃ σ' bb, f_Bargain_seekOrders σ 6 (nI b) (nI n) = some σ' ∧ SC (gL A).1 (gD A).1 σ σ' ∧ BwC σ' bb ∧ Jn (0, 1) (Tw A b n) bb := by
  have t8 := hA.T8
  obtain ⟨σ1, x, g1, g2, g3, g4⟩ := seek_look (x4 := nI n) hA hc hC hb
  have c1 := hC.scr g2
  have hs0 : BX 0 σ1 (sI (sI σ1 531 4 (0 : Int32)) 531 5 (1 : Int32)) := ⟨fun a h1 h2 => by rw [row_ne h1, row_ne h1], fun i hi => by omega, rfl, rfl⟩
  obtain ⟨σ', k1, bb, k2, k3, k4⟩ := loopF_go (step := f_Bargain_seekOrders_L66 6 (nI b) (nI n) x) (a := ((sI (sI σ1 531 4 (0 : Int32)) 531 5 (1 : Int32)), (1 : Int32))) (fun i s => s.2 = nI (1 + i) ∧ ∃ bi, BwC s.1 bi ∧ Jn (0, 1) (Tw A b i) bi ∧ bi.2 < 2 * 10 ^ i ∧ BX 0 σ1 s.1) (fun r => ∃ bb, BwC r bb ∧ Jn (0, 1) (Tw A b n) bb ∧ BX 0 σ1 r) n ⟨rfl, (0, 1), ⟨by rw [row_sI _ 531 5, upd_ne (by omega), row_sI, upd_self], by rw [row_sI, upd_self]; rfl⟩, Jn.none (fun s ⟨k, k1, k2, _⟩ => by omega), by decide, hs0⟩ (by omega) (by
    rintro i ⟨τ, z⟩ hi ⟨e1, bi, e2, e3, e4, e5⟩
    simp only at e1 e2 e3 e4 e5
    subst e1
    unfold f_Bargain_seekOrders_L66
    dsimp only
    by_cases hlt : i < n
    · have hb' : bi.2 < nuS [] * 10 ^ (i + 1) := by
        show bi.2 < 1 * 10 ^ (i + 1)
        rw [Nat.pow_succ]
        omega
      obtain ⟨τ2, b2, p1, p2, p3, p4, p5⟩ := TO_all (w := gW A) (b := b) t8 (i + 1) 8 [] (frT A) x τ bi (by omega) (by show 0 + (i + 1) ≤ 4; omega) (g4.fr fun a ha => e5.1 a (by omega) (by omega)) (OrS.nil _ _) g3 (fun t ht => frT_lt ht) e2 hb'
      have p1' : f_TO 8 0 τ (nI (1 + i)) (0 : Int32) x (1 : Int32) = some τ2 := by
        rw [show 1 + i = 0 + (i + 1) by omega]
        exact p1
      rw [if_neg (show ¬ nI n < nI (1 + i) from nI_nlt (by omega) (by omega)), p1', Option.bind_some, nI_1]
      exact exL ⟨hlt, rfl, b2, p2, e3.comp p3 Tw_s, p4, e5.trans (p5.dn (Nat.zero_le _))⟩
    · have : i = n := by omega
      subst this
      rw [if_pos (show nI i < nI (1 + i) from nI_lt (by omega) (by omega))]
      exact exR ⟨bi, e2, e3, e5⟩)
  refine ⟨σ', bb, ?_, g2.trans (SC_bx hA c1 k4), k2, k3⟩
  unfold f_Bargain_seekOrders
  rw [g1, Option.bind_some]
  exact k1
