/-! acts: why not, and what they do -/
def isS (n : Nat) (x : Int32) : Int32 := if x < 0 then 0 else if nI n ≤ x then 0 else 1
theorem isS_ty (n : Nat) (x : Int32) (hn : n < 2 ^ 31) : isS n x = 0 ∨ (isS n x = 1 ∧ ∃ j, j < n ∧ x = nI j) := by
  unfold isS
  rcases pk_ix x hn with h | h | ⟨j, h1, h2⟩
  · rw [if_pos h]; exact Or.inl rfl
  · by_cases h2 : x < 0
    · rw [if_pos h2]; exact Or.inl rfl
    · rw [if_neg h2, if_pos h]; exact Or.inl rfl
  · subst h2
    rw [if_neg (nI_pos (by omega)), if_neg (nI_ge h1 hn)]
    exact Or.inr ⟨rfl, j, h1, rfl⟩
theorem isS_nI {n j : Nat} (h : j < n) (hn : n < 2 ^ 31) : isS n (nI j) = 1 := by
  unfold isS
  rw [if_neg (nI_pos (by omega)), if_neg (nI_ge h hn)]
/-- what b holds, as a number -/
def hdS (K : Cy) (w : Rw) (x : Int32) : Nat := (holdS w (cT K) x).toNatClampNeg
def st0 (K : Cy) (w : Rw) (x y : Int32) : Int32 := if isS (cB K) x = 0 then 0 else if isS (cT K) y = 0 then 0 else if w y.toNatClampNeg = -1 then (if holdS w (cT K) x = -1 then -1 else 3) else 2
def st1 (K : Cy) (w : Rw) (x : Int32) : Int32 := if isS (cB K) x = 0 then 0 else if holdS w (cT K) x = -1 then 2 else -1
def st2 (K : Cy) (w : Rw) (x y : Int32) : Int32 := if isS (cB K) x = 0 then 0 else if isS (cB K) y = 0 then 0 else if x = y then 1 else if holdS w (cT K) x = -1 then 2 else if holdS w (cT K) y = -1 then -1 else 3
def st3 (K : Cy) (w : Rw) (x : Int32) : Int32 := if isS (cB K) x = 0 then 0 else if holdS w (cT K) x = -1 then 2 else if cW K (3 * hdS K w x) ≤ w (24 + x.toNatClampNeg) then -1 else 4
def whS (K : Cy) (w : Rw) (d : Nat) (x y : Int32) : Int32 := if d = 0 then st0 K w x y else if d = 1 then st1 K w x else if d = 2 then st2 K w x y else st3 K w x
def doS (K : Cy) (w : Rw) (d : Nat) (x y : Int32) : Int32 × Rw :=
  if d = 0 then (lkS K (pkS w x.toNatClampNeg y.toNatClampNeg) x.toNatClampNeg y.toNatClampNeg, pkS w x.toNatClampNeg y.toNatClampNeg)
  else if d = 1 then (bdS K w x.toNatClampNeg (hdS K w x), baS K w x.toNatClampNeg (hdS K w x))
  else if d = 2 then (holdS w (cT K) x, upd w (hdS K w x) y)
  else (nI (buS K w x.toNatClampNeg (hdS K w x)).1, (buS K w x.toNatClampNeg (hdS K w x)).2)
theorem st0_go {K : Cy} {w : Rw} {x y : Int32} (hK : CyOk K) (h : st0 K w x y = -1) : ∃ b t, b < cB K ∧ t < cT K ∧ x = nI b ∧ y = nI t ∧ w t = -1 ∧ holdS w (cT K) (nI b) = -1 := by
  have h8 := hK.1
  have h6 := hK.2.1
  unfold st0 at h
  rcases isS_ty (cB K) x (by omega) with q | ⟨q, b, b1, b2⟩
  · rw [if_pos q] at h; exact absurd h (by decide)
  · rcases isS_ty (cT K) y (by omega) with p | ⟨p, t, t1, t2⟩
    · rw [if_neg (by rw [q]; decide), if_pos p] at h; exact absurd h (by decide)
    · rw [q, p, if_neg (by decide), if_neg (by decide)] at h
      subst b2; subst t2
      rw [nI_clamp (by omega)] at h
      by_cases c1 : w t = -1
      · rw [if_pos c1] at h
        by_cases c2 : holdS w (cT K) (nI b) = -1
        · exact ⟨b, t, b1, t1, rfl, rfl, c1, c2⟩
        · rw [if_neg c2] at h; exact absurd h (by decide)
      · rw [if_neg c1] at h; exact absurd h (by decide)
theorem st1_go {K : Cy} {w : Rw} {x : Int32} (hK : CyOk K) (h : st1 K w x = -1) : ∃ b t, b < cB K ∧ t < cT K ∧ x = nI b ∧ holdS w (cT K) (nI b) = nI t := by
  have h8 := hK.1
  have h6 := hK.2.1
  unfold st1 at h
  rcases isS_ty (cB K) x (by omega) with q | ⟨q, b, b1, b2⟩
  · rw [if_pos q] at h; exact absurd h (by decide)
  · rw [q, if_neg (by decide)] at h
    subst b2
    rcases holdS_ty w (cT K) (nI b) with c | ⟨t, c1, c2⟩
    · rw [if_pos c] at h; exact absurd h (by decide)
    · exact ⟨b, t, b1, c1, rfl, c2⟩
theorem st2_go {K : Cy} {w : Rw} {x y : Int32} (hK : CyOk K) (h : st2 K w x y = -1) : ∃ b c t, b < cB K ∧ c < cB K ∧ b ≠ c ∧ t < cT K ∧ x = nI b ∧ y = nI c ∧ holdS w (cT K) (nI b) = nI t ∧ holdS w (cT K) (nI c) = -1 := by
  have h8 := hK.1
  have h6 := hK.2.1
  unfold st2 at h
  rcases isS_ty (cB K) x (by omega) with q | ⟨q, b, b1, b2⟩
  · rw [if_pos q] at h; exact absurd h (by decide)
  · rcases isS_ty (cB K) y (by omega) with p | ⟨p, c, c1, c2⟩
    · rw [if_neg (by rw [q]; decide), if_pos p] at h; exact absurd h (by decide)
    · rw [q, p, if_neg (by decide), if_neg (by decide)] at h
      subst b2; subst c2
      by_cases e : nI b = nI c
      · rw [if_pos e] at h; exact absurd h (by decide)
      · rw [if_neg e] at h
        rcases holdS_ty w (cT K) (nI b) with k | ⟨t, k1, k2⟩
        · rw [if_pos k] at h; exact absurd h (by decide)
        · rw [k2, if_neg (nI_ne_m1 (by omega))] at h
          by_cases k3 : holdS w (cT K) (nI c) = -1
          · exact ⟨b, c, t, b1, c1, fun q => e (by rw [q]), k1, rfl, rfl, k2, k3⟩
          · rw [if_neg k3] at h; exact absurd h (by decide)
theorem st3_go {K : Cy} {w : Rw} {x : Int32} (hK : CyOk K) (h : st3 K w x = -1) : ∃ b t, b < cB K ∧ t < cT K ∧ x = nI b ∧ holdS w (cT K) (nI b) = nI t ∧ cW K (3 * t) ≤ w (24 + b) := by
  have h8 := hK.1
  have h6 := hK.2.1
  unfold st3 hdS at h
  rcases isS_ty (cB K) x (by omega) with q | ⟨q, b, b1, b2⟩
  · rw [if_pos q] at h; exact absurd h (by decide)
  · rw [q, if_neg (by decide)] at h
    subst b2
    rcases holdS_ty w (cT K) (nI b) with c | ⟨t, c1, c2⟩
    · rw [if_pos c] at h; exact absurd h (by decide)
    · rw [c2, if_neg (nI_ne_m1 (by omega)), nI_clamp (by omega), nI_clamp (by omega)] at h
      by_cases e : cW K (3 * t) ≤ w (24 + b)
      · exact ⟨b, t, b1, c1, rfl, c2, e⟩
      · rw [if_neg e] at h; exact absurd h (by decide)
/-! handed on -/
theorem haS_wf {T B N b c t : Nat} {w : Rw} (hT : T ≤ 8) (hB : B ≤ 6) (hw : Wf T B N w) (hb : b < B) (hc : c < B) (hh : holdS w T (nI b) = nI t) (hn : holdS w T (nI c) = -1) (ht8 : t < 8) : Wf T B N (upd w t (nI c)) := by
  obtain ⟨h1, h2, h3, h4, h5⟩ := hw
  obtain ⟨ht, hw1, hw2⟩ := holdS_is hT (by omega) hh
  have key : ∀ v, v < T → v ≠ t → w v = nI c → w (8 + v) = 0 → False := fun v hv hvt h6 h7 => by
    have := holdS_eq h2 hv h6 h7 (nI_ne_m1 (by omega))
    rw [hn] at this
    exact nI_ne_m1 (by omega) this.symm
  refine ⟨h1.congr fun i h6 h7 => upd_ne (by omega), ⟨fun u hu => ?_, fun u hu => ?_, fun u v hu hv => ?_⟩, h3.congr hB fun i h6 h7 => upd_ne (by omega), h4.congr (upd_ne (by omega)), h5.congr (upd_ne (by omega))⟩
  · by_cases h : u = t
    · subst h; rw [upd_self]; exact Or.inr ⟨c, hc, rfl⟩
    · rw [upd_ne h]; exact h2.1 u hu
  · rw [upd_ne (j := 8 + u) (by omega)]
    by_cases h : u = t
    · subst h; exact Or.inl hw2
    · rw [upd_ne h]; exact h2.2.1 u hu
  · rw [upd_ne (j := 8 + u) (by omega), upd_ne (j := 8 + v) (by omega)]
    by_cases hut : u = t
    · by_cases hvt : v = t
      · intros; omega
      · subst hut
        rw [upd_self, upd_ne hvt]
        intro h6 _ _ h8
        exact (key v hv hvt h6.symm h8).elim
    · by_cases hvt : v = t
      · subst hvt
        rw [upd_self, upd_ne hut]
        intro h6 _ h8 _
        exact (key u hu hut h6 h8).elim
      · rw [upd_ne hut, upd_ne hvt]; exact h2.2.2 u v hu hv
theorem haS_hold {T B b c t d : Nat} {w : Rw} (hT : T ≤ 8) (hO : WfO T B w) (hb : b < 6) (hc : c < 6) (hd : d < 6) (hbc : b ≠ c) (hh : holdS w T (nI b) = nI t) (hn : holdS w T (nI c) = -1) (ht8 : t < 8) (hO' : WfO T B (upd w t (nI c))) : holdS (upd w t (nI c)) T (nI d) = if d = b then -1 else if d = c then nI t else holdS w T (nI d) := by
  obtain ⟨ht, hw1, hw2⟩ := holdS_is hT (by omega) hh
  by_cases h : d = b
  · subst h
    rw [if_pos rfl]
    refine holdS_none fun u hu q => ?_
    by_cases hut : u = t
    · subst hut; rw [upd_self] at q; exact hbc (nI_inj6 (by omega) (by omega) q.1).symm
    · rw [upd_ne hut, upd_ne (by omega)] at q
      exact hut (hO.2.2 u t hu ht (q.1.trans hw1.symm) (by rw [q.1]; exact nI_ne_m1 (by omega)) q.2 hw2)
  · rw [if_neg h]
    by_cases h2 : d = c
    · subst h2
      rw [if_pos rfl]
      exact holdS_eq hO' ht (upd_self _ _ _) (by rw [upd_ne (by omega)]; exact hw2) (nI_ne_m1 (by omega))
    · rw [if_neg h2]
      rcases holdS_cases w T (nI d) with ⟨u, h3, h4, h5, h6⟩ | ⟨h3, h4⟩
      · have hu : u ≠ t := fun q => by subst q; rw [hw1] at h4; exact h (nI_inj6 (by omega) (by omega) h4).symm
        rw [h6]
        exact holdS_eq hO' h3 (by rw [upd_ne hu]; exact h4) (by rw [upd_ne (by omega)]; exact h5) (nI_ne_m1 (by omega))
      · rw [h4]
        refine holdS_none fun u hu q => ?_
        by_cases hut : u = t
        · subst hut; rw [upd_self] at q; exact h2 (nI_inj6 (by omega) (by omega) q.1).symm
        · rw [upd_ne hut, upd_ne (by omega)] at q
          exact h3 u hu q
theorem le_of_nI {a b : Nat} (ha : a < 2 ^ 31) (hb : b < 2 ^ 31) (h : nI a ≤ nI b) : a ≤ b := (nI_leI ha hb).mp h
theorem doS_wf {K : Cy} {N d : Nat} {w : Rw} {x y : Int32} (hK : CyOk K) (hw : Wf (cT K) (cB K) N w) (h : whS K w d x y = -1) : Wf (cT K) (cB K) N (doS K w d x y).2 ∧ ∀ i, 127 ≤ i → (doS K w d x y).2 i = w i := by
  have h8 := hK.1
  have h6 := hK.2.1
  unfold whS at h
  unfold doS hdS
  by_cases d0 : d = 0
  · rw [if_pos d0] at h ⊢
    obtain ⟨b, t, b1, t1, rfl, rfl, c1, c2⟩ := st0_go hK h
    rw [nI_clamp (by omega), nI_clamp (by omega)]
    exact ⟨pkS_wf h8 h6 hw b1 t1 c1 c2, fun i hi => by show upd _ _ _ _ = _; rw [upd_ne (by omega), upd_ne (by omega)]⟩
  · rw [if_neg d0] at h ⊢
    by_cases d1 : d = 1
    · rw [if_pos d1] at h ⊢
      obtain ⟨b, t, b1, t1, rfl, c1⟩ := st1_go hK h
      rw [c1, nI_clamp (by omega), nI_clamp (by omega)]
      exact ⟨baS_wf hK rfl h6 hw b1 c1 (by omega), fun i hi => by show baS K w b t i = _; rw [baS_out hw (by omega) (by omega), drS_at (by omega) (by omega)]⟩
    · rw [if_neg d1] at h ⊢
      by_cases d2 : d = 2
      · rw [if_pos d2] at h ⊢
        obtain ⟨b, c, t, b1, b2, b3, t1, rfl, rfl, c1, c2⟩ := st2_go hK h
        rw [c1, nI_clamp (by omega)]
        exact ⟨haS_wf h8 h6 hw b1 b2 c1 c2 (by omega), fun i hi => by show upd _ _ _ _ = _; rw [upd_ne (by omega)]⟩
      · rw [if_neg d2] at h ⊢
        obtain ⟨b, t, b1, t1, rfl, c1, c2⟩ := st3_go hK h
        obtain ⟨p, p1, p2, p3⟩ := hK.2.2.1 t t1
        obtain ⟨m, m1, m2⟩ := hw.2.2.1 b b1
        rw [p3, m2] at c2
        rw [c1, nI_clamp (by omega), nI_clamp (by omega)]
        exact ⟨buS_wf h8 h6 hw b1 c1 (by omega) p3 m2 (le_of_nI (by omega) (by omega) c2) m1, fun i hi => by show (buS K w b t).2 i = _; rw [buS_out hw (by omega) (by omega) (by omega), bu0_at (by omega) (by omega) (by omega)]⟩
