/-! rows: what keeps them well -/
theorem holdS_congr {w w' : Rw} {T : Nat} {b : Int32} (hT : T ≤ 8) (h : ∀ i, i < 16 → w' i = w i) : holdS w' T b = holdS w T b := by
  have key : ∀ n i, i + n = T → firstR (fun t => decide (w' t = b ∧ w' (8 + t) = 0)) (fun t => nI t) (-1) n i = firstR (fun t => decide (w t = b ∧ w (8 + t) = 0)) (fun t => nI t) (-1) n i := by
    intro n
    induction n with
    | zero => intro i _; rfl
    | succ n ih =>
      intro i hi
      simp only [firstR, h i (by omega), h (8 + i) (by omega)]
      rw [ih (i + 1) (by omega)]
  exact key T 0 (by omega)
theorem holdS_eq {w : Rw} {T B t : Nat} {b : Int32} (hO : WfO T B w) (ht : t < T) (h1 : w t = b) (h2 : w (8 + t) = 0) (hb : b ≠ -1) : holdS w T b = nI t := by
  rcases holdS_cases w T b with ⟨u, h3, h4, h5, h6⟩ | ⟨h3, -⟩
  · have := hO.2.2 u t h3 ht (h4.trans h1.symm) (by rw [h4]; exact hb) h5 h2
    rw [h6, this]
  · exact absurd ⟨h1, h2⟩ (h3 t ht)
theorem holdS_none {w : Rw} {T : Nat} {b : Int32} (h : ∀ t, t < T → ¬ (w t = b ∧ w (8 + t) = 0)) : holdS w T b = -1 := by
  rcases holdS_cases w T b with ⟨u, h3, h4, h5, h6⟩ | ⟨-, h3⟩
  · exact absurd ⟨h4, h5⟩ (h u h3)
  · exact h3
theorem holdS_is {w : Rw} {T t : Nat} {b : Int32} (hT : T ≤ 8) (ht : t < 2 ^ 31) (h : holdS w T b = nI t) : t < T ∧ w t = b ∧ w (8 + t) = 0 := by
  rcases holdS_cases w T b with ⟨u, h3, h4, h5, h6⟩ | ⟨-, h3⟩
  · have e := (nI_eq (by omega) ht).mp (h6.symm.trans h)
    subst e
    exact ⟨h3, h4, h5⟩
  · exact absurd (h.symm.trans h3) (nI_ne_m1 ht)
theorem holdS_ty (w : Rw) (T : Nat) (b : Int32) : holdS w T b = -1 ∨ ∃ t, t < T ∧ holdS w T b = nI t := by
  rcases holdS_cases w T b with ⟨u, h3, h4, h5, h6⟩ | ⟨-, h3⟩
  · exact Or.inr ⟨u, h3, h6⟩
  · exact Or.inl h3
theorem nI_inj6 {a b : Nat} (ha : a < 2 ^ 31) (hb : b < 2 ^ 31) (h : nI a = nI b) : a = b := (nI_eq ha hb).mp h
theorem WfO.congr {T B : Nat} {w w' : Rw} (hT : T ≤ 8) (h : ∀ i, i < 16 → w' i = w i) (q : WfO T B w) : WfO T B w' := by
  refine ⟨fun t ht => ?_, fun t ht => ?_, fun t u ht hu => ?_⟩
  · rw [h t (by omega)]; exact q.1 t ht
  · rw [h t (by omega), h (8 + t) (by omega)]; exact q.2.1 t ht
  · rw [h t (by omega), h (8 + t) (by omega), h u (by omega), h (8 + u) (by omega)]; exact q.2.2 t u ht hu
theorem WfB.congr {N : Nat} {w w' : Rw} (h : ∀ i, 30 ≤ i → i < 127 → w' i = w i) (q : WfB N w) : WfB N w' := by
  obtain ⟨n, h1, h2, h3⟩ := q
  refine ⟨n, h1, by rw [h 126 (by omega) (by omega)]; exact h2, fun k hk => ?_⟩
  rw [h (30 + 4 * k + 2) (by omega) (by omega), h (30 + 4 * k + 3) (by omega) (by omega)]
  exact h3 k hk
theorem WfP.congr {B : Nat} {w w' : Rw} (hB : B ≤ 6) (h : ∀ i, 24 ≤ i → i < 30 → w' i = w i) (q : WfP B w) : WfP B w' := fun b hb => by rw [h (24 + b) (by omega) (by omega)]; exact q b hb
theorem WfR.congr {w w' : Rw} (h : w' 127 = w 127) (q : WfR w) : WfR w' := by unfold WfR; rw [h]; exact q
theorem WfH.congr {N : Nat} {w w' : Rw} (h : w' 130 = w 130) (q : WfH N w) : WfH N w' := by unfold WfH; rw [h]; exact q
theorem WfH.mono {N M : Nat} {w : Rw} (h : N ≤ M) (q : WfH N w) : WfH M w := by obtain ⟨n, h1, h2⟩ := q; exact ⟨n, by omega, h2⟩
theorem WfB.mono {N M : Nat} {w : Rw} (h : N ≤ M) (q : WfB N w) : WfB M w := by
  obtain ⟨n, h1, h2, h3⟩ := q
  refine ⟨n, h1, h2, fun k hk => ?_⟩
  obtain ⟨⟨x, h4, h5⟩, h6⟩ := h3 k hk
  exact ⟨⟨x, by omega, h5⟩, h6⟩
theorem Wf.mono {T B N M : Nat} {w : Rw} (h : N ≤ M) (q : Wf T B N w) : Wf T B M w := ⟨q.1.mono h, q.2.1, q.2.2.1, q.2.2.2.1, q.2.2.2.2.mono h⟩
theorem mny_eq {n : Nat} {w : Rw} (hn : n ≤ 24) (h : w 126 = nI n) : mny w = n := by unfold mny; rw [h, nI_clamp (by omega)]
/-- picked up -/
theorem pkS_wf {B N T b t : Nat} {w : Rw} (hT : T ≤ 8) (hB : B ≤ 6) (hw : Wf T B N w) (hb : b < B) (ht : t < T) (hf : w t = -1) (hh : holdS w T (nI b) = -1) : Wf T B N (pkS w b t) := by
  obtain ⟨h1, h2, h3, h4, h5⟩ := hw
  have e : ∀ i, i ≠ t → i ≠ 16 + t → pkS w b t i = w i := fun i h6 h7 => by unfold pkS; rw [upd_ne h7, upd_ne h6]
  have et : pkS w b t t = nI b := by unfold pkS; rw [upd_ne (by omega), upd_self]
  refine ⟨h1.congr fun i h6 h7 => e i (by omega) (by omega), ?_, h3.congr hB fun i h6 h7 => e i (by omega) (by omega), h4.congr (e _ (by omega) (by omega)), h5.congr (e _ (by omega) (by omega))⟩
  refine ⟨fun u hu => ?_, fun u hu => ?_, fun u v hu hv => ?_⟩
  · by_cases h : u = t
    · subst h; exact Or.inr ⟨b, hb, et⟩
    · rw [e u h (by omega)]; exact h2.1 u hu
  · rw [e (8 + u) (by omega) (by omega)]
    by_cases h : u = t
    · subst h
      rw [et]
      rcases h2.2.1 u hu with q | q
      · exact Or.inl q
      · exact absurd hf q.2
    · rw [e u h (by omega)]; exact h2.2.1 u hu
  · rw [e (8 + u) (by omega) (by omega), e (8 + v) (by omega) (by omega)]
    have key : ∀ v, v < T → v ≠ t → w v = nI b → w (8 + v) = 0 → False := fun v hv hvt h6 h7 => by
      have := holdS_eq h2 hv h6 h7 (nI_ne_m1 (by omega))
      rw [hh] at this
      exact nI_ne_m1 (by omega) this.symm
    by_cases hut : u = t
    · by_cases hvt : v = t
      · intros; omega
      · subst hut
        rw [et, e v hvt (by omega)]
        intro h6 _ _ h8
        exact (key v hv hvt h6.symm h8).elim
    · by_cases hvt : v = t
      · subst hvt
        rw [et, e u hut (by omega)]
        intro h6 _ h8 _
        exact (key u hu hut h6 h8).elim
      · rw [e u hut (by omega), e v hvt (by omega)]
        exact h2.2.2 u v hu hv
theorem pkS_hold {T B b t c : Nat} {w : Rw} (hT : T ≤ 8) (hO : WfO T B w) (hb : b < 6) (hc : c < 6) (ht : t < T) (hf : w t = -1) (hh : holdS w T (nI b) = -1) (hO' : WfO T B (pkS w b t)) : holdS (pkS w b t) T (nI c) = if c = b then nI t else holdS w T (nI c) := by
  have e : ∀ i, i ≠ t → i ≠ 16 + t → pkS w b t i = w i := fun i h6 h7 => by unfold pkS; rw [upd_ne h7, upd_ne h6]
  have et : pkS w b t t = nI b := by unfold pkS; rw [upd_ne (by omega), upd_self]
  by_cases h : c = b
  · subst h
    rw [if_pos rfl]
    refine holdS_eq hO' ht et ?_ (nI_ne_m1 (by omega))
    rw [e _ (by omega) (by omega)]
    rcases hO.2.1 t ht with q | q
    · exact q
    · exact absurd hf q.2
  · rw [if_neg h]
    rcases holdS_cases w T (nI c) with ⟨u, h3, h4, h5, h6⟩ | ⟨h3, h4⟩
    · have hu : u ≠ t := fun q => by subst q; rw [hf] at h4; exact nI_ne_m1 (by omega) h4.symm
      rw [h6]
      exact holdS_eq hO' h3 (by rw [e u hu (by omega)]; exact h4) (by rw [e _ (by omega) (by omega)]; exact h5) (nI_ne_m1 (by omega))
    · rw [h4]
      refine holdS_none fun u hu q => ?_
      by_cases hut : u = t
      · subst hut
        rw [et] at q
        exact h (nI_inj6 (by omega) (by omega) q.1).symm
      · rw [e u hut (by omega), e _ (by omega) (by omega)] at q
        exact h3 u hu q
theorem drS_at {w : Rw} {t i : Nat} (h : i ≠ t) (h2 : i ≠ 16 + t) : drS w t i = w i := by unfold drS; rw [upd_ne h2, upd_ne h]
theorem drS_t (w : Rw) (t : Nat) : drS w t t = -1 := by unfold drS; rw [upd_ne (by omega), upd_self]
theorem drS_wf {B N T b t : Nat} {w : Rw} (hT : T ≤ 8) (hB : B ≤ 6) (hw : Wf T B N w) (hb : b < B) (hh : holdS w T (nI b) = nI t) (ht8 : t < 8) : Wf T B N (drS w t) := by
  obtain ⟨h1, h2, h3, h4, h5⟩ := hw
  obtain ⟨ht, hw1, hw2⟩ := holdS_is hT (by omega) hh
  refine ⟨h1.congr fun i h6 h7 => drS_at (by omega) (by omega), ?_, h3.congr hB fun i h6 h7 => drS_at (by omega) (by omega), h4.congr (drS_at (by omega) (by omega)), h5.congr (drS_at (by omega) (by omega))⟩
  refine ⟨fun u hu => ?_, fun u hu => ?_, fun u v hu hv => ?_⟩
  · by_cases h : u = t
    · subst h; exact Or.inl (drS_t _ _)
    · rw [drS_at h (by omega)]; exact h2.1 u hu
  · rw [drS_at (i := 8 + u) (by omega) (by omega)]
    by_cases h : u = t
    · subst h; exact Or.inl hw2
    · rw [drS_at h (by omega)]; exact h2.2.1 u hu
  · rw [drS_at (i := 8 + u) (by omega) (by omega), drS_at (i := 8 + v) (by omega) (by omega)]
    by_cases hut : u = t
    · subst hut; rw [drS_t]; intro _ h; exact absurd rfl h
    · by_cases hvt : v = t
      · subst hvt; rw [drS_t]; intro h h6; exact absurd h h6
      · rw [drS_at hut (by omega), drS_at hvt (by omega)]; exact h2.2.2 u v hu hv
theorem drS_hold {T B b t c : Nat} {w : Rw} (hT : T ≤ 8) (hO : WfO T B w) (hc : c < 6) (hb : b < 6) (hh : holdS w T (nI b) = nI t) (ht8 : t < 8) (hO' : WfO T B (drS w t)) : holdS (drS w t) T (nI c) = if c = b then -1 else holdS w T (nI c) := by
  obtain ⟨ht, hw1, hw2⟩ := holdS_is hT (by omega) hh
  by_cases h : c = b
  · subst h
    rw [if_pos rfl]
    refine holdS_none fun u hu q => ?_
    by_cases hut : u = t
    · subst hut; rw [drS_t] at q; exact nI_ne_m1 (by omega) q.1.symm
    · rw [drS_at hut (by omega), drS_at (by omega) (by omega)] at q
      exact hut (hO.2.2 u t hu ht (q.1.trans hw1.symm) (by rw [q.1]; exact nI_ne_m1 (by omega)) q.2 hw2)
  · rw [if_neg h]
    rcases holdS_cases w T (nI c) with ⟨u, h3, h4, h5, h6⟩ | ⟨h3, h4⟩
    · have hu : u ≠ t := fun q => by subst q; rw [hw1] at h4; exact h (nI_inj6 (by omega) (by omega) h4).symm
      rw [h6]
      exact holdS_eq hO' h3 (by rw [drS_at hu (by omega)]; exact h4) (by rw [drS_at (by omega) (by omega)]; exact h5) (nI_ne_m1 (by omega))
    · rw [h4]
      refine holdS_none fun u hu q => ?_
      by_cases hut : u = t
      · subst hut; rw [drS_t] at q; exact nI_ne_m1 (by omega) q.1.symm
      · rw [drS_at hut (by omega), drS_at (by omega) (by omega)] at q
        exact h3 u hu q
