/-! rows: bought -/
theorem bu0_at {K : Cy} {w : Rw} {b t i : Nat} (h1 : i ≠ 24 + b) (h2 : i ≠ 8 + t) (h3 : i ≠ 16 + t) : bu0 K w b t i = w i := by
  unfold bu0; rw [upd_ne h3, upd_ne h2, upd_ne h1]
theorem bu0_s {K : Cy} {w : Rw} {b t : Nat} : bu0 K w b t (8 + t) = 1 := by
  unfold bu0; rw [upd_ne (by omega), upd_self]
theorem bu0_p {K : Cy} {w : Rw} {b t : Nat} (ht : t < 8) : bu0 K w b t (24 + b) = w (24 + b) - cW K (3 * t) := by
  unfold bu0; rw [upd_ne (by omega), upd_ne (by omega), upd_self]
theorem bu0_mny {K : Cy} {w : Rw} {b t : Nat} (hb : b < 6) (ht : t < 8) : bu0 K w b t 126 = w 126 := bu0_at (by omega) (by omega) (by omega)
theorem bu0_wf {K : Cy} {B N T b t p m : Nat} {w : Rw} (hT : T ≤ 8) (hB : B ≤ 6) (hw : Wf T B N w) (hb : b < B) (hh : holdS w T (nI b) = nI t) (ht8 : t < 8) (hp : cW K (3 * t) = nI p) (hm : w (24 + b) = nI m) (hpm : p ≤ m) (hm2 : m < 1000) : Wf T B N (bu0 K w b t) := by
  obtain ⟨h1, h2, h3, h4, h5⟩ := hw
  obtain ⟨ht, hw1, hw2⟩ := holdS_is hT (by omega) hh
  refine ⟨h1.congr fun i h6 h7 => bu0_at (by omega) (by omega) (by omega), ?_, fun c hc => ?_, h4.congr (bu0_at (by omega) (by omega) (by omega)), h5.congr (bu0_at (by omega) (by omega) (by omega))⟩
  · refine ⟨fun u hu => ?_, fun u hu => ?_, fun u v hu hv => ?_⟩
    · rw [bu0_at (by omega) (by omega) (by omega)]; exact h2.1 u hu
    · rw [bu0_at (i := u) (by omega) (by omega) (by omega)]
      by_cases h : u = t
      · subst h; exact Or.inr ⟨bu0_s, by rw [hw1]; exact nI_ne_m1 (by omega)⟩
      · rw [bu0_at (by omega) (by omega) (by omega)]; exact h2.2.1 u hu
    · rw [bu0_at (i := u) (by omega) (by omega) (by omega), bu0_at (i := v) (by omega) (by omega) (by omega)]
      by_cases hut : u = t
      · subst hut; rw [bu0_s]; intro _ _ h; exact absurd h (by decide)
      · by_cases hvt : v = t
        · subst hvt; rw [bu0_s]; intro _ _ _ h; exact absurd h (by decide)
        · rw [bu0_at (i := 8 + u) (by omega) (by omega) (by omega), bu0_at (i := 8 + v) (by omega) (by omega) (by omega)]; exact h2.2.2 u v hu hv
  · by_cases h : c = b
    · subst h
      rw [bu0_p ht8, hm, hp, pk_sub hpm]
      exact ⟨m - p, by omega, rfl⟩
    · rw [bu0_at (by omega) (by omega) (by omega)]; exact h3 c hc
theorem bu0_hold {K : Cy} {T B b t c : Nat} {w : Rw} (hT : T ≤ 8) (hO : WfO T B w) (hc : c < 6) (hb : b < 6) (hh : holdS w T (nI b) = nI t) (ht8 : t < 8) (hO' : WfO T B (bu0 K w b t)) : holdS (bu0 K w b t) T (nI c) = if c = b then -1 else holdS w T (nI c) := by
  obtain ⟨ht, hw1, hw2⟩ := holdS_is hT (by omega) hh
  by_cases h : c = b
  · subst h
    rw [if_pos rfl]
    refine holdS_none fun u hu q => ?_
    by_cases hut : u = t
    · subst hut; rw [bu0_s] at q; exact absurd q.2 (by decide)
    · rw [bu0_at (i := u) (by omega) (by omega) (by omega), bu0_at (i := 8 + u) (by omega) (by omega) (by omega)] at q
      exact hut (hO.2.2 u t hu ht (q.1.trans hw1.symm) (by rw [q.1]; exact nI_ne_m1 (by omega)) q.2 hw2)
  · rw [if_neg h]
    rcases holdS_cases w T (nI c) with ⟨u, h3, h4, h5, h6⟩ | ⟨h3, h4⟩
    · have hu : u ≠ t := fun q => by subst q; rw [hw1] at h4; exact h (nI_inj6 (by omega) (by omega) h4).symm
      rw [h6]
      exact holdS_eq hO' h3 (by rw [bu0_at (by omega) (by omega) (by omega)]; exact h4) (by rw [bu0_at (by omega) (by omega) (by omega)]; exact h5) (nI_ne_m1 (by omega))
    · rw [h4]
      refine holdS_none fun u hu q => ?_
      by_cases hut : u = t
      · subst hut; rw [bu0_s] at q; exact absurd q.2 (by decide)
      · rw [bu0_at (i := u) (by omega) (by omega) (by omega), bu0_at (i := 8 + u) (by omega) (by omega) (by omega)] at q
        exact h3 u hu q
theorem saS_wf {T B N n : Nat} {w : Rw} {b t r : Int32} (hT : T ≤ 8) (hB : B ≤ 6) (hw : Wf T B N w) (hn : n ≤ 24) (hm : w 126 = nI n) : Wf T B N (saS b t r n n w 0).2 := by
  obtain ⟨⟨n', h11, h12, h13⟩, h2, h3, h4, h5⟩ := hw
  have e : n' = n := nI_inj6 (by omega) (by omega) (h12.symm.trans hm)
  subst e
  obtain ⟨s1, s2, s3, s4, -⟩ := saS_spec b t r n' n' w 0 (Nat.le_refl _) hn hm
  refine ⟨?_, h2.congr hT fun i h => s3 i (by omega), h3.congr hB fun i h6 h7 => s3 i (by omega), h4.congr (s3 _ (by omega)), h5.congr (s3 _ (by omega))⟩
  have hl := kpS_len w b t r n'
  refine ⟨(kpS w b t r n').length, by omega, by rw [s2]; congr 1; omega, fun k hk => ?_⟩
  rw [s4 k 2 hk (by omega), s4 k 3 hk (by omega)]
  exact h13 _ (kpS_lt w b t r n' k hk)
theorem buS_wf {K : Cy} {B N T b t p m : Nat} {w : Rw} (hT : T ≤ 8) (hB : B ≤ 6) (hw : Wf T B N w) (hb : b < B) (hh : holdS w T (nI b) = nI t) (ht8 : t < 8) (hp : cW K (3 * t) = nI p) (hm : w (24 + b) = nI m) (hpm : p ≤ m) (hm2 : m < 1000) : Wf T B N (buS K w b t).2 := by
  have h0 := bu0_wf hT hB hw hb hh ht8 hp hm hpm hm2
  obtain ⟨n, h1, h2, -⟩ := hw.1
  unfold buS
  rw [mny_eq h1 h2]
  exact saS_wf hT hB h0 h1 ((bu0_mny (by omega) ht8).trans h2)
theorem buS_out {K : Cy} {T B N b t i : Nat} {w : Rw} (hw : Wf T B N w) (hb : b < 6) (ht8 : t < 8) (hi : i < 30 ∨ 127 ≤ i) : (buS K w b t).2 i = bu0 K w b t i := by
  obtain ⟨n, h1, h2, -⟩ := hw.1
  unfold buS
  rw [mny_eq h1 h2]
  exact (saS_spec _ _ _ n n _ 0 (Nat.le_refl _) h1 ((bu0_mny hb ht8).trans h2)).2.2.1 i hi
/-! sums of what is due -/
theorem dueS_nI {f : Rw} {b : Int32} : ∀ n, (∀ k, k < n → ∃ d, d < 100 ∧ f (4 * k + 3) = nI d) → ∃ d, d ≤ 100 * n ∧ dueS f b n = nI d := by
  intro n
  induction n with
  | zero => intro _; exact ⟨0, by omega, rfl⟩
  | succ n ih =>
    intro h
    obtain ⟨d, h1, h2⟩ := ih fun k hk => h k (by omega)
    obtain ⟨e, h3, h4⟩ := h n (by omega)
    unfold dueS
    by_cases hb : f (4 * n) = b
    · rw [if_pos hb, h2, h4, nI_add]; exact ⟨d + e, by omega, rfl⟩
    · rw [if_neg hb, h2]; exact ⟨d, by omega, rfl⟩
theorem dueS_congr {f g : Rw} {b : Int32} : ∀ n, (∀ i, i < 4 * n → f i = g i) → dueS f b n = dueS g b n := by
  intro n
  induction n with
  | zero => intro _; rfl
  | succ n ih =>
    intro h
    unfold dueS
    rw [ih fun i hi => h i (by omega), h (4 * n) (by omega), h (4 * n + 3) (by omega)]
theorem dueA_congr {f g : Rw} : ∀ n, (∀ i, i < 4 * n → f i = g i) → dueA f n = dueA g n := by
  intro n
  induction n with
  | zero => intro _; rfl
  | succ n ih =>
    intro h
    unfold dueA
    rw [ih fun i hi => h i (by omega), h (4 * n + 3) (by omega)]
theorem cntS_congr {f g : Rw} {b : Int32} : ∀ n, (∀ i, i < 4 * n → f i = g i) → cntS f b n = cntS g b n := by
  intro n
  induction n with
  | zero => intro _; rfl
  | succ n ih =>
    intro h
    unfold cntS
    rw [ih fun i hi => h i (by omega), h (4 * n) (by omega)]
theorem hasS_congr {f g : Rw} {b t : Int32} {n : Nat} (h : ∀ i, i < 4 * n → f i = g i) : hasS f b t n = hasS g b t n := by
  have key : ∀ m i, i + m = n → firstR (fun k => decide (f (4 * k) = b ∧ f (4 * k + 1) = t)) (fun _ => (1 : Int32)) 0 m i = firstR (fun k => decide (g (4 * k) = b ∧ g (4 * k + 1) = t)) (fun _ => (1 : Int32)) 0 m i := by
    intro m
    induction m with
    | zero => intro i _; rfl
    | succ m ih =>
      intro i hi
      simp only [firstR, h (4 * i) (by omega), h (4 * i + 1) (by omega)]
      rw [ih (i + 1) (by omega)]
  exact key n 0 (by omega)
theorem hasS_01 (f : Rw) (b t : Int32) (n : Nat) : hasS f b t n = 0 ∨ hasS f b t n = 1 := by
  rcases firstR_cases (fun k => decide (f (4 * k) = b ∧ f (4 * k + 1) = t)) (fun _ => (1 : Int32)) 0 n 0 with ⟨j, -, -, -, -, h⟩ | ⟨-, h⟩
  · exact Or.inr h
  · exact Or.inl h
theorem dueF_ok {p r : Nat} {k : Int32} (hp : p < 100) (hr : r ≤ 8) : ∃ d, d < 100 ∧ dueF (nI p) (nI r) k = nI d := by
  have e : nI p * nI r / 8 = nI (p * r / 8) := by
    rw [pk_mul, show (8 : Int32) = nI 8 from rfl, pk_div (by have := Nat.mul_le_mul (Nat.le_of_lt hp) hr; omega) (by omega) (by omega)]
  have hb : p * r / 8 < 100 := by
    have := Nat.mul_le_mul (show p ≤ 99 by omega) hr
    omega
  unfold dueF
  rw [e]
  by_cases h2 : k = 2
  · rw [if_pos h2]; exact ⟨0, by omega, rfl⟩
  · rw [if_neg h2]
    by_cases h1 : k = 1
    · rw [if_pos h1, show (2 : Int32) = nI 2 from rfl, pk_div (by omega) (by omega) (by omega)]
      exact ⟨_, by omega, rfl⟩
    · rw [if_neg h1]; exact ⟨_, hb, rfl⟩
