/-! rests answers alike -/
def allR (f : Nat → Bool) : Nat → Bool
  | 0 => true
  | n + 1 => allR f n && f n
theorem allR_s (f : Nat → Bool) (n : Nat) : allR f (n + 1) = (allR f n && f n) := rfl
theorem allR_f {f : Nat → Bool} {i : Nat} (h : f i = false) : ∀ n, i < n → allR f n = false := by
  intro n
  induction n with
  | zero => intro q; omega
  | succ n ih =>
    intro q
    rw [allR_s]
    by_cases e : i = n
    · subst e; rw [h, Bool.and_false]
    · rw [ih (by omega), Bool.false_and]
def rqS (p : Int32) (s z i : Nat) : Bool := decide (slH p (nI i) (nI z) ≤ slH p (nI s) (nI z))
def rqB (p lk du : Int32) (s z j : Nat) : Bool := decide (byS p lk du (nI s) (nI j) ≤ byS p lk du (nI s) (nI z))
def reS (p lk du : Int32) (s z : Nat) : Bool := allR (rqS p s z) 4 && allR (rqB p lk du s z) 3
theorem Bargain_isRest {σ : Mem} {p lk du : Int32} {s z : Nat} (hS : ∀ x z, f_Bargain_sellerHas σ x z = some (slH p x z)) (hY : ∀ x z, f_Bargain_buyerHas σ x z = some (byS p lk du x z)) : f_Bargain_isRest σ (nI s) (nI z) = some (if reS p lk du s z = true then 1 else 0) := by
  obtain ⟨r, g1, g2⟩ := loopF_go (step := f_Bargain_isRest_L2 σ (nI s) (nI z)) (a := (0 : Int32)) (fun i a => a = nI i ∧ allR (rqS p s z) i = true) (fun r => (r = .inl () ∧ allR (rqS p s z) 4 = true) ∨ (r = .inr 0 ∧ allR (rqS p s z) 4 = false)) 4 ⟨rfl, rfl⟩ (by omega) (by
    rintro i a hi ⟨rfl, h⟩
    unfold f_Bargain_isRest_L2
    by_cases hlt : i < 4
    · rw [if_neg (show ¬ (4 : Int32) ≤ nI i from nI_ge (b := 4) hlt (by omega)), hS, Option.bind_some, hS, Option.bind_some]
      by_cases q : slH p (nI i) (nI z) ≤ slH p (nI s) (nI z)
      · rw [if_pos q, nI_1]
        exact exL ⟨hlt, rfl, by rw [allR_s, h, Bool.true_and]; exact decide_eq_true q⟩
      · rw [if_neg q]
        exact exR (Or.inr ⟨rfl, allR_f (i := i) (decide_eq_false q) 4 hlt⟩)
    · have : i = 4 := by omega
      subst this
      rw [if_pos (show (4 : Int32) ≤ nI 4 by decide)]
      exact exR (Or.inl ⟨rfl, h⟩))
  unfold f_Bargain_isRest reS
  rw [g1, Option.bind_some]
  rcases g2 with ⟨rfl, h⟩ | ⟨rfl, h⟩
  · rw [h, Bool.true_and]
    obtain ⟨r, g3, g4⟩ := loopF_go (step := f_Bargain_isRest_L32 σ (nI s) (nI z)) (a := (0 : Int32)) (fun i a => a = nI i ∧ allR (rqB p lk du s z) i = true) (fun r => r = if allR (rqB p lk du s z) 3 = true then 1 else 0) 3 ⟨rfl, rfl⟩ (by omega) (by
      rintro i a hi ⟨rfl, h⟩
      unfold f_Bargain_isRest_L32
      by_cases hlt : i < 3
      · rw [if_neg (show ¬ (3 : Int32) ≤ nI i from nI_ge (b := 3) hlt (by omega)), hY, Option.bind_some, hY, Option.bind_some]
        by_cases q : byS p lk du (nI s) (nI i) ≤ byS p lk du (nI s) (nI z)
        · rw [if_pos q, nI_1]
          exact exL ⟨hlt, rfl, by rw [allR_s, h, Bool.true_and]; exact decide_eq_true q⟩
        · rw [if_neg q]
          refine exR ?_
          rw [allR_f (f := rqB p lk du s z) (i := i) (decide_eq_false q) 3 hlt]; rfl
      · have : i = 3 := by omega
        subst this
        rw [if_pos (show (3 : Int32) ≤ nI 3 by decide)]
        refine exR ?_
        rw [h]; rfl)
    subst g4
    exact g3
  · rw [h, Bool.false_and]; rfl
/-- the scan of the outcomes -/
def rsI (f : Nat → Bool) (x : Int32) (s : Nat) : Nat → Nat → Int32 → Int32 ⊕ Int32
  | 0, _, c => .inl c
  | n + 1, j, c => if f j = true then (if c = x then .inr ((10 : Int32) * nI s + nI j) else rsI f x s n (j + 1) (c + 1)) else rsI f x s n (j + 1) c
def rsO (f : Nat → Nat → Bool) (x : Int32) : Nat → Nat → Int32 → Int32 ⊕ Int32
  | 0, _, c => .inl c
  | n + 1, s, c => Sum.elim (fun c' => rsO f x n (s + 1) c') (fun v => .inr v) (rsI (f s) x s 3 0 c)
def rsF (x : Int32) (r : Int32 ⊕ Int32) : Int32 := Sum.elim (fun c => if x = (-1 : Int32) then c else -1) (fun v => v) r
theorem Bargain_L12 {σ : Mem} {x : Int32} {f : Nat → Bool} {s : Nat} (hf : ∀ z, f_Bargain_isRest σ (nI s) (nI z) = some (if f z = true then 1 else 0)) : ∀ n j c m, j + n = 3 → n < m → loopF (f_Bargain_nthRest_L12 σ x (nI s)) m (c, nI j) = some (rsI f x s n j c) := by
  intro n
  induction n with
  | zero =>
    intro j c m hj hm
    have : j = 3 := by omega
    subst this
    obtain ⟨m, rfl⟩ : ∃ k, m = k + 1 := ⟨m - 1, by omega⟩
    refine loopF_inr ?_
    unfold f_Bargain_nthRest_L12
    dsimp only
    rw [if_pos (show (3 : Int32) ≤ nI 3 by decide)]
    rfl
  | succ n ih =>
    intro j c m hj hm
    obtain ⟨m, rfl⟩ : ∃ k, m = k + 1 := ⟨m - 1, by omega⟩
    have st : f_Bargain_nthRest_L12 σ x (nI s) (c, nI j) = if f j = true then (if c = x then some (.inr (.inr ((10 : Int32) * nI s + nI j))) else some (.inl (c + 1, nI (j + 1)))) else some (.inl (c, nI (j + 1))) := by
      unfold f_Bargain_nthRest_L12
      dsimp only
      rw [if_neg (show ¬ (3 : Int32) ≤ nI j from nI_ge (b := 3) (by omega) (by omega)), hf, Option.bind_some, nI_1]
      cases f j
      · rfl
      · rfl
    unfold rsI
    by_cases q : f j = true
    · rw [if_pos q] at st ⊢
      by_cases e : c = x
      · rw [if_pos e] at st ⊢
        exact loopF_inr st
      · rw [if_neg e] at st ⊢
        rw [loopF_inl st]
        exact ih _ _ _ (by omega) (by omega)
    · rw [if_neg q] at st ⊢
      rw [loopF_inl st]
      exact ih _ _ _ (by omega) (by omega)
theorem Bargain_L4 {σ : Mem} {x : Int32} {f : Nat → Nat → Bool} (hf : ∀ s z, f_Bargain_isRest σ (nI s) (nI z) = some (if f s z = true then 1 else 0)) : ∀ n s c m, s + n = 4 → n < m → loopF (f_Bargain_nthRest_L4 σ x) m (c, nI s) = some (rsO f x n s c) := by
  intro n
  induction n with
  | zero =>
    intro s c m hj hm
    have : s = 4 := by omega
    subst this
    obtain ⟨m, rfl⟩ : ∃ k, m = k + 1 := ⟨m - 1, by omega⟩
    refine loopF_inr ?_
    unfold f_Bargain_nthRest_L4
    dsimp only
    rw [if_pos (show (4 : Int32) ≤ nI 4 by decide)]
    rfl
  | succ n ih =>
    intro s c m hj hm
    obtain ⟨m, rfl⟩ : ∃ k, m = k + 1 := ⟨m - 1, by omega⟩
    have st : f_Bargain_nthRest_L4 σ x (c, nI s) = Sum.elim (fun w6 => some (.inl (w6, nI (s + 1)))) (fun t7 => some (.inr (.inr t7))) (rsI (f s) x s 3 0 c) := by
      unfold f_Bargain_nthRest_L4
      dsimp only
      rw [if_neg (show ¬ (4 : Int32) ≤ nI s from nI_ge (b := 4) (by omega) (by omega)), show (0 : Int32) = nI 0 from rfl, Bargain_L12 (hf s) 3 0 c FU (by omega) (by decide), Option.bind_some, nI_1]
    unfold rsO
    cases e : rsI (f s) x s 3 0 c with
    | inl c' =>
      rw [e] at st
      rw [loopF_inl st]
      exact ih _ _ _ (by omega) (by omega)
    | inr v =>
      rw [e] at st
      exact loopF_inr st
theorem Bargain_nthRest {σ : Mem} {x : Int32} {f : Nat → Nat → Bool} (hf : ∀ s z, f_Bargain_isRest σ (nI s) (nI z) = some (if f s z = true then 1 else 0)) : f_Bargain_nthRest σ x = some (rsF x (rsO f x 4 0 0)) := by
  unfold f_Bargain_nthRest rsF
  have := Bargain_L4 (x := x) hf 4 0 0 FU (by omega) (by decide)
  rw [show nI 0 = (0 : Int32) from rfl] at this
  rw [this, Option.bind_some]
  cases rsO f x 4 0 0 with
  | inl c =>
    show (if x = -1 then some c else some (-1)) = some (if x = -1 then c else -1)
    split <;> rfl
  | inr v => rfl
