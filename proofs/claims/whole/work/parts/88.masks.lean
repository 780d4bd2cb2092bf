/-! all: masks -/
def mkS (f : Nat → Bool) : Nat → Int32
  | 0 => 0
  | n + 1 => if f n = true then mkS f n ||| ((1 : Int32) <<< (nI n &&& 31)) else mkS f n
theorem mkS_t {f : Nat → Bool} {n : Nat} (h : f n = true) : mkS f (n + 1) = mkS f n ||| ((1 : Int32) <<< (nI n &&& 31)) := if_pos h
theorem mkS_f {f : Nat → Bool} {n : Nat} (h : f n = false) : mkS f (n + 1) = mkS f n := if_neg (by rw [h]; decide)
theorem mk_loop {step : Int32 × Int32 → Option ((Int32 × Int32) ⊕ Int32)} {f : Nat → Bool} {n : Nat} (hn : n < 20000) (h1 : ∀ i, i < n → step (mkS f i, nI i) = some (.inl (mkS f (i + 1), nI (i + 1)))) (h2 : step (mkS f n, nI n) = some (.inr (mkS f n))) : loopF step FU (0, 0) = some (mkS f n) := by
  refine loopF_count (fun i => (mkS f i, nI i)) (mkS f n) n 0 (fun j _ hj => h1 j (by omega)) ?_ FU (by unfold FU; omega)
  rw [Nat.zero_add]; exact h2
def fr7 (A : Gh) (t : Nat) : Bool := decide (gW A t = -1)
def so8 (A : Gh) (t : Nat) : Bool := decide (gW A (8 + t) = 1)
def af9 (A : Gh) (b : Nat) : Bool := !decide (dueS (fun k => gW A (30 + k)) (nI b) (mny (gW A)) ≤ 6 * cF (gK A) (4 * b + 2))
theorem free_class {A : Gh} {σ : Mem} (hA : gOk A) (hc : hasC A) (hC : CRel σ A) : f_Game_freeThings σ = some (mkS (fr7 A) (cT (gK A))) := by
  have t8 := hA.T8
  refine mk_loop (by omega) (fun i hi => ?_) ?_
  · unfold f_Game_freeThings_L4
    dsimp only
    rw [if_pos hC.k.1, hC.k.2.2.1, if_neg (nI_ge hi (by omega)), if_pos (inb_nI (show i < 8 by omega) (by decide)), nI_clamp (by omega), show mI σ 7 i = gW A i from ((hC.n hc).1.1 i (by omega)).1, nI_1]
    by_cases q : gW A i = -1
    · rw [if_pos q, mkS_t (show fr7 A i = true from decide_eq_true q)]
    · rw [if_neg q, mkS_f (show fr7 A i = false from decide_eq_false q)]
  · unfold f_Game_freeThings_L4
    dsimp only
    rw [if_pos hC.k.1, hC.k.2.2.1, if_pos (nI_le (Nat.le_refl _) (by omega))]
theorem free_model {A : Gh} {σ : Mem} (hA : gOk A) (hM : MRel σ A) : f_Model_thoseThings σ 1 = some (mkS (fr7 A) (cT (gK A))) := by
  have t8 := hA.T8
  refine mk_loop (by omega) (fun i hi => ?_) ?_
  · unfold f_Model_thoseThings_L4
    dsimp only
    rw [hM.k.1, if_neg (nI_ge hi (by omega)), if_neg (show ¬ (1 : Int32) = 0 by decide), Model_isFree (Or.inl rfl) hM.k.1 t8 hi, Option.bind_some, hM.w, nI_1]
    by_cases q : gW A i = -1
    · rw [if_pos q, if_neg (show ¬ (1 : Int32) = 0 by decide), mkS_t (show fr7 A i = true from decide_eq_true q)]
    · rw [if_neg q, if_pos (show (0 : Int32) = 0 from rfl), Int32.or_zero, mkS_f (show fr7 A i = false from decide_eq_false q)]
  · unfold f_Model_thoseThings_L4
    dsimp only
    rw [hM.k.1, if_pos (nI_le (Nat.le_refl _) (by omega))]
