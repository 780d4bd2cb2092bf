/-! ask answers alike -/
def agS (f : Nat → Bool) (to : Nat → Nat → Int32) (n v : Nat) : Nat → Nat
  | 0 => 0
  | k + 1 => agS f to n v k + if (f v && f k && decide (to v n = to k n)) = true then 1 else 0
def mgS (f : Nat → Bool) (to : Nat → Nat → Int32) (n : Nat) : Nat → Nat
  | 0 => 0
  | k + 1 => max (mgS f to n k) (agS f to n k 10)
theorem agS_le (f : Nat → Bool) (to : Nat → Nat → Int32) (n v : Nat) : ∀ k, agS f to n v k ≤ k := by
  intro k
  induction k with
  | zero => exact Nat.le_refl _
  | succ k ih => unfold agS; split <;> omega
theorem mgS_le (f : Nat → Bool) (to : Nat → Nat → Int32) (n : Nat) : ∀ k, mgS f to n k ≤ 10 := by
  intro k
  induction k with
  | zero => exact Nat.zero_le _
  | succ k ih =>
    have := agS_le f to n k 10
    unfold mgS
    omega
theorem imax_nI {a b : Nat} (ha : a < 2 ^ 31) (hb : b < 2 ^ 31) : imax (nI a) (nI b) = nI (max a b) := by
  unfold imax
  by_cases q : a < b
  · rw [if_pos (nI_lt q hb), Nat.max_eq_right (by omega)]
  · rw [if_neg (nI_nlt (by omega) ha), Nat.max_eq_left (by omega)]
/-- (best, fewest) behind n hours -/
def asS (f : Nat → Bool) (to : Nat → Nat → Int32) : Nat → Nat × Nat
  | 0 => (0, 11)
  | n + 1 => if (asS f to n).2 ≤ mgS f to (n + 1) 10 then asS f to n else (n + 1, mgS f to (n + 1) 10)
theorem asS_ok (f : Nat → Bool) (to : Nat → Nat → Int32) : ∀ n, (asS f to n).2 ≤ 11 ∧ (asS f to n).1 ≤ n ∧ (1 ≤ n → 1 ≤ (asS f to n).1) := by
  intro n
  induction n with
  | zero => exact ⟨Nat.le_refl _, Nat.le_refl _, fun h => by omega⟩
  | succ n ih =>
    have hm := mgS_le f to (n + 1) 10
    obtain ⟨i1, i2, i3⟩ := ih
    have e : asS f to (n + 1) = if (asS f to n).2 ≤ mgS f to (n + 1) 10 then asS f to n else (n + 1, mgS f to (n + 1) 10) := rfl
    by_cases q : (asS f to n).2 ≤ mgS f to (n + 1) 10
    · rw [e, if_pos q]
      refine ⟨i1, by omega, fun _ => ?_⟩
      by_cases z : n = 0
      · subst z
        have : (asS f to 0).2 = 11 := rfl
        omega
      · exact i3 (by omega)
    · rw [e, if_neg q]
      exact ⟨by show mgS f to (n + 1) 10 ≤ 11; omega, Nat.le_refl _, fun _ => by show 1 ≤ n + 1; omega⟩
theorem and_1 (a b : Int32) : (a &&& b) &&& (1 : Int32) = (a &&& 1) &&& (b &&& 1) := by
  refine Int32.toBitVec_inj.mp ?_
  rw [Int32.toBitVec_and, Int32.toBitVec_and, Int32.toBitVec_and, Int32.toBitVec_and, Int32.toBitVec_and]
  apply BitVec.eq_of_getLsbD_eq
  intro i hi
  rw [BitVec.getLsbD_and, BitVec.getLsbD_and, BitVec.getLsbD_and, BitVec.getLsbD_and, BitVec.getLsbD_and]
  cases a.toBitVec.getLsbD i <;> cases b.toBitVec.getLsbD i <;> cases (1 : Int32).toBitVec.getLsbD i <;> rfl
theorem two_bits {f : Nat → Bool} {i j : Nat} (hi : i < 10) (hj : j < 10) : ((((mkS f 10) >>> (nI i &&& 31)) &&& ((mkS f 10) >>> (nI j &&& 31))) &&& (1 : Int32)) = if (f i && f j) = true then 1 else 0 := by
  rw [and_1, bit_32 _ (by omega), bit_32 _ (by omega), mkS_bit f 10 (by omega) i (by omega), mkS_bit f 10 (by omega) j (by omega), decide_eq_true hi, decide_eq_true hj, Bool.true_and, Bool.true_and]
  cases f i <;> cases f j <;> rfl
theorem most_class {A : Gh} {σ : Mem} {b n : Nat} {f : Nat → Bool} (ht : ToC A b 60 10 0 σ) (n1 : 1 ≤ n) (n2 : n ≤ 60) : f_Guess_mostAgreeing σ (mkS f 10) (nI n) = some (nI (mgS f (toS (gK A) b) n 10)) := by
  have inn : ∀ i, i < 10 → ∀ y3, loopF (f_Guess_mostAgreeing_L18 σ (mkS f 10) (nI n) y3 (nI i)) FU ((0 : Int32), (0 : Int32)) = some (nI (agS f (toS (gK A) b) n i 10)) := fun i hi y3 => by
    refine loopF_count (fun j => (nI (agS f (toS (gK A) b) n i j), nI j)) (nI (agS f (toS (gK A) b) n i 10)) 10 0 (fun j _ hj => ?_) ?_ FU (by unfold FU; omega)
    · have hj : j < 10 := by omega
      have h1 : (nI i * (61 : Int32)) + nI n = nI (61 * i + n) := by rw [show (61 : Int32) = nI 61 from rfl, pk_mul, nI_add, Nat.mul_comm]
      have h2 : (nI j * (61 : Int32)) + nI n = nI (61 * j + n) := by rw [show (61 : Int32) = nI 61 from rfl, pk_mul, nI_add, Nat.mul_comm]
      unfold f_Guess_mostAgreeing_L18
      dsimp only
      rw [if_neg (show ¬ (10 : Int32) ≤ nI j from nI_ge (b := 10) hj (by omega)), two_bits hi hj, h1, h2, if_pos (inb_nI (show 61 * i + n < 610 by omega) (by decide)), if_pos (inb_nI (show 61 * j + n < 610 by omega) (by decide)), nI_clamp (show 61 * i + n < 2 ^ 31 by omega), nI_clamp (show 61 * j + n < 2 ^ 31 by omega), ht i n n1 (by omega), ht j n n1 (by omega), nI_1, nI_1]
      show _ = some (Sum.inl (nI (agS f (toS (gK A) b) n i j + if (f i && f j && decide (toS (gK A) b i n = toS (gK A) b j n)) = true then 1 else 0), nI (j + 1)))
      cases hh : (f i && f j) with
      | true =>
        rw [if_pos rfl, if_pos rfl, Bool.true_and]
        by_cases q : toS (gK A) b i n = toS (gK A) b j n
        · rw [if_pos q, decide_eq_true q]; rfl
        · rw [if_neg q, decide_eq_false q]; rfl
      | false =>
        rw [if_neg (show ¬ (if false = true then (1 : Int32) else 0) = 1 by decide), Bool.false_and]
        rfl
    · unfold f_Guess_mostAgreeing_L18
      dsimp only
      rw [if_pos (show (10 : Int32) ≤ nI (0 + 10) by decide)]
  refine loopF_count (fun i => (nI (mgS f (toS (gK A) b) n i), nI i)) (nI (mgS f (toS (gK A) b) n 10)) 10 0 (fun i _ hi => ?_) ?_ FU (by unfold FU; omega)
  · have a1 := mgS_le f (toS (gK A) b) n i
    have a2 := agS_le f (toS (gK A) b) n i 10
    unfold f_Guess_mostAgreeing_L5
    dsimp only
    rw [if_neg (show ¬ (10 : Int32) ≤ nI i from nI_ge (b := 10) (by omega) (by omega)), inn i (by omega), Option.bind_some, imax_nI (by omega) (by omega), nI_1]
    rfl
  · unfold f_Guess_mostAgreeing_L5
    dsimp only
    rw [if_pos (show (10 : Int32) ≤ nI (0 + 10) by decide)]
theorem most_model {A : Gh} {σ : Mem} {b n : Nat} {x1 y2 y3 : Int32} (hd : DeM A b σ) (n1 : 1 ≤ n) (n2 : n ≤ 60) : loopF (f_Model_ask_L43 σ x1 y2 y3 (nI n)) FU ((0 : Int32), (0 : Int32)) = some (nI (mgS (fiS A b) (toS (gK A) b) n 10)) := by
  obtain ⟨ht, hf⟩ := hd
  have inn : ∀ i, i < 10 → ∀ y5, loopF (f_Model_ask_L56 σ x1 y2 y3 (nI n) y5 (nI i)) FU ((0 : Int32), (0 : Int32)) = some (nI (agS (fiS A b) (toS (gK A) b) n i 10)) := fun i hi y5 => by
    refine loopF_count (fun j => (nI (agS (fiS A b) (toS (gK A) b) n i j), nI j)) (nI (agS (fiS A b) (toS (gK A) b) n i 10)) 10 0 (fun j _ hj => ?_) ?_ FU (by unfold FU; omega)
    · have hj : j < 10 := by omega
      have h1 : ((61 : Int32) * nI i) + nI n = nI (61 * i + n) := by rw [show (61 : Int32) = nI 61 from rfl, pk_mul, nI_add]
      have h2 : ((61 : Int32) * nI j) + nI n = nI (61 * j + n) := by rw [show (61 : Int32) = nI 61 from rfl, pk_mul, nI_add]
      unfold f_Model_ask_L56
      dsimp only
      rw [if_neg (show ¬ (9 : Int32) < nI j from nI_nlt (a := 9) (by omega) (by omega)), if_pos (inb_nI hj (by decide)), if_pos (inb_nI hi (by decide)), h1, h2, if_pos (inb_nI (show 61 * i + n < 610 by omega) (by decide)), if_pos (inb_nI (show 61 * j + n < 610 by omega) (by decide)), nI_clamp (show j < 2 ^ 31 by omega), nI_clamp (show i < 2 ^ 31 by omega), nI_clamp (show 61 * i + n < 2 ^ 31 by omega), nI_clamp (show 61 * j + n < 2 ^ 31 by omega), ht i n n1 (by omega), ht j n n1 (by omega), hf i hi, hf j hj, nI_1, nI_1, Int32.add_zero]
      show _ = some (Sum.inl (nI (agS (fiS A b) (toS (gK A) b) n i j + if (fiS A b i && fiS A b j && decide (toS (gK A) b i n = toS (gK A) b j n)) = true then 1 else 0), nI (j + 1)))
      cases hj' : fiS A b j with
      | false => rw [if_pos (show b01 false = 0 from rfl), Bool.and_false, Bool.false_and]; rfl
      | true =>
        rw [if_neg (show ¬ b01 true = 0 by decide), Bool.and_true]
        cases hi' : fiS A b i with
        | false => rw [if_pos (show b01 false = 0 from rfl), Bool.false_and]; rfl
        | true =>
          rw [if_neg (show ¬ b01 true = 0 by decide), Bool.true_and]
          by_cases q : toS (gK A) b i n = toS (gK A) b j n
          · rw [if_pos q.symm, decide_eq_true q]; rfl
          · rw [if_neg (fun p => q p.symm), decide_eq_false q]; rfl
    · unfold f_Model_ask_L56
      dsimp only
      rw [if_pos (show (9 : Int32) < nI (0 + 10) by decide)]
  refine loopF_count (fun i => (nI (mgS (fiS A b) (toS (gK A) b) n i), nI i)) (nI (mgS (fiS A b) (toS (gK A) b) n 10)) 10 0 (fun i _ hi => ?_) ?_ FU (by unfold FU; omega)
  · have a1 := mgS_le (fiS A b) (toS (gK A) b) n i
    have a2 := agS_le (fiS A b) (toS (gK A) b) n i 10
    unfold f_Model_ask_L43
    dsimp only
    rw [if_neg (show ¬ (9 : Int32) < nI i from nI_nlt (a := 9) (by omega) (by omega)), inn i (by omega), Option.bind_some, imax_nI (by omega) (by omega), nI_1]
    rfl
  · unfold f_Model_ask_L43
    dsimp only
    rw [if_pos (show (9 : Int32) < nI (0 + 10) by decide)]
/-- the best: none is -1 -/
def beS (x : Nat) : Int32 := if x = 0 then -1 else nI x
theorem mk0_iff (f : Nat → Bool) : mkS f 10 = 0 ↔ ctS f 10 = 0 := by
  have h : ∀ n, ctS f n = 0 ↔ ∀ k, k < n → f k = false := by
    intro n
    induction n with
    | zero => exact ⟨fun _ k hk => by omega, fun _ => rfl⟩
    | succ n ih =>
      have e : ctS f (n + 1) = ctS f n + if f n = true then 1 else 0 := rfl
      rw [e]
      constructor
      · intro q k hk
        cases hf : f n with
        | true => rw [hf, if_pos rfl] at q; omega
        | false =>
          rw [hf, if_neg (by decide), Nat.add_zero] at q
          by_cases z : k = n
          · rw [z]; exact hf
          · exact ih.mp q k (by omega)
      · intro q
        rw [q n (by omega), if_neg (by decide), Nat.add_zero]
        exact ih.mpr fun k hk => q k (by omega)
  rw [h 10]
  constructor
  · intro q k hk
    have := mkS_bit f 10 (by omega) k (by omega)
    rw [q, z_b32 k (by omega), decide_eq_true hk, Bool.true_and] at this
    exact this.symm
  · intro q
    rw [mkS_congr (g := fun _ => false) 10 fun k hk => q k hk]
    rfl
theorem ask_class {A : Gh} {σ : Mem} {b : Nat} (hA : gOk A) (hc : hasC A) (hC : CRel σ A) (ht : ToC A b 60 10 0 σ) : f_Guess_hoursToAsk σ = some (if ctS (fiS A b) 10 = 0 then -1 else beS (asS (fiS A b) (toS (gK A) b) 60).1) := by
  have hs : ∀ i, i < (gS A).1 → ((gS A).2 (3 * i)).toNatClampNeg ≤ 60 := fun i hi => by
    obtain ⟨n, n1, n2, n3, -⟩ := seen_ok hc hi
    rw [n3, nI_clamp (by omega)]
    exact n2
  unfold f_Guess_hoursToAsk
  rw [fitting_class hA hc hC ht hs, Option.bind_some]
  by_cases q : ctS (fiS A b) 10 = 0
  · rw [if_pos ((mk0_iff _).mpr q), if_pos q]
  · rw [if_neg (fun p => q ((mk0_iff _).mp p)), if_neg q]
    refine loopF_count (fun i => (beS (asS (fiS A b) (toS (gK A) b) i).1, nI (asS (fiS A b) (toS (gK A) b) i).2, nI (1 + i))) _ 60 0 (fun i _ hi => ?_) ?_ FU (by unfold FU; omega)
    · obtain ⟨a1, a2, a3⟩ := asS_ok (fiS A b) (toS (gK A) b) i
      have a4 := mgS_le (fiS A b) (toS (gK A) b) (i + 1) 10
      have e : asS (fiS A b) (toS (gK A) b) (i + 1) = if (asS (fiS A b) (toS (gK A) b) i).2 ≤ mgS (fiS A b) (toS (gK A) b) (i + 1) 10 then asS (fiS A b) (toS (gK A) b) i else (i + 1, mgS (fiS A b) (toS (gK A) b) (i + 1) 10) := rfl
      unfold f_Guess_hoursToAsk_L19
      dsimp only
      rw [if_neg (show ¬ (60 : Int32) < nI (1 + i) from nI_nlt (a := 60) (by omega) (by omega)), most_class ht (by omega) (by omega), Option.bind_some, nI_1, Nat.add_comm 1 i, e]
      by_cases p : (asS (fiS A b) (toS (gK A) b) i).2 ≤ mgS (fiS A b) (toS (gK A) b) (i + 1) 10
      · rw [if_pos (nI_le p (by omega)), if_pos p, Nat.add_comm 1 (i + 1)]
      · rw [if_neg (nI_ge (by omega) (by omega)), if_neg p, Nat.add_comm 1 (i + 1)]
        show _ = some (Sum.inl (beS (i + 1), _, _))
        unfold beS
        rw [if_neg (by omega)]
    · unfold f_Guess_hoursToAsk_L19
      dsimp only
      rw [if_pos (show (60 : Int32) < nI (1 + (0 + 60)) by decide)]
theorem ask_model {A : Gh} {σ : Mem} {b : Nat} {x1 : Int32} (hd : DeM A b σ) : loopF (f_Model_ask_L30 σ x1) FU ((-1 : Int32), (0 : Int32), (1 : Int32)) = some (beS (asS (fiS A b) (toS (gK A) b) 60).1, σ) := by
  have first : f_Model_ask_L30 σ x1 ((-1 : Int32), (0 : Int32), (1 : Int32)) = some (.inl (nI 1, nI (mgS (fiS A b) (toS (gK A) b) 1 10), nI (1 + 1))) := by
    unfold f_Model_ask_L30
    dsimp only
    rw [if_neg (show ¬ (60 : Int32) < 1 by decide), show (1 : Int32) = nI 1 from rfl, most_model hd (by omega) (by omega), Option.bind_some, if_pos rfl, nI_add]
  have e1 : asS (fiS A b) (toS (gK A) b) 1 = (1, mgS (fiS A b) (toS (gK A) b) 1 10) := by
    have := mgS_le (fiS A b) (toS (gK A) b) 1 10
    show (if 11 ≤ mgS (fiS A b) (toS (gK A) b) 1 10 then _ else _) = _
    rw [if_neg (by omega)]
  obtain ⟨m, hm⟩ := FU_at 1 (by omega)
  have hm2 : 59 < m := by unfold FU at hm; omega
  rw [hm, loopF_inl first]
  have key := loopF_count (step := f_Model_ask_L30 σ x1) (fun i => (nI (asS (fiS A b) (toS (gK A) b) i).1, nI (asS (fiS A b) (toS (gK A) b) i).2, nI (1 + i))) (beS (asS (fiS A b) (toS (gK A) b) 60).1, σ) 59 1 (fun i i1 hi => by
    obtain ⟨a1, a2, a3⟩ := asS_ok (fiS A b) (toS (gK A) b) i
    have a4 := mgS_le (fiS A b) (toS (gK A) b) (i + 1) 10
    have e : asS (fiS A b) (toS (gK A) b) (i + 1) = if (asS (fiS A b) (toS (gK A) b) i).2 ≤ mgS (fiS A b) (toS (gK A) b) (i + 1) 10 then asS (fiS A b) (toS (gK A) b) i else (i + 1, mgS (fiS A b) (toS (gK A) b) (i + 1) 10) := rfl
    unfold f_Model_ask_L30
    dsimp only
    rw [if_neg (show ¬ (60 : Int32) < nI (1 + i) from nI_nlt (a := 60) (by omega) (by omega)), most_model hd (by omega) (by omega), Option.bind_some, nI_1, Nat.add_comm 1 i, e, if_neg (nI_ne_m1 (by omega))]
    by_cases p : (asS (fiS A b) (toS (gK A) b) i).2 ≤ mgS (fiS A b) (toS (gK A) b) (i + 1) 10
    · rw [if_neg (nI_nlt p (by omega)), if_pos p, Nat.add_comm 1 (i + 1)]
    · rw [if_pos (nI_lt (by omega) (by omega)), if_neg p, Nat.add_comm 1 (i + 1)]) (by
    have a3 := (asS_ok (fiS A b) (toS (gK A) b) 60).2.2 (by omega)
    unfold f_Model_ask_L30 beS
    dsimp only
    rw [if_pos (show (60 : Int32) < nI (1 + (1 + 59)) by decide), if_neg (by omega)]) m hm2
  rw [e1] at key
  exact key
theorem sim_ask (x : Int32) : Sim (fun σ => f_Game_ask σ x) (fun σ => f_Model_ask σ x) := Sim.ro fun A hA => by
  have b6 := hA.B6
  rcases isS_ty (cB (gK A)) x (by omega) with q | ⟨q, b, b1, rfl⟩
  · refine ⟨-1, fun σ hC => ⟨σ, ?_, SC.refl _ _ _⟩, fun σ hM => ⟨_, ?_, SM_0 (v := 0) hM⟩⟩
    · unfold f_Game_ask; rw [Trade_isBuyer hC.k, q]; rfl
    · unfold f_Model_ask; rw [Model_isBuyer (hM.z (v := 0) hA).k, q]; rfl
  · have hc := hA.city (Or.inr (by omega))
    refine ⟨if ctS (fiS A b) 10 = 0 then -1 else beS (asS (fiS A b) (toS (gK A) b) 60).1, fun σ hC => ?_, fun σ hM => ?_⟩
    · obtain ⟨σ', g1, g2, g3⟩ := fore_class (H := 60) hA hc hC b1 (by omega)
      have sc := SC_ge hA hC g2
      refine ⟨σ', ?_, sc⟩
      show f_Game_ask σ (nI b) = _
      unfold f_Game_ask
      rw [Trade_isBuyer hC.k, q, Option.bind_some, if_neg (by decide), show (60 : Int32) = nI 60 from rfl, g1, Option.bind_some, ask_class hA hc (hC.scr sc) g3]
      rfl
    · have hz := hM.z (v := 0) hA
      obtain ⟨σ', g1, g2, g3⟩ := des_model hA hc hz b1
      refine ⟨σ', ?_, (SM_0 (v := 0) hM).trans g2⟩
      show f_Model_ask σ (nI b) = _
      unfold f_Model_ask
      rw [Model_isBuyer hz.k, q, Option.bind_some, if_neg (by decide), g1, Option.bind_some]
      dsimp only
      have c10 : ctS (fiS A b) 10 < 2 ^ 31 := by
        have h : ∀ n, ctS (fiS A b) n ≤ n := by
          intro n
          induction n with
          | zero => exact Nat.le_refl _
          | succ n ih => unfold ctS; split <;> omega
        have := h 10
        omega
      by_cases p : ctS (fiS A b) 10 = 0
      · rw [if_pos (show nI (ctS (fiS A b) 10) = 0 by rw [p]; rfl), if_pos p]
      · rw [if_neg (nI_ne0 (by omega) c10), if_neg p]
        exact ask_model g3
