/-! desires, ask: masks of ten -/
theorem sm32 : ∀ t, t < 32 → ((nI t &&& (31 : Int32)).toBitVec.smod 32) = BitVec.ofNat 32 t := by decide +kernel
theorem bit_32 (x : Int32) {t : Nat} (ht : t < 32) : (x >>> (nI t &&& 31)) &&& (1 : Int32) = if x.toBitVec.getLsbD t = true then 1 else 0 := by
  refine Int32.toBitVec_inj.mp ?_
  have e : ((x >>> (nI t &&& 31)) &&& (1 : Int32)).toBitVec = x.toBitVec.sshiftRight t &&& 1#32 := by
    rw [Int32.toBitVec_and, Int32.toBitVec_shiftRight, sm32 t ht]
    show x.toBitVec.sshiftRight (BitVec.ofNat 32 t).toNat &&& 1#32 = _
    rw [BitVec.toNat_ofNat, Nat.mod_eq_of_lt (by omega)]
  rw [e, bit_bv _ _ ht]
  split <;> rfl
theorem sh_b32 : ∀ u, u < 32 → ∀ t, t < 32 → ((1 : Int32) <<< (nI u &&& 31)).toBitVec.getLsbD t = decide (t = u) := by decide +kernel
theorem z_b32 : ∀ t, t < 32 → (0 : Int32).toBitVec.getLsbD t = false := by decide +kernel
theorem mkS_bit (f : Nat → Bool) : ∀ n, n ≤ 32 → ∀ t, t < 32 → (mkS f n).toBitVec.getLsbD t = (decide (t < n) && f t) := by
  intro n
  induction n with
  | zero => intro _ t ht; rw [show mkS f 0 = 0 from rfl, z_b32 t ht]; rfl
  | succ n ih =>
    intro hn t ht
    cases hf : f n with
    | true =>
      rw [mkS_t hf, Int32.toBitVec_or, BitVec.getLsbD_or, ih (by omega) t ht, sh_b32 n (by omega) t ht]
      by_cases e : t = n
      · subst e; simp [hf]
      · rw [show decide (t < n + 1) = decide (t < n) from decide_eq_decide.mpr (by omega), decide_eq_false e, Bool.or_false]
    | false =>
      rw [mkS_f hf, ih (by omega) t ht]
      by_cases e : t = n
      · subst e; simp [hf]
      · rw [show decide (t < n + 1) = decide (t < n) from decide_eq_decide.mpr (by omega)]
theorem mkS_congr {f g : Nat → Bool} : ∀ n, (∀ k, k < n → f k = g k) → mkS f n = mkS g n := by
  intro n
  induction n with
  | zero => intro _; rfl
  | succ n ih =>
    intro h
    have e := ih fun k hk => h k (by omega)
    have e2 := h n (by omega)
    cases hf : f n with
    | true => rw [mkS_t hf, mkS_t (e2 ▸ hf), e]
    | false => rw [mkS_f hf, mkS_f (e2 ▸ hf), e]
theorem ctS_congr {f g : Nat → Bool} : ∀ n, (∀ k, k < n → f k = g k) → ctS f n = ctS g n := by
  intro n
  induction n with
  | zero => intro _; rfl
  | succ n ih =>
    intro h
    show ctS f n + (if f n = true then 1 else 0) = ctS g n + (if g n = true then 1 else 0)
    rw [ih fun k hk => h k (by omega), h n (by omega)]
def m00 : Mem := (fun _ _ => 0, fun _ _ => 0, fun _ _ => 0)
theorem bc_tab : ∀ a b c d e f g h i j : Bool, f_Integer_bitCount m00 (mkS (fun k => [a, b, c, d, e, f, g, h, i, j].getD k false) 10) = some (nI (ctS (fun k => [a, b, c, d, e, f, g, h, i, j].getD k false) 10)) := by decide +kernel
theorem ten (f : Nat → Bool) : ∀ k, k < 10 → f k = [f 0, f 1, f 2, f 3, f 4, f 5, f 6, f 7, f 8, f 9].getD k false := by
  intro k hk
  rcases (show k = 0 ∨ k = 1 ∨ k = 2 ∨ k = 3 ∨ k = 4 ∨ k = 5 ∨ k = 6 ∨ k = 7 ∨ k = 8 ∨ k = 9 by omega) with rfl | rfl | rfl | rfl | rfl | rfl | rfl | rfl | rfl | rfl <;> rfl
theorem bc_mk (σ : Mem) (f : Nat → Bool) : f_Integer_bitCount σ (mkS f 10) = some (nI (ctS f 10)) := by
  rw [mkS_congr 10 (ten f), ctS_congr 10 (ten f)]
  exact bc_tab _ _ _ _ _ _ _ _ _ _
/-! the i-th -/
def nthS (f : Nat → Bool) : Nat → Nat → Nat → Int32
  | 0, _, _ => -1
  | k + 1, v, l => if f v = true then (if l = 0 then nI v else nthS f k (v + 1) (l - 1)) else nthS f k (v + 1) l
theorem nthS_no (f : Nat → Bool) : ∀ k v l, (∀ u, v ≤ u → u < v + k → f u = false) → nthS f k v l = -1 := by
  intro k
  induction k with
  | zero => intro v l _; rfl
  | succ k ih =>
    intro v l h
    unfold nthS
    rw [h v (by omega) (by omega), if_neg (by decide)]
    exact ih (v + 1) l fun u h1 h2 => h u (by omega) (by omega)
theorem nthS_ge (f : Nat → Bool) : ∀ k v l, k ≤ l → nthS f k v l = -1 := by
  intro k
  induction k with
  | zero => intro v l _; rfl
  | succ k ih =>
    intro v l h
    unfold nthS
    rw [if_neg (show ¬ l = 0 by omega), ih (v + 1) (l - 1) (by omega), ih (v + 1) l (by omega)]
    split <;> rfl
theorem nthS_cut (f g : Nat → Bool) (j : Nat) : ∀ k v l, (∀ u, v ≤ u → u < v + k → f u = g u) → (∀ u, v + k ≤ u → u < v + k + j → f u = false) → nthS f (k + j) v l = nthS g k v l := by
  intro k
  induction k with
  | zero => intro v l _ h; rw [Nat.zero_add]; exact nthS_no f j v l fun u h1 h2 => h u (by omega) (by omega)
  | succ k ih =>
    intro v l h h2
    rw [show k + 1 + j = (k + j) + 1 by omega]
    unfold nthS
    rw [h v (by omega) (by omega), ih (v + 1) l (fun u a b => h u (by omega) (by omega)) (fun u a b => h2 u (by omega) (by omega)), ih (v + 1) (l - 1) (fun u a b => h u (by omega) (by omega)) (fun u a b => h2 u (by omega) (by omega))]
theorem nth_class (σ : Mem) (x x2 : Int32) (f : Nat → Bool) (hx : ∀ t, t < 32 → x.toBitVec.getLsbD t = f t) : ∀ k v l, v + k = 32 → l < 2 ^ 31 → ∀ m, k < m → loopF (f_Game_nthOrCount_L15 σ x x2) m (nI l, nI v) = some (nthS f k v l) := by
  intro k
  induction k with
  | zero =>
    intro v l hv hl m hm
    obtain ⟨m, rfl⟩ : ∃ k, m = k + 1 := ⟨m - 1, by omega⟩
    refine loopF_inr ?_
    unfold f_Game_nthOrCount_L15
    dsimp only
    rw [if_pos (show (32 : Int32) ≤ nI v from nI_le (a := 32) (by omega) (by omega))]
    rfl
  | succ k ih =>
    intro v l hv hl m hm
    obtain ⟨m, rfl⟩ : ∃ k, m = k + 1 := ⟨m - 1, by omega⟩
    have st : f_Game_nthOrCount_L15 σ x x2 (nI l, nI v) = if f v = true then (if nI l = (0 : Int32) then some (.inr (nI v)) else some (.inl (nI l + (-1 : Int32), nI (v + 1)))) else some (.inl (nI l, nI (v + 1))) := by
      unfold f_Game_nthOrCount_L15
      dsimp only
      rw [if_neg (show ¬ (32 : Int32) ≤ nI v from nI_ge (b := 32) (by omega) (by omega)), bit_32 x (show v < 32 by omega), hx v (by omega), nI_1]
      cases hf : f v with
      | true => rw [if_pos rfl, if_neg (by decide), if_pos rfl]
      | false => rw [if_pos (show (if false = true then (1 : Int32) else 0) = 0 from rfl), if_neg (show ¬ false = true by decide)]
    unfold nthS
    cases hf : f v with
    | true =>
      rw [hf, if_pos rfl] at st
      rw [if_pos rfl]
      by_cases q : l = 0
      · rw [if_pos (show nI l = (0 : Int32) by rw [q]; rfl)] at st
        rw [if_pos q]
        exact loopF_inr st
      · rw [if_neg (nI_ne0 (by omega) hl), show nI l + (-1 : Int32) = nI (l - 1) by rw [← z_sub1 (by omega), Int32.sub_eq_add_neg]] at st
        rw [if_neg q]
        exact (loopF_inl st).trans (ih (v + 1) (l - 1) (by omega) (by omega) m (by omega))
    | false =>
      rw [hf, if_neg (by decide)] at st
      rw [if_neg (by decide)]
      exact (loopF_inl st).trans (ih (v + 1) l (by omega) hl m (by omega))
theorem nthOr_class (σ : Mem) (f : Nat → Bool) (i : Nat) (hi : i < 2 ^ 31) : f_Game_nthOrCount σ (mkS f 10) (nI i) = some (nthS f 10 0 i) := by
  unfold f_Game_nthOrCount
  rw [if_neg (nI_ne_m1 hi)]
  have h := nth_class σ (mkS f 10) (nI i) (fun t => decide (t < 10) && f t) (fun t ht => mkS_bit f 10 (by omega) t ht) 32 0 i rfl hi FU (by unfold FU; omega)
  rw [nthS_cut (fun t => decide (t < 10) && f t) f 22 10 0 i (fun u _ h2 => by rw [decide_eq_true (show u < 10 by omega), Bool.true_and]) (fun u h1 _ => by rw [decide_eq_false (show ¬ u < 10 by omega), Bool.false_and])] at h
  exact h
theorem nth_model {σ : Mem} {x1 : Int32} {f : Nat → Bool} {i : Nat} (hi : i < 2 ^ 31) (hf : ∀ v, v < 10 → mI σ 587 v = b01 (f v)) : ∀ k v n, v + k = 10 → n ≤ i → ∀ m, k < m → loopF (f_Model_desires_L39 σ x1 (nI i)) m (nI n, nI v) = some (nthS f k v (i - n), σ) := by
  intro k
  induction k with
  | zero =>
    intro v n hv hn m hm
    obtain ⟨m, rfl⟩ : ∃ k, m = k + 1 := ⟨m - 1, by omega⟩
    refine loopF_inr ?_
    unfold f_Model_desires_L39
    dsimp only
    rw [if_pos (show (9 : Int32) < nI v from nI_lt (a := 9) (by omega) (by omega))]
    rfl
  | succ k ih =>
    intro v n hv hn m hm
    obtain ⟨m, rfl⟩ : ∃ k, m = k + 1 := ⟨m - 1, by omega⟩
    have st : f_Model_desires_L39 σ x1 (nI i) (nI n, nI v) = if f v = true then (if n = i then some (.inr (nI v, σ)) else some (.inl (nI (n + 1), nI (v + 1)))) else some (.inl (nI n, nI (v + 1))) := by
      unfold f_Model_desires_L39
      dsimp only
      rw [if_neg (show ¬ (9 : Int32) < nI v from nI_nlt (a := 9) (by omega) (by omega)), if_pos (inb_nI (show v < 10 by omega) (by decide)), nI_clamp (show v < 2 ^ 31 by omega), hf v (by omega), nI_1, nI_1]
      cases hf : f v with
      | true =>
        rw [if_neg (show ¬ b01 true = 0 by decide), if_pos rfl]
        by_cases q : n = i
        · rw [if_pos (by rw [q]), if_pos q]
        · rw [if_neg (fun p => q ((nI_eq (by omega) hi).mp p)), if_neg q]
      | false => rw [if_pos (show b01 false = 0 from rfl), if_neg (show ¬ false = true by decide)]
    unfold nthS
    cases hf : f v with
    | true =>
      rw [hf, if_pos rfl] at st
      rw [if_pos rfl]
      by_cases q : n = i
      · rw [if_pos q] at st
        rw [if_pos (by omega)]
        exact loopF_inr st
      · rw [if_neg q] at st
        rw [if_neg (by omega), show i - n - 1 = i - (n + 1) by omega]
        exact (loopF_inl st).trans (ih (v + 1) (n + 1) (by omega) (by omega) m (by omega))
    | false =>
      rw [hf, if_neg (by decide)] at st
      rw [if_neg (by decide)]
      exact (loopF_inl st).trans (ih (v + 1) n (by omega) hn m (by omega))
theorem sim_desires (x y : Int32) : Sim (fun σ => f_Game_desires σ x y) (fun σ => f_Model_desires σ x y) := Sim.ro fun A hA => by
  have b6 := hA.B6
  have no : (∀ σ, CRel σ A → f_Game_desires σ x y = some (-1, σ)) → (∀ σ, MRel σ A → f_Model_desires σ x y = some (-1, sI σ 565 0 0)) → ∃ r, (∀ σ, CRel σ A → ∃ σ', (fun σ => f_Game_desires σ x y) σ = some (r, σ') ∧ SC (gL A).1 (gD A).1 σ σ') ∧ (∀ σ, MRel σ A → ∃ σ', (fun σ => f_Model_desires σ x y) σ = some (r, σ') ∧ SM (gL A).1 (gL A).2.1 σ σ') := fun h1 h2 =>
    ⟨-1, fun σ hC => ⟨σ, h1 σ hC, SC.refl _ _ _⟩, fun σ hM => ⟨_, h2 σ hM, SM_0 (v := 0) hM⟩⟩
  rcases isS_ty (cB (gK A)) x (by omega) with q | ⟨q, b, b1, rfl⟩
  · refine no (fun σ hC => ?_) (fun σ hM => ?_)
    · unfold f_Game_desires; rw [Trade_isBuyer hC.k, q]; rfl
    · unfold f_Model_desires; rw [Model_isBuyer (hM.z (v := 0) hA).k, q]; rfl
  · have hc := hA.city (Or.inr (by omega))
    have c0 : ∀ σ, CRel σ A → f_Game_desires σ (nI b) y = if y < (-1 : Int32) then some (-1, σ) else if y < (10 : Int32) then (f_Guess_latestSeen σ).bind fun q5 => (f_Guess_foretell σ (nI b) q5).bind fun q6 => (f_Guess_fitting q6).bind fun q7 => (f_Game_nthOrCount q6 q7 y).bind fun q8 => some (q8, q6) else some (-1, σ) := fun σ hC => by
      unfold f_Game_desires
      rw [Trade_isBuyer hC.k, q, Option.bind_some, if_neg (by decide)]
    have cg : ∀ σ, CRel σ A → y < (10 : Int32) → ¬ y < (-1 : Int32) → ∃ σ', f_Game_desires σ (nI b) y = ((f_Game_nthOrCount σ' (mkS (fiS A b) 10) y).bind fun q8 => some (q8, σ')) ∧ SC (gL A).1 (gD A).1 σ σ' := fun σ hC h1 h2 => by
      obtain ⟨H, H1, H2, H3⟩ := latest_class hA hc hC
      obtain ⟨σ', g1, g2, g3⟩ := fore_class hA hc hC b1 H1
      have sc := SC_ge hA hC g2
      refine ⟨σ', ?_, sc⟩
      rw [c0 σ hC, if_neg h2, if_pos h1, H2, Option.bind_some, g1, Option.bind_some, fitting_class hA hc (hC.scr sc) g3 H3, Option.bind_some]
    have m0 : ∀ σ, MRel σ A → f_Model_desires σ (nI b) y = if (-1 : Int32) ≤ y then (f_Model_laysDesires (sI σ 565 0 0) (nI b)).bind fun q4 => if y = (-1 : Int32) then some (q4.1, q4.2) else loopF (f_Model_desires_L39 q4.2 (nI b) y) FU ((0 : Int32), (0 : Int32)) else some (-1, sI σ 565 0 0) := fun σ hM => by
      unfold f_Model_desires
      rw [Model_isBuyer (hM.z (v := 0) hA).k, q, Option.bind_some, if_neg (by decide)]
    by_cases p1 : y < (-1 : Int32)
    · exact no (fun σ hC => by rw [c0 σ hC, if_pos p1]) (fun σ hM => by rw [m0 σ hM, if_neg (Int32.not_le.mpr p1)])
    · have p2 : (-1 : Int32) ≤ y := Int32.not_lt.mp p1
      by_cases p3 : y = (-1 : Int32)
      · subst p3
        refine ⟨nI (ctS (fiS A b) 10), fun σ hC => ?_, fun σ hM => ?_⟩
        · obtain ⟨σ', g1, g2⟩ := cg σ hC (by decide) p1
          refine ⟨σ', ?_, g2⟩
          show f_Game_desires σ (nI b) (-1) = _
          rw [g1]
          unfold f_Game_nthOrCount
          rw [if_pos rfl, bc_mk]
          rfl
        · have hz := hM.z (v := 0) hA
          obtain ⟨σ', g1, g2, g3⟩ := des_model hA hc hz b1
          refine ⟨σ', ?_, (SM_0 (v := 0) hM).trans g2⟩
          show f_Model_desires σ (nI b) (-1) = _
          rw [m0 σ hM, if_pos p2, g1]
          rfl
      · have p4 : ¬ y < (0 : Int32) := fun h => p3 (by
          rw [Int32.lt_iff_toInt_lt] at h
          rw [Int32.le_iff_toInt_le] at p2
          refine Int32.toInt_inj.mp ?_
          have a1 : (-1 : Int32).toInt = -1 := by decide
          have a2 : (0 : Int32).toInt = 0 := by decide
          omega)
        obtain ⟨i, i1, rfl⟩ := nI_of p4
        refine ⟨nthS (fiS A b) 10 0 i, fun σ hC => ?_, fun σ hM => ?_⟩
        · by_cases p5 : i < 10
          · obtain ⟨σ', g1, g2⟩ := cg σ hC (nI_lt (b := 10) p5 (by omega)) p1
            refine ⟨σ', ?_, g2⟩
            show f_Game_desires σ (nI b) (nI i) = _
            rw [g1, nthOr_class σ' _ i i1]
            rfl
          · refine ⟨σ, ?_, SC.refl _ _ _⟩
            show f_Game_desires σ (nI b) (nI i) = _
            rw [c0 σ hC, if_neg p1, if_neg (show ¬ nI i < (10 : Int32) from nI_nlt (b := 10) (by omega) i1), nthS_ge _ 10 0 i (by omega)]
        · have hz := hM.z (v := 0) hA
          obtain ⟨σ', g1, g2, g3⟩ := des_model hA hc hz b1
          refine ⟨σ', ?_, (SM_0 (v := 0) hM).trans g2⟩
          show f_Model_desires σ (nI b) (nI i) = _
          rw [m0 σ hM, if_pos p2, g1, Option.bind_some, if_neg p3]
          exact nth_model i1 g3.2 10 0 0 rfl (Nat.zero_le _) FU (by unfold FU; omega)
