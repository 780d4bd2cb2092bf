/-! all: the other masks -/
theorem sold_class {A : Gh} {σ : Mem} (hA : gOk A) (hc : hasC A) (hC : CRel σ A) : f_Game_soldThings σ = some (mkS (so8 A) (cT (gK A))) := by
  have t8 := hA.T8
  refine mk_loop (by omega) (fun i hi => ?_) ?_
  · unfold f_Game_soldThings_L4
    dsimp only
    rw [if_pos hC.k.1, hC.k.2.2.1, if_neg (nI_ge hi (by omega)), if_pos (inb_nI (show i < 8 by omega) (by decide)), nI_clamp (by omega), show mI σ 8 i = gW A (8 + i) from ((hC.n hc).1.1 i (by omega)).2.1, nI_1]
    rcases hc.2.2.2.1.1.2.1.2.1 i hi with q | ⟨q, -⟩
    · rw [q, mkS_f (show so8 A i = false from decide_eq_false (by rw [q]; decide)), show (0 : Int32) <<< (nI i &&& 31) = 0 from Int32.zero_shiftLeft, Int32.or_zero]
    · rw [q, mkS_t (show so8 A i = true from decide_eq_true q)]
  · unfold f_Game_soldThings_L4
    dsimp only
    rw [if_pos hC.k.1, hC.k.2.2.1, if_pos (nI_le (Nat.le_refl _) (by omega))]
theorem sold_model {A : Gh} {σ : Mem} (hA : gOk A) (hM : MRel σ A) : f_Model_thoseThings σ 0 = some (mkS (so8 A) (cT (gK A))) := by
  have t8 := hA.T8
  refine mk_loop (by omega) (fun i hi => ?_) ?_
  · unfold f_Model_thoseThings_L4
    dsimp only
    rw [hM.k.1, if_neg (nI_ge hi (by omega)), if_pos (show (0 : Int32) = 0 from rfl), show (8 : Int32) = nI 8 from rfl, nI_add, if_pos (inb_nI (show 8 + i < 312 by omega) (by decide)), nI_clamp (by omega), hM.w, nI_1]
    by_cases q : gW A (8 + i) = 1
    · rw [if_pos q, mkS_t (show so8 A i = true from decide_eq_true q)]
    · rw [if_neg q, Int32.or_zero, mkS_f (show so8 A i = false from decide_eq_false q)]
  · unfold f_Model_thoseThings_L4
    dsimp only
    rw [hM.k.1, if_pos (nI_le (Nat.le_refl _) (by omega))]
theorem afraid_class {A : Gh} {σ : Mem} (hA : gOk A) (hc : hasC A) (hC : CRel σ A) : f_Game_afraid σ = some (mkS (af9 A) (cB (gK A))) := by
  have b6 := hA.B6
  obtain ⟨n, n1, n2, -⟩ := hc.2.2.2.1.1.1
  refine mk_loop (by omega) (fun i hi => ?_) ?_
  · unfold f_Game_afraid_L4
    dsimp only
    rw [if_pos hC.k.1, hC.k.2.2.2.1, if_neg (nI_ge hi (by omega)), Trade_isAfraid hc.2.2.1 hC.k (hC.n hc).1 n1 n2 hi, Option.bind_some, nI_1]
    by_cases q : dueS (fun k => gW A (30 + k)) (nI i) n ≤ 6 * cF (gK A) (4 * i + 2)
    · rw [if_pos q, if_pos (show (0 : Int32) = 0 from rfl), mkS_f (show af9 A i = false by unfold af9; rw [mny_eq n1 n2, decide_eq_true q]; rfl)]
    · rw [if_neg q, if_neg (show ¬ (1 : Int32) = 0 by decide), mkS_t (show af9 A i = true by unfold af9; rw [mny_eq n1 n2, decide_eq_false q]; rfl)]
  · unfold f_Game_afraid_L4
    dsimp only
    rw [if_pos hC.k.1, hC.k.2.2.2.1, if_pos (nI_le (Nat.le_refl _) (by omega))]
theorem afraid_model {A : Gh} {σ : Mem} (hA : gOk A) (hc : hasC A) (hM : MRel σ A) : f_Model_afraid σ = some (mkS (af9 A) (cB (gK A))) := by
  have b6 := hA.B6
  obtain ⟨n, n1, n2, -⟩ := hc.2.2.2.1.1.1
  refine mk_loop (by omega) (fun i hi => ?_) ?_
  · unfold f_Model_afraid_L4
    dsimp only
    rw [hM.k.2.1, if_neg (nI_ge hi (by omega)), Model_dueOf (n := n) (by decide +kernel) (by rw [hM.w]; exact n2) n1, Option.bind_some, nI_4mul, show nI (4 * i) + (2 : Int32) = nI (4 * i + 2) from nI_addc _ 2, if_pos (inb_nI (show 4 * i + 2 < 24 by omega) (by decide)), nI_clamp (by omega), hM.k.2.2.2.2.1, hM.w, nI_1]
    by_cases q : dueS (fun k => gW A (30 + k)) (nI i) n ≤ 6 * cF (gK A) (4 * i + 2)
    · rw [if_pos q, Int32.or_zero, mkS_f (show af9 A i = false by unfold af9; rw [mny_eq n1 n2, decide_eq_true q]; rfl)]
    · rw [if_neg q, mkS_t (show af9 A i = true by unfold af9; rw [mny_eq n1 n2, decide_eq_false q]; rfl)]
  · unfold f_Model_afraid_L4
    dsimp only
    rw [hM.k.2.1, if_pos (nI_le (Nat.le_refl _) (by omega))]
