/-! feed answers alike -/
def by8 (x : Int32) (k : Nat) : Int32 := iush x (nI k) &&& (255 : Int32)
theorem and255 (y : Int32) : ∃ c, c < 256 ∧ y &&& (255 : Int32) = nI c := by
  refine ⟨(y.toBitVec &&& 255#32).toNat, ?_, ?_⟩
  · rw [BitVec.toNat_and]
    exact Nat.lt_of_le_of_lt Nat.and_le_right (by decide)
  · refine Int32.toBitVec_inj.mp ?_
    show y.toBitVec &&& 255#32 = BitVec.ofNat 32 _
    rw [BitVec.ofNat_toNat]
    simp
theorem and8 (y : Int32) : (y &&& (255 : Int32)).toInt8 = y.toInt8 := by
  refine Int8.toBitVec_inj.mp ?_
  rw [Int32.toBitVec_toInt8, Int32.toBitVec_toInt8, Int32.toBitVec_and]
  apply BitVec.eq_of_getLsbD_eq
  intro i hi
  have h : ∀ i, i < 8 → (255 : Int32).toBitVec.getLsbD i = true := by decide
  rw [BitVec.getLsbD_signExtend, BitVec.getLsbD_signExtend, BitVec.getLsbD_and, h i hi, Bool.and_true]
  simp [show i < 32 by omega]
def n1 (c : Int32) : Nat := if c = 0 then 0 else 1
theorem n1_0 {c : Int32} (h : c = 0) : n1 c = 0 := if_pos h
theorem n1_1 {c : Int32} (h : ¬ c = 0) : n1 c = 1 := if_neg h
def apS (t : gTt) (c : Int32) : gTt := if c = 0 then t else (t.1 + 1, upd t.2 t.1 c)
theorem apS_0 {t : gTt} {c : Int32} (h : c = 0) : apS t c = t := if_pos h
theorem apS_1 {t : gTt} {c : Int32} (h : ¬ c = 0) : apS t c = (t.1 + 1, upd t.2 t.1 c) := if_neg h
theorem apS_len (t : gTt) (c : Int32) : (apS t c).1 = t.1 + n1 c := by
  by_cases h : c = 0
  · rw [apS_0 h, n1_0 h]; rfl
  · rw [apS_1 h, n1_1 h]
theorem apS_ok {t : gTt} {c : Int32} (h : okT t) (hl : t.1 + n1 c ≤ 240) (hc : ∃ k, k < 256 ∧ c = nI k) : okT (apS t c) := by
  by_cases q : c = 0
  · rw [apS_0 q]; exact h
  · rw [n1_1 q] at hl
    rw [apS_1 q]
    refine ⟨hl, fun i hi => ?_⟩
    show ∃ k, _ ∧ _ ∧ upd t.2 t.1 c i = nI k
    rw [upd_at]
    by_cases e : i = t.1
    · obtain ⟨k, k1, k2⟩ := hc
      rw [if_pos e]
      refine ⟨k, Nat.pos_of_ne_zero fun z => q (by rw [k2, z]; rfl), k1, k2⟩
    · rw [if_neg e]
      exact h.2 i (by have : i < t.1 + 1 := hi; omega)
def feS (t : gTt) (x : Int32) : gTt := apS (apS (apS (apS t (by8 x 24)) (by8 x 16)) (by8 x 8)) (by8 x 0)
def ncS (x : Int32) : Nat := n1 (by8 x 24) + n1 (by8 x 16) + n1 (by8 x 8) + n1 (by8 x 0)
theorem n1_le (c : Int32) : n1 c ≤ 1 := by unfold n1; split <;> omega
theorem ncS_le (x : Int32) : ncS x ≤ 4 := by
  have a := n1_le (by8 x 24)
  have b := n1_le (by8 x 16)
  have c := n1_le (by8 x 8)
  have d := n1_le (by8 x 0)
  unfold ncS
  omega
theorem feS_len (t : gTt) (x : Int32) : (feS t x).1 = t.1 + ncS x := by
  unfold feS ncS
  rw [apS_len, apS_len, apS_len, apS_len]
  omega
theorem feS_ok {t : gTt} {x : Int32} (h : okT t) (hl : t.1 + ncS x ≤ 240) : okT (feS t x) := by
  have w := fun k => and255 (iush x (nI k))
  unfold ncS at hl
  have e1 := apS_len t (by8 x 24)
  have e2 := apS_len (apS t (by8 x 24)) (by8 x 16)
  have e3 := apS_len (apS (apS t (by8 x 24)) (by8 x 16)) (by8 x 8)
  exact apS_ok (apS_ok (apS_ok (apS_ok h (by omega) (w 24)) (by omega) (w 16)) (by omega) (w 8)) (by omega) (w 0)
theorem t16 : nI 24 + (-8 : Int32) = nI 16 := by decide
theorem t8 : nI 16 + (-8 : Int32) = nI 8 := by decide
theorem t0 : nI 8 + (-8 : Int32) = nI 0 := by decide
theorem tm : nI 0 + (-8 : Int32) = -8 := by decide
theorem Tape_bytesIn (σ : Mem) (x : Int32) : f_Tape_bytesIn σ x = some (nI (ncS x)) := by
  have st : ∀ a k, k < 2 ^ 31 → f_Tape_bytesIn_L5 σ x (nI a, nI k) = some (.inl (nI (a + n1 (by8 x k)), nI k + (-8 : Int32))) := fun a k hk => by
    unfold f_Tape_bytesIn_L5
    dsimp only
    rw [if_neg (nI_pos hk)]
    by_cases q : by8 x k = 0
    · rw [if_pos (show (iush x (nI k) &&& (255 : Int32)) = 0 from q), n1_0 q, Nat.add_zero]
    · rw [if_neg (show ¬ (iush x (nI k) &&& (255 : Int32)) = 0 from q), n1_1 q, nI_1]
  have en : ∀ a, f_Tape_bytesIn_L5 σ x (nI a, (-8 : Int32)) = some (.inr (nI a)) := fun a => by
    unfold f_Tape_bytesIn_L5
    dsimp only
    rw [if_pos (by decide)]
  obtain ⟨m, hm⟩ := FU_at 5 (by omega)
  unfold f_Tape_bytesIn
  rw [hm, show ((0 : Int32), (24 : Int32)) = (nI 0, nI 24) from rfl, loopF_inl (st 0 24 (by omega)), t16, loopF_inl (st _ 16 (by omega)), t8, loopF_inl (st _ 8 (by omega)), t0, loopF_inl (st _ 0 (by omega)), tm, loopF_inr (en _)]
  unfold ncS
  rw [Nat.zero_add]
theorem Model_bytesIn (σ : Mem) (x : Int32) : f_Model_bytesIn σ x = some (nI (ncS x)) := by
  have st : ∀ a k, k < 2 ^ 31 → (k = 0 ∨ k = 8 ∨ k = 16 ∨ k = 24) → f_Model_bytesIn_L5 σ x (nI a, nI k) = some (.inl (nI (a + n1 (by8 x k)), nI k + (-8 : Int32))) := fun a k hk h4 => by
    unfold f_Model_bytesIn_L5
    dsimp only
    rw [if_neg (nI_pos hk), byte_eq x h4]
    by_cases q : by8 x k = 0
    · rw [if_pos (show (iush x (nI k) &&& (255 : Int32)) = 0 from q), n1_0 q, Nat.add_zero, Int32.add_zero]
    · rw [if_neg (show ¬ (iush x (nI k) &&& (255 : Int32)) = 0 from q), n1_1 q, nI_1]
  have en : ∀ a, f_Model_bytesIn_L5 σ x (nI a, (-8 : Int32)) = some (.inr (nI a)) := fun a => by
    unfold f_Model_bytesIn_L5
    dsimp only
    rw [if_pos (by decide)]
  obtain ⟨m, hm⟩ := FU_at 5 (by omega)
  unfold f_Model_bytesIn
  rw [hm, show ((0 : Int32), (24 : Int32)) = (nI 0, nI 24) from rfl, loopF_inl (st 0 24 (by omega) (by omega)), t16, loopF_inl (st _ 16 (by omega) (by omega)), t8, loopF_inl (st _ 8 (by omega) (by omega)), t0, loopF_inl (st _ 0 (by omega) (by omega)), tm, loopF_inr (en _)]
  unfold ncS
  rw [Nat.zero_add]
/-! what a number's bytes do to the tape -/
def TX (σ σ' : Mem) : Prop := (∀ c, c ≠ 1 → c ≠ 2 → mI σ' c = mI σ c) ∧ mL σ' = mL σ ∧ mR σ' = mR σ
theorem TX.refl (σ : Mem) : TX σ σ := ⟨fun _ _ _ => rfl, rfl, rfl⟩
theorem TX.trans {σ σ1 σ2 : Mem} (h : TX σ σ1) (g : TX σ1 σ2) : TX σ σ2 := ⟨fun c h1 h2 => (g.1 c h1 h2).trans (h.1 c h1 h2), g.2.1.trans h.2.1, g.2.2.trans h.2.2⟩
theorem add_st {σ : Mem} {t : gTt} {x : Int32} {k : Nat} (hC : CTape σ t) (hk : k < 2 ^ 31) (hl : t.1 + n1 (by8 x k) ≤ 240) : ∃ σ', f_Tape_add_L3 x (σ, nI k) = some (.inl (σ', nI k + (-8 : Int32))) ∧ CTape σ' (apS t (by8 x k)) ∧ TX σ σ' := by
  unfold f_Tape_add_L3
  dsimp only
  rw [if_neg (nI_pos hk)]
  by_cases q : by8 x k = 0
  · rw [if_pos (show (iush x (nI k) &&& (255 : Int32)) = 0 from q), apS_0 q]
    exact ⟨σ, rfl, hC, TX.refl σ⟩
  · rw [n1_1 q] at hl
    rw [if_neg (show ¬ (iush x (nI k) &&& (255 : Int32)) = 0 from q), hC.1, if_neg (show ¬ (240 : Int32) ≤ nI t.1 from nI_ge (b := 240) (by omega) (by omega)), if_pos (inb_nI (by omega) (by decide)), nI_clamp (by omega), apS_1 q]
    refine ⟨_, rfl, ⟨?_, fun i hi => ?_⟩, fun c c1 c2 => ?_, rfl, rfl⟩
    · rw [row_sI, upd_self, row_ne (by omega), hC.1, nI_1]
    · show _ = upd t.2 t.1 (by8 x k) i
      rw [row_ne (by omega), row_sI, upd_at, upd_at]
      by_cases e : i = t.1
      · rw [if_pos e, if_pos e]; rfl
      · rw [if_neg e, if_neg e]; exact hC.2 i (by have : i < t.1 + 1 := hi; omega)
    · rw [row_ne c1, row_ne c2]
theorem Tape_add {σ : Mem} {t : gTt} {x : Int32} (hC : CTape σ t) (hl : t.1 + ncS x ≤ 240) : ∃ σ', f_Tape_add σ x = some σ' ∧ CTape σ' (feS t x) ∧ TX σ σ' := by
  unfold ncS at hl
  have e1 := apS_len t (by8 x 24)
  have e2 := apS_len (apS t (by8 x 24)) (by8 x 16)
  have e3 := apS_len (apS (apS t (by8 x 24)) (by8 x 16)) (by8 x 8)
  obtain ⟨σ1, a1, a2, a3⟩ := add_st (x := x) (k := 24) hC (by omega) (by omega)
  obtain ⟨σ2, b1, b2, b3⟩ := add_st (x := x) (k := 16) a2 (by omega) (by omega)
  obtain ⟨σ3, c1, c2, c3⟩ := add_st (x := x) (k := 8) b2 (by omega) (by omega)
  obtain ⟨σ4, d1, d2, d3⟩ := add_st (x := x) (k := 0) c2 (by omega) (by omega)
  have en : f_Tape_add_L3 x (σ4, (-8 : Int32)) = some (.inr σ4) := by
    unfold f_Tape_add_L3
    dsimp only
    rw [if_pos (by decide)]
  obtain ⟨m, hm⟩ := FU_at 5 (by omega)
  refine ⟨σ4, ?_, d2, ((a3.trans b3).trans c3).trans d3⟩
  unfold f_Tape_add
  rw [hm, show (24 : Int32) = nI 24 from rfl, loopF_inl a1, t16, loopF_inl b1, t8, loopF_inl c1, t0, loopF_inl d1, tm, loopF_inr en]
def TY (σ σ' : Mem) : Prop := (∀ c, c ≠ 565 → c ≠ 566 → mI σ' c = mI σ c) ∧ (∀ k, k ≠ 6 → mI σ' 565 k = mI σ 565 k) ∧ mL σ' = mL σ ∧ mR σ' = mR σ
theorem TY.refl (σ : Mem) : TY σ σ := ⟨fun _ _ _ => rfl, fun _ _ => rfl, rfl, rfl⟩
theorem TY.trans {σ σ1 σ2 : Mem} (h : TY σ σ1) (g : TY σ1 σ2) : TY σ σ2 := ⟨fun c h1 h2 => (g.1 c h1 h2).trans (h.1 c h1 h2), fun k hk => (g.2.1 k hk).trans (h.2.1 k hk), g.2.2.1.trans h.2.2.1, g.2.2.2.trans h.2.2.2⟩
theorem put_st {σ : Mem} {t : gTt} {x : Int32} {k : Nat} (hM : MTape σ t) (hk : k < 2 ^ 31) (h4 : k = 0 ∨ k = 8 ∨ k = 16 ∨ k = 24) (hl : t.1 + n1 (by8 x k) ≤ 240) : ∃ σ', f_Model_put_L3 x (σ, nI k) = some (.inl (σ', nI k + (-8 : Int32))) ∧ MTape σ' (apS t (by8 x k)) ∧ TY σ σ' := by
  unfold f_Model_put_L3
  dsimp only
  have e8 : (x >>> (nI k &&& 31)).toInt8 = (by8 x k).toInt8 := by
    unfold by8
    rw [← byte_eq x h4, and8]
  rw [if_neg (nI_pos hk), byte_eq x h4, pk_vb, e8]
  by_cases q : by8 x k = 0
  · rw [if_pos (show (iush x (nI k) &&& (255 : Int32)) = 0 from q), apS_0 q]
    exact ⟨σ, rfl, hM, TY.refl σ⟩
  · rw [n1_1 q] at hl
    rw [if_neg (show ¬ (iush x (nI k) &&& (255 : Int32)) = 0 from q), hM.1, if_pos (inb_nI (by omega) (by decide)), nI_clamp (by omega), apS_1 q]
    refine ⟨_, rfl, ⟨?_, fun i hi => ?_⟩, fun c c1 c2 => ?_, fun j hj => ?_, rfl, rfl⟩
    · rw [row_sI, upd_self, row_ne (by omega), hM.1, nI_1]
    · show _ = (upd t.2 t.1 (by8 x k) i).toInt8.toInt32
      rw [row_ne (by omega), row_sI, upd_at, upd_at]
      by_cases e : i = t.1
      · rw [if_pos e, if_pos e]
      · rw [if_neg e, if_neg e]; exact hM.2 i (by have : i < t.1 + 1 := hi; omega)
    · rw [row_ne c1, row_ne c2]
    · rw [row_sI _ 565, upd_ne hj, row_ne (by omega)]
theorem Model_put {σ : Mem} {t : gTt} {x : Int32} (hM : MTape σ t) (hl : t.1 + ncS x ≤ 240) : ∃ σ', f_Model_put σ x = some σ' ∧ MTape σ' (feS t x) ∧ TY σ σ' := by
  unfold ncS at hl
  have e1 := apS_len t (by8 x 24)
  have e2 := apS_len (apS t (by8 x 24)) (by8 x 16)
  have e3 := apS_len (apS (apS t (by8 x 24)) (by8 x 16)) (by8 x 8)
  obtain ⟨σ1, a1, a2, a3⟩ := put_st (x := x) (k := 24) hM (by omega) (by omega) (by omega)
  obtain ⟨σ2, b1, b2, b3⟩ := put_st (x := x) (k := 16) a2 (by omega) (by omega) (by omega)
  obtain ⟨σ3, c1, c2, c3⟩ := put_st (x := x) (k := 8) b2 (by omega) (by omega) (by omega)
  obtain ⟨σ4, d1, d2, d3⟩ := put_st (x := x) (k := 0) c2 (by omega) (by omega) (by omega)
  have en : f_Model_put_L3 x (σ4, (-8 : Int32)) = some (.inr σ4) := by
    unfold f_Model_put_L3
    dsimp only
    rw [if_pos (by decide)]
  obtain ⟨m, hm⟩ := FU_at 5 (by omega)
  refine ⟨σ4, ?_, d2, ((a3.trans b3).trans c3).trans d3⟩
  unfold f_Model_put
  rw [hm, show (24 : Int32) = nI 24 from rfl, loopF_inl a1, t16, loopF_inl b1, t8, loopF_inl c1, t0, loopF_inl d1, tm, loopF_inr en]
theorem sim_feed (a b c d e : Int32) : Sim (fun σ => f_Game_feed σ a b c d e) (fun σ => f_Model_feed σ a b c d e) := fun A hA => by
  have t1 := hA.1.1
  have ca := ncS_le a
  have cb := ncS_le b
  have cc := ncS_le c
  have cd := ncS_le d
  have ce := ncS_le e
  have la := feS_len (gT A) a
  have lb := feS_len (feS (gT A) a) b
  have lc := feS_len (feS (feS (gT A) a) b) c
  have ld := feS_len (feS (feS (feS (gT A) a) b) c) d
  have le := feS_len (feS (feS (feS (feS (gT A) a) b) c) d) e
  by_cases q : (gT A).1 + (ncS a + ncS b + ncS c + ncS d + ncS e) ≤ 240
  · refine ⟨nI (feS (feS (feS (feS (feS (gT A) a) b) c) d) e).1, sT A (feS (feS (feS (feS (feS (gT A) a) b) c) d) e), gOk_T hA (feS_ok (feS_ok (feS_ok (feS_ok (feS_ok hA.1 (by omega)) (by omega)) (by omega)) (by omega)) (by omega)), fun σ hC => ?_, fun σ hM => ?_⟩
    · obtain ⟨σ1, a1, a2, a3⟩ := Tape_add (x := a) hC.1 (by omega)
      obtain ⟨σ2, b1, b2, b3⟩ := Tape_add (x := b) a2 (by omega)
      obtain ⟨σ3, c1, c2, c3⟩ := Tape_add (x := c) b2 (by omega)
      obtain ⟨σ4, d1, d2, d3⟩ := Tape_add (x := d) c2 (by omega)
      obtain ⟨σ5, e1, e2, e3⟩ := Tape_add (x := e) d2 (by omega)
      have tx := (((a3.trans b3).trans c3).trans d3).trans e3
      obtain ⟨g1, g2⟩ := hC.tape hA tx.1 tx.2.1 tx.2.2 e2
      refine ⟨σ5, ?_, g1, g2⟩
      show f_Game_feed σ a b c d e = _
      unfold f_Game_feed
      rw [Tape_bytesIn, Option.bind_some, Tape_bytesIn, Option.bind_some, Tape_bytesIn, Option.bind_some, Tape_bytesIn, Option.bind_some, Tape_bytesIn, Option.bind_some, hC.1.1, nI_add, nI_add, nI_add, nI_add, nI_add, if_pos (show nI _ ≤ (240 : Int32) from nI_le (b := 240) q (by omega)), a1, Option.bind_some, b1, Option.bind_some, c1, Option.bind_some, d1, Option.bind_some, e1, Option.bind_some, e2.1]
    · have hz := hM.z (v := 0) hA
      obtain ⟨σ1, a1, a2, a3⟩ := Model_put (x := a) hz.1 (by omega)
      obtain ⟨σ2, b1, b2, b3⟩ := Model_put (x := b) a2 (by omega)
      obtain ⟨σ3, c1, c2, c3⟩ := Model_put (x := c) b2 (by omega)
      obtain ⟨σ4, d1, d2, d3⟩ := Model_put (x := d) c2 (by omega)
      obtain ⟨σ5, e1, e2, e3⟩ := Model_put (x := e) d2 (by omega)
      have tx := (((a3.trans b3).trans c3).trans d3).trans e3
      obtain ⟨g1, g2⟩ := hz.tape hA tx.1 tx.2.1 tx.2.2.1 tx.2.2.2 e2
      refine ⟨σ5, ?_, g1, EqLo.trans0 hM g2⟩
      show f_Model_feed σ a b c d e = _
      unfold f_Model_feed
      rw [Model_bytesIn, Option.bind_some, Model_bytesIn, Option.bind_some, Model_bytesIn, Option.bind_some, Model_bytesIn, Option.bind_some, Model_bytesIn, Option.bind_some, hz.1.1, nI_add, nI_add, nI_add, nI_add, nI_add, if_pos (show nI _ ≤ (240 : Int32) from nI_le (b := 240) (by omega) (by omega)), a1, Option.bind_some, b1, Option.bind_some, c1, Option.bind_some, d1, Option.bind_some, e1, Option.bind_some, e2.1]
  · refine ⟨-1, A, hA, fun σ hC => ⟨σ, ?_, hC, EqHi.refl _⟩, fun σ hM => ⟨_, ?_, hM.z hA, EqLo.trans0 hM (EqLo.refl _)⟩⟩
    · show f_Game_feed σ a b c d e = _
      unfold f_Game_feed
      rw [Tape_bytesIn, Option.bind_some, Tape_bytesIn, Option.bind_some, Tape_bytesIn, Option.bind_some, Tape_bytesIn, Option.bind_some, Tape_bytesIn, Option.bind_some, hC.1.1, nI_add, nI_add, nI_add, nI_add, nI_add, if_neg (show ¬ nI _ ≤ (240 : Int32) from nI_ge (a := 240) (by omega) (by omega))]
    · have hz := hM.z (v := 0) hA
      show f_Model_feed σ a b c d e = _
      unfold f_Model_feed
      rw [Model_bytesIn, Option.bind_some, Model_bytesIn, Option.bind_some, Model_bytesIn, Option.bind_some, Model_bytesIn, Option.bind_some, Model_bytesIn, Option.bind_some, hz.1.1, nI_add, nI_add, nI_add, nI_add, nI_add, if_neg (show ¬ nI _ ≤ (240 : Int32) from nI_ge (a := 240) (by omega) (by omega))]
