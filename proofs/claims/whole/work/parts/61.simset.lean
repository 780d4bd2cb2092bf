/-! clerk, rate, gift -/
/-- a field of the State is set, as the row is -/
theorem CR_field {J : Mem → Prop} {lk : Lk6} (hJ : LkC J lk) {σ : Mem} {o f j : Nat} {K : Cy} {w : Rw} {v : Int32} (hT : cT K ≤ 8) (hB : cB K ≤ 6) (ho : OkO o) (hj : J σ) (hr : RS σ o K w) (hm : ∃ n, n ≤ 24 ∧ w 126 = nI n) (hf : (f = 11 ∧ j = 127) ∨ (f = 12 ∧ j = 128)) : CR J o K σ (upd w j v) (sI σ o f v) := by
  obtain ⟨n, n1, n2⟩ := hm
  refine CR.of hJ ho hj ?_ (CX_sI (by omega)) (by rw [row_sI, upd_ne (by omega)]) (row_ne (by omega))
  obtain ⟨r1, r2, r3, r4, r5, ⟨r6, r7, r8, r9, r10⟩, r11⟩ := hr
  have em : mny (upd w j v) = mny w := by unfold mny; rw [upd_ne (by omega)]
  unfold RS
  simp (disch := omega) only [row_ne, row_sI]
  refine ⟨fun u hu => ?_, r2, fun c hc => ?_, fun c hc => ?_, fun i hi => ?_, ⟨?_, ?_, ?_, ?_, ?_⟩, ?_⟩
  · rw [upd_ne (by omega), upd_ne (by omega), upd_ne (by omega)]; exact r1 u hu
  · rw [holdS_congr hT fun i hi => upd_ne (by omega)]; exact r3 c hc
  · rw [upd_ne (by omega)]; exact r4 c hc
  · rw [em, mny_eq n1 n2] at hi
    rw [upd_ne (by omega)]; exact r5 i (by rw [mny_eq n1 n2]; exact hi)
  · rw [upd_ne (by omega), upd_ne (by omega)]; exact r6
  · rcases hf with ⟨rfl, rfl⟩ | ⟨rfl, rfl⟩
    · rw [upd_self, upd_self]
    · rw [upd_ne (by omega), upd_ne (by omega)]; exact r7
  · rcases hf with ⟨rfl, rfl⟩ | ⟨rfl, rfl⟩
    · rw [upd_ne (by omega), upd_ne (by omega)]; exact r8
    · rw [upd_self, upd_self]
  · rw [upd_ne (by omega), upd_ne (by omega)]; exact r9
  · rw [upd_ne (by omega), upd_ne (by omega)]; exact r10
  · rw [upd_ne (by omega)]; exact r11
theorem CR_purse {J : Mem → Prop} {lk : Lk6} (hJ : LkC J lk) {σ : Mem} {o b : Nat} {K : Cy} {w : Rw} {v : Int32} (hT : cT K ≤ 8) (hB : cB K ≤ 6) (ho : OkO o) (hj : J σ) (hr : RS σ o K w) (hm : ∃ n, n ≤ 24 ∧ w 126 = nI n) (hb : b < cB K) : CR J o K σ (upd w (24 + b) v) (sI σ (o + 6) b v) := by
  obtain ⟨n, n1, n2⟩ := hm
  refine CR.of hJ ho hj ?_ (CX_sI (by omega)) (by rw [row_ne (by omega)]) (row_ne (by omega))
  obtain ⟨r1, r2, r3, r4, r5, ⟨r6, r7, r8, r9, r10⟩, r11⟩ := hr
  have em : mny (upd w (24 + b) v) = mny w := by unfold mny; rw [upd_ne (by omega)]
  unfold RS
  simp (disch := omega) only [row_ne, row_sI]
  refine ⟨fun u hu => ?_, r2, fun c hc => ?_, fun c hc => ?_, fun i hi => ?_, ⟨?_, ?_, ?_, ?_, ?_⟩, r11⟩
  · rw [upd_ne (by omega), upd_ne (by omega), upd_ne (by omega)]; exact r1 u hu
  · rw [holdS_congr hT fun i hi => upd_ne (by omega)]; exact r3 c hc
  · rw [upd_at, upd_at]
    by_cases q : c = b
    · rw [if_pos q, if_pos (by omega)]; exact ⟨rfl, (r4 c hc).2⟩
    · rw [if_neg q, if_neg (by omega)]; exact r4 c hc
  · rw [em, mny_eq n1 n2] at hi
    rw [upd_ne (by omega)]; exact r5 i (by rw [mny_eq n1 n2]; exact hi)
  · rw [upd_ne (by omega)]; exact r6
  · rw [upd_ne (by omega)]; exact r7
  · rw [upd_ne (by omega)]; exact r8
  · rw [upd_ne (by omega)]; exact r9
  · rw [upd_ne (by omega)]; exact r10
theorem rwOk.m {K : Cy} {w : Rw} (h : rwOk K w) : ∃ n, n ≤ 24 ∧ w 126 = nI n := by obtain ⟨n, n1, n2, -⟩ := h.1.1; exact ⟨n, n1, n2⟩
/-- refused, in both -/
theorem ref_both {A : Gh} {r : Nat} {fG fM : Mem → Option (Int32 × Mem)} (hA : gOk A) (hr : r < 6) (hG : ∀ σ, CRel σ A → fG σ = (f_Game_refused σ (nI r)).bind fun q => some (-1, q.2)) (hM : ∀ σ, MRel σ A → fM σ = (f_Model_refused (sI σ 565 0 0) (nI r)).bind fun q => some (q.1, q.2)) : ∃ r A', gOk A' ∧ (∀ σ, CRel σ A → ∃ σ', fG σ = some (r, σ') ∧ CRel σ' A' ∧ EqHi σ σ') ∧ (∀ σ, MRel σ A → ∃ σ', fM σ = some (r, σ') ∧ MRel σ' A' ∧ EqLo σ σ') := by
  refine ⟨-1, sM A (stU (gM A) r), gOk_M hA, fun σ hC => ?_, fun σ hm => ?_⟩
  · obtain ⟨g1, g2, g3⟩ := Game_refused hA hC hr
    exact ⟨_, by rw [hG σ hC, g1]; rfl, g2, g3⟩
  · obtain ⟨g1, g2, g3⟩ := Model_refused hA (hm.z (v := 0) hA) hr
    exact ⟨_, by rw [hM σ hm, g1]; rfl, g2, (SM_0 (v := 0) hm).2.2.2.2.2.trans g3⟩
/-- an act of one row, in both -/
theorem act_both {A : Gh} {r : Int32} {w : Rw} {fG fM : Mem → Option (Int32 × Mem)} {gG gM' : Mem → Option (Int32 × Mem)} (hA : gOk A) (hc : hasC A) (hw : rwOk (gK A) w) (h131 : ∀ i, 131 ≤ i → w i = gW A i) (hG : ∀ σ, CRel σ A → fG σ = (f_History_keep σ 6).bind gG) (hM : ∀ σ, MRel σ A → fM σ = (f_Model_remember (sI σ 565 0 0)).bind gM')
    (kG : ∀ σ, CRel σ (sH A (hpush (gH A) (gW A))) → ∃ σ', gG σ = some (r, σ') ∧ CR (jA A) 6 (gK A) σ w σ') (kM : ∀ σ, MRel σ (sH A (hpush (gH A) (gW A))) → ∃ σ', gM' σ = some (r, σ') ∧ MR (iA A) 578 σ w σ') : ∃ r A', gOk A' ∧ (∀ σ, CRel σ A → ∃ σ', fG σ = some (r, σ') ∧ CRel σ' A' ∧ EqHi σ σ') ∧ (∀ σ, MRel σ A → ∃ σ', fM σ = some (r, σ') ∧ MRel σ' A' ∧ EqLo σ σ') := by
  obtain ⟨k1, k2⟩ := gOk_keep hA hc
  refine ⟨r, sW (sH A (hpush (gH A) (gW A))) w, gOk_W k1 k2 hw, fun σ hC => ?_, fun σ hm => ?_⟩
  · obtain ⟨σ1, g1, g2, g3⟩ := History_keep hA hC hc
    obtain ⟨σ2, g4, g5⟩ := kG σ1 g2
    obtain ⟨g6, g7⟩ := g2.cr k1 k2 g5 h131
    exact ⟨σ2, by rw [hG σ hC, g1, Option.bind_some, g4], g6, g3.trans g7⟩
  · obtain ⟨σ1, g1, g2, g3⟩ := Model_remember hA (hm.z (v := 0) hA)
    obtain ⟨σ2, g4, g5⟩ := kM σ1 g2
    obtain ⟨g6, g7⟩ := g2.mr g5
    exact ⟨σ2, by rw [hM σ hm, g1, Option.bind_some, g4], g6, ((SM_0 (v := 0) hm).2.2.2.2.2.trans g3).trans g7⟩
theorem ref_1 {σ : Mem} {r : Nat} (hr : r < 6) : f_Game_refused σ (nI r) = some (1, sI σ 5 r (mI σ 5 r + 1)) := by unfold f_Game_refused; simp (disch := omega) only [Nat.add_sub_cancel, z_in, z_cl, c_le_t, c_le_f, c_lt_t, c_lt_f, c_eq_t, c_eq_f, c_le0_t, c_le0_f, c_0le, c_lt0, c_0lt, c_eq0_f, c_eq1_f, c_eq0_t, c_eq1_t, c_1le, c_lt1, c_m1, z_sub1, z_sub, nI_1, nI_add, pk_mul, Option.bind_some, if_true, if_false, ite_true, ite_false, l_2, l_3, l_4, l_5, l_6, l_7, l_8, l_9, l_10, l_11, l_12, l_13, l_15, l_16, l_20, l_23, l_24, l_30, l_32, l_40, l_41, l_48, l_50, l_57, l_59, l_60, l_61, l_99, l_100, l_104, l_109, l_112, l_115, l_116, l_119, l_126, l_127, l_128, l_129, l_130, l_131, l_132, l_177, l_192, l_240, l_312, l_999, l_1000, l_9999]
theorem sim_clerk (x : Int32) : Sim (fun σ => f_Game_clerk σ x) (fun σ => f_Model_clerk σ x) := fun A hA => by
  have t8 := hA.T8
  have b6 := hA.B6
  have e3 : (3 : Int64) = lN 3 := rfl
  have l128 : (128 : Int32).toNatClampNeg = 128 := by decide
  rcases hA.cs with p | hc
  · refine ref_both (r := 0) hA (by omega) (fun σ hC => ?_) (fun σ hM => ?_)
    · show f_Game_clerk σ x = _
      unfold f_Game_clerk f_Game_whyNotClerk
      rw [Trade_hasCity hC.k t8, if_pos p.1, Option.bind_some, if_pos rfl, Option.bind_some]
      rw [show f_Game_refused σ (0 : Int32) = _ from ref_1 (r := 0) (by omega), ref_1 (r := 0) (by omega), Option.bind_some, Option.bind_some]
      exact if_neg (show ¬ (1 : Int32) = 0 by decide)
    · have hz := hM.z (v := 0) hA
      show f_Model_clerk σ x = _
      unfold f_Model_clerk
      rw [hz.k.2.1, p.2.1, if_pos (show nI 0 = (0 : Int32) from rfl)]; rfl
  · have hT1 := hc.1
    have hB1 := hc.2.1
    have cw : ∀ σ, CRel σ A → f_Game_whyNotClerk σ x = some (if x < 0 then 1 else if x < 4 then -1 else 1) := fun σ hC => by
      unfold f_Game_whyNotClerk
      rw [Trade_hasCity hC.k t8, if_neg (by omega), Option.bind_some, if_neg (by decide)]
      split
      · rfl
      · split <;> rfl
    have mq : ∀ σ, MRel σ A → f_Model_clerk σ x = if isR 0 3 x = 0 then (f_Model_refused (sI σ 565 0 0) 1).bind fun q5 => some (q5.1, q5.2) else (f_Model_remember (sI σ 565 0 0)).bind fun q4 => some (((mI (sI q4 578 128 (mI q4 578 128 ^^^ ((1 : Int32) <<< (x &&& 31)))) 578 128) >>> (x &&& 31)) &&& 1, sI q4 578 128 (mI q4 578 128 ^^^ ((1 : Int32) <<< (x &&& 31)))) := fun σ hM => by
      have hz := hM.z (v := 0) hA
      unfold f_Model_clerk
      rw [hz.k.2.1, if_neg (nI_ne0 (by omega) (by omega)), l0, e3, Model_isInR (by omega) (by omega), Option.bind_some, l128]
    have bad : (if x < 0 then (1 : Int32) else if x < 4 then -1 else 1) = 1 → isR 0 3 x = 0 → ∃ r A', gOk A' ∧ (∀ σ, CRel σ A → ∃ σ', (fun σ => f_Game_clerk σ x) σ = some (r, σ') ∧ CRel σ' A' ∧ EqHi σ σ') ∧ (∀ σ, MRel σ A → ∃ σ', (fun σ => f_Model_clerk σ x) σ = some (r, σ') ∧ MRel σ' A' ∧ EqLo σ σ') := fun b1 b2 => by
      refine ref_both (r := 1) hA (by omega) (fun σ hC => ?_) (fun σ hM => ?_)
      · show f_Game_clerk σ x = _
        unfold f_Game_clerk
        rw [cw σ hC, b1, Option.bind_some]
        rw [show f_Game_refused σ (1 : Int32) = _ from ref_1 (r := 1) (by omega), ref_1 (r := 1) (by omega), Option.bind_some, Option.bind_some]
        exact if_neg (show ¬ (1 : Int32) = 0 by decide)
      · show f_Model_clerk σ x = _
        rw [mq σ hM, if_pos b2]; rfl
    rcases rng0 3 x (by omega) with ⟨r1, r2⟩ | ⟨r1, r2, r3⟩ | ⟨r1, j, j1, rfl⟩
    · exact bad (if_pos r1) r2
    · exact bad (by rw [if_neg r1, if_neg (show ¬ x < (4 : Int32) from gt_lit (b := 4) (by omega) (by omega) r1 r2)]) r3
    · have hwf := hc.2.2.2.1
      refine act_both (r := ((gW A 128 ^^^ ((1 : Int32) <<< (nI j &&& 31))) >>> (nI j &&& 31)) &&& 1) (w := upd (gW A) 128 (gW A 128 ^^^ ((1 : Int32) <<< (nI j &&& 31)))) (gG := fun q4 => some ((((mI (sI q4 6 12 ((mI q4 6 12) ^^^ ((1 : Int32) <<< (nI j &&& 31)))) 6 12) >>> (nI j &&& 31)) &&& (1 : Int32)), (sI q4 6 12 ((mI q4 6 12) ^^^ ((1 : Int32) <<< (nI j &&& 31)))))) (gM' := fun q4 => some (((mI (sI q4 578 128 (mI q4 578 128 ^^^ ((1 : Int32) <<< (nI j &&& 31)))) 578 128) >>> (nI j &&& 31)) &&& 1, sI q4 578 128 (mI q4 578 128 ^^^ ((1 : Int32) <<< (nI j &&& 31))))) hA hc ⟨?_, by rw [upd_ne (by omega)]; exact hwf.2.1, by unfold TrOk; rw [upd_ne (by omega)]; exact hwf.2.2⟩ (fun i hi => upd_ne (by omega)) (fun σ hC => ?_) (fun σ hM => ?_) (fun σ hC => ?_) (fun σ hM => ?_)
      · obtain ⟨q1, q2, q3, q4, q5⟩ := hwf.1
        exact ⟨q1.congr fun i h6 h7 => upd_ne (by omega), q2.congr t8 fun i h => upd_ne (by omega), q3.congr b6 fun i h6 h7 => upd_ne (by omega), q4.congr (upd_ne (by omega)), q5.congr (upd_ne (by omega))⟩
      · show f_Game_clerk σ (nI j) = _
        unfold f_Game_clerk
        rw [cw σ hC, if_neg (nI_pos (by omega)), if_pos (show nI j < (4 : Int32) from nI_lt (b := 4) (by omega) (by omega)), Option.bind_some]
        rw [Game_ref_m1, Option.bind_some]
        exact if_pos rfl
      · show f_Model_clerk σ (nI j) = _
        rw [mq σ hM, if_neg (by rw [r1]; decide)]
      · obtain ⟨k1, k2⟩ := gOk_keep hA hc
        have hr := (hC.n k2).1
        have e12 : mI σ 6 12 = gW A 128 := hr.2.2.2.2.2.1.2.2.1
        rw [row_sI, upd_self, e12]
        exact ⟨_, rfl, CR_field hA.J t8 b6 ok6 hC.j hr hwf.m (Or.inr ⟨rfl, rfl⟩)⟩
      · have e8 : mI σ 578 128 = gW A 128 := by rw [hM.w]; rfl
        rw [row_sI, upd_self, e8]
        have := (MR.refl (a := 578) hM.i).up hA.I (k := 128) (v := gW A 128 ^^^ ((1 : Int32) <<< (nI j &&& 31))) (Or.inl rfl)
        rw [hM.w] at this
        exact ⟨_, rfl, this⟩
theorem sim_rate (x : Int32) : Sim (fun σ => f_Game_rate σ x) (fun σ => f_Model_rate σ x) := fun A hA => by
  have t8 := hA.T8
  have b6 := hA.B6
  have e3 : (8 : Int64) = lN 8 := rfl
  have l127 : (127 : Int32).toNatClampNeg = 127 := by decide
  rcases hA.cs with p | hc
  · refine ref_both (r := 0) hA (by omega) (fun σ hC => ?_) (fun σ hM => ?_)
    · show f_Game_rate σ x = _
      unfold f_Game_rate f_Game_whyNotRate
      rw [Trade_hasCity hC.k t8, if_pos p.1, Option.bind_some, if_pos rfl, Option.bind_some]
      rw [show f_Game_refused σ (0 : Int32) = _ from ref_1 (r := 0) (by omega), ref_1 (r := 0) (by omega), Option.bind_some, Option.bind_some]
      exact if_neg (show ¬ (1 : Int32) = 0 by decide)
    · have hz := hM.z (v := 0) hA
      show f_Model_rate σ x = _
      unfold f_Model_rate
      rw [hz.k.2.1, p.2.1, if_pos (show nI 0 = (0 : Int32) from rfl)]; rfl
  · have hT1 := hc.1
    have hB1 := hc.2.1
    have hwf := hc.2.2.2.1
    have cw : ∀ σ, CRel σ A → f_Game_whyNotRate σ x = some (if x < 0 then 1 else if x ≤ 8 then (if x = gW A 127 then 2 else -1) else 1) := fun σ hC => by
      unfold f_Game_whyNotRate
      rw [Trade_hasCity hC.k t8, if_neg (by omega), Option.bind_some, if_neg (by decide), hC.2.2.2.2.2.2.1.1.2.2.1]
      split
      · rfl
      · split
        · split <;> rfl
        · rfl
    have mq : ∀ σ, MRel σ A → f_Model_rate σ x = if isR 0 8 x = 0 then (f_Model_refused (sI σ 565 0 0) 1).bind fun q5 => some (q5.1, q5.2) else if x = gW A 127 then (f_Model_refused (sI σ 565 0 0) 2).bind fun q6 => some (q6.1, q6.2) else (f_Model_remember (sI σ 565 0 0)).bind fun q5 => some (mI q5 578 127, sI q5 578 127 x) := fun σ hM => by
      have hz := hM.z (v := 0) hA
      unfold f_Model_rate
      rw [hz.k.2.1, if_neg (nI_ne0 (by omega) (by omega)), l0, e3, Model_isInR (by omega) (by omega), Option.bind_some, l127, hz.w]
    have bad : ∀ k, k < 6 → (if x < 0 then (1 : Int32) else if x ≤ 8 then (if x = gW A 127 then 2 else -1) else 1) = nI k → (∀ σ, MRel σ A → f_Model_rate σ x = (f_Model_refused (sI σ 565 0 0) (nI k)).bind fun q5 => some (q5.1, q5.2)) → ∃ r A', gOk A' ∧ (∀ σ, CRel σ A → ∃ σ', (fun σ => f_Game_rate σ x) σ = some (r, σ') ∧ CRel σ' A' ∧ EqHi σ σ') ∧ (∀ σ, MRel σ A → ∃ σ', (fun σ => f_Model_rate σ x) σ = some (r, σ') ∧ MRel σ' A' ∧ EqLo σ σ') := fun k hk b1 b2 => by
      refine ref_both (r := k) hA hk (fun σ hC => ?_) b2
      show f_Game_rate σ x = _
      unfold f_Game_rate
      rw [cw σ hC, b1, Option.bind_some]
      rw [ref_1 hk, Option.bind_some, Option.bind_some]
      exact if_neg (show ¬ (1 : Int32) = 0 by decide)
    rcases rng0 8 x (by omega) with ⟨r1, r2⟩ | ⟨r1, r2, r3⟩ | ⟨r1, j, j1, rfl⟩
    · exact bad 1 (by omega) (if_pos r1) fun σ hM => by rw [mq σ hM, if_pos r2]; rfl
    · exact bad 1 (by omega) (by rw [if_neg r1, if_neg (show ¬ x ≤ (8 : Int32) from Int32.not_le.mpr r2)]; rfl) fun σ hM => by rw [mq σ hM, if_pos r3]; rfl
    · have nr : ¬ isR 0 8 (nI j) = 0 := by rw [r1]; decide
      by_cases q : nI j = gW A 127
      · exact bad 2 (by omega) (by rw [if_neg (nI_pos (by omega)), if_pos (show nI j ≤ (8 : Int32) from nI_le (b := 8) (by omega) (by omega)), if_pos q]; rfl) fun σ hM => by rw [mq σ hM, if_neg nr, if_pos q]; rfl
      · refine act_both (r := gW A 127) (w := upd (gW A) 127 (nI j)) (gG := fun q4 => some ((mI q4 6 11), (sI q4 6 11 (nI j)))) (gM' := fun q5 => some (mI q5 578 127, sI q5 578 127 (nI j))) hA hc ⟨?_, by rw [upd_ne (by omega)]; exact hwf.2.1, by unfold TrOk; rw [upd_ne (by omega)]; exact hwf.2.2⟩ (fun i hi => upd_ne (by omega)) (fun σ hC => ?_) (fun σ hM => ?_) (fun σ hC => ?_) (fun σ hM => ?_)
        · obtain ⟨q1, q2, q3, q4, q5⟩ := hwf.1
          exact ⟨q1.congr fun i h6 h7 => upd_ne (by omega), q2.congr t8 fun i h => upd_ne (by omega), q3.congr b6 fun i h6 h7 => upd_ne (by omega), ⟨j, j1, upd_self _ _ _⟩, q5.congr (upd_ne (by omega))⟩
        · show f_Game_rate σ (nI j) = _
          unfold f_Game_rate
          rw [cw σ hC, if_neg (nI_pos (by omega)), if_pos (show nI j ≤ (8 : Int32) from nI_le (b := 8) (by omega) (by omega)), if_neg q, Option.bind_some]
          rw [Game_ref_m1, Option.bind_some]
          exact if_pos rfl
        · show f_Model_rate σ (nI j) = _
          rw [mq σ hM, if_neg nr, if_neg q]
        · obtain ⟨k1, k2⟩ := gOk_keep hA hc
          have hr := (hC.n k2).1
          have e12 : mI σ 6 11 = gW A 127 := hr.2.2.2.2.2.1.2.1
          rw [e12]
          exact ⟨_, rfl, CR_field hA.J t8 b6 ok6 hC.j hr hwf.m (Or.inl ⟨rfl, rfl⟩)⟩
        · have e8 : mI σ 578 127 = gW A 127 := by rw [hM.w]; rfl
          rw [e8]
          have := (MR.refl (a := 578) hM.i).up hA.I (k := 127) (v := nI j) (Or.inl rfl)
          rw [hM.w] at this
          exact ⟨_, rfl, this⟩
theorem sim_gift (x y : Int32) : Sim (fun σ => f_Game_gift σ x y) (fun σ => f_Model_gift σ x y) := fun A hA => by
  have t8 := hA.T8
  have b6 := hA.B6
  have e1 : (1 : Int64) = lN 1 := rfl
  have e50 : (50 : Int64) = lN 50 := rfl
  rcases isS_ty (cB (gK A)) x (by omega) with q | ⟨q, b, b1, rfl⟩
  · refine ref_both (r := 0) hA (by omega) (fun σ hC => ?_) (fun σ hM => ?_)
    · show f_Game_gift σ x y = _
      unfold f_Game_gift f_Game_whyNotGift
      rw [Trade_isBuyer hC.k, q, Option.bind_some, if_pos rfl, Option.bind_some]
      rw [show f_Game_refused σ (0 : Int32) = _ from ref_1 (r := 0) (by omega), ref_1 (r := 0) (by omega), Option.bind_some, Option.bind_some]
      exact if_neg (show ¬ (1 : Int32) = 0 by decide)
    · have hz := hM.z (v := 0) hA
      show f_Model_gift σ x y = _
      unfold f_Model_gift
      rw [Model_isBuyer hz.k, q, Option.bind_some, if_pos rfl]; rfl
  · have hc := hA.city (Or.inr (by omega))
    have hwf := hc.2.2.2.1
    obtain ⟨m, m1, m2⟩ := hwf.1.2.2.1 b b1
    have cw : ∀ σ, CRel σ A → f_Game_whyNotGift σ (nI b) y = some (if y < 1 then 1 else if 50 < y then 1 else if nI m + y ≤ 999 then -1 else 1) := fun σ hC => by
      have hp : mI σ 12 b = nI m := ((hC.n hc).1.2.2.2.1 b b1).1.trans m2
      unfold f_Game_whyNotGift
      rw [Trade_isBuyer hC.k, q, Option.bind_some, if_neg (by decide), if_pos (inb_nI (by omega) (by decide)), nI_clamp (by omega), hp]
      split
      · rfl
      · split
        · rfl
        · split <;> rfl
    have hin : inb ((24 : Int32) + nI b) 312 = true := by simp (disch := omega) only [Nat.add_sub_cancel, z_in, z_cl, c_le_t, c_le_f, c_lt_t, c_lt_f, c_eq_t, c_eq_f, c_le0_t, c_le0_f, c_0le, c_lt0, c_0lt, c_eq0_f, c_eq1_f, c_eq0_t, c_eq1_t, c_1le, c_lt1, c_m1, z_sub1, z_sub, nI_1, nI_add, pk_mul, Option.bind_some, if_true, if_false, ite_true, ite_false, l_2, l_3, l_4, l_5, l_6, l_7, l_8, l_9, l_10, l_11, l_12, l_13, l_15, l_16, l_20, l_23, l_24, l_30, l_32, l_40, l_41, l_48, l_50, l_57, l_59, l_60, l_61, l_99, l_100, l_104, l_109, l_112, l_115, l_116, l_119, l_126, l_127, l_128, l_129, l_130, l_131, l_132, l_177, l_192, l_240, l_312, l_999, l_1000, l_9999]
    have hcl : ((24 : Int32) + nI b).toNatClampNeg = 24 + b := by simp (disch := omega) only [Nat.add_sub_cancel, z_in, z_cl, c_le_t, c_le_f, c_lt_t, c_lt_f, c_eq_t, c_eq_f, c_le0_t, c_le0_f, c_0le, c_lt0, c_0lt, c_eq0_f, c_eq1_f, c_eq0_t, c_eq1_t, c_1le, c_lt1, c_m1, z_sub1, z_sub, nI_1, nI_add, pk_mul, Option.bind_some, if_true, if_false, ite_true, ite_false, l_2, l_3, l_4, l_5, l_6, l_7, l_8, l_9, l_10, l_11, l_12, l_13, l_15, l_16, l_20, l_23, l_24, l_30, l_32, l_40, l_41, l_48, l_50, l_57, l_59, l_60, l_61, l_99, l_100, l_104, l_109, l_112, l_115, l_116, l_119, l_126, l_127, l_128, l_129, l_130, l_131, l_132, l_177, l_192, l_240, l_312, l_999, l_1000, l_9999]
    have mq : ∀ σ, MRel σ A → f_Model_gift σ (nI b) y = if isR 1 50 y = 0 then (f_Model_refused (sI σ 565 0 0) 1).bind fun q5 => some (q5.1, q5.2) else if nI m + y ≤ 999 then (f_Model_remember (sI σ 565 0 0)).bind fun q8 => some (mI (sI q8 578 (24 + b) (mI q8 578 (24 + b) + y)) 578 (24 + b), sI q8 578 (24 + b) (mI q8 578 (24 + b) + y)) else (f_Model_refused (sI σ 565 0 0) 1).bind fun q6 => some (q6.1, q6.2) := fun σ hM => by
      have hz := hM.z (v := 0) hA
      unfold f_Model_gift
      rw [Model_isBuyer hz.k, q, Option.bind_some, if_neg (by decide), e1, e50, Model_isInR (by omega) (by omega), Option.bind_some, if_pos hin, hcl, hz.w, m2]
    have bad : (if y < 1 then (1 : Int32) else if 50 < y then 1 else if nI m + y ≤ 999 then -1 else 1) = 1 → (∀ σ, MRel σ A → f_Model_gift σ (nI b) y = (f_Model_refused (sI σ 565 0 0) (nI 1)).bind fun q5 => some (q5.1, q5.2)) → ∃ r A', gOk A' ∧ (∀ σ, CRel σ A → ∃ σ', (fun σ => f_Game_gift σ (nI b) y) σ = some (r, σ') ∧ CRel σ' A' ∧ EqHi σ σ') ∧ (∀ σ, MRel σ A → ∃ σ', (fun σ => f_Model_gift σ (nI b) y) σ = some (r, σ') ∧ MRel σ' A' ∧ EqLo σ σ') := fun b1 b2 => by
      refine ref_both (r := 1) hA (by omega) (fun σ hC => ?_) b2
      show f_Game_gift σ (nI b) y = _
      unfold f_Game_gift
      rw [cw σ hC, b1, Option.bind_some]
      rw [show f_Game_refused σ (1 : Int32) = _ from ref_1 (r := 1) (by omega), ref_1 (r := 1) (by omega), Option.bind_some, Option.bind_some]
      exact if_neg (show ¬ (1 : Int32) = 0 by decide)
    rcases rng1 50 y (by omega) (by omega) with ⟨r1, r2⟩ | ⟨r1, r2, r3⟩ | ⟨r1, j, j0, j1, rfl⟩
    · exact bad (if_pos r1) fun σ hM => by rw [mq σ hM, if_pos r2]; rfl
    · exact bad (by rw [if_neg r1, if_pos (show (50 : Int32) < y from r2)]) fun σ hM => by rw [mq σ hM, if_pos r3]; rfl
    · have nr : ¬ isR 1 50 (nI j) = 0 := by rw [r1]; decide
      have n1 : ¬ nI j < (1 : Int32) := nI_nlt (b := 1) (by omega) (by omega)
      have n50 : ¬ (50 : Int32) < nI j := nI_nlt (a := 50) (by omega) (by omega)
      by_cases q9 : m + j ≤ 999
      · have q99 : nI m + nI j ≤ (999 : Int32) := by rw [nI_add]; exact nI_le (b := 999) q9 (by omega)
        refine act_both (r := nI (m + j)) (w := upd (gW A) (24 + b) (nI (m + j))) (gG := fun q4 => if inb (nI b) 6 then some ((mI (sI q4 12 (nI b).toNatClampNeg ((mI q4 12 (nI b).toNatClampNeg) + nI j)) 12 (nI b).toNatClampNeg), (sI q4 12 (nI b).toNatClampNeg ((mI q4 12 (nI b).toNatClampNeg) + nI j))) else none) (gM' := fun q8 => some (mI (sI q8 578 (24 + b) (mI q8 578 (24 + b) + nI j)) 578 (24 + b), sI q8 578 (24 + b) (mI q8 578 (24 + b) + nI j))) hA hc ⟨?_, by rw [upd_ne (by omega)]; exact hwf.2.1, by unfold TrOk; rw [upd_ne (by omega)]; exact hwf.2.2⟩ (fun i hi => upd_ne (by omega)) (fun σ hC => ?_) (fun σ hM => ?_) (fun σ hC => ?_) (fun σ hM => ?_)
        · obtain ⟨q1, q2, q3, q4, q5⟩ := hwf.1
          refine ⟨q1.congr fun i h6 h7 => upd_ne (by omega), q2.congr t8 fun i h => upd_ne (by omega), fun c hc => ?_, q4.congr (upd_ne (by omega)), q5.congr (upd_ne (by omega))⟩
          rw [upd_at]
          by_cases e : c = b
          · rw [if_pos (by omega)]; exact ⟨m + j, by omega, rfl⟩
          · rw [if_neg (by omega)]; exact q3 c hc
        · show f_Game_gift σ (nI b) (nI j) = _
          unfold f_Game_gift
          rw [cw σ hC, if_neg n1, if_neg n50, if_pos q99, Option.bind_some]
          rw [Game_ref_m1, Option.bind_some]
          exact if_pos rfl
        · show f_Model_gift σ (nI b) (nI j) = _
          rw [mq σ hM, if_neg nr, if_pos q99]
        · obtain ⟨k1, k2⟩ := gOk_keep hA hc
          have hr := (hC.n k2).1
          have hp : mI σ 12 b = nI m := (hr.2.2.2.1 b b1).1.trans m2
          rw [if_pos (inb_nI (by omega) (by decide)), nI_clamp (by omega), hp, nI_add, row_sI, upd_self]
          exact ⟨_, rfl, CR_purse hA.J t8 b6 ok6 hC.j hr hwf.m b1⟩
        · have e8 : mI σ 578 (24 + b) = nI m := by rw [hM.w]; exact m2
          rw [row_sI, upd_self, e8, nI_add]
          have := (MR.refl (a := 578) hM.i).up hA.I (k := 24 + b) (v := nI (m + j)) (Or.inl rfl)
          rw [hM.w] at this
          exact ⟨_, rfl, this⟩
      · have q99 : ¬ nI m + nI j ≤ (999 : Int32) := by rw [nI_add]; exact nI_ge (a := 999) (by omega) (by omega)
        exact bad (by rw [if_neg n1, if_neg n50, if_neg q99]) fun σ hM => by rw [mq σ hM, if_neg nr, if_neg q99]; rfl
