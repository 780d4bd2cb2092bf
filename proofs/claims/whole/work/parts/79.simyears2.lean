/-! years: an hour of either -/
def yrV (B : Gh) (v : Rw) : Gh := sW (sH B (hpush (gH B) (gW B))) (lgS (paH (gK B) v) (hbS (paH (gK B) v) (cT (gK B)) (cB (gK B))))
theorem yrA_eq (B : Gh) (x : Int64) : yrA B x = yrV B (wcS (gW B) x (gM B).2 (cB (gK B))).1 := rfl
theorem year_class {τ : Mem} {B : Gh} {x : Int64} {h : Nat} {v : Rw × Int64} (hB : gOk B) (hc : hasC B) (hC : CRel τ B) (hx : mL τ 0 17 = x) (hh : gW B 130 = nI h) (h9 : h < 9999) (hv : wcS (gW B) x (gM B).2 (cB (gK B)) = v) : ∃ τ1 τ2 τ3, f_History_keep τ 6 = some τ1 ∧ f_Game_drawWhatComes τ1 = some τ2 ∧ f_Trade_passHour τ2 6 = some τ3 ∧ CRel τ3 (yrV B v.1) ∧ mL τ3 0 17 = v.2 ∧ EqHi τ τ3 := by
  obtain ⟨k1, k2⟩ := gOk_keep hB hc
  obtain ⟨τ1, g1, g2, g3⟩ := History_keep hB hC hc
  obtain ⟨τ2, p1, p2, p3, p4⟩ := Game_draws k1 k2 g2 (x := x) ((congrFun (congrFun (History_keep_L hB hC hc g1) 0) 17).trans hx)
  rw [gW_sH, gK_sH, gM_sH, hv] at p2 p3
  obtain ⟨a1, a2⟩ := wcS_ok (x := x) (tm := (gM B).2) hc.2.2.1 hc.2.1 hc.2.2.2.1
  obtain ⟨r1, r2⟩ := yr_rw (x := x) (tm := (gM B).2) hc.2.2.1 hc.2.1 hc.2.2.2.1 hh h9
  rw [hv] at a1 a2 r1
  obtain ⟨τ3, q1, q2, q3, q4⟩ := year_pass k1 k2 p2 a1 r1 ⟨h, (a2 130 (by omega)).trans hh, h9⟩
  exact ⟨τ1, τ2, τ3, g1, p1, q1, q2, q3.trans p3, (g3.trans p4).trans q4⟩
theorem MRel.up {σ : Mem} {A : Gh} {k : Nat} {v : Int32} (hA : gOk A) (hM : MRel σ A) : MRel (sI σ 578 k v) (sW A (upd (gW A) k v)) ∧ EqLo σ (sI σ 578 k v) := by
  have h := MR.up hA.I (k := k) (v := v) (Or.inl rfl) (MR.refl (a := 578) hM.i)
  rw [hM.w] at h
  exact hM.mr h
theorem year_go {τ2 : Mem} {B1 : Gh} {v : Rw} (k1 : gOk B1) (k2 : hasC B1) (p2 : MRel τ2 (sW B1 v)) (a1 : rwOk (gK B1) v) : ∃ r τ3, f_Model_goNow τ2 = some (r, τ3) ∧ MRel τ3 (sW B1 (lgS (paH (gK B1) v) (hbS (paH (gK B1) v) (cT (gK B1)) (cB (gK B1))))) ∧ mL τ3 565 45 = mL τ2 565 45 ∧ EqLo τ2 τ3 := by
  have o1 := gOk_W k1 k2 (w := v) a1
  obtain ⟨n, n1, n2⟩ := a1.2.1
  have ew : mI τ2 578 = v := p2.w
  obtain ⟨σ2, g4, g5⟩ := Model_goNow (n := n) (N := 10000) o1.I k2.2.2.1 p2.k p2.i (by rw [ew]; exact a1.1) (by omega) n1 (by rw [ew]; exact n2)
  rw [ew] at g4 g5
  obtain ⟨g6, g7⟩ := p2.mr g5
  exact ⟨_, σ2, g4, g6, congrFun (g5.2.1.2.1 565 (by omega)) 45, g7⟩
theorem sW_sW (A : Gh) (v w : Rw) : sW (sW A v) w = sW A w := rfl
/-- what the reference does after the weather's draw -/
def y2F (z4 : Int32) (q : Mem) : Option ((Mem × Int32) ⊕ (Int32 × Mem)) :=
  (f_Model_draw q (10 : Int32)).bind fun q9 =>
      if (2 : Int32) ≤ q9.1 then
        (f_Model_goNow q9.2).bind fun q11 =>
        some (.inl (q11.2, (z4 + (1 : Int32))))
      else
        (f_Model_draw q9.2 (mI q9.2 565 27)).bind fun q12 =>
        if inb ((24 : Int32) + q12.1) 312 then
          (f_Model_draw q12.2 (10 : Int32)).bind fun q14 =>
          (f_Model_goNow (sI q14.2 578 ((24 : Int32) + q12.1).toNatClampNeg (imin (999 : Int32) (((mI q12.2 578 ((24 : Int32) + q12.1).toNatClampNeg) + q14.1) + (1 : Int32))))).bind fun q15 =>
          some (.inl (q15.2, (z4 + (1 : Int32))))
        else none
theorem year_gift {τ : Mem} {B : Gh} {w1 : Rw} {x2 : Int64} {z4 : Int32} {v : Rw × Int64} (hB : gOk B) (hc : hasC B) (ok1 : rwOk (gK B) w1) (hM1 : MRel τ (sW B w1)) (hx2 : mL τ 565 45 = x2) (hv : gfS w1 x2 (cB (gK B)) = v) : ∃ τ', y2F z4 τ = some (.inl (τ', z4 + 1)) ∧ MRel τ' (sW B (lgS (paH (gK B) v.1) (hbS (paH (gK B) v.1) (cT (gK B)) (cB (gK B))))) ∧ mL τ' 565 45 = v.2 ∧ EqLo τ τ' := by
  have b6 := hB.B6
  have oA := gOk_W hB hc ok1
  have oC := hasC_W hc ok1
  have ok2 := (gfS_ok (x := x2) hc.2.2.1 hc.2.1 ok1).1
  rw [hv] at ok2
  obtain ⟨c1, e1⟩ := hM1.dr (v := nxS x2) oA
  unfold y2F
  rw [show (10 : Int32) = nI 10 from rfl, Model_draw hx2 (by omega) (by omega), Option.bind_some]
  dsimp only
  have h10 := dwS_lt (x := x2) (k := 10) (by omega)
  by_cases q : 2 ≤ dwS x2 10
  · rw [if_pos (show (2 : Int32) ≤ nI (dwS x2 10) from nI_le (a := 2) q (by omega))]
    rw [gfS_pos q] at hv
    obtain ⟨r, τ3, g1, g2, g3, g4⟩ := year_go hB hc c1 ok1
    rw [g1, Option.bind_some]
    rw [← hv]
    exact ⟨τ3, rfl, g2, g3.trans (mL_sL_self _ _ _ _), e1.trans g4⟩
  · rw [if_neg (show ¬ (2 : Int32) ≤ nI (dwS x2 10) from nI_ge (b := 2) (by omega) (by omega)), c1.k.2.1]
    rw [gfS_neg q] at hv
    have e2 : gK (sW B w1) = gK B := rfl
    rw [e2, Model_draw (mL_sL_self _ _ _ _) hc.2.1 (by omega), Option.bind_some]
    dsimp only
    obtain ⟨c2, f2⟩ := c1.dr (v := nxS (nxS x2)) oA
    have hb := dwS_lt (x := nxS x2) hc.2.1
    rw [show (24 : Int32) = nI 24 from rfl, nI_add, if_pos (inb_nI (show 24 + dwS (nxS x2) (cB (gK B)) < 312 by omega) (by decide)), nI_clamp (by omega), Model_draw (mL_sL_self _ _ _ _) (by omega) (by omega), Option.bind_some]
    dsimp only
    obtain ⟨c3, f3⟩ := c2.dr (v := nxS (nxS (nxS x2))) oA
    have hp : mI (sL (sL τ 565 45 (nxS x2)) 565 45 (nxS (nxS x2))) 578 = w1 := c2.w
    rw [hp]
    obtain ⟨c4, f4⟩ := c3.up (k := 24 + dwS (nxS x2) (cB (gK B))) (v := imin 999 (w1 (24 + dwS (nxS x2) (cB (gK B))) + nI (dwS (nxS (nxS x2)) 10) + 1)) oA
    rw [sW_sW, gW_sW] at c4
    rw [← hv] at ok2 ⊢
    obtain ⟨r, τ3, g1, g2, g3, g4⟩ := year_go hB hc c4 ok2
    rw [g1, Option.bind_some]
    exact ⟨τ3, rfl, g2, by rw [g3, mL_sI, mL_sL_self], ((((e1.trans f2).trans f3).trans f4).trans g4)⟩
theorem year_model {τ : Mem} {B : Gh} {x1 z : Int32} {x y : Int64} {v : Rw × Int64} (hB : gOk B) (hc : hasC B) (hM : MRel τ B) (hx : mL τ 565 45 = x) (hz : ¬ x1 ≤ z) (hv : wcS (gW B) x (gM B).2 (cB (gK B)) = v) : ∃ τ', f_Model_years_L50 x1 y (τ, z) = some (.inl (τ', z + 1)) ∧ MRel τ' (yrV B v.1) ∧ mL τ' 565 45 = v.2 ∧ EqLo τ τ' := by
  obtain ⟨k1, k2⟩ := gOk_keep hB hc
  obtain ⟨τ1, g1, g2, g3⟩ := Model_remember hB hM
  have hx1 := (congrFun (congrFun (Model_remember_L hB hM g1) 565) 45).trans hx
  obtain ⟨c1, e1⟩ := g2.dr (v := nxS x) k1
  have st : f_Model_years_L50 x1 y (τ, z) = (f_Model_remember τ).bind fun q6 => (f_Model_draw q6 (10 : Int32)).bind fun q7 => if (mI q7.2 565 36) ≤ q7.1 then y2F z q7.2 else (f_Model_draw q7.2 (4 : Int32)).bind fun q16 => y2F z (sI q16.2 578 (128 : Int32).toNatClampNeg ((mI q7.2 578 (128 : Int32).toNatClampNeg) ^^^ ((1 : Int32) <<< (q16.1 &&& 31)))) := by
    unfold f_Model_years_L50
    dsimp only
    rw [if_neg hz]
    rfl
  rw [st, g1, Option.bind_some, show (10 : Int32) = nI 10 from rfl, Model_draw hx1 (by omega) (by omega), Option.bind_some]
  dsimp only
  have e36 : mI (sL τ1 565 45 (nxS x)) 565 36 = (gM B).2 := c1.2.2.2.1.2
  rw [e36]
  rw [wcS_eq] at hv
  by_cases q : (gM B).2 ≤ nI (dwS x 10)
  · rw [if_pos q]
    rw [tmS_pos q] at hv
    obtain ⟨τ', p1, p2, p3, p4⟩ := year_gift (z4 := z) (w1 := gW B) k1 k2 hc.2.2.2.1 c1 (mL_sL_self _ _ _ _) hv
    exact ⟨τ', p1, p2, p3, (g3.trans e1).trans p4⟩
  · rw [if_neg q, show (4 : Int32) = nI 4 from rfl, Model_draw (mL_sL_self _ _ _ _) (by omega) (by omega), Option.bind_some]
    dsimp only
    rw [tmS_neg q] at hv
    obtain ⟨c2, e2⟩ := c1.dr (v := nxS (nxS x)) k1
    have h12 : mI (sL τ1 565 45 (nxS x)) 578 = gW B := c1.w
    rw [h12, show (128 : Int32).toNatClampNeg = 128 from rfl]
    obtain ⟨c3, e3⟩ := c2.up (k := 128) (v := gW B 128 ^^^ ((1 : Int32) <<< (nI (dwS (nxS x) 4) &&& 31))) k1
    rw [gW_sH] at c3
    have ok2 : rwOk (gK B) (upd (gW B) 128 (gW B 128 ^^^ ((1 : Int32) <<< (nI (dwS (nxS x) 4) &&& 31)))) := clerk_ok hc.2.2.1 hc.2.2.2.1
    obtain ⟨τ', p1, p2, p3, p4⟩ := year_gift (z4 := z) k1 k2 ok2 c3 (by rw [mL_sI, mL_sL_self]) hv
    exact ⟨τ', p1, p2, p3, (((g3.trans e1).trans e2).trans e3).trans p4⟩
