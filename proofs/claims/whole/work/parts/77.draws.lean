/-! draws -/
def nxS (x : Int64) : Int64 := x * (6364136223846793005 : Int64) + (1442695040888963407 : Int64)
def shS (x : Int64) : Nat := ((nxS x).toUInt64 >>> (33 : UInt64)).toNat
def dwS (x : Int64) (k : Nat) : Nat := shS x % k
theorem shS_lt (x : Int64) : shS x < 2 ^ 31 := by
  unfold shS
  rw [UInt64.toNat_shiftRight, show (33 : UInt64).toNat % 64 = 33 by decide, Nat.shiftRight_eq_div_pow]
  have := UInt64.toNat_lt (nxS x).toUInt64
  omega
theorem lush_sh (x : Int64) : lush (nxS x) (33 : Int32) = lN (shS x) := by
  unfold lush shS
  rw [show ((33 : Int32).toInt64.toUInt64 &&& Int64.toUInt64 63) = (33 : UInt64) by decide]
  generalize (nxS x).toUInt64 >>> (33 : UInt64) = u
  refine Int64.toBitVec_inj.mp ?_
  show u.toBitVec = BitVec.ofNat 64 u.toBitVec.toNat
  simp
theorem draw_val {x : Int64} {k : Nat} (h1 : 1 ≤ k) (hk : k ≤ 10) : (lush (nxS x) (33 : Int32) - lush (nxS x) (33 : Int32) / (nI k).toInt64 * (nI k).toInt64).toInt32 = nI (dwS x k) := by
  have := shS_lt x
  rw [lush_sh, nI_l (by omega), pk_lRem (by omega) (by omega) (by omega), lN_i]
  rfl
theorem nI_l_ne0 {k : Nat} (h1 : 1 ≤ k) (hk : k ≤ 10) : ¬ (nI k).toInt64 = 0 := fun q => by
  rw [nI_l (by omega)] at q
  have := (lN_eq (b := 0) (by omega) (by omega)).mp q
  omega
theorem mL_sL_self (σ : Mem) (a k : Nat) (v : Int64) : mL (sL σ a k v) a k = v := by rw [mL_sL, if_pos ⟨rfl, rfl⟩]
theorem Game_draw {σ : Mem} {x : Int64} {k : Nat} (hx : mL σ 0 17 = x) (h1 : 1 ≤ k) (hk : k ≤ 10) : f_Game_draw σ (nI k) = some (nI (dwS x k), sL σ 0 17 (nxS x)) := by
  unfold f_Game_draw
  rw [if_neg (nI_nle (by omega) (by omega)), if_neg (nI_l_ne0 h1 hk), hx, show x * (6364136223846793005 : Int64) + (1442695040888963407 : Int64) = nxS x from rfl, mL_sL_self, draw_val h1 hk]
theorem Model_draw {σ : Mem} {x : Int64} {k : Nat} (hx : mL σ 565 45 = x) (h1 : 1 ≤ k) (hk : k ≤ 10) : f_Model_draw σ (nI k) = some (nI (dwS x k), sL σ 565 45 (nxS x)) := by
  unfold f_Model_draw
  rw [if_neg (nI_l_ne0 h1 hk), hx, show x * (6364136223846793005 : Int64) + (1442695040888963407 : Int64) = nxS x from rfl, mL_sL_self, draw_val h1 hk]
theorem CRel.dr {σ : Mem} {A : Gh} {v : Int64} (hA : gOk A) (hC : CRel σ A) : CRel (sL σ 0 17 v) A ∧ EqHi σ (sL σ 0 17 v) := by
  have sc : SC (gL A).1 (gD A).1 σ (sL σ 0 17 v) := ⟨fun _ _ => rfl, rfl, fun _ _ => rfl, fun _ _ => ⟨rfl, rfl⟩, fun _ _ => ⟨rfl, rfl⟩, rfl, fun a ha => funext fun j => by rw [mL_sL, if_neg (by omega)]⟩
  exact ⟨hC.scr sc, sc.hi⟩
theorem MRel.dr {σ : Mem} {A : Gh} {v : Int64} (hA : gOk A) (hM : MRel σ A) : MRel (sL σ 565 45 v) A ∧ EqLo σ (sL σ 565 45 v) := by
  have sm : SM (gL A).1 (gL A).2.1 σ (sL σ 565 45 v) := ⟨fun _ _ => rfl, fun _ _ => rfl, fun _ _ => rfl, fun _ _ => rfl, hM.t.fr rfl rfl (funext fun j => by rw [mL_sL, if_neg (by omega)]) rfl, fun a ha => ⟨rfl, funext fun j => by rw [mL_sL, if_neg (by omega)], rfl⟩⟩
  exact ⟨hM.scr hA sm, sm.2.2.2.2.2⟩
theorem dwS_lt {x : Int64} {k : Nat} (h : 1 ≤ k) : dwS x k < k := Nat.mod_lt _ (by omega)
def tmS (w : Rw) (x : Int64) (tm : Int32) : Rw × Int64 := if tm ≤ nI (dwS x 10) then (w, nxS x) else (upd w 128 (w 128 ^^^ ((1 : Int32) <<< (nI (dwS (nxS x) 4) &&& 31))), nxS (nxS x))
def gfS (w : Rw) (x : Int64) (B : Nat) : Rw × Int64 := if 2 ≤ dwS x 10 then (w, nxS x) else (upd w (24 + dwS (nxS x) B) (imin 999 (w (24 + dwS (nxS x) B) + nI (dwS (nxS (nxS x)) 10) + 1)), nxS (nxS (nxS x)))
def wcS (w : Rw) (x : Int64) (tm : Int32) (B : Nat) : Rw × Int64 := gfS (tmS w x tm).1 (tmS w x tm).2 B
theorem clerk_ok {K : Cy} {w : Rw} {v : Int32} (hK : CyOk K) (hw : rwOk K w) : rwOk K (upd w 128 v) := by
  obtain ⟨q1, q2, q3, q4, q5⟩ := hw.1
  have e1 : upd w 128 v 131 = w 131 := upd_ne (by omega)
  have e2 : upd w 128 v 129 = w 129 := upd_ne (by omega)
  refine ⟨⟨q1.congr fun i h6 h7 => upd_ne (by omega), q2.congr hK.1 fun i h => upd_ne (by omega), q3.congr hK.2.1 fun i h6 h7 => upd_ne (by omega), q4.congr (upd_ne (by omega)), q5.congr (upd_ne (by omega))⟩, ?_, ?_⟩
  · rw [e1]; exact hw.2.1
  · unfold TrOk; rw [e2]; exact hw.2.2
theorem purse_ok {K : Cy} {w : Rw} {b m : Nat} (hK : CyOk K) (hw : rwOk K w) (hb : b < 6) (hm : m < 1000) : rwOk K (upd w (24 + b) (nI m)) := by
  obtain ⟨q1, q2, q3, q4, q5⟩ := hw.1
  have e1 : upd w (24 + b) (nI m) 131 = w 131 := upd_ne (by omega)
  have e2 : upd w (24 + b) (nI m) 129 = w 129 := upd_ne (by omega)
  refine ⟨⟨q1.congr fun i h6 h7 => upd_ne (by omega), q2.congr hK.1 fun i h => upd_ne (by omega), fun c hc => ?_, q4.congr (upd_ne (by omega)), q5.congr (upd_ne (by omega))⟩, ?_, ?_⟩
  · rw [upd_at]
    by_cases e : 24 + c = 24 + b
    · rw [if_pos e]; exact ⟨m, hm, rfl⟩
    · rw [if_neg e]; exact q3 c hc
  · rw [e1]; exact hw.2.1
  · unfold TrOk; rw [e2]; exact hw.2.2
theorem tmS_pos {w : Rw} {x : Int64} {tm : Int32} (q : tm ≤ nI (dwS x 10)) : tmS w x tm = (w, nxS x) := by unfold tmS; rw [if_pos q]
theorem tmS_neg {w : Rw} {x : Int64} {tm : Int32} (q : ¬ tm ≤ nI (dwS x 10)) : tmS w x tm = (upd w 128 (w 128 ^^^ ((1 : Int32) <<< (nI (dwS (nxS x) 4) &&& 31))), nxS (nxS x)) := by unfold tmS; rw [if_neg q]
theorem gfS_pos {w : Rw} {x : Int64} {B : Nat} (q : 2 ≤ dwS x 10) : gfS w x B = (w, nxS x) := by unfold gfS; rw [if_pos q]
theorem gfS_neg {w : Rw} {x : Int64} {B : Nat} (q : ¬ 2 ≤ dwS x 10) : gfS w x B = (upd w (24 + dwS (nxS x) B) (imin 999 (w (24 + dwS (nxS x) B) + nI (dwS (nxS (nxS x)) 10) + 1)), nxS (nxS (nxS x))) := by unfold gfS; rw [if_neg q]
theorem tmS_ok {K : Cy} {w : Rw} {x : Int64} {tm : Int32} (hK : CyOk K) (hw : rwOk K w) : rwOk K (tmS w x tm).1 ∧ (∀ i, 129 ≤ i → (tmS w x tm).1 i = w i) := by
  by_cases q : tm ≤ nI (dwS x 10)
  · rw [tmS_pos q]; exact ⟨hw, fun _ _ => rfl⟩
  · rw [tmS_neg q]
    dsimp only
    exact ⟨clerk_ok hK hw, fun i hi => upd_ne (by omega)⟩
theorem gfS_ok {K : Cy} {w : Rw} {x : Int64} (hK : CyOk K) (hB : 1 ≤ cB K) (hw : rwOk K w) : rwOk K (gfS w x (cB K)).1 ∧ (∀ i, 129 ≤ i → (gfS w x (cB K)).1 i = w i) := by
  have h6 := hK.2.1
  have hb := dwS_lt (x := nxS x) hB
  by_cases q : 2 ≤ dwS x 10
  · rw [gfS_pos q]; exact ⟨hw, fun _ _ => rfl⟩
  · rw [gfS_neg q]
    dsimp only
    generalize dwS (nxS x) (cB K) = b at *
    have h10 := dwS_lt (x := nxS (nxS x)) (k := 10) (by omega)
    generalize dwS (nxS (nxS x)) 10 = g at *
    obtain ⟨m, m1, m2⟩ := hw.1.2.2.1 b hb
    have e : imin 999 (w (24 + b) + nI g + 1) = nI (min 999 (m + g + 1)) := by
      rw [m2, nI_add, nI_1, show (999 : Int32) = nI 999 from rfl, imin_nI (by omega) (by omega)]
    rw [e]
    exact ⟨purse_ok hK hw (by omega) (by omega), fun i hi => upd_ne (by omega)⟩
theorem Game_draws {τ : Mem} {B : Gh} {x : Int64} (hB : gOk B) (hc : hasC B) (hC : CRel τ B) (hx : mL τ 0 17 = x) : ∃ τ', f_Game_drawWhatComes τ = some τ' ∧ CRel τ' (sW B (wcS (gW B) x (gM B).2 (cB (gK B))).1) ∧ mL τ' 0 17 = (wcS (gW B) x (gM B).2 (cB (gK B))).2 ∧ EqHi τ τ' := by
  have t8 := hB.T8
  have b6 := hB.B6
  -- the second part, from a state with w1
  have part2 : ∀ (τ : Mem) (w1 : Rw) (x2 : Int64), rwOk (gK B) w1 → CRel τ (sW B w1) → mL τ 0 17 = x2 → ∃ τ', f_Game_drawWhatComes_J32 τ = some τ' ∧ CRel τ' (sW B (gfS w1 x2 (cB (gK B))).1) ∧ mL τ' 0 17 = (gfS w1 x2 (cB (gK B))).2 ∧ EqHi τ τ' := fun τ w1 x2 ok1 hC1 hx2 => by
    have oA := gOk_W hB hc ok1
    have oC := hasC_W hc ok1
    obtain ⟨c1, e1⟩ := hC1.dr (v := nxS x2) oA
    unfold f_Game_drawWhatComes_J32
    rw [show (10 : Int32) = nI 10 from rfl, Game_draw hx2 (by omega) (by omega), Option.bind_some]
    dsimp only
    by_cases q : 2 ≤ dwS x2 10
    · have := dwS_lt (x := x2) (k := 10) (by omega)
      rw [if_pos (show (2 : Int32) ≤ nI (dwS x2 10) from nI_le (a := 2) q (by omega)), gfS_pos q]
      exact ⟨_, rfl, c1, mL_sL_self _ _ _ _, e1⟩
    · rw [if_neg (show ¬ (2 : Int32) ≤ nI (dwS x2 10) from nI_ge (b := 2) (by omega) (by omega)), gfS_neg q, if_pos c1.k.1, c1.k.2.2.2.1]
      have e2 : gK (sW B w1) = gK B := rfl
      rw [e2, Game_draw (mL_sL_self _ _ _ _) hc.2.1 (by omega), Option.bind_some]
      dsimp only
      obtain ⟨c2, f2⟩ := c1.dr (v := nxS (nxS x2)) oA
      rw [Game_draw (mL_sL_self _ _ _ _) (by omega) (by omega), Option.bind_some]
      dsimp only
      obtain ⟨c3, f3⟩ := c2.dr (v := nxS (nxS (nxS x2))) oA
      have hb := dwS_lt (x := nxS x2) hc.2.1
      rw [if_pos (inb_nI (show dwS (nxS x2) (cB (gK B)) < 6 by omega) (by decide)), nI_clamp (by omega)]
      have hr := (c3.n oC).1
      have hp : mI (sL (sL (sL τ 0 17 (nxS x2)) 0 17 (nxS (nxS x2))) 0 17 (nxS (nxS (nxS x2)))) 12 (dwS (nxS x2) (cB (gK B))) = w1 (24 + dwS (nxS x2) (cB (gK B))) := (hr.2.2.2.1 _ hb).1
      rw [hp]
      have cr := CR_purse (b := dwS (nxS x2) (cB (gK B))) (v := imin 999 (w1 (24 + dwS (nxS x2) (cB (gK B))) + (nI (dwS (nxS (nxS x2)) 10) + 1))) oA.J t8 b6 ok6 c3.j hr ok1.m hb
      obtain ⟨c4, f4⟩ := c3.cr oA oC cr fun i hi => upd_ne (by omega)
      rw [Int32.add_assoc]
      refine ⟨_, rfl, c4, ?_, ((e1.trans f2).trans f3).trans f4⟩
      rw [mL_sI, mL_sL_self]
  obtain ⟨c1, e1⟩ := hC.dr (v := nxS x) hB
  unfold f_Game_drawWhatComes wcS
  rw [show (10 : Int32) = nI 10 from rfl, Game_draw hx (by omega) (by omega), Option.bind_some, c1.2.2.2.1.2]
  by_cases q : (gM B).2 ≤ nI (dwS x 10)
  · rw [if_pos q, tmS_pos q]
    obtain ⟨τ', p1, p2, p3, p4⟩ := part2 (sL τ 0 17 (nxS x)) (gW B) (nxS x) hc.2.2.2.1 c1 (mL_sL_self _ _ _ _)
    exact ⟨τ', p1, p2, p3, e1.trans p4⟩
  · rw [if_neg q, tmS_neg q, show (4 : Int32) = nI 4 from rfl, Game_draw (mL_sL_self _ _ _ _) (by omega) (by omega), Option.bind_some]
    dsimp only
    obtain ⟨c2, e2⟩ := c1.dr (v := nxS (nxS x)) hB
    have hr := (c2.n hc).1
    have h12 : mI (sL τ 0 17 (nxS x)) 6 12 = gW B 128 := by
      have h := hr.2.2.2.2.2.1.2.2.1
      rw [mI_sL, mI_sL] at h
      rw [mI_sL]
      exact h
    rw [h12]
    have cr := CR_field (f := 12) (j := 128) (v := gW B 128 ^^^ ((1 : Int32) <<< (nI (dwS (nxS x) 4) &&& 31))) hB.J t8 b6 ok6 c2.j hr hc.2.2.2.1.m (Or.inr ⟨rfl, rfl⟩)
    obtain ⟨c3, e3⟩ := c2.cr hB hc cr fun i hi => upd_ne (by omega)
    have ok2 : rwOk (gK B) (upd (gW B) 128 (gW B 128 ^^^ ((1 : Int32) <<< (nI (dwS (nxS x) 4) &&& 31)))) := clerk_ok hc.2.2.1 hc.2.2.2.1
    obtain ⟨τ', p1, p2, p3, p4⟩ := part2 _ _ (nxS (nxS x)) ok2 c3 (by rw [mL_sI, mL_sL_self])
    exact ⟨τ', p1, p2, p3, ((e1.trans e2).trans e3).trans p4⟩
