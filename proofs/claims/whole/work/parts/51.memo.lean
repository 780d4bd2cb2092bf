/-! the reference: laws as texts, and what it remembers of them -/
abbrev Lk6 : Type := Int32 → Int32 → Int32 → Int32 → Int32 → Int32 → Int32
/-- going through a text changes the reader's own numbers alone -/
def GT (τ τ' : Mem) : Prop := (∀ c, c ≠ 565 → mI τ' c = mI τ c) ∧ mL τ' = mL τ ∧ (∀ c k, (c ≠ 565 ∨ k ≠ 5) → mR τ' c k = mR τ c k) ∧ (∀ k, ¬ (8 ≤ k ∧ k ≤ 14 ∨ k = 17) → mI τ' 565 k = mI τ 565 k)
/-- the i-th text is a law by which one likes so much -/
def TextM (σ : Mem) (i : Nat) (lk : Lk6) : Prop := ∀ τ, (∀ j, j < 240 → mI τ 567 (240 * i + j) = mI σ 567 (240 * i + j)) → mI τ 568 i = mI σ 568 i → (∀ c, (c = 112 ∨ c = 119 ∨ c = 100 ∨ c = 109 ∨ c = 115 ∨ c = 104) → ∃ n, n < 1000 ∧ mI τ 569 c = nI n) → ∃ τ', f_Model_goThrough τ 567 (nI (240 * i)) (mI τ 568 i) = some τ' ∧ imax 0 (imin 99 (mI τ' 565 14)) = lk (mI τ 569 112) (mI τ 569 119) (mI τ 569 100) (mI τ 569 109) (mI τ 569 115) (mI τ 569 104) ∧ GT τ τ'
def kyN (i p w d m s h : Nat) : Nat := 24 * (4 * (1000 * (10 * (10 * (100 * (1 + i) + p) + w) + d) + m) + s) + h
def MemoOk (σ : Mem) (lc : Nat) (lks : Nat → Lk6) : Prop := ∀ q, q < 8191 → mL σ 581 q = 0 ∨ ∃ i p w d m s h, i < lc ∧ p < 100 ∧ w < 10 ∧ d < 10 ∧ m < 1000 ∧ s < 4 ∧ h < 24 ∧ mL σ 581 q = lN (kyN i p w d m s h) ∧ mI σ 582 q = lks i (nI p) (nI w) (nI d) (nI m) (nI s) (nI h)
def MTx (σ : Mem) (lc : Nat) (lks : Nat → Lk6) : Prop := lc ≤ 4 ∧ (∀ i, i < lc → TextM σ i (lks i)) ∧ MemoOk σ lc lks
def plK : Lk6 := fun _ w d _ _ _ => imax 0 (imin 99 (4 * d + w))
/-- how one likes by the law that holds -/
def lkN (lks : Nat → Lk6) (lh : Int32) : Lk6 := if lh = -1 then plK else lks lh.toNatClampNeg
theorem MTx.fr {σ σ' : Mem} {lc : Nat} {lks : Nat → Lk6} (h : MTx σ lc lks) (h1 : mI σ' 567 = mI σ 567) (h2 : mI σ' 568 = mI σ 568) (h3 : mL σ' 581 = mL σ 581) (h4 : mI σ' 582 = mI σ 582) : MTx σ' lc lks := by
  refine ⟨h.1, fun i hi τ t1 t2 => h.2.1 i hi τ (fun j hj => (t1 j hj).trans (by rw [h1])) (t2.trans (by rw [h2])), ?_⟩
  unfold MemoOk
  rw [h3, h4]
  exact h.2.2
theorem kyN_inj {i p w d m s h i' p' w' d' m' s' h' : Nat} (a1 : p < 100) (a2 : w < 10) (a3 : d < 10) (a4 : m < 1000) (a5 : s < 4) (a6 : h < 24) (b1 : p' < 100) (b2 : w' < 10) (b3 : d' < 10) (b4 : m' < 1000) (b5 : s' < 4) (b6 : h' < 24) (e : kyN i p w d m s h = kyN i' p' w' d' m' s' h') : i = i' ∧ p = p' ∧ w = w' ∧ d = d' ∧ m = m' ∧ s = s' ∧ h = h' := by
  unfold kyN at e
  omega
theorem kyN_lt {i p w d m s h : Nat} (a0 : i < 4) (a1 : p < 100) (a2 : w < 10) (a3 : d < 10) (a4 : m < 1000) (a5 : s < 4) (a6 : h < 24) : 0 < kyN i p w d m s h ∧ kyN i p w d m s h < 2 ^ 40 := by
  unfold kyN
  omega
theorem worthOf_ok {σ : Mem} {lc i p w d m s h : Nat} {lks : Nat → Lk6} (hT : MTx σ lc lks) (hl : mI σ 565 35 = nI i) (hi : i < lc) (a1 : p < 100) (a2 : w < 10) (a3 : d < 10) (a4 : m < 1000) (a5 : s < 4) (a6 : h < 24) : ∃ σ', f_Model_worthOf σ (nI p) (nI w) (nI d) (nI m) (nI s) (nI h) = some (lks i (nI p) (nI w) (nI d) (nI m) (nI s) (nI h), σ') ∧ MX 569 σ σ' ∧ MTx σ' lc lks := by
  have h4 := hT.1
  obtain ⟨k0, k1⟩ := kyN_lt (show i < 4 by omega) a1 a2 a3 a4 a5 a6
  have hkey : ((24 : Int64) * (((4 : Int64) * (((1000 : Int64) * (((10 : Int64) * (((10 : Int64) * (((100 : Int64) * ((1 : Int64) + (((mI σ 565 35)).toInt64))) + (((nI p)).toInt64))) + (((nI w)).toInt64))) + (((nI d)).toInt64))) + (((nI m)).toInt64))) + (((nI s)).toInt64))) + (((nI h)).toInt64) = lN (kyN i p w d m s h) := by
    rw [hl, nI_l (show i < 2 ^ 31 by omega), nI_l (show p < 2 ^ 31 by omega), nI_l (show w < 2 ^ 31 by omega), nI_l (show d < 2 ^ 31 by omega), nI_l (show m < 2 ^ 31 by omega), nI_l (show s < 2 ^ 31 by omega), nI_l (show h < 2 ^ 31 by omega)]
    rw [show (24 : Int64) = lN 24 from rfl, show (4 : Int64) = lN 4 from rfl, show (1000 : Int64) = lN 1000 from rfl, show (10 : Int64) = lN 10 from rfl, show (100 : Int64) = lN 100 from rfl, show (1 : Int64) = lN 1 from rfl]
    simp only [lN_add, lN_mul]
    rfl
  have hspot : (lN (kyN i p w d m s h) - lN (kyN i p w d m s h) / (8191 : Int64) * (8191 : Int64)).toInt32 = nI (kyN i p w d m s h % 8191) := by
    rw [show (8191 : Int64) = lN 8191 from rfl, pk_lRem (by omega) (by omega) (by omega), lN_i]
  have hq : kyN i p w d m s h % 8191 < 8191 := Nat.mod_lt _ (by omega)
  unfold f_Model_worthOf
  rw [hkey, hspot, if_pos (inb_nI hq (by omega)), nI_clamp (by omega)]
  generalize hKK : kyN i p w d m s h = kk at *
  generalize hQQ : kk % 8191 = qq at *
  by_cases hc : mL σ 581 qq = lN kk
  · rw [if_pos ((lg_cmp_eq _ _).mpr hc)]
    refine ⟨σ, ?_, MX.refl _ _, hT⟩
    rcases hT.2.2 qq hq with z | ⟨i', p', w', d', m', s', h', b0, b1, b2, b3, b4, b5, b6, b7, b8⟩
    · rw [hc] at z
      have := (pk_lEQ (a := kk) (b := 0) (by omega) (by omega)).mp z
      omega
    · rw [hc] at b7
      obtain ⟨-, kb⟩ := kyN_lt (show i' < 4 by omega) b1 b2 b3 b4 b5 b6
      have e := (pk_lEQ (by omega) (by omega)).mp b7
      rw [← hKK] at e
      obtain ⟨rfl, rfl, rfl, rfl, rfl, rfl, rfl⟩ := kyN_inj a1 a2 a3 a4 a5 a6 b1 b2 b3 b4 b5 b6 e
      rw [b8]
  · rw [if_neg (fun q => hc ((lg_cmp_eq _ _).mp q))]
    have l1 : (112 : Int32).toNatClampNeg = 112 := by decide
    have l2 : (119 : Int32).toNatClampNeg = 119 := by decide
    have l3 : (100 : Int32).toNatClampNeg = 100 := by decide
    have l4 : (109 : Int32).toNatClampNeg = 109 := by decide
    have l5 : (115 : Int32).toNatClampNeg = 115 := by decide
    have l6 : (104 : Int32).toNatClampNeg = 104 := by decide
    rw [l1, l2, l3, l4, l5, l6]
    have hσ1 : ∀ c, c ≠ 569 → mI (sI (sI (sI (sI (sI (sI σ 569 112 (nI p)) 569 119 (nI w)) 569 100 (nI d)) 569 109 (nI m)) 569 115 (nI s)) 569 104 (nI h)) c = mI σ c := fun c hc => by rw [row_ne hc, row_ne hc, row_ne hc, row_ne hc, row_ne hc, row_ne hc]
    have hlet : mI (sI (sI (sI (sI (sI (sI σ 569 112 (nI p)) 569 119 (nI w)) 569 100 (nI d)) 569 109 (nI m)) 569 115 (nI s)) 569 104 (nI h)) 569 = upd (upd (upd (upd (upd (upd (mI σ 569) 112 (nI p)) 119 (nI w)) 100 (nI d)) 109 (nI m)) 115 (nI s)) 104 (nI h) := by rw [row_sI, row_sI, row_sI, row_sI, row_sI, row_sI]
    have hL1 : mL (sI (sI (sI (sI (sI (sI σ 569 112 (nI p)) 569 119 (nI w)) 569 100 (nI d)) 569 109 (nI m)) 569 115 (nI s)) 569 104 (nI h)) = mL σ := rfl
    have hR1 : mR (sI (sI (sI (sI (sI (sI σ 569 112 (nI p)) 569 119 (nI w)) 569 100 (nI d)) 569 109 (nI m)) 569 115 (nI s)) 569 104 (nI h)) = mR σ := rfl
    generalize sI (sI (sI (sI (sI (sI σ 569 112 (nI p)) 569 119 (nI w)) 569 100 (nI d)) 569 109 (nI m)) 569 115 (nI s)) 569 104 (nI h) = σ1 at *
    have hbd : ∀ c, (c = 112 ∨ c = 119 ∨ c = 100 ∨ c = 109 ∨ c = 115 ∨ c = 104) → ∃ n, n < 1000 ∧ mI σ1 569 c = nI n := by
      rw [hlet]
      rintro c (rfl | rfl | rfl | rfl | rfl | rfl)
      · exact ⟨p, by omega, rfl⟩
      · exact ⟨w, by omega, rfl⟩
      · exact ⟨d, by omega, rfl⟩
      · exact ⟨m, by omega, rfl⟩
      · exact ⟨s, by omega, rfl⟩
      · exact ⟨h, by omega, rfl⟩
    obtain ⟨σ2, g1, g2, g3⟩ := hT.2.1 i hi σ1 (fun j _ => by rw [hσ1 567 (by omega)]) (by rw [hσ1 568 (by omega)]) hbd
    have e35 : mI σ1 565 35 = nI i := by rw [hσ1 565 (by omega)]; exact hl
    have e240 : (240 : Int32) * nI i = nI (240 * i) := pk_mul 240 i
    rw [e35, if_pos (inb_nI (show i < 4 by omega) (by decide)), e240, nI_clamp (by omega), g1, Option.bind_some]
    rw [hlet] at g2
    simp only [upd_at] at g2
    have g2' : imax 0 (imin 99 (mI σ2 565 14)) = lks i (nI p) (nI w) (nI d) (nI m) (nI s) (nI h) := g2
    rw [mI_sL, g2']
    have hrow : mI (sI (sL σ2 581 qq (lN kk)) 582 qq (lks i (nI p) (nI w) (nI d) (nI m) (nI s) (nI h))) 582 qq = lks i (nI p) (nI w) (nI d) (nI m) (nI s) (nI h) := by rw [row_sI, upd_self]
    rw [hrow]
    refine ⟨_, rfl, ⟨fun c c1 c2 c3 c4 c5 => ?_, fun c c1 => ?_, fun c k c1 => ?_, fun k hk => ?_⟩, h4, fun j hj τ t1 t2 => hT.2.1 j hj τ (fun z hz => (t1 z hz).trans ?_) (t2.trans ?_), fun r hr => ?_⟩
    · rw [row_ne c5, mI_sL, g3.1 c c2, hσ1 c c1]
    · rw [mL_sI]
      funext j
      rw [mL_sL, if_neg (fun q => c1 q.1), g3.2.1, hL1]
    · rw [mR_sI, mR_sL, g3.2.2.1 c k c1, hR1]
    · rw [row_ne (by omega), mI_sL, g3.2.2.2 k hk, hσ1 565 (by omega)]
    · rw [row_ne (by omega), mI_sL, g3.1 567 (by omega), hσ1 567 (by omega)]
    · rw [row_ne (by omega), mI_sL, g3.1 568 (by omega), hσ1 568 (by omega)]
    · rw [mL_sI, mL_sL, row_sI, upd_at]
      by_cases hrq : r = qq
      · rw [if_pos ⟨rfl, hrq⟩, if_pos hrq]
        exact Or.inr ⟨i, p, w, d, m, s, h, hi, a1, a2, a3, a4, a5, a6, by rw [hKK], rfl⟩
      · rw [if_neg (fun q => hrq q.2), if_neg hrq, g3.2.1, hL1, mI_sL, g3.1 582 (by omega), hσ1 582 (by omega)]
        exact hT.2.2 r hr
/-- the reference's liking, as the rest uses it -/
theorem LkM_of (lc : Nat) (lks : Nat → Lk6) (lh : Int32) (hlh : lh = -1 ∨ ∃ i, i < lc ∧ lh = nI i) (h4 : lc ≤ 4) : LkM (fun σ => MTx σ lc lks ∧ mI σ 565 35 = lh) (lkN lks lh) := by
  refine ⟨fun σ σ' hi he => ⟨hi.1.fr he.1 he.2.1 he.2.2.1 he.2.2.2.1, he.2.2.2.2.trans hi.2⟩, fun σ hi hl p w d m s h w1 d1 => ?_, fun σ hi hl p w d m s h a1 a2 a3 a4 a5 a6 => ?_⟩
  · have e : lh = -1 := hi.2.symm.trans hl
    have e4 : (4 : Int32) * nI d + nI w = nI (4 * d + w) := by rw [nI_4mul, nI_add]
    unfold lkN plK
    rw [if_pos e, e4, show (99 : Int32) = nI 99 from rfl, imin_nI (by omega) (by omega)]
    unfold imax
    by_cases z : (0 : Int32) < nI (min 99 (4 * d + w))
    · rw [if_pos z]
    · rw [if_neg z]
      have : min 99 (4 * d + w) = 0 := Nat.eq_zero_of_not_pos fun q => z (nI_lt (a := 0) q (by omega))
      rw [this]; rfl
  · rcases hlh with e | ⟨i, i1, i2⟩
    · exact absurd (hi.2.trans e) hl
    · have e : lkN lks lh = lks i := by
        unfold lkN
        rw [i2, if_neg (nI_ne_m1 (by omega)), nI_clamp (by omega)]
      rw [e]
      obtain ⟨σ', g1, g2, g3⟩ := worthOf_ok hi.1 (hi.2.trans i2) i1 a1 a2 a3 a4 a5 a6
      exact ⟨σ', g1, g2, g3, (g2.2.2.2 35 (by omega)).trans hi.2⟩
