/-! a city told: fault and text -/
theorem CRel.lo {σ σ' : Mem} {A : Gh} (hA : gOk A) (h : CRel σ A) (g : EqLo σ σ') : CRel σ' A := by
  have l4 := hA.2.1.1
  have d4 := hA.2.2.1.1
  obtain ⟨h1, h2, h3, h4, h5, h6, h7, h8, h9, h10⟩ := h
  have cc := h6.c
  have kk : ∀ c, c < 565 → mI σ' c = mI σ c := fun c hc => (g c (by omega)).1
  have kR : ∀ c, c < 565 → mR σ' c = mR σ c := fun c hc => (g c (by omega)).2.2
  exact ⟨h1.fr (by rw [kk 1 (by omega)]) (kk 2 (by omega)), h2.fr (by rw [kk 0 (by omega)]) (by rw [kk 0 (by omega)]) (fun i hi => ⟨kk _ (by omega), kk _ (by omega)⟩) (by rw [kR 428 (by omega)]), h3.fr (by rw [kk 0 (by omega)]) (fun i hi => ⟨kk _ (by omega), kk _ (by omega)⟩), h4.fr (by rw [kk 0 (by omega)]) (kk 5 (by omega)), h5.fr4 (by rw [kR 428 (by omega)]) fun k hk => kk _ (by omega), by unfold CDra; rw [kR 0 (by omega), kR 428 (by omega)]; exact h6, h7.fr fun a q1 q2 => kk a (by omega), h8.fr (by rw [kk 0 (by omega)]) fun a q1 q2 => kk a (by omega), h9.fr fun a q1 q2 => kk a (by omega), h10.fr (by rw [kk 516 (by omega)]) (kk 527 (by omega)) (kk 528 (by omega)) (kk 529 (by omega))⟩
theorem MRel.hi {σ σ' : Mem} {A : Gh} (hA : gOk A) (h : MRel σ A) (g : EqHi σ σ') : MRel σ' A := by
  obtain ⟨q1, q2, q3, q4, q5, ⟨q6, q6'⟩, q7, q8, q9, q10⟩ := h
  have kk : ∀ c, 565 ≤ c → mI σ' c = mI σ c := fun c hc => (g c hc).1
  refine ⟨?_, ⟨by rw [kk 565 (by omega)]; exact q2.1, by rw [kk 565 (by omega)]; exact q2.2.1, q2.2.2.fr (kk _ (by omega)) (kk _ (by omega)) (g 581 (by omega)).2.1 (kk _ (by omega))⟩, ?_, ⟨fun k hk => by rw [kk 580 (by omega)]; exact q4.1 k hk, by rw [kk 565 (by omega)]; exact q4.2⟩, q5.fr0 q6 q6' hA.T8 hA.B6 (fun k hk => by rw [kk 565 (by omega)]) (fun a ha => kk a (by omega)), by rw [kk 565 (by omega)]; exact ⟨q6, q6'⟩, by rw [kk 578 (by omega)]; exact q7, ?_, ?_, ?_⟩
  · unfold MTape; rw [kk 565 (by omega), kk 566 (by omega)]; exact q1
  · unfold MDay; rw [kk 565 (by omega), kk 577 (by omega), kk 576 (by omega)]; exact q3
  · unfold MImg; rw [kk 565 (by omega), kk 589 (by omega)]; exact q8
  · unfold MHis; rw [kk 565 (by omega), kk 583 (by omega)]; exact q9
  · unfold MSee; rw [kk 565 (by omega), kk 585 (by omega)]; exact q10
/-- both, one behind the other, over one memory -/
def Sim2A (A : Gh) (σ : Mem) (fG fM : Mem → Option (Int32 × Mem)) : Prop := ∃ r A' σ1 σ2, fG σ = some (r, σ1) ∧ fM σ1 = some (r, σ2) ∧ gOk A' ∧ CRel σ2 A' ∧ MRel σ2 A'
def Sim2 (fG fM : Mem → Option (Int32 × Mem)) : Prop := ∀ A σ, gOk A → CRel σ A → MRel σ A → Sim2A A σ fG fM
theorem SimA.two {A : Gh} {σ : Mem} {fG fM : Mem → Option (Int32 × Mem)} (h : SimA A fG fM) (hA : gOk A) (hC : CRel σ A) (hM : MRel σ A) : Sim2A A σ fG fM := by
  obtain ⟨r, A', h1, h2, h3⟩ := h
  obtain ⟨σ1, g1, g2, g3⟩ := h2 σ hC
  obtain ⟨σ2, k1, k2, k3⟩ := h3 σ1 (hM.hi hA g3)
  exact ⟨r, A', σ1, σ2, g1, k1, h1, g2.lo h1 k3, k2⟩
theorem Sim.two {fG fM : Mem → Option (Int32 × Mem)} (h : Sim fG fM) : Sim2 fG fM := fun A σ hA hC hM => SimA.two (h A hA) hA hC hM
def ciA (A : Gh) : Nat × Option ciT := ciR (tx (gT A)) (gT A).1
theorem fault_city_c {A : Gh} {σ : Mem} (hA : gOk A) (hC : CRel σ A) : ∃ σ', f_Game_fault σ 0 = some (ftS (ciA A), σ') ∧ SC (gL A).1 (gD A).1 σ σ' ∧ mR σ' = mR σ ∧ ∀ s, (ciA A).2 = some s → CCi (mR σ 0 11) s σ' := by
  have l4 := hA.2.1.1
  have d4 := hA.2.2.1.1
  have hd := hC.2.2.2.2.2.1
  have hc : mR σ 0 11 = 430 ∨ mR σ 0 11 = 536 := by rcases hd with h | h <;> omega
  have hk : kd (mR σ 0 11) = 2 := by rcases hc with h | h <;> rw [h] <;> decide +kernel
  obtain ⟨σ', g1, g2, g3⟩ := City_read (okX_of hA.1) hc (CTx_of hA.1 hC.1)
  refine ⟨σ', ?_, ⟨fun a ha => g2.1 a (by omega) (by omega), g2.2.1 1 (by omega) (by omega), fun k hk => g2.1 _ (by rcases hd with h | h <;> omega) (by rcases hd with h | h <;> omega), fun i hi => ⟨g2.1 _ (by omega) (by omega), g2.1 _ (by omega) (by omega)⟩, fun i hi => ⟨g2.1 _ (by omega) (by omega), g2.1 _ (by omega) (by omega)⟩, g2.2.2.2, fun a _ => by rw [g2.2.2.1]⟩, g2.2.2.2, g3⟩
  unfold f_Game_fault
  rw [if_pos rfl, if_pos hk, g1]
  rfl
theorem SM_r4 {A : Gh} {σ σ' : Mem} (hM : MRel σ A) (g : R4 σ σ') : SM (gL A).1 (gL A).2.1 σ σ' :=
  ⟨fun a ha => g.1 a (by omega) (by omega) (by omega) (by omega), fun k hk => g.2.1 k (by omega), fun k _ => by rw [g.1 576 (by omega) (by omega) (by omega) (by omega)], fun k _ => by rw [g.1 577 (by omega) (by omega) (by omega) (by omega)], hM.t.fr (g.1 _ (by omega) (by omega) (by omega) (by omega)) (g.1 _ (by omega) (by omega) (by omega) (by omega)) (by rw [g.2.2.1]) (g.1 _ (by omega) (by omega) (by omega) (by omega)), fun c hc => ⟨g.1 c (by omega) (by omega) (by omega) (by omega), by rw [g.2.2.1], funext fun k => g.2.2.2 c k (by omega)⟩⟩
theorem fault_city_m {A : Gh} {σ : Mem} (hA : gOk A) (hM : MRel σ A) : ∃ σ', f_Model_fault σ 0 = some (ftS (ciA A), σ') ∧ SM (gL A).1 (gL A).2.1 σ σ' ∧ ∀ s, (ciA A).2 = some s → MCi s σ' := by
  have hz := hM.z (v := 0) hA
  obtain ⟨σ', g1, g2, g3, g4⟩ := Model_readCity (okX_of hA.1) (MTt_of hA.1 hz.1)
  refine ⟨σ', ?_, (SM_0 (v := 0) hM).trans (SM_r4 hz g3), g4⟩
  unfold f_Model_fault f_Model_fault_J28 f_Model_fault_J46
  rw [show (2 : Int64) = lN 2 from rfl, show (0 : Int64) = lN 0 from rfl, Model_isInR (by omega) (by omega), Option.bind_some, if_neg (show ¬ isR 0 2 0 = 0 by decide), if_pos (show (0 : Int32) = 0 from rfl), g1, Option.bind_some, if_neg (show ¬ (0 : Int32) = 1 by decide), if_neg (show ¬ (0 : Int32) = 2 by decide), g2]
  rfl
theorem fault_city {A : Gh} (hA : gOk A) : SimA A (fun σ => f_Game_fault σ 0) (fun σ => f_Model_fault σ 0) := SimA.ro hA ⟨_, fun σ hC => by
    obtain ⟨σ', g1, g2, -⟩ := fault_city_c hA hC
    exact ⟨σ', g1, g2⟩, fun σ hM => by
    obtain ⟨σ', g1, g2, -⟩ := fault_city_m hA hM
    exact ⟨σ', g1, g2⟩⟩
theorem ciA_ok {A : Gh} (hA : gOk A) : (ciA A).1 ≤ (gT A).1 ∧ ∀ s, (ciA A).2 = some s → okCi s ∧ 0 < s.2.1.1 ∧ 0 < s.2.1.2 := ciF_ok (okX_of hA.1) 16 ci0 0 (Nat.zero_le _) ci0_ok
/-- a city of what was told -/
def ctK (T B : Nat) (R W F : Rw) (lk : Lk6) : Cy := ((T, B), R, W, F, lk, fun t => W (3 * t + 1), fun b => F (4 * b + 1))
theorem ctK_ok {s : ciT} {R W F : Rw} {lk : Lk6} (ho : okCi s) (hR : ∀ k, k < 4 → R k = s.2.2.1 k) (hW : ∀ k, k < 3 * s.2.1.1 → W k = s.2.2.2.1 k) (hF : ∀ k, k < 4 * s.2.1.2 → F k = s.2.2.2.2 k) : CyOk (ctK s.2.1.1 s.2.1.2 R W F lk) := by
  obtain ⟨o1, o2, o3, o4, o5⟩ := ho
  have gR : ∀ q lo hi, q < 4 → loI 0 q = lo → hiI 0 q = hi → ∃ v, lo ≤ v ∧ v ≤ hi ∧ R q = nI v := fun q lo hi hq h1 h2 => by
    obtain ⟨v, v1, v2, v3⟩ := o3 q hq
    exact ⟨v, by omega, by omega, (hR q hq).trans v3⟩
  have gW : ∀ t q lo hi, t < s.2.1.1 → q < 3 → loI 1 q = lo → hiI 1 q = hi → ∃ v, lo ≤ v ∧ v ≤ hi ∧ W (3 * t + q) = nI v := fun t q lo hi ht hq h1 h2 => by
    obtain ⟨v, v1, v2, v3⟩ := o4 t ht q hq
    exact ⟨v, by omega, by omega, (hW _ (by omega)).trans v3⟩
  have gF : ∀ b q lo hi, b < s.2.1.2 → q < 4 → loI 2 q = lo → hiI 2 q = hi → ∃ v, lo ≤ v ∧ v ≤ hi ∧ F (4 * b + q) = nI v := fun b q lo hi hb hq h1 h2 => by
    obtain ⟨v, v1, v2, v3⟩ := o5 b hb q hq
    exact ⟨v, by omega, by omega, (hF _ (by omega)).trans v3⟩
  refine ⟨o1, o2, fun t ht => ?_, fun t ht => ?_, fun t ht => ?_, fun b hb => ?_, ?_, ?_, ?_, fun b hb => ?_, ?_, fun b hb => ?_⟩
  · obtain ⟨v, v1, v2, v3⟩ := gW t 0 1 99 ht (by omega) (by decide +kernel) (by decide +kernel)
    exact ⟨v, v1, by omega, v3⟩
  · obtain ⟨v, v1, v2, v3⟩ := gW t 2 0 3 ht (by omega) (by decide +kernel) (by decide +kernel)
    exact ⟨v, by omega, v3⟩
  · obtain ⟨v, v1, v2, v3⟩ := gW t 1 0 9 ht (by omega) (by decide +kernel) (by decide +kernel)
    exact ⟨v, by omega, v3⟩
  · obtain ⟨v, v1, v2, v3⟩ := gF b 1 0 9 hb (by omega) (by decide +kernel) (by decide +kernel)
    exact ⟨v, by omega, v3⟩
  · obtain ⟨v, v1, v2, v3⟩ := gR 2 2 30 (by omega) (by decide +kernel) (by decide +kernel)
    exact ⟨v, v1, v2, v3⟩
  · obtain ⟨v, v1, v2, v3⟩ := gR 3 0 30 (by omega) (by decide +kernel) (by decide +kernel)
    exact ⟨v, v2, v3⟩
  · obtain ⟨v, v1, v2, v3⟩ := gR 1 0 9 (by omega) (by decide +kernel) (by decide +kernel)
    exact ⟨v, v2, v3⟩
  · obtain ⟨v, v1, v2, v3⟩ := gF b 2 0 9 hb (by omega) (by decide +kernel) (by decide +kernel)
    exact ⟨v, by omega, v3⟩
  · obtain ⟨v, v1, v2, v3⟩ := gR 0 0 8 (by omega) (by decide +kernel) (by decide +kernel)
    exact ⟨v, v2, v3⟩
  · obtain ⟨v, v1, v2, v3⟩ := gF b 0 0 99 hb (by omega) (by decide +kernel) (by decide +kernel)
    exact ⟨v, by omega, v3⟩
theorem RS_K {σ : Mem} {o : Nat} {K K' : Cy} {w : Rw} (h : RS σ o K w) (hT : cT K' = cT K) (hB : cB K' = cB K) (hV : ∀ t, t < cT K → cV K' t = cV K t) (hD : ∀ b, b < cB K → cD K' b = cD K b) : RS σ o K' w := by
  obtain ⟨r1, r2, r3, r4, r5⟩ := h
  refine ⟨r1, fun t ht => ?_, fun b hb => ?_, fun b hb => ?_, r5⟩
  · rw [hT] at ht; rw [r2 t ht, hV t ht]
  · rw [r3 b hb, hT]
  · rw [hB] at hb; rw [hD b hb]; exact r4 b hb
theorem fill_to {β : Type} {step : Mem × Int32 → Option ((Mem × Int32) ⊕ β)} {σ : Mem} {a n : Nat} {v : Nat → Int32} {r : β} (hn : n < 20000) (hs : ∀ f i, i < n → step (rI σ a f, nI i) = some (.inl (sI (rI σ a f) a i (v i), nI (i + 1)))) (he : step (rI σ a fun j => if j < n then v j else mI σ a j, nI n) = some (.inr r)) : loopF step FU (σ, 0) = some r := by
  have key := loopF_count (step := step) (fun i => (rI σ a fun j => if j < i then v j else mI σ a j, nI i)) r n 0 (fun j _ hj => by
    refine (hs _ j (by omega)).trans ?_
    rw [sI_rI]
    refine congrArg (fun f => some (Sum.inl (rI σ a f, nI (j + 1)))) (funext fun k => ?_)
    rw [upd_at]
    by_cases hk : k = j
    · rw [if_pos hk, if_pos (by omega), hk]
    · rw [if_neg hk]
      by_cases hk2 : k < j
      · rw [if_pos hk2, if_pos (by omega)]
      · rw [if_neg hk2, if_neg (by omega)]) (by rw [Nat.zero_add]; exact he) FU (by unfold FU; omega)
  have e0 : (rI σ a fun j => if j < 0 then v j else mI σ a j) = σ := by
    have : (fun j => if j < 0 then v j else mI σ a j) = mI σ a := by funext j; rw [if_neg (by omega)]
    rw [this, rI_self]
  rw [e0] at key
  exact key
/-- the class settles what was told -/
theorem settle_c {A : Gh} {σ : Mem} {s : ciT} (hA : gOk A) (hC : CRel σ A) (hs : CCi (mR σ 0 11) s σ) (ho : okCi s) : ∃ σ', f_Game_settle σ = some (nI s.2.1.1, σ') ∧ EqHi σ σ' ∧ RS σ' 6 (ctK s.2.1.1 s.2.1.2 s.2.2.1 s.2.2.2.1 s.2.2.2.2 (cL (gK A))) (laS (ctK s.2.1.1 s.2.1.2 s.2.2.1 s.2.2.2.1 s.2.2.2.2 (cL (gK A)))) ∧ mI σ' 6 10 = 0 ∧ CCi (mR σ 0 11) s σ' ∧ mR σ' 428 1 = mR σ 0 11 ∧ mR σ' 0 11 = mR σ 428 1 ∧ mR σ' 428 2 = mR σ 428 2 ∧ mI σ' 1 1 = 0 ∧ mI σ' 0 16 = 0 ∧ mI σ' 26 1 = 0 ∧ mI σ' 26 2 = 0 ∧ mI σ' 516 5 = 0 ∧ (∀ k, k ≠ 16 → mI σ' 0 k = mI σ 0 k) ∧ (∀ a, (a = 5 ∨ (540 ≤ a ∧ a < 555 ∧ a % 3 ≠ 2) ∨ (555 ≤ a ∧ a < 565)) → mI σ' a = mI σ a) := by
  have hd := hC.2.2.2.2.2.1
  have hc : mR σ 0 11 = 430 ∨ mR σ 0 11 = 536 := by rcases hd with h | h <;> omega
  have hk : kd (mR σ 0 11) = 2 := by rcases hc with h | h <;> rw [h] <;> decide +kernel
  have ho1 := ho.1
  have ho2 := ho.2.1
  generalize hcc : mR σ 0 11 = c at hc hk hs ⊢
  generalize hoc : mR σ 428 1 = oc
  have iI : ∀ a, a ≠ 1 → mI (sI (sR (sR σ 0 11 oc) 428 1 c) 1 1 (0 : Int32)) a = mI σ a := fun a ha => by rw [row_ne ha, mI_sR, mI_sR]
  have r1 : mR (sI (sR (sR σ 0 11 oc) 428 1 c) 1 1 (0 : Int32)) 428 1 = c := by rw [mR_sI, mR_sR, if_pos ⟨rfl, rfl⟩]
  have r2 : mR (sI (sR (sR σ 0 11 oc) 428 1 c) 1 1 (0 : Int32)) 0 11 = oc := by rw [mR_sI, mR_sR, if_neg (by omega), mR_sR, if_pos ⟨rfl, rfl⟩]
  have r3 : mR (sI (sR (sR σ 0 11 oc) 428 1 c) 1 1 (0 : Int32)) 428 2 = mR σ 428 2 := by rw [mR_sI, mR_sR, if_neg (by omega), mR_sR, if_neg (by omega)]
  have rh : ∀ a, 565 ≤ a → mR (sI (sR (sR σ 0 11 oc) 428 1 c) 1 1 (0 : Int32)) a = mR σ a := fun a ha => by
    funext k
    rw [mR_sI, mR_sR, if_neg (by omega), mR_sR, if_neg (by omega)]
  have i1 : mI (sI (sR (sR σ 0 11 oc) 428 1 c) 1 1 (0 : Int32)) 1 1 = 0 := by rw [row_sI, upd_self]
  have hL : mL (sI (sR (sR σ 0 11 oc) 428 1 c) 1 1 (0 : Int32)) = mL σ := rfl
  generalize hσ2 : sI (sR (sR σ 0 11 oc) 428 1 c) 1 1 (0 : Int32) = σ2 at iI r1 r2 r3 rh i1 hL
  obtain ⟨s1, s2, s3, s4, s5, s6⟩ := hs
  have ck : CK σ2 (ctK s.2.1.1 s.2.1.2 s.2.2.1 s.2.2.2.1 s.2.2.2.2 (cL (gK A))) := by
    unfold CK
    rw [r1]
    exact ⟨hk, by omega, by rw [iI c (by omega)]; exact s1, by rw [iI c (by omega)]; exact s2, fun k hk => by rw [iI _ (by omega)]; exact s4 k hk, fun k hk => by rw [iI _ (by omega)]; exact s5 k hk, fun k hk => by rw [iI _ (by omega)]; exact s6 k hk⟩
  obtain ⟨σ3, g1, g2, g3, g4⟩ := State_beginAs ok6 ck ho1 ho2 (fun t _ => rfl) (fun b _ => rfl)
  rw [r1] at g1
  have l0 : laS (ctK s.2.1.1 s.2.1.2 s.2.2.1 s.2.2.2.1 s.2.2.2.2 (cL (gK A))) 131 = 0 := laS_0 ho2 (by omega)
  have e10 : mI σ3 6 10 = 0 := g3.2.1.trans l0
  have fx : ∀ a, ¬ (6 ≤ a ∧ a < 16) → ¬ (a = 429 ∨ (540 ≤ a ∧ a < 555 ∧ a % 3 = 2)) → mI σ3 a = mI σ2 a := fun a h1 h2 => g4.1 a (by omega) h2
  refine ⟨sI (sI (sI (sI σ3 26 1 0) 26 2 0) 516 5 0) 0 16 0, ?_, fun a ha => ⟨?_, ?_, ?_⟩, ?_, ?_, ?_, ?_, ?_, ?_, ?_, ?_, ?_, ?_, ?_, fun k hk => ?_, fun a ha => ?_⟩
  · unfold f_Game_settle f_History_forget f_Guess_forget
    rw [hcc, hoc, if_pos hk, hσ2, g1, Option.bind_some, Option.bind_some, Option.bind_some, row_ne (show c ≠ 0 by omega), row_ne (show c ≠ 516 by omega), row_ne (show c ≠ 26 by omega), row_ne (show c ≠ 26 by omega), fx c (by omega) (by omega), iI c (by omega), s1]
  · rw [row_ne (by omega), row_ne (by omega), row_ne (by omega), row_ne (by omega), fx a (by omega) (by omega), iI a (by omega)]
  · rw [mL_sI, mL_sI, mL_sI, mL_sI, g4.2.1, hL]
  · rw [mR_sI, mR_sI, mR_sI, mR_sI, g4.2.2, rh a ha]
  · exact g2.fr fun a h1 h2 => by rw [row_ne (by omega), row_ne (by omega), row_ne (by omega), row_ne (by omega)]
  · rw [row_ne (by omega), row_ne (by omega), row_ne (by omega), row_ne (by omega)]; exact e10
  · have k : ∀ j, j < 4 → mI (sI (sI (sI (sI σ3 26 1 0) 26 2 0) 516 5 0) 0 16 0) (c + j) = mI σ (c + j) := fun j hj => by rw [row_ne (by omega), row_ne (by omega), row_ne (by omega), row_ne (by omega), fx _ (by omega) (by omega), iI _ (by omega)]
    have k0 : mI (sI (sI (sI (sI σ3 26 1 0) 26 2 0) 516 5 0) 0 16 0) c = mI σ c := k 0 (by omega)
    unfold CCi
    rw [k0, k 1 (by omega), k 2 (by omega), k 3 (by omega)]
    exact ⟨s1, s2, s3, s4, s5, s6⟩
  · rw [mR_sI, mR_sI, mR_sI, mR_sI, g4.2.2, r1]
  · rw [mR_sI, mR_sI, mR_sI, mR_sI, g4.2.2, r2]
  · rw [mR_sI, mR_sI, mR_sI, mR_sI, g4.2.2, r3]
  · rw [row_ne (by omega), row_ne (by omega), row_ne (by omega), row_ne (by omega), fx 1 (by omega) (by omega), i1]
  · rw [row_sI, upd_self]
  · rw [row_ne (by omega), row_ne (by omega), row_sI, upd_ne (by omega), row_sI, upd_self]
  · rw [row_ne (by omega), row_ne (by omega), row_sI, upd_self]
  · rw [row_ne (by omega), row_sI, upd_self]
  · rw [row_sI, upd_ne hk, row_ne (by omega), row_ne (by omega), row_ne (by omega), fx 0 (by omega) (by omega), iI 0 (by omega)]
  · rw [row_ne (by omega), row_ne (by omega), row_ne (by omega), row_ne (by omega), fx a (by omega) (by omega), iI a (by omega)]
