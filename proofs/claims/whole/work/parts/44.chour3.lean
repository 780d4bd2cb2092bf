/-! who holds one (bits); the log; the class's hour -/
def hbS (w : Rw) (T : Nat) : Nat → Int32
  | 0 => 0
  | n + 1 => if holdS w T (nI n) = -1 then hbS w T n else hbS w T n ||| ((1 : Int32) <<< (nI n &&& 31))
theorem hbS_B {w : Rw} {T B N : Nat} (hw : Wf T B N w) : ∀ d, B + d ≤ 6 → hbS w T (B + d) = hbS w T B := by
  intro d
  induction d with
  | zero => intro _; rfl
  | succ d ih =>
    intro hd
    have e : holdS w T (nI (B + d)) = -1 := holdS_none fun t ht q => by
      rcases hw.2.1.1 t ht with h | ⟨b, h1, h2⟩
      · rw [q.1] at h; exact nI_ne_m1 (by omega) h
      · have := nI_inj6 (by omega) (by omega) (q.1.symm.trans h2)
        omega
    show (if holdS w T (nI (B + d)) = -1 then hbS w T (B + d) else _) = _
    rw [if_pos e]
    exact ih (by omega)
theorem hbS_6 {w : Rw} {T B N : Nat} (hB : B ≤ 6) (hw : Wf T B N w) : hbS w T 6 = hbS w T B := by
  have := hbS_B hw (6 - B) (by omega)
  rw [show B + (6 - B) = 6 by omega] at this
  exact this
theorem hbS_congr {w w' : Rw} {T : Nat} (hT : T ≤ 8) (h : ∀ i, i < 16 → w' i = w i) : ∀ n, hbS w' T n = hbS w T n := by
  intro n
  induction n with
  | zero => rfl
  | succ n ih =>
    show (if _ then _ else _) = (if _ then _ else _)
    rw [holdS_congr hT h, ih]
theorem State_holders {σ : Mem} {o : Nat} {K : Cy} {w : Rw} (hr : RS σ o K w) : f_State_holders σ o = some (hbS w (cT K) 6) := by
  unfold f_State_holders
  refine loopF_count (fun i => (hbS w (cT K) i, nI i)) _ 6 0 (fun j _ hj => ?_) ?_ FU (by unfold FU; omega)
  · unfold f_State_holders_L4
    have i1 := inb_nI (show j < 6 by omega) (by decide)
    have e1 := nI_clamp (show j < 2 ^ 31 by omega)
    have c6 : ¬ (6 : Int32) ≤ nI j := nI_ge (b := 6) (by omega) (by omega)
    simp only [c6, i1, e1, if_true, if_false, hr.2.2.1 j (by omega), nI_1]
    show _ = some (Sum.inl ((if _ then _ else _), _))
    by_cases h : holdS w (cT K) (nI j) = -1
    · rw [if_pos h, if_pos h]
    · rw [if_neg h, if_neg h]
  · unfold f_State_holders_L4
    simp only [show (6 : Int32) ≤ nI (0 + 6) by decide, if_true]
def lnS (w : Rw) : Nat := (w 131).toNatClampNeg
def lsh (w : Rw) : Rw := fun i => if 132 ≤ i ∧ i < 309 then w (i + 3) else if i = 131 then nI 59 else w i
def lad (w : Rw) (n : Nat) (h : Int32) : Rw := upd (upd (upd (upd w (132 + 3 * n) h) (132 + 3 * n + 1) (w 126)) (132 + 3 * n + 2) (w 129)) 131 (nI (n + 1))
def lgS (w : Rw) (h : Int32) : Rw := if lnS w = 60 then lad (lsh w) 59 h else lad w (lnS w) h
/-- the log of the State o is the row's -/
def RG (σ : Mem) (o : Nat) (w : Rw) : Prop := (∃ n, n ≤ 60 ∧ w 131 = nI n) ∧ mI σ o 10 = w 131 ∧ ∀ i, i < 3 * lnS w → mI σ (o + 9) i = w (132 + i)
theorem lnS_eq {n : Nat} {w : Rw} (hn : n ≤ 60) (h : w 131 = nI n) : lnS w = n := by unfold lnS; rw [h, nI_clamp (by omega)]
theorem lad_out {w : Rw} {n i : Nat} {h : Int32} (hi : i < 131 ∨ 132 + 3 * n + 3 ≤ i) : lad w n h i = w i := by
  unfold lad; rw [upd_ne (by omega), upd_ne (by omega), upd_ne (by omega), upd_ne (by omega)]
theorem lad_lo {w : Rw} {n i : Nat} {h : Int32} (hi : i < 132 + 3 * n) (h2 : i ≠ 131) : lad w n h i = w i := by
  unfold lad; rw [upd_ne (by omega), upd_ne (by omega), upd_ne (by omega), upd_ne (by omega)]
theorem lad_n {w : Rw} {n : Nat} {h : Int32} : lad w n h 131 = nI (n + 1) := by unfold lad; rw [upd_self]
theorem lgS_lo {w : Rw} {n i : Nat} {h : Int32} (hn : n ≤ 60) (hw : w 131 = nI n) (hi : i < 131) : lgS w h i = w i := by
  unfold lgS
  rw [lnS_eq hn hw]
  by_cases h6 : n = 60
  · rw [if_pos h6, lad_out (by omega)]
    unfold lsh
    rw [if_neg (by omega), if_neg (by omega)]
  · rw [if_neg h6, lad_out (by omega)]
/-- behind a call that writes the log: the row, nothing else -/
def CG (J : Mem → Prop) (o : Nat) (K : Cy) (σ : Mem) (w : Rw) (σ' : Mem) : Prop := RS σ' o K w ∧ CX o σ σ' ∧ J σ'
theorem State_writeLog_J31 {J : Mem → Prop} {K : Cy} {σ : Mem} {o n : Nat} {w : Rw} (hJ : LkC J (cL K)) (ho : OkO o) (hj : J σ) (hr : RS σ o K w) (hn : n ≤ 59) (hl : mI σ o 10 = nI n) : ∃ σ', f_State_writeLog_J31 σ o = some σ' ∧ CG J o K σ w σ' ∧ (∀ k, k ≠ 10 → mI σ' o k = mI σ o k) ∧ mI σ' o 10 = nI (n + 1) ∧ mI σ' (o + 9) = upd (upd (upd (mI σ (o + 9)) (3 * n) (hbS w (cT K) 6)) (3 * n + 1) (w 126)) (3 * n + 2) (w 129) := by
  unfold f_State_writeLog_J31
  have e9 : mI σ o 9 = w 126 := hr.2.2.2.2.2.1.1
  have e13 : mI σ o 13 = w 129 := hr.2.2.2.2.2.1.2.2.2.1
  have a0 : nI n * (3 : Int32) = nI (3 * n) := nI_mul3 n
  have a1 : nI (3 * n) + (1 : Int32) = nI (3 * n + 1) := nI_1 _
  have a2 : nI (3 * n) + (2 : Int32) = nI (3 * n + 2) := nI_addc _ 2
  have b0 := inb_nI (show 3 * n < 180 by omega) (by decide)
  have b1 := inb_nI (show 3 * n + 1 < 180 by omega) (by decide)
  have b2 := inb_nI (show 3 * n + 2 < 180 by omega) (by decide)
  have c0 := nI_clamp (show 3 * n < 2 ^ 31 by omega)
  have c1 := nI_clamp (show 3 * n + 1 < 2 ^ 31 by omega)
  have c2 := nI_clamp (show 3 * n + 2 < 2 ^ 31 by omega)
  rw [State_holders hr, Option.bind_some, hl, a0, a1, a2, if_pos b0, if_pos b1, if_pos b2, c0, c1, c2]
  have n9 : o ≠ o + 9 := by omega
  simp only [row_ne n9, e9, e13, hl, nI_1]
  refine ⟨_, rfl, ⟨?_, (((CX_sI (by omega)).trans (CX_sI (by omega))).trans (CX_sI (by omega))).trans (CX_sI (by omega)), ?_⟩, fun k hk => by simp (disch := omega) only [row_ne, row_sI, upd_ne], by rw [row_sI, upd_self], by simp (disch := omega) only [row_ne, row_sI]⟩
  · obtain ⟨r1, r2, r3, r4, r5, ⟨r6, r7, r8, r9, r10⟩, r11⟩ := hr
    unfold RS
    simp (disch := omega) only [row_ne, row_sI, upd_ne, upd_self]
    exact ⟨r1, r2, r3, r4, r5, ⟨r6, r7, r8, r9, r10⟩, n + 1, by omega, rfl⟩
  · exact J_CX hJ ho hj ((((CX_sI (by omega)).trans (CX_sI (by omega))).trans (CX_sI (by omega))).trans (CX_sI (by omega)))
