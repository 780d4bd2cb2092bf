/-! rows: bills -/
theorem stS_out {w : Rw} {k n i : Nat} (hn : n ≤ 24) (h : i < 30 ∨ 127 ≤ i) : stS w k n i = w i := by
  unfold stS; rw [if_neg (by omega), if_neg (by omega)]
theorem stS_lo {w : Rw} {k n i : Nat} (h : i < 30 + 4 * k) (h2 : i ≠ 126) : stS w k n i = w i := by
  unfold stS; rw [if_neg (by omega), if_neg h2]
theorem stS_hi {w : Rw} {k n i : Nat} (h : 30 + 4 * k ≤ i) (h2 : i < 30 + 4 * n - 4) : stS w k n i = w (i + 4) := by
  unfold stS; rw [if_pos ⟨h, h2⟩]
theorem stS_n {w : Rw} {k n : Nat} (hn : n ≤ 24) : stS w k n 126 = nI (n - 1) := by
  unfold stS; rw [if_neg (by omega), if_pos rfl]
theorem adS_out {w : Rw} {n b t i : Nat} {due : Int32} (hn : n ≤ 23) (h : i < 30 ∨ 127 ≤ i) : adS w n b t due i = w i := by
  unfold adS; rw [upd_ne (by omega), upd_ne (by omega), upd_ne (by omega), upd_ne (by omega), upd_ne (by omega)]
theorem adS_lo {w : Rw} {n b t i : Nat} {due : Int32} (h : i < 30 + 4 * n) (hi : i ≠ 126) : adS w n b t due i = w i := by
  unfold adS; rw [upd_ne hi, upd_ne (by omega), upd_ne (by omega), upd_ne (by omega), upd_ne (by omega)]
theorem adS_n {w : Rw} {n b t : Nat} {due : Int32} : adS w n b t due 126 = nI (n + 1) := by unfold adS; rw [upd_self]
theorem adS_0 {w : Rw} {n b t : Nat} {due : Int32} (hn : n ≤ 23) : adS w n b t due (30 + 4 * n) = nI b := by
  unfold adS; rw [upd_ne (by omega), upd_ne (by omega), upd_ne (by omega), upd_ne (by omega), upd_self]
theorem adS_1 {w : Rw} {n b t : Nat} {due : Int32} (hn : n ≤ 23) : adS w n b t due (30 + 4 * n + 1) = nI t := by
  unfold adS; rw [upd_ne (by omega), upd_ne (by omega), upd_ne (by omega), upd_self]
theorem adS_2 {w : Rw} {n b t : Nat} {due : Int32} (hn : n ≤ 23) : adS w n b t due (30 + 4 * n + 2) = w 130 := by
  unfold adS; rw [upd_ne (by omega), upd_ne (by omega), upd_self]
theorem adS_3 {w : Rw} {n b t : Nat} {due : Int32} (hn : n ≤ 23) : adS w n b t due (30 + 4 * n + 3) = due := by
  unfold adS; rw [upd_ne (by omega), upd_self]
theorem adS_B {N n b t d : Nat} {w : Rw} (hn : n ≤ 23) (hH : WfH N w) (hd : d < 100) (h : ∀ k, k < n → (∃ h, h < N ∧ w (30 + 4 * k + 2) = nI h) ∧ ∃ d, d < 100 ∧ w (30 + 4 * k + 3) = nI d) : WfB N (adS w n b t (nI d)) := by
  refine ⟨n + 1, by omega, adS_n, fun k hk => ?_⟩
  by_cases hkn : k = n
  · subst hkn
    rw [adS_2 hn, adS_3 hn]
    exact ⟨hH, d, hd, rfl⟩
  · rw [adS_lo (by omega) (by omega), adS_lo (by omega) (by omega)]
    exact h k (by omega)
theorem stS_B {N n k : Nat} {w : Rw} (hn : n ≤ 24) (h0 : 0 < n) (hk : k < n) (h : ∀ k, k < n → (∃ h, h < N ∧ w (30 + 4 * k + 2) = nI h) ∧ ∃ d, d < 100 ∧ w (30 + 4 * k + 3) = nI d) : ∀ j, j < n - 1 → (∃ h, h < N ∧ stS w k n (30 + 4 * j + 2) = nI h) ∧ ∃ d, d < 100 ∧ stS w k n (30 + 4 * j + 3) = nI d := by
  intro j hj
  by_cases hjk : j < k
  · rw [stS_lo (by omega) (by omega), stS_lo (by omega) (by omega)]
    exact h j (by omega)
  · rw [stS_hi (by omega) (by omega), stS_hi (by omega) (by omega), show 30 + 4 * j + 2 + 4 = 30 + 4 * (j + 1) + 2 by omega, show 30 + 4 * j + 3 + 4 = 30 + 4 * (j + 1) + 3 by omega]
    exact h (j + 1) (by omega)
theorem wrS_out {w : Rw} {b t i : Nat} {due : Int32} {n : Nat} (hn : n ≤ 24) (hw : w 126 = nI n) (h : i < 30 ∨ 127 ≤ i) : wrS w b t due i = w i := by
  unfold wrS
  rw [mny_eq hn hw]
  by_cases h24 : n = 24
  · rw [if_pos h24, adS_out (by omega) h, stS_out (by omega) h]
  · rw [if_neg h24, adS_out (by omega) h]
theorem wrS_wf {T B N b t d : Nat} {w : Rw} (hT : T ≤ 8) (hB : B ≤ 6) (hw : Wf T B N w) (hd : d < 100) : Wf T B N (wrS w b t (nI d)) := by
  obtain ⟨⟨n, h11, h12, h13⟩, h2, h3, h4, h5⟩ := hw
  have o : ∀ i, (i < 30 ∨ 127 ≤ i) → wrS w b t (nI d) i = w i := fun i h => wrS_out h11 h12 h
  refine ⟨?_, h2.congr hT fun i h => o i (by omega), h3.congr hB fun i h6 h7 => o i (by omega), h4.congr (o _ (by omega)), h5.congr (o _ (by omega))⟩
  unfold wrS
  rw [mny_eq h11 h12]
  by_cases h24 : n = 24
  · rw [if_pos h24]
    subst h24
    exact adS_B (by omega) (h5.congr (stS_out (by omega) (by omega))) hd (stS_B (by omega) (by omega) (by omega) h13)
  · rw [if_neg h24]
    exact adS_B (by omega) h5 hd h13
/-! those that are struck out -/
def kpS (w : Rw) (b t r : Int32) (n : Nat) : List Nat := (List.range n).filter (fun k => !maS w b t r k)
theorem kpS_succ (w : Rw) (b t r : Int32) (n : Nat) : kpS w b t r (n + 1) = if maS w b t r n = true then kpS w b t r n else kpS w b t r n ++ [n] := by
  unfold kpS
  rw [List.range_succ, List.filter_append]
  cases h : maS w b t r n <;> simp [h]
theorem kpS_len (w : Rw) (b t r : Int32) (n : Nat) : (kpS w b t r n).length ≤ n := by
  have := List.length_filter_le (fun k => !maS w b t r k) (List.range n)
  rw [List.length_range] at this
  exact this
theorem kpS_lt (w : Rw) (b t r : Int32) (n j : Nat) (h : j < (kpS w b t r n).length) : (kpS w b t r n).getD j 0 < n := by
  have e : (kpS w b t r n).getD j 0 = (kpS w b t r n)[j] := by rw [List.getD_eq_getElem?_getD, List.getElem?_eq_getElem h]; rfl
  rw [e]
  have := List.mem_of_getElem (h := h) rfl
  exact List.mem_range.mp (List.mem_filter.mp this).1
theorem kpS_congr {w w' : Rw} {b t r : Int32} {n : Nat} (h : ∀ i, 30 ≤ i → i < 30 + 4 * n → w' i = w i) (h2 : w' 130 = w 130) : kpS w' b t r n = kpS w b t r n := by
  unfold kpS
  apply List.filter_congr
  intro k hk
  have hk := List.mem_range.mp hk
  unfold maS
  rw [h (30 + 4 * k) (by omega) (by omega), h (30 + 4 * k + 1) (by omega) (by omega), h (30 + 4 * k + 2) (by omega) (by omega), h2]
theorem gD_l {l : List Nat} {k j : Nat} (h : j < l.length) : (l ++ [k]).getD j 0 = l.getD j 0 := by
  simp [List.getD_eq_getElem?_getD, List.getElem?_append_left h]
theorem gD_r {l : List Nat} {k : Nat} : (l ++ [k]).getD l.length 0 = k := by
  simp [List.getD_eq_getElem?_getD]
theorem saS_spec (b t r : Int32) : ∀ (k n : Nat) (w : Rw) (c : Nat), k ≤ n → n ≤ 24 → w 126 = nI n →
    (saS b t r k n w c).1 + (kpS w b t r k).length = c + k ∧ (saS b t r k n w c).2 126 = nI ((kpS w b t r k).length + (n - k)) ∧
    (∀ i, i < 30 ∨ 127 ≤ i → (saS b t r k n w c).2 i = w i) ∧
    (∀ j i, j < (kpS w b t r k).length → i < 4 → (saS b t r k n w c).2 (30 + 4 * j + i) = w (30 + 4 * (kpS w b t r k).getD j 0 + i)) ∧
    (∀ j i, j < n - k → i < 4 → (saS b t r k n w c).2 (30 + 4 * ((kpS w b t r k).length + j) + i) = w (30 + 4 * (k + j) + i)) := by
  intro k
  induction k with
  | zero =>
    intro n w c hk hn hw
    have e : kpS w b t r 0 = [] := rfl
    simp only [saS, e, List.length_nil, Nat.zero_add, Nat.sub_zero, Nat.add_zero]
    exact ⟨trivial, hw, fun _ _ => trivial, fun j i h => absurd h (by omega), fun _ _ _ _ => trivial⟩
  | succ k ih =>
    intro n w c hk hn hw
    rw [kpS_succ]
    unfold saS
    cases hm : maS w b t r k with
    | true =>
      simp only [if_true]
      have hc : kpS (stS w k n) b t r k = kpS w b t r k := kpS_congr (fun i h1 h2 => stS_lo (by omega) (by omega)) (stS_out hn (by omega))
      obtain ⟨i1, i2, i3, i4, i5⟩ := ih (n - 1) (stS w k n) (c + 1) (by omega) (by omega) (stS_n hn)
      rw [hc] at i1 i2 i4 i5
      have hl := kpS_len w b t r k
      refine ⟨by omega, by rw [i2]; congr 1; omega, fun i h => by rw [i3 i h]; exact stS_out hn h, fun j i h1 h2 => ?_, fun j i h1 h2 => ?_⟩
      · rw [i4 j i h1 h2]
        have := kpS_lt w b t r k j h1
        exact stS_lo (by omega) (by omega)
      · rw [i5 j i (by omega) h2, stS_hi (by omega) (by omega)]
        congr 1; omega
    | false =>
      simp only [Bool.false_eq_true, if_false]
      obtain ⟨i1, i2, i3, i4, i5⟩ := ih n w c (by omega) hn hw
      simp only [List.length_append, List.length_cons, List.length_nil, Nat.zero_add]
      have hl := kpS_len w b t r k
      refine ⟨by omega, by rw [i2]; congr 1; omega, i3, fun j i h1 h2 => ?_, fun j i h1 h2 => ?_⟩
      · by_cases hj : j < (kpS w b t r k).length
        · rw [gD_l hj]; exact i4 j i hj h2
        · have e : j = (kpS w b t r k).length := by omega
          subst e
          rw [gD_r]
          exact i5 0 i (by omega) h2
      · have := i5 (j + 1) i (by omega) h2
        rw [show (kpS w b t r k).length + 1 + j = (kpS w b t r k).length + (j + 1) by omega, this]
        congr 1; omega
