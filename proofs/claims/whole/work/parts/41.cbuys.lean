/-! the class: bought -/
theorem rI_rI (σ : Mem) (a : Nat) (f g : Rw) : rI (rI σ a f) a g = rI σ a g := by
  unfold rI
  simp only [Prod.mk.injEq, and_true]
  funext b
  by_cases h : b = a
  · subst h; rw [va_up_self, va_up_self]
  · rw [va_up_ne _ _ h, va_up_ne _ _ h, va_up_ne _ _ h]
theorem rI_self (σ : Mem) (a : Nat) : rI σ a (mI σ a) = σ := by
  unfold rI
  have : va_up σ.1 a (mI σ a) = σ.1 := by
    funext b
    by_cases h : b = a
    · subst h; rw [va_up_self]; rfl
    · rw [va_up_ne _ _ h]
  rw [this]
theorem cpyM_nI {f g : Rw} {s d n : Nat} (h1 : s < 2 ^ 31) (h2 : d < 2 ^ 31) (h3 : n < 2 ^ 31) : cpyM f g (nI s) (nI d) (nI n) = fun k => if d ≤ k ∧ k < d + n then f (s + (k - d)) else g k := by
  unfold cpyM
  rw [nI_clamp h1, nI_clamp h2, nI_clamp h3]
  rfl
theorem cpyB_nI {n0 n1 s d n : Nat} (h1 : s + n ≤ n0) (h2 : d + n ≤ n1) (h3 : n0 < 2 ^ 31) (h4 : n1 < 2 ^ 31) : cpyB n0 n1 (nI s) (nI d) (nI n) = true := by
  unfold cpyB
  rw [nI_clamp (by omega), nI_clamp (by omega), nI_clamp (by omega)]
  simp only [nI_pos (show s < 2 ^ 31 by omega), nI_pos (show d < 2 ^ 31 by omega), nI_pos (show n < 2 ^ 31 by omega), decide_false, Bool.not_false, Bool.true_and, Bool.and_eq_true, decide_eq_true_eq]
  exact ⟨h1, h2⟩
/-- written no earlier than r hours ago, in the two ways of saying it -/
theorem since_iff {H x r : Nat} (h1 : H < 2 ^ 30) (h2 : x < 2 ^ 30) (h3 : r < 2 ^ 29) : nI x < nI H - nI r ↔ ¬ nI H - nI x ≤ nI r := by
  rw [Int32.not_le, Int32.lt_iff_toInt_lt, Int32.lt_iff_toInt_lt, pk_sub_toInt h1 (by omega), pk_sub_toInt h1 h2, nI_toInt (by omega), nI_toInt (by omega)]
  omega
theorem State_strikeBills {J : Mem → Prop} {K : Cy} {σ : Mem} {o n N H r : Nat} {b t : Int32} {w : Rw} (hJ : LkC J (cL K)) (hK : CyOk K) (ho : OkO o) (hj : J σ) (hr : RS σ o K w) (hn : n ≤ 24) (hm : w 126 = nI n) (hB : ∀ k, k < n → ∃ h, h < N ∧ w (30 + 4 * k + 2) = nI h) (hN : N < 2 ^ 30) (hH : H < 2 ^ 30) (h130 : w 130 = nI H) (hrr : r < 2 ^ 29) : ∃ σ', f_State_strikeBills σ o b t (nI H - nI r) = some (nI (saS b t (nI r) n n w 0).1, σ') ∧ CR J o K σ (saS b t (nI r) n n w 0).2 σ' := by
  have h8 := hK.1
  have h6 := hK.2.1
  have hor := ho.r
  have hmm : mny w = n := mny_eq (by omega) hm
  have h9 : mI σ o 9 = nI n := hr.2.2.2.2.2.1.1.trans hm
  have hb5 : ∀ i, i < 4 * n → mI σ (o + 8) i = w (30 + i) := fun i q => hr.2.2.2.2.1 i (by rw [hmm]; exact q)
  unfold f_State_strikeBills
  obtain ⟨⟨c, σ'⟩, g1, f, g2, g3, g4⟩ := loopF_go (step := f_State_strikeBills_L6 o b t (nI H - nI r)) (a := (σ, (0 : Int32), (0 : Int32))) (fun i s => s.2.1 = nI (kpS w b t (nI r) i).length ∧ s.2.2 = nI i ∧ ∃ f, s.1 = rI σ (o + 8) f ∧ (∀ j q, j < (kpS w b t (nI r) i).length → q < 4 → f (4 * j + q) = w (30 + 4 * (kpS w b t (nI r) i).getD j 0 + q)) ∧ ∀ x, 4 * i ≤ x → f x = mI σ (o + 8) x) (fun (r2 : Int32 × Mem) => ∃ f, r2.2 = sI (rI σ (o + 8) f) o 9 (nI (kpS w b t (nI r) n).length) ∧ (∀ j q, j < (kpS w b t (nI r) n).length → q < 4 → f (4 * j + q) = w (30 + 4 * (kpS w b t (nI r) n).getD j 0 + q)) ∧ r2.1 = nI (n - (kpS w b t (nI r) n).length)) n ⟨rfl, rfl, mI σ (o + 8), (rI_self σ (o + 8)).symm, fun j q hj => absurd hj (by show ¬ j < 0; omega), fun x _ => rfl⟩ (by omega) (by
    rintro i ⟨τ, z4, z5⟩ hin ⟨e4, e5, f, e6, e7, e8⟩
    simp only at e4 e5 e6 e7 e8
    subst e4; subst e5; subst e6
    have hlen := kpS_len w b t (nI r) i
    have h9' : mI (rI σ (o + 8) f) o 9 = nI n := by rw [rowr_ne (by omega)]; exact h9
    unfold f_State_strikeBills_L6
    by_cases hlt : i < n
    · have f0 : f (4 * i) = w (30 + 4 * i) := by rw [e8 _ (by omega), hb5 _ (by omega)]
      have f1 : f (4 * i + 1) = w (30 + 4 * i + 1) := by rw [e8 _ (by omega), hb5 _ (by omega)]; rfl
      have f2 : f (4 * i + 2) = w (30 + 4 * i + 2) := by rw [e8 _ (by omega), hb5 _ (by omega)]; rfl
      obtain ⟨x, x1, x2⟩ := hB i hlt
      have ecp : cpyM f f (nI (4 * i)) (nI (4 * (kpS w b t (nI r) i).length)) (nI 4) = fun k => if 4 * (kpS w b t (nI r) i).length ≤ k ∧ k < 4 * (kpS w b t (nI r) i).length + 4 then f (4 * i + (k - 4 * (kpS w b t (nI r) i).length)) else f k := cpyM_nI (by omega) (by omega) (by omega)
      have ecb : cpyB 96 96 (nI (4 * i)) (nI (4 * (kpS w b t (nI r) i).length)) (nI 4) = true := cpyB_nI (by omega) (by omega) (by omega) (by omega)
      have hsi := since_iff (H := H) (x := x) (r := r) hH (by omega) hrr
      simp (disch := omega) only [Nat.add_sub_cancel, z_in, z_cl, c_le_t, c_le_f, c_lt_t, c_lt_f, c_eq_t, c_eq_f, c_le0_t, c_le0_f, c_0le, c_lt0, c_0lt, c_eq0_f, c_eq1_f, c_eq0_t, c_eq1_t, c_1le, c_lt1, c_m1, z_sub1, z_sub, nI_1, nI_add, pk_mul, Option.bind_some, if_true, if_false, ite_true, ite_false, l_2, l_3, l_4, l_5, l_6, l_7, l_8, l_9, l_10, l_11, l_12, l_13, l_15, l_16, l_20, l_23, l_24, l_30, l_32, l_40, l_41, l_48, l_50, l_57, l_59, l_60, l_61, l_99, l_100, l_104, l_109, l_112, l_115, l_116, l_119, l_126, l_127, l_128, l_129, l_130, l_131, l_132, l_177, l_192, l_240, l_312, l_999, l_1000, l_9999, h9', rowr_self, Nat.mul_comm i 4, Nat.mul_comm (kpS w b t (nI r) i).length 4, f0, f1, f2, x2, ecb, ecp, rI_rI]
      have keep : maS w b t (nI r) i = false → ∃ r2, (some (Sum.inl (rI σ (o + 8) fun k => if 4 * (kpS w b t (nI r) i).length ≤ k ∧ k < 4 * (kpS w b t (nI r) i).length + 4 then f (4 * i + (k - 4 * (kpS w b t (nI r) i).length)) else f k, nI ((kpS w b t (nI r) i).length + 1), nI (i + 1))) : Option ((Mem × Int32 × Int32) ⊕ (Int32 × Mem))) = some r2 ∧ Sum.elim (fun s => i < n ∧ s.2.1 = nI (kpS w b t (nI r) (i + 1)).length ∧ s.2.2 = nI (i + 1) ∧ ∃ f, s.1 = rI σ (o + 8) f ∧ (∀ j q, j < (kpS w b t (nI r) (i + 1)).length → q < 4 → f (4 * j + q) = w (30 + 4 * (kpS w b t (nI r) (i + 1)).getD j 0 + q)) ∧ ∀ x, 4 * (i + 1) ≤ x → f x = mI σ (o + 8) x) (fun (r2 : Int32 × Mem) => ∃ f, r2.2 = sI (rI σ (o + 8) f) o 9 (nI (kpS w b t (nI r) n).length) ∧ (∀ j q, j < (kpS w b t (nI r) n).length → q < 4 → f (4 * j + q) = w (30 + 4 * (kpS w b t (nI r) n).getD j 0 + q)) ∧ r2.1 = nI (n - (kpS w b t (nI r) n).length)) r2 := by
        intro hma
        have ek : kpS w b t (nI r) (i + 1) = kpS w b t (nI r) i ++ [i] := by rw [kpS_succ, hma]; rfl
        refine exL ⟨hlt, ?_, rfl, _, rfl, fun j q hj hq => ?_, fun x hx => ?_⟩
        · rw [ek, List.length_append]; rfl
        · rw [ek]
          rw [ek, List.length_append, List.length_singleton] at hj
          by_cases hj2 : j < (kpS w b t (nI r) i).length
          · rw [if_neg (by omega), gD_l hj2]
            exact e7 j q hj2 hq
          · have : j = (kpS w b t (nI r) i).length := by omega
            subst this
            rw [if_pos (by omega), gD_r, show 4 * i + (4 * (kpS w b t (nI r) i).length + q - 4 * (kpS w b t (nI r) i).length) = 4 * i + q by omega, e8 _ (by omega), hb5 _ (by omega), Nat.add_assoc]
        · rw [if_neg (by omega)]
          exact e8 x (by omega)
      by_cases q1 : w (30 + 4 * i) = b
      · rw [if_pos q1]
        by_cases q2 : w (30 + 4 * i + 1) = t
        · rw [if_pos q2]
          by_cases q3 : nI x < nI H - nI r
          · rw [if_pos q3]
            exact keep (Bool.eq_false_iff.mpr fun q => (hsi.mp q3) (by have := (maS_iff.mp q).2.2; rw [h130, x2] at this; exact this))
          · rw [if_neg q3]
            have hma : maS w b t (nI r) i = true := maS_iff.mpr ⟨q1, q2, by rw [h130, x2]; exact Classical.not_not.mp fun q => q3 (hsi.mpr q)⟩
            have ek : kpS w b t (nI r) (i + 1) = kpS w b t (nI r) i := by rw [kpS_succ, hma]; rfl
            refine exL ⟨hlt, by rw [ek], rfl, f, rfl, by rw [ek]; exact e7, fun x hx => e8 x (by omega)⟩
        · rw [if_neg q2]
          exact keep (Bool.eq_false_iff.mpr fun q => q2 (maS_iff.mp q).2.1)
      · rw [if_neg q1]
        exact keep (Bool.eq_false_iff.mpr fun q => q1 (maS_iff.mp q).1)
    · have : i = n := by omega
      subst this
      simp (disch := omega) only [Nat.add_sub_cancel, z_in, z_cl, c_le_t, c_le_f, c_lt_t, c_lt_f, c_eq_t, c_eq_f, c_le0_t, c_le0_f, c_0le, c_lt0, c_0lt, c_eq0_f, c_eq1_f, c_eq0_t, c_eq1_t, c_1le, c_lt1, c_m1, z_sub1, z_sub, nI_1, nI_add, pk_mul, Option.bind_some, if_true, if_false, ite_true, ite_false, l_2, l_3, l_4, l_5, l_6, l_7, l_8, l_9, l_10, l_11, l_12, l_13, l_15, l_16, l_20, l_23, l_24, l_30, l_32, l_40, l_41, l_48, l_50, l_57, l_59, l_60, l_61, l_99, l_100, l_104, l_109, l_112, l_115, l_116, l_119, l_126, l_127, l_128, l_129, l_130, l_131, l_132, l_177, l_192, l_240, l_312, l_999, l_1000, l_9999, h9']
      exact exR ⟨f, rfl, e7, rfl⟩)
  simp only at g2 g3 g4
  subst g2; subst g4
  rw [g1]
  obtain ⟨s1, s2, s3, s4, -⟩ := saS_spec b t (nI r) n n w 0 (Nat.le_refl _) hn hm
  have hlen := kpS_len w b t (nI r) n
  refine ⟨_, by rw [show n - (kpS w b t (nI r) n).length = (saS b t (nI r) n n w 0).1 by omega], ?_⟩
  refine CR.of hJ ho hj ?_ ((CX_rI (by omega)).trans (CX_sI (by omega))) (by simp (disch := omega) only [row_sI, rowr_ne, upd_ne]) (by simp (disch := omega) only [row_ne, rowr_ne])
  have e126 : (saS b t (nI r) n n w 0).2 126 = nI (kpS w b t (nI r) n).length := by rw [s2]; congr 1; omega
  refine RS.bills h8 h6 hr (fun i hi => s3 i (by omega)) (fun a h1 h2 h3 h4 => by simp (disch := omega) only [row_ne, rowr_ne]) (fun k hk => by simp (disch := omega) only [row_sI, rowr_ne, upd_ne]) (by rw [row_sI, upd_self, e126]) ?_
  intro i hi
  rw [mny_eq (by omega) e126] at hi
  simp (disch := omega) only [row_ne, rowr_self]
  have hi4 : i = 4 * (i / 4) + i % 4 := by omega
  have := g3 (i / 4) (i % 4) (by omega) (by omega)
  have h2 := s4 (i / 4) (i % 4) (by omega) (by omega)
  rw [← hi4] at this
  rw [this, show 30 + i = 30 + 4 * (i / 4) + i % 4 by omega, h2]
