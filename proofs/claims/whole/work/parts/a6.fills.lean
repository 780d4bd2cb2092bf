/-! constructors that fill an array with new objects -/
def fillV (θ : Th) (ini : (Nat → Nat → Value) → Nat → Nat → Nat → Value) (cj a w base : Nat) (V0 : Nat → Nat → Value) : Nat → Nat → Nat → Value
  | 0 => V0
  | i + 1 => upC (ini (upR (fillV θ ini cj a w base V0 i) (base + w * i) (fun k => defaultValue (clty cj k))) (base + w * i)) a i (.ref (be θ + (base + w * i)))
theorem fillV_keep {θ : Th} {ini : (Nat → Nat → Value) → Nat → Nat → Nat → Value} {cj a w base b : Nat} {V0 : Nat → Nat → Value} (hini : ∀ V n b, b < n → ini V n b = V b) (hb : b < base) (hba : b ≠ a) : ∀ i, fillV θ ini cj a w base V0 i b = V0 b := by
  intro i
  induction i with
  | zero => rfl
  | succ i ih =>
    show upC _ _ _ _ b = _
    unfold upC
    rw [upR_ne hba, hini _ _ _ (by omega), upR_ne (by omega)]
    exact ih
section GVF
variable {θ : Th} {p : Program} {l : Launch} {e : Env} {R : Room} {s : State} {m : MethodId} {args : Array Value} {below : List Frame} {meth : Method} {c : Code} {cc : ByteArray} {own : String} {nL c0 s0 : Nat} {Q : State → Prop} {V0 : Nat → Nat → Value}
theorem v_fill (X : Cx θ p s m args c cc nL own) (N : Nx s) {o a ci cj k kA M w base fidx idx iidx L E maxL d mc ms : Nat} {back off : Int} {y : MethodName} {cb : ByteArray} {ini : (Nat → Nat → Value) → Nat → Nat → Nat → Value} (hnL : 1 < nL) (hko : kd o = ci + 1) (F : Fl own fidx ci k) (hka : kd a = kA) (hkA : 17 ≤ kA ∧ kA ≤ 19) (hln : ln a = M) (hM : M < 100) (hcj : cj < 12) (hel : ∀ i, i < M → kd (base + w * i) = cj + 1)
    (hCn : ∀ V i, i < M → CnV θ l y cb maxL d mc ms [.ref (be θ + (base + w * i))] V (base + w * i + 1) (ini V (base + w * i)) (base + w * i + w)) (hini : ∀ V n b, b < n → ini V n b = V b) (hob : o < base) (hab : a < base) (hoa : o ≠ a) (hw : 1 ≤ w)
    (Lk : Cond.classLink own idx (clC cj) ∈ ALL) (hI : Cond.instantiable (clC cj) (nF cj) ∈ ALL) (hii : Cond.initialized (clC cj) ∈ ALL) (LN : (own, iidx, y) ∈ NW) (My : MyI y cb maxL) (hRA : ∃ (kA' : Class) (comp : ClassId), s.vm.classes[aC θ kA]? = some kA' ∧ kA'.kind = .array comp (.object (clC cj)) ∧ s.vm.findClass (clC cj) = some comp)
    (d0 : decode cc L = .ok (.iload_n 1, 1)) (d1 : decode cc (L + 1) = .ok (.aload_n 0, 1)) (d2 : decode cc (L + 2) = .ok (.getfield fidx, 3)) (d3 : decode cc (L + 5) = .ok (.arraylength, 1)) (d4 : decode cc (L + 6) = .ok (.if_icmp .ge off, 3)) (d5 : decode cc (L + 9) = .ok (.aload_n 0, 1)) (d6 : decode cc (L + 10) = .ok (.getfield fidx, 3)) (d7 : decode cc (L + 13) = .ok (.iload_n 1, 1)) (d8 : decode cc (L + 14) = .ok (.new idx, 3)) (d9 : decode cc (L + 17) = .ok (.dup, 1)) (d10 : decode cc (L + 18) = .ok (.invokespecial iidx, 3)) (d11 : decode cc (L + 21) = .ok (.aastore, 1)) (d12 : decode cc (L + 22) = .ok (.iinc 1 1, 3)) (d13 : decode cc (L + 25) = .ok (.goto back, 3)) (hE : ((L + 6 : Nat) : Int) + off = (E : Int)) (hB : ((L + 25 : Nat) : Int) + back = (L : Int))
    (hR : d + 1 ≤ R.frames ∧ 8 + (maxL + 11) + 40 * d ≤ R.locals) (hcap : c0 + (mc + 1) * M ≤ R.cells ∧ s0 + (nF cj + ms) * M ≤ R.slots) (h0 : V0 o k = .ref (be θ + a))
    (kk : GV θ p l e R s m args below meth c nL (c0 + (mc + 1) * M) (s0 + (nF cj + ms) * M) Q E [(1, .int (nI M)), (0, .ref (be θ + o))] [] (fillV θ ini cj a w base V0 M) (base + w * M)) : GV θ p l e R s m args below meth c nL c0 s0 Q L [(1, .int 0), (0, .ref (be θ + o))] [] V0 base := by
  have key : ∀ j i, i + j = M → GV θ p l e R s m args below meth c nL (c0 + (mc + 1) * i) (s0 + (nF cj + ms) * i) Q L [(1, .int (nI i)), (0, .ref (be θ + o))] [] (fillV θ ini cj a w base V0 i) (base + w * i) := by
    intro j
    induction j with
    | zero =>
      intro i hi
      obtain rfl : i = M := by omega
      have hv : fillV θ ini cj a w base V0 i o k = .ref (be θ + a) := by rw [fillV_keep hini hob hoa]; exact h0
      refine v_iload_n X d0 rfl 0 rfl ?_
      refine v_aload_n X d1 rfl 1 rfl ?_
      refine v_get X F d2 hko (by have := Nat.zero_le (w * i); omega) hv ?_
      refine v_alen X hka hkA (by have := Nat.zero_le (w * i); omega) hln rfl d3 ?_
      exact v_icmp_ge X d4 hE (fun _ => kk) (fun h => absurd (nI_le (Nat.le_refl i) (by omega)) h)
    | succ j ih =>
      intro i hi
      have hlt : i < M := by omega
      have hz := Nat.zero_le (w * i)
      have hv : fillV θ ini cj a w base V0 i o k = .ref (be θ + a) := by rw [fillV_keep hini hob hoa]; exact h0
      have e1 : (mc + 1) * (i + 1) = (mc + 1) * i + (mc + 1) := Nat.mul_succ _ _
      have e2 : (nF cj + ms) * (i + 1) = (nF cj + ms) * i + (nF cj + ms) := Nat.mul_succ _ _
      have e3 : w * (i + 1) = w * i + w := Nat.mul_succ _ _
      have m1 : (mc + 1) * (i + 1) ≤ (mc + 1) * M := Nat.mul_le_mul_left _ hlt
      have m2 : (nF cj + ms) * (i + 1) ≤ (nF cj + ms) * M := Nat.mul_le_mul_left _ hlt
      have ec : (nI i).toNatClampNeg = i := nI_clamp (by omega)
      refine v_iload_n X d0 rfl 0 rfl ?_
      refine v_aload_n X d1 rfl 1 rfl ?_
      refine v_get X F d2 hko (by omega) hv ?_
      refine v_alen X hka hkA (by omega) hln rfl d3 ?_
      refine v_icmp_ge X d4 hE (fun h => absurd h (nI_ge hlt (by omega))) (fun _ => ?_)
      refine v_aload_n X d5 rfl 1 rfl ?_
      refine v_get X F d6 hko (by omega) hv ?_
      refine v_iload_n X d7 rfl 0 rfl ?_
      refine v_new (ci := cj) X hcj (hel i hlt) Lk hI hii (by have := hcap.1; omega) (by have := hcap.2; omega) d8 ?_
      refine v_dup X d9 rfl ?_
      refine v_callN X N (hCn _ i hlt) LN My (Nat.le_of_ble_eq_true rfl) hR ⟨by have := hcap.1; omega, by have := hcap.2; omega⟩ d10 ?_
      refine v_aast (ci := cj) (t0 := 0) X hka (by omega) (by omega) hln (fun h => ?_) (hel i hlt) hcj (by omega) hRA d11 ?_
      · rcases h with h | h
        · exact nI_pos (by omega) h
        · rw [ec] at h; omega
      · rw [ec]
        refine v_iinc X d12 (kq := 0) rfl (v := nI (i + 1)) (by rw [← nI_1]; rfl) hnL rfl ?_
        refine v_goto X d13 hB ?_
        have := ih (i + 1) (by omega)
        rw [e1, e2, e3] at this
        rw [show c0 + (mc + 1) * i + 1 + mc = c0 + ((mc + 1) * i + (mc + 1)) by omega, show s0 + (nF cj + ms) * i + nF cj + ms = s0 + ((nF cj + ms) * i + (nF cj + ms)) by omega, show base + w * i + w = base + (w * i + w) by omega]
        exact this
  have := key M 0 (by omega)
  rw [Nat.mul_zero, Nat.mul_zero, Nat.mul_zero] at this
  exact this
end GVF
theorem RA17 {θ : Th} {s : State} (h : Kn θ s) : (∃ (kA : Class) (comp : ClassId), s.vm.classes[aC θ 17]? = some kA ∧ kA.kind = .array comp (.object (clC 5)) ∧ s.vm.findClass (clC 5) = some comp) ∧ s.vm.findClass ("[" ++ (FieldType.object RX5).toString) = some (aC θ 17) := by
  obtain ⟨kA, comp, a1, a2, a3, a4⟩ := (h.2 4 _ rfl).2
  exact ⟨⟨kA, comp, a1, a2, a3⟩, a4⟩
theorem RA18 {θ : Th} {s : State} (h : Kn θ s) : (∃ (kA : Class) (comp : ClassId), s.vm.classes[aC θ 18]? = some kA ∧ kA.kind = .array comp (.object (clC 2)) ∧ s.vm.findClass (clC 2) = some comp) ∧ s.vm.findClass ("[" ++ (FieldType.object RX2).toString) = some (aC θ 18) := by
  obtain ⟨kA, comp, a1, a2, a3, a4⟩ := (h.2 5 _ rfl).2
  exact ⟨⟨kA, comp, a1, a2, a3⟩, a4⟩
theorem RA19 {θ : Th} {s : State} (h : Kn θ s) : (∃ (kA : Class) (comp : ClassId), s.vm.classes[aC θ 19]? = some kA ∧ kA.kind = .array comp (.object (clC 7)) ∧ s.vm.findClass (clC 7) = some comp) ∧ s.vm.findClass ("[" ++ (FieldType.object RX7).toString) = some (aC θ 19) := by
  obtain ⟨kA, comp, a1, a2, a3, a4⟩ := (h.2 6 _ rfl).2
  exact ⟨⟨kA, comp, a1, a2, a3⟩, a4⟩
theorem iX7_keep {θ : Th} (V : Nat → Nat → Value) (n b : Nat) (h : b < n) : iX7 θ V n b = V b := by
  have h0 : b ≠ n := by omega
  have h1 : ∀ j, b ≠ n + j := fun j => by omega
  simp only [iX7, upC, upR, if_neg h0, if_neg (h1 _)]
theorem iX5_keep {θ : Th} (V : Nat → Nat → Value) (n b : Nat) (h : b < n) : iX5 θ V n b = V b := by
  have h0 : b ≠ n := by omega
  have h1 : ∀ j, b ≠ n + j := fun j => by omega
  simp only [iX5, upC, upR, if_neg h0, if_neg (h1 _)]
theorem iX2_keep {θ : Th} (V : Nat → Nat → Value) (n b : Nat) (h : b < n) : iX2 θ V n b = V b := by
  have h0 : b ≠ n := by omega
  have h1 : ∀ j, b ≠ n + j := fun j => by omega
  simp only [iX2, upC, upR, if_neg h0, if_neg (h1 _)]
theorem iX8_keep {θ : Th} (V : Nat → Nat → Value) (n b : Nat) (h : b < n) : iX8 θ V n b = V b := by
  have h0 : b ≠ n := by omega
  have h1 : ∀ j, b ≠ n + j := fun j => by omega
  simp only [iX8, upC, upR, if_neg h0, if_neg (h1 _)]
theorem iX1_keep {θ : Th} (V : Nat → Nat → Value) (n b : Nat) (h : b < n) : iX1 θ V n b = V b := by
  have h0 : b ≠ n := by omega
  have h1 : ∀ j, b ≠ n + j := fun j => by omega
  simp only [iX1, upC, upR, if_neg h0, if_neg (h1 _)]
theorem iX0_keep {θ : Th} (V : Nat → Nat → Value) (n b : Nat) (h : b < n) : iX0 θ V n b = V b := by
  have h0 : b ≠ n := by omega
  have h1 : ∀ j, b ≠ n + j := fun j => by omega
  simp only [iX0, upC, upR, if_neg h0, if_neg (h1 _)]
theorem iX3_keep {θ : Th} (V : Nat → Nat → Value) (n b : Nat) (h : b < n) : iX3 θ V n b = V b := by
  have h0 : b ≠ n := by omega
  have h1 : ∀ j, b ≠ n + j := fun j => by omega
  simp only [iX3, upC, upR, if_neg h0, if_neg (h1 _)]
  rw [iX7_keep _ _ _ (by omega)]
  exact if_neg (h1 _)
theorem iX9_keep {θ : Th} (V : Nat → Nat → Value) (n b : Nat) (h : b < n) : iX9 θ V n b = V b := by
  have h0 : b ≠ n := by omega
  have h1 : ∀ j, b ≠ n + j := fun j => by omega
  simp only [iX9, upC, upR, if_neg h0, if_neg (h1 _)]
  rw [iX1_keep _ _ _ (by omega)]
  exact (if_neg (h1 _)).trans ((if_neg h0).trans (if_neg (h1 _)))
theorem st_tab : ∀ i, i < 40 → kd (28 + 10 * i) = 8 ∧ (kd (28 + 10 * i + 1) = 13 ∧ ln (28 + 10 * i + 1) = 8) ∧ (kd (28 + 10 * i + 2) = 13 ∧ ln (28 + 10 * i + 2) = 8) ∧ (kd (28 + 10 * i + 3) = 13 ∧ ln (28 + 10 * i + 3) = 8) ∧ (kd (28 + 10 * i + 4) = 13 ∧ ln (28 + 10 * i + 4) = 8) ∧ (kd (28 + 10 * i + 5) = 13 ∧ ln (28 + 10 * i + 5) = 6) ∧ (kd (28 + 10 * i + 6) = 13 ∧ ln (28 + 10 * i + 6) = 6) ∧ (kd (28 + 10 * i + 7) = 13 ∧ ln (28 + 10 * i + 7) = 6) ∧ (kd (28 + 10 * i + 8) = 13 ∧ ln (28 + 10 * i + 8) = 96) ∧ (kd (28 + 10 * i + 9) = 13 ∧ ln (28 + 10 * i + 9) = 180) := by decide +kernel
theorem st_tab2 : ∀ i, i < 7 → kd (446 + 10 * i) = 8 ∧ (kd (446 + 10 * i + 1) = 13 ∧ ln (446 + 10 * i + 1) = 8) ∧ (kd (446 + 10 * i + 2) = 13 ∧ ln (446 + 10 * i + 2) = 8) ∧ (kd (446 + 10 * i + 3) = 13 ∧ ln (446 + 10 * i + 3) = 8) ∧ (kd (446 + 10 * i + 4) = 13 ∧ ln (446 + 10 * i + 4) = 8) ∧ (kd (446 + 10 * i + 5) = 13 ∧ ln (446 + 10 * i + 5) = 6) ∧ (kd (446 + 10 * i + 6) = 13 ∧ ln (446 + 10 * i + 6) = 6) ∧ (kd (446 + 10 * i + 7) = 13 ∧ ln (446 + 10 * i + 7) = 6) ∧ (kd (446 + 10 * i + 8) = 13 ∧ ln (446 + 10 * i + 8) = 96) ∧ (kd (446 + 10 * i + 9) = 13 ∧ ln (446 + 10 * i + 9) = 180) := by decide +kernel
theorem lw_tab : ∀ i, i < 5 → kd (540 + 3 * i) = 6 ∧ (kd (540 + 3 * i + 1) = 13 ∧ ln (540 + 3 * i + 1) = 240) ∧ (kd (540 + 3 * i + 2) = 13 ∧ ln (540 + 3 * i + 2) = 32) := by decide +kernel
theorem dy_tab : ∀ i, i < 5 → kd (555 + 2 * i) = 3 ∧ (kd (555 + 2 * i + 1) = 13 ∧ ln (555 + 2 * i + 1) = 48) := by decide +kernel
