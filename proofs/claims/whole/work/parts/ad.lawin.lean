/-! the law from its entry to its loop -/
theorem dL_law_0 : decode cL_law 0 = .ok (.new 8, 3) := by decide +kernel
theorem dL_law_3 : decode cL_law 3 = .ok (.dup, 1) := by decide +kernel
theorem dL_law_4 : decode cL_law 4 = .ok (.invokespecial 15, 3) := by decide +kernel
theorem dL_law_7 : decode cL_law 7 = .ok (.astore_n 1, 1) := by decide +kernel
theorem dL_law_8 : decode cL_law 8 = .ok (.new 16, 3) := by decide +kernel
theorem dL_law_11 : decode cL_law 11 = .ok (.dup, 1) := by decide +kernel
theorem dL_law_12 : decode cL_law 12 = .ok (.invokespecial 18, 3) := by decide +kernel
theorem dL_law_15 : decode cL_law 15 = .ok (.astore_n 2, 1) := by decide +kernel
theorem dL_law_16 : decode cL_law 16 = .ok (.iconst 1, 1) := by decide +kernel
theorem dL_law_17 : decode cL_law 17 = .ok (.newarray .long, 2) := by decide +kernel
theorem dL_law_19 : decode cL_law 19 = .ok (.astore_n 3, 1) := by decide +kernel
theorem ck_L_8 : Cond.classLink RL 8 (clC 10) ∈ ALL := allT1 25 (by decide +kernel) rfl
theorem ck_L_16 : Cond.classLink RL 16 (clC 11) ∈ ALL := allT5 230 (by decide +kernel) rfl
theorem in_10 : Cond.instantiable (clC 10) (nF 10) ∈ ALL := allT1 26 (by decide +kernel) rfl
theorem in_11 : Cond.instantiable (clC 11) (nF 11) ∈ ALL := allT5 231 (by decide +kernel) rfl
theorem ii_10 : Cond.initialized (clC 10) ∈ ALL := allT1 1 (by decide +kernel) rfl
theorem ii_11 : Cond.initialized (clC 11) ∈ ALL := allT1 12 (by decide +kernel) rfl
theorem ml_L_15 : Cond.methodLink RL 15 yX10_init ∈ ALL := allT1 27 (by decide +kernel) rfl
theorem ml_L_18 : Cond.methodLink RL 18 yX11_init ∈ ALL := allT5 232 (by decide +kernel) rfl
def Vb (θ : Th) (V : Nat → Nat → Value) : Nat → Nat → Value := upR (iX10 θ (upR V 0 (fun k => defaultValue (clty 10 k)))) 565 (fun k => defaultValue (clty 11 k))
def Vf (θ : Th) (V : Nat → Nat → Value) : Nat → Nat → Value := upR (iX11 θ (Vb θ V) 565) 590 (fun _ => .long 0)
theorem iX11_keep {θ : Th} (V : Nat → Nat → Value) (n b : Nat) (h : b < n) : iX11 θ V n b = V b := by
  have h0 : b ≠ n := by omega
  have h1 : ∀ j, b ≠ n + j := fun j => by omega
  simp only [iX11, upC, upR, if_neg h0, if_neg (h1 _)]
theorem Vf_good {θ : Th} {V : Nat → Nat → Value} : ∀ b, b < 591 → Good θ (Vf θ V) b := by
  intro b hb
  have q : b < 565 ∨ (565 ≤ b ∧ b < 590) ∨ b = 590 := by omega
  rcases q with q | q | q
  · refine (G_X10 (V := upR V 0 (fun k => defaultValue (clty 10 k))) b q).row ?_
    unfold Vf
    rw [upR_ne (by omega), iX11_keep _ _ _ q]
    exact upR_ne (by omega)
  · refine (G_X11 (V := Vb θ V) (upR_self _ _ _) b q.1 q.2).row ?_
    unfold Vf
    rw [upR_ne (by omega)]
  · subst q
    exact Good_lng (by decide +kernel) (upR_self _ _ _)
theorem Wd_first {θ : Th} {V : Nat → Nat → Value} {H : Heap} (h : PW θ (Vf θ V) 591 H) : Wd θ sg0 H := h.wd fun a ha => Vf_good a ha
set_option maxRecDepth 20000 in
theorem law_in {θ : Th} {p : Program} {l : Launch} {e : Env} {R : Room} {s : State} {m : MethodId} {args : Array Value} {below : List Frame} {meth : Method} {c : Code} {nL scr : Nat} {Q : State → Prop} {V : Nat → Nat → Value} (X : Cx θ p s m args c cL_law nL RL) (N : Nx s) (hnL : 3 < nL) (hR : 4 ≤ R.frames ∧ 200 ≤ R.locals) (hcap : 591 ≤ R.cells ∧ 53088 ≤ R.slots) (kk : G θ p l e R s m args below meth c nL 591 53088 Q 20 [(3, .ref (be θ + 590)), (2, .ref (be θ + 565)), (1, .ref (be θ + 0)), (0, .ref scr)] [] sg0) : GV θ p l e R s m args below meth c nL 0 0 Q 0 [(0, .ref scr)] [] V 0 := by
  obtain ⟨r1, r2⟩ := hR
  obtain ⟨r3, r4⟩ := hcap
  refine v_new (ci := 10) X (by decide) (by decide +kernel) ck_L_8 in_10 ii_10 (Nat.le_trans (by decide +kernel) r3) (Nat.le_trans (by decide +kernel) r4) dL_law_0 ?_
  refine v_dup X dL_law_3 rfl ?_
  refine v_callI X N c_X10_init ml_L_15 mi_X10 (Nat.le_of_ble_eq_true rfl) ⟨by omega, by omega⟩ ⟨Nat.le_trans (by decide +kernel) r3, Nat.le_trans (by decide +kernel) r4⟩ dL_law_4 ?_
  refine v_astore_n X dL_law_7 rfl (by omega) rfl ?_
  refine v_new (ci := 11) X (by decide) (by decide +kernel) ck_L_16 in_11 ii_11 (Nat.le_trans (by decide +kernel) r3) (Nat.le_trans (by decide +kernel) r4) dL_law_8 ?_
  refine v_dup X dL_law_11 rfl ?_
  refine v_callI X N (c_X11_init (o := 565) (by decide +kernel) (by decide +kernel) (by decide +kernel) (by decide +kernel) (by decide +kernel) (by decide +kernel) (by decide +kernel) (by decide +kernel) (by decide +kernel) (by decide +kernel) (by decide +kernel) (by decide +kernel) (by decide +kernel) (by decide +kernel) (by decide +kernel) (by decide +kernel) (by decide +kernel) (by decide +kernel) (by decide +kernel) (by decide +kernel) (by decide +kernel) (by decide +kernel) (by decide +kernel) (by decide +kernel) (by decide +kernel) (by decide +kernel) (by decide +kernel) (by decide +kernel) (by decide +kernel) (by decide +kernel) (by decide +kernel) (by decide +kernel) (by decide +kernel) (by decide +kernel) (by decide +kernel) (by decide +kernel) (by decide +kernel) (by decide +kernel) (by decide +kernel) (by decide +kernel) (by decide +kernel) (by decide +kernel) (by decide +kernel) (by decide +kernel) (by decide +kernel) (by decide +kernel) (by decide +kernel) (by decide +kernel) (by decide +kernel)) ml_L_18 mi_X11 (Nat.le_of_ble_eq_true rfl) ⟨by omega, by omega⟩ ⟨Nat.le_trans (by decide +kernel) r3, Nat.le_trans (by decide +kernel) r4⟩ dL_law_12 ?_
  refine v_astore_n X dL_law_15 rfl (by omega) rfl ?_
  refine v_iconst X dL_law_16 (v := 1) (by decide) ?_
  refine v_newa (atype := .long) (k := 16) (N := 1) (dv := .long 0) X (by decide +kernel) (by decide) (by decide +kernel) acL (cl16 X.2.1) rfl (by decide) (by decide) (by decide) (Nat.le_trans (by decide +kernel) r3) (Nat.le_trans (by decide +kernel) r4) dL_law_17 ?_
  refine v_astore_n X dL_law_19 rfl (by omega) rfl ?_
  exact fun H locs ls hW hS hl => kk H locs ls (Wd_first (V := V) hW) hS hl
