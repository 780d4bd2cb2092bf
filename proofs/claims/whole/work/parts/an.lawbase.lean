/-! the law's loop: what each case rests on -/
abbrev LV (θ : Th) (b ii : Nat) : List (Nat × Value) := [(4, .int (nI ii)), (3, .ref (be θ + 590)), (2, .ref (be θ + 565)), (1, .ref (be θ + 0)), (0, .ref b)]
def LC (θ : Th) (s : State) (b L : Nat) (xs : Nat → Int32) (ii : Nat) : Prop := va_X b L xs s s.heap ∧ b < s.heap.size ∧ ¬ Aq θ b ∧ ii + 6 ≤ L ∧ L ≤ 3072
def Inv (σ : Mem) : Prop := ∃ A, gOk A ∧ CRel σ A ∧ MRel σ A
def ldOk (pc : Nat) (j : Nat) : Bool := decide (decode cL_law pc = .ok (.aload_n 0, 1)) && decide (decode cL_law (pc + 1) = .ok (.iload 4, 2)) && decide (decode cL_law (pc + 3) = .ok (.iconst (j : Int), 1)) && decide (decode cL_law (pc + 4) = .ok (.iadd, 1)) && decide (decode cL_law (pc + 5) = .ok (.iaload, 1))
theorem pu_some {x : Option Int32} {σ σ' : Mem} {r : Int32} (h : pu x σ = some (r, σ')) : x = some r ∧ σ' = σ := by
  cases x with
  | none => cases h
  | some v => cases h; exact ⟨rfl, rfl⟩
theorem vin_nI {k n : Nat} (h : k < n) (hn : n < 2 ^ 31) : vp_in (nI k) n := by
  intro q
  rcases q with q | q
  · exact nI_pos (by omega) q
  · rw [nI_clamp (by omega)] at q; omega
theorem Inv.out {σ : Mem} {A : Gh} {v : Int64} (hC : CRel σ A) (hM : MRel σ A) : CRel (sL σ 590 0 v) A ∧ MRel (sL σ 590 0 v) A := by
  obtain ⟨h1, h2, h3, h4, h5, h6, h7, h8, h9, h10⟩ := hC
  obtain ⟨q1, q2, q3, q4, q5, q6, q7, q8, q9, q10⟩ := hM
  exact ⟨⟨h1, h2, h3, h4, h5, h6, h7, h8, h9, h10⟩, ⟨q1, ⟨q2.1, q2.2.1, q2.2.2.fr rfl rfl (funext fun j => by rw [mL_sL, if_neg (by omega)]) rfl⟩, q3, q4, q5, q6, q7, q8, q9, q10⟩⟩
def zb (x : Int32) : Int32 := if x = 0 then 0 else 1
theorem zb_01 (x : Int32) : zb x = 0 ∨ zb x = 1 := by
  unfold zb
  by_cases h : x = 0
  · rw [if_pos h]; exact Or.inl rfl
  · rw [if_neg h]; exact Or.inr rfl
theorem cl_L_101 : Cond.constantLong RL 101 4294967295 ∈ ALL := allT9 4 (by decide +kernel) rfl
section LW
variable {θ : Th} {p : Program} {l : Launch} {e : Env} {R : Room} {s : State} {m : MethodId} {args : Array Value} {below : List Frame} {meth : Method} {c : Code} {cells slots pc : Nat} {Q : State → Prop} {lv : List (Nat × Value)} {st : List Value} {σ : Mem} {b L ii : Nat} {xs : Nat → Int32}
/-- script[i + j] comes onto the stack -/
theorem la (X : Cx θ p s m args c cL_law 7 RL) (C : LC θ s b L xs ii) (k0 k4 : Nat) (h0 : lv[k0]? = some (0, .ref b)) (h4 : lv[k4]? = some (4, .int (nI ii))) (j : Nat) (hj : j ≤ 5) (hd : ldOk pc j = true) (k : G θ p l e R s m args below meth c 7 cells slots Q (pc + 6) lv (.int (xs (ii + j)) :: st) σ) : G θ p l e R s m args below meth c 7 cells slots Q pc lv st σ := by
  simp only [ldOk, Bool.and_eq_true, decide_eq_true_eq] at hd
  obtain ⟨⟨⟨⟨d0, d1⟩, d2⟩, d3⟩, d4⟩ := hd
  obtain ⟨c1, c2, c3, c4, c5⟩ := C
  refine g_aload_n X d0 rfl k0 h0 ?_
  refine g_iload X d1 k4 h4 ?_
  refine g_iconst X d2 (v := nI j) (by
    have q : j = 0 ∨ j = 1 ∨ j = 2 ∨ j = 3 ∨ j = 4 ∨ j = 5 := by omega
    rcases q with rfl | rfl | rfl | rfl | rfl | rfl <;> decide) ?_
  refine g_iadd X d3 ?_
  rw [nI_addc]
  refine g_sld X c1 c2 c3 (vin_nI (by omega) (by omega)) d4 ?_
  rw [nI_clamp (by omega)]
  exact k
theorem la1 (X : Cx θ p s m args c cL_law 7 RL) (hd : decode cL_law pc = .ok (.aload_n 1, 1)) (k : G θ p l e R s m args below meth c 7 cells slots Q (pc + 1) (LV θ b ii) (.ref (be θ + 0) :: st) σ) : G θ p l e R s m args below meth c 7 cells slots Q pc (LV θ b ii) st σ := g_aload_n X hd rfl 3 rfl k
theorem la2 (X : Cx θ p s m args c cL_law 7 RL) (hd : decode cL_law pc = .ok (.aload_n 2, 1)) (k : G θ p l e R s m args below meth c 7 cells slots Q (pc + 1) (LV θ b ii) (.ref (be θ + 565) :: st) σ) : G θ p l e R s m args below meth c 7 cells slots Q pc (LV θ b ii) st σ := g_aload_n X hd rfl 2 rfl k
/-- a boolean of an int -/
theorem gz (X : Cx θ p s m args c cL_law 7 RL) {x : Int32} (d0 : decode cL_law pc = .ok (.ifCond .eq 7, 3)) (d1 : decode cL_law (pc + 3) = .ok (.iconst 1, 1)) (d2 : decode cL_law (pc + 4) = .ok (.goto 4, 3)) (d3 : decode cL_law (pc + 7) = .ok (.iconst 0, 1)) (k : G θ p l e R s m args below meth c 7 cells slots Q (pc + 8) lv (.int (zb x) :: st) σ) : G θ p l e R s m args below meth c 7 cells slots Q pc lv (.int x :: st) σ := by
  refine g_if_eq X d0 (tgt := pc + 7) (by omega) (fun h => ?_) (fun h => ?_)
  · refine g_iconst X d3 (v := 0) (by decide) ?_
    rw [zb, if_pos h] at k
    exact k
  · refine g_iconst X d1 (v := 1) (by decide) ?_
    refine g_goto X d2 (tgt := pc + 8) (by omega) ?_
    rw [zb, if_neg h] at k
    exact k
end LW
