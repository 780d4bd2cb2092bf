abbrev GB (θ : Th) (p : Program) (l : Launch) (e : Env) (d : Nat) (s : State) (m : MethodId) (args : Array Value) (below : List Frame) (meth : Method) (c : Code) (nL : Nat) (rr : Option Value × Mem) : Nat → List (Nat × Value) → List Value → Mem → Prop := G θ p l e (rmq d 0 0) s m args below meth c nL 0 0 (MQ below (Qy θ rr) args s 0 0 (Aq θ))
theorem ite_some {α : Type} {c : Prop} {i : Decidable c} {x : Option α} {r : α} (h : (@ite _ c i x none) = some r) : c ∧ x = some r := by
  by_cases hc : c
  · rw [if_pos hc] at h; exact ⟨hc, h⟩
  · rw [if_neg hc] at h; cases h
theorem ite_none {α : Type} {c : Prop} {i : Decidable c} {x : Option α} {r : α} (h : (@ite _ c i none x) = some r) : ¬ c ∧ x = some r := by
  by_cases hc : c
  · rw [if_pos hc] at h; cases h
  · rw [if_neg hc] at h; exact ⟨hc, h⟩
def inb (i : Int32) (n : Nat) : Bool := !(decide (i < 0)) && decide (i.toNatClampNeg < n)
theorem inb_in {i : Int32} {n : Nat} (h : inb i n = true) : vp_in i n := by
  simp only [inb, Bool.and_eq_true, Bool.not_eq_true', decide_eq_false_iff_not, decide_eq_true_eq] at h
  rintro (q | q)
  · exact h.1 q
  · omega
def bzb (v : Int32) : Bool := decide (v = 0) || decide (v = 1)
theorem bzb_bz {v : Int32} (h : bzb v = true) : bz v := by
  simp only [bzb, Bool.or_eq_true, decide_eq_true_eq] at h
  exact h
def cpyB (n0 n1 : Nat) (sp dp n : Int32) : Bool := !(decide (sp < 0)) && !(decide (dp < 0)) && !(decide (n < 0)) && decide (sp.toNatClampNeg + n.toNatClampNeg ≤ n0) && decide (dp.toNatClampNeg + n.toNatClampNeg ≤ n1)
theorem cpyB_ok {n0 n1 : Nat} {sp dp n : Int32} (h : cpyB n0 n1 sp dp n = true) : cpyOk n0 n1 sp dp n := by
  simp only [cpyB, Bool.and_eq_true, Bool.not_eq_true', decide_eq_false_iff_not, decide_eq_true_eq] at h
  exact ⟨⟨h.1.1.1.1, h.1.1.1.2, h.1.1.2⟩, h.1.2, h.2⟩
def iush (x y : Int32) : Int32 := (x.toUInt32 >>> (y.toUInt32 &&& Int32.toUInt32 31)).toInt32
def lush (x : Int64) (y : Int32) : Int64 := (x.toUInt64 >>> (y.toInt64.toUInt64 &&& Int64.toUInt64 63)).toInt64
def lshl6 (x : Int64) (y : Int32) : Int64 := x <<< (y.toInt64 &&& 63)
theorem rv_of {β r k : Nat} (h : kd r = k) (hk : k ≠ 11) : Value.ref (β + r) = rv β r := by
  rw [rv, if_neg]
  intro h0
  subst h0
  have h11 : kd 0 = 11 := by decide +kernel
  omega
theorem rv_nar {ty : FieldType} {v : Nat} (u : Nat) : narrow ty (rv u v) = rv u v := by
  unfold rv
  split <;> (cases ty <;> rfl)
theorem rv_fitO {C : String} {v : Nat} (u : Nat) : fits (.object C) (rv u v) = true := by
  unfold rv
  split <;> rfl
theorem rv_fitA {t : FieldType} {v : Nat} (u : Nat) : fits (.array t) (rv u v) = true := by
  unfold rv
  split <;> rfl
theorem loopF_by {α β : Type} {step : α → Option (α ⊕ β)} {P : α → Prop} {K : β → Prop} (hs : ∀ a x, step a = some x → Sum.elim P K x → P a) : ∀ (n : Nat) (a : α) (y : β), loopF step n a = some y → K y → P a := by
  intro n
  induction n with
  | zero => intro a y h; cases h
  | succ n ih =>
    intro a y h hk
    rw [loopF_succ] at h
    cases hx : step a with
    | none => rw [hx] at h; cases h
    | some x =>
      rw [hx] at h
      cases x with
      | inl b => exact hs a _ hx (ih b y h hk)
      | inr b => cases h; exact hs a _ hx hk
theorem inl_hk {α β : Type} {P : α → Prop} {K : β → Prop} {t : α} {x : α ⊕ β} (h : some (Sum.inl t) = some x) (hk : Sum.elim P K x) : P t := by
  cases h
  exact hk
theorem inr_hk {α β : Type} {P : α → Prop} {K : β → Prop} {t : β} {x : α ⊕ β} (h : some (Sum.inr t) = some x) (hk : Sum.elim P K x) : K t := by
  cases h
  exact hk
theorem inl_el {α β : Type} {P : α → Prop} {K : β → Prop} {t : α} (hk : Sum.elim P K (Sum.inl t)) : P t := hk
theorem inr_el {α β : Type} {P : α → Prop} {K : β → Prop} {t : β} (hk : Sum.elim P K (Sum.inr t)) : K t := hk
def slen (k : Nat) : Int32 := Int32.ofNat (stn.getD k 0)
def schr (k j : Nat) : Int32 := (sts.getD k []).getD j 0
section GT
variable {θ : Th} {p : Program} {l : Launch} {e : Env} {R : Room} {s : State} {m : MethodId} {args : Array Value} {below : List Frame} {meth : Method} {c : Code} {cc : ByteArray} {own : String} {nL cells slots pc : Nat} {Q : State → Prop} {lv : List (Nat × Value)} {st : List Value} {σ : Mem}
theorem g_cV (X : Cx θ p s m args c cc nL own) {y : MethodName} {cb : ByteArray} {maxL d n idx : Nat} {ret : Option FieldType} {As rest : List Value} {r : Option Value × Mem} {a ci : Nat} (hM : Cn θ l y cb maxL ret d 0 0 (.ref (be θ + a) :: As) σ r) (Lk : Cond.methodLink own idx y ∈ ALL) (My : MyV y cb maxL ret n) (ha : kd a = ci + 1) (hci : ci < 12) (hy : y.cls = clC ci) (hn : As.length = n) (hst : st = As.reverse ++ .ref (be θ + a) :: rest) (hc : (rest.map fun v => v.category).sum ≤ 8) (hR : d + 1 ≤ R.frames ∧ 8 + (maxL + 11) + 40 * d ≤ R.locals) (hf : cells ≤ R.cells ∧ slots ≤ R.slots)
    (hd : decode cc pc = .ok (.invokevirtual idx, 3)) {st' : List Value} {σ' : Mem} (hst' : r.1.toList ++ rest = st') (hσ' : r.2 = σ') (kk : G θ p l e R s m args below meth c nL cells slots Q (pc + 3) lv st' σ') : G θ p l e R s m args below meth c nL cells slots Q pc lv st σ := by
  subst hst'; subst hσ'
  exact g_callV X hM Lk My ha hci hy hn hst hc hR hf hd kk
theorem g_cT (X : Cx θ p s m args c cc nL own) {y : MethodName} {cb : ByteArray} {maxL d n idx k : Nat} {ret : Option FieldType} {As rest : List Value} {r : Option Value × Mem} (hM : Cn θ l y cb maxL ret d 0 0 (.ref (sA θ k) :: As) σ r) (Lk : Cond.methodLink own idx y ∈ ALL) (My : MyV y cb maxL ret n) (hk : k < 6) (hy : y.cls = "java/lang/String") (hn : As.length = n) (hst : st = As.reverse ++ .ref (sA θ k) :: rest) (hc : (rest.map fun v => v.category).sum ≤ 8) (hR : d + 1 ≤ R.frames ∧ 8 + (maxL + 11) + 40 * d ≤ R.locals) (hf : cells ≤ R.cells ∧ slots ≤ R.slots)
    (hd : decode cc pc = .ok (.invokevirtual idx, 3)) {st' : List Value} {σ' : Mem} (hst' : r.1.toList ++ rest = st') (hσ' : r.2 = σ') (kk : G θ p l e R s m args below meth c nL cells slots Q (pc + 3) lv st' σ') : G θ p l e R s m args below meth c nL cells slots Q pc lv st σ := by
  subst hst'; subst hσ'
  exact g_callT X hM Lk My hk hy hn hst hc hR hf hd kk
theorem g_cS (X : Cx θ p s m args c cc nL own) {y : MethodName} {cb : ByteArray} {maxL d n idx : Nat} {ret : Option FieldType} {As rest : List Value} {r : Option Value × Mem} (hM : Cn θ l y cb maxL ret d 0 0 As σ r) (Lk : Cond.methodLink own idx y ∈ ALL) (My : MyS y cb maxL ret n) (hn : As.length = n) (hst : st = As.reverse ++ rest) (hc : (rest.map fun v => v.category).sum ≤ 8) (hR : d + 1 ≤ R.frames ∧ 8 + (maxL + 11) + 40 * d ≤ R.locals) (hf : cells ≤ R.cells ∧ slots ≤ R.slots)
    (hd : decode cc pc = .ok (.invokestatic idx, 3)) {st' : List Value} {σ' : Mem} (hst' : r.1.toList ++ rest = st') (hσ' : r.2 = σ') (kk : G θ p l e R s m args below meth c nL cells slots Q (pc + 3) lv st' σ') : G θ p l e R s m args below meth c nL cells slots Q pc lv st σ := by
  subst hst'; subst hσ'
  exact g_callS X hM Lk My hn hst hc hR hf hd kk
theorem g_tableD (X : Cx θ p s m args c cc nL own) {dflt lo hi : Int} {offs : Array Int} {len : Nat} {x : Int32} {tgt : Nat} (hd : decode cc pc = .ok (.tableswitch dflt lo hi offs, len)) (h : (x.toInt < lo ∨ hi < x.toInt) ∨ offs[(x.toInt - lo).toNat]? = some dflt) (ht : (pc : Int) + dflt = (tgt : Int)) (k : G θ p l e R s m args below meth c nL cells slots Q tgt lv st σ) : G θ p l e R s m args below meth c nL cells slots Q pc lv (.int x :: st) σ := by
  by_cases h1 : x.toInt < lo ∨ hi < x.toInt
  · exact g_tableOut X hd h1 ht k
  · rcases h with h | h
    · exact absurd h h1
    · exact g_tableIn X hd (fun q => h1 (Or.inl q)) (fun q => h1 (Or.inr q)) h ht k
theorem g_cp (X : Cx θ p s m args c cc nL own) {a0 a n0 n1 idx : Nat} {sp dp n : Int32} (Lk : Lc own idx) (hk0 : kd a0 = 13) (hk : kd a = 13) (hn0 : ln a0 = n0) (hn1 : ln a = n1) (ho : cpyOk n0 n1 sp dp n) (hR : 1 ≤ R.frames ∧ (st.map fun v => v.category).sum + 18 ≤ R.locals) (hd : decode cc pc = .ok (.invokestatic idx, 3)) {σ' : Mem} (hσ' : rI σ a (cpyM (mI σ a0) (mI σ a) sp dp n) = σ') (kk : G θ p l e R s m args below meth c nL cells slots Q (pc + 3) lv st σ') : G θ p l e R s m args below meth c nL cells slots Q pc lv (.int n :: .int dp :: .ref (be θ + a) :: .int sp :: .ref (be θ + a0) :: st) σ := by
  subst hσ'
  exact g_copy X Lk hk0 hk hn0 hn1 ho hR hd kk
theorem g_cpT (X : Cx θ p s m args c cc nL own) {a n1 idx : Nat} {sp dp n : Int32} (Lk : Lc own idx) (hk : kd a = 13) (hn1 : ln a = n1) (ho : cpyOk 11 n1 sp dp n) (hR : 1 ≤ R.frames ∧ (st.map fun v => v.category).sum + 18 ≤ R.locals) (hd : decode cc pc = .ok (.invokestatic idx, 3)) {σ' : Mem} (hσ' : rI σ a (cpyM (tb 1) (mI σ a) sp dp n) = σ') (kk : G θ p l e R s m args below meth c nL cells slots Q (pc + 3) lv st σ') : G θ p l e R s m args below meth c nL cells slots Q pc lv (.int n :: .int dp :: .ref (be θ + a) :: .int sp :: .ref (tA θ 1) :: st) σ := by
  subst hσ'
  exact g_copyT X Lk hk hn1 ho hR hd kk
end GT
theorem bp_m124 : (Int8.ofInt (-124)).toInt32 = (-124 : Int32) := by decide
theorem bp_m63 : (Int8.ofInt (-63)).toInt32 = (-63 : Int32) := by decide
theorem bp_m59 : (Int8.ofInt (-59)).toInt32 = (-59 : Int32) := by decide
theorem bp_m38 : (Int8.ofInt (-38)).toInt32 = (-38 : Int32) := by decide
theorem bp_m33 : (Int8.ofInt (-33)).toInt32 = (-33 : Int32) := by decide
theorem bp_m2 : (Int8.ofInt (-2)).toInt32 = (-2 : Int32) := by decide
theorem bp_6 : (Int8.ofInt (6)).toInt32 = (6 : Int32) := by decide
theorem bp_7 : (Int8.ofInt (7)).toInt32 = (7 : Int32) := by decide
theorem bp_8 : (Int8.ofInt (8)).toInt32 = (8 : Int32) := by decide
theorem bp_9 : (Int8.ofInt (9)).toInt32 = (9 : Int32) := by decide
theorem bp_10 : (Int8.ofInt (10)).toInt32 = (10 : Int32) := by decide
theorem bp_11 : (Int8.ofInt (11)).toInt32 = (11 : Int32) := by decide
theorem bp_12 : (Int8.ofInt (12)).toInt32 = (12 : Int32) := by decide
theorem bp_15 : (Int8.ofInt (15)).toInt32 = (15 : Int32) := by decide
theorem bp_16 : (Int8.ofInt (16)).toInt32 = (16 : Int32) := by decide
theorem bp_20 : (Int8.ofInt (20)).toInt32 = (20 : Int32) := by decide
theorem bp_23 : (Int8.ofInt (23)).toInt32 = (23 : Int32) := by decide
theorem bp_24 : (Int8.ofInt (24)).toInt32 = (24 : Int32) := by decide
theorem bp_30 : (Int8.ofInt (30)).toInt32 = (30 : Int32) := by decide
theorem bp_32 : (Int8.ofInt (32)).toInt32 = (32 : Int32) := by decide
theorem bp_33 : (Int8.ofInt (33)).toInt32 = (33 : Int32) := by decide
theorem bp_38 : (Int8.ofInt (38)).toInt32 = (38 : Int32) := by decide
theorem bp_40 : (Int8.ofInt (40)).toInt32 = (40 : Int32) := by decide
theorem bp_41 : (Int8.ofInt (41)).toInt32 = (41 : Int32) := by decide
theorem bp_42 : (Int8.ofInt (42)).toInt32 = (42 : Int32) := by decide
theorem bp_43 : (Int8.ofInt (43)).toInt32 = (43 : Int32) := by decide
theorem bp_45 : (Int8.ofInt (45)).toInt32 = (45 : Int32) := by decide
theorem bp_47 : (Int8.ofInt (47)).toInt32 = (47 : Int32) := by decide
theorem bp_48 : (Int8.ofInt (48)).toInt32 = (48 : Int32) := by decide
theorem bp_50 : (Int8.ofInt (50)).toInt32 = (50 : Int32) := by decide
theorem bp_57 : (Int8.ofInt (57)).toInt32 = (57 : Int32) := by decide
theorem bp_58 : (Int8.ofInt (58)).toInt32 = (58 : Int32) := by decide
theorem bp_59 : (Int8.ofInt (59)).toInt32 = (59 : Int32) := by decide
theorem bp_60 : (Int8.ofInt (60)).toInt32 = (60 : Int32) := by decide
theorem bp_61 : (Int8.ofInt (61)).toInt32 = (61 : Int32) := by decide
theorem bp_62 : (Int8.ofInt (62)).toInt32 = (62 : Int32) := by decide
theorem bp_63 : (Int8.ofInt (63)).toInt32 = (63 : Int32) := by decide
theorem bp_64 : (Int8.ofInt (64)).toInt32 = (64 : Int32) := by decide
theorem bp_91 : (Int8.ofInt (91)).toInt32 = (91 : Int32) := by decide
theorem bp_92 : (Int8.ofInt (92)).toInt32 = (92 : Int32) := by decide
theorem bp_93 : (Int8.ofInt (93)).toInt32 = (93 : Int32) := by decide
theorem bp_98 : (Int8.ofInt (98)).toInt32 = (98 : Int32) := by decide
theorem bp_99 : (Int8.ofInt (99)).toInt32 = (99 : Int32) := by decide
theorem bp_100 : (Int8.ofInt (100)).toInt32 = (100 : Int32) := by decide
theorem bp_104 : (Int8.ofInt (104)).toInt32 = (104 : Int32) := by decide
theorem bp_109 : (Int8.ofInt (109)).toInt32 = (109 : Int32) := by decide
theorem bp_112 : (Int8.ofInt (112)).toInt32 = (112 : Int32) := by decide
theorem bp_115 : (Int8.ofInt (115)).toInt32 = (115 : Int32) := by decide
theorem bp_116 : (Int8.ofInt (116)).toInt32 = (116 : Int32) := by decide
theorem bp_119 : (Int8.ofInt (119)).toInt32 = (119 : Int32) := by decide
theorem bp_121 : (Int8.ofInt (121)).toInt32 = (121 : Int32) := by decide
theorem bp_124 : (Int8.ofInt (124)).toInt32 = (124 : Int32) := by decide
theorem bp_126 : (Int8.ofInt (126)).toInt32 = (126 : Int32) := by decide
theorem bp_127 : (Int8.ofInt (127)).toInt32 = (127 : Int32) := by decide
theorem ic_m8 : Int32.ofInt (-8) = (-8 : Int32) := by decide
theorem ic_m1 : Int32.ofInt (-1) = (-1 : Int32) := by decide
theorem ic_0 : Int32.ofInt (0) = (0 : Int32) := by decide
theorem ic_1 : Int32.ofInt (1) = (1 : Int32) := by decide
theorem ic_2 : Int32.ofInt (2) = (2 : Int32) := by decide
theorem ic_3 : Int32.ofInt (3) = (3 : Int32) := by decide
theorem ic_4 : Int32.ofInt (4) = (4 : Int32) := by decide
theorem ic_5 : Int32.ofInt (5) = (5 : Int32) := by decide
theorem sp_128 : (Int16.ofInt (128)).toInt32 = (128 : Int32) := by decide
theorem sp_129 : (Int16.ofInt (129)).toInt32 = (129 : Int32) := by decide
theorem sp_130 : (Int16.ofInt (130)).toInt32 = (130 : Int32) := by decide
theorem sp_131 : (Int16.ofInt (131)).toInt32 = (131 : Int32) := by decide
theorem sp_132 : (Int16.ofInt (132)).toInt32 = (132 : Int32) := by decide
theorem sp_177 : (Int16.ofInt (177)).toInt32 = (177 : Int32) := by decide
theorem sp_192 : (Int16.ofInt (192)).toInt32 = (192 : Int32) := by decide
theorem sp_240 : (Int16.ofInt (240)).toInt32 = (240 : Int32) := by decide
theorem sp_255 : (Int16.ofInt (255)).toInt32 = (255 : Int32) := by decide
theorem sp_312 : (Int16.ofInt (312)).toInt32 = (312 : Int32) := by decide
theorem sp_999 : (Int16.ofInt (999)).toInt32 = (999 : Int32) := by decide
theorem sp_1000 : (Int16.ofInt (1000)).toInt32 = (1000 : Int32) := by decide
theorem sp_9999 : (Int16.ofInt (9999)).toInt32 = (9999 : Int32) := by decide
theorem sp_12168 : (Int16.ofInt (12168)).toInt32 = (12168 : Int32) := by decide
theorem kd_0 : kd 0 = 11 := by decide +kernel
theorem kd_1 : kd 1 = 9 := by decide +kernel
theorem kd_2 : kd 2 = 13 := by decide +kernel
theorem ln_2 : ln 2 = 240 := by decide +kernel
theorem kd_3 : kd 3 = 17 := by decide +kernel
theorem ln_3 : ln 3 = 5 := by decide +kernel
theorem kd_4 : kd 4 = 18 := by decide +kernel
theorem ln_4 : ln 4 = 5 := by decide +kernel
theorem kd_5 : kd 5 = 13 := by decide +kernel
theorem ln_5 : ln 5 = 6 := by decide +kernel
theorem kd_6 : kd 6 = 8 := by decide +kernel
theorem kd_7 : kd 7 = 13 := by decide +kernel
theorem ln_7 : ln 7 = 8 := by decide +kernel
theorem kd_8 : kd 8 = 13 := by decide +kernel
theorem ln_8 : ln 8 = 8 := by decide +kernel
theorem kd_9 : kd 9 = 13 := by decide +kernel
theorem ln_9 : ln 9 = 8 := by decide +kernel
theorem kd_10 : kd 10 = 13 := by decide +kernel
theorem ln_10 : ln 10 = 8 := by decide +kernel
theorem kd_11 : kd 11 = 13 := by decide +kernel
theorem ln_11 : ln 11 = 6 := by decide +kernel
theorem kd_12 : kd 12 = 13 := by decide +kernel
theorem ln_12 : ln 12 = 6 := by decide +kernel
theorem kd_13 : kd 13 = 13 := by decide +kernel
theorem ln_13 : ln 13 = 6 := by decide +kernel
theorem kd_14 : kd 14 = 13 := by decide +kernel
theorem ln_14 : ln 14 = 96 := by decide +kernel
theorem kd_15 : kd 15 = 13 := by decide +kernel
theorem ln_15 : ln 15 = 180 := by decide +kernel
theorem kd_16 : kd 16 = 8 := by decide +kernel
theorem kd_26 : kd 26 = 5 := by decide +kernel
theorem kd_27 : kd 27 = 19 := by decide +kernel
theorem ln_27 : ln 27 = 40 := by decide +kernel
theorem kd_428 : kd 428 = 10 := by decide +kernel
theorem kd_429 : kd 429 = 13 := by decide +kernel
theorem ln_429 : ln 429 = 6 := by decide +kernel
theorem kd_434 : kd 434 = 7 := by decide +kernel
theorem kd_435 : kd 435 = 8 := by decide +kernel
theorem kd_436 : kd 436 = 13 := by decide +kernel
theorem ln_436 : ln 436 = 8 := by decide +kernel
theorem kd_437 : kd 437 = 13 := by decide +kernel
theorem ln_437 : ln 437 = 8 := by decide +kernel
theorem kd_439 : kd 439 = 13 := by decide +kernel
theorem ln_439 : ln 439 = 8 := by decide +kernel
theorem kd_441 : kd 441 = 13 := by decide +kernel
theorem ln_441 : ln 441 = 6 := by decide +kernel
theorem kd_445 : kd 445 = 19 := by decide +kernel
theorem ln_445 : ln 445 = 7 := by decide +kernel
theorem kd_516 : kd 516 = 4 := by decide +kernel
theorem kd_517 : kd 517 = 8 := by decide +kernel
theorem kd_524 : kd 524 = 13 := by decide +kernel
theorem ln_524 : ln 524 = 6 := by decide +kernel
theorem kd_527 : kd 527 = 13 := by decide +kernel
theorem ln_527 : ln 527 = 10 := by decide +kernel
theorem kd_528 : kd 528 = 13 := by decide +kernel
theorem ln_528 : ln 528 = 10 := by decide +kernel
theorem kd_529 : kd 529 = 15 := by decide +kernel
theorem ln_529 : ln 529 = 10 := by decide +kernel
theorem kd_530 : kd 530 = 13 := by decide +kernel
theorem ln_530 : ln 530 = 610 := by decide +kernel
theorem kd_531 : kd 531 = 1 := by decide +kernel
theorem kd_532 : kd 532 = 13 := by decide +kernel
theorem ln_532 : ln 532 = 8 := by decide +kernel
theorem kd_533 : kd 533 = 13 := by decide +kernel
theorem ln_533 : ln 533 = 8 := by decide +kernel
theorem kd_534 : kd 534 = 13 := by decide +kernel
theorem ln_534 : ln 534 = 8 := by decide +kernel
theorem kd_535 : kd 535 = 13 := by decide +kernel
theorem ln_535 : ln 535 = 4 := by decide +kernel
theorem kd_565 : kd 565 = 12 := by decide +kernel
theorem kd_566 : kd 566 = 14 := by decide +kernel
theorem ln_566 : ln 566 = 240 := by decide +kernel
theorem kd_567 : kd 567 = 14 := by decide +kernel
theorem ln_567 : ln 567 = 960 := by decide +kernel
theorem kd_568 : kd 568 = 13 := by decide +kernel
theorem ln_568 : ln 568 = 4 := by decide +kernel
theorem kd_569 : kd 569 = 13 := by decide +kernel
theorem ln_569 : ln 569 = 128 := by decide +kernel
theorem kd_570 : kd 570 = 13 := by decide +kernel
theorem ln_570 : ln 570 = 4 := by decide +kernel
theorem kd_571 : kd 571 = 13 := by decide +kernel
theorem ln_571 : ln 571 = 4 := by decide +kernel
theorem kd_572 : kd 572 = 13 := by decide +kernel
theorem ln_572 : ln 572 = 24 := by decide +kernel
theorem kd_573 : kd 573 = 13 := by decide +kernel
theorem ln_573 : ln 573 = 24 := by decide +kernel
theorem kd_574 : kd 574 = 13 := by decide +kernel
theorem ln_574 : ln 574 = 24 := by decide +kernel
theorem kd_575 : kd 575 = 13 := by decide +kernel
theorem ln_575 : ln 575 = 24 := by decide +kernel
theorem kd_576 : kd 576 = 13 := by decide +kernel
theorem ln_576 : ln 576 = 240 := by decide +kernel
theorem kd_577 : kd 577 = 13 := by decide +kernel
theorem ln_577 : ln 577 = 5 := by decide +kernel
theorem kd_578 : kd 578 = 13 := by decide +kernel
theorem ln_578 : ln 578 = 312 := by decide +kernel
theorem kd_579 : kd 579 = 13 := by decide +kernel
theorem ln_579 : ln 579 = 131 := by decide +kernel
theorem kd_580 : kd 580 = 13 := by decide +kernel
theorem ln_580 : ln 580 = 6 := by decide +kernel
theorem kd_581 : kd 581 = 16 := by decide +kernel
theorem ln_581 : ln 581 = 8191 := by decide +kernel
theorem kd_582 : kd 582 = 13 := by decide +kernel
theorem ln_582 : ln 582 = 8191 := by decide +kernel
theorem kd_583 : kd 583 = 13 := by decide +kernel
theorem ln_583 : ln 583 = 12480 := by decide +kernel
theorem kd_584 : kd 584 = 13 := by decide +kernel
theorem ln_584 : ln 584 = 4 := by decide +kernel
theorem kd_585 : kd 585 = 13 := by decide +kernel
theorem ln_585 : ln 585 = 30 := by decide +kernel
theorem kd_586 : kd 586 = 13 := by decide +kernel
theorem ln_586 : ln 586 = 610 := by decide +kernel
theorem kd_587 : kd 587 = 15 := by decide +kernel
theorem ln_587 : ln 587 = 10 := by decide +kernel
theorem kd_588 : kd 588 = 13 := by decide +kernel
theorem ln_588 : ln 588 = 917 := by decide +kernel
theorem kd_589 : kd 589 = 13 := by decide +kernel
theorem ln_589 : ln 589 = 312 := by decide +kernel
theorem lk1_0 {o : Nat} (h : kd o = 2) : kd (o + 1) = 13 ∧ ln (o + 1) = 4 := (show ∀ o, o < 591 → kd o = 2 → kd (o + 1) = 13 ∧ ln (o + 1) = 4 by decide +kernel) o (kd_lt (by omega)) h
theorem lk1_1 {o : Nat} (h : kd o = 2) : kd (o + 2) = 13 ∧ ln (o + 2) = 24 := (show ∀ o, o < 591 → kd o = 2 → kd (o + 2) = 13 ∧ ln (o + 2) = 24 by decide +kernel) o (kd_lt (by omega)) h
theorem lk1_2 {o : Nat} (h : kd o = 2) : kd (o + 3) = 13 ∧ ln (o + 3) = 24 := (show ∀ o, o < 591 → kd o = 2 → kd (o + 3) = 13 ∧ ln (o + 3) = 24 by decide +kernel) o (kd_lt (by omega)) h
theorem lk2_0 {o : Nat} (h : kd o = 3) : kd (o + 1) = 13 ∧ ln (o + 1) = 48 := (show ∀ o, o < 591 → kd o = 3 → kd (o + 1) = 13 ∧ ln (o + 1) = 48 by decide +kernel) o (kd_lt (by omega)) h
theorem lk5_0 {o : Nat} (h : kd o = 6) : kd (o + 1) = 13 ∧ ln (o + 1) = 240 := (show ∀ o, o < 591 → kd o = 6 → kd (o + 1) = 13 ∧ ln (o + 1) = 240 by decide +kernel) o (kd_lt (by omega)) h
theorem lk5_1 {o : Nat} (h : kd o = 6) : kd (o + 2) = 13 ∧ ln (o + 2) = 32 := (show ∀ o, o < 591 → kd o = 6 → kd (o + 2) = 13 ∧ ln (o + 2) = 32 by decide +kernel) o (kd_lt (by omega)) h
theorem lk7_0 {o : Nat} (h : kd o = 8) : kd (o + 1) = 13 ∧ ln (o + 1) = 8 := (show ∀ o, o < 591 → kd o = 8 → kd (o + 1) = 13 ∧ ln (o + 1) = 8 by decide +kernel) o (kd_lt (by omega)) h
theorem lk7_1 {o : Nat} (h : kd o = 8) : kd (o + 2) = 13 ∧ ln (o + 2) = 8 := (show ∀ o, o < 591 → kd o = 8 → kd (o + 2) = 13 ∧ ln (o + 2) = 8 by decide +kernel) o (kd_lt (by omega)) h
theorem lk7_2 {o : Nat} (h : kd o = 8) : kd (o + 3) = 13 ∧ ln (o + 3) = 8 := (show ∀ o, o < 591 → kd o = 8 → kd (o + 3) = 13 ∧ ln (o + 3) = 8 by decide +kernel) o (kd_lt (by omega)) h
theorem lk7_3 {o : Nat} (h : kd o = 8) : kd (o + 4) = 13 ∧ ln (o + 4) = 8 := (show ∀ o, o < 591 → kd o = 8 → kd (o + 4) = 13 ∧ ln (o + 4) = 8 by decide +kernel) o (kd_lt (by omega)) h
theorem lk7_4 {o : Nat} (h : kd o = 8) : kd (o + 5) = 13 ∧ ln (o + 5) = 6 := (show ∀ o, o < 591 → kd o = 8 → kd (o + 5) = 13 ∧ ln (o + 5) = 6 by decide +kernel) o (kd_lt (by omega)) h
theorem lk7_5 {o : Nat} (h : kd o = 8) : kd (o + 6) = 13 ∧ ln (o + 6) = 6 := (show ∀ o, o < 591 → kd o = 8 → kd (o + 6) = 13 ∧ ln (o + 6) = 6 by decide +kernel) o (kd_lt (by omega)) h
theorem lk7_6 {o : Nat} (h : kd o = 8) : kd (o + 7) = 13 ∧ ln (o + 7) = 6 := (show ∀ o, o < 591 → kd o = 8 → kd (o + 7) = 13 ∧ ln (o + 7) = 6 by decide +kernel) o (kd_lt (by omega)) h
theorem lk7_7 {o : Nat} (h : kd o = 8) : kd (o + 8) = 13 ∧ ln (o + 8) = 96 := (show ∀ o, o < 591 → kd o = 8 → kd (o + 8) = 13 ∧ ln (o + 8) = 96 by decide +kernel) o (kd_lt (by omega)) h
theorem lk7_8 {o : Nat} (h : kd o = 8) : kd (o + 9) = 13 ∧ ln (o + 9) = 180 := (show ∀ o, o < 591 → kd o = 8 → kd (o + 9) = 13 ∧ ln (o + 9) = 180 by decide +kernel) o (kd_lt (by omega)) h
theorem ra_3 {j : Nat} (h : j < 5) : kd (ra 3 j) = 6 := (show ∀ j, j < 5 → kd (ra 3 j) = 6 by decide +kernel) j h
theorem ra_4 {j : Nat} (h : j < 5) : kd (ra 4 j) = 3 := (show ∀ j, j < 5 → kd (ra 4 j) = 3 by decide +kernel) j h
theorem ra_27 {j : Nat} (h : j < 40) : kd (ra 27 j) = 8 := (show ∀ j, j < 40 → kd (ra 27 j) = 8 by decide +kernel) j h
theorem ra_445 {j : Nat} (h : j < 7) : kd (ra 445 j) = 8 := (show ∀ j, j < 7 → kd (ra 445 j) = 8 by decide +kernel) j h
theorem cst_RJ6_265 : Cond.constant RJ6 265 (1431655765 : Int32) ∈ ALL := allT5 45 (by decide +kernel) rfl
theorem cst_RJ6_266 : Cond.constant RJ6 266 (858993459 : Int32) ∈ ALL := allT5 46 (by decide +kernel) rfl
theorem cst_RJ6_267 : Cond.constant RJ6 267 (252645135 : Int32) ∈ ALL := allT5 47 (by decide +kernel) rfl
theorem cst_RX10_155 : Cond.constant RX10 155 (-1000000 : Int32) ∈ ALL := allT3 121 (by decide +kernel) rfl
theorem cst_RX10_295 : Cond.constantLong RX10 295 (6364136223846793005 : Int64) ∈ ALL := allT4 128 (by decide +kernel) rfl
theorem cst_RX10_297 : Cond.constantLong RX10 297 (1442695040888963407 : Int64) ∈ ALL := allT4 129 (by decide +kernel) rfl
theorem cst_RX10_404 : Cond.constant RX10 404 (1000000000 : Int32) ∈ ALL := allT5 100 (by decide +kernel) rfl
theorem cst_RX11_157 : Cond.constantLong RX11 157 (-1000000 : Int64) ∈ ALL := allT7 107 (by decide +kernel) rfl
theorem cst_RX11_159 : Cond.constantLong RX11 159 (1000000 : Int64) ∈ ALL := allT7 108 (by decide +kernel) rfl
theorem cst_RX11_288 : Cond.constantLong RX11 288 (2 : Int64) ∈ ALL := allT6 195 (by decide +kernel) rfl
theorem cst_RX11_335 : Cond.constantLong RX11 335 (100 : Int64) ∈ ALL := allT7 195 (by decide +kernel) rfl
theorem cst_RX11_337 : Cond.constantLong RX11 337 (10 : Int64) ∈ ALL := allT7 196 (by decide +kernel) rfl
theorem cst_RX11_339 : Cond.constantLong RX11 339 (1000 : Int64) ∈ ALL := allT7 197 (by decide +kernel) rfl
theorem cst_RX11_341 : Cond.constantLong RX11 341 (4 : Int64) ∈ ALL := allT7 198 (by decide +kernel) rfl
theorem cst_RX11_343 : Cond.constantLong RX11 343 (24 : Int64) ∈ ALL := allT7 199 (by decide +kernel) rfl
theorem cst_RX11_345 : Cond.constantLong RX11 345 (8191 : Int64) ∈ ALL := allT7 200 (by decide +kernel) rfl
theorem cst_RX11_409 : Cond.constantLong RX11 409 (5 : Int64) ∈ ALL := allT7 152 (by decide +kernel) rfl
theorem cst_RX11_411 : Cond.constant RX11 411 (-1000000 : Int32) ∈ ALL := allT7 153 (by decide +kernel) rfl
theorem cst_RX11_415 : Cond.constantLong RX11 415 (6 : Int64) ∈ ALL := allT7 162 (by decide +kernel) rfl
theorem cst_RX11_420 : Cond.constantLong RX11 420 (9 : Int64) ∈ ALL := allT7 214 (by decide +kernel) rfl
theorem cst_RX11_442 : Cond.constantLong RX11 442 (3 : Int64) ∈ ALL := allT8 65 (by decide +kernel) rfl
theorem cst_RX11_444 : Cond.constantLong RX11 444 (8 : Int64) ∈ ALL := allT8 70 (by decide +kernel) rfl
theorem cst_RX11_446 : Cond.constantLong RX11 446 (50 : Int64) ∈ ALL := allT8 75 (by decide +kernel) rfl
theorem cst_RX11_452 : Cond.constantLong RX11 452 (6364136223846793005 : Int64) ∈ ALL := allT8 85 (by decide +kernel) rfl
theorem cst_RX11_454 : Cond.constantLong RX11 454 (1442695040888963407 : Int64) ∈ ALL := allT8 86 (by decide +kernel) rfl
theorem cst_RX11_456 : Cond.constantLong RX11 456 (30 : Int64) ∈ ALL := allT8 80 (by decide +kernel) rfl
theorem cst_RX11_474 : Cond.constantLong RX11 474 (60 : Int64) ∈ ALL := allT8 129 (by decide +kernel) rfl
theorem cst_RX11_495 : Cond.constantLong RX11 495 (999 : Int64) ∈ ALL := allT8 166 (by decide +kernel) rfl
theorem cst_RX11_511 : Cond.constant RX11 511 (1000000000 : Int32) ∈ ALL := allT8 199 (by decide +kernel) rfl
theorem cst_RX5_91 : Cond.constantLong RX5 91 (1000000 : Int64) ∈ ALL := allT3 152 (by decide +kernel) rfl
theorem cst_RX5_93 : Cond.constant RX5 93 (1000000 : Int32) ∈ ALL := allT3 153 (by decide +kernel) rfl
theorem cst_RX5_94 : Cond.constantLong RX5 94 (-1000000 : Int64) ∈ ALL := allT3 154 (by decide +kernel) rfl
theorem cst_RX5_96 : Cond.constant RX5 96 (-1000000 : Int32) ∈ ALL := allT3 155 (by decide +kernel) rfl
theorem cst_RX6_59 : Cond.constantLong RX6 59 (100 : Int64) ∈ ALL := allT5 106 (by decide +kernel) rfl
theorem fl_RX0_15 : Fl RX0 15 0 1 := ⟨by decide, by decide, allT2 45 (by decide +kernel) rfl⟩
theorem fl_RX0_18 : Fl RX0 18 0 2 := ⟨by decide, by decide, allT2 46 (by decide +kernel) rfl⟩
theorem fl_RX0_21 : Fl RX0 21 0 3 := ⟨by decide, by decide, allT2 47 (by decide +kernel) rfl⟩
theorem fl_RX0_24 : Fl RX0 24 0 4 := ⟨by decide, by decide, allT2 48 (by decide +kernel) rfl⟩
theorem fl_RX0_28 : Fl RX0 28 0 5 := ⟨by decide, by decide, allT2 50 (by decide +kernel) rfl⟩
theorem fl_RX0_31 : Fl RX0 31 0 6 := ⟨by decide, by decide, allT2 52 (by decide +kernel) rfl⟩
theorem fl_RX0_34 : Fl RX0 34 0 7 := ⟨by decide, by decide, allT2 53 (by decide +kernel) rfl⟩
theorem fl_RX0_37 : Fl RX0 37 9 1 := ⟨by decide, by decide, allT1 214 (by decide +kernel) rfl⟩
theorem fl_RX0_43 : Fl RX0 43 1 3 := ⟨by decide, by decide, allT1 191 (by decide +kernel) rfl⟩
theorem fl_RX0_52 : Fl RX0 52 7 0 := ⟨by decide, by decide, allT1 71 (by decide +kernel) rfl⟩
theorem fl_RX0_61 : Fl RX0 61 7 3 := ⟨by decide, by decide, allT1 82 (by decide +kernel) rfl⟩
theorem fl_RX0_9 : Fl RX0 9 0 0 := ⟨by decide, by decide, allT2 44 (by decide +kernel) rfl⟩
theorem fl_RX10_10 : Fl RX10 10 10 0 := ⟨by decide, by decide, allT2 101 (by decide +kernel) rfl⟩
theorem fl_RX10_101 : Fl RX10 101 10 17 := ⟨by decide, by decide, allT2 118 (by decide +kernel) rfl⟩
theorem fl_RX10_111 : Fl RX10 111 8 1 := ⟨by decide, by decide, allT1 41 (by decide +kernel) rfl⟩
theorem fl_RX10_137 : Fl RX10 137 9 1 := ⟨by decide, by decide, allT1 216 (by decide +kernel) rfl⟩
theorem fl_RX10_148 : Fl RX10 148 1 3 := ⟨by decide, by decide, allT1 193 (by decide +kernel) rfl⟩
theorem fl_RX10_159 : Fl RX10 159 7 3 := ⟨by decide, by decide, allT1 85 (by decide +kernel) rfl⟩
theorem fl_RX10_165 : Fl RX10 165 7 0 := ⟨by decide, by decide, allT1 73 (by decide +kernel) rfl⟩
theorem fl_RX10_168 : Fl RX10 168 7 1 := ⟨by decide, by decide, allT1 76 (by decide +kernel) rfl⟩
theorem fl_RX10_171 : Fl RX10 171 7 2 := ⟨by decide, by decide, allT1 79 (by decide +kernel) rfl⟩
theorem fl_RX10_18 : Fl RX10 18 10 1 := ⟨by decide, by decide, allT2 102 (by decide +kernel) rfl⟩
theorem fl_RX10_180 : Fl RX10 180 7 5 := ⟨by decide, by decide, allT1 91 (by decide +kernel) rfl⟩
theorem fl_RX10_183 : Fl RX10 183 7 6 := ⟨by decide, by decide, allT1 95 (by decide +kernel) rfl⟩
theorem fl_RX10_192 : Fl RX10 192 7 4 := ⟨by decide, by decide, allT1 88 (by decide +kernel) rfl⟩
theorem fl_RX10_209 : Fl RX10 209 7 7 := ⟨by decide, by decide, allT1 97 (by decide +kernel) rfl⟩
theorem fl_RX10_212 : Fl RX10 212 9 2 := ⟨by decide, by decide, allT1 218 (by decide +kernel) rfl⟩
theorem fl_RX10_24 : Fl RX10 24 10 2 := ⟨by decide, by decide, allT2 103 (by decide +kernel) rfl⟩
theorem fl_RX10_262 : Fl RX10 262 7 12 := ⟨by decide, by decide, allT1 112 (by decide +kernel) rfl⟩
theorem fl_RX10_272 : Fl RX10 272 7 11 := ⟨by decide, by decide, allT1 108 (by decide +kernel) rfl⟩
theorem fl_RX10_278 : Fl RX10 278 7 14 := ⟨by decide, by decide, allT1 120 (by decide +kernel) rfl⟩
theorem fl_RX10_28 : Fl RX10 28 10 3 := ⟨by decide, by decide, allT2 104 (by decide +kernel) rfl⟩
theorem fl_RX10_287 : Fl RX10 287 1 4 := ⟨by decide, by decide, allT1 197 (by decide +kernel) rfl⟩
theorem fl_RX10_299 : Fl RX10 299 4 2 := ⟨by decide, by decide, allT1 164 (by decide +kernel) rfl⟩
theorem fl_RX10_305 : Fl RX10 305 7 10 := ⟨by decide, by decide, allT1 104 (by decide +kernel) rfl⟩
theorem fl_RX10_308 : Fl RX10 308 7 8 := ⟨by decide, by decide, allT1 99 (by decide +kernel) rfl⟩
theorem fl_RX10_311 : Fl RX10 311 2 1 := ⟨by decide, by decide, allT2 95 (by decide +kernel) rfl⟩
theorem fl_RX10_334 : Fl RX10 334 7 13 := ⟨by decide, by decide, allT1 117 (by decide +kernel) rfl⟩
theorem fl_RX10_341 : Fl RX10 341 0 4 := ⟨by decide, by decide, allT2 49 (by decide +kernel) rfl⟩
theorem fl_RX10_344 : Fl RX10 344 0 5 := ⟨by decide, by decide, allT2 51 (by decide +kernel) rfl⟩
theorem fl_RX10_35 : Fl RX10 35 10 4 := ⟨by decide, by decide, allT2 105 (by decide +kernel) rfl⟩
theorem fl_RX10_351 : Fl RX10 351 6 2 := ⟨by decide, by decide, allT1 237 (by decide +kernel) rfl⟩
theorem fl_RX10_354 : Fl RX10 354 6 3 := ⟨by decide, by decide, allT1 239 (by decide +kernel) rfl⟩
theorem fl_RX10_360 : Fl RX10 360 3 5 := ⟨by decide, by decide, allT2 23 (by decide +kernel) rfl⟩
theorem fl_RX10_39 : Fl RX10 39 10 5 := ⟨by decide, by decide, allT2 106 (by decide +kernel) rfl⟩
theorem fl_RX10_434 : Fl RX10 434 7 9 := ⟨by decide, by decide, allT1 102 (by decide +kernel) rfl⟩
theorem fl_RX10_45 : Fl RX10 45 10 6 := ⟨by decide, by decide, allT2 107 (by decide +kernel) rfl⟩
theorem fl_RX10_52 : Fl RX10 52 10 7 := ⟨by decide, by decide, allT2 108 (by decide +kernel) rfl⟩
theorem fl_RX10_59 : Fl RX10 59 10 8 := ⟨by decide, by decide, allT2 109 (by decide +kernel) rfl⟩
theorem fl_RX10_66 : Fl RX10 66 10 9 := ⟨by decide, by decide, allT2 110 (by decide +kernel) rfl⟩
theorem fl_RX10_73 : Fl RX10 73 10 10 := ⟨by decide, by decide, allT2 111 (by decide +kernel) rfl⟩
theorem fl_RX10_80 : Fl RX10 80 10 11 := ⟨by decide, by decide, allT2 112 (by decide +kernel) rfl⟩
theorem fl_RX10_84 : Fl RX10 84 10 12 := ⟨by decide, by decide, allT2 113 (by decide +kernel) rfl⟩
theorem fl_RX10_88 : Fl RX10 88 10 13 := ⟨by decide, by decide, allT2 114 (by decide +kernel) rfl⟩
theorem fl_RX10_91 : Fl RX10 91 10 14 := ⟨by decide, by decide, allT2 115 (by decide +kernel) rfl⟩
theorem fl_RX10_94 : Fl RX10 94 10 15 := ⟨by decide, by decide, allT2 116 (by decide +kernel) rfl⟩
theorem fl_RX10_97 : Fl RX10 97 10 16 := ⟨by decide, by decide, allT2 117 (by decide +kernel) rfl⟩
theorem fl_RX11_102 : Fl RX11 102 11 53 := ⟨by decide, by decide, allT6 51 (by decide +kernel) rfl⟩
theorem fl_RX11_106 : Fl RX11 106 11 54 := ⟨by decide, by decide, allT6 52 (by decide +kernel) rfl⟩
theorem fl_RX11_109 : Fl RX11 109 11 55 := ⟨by decide, by decide, allT6 53 (by decide +kernel) rfl⟩
theorem fl_RX11_112 : Fl RX11 112 11 0 := ⟨by decide, by decide, allT5 238 (by decide +kernel) rfl⟩
theorem fl_RX11_125 : Fl RX11 125 11 6 := ⟨by decide, by decide, allT6 4 (by decide +kernel) rfl⟩
theorem fl_RX11_13 : Fl RX11 13 11 2 := ⟨by decide, by decide, allT6 0 (by decide +kernel) rfl⟩
theorem fl_RX11_135 : Fl RX11 135 11 10 := ⟨by decide, by decide, allT6 8 (by decide +kernel) rfl⟩
theorem fl_RX11_138 : Fl RX11 138 11 9 := ⟨by decide, by decide, allT6 7 (by decide +kernel) rfl⟩
theorem fl_RX11_141 : Fl RX11 141 11 8 := ⟨by decide, by decide, allT6 6 (by decide +kernel) rfl⟩
theorem fl_RX11_144 : Fl RX11 144 11 11 := ⟨by decide, by decide, allT6 9 (by decide +kernel) rfl⟩
theorem fl_RX11_147 : Fl RX11 147 11 12 := ⟨by decide, by decide, allT6 10 (by decide +kernel) rfl⟩
theorem fl_RX11_16 : Fl RX11 16 11 3 := ⟨by decide, by decide, allT6 1 (by decide +kernel) rfl⟩
theorem fl_RX11_20 : Fl RX11 20 11 4 := ⟨by decide, by decide, allT6 2 (by decide +kernel) rfl⟩
theorem fl_RX11_213 : Fl RX11 213 11 17 := ⟨by decide, by decide, allT6 15 (by decide +kernel) rfl⟩
theorem fl_RX11_217 : Fl RX11 217 11 13 := ⟨by decide, by decide, allT6 11 (by decide +kernel) rfl⟩
theorem fl_RX11_220 : Fl RX11 220 11 14 := ⟨by decide, by decide, allT6 12 (by decide +kernel) rfl⟩
theorem fl_RX11_23 : Fl RX11 23 11 5 := ⟨by decide, by decide, allT6 3 (by decide +kernel) rfl⟩
theorem fl_RX11_258 : Fl RX11 258 11 31 := ⟨by decide, by decide, allT6 29 (by decide +kernel) rfl⟩
theorem fl_RX11_261 : Fl RX11 261 11 28 := ⟨by decide, by decide, allT6 26 (by decide +kernel) rfl⟩
theorem fl_RX11_264 : Fl RX11 264 11 29 := ⟨by decide, by decide, allT6 27 (by decide +kernel) rfl⟩
theorem fl_RX11_299 : Fl RX11 299 11 7 := ⟨by decide, by decide, allT6 5 (by decide +kernel) rfl⟩
theorem fl_RX11_302 : Fl RX11 302 11 30 := ⟨by decide, by decide, allT6 28 (by decide +kernel) rfl⟩
theorem fl_RX11_307 : Fl RX11 307 11 26 := ⟨by decide, by decide, allT6 24 (by decide +kernel) rfl⟩
theorem fl_RX11_310 : Fl RX11 310 11 27 := ⟨by decide, by decide, allT6 25 (by decide +kernel) rfl⟩
theorem fl_RX11_317 : Fl RX11 317 11 51 := ⟨by decide, by decide, allT6 49 (by decide +kernel) rfl⟩
theorem fl_RX11_320 : Fl RX11 320 11 44 := ⟨by decide, by decide, allT6 42 (by decide +kernel) rfl⟩
theorem fl_RX11_323 : Fl RX11 323 11 56 := ⟨by decide, by decide, allT6 54 (by decide +kernel) rfl⟩
theorem fl_RX11_329 : Fl RX11 329 11 40 := ⟨by decide, by decide, allT6 38 (by decide +kernel) rfl⟩
theorem fl_RX11_332 : Fl RX11 332 11 42 := ⟨by decide, by decide, allT6 40 (by decide +kernel) rfl⟩
theorem fl_RX11_37 : Fl RX11 37 11 18 := ⟨by decide, by decide, allT6 16 (by decide +kernel) rfl⟩
theorem fl_RX11_40 : Fl RX11 40 11 19 := ⟨by decide, by decide, allT6 17 (by decide +kernel) rfl⟩
theorem fl_RX11_43 : Fl RX11 43 11 20 := ⟨by decide, by decide, allT6 18 (by decide +kernel) rfl⟩
theorem fl_RX11_448 : Fl RX11 448 11 45 := ⟨by decide, by decide, allT6 43 (by decide +kernel) rfl⟩
theorem fl_RX11_46 : Fl RX11 46 11 21 := ⟨by decide, by decide, allT6 19 (by decide +kernel) rfl⟩
theorem fl_RX11_479 : Fl RX11 479 11 47 := ⟨by decide, by decide, allT6 45 (by decide +kernel) rfl⟩
theorem fl_RX11_482 : Fl RX11 482 11 49 := ⟨by decide, by decide, allT6 47 (by decide +kernel) rfl⟩
theorem fl_RX11_485 : Fl RX11 485 11 48 := ⟨by decide, by decide, allT6 46 (by decide +kernel) rfl⟩
theorem fl_RX11_49 : Fl RX11 49 11 22 := ⟨by decide, by decide, allT6 20 (by decide +kernel) rfl⟩
theorem fl_RX11_52 : Fl RX11 52 11 23 := ⟨by decide, by decide, allT6 21 (by decide +kernel) rfl⟩
theorem fl_RX11_55 : Fl RX11 55 11 24 := ⟨by decide, by decide, allT6 22 (by decide +kernel) rfl⟩
theorem fl_RX11_58 : Fl RX11 58 11 25 := ⟨by decide, by decide, allT6 23 (by decide +kernel) rfl⟩
theorem fl_RX11_61 : Fl RX11 61 11 32 := ⟨by decide, by decide, allT6 30 (by decide +kernel) rfl⟩
theorem fl_RX11_64 : Fl RX11 64 11 33 := ⟨by decide, by decide, allT6 31 (by decide +kernel) rfl⟩
theorem fl_RX11_67 : Fl RX11 67 11 34 := ⟨by decide, by decide, allT6 32 (by decide +kernel) rfl⟩
theorem fl_RX11_70 : Fl RX11 70 11 35 := ⟨by decide, by decide, allT6 33 (by decide +kernel) rfl⟩
theorem fl_RX11_74 : Fl RX11 74 11 36 := ⟨by decide, by decide, allT6 34 (by decide +kernel) rfl⟩
theorem fl_RX11_77 : Fl RX11 77 11 37 := ⟨by decide, by decide, allT6 35 (by decide +kernel) rfl⟩
theorem fl_RX11_81 : Fl RX11 81 11 38 := ⟨by decide, by decide, allT6 36 (by decide +kernel) rfl⟩
theorem fl_RX11_84 : Fl RX11 84 11 39 := ⟨by decide, by decide, allT6 37 (by decide +kernel) rfl⟩
theorem fl_RX11_87 : Fl RX11 87 11 41 := ⟨by decide, by decide, allT6 39 (by decide +kernel) rfl⟩
theorem fl_RX11_9 : Fl RX11 9 11 1 := ⟨by decide, by decide, allT5 239 (by decide +kernel) rfl⟩
theorem fl_RX11_90 : Fl RX11 90 11 43 := ⟨by decide, by decide, allT6 41 (by decide +kernel) rfl⟩
theorem fl_RX11_93 : Fl RX11 93 11 46 := ⟨by decide, by decide, allT6 44 (by decide +kernel) rfl⟩
theorem fl_RX11_96 : Fl RX11 96 11 50 := ⟨by decide, by decide, allT6 48 (by decide +kernel) rfl⟩
theorem fl_RX11_99 : Fl RX11 99 11 52 := ⟨by decide, by decide, allT6 50 (by decide +kernel) rfl⟩
theorem fl_RX1_11 : Fl RX1 11 1 0 := ⟨by decide, by decide, allT1 186 (by decide +kernel) rfl⟩
theorem fl_RX1_15 : Fl RX1 15 1 1 := ⟨by decide, by decide, allT1 187 (by decide +kernel) rfl⟩
theorem fl_RX1_18 : Fl RX1 18 1 2 := ⟨by decide, by decide, allT1 188 (by decide +kernel) rfl⟩
theorem fl_RX1_21 : Fl RX1 21 1 3 := ⟨by decide, by decide, allT1 189 (by decide +kernel) rfl⟩
theorem fl_RX1_25 : Fl RX1 25 1 4 := ⟨by decide, by decide, allT1 194 (by decide +kernel) rfl⟩
theorem fl_RX1_28 : Fl RX1 28 1 5 := ⟨by decide, by decide, allT1 198 (by decide +kernel) rfl⟩
theorem fl_RX1_41 : Fl RX1 41 8 2 := ⟨by decide, by decide, allT1 45 (by decide +kernel) rfl⟩
theorem fl_RX1_76 : Fl RX1 76 8 3 := ⟨by decide, by decide, allT1 48 (by decide +kernel) rfl⟩
theorem fl_RX2_11 : Fl RX2 11 2 0 := ⟨by decide, by decide, allT2 93 (by decide +kernel) rfl⟩
theorem fl_RX2_15 : Fl RX2 15 2 1 := ⟨by decide, by decide, allT2 94 (by decide +kernel) rfl⟩
theorem fl_RX2_19 : Fl RX2 19 8 2 := ⟨by decide, by decide, allT1 44 (by decide +kernel) rfl⟩
theorem fl_RX2_47 : Fl RX2 47 8 3 := ⟨by decide, by decide, allT1 47 (by decide +kernel) rfl⟩
theorem fl_RX3_12 : Fl RX3 12 3 0 := ⟨by decide, by decide, allT2 17 (by decide +kernel) rfl⟩
theorem fl_RX3_18 : Fl RX3 18 3 1 := ⟨by decide, by decide, allT2 18 (by decide +kernel) rfl⟩
theorem fl_RX3_22 : Fl RX3 22 3 2 := ⟨by decide, by decide, allT2 19 (by decide +kernel) rfl⟩
theorem fl_RX3_25 : Fl RX3 25 3 3 := ⟨by decide, by decide, allT2 20 (by decide +kernel) rfl⟩
theorem fl_RX3_29 : Fl RX3 29 3 4 := ⟨by decide, by decide, allT2 21 (by decide +kernel) rfl⟩
theorem fl_RX3_32 : Fl RX3 32 3 5 := ⟨by decide, by decide, allT2 22 (by decide +kernel) rfl⟩
theorem fl_RX3_42 : Fl RX3 42 9 1 := ⟨by decide, by decide, allT1 215 (by decide +kernel) rfl⟩
theorem fl_RX3_52 : Fl RX3 52 7 6 := ⟨by decide, by decide, allT1 94 (by decide +kernel) rfl⟩
theorem fl_RX3_59 : Fl RX3 59 7 13 := ⟨by decide, by decide, allT1 115 (by decide +kernel) rfl⟩
theorem fl_RX4_11 : Fl RX4 11 4 0 := ⟨by decide, by decide, allT1 161 (by decide +kernel) rfl⟩
theorem fl_RX4_17 : Fl RX4 17 4 1 := ⟨by decide, by decide, allT1 162 (by decide +kernel) rfl⟩
theorem fl_RX4_21 : Fl RX4 21 4 2 := ⟨by decide, by decide, allT1 163 (by decide +kernel) rfl⟩
theorem fl_RX5_15 : Fl RX5 15 5 1 := ⟨by decide, by decide, allT2 79 (by decide +kernel) rfl⟩
theorem fl_RX5_18 : Fl RX5 18 5 2 := ⟨by decide, by decide, allT2 80 (by decide +kernel) rfl⟩
theorem fl_RX5_22 : Fl RX5 22 8 2 := ⟨by decide, by decide, allT1 43 (by decide +kernel) rfl⟩
theorem fl_RX5_84 : Fl RX5 84 8 3 := ⟨by decide, by decide, allT1 49 (by decide +kernel) rfl⟩
theorem fl_RX5_9 : Fl RX5 9 5 0 := ⟨by decide, by decide, allT2 78 (by decide +kernel) rfl⟩
theorem fl_RX6_12 : Fl RX6 12 6 0 := ⟨by decide, by decide, allT1 234 (by decide +kernel) rfl⟩
theorem fl_RX6_18 : Fl RX6 18 6 1 := ⟨by decide, by decide, allT1 235 (by decide +kernel) rfl⟩
theorem fl_RX6_22 : Fl RX6 22 6 2 := ⟨by decide, by decide, allT1 236 (by decide +kernel) rfl⟩
theorem fl_RX6_26 : Fl RX6 26 6 3 := ⟨by decide, by decide, allT1 238 (by decide +kernel) rfl⟩
theorem fl_RX6_38 : Fl RX6 38 7 11 := ⟨by decide, by decide, allT1 106 (by decide +kernel) rfl⟩
theorem fl_RX6_41 : Fl RX6 41 7 13 := ⟨by decide, by decide, allT1 114 (by decide +kernel) rfl⟩
theorem fl_RX6_48 : Fl RX6 48 7 3 := ⟨by decide, by decide, allT1 84 (by decide +kernel) rfl⟩
theorem fl_RX6_52 : Fl RX6 52 7 1 := ⟨by decide, by decide, allT1 75 (by decide +kernel) rfl⟩
theorem fl_RX6_61 : Fl RX6 61 7 12 := ⟨by decide, by decide, allT1 111 (by decide +kernel) rfl⟩
theorem fl_RX7_15 : Fl RX7 15 7 1 := ⟨by decide, by decide, allT1 74 (by decide +kernel) rfl⟩
theorem fl_RX7_18 : Fl RX7 18 7 2 := ⟨by decide, by decide, allT1 78 (by decide +kernel) rfl⟩
theorem fl_RX7_21 : Fl RX7 21 7 3 := ⟨by decide, by decide, allT1 81 (by decide +kernel) rfl⟩
theorem fl_RX7_24 : Fl RX7 24 7 4 := ⟨by decide, by decide, allT1 86 (by decide +kernel) rfl⟩
theorem fl_RX7_27 : Fl RX7 27 7 5 := ⟨by decide, by decide, allT1 89 (by decide +kernel) rfl⟩
theorem fl_RX7_30 : Fl RX7 30 7 6 := ⟨by decide, by decide, allT1 92 (by decide +kernel) rfl⟩
theorem fl_RX7_33 : Fl RX7 33 7 7 := ⟨by decide, by decide, allT1 96 (by decide +kernel) rfl⟩
theorem fl_RX7_36 : Fl RX7 36 7 8 := ⟨by decide, by decide, allT1 98 (by decide +kernel) rfl⟩
theorem fl_RX7_39 : Fl RX7 39 7 9 := ⟨by decide, by decide, allT1 100 (by decide +kernel) rfl⟩
theorem fl_RX7_43 : Fl RX7 43 7 10 := ⟨by decide, by decide, allT1 103 (by decide +kernel) rfl⟩
theorem fl_RX7_46 : Fl RX7 46 7 11 := ⟨by decide, by decide, allT1 105 (by decide +kernel) rfl⟩
theorem fl_RX7_49 : Fl RX7 49 7 12 := ⟨by decide, by decide, allT1 109 (by decide +kernel) rfl⟩
theorem fl_RX7_52 : Fl RX7 52 7 13 := ⟨by decide, by decide, allT1 113 (by decide +kernel) rfl⟩
theorem fl_RX7_55 : Fl RX7 55 7 14 := ⟨by decide, by decide, allT1 118 (by decide +kernel) rfl⟩
theorem fl_RX7_64 : Fl RX7 64 1 3 := ⟨by decide, by decide, allT1 192 (by decide +kernel) rfl⟩
theorem fl_RX7_73 : Fl RX7 73 1 4 := ⟨by decide, by decide, allT1 195 (by decide +kernel) rfl⟩
theorem fl_RX7_9 : Fl RX7 9 7 0 := ⟨by decide, by decide, allT1 70 (by decide +kernel) rfl⟩
theorem fl_RX8_15 : Fl RX8 15 8 1 := ⟨by decide, by decide, allT1 40 (by decide +kernel) rfl⟩
theorem fl_RX8_19 : Fl RX8 19 8 2 := ⟨by decide, by decide, allT1 42 (by decide +kernel) rfl⟩
theorem fl_RX8_22 : Fl RX8 22 8 3 := ⟨by decide, by decide, allT1 46 (by decide +kernel) rfl⟩
theorem fl_RX8_9 : Fl RX8 9 8 0 := ⟨by decide, by decide, allT1 39 (by decide +kernel) rfl⟩
theorem fl_RX9_145 : Fl RX9 145 7 2 := ⟨by decide, by decide, allT1 80 (by decide +kernel) rfl⟩
theorem fl_RX9_15 : Fl RX9 15 9 0 := ⟨by decide, by decide, allT1 212 (by decide +kernel) rfl⟩
theorem fl_RX9_159 : Fl RX9 159 7 1 := ⟨by decide, by decide, allT1 77 (by decide +kernel) rfl⟩
theorem fl_RX9_196 : Fl RX9 196 7 13 := ⟨by decide, by decide, allT1 116 (by decide +kernel) rfl⟩
theorem fl_RX9_202 : Fl RX9 202 7 9 := ⟨by decide, by decide, allT1 101 (by decide +kernel) rfl⟩
theorem fl_RX9_24 : Fl RX9 24 9 1 := ⟨by decide, by decide, allT1 213 (by decide +kernel) rfl⟩
theorem fl_RX9_28 : Fl RX9 28 9 2 := ⟨by decide, by decide, allT1 217 (by decide +kernel) rfl⟩
theorem fl_RX9_32 : Fl RX9 32 1 3 := ⟨by decide, by decide, allT1 190 (by decide +kernel) rfl⟩
theorem fl_RX9_36 : Fl RX9 36 1 4 := ⟨by decide, by decide, allT1 196 (by decide +kernel) rfl⟩
theorem fl_RX9_39 : Fl RX9 39 7 6 := ⟨by decide, by decide, allT1 93 (by decide +kernel) rfl⟩
theorem fl_RX9_44 : Fl RX9 44 7 3 := ⟨by decide, by decide, allT1 83 (by decide +kernel) rfl⟩
theorem fl_RX9_51 : Fl RX9 51 7 5 := ⟨by decide, by decide, allT1 90 (by decide +kernel) rfl⟩
theorem fl_RX9_57 : Fl RX9 57 7 14 := ⟨by decide, by decide, allT1 119 (by decide +kernel) rfl⟩
theorem fl_RX9_76 : Fl RX9 76 7 11 := ⟨by decide, by decide, allT1 107 (by decide +kernel) rfl⟩
theorem fl_RX9_79 : Fl RX9 79 7 12 := ⟨by decide, by decide, allT1 110 (by decide +kernel) rfl⟩
theorem fl_RX9_95 : Fl RX9 95 7 0 := ⟨by decide, by decide, allT1 72 (by decide +kernel) rfl⟩
theorem fl_RX9_98 : Fl RX9 98 7 4 := ⟨by decide, by decide, allT1 87 (by decide +kernel) rfl⟩
theorem fs_RX1_32 : Cond.fieldLink RX1 32 "NearlyBought$City" "USUAL" "[I" ∈ ALL := allT2 180 (by decide +kernel) rfl
theorem fs_RX1_66 : Cond.fieldLink RX1 66 "NearlyBought$City" "LOWEST" "[I" ∈ ALL := allT2 208 (by decide +kernel) rfl
theorem fs_RX1_69 : Cond.fieldLink RX1 69 "NearlyBought$City" "HIGHEST" "[I" ∈ ALL := allT2 210 (by decide +kernel) rfl
theorem fs_RX1_79 : Cond.fieldLink RX1 79 "NearlyBought$City" "LETTERS" "[C" ∈ ALL := allT2 206 (by decide +kernel) rfl
theorem fs_RX2_36 : Cond.fieldLink RX2 36 "NearlyBought$Day" "LETTERS" "[C" ∈ ALL := allT3 57 (by decide +kernel) rfl
theorem fs_RX2_40 : Cond.fieldLink RX2 40 "NearlyBought$Day" "DIGITS" "[I" ∈ ALL := allT3 59 (by decide +kernel) rfl
theorem fs_RX5_77 : Cond.fieldLink RX5 77 "NearlyBought$Law" "LETTERS" "[C" ∈ ALL := allT3 18 (by decide +kernel) rfl
theorem lc_RX1_35 : Lc RX1 35 := ⟨allT2 182 (by decide +kernel) rfl, allT2 184 (by decide +kernel) rfl, allT2 183 (by decide +kernel) rfl, allT1 13 (by decide +kernel) rfl⟩
theorem lc_RX7_86 : Lc RX7 86 := ⟨allT3 200 (by decide +kernel) rfl, allT2 184 (by decide +kernel) rfl, allT2 183 (by decide +kernel) rfl, allT1 13 (by decide +kernel) rfl⟩
theorem lk_RX0_48 : Cond.methodLink RX0 48 yX0_lookAt ∈ ALL := allT4 212 (by decide +kernel) rfl
theorem lk_RX0_57 : Cond.methodLink RX0 57 yX0_tryOrders ∈ ALL := allT4 218 (by decide +kernel) rfl
theorem lk_RX0_64 : Cond.methodLink RX0 64 yX9_liked ∈ ALL := allT4 216 (by decide +kernel) rfl
theorem lk_RX0_68 : Cond.methodLink RX0 68 yX9_dueIfPutBack ∈ ALL := allT4 217 (by decide +kernel) rfl
theorem lk_RX0_71 : Cond.methodLink RX0 71 yX0_weigh ∈ ALL := allT4 222 (by decide +kernel) rfl
theorem lk_RX0_75 : Cond.methodLink RX0 75 yX1_priceOf ∈ ALL := allT5 73 (by decide +kernel) rfl
theorem lk_RX0_79 : Cond.methodLink RX0 79 yX0_sellerHas ∈ ALL := allT5 82 (by decide +kernel) rfl
theorem lk_RX0_83 : Cond.methodLink RX0 83 yX0_isRest ∈ ALL := allT5 91 (by decide +kernel) rfl
theorem lk_RX0_87 : Cond.methodLink RX0 87 yX0_buyerHas ∈ ALL := allT5 95 (by decide +kernel) rfl
theorem lk_RX10_107 : Cond.methodLink RX10 107 yX8_bytesIn ∈ ALL := allT2 160 (by decide +kernel) rfl
theorem lk_RX10_114 : Cond.methodLink RX10 114 yX8_add ∈ ALL := allT2 164 (by decide +kernel) rfl
theorem lk_RX10_118 : Cond.methodLink RX10 118 yX1_read ∈ ALL := allT2 176 (by decide +kernel) rfl
theorem lk_RX10_122 : Cond.methodLink RX10 122 yX5_read ∈ ALL := allT2 224 (by decide +kernel) rfl
theorem lk_RX10_123 : Cond.methodLink RX10 123 yX2_read ∈ ALL := allT3 44 (by decide +kernel) rfl
theorem lk_RX10_124 : Cond.methodLink RX10 124 yX10_fault ∈ ALL := allT3 69 (by decide +kernel) rfl
theorem lk_RX10_127 : Cond.methodLink RX10 127 yX10_settle ∈ ALL := allT3 70 (by decide +kernel) rfl
theorem lk_RX10_131 : Cond.methodLink RX10 131 yX10_keepLaw ∈ ALL := allT3 105 (by decide +kernel) rfl
theorem lk_RX10_134 : Cond.methodLink RX10 134 yX10_keepDay ∈ ALL := allT3 109 (by decide +kernel) rfl
theorem lk_RX10_140 : Cond.methodLink RX10 140 yX7_beginAs ∈ ALL := allT3 74 (by decide +kernel) rfl
theorem lk_RX10_144 : Cond.methodLink RX10 144 yX4_forget ∈ ALL := allT3 97 (by decide +kernel) rfl
theorem lk_RX10_147 : Cond.methodLink RX10 147 yX3_forget ∈ ALL := allT3 101 (by decide +kernel) rfl
theorem lk_RX10_151 : Cond.methodLink RX10 151 yX9_isThing ∈ ALL := allT3 117 (by decide +kernel) rfl
theorem lk_RX10_156 : Cond.methodLink RX10 156 yX1_priceOf ∈ ALL := allT3 122 (by decide +kernel) rfl
theorem lk_RX10_162 : Cond.methodLink RX10 162 yX1_shopOf ∈ ALL := allT3 126 (by decide +kernel) rfl
theorem lk_RX10_174 : Cond.methodLink RX10 174 yX9_isBuyer ∈ ALL := allT3 134 (by decide +kernel) rfl
theorem lk_RX10_186 : Cond.methodLink RX10 186 yX1_nerveOf ∈ ALL := allT5 125 (by decide +kernel) rfl
theorem lk_RX10_195 : Cond.methodLink RX10 195 yX7_dueOf ∈ ALL := allT5 112 (by decide +kernel) rfl
theorem lk_RX10_201 : Cond.methodLink RX10 201 yX9_liked ∈ ALL := allT3 138 (by decide +kernel) rfl
theorem lk_RX10_205 : Cond.methodLink RX10 205 yX7_billRow ∈ ALL := allT3 166 (by decide +kernel) rfl
theorem lk_RX10_216 : Cond.methodLink RX10 216 yX9_whyNotPick ∈ ALL := allT3 182 (by decide +kernel) rfl
theorem lk_RX10_219 : Cond.methodLink RX10 219 yX10_refused ∈ ALL := allT3 188 (by decide +kernel) rfl
theorem lk_RX10_222 : Cond.methodLink RX10 222 yX4_keep ∈ ALL := allT3 192 (by decide +kernel) rfl
theorem lk_RX10_226 : Cond.methodLink RX10 226 yX9_pickUp ∈ ALL := allT3 201 (by decide +kernel) rfl
theorem lk_RX10_230 : Cond.methodLink RX10 230 yX9_whyNotPutBack ∈ ALL := allT3 209 (by decide +kernel) rfl
theorem lk_RX10_234 : Cond.methodLink RX10 234 yX9_layBack ∈ ALL := allT3 213 (by decide +kernel) rfl
theorem lk_RX10_237 : Cond.methodLink RX10 237 yX9_whyNotHand ∈ ALL := allT3 237 (by decide +kernel) rfl
theorem lk_RX10_240 : Cond.methodLink RX10 240 yX9_passOn ∈ ALL := allT4 1 (by decide +kernel) rfl
theorem lk_RX10_243 : Cond.methodLink RX10 243 yX9_whyNotBuy ∈ ALL := allT4 9 (by decide +kernel) rfl
theorem lk_RX10_246 : Cond.methodLink RX10 246 yX9_purchase ∈ ALL := allT4 14 (by decide +kernel) rfl
theorem lk_RX10_249 : Cond.methodLink RX10 249 yX9_whyNotHour ∈ ALL := allT4 30 (by decide +kernel) rfl
theorem lk_RX10_253 : Cond.methodLink RX10 253 yX9_passHour ∈ ALL := allT4 38 (by decide +kernel) rfl
theorem lk_RX10_256 : Cond.methodLink RX10 256 yX7_holders ∈ ALL := allT4 90 (by decide +kernel) rfl
theorem lk_RX10_259 : Cond.methodLink RX10 259 yX10_whyNotClerk ∈ ALL := allT4 95 (by decide +kernel) rfl
theorem lk_RX10_265 : Cond.methodLink RX10 265 yX9_hasCity ∈ ALL := allT4 99 (by decide +kernel) rfl
theorem lk_RX10_269 : Cond.methodLink RX10 269 yX10_whyNotRate ∈ ALL := allT4 104 (by decide +kernel) rfl
theorem lk_RX10_275 : Cond.methodLink RX10 275 yX10_whyNotGift ∈ ALL := allT4 112 (by decide +kernel) rfl
theorem lk_RX10_281 : Cond.methodLink RX10 281 yX10_drawWhatComes ∈ ALL := allT4 120 (by decide +kernel) rfl
theorem lk_RX10_284 : Cond.methodLink RX10 284 yX10_draw ∈ ALL := allT4 124 (by decide +kernel) rfl
theorem lk_RX10_302 : Cond.methodLink RX10 302 yX4_restore ∈ ALL := allT4 139 (by decide +kernel) rfl
theorem lk_RX10_312 : Cond.methodLink RX10 312 yX2_part ∈ ALL := allT4 151 (by decide +kernel) rfl
theorem lk_RX10_315 : Cond.methodLink RX10 315 yX6_startingAt ∈ ALL := allT4 159 (by decide +kernel) rfl
theorem lk_RX10_319 : Cond.methodLink RX10 319 yX9_whyNotStep ∈ ALL := allT4 164 (by decide +kernel) rfl
theorem lk_RX10_323 : Cond.methodLink RX10 323 yX9_makeStep ∈ ALL := allT4 173 (by decide +kernel) rfl
theorem lk_RX10_327 : Cond.methodLink RX10 327 yX7_dueOfAll ∈ ALL := allT4 179 (by decide +kernel) rfl
theorem lk_RX10_330 : Cond.methodLink RX10 330 yX6_behind ∈ ALL := allT4 191 (by decide +kernel) rfl
theorem lk_RX10_337 : Cond.methodLink RX10 337 yX0_seekOrders ∈ ALL := allT4 208 (by decide +kernel) rfl
theorem lk_RX10_347 : Cond.methodLink RX10 347 yX6_seekRate ∈ ALL := allT4 230 (by decide +kernel) rfl
theorem lk_RX10_357 : Cond.methodLink RX10 357 yX6_seekWeight ∈ ALL := allT4 238 (by decide +kernel) rfl
theorem lk_RX10_363 : Cond.methodLink RX10 363 yX3_noteSeen ∈ ALL := allT5 10 (by decide +kernel) rfl
theorem lk_RX10_367 : Cond.methodLink RX10 367 yX3_latestSeen ∈ ALL := allT5 18 (by decide +kernel) rfl
theorem lk_RX10_370 : Cond.methodLink RX10 370 yX3_foretell ∈ ALL := allT5 23 (by decide +kernel) rfl
theorem lk_RX10_374 : Cond.methodLink RX10 374 yX3_fitting ∈ ALL := allT5 30 (by decide +kernel) rfl
theorem lk_RX10_377 : Cond.methodLink RX10 377 yX10_nthOrCount ∈ ALL := allT5 38 (by decide +kernel) rfl
theorem lk_RX10_380 : Cond.methodLink RX10 380 yJ6_bitCount_0f7a4 ∈ ALL := allT5 42 (by decide +kernel) rfl
theorem lk_RX10_385 : Cond.methodLink RX10 385 yX3_hoursToAsk ∈ ALL := allT5 52 (by decide +kernel) rfl
theorem lk_RX10_388 : Cond.methodLink RX10 388 yX10_canDeal ∈ ALL := allT5 65 (by decide +kernel) rfl
theorem lk_RX10_392 : Cond.methodLink RX10 392 yX0_sitDown ∈ ALL := allT5 69 (by decide +kernel) rfl
theorem lk_RX10_395 : Cond.methodLink RX10 395 yX0_sellerHas ∈ ALL := allT5 74 (by decide +kernel) rfl
theorem lk_RX10_398 : Cond.methodLink RX10 398 yX0_buyerHas ∈ ALL := allT5 78 (by decide +kernel) rfl
theorem lk_RX10_401 : Cond.methodLink RX10 401 yX0_nthRest ∈ ALL := allT5 87 (by decide +kernel) rfl
theorem lk_RX10_405 : Cond.methodLink RX10 405 yX6_partsReaching ∈ ALL := allT5 101 (by decide +kernel) rfl
theorem lk_RX10_409 : Cond.methodLink RX10 409 yX10_firstWithMost ∈ ALL := allT5 117 (by decide +kernel) rfl
theorem lk_RX10_412 : Cond.methodLink RX10 412 yX10_freeThings ∈ ALL := allT5 130 (by decide +kernel) rfl
theorem lk_RX10_415 : Cond.methodLink RX10 415 yX10_soldThings ∈ ALL := allT5 134 (by decide +kernel) rfl
theorem lk_RX10_418 : Cond.methodLink RX10 418 yX10_afraid ∈ ALL := allT5 138 (by decide +kernel) rfl
theorem lk_RX10_421 : Cond.methodLink RX10 421 yX10_measure ∈ ALL := allT5 121 (by decide +kernel) rfl
theorem lk_RX10_424 : Cond.methodLink RX10 424 yX10_likingOfAll ∈ ALL := allT5 126 (by decide +kernel) rfl
theorem lk_RX10_427 : Cond.methodLink RX10 427 yX9_isAfraid ∈ ALL := allT5 142 (by decide +kernel) rfl
theorem lk_RX10_431 : Cond.methodLink RX10 431 yX7_copyFrom ∈ ALL := allT5 147 (by decide +kernel) rfl
theorem lk_RX11_115 : Cond.methodLink RX11 115 yJ0_length_8abf5 ∈ ALL := allT6 227 (by decide +kernel) rfl
theorem lk_RX11_121 : Cond.methodLink RX11 121 yJ0_charAt_5068e ∈ ALL := allT7 0 (by decide +kernel) rfl
theorem lk_RX11_127 : Cond.methodLink RX11 127 yX11_bytesIn ∈ ALL := allT6 180 (by decide +kernel) rfl
theorem lk_RX11_131 : Cond.methodLink RX11 131 yX11_put ∈ ALL := allT6 183 (by decide +kernel) rfl
theorem lk_RX11_150 : Cond.methodLink RX11 150 yX11_fails ∈ ALL := allT6 218 (by decide +kernel) rfl
theorem lk_RX11_154 : Cond.methodLink RX11 154 yX11_look ∈ ALL := allT6 214 (by decide +kernel) rfl
theorem lk_RX11_170 : Cond.methodLink RX11 170 yX11_isAmong ∈ ALL := allT7 69 (by decide +kernel) rfl
theorem lk_RX11_174 : Cond.methodLink RX11 174 yX11_goesIn ∈ ALL := allT7 100 (by decide +kernel) rfl
theorem lk_RX11_177 : Cond.methodLink RX11 177 yX11_sum ∈ ALL := allT7 88 (by decide +kernel) rfl
theorem lk_RX11_180 : Cond.methodLink RX11 180 yX11_takes ∈ ALL := allT7 72 (by decide +kernel) rfl
theorem lk_RX11_184 : Cond.methodLink RX11 184 yX11_isDigit ∈ ALL := allT7 51 (by decide +kernel) rfl
theorem lk_RX11_187 : Cond.methodLink RX11 187 yX11_atom ∈ ALL := allT7 96 (by decide +kernel) rfl
theorem lk_RX11_190 : Cond.methodLink RX11 190 yX11_within ∈ ALL := allT7 104 (by decide +kernel) rfl
theorem lk_RX11_194 : Cond.methodLink RX11 194 yX11_term ∈ ALL := allT7 92 (by decide +kernel) rfl
theorem lk_RX11_197 : Cond.methodLink RX11 197 yX11_isSign ∈ ALL := allT7 115 (by decide +kernel) rfl
theorem lk_RX11_200 : Cond.methodLink RX11 200 yX11_unit ∈ ALL := allT7 118 (by decide +kernel) rfl
theorem lk_RX11_203 : Cond.methodLink RX11 203 yX11_condition ∈ ALL := allT7 76 (by decide +kernel) rfl
theorem lk_RX11_207 : Cond.methodLink RX11 207 yX11_compares ∈ ALL := allT7 84 (by decide +kernel) rfl
theorem lk_RX11_210 : Cond.methodLink RX11 210 yX11_part ∈ ALL := allT7 80 (by decide +kernel) rfl
theorem lk_RX11_223 : Cond.methodLink RX11 223 yX11_starts ∈ ALL := allT6 203 (by decide +kernel) rfl
theorem lk_RX11_227 : Cond.methodLink RX11 227 yX11_clause ∈ ALL := allT7 65 (by decide +kernel) rfl
theorem lk_RX11_230 : Cond.methodLink RX11 230 yX11_here ∈ ALL := allT7 55 (by decide +kernel) rfl
theorem lk_RX11_233 : Cond.methodLink RX11 233 yX11_isIn ∈ ALL := allT6 196 (by decide +kernel) rfl
theorem lk_RX11_237 : Cond.methodLink RX11 237 yX11_usual ∈ ALL := allT6 207 (by decide +kernel) rfl
theorem lk_RX11_241 : Cond.methodLink RX11 241 yX11_spotOf ∈ ALL := allT6 237 (by decide +kernel) rfl
theorem lk_RX11_245 : Cond.methodLink RX11 245 yX11_has ∈ ALL := allT7 38 (by decide +kernel) rfl
theorem lk_RX11_249 : Cond.methodLink RX11 249 yX11_leastOf ∈ ALL := allT7 41 (by decide +kernel) rfl
theorem lk_RX11_252 : Cond.methodLink RX11 252 yX11_mostOf ∈ ALL := allT7 44 (by decide +kernel) rfl
theorem lk_RX11_255 : Cond.methodLink RX11 255 yX11_number ∈ ALL := allT7 47 (by decide +kernel) rfl
theorem lk_RX11_269 : Cond.methodLink RX11 269 yX11_readItems ∈ ALL := allT6 223 (by decide +kernel) rfl
theorem lk_RX11_277 : Cond.methodLink RX11 277 yX11_readClause ∈ ALL := allT6 210 (by decide +kernel) rfl
theorem lk_RX11_282 : Cond.methodLink RX11 282 yX11_digit ∈ ALL := allT7 131 (by decide +kernel) rfl
theorem lk_RX11_285 : Cond.methodLink RX11 285 yX11_readStep ∈ ALL := allT7 126 (by decide +kernel) rfl
theorem lk_RX11_290 : Cond.methodLink RX11 290 yX11_readCity ∈ ALL := allT6 199 (by decide +kernel) rfl
theorem lk_RX11_293 : Cond.methodLink RX11 293 yX11_goThrough ∈ ALL := allT7 61 (by decide +kernel) rfl
theorem lk_RX11_296 : Cond.methodLink RX11 296 yX11_readPlan ∈ ALL := allT7 122 (by decide +kernel) rfl
theorem lk_RX11_305 : Cond.methodLink RX11 305 yX11_fault ∈ ALL := allT7 139 (by decide +kernel) rfl
theorem lk_RX11_313 : Cond.methodLink RX11 313 yX11_lays ∈ ALL := allT7 140 (by decide +kernel) rfl
theorem lk_RX11_326 : Cond.methodLink RX11 326 yX11_isThing ∈ ALL := allT7 148 (by decide +kernel) rfl
theorem lk_RX11_351 : Cond.methodLink RX11 351 yX11_desireOf ∈ ALL := allT7 182 (by decide +kernel) rfl
theorem lk_RX11_354 : Cond.methodLink RX11 354 yX11_weightOf ∈ ALL := allT7 186 (by decide +kernel) rfl
theorem lk_RX11_357 : Cond.methodLink RX11 357 yX11_worthOf ∈ ALL := allT7 191 (by decide +kernel) rfl
theorem lk_RX11_361 : Cond.methodLink RX11 361 yX11_holds ∈ ALL := allT7 163 (by decide +kernel) rfl
theorem lk_RX11_365 : Cond.methodLink RX11 365 yX11_dueFor ∈ ALL := allT8 7 (by decide +kernel) rfl
theorem lk_RX11_369 : Cond.methodLink RX11 369 yX11_strikes ∈ ALL := allT8 11 (by decide +kernel) rfl
theorem lk_RX11_373 : Cond.methodLink RX11 373 yX11_likingOf ∈ ALL := allT7 178 (by decide +kernel) rfl
theorem lk_RX11_376 : Cond.methodLink RX11 376 yX11_buys ∈ ALL := allT8 14 (by decide +kernel) rfl
theorem lk_RX11_379 : Cond.methodLink RX11 379 yX11_goesBack ∈ ALL := allT8 3 (by decide +kernel) rfl
theorem lk_RX11_382 : Cond.methodLink RX11 382 yX11_dueOf ∈ ALL := allT7 167 (by decide +kernel) rfl
theorem lk_RX11_385 : Cond.methodLink RX11 385 yX11_isFree ∈ ALL := allT7 227 (by decide +kernel) rfl
theorem lk_RX11_389 : Cond.methodLink RX11 389 yX11_hasBill ∈ ALL := allT8 50 (by decide +kernel) rfl
theorem lk_RX11_393 : Cond.methodLink RX11 393 yX11_goHolder ∈ ALL := allT8 42 (by decide +kernel) rfl
theorem lk_RX11_396 : Cond.methodLink RX11 396 yX11_goSeeker ∈ ALL := allT8 46 (by decide +kernel) rfl
theorem lk_RX11_399 : Cond.methodLink RX11 399 yX11_paysAll ∈ ALL := allT8 53 (by decide +kernel) rfl
theorem lk_RX11_402 : Cond.methodLink RX11 402 yX11_passes ∈ ALL := allT8 38 (by decide +kernel) rfl
theorem lk_RX11_405 : Cond.methodLink RX11 405 yX11_holders ∈ ALL := allT8 57 (by decide +kernel) rfl
theorem lk_RX11_412 : Cond.methodLink RX11 412 yX11_isBuyer ∈ ALL := allT7 158 (by decide +kernel) rfl
theorem lk_RX11_417 : Cond.methodLink RX11 417 yX11_billsOf ∈ ALL := allT7 170 (by decide +kernel) rfl
theorem lk_RX11_422 : Cond.methodLink RX11 422 yX11_stops ∈ ALL := allT7 223 (by decide +kernel) rfl
theorem lk_RX11_426 : Cond.methodLink RX11 426 yX11_refused ∈ ALL := allT7 231 (by decide +kernel) rfl
theorem lk_RX11_429 : Cond.methodLink RX11 429 yX11_remember ∈ ALL := allT7 235 (by decide +kernel) rfl
theorem lk_RX11_432 : Cond.methodLink RX11 432 yX11_does ∈ ALL := allT7 239 (by decide +kernel) rfl
theorem lk_RX11_435 : Cond.methodLink RX11 435 yX11_tries ∈ ALL := allT7 219 (by decide +kernel) rfl
theorem lk_RX11_439 : Cond.methodLink RX11 439 yX11_goNow ∈ ALL := allT8 34 (by decide +kernel) rfl
theorem lk_RX11_458 : Cond.methodLink RX11 458 yX11_draw ∈ ALL := allT8 81 (by decide +kernel) rfl
theorem lk_RX11_461 : Cond.methodLink RX11 461 yX11_isPlan ∈ ALL := allT8 103 (by decide +kernel) rfl
theorem lk_RX11_464 : Cond.methodLink RX11 464 yX11_copy ∈ ALL := allT8 111 (by decide +kernel) rfl
theorem lk_RX11_468 : Cond.methodLink RX11 468 yX11_canStep ∈ ALL := allT8 114 (by decide +kernel) rfl
theorem lk_RX11_471 : Cond.methodLink RX11 471 yX11_allDue ∈ ALL := allT8 118 (by decide +kernel) rfl
theorem lk_RX11_476 : Cond.methodLink RX11 476 yX11_laysTrial ∈ ALL := allT8 130 (by decide +kernel) rfl
theorem lk_RX11_488 : Cond.methodLink RX11 488 yX11_triesOrder ∈ ALL := allT8 150 (by decide +kernel) rfl
theorem lk_RX11_491 : Cond.methodLink RX11 491 yX11_goOrders ∈ ALL := allT8 146 (by decide +kernel) rfl
theorem lk_RX11_497 : Cond.methodLink RX11 497 yX11_laysDesires ∈ ALL := allT8 171 (by decide +kernel) rfl
theorem lk_RX11_500 : Cond.methodLink RX11 500 yX11_canPlay ∈ ALL := allT8 183 (by decide +kernel) rfl
theorem lk_RX11_503 : Cond.methodLink RX11 503 yX11_gameOf ∈ ALL := allT8 187 (by decide +kernel) rfl
theorem lk_RX11_507 : Cond.methodLink RX11 507 yX11_oddsFrom ∈ ALL := allT8 200 (by decide +kernel) rfl
theorem lk_RX11_512 : Cond.methodLink RX11 512 yX11_wanted ∈ ALL := allT8 220 (by decide +kernel) rfl
theorem lk_RX11_515 : Cond.methodLink RX11 515 yX11_valueOf ∈ ALL := allT8 216 (by decide +kernel) rfl
theorem lk_RX11_518 : Cond.methodLink RX11 518 yX11_greatest ∈ ALL := allT8 212 (by decide +kernel) rfl
theorem lk_RX11_521 : Cond.methodLink RX11 521 yX11_thoseThings ∈ ALL := allT8 224 (by decide +kernel) rfl
theorem lk_RX11_525 : Cond.methodLink RX11 525 yX11_afraid ∈ ALL := allT8 228 (by decide +kernel) rfl
theorem lk_RX1_46 : Cond.methodLink RX1 46 yX1_clauseReads ∈ ALL := allT2 185 (by decide +kernel) rfl
theorem lk_RX1_50 : Cond.methodLink RX1 50 yX8_sign ∈ ALL := allT2 201 (by decide +kernel) rfl
theorem lk_RX1_54 : Cond.methodLink RX1 54 yX8_passes ∈ ALL := allT2 189 (by decide +kernel) rfl
theorem lk_RX1_58 : Cond.methodLink RX1 58 yX1_itemsRead ∈ ALL := allT2 197 (by decide +kernel) rfl
theorem lk_RX1_62 : Cond.methodLink RX1 62 yX1_itemOf ∈ ALL := allT2 202 (by decide +kernel) rfl
theorem lk_RX1_72 : Cond.methodLink RX1 72 yX8_passesNumberWithin ∈ ALL := allT2 212 (by decide +kernel) rfl
theorem lk_RX2_24 : Cond.methodLink RX2 24 yX2_stepsRead ∈ ALL := allT3 48 (by decide +kernel) rfl
theorem lk_RX2_28 : Cond.methodLink RX2 28 yX2_stepReads ∈ ALL := allT3 52 (by decide +kernel) rfl
theorem lk_RX2_32 : Cond.methodLink RX2 32 yX8_sign ∈ ALL := allT3 56 (by decide +kernel) rfl
theorem lk_RX2_43 : Cond.methodLink RX2 43 yX8_passesDigit ∈ ALL := allT3 61 (by decide +kernel) rfl
theorem lk_RX3_48 : Cond.methodLink RX3 48 yX7_beginAs ∈ ALL := allT5 27 (by decide +kernel) rfl
theorem lk_RX3_55 : Cond.methodLink RX3 55 yX9_passHour ∈ ALL := allT5 28 (by decide +kernel) rfl
theorem lk_RX3_62 : Cond.methodLink RX3 62 yX7_dueOfAll ∈ ALL := allT5 29 (by decide +kernel) rfl
theorem lk_RX3_66 : Cond.methodLink RX3 66 yX3_fits ∈ ALL := allT5 34 (by decide +kernel) rfl
theorem lk_RX3_70 : Cond.methodLink RX3 70 yX3_fitting ∈ ALL := allT5 56 (by decide +kernel) rfl
theorem lk_RX3_73 : Cond.methodLink RX3 73 yX3_mostAgreeing ∈ ALL := allT5 57 (by decide +kernel) rfl
theorem lk_RX4_25 : Cond.methodLink RX4 25 yX7_copyFrom ∈ ALL := allT3 196 (by decide +kernel) rfl
theorem lk_RX5_27 : Cond.methodLink RX5 27 yX5_clauseReads ∈ ALL := allT2 228 (by decide +kernel) rfl
theorem lk_RX5_31 : Cond.methodLink RX5 31 yX8_sign ∈ ALL := allT2 233 (by decide +kernel) rfl
theorem lk_RX5_35 : Cond.methodLink RX5 35 yX8_passes ∈ ALL := allT2 232 (by decide +kernel) rfl
theorem lk_RX5_39 : Cond.methodLink RX5 39 yX5_conditionReads ∈ ALL := allT2 234 (by decide +kernel) rfl
theorem lk_RX5_43 : Cond.methodLink RX5 43 yX5_answerReads ∈ ALL := allT3 40 (by decide +kernel) rfl
theorem lk_RX5_46 : Cond.methodLink RX5 46 yX5_sumReads ∈ ALL := allT3 6 (by decide +kernel) rfl
theorem lk_RX5_49 : Cond.methodLink RX5 49 yX5_isComparison ∈ ALL := allT3 28 (by decide +kernel) rfl
theorem lk_RX5_52 : Cond.methodLink RX5 52 yX5_put ∈ ALL := allT3 19 (by decide +kernel) rfl
theorem lk_RX5_56 : Cond.methodLink RX5 56 yX5_comparisonReads ∈ ALL := allT3 24 (by decide +kernel) rfl
theorem lk_RX5_59 : Cond.methodLink RX5 59 yX5_truthGoesOn ∈ ALL := allT3 32 (by decide +kernel) rfl
theorem lk_RX5_62 : Cond.methodLink RX5 62 yX5_conditionGoesOn ∈ ALL := allT3 36 (by decide +kernel) rfl
theorem lk_RX5_65 : Cond.methodLink RX5 65 yX5_truthReads ∈ ALL := allT2 238 (by decide +kernel) rfl
theorem lk_RX5_68 : Cond.methodLink RX5 68 yX5_unitReads ∈ ALL := allT3 2 (by decide +kernel) rfl
theorem lk_RX5_71 : Cond.methodLink RX5 71 yX5_termReads ∈ ALL := allT3 10 (by decide +kernel) rfl
theorem lk_RX5_74 : Cond.methodLink RX5 74 yX5_atomReads ∈ ALL := allT3 14 (by decide +kernel) rfl
theorem lk_RX5_81 : Cond.methodLink RX5 81 yX8_passesNumber ∈ ALL := allT3 23 (by decide +kernel) rfl
theorem lk_RX5_87 : Cond.methodLink RX5 87 yX5_joined ∈ ALL := allT3 148 (by decide +kernel) rfl
theorem lk_RX6_29 : Cond.methodLink RX6 29 yX7_copyFrom ∈ ALL := allT4 163 (by decide +kernel) rfl
theorem lk_RX6_33 : Cond.methodLink RX6 33 yX9_passHour ∈ ALL := allT4 195 (by decide +kernel) rfl
theorem lk_RX6_44 : Cond.methodLink RX6 44 yX6_hoursToSell ∈ ALL := allT5 2 (by decide +kernel) rfl
theorem lk_RX6_55 : Cond.methodLink RX6 55 yX7_dueOfAll ∈ ALL := allT5 105 (by decide +kernel) rfl
theorem lk_RX6_64 : Cond.methodLink RX6 64 yX6_partsReaching ∈ ALL := allT5 107 (by decide +kernel) rfl
theorem lk_RX7_58 : Cond.methodLink RX7 58 yJ7_fill_53178 ∈ ALL := allT3 78 (by decide +kernel) rfl
theorem lk_RX7_69 : Cond.methodLink RX7 69 yX1_weightTold ∈ ALL := allT3 81 (by decide +kernel) rfl
theorem lk_RX7_76 : Cond.methodLink RX7 76 yX1_purseTold ∈ ALL := allT3 85 (by decide +kernel) rfl
theorem lk_RX7_79 : Cond.methodLink RX7 79 yX1_desireTold ∈ ALL := allT3 89 (by decide +kernel) rfl
theorem lk_RX7_82 : Cond.methodLink RX7 82 yX1_rateTold ∈ ALL := allT3 93 (by decide +kernel) rfl
theorem lk_RX7_92 : Cond.methodLink RX7 92 yX7_holders ∈ ALL := allT4 86 (by decide +kernel) rfl
theorem lk_RX8_25 : Cond.methodLink RX8 25 yX8_sign ∈ ALL := allT2 193 (by decide +kernel) rfl
theorem lk_RX8_29 : Cond.methodLink RX8 29 yX8_atDigit ∈ ALL := allT2 220 (by decide +kernel) rfl
theorem lk_RX8_33 : Cond.methodLink RX8 33 yX8_passesNumber ∈ ALL := allT2 216 (by decide +kernel) rfl
theorem lk_RX9_101 : Cond.methodLink RX9 101 yX9_whyNotPutBack ∈ ALL := allT4 13 (by decide +kernel) rfl
theorem lk_RX9_105 : Cond.methodLink RX9 105 yX9_hasCity ∈ ALL := allT4 34 (by decide +kernel) rfl
theorem lk_RX9_109 : Cond.methodLink RX9 109 yX2_part ∈ ALL := allT4 168 (by decide +kernel) rfl
theorem lk_RX9_114 : Cond.methodLink RX9 114 yX9_whyNotPick ∈ ALL := allT4 169 (by decide +kernel) rfl
theorem lk_RX9_118 : Cond.methodLink RX9 118 yX9_whyNotHand ∈ ALL := allT4 170 (by decide +kernel) rfl
theorem lk_RX9_121 : Cond.methodLink RX9 121 yX9_whyNotBuy ∈ ALL := allT4 171 (by decide +kernel) rfl
theorem lk_RX9_124 : Cond.methodLink RX9 124 yX9_whyNotHour ∈ ALL := allT4 172 (by decide +kernel) rfl
theorem lk_RX9_128 : Cond.methodLink RX9 128 yX9_pickUp ∈ ALL := allT4 69 (by decide +kernel) rfl
theorem lk_RX9_132 : Cond.methodLink RX9 132 yX9_layBack ∈ ALL := allT4 48 (by decide +kernel) rfl
theorem lk_RX9_135 : Cond.methodLink RX9 135 yX9_passOn ∈ ALL := allT4 177 (by decide +kernel) rfl
theorem lk_RX9_138 : Cond.methodLink RX9 138 yX9_purchase ∈ ALL := allT4 47 (by decide +kernel) rfl
theorem lk_RX9_141 : Cond.methodLink RX9 141 yX9_passHour ∈ ALL := allT4 178 (by decide +kernel) rfl
theorem lk_RX9_148 : Cond.methodLink RX9 148 yX9_looksAway ∈ ALL := allT3 217 (by decide +kernel) rfl
theorem lk_RX9_152 : Cond.methodLink RX9 152 yX9_dueIfPutBack ∈ ALL := allT3 221 (by decide +kernel) rfl
theorem lk_RX9_155 : Cond.methodLink RX9 155 yX7_writeBill ∈ ALL := allT3 229 (by decide +kernel) rfl
theorem lk_RX9_162 : Cond.methodLink RX9 162 yX1_hoursToComeBack ∈ ALL := allT4 18 (by decide +kernel) rfl
theorem lk_RX9_166 : Cond.methodLink RX9 166 yX7_strikeBills ∈ ALL := allT4 22 (by decide +kernel) rfl
theorem lk_RX9_170 : Cond.methodLink RX9 170 yX9_decide ∈ ALL := allT4 42 (by decide +kernel) rfl
theorem lk_RX9_174 : Cond.methodLink RX9 174 yX9_isAfraid ∈ ALL := allT4 49 (by decide +kernel) rfl
theorem lk_RX9_177 : Cond.methodLink RX9 177 yX9_pickFavourite ∈ ALL := allT4 61 (by decide +kernel) rfl
theorem lk_RX9_180 : Cond.methodLink RX9 180 yX1_michaelmas ∈ ALL := allT4 70 (by decide +kernel) rfl
theorem lk_RX9_183 : Cond.methodLink RX9 183 yX9_keepMichaelmas ∈ ALL := allT4 74 (by decide +kernel) rfl
theorem lk_RX9_186 : Cond.methodLink RX9 186 yX7_writeLog ∈ ALL := allT4 82 (by decide +kernel) rfl
theorem lk_RX9_189 : Cond.methodLink RX9 189 yX9_liked ∈ ALL := allT4 46 (by decide +kernel) rfl
theorem lk_RX9_192 : Cond.methodLink RX9 192 yX7_hasBillFor ∈ ALL := allT4 65 (by decide +kernel) rfl
theorem lk_RX9_199 : Cond.methodLink RX9 199 yX1_income ∈ ALL := allT4 78 (by decide +kernel) rfl
theorem lk_RX9_47 : Cond.methodLink RX9 47 yX1_priceOf ∈ ALL := allT3 142 (by decide +kernel) rfl
theorem lk_RX9_54 : Cond.methodLink RX9 54 yX1_shopOf ∈ ALL := allT3 143 (by decide +kernel) rfl
theorem lk_RX9_60 : Cond.methodLink RX9 60 yX5_worth ∈ ALL := allT3 144 (by decide +kernel) rfl
theorem lk_RX9_73 : Cond.methodLink RX9 73 yX1_kindOf ∈ ALL := allT3 225 (by decide +kernel) rfl
theorem lk_RX9_82 : Cond.methodLink RX9 82 yX7_dueOf ∈ ALL := allT4 53 (by decide +kernel) rfl
theorem lk_RX9_85 : Cond.methodLink RX9 85 yX1_nerveOf ∈ ALL := allT4 57 (by decide +kernel) rfl
theorem lk_RX9_88 : Cond.methodLink RX9 88 yX9_isBuyer ∈ ALL := allT3 186 (by decide +kernel) rfl
theorem lk_RX9_92 : Cond.methodLink RX9 92 yX9_isThing ∈ ALL := allT3 187 (by decide +kernel) rfl
theorem lm_RX10_290 : Lm RX10 290 Lib.Math.min.name Lib.Math.min.code 2 .int := ⟨allT4 130 (by decide +kernel) rfl, allT3 157 (by decide +kernel) rfl, allT1 18 (by decide +kernel) rfl, allT3 158 (by decide +kernel) rfl⟩
theorem lm_RX11_161 : Lm RX11 161 Lib.MathLoose.min_long.x Lib.MathLoose.min_long.code 4 .long := ⟨allT7 109 (by decide +kernel) rfl, allT7 110 (by decide +kernel) rfl, allT1 18 (by decide +kernel) rfl, allT7 111 (by decide +kernel) rfl⟩
theorem lm_RX11_167 : Lm RX11 167 Lib.MathLoose.max_long.x Lib.MathLoose.max_long.code 4 .long := ⟨allT7 112 (by decide +kernel) rfl, allT7 113 (by decide +kernel) rfl, allT1 18 (by decide +kernel) rfl, allT7 114 (by decide +kernel) rfl⟩
theorem lm_RX11_347 : Lm RX11 347 Lib.Math.min.name Lib.Math.min.code 2 .int := ⟨allT7 190 (by decide +kernel) rfl, allT3 157 (by decide +kernel) rfl, allT1 18 (by decide +kernel) rfl, allT3 158 (by decide +kernel) rfl⟩
theorem lm_RX11_349 : Lm RX11 349 Lib.Math.max.name Lib.Math.max.code 2 .int := ⟨allT7 201 (by decide +kernel) rfl, allT3 160 (by decide +kernel) rfl, allT1 18 (by decide +kernel) rfl, allT3 161 (by decide +kernel) rfl⟩
theorem lm_RX3_36 : Lm RX3 36 Lib.Math.max.name Lib.Math.max.code 2 .int := ⟨allT5 22 (by decide +kernel) rfl, allT3 160 (by decide +kernel) rfl, allT1 18 (by decide +kernel) rfl, allT3 161 (by decide +kernel) rfl⟩
theorem lm_RX9_64 : Lm RX9 64 Lib.Math.min.name Lib.Math.min.code 2 .int := ⟨allT3 156 (by decide +kernel) rfl, allT3 157 (by decide +kernel) rfl, allT1 18 (by decide +kernel) rfl, allT3 158 (by decide +kernel) rfl⟩
theorem lm_RX9_70 : Lm RX9 70 Lib.Math.max.name Lib.Math.max.code 2 .int := ⟨allT3 159 (by decide +kernel) rfl, allT3 160 (by decide +kernel) rfl, allT1 18 (by decide +kernel) rfl, allT3 161 (by decide +kernel) rfl⟩
theorem my_J0_charAt_5068e : MyV yJ0_charAt_5068e cJ0_charAt_5068e 2 (some .char) 1 := ⟨⟨allT7 1 (by decide +kernel) rfl, allT7 2 (by decide +kernel) rfl, allT1 14 (by decide +kernel) rfl, allT7 3 (by decide +kernel) rfl⟩, by decide +kernel, by decide +kernel, by decide +kernel⟩
theorem my_J0_length_8abf5 : MyV yJ0_length_8abf5 cJ0_length_8abf5 1 (some .int) 0 := ⟨⟨allT6 228 (by decide +kernel) rfl, allT6 229 (by decide +kernel) rfl, allT1 14 (by decide +kernel) rfl, allT6 230 (by decide +kernel) rfl⟩, by decide +kernel, by decide +kernel, by decide +kernel⟩
theorem my_J6_bitCount_0f7a4 : MyS yJ6_bitCount_0f7a4 cJ6_bitCount_0f7a4 1 (some .int) 1 := ⟨⟨allT5 43 (by decide +kernel) rfl, allT1 24 (by decide +kernel) rfl, allT5 44 (by decide +kernel) rfl⟩, by decide +kernel, by decide +kernel, by decide +kernel⟩
theorem my_J7_fill_53178 : MyS yJ7_fill_53178 cJ7_fill_53178 4 none 2 := ⟨⟨allT3 79 (by decide +kernel) rfl, allT1 19 (by decide +kernel) rfl, allT3 80 (by decide +kernel) rfl⟩, by decide +kernel, by decide +kernel, by decide +kernel⟩
theorem my_X0_buyerHas : MyV yX0_buyerHas cX0_buyerHas 3 (some .int) 2 := ⟨⟨allT5 79 (by decide +kernel) rfl, allT5 80 (by decide +kernel) rfl, allT1 10 (by decide +kernel) rfl, allT5 81 (by decide +kernel) rfl⟩, by decide +kernel, by decide +kernel, by decide +kernel⟩
theorem my_X0_isRest : MyV yX0_isRest cX0_isRest 4 (some .boolean) 2 := ⟨⟨allT5 93 (by decide +kernel) rfl, allIdx 40 (by decide +kernel) rfl, allT1 10 (by decide +kernel) rfl, allT5 94 (by decide +kernel) rfl⟩, by decide +kernel, by decide +kernel, by decide +kernel⟩
theorem my_X0_lookAt : MyV yX0_lookAt cX0_lookAt 5 none 4 := ⟨⟨allT4 214 (by decide +kernel) rfl, allIdx 32 (by decide +kernel) rfl, allT1 10 (by decide +kernel) rfl, allT4 215 (by decide +kernel) rfl⟩, by decide +kernel, by decide +kernel, by decide +kernel⟩
theorem my_X0_nthRest : MyV yX0_nthRest cX0_nthRest 5 (some .int) 1 := ⟨⟨allT5 88 (by decide +kernel) rfl, allT5 89 (by decide +kernel) rfl, allT1 10 (by decide +kernel) rfl, allT5 90 (by decide +kernel) rfl⟩, by decide +kernel, by decide +kernel, by decide +kernel⟩
theorem my_X0_seekOrders : MyV yX0_seekOrders cX0_seekOrders 7 none 4 := ⟨⟨allT4 209 (by decide +kernel) rfl, allT4 210 (by decide +kernel) rfl, allT1 10 (by decide +kernel) rfl, allT4 211 (by decide +kernel) rfl⟩, by decide +kernel, by decide +kernel, by decide +kernel⟩
theorem my_X0_sellerHas : MyV yX0_sellerHas cX0_sellerHas 3 (some .int) 2 := ⟨⟨allT5 75 (by decide +kernel) rfl, allT5 76 (by decide +kernel) rfl, allT1 10 (by decide +kernel) rfl, allT5 77 (by decide +kernel) rfl⟩, by decide +kernel, by decide +kernel, by decide +kernel⟩
theorem my_X0_sitDown : MyV yX0_sitDown cX0_sitDown 5 none 4 := ⟨⟨allT5 70 (by decide +kernel) rfl, allT5 71 (by decide +kernel) rfl, allT1 10 (by decide +kernel) rfl, allT5 72 (by decide +kernel) rfl⟩, by decide +kernel, by decide +kernel, by decide +kernel⟩
theorem my_X0_tryOrders : MyV yX0_tryOrders cX0_tryOrders 6 none 4 := ⟨⟨allT4 220 (by decide +kernel) rfl, allIdx 33 (by decide +kernel) rfl, allT1 10 (by decide +kernel) rfl, allT4 221 (by decide +kernel) rfl⟩, by decide +kernel, by decide +kernel, by decide +kernel⟩
theorem my_X0_weigh : MyV yX0_weigh cX0_weigh 6 none 2 := ⟨⟨allT4 224 (by decide +kernel) rfl, allIdx 34 (by decide +kernel) rfl, allT1 10 (by decide +kernel) rfl, allT4 225 (by decide +kernel) rfl⟩, by decide +kernel, by decide +kernel, by decide +kernel⟩
theorem my_X10_afraid : MyV yX10_afraid cX10_afraid 3 (some .int) 0 := ⟨⟨allT5 140 (by decide +kernel) rfl, allIdx 46 (by decide +kernel) rfl, allT1 1 (by decide +kernel) rfl, allT5 141 (by decide +kernel) rfl⟩, by decide +kernel, by decide +kernel, by decide +kernel⟩
theorem my_X10_canDeal : MyV yX10_canDeal cX10_canDeal 3 (some .boolean) 2 := ⟨⟨allT5 67 (by decide +kernel) rfl, allIdx 39 (by decide +kernel) rfl, allT1 1 (by decide +kernel) rfl, allT5 68 (by decide +kernel) rfl⟩, by decide +kernel, by decide +kernel, by decide +kernel⟩
theorem my_X10_draw : MyV yX10_draw cX10_draw 2 (some .int) 1 := ⟨⟨allT4 126 (by decide +kernel) rfl, allIdx 31 (by decide +kernel) rfl, allT1 1 (by decide +kernel) rfl, allT4 127 (by decide +kernel) rfl⟩, by decide +kernel, by decide +kernel, by decide +kernel⟩
theorem my_X10_drawWhatComes : MyV yX10_drawWhatComes cX10_drawWhatComes 3 none 0 := ⟨⟨allT4 122 (by decide +kernel) rfl, allIdx 30 (by decide +kernel) rfl, allT1 1 (by decide +kernel) rfl, allT4 123 (by decide +kernel) rfl⟩, by decide +kernel, by decide +kernel, by decide +kernel⟩
theorem my_X10_fault : MyV yX10_fault cX10_fault 2 (some .int) 1 := ⟨⟨allT2 173 (by decide +kernel) rfl, allT2 174 (by decide +kernel) rfl, allT1 1 (by decide +kernel) rfl, allT2 175 (by decide +kernel) rfl⟩, by decide +kernel, by decide +kernel, by decide +kernel⟩
theorem my_X10_firstWithMost : MyV yX10_firstWithMost cX10_firstWithMost 7 (some .int) 2 := ⟨⟨allT5 119 (by decide +kernel) rfl, allIdx 41 (by decide +kernel) rfl, allT1 1 (by decide +kernel) rfl, allT5 120 (by decide +kernel) rfl⟩, by decide +kernel, by decide +kernel, by decide +kernel⟩
theorem my_X10_freeThings : MyV yX10_freeThings cX10_freeThings 3 (some .int) 0 := ⟨⟨allT5 132 (by decide +kernel) rfl, allIdx 44 (by decide +kernel) rfl, allT1 1 (by decide +kernel) rfl, allT5 133 (by decide +kernel) rfl⟩, by decide +kernel, by decide +kernel, by decide +kernel⟩
theorem my_X10_keepDay : MyV yX10_keepDay cX10_keepDay 1 (some .int) 0 := ⟨⟨allT3 111 (by decide +kernel) rfl, allIdx 20 (by decide +kernel) rfl, allT1 1 (by decide +kernel) rfl, allT3 112 (by decide +kernel) rfl⟩, by decide +kernel, by decide +kernel, by decide +kernel⟩
theorem my_X10_keepLaw : MyV yX10_keepLaw cX10_keepLaw 1 (some .int) 0 := ⟨⟨allT3 107 (by decide +kernel) rfl, allIdx 19 (by decide +kernel) rfl, allT1 1 (by decide +kernel) rfl, allT3 108 (by decide +kernel) rfl⟩, by decide +kernel, by decide +kernel, by decide +kernel⟩
theorem my_X10_likingOfAll : MyV yX10_likingOfAll cX10_likingOfAll 4 (some .int) 1 := ⟨⟨allT5 128 (by decide +kernel) rfl, allIdx 43 (by decide +kernel) rfl, allT1 1 (by decide +kernel) rfl, allT5 129 (by decide +kernel) rfl⟩, by decide +kernel, by decide +kernel, by decide +kernel⟩
theorem my_X10_measure : MyV yX10_measure cX10_measure 3 (some .int) 2 := ⟨⟨allT5 123 (by decide +kernel) rfl, allIdx 42 (by decide +kernel) rfl, allT1 1 (by decide +kernel) rfl, allT5 124 (by decide +kernel) rfl⟩, by decide +kernel, by decide +kernel, by decide +kernel⟩
theorem my_X10_nthOrCount : MyV yX10_nthOrCount cX10_nthOrCount 5 (some .int) 2 := ⟨⟨allT5 40 (by decide +kernel) rfl, allIdx 37 (by decide +kernel) rfl, allT1 1 (by decide +kernel) rfl, allT5 41 (by decide +kernel) rfl⟩, by decide +kernel, by decide +kernel, by decide +kernel⟩
theorem my_X10_refused : MyV yX10_refused cX10_refused 2 (some .boolean) 1 := ⟨⟨allT3 190 (by decide +kernel) rfl, allIdx 22 (by decide +kernel) rfl, allT1 1 (by decide +kernel) rfl, allT3 191 (by decide +kernel) rfl⟩, by decide +kernel, by decide +kernel, by decide +kernel⟩
theorem my_X10_settle : MyV yX10_settle cX10_settle 2 (some .int) 0 := ⟨⟨allT3 72 (by decide +kernel) rfl, allIdx 18 (by decide +kernel) rfl, allT1 1 (by decide +kernel) rfl, allT3 73 (by decide +kernel) rfl⟩, by decide +kernel, by decide +kernel, by decide +kernel⟩
theorem my_X10_soldThings : MyV yX10_soldThings cX10_soldThings 3 (some .int) 0 := ⟨⟨allT5 136 (by decide +kernel) rfl, allIdx 45 (by decide +kernel) rfl, allT1 1 (by decide +kernel) rfl, allT5 137 (by decide +kernel) rfl⟩, by decide +kernel, by decide +kernel, by decide +kernel⟩
theorem my_X10_whyNotClerk : MyV yX10_whyNotClerk cX10_whyNotClerk 2 (some .int) 1 := ⟨⟨allT4 97 (by decide +kernel) rfl, allIdx 27 (by decide +kernel) rfl, allT1 1 (by decide +kernel) rfl, allT4 98 (by decide +kernel) rfl⟩, by decide +kernel, by decide +kernel, by decide +kernel⟩
theorem my_X10_whyNotGift : MyV yX10_whyNotGift cX10_whyNotGift 3 (some .int) 2 := ⟨⟨allT4 114 (by decide +kernel) rfl, allIdx 29 (by decide +kernel) rfl, allT1 1 (by decide +kernel) rfl, allT4 115 (by decide +kernel) rfl⟩, by decide +kernel, by decide +kernel, by decide +kernel⟩
theorem my_X10_whyNotRate : MyV yX10_whyNotRate cX10_whyNotRate 2 (some .int) 1 := ⟨⟨allT4 106 (by decide +kernel) rfl, allIdx 28 (by decide +kernel) rfl, allT1 1 (by decide +kernel) rfl, allT4 107 (by decide +kernel) rfl⟩, by decide +kernel, by decide +kernel, by decide +kernel⟩
theorem my_X11_afraid : MyV yX11_afraid cX11_afraid 3 (some .int) 0 := ⟨⟨allT8 230 (by decide +kernel) rfl, allIdx 110 (by decide +kernel) rfl, allT1 12 (by decide +kernel) rfl, allT8 231 (by decide +kernel) rfl⟩, by decide +kernel, by decide +kernel, by decide +kernel⟩
theorem my_X11_allDue : MyS yX11_allDue cX11_allDue 3 (some .int) 1 := ⟨⟨allT8 119 (by decide +kernel) rfl, allT1 12 (by decide +kernel) rfl, allT8 120 (by decide +kernel) rfl⟩, by decide +kernel, by decide +kernel, by decide +kernel⟩
theorem my_X11_atom : MyV yX11_atom cX11_atom 4 (some .int) 0 := ⟨⟨allT7 98 (by decide +kernel) rfl, allIdx 66 (by decide +kernel) rfl, allT1 12 (by decide +kernel) rfl, allT7 99 (by decide +kernel) rfl⟩, by decide +kernel, by decide +kernel, by decide +kernel⟩
theorem my_X11_billsOf : MyV yX11_billsOf cX11_billsOf 4 (some .int) 1 := ⟨⟨allT7 172 (by decide +kernel) rfl, allIdx 76 (by decide +kernel) rfl, allT1 12 (by decide +kernel) rfl, allT7 173 (by decide +kernel) rfl⟩, by decide +kernel, by decide +kernel, by decide +kernel⟩
theorem my_X11_buys : MyV yX11_buys cX11_buys 7 (some .int) 2 := ⟨⟨allT8 16 (by decide +kernel) rfl, allIdx 89 (by decide +kernel) rfl, allT1 12 (by decide +kernel) rfl, allT8 17 (by decide +kernel) rfl⟩, by decide +kernel, by decide +kernel, by decide +kernel⟩
theorem my_X11_bytesIn : MyS yX11_bytesIn cX11_bytesIn 3 (some .int) 1 := ⟨⟨allT6 181 (by decide +kernel) rfl, allT1 12 (by decide +kernel) rfl, allT6 182 (by decide +kernel) rfl⟩, by decide +kernel, by decide +kernel, by decide +kernel⟩
theorem my_X11_canPlay : MyV yX11_canPlay cX11_canPlay 3 (some .boolean) 2 := ⟨⟨allT8 185 (by decide +kernel) rfl, allIdx 103 (by decide +kernel) rfl, allT1 12 (by decide +kernel) rfl, allT8 186 (by decide +kernel) rfl⟩, by decide +kernel, by decide +kernel, by decide +kernel⟩
theorem my_X11_canStep : MyV yX11_canStep cX11_canStep 3 (some .boolean) 2 := ⟨⟨allT8 116 (by decide +kernel) rfl, allIdx 98 (by decide +kernel) rfl, allT1 12 (by decide +kernel) rfl, allT8 117 (by decide +kernel) rfl⟩, by decide +kernel, by decide +kernel, by decide +kernel⟩
theorem my_X11_clause : MyV yX11_clause cX11_clause 5 none 0 := ⟨⟨allT7 67 (by decide +kernel) rfl, allIdx 59 (by decide +kernel) rfl, allT1 12 (by decide +kernel) rfl, allT7 68 (by decide +kernel) rfl⟩, by decide +kernel, by decide +kernel, by decide +kernel⟩
theorem my_X11_compares : MyV yX11_compares cX11_compares 6 (some .boolean) 2 := ⟨⟨allT7 86 (by decide +kernel) rfl, allIdx 63 (by decide +kernel) rfl, allT1 12 (by decide +kernel) rfl, allT7 87 (by decide +kernel) rfl⟩, by decide +kernel, by decide +kernel, by decide +kernel⟩
theorem my_X11_condition : MyV yX11_condition cX11_condition 5 (some .boolean) 2 := ⟨⟨allT7 78 (by decide +kernel) rfl, allIdx 61 (by decide +kernel) rfl, allT1 12 (by decide +kernel) rfl, allT7 79 (by decide +kernel) rfl⟩, by decide +kernel, by decide +kernel, by decide +kernel⟩
theorem my_X11_copy : MyS yX11_copy cX11_copy 3 none 2 := ⟨⟨allT8 112 (by decide +kernel) rfl, allT1 12 (by decide +kernel) rfl, allT8 113 (by decide +kernel) rfl⟩, by decide +kernel, by decide +kernel, by decide +kernel⟩
theorem my_X11_desireOf : MyV yX11_desireOf cX11_desireOf 2 (some .int) 1 := ⟨⟨allT7 184 (by decide +kernel) rfl, allIdx 78 (by decide +kernel) rfl, allT1 12 (by decide +kernel) rfl, allT7 185 (by decide +kernel) rfl⟩, by decide +kernel, by decide +kernel, by decide +kernel⟩
theorem my_X11_digit : MyV yX11_digit cX11_digit 2 (some .int) 0 := ⟨⟨allT7 133 (by decide +kernel) rfl, allIdx 71 (by decide +kernel) rfl, allT1 12 (by decide +kernel) rfl, allT7 134 (by decide +kernel) rfl⟩, by decide +kernel, by decide +kernel, by decide +kernel⟩
theorem my_X11_does : MyV yX11_does cX11_does 6 (some .int) 4 := ⟨⟨allT8 1 (by decide +kernel) rfl, allIdx 86 (by decide +kernel) rfl, allT1 12 (by decide +kernel) rfl, allT8 2 (by decide +kernel) rfl⟩, by decide +kernel, by decide +kernel, by decide +kernel⟩
theorem my_X11_draw : MyV yX11_draw cX11_draw 2 (some .int) 1 := ⟨⟨allT8 83 (by decide +kernel) rfl, allIdx 96 (by decide +kernel) rfl, allT1 12 (by decide +kernel) rfl, allT8 84 (by decide +kernel) rfl⟩, by decide +kernel, by decide +kernel, by decide +kernel⟩
theorem my_X11_dueFor : MyV yX11_dueFor cX11_dueFor 5 (some .int) 3 := ⟨⟨allT8 9 (by decide +kernel) rfl, allIdx 88 (by decide +kernel) rfl, allT1 12 (by decide +kernel) rfl, allT8 10 (by decide +kernel) rfl⟩, by decide +kernel, by decide +kernel, by decide +kernel⟩
theorem my_X11_dueOf : MyS yX11_dueOf cX11_dueOf 4 (some .int) 2 := ⟨⟨allT7 168 (by decide +kernel) rfl, allT1 12 (by decide +kernel) rfl, allT7 169 (by decide +kernel) rfl⟩, by decide +kernel, by decide +kernel, by decide +kernel⟩
theorem my_X11_fails : MyV yX11_fails cX11_fails 1 (some .boolean) 0 := ⟨⟨allT6 220 (by decide +kernel) rfl, allIdx 53 (by decide +kernel) rfl, allT1 12 (by decide +kernel) rfl, allT6 221 (by decide +kernel) rfl⟩, by decide +kernel, by decide +kernel, by decide +kernel⟩
theorem my_X11_fault : MyV yX11_fault cX11_fault 2 (some .int) 1 := ⟨⟨allT6 192 (by decide +kernel) rfl, allT6 193 (by decide +kernel) rfl, allT1 12 (by decide +kernel) rfl, allT6 194 (by decide +kernel) rfl⟩, by decide +kernel, by decide +kernel, by decide +kernel⟩
theorem my_X11_gameOf : MyV yX11_gameOf cX11_gameOf 8 (some .int) 5 := ⟨⟨allT8 189 (by decide +kernel) rfl, allIdx 104 (by decide +kernel) rfl, allT1 12 (by decide +kernel) rfl, allT8 190 (by decide +kernel) rfl⟩, by decide +kernel, by decide +kernel, by decide +kernel⟩
theorem my_X11_goHolder : MyV yX11_goHolder cX11_goHolder 5 none 2 := ⟨⟨allT8 44 (by decide +kernel) rfl, allIdx 92 (by decide +kernel) rfl, allT1 12 (by decide +kernel) rfl, allT8 45 (by decide +kernel) rfl⟩, by decide +kernel, by decide +kernel, by decide +kernel⟩
theorem my_X11_goNow : MyV yX11_goNow cX11_goNow 2 (some .int) 0 := ⟨⟨allT8 36 (by decide +kernel) rfl, allIdx 90 (by decide +kernel) rfl, allT1 12 (by decide +kernel) rfl, allT8 37 (by decide +kernel) rfl⟩, by decide +kernel, by decide +kernel, by decide +kernel⟩
theorem my_X11_goOrders : MyV yX11_goOrders cX11_goOrders 5 none 3 := ⟨⟨allT8 148 (by decide +kernel) rfl, allIdx 100 (by decide +kernel) rfl, allT1 12 (by decide +kernel) rfl, allT8 149 (by decide +kernel) rfl⟩, by decide +kernel, by decide +kernel, by decide +kernel⟩
theorem my_X11_goSeeker : MyV yX11_goSeeker cX11_goSeeker 7 none 2 := ⟨⟨allT8 48 (by decide +kernel) rfl, allIdx 93 (by decide +kernel) rfl, allT1 12 (by decide +kernel) rfl, allT8 49 (by decide +kernel) rfl⟩, by decide +kernel, by decide +kernel, by decide +kernel⟩
theorem my_X11_goThrough : MyV yX11_goThrough cX11_goThrough 4 none 3 := ⟨⟨allT7 63 (by decide +kernel) rfl, allIdx 58 (by decide +kernel) rfl, allT1 12 (by decide +kernel) rfl, allT7 64 (by decide +kernel) rfl⟩, by decide +kernel, by decide +kernel, by decide +kernel⟩
theorem my_X11_goesBack : MyV yX11_goesBack cX11_goesBack 6 (some .int) 2 := ⟨⟨allT8 5 (by decide +kernel) rfl, allIdx 87 (by decide +kernel) rfl, allT1 12 (by decide +kernel) rfl, allT8 6 (by decide +kernel) rfl⟩, by decide +kernel, by decide +kernel, by decide +kernel⟩
theorem my_X11_goesIn : MyV yX11_goesIn cX11_goesIn 1 (some .boolean) 0 := ⟨⟨allT7 102 (by decide +kernel) rfl, allIdx 67 (by decide +kernel) rfl, allT1 12 (by decide +kernel) rfl, allT7 103 (by decide +kernel) rfl⟩, by decide +kernel, by decide +kernel, by decide +kernel⟩
theorem my_X11_greatest : MyV yX11_greatest cX11_greatest 4 (some .int) 1 := ⟨⟨allT8 214 (by decide +kernel) rfl, allIdx 106 (by decide +kernel) rfl, allT1 12 (by decide +kernel) rfl, allT8 215 (by decide +kernel) rfl⟩, by decide +kernel, by decide +kernel, by decide +kernel⟩
theorem my_X11_has : MyS yX11_has cX11_has 2 (some .boolean) 2 := ⟨⟨allT7 39 (by decide +kernel) rfl, allT1 12 (by decide +kernel) rfl, allT7 40 (by decide +kernel) rfl⟩, by decide +kernel, by decide +kernel, by decide +kernel⟩
theorem my_X11_hasBill : MyS yX11_hasBill cX11_hasBill 4 (some .boolean) 3 := ⟨⟨allT8 51 (by decide +kernel) rfl, allT1 12 (by decide +kernel) rfl, allT8 52 (by decide +kernel) rfl⟩, by decide +kernel, by decide +kernel, by decide +kernel⟩
theorem my_X11_here : MyV yX11_here cX11_here 1 (some .int) 0 := ⟨⟨allT7 57 (by decide +kernel) rfl, allIdx 57 (by decide +kernel) rfl, allT1 12 (by decide +kernel) rfl, allT7 58 (by decide +kernel) rfl⟩, by decide +kernel, by decide +kernel, by decide +kernel⟩
theorem my_X11_holders : MyV yX11_holders cX11_holders 4 (some .int) 1 := ⟨⟨allT8 59 (by decide +kernel) rfl, allIdx 95 (by decide +kernel) rfl, allT1 12 (by decide +kernel) rfl, allT8 60 (by decide +kernel) rfl⟩, by decide +kernel, by decide +kernel, by decide +kernel⟩
theorem my_X11_holds : MyV yX11_holds cX11_holds 4 (some .int) 2 := ⟨⟨allT7 165 (by decide +kernel) rfl, allIdx 75 (by decide +kernel) rfl, allT1 12 (by decide +kernel) rfl, allT7 166 (by decide +kernel) rfl⟩, by decide +kernel, by decide +kernel, by decide +kernel⟩
theorem my_X11_isAmong : MyS yX11_isAmong cX11_isAmong 3 (some .boolean) 2 := ⟨⟨allT7 70 (by decide +kernel) rfl, allT1 12 (by decide +kernel) rfl, allT7 71 (by decide +kernel) rfl⟩, by decide +kernel, by decide +kernel, by decide +kernel⟩
theorem my_X11_isBuyer : MyV yX11_isBuyer cX11_isBuyer 2 (some .boolean) 1 := ⟨⟨allT7 160 (by decide +kernel) rfl, allIdx 74 (by decide +kernel) rfl, allT1 12 (by decide +kernel) rfl, allT7 161 (by decide +kernel) rfl⟩, by decide +kernel, by decide +kernel, by decide +kernel⟩
theorem my_X11_isDigit : MyV yX11_isDigit cX11_isDigit 1 (some .boolean) 0 := ⟨⟨allT7 53 (by decide +kernel) rfl, allIdx 56 (by decide +kernel) rfl, allT1 12 (by decide +kernel) rfl, allT7 54 (by decide +kernel) rfl⟩, by decide +kernel, by decide +kernel, by decide +kernel⟩
theorem my_X11_isFree : MyV yX11_isFree cX11_isFree 3 (some .boolean) 2 := ⟨⟨allT7 229 (by decide +kernel) rfl, allIdx 83 (by decide +kernel) rfl, allT1 12 (by decide +kernel) rfl, allT7 230 (by decide +kernel) rfl⟩, by decide +kernel, by decide +kernel, by decide +kernel⟩
theorem my_X11_isIn : MyS yX11_isIn cX11_isIn 6 (some .boolean) 3 := ⟨⟨allT6 197 (by decide +kernel) rfl, allT1 12 (by decide +kernel) rfl, allT6 198 (by decide +kernel) rfl⟩, by decide +kernel, by decide +kernel, by decide +kernel⟩
theorem my_X11_isPlan : MyV yX11_isPlan cX11_isPlan 2 (some .boolean) 1 := ⟨⟨allT8 105 (by decide +kernel) rfl, allIdx 97 (by decide +kernel) rfl, allT1 12 (by decide +kernel) rfl, allT8 106 (by decide +kernel) rfl⟩, by decide +kernel, by decide +kernel, by decide +kernel⟩
theorem my_X11_isSign : MyS yX11_isSign cX11_isSign 1 (some .boolean) 1 := ⟨⟨allT7 116 (by decide +kernel) rfl, allT1 12 (by decide +kernel) rfl, allT7 117 (by decide +kernel) rfl⟩, by decide +kernel, by decide +kernel, by decide +kernel⟩
theorem my_X11_isThing : MyV yX11_isThing cX11_isThing 2 (some .boolean) 1 := ⟨⟨allT7 150 (by decide +kernel) rfl, allIdx 73 (by decide +kernel) rfl, allT1 12 (by decide +kernel) rfl, allT7 151 (by decide +kernel) rfl⟩, by decide +kernel, by decide +kernel, by decide +kernel⟩
theorem my_X11_lays : MyV yX11_lays cX11_lays 3 none 1 := ⟨⟨allT7 142 (by decide +kernel) rfl, allIdx 72 (by decide +kernel) rfl, allT1 12 (by decide +kernel) rfl, allT7 143 (by decide +kernel) rfl⟩, by decide +kernel, by decide +kernel, by decide +kernel⟩
theorem my_X11_laysDesires : MyV yX11_laysDesires cX11_laysDesires 5 (some .int) 1 := ⟨⟨allT8 173 (by decide +kernel) rfl, allIdx 102 (by decide +kernel) rfl, allT1 12 (by decide +kernel) rfl, allT8 174 (by decide +kernel) rfl⟩, by decide +kernel, by decide +kernel, by decide +kernel⟩
theorem my_X11_laysTrial : MyV yX11_laysTrial cX11_laysTrial 3 none 1 := ⟨⟨allT8 132 (by decide +kernel) rfl, allIdx 99 (by decide +kernel) rfl, allT1 12 (by decide +kernel) rfl, allT8 133 (by decide +kernel) rfl⟩, by decide +kernel, by decide +kernel, by decide +kernel⟩
theorem my_X11_leastOf : MyS yX11_leastOf cX11_leastOf 2 (some .int) 2 := ⟨⟨allT7 42 (by decide +kernel) rfl, allT1 12 (by decide +kernel) rfl, allT7 43 (by decide +kernel) rfl⟩, by decide +kernel, by decide +kernel, by decide +kernel⟩
theorem my_X11_likingOf : MyV yX11_likingOf cX11_likingOf 4 (some .int) 3 := ⟨⟨allT7 180 (by decide +kernel) rfl, allIdx 77 (by decide +kernel) rfl, allT1 12 (by decide +kernel) rfl, allT7 181 (by decide +kernel) rfl⟩, by decide +kernel, by decide +kernel, by decide +kernel⟩
theorem my_X11_look : MyV yX11_look cX11_look 1 (some .int) 0 := ⟨⟨allT6 216 (by decide +kernel) rfl, allIdx 52 (by decide +kernel) rfl, allT1 12 (by decide +kernel) rfl, allT6 217 (by decide +kernel) rfl⟩, by decide +kernel, by decide +kernel, by decide +kernel⟩
theorem my_X11_mostOf : MyS yX11_mostOf cX11_mostOf 2 (some .int) 2 := ⟨⟨allT7 45 (by decide +kernel) rfl, allT1 12 (by decide +kernel) rfl, allT7 46 (by decide +kernel) rfl⟩, by decide +kernel, by decide +kernel, by decide +kernel⟩
theorem my_X11_number : MyV yX11_number cX11_number 5 (some .int) 2 := ⟨⟨allT7 49 (by decide +kernel) rfl, allIdx 55 (by decide +kernel) rfl, allT1 12 (by decide +kernel) rfl, allT7 50 (by decide +kernel) rfl⟩, by decide +kernel, by decide +kernel, by decide +kernel⟩
theorem my_X11_oddsFrom : MyV yX11_oddsFrom cX11_oddsFrom 9 (some .int) 4 := ⟨⟨allT8 202 (by decide +kernel) rfl, allIdx 105 (by decide +kernel) rfl, allT1 12 (by decide +kernel) rfl, allT8 203 (by decide +kernel) rfl⟩, by decide +kernel, by decide +kernel, by decide +kernel⟩
theorem my_X11_part : MyV yX11_part cX11_part 5 (some .boolean) 2 := ⟨⟨allT7 82 (by decide +kernel) rfl, allIdx 62 (by decide +kernel) rfl, allT1 12 (by decide +kernel) rfl, allT7 83 (by decide +kernel) rfl⟩, by decide +kernel, by decide +kernel, by decide +kernel⟩
theorem my_X11_passes : MyV yX11_passes cX11_passes 3 none 1 := ⟨⟨allT8 40 (by decide +kernel) rfl, allIdx 91 (by decide +kernel) rfl, allT1 12 (by decide +kernel) rfl, allT8 41 (by decide +kernel) rfl⟩, by decide +kernel, by decide +kernel, by decide +kernel⟩
theorem my_X11_paysAll : MyV yX11_paysAll cX11_paysAll 4 none 1 := ⟨⟨allT8 55 (by decide +kernel) rfl, allIdx 94 (by decide +kernel) rfl, allT1 12 (by decide +kernel) rfl, allT8 56 (by decide +kernel) rfl⟩, by decide +kernel, by decide +kernel, by decide +kernel⟩
theorem my_X11_put : MyV yX11_put cX11_put 3 none 1 := ⟨⟨allT6 185 (by decide +kernel) rfl, allIdx 48 (by decide +kernel) rfl, allT1 12 (by decide +kernel) rfl, allT6 186 (by decide +kernel) rfl⟩, by decide +kernel, by decide +kernel, by decide +kernel⟩
theorem my_X11_readCity : MyV yX11_readCity cX11_readCity 2 none 0 := ⟨⟨allT6 201 (by decide +kernel) rfl, allIdx 49 (by decide +kernel) rfl, allT1 12 (by decide +kernel) rfl, allT6 202 (by decide +kernel) rfl⟩, by decide +kernel, by decide +kernel, by decide +kernel⟩
theorem my_X11_readClause : MyV yX11_readClause cX11_readClause 3 none 0 := ⟨⟨allT6 212 (by decide +kernel) rfl, allIdx 51 (by decide +kernel) rfl, allT1 12 (by decide +kernel) rfl, allT6 213 (by decide +kernel) rfl⟩, by decide +kernel, by decide +kernel, by decide +kernel⟩
theorem my_X11_readItems : MyV yX11_readItems cX11_readItems 7 none 4 := ⟨⟨allT6 225 (by decide +kernel) rfl, allIdx 54 (by decide +kernel) rfl, allT1 12 (by decide +kernel) rfl, allT6 226 (by decide +kernel) rfl⟩, by decide +kernel, by decide +kernel, by decide +kernel⟩
theorem my_X11_readPlan : MyV yX11_readPlan cX11_readPlan 3 none 0 := ⟨⟨allT7 124 (by decide +kernel) rfl, allIdx 69 (by decide +kernel) rfl, allT1 12 (by decide +kernel) rfl, allT7 125 (by decide +kernel) rfl⟩, by decide +kernel, by decide +kernel, by decide +kernel⟩
theorem my_X11_readStep : MyV yX11_readStep cX11_readStep 3 none 1 := ⟨⟨allT7 128 (by decide +kernel) rfl, allIdx 70 (by decide +kernel) rfl, allT1 12 (by decide +kernel) rfl, allT7 129 (by decide +kernel) rfl⟩, by decide +kernel, by decide +kernel, by decide +kernel⟩
theorem my_X11_refused : MyV yX11_refused cX11_refused 2 (some .int) 1 := ⟨⟨allT7 233 (by decide +kernel) rfl, allIdx 84 (by decide +kernel) rfl, allT1 12 (by decide +kernel) rfl, allT7 234 (by decide +kernel) rfl⟩, by decide +kernel, by decide +kernel, by decide +kernel⟩
theorem my_X11_remember : MyV yX11_remember cX11_remember 2 none 0 := ⟨⟨allT7 237 (by decide +kernel) rfl, allIdx 85 (by decide +kernel) rfl, allT1 12 (by decide +kernel) rfl, allT7 238 (by decide +kernel) rfl⟩, by decide +kernel, by decide +kernel, by decide +kernel⟩
theorem my_X11_spotOf : MyS yX11_spotOf cX11_spotOf 3 (some .int) 2 := ⟨⟨allT6 238 (by decide +kernel) rfl, allT1 12 (by decide +kernel) rfl, allT6 239 (by decide +kernel) rfl⟩, by decide +kernel, by decide +kernel, by decide +kernel⟩
theorem my_X11_starts : MyV yX11_starts cX11_starts 4 none 3 := ⟨⟨allT6 205 (by decide +kernel) rfl, allIdx 50 (by decide +kernel) rfl, allT1 12 (by decide +kernel) rfl, allT6 206 (by decide +kernel) rfl⟩, by decide +kernel, by decide +kernel, by decide +kernel⟩
theorem my_X11_stops : MyV yX11_stops cX11_stops 6 (some .int) 4 := ⟨⟨allT7 225 (by decide +kernel) rfl, allIdx 82 (by decide +kernel) rfl, allT1 12 (by decide +kernel) rfl, allT7 226 (by decide +kernel) rfl⟩, by decide +kernel, by decide +kernel, by decide +kernel⟩
theorem my_X11_strikes : MyS yX11_strikes cX11_strikes 3 none 2 := ⟨⟨allT8 12 (by decide +kernel) rfl, allT1 12 (by decide +kernel) rfl, allT8 13 (by decide +kernel) rfl⟩, by decide +kernel, by decide +kernel, by decide +kernel⟩
theorem my_X11_sum : MyV yX11_sum cX11_sum 5 (some .int) 0 := ⟨⟨allT7 90 (by decide +kernel) rfl, allIdx 64 (by decide +kernel) rfl, allT1 12 (by decide +kernel) rfl, allT7 91 (by decide +kernel) rfl⟩, by decide +kernel, by decide +kernel, by decide +kernel⟩
theorem my_X11_takes : MyV yX11_takes cX11_takes 2 (some .boolean) 1 := ⟨⟨allT7 74 (by decide +kernel) rfl, allIdx 60 (by decide +kernel) rfl, allT1 12 (by decide +kernel) rfl, allT7 75 (by decide +kernel) rfl⟩, by decide +kernel, by decide +kernel, by decide +kernel⟩
theorem my_X11_term : MyV yX11_term cX11_term 5 (some .int) 0 := ⟨⟨allT7 94 (by decide +kernel) rfl, allIdx 65 (by decide +kernel) rfl, allT1 12 (by decide +kernel) rfl, allT7 95 (by decide +kernel) rfl⟩, by decide +kernel, by decide +kernel, by decide +kernel⟩
theorem my_X11_thoseThings : MyV yX11_thoseThings cX11_thoseThings 4 (some .int) 1 := ⟨⟨allT8 226 (by decide +kernel) rfl, allIdx 109 (by decide +kernel) rfl, allT1 12 (by decide +kernel) rfl, allT8 227 (by decide +kernel) rfl⟩, by decide +kernel, by decide +kernel, by decide +kernel⟩
theorem my_X11_tries : MyV yX11_tries cX11_tries 5 (some .int) 3 := ⟨⟨allT7 221 (by decide +kernel) rfl, allIdx 81 (by decide +kernel) rfl, allT1 12 (by decide +kernel) rfl, allT7 222 (by decide +kernel) rfl⟩, by decide +kernel, by decide +kernel, by decide +kernel⟩
theorem my_X11_triesOrder : MyV yX11_triesOrder cX11_triesOrder 7 none 1 := ⟨⟨allT8 152 (by decide +kernel) rfl, allIdx 101 (by decide +kernel) rfl, allT1 12 (by decide +kernel) rfl, allT8 153 (by decide +kernel) rfl⟩, by decide +kernel, by decide +kernel, by decide +kernel⟩
theorem my_X11_unit : MyV yX11_unit cX11_unit 3 (some .boolean) 0 := ⟨⟨allT7 120 (by decide +kernel) rfl, allIdx 68 (by decide +kernel) rfl, allT1 12 (by decide +kernel) rfl, allT7 121 (by decide +kernel) rfl⟩, by decide +kernel, by decide +kernel, by decide +kernel⟩
theorem my_X11_usual : MyS yX11_usual cX11_usual 2 (some .int) 2 := ⟨⟨allT6 208 (by decide +kernel) rfl, allT1 12 (by decide +kernel) rfl, allT6 209 (by decide +kernel) rfl⟩, by decide +kernel, by decide +kernel, by decide +kernel⟩
theorem my_X11_valueOf : MyV yX11_valueOf cX11_valueOf 3 (some .int) 2 := ⟨⟨allT8 218 (by decide +kernel) rfl, allIdx 107 (by decide +kernel) rfl, allT1 12 (by decide +kernel) rfl, allT8 219 (by decide +kernel) rfl⟩, by decide +kernel, by decide +kernel, by decide +kernel⟩
theorem my_X11_wanted : MyV yX11_wanted cX11_wanted 4 (some .int) 1 := ⟨⟨allT8 222 (by decide +kernel) rfl, allIdx 108 (by decide +kernel) rfl, allT1 12 (by decide +kernel) rfl, allT8 223 (by decide +kernel) rfl⟩, by decide +kernel, by decide +kernel, by decide +kernel⟩
theorem my_X11_weightOf : MyV yX11_weightOf cX11_weightOf 2 (some .int) 1 := ⟨⟨allT7 188 (by decide +kernel) rfl, allIdx 79 (by decide +kernel) rfl, allT1 12 (by decide +kernel) rfl, allT7 189 (by decide +kernel) rfl⟩, by decide +kernel, by decide +kernel, by decide +kernel⟩
theorem my_X11_within : MyS yX11_within cX11_within 2 (some .int) 1 := ⟨⟨allT7 105 (by decide +kernel) rfl, allT1 12 (by decide +kernel) rfl, allT7 106 (by decide +kernel) rfl⟩, by decide +kernel, by decide +kernel, by decide +kernel⟩
theorem my_X11_worthOf : MyV yX11_worthOf cX11_worthOf 10 (some .int) 6 := ⟨⟨allT7 193 (by decide +kernel) rfl, allIdx 80 (by decide +kernel) rfl, allT1 12 (by decide +kernel) rfl, allT7 194 (by decide +kernel) rfl⟩, by decide +kernel, by decide +kernel, by decide +kernel⟩
theorem my_X1_clauseReads : MyV yX1_clauseReads cX1_clauseReads 2 (some .boolean) 1 := ⟨⟨allT2 187 (by decide +kernel) rfl, allIdx 0 (by decide +kernel) rfl, allT1 7 (by decide +kernel) rfl, allT2 188 (by decide +kernel) rfl⟩, by decide +kernel, by decide +kernel, by decide +kernel⟩
theorem my_X1_desireTold : MyV yX1_desireTold cX1_desireTold 2 (some .int) 1 := ⟨⟨allT3 90 (by decide +kernel) rfl, allT3 91 (by decide +kernel) rfl, allT1 7 (by decide +kernel) rfl, allT3 92 (by decide +kernel) rfl⟩, by decide +kernel, by decide +kernel, by decide +kernel⟩
theorem my_X1_hoursToComeBack : MyV yX1_hoursToComeBack cX1_hoursToComeBack 1 (some .int) 0 := ⟨⟨allT4 19 (by decide +kernel) rfl, allT4 20 (by decide +kernel) rfl, allT1 7 (by decide +kernel) rfl, allT4 21 (by decide +kernel) rfl⟩, by decide +kernel, by decide +kernel, by decide +kernel⟩
theorem my_X1_income : MyV yX1_income cX1_income 1 (some .int) 0 := ⟨⟨allT4 79 (by decide +kernel) rfl, allT4 80 (by decide +kernel) rfl, allT1 7 (by decide +kernel) rfl, allT4 81 (by decide +kernel) rfl⟩, by decide +kernel, by decide +kernel, by decide +kernel⟩
theorem my_X1_itemOf : MyV yX1_itemOf cX1_itemOf 5 (some .int) 3 := ⟨⟨allT2 204 (by decide +kernel) rfl, allIdx 2 (by decide +kernel) rfl, allT1 7 (by decide +kernel) rfl, allT2 205 (by decide +kernel) rfl⟩, by decide +kernel, by decide +kernel, by decide +kernel⟩
theorem my_X1_itemsRead : MyV yX1_itemsRead cX1_itemsRead 10 (some .boolean) 5 := ⟨⟨allT2 199 (by decide +kernel) rfl, allIdx 1 (by decide +kernel) rfl, allT1 7 (by decide +kernel) rfl, allT2 200 (by decide +kernel) rfl⟩, by decide +kernel, by decide +kernel, by decide +kernel⟩
theorem my_X1_kindOf : MyV yX1_kindOf cX1_kindOf 2 (some .int) 1 := ⟨⟨allT3 226 (by decide +kernel) rfl, allT3 227 (by decide +kernel) rfl, allT1 7 (by decide +kernel) rfl, allT3 228 (by decide +kernel) rfl⟩, by decide +kernel, by decide +kernel, by decide +kernel⟩
theorem my_X1_michaelmas : MyV yX1_michaelmas cX1_michaelmas 1 (some .int) 0 := ⟨⟨allT4 71 (by decide +kernel) rfl, allT4 72 (by decide +kernel) rfl, allT1 7 (by decide +kernel) rfl, allT4 73 (by decide +kernel) rfl⟩, by decide +kernel, by decide +kernel, by decide +kernel⟩
theorem my_X1_nerveOf : MyV yX1_nerveOf cX1_nerveOf 2 (some .int) 1 := ⟨⟨allT4 58 (by decide +kernel) rfl, allT4 59 (by decide +kernel) rfl, allT1 7 (by decide +kernel) rfl, allT4 60 (by decide +kernel) rfl⟩, by decide +kernel, by decide +kernel, by decide +kernel⟩
theorem my_X1_priceOf : MyV yX1_priceOf cX1_priceOf 2 (some .int) 1 := ⟨⟨allT3 123 (by decide +kernel) rfl, allT3 124 (by decide +kernel) rfl, allT1 7 (by decide +kernel) rfl, allT3 125 (by decide +kernel) rfl⟩, by decide +kernel, by decide +kernel, by decide +kernel⟩
theorem my_X1_purseTold : MyV yX1_purseTold cX1_purseTold 2 (some .int) 1 := ⟨⟨allT3 86 (by decide +kernel) rfl, allT3 87 (by decide +kernel) rfl, allT1 7 (by decide +kernel) rfl, allT3 88 (by decide +kernel) rfl⟩, by decide +kernel, by decide +kernel, by decide +kernel⟩
theorem my_X1_rateTold : MyV yX1_rateTold cX1_rateTold 1 (some .int) 0 := ⟨⟨allT3 94 (by decide +kernel) rfl, allT3 95 (by decide +kernel) rfl, allT1 7 (by decide +kernel) rfl, allT3 96 (by decide +kernel) rfl⟩, by decide +kernel, by decide +kernel, by decide +kernel⟩
theorem my_X1_read : MyV yX1_read cX1_read 3 (some .int) 1 := ⟨⟨allT2 177 (by decide +kernel) rfl, allT2 178 (by decide +kernel) rfl, allT1 7 (by decide +kernel) rfl, allT2 179 (by decide +kernel) rfl⟩, by decide +kernel, by decide +kernel, by decide +kernel⟩
theorem my_X1_shopOf : MyV yX1_shopOf cX1_shopOf 2 (some .int) 1 := ⟨⟨allT3 127 (by decide +kernel) rfl, allT3 128 (by decide +kernel) rfl, allT1 7 (by decide +kernel) rfl, allT3 129 (by decide +kernel) rfl⟩, by decide +kernel, by decide +kernel, by decide +kernel⟩
theorem my_X1_weightTold : MyV yX1_weightTold cX1_weightTold 2 (some .int) 1 := ⟨⟨allT3 82 (by decide +kernel) rfl, allT3 83 (by decide +kernel) rfl, allT1 7 (by decide +kernel) rfl, allT3 84 (by decide +kernel) rfl⟩, by decide +kernel, by decide +kernel, by decide +kernel⟩
theorem my_X2_part : MyV yX2_part cX2_part 3 (some .int) 2 := ⟨⟨allT4 152 (by decide +kernel) rfl, allT4 153 (by decide +kernel) rfl, allT1 11 (by decide +kernel) rfl, allT4 154 (by decide +kernel) rfl⟩, by decide +kernel, by decide +kernel, by decide +kernel⟩
theorem my_X2_read : MyV yX2_read cX2_read 2 (some .int) 1 := ⟨⟨allT3 45 (by decide +kernel) rfl, allT3 46 (by decide +kernel) rfl, allT1 11 (by decide +kernel) rfl, allT3 47 (by decide +kernel) rfl⟩, by decide +kernel, by decide +kernel, by decide +kernel⟩
theorem my_X2_stepReads : MyV yX2_stepReads cX2_stepReads 6 (some .boolean) 2 := ⟨⟨allT3 54 (by decide +kernel) rfl, allIdx 17 (by decide +kernel) rfl, allT1 11 (by decide +kernel) rfl, allT3 55 (by decide +kernel) rfl⟩, by decide +kernel, by decide +kernel, by decide +kernel⟩
theorem my_X2_stepsRead : MyV yX2_stepsRead cX2_stepsRead 4 (some .boolean) 1 := ⟨⟨allT3 50 (by decide +kernel) rfl, allIdx 16 (by decide +kernel) rfl, allT1 11 (by decide +kernel) rfl, allT3 51 (by decide +kernel) rfl⟩, by decide +kernel, by decide +kernel, by decide +kernel⟩
theorem my_X3_fits : MyV yX3_fits cX3_fits 3 (some .boolean) 1 := ⟨⟨allT5 36 (by decide +kernel) rfl, allIdx 36 (by decide +kernel) rfl, allT1 9 (by decide +kernel) rfl, allT5 37 (by decide +kernel) rfl⟩, by decide +kernel, by decide +kernel, by decide +kernel⟩
theorem my_X3_fitting : MyV yX3_fitting cX3_fitting 3 (some .int) 0 := ⟨⟨allT5 31 (by decide +kernel) rfl, allT5 32 (by decide +kernel) rfl, allT1 9 (by decide +kernel) rfl, allT5 33 (by decide +kernel) rfl⟩, by decide +kernel, by decide +kernel, by decide +kernel⟩
theorem my_X3_foretell : MyV yX3_foretell cX3_foretell 6 none 3 := ⟨⟨allT5 24 (by decide +kernel) rfl, allT5 25 (by decide +kernel) rfl, allT1 9 (by decide +kernel) rfl, allT5 26 (by decide +kernel) rfl⟩, by decide +kernel, by decide +kernel, by decide +kernel⟩
theorem my_X3_forget : MyV yX3_forget cX3_forget 1 none 0 := ⟨⟨allT3 102 (by decide +kernel) rfl, allT3 103 (by decide +kernel) rfl, allT1 9 (by decide +kernel) rfl, allT3 104 (by decide +kernel) rfl⟩, by decide +kernel, by decide +kernel, by decide +kernel⟩
theorem my_X3_hoursToAsk : MyV yX3_hoursToAsk cX3_hoursToAsk 6 (some .int) 0 := ⟨⟨allT5 53 (by decide +kernel) rfl, allT5 54 (by decide +kernel) rfl, allT1 9 (by decide +kernel) rfl, allT5 55 (by decide +kernel) rfl⟩, by decide +kernel, by decide +kernel, by decide +kernel⟩
theorem my_X3_latestSeen : MyV yX3_latestSeen cX3_latestSeen 3 (some .int) 0 := ⟨⟨allT5 19 (by decide +kernel) rfl, allT5 20 (by decide +kernel) rfl, allT1 9 (by decide +kernel) rfl, allT5 21 (by decide +kernel) rfl⟩, by decide +kernel, by decide +kernel, by decide +kernel⟩
theorem my_X3_mostAgreeing : MyV yX3_mostAgreeing cX3_mostAgreeing 7 (some .int) 2 := ⟨⟨allT5 59 (by decide +kernel) rfl, allIdx 38 (by decide +kernel) rfl, allT1 9 (by decide +kernel) rfl, allT5 60 (by decide +kernel) rfl⟩, by decide +kernel, by decide +kernel, by decide +kernel⟩
theorem my_X3_noteSeen : MyV yX3_noteSeen cX3_noteSeen 4 (some .int) 3 := ⟨⟨allT5 11 (by decide +kernel) rfl, allT5 12 (by decide +kernel) rfl, allT1 9 (by decide +kernel) rfl, allT5 13 (by decide +kernel) rfl⟩, by decide +kernel, by decide +kernel, by decide +kernel⟩
theorem my_X4_forget : MyV yX4_forget cX4_forget 1 none 0 := ⟨⟨allT3 98 (by decide +kernel) rfl, allT3 99 (by decide +kernel) rfl, allT1 4 (by decide +kernel) rfl, allT3 100 (by decide +kernel) rfl⟩, by decide +kernel, by decide +kernel, by decide +kernel⟩
theorem my_X4_keep : MyV yX4_keep cX4_keep 2 none 1 := ⟨⟨allT3 193 (by decide +kernel) rfl, allT3 194 (by decide +kernel) rfl, allT1 4 (by decide +kernel) rfl, allT3 195 (by decide +kernel) rfl⟩, by decide +kernel, by decide +kernel, by decide +kernel⟩
theorem my_X4_restore : MyV yX4_restore cX4_restore 2 none 1 := ⟨⟨allT4 140 (by decide +kernel) rfl, allT4 141 (by decide +kernel) rfl, allT1 4 (by decide +kernel) rfl, allT4 142 (by decide +kernel) rfl⟩, by decide +kernel, by decide +kernel, by decide +kernel⟩
theorem my_X5_answerReads : MyV yX5_answerReads cX5_answerReads 3 (some .boolean) 1 := ⟨⟨allT3 42 (by decide +kernel) rfl, allIdx 15 (by decide +kernel) rfl, allT1 6 (by decide +kernel) rfl, allT3 43 (by decide +kernel) rfl⟩, by decide +kernel, by decide +kernel, by decide +kernel⟩
theorem my_X5_atomReads : MyV yX5_atomReads cX5_atomReads 5 (some .boolean) 2 := ⟨⟨allT3 16 (by decide +kernel) rfl, allIdx 9 (by decide +kernel) rfl, allT1 6 (by decide +kernel) rfl, allT3 17 (by decide +kernel) rfl⟩, by decide +kernel, by decide +kernel, by decide +kernel⟩
theorem my_X5_clauseReads : MyV yX5_clauseReads cX5_clauseReads 3 (some .boolean) 1 := ⟨⟨allT2 230 (by decide +kernel) rfl, allIdx 3 (by decide +kernel) rfl, allT1 6 (by decide +kernel) rfl, allT2 231 (by decide +kernel) rfl⟩, by decide +kernel, by decide +kernel, by decide +kernel⟩
theorem my_X5_comparisonReads : MyV yX5_comparisonReads cX5_comparisonReads 4 (some .boolean) 2 := ⟨⟨allT3 26 (by decide +kernel) rfl, allIdx 11 (by decide +kernel) rfl, allT1 6 (by decide +kernel) rfl, allT3 27 (by decide +kernel) rfl⟩, by decide +kernel, by decide +kernel, by decide +kernel⟩
theorem my_X5_conditionGoesOn : MyV yX5_conditionGoesOn cX5_conditionGoesOn 4 (some .boolean) 2 := ⟨⟨allT3 38 (by decide +kernel) rfl, allIdx 14 (by decide +kernel) rfl, allT1 6 (by decide +kernel) rfl, allT3 39 (by decide +kernel) rfl⟩, by decide +kernel, by decide +kernel, by decide +kernel⟩
theorem my_X5_conditionReads : MyV yX5_conditionReads cX5_conditionReads 3 (some .boolean) 2 := ⟨⟨allT2 236 (by decide +kernel) rfl, allIdx 4 (by decide +kernel) rfl, allT1 6 (by decide +kernel) rfl, allT2 237 (by decide +kernel) rfl⟩, by decide +kernel, by decide +kernel, by decide +kernel⟩
theorem my_X5_isComparison : MyV yX5_isComparison cX5_isComparison 2 (some .boolean) 1 := ⟨⟨allT3 30 (by decide +kernel) rfl, allIdx 12 (by decide +kernel) rfl, allT1 6 (by decide +kernel) rfl, allT3 31 (by decide +kernel) rfl⟩, by decide +kernel, by decide +kernel, by decide +kernel⟩
theorem my_X5_joined : MyV yX5_joined cX5_joined 6 (some .int) 3 := ⟨⟨allT3 150 (by decide +kernel) rfl, allIdx 21 (by decide +kernel) rfl, allT1 6 (by decide +kernel) rfl, allT3 151 (by decide +kernel) rfl⟩, by decide +kernel, by decide +kernel, by decide +kernel⟩
theorem my_X5_put : MyV yX5_put cX5_put 2 none 1 := ⟨⟨allT3 21 (by decide +kernel) rfl, allIdx 10 (by decide +kernel) rfl, allT1 6 (by decide +kernel) rfl, allT3 22 (by decide +kernel) rfl⟩, by decide +kernel, by decide +kernel, by decide +kernel⟩
theorem my_X5_read : MyV yX5_read cX5_read 3 (some .int) 1 := ⟨⟨allT2 225 (by decide +kernel) rfl, allT2 226 (by decide +kernel) rfl, allT1 6 (by decide +kernel) rfl, allT2 227 (by decide +kernel) rfl⟩, by decide +kernel, by decide +kernel, by decide +kernel⟩
theorem my_X5_sumReads : MyV yX5_sumReads cX5_sumReads 5 (some .boolean) 2 := ⟨⟨allT3 8 (by decide +kernel) rfl, allIdx 7 (by decide +kernel) rfl, allT1 6 (by decide +kernel) rfl, allT3 9 (by decide +kernel) rfl⟩, by decide +kernel, by decide +kernel, by decide +kernel⟩
theorem my_X5_termReads : MyV yX5_termReads cX5_termReads 5 (some .boolean) 2 := ⟨⟨allT3 12 (by decide +kernel) rfl, allIdx 8 (by decide +kernel) rfl, allT1 6 (by decide +kernel) rfl, allT3 13 (by decide +kernel) rfl⟩, by decide +kernel, by decide +kernel, by decide +kernel⟩
theorem my_X5_truthGoesOn : MyV yX5_truthGoesOn cX5_truthGoesOn 4 (some .boolean) 2 := ⟨⟨allT3 34 (by decide +kernel) rfl, allIdx 13 (by decide +kernel) rfl, allT1 6 (by decide +kernel) rfl, allT3 35 (by decide +kernel) rfl⟩, by decide +kernel, by decide +kernel, by decide +kernel⟩
theorem my_X5_truthReads : MyV yX5_truthReads cX5_truthReads 3 (some .boolean) 2 := ⟨⟨allT3 0 (by decide +kernel) rfl, allIdx 5 (by decide +kernel) rfl, allT1 6 (by decide +kernel) rfl, allT3 1 (by decide +kernel) rfl⟩, by decide +kernel, by decide +kernel, by decide +kernel⟩
theorem my_X5_unitReads : MyV yX5_unitReads cX5_unitReads 4 (some .boolean) 2 := ⟨⟨allT3 4 (by decide +kernel) rfl, allIdx 6 (by decide +kernel) rfl, allT1 6 (by decide +kernel) rfl, allT3 5 (by decide +kernel) rfl⟩, by decide +kernel, by decide +kernel, by decide +kernel⟩
theorem my_X5_worth : MyV yX5_worth cX5_worth 6 (some .int) 1 := ⟨⟨allT3 145 (by decide +kernel) rfl, allT3 146 (by decide +kernel) rfl, allT1 6 (by decide +kernel) rfl, allT3 147 (by decide +kernel) rfl⟩, by decide +kernel, by decide +kernel, by decide +kernel⟩
theorem my_X6_behind : MyV yX6_behind cX6_behind 5 (some (.object "NearlyBought$State")) 3 := ⟨⟨allT4 192 (by decide +kernel) rfl, allT4 193 (by decide +kernel) rfl, allT1 8 (by decide +kernel) rfl, allT4 194 (by decide +kernel) rfl⟩, by decide +kernel, by decide +kernel, by decide +kernel⟩
theorem my_X6_hoursToSell : MyV yX6_hoursToSell cX6_hoursToSell 7 (some .int) 5 := ⟨⟨allT5 4 (by decide +kernel) rfl, allIdx 35 (by decide +kernel) rfl, allT1 8 (by decide +kernel) rfl, allT5 5 (by decide +kernel) rfl⟩, by decide +kernel, by decide +kernel, by decide +kernel⟩
theorem my_X6_partsReaching : MyV yX6_partsReaching cX6_partsReaching 10 (some .int) 6 := ⟨⟨allT5 102 (by decide +kernel) rfl, allT5 103 (by decide +kernel) rfl, allT1 8 (by decide +kernel) rfl, allT5 104 (by decide +kernel) rfl⟩, by decide +kernel, by decide +kernel, by decide +kernel⟩
theorem my_X6_seekRate : MyV yX6_seekRate cX6_seekRate 6 none 3 := ⟨⟨allT4 231 (by decide +kernel) rfl, allT4 232 (by decide +kernel) rfl, allT1 8 (by decide +kernel) rfl, allT4 233 (by decide +kernel) rfl⟩, by decide +kernel, by decide +kernel, by decide +kernel⟩
theorem my_X6_seekWeight : MyV yX6_seekWeight cX6_seekWeight 7 none 3 := ⟨⟨allT4 239 (by decide +kernel) rfl, allT5 0 (by decide +kernel) rfl, allT1 8 (by decide +kernel) rfl, allT5 1 (by decide +kernel) rfl⟩, by decide +kernel, by decide +kernel, by decide +kernel⟩
theorem my_X6_startingAt : MyV yX6_startingAt cX6_startingAt 2 (some (.object "NearlyBought$State")) 1 := ⟨⟨allT4 160 (by decide +kernel) rfl, allT4 161 (by decide +kernel) rfl, allT1 8 (by decide +kernel) rfl, allT4 162 (by decide +kernel) rfl⟩, by decide +kernel, by decide +kernel, by decide +kernel⟩
theorem my_X7_beginAs : MyV yX7_beginAs cX7_beginAs 3 none 1 := ⟨⟨allT3 75 (by decide +kernel) rfl, allT3 76 (by decide +kernel) rfl, allT1 3 (by decide +kernel) rfl, allT3 77 (by decide +kernel) rfl⟩, by decide +kernel, by decide +kernel, by decide +kernel⟩
theorem my_X7_billRow : MyV yX7_billRow cX7_billRow 5 (some .int) 2 := ⟨⟨allT3 167 (by decide +kernel) rfl, allT3 168 (by decide +kernel) rfl, allT1 3 (by decide +kernel) rfl, allT3 169 (by decide +kernel) rfl⟩, by decide +kernel, by decide +kernel, by decide +kernel⟩
theorem my_X7_copyFrom : MyV yX7_copyFrom cX7_copyFrom 2 none 1 := ⟨⟨allT3 197 (by decide +kernel) rfl, allT3 198 (by decide +kernel) rfl, allT1 3 (by decide +kernel) rfl, allT3 199 (by decide +kernel) rfl⟩, by decide +kernel, by decide +kernel, by decide +kernel⟩
theorem my_X7_dueOf : MyV yX7_dueOf cX7_dueOf 4 (some .int) 1 := ⟨⟨allT4 54 (by decide +kernel) rfl, allT4 55 (by decide +kernel) rfl, allT1 3 (by decide +kernel) rfl, allT4 56 (by decide +kernel) rfl⟩, by decide +kernel, by decide +kernel, by decide +kernel⟩
theorem my_X7_dueOfAll : MyV yX7_dueOfAll cX7_dueOfAll 3 (some .int) 0 := ⟨⟨allT4 180 (by decide +kernel) rfl, allT4 181 (by decide +kernel) rfl, allT1 3 (by decide +kernel) rfl, allT4 182 (by decide +kernel) rfl⟩, by decide +kernel, by decide +kernel, by decide +kernel⟩
theorem my_X7_hasBillFor : MyV yX7_hasBillFor cX7_hasBillFor 4 (some .boolean) 2 := ⟨⟨allT4 66 (by decide +kernel) rfl, allT4 67 (by decide +kernel) rfl, allT1 3 (by decide +kernel) rfl, allT4 68 (by decide +kernel) rfl⟩, by decide +kernel, by decide +kernel, by decide +kernel⟩
theorem my_X7_holders : MyV yX7_holders cX7_holders 3 (some .int) 0 := ⟨⟨allT4 87 (by decide +kernel) rfl, allT4 88 (by decide +kernel) rfl, allT1 3 (by decide +kernel) rfl, allT4 89 (by decide +kernel) rfl⟩, by decide +kernel, by decide +kernel, by decide +kernel⟩
theorem my_X7_strikeBills : MyV yX7_strikeBills cX7_strikeBills 7 (some .int) 3 := ⟨⟨allT4 23 (by decide +kernel) rfl, allT4 24 (by decide +kernel) rfl, allT1 3 (by decide +kernel) rfl, allT4 25 (by decide +kernel) rfl⟩, by decide +kernel, by decide +kernel, by decide +kernel⟩
theorem my_X7_writeBill : MyV yX7_writeBill cX7_writeBill 5 none 3 := ⟨⟨allT3 230 (by decide +kernel) rfl, allT3 231 (by decide +kernel) rfl, allT1 3 (by decide +kernel) rfl, allT3 232 (by decide +kernel) rfl⟩, by decide +kernel, by decide +kernel, by decide +kernel⟩
theorem my_X7_writeLog : MyV yX7_writeLog cX7_writeLog 2 none 0 := ⟨⟨allT4 83 (by decide +kernel) rfl, allT4 84 (by decide +kernel) rfl, allT1 3 (by decide +kernel) rfl, allT4 85 (by decide +kernel) rfl⟩, by decide +kernel, by decide +kernel, by decide +kernel⟩
theorem my_X8_add : MyV yX8_add cX8_add 4 none 1 := ⟨⟨allT2 165 (by decide +kernel) rfl, allT2 166 (by decide +kernel) rfl, allT1 2 (by decide +kernel) rfl, allT2 167 (by decide +kernel) rfl⟩, by decide +kernel, by decide +kernel, by decide +kernel⟩
theorem my_X8_atDigit : MyV yX8_atDigit cX8_atDigit 1 (some .boolean) 0 := ⟨⟨allT2 221 (by decide +kernel) rfl, allT2 222 (by decide +kernel) rfl, allT1 2 (by decide +kernel) rfl, allT2 223 (by decide +kernel) rfl⟩, by decide +kernel, by decide +kernel, by decide +kernel⟩
theorem my_X8_bytesIn : MyV yX8_bytesIn cX8_bytesIn 4 (some .int) 1 := ⟨⟨allT2 161 (by decide +kernel) rfl, allT2 162 (by decide +kernel) rfl, allT1 2 (by decide +kernel) rfl, allT2 163 (by decide +kernel) rfl⟩, by decide +kernel, by decide +kernel, by decide +kernel⟩
theorem my_X8_passes : MyV yX8_passes cX8_passes 2 (some .boolean) 1 := ⟨⟨allT2 190 (by decide +kernel) rfl, allT2 191 (by decide +kernel) rfl, allT1 2 (by decide +kernel) rfl, allT2 192 (by decide +kernel) rfl⟩, by decide +kernel, by decide +kernel, by decide +kernel⟩
theorem my_X8_passesDigit : MyV yX8_passesDigit cX8_passesDigit 1 (some .boolean) 0 := ⟨⟨allT3 62 (by decide +kernel) rfl, allT3 63 (by decide +kernel) rfl, allT1 2 (by decide +kernel) rfl, allT3 64 (by decide +kernel) rfl⟩, by decide +kernel, by decide +kernel, by decide +kernel⟩
theorem my_X8_passesNumber : MyV yX8_passesNumber cX8_passesNumber 3 (some .boolean) 1 := ⟨⟨allT2 217 (by decide +kernel) rfl, allT2 218 (by decide +kernel) rfl, allT1 2 (by decide +kernel) rfl, allT2 219 (by decide +kernel) rfl⟩, by decide +kernel, by decide +kernel, by decide +kernel⟩
theorem my_X8_passesNumberWithin : MyV yX8_passesNumberWithin cX8_passesNumberWithin 3 (some .boolean) 2 := ⟨⟨allT2 213 (by decide +kernel) rfl, allT2 214 (by decide +kernel) rfl, allT1 2 (by decide +kernel) rfl, allT2 215 (by decide +kernel) rfl⟩, by decide +kernel, by decide +kernel, by decide +kernel⟩
theorem my_X8_sign : MyV yX8_sign cX8_sign 1 (some .int) 0 := ⟨⟨allT2 194 (by decide +kernel) rfl, allT2 195 (by decide +kernel) rfl, allT1 2 (by decide +kernel) rfl, allT2 196 (by decide +kernel) rfl⟩, by decide +kernel, by decide +kernel, by decide +kernel⟩
theorem my_X9_decide : MyV yX9_decide cX9_decide 5 none 2 := ⟨⟨allT4 44 (by decide +kernel) rfl, allIdx 24 (by decide +kernel) rfl, allT1 5 (by decide +kernel) rfl, allT4 45 (by decide +kernel) rfl⟩, by decide +kernel, by decide +kernel, by decide +kernel⟩
theorem my_X9_dueIfPutBack : MyV yX9_dueIfPutBack cX9_dueIfPutBack 6 (some .int) 3 := ⟨⟨allT3 222 (by decide +kernel) rfl, allT3 223 (by decide +kernel) rfl, allT1 5 (by decide +kernel) rfl, allT3 224 (by decide +kernel) rfl⟩, by decide +kernel, by decide +kernel, by decide +kernel⟩
theorem my_X9_hasCity : MyV yX9_hasCity cX9_hasCity 1 (some .boolean) 0 := ⟨⟨allT4 35 (by decide +kernel) rfl, allT4 36 (by decide +kernel) rfl, allT1 5 (by decide +kernel) rfl, allT4 37 (by decide +kernel) rfl⟩, by decide +kernel, by decide +kernel, by decide +kernel⟩
theorem my_X9_isAfraid : MyV yX9_isAfraid cX9_isAfraid 3 (some .boolean) 2 := ⟨⟨allT4 50 (by decide +kernel) rfl, allT4 51 (by decide +kernel) rfl, allT1 5 (by decide +kernel) rfl, allT4 52 (by decide +kernel) rfl⟩, by decide +kernel, by decide +kernel, by decide +kernel⟩
theorem my_X9_isBuyer : MyV yX9_isBuyer cX9_isBuyer 2 (some .boolean) 1 := ⟨⟨allT3 135 (by decide +kernel) rfl, allT3 136 (by decide +kernel) rfl, allT1 5 (by decide +kernel) rfl, allT3 137 (by decide +kernel) rfl⟩, by decide +kernel, by decide +kernel, by decide +kernel⟩
theorem my_X9_isThing : MyV yX9_isThing cX9_isThing 2 (some .boolean) 1 := ⟨⟨allT3 118 (by decide +kernel) rfl, allT3 119 (by decide +kernel) rfl, allT1 5 (by decide +kernel) rfl, allT3 120 (by decide +kernel) rfl⟩, by decide +kernel, by decide +kernel, by decide +kernel⟩
theorem my_X9_keepMichaelmas : MyV yX9_keepMichaelmas cX9_keepMichaelmas 4 none 1 := ⟨⟨allT4 76 (by decide +kernel) rfl, allIdx 26 (by decide +kernel) rfl, allT1 5 (by decide +kernel) rfl, allT4 77 (by decide +kernel) rfl⟩, by decide +kernel, by decide +kernel, by decide +kernel⟩
theorem my_X9_layBack : MyV yX9_layBack cX9_layBack 5 (some .int) 2 := ⟨⟨allT3 214 (by decide +kernel) rfl, allT3 215 (by decide +kernel) rfl, allT1 5 (by decide +kernel) rfl, allT3 216 (by decide +kernel) rfl⟩, by decide +kernel, by decide +kernel, by decide +kernel⟩
theorem my_X9_liked : MyV yX9_liked cX9_liked 5 (some .int) 3 := ⟨⟨allT3 139 (by decide +kernel) rfl, allT3 140 (by decide +kernel) rfl, allT1 5 (by decide +kernel) rfl, allT3 141 (by decide +kernel) rfl⟩, by decide +kernel, by decide +kernel, by decide +kernel⟩
theorem my_X9_looksAway : MyV yX9_looksAway cX9_looksAway 3 (some .boolean) 2 := ⟨⟨allT3 219 (by decide +kernel) rfl, allIdx 23 (by decide +kernel) rfl, allT1 5 (by decide +kernel) rfl, allT3 220 (by decide +kernel) rfl⟩, by decide +kernel, by decide +kernel, by decide +kernel⟩
theorem my_X9_makeStep : MyV yX9_makeStep cX9_makeStep 5 none 3 := ⟨⟨allT4 174 (by decide +kernel) rfl, allT4 175 (by decide +kernel) rfl, allT1 5 (by decide +kernel) rfl, allT4 176 (by decide +kernel) rfl⟩, by decide +kernel, by decide +kernel, by decide +kernel⟩
theorem my_X9_passHour : MyV yX9_passHour cX9_passHour 3 none 1 := ⟨⟨allT4 39 (by decide +kernel) rfl, allT4 40 (by decide +kernel) rfl, allT1 5 (by decide +kernel) rfl, allT4 41 (by decide +kernel) rfl⟩, by decide +kernel, by decide +kernel, by decide +kernel⟩
theorem my_X9_passOn : MyV yX9_passOn cX9_passOn 5 (some .int) 3 := ⟨⟨allT4 2 (by decide +kernel) rfl, allT4 3 (by decide +kernel) rfl, allT1 5 (by decide +kernel) rfl, allT4 4 (by decide +kernel) rfl⟩, by decide +kernel, by decide +kernel, by decide +kernel⟩
theorem my_X9_pickFavourite : MyV yX9_pickFavourite cX9_pickFavourite 7 none 2 := ⟨⟨allT4 63 (by decide +kernel) rfl, allIdx 25 (by decide +kernel) rfl, allT1 5 (by decide +kernel) rfl, allT4 64 (by decide +kernel) rfl⟩, by decide +kernel, by decide +kernel, by decide +kernel⟩
theorem my_X9_pickUp : MyV yX9_pickUp cX9_pickUp 4 none 3 := ⟨⟨allT3 202 (by decide +kernel) rfl, allT3 203 (by decide +kernel) rfl, allT1 5 (by decide +kernel) rfl, allT3 204 (by decide +kernel) rfl⟩, by decide +kernel, by decide +kernel, by decide +kernel⟩
theorem my_X9_purchase : MyV yX9_purchase cX9_purchase 4 (some .int) 2 := ⟨⟨allT4 15 (by decide +kernel) rfl, allT4 16 (by decide +kernel) rfl, allT1 5 (by decide +kernel) rfl, allT4 17 (by decide +kernel) rfl⟩, by decide +kernel, by decide +kernel, by decide +kernel⟩
theorem my_X9_whyNotBuy : MyV yX9_whyNotBuy cX9_whyNotBuy 4 (some .int) 2 := ⟨⟨allT4 10 (by decide +kernel) rfl, allT4 11 (by decide +kernel) rfl, allT1 5 (by decide +kernel) rfl, allT4 12 (by decide +kernel) rfl⟩, by decide +kernel, by decide +kernel, by decide +kernel⟩
theorem my_X9_whyNotHand : MyV yX9_whyNotHand cX9_whyNotHand 4 (some .int) 3 := ⟨⟨allT3 238 (by decide +kernel) rfl, allT3 239 (by decide +kernel) rfl, allT1 5 (by decide +kernel) rfl, allT4 0 (by decide +kernel) rfl⟩, by decide +kernel, by decide +kernel, by decide +kernel⟩
theorem my_X9_whyNotHour : MyV yX9_whyNotHour cX9_whyNotHour 2 (some .int) 1 := ⟨⟨allT4 31 (by decide +kernel) rfl, allT4 32 (by decide +kernel) rfl, allT1 5 (by decide +kernel) rfl, allT4 33 (by decide +kernel) rfl⟩, by decide +kernel, by decide +kernel, by decide +kernel⟩
theorem my_X9_whyNotPick : MyV yX9_whyNotPick cX9_whyNotPick 4 (some .int) 3 := ⟨⟨allT3 183 (by decide +kernel) rfl, allT3 184 (by decide +kernel) rfl, allT1 5 (by decide +kernel) rfl, allT3 185 (by decide +kernel) rfl⟩, by decide +kernel, by decide +kernel, by decide +kernel⟩
theorem my_X9_whyNotPutBack : MyV yX9_whyNotPutBack cX9_whyNotPutBack 3 (some .int) 2 := ⟨⟨allT3 210 (by decide +kernel) rfl, allT3 211 (by decide +kernel) rfl, allT1 5 (by decide +kernel) rfl, allT3 212 (by decide +kernel) rfl⟩, by decide +kernel, by decide +kernel, by decide +kernel⟩
theorem my_X9_whyNotStep : MyV yX9_whyNotStep cX9_whyNotStep 5 (some .int) 3 := ⟨⟨allT4 165 (by decide +kernel) rfl, allT4 166 (by decide +kernel) rfl, allT1 5 (by decide +kernel) rfl, allT4 167 (by decide +kernel) rfl⟩, by decide +kernel, by decide +kernel, by decide +kernel⟩
