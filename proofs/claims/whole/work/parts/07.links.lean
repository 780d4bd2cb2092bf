abbrev GB (θ : Th) (p : Program) (l : Launch) (e : Env) (d : Nat) (s : State) (m : MethodId) (args : Array Value) (below : List Frame) (meth : Method) (c : Code) (nL : Nat) (rr : Option Value × Mem) : Nat → List (Nat × Value) → List Value → Mem → Prop := G θ p l e (rmq d 0 0) s m args below meth c nL 0 0 (MQ below (Qy θ rr) args s 0 0 (Aq θ))
theorem ite_some {α : Type} {c : Prop} {i : Decidable c} {x : Option α} {r : α} (h : (@ite _ c i x none) = some r) : c ∧ x = some r := by
  by_cases hc : c
  · rw [if_pos hc] at h; exact ⟨hc, h⟩
  · rw [if_neg hc] at h; cases h
theorem ite_none {α : Type} {c : Prop} {i : Decidable c} {x : Option α} {r : α} (h : (@ite _ c i none x) = some r) : ¬ c ∧ x = some r := by
  by_cases hc : c
  · rw [if_pos hc] at h; cases h
  · rw [if_neg hc] at h; exact ⟨hc, h⟩
def inb (i : Int32) (n : Nat) : Bool := !(decide (i < 0)) && decide (i.toNatClampNeg < n)
theorem inb_in {i : Int32} {n : Nat} (h : inb i n = true) : vp_in i n := by
  simp only [inb, Bool.and_eq_true, Bool.not_eq_true', decide_eq_false_iff_not, decide_eq_true_eq] at h
  rintro (q | q)
  · exact h.1 q
  · omega
def bzb (v : Int32) : Bool := decide (v = 0) || decide (v = 1)
theorem bzb_bz {v : Int32} (h : bzb v = true) : bz v := by
  simp only [bzb, Bool.or_eq_true, decide_eq_true_eq] at h
  exact h
def cpyB (n0 n1 : Nat) (sp dp n : Int32) : Bool := !(decide (sp < 0)) && !(decide (dp < 0)) && !(decide (n < 0)) && decide (sp.toNatClampNeg + n.toNatClampNeg ≤ n0) && decide (dp.toNatClampNeg + n.toNatClampNeg ≤ n1)
theorem cpyB_ok {n0 n1 : Nat} {sp dp n : Int32} (h : cpyB n0 n1 sp dp n = true) : cpyOk n0 n1 sp dp n := by
  simp only [cpyB, Bool.and_eq_true, Bool.not_eq_true', decide_eq_false_iff_not, decide_eq_true_eq] at h
  exact ⟨⟨h.1.1.1.1, h.1.1.1.2, h.1.1.2⟩, h.1.2, h.2⟩
def iush (x y : Int32) : Int32 := (x.toUInt32 >>> (y.toUInt32 &&& Int32.toUInt32 31)).toInt32
def lush (x : Int64) (y : Int32) : Int64 := (x.toUInt64 >>> (y.toInt64.toUInt64 &&& Int64.toUInt64 63)).toInt64
def lshl6 (x : Int64) (y : Int32) : Int64 := x <<< (y.toInt64 &&& 63)
theorem rv_of {β r k : Nat} (h : kd r = k) (hk : k ≠ 11) : Value.ref (β + r) = rv β r := by
  rw [rv, if_neg]
  intro h0
  subst h0
  have h11 : kd 0 = 11 := by decide +kernel
  omega
theorem rv_nar {ty : FieldType} {v : Nat} (u : Nat) : narrow ty (rv u v) = rv u v := by
  unfold rv
  split <;> (cases ty <;> rfl)
theorem rv_fitO {C : String} {v : Nat} (u : Nat) : fits (.object C) (rv u v) = true := by
  unfold rv
  split <;> rfl
theorem rv_fitA {t : FieldType} {v : Nat} (u : Nat) : fits (.array t) (rv u v) = true := by
  unfold rv
  split <;> rfl
theorem loopF_by {α β : Type} {step : α → Option (α ⊕ β)} {P : α → Prop} {K : β → Prop} (hs : ∀ a x, step a = some x → Sum.elim P K x → P a) : ∀ (n : Nat) (a : α) (y : β), loopF step n a = some y → K y → P a := by
  intro n
  induction n with
  | zero => intro a y h; cases h
  | succ n ih =>
    intro a y h hk
    rw [loopF_succ] at h
    cases hx : step a with
    | none => rw [hx] at h; cases h
    | some x =>
      rw [hx] at h
      cases x with
      | inl b => exact hs a _ hx (ih b y h hk)
      | inr b => cases h; exact hs a _ hx hk
def slen (k : Nat) : Int32 := Int32.ofNat (stn.getD k 0)
def schr (k j : Nat) : Int32 := (sts.getD k []).getD j 0
section GT
variable {θ : Th} {p : Program} {l : Launch} {e : Env} {R : Room} {s : State} {m : MethodId} {args : Array Value} {below : List Frame} {meth : Method} {c : Code} {cc : ByteArray} {own : String} {nL cells slots pc : Nat} {Q : State → Prop} {lv : List (Nat × Value)} {st : List Value} {σ : Mem}
theorem g_cV (X : Cx θ p s m args c cc nL own) {y : MethodName} {cb : ByteArray} {maxL d n idx : Nat} {ret : Option FieldType} {As rest : List Value} {r : Option Value × Mem} {a ci : Nat} (hM : Cn θ l y cb maxL ret d 0 0 (.ref (be θ + a) :: As) σ r) (Lk : Cond.methodLink own idx y ∈ ALL) (My : MyV y cb maxL ret n) (ha : kd a = ci + 1) (hci : ci < 12) (hy : y.cls = clC ci) (hn : As.length = n) (hst : st = As.reverse ++ .ref (be θ + a) :: rest) (hc : (rest.map fun v => v.category).sum ≤ 8) (hR : d + 1 ≤ R.frames ∧ 8 + (maxL + 11) + 40 * d ≤ R.locals) (hf : cells ≤ R.cells ∧ slots ≤ R.slots)
    (hd : decode cc pc = .ok (.invokevirtual idx, 3)) {st' : List Value} {σ' : Mem} (hst' : r.1.toList ++ rest = st') (hσ' : r.2 = σ') (kk : G θ p l e R s m args below meth c nL cells slots Q (pc + 3) lv st' σ') : G θ p l e R s m args below meth c nL cells slots Q pc lv st σ := by
  subst hst'; subst hσ'
  exact g_callV X hM Lk My ha hci hy hn hst hc hR hf hd kk
theorem g_cT (X : Cx θ p s m args c cc nL own) {y : MethodName} {cb : ByteArray} {maxL d n idx k : Nat} {ret : Option FieldType} {As rest : List Value} {r : Option Value × Mem} (hM : Cn θ l y cb maxL ret d 0 0 (.ref (sA θ k) :: As) σ r) (Lk : Cond.methodLink own idx y ∈ ALL) (My : MyV y cb maxL ret n) (hk : k < 6) (hy : y.cls = "java/lang/String") (hn : As.length = n) (hst : st = As.reverse ++ .ref (sA θ k) :: rest) (hc : (rest.map fun v => v.category).sum ≤ 8) (hR : d + 1 ≤ R.frames ∧ 8 + (maxL + 11) + 40 * d ≤ R.locals) (hf : cells ≤ R.cells ∧ slots ≤ R.slots)
    (hd : decode cc pc = .ok (.invokevirtual idx, 3)) {st' : List Value} {σ' : Mem} (hst' : r.1.toList ++ rest = st') (hσ' : r.2 = σ') (kk : G θ p l e R s m args below meth c nL cells slots Q (pc + 3) lv st' σ') : G θ p l e R s m args below meth c nL cells slots Q pc lv st σ := by
  subst hst'; subst hσ'
  exact g_callT X hM Lk My hk hy hn hst hc hR hf hd kk
theorem g_cS (X : Cx θ p s m args c cc nL own) {y : MethodName} {cb : ByteArray} {maxL d n idx : Nat} {ret : Option FieldType} {As rest : List Value} {r : Option Value × Mem} (hM : Cn θ l y cb maxL ret d 0 0 As σ r) (Lk : Cond.methodLink own idx y ∈ ALL) (My : MyS y cb maxL ret n) (hn : As.length = n) (hst : st = As.reverse ++ rest) (hc : (rest.map fun v => v.category).sum ≤ 8) (hR : d + 1 ≤ R.frames ∧ 8 + (maxL + 11) + 40 * d ≤ R.locals) (hf : cells ≤ R.cells ∧ slots ≤ R.slots)
    (hd : decode cc pc = .ok (.invokestatic idx, 3)) {st' : List Value} {σ' : Mem} (hst' : r.1.toList ++ rest = st') (hσ' : r.2 = σ') (kk : G θ p l e R s m args below meth c nL cells slots Q (pc + 3) lv st' σ') : G θ p l e R s m args below meth c nL cells slots Q pc lv st σ := by
  subst hst'; subst hσ'
  exact g_callS X hM Lk My hn hst hc hR hf hd kk
theorem g_tableD (X : Cx θ p s m args c cc nL own) {dflt lo hi : Int} {offs : Array Int} {len : Nat} {x : Int32} {tgt : Nat} (hd : decode cc pc = .ok (.tableswitch dflt lo hi offs, len)) (h : (x.toInt < lo ∨ hi < x.toInt) ∨ offs[(x.toInt - lo).toNat]? = some dflt) (ht : (pc : Int) + dflt = (tgt : Int)) (k : G θ p l e R s m args below meth c nL cells slots Q tgt lv st σ) : G θ p l e R s m args below meth c nL cells slots Q pc lv (.int x :: st) σ := by
  by_cases h1 : x.toInt < lo ∨ hi < x.toInt
  · exact g_tableOut X hd h1 ht k
  · rcases h with h | h
    · exact absurd h h1
    · exact g_tableIn X hd (fun q => h1 (Or.inl q)) (fun q => h1 (Or.inr q)) h ht k
theorem g_cp (X : Cx θ p s m args c cc nL own) {a0 a n0 n1 idx : Nat} {sp dp n : Int32} (Lk : Lc own idx) (hk0 : kd a0 = 13) (hk : kd a = 13) (hn0 : ln a0 = n0) (hn1 : ln a = n1) (ho : cpyOk n0 n1 sp dp n) (hR : 1 ≤ R.frames ∧ (st.map fun v => v.category).sum + 18 ≤ R.locals) (hd : decode cc pc = .ok (.invokestatic idx, 3)) {σ' : Mem} (hσ' : rI σ a (cpyM (mI σ a0) (mI σ a) sp dp n) = σ') (kk : G θ p l e R s m args below meth c nL cells slots Q (pc + 3) lv st σ') : G θ p l e R s m args below meth c nL cells slots Q pc lv (.int n :: .int dp :: .ref (be θ + a) :: .int sp :: .ref (be θ + a0) :: st) σ := by
  subst hσ'
  exact g_copy X Lk hk0 hk hn0 hn1 ho hR hd kk
theorem g_cpT (X : Cx θ p s m args c cc nL own) {a n1 idx : Nat} {sp dp n : Int32} (Lk : Lc own idx) (hk : kd a = 13) (hn1 : ln a = n1) (ho : cpyOk 11 n1 sp dp n) (hR : 1 ≤ R.frames ∧ (st.map fun v => v.category).sum + 18 ≤ R.locals) (hd : decode cc pc = .ok (.invokestatic idx, 3)) {σ' : Mem} (hσ' : rI σ a (cpyM (tb 1) (mI σ a) sp dp n) = σ') (kk : G θ p l e R s m args below meth c nL cells slots Q (pc + 3) lv st σ') : G θ p l e R s m args below meth c nL cells slots Q pc lv (.int n :: .int dp :: .ref (be θ + a) :: .int sp :: .ref (tA θ 1) :: st) σ := by
  subst hσ'
  exact g_copyT X Lk hk hn1 ho hR hd kk
end GT
theorem bp_m63 : (Int8.ofInt (-63)).toInt32 = (-63 : Int32) := by decide
theorem bp_m59 : (Int8.ofInt (-59)).toInt32 = (-59 : Int32) := by decide
theorem bp_m33 : (Int8.ofInt (-33)).toInt32 = (-33 : Int32) := by decide
theorem bp_6 : (Int8.ofInt (6)).toInt32 = (6 : Int32) := by decide
theorem bp_7 : (Int8.ofInt (7)).toInt32 = (7 : Int32) := by decide
theorem bp_8 : (Int8.ofInt (8)).toInt32 = (8 : Int32) := by decide
theorem bp_9 : (Int8.ofInt (9)).toInt32 = (9 : Int32) := by decide
theorem bp_10 : (Int8.ofInt (10)).toInt32 = (10 : Int32) := by decide
theorem bp_11 : (Int8.ofInt (11)).toInt32 = (11 : Int32) := by decide
theorem bp_12 : (Int8.ofInt (12)).toInt32 = (12 : Int32) := by decide
theorem bp_15 : (Int8.ofInt (15)).toInt32 = (15 : Int32) := by decide
theorem bp_16 : (Int8.ofInt (16)).toInt32 = (16 : Int32) := by decide
theorem bp_20 : (Int8.ofInt (20)).toInt32 = (20 : Int32) := by decide
theorem bp_23 : (Int8.ofInt (23)).toInt32 = (23 : Int32) := by decide
theorem bp_24 : (Int8.ofInt (24)).toInt32 = (24 : Int32) := by decide
theorem bp_30 : (Int8.ofInt (30)).toInt32 = (30 : Int32) := by decide
theorem bp_32 : (Int8.ofInt (32)).toInt32 = (32 : Int32) := by decide
theorem bp_33 : (Int8.ofInt (33)).toInt32 = (33 : Int32) := by decide
theorem bp_40 : (Int8.ofInt (40)).toInt32 = (40 : Int32) := by decide
theorem bp_48 : (Int8.ofInt (48)).toInt32 = (48 : Int32) := by decide
theorem bp_50 : (Int8.ofInt (50)).toInt32 = (50 : Int32) := by decide
theorem bp_57 : (Int8.ofInt (57)).toInt32 = (57 : Int32) := by decide
theorem bp_59 : (Int8.ofInt (59)).toInt32 = (59 : Int32) := by decide
theorem bp_60 : (Int8.ofInt (60)).toInt32 = (60 : Int32) := by decide
theorem bp_61 : (Int8.ofInt (61)).toInt32 = (61 : Int32) := by decide
theorem bp_62 : (Int8.ofInt (62)).toInt32 = (62 : Int32) := by decide
theorem bp_63 : (Int8.ofInt (63)).toInt32 = (63 : Int32) := by decide
theorem bp_64 : (Int8.ofInt (64)).toInt32 = (64 : Int32) := by decide
theorem bp_92 : (Int8.ofInt (92)).toInt32 = (92 : Int32) := by decide
theorem bp_98 : (Int8.ofInt (98)).toInt32 = (98 : Int32) := by decide
theorem bp_99 : (Int8.ofInt (99)).toInt32 = (99 : Int32) := by decide
theorem bp_100 : (Int8.ofInt (100)).toInt32 = (100 : Int32) := by decide
theorem bp_115 : (Int8.ofInt (115)).toInt32 = (115 : Int32) := by decide
theorem bp_116 : (Int8.ofInt (116)).toInt32 = (116 : Int32) := by decide
theorem bp_126 : (Int8.ofInt (126)).toInt32 = (126 : Int32) := by decide
theorem bp_127 : (Int8.ofInt (127)).toInt32 = (127 : Int32) := by decide
theorem ic_m8 : Int32.ofInt (-8) = (-8 : Int32) := by decide
theorem ic_m1 : Int32.ofInt (-1) = (-1 : Int32) := by decide
theorem ic_0 : Int32.ofInt (0) = (0 : Int32) := by decide
theorem ic_1 : Int32.ofInt (1) = (1 : Int32) := by decide
theorem ic_2 : Int32.ofInt (2) = (2 : Int32) := by decide
theorem ic_3 : Int32.ofInt (3) = (3 : Int32) := by decide
theorem ic_4 : Int32.ofInt (4) = (4 : Int32) := by decide
theorem ic_5 : Int32.ofInt (5) = (5 : Int32) := by decide
theorem sp_128 : (Int16.ofInt (128)).toInt32 = (128 : Int32) := by decide
theorem sp_129 : (Int16.ofInt (129)).toInt32 = (129 : Int32) := by decide
theorem sp_130 : (Int16.ofInt (130)).toInt32 = (130 : Int32) := by decide
theorem sp_131 : (Int16.ofInt (131)).toInt32 = (131 : Int32) := by decide
theorem sp_132 : (Int16.ofInt (132)).toInt32 = (132 : Int32) := by decide
theorem sp_177 : (Int16.ofInt (177)).toInt32 = (177 : Int32) := by decide
theorem sp_240 : (Int16.ofInt (240)).toInt32 = (240 : Int32) := by decide
theorem sp_255 : (Int16.ofInt (255)).toInt32 = (255 : Int32) := by decide
theorem sp_312 : (Int16.ofInt (312)).toInt32 = (312 : Int32) := by decide
theorem sp_999 : (Int16.ofInt (999)).toInt32 = (999 : Int32) := by decide
theorem sp_1000 : (Int16.ofInt (1000)).toInt32 = (1000 : Int32) := by decide
theorem sp_9999 : (Int16.ofInt (9999)).toInt32 = (9999 : Int32) := by decide
theorem sp_12168 : (Int16.ofInt (12168)).toInt32 = (12168 : Int32) := by decide
theorem kd_0 : kd 0 = 11 := by decide +kernel
theorem kd_1 : kd 1 = 9 := by decide +kernel
theorem kd_2 : kd 2 = 13 := by decide +kernel
theorem ln_2 : ln 2 = 240 := by decide +kernel
theorem kd_3 : kd 3 = 17 := by decide +kernel
theorem ln_3 : ln 3 = 5 := by decide +kernel
theorem kd_4 : kd 4 = 18 := by decide +kernel
theorem ln_4 : ln 4 = 5 := by decide +kernel
theorem kd_5 : kd 5 = 13 := by decide +kernel
theorem ln_5 : ln 5 = 6 := by decide +kernel
theorem kd_6 : kd 6 = 8 := by decide +kernel
theorem kd_7 : kd 7 = 13 := by decide +kernel
theorem ln_7 : ln 7 = 8 := by decide +kernel
theorem kd_8 : kd 8 = 13 := by decide +kernel
theorem ln_8 : ln 8 = 8 := by decide +kernel
theorem kd_9 : kd 9 = 13 := by decide +kernel
theorem ln_9 : ln 9 = 8 := by decide +kernel
theorem kd_10 : kd 10 = 13 := by decide +kernel
theorem ln_10 : ln 10 = 8 := by decide +kernel
theorem kd_12 : kd 12 = 13 := by decide +kernel
theorem ln_12 : ln 12 = 6 := by decide +kernel
theorem kd_13 : kd 13 = 13 := by decide +kernel
theorem ln_13 : ln 13 = 6 := by decide +kernel
theorem kd_14 : kd 14 = 13 := by decide +kernel
theorem ln_14 : ln 14 = 96 := by decide +kernel
theorem kd_15 : kd 15 = 13 := by decide +kernel
theorem ln_15 : ln 15 = 180 := by decide +kernel
theorem kd_16 : kd 16 = 8 := by decide +kernel
theorem kd_26 : kd 26 = 5 := by decide +kernel
theorem kd_27 : kd 27 = 19 := by decide +kernel
theorem ln_27 : ln 27 = 40 := by decide +kernel
theorem kd_428 : kd 428 = 10 := by decide +kernel
theorem kd_429 : kd 429 = 13 := by decide +kernel
theorem ln_429 : ln 429 = 6 := by decide +kernel
theorem kd_434 : kd 434 = 7 := by decide +kernel
theorem kd_435 : kd 435 = 8 := by decide +kernel
theorem kd_437 : kd 437 = 13 := by decide +kernel
theorem ln_437 : ln 437 = 8 := by decide +kernel
theorem kd_439 : kd 439 = 13 := by decide +kernel
theorem ln_439 : ln 439 = 8 := by decide +kernel
theorem kd_516 : kd 516 = 4 := by decide +kernel
theorem kd_517 : kd 517 = 8 := by decide +kernel
theorem kd_524 : kd 524 = 13 := by decide +kernel
theorem ln_524 : ln 524 = 6 := by decide +kernel
theorem kd_527 : kd 527 = 13 := by decide +kernel
theorem ln_527 : ln 527 = 10 := by decide +kernel
theorem kd_528 : kd 528 = 13 := by decide +kernel
theorem ln_528 : ln 528 = 10 := by decide +kernel
theorem kd_529 : kd 529 = 15 := by decide +kernel
theorem ln_529 : ln 529 = 10 := by decide +kernel
theorem kd_530 : kd 530 = 13 := by decide +kernel
theorem ln_530 : ln 530 = 610 := by decide +kernel
theorem kd_531 : kd 531 = 1 := by decide +kernel
theorem kd_532 : kd 532 = 13 := by decide +kernel
theorem ln_532 : ln 532 = 8 := by decide +kernel
theorem kd_533 : kd 533 = 13 := by decide +kernel
theorem ln_533 : ln 533 = 8 := by decide +kernel
theorem kd_534 : kd 534 = 13 := by decide +kernel
theorem ln_534 : ln 534 = 8 := by decide +kernel
theorem kd_535 : kd 535 = 13 := by decide +kernel
theorem ln_535 : ln 535 = 4 := by decide +kernel
theorem kd_565 : kd 565 = 12 := by decide +kernel
theorem kd_566 : kd 566 = 14 := by decide +kernel
theorem ln_566 : ln 566 = 240 := by decide +kernel
theorem kd_570 : kd 570 = 13 := by decide +kernel
theorem ln_570 : ln 570 = 4 := by decide +kernel
theorem kd_571 : kd 571 = 13 := by decide +kernel
theorem ln_571 : ln 571 = 4 := by decide +kernel
theorem kd_572 : kd 572 = 13 := by decide +kernel
theorem ln_572 : ln 572 = 24 := by decide +kernel
theorem kd_573 : kd 573 = 13 := by decide +kernel
theorem ln_573 : ln 573 = 24 := by decide +kernel
theorem kd_574 : kd 574 = 13 := by decide +kernel
theorem ln_574 : ln 574 = 24 := by decide +kernel
theorem kd_575 : kd 575 = 13 := by decide +kernel
theorem ln_575 : ln 575 = 24 := by decide +kernel
theorem kd_576 : kd 576 = 13 := by decide +kernel
theorem ln_576 : ln 576 = 240 := by decide +kernel
theorem kd_577 : kd 577 = 13 := by decide +kernel
theorem ln_577 : ln 577 = 5 := by decide +kernel
theorem kd_578 : kd 578 = 13 := by decide +kernel
theorem ln_578 : ln 578 = 312 := by decide +kernel
theorem kd_580 : kd 580 = 13 := by decide +kernel
theorem ln_580 : ln 580 = 6 := by decide +kernel
theorem kd_583 : kd 583 = 13 := by decide +kernel
theorem ln_583 : ln 583 = 12480 := by decide +kernel
theorem kd_585 : kd 585 = 13 := by decide +kernel
theorem ln_585 : ln 585 = 30 := by decide +kernel
theorem kd_589 : kd 589 = 13 := by decide +kernel
theorem ln_589 : ln 589 = 312 := by decide +kernel
theorem lk1_0 {o : Nat} (h : kd o = 2) : kd (o + 1) = 13 ∧ ln (o + 1) = 4 := (show ∀ o, o < 591 → kd o = 2 → kd (o + 1) = 13 ∧ ln (o + 1) = 4 by decide +kernel) o (kd_lt (by omega)) h
theorem lk1_1 {o : Nat} (h : kd o = 2) : kd (o + 2) = 13 ∧ ln (o + 2) = 24 := (show ∀ o, o < 591 → kd o = 2 → kd (o + 2) = 13 ∧ ln (o + 2) = 24 by decide +kernel) o (kd_lt (by omega)) h
theorem lk1_2 {o : Nat} (h : kd o = 2) : kd (o + 3) = 13 ∧ ln (o + 3) = 24 := (show ∀ o, o < 591 → kd o = 2 → kd (o + 3) = 13 ∧ ln (o + 3) = 24 by decide +kernel) o (kd_lt (by omega)) h
theorem lk2_0 {o : Nat} (h : kd o = 3) : kd (o + 1) = 13 ∧ ln (o + 1) = 48 := (show ∀ o, o < 591 → kd o = 3 → kd (o + 1) = 13 ∧ ln (o + 1) = 48 by decide +kernel) o (kd_lt (by omega)) h
theorem lk5_0 {o : Nat} (h : kd o = 6) : kd (o + 1) = 13 ∧ ln (o + 1) = 240 := (show ∀ o, o < 591 → kd o = 6 → kd (o + 1) = 13 ∧ ln (o + 1) = 240 by decide +kernel) o (kd_lt (by omega)) h
theorem lk5_1 {o : Nat} (h : kd o = 6) : kd (o + 2) = 13 ∧ ln (o + 2) = 32 := (show ∀ o, o < 591 → kd o = 6 → kd (o + 2) = 13 ∧ ln (o + 2) = 32 by decide +kernel) o (kd_lt (by omega)) h
theorem lk7_0 {o : Nat} (h : kd o = 8) : kd (o + 1) = 13 ∧ ln (o + 1) = 8 := (show ∀ o, o < 591 → kd o = 8 → kd (o + 1) = 13 ∧ ln (o + 1) = 8 by decide +kernel) o (kd_lt (by omega)) h
theorem lk7_1 {o : Nat} (h : kd o = 8) : kd (o + 2) = 13 ∧ ln (o + 2) = 8 := (show ∀ o, o < 591 → kd o = 8 → kd (o + 2) = 13 ∧ ln (o + 2) = 8 by decide +kernel) o (kd_lt (by omega)) h
theorem lk7_2 {o : Nat} (h : kd o = 8) : kd (o + 3) = 13 ∧ ln (o + 3) = 8 := (show ∀ o, o < 591 → kd o = 8 → kd (o + 3) = 13 ∧ ln (o + 3) = 8 by decide +kernel) o (kd_lt (by omega)) h
theorem lk7_3 {o : Nat} (h : kd o = 8) : kd (o + 4) = 13 ∧ ln (o + 4) = 8 := (show ∀ o, o < 591 → kd o = 8 → kd (o + 4) = 13 ∧ ln (o + 4) = 8 by decide +kernel) o (kd_lt (by omega)) h
theorem lk7_4 {o : Nat} (h : kd o = 8) : kd (o + 5) = 13 ∧ ln (o + 5) = 6 := (show ∀ o, o < 591 → kd o = 8 → kd (o + 5) = 13 ∧ ln (o + 5) = 6 by decide +kernel) o (kd_lt (by omega)) h
theorem lk7_5 {o : Nat} (h : kd o = 8) : kd (o + 6) = 13 ∧ ln (o + 6) = 6 := (show ∀ o, o < 591 → kd o = 8 → kd (o + 6) = 13 ∧ ln (o + 6) = 6 by decide +kernel) o (kd_lt (by omega)) h
theorem lk7_6 {o : Nat} (h : kd o = 8) : kd (o + 7) = 13 ∧ ln (o + 7) = 6 := (show ∀ o, o < 591 → kd o = 8 → kd (o + 7) = 13 ∧ ln (o + 7) = 6 by decide +kernel) o (kd_lt (by omega)) h
theorem lk7_7 {o : Nat} (h : kd o = 8) : kd (o + 8) = 13 ∧ ln (o + 8) = 96 := (show ∀ o, o < 591 → kd o = 8 → kd (o + 8) = 13 ∧ ln (o + 8) = 96 by decide +kernel) o (kd_lt (by omega)) h
theorem lk7_8 {o : Nat} (h : kd o = 8) : kd (o + 9) = 13 ∧ ln (o + 9) = 180 := (show ∀ o, o < 591 → kd o = 8 → kd (o + 9) = 13 ∧ ln (o + 9) = 180 by decide +kernel) o (kd_lt (by omega)) h
theorem ra_3 {j : Nat} (h : j < 5) : kd (ra 3 j) = 6 := (show ∀ j, j < 5 → kd (ra 3 j) = 6 by decide +kernel) j h
theorem ra_4 {j : Nat} (h : j < 5) : kd (ra 4 j) = 3 := (show ∀ j, j < 5 → kd (ra 4 j) = 3 by decide +kernel) j h
theorem ra_27 {j : Nat} (h : j < 40) : kd (ra 27 j) = 8 := (show ∀ j, j < 40 → kd (ra 27 j) = 8 by decide +kernel) j h
theorem ra_445 {j : Nat} (h : j < 7) : kd (ra 445 j) = 8 := (show ∀ j, j < 7 → kd (ra 445 j) = 8 by decide +kernel) j h
theorem cst_RJ6_265 : Cond.constant RJ6 265 (1431655765 : Int32) ∈ ALL := allIdx 1116 (by decide +kernel) rfl
theorem cst_RJ6_266 : Cond.constant RJ6 266 (858993459 : Int32) ∈ ALL := allIdx 1117 (by decide +kernel) rfl
theorem cst_RJ6_267 : Cond.constant RJ6 267 (252645135 : Int32) ∈ ALL := allIdx 1118 (by decide +kernel) rfl
theorem cst_RX10_155 : Cond.constant RX10 155 (-1000000 : Int32) ∈ ALL := allIdx 712 (by decide +kernel) rfl
theorem cst_RX10_295 : Cond.constantLong RX10 295 (6364136223846793005 : Int64) ∈ ALL := allIdx 959 (by decide +kernel) rfl
theorem cst_RX10_297 : Cond.constantLong RX10 297 (1442695040888963407 : Int64) ∈ ALL := allIdx 960 (by decide +kernel) rfl
theorem cst_RX11_157 : Cond.constantLong RX11 157 (-1000000 : Int64) ∈ ALL := allIdx 1658 (by decide +kernel) rfl
theorem cst_RX11_159 : Cond.constantLong RX11 159 (1000000 : Int64) ∈ ALL := allIdx 1659 (by decide +kernel) rfl
theorem cst_RX11_288 : Cond.constantLong RX11 288 (2 : Int64) ∈ ALL := allIdx 1506 (by decide +kernel) rfl
theorem cst_RX11_409 : Cond.constantLong RX11 409 (5 : Int64) ∈ ALL := allIdx 1703 (by decide +kernel) rfl
theorem cst_RX11_411 : Cond.constant RX11 411 (-1000000 : Int32) ∈ ALL := allIdx 1704 (by decide +kernel) rfl
theorem cst_RX11_415 : Cond.constantLong RX11 415 (6 : Int64) ∈ ALL := allIdx 1713 (by decide +kernel) rfl
theorem cst_RX11_420 : Cond.constantLong RX11 420 (9 : Int64) ∈ ALL := allIdx 1765 (by decide +kernel) rfl
theorem cst_RX11_442 : Cond.constantLong RX11 442 (3 : Int64) ∈ ALL := allIdx 1856 (by decide +kernel) rfl
theorem cst_RX11_444 : Cond.constantLong RX11 444 (8 : Int64) ∈ ALL := allIdx 1861 (by decide +kernel) rfl
theorem cst_RX11_446 : Cond.constantLong RX11 446 (50 : Int64) ∈ ALL := allIdx 1866 (by decide +kernel) rfl
theorem cst_RX11_452 : Cond.constantLong RX11 452 (6364136223846793005 : Int64) ∈ ALL := allIdx 1876 (by decide +kernel) rfl
theorem cst_RX11_454 : Cond.constantLong RX11 454 (1442695040888963407 : Int64) ∈ ALL := allIdx 1877 (by decide +kernel) rfl
theorem cst_RX11_474 : Cond.constantLong RX11 474 (60 : Int64) ∈ ALL := allIdx 1920 (by decide +kernel) rfl
theorem cst_RX11_495 : Cond.constantLong RX11 495 (999 : Int64) ∈ ALL := allIdx 1957 (by decide +kernel) rfl
theorem cst_RX5_91 : Cond.constantLong RX5 91 (1000000 : Int64) ∈ ALL := allIdx 743 (by decide +kernel) rfl
theorem cst_RX5_93 : Cond.constant RX5 93 (1000000 : Int32) ∈ ALL := allIdx 744 (by decide +kernel) rfl
theorem cst_RX5_94 : Cond.constantLong RX5 94 (-1000000 : Int64) ∈ ALL := allIdx 745 (by decide +kernel) rfl
theorem cst_RX5_96 : Cond.constant RX5 96 (-1000000 : Int32) ∈ ALL := allIdx 746 (by decide +kernel) rfl
theorem fl_RX0_15 : Fl RX0 15 0 1 := ⟨by decide, by decide, allIdx 396 (by decide +kernel) rfl⟩
theorem fl_RX0_18 : Fl RX0 18 0 2 := ⟨by decide, by decide, allIdx 397 (by decide +kernel) rfl⟩
theorem fl_RX0_21 : Fl RX0 21 0 3 := ⟨by decide, by decide, allIdx 398 (by decide +kernel) rfl⟩
theorem fl_RX0_24 : Fl RX0 24 0 4 := ⟨by decide, by decide, allIdx 399 (by decide +kernel) rfl⟩
theorem fl_RX0_28 : Fl RX0 28 0 5 := ⟨by decide, by decide, allIdx 401 (by decide +kernel) rfl⟩
theorem fl_RX0_31 : Fl RX0 31 0 6 := ⟨by decide, by decide, allIdx 403 (by decide +kernel) rfl⟩
theorem fl_RX0_34 : Fl RX0 34 0 7 := ⟨by decide, by decide, allIdx 404 (by decide +kernel) rfl⟩
theorem fl_RX0_37 : Fl RX0 37 9 1 := ⟨by decide, by decide, allIdx 325 (by decide +kernel) rfl⟩
theorem fl_RX0_61 : Fl RX0 61 7 3 := ⟨by decide, by decide, allIdx 193 (by decide +kernel) rfl⟩
theorem fl_RX0_9 : Fl RX0 9 0 0 := ⟨by decide, by decide, allIdx 395 (by decide +kernel) rfl⟩
theorem fl_RX10_10 : Fl RX10 10 10 0 := ⟨by decide, by decide, allIdx 452 (by decide +kernel) rfl⟩
theorem fl_RX10_101 : Fl RX10 101 10 17 := ⟨by decide, by decide, allIdx 469 (by decide +kernel) rfl⟩
theorem fl_RX10_111 : Fl RX10 111 8 1 := ⟨by decide, by decide, allIdx 152 (by decide +kernel) rfl⟩
theorem fl_RX10_137 : Fl RX10 137 9 1 := ⟨by decide, by decide, allIdx 327 (by decide +kernel) rfl⟩
theorem fl_RX10_148 : Fl RX10 148 1 3 := ⟨by decide, by decide, allIdx 304 (by decide +kernel) rfl⟩
theorem fl_RX10_159 : Fl RX10 159 7 3 := ⟨by decide, by decide, allIdx 196 (by decide +kernel) rfl⟩
theorem fl_RX10_165 : Fl RX10 165 7 0 := ⟨by decide, by decide, allIdx 184 (by decide +kernel) rfl⟩
theorem fl_RX10_168 : Fl RX10 168 7 1 := ⟨by decide, by decide, allIdx 187 (by decide +kernel) rfl⟩
theorem fl_RX10_171 : Fl RX10 171 7 2 := ⟨by decide, by decide, allIdx 190 (by decide +kernel) rfl⟩
theorem fl_RX10_18 : Fl RX10 18 10 1 := ⟨by decide, by decide, allIdx 453 (by decide +kernel) rfl⟩
theorem fl_RX10_180 : Fl RX10 180 7 5 := ⟨by decide, by decide, allIdx 202 (by decide +kernel) rfl⟩
theorem fl_RX10_183 : Fl RX10 183 7 6 := ⟨by decide, by decide, allIdx 206 (by decide +kernel) rfl⟩
theorem fl_RX10_209 : Fl RX10 209 7 7 := ⟨by decide, by decide, allIdx 208 (by decide +kernel) rfl⟩
theorem fl_RX10_212 : Fl RX10 212 9 2 := ⟨by decide, by decide, allIdx 329 (by decide +kernel) rfl⟩
theorem fl_RX10_24 : Fl RX10 24 10 2 := ⟨by decide, by decide, allIdx 454 (by decide +kernel) rfl⟩
theorem fl_RX10_262 : Fl RX10 262 7 12 := ⟨by decide, by decide, allIdx 223 (by decide +kernel) rfl⟩
theorem fl_RX10_272 : Fl RX10 272 7 11 := ⟨by decide, by decide, allIdx 219 (by decide +kernel) rfl⟩
theorem fl_RX10_278 : Fl RX10 278 7 14 := ⟨by decide, by decide, allIdx 231 (by decide +kernel) rfl⟩
theorem fl_RX10_28 : Fl RX10 28 10 3 := ⟨by decide, by decide, allIdx 455 (by decide +kernel) rfl⟩
theorem fl_RX10_287 : Fl RX10 287 1 4 := ⟨by decide, by decide, allIdx 308 (by decide +kernel) rfl⟩
theorem fl_RX10_299 : Fl RX10 299 4 2 := ⟨by decide, by decide, allIdx 275 (by decide +kernel) rfl⟩
theorem fl_RX10_305 : Fl RX10 305 7 10 := ⟨by decide, by decide, allIdx 215 (by decide +kernel) rfl⟩
theorem fl_RX10_308 : Fl RX10 308 7 8 := ⟨by decide, by decide, allIdx 210 (by decide +kernel) rfl⟩
theorem fl_RX10_311 : Fl RX10 311 2 1 := ⟨by decide, by decide, allIdx 446 (by decide +kernel) rfl⟩
theorem fl_RX10_334 : Fl RX10 334 7 13 := ⟨by decide, by decide, allIdx 228 (by decide +kernel) rfl⟩
theorem fl_RX10_35 : Fl RX10 35 10 4 := ⟨by decide, by decide, allIdx 456 (by decide +kernel) rfl⟩
theorem fl_RX10_351 : Fl RX10 351 6 2 := ⟨by decide, by decide, allIdx 348 (by decide +kernel) rfl⟩
theorem fl_RX10_354 : Fl RX10 354 6 3 := ⟨by decide, by decide, allIdx 350 (by decide +kernel) rfl⟩
theorem fl_RX10_360 : Fl RX10 360 3 5 := ⟨by decide, by decide, allIdx 374 (by decide +kernel) rfl⟩
theorem fl_RX10_39 : Fl RX10 39 10 5 := ⟨by decide, by decide, allIdx 457 (by decide +kernel) rfl⟩
theorem fl_RX10_434 : Fl RX10 434 7 9 := ⟨by decide, by decide, allIdx 213 (by decide +kernel) rfl⟩
theorem fl_RX10_45 : Fl RX10 45 10 6 := ⟨by decide, by decide, allIdx 458 (by decide +kernel) rfl⟩
theorem fl_RX10_52 : Fl RX10 52 10 7 := ⟨by decide, by decide, allIdx 459 (by decide +kernel) rfl⟩
theorem fl_RX10_59 : Fl RX10 59 10 8 := ⟨by decide, by decide, allIdx 460 (by decide +kernel) rfl⟩
theorem fl_RX10_66 : Fl RX10 66 10 9 := ⟨by decide, by decide, allIdx 461 (by decide +kernel) rfl⟩
theorem fl_RX10_73 : Fl RX10 73 10 10 := ⟨by decide, by decide, allIdx 462 (by decide +kernel) rfl⟩
theorem fl_RX10_80 : Fl RX10 80 10 11 := ⟨by decide, by decide, allIdx 463 (by decide +kernel) rfl⟩
theorem fl_RX10_84 : Fl RX10 84 10 12 := ⟨by decide, by decide, allIdx 464 (by decide +kernel) rfl⟩
theorem fl_RX10_88 : Fl RX10 88 10 13 := ⟨by decide, by decide, allIdx 465 (by decide +kernel) rfl⟩
theorem fl_RX10_91 : Fl RX10 91 10 14 := ⟨by decide, by decide, allIdx 466 (by decide +kernel) rfl⟩
theorem fl_RX10_94 : Fl RX10 94 10 15 := ⟨by decide, by decide, allIdx 467 (by decide +kernel) rfl⟩
theorem fl_RX10_97 : Fl RX10 97 10 16 := ⟨by decide, by decide, allIdx 468 (by decide +kernel) rfl⟩
theorem fl_RX11_109 : Fl RX11 109 11 55 := ⟨by decide, by decide, allIdx 1364 (by decide +kernel) rfl⟩
theorem fl_RX11_112 : Fl RX11 112 11 0 := ⟨by decide, by decide, allIdx 1309 (by decide +kernel) rfl⟩
theorem fl_RX11_125 : Fl RX11 125 11 6 := ⟨by decide, by decide, allIdx 1315 (by decide +kernel) rfl⟩
theorem fl_RX11_135 : Fl RX11 135 11 10 := ⟨by decide, by decide, allIdx 1319 (by decide +kernel) rfl⟩
theorem fl_RX11_138 : Fl RX11 138 11 9 := ⟨by decide, by decide, allIdx 1318 (by decide +kernel) rfl⟩
theorem fl_RX11_141 : Fl RX11 141 11 8 := ⟨by decide, by decide, allIdx 1317 (by decide +kernel) rfl⟩
theorem fl_RX11_144 : Fl RX11 144 11 11 := ⟨by decide, by decide, allIdx 1320 (by decide +kernel) rfl⟩
theorem fl_RX11_147 : Fl RX11 147 11 12 := ⟨by decide, by decide, allIdx 1321 (by decide +kernel) rfl⟩
theorem fl_RX11_23 : Fl RX11 23 11 5 := ⟨by decide, by decide, allIdx 1314 (by decide +kernel) rfl⟩
theorem fl_RX11_258 : Fl RX11 258 11 31 := ⟨by decide, by decide, allIdx 1340 (by decide +kernel) rfl⟩
theorem fl_RX11_261 : Fl RX11 261 11 28 := ⟨by decide, by decide, allIdx 1337 (by decide +kernel) rfl⟩
theorem fl_RX11_264 : Fl RX11 264 11 29 := ⟨by decide, by decide, allIdx 1338 (by decide +kernel) rfl⟩
theorem fl_RX11_299 : Fl RX11 299 11 7 := ⟨by decide, by decide, allIdx 1316 (by decide +kernel) rfl⟩
theorem fl_RX11_302 : Fl RX11 302 11 30 := ⟨by decide, by decide, allIdx 1339 (by decide +kernel) rfl⟩
theorem fl_RX11_307 : Fl RX11 307 11 26 := ⟨by decide, by decide, allIdx 1335 (by decide +kernel) rfl⟩
theorem fl_RX11_310 : Fl RX11 310 11 27 := ⟨by decide, by decide, allIdx 1336 (by decide +kernel) rfl⟩
theorem fl_RX11_317 : Fl RX11 317 11 51 := ⟨by decide, by decide, allIdx 1360 (by decide +kernel) rfl⟩
theorem fl_RX11_320 : Fl RX11 320 11 44 := ⟨by decide, by decide, allIdx 1353 (by decide +kernel) rfl⟩
theorem fl_RX11_323 : Fl RX11 323 11 56 := ⟨by decide, by decide, allIdx 1365 (by decide +kernel) rfl⟩
theorem fl_RX11_329 : Fl RX11 329 11 40 := ⟨by decide, by decide, allIdx 1349 (by decide +kernel) rfl⟩
theorem fl_RX11_332 : Fl RX11 332 11 42 := ⟨by decide, by decide, allIdx 1351 (by decide +kernel) rfl⟩
theorem fl_RX11_37 : Fl RX11 37 11 18 := ⟨by decide, by decide, allIdx 1327 (by decide +kernel) rfl⟩
theorem fl_RX11_40 : Fl RX11 40 11 19 := ⟨by decide, by decide, allIdx 1328 (by decide +kernel) rfl⟩
theorem fl_RX11_43 : Fl RX11 43 11 20 := ⟨by decide, by decide, allIdx 1329 (by decide +kernel) rfl⟩
theorem fl_RX11_448 : Fl RX11 448 11 45 := ⟨by decide, by decide, allIdx 1354 (by decide +kernel) rfl⟩
theorem fl_RX11_46 : Fl RX11 46 11 21 := ⟨by decide, by decide, allIdx 1330 (by decide +kernel) rfl⟩
theorem fl_RX11_49 : Fl RX11 49 11 22 := ⟨by decide, by decide, allIdx 1331 (by decide +kernel) rfl⟩
theorem fl_RX11_52 : Fl RX11 52 11 23 := ⟨by decide, by decide, allIdx 1332 (by decide +kernel) rfl⟩
theorem fl_RX11_55 : Fl RX11 55 11 24 := ⟨by decide, by decide, allIdx 1333 (by decide +kernel) rfl⟩
theorem fl_RX11_58 : Fl RX11 58 11 25 := ⟨by decide, by decide, allIdx 1334 (by decide +kernel) rfl⟩
theorem fl_RX11_61 : Fl RX11 61 11 32 := ⟨by decide, by decide, allIdx 1341 (by decide +kernel) rfl⟩
theorem fl_RX11_67 : Fl RX11 67 11 34 := ⟨by decide, by decide, allIdx 1343 (by decide +kernel) rfl⟩
theorem fl_RX11_70 : Fl RX11 70 11 35 := ⟨by decide, by decide, allIdx 1344 (by decide +kernel) rfl⟩
theorem fl_RX11_74 : Fl RX11 74 11 36 := ⟨by decide, by decide, allIdx 1345 (by decide +kernel) rfl⟩
theorem fl_RX11_84 : Fl RX11 84 11 39 := ⟨by decide, by decide, allIdx 1348 (by decide +kernel) rfl⟩
theorem fl_RX11_87 : Fl RX11 87 11 41 := ⟨by decide, by decide, allIdx 1350 (by decide +kernel) rfl⟩
theorem fl_RX11_9 : Fl RX11 9 11 1 := ⟨by decide, by decide, allIdx 1310 (by decide +kernel) rfl⟩
theorem fl_RX11_90 : Fl RX11 90 11 43 := ⟨by decide, by decide, allIdx 1352 (by decide +kernel) rfl⟩
theorem fl_RX11_96 : Fl RX11 96 11 50 := ⟨by decide, by decide, allIdx 1359 (by decide +kernel) rfl⟩
theorem fl_RX1_11 : Fl RX1 11 1 0 := ⟨by decide, by decide, allIdx 297 (by decide +kernel) rfl⟩
theorem fl_RX1_15 : Fl RX1 15 1 1 := ⟨by decide, by decide, allIdx 298 (by decide +kernel) rfl⟩
theorem fl_RX1_18 : Fl RX1 18 1 2 := ⟨by decide, by decide, allIdx 299 (by decide +kernel) rfl⟩
theorem fl_RX1_21 : Fl RX1 21 1 3 := ⟨by decide, by decide, allIdx 300 (by decide +kernel) rfl⟩
theorem fl_RX1_25 : Fl RX1 25 1 4 := ⟨by decide, by decide, allIdx 305 (by decide +kernel) rfl⟩
theorem fl_RX1_28 : Fl RX1 28 1 5 := ⟨by decide, by decide, allIdx 309 (by decide +kernel) rfl⟩
theorem fl_RX1_41 : Fl RX1 41 8 2 := ⟨by decide, by decide, allIdx 156 (by decide +kernel) rfl⟩
theorem fl_RX1_76 : Fl RX1 76 8 3 := ⟨by decide, by decide, allIdx 159 (by decide +kernel) rfl⟩
theorem fl_RX2_11 : Fl RX2 11 2 0 := ⟨by decide, by decide, allIdx 444 (by decide +kernel) rfl⟩
theorem fl_RX2_15 : Fl RX2 15 2 1 := ⟨by decide, by decide, allIdx 445 (by decide +kernel) rfl⟩
theorem fl_RX2_19 : Fl RX2 19 8 2 := ⟨by decide, by decide, allIdx 155 (by decide +kernel) rfl⟩
theorem fl_RX2_47 : Fl RX2 47 8 3 := ⟨by decide, by decide, allIdx 158 (by decide +kernel) rfl⟩
theorem fl_RX3_12 : Fl RX3 12 3 0 := ⟨by decide, by decide, allIdx 368 (by decide +kernel) rfl⟩
theorem fl_RX3_18 : Fl RX3 18 3 1 := ⟨by decide, by decide, allIdx 369 (by decide +kernel) rfl⟩
theorem fl_RX3_22 : Fl RX3 22 3 2 := ⟨by decide, by decide, allIdx 370 (by decide +kernel) rfl⟩
theorem fl_RX3_25 : Fl RX3 25 3 3 := ⟨by decide, by decide, allIdx 371 (by decide +kernel) rfl⟩
theorem fl_RX3_29 : Fl RX3 29 3 4 := ⟨by decide, by decide, allIdx 372 (by decide +kernel) rfl⟩
theorem fl_RX3_32 : Fl RX3 32 3 5 := ⟨by decide, by decide, allIdx 373 (by decide +kernel) rfl⟩
theorem fl_RX3_42 : Fl RX3 42 9 1 := ⟨by decide, by decide, allIdx 326 (by decide +kernel) rfl⟩
theorem fl_RX3_52 : Fl RX3 52 7 6 := ⟨by decide, by decide, allIdx 205 (by decide +kernel) rfl⟩
theorem fl_RX3_59 : Fl RX3 59 7 13 := ⟨by decide, by decide, allIdx 226 (by decide +kernel) rfl⟩
theorem fl_RX4_11 : Fl RX4 11 4 0 := ⟨by decide, by decide, allIdx 272 (by decide +kernel) rfl⟩
theorem fl_RX4_17 : Fl RX4 17 4 1 := ⟨by decide, by decide, allIdx 273 (by decide +kernel) rfl⟩
theorem fl_RX4_21 : Fl RX4 21 4 2 := ⟨by decide, by decide, allIdx 274 (by decide +kernel) rfl⟩
theorem fl_RX5_15 : Fl RX5 15 5 1 := ⟨by decide, by decide, allIdx 430 (by decide +kernel) rfl⟩
theorem fl_RX5_18 : Fl RX5 18 5 2 := ⟨by decide, by decide, allIdx 431 (by decide +kernel) rfl⟩
theorem fl_RX5_9 : Fl RX5 9 5 0 := ⟨by decide, by decide, allIdx 429 (by decide +kernel) rfl⟩
theorem fl_RX6_12 : Fl RX6 12 6 0 := ⟨by decide, by decide, allIdx 345 (by decide +kernel) rfl⟩
theorem fl_RX6_22 : Fl RX6 22 6 2 := ⟨by decide, by decide, allIdx 347 (by decide +kernel) rfl⟩
theorem fl_RX6_26 : Fl RX6 26 6 3 := ⟨by decide, by decide, allIdx 349 (by decide +kernel) rfl⟩
theorem fl_RX6_38 : Fl RX6 38 7 11 := ⟨by decide, by decide, allIdx 217 (by decide +kernel) rfl⟩
theorem fl_RX6_41 : Fl RX6 41 7 13 := ⟨by decide, by decide, allIdx 225 (by decide +kernel) rfl⟩
theorem fl_RX6_48 : Fl RX6 48 7 3 := ⟨by decide, by decide, allIdx 195 (by decide +kernel) rfl⟩
theorem fl_RX6_52 : Fl RX6 52 7 1 := ⟨by decide, by decide, allIdx 186 (by decide +kernel) rfl⟩
theorem fl_RX7_15 : Fl RX7 15 7 1 := ⟨by decide, by decide, allIdx 185 (by decide +kernel) rfl⟩
theorem fl_RX7_18 : Fl RX7 18 7 2 := ⟨by decide, by decide, allIdx 189 (by decide +kernel) rfl⟩
theorem fl_RX7_21 : Fl RX7 21 7 3 := ⟨by decide, by decide, allIdx 192 (by decide +kernel) rfl⟩
theorem fl_RX7_24 : Fl RX7 24 7 4 := ⟨by decide, by decide, allIdx 197 (by decide +kernel) rfl⟩
theorem fl_RX7_27 : Fl RX7 27 7 5 := ⟨by decide, by decide, allIdx 200 (by decide +kernel) rfl⟩
theorem fl_RX7_30 : Fl RX7 30 7 6 := ⟨by decide, by decide, allIdx 203 (by decide +kernel) rfl⟩
theorem fl_RX7_33 : Fl RX7 33 7 7 := ⟨by decide, by decide, allIdx 207 (by decide +kernel) rfl⟩
theorem fl_RX7_36 : Fl RX7 36 7 8 := ⟨by decide, by decide, allIdx 209 (by decide +kernel) rfl⟩
theorem fl_RX7_39 : Fl RX7 39 7 9 := ⟨by decide, by decide, allIdx 211 (by decide +kernel) rfl⟩
theorem fl_RX7_43 : Fl RX7 43 7 10 := ⟨by decide, by decide, allIdx 214 (by decide +kernel) rfl⟩
theorem fl_RX7_46 : Fl RX7 46 7 11 := ⟨by decide, by decide, allIdx 216 (by decide +kernel) rfl⟩
theorem fl_RX7_49 : Fl RX7 49 7 12 := ⟨by decide, by decide, allIdx 220 (by decide +kernel) rfl⟩
theorem fl_RX7_52 : Fl RX7 52 7 13 := ⟨by decide, by decide, allIdx 224 (by decide +kernel) rfl⟩
theorem fl_RX7_55 : Fl RX7 55 7 14 := ⟨by decide, by decide, allIdx 229 (by decide +kernel) rfl⟩
theorem fl_RX7_64 : Fl RX7 64 1 3 := ⟨by decide, by decide, allIdx 303 (by decide +kernel) rfl⟩
theorem fl_RX7_73 : Fl RX7 73 1 4 := ⟨by decide, by decide, allIdx 306 (by decide +kernel) rfl⟩
theorem fl_RX7_9 : Fl RX7 9 7 0 := ⟨by decide, by decide, allIdx 181 (by decide +kernel) rfl⟩
theorem fl_RX8_15 : Fl RX8 15 8 1 := ⟨by decide, by decide, allIdx 151 (by decide +kernel) rfl⟩
theorem fl_RX8_19 : Fl RX8 19 8 2 := ⟨by decide, by decide, allIdx 153 (by decide +kernel) rfl⟩
theorem fl_RX8_22 : Fl RX8 22 8 3 := ⟨by decide, by decide, allIdx 157 (by decide +kernel) rfl⟩
theorem fl_RX8_9 : Fl RX8 9 8 0 := ⟨by decide, by decide, allIdx 150 (by decide +kernel) rfl⟩
theorem fl_RX9_145 : Fl RX9 145 7 2 := ⟨by decide, by decide, allIdx 191 (by decide +kernel) rfl⟩
theorem fl_RX9_15 : Fl RX9 15 9 0 := ⟨by decide, by decide, allIdx 323 (by decide +kernel) rfl⟩
theorem fl_RX9_159 : Fl RX9 159 7 1 := ⟨by decide, by decide, allIdx 188 (by decide +kernel) rfl⟩
theorem fl_RX9_196 : Fl RX9 196 7 13 := ⟨by decide, by decide, allIdx 227 (by decide +kernel) rfl⟩
theorem fl_RX9_202 : Fl RX9 202 7 9 := ⟨by decide, by decide, allIdx 212 (by decide +kernel) rfl⟩
theorem fl_RX9_24 : Fl RX9 24 9 1 := ⟨by decide, by decide, allIdx 324 (by decide +kernel) rfl⟩
theorem fl_RX9_28 : Fl RX9 28 9 2 := ⟨by decide, by decide, allIdx 328 (by decide +kernel) rfl⟩
theorem fl_RX9_32 : Fl RX9 32 1 3 := ⟨by decide, by decide, allIdx 301 (by decide +kernel) rfl⟩
theorem fl_RX9_36 : Fl RX9 36 1 4 := ⟨by decide, by decide, allIdx 307 (by decide +kernel) rfl⟩
theorem fl_RX9_39 : Fl RX9 39 7 6 := ⟨by decide, by decide, allIdx 204 (by decide +kernel) rfl⟩
theorem fl_RX9_44 : Fl RX9 44 7 3 := ⟨by decide, by decide, allIdx 194 (by decide +kernel) rfl⟩
theorem fl_RX9_51 : Fl RX9 51 7 5 := ⟨by decide, by decide, allIdx 201 (by decide +kernel) rfl⟩
theorem fl_RX9_57 : Fl RX9 57 7 14 := ⟨by decide, by decide, allIdx 230 (by decide +kernel) rfl⟩
theorem fl_RX9_76 : Fl RX9 76 7 11 := ⟨by decide, by decide, allIdx 218 (by decide +kernel) rfl⟩
theorem fl_RX9_79 : Fl RX9 79 7 12 := ⟨by decide, by decide, allIdx 221 (by decide +kernel) rfl⟩
theorem fl_RX9_95 : Fl RX9 95 7 0 := ⟨by decide, by decide, allIdx 183 (by decide +kernel) rfl⟩
theorem fl_RX9_98 : Fl RX9 98 7 4 := ⟨by decide, by decide, allIdx 198 (by decide +kernel) rfl⟩
theorem fs_RX1_32 : Cond.fieldLink RX1 32 "NearlyBought$City" "USUAL" "[I" ∈ ALL := allIdx 531 (by decide +kernel) rfl
theorem fs_RX1_66 : Cond.fieldLink RX1 66 "NearlyBought$City" "LOWEST" "[I" ∈ ALL := allIdx 559 (by decide +kernel) rfl
theorem fs_RX1_69 : Cond.fieldLink RX1 69 "NearlyBought$City" "HIGHEST" "[I" ∈ ALL := allIdx 561 (by decide +kernel) rfl
theorem fs_RX1_79 : Cond.fieldLink RX1 79 "NearlyBought$City" "LETTERS" "[C" ∈ ALL := allIdx 557 (by decide +kernel) rfl
theorem fs_RX2_36 : Cond.fieldLink RX2 36 "NearlyBought$Day" "LETTERS" "[C" ∈ ALL := allIdx 648 (by decide +kernel) rfl
theorem fs_RX2_40 : Cond.fieldLink RX2 40 "NearlyBought$Day" "DIGITS" "[I" ∈ ALL := allIdx 650 (by decide +kernel) rfl
theorem fs_RX5_77 : Cond.fieldLink RX5 77 "NearlyBought$Law" "LETTERS" "[C" ∈ ALL := allIdx 609 (by decide +kernel) rfl
theorem lc_RX1_35 : Lc RX1 35 := ⟨allIdx 533 (by decide +kernel) rfl, allIdx 535 (by decide +kernel) rfl, allIdx 534 (by decide +kernel) rfl, allIdx 124 (by decide +kernel) rfl⟩
theorem lc_RX7_86 : Lc RX7 86 := ⟨allIdx 791 (by decide +kernel) rfl, allIdx 535 (by decide +kernel) rfl, allIdx 534 (by decide +kernel) rfl, allIdx 124 (by decide +kernel) rfl⟩
theorem lk_RX0_48 : Cond.methodLink RX0 48 yX0_lookAt ∈ ALL := allIdx 1043 (by decide +kernel) rfl
theorem lk_RX0_64 : Cond.methodLink RX0 64 yX9_liked ∈ ALL := allIdx 1047 (by decide +kernel) rfl
theorem lk_RX0_68 : Cond.methodLink RX0 68 yX9_dueIfPutBack ∈ ALL := allIdx 1048 (by decide +kernel) rfl
theorem lk_RX0_75 : Cond.methodLink RX0 75 yX1_priceOf ∈ ALL := allIdx 1144 (by decide +kernel) rfl
theorem lk_RX0_79 : Cond.methodLink RX0 79 yX0_sellerHas ∈ ALL := allIdx 1153 (by decide +kernel) rfl
theorem lk_RX0_83 : Cond.methodLink RX0 83 yX0_isRest ∈ ALL := allIdx 1162 (by decide +kernel) rfl
theorem lk_RX0_87 : Cond.methodLink RX0 87 yX0_buyerHas ∈ ALL := allIdx 1166 (by decide +kernel) rfl
theorem lk_RX10_107 : Cond.methodLink RX10 107 yX8_bytesIn ∈ ALL := allIdx 511 (by decide +kernel) rfl
theorem lk_RX10_114 : Cond.methodLink RX10 114 yX8_add ∈ ALL := allIdx 515 (by decide +kernel) rfl
theorem lk_RX10_140 : Cond.methodLink RX10 140 yX7_beginAs ∈ ALL := allIdx 665 (by decide +kernel) rfl
theorem lk_RX10_144 : Cond.methodLink RX10 144 yX4_forget ∈ ALL := allIdx 688 (by decide +kernel) rfl
theorem lk_RX10_147 : Cond.methodLink RX10 147 yX3_forget ∈ ALL := allIdx 692 (by decide +kernel) rfl
theorem lk_RX10_151 : Cond.methodLink RX10 151 yX9_isThing ∈ ALL := allIdx 708 (by decide +kernel) rfl
theorem lk_RX10_156 : Cond.methodLink RX10 156 yX1_priceOf ∈ ALL := allIdx 713 (by decide +kernel) rfl
theorem lk_RX10_162 : Cond.methodLink RX10 162 yX1_shopOf ∈ ALL := allIdx 717 (by decide +kernel) rfl
theorem lk_RX10_174 : Cond.methodLink RX10 174 yX9_isBuyer ∈ ALL := allIdx 725 (by decide +kernel) rfl
theorem lk_RX10_186 : Cond.methodLink RX10 186 yX1_nerveOf ∈ ALL := allIdx 1196 (by decide +kernel) rfl
theorem lk_RX10_195 : Cond.methodLink RX10 195 yX7_dueOf ∈ ALL := allIdx 1183 (by decide +kernel) rfl
theorem lk_RX10_201 : Cond.methodLink RX10 201 yX9_liked ∈ ALL := allIdx 729 (by decide +kernel) rfl
theorem lk_RX10_205 : Cond.methodLink RX10 205 yX7_billRow ∈ ALL := allIdx 757 (by decide +kernel) rfl
theorem lk_RX10_216 : Cond.methodLink RX10 216 yX9_whyNotPick ∈ ALL := allIdx 773 (by decide +kernel) rfl
theorem lk_RX10_219 : Cond.methodLink RX10 219 yX10_refused ∈ ALL := allIdx 779 (by decide +kernel) rfl
theorem lk_RX10_222 : Cond.methodLink RX10 222 yX4_keep ∈ ALL := allIdx 783 (by decide +kernel) rfl
theorem lk_RX10_226 : Cond.methodLink RX10 226 yX9_pickUp ∈ ALL := allIdx 792 (by decide +kernel) rfl
theorem lk_RX10_230 : Cond.methodLink RX10 230 yX9_whyNotPutBack ∈ ALL := allIdx 800 (by decide +kernel) rfl
theorem lk_RX10_234 : Cond.methodLink RX10 234 yX9_layBack ∈ ALL := allIdx 804 (by decide +kernel) rfl
theorem lk_RX10_237 : Cond.methodLink RX10 237 yX9_whyNotHand ∈ ALL := allIdx 828 (by decide +kernel) rfl
theorem lk_RX10_240 : Cond.methodLink RX10 240 yX9_passOn ∈ ALL := allIdx 832 (by decide +kernel) rfl
theorem lk_RX10_243 : Cond.methodLink RX10 243 yX9_whyNotBuy ∈ ALL := allIdx 840 (by decide +kernel) rfl
theorem lk_RX10_246 : Cond.methodLink RX10 246 yX9_purchase ∈ ALL := allIdx 845 (by decide +kernel) rfl
theorem lk_RX10_249 : Cond.methodLink RX10 249 yX9_whyNotHour ∈ ALL := allIdx 861 (by decide +kernel) rfl
theorem lk_RX10_253 : Cond.methodLink RX10 253 yX9_passHour ∈ ALL := allIdx 869 (by decide +kernel) rfl
theorem lk_RX10_256 : Cond.methodLink RX10 256 yX7_holders ∈ ALL := allIdx 921 (by decide +kernel) rfl
theorem lk_RX10_259 : Cond.methodLink RX10 259 yX10_whyNotClerk ∈ ALL := allIdx 926 (by decide +kernel) rfl
theorem lk_RX10_265 : Cond.methodLink RX10 265 yX9_hasCity ∈ ALL := allIdx 930 (by decide +kernel) rfl
theorem lk_RX10_269 : Cond.methodLink RX10 269 yX10_whyNotRate ∈ ALL := allIdx 935 (by decide +kernel) rfl
theorem lk_RX10_275 : Cond.methodLink RX10 275 yX10_whyNotGift ∈ ALL := allIdx 943 (by decide +kernel) rfl
theorem lk_RX10_281 : Cond.methodLink RX10 281 yX10_drawWhatComes ∈ ALL := allIdx 951 (by decide +kernel) rfl
theorem lk_RX10_284 : Cond.methodLink RX10 284 yX10_draw ∈ ALL := allIdx 955 (by decide +kernel) rfl
theorem lk_RX10_302 : Cond.methodLink RX10 302 yX4_restore ∈ ALL := allIdx 970 (by decide +kernel) rfl
theorem lk_RX10_312 : Cond.methodLink RX10 312 yX2_part ∈ ALL := allIdx 982 (by decide +kernel) rfl
theorem lk_RX10_315 : Cond.methodLink RX10 315 yX6_startingAt ∈ ALL := allIdx 990 (by decide +kernel) rfl
theorem lk_RX10_319 : Cond.methodLink RX10 319 yX9_whyNotStep ∈ ALL := allIdx 995 (by decide +kernel) rfl
theorem lk_RX10_323 : Cond.methodLink RX10 323 yX9_makeStep ∈ ALL := allIdx 1004 (by decide +kernel) rfl
theorem lk_RX10_327 : Cond.methodLink RX10 327 yX7_dueOfAll ∈ ALL := allIdx 1010 (by decide +kernel) rfl
theorem lk_RX10_330 : Cond.methodLink RX10 330 yX6_behind ∈ ALL := allIdx 1022 (by decide +kernel) rfl
theorem lk_RX10_347 : Cond.methodLink RX10 347 yX6_seekRate ∈ ALL := allIdx 1061 (by decide +kernel) rfl
theorem lk_RX10_357 : Cond.methodLink RX10 357 yX6_seekWeight ∈ ALL := allIdx 1069 (by decide +kernel) rfl
theorem lk_RX10_363 : Cond.methodLink RX10 363 yX3_noteSeen ∈ ALL := allIdx 1081 (by decide +kernel) rfl
theorem lk_RX10_367 : Cond.methodLink RX10 367 yX3_latestSeen ∈ ALL := allIdx 1089 (by decide +kernel) rfl
theorem lk_RX10_370 : Cond.methodLink RX10 370 yX3_foretell ∈ ALL := allIdx 1094 (by decide +kernel) rfl
theorem lk_RX10_374 : Cond.methodLink RX10 374 yX3_fitting ∈ ALL := allIdx 1101 (by decide +kernel) rfl
theorem lk_RX10_377 : Cond.methodLink RX10 377 yX10_nthOrCount ∈ ALL := allIdx 1109 (by decide +kernel) rfl
theorem lk_RX10_380 : Cond.methodLink RX10 380 yJ6_bitCount_0f7a4 ∈ ALL := allIdx 1113 (by decide +kernel) rfl
theorem lk_RX10_385 : Cond.methodLink RX10 385 yX3_hoursToAsk ∈ ALL := allIdx 1123 (by decide +kernel) rfl
theorem lk_RX10_388 : Cond.methodLink RX10 388 yX10_canDeal ∈ ALL := allIdx 1136 (by decide +kernel) rfl
theorem lk_RX10_392 : Cond.methodLink RX10 392 yX0_sitDown ∈ ALL := allIdx 1140 (by decide +kernel) rfl
theorem lk_RX10_395 : Cond.methodLink RX10 395 yX0_sellerHas ∈ ALL := allIdx 1145 (by decide +kernel) rfl
theorem lk_RX10_398 : Cond.methodLink RX10 398 yX0_buyerHas ∈ ALL := allIdx 1149 (by decide +kernel) rfl
theorem lk_RX10_401 : Cond.methodLink RX10 401 yX0_nthRest ∈ ALL := allIdx 1158 (by decide +kernel) rfl
theorem lk_RX10_409 : Cond.methodLink RX10 409 yX10_firstWithMost ∈ ALL := allIdx 1188 (by decide +kernel) rfl
theorem lk_RX10_412 : Cond.methodLink RX10 412 yX10_freeThings ∈ ALL := allIdx 1201 (by decide +kernel) rfl
theorem lk_RX10_415 : Cond.methodLink RX10 415 yX10_soldThings ∈ ALL := allIdx 1205 (by decide +kernel) rfl
theorem lk_RX10_418 : Cond.methodLink RX10 418 yX10_afraid ∈ ALL := allIdx 1209 (by decide +kernel) rfl
theorem lk_RX10_421 : Cond.methodLink RX10 421 yX10_measure ∈ ALL := allIdx 1192 (by decide +kernel) rfl
theorem lk_RX10_424 : Cond.methodLink RX10 424 yX10_likingOfAll ∈ ALL := allIdx 1197 (by decide +kernel) rfl
theorem lk_RX10_427 : Cond.methodLink RX10 427 yX9_isAfraid ∈ ALL := allIdx 1213 (by decide +kernel) rfl
theorem lk_RX10_431 : Cond.methodLink RX10 431 yX7_copyFrom ∈ ALL := allIdx 1218 (by decide +kernel) rfl
theorem lk_RX11_115 : Cond.methodLink RX11 115 yJ0_length_8abf5 ∈ ALL := allIdx 1538 (by decide +kernel) rfl
theorem lk_RX11_121 : Cond.methodLink RX11 121 yJ0_charAt_5068e ∈ ALL := allIdx 1551 (by decide +kernel) rfl
theorem lk_RX11_127 : Cond.methodLink RX11 127 yX11_bytesIn ∈ ALL := allIdx 1491 (by decide +kernel) rfl
theorem lk_RX11_131 : Cond.methodLink RX11 131 yX11_put ∈ ALL := allIdx 1494 (by decide +kernel) rfl
theorem lk_RX11_150 : Cond.methodLink RX11 150 yX11_fails ∈ ALL := allIdx 1529 (by decide +kernel) rfl
theorem lk_RX11_154 : Cond.methodLink RX11 154 yX11_look ∈ ALL := allIdx 1525 (by decide +kernel) rfl
theorem lk_RX11_184 : Cond.methodLink RX11 184 yX11_isDigit ∈ ALL := allIdx 1602 (by decide +kernel) rfl
theorem lk_RX11_223 : Cond.methodLink RX11 223 yX11_starts ∈ ALL := allIdx 1514 (by decide +kernel) rfl
theorem lk_RX11_230 : Cond.methodLink RX11 230 yX11_here ∈ ALL := allIdx 1606 (by decide +kernel) rfl
theorem lk_RX11_233 : Cond.methodLink RX11 233 yX11_isIn ∈ ALL := allIdx 1507 (by decide +kernel) rfl
theorem lk_RX11_237 : Cond.methodLink RX11 237 yX11_usual ∈ ALL := allIdx 1518 (by decide +kernel) rfl
theorem lk_RX11_241 : Cond.methodLink RX11 241 yX11_spotOf ∈ ALL := allIdx 1548 (by decide +kernel) rfl
theorem lk_RX11_245 : Cond.methodLink RX11 245 yX11_has ∈ ALL := allIdx 1589 (by decide +kernel) rfl
theorem lk_RX11_249 : Cond.methodLink RX11 249 yX11_leastOf ∈ ALL := allIdx 1592 (by decide +kernel) rfl
theorem lk_RX11_252 : Cond.methodLink RX11 252 yX11_mostOf ∈ ALL := allIdx 1595 (by decide +kernel) rfl
theorem lk_RX11_255 : Cond.methodLink RX11 255 yX11_number ∈ ALL := allIdx 1598 (by decide +kernel) rfl
theorem lk_RX11_269 : Cond.methodLink RX11 269 yX11_readItems ∈ ALL := allIdx 1534 (by decide +kernel) rfl
theorem lk_RX11_277 : Cond.methodLink RX11 277 yX11_readClause ∈ ALL := allIdx 1521 (by decide +kernel) rfl
theorem lk_RX11_282 : Cond.methodLink RX11 282 yX11_digit ∈ ALL := allIdx 1682 (by decide +kernel) rfl
theorem lk_RX11_285 : Cond.methodLink RX11 285 yX11_readStep ∈ ALL := allIdx 1677 (by decide +kernel) rfl
theorem lk_RX11_326 : Cond.methodLink RX11 326 yX11_isThing ∈ ALL := allIdx 1699 (by decide +kernel) rfl
theorem lk_RX11_361 : Cond.methodLink RX11 361 yX11_holds ∈ ALL := allIdx 1714 (by decide +kernel) rfl
theorem lk_RX11_365 : Cond.methodLink RX11 365 yX11_dueFor ∈ ALL := allIdx 1798 (by decide +kernel) rfl
theorem lk_RX11_369 : Cond.methodLink RX11 369 yX11_strikes ∈ ALL := allIdx 1802 (by decide +kernel) rfl
theorem lk_RX11_382 : Cond.methodLink RX11 382 yX11_dueOf ∈ ALL := allIdx 1718 (by decide +kernel) rfl
theorem lk_RX11_385 : Cond.methodLink RX11 385 yX11_isFree ∈ ALL := allIdx 1778 (by decide +kernel) rfl
theorem lk_RX11_412 : Cond.methodLink RX11 412 yX11_isBuyer ∈ ALL := allIdx 1709 (by decide +kernel) rfl
theorem lk_RX11_417 : Cond.methodLink RX11 417 yX11_billsOf ∈ ALL := allIdx 1721 (by decide +kernel) rfl
theorem lk_RX11_422 : Cond.methodLink RX11 422 yX11_stops ∈ ALL := allIdx 1774 (by decide +kernel) rfl
theorem lk_RX11_426 : Cond.methodLink RX11 426 yX11_refused ∈ ALL := allIdx 1782 (by decide +kernel) rfl
theorem lk_RX11_429 : Cond.methodLink RX11 429 yX11_remember ∈ ALL := allIdx 1786 (by decide +kernel) rfl
theorem lk_RX11_461 : Cond.methodLink RX11 461 yX11_isPlan ∈ ALL := allIdx 1894 (by decide +kernel) rfl
theorem lk_RX11_471 : Cond.methodLink RX11 471 yX11_allDue ∈ ALL := allIdx 1909 (by decide +kernel) rfl
theorem lk_RX1_46 : Cond.methodLink RX1 46 yX1_clauseReads ∈ ALL := allIdx 536 (by decide +kernel) rfl
theorem lk_RX1_50 : Cond.methodLink RX1 50 yX8_sign ∈ ALL := allIdx 552 (by decide +kernel) rfl
theorem lk_RX1_54 : Cond.methodLink RX1 54 yX8_passes ∈ ALL := allIdx 540 (by decide +kernel) rfl
theorem lk_RX1_58 : Cond.methodLink RX1 58 yX1_itemsRead ∈ ALL := allIdx 548 (by decide +kernel) rfl
theorem lk_RX1_62 : Cond.methodLink RX1 62 yX1_itemOf ∈ ALL := allIdx 553 (by decide +kernel) rfl
theorem lk_RX1_72 : Cond.methodLink RX1 72 yX8_passesNumberWithin ∈ ALL := allIdx 563 (by decide +kernel) rfl
theorem lk_RX2_24 : Cond.methodLink RX2 24 yX2_stepsRead ∈ ALL := allIdx 639 (by decide +kernel) rfl
theorem lk_RX2_28 : Cond.methodLink RX2 28 yX2_stepReads ∈ ALL := allIdx 643 (by decide +kernel) rfl
theorem lk_RX2_32 : Cond.methodLink RX2 32 yX8_sign ∈ ALL := allIdx 647 (by decide +kernel) rfl
theorem lk_RX2_43 : Cond.methodLink RX2 43 yX8_passesDigit ∈ ALL := allIdx 652 (by decide +kernel) rfl
theorem lk_RX3_48 : Cond.methodLink RX3 48 yX7_beginAs ∈ ALL := allIdx 1098 (by decide +kernel) rfl
theorem lk_RX3_55 : Cond.methodLink RX3 55 yX9_passHour ∈ ALL := allIdx 1099 (by decide +kernel) rfl
theorem lk_RX3_62 : Cond.methodLink RX3 62 yX7_dueOfAll ∈ ALL := allIdx 1100 (by decide +kernel) rfl
theorem lk_RX3_66 : Cond.methodLink RX3 66 yX3_fits ∈ ALL := allIdx 1105 (by decide +kernel) rfl
theorem lk_RX3_70 : Cond.methodLink RX3 70 yX3_fitting ∈ ALL := allIdx 1127 (by decide +kernel) rfl
theorem lk_RX3_73 : Cond.methodLink RX3 73 yX3_mostAgreeing ∈ ALL := allIdx 1128 (by decide +kernel) rfl
theorem lk_RX4_25 : Cond.methodLink RX4 25 yX7_copyFrom ∈ ALL := allIdx 787 (by decide +kernel) rfl
theorem lk_RX5_87 : Cond.methodLink RX5 87 yX5_joined ∈ ALL := allIdx 739 (by decide +kernel) rfl
theorem lk_RX6_29 : Cond.methodLink RX6 29 yX7_copyFrom ∈ ALL := allIdx 994 (by decide +kernel) rfl
theorem lk_RX6_33 : Cond.methodLink RX6 33 yX9_passHour ∈ ALL := allIdx 1026 (by decide +kernel) rfl
theorem lk_RX6_44 : Cond.methodLink RX6 44 yX6_hoursToSell ∈ ALL := allIdx 1073 (by decide +kernel) rfl
theorem lk_RX7_58 : Cond.methodLink RX7 58 yJ7_fill_53178 ∈ ALL := allIdx 669 (by decide +kernel) rfl
theorem lk_RX7_69 : Cond.methodLink RX7 69 yX1_weightTold ∈ ALL := allIdx 672 (by decide +kernel) rfl
theorem lk_RX7_76 : Cond.methodLink RX7 76 yX1_purseTold ∈ ALL := allIdx 676 (by decide +kernel) rfl
theorem lk_RX7_79 : Cond.methodLink RX7 79 yX1_desireTold ∈ ALL := allIdx 680 (by decide +kernel) rfl
theorem lk_RX7_82 : Cond.methodLink RX7 82 yX1_rateTold ∈ ALL := allIdx 684 (by decide +kernel) rfl
theorem lk_RX7_92 : Cond.methodLink RX7 92 yX7_holders ∈ ALL := allIdx 917 (by decide +kernel) rfl
theorem lk_RX8_25 : Cond.methodLink RX8 25 yX8_sign ∈ ALL := allIdx 544 (by decide +kernel) rfl
theorem lk_RX8_29 : Cond.methodLink RX8 29 yX8_atDigit ∈ ALL := allIdx 571 (by decide +kernel) rfl
theorem lk_RX8_33 : Cond.methodLink RX8 33 yX8_passesNumber ∈ ALL := allIdx 567 (by decide +kernel) rfl
theorem lk_RX9_101 : Cond.methodLink RX9 101 yX9_whyNotPutBack ∈ ALL := allIdx 844 (by decide +kernel) rfl
theorem lk_RX9_105 : Cond.methodLink RX9 105 yX9_hasCity ∈ ALL := allIdx 865 (by decide +kernel) rfl
theorem lk_RX9_109 : Cond.methodLink RX9 109 yX2_part ∈ ALL := allIdx 999 (by decide +kernel) rfl
theorem lk_RX9_114 : Cond.methodLink RX9 114 yX9_whyNotPick ∈ ALL := allIdx 1000 (by decide +kernel) rfl
theorem lk_RX9_118 : Cond.methodLink RX9 118 yX9_whyNotHand ∈ ALL := allIdx 1001 (by decide +kernel) rfl
theorem lk_RX9_121 : Cond.methodLink RX9 121 yX9_whyNotBuy ∈ ALL := allIdx 1002 (by decide +kernel) rfl
theorem lk_RX9_124 : Cond.methodLink RX9 124 yX9_whyNotHour ∈ ALL := allIdx 1003 (by decide +kernel) rfl
theorem lk_RX9_128 : Cond.methodLink RX9 128 yX9_pickUp ∈ ALL := allIdx 900 (by decide +kernel) rfl
theorem lk_RX9_132 : Cond.methodLink RX9 132 yX9_layBack ∈ ALL := allIdx 879 (by decide +kernel) rfl
theorem lk_RX9_135 : Cond.methodLink RX9 135 yX9_passOn ∈ ALL := allIdx 1008 (by decide +kernel) rfl
theorem lk_RX9_138 : Cond.methodLink RX9 138 yX9_purchase ∈ ALL := allIdx 878 (by decide +kernel) rfl
theorem lk_RX9_141 : Cond.methodLink RX9 141 yX9_passHour ∈ ALL := allIdx 1009 (by decide +kernel) rfl
theorem lk_RX9_148 : Cond.methodLink RX9 148 yX9_looksAway ∈ ALL := allIdx 808 (by decide +kernel) rfl
theorem lk_RX9_152 : Cond.methodLink RX9 152 yX9_dueIfPutBack ∈ ALL := allIdx 812 (by decide +kernel) rfl
theorem lk_RX9_155 : Cond.methodLink RX9 155 yX7_writeBill ∈ ALL := allIdx 820 (by decide +kernel) rfl
theorem lk_RX9_162 : Cond.methodLink RX9 162 yX1_hoursToComeBack ∈ ALL := allIdx 849 (by decide +kernel) rfl
theorem lk_RX9_166 : Cond.methodLink RX9 166 yX7_strikeBills ∈ ALL := allIdx 853 (by decide +kernel) rfl
theorem lk_RX9_170 : Cond.methodLink RX9 170 yX9_decide ∈ ALL := allIdx 873 (by decide +kernel) rfl
theorem lk_RX9_174 : Cond.methodLink RX9 174 yX9_isAfraid ∈ ALL := allIdx 880 (by decide +kernel) rfl
theorem lk_RX9_177 : Cond.methodLink RX9 177 yX9_pickFavourite ∈ ALL := allIdx 892 (by decide +kernel) rfl
theorem lk_RX9_180 : Cond.methodLink RX9 180 yX1_michaelmas ∈ ALL := allIdx 901 (by decide +kernel) rfl
theorem lk_RX9_183 : Cond.methodLink RX9 183 yX9_keepMichaelmas ∈ ALL := allIdx 905 (by decide +kernel) rfl
theorem lk_RX9_186 : Cond.methodLink RX9 186 yX7_writeLog ∈ ALL := allIdx 913 (by decide +kernel) rfl
theorem lk_RX9_189 : Cond.methodLink RX9 189 yX9_liked ∈ ALL := allIdx 877 (by decide +kernel) rfl
theorem lk_RX9_192 : Cond.methodLink RX9 192 yX7_hasBillFor ∈ ALL := allIdx 896 (by decide +kernel) rfl
theorem lk_RX9_199 : Cond.methodLink RX9 199 yX1_income ∈ ALL := allIdx 909 (by decide +kernel) rfl
theorem lk_RX9_47 : Cond.methodLink RX9 47 yX1_priceOf ∈ ALL := allIdx 733 (by decide +kernel) rfl
theorem lk_RX9_54 : Cond.methodLink RX9 54 yX1_shopOf ∈ ALL := allIdx 734 (by decide +kernel) rfl
theorem lk_RX9_60 : Cond.methodLink RX9 60 yX5_worth ∈ ALL := allIdx 735 (by decide +kernel) rfl
theorem lk_RX9_73 : Cond.methodLink RX9 73 yX1_kindOf ∈ ALL := allIdx 816 (by decide +kernel) rfl
theorem lk_RX9_82 : Cond.methodLink RX9 82 yX7_dueOf ∈ ALL := allIdx 884 (by decide +kernel) rfl
theorem lk_RX9_85 : Cond.methodLink RX9 85 yX1_nerveOf ∈ ALL := allIdx 888 (by decide +kernel) rfl
theorem lk_RX9_88 : Cond.methodLink RX9 88 yX9_isBuyer ∈ ALL := allIdx 777 (by decide +kernel) rfl
theorem lk_RX9_92 : Cond.methodLink RX9 92 yX9_isThing ∈ ALL := allIdx 778 (by decide +kernel) rfl
theorem lm_RX10_290 : Lm RX10 290 Lib.Math.min.name Lib.Math.min.code 2 .int := ⟨allIdx 961 (by decide +kernel) rfl, allIdx 748 (by decide +kernel) rfl, allIdx 129 (by decide +kernel) rfl, allIdx 749 (by decide +kernel) rfl⟩
theorem lm_RX11_161 : Lm RX11 161 Lib.MathLoose.min_long.x Lib.MathLoose.min_long.code 4 .long := ⟨allIdx 1660 (by decide +kernel) rfl, allIdx 1661 (by decide +kernel) rfl, allIdx 129 (by decide +kernel) rfl, allIdx 1662 (by decide +kernel) rfl⟩
theorem lm_RX11_167 : Lm RX11 167 Lib.MathLoose.max_long.x Lib.MathLoose.max_long.code 4 .long := ⟨allIdx 1663 (by decide +kernel) rfl, allIdx 1664 (by decide +kernel) rfl, allIdx 129 (by decide +kernel) rfl, allIdx 1665 (by decide +kernel) rfl⟩
theorem lm_RX11_347 : Lm RX11 347 Lib.Math.min.name Lib.Math.min.code 2 .int := ⟨allIdx 1741 (by decide +kernel) rfl, allIdx 748 (by decide +kernel) rfl, allIdx 129 (by decide +kernel) rfl, allIdx 749 (by decide +kernel) rfl⟩
theorem lm_RX3_36 : Lm RX3 36 Lib.Math.max.name Lib.Math.max.code 2 .int := ⟨allIdx 1093 (by decide +kernel) rfl, allIdx 751 (by decide +kernel) rfl, allIdx 129 (by decide +kernel) rfl, allIdx 752 (by decide +kernel) rfl⟩
theorem lm_RX9_64 : Lm RX9 64 Lib.Math.min.name Lib.Math.min.code 2 .int := ⟨allIdx 747 (by decide +kernel) rfl, allIdx 748 (by decide +kernel) rfl, allIdx 129 (by decide +kernel) rfl, allIdx 749 (by decide +kernel) rfl⟩
theorem lm_RX9_70 : Lm RX9 70 Lib.Math.max.name Lib.Math.max.code 2 .int := ⟨allIdx 750 (by decide +kernel) rfl, allIdx 751 (by decide +kernel) rfl, allIdx 129 (by decide +kernel) rfl, allIdx 752 (by decide +kernel) rfl⟩
theorem my_J0_charAt_5068e : MyV yJ0_charAt_5068e cJ0_charAt_5068e 2 (some .char) 1 := ⟨⟨allIdx 1552 (by decide +kernel) rfl, allIdx 1553 (by decide +kernel) rfl, allIdx 125 (by decide +kernel) rfl, allIdx 1554 (by decide +kernel) rfl⟩, by decide +kernel, by decide +kernel, by decide +kernel⟩
theorem my_J0_length_8abf5 : MyV yJ0_length_8abf5 cJ0_length_8abf5 1 (some .int) 0 := ⟨⟨allIdx 1539 (by decide +kernel) rfl, allIdx 1540 (by decide +kernel) rfl, allIdx 125 (by decide +kernel) rfl, allIdx 1541 (by decide +kernel) rfl⟩, by decide +kernel, by decide +kernel, by decide +kernel⟩
theorem my_J6_bitCount_0f7a4 : MyS yJ6_bitCount_0f7a4 cJ6_bitCount_0f7a4 1 (some .int) 1 := ⟨⟨allIdx 1114 (by decide +kernel) rfl, allIdx 135 (by decide +kernel) rfl, allIdx 1115 (by decide +kernel) rfl⟩, by decide +kernel, by decide +kernel, by decide +kernel⟩
theorem my_J7_fill_53178 : MyS yJ7_fill_53178 cJ7_fill_53178 4 none 2 := ⟨⟨allIdx 670 (by decide +kernel) rfl, allIdx 130 (by decide +kernel) rfl, allIdx 671 (by decide +kernel) rfl⟩, by decide +kernel, by decide +kernel, by decide +kernel⟩
theorem my_X0_buyerHas : MyV yX0_buyerHas cX0_buyerHas 3 (some .int) 2 := ⟨⟨allIdx 1150 (by decide +kernel) rfl, allIdx 1151 (by decide +kernel) rfl, allIdx 121 (by decide +kernel) rfl, allIdx 1152 (by decide +kernel) rfl⟩, by decide +kernel, by decide +kernel, by decide +kernel⟩
theorem my_X0_isRest : MyV yX0_isRest cX0_isRest 4 (some .boolean) 2 := ⟨⟨allIdx 1164 (by decide +kernel) rfl, allIdx 40 (by decide +kernel) rfl, allIdx 121 (by decide +kernel) rfl, allIdx 1165 (by decide +kernel) rfl⟩, by decide +kernel, by decide +kernel, by decide +kernel⟩
theorem my_X0_lookAt : MyV yX0_lookAt cX0_lookAt 5 none 4 := ⟨⟨allIdx 1045 (by decide +kernel) rfl, allIdx 32 (by decide +kernel) rfl, allIdx 121 (by decide +kernel) rfl, allIdx 1046 (by decide +kernel) rfl⟩, by decide +kernel, by decide +kernel, by decide +kernel⟩
theorem my_X0_nthRest : MyV yX0_nthRest cX0_nthRest 5 (some .int) 1 := ⟨⟨allIdx 1159 (by decide +kernel) rfl, allIdx 1160 (by decide +kernel) rfl, allIdx 121 (by decide +kernel) rfl, allIdx 1161 (by decide +kernel) rfl⟩, by decide +kernel, by decide +kernel, by decide +kernel⟩
theorem my_X0_sellerHas : MyV yX0_sellerHas cX0_sellerHas 3 (some .int) 2 := ⟨⟨allIdx 1146 (by decide +kernel) rfl, allIdx 1147 (by decide +kernel) rfl, allIdx 121 (by decide +kernel) rfl, allIdx 1148 (by decide +kernel) rfl⟩, by decide +kernel, by decide +kernel, by decide +kernel⟩
theorem my_X0_sitDown : MyV yX0_sitDown cX0_sitDown 5 none 4 := ⟨⟨allIdx 1141 (by decide +kernel) rfl, allIdx 1142 (by decide +kernel) rfl, allIdx 121 (by decide +kernel) rfl, allIdx 1143 (by decide +kernel) rfl⟩, by decide +kernel, by decide +kernel, by decide +kernel⟩
theorem my_X10_afraid : MyV yX10_afraid cX10_afraid 3 (some .int) 0 := ⟨⟨allIdx 1211 (by decide +kernel) rfl, allIdx 46 (by decide +kernel) rfl, allIdx 112 (by decide +kernel) rfl, allIdx 1212 (by decide +kernel) rfl⟩, by decide +kernel, by decide +kernel, by decide +kernel⟩
theorem my_X10_canDeal : MyV yX10_canDeal cX10_canDeal 3 (some .boolean) 2 := ⟨⟨allIdx 1138 (by decide +kernel) rfl, allIdx 39 (by decide +kernel) rfl, allIdx 112 (by decide +kernel) rfl, allIdx 1139 (by decide +kernel) rfl⟩, by decide +kernel, by decide +kernel, by decide +kernel⟩
theorem my_X10_draw : MyV yX10_draw cX10_draw 2 (some .int) 1 := ⟨⟨allIdx 957 (by decide +kernel) rfl, allIdx 31 (by decide +kernel) rfl, allIdx 112 (by decide +kernel) rfl, allIdx 958 (by decide +kernel) rfl⟩, by decide +kernel, by decide +kernel, by decide +kernel⟩
theorem my_X10_drawWhatComes : MyV yX10_drawWhatComes cX10_drawWhatComes 3 none 0 := ⟨⟨allIdx 953 (by decide +kernel) rfl, allIdx 30 (by decide +kernel) rfl, allIdx 112 (by decide +kernel) rfl, allIdx 954 (by decide +kernel) rfl⟩, by decide +kernel, by decide +kernel, by decide +kernel⟩
theorem my_X10_firstWithMost : MyV yX10_firstWithMost cX10_firstWithMost 7 (some .int) 2 := ⟨⟨allIdx 1190 (by decide +kernel) rfl, allIdx 41 (by decide +kernel) rfl, allIdx 112 (by decide +kernel) rfl, allIdx 1191 (by decide +kernel) rfl⟩, by decide +kernel, by decide +kernel, by decide +kernel⟩
theorem my_X10_freeThings : MyV yX10_freeThings cX10_freeThings 3 (some .int) 0 := ⟨⟨allIdx 1203 (by decide +kernel) rfl, allIdx 44 (by decide +kernel) rfl, allIdx 112 (by decide +kernel) rfl, allIdx 1204 (by decide +kernel) rfl⟩, by decide +kernel, by decide +kernel, by decide +kernel⟩
theorem my_X10_likingOfAll : MyV yX10_likingOfAll cX10_likingOfAll 4 (some .int) 1 := ⟨⟨allIdx 1199 (by decide +kernel) rfl, allIdx 43 (by decide +kernel) rfl, allIdx 112 (by decide +kernel) rfl, allIdx 1200 (by decide +kernel) rfl⟩, by decide +kernel, by decide +kernel, by decide +kernel⟩
theorem my_X10_measure : MyV yX10_measure cX10_measure 3 (some .int) 2 := ⟨⟨allIdx 1194 (by decide +kernel) rfl, allIdx 42 (by decide +kernel) rfl, allIdx 112 (by decide +kernel) rfl, allIdx 1195 (by decide +kernel) rfl⟩, by decide +kernel, by decide +kernel, by decide +kernel⟩
theorem my_X10_nthOrCount : MyV yX10_nthOrCount cX10_nthOrCount 5 (some .int) 2 := ⟨⟨allIdx 1111 (by decide +kernel) rfl, allIdx 37 (by decide +kernel) rfl, allIdx 112 (by decide +kernel) rfl, allIdx 1112 (by decide +kernel) rfl⟩, by decide +kernel, by decide +kernel, by decide +kernel⟩
theorem my_X10_refused : MyV yX10_refused cX10_refused 2 (some .boolean) 1 := ⟨⟨allIdx 781 (by decide +kernel) rfl, allIdx 22 (by decide +kernel) rfl, allIdx 112 (by decide +kernel) rfl, allIdx 782 (by decide +kernel) rfl⟩, by decide +kernel, by decide +kernel, by decide +kernel⟩
theorem my_X10_soldThings : MyV yX10_soldThings cX10_soldThings 3 (some .int) 0 := ⟨⟨allIdx 1207 (by decide +kernel) rfl, allIdx 45 (by decide +kernel) rfl, allIdx 112 (by decide +kernel) rfl, allIdx 1208 (by decide +kernel) rfl⟩, by decide +kernel, by decide +kernel, by decide +kernel⟩
theorem my_X10_whyNotClerk : MyV yX10_whyNotClerk cX10_whyNotClerk 2 (some .int) 1 := ⟨⟨allIdx 928 (by decide +kernel) rfl, allIdx 27 (by decide +kernel) rfl, allIdx 112 (by decide +kernel) rfl, allIdx 929 (by decide +kernel) rfl⟩, by decide +kernel, by decide +kernel, by decide +kernel⟩
theorem my_X10_whyNotGift : MyV yX10_whyNotGift cX10_whyNotGift 3 (some .int) 2 := ⟨⟨allIdx 945 (by decide +kernel) rfl, allIdx 29 (by decide +kernel) rfl, allIdx 112 (by decide +kernel) rfl, allIdx 946 (by decide +kernel) rfl⟩, by decide +kernel, by decide +kernel, by decide +kernel⟩
theorem my_X10_whyNotRate : MyV yX10_whyNotRate cX10_whyNotRate 2 (some .int) 1 := ⟨⟨allIdx 937 (by decide +kernel) rfl, allIdx 28 (by decide +kernel) rfl, allIdx 112 (by decide +kernel) rfl, allIdx 938 (by decide +kernel) rfl⟩, by decide +kernel, by decide +kernel, by decide +kernel⟩
theorem my_X11_allDue : MyS yX11_allDue cX11_allDue 3 (some .int) 1 := ⟨⟨allIdx 1910 (by decide +kernel) rfl, allIdx 123 (by decide +kernel) rfl, allIdx 1911 (by decide +kernel) rfl⟩, by decide +kernel, by decide +kernel, by decide +kernel⟩
theorem my_X11_billsOf : MyV yX11_billsOf cX11_billsOf 4 (some .int) 1 := ⟨⟨allIdx 1723 (by decide +kernel) rfl, allIdx 76 (by decide +kernel) rfl, allIdx 123 (by decide +kernel) rfl, allIdx 1724 (by decide +kernel) rfl⟩, by decide +kernel, by decide +kernel, by decide +kernel⟩
theorem my_X11_bytesIn : MyS yX11_bytesIn cX11_bytesIn 3 (some .int) 1 := ⟨⟨allIdx 1492 (by decide +kernel) rfl, allIdx 123 (by decide +kernel) rfl, allIdx 1493 (by decide +kernel) rfl⟩, by decide +kernel, by decide +kernel, by decide +kernel⟩
theorem my_X11_digit : MyV yX11_digit cX11_digit 2 (some .int) 0 := ⟨⟨allIdx 1684 (by decide +kernel) rfl, allIdx 71 (by decide +kernel) rfl, allIdx 123 (by decide +kernel) rfl, allIdx 1685 (by decide +kernel) rfl⟩, by decide +kernel, by decide +kernel, by decide +kernel⟩
theorem my_X11_dueFor : MyV yX11_dueFor cX11_dueFor 5 (some .int) 3 := ⟨⟨allIdx 1800 (by decide +kernel) rfl, allIdx 88 (by decide +kernel) rfl, allIdx 123 (by decide +kernel) rfl, allIdx 1801 (by decide +kernel) rfl⟩, by decide +kernel, by decide +kernel, by decide +kernel⟩
theorem my_X11_dueOf : MyS yX11_dueOf cX11_dueOf 4 (some .int) 2 := ⟨⟨allIdx 1719 (by decide +kernel) rfl, allIdx 123 (by decide +kernel) rfl, allIdx 1720 (by decide +kernel) rfl⟩, by decide +kernel, by decide +kernel, by decide +kernel⟩
theorem my_X11_fails : MyV yX11_fails cX11_fails 1 (some .boolean) 0 := ⟨⟨allIdx 1531 (by decide +kernel) rfl, allIdx 53 (by decide +kernel) rfl, allIdx 123 (by decide +kernel) rfl, allIdx 1532 (by decide +kernel) rfl⟩, by decide +kernel, by decide +kernel, by decide +kernel⟩
theorem my_X11_has : MyS yX11_has cX11_has 2 (some .boolean) 2 := ⟨⟨allIdx 1590 (by decide +kernel) rfl, allIdx 123 (by decide +kernel) rfl, allIdx 1591 (by decide +kernel) rfl⟩, by decide +kernel, by decide +kernel, by decide +kernel⟩
theorem my_X11_here : MyV yX11_here cX11_here 1 (some .int) 0 := ⟨⟨allIdx 1608 (by decide +kernel) rfl, allIdx 57 (by decide +kernel) rfl, allIdx 123 (by decide +kernel) rfl, allIdx 1609 (by decide +kernel) rfl⟩, by decide +kernel, by decide +kernel, by decide +kernel⟩
theorem my_X11_holds : MyV yX11_holds cX11_holds 4 (some .int) 2 := ⟨⟨allIdx 1716 (by decide +kernel) rfl, allIdx 75 (by decide +kernel) rfl, allIdx 123 (by decide +kernel) rfl, allIdx 1717 (by decide +kernel) rfl⟩, by decide +kernel, by decide +kernel, by decide +kernel⟩
theorem my_X11_isBuyer : MyV yX11_isBuyer cX11_isBuyer 2 (some .boolean) 1 := ⟨⟨allIdx 1711 (by decide +kernel) rfl, allIdx 74 (by decide +kernel) rfl, allIdx 123 (by decide +kernel) rfl, allIdx 1712 (by decide +kernel) rfl⟩, by decide +kernel, by decide +kernel, by decide +kernel⟩
theorem my_X11_isDigit : MyV yX11_isDigit cX11_isDigit 1 (some .boolean) 0 := ⟨⟨allIdx 1604 (by decide +kernel) rfl, allIdx 56 (by decide +kernel) rfl, allIdx 123 (by decide +kernel) rfl, allIdx 1605 (by decide +kernel) rfl⟩, by decide +kernel, by decide +kernel, by decide +kernel⟩
theorem my_X11_isFree : MyV yX11_isFree cX11_isFree 3 (some .boolean) 2 := ⟨⟨allIdx 1780 (by decide +kernel) rfl, allIdx 83 (by decide +kernel) rfl, allIdx 123 (by decide +kernel) rfl, allIdx 1781 (by decide +kernel) rfl⟩, by decide +kernel, by decide +kernel, by decide +kernel⟩
theorem my_X11_isIn : MyS yX11_isIn cX11_isIn 6 (some .boolean) 3 := ⟨⟨allIdx 1508 (by decide +kernel) rfl, allIdx 123 (by decide +kernel) rfl, allIdx 1509 (by decide +kernel) rfl⟩, by decide +kernel, by decide +kernel, by decide +kernel⟩
theorem my_X11_isPlan : MyV yX11_isPlan cX11_isPlan 2 (some .boolean) 1 := ⟨⟨allIdx 1896 (by decide +kernel) rfl, allIdx 97 (by decide +kernel) rfl, allIdx 123 (by decide +kernel) rfl, allIdx 1897 (by decide +kernel) rfl⟩, by decide +kernel, by decide +kernel, by decide +kernel⟩
theorem my_X11_isThing : MyV yX11_isThing cX11_isThing 2 (some .boolean) 1 := ⟨⟨allIdx 1701 (by decide +kernel) rfl, allIdx 73 (by decide +kernel) rfl, allIdx 123 (by decide +kernel) rfl, allIdx 1702 (by decide +kernel) rfl⟩, by decide +kernel, by decide +kernel, by decide +kernel⟩
theorem my_X11_leastOf : MyS yX11_leastOf cX11_leastOf 2 (some .int) 2 := ⟨⟨allIdx 1593 (by decide +kernel) rfl, allIdx 123 (by decide +kernel) rfl, allIdx 1594 (by decide +kernel) rfl⟩, by decide +kernel, by decide +kernel, by decide +kernel⟩
theorem my_X11_look : MyV yX11_look cX11_look 1 (some .int) 0 := ⟨⟨allIdx 1527 (by decide +kernel) rfl, allIdx 52 (by decide +kernel) rfl, allIdx 123 (by decide +kernel) rfl, allIdx 1528 (by decide +kernel) rfl⟩, by decide +kernel, by decide +kernel, by decide +kernel⟩
theorem my_X11_mostOf : MyS yX11_mostOf cX11_mostOf 2 (some .int) 2 := ⟨⟨allIdx 1596 (by decide +kernel) rfl, allIdx 123 (by decide +kernel) rfl, allIdx 1597 (by decide +kernel) rfl⟩, by decide +kernel, by decide +kernel, by decide +kernel⟩
theorem my_X11_number : MyV yX11_number cX11_number 5 (some .int) 2 := ⟨⟨allIdx 1600 (by decide +kernel) rfl, allIdx 55 (by decide +kernel) rfl, allIdx 123 (by decide +kernel) rfl, allIdx 1601 (by decide +kernel) rfl⟩, by decide +kernel, by decide +kernel, by decide +kernel⟩
theorem my_X11_put : MyV yX11_put cX11_put 3 none 1 := ⟨⟨allIdx 1496 (by decide +kernel) rfl, allIdx 48 (by decide +kernel) rfl, allIdx 123 (by decide +kernel) rfl, allIdx 1497 (by decide +kernel) rfl⟩, by decide +kernel, by decide +kernel, by decide +kernel⟩
theorem my_X11_readClause : MyV yX11_readClause cX11_readClause 3 none 0 := ⟨⟨allIdx 1523 (by decide +kernel) rfl, allIdx 51 (by decide +kernel) rfl, allIdx 123 (by decide +kernel) rfl, allIdx 1524 (by decide +kernel) rfl⟩, by decide +kernel, by decide +kernel, by decide +kernel⟩
theorem my_X11_readItems : MyV yX11_readItems cX11_readItems 7 none 4 := ⟨⟨allIdx 1536 (by decide +kernel) rfl, allIdx 54 (by decide +kernel) rfl, allIdx 123 (by decide +kernel) rfl, allIdx 1537 (by decide +kernel) rfl⟩, by decide +kernel, by decide +kernel, by decide +kernel⟩
theorem my_X11_readStep : MyV yX11_readStep cX11_readStep 3 none 1 := ⟨⟨allIdx 1679 (by decide +kernel) rfl, allIdx 70 (by decide +kernel) rfl, allIdx 123 (by decide +kernel) rfl, allIdx 1680 (by decide +kernel) rfl⟩, by decide +kernel, by decide +kernel, by decide +kernel⟩
theorem my_X11_refused : MyV yX11_refused cX11_refused 2 (some .int) 1 := ⟨⟨allIdx 1784 (by decide +kernel) rfl, allIdx 84 (by decide +kernel) rfl, allIdx 123 (by decide +kernel) rfl, allIdx 1785 (by decide +kernel) rfl⟩, by decide +kernel, by decide +kernel, by decide +kernel⟩
theorem my_X11_remember : MyV yX11_remember cX11_remember 2 none 0 := ⟨⟨allIdx 1788 (by decide +kernel) rfl, allIdx 85 (by decide +kernel) rfl, allIdx 123 (by decide +kernel) rfl, allIdx 1789 (by decide +kernel) rfl⟩, by decide +kernel, by decide +kernel, by decide +kernel⟩
theorem my_X11_spotOf : MyS yX11_spotOf cX11_spotOf 3 (some .int) 2 := ⟨⟨allIdx 1549 (by decide +kernel) rfl, allIdx 123 (by decide +kernel) rfl, allIdx 1550 (by decide +kernel) rfl⟩, by decide +kernel, by decide +kernel, by decide +kernel⟩
theorem my_X11_starts : MyV yX11_starts cX11_starts 4 none 3 := ⟨⟨allIdx 1516 (by decide +kernel) rfl, allIdx 50 (by decide +kernel) rfl, allIdx 123 (by decide +kernel) rfl, allIdx 1517 (by decide +kernel) rfl⟩, by decide +kernel, by decide +kernel, by decide +kernel⟩
theorem my_X11_stops : MyV yX11_stops cX11_stops 6 (some .int) 4 := ⟨⟨allIdx 1776 (by decide +kernel) rfl, allIdx 82 (by decide +kernel) rfl, allIdx 123 (by decide +kernel) rfl, allIdx 1777 (by decide +kernel) rfl⟩, by decide +kernel, by decide +kernel, by decide +kernel⟩
theorem my_X11_strikes : MyS yX11_strikes cX11_strikes 3 none 2 := ⟨⟨allIdx 1803 (by decide +kernel) rfl, allIdx 123 (by decide +kernel) rfl, allIdx 1804 (by decide +kernel) rfl⟩, by decide +kernel, by decide +kernel, by decide +kernel⟩
theorem my_X11_usual : MyS yX11_usual cX11_usual 2 (some .int) 2 := ⟨⟨allIdx 1519 (by decide +kernel) rfl, allIdx 123 (by decide +kernel) rfl, allIdx 1520 (by decide +kernel) rfl⟩, by decide +kernel, by decide +kernel, by decide +kernel⟩
theorem my_X1_clauseReads : MyV yX1_clauseReads cX1_clauseReads 2 (some .boolean) 1 := ⟨⟨allIdx 538 (by decide +kernel) rfl, allIdx 0 (by decide +kernel) rfl, allIdx 118 (by decide +kernel) rfl, allIdx 539 (by decide +kernel) rfl⟩, by decide +kernel, by decide +kernel, by decide +kernel⟩
theorem my_X1_desireTold : MyV yX1_desireTold cX1_desireTold 2 (some .int) 1 := ⟨⟨allIdx 681 (by decide +kernel) rfl, allIdx 682 (by decide +kernel) rfl, allIdx 118 (by decide +kernel) rfl, allIdx 683 (by decide +kernel) rfl⟩, by decide +kernel, by decide +kernel, by decide +kernel⟩
theorem my_X1_hoursToComeBack : MyV yX1_hoursToComeBack cX1_hoursToComeBack 1 (some .int) 0 := ⟨⟨allIdx 850 (by decide +kernel) rfl, allIdx 851 (by decide +kernel) rfl, allIdx 118 (by decide +kernel) rfl, allIdx 852 (by decide +kernel) rfl⟩, by decide +kernel, by decide +kernel, by decide +kernel⟩
theorem my_X1_income : MyV yX1_income cX1_income 1 (some .int) 0 := ⟨⟨allIdx 910 (by decide +kernel) rfl, allIdx 911 (by decide +kernel) rfl, allIdx 118 (by decide +kernel) rfl, allIdx 912 (by decide +kernel) rfl⟩, by decide +kernel, by decide +kernel, by decide +kernel⟩
theorem my_X1_itemOf : MyV yX1_itemOf cX1_itemOf 5 (some .int) 3 := ⟨⟨allIdx 555 (by decide +kernel) rfl, allIdx 2 (by decide +kernel) rfl, allIdx 118 (by decide +kernel) rfl, allIdx 556 (by decide +kernel) rfl⟩, by decide +kernel, by decide +kernel, by decide +kernel⟩
theorem my_X1_itemsRead : MyV yX1_itemsRead cX1_itemsRead 10 (some .boolean) 5 := ⟨⟨allIdx 550 (by decide +kernel) rfl, allIdx 1 (by decide +kernel) rfl, allIdx 118 (by decide +kernel) rfl, allIdx 551 (by decide +kernel) rfl⟩, by decide +kernel, by decide +kernel, by decide +kernel⟩
theorem my_X1_kindOf : MyV yX1_kindOf cX1_kindOf 2 (some .int) 1 := ⟨⟨allIdx 817 (by decide +kernel) rfl, allIdx 818 (by decide +kernel) rfl, allIdx 118 (by decide +kernel) rfl, allIdx 819 (by decide +kernel) rfl⟩, by decide +kernel, by decide +kernel, by decide +kernel⟩
theorem my_X1_michaelmas : MyV yX1_michaelmas cX1_michaelmas 1 (some .int) 0 := ⟨⟨allIdx 902 (by decide +kernel) rfl, allIdx 903 (by decide +kernel) rfl, allIdx 118 (by decide +kernel) rfl, allIdx 904 (by decide +kernel) rfl⟩, by decide +kernel, by decide +kernel, by decide +kernel⟩
theorem my_X1_nerveOf : MyV yX1_nerveOf cX1_nerveOf 2 (some .int) 1 := ⟨⟨allIdx 889 (by decide +kernel) rfl, allIdx 890 (by decide +kernel) rfl, allIdx 118 (by decide +kernel) rfl, allIdx 891 (by decide +kernel) rfl⟩, by decide +kernel, by decide +kernel, by decide +kernel⟩
theorem my_X1_priceOf : MyV yX1_priceOf cX1_priceOf 2 (some .int) 1 := ⟨⟨allIdx 714 (by decide +kernel) rfl, allIdx 715 (by decide +kernel) rfl, allIdx 118 (by decide +kernel) rfl, allIdx 716 (by decide +kernel) rfl⟩, by decide +kernel, by decide +kernel, by decide +kernel⟩
theorem my_X1_purseTold : MyV yX1_purseTold cX1_purseTold 2 (some .int) 1 := ⟨⟨allIdx 677 (by decide +kernel) rfl, allIdx 678 (by decide +kernel) rfl, allIdx 118 (by decide +kernel) rfl, allIdx 679 (by decide +kernel) rfl⟩, by decide +kernel, by decide +kernel, by decide +kernel⟩
theorem my_X1_rateTold : MyV yX1_rateTold cX1_rateTold 1 (some .int) 0 := ⟨⟨allIdx 685 (by decide +kernel) rfl, allIdx 686 (by decide +kernel) rfl, allIdx 118 (by decide +kernel) rfl, allIdx 687 (by decide +kernel) rfl⟩, by decide +kernel, by decide +kernel, by decide +kernel⟩
theorem my_X1_shopOf : MyV yX1_shopOf cX1_shopOf 2 (some .int) 1 := ⟨⟨allIdx 718 (by decide +kernel) rfl, allIdx 719 (by decide +kernel) rfl, allIdx 118 (by decide +kernel) rfl, allIdx 720 (by decide +kernel) rfl⟩, by decide +kernel, by decide +kernel, by decide +kernel⟩
theorem my_X1_weightTold : MyV yX1_weightTold cX1_weightTold 2 (some .int) 1 := ⟨⟨allIdx 673 (by decide +kernel) rfl, allIdx 674 (by decide +kernel) rfl, allIdx 118 (by decide +kernel) rfl, allIdx 675 (by decide +kernel) rfl⟩, by decide +kernel, by decide +kernel, by decide +kernel⟩
theorem my_X2_part : MyV yX2_part cX2_part 3 (some .int) 2 := ⟨⟨allIdx 983 (by decide +kernel) rfl, allIdx 984 (by decide +kernel) rfl, allIdx 122 (by decide +kernel) rfl, allIdx 985 (by decide +kernel) rfl⟩, by decide +kernel, by decide +kernel, by decide +kernel⟩
theorem my_X2_stepReads : MyV yX2_stepReads cX2_stepReads 6 (some .boolean) 2 := ⟨⟨allIdx 645 (by decide +kernel) rfl, allIdx 17 (by decide +kernel) rfl, allIdx 122 (by decide +kernel) rfl, allIdx 646 (by decide +kernel) rfl⟩, by decide +kernel, by decide +kernel, by decide +kernel⟩
theorem my_X2_stepsRead : MyV yX2_stepsRead cX2_stepsRead 4 (some .boolean) 1 := ⟨⟨allIdx 641 (by decide +kernel) rfl, allIdx 16 (by decide +kernel) rfl, allIdx 122 (by decide +kernel) rfl, allIdx 642 (by decide +kernel) rfl⟩, by decide +kernel, by decide +kernel, by decide +kernel⟩
theorem my_X3_fits : MyV yX3_fits cX3_fits 3 (some .boolean) 1 := ⟨⟨allIdx 1107 (by decide +kernel) rfl, allIdx 36 (by decide +kernel) rfl, allIdx 120 (by decide +kernel) rfl, allIdx 1108 (by decide +kernel) rfl⟩, by decide +kernel, by decide +kernel, by decide +kernel⟩
theorem my_X3_fitting : MyV yX3_fitting cX3_fitting 3 (some .int) 0 := ⟨⟨allIdx 1102 (by decide +kernel) rfl, allIdx 1103 (by decide +kernel) rfl, allIdx 120 (by decide +kernel) rfl, allIdx 1104 (by decide +kernel) rfl⟩, by decide +kernel, by decide +kernel, by decide +kernel⟩
theorem my_X3_foretell : MyV yX3_foretell cX3_foretell 6 none 3 := ⟨⟨allIdx 1095 (by decide +kernel) rfl, allIdx 1096 (by decide +kernel) rfl, allIdx 120 (by decide +kernel) rfl, allIdx 1097 (by decide +kernel) rfl⟩, by decide +kernel, by decide +kernel, by decide +kernel⟩
theorem my_X3_forget : MyV yX3_forget cX3_forget 1 none 0 := ⟨⟨allIdx 693 (by decide +kernel) rfl, allIdx 694 (by decide +kernel) rfl, allIdx 120 (by decide +kernel) rfl, allIdx 695 (by decide +kernel) rfl⟩, by decide +kernel, by decide +kernel, by decide +kernel⟩
theorem my_X3_hoursToAsk : MyV yX3_hoursToAsk cX3_hoursToAsk 6 (some .int) 0 := ⟨⟨allIdx 1124 (by decide +kernel) rfl, allIdx 1125 (by decide +kernel) rfl, allIdx 120 (by decide +kernel) rfl, allIdx 1126 (by decide +kernel) rfl⟩, by decide +kernel, by decide +kernel, by decide +kernel⟩
theorem my_X3_latestSeen : MyV yX3_latestSeen cX3_latestSeen 3 (some .int) 0 := ⟨⟨allIdx 1090 (by decide +kernel) rfl, allIdx 1091 (by decide +kernel) rfl, allIdx 120 (by decide +kernel) rfl, allIdx 1092 (by decide +kernel) rfl⟩, by decide +kernel, by decide +kernel, by decide +kernel⟩
theorem my_X3_mostAgreeing : MyV yX3_mostAgreeing cX3_mostAgreeing 7 (some .int) 2 := ⟨⟨allIdx 1130 (by decide +kernel) rfl, allIdx 38 (by decide +kernel) rfl, allIdx 120 (by decide +kernel) rfl, allIdx 1131 (by decide +kernel) rfl⟩, by decide +kernel, by decide +kernel, by decide +kernel⟩
theorem my_X3_noteSeen : MyV yX3_noteSeen cX3_noteSeen 4 (some .int) 3 := ⟨⟨allIdx 1082 (by decide +kernel) rfl, allIdx 1083 (by decide +kernel) rfl, allIdx 120 (by decide +kernel) rfl, allIdx 1084 (by decide +kernel) rfl⟩, by decide +kernel, by decide +kernel, by decide +kernel⟩
theorem my_X4_forget : MyV yX4_forget cX4_forget 1 none 0 := ⟨⟨allIdx 689 (by decide +kernel) rfl, allIdx 690 (by decide +kernel) rfl, allIdx 115 (by decide +kernel) rfl, allIdx 691 (by decide +kernel) rfl⟩, by decide +kernel, by decide +kernel, by decide +kernel⟩
theorem my_X4_keep : MyV yX4_keep cX4_keep 2 none 1 := ⟨⟨allIdx 784 (by decide +kernel) rfl, allIdx 785 (by decide +kernel) rfl, allIdx 115 (by decide +kernel) rfl, allIdx 786 (by decide +kernel) rfl⟩, by decide +kernel, by decide +kernel, by decide +kernel⟩
theorem my_X4_restore : MyV yX4_restore cX4_restore 2 none 1 := ⟨⟨allIdx 971 (by decide +kernel) rfl, allIdx 972 (by decide +kernel) rfl, allIdx 115 (by decide +kernel) rfl, allIdx 973 (by decide +kernel) rfl⟩, by decide +kernel, by decide +kernel, by decide +kernel⟩
theorem my_X5_joined : MyV yX5_joined cX5_joined 6 (some .int) 3 := ⟨⟨allIdx 741 (by decide +kernel) rfl, allIdx 21 (by decide +kernel) rfl, allIdx 117 (by decide +kernel) rfl, allIdx 742 (by decide +kernel) rfl⟩, by decide +kernel, by decide +kernel, by decide +kernel⟩
theorem my_X5_worth : MyV yX5_worth cX5_worth 6 (some .int) 1 := ⟨⟨allIdx 736 (by decide +kernel) rfl, allIdx 737 (by decide +kernel) rfl, allIdx 117 (by decide +kernel) rfl, allIdx 738 (by decide +kernel) rfl⟩, by decide +kernel, by decide +kernel, by decide +kernel⟩
theorem my_X6_behind : MyV yX6_behind cX6_behind 5 (some (.object "NearlyBought$State")) 3 := ⟨⟨allIdx 1023 (by decide +kernel) rfl, allIdx 1024 (by decide +kernel) rfl, allIdx 119 (by decide +kernel) rfl, allIdx 1025 (by decide +kernel) rfl⟩, by decide +kernel, by decide +kernel, by decide +kernel⟩
theorem my_X6_hoursToSell : MyV yX6_hoursToSell cX6_hoursToSell 7 (some .int) 5 := ⟨⟨allIdx 1075 (by decide +kernel) rfl, allIdx 35 (by decide +kernel) rfl, allIdx 119 (by decide +kernel) rfl, allIdx 1076 (by decide +kernel) rfl⟩, by decide +kernel, by decide +kernel, by decide +kernel⟩
theorem my_X6_seekRate : MyV yX6_seekRate cX6_seekRate 6 none 3 := ⟨⟨allIdx 1062 (by decide +kernel) rfl, allIdx 1063 (by decide +kernel) rfl, allIdx 119 (by decide +kernel) rfl, allIdx 1064 (by decide +kernel) rfl⟩, by decide +kernel, by decide +kernel, by decide +kernel⟩
theorem my_X6_seekWeight : MyV yX6_seekWeight cX6_seekWeight 7 none 3 := ⟨⟨allIdx 1070 (by decide +kernel) rfl, allIdx 1071 (by decide +kernel) rfl, allIdx 119 (by decide +kernel) rfl, allIdx 1072 (by decide +kernel) rfl⟩, by decide +kernel, by decide +kernel, by decide +kernel⟩
theorem my_X6_startingAt : MyV yX6_startingAt cX6_startingAt 2 (some (.object "NearlyBought$State")) 1 := ⟨⟨allIdx 991 (by decide +kernel) rfl, allIdx 992 (by decide +kernel) rfl, allIdx 119 (by decide +kernel) rfl, allIdx 993 (by decide +kernel) rfl⟩, by decide +kernel, by decide +kernel, by decide +kernel⟩
theorem my_X7_beginAs : MyV yX7_beginAs cX7_beginAs 3 none 1 := ⟨⟨allIdx 666 (by decide +kernel) rfl, allIdx 667 (by decide +kernel) rfl, allIdx 114 (by decide +kernel) rfl, allIdx 668 (by decide +kernel) rfl⟩, by decide +kernel, by decide +kernel, by decide +kernel⟩
theorem my_X7_billRow : MyV yX7_billRow cX7_billRow 5 (some .int) 2 := ⟨⟨allIdx 758 (by decide +kernel) rfl, allIdx 759 (by decide +kernel) rfl, allIdx 114 (by decide +kernel) rfl, allIdx 760 (by decide +kernel) rfl⟩, by decide +kernel, by decide +kernel, by decide +kernel⟩
theorem my_X7_copyFrom : MyV yX7_copyFrom cX7_copyFrom 2 none 1 := ⟨⟨allIdx 788 (by decide +kernel) rfl, allIdx 789 (by decide +kernel) rfl, allIdx 114 (by decide +kernel) rfl, allIdx 790 (by decide +kernel) rfl⟩, by decide +kernel, by decide +kernel, by decide +kernel⟩
theorem my_X7_dueOf : MyV yX7_dueOf cX7_dueOf 4 (some .int) 1 := ⟨⟨allIdx 885 (by decide +kernel) rfl, allIdx 886 (by decide +kernel) rfl, allIdx 114 (by decide +kernel) rfl, allIdx 887 (by decide +kernel) rfl⟩, by decide +kernel, by decide +kernel, by decide +kernel⟩
theorem my_X7_dueOfAll : MyV yX7_dueOfAll cX7_dueOfAll 3 (some .int) 0 := ⟨⟨allIdx 1011 (by decide +kernel) rfl, allIdx 1012 (by decide +kernel) rfl, allIdx 114 (by decide +kernel) rfl, allIdx 1013 (by decide +kernel) rfl⟩, by decide +kernel, by decide +kernel, by decide +kernel⟩
theorem my_X7_hasBillFor : MyV yX7_hasBillFor cX7_hasBillFor 4 (some .boolean) 2 := ⟨⟨allIdx 897 (by decide +kernel) rfl, allIdx 898 (by decide +kernel) rfl, allIdx 114 (by decide +kernel) rfl, allIdx 899 (by decide +kernel) rfl⟩, by decide +kernel, by decide +kernel, by decide +kernel⟩
theorem my_X7_holders : MyV yX7_holders cX7_holders 3 (some .int) 0 := ⟨⟨allIdx 918 (by decide +kernel) rfl, allIdx 919 (by decide +kernel) rfl, allIdx 114 (by decide +kernel) rfl, allIdx 920 (by decide +kernel) rfl⟩, by decide +kernel, by decide +kernel, by decide +kernel⟩
theorem my_X7_strikeBills : MyV yX7_strikeBills cX7_strikeBills 7 (some .int) 3 := ⟨⟨allIdx 854 (by decide +kernel) rfl, allIdx 855 (by decide +kernel) rfl, allIdx 114 (by decide +kernel) rfl, allIdx 856 (by decide +kernel) rfl⟩, by decide +kernel, by decide +kernel, by decide +kernel⟩
theorem my_X7_writeBill : MyV yX7_writeBill cX7_writeBill 5 none 3 := ⟨⟨allIdx 821 (by decide +kernel) rfl, allIdx 822 (by decide +kernel) rfl, allIdx 114 (by decide +kernel) rfl, allIdx 823 (by decide +kernel) rfl⟩, by decide +kernel, by decide +kernel, by decide +kernel⟩
theorem my_X7_writeLog : MyV yX7_writeLog cX7_writeLog 2 none 0 := ⟨⟨allIdx 914 (by decide +kernel) rfl, allIdx 915 (by decide +kernel) rfl, allIdx 114 (by decide +kernel) rfl, allIdx 916 (by decide +kernel) rfl⟩, by decide +kernel, by decide +kernel, by decide +kernel⟩
theorem my_X8_add : MyV yX8_add cX8_add 4 none 1 := ⟨⟨allIdx 516 (by decide +kernel) rfl, allIdx 517 (by decide +kernel) rfl, allIdx 113 (by decide +kernel) rfl, allIdx 518 (by decide +kernel) rfl⟩, by decide +kernel, by decide +kernel, by decide +kernel⟩
theorem my_X8_atDigit : MyV yX8_atDigit cX8_atDigit 1 (some .boolean) 0 := ⟨⟨allIdx 572 (by decide +kernel) rfl, allIdx 573 (by decide +kernel) rfl, allIdx 113 (by decide +kernel) rfl, allIdx 574 (by decide +kernel) rfl⟩, by decide +kernel, by decide +kernel, by decide +kernel⟩
theorem my_X8_bytesIn : MyV yX8_bytesIn cX8_bytesIn 4 (some .int) 1 := ⟨⟨allIdx 512 (by decide +kernel) rfl, allIdx 513 (by decide +kernel) rfl, allIdx 113 (by decide +kernel) rfl, allIdx 514 (by decide +kernel) rfl⟩, by decide +kernel, by decide +kernel, by decide +kernel⟩
theorem my_X8_passes : MyV yX8_passes cX8_passes 2 (some .boolean) 1 := ⟨⟨allIdx 541 (by decide +kernel) rfl, allIdx 542 (by decide +kernel) rfl, allIdx 113 (by decide +kernel) rfl, allIdx 543 (by decide +kernel) rfl⟩, by decide +kernel, by decide +kernel, by decide +kernel⟩
theorem my_X8_passesDigit : MyV yX8_passesDigit cX8_passesDigit 1 (some .boolean) 0 := ⟨⟨allIdx 653 (by decide +kernel) rfl, allIdx 654 (by decide +kernel) rfl, allIdx 113 (by decide +kernel) rfl, allIdx 655 (by decide +kernel) rfl⟩, by decide +kernel, by decide +kernel, by decide +kernel⟩
theorem my_X8_passesNumber : MyV yX8_passesNumber cX8_passesNumber 3 (some .boolean) 1 := ⟨⟨allIdx 568 (by decide +kernel) rfl, allIdx 569 (by decide +kernel) rfl, allIdx 113 (by decide +kernel) rfl, allIdx 570 (by decide +kernel) rfl⟩, by decide +kernel, by decide +kernel, by decide +kernel⟩
theorem my_X8_passesNumberWithin : MyV yX8_passesNumberWithin cX8_passesNumberWithin 3 (some .boolean) 2 := ⟨⟨allIdx 564 (by decide +kernel) rfl, allIdx 565 (by decide +kernel) rfl, allIdx 113 (by decide +kernel) rfl, allIdx 566 (by decide +kernel) rfl⟩, by decide +kernel, by decide +kernel, by decide +kernel⟩
theorem my_X8_sign : MyV yX8_sign cX8_sign 1 (some .int) 0 := ⟨⟨allIdx 545 (by decide +kernel) rfl, allIdx 546 (by decide +kernel) rfl, allIdx 113 (by decide +kernel) rfl, allIdx 547 (by decide +kernel) rfl⟩, by decide +kernel, by decide +kernel, by decide +kernel⟩
theorem my_X9_decide : MyV yX9_decide cX9_decide 5 none 2 := ⟨⟨allIdx 875 (by decide +kernel) rfl, allIdx 24 (by decide +kernel) rfl, allIdx 116 (by decide +kernel) rfl, allIdx 876 (by decide +kernel) rfl⟩, by decide +kernel, by decide +kernel, by decide +kernel⟩
theorem my_X9_dueIfPutBack : MyV yX9_dueIfPutBack cX9_dueIfPutBack 6 (some .int) 3 := ⟨⟨allIdx 813 (by decide +kernel) rfl, allIdx 814 (by decide +kernel) rfl, allIdx 116 (by decide +kernel) rfl, allIdx 815 (by decide +kernel) rfl⟩, by decide +kernel, by decide +kernel, by decide +kernel⟩
theorem my_X9_hasCity : MyV yX9_hasCity cX9_hasCity 1 (some .boolean) 0 := ⟨⟨allIdx 866 (by decide +kernel) rfl, allIdx 867 (by decide +kernel) rfl, allIdx 116 (by decide +kernel) rfl, allIdx 868 (by decide +kernel) rfl⟩, by decide +kernel, by decide +kernel, by decide +kernel⟩
theorem my_X9_isAfraid : MyV yX9_isAfraid cX9_isAfraid 3 (some .boolean) 2 := ⟨⟨allIdx 881 (by decide +kernel) rfl, allIdx 882 (by decide +kernel) rfl, allIdx 116 (by decide +kernel) rfl, allIdx 883 (by decide +kernel) rfl⟩, by decide +kernel, by decide +kernel, by decide +kernel⟩
theorem my_X9_isBuyer : MyV yX9_isBuyer cX9_isBuyer 2 (some .boolean) 1 := ⟨⟨allIdx 726 (by decide +kernel) rfl, allIdx 727 (by decide +kernel) rfl, allIdx 116 (by decide +kernel) rfl, allIdx 728 (by decide +kernel) rfl⟩, by decide +kernel, by decide +kernel, by decide +kernel⟩
theorem my_X9_isThing : MyV yX9_isThing cX9_isThing 2 (some .boolean) 1 := ⟨⟨allIdx 709 (by decide +kernel) rfl, allIdx 710 (by decide +kernel) rfl, allIdx 116 (by decide +kernel) rfl, allIdx 711 (by decide +kernel) rfl⟩, by decide +kernel, by decide +kernel, by decide +kernel⟩
theorem my_X9_keepMichaelmas : MyV yX9_keepMichaelmas cX9_keepMichaelmas 4 none 1 := ⟨⟨allIdx 907 (by decide +kernel) rfl, allIdx 26 (by decide +kernel) rfl, allIdx 116 (by decide +kernel) rfl, allIdx 908 (by decide +kernel) rfl⟩, by decide +kernel, by decide +kernel, by decide +kernel⟩
theorem my_X9_layBack : MyV yX9_layBack cX9_layBack 5 (some .int) 2 := ⟨⟨allIdx 805 (by decide +kernel) rfl, allIdx 806 (by decide +kernel) rfl, allIdx 116 (by decide +kernel) rfl, allIdx 807 (by decide +kernel) rfl⟩, by decide +kernel, by decide +kernel, by decide +kernel⟩
theorem my_X9_liked : MyV yX9_liked cX9_liked 5 (some .int) 3 := ⟨⟨allIdx 730 (by decide +kernel) rfl, allIdx 731 (by decide +kernel) rfl, allIdx 116 (by decide +kernel) rfl, allIdx 732 (by decide +kernel) rfl⟩, by decide +kernel, by decide +kernel, by decide +kernel⟩
theorem my_X9_looksAway : MyV yX9_looksAway cX9_looksAway 3 (some .boolean) 2 := ⟨⟨allIdx 810 (by decide +kernel) rfl, allIdx 23 (by decide +kernel) rfl, allIdx 116 (by decide +kernel) rfl, allIdx 811 (by decide +kernel) rfl⟩, by decide +kernel, by decide +kernel, by decide +kernel⟩
theorem my_X9_makeStep : MyV yX9_makeStep cX9_makeStep 5 none 3 := ⟨⟨allIdx 1005 (by decide +kernel) rfl, allIdx 1006 (by decide +kernel) rfl, allIdx 116 (by decide +kernel) rfl, allIdx 1007 (by decide +kernel) rfl⟩, by decide +kernel, by decide +kernel, by decide +kernel⟩
theorem my_X9_passHour : MyV yX9_passHour cX9_passHour 3 none 1 := ⟨⟨allIdx 870 (by decide +kernel) rfl, allIdx 871 (by decide +kernel) rfl, allIdx 116 (by decide +kernel) rfl, allIdx 872 (by decide +kernel) rfl⟩, by decide +kernel, by decide +kernel, by decide +kernel⟩
theorem my_X9_passOn : MyV yX9_passOn cX9_passOn 5 (some .int) 3 := ⟨⟨allIdx 833 (by decide +kernel) rfl, allIdx 834 (by decide +kernel) rfl, allIdx 116 (by decide +kernel) rfl, allIdx 835 (by decide +kernel) rfl⟩, by decide +kernel, by decide +kernel, by decide +kernel⟩
theorem my_X9_pickFavourite : MyV yX9_pickFavourite cX9_pickFavourite 7 none 2 := ⟨⟨allIdx 894 (by decide +kernel) rfl, allIdx 25 (by decide +kernel) rfl, allIdx 116 (by decide +kernel) rfl, allIdx 895 (by decide +kernel) rfl⟩, by decide +kernel, by decide +kernel, by decide +kernel⟩
theorem my_X9_pickUp : MyV yX9_pickUp cX9_pickUp 4 none 3 := ⟨⟨allIdx 793 (by decide +kernel) rfl, allIdx 794 (by decide +kernel) rfl, allIdx 116 (by decide +kernel) rfl, allIdx 795 (by decide +kernel) rfl⟩, by decide +kernel, by decide +kernel, by decide +kernel⟩
theorem my_X9_purchase : MyV yX9_purchase cX9_purchase 4 (some .int) 2 := ⟨⟨allIdx 846 (by decide +kernel) rfl, allIdx 847 (by decide +kernel) rfl, allIdx 116 (by decide +kernel) rfl, allIdx 848 (by decide +kernel) rfl⟩, by decide +kernel, by decide +kernel, by decide +kernel⟩
theorem my_X9_whyNotBuy : MyV yX9_whyNotBuy cX9_whyNotBuy 4 (some .int) 2 := ⟨⟨allIdx 841 (by decide +kernel) rfl, allIdx 842 (by decide +kernel) rfl, allIdx 116 (by decide +kernel) rfl, allIdx 843 (by decide +kernel) rfl⟩, by decide +kernel, by decide +kernel, by decide +kernel⟩
theorem my_X9_whyNotHand : MyV yX9_whyNotHand cX9_whyNotHand 4 (some .int) 3 := ⟨⟨allIdx 829 (by decide +kernel) rfl, allIdx 830 (by decide +kernel) rfl, allIdx 116 (by decide +kernel) rfl, allIdx 831 (by decide +kernel) rfl⟩, by decide +kernel, by decide +kernel, by decide +kernel⟩
theorem my_X9_whyNotHour : MyV yX9_whyNotHour cX9_whyNotHour 2 (some .int) 1 := ⟨⟨allIdx 862 (by decide +kernel) rfl, allIdx 863 (by decide +kernel) rfl, allIdx 116 (by decide +kernel) rfl, allIdx 864 (by decide +kernel) rfl⟩, by decide +kernel, by decide +kernel, by decide +kernel⟩
theorem my_X9_whyNotPick : MyV yX9_whyNotPick cX9_whyNotPick 4 (some .int) 3 := ⟨⟨allIdx 774 (by decide +kernel) rfl, allIdx 775 (by decide +kernel) rfl, allIdx 116 (by decide +kernel) rfl, allIdx 776 (by decide +kernel) rfl⟩, by decide +kernel, by decide +kernel, by decide +kernel⟩
theorem my_X9_whyNotPutBack : MyV yX9_whyNotPutBack cX9_whyNotPutBack 3 (some .int) 2 := ⟨⟨allIdx 801 (by decide +kernel) rfl, allIdx 802 (by decide +kernel) rfl, allIdx 116 (by decide +kernel) rfl, allIdx 803 (by decide +kernel) rfl⟩, by decide +kernel, by decide +kernel, by decide +kernel⟩
theorem my_X9_whyNotStep : MyV yX9_whyNotStep cX9_whyNotStep 5 (some .int) 3 := ⟨⟨allIdx 996 (by decide +kernel) rfl, allIdx 997 (by decide +kernel) rfl, allIdx 116 (by decide +kernel) rfl, allIdx 998 (by decide +kernel) rfl⟩, by decide +kernel, by decide +kernel, by decide +kernel⟩
