section GS
variable {θ : Th} {p : Program} {l : Launch} {e : Env} {R : Room} {s : State} {m : MethodId} {args : Array Value} {below : List Frame} {meth : Method} {c : Code} {cc : ByteArray} {own : String} {nL cells slots pc : Nat} {Q : State → Prop} {lv : List (Nat × Value)} {st : List Value} {σ : Mem}
def lmin (x y : Int64) : Int64 := if y < x then y else x
theorem g_minl (X : Cx θ p s m args c cc nL own) {idx : Nat} {x y : Int64} (Lk : Lm own idx Lib.MathLoose.min_long.x Lib.MathLoose.min_long.code 4 .long) (hR : 1 ≤ R.frames ∧ (st.map fun v => v.category).sum + 15 ≤ R.locals) (hf : cells ≤ R.cells ∧ slots ≤ R.slots) (hd : decode cc pc = .ok (.invokestatic idx, 3)) (kk : G θ p l e R s m args below meth c nL cells slots Q (pc + 3) lv (.long (lmin x y) :: st) σ) : G θ p l e R s m args below meth c nL cells slots Q pc lv (.long y :: .long x :: st) σ := fun H locs ls hW hS hl =>
  va_mmin_long X.1.1 X.1.2.1 (by rw [X.1.2.2.1, hl.1]) X.1.2.2.2.1 (X.1.2.2.2.2 _ Lk.1) (X.1.2.2.2.2 _ Lk.2.1) (X.1.2.2.2.2 _ Lk.2.2.1) (X.1.2.2.2.2 _ Lk.2.2.2) hR.1 hR.2 hf.1 hf.2 hd (kk H locs ls hW hS hl)
/-! static tables, String constants -/
theorem g_gets (X : Cx θ p s m args c cc nL own) {idx : Nat} {C n d : String} {v : Value} (hZ : va_Z C n d v (Aq θ) s s.heap) (hl' : Cond.fieldLink own idx C n d ∈ ALL) (hd : decode cc pc = .ok (.getstatic idx, 3)) (kk : G θ p l e R s m args below meth c nL cells slots Q (pc + 3) lv (v :: st) σ) : G θ p l e R s m args below meth c nL cells slots Q pc lv st σ := fun H locs ls hW hS hl =>
  va_gets X.1.1 X.1.2.1 hZ hS X.1.2.2.2.1 (X.1.2.2.2.2 _ hl') (fun _ h => h) hd (kk H locs ls hW hS hl)
theorem g_ti (X : Cx θ p s m args c cc nL own) {t N : Nat} {f : Nat → Int32} {i : Int32} (hT : va_T .int t N (fun j => .int (f j)) (Aq θ) s s.heap) (hi : vp_in i N) (hd : decode cc pc = .ok (.iaload, 1)) (kk : G θ p l e R s m args below meth c nL cells slots Q (pc + 1) lv (.int (f i.toNatClampNeg) :: st) σ) : G θ p l e R s m args below meth c nL cells slots Q pc lv (.int i :: .ref t :: st) σ := fun H locs ls hW hS hl => va_ti X.1.1 X.1.2.1 hT hS hi rfl hd (kk H locs ls hW hS hl)
theorem g_tc (X : Cx θ p s m args c cc nL own) {t N : Nat} {f : Nat → Int32} {i : Int32} (hT : va_T .char t N (fun j => .int (f j)) (Aq θ) s s.heap) (hi : vp_in i N) (hd : decode cc pc = .ok (.caload, 1)) (kk : G θ p l e R s m args below meth c nL cells slots Q (pc + 1) lv (.int (f i.toNatClampNeg) :: st) σ) : G θ p l e R s m args below meth c nL cells slots Q pc lv (.int i :: .ref t :: st) σ := fun H locs ls hW hS hl => va_tc X.1.1 X.1.2.1 hT hS hi rfl hd (kk H locs ls hW hS hl)
theorem g_tlen (X : Cx θ p s m args c cc nL own) {t N : Nat} {ty : FieldType} {f : Nat → Value} {v : Int32} (hT : va_T ty t N f (Aq θ) s s.heap) (hv : Int32.ofNat N = v) (hd : decode cc pc = .ok (.arraylength, 1)) (kk : G θ p l e R s m args below meth c nL cells slots Q (pc + 1) lv (.int v :: st) σ) : G θ p l e R s m args below meth c nL cells slots Q pc lv (.ref t :: st) σ := fun H locs ls hW hS hl => va_tlen X.1.1 X.1.2.1 hT hS hv hd (kk H locs ls hW hS hl)
theorem g_ldcS (X : Cx θ p s m args c cc nL own) {idx q : Nat} {tx : String} (hZ : vk_R own idx tx q s) (hd : decode cc pc = .ok (.ldc idx, 2)) (kk : G θ p l e R s m args below meth c nL cells slots Q (pc + 2) lv (.ref q :: st) σ) : G θ p l e R s m args below meth c nL cells slots Q pc lv st σ := fun H locs ls hW hS hl => va_ldcS X.1.1 X.1.2.1 X.1.2.2.2.1 hZ hd (kk H locs ls hW hS hl)
theorem g_ldcwS (X : Cx θ p s m args c cc nL own) {idx q : Nat} {tx : String} (hZ : vk_R own idx tx q s) (hd : decode cc pc = .ok (.ldc_w idx, 3)) (kk : G θ p l e R s m args below meth c nL cells slots Q (pc + 3) lv (.ref q :: st) σ) : G θ p l e R s m args below meth c nL cells slots Q pc lv st σ := by
  intro H locs ls hW hS hl T hT Y
  obtain ⟨t, a1, b1⟩ := kk H locs ls hW hS hl T hT Y
  exact ⟨t, Y.ldcStringW X.1.1 X.1.2.2.2.1 (text := tx) (a := q) hZ.1 hZ.2 (g := F0 m pc ls st) rfl (by rw [X.1.2.1]; exact hd) t a1, b1⟩
/-! switches -/
theorem g_tableIn (X : Cx θ p s m args c cc nL own) {dflt lo hi : Int} {offs : Array Int} {len : Nat} {x : Int32} {off : Int} {tgt : Nat} (hd : decode cc pc = .ok (.tableswitch dflt lo hi offs, len)) (h1 : ¬ x.toInt < lo) (h2 : ¬ hi < x.toInt) (ho : offs[(x.toInt - lo).toNat]? = some off) (ht : (pc : Int) + off = (tgt : Int)) (k : G θ p l e R s m args below meth c nL cells slots Q tgt lv st σ) : G θ p l e R s m args below meth c nL cells slots Q pc lv (.int x :: st) σ := fun H locs ls hW hS hl => lv_tableIn X.1.1 X.1.2.1 hd h1 h2 ho ht (k H locs ls hW hS hl)
theorem g_tableOut (X : Cx θ p s m args c cc nL own) {dflt lo hi : Int} {offs : Array Int} {len : Nat} {x : Int32} {tgt : Nat} (hd : decode cc pc = .ok (.tableswitch dflt lo hi offs, len)) (h : x.toInt < lo ∨ hi < x.toInt) (ht : (pc : Int) + dflt = (tgt : Int)) (k : G θ p l e R s m args below meth c nL cells slots Q tgt lv st σ) : G θ p l e R s m args below meth c nL cells slots Q pc lv (.int x :: st) σ := fun H locs ls hW hS hl => lv_tableOut X.1.1 X.1.2.1 hd h ht (k H locs ls hW hS hl)
theorem g_lookup (X : Cx θ p s m args c cc nL own) {dflt : Int} {ps : Array (Int × Int)} {len : Nat} {x : Int32} {off : Int} {tgt : Nat} (hd : decode cc pc = .ok (.lookupswitch dflt ps, len)) (hp : (ps.toList.zip (ps.toList.drop 1)).all (fun (a, next) => a.1 < next.1) = true) (ho : Op.lookupswitch.offset ps.toList dflt x.toInt = off) (ht : (pc : Int) + off = (tgt : Int)) (k : G θ p l e R s m args below meth c nL cells slots Q tgt lv st σ) : G θ p l e R s m args below meth c nL cells slots Q pc lv (.int x :: st) σ := fun H locs ls hW hS hl => lv_lookup X.1.1 X.1.2.1 hd hp ho ht (k H locs ls hW hS hl)
theorem neT {x k : Int32} (h : ¬ x = k) : ¬ x.toInt = k.toInt := fun q => h (Int32.toInt_inj.mp q)
/-! loops of the functions -/
def loopF {α β : Type} (step : α → Option (α ⊕ β)) : Nat → α → Option β
  | 0, _ => none
  | n + 1, a => match step a with
    | none => none
    | some (.inl b) => loopF step n b
    | some (.inr b) => some b
theorem loopF_succ {α β : Type} (step : α → Option (α ⊕ β)) (n : Nat) (a : α) : loopF step (n + 1) a = match step a with
    | none => none
    | some (.inl b) => loopF step n b
    | some (.inr b) => some b := rfl
def FU : Nat := 20000
/-- if each step carries P from its end to its start, so does the loop -/
theorem loopF_back {α β : Type} {step : α → Option (α ⊕ β)} {P : α → Prop} {K : β → Prop} (hs : ∀ a x, step a = some x → (match x with | .inl b => P b | .inr b => K b) → P a) : ∀ (n : Nat) (a : α) (y : β), loopF step n a = some y → K y → P a := by
  intro n
  induction n with
  | zero => intro a y h; cases h
  | succ n ih =>
    intro a y h hk
    rw [loopF_succ] at h
    cases hx : step a with
    | none => rw [hx] at h; cases h
    | some x =>
      rw [hx] at h
      cases x with
      | inl b => exact hs a _ hx (ih b y h hk)
      | inr b => cases h; exact hs a _ hx hk
/-- a loop with a measure: it ends, and what it ends with -/
theorem loopF_ends {α β : Type} {step : α → Option (α ⊕ β)} (I : α → Prop) (μ : α → Nat) (P : β → Prop) (hs : ∀ a, I a → (∃ b, step a = some (.inl b) ∧ I b ∧ μ b < μ a) ∨ ∃ b, step a = some (.inr b) ∧ P b) : ∀ (n : Nat) (a : α), I a → μ a < n → ∃ b, loopF step n a = some b ∧ P b := by
  intro n
  induction n with
  | zero => intro a _ h; omega
  | succ n ih =>
    intro a hi hm
    rw [loopF_succ]
    rcases hs a hi with ⟨b, h1, h2, h3⟩ | ⟨b, h1, h2⟩
    · rw [h1]
      exact ih b h2 (by omega)
    · rw [h1]
      exact ⟨b, rfl, h2⟩
end GS
