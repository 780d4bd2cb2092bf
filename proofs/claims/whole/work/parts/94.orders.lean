/-! seek: orders, what they are worth, the best of them -/
def chS (K : Cy) (t : Nat) : Int32 := (10 : Int32) + (8 : Int32) * cV K t
def woS (K : Cy) (w : Rw) (b : Nat) : List Nat → Int32
  | [] => 0
  | t :: l => ((chS K t * (1000 : Int32)) * lkS K w b t + ((100 : Int32) - chS K t) * (woS K w b l - (1000 : Int32) * duS K w b t)) / (100 : Int32)
def nuS (p : List Nat) : Nat := p.foldl (fun r t => r * 10 + t) 1
theorem nuS_snoc (p : List Nat) (t : Nat) : nuS (p ++ [t]) = nuS p * 10 + t := by
  unfold nuS
  rw [List.foldl_append]
  rfl
abbrev Bw : Type := Int32 × Nat
def leB (a b : Bw) : Prop := a.1 < b.1 ∨ (a.1 = b.1 ∧ b.2 ≤ a.2)
theorem i_lt {a b : Int32} : a < b ↔ a.toInt < b.toInt := Int32.lt_iff_toInt_lt
theorem i_le {a b : Int32} (h : a ≤ b) : a < b ∨ a = b := by
  rw [Int32.le_iff_toInt_le] at h
  by_cases q : a.toInt = b.toInt
  · exact Or.inr (Int32.toInt_inj.mp q)
  · exact Or.inl (i_lt.mpr (by omega))
theorem leB.refl (a : Bw) : leB a a := Or.inr ⟨rfl, Nat.le_refl _⟩
theorem leB.trans {a b c : Bw} (h : leB a b) (g : leB b c) : leB a c := by
  rcases h with h | ⟨h, h2⟩
  · rcases g with g | ⟨g, g2⟩
    · exact Or.inl (by rw [i_lt] at h g ⊢; omega)
    · exact Or.inl (by rw [← g]; exact h)
  · rcases g with g | ⟨g, g2⟩
    · exact Or.inl (by rw [h]; exact g)
    · exact Or.inr ⟨h.trans g, by omega⟩
theorem leB.anti {a b : Bw} (h : leB a b) (g : leB b a) : a = b := by
  rcases h with h | ⟨h, h2⟩
  · rcases g with g | ⟨g, g2⟩
    · rw [i_lt] at h g; omega
    · rw [g] at h; rw [i_lt] at h; omega
  · rcases g with g | ⟨g, g2⟩
    · rw [h] at g; rw [i_lt] at g; omega
    · exact Prod.ext h (by omega)
/-- the best so far, b, is c once those of T have been met -/
def Jn (b : Bw) (T : Bw → Prop) (c : Bw) : Prop := (c = b ∨ T c) ∧ leB b c ∧ ∀ s, T s → leB s c
theorem Jn.uni {b c d : Bw} {T : Bw → Prop} (h : Jn b T c) (g : Jn b T d) : c = d := by
  refine leB.anti ?_ ?_
  · rcases h.1 with q | q
    · rw [q]; exact g.2.1
    · exact g.2.2 c q
  · rcases g.1 with q | q
    · rw [q]; exact h.2.1
    · exact h.2.2 d q
theorem Jn.none {b : Bw} {T : Bw → Prop} (h : ∀ s, ¬ T s) : Jn b T b := ⟨Or.inl rfl, leB.refl b, fun s q => absurd q (h s)⟩
theorem Jn.comp {b c d : Bw} {T U V : Bw → Prop} (h : Jn b T c) (g : Jn c U d) (e : ∀ s, V s ↔ T s ∨ U s) : Jn b V d := by
  refine ⟨?_, h.2.1.trans g.2.1, fun s q => ?_⟩
  · rcases g.1 with q | q
    · rcases h.1 with p | p
      · exact Or.inl (q.trans p)
      · exact Or.inr ((e d).mpr (Or.inl (by rw [q]; exact p)))
    · exact Or.inr ((e d).mpr (Or.inr q))
  · rcases (e s).mp q with p | p
    · exact (h.2.2 s p).trans g.2.1
    · exact g.2.2 s p
theorem Jn.iff {b c : Bw} {T U : Bw → Prop} (h : Jn b T c) (e : ∀ s, U s ↔ T s) : Jn b U c :=
  ⟨h.1.imp id (e c).mpr, h.2.1, fun s q => h.2.2 s ((e s).mp q)⟩
theorem Jn.keep {b s : Bw} (h : leB s b) : Jn b (fun x => x = s) b := ⟨Or.inl rfl, leB.refl b, fun x q => by rw [q]; exact h⟩
theorem Jn.set {b s : Bw} (h : leB b s) : Jn b (fun x => x = s) s := ⟨Or.inr rfl, h, fun x q => by rw [q]; exact leB.refl s⟩
/-! the orders themselves: of m things, each of f, none twice -/
def mi (f : Nat → Bool) (t : Nat) : Nat → Bool := fun u => f u && !decide (u = t)
theorem mi_t {f : Nat → Bool} {t u : Nat} (h : mi f t u = true) : f u = true := by
  unfold mi at h
  exact (Bool.and_eq_true _ _ ▸ h).1
def Ar : Nat → (Nat → Bool) → List Nat → Prop
  | 0, _, e => e = []
  | m + 1, f, e => ∃ t e', t < 8 ∧ f t = true ∧ Ar m (mi f t) e' ∧ e = t :: e'
def Tn (K : Cy) (w : Rw) (b : Nat) (p : List Nat) (f : Nat → Bool) (m : Nat) (s : Bw) : Prop := ∃ e, Ar m f e ∧ s = (woS K w b (p ++ e), nuS (p ++ e))
def Tl (K : Cy) (w : Rw) (b : Nat) (p : List Nat) (f : Nat → Bool) (m i : Nat) (s : Bw) : Prop := ∃ t, t < i ∧ f t = true ∧ Tn K w b (p ++ [t]) (mi f t) m s
theorem Tn_0 {K : Cy} {w : Rw} {b : Nat} {p : List Nat} {f : Nat → Bool} (s : Bw) : Tn K w b p f 0 s ↔ s = (woS K w b p, nuS p) := by
  unfold Tn Ar
  constructor
  · rintro ⟨e, rfl, h⟩
    rw [List.append_nil] at h
    exact h
  · intro h
    exact ⟨[], rfl, by rw [List.append_nil]; exact h⟩
theorem app1 (p : List Nat) (t : Nat) (e : List Nat) : p ++ [t] ++ e = p ++ t :: e := by simp
theorem Tn_s {K : Cy} {w : Rw} {b : Nat} {p : List Nat} {f : Nat → Bool} {m : Nat} (s : Bw) : Tn K w b p f (m + 1) s ↔ Tl K w b p f m 8 s := by
  constructor
  · rintro ⟨e, ⟨t, e', h1, h2, h3, rfl⟩, h⟩
    exact ⟨t, h1, h2, e', h3, by rw [app1]; exact h⟩
  · rintro ⟨t, h1, h2, e', h3, h⟩
    exact ⟨t :: e', ⟨t, e', h1, h2, h3, rfl⟩, by rw [← app1]; exact h⟩
theorem Tl_s {K : Cy} {w : Rw} {b : Nat} {p : List Nat} {f : Nat → Bool} {m i : Nat} (s : Bw) : Tl K w b p f m (i + 1) s ↔ Tl K w b p f m i s ∨ (f i = true ∧ Tn K w b (p ++ [i]) (mi f i) m s) := by
  constructor
  · rintro ⟨t, h1, h2, h3⟩
    by_cases e : t = i
    · subst e; exact Or.inr ⟨h2, h3⟩
    · exact Or.inl ⟨t, by omega, h2, h3⟩
  · rintro (⟨t, h1, h2, h3⟩ | ⟨h2, h3⟩)
    · exact ⟨t, by omega, h2, h3⟩
    · exact ⟨i, by omega, h2, h3⟩
/-! masks, bit by bit -/
def Bt (x : Int32) (f : Nat → Bool) : Prop := ∀ t, t < 8 → x.toBitVec.getLsbD t = f t
theorem bit_bv (b : BitVec 32) (k : Nat) (hk : k < 32) : (b.sshiftRight k) &&& 1#32 = if b.getLsbD k = true then 1#32 else 0#32 := by
  apply BitVec.eq_of_getLsbD_eq
  intro i hi
  rw [BitVec.getLsbD_and, BitVec.getLsbD_sshiftRight]
  by_cases q : i = 0
  · subst q
    cases h : b.getLsbD k <;> simp [h, hk]
  · have : (1#32).getLsbD i = false := by simp [q]
    rw [this, Bool.and_false]
    split <;> simp [q]
theorem bit_1 (x : Int32) {t : Nat} (ht : t < 8) : (x >>> (nI t &&& 31)) &&& (1 : Int32) = if x.toBitVec.getLsbD t = true then 1 else 0 := by
  refine Int32.toBitVec_inj.mp ?_
  have e : ((x >>> (nI t &&& 31)) &&& (1 : Int32)).toBitVec = x.toBitVec.sshiftRight t &&& 1#32 := by
    rcases (show t = 0 ∨ t = 1 ∨ t = 2 ∨ t = 3 ∨ t = 4 ∨ t = 5 ∨ t = 6 ∨ t = 7 by omega) with rfl | rfl | rfl | rfl | rfl | rfl | rfl | rfl <;> rfl
  rw [e, bit_bv _ _ (by omega)]
  split <;> rfl
theorem Bt.bit {x : Int32} {f : Nat → Bool} {t : Nat} (h : Bt x f) (ht : t < 8) : (x >>> (nI t &&& 31)) &&& (1 : Int32) = if f t = true then 1 else 0 := by rw [bit_1 x ht, h t ht]
theorem sh_bit : ∀ u, u < 8 → ∀ t, t < 8 → ((1 : Int32) <<< (nI u &&& 31)).toBitVec.getLsbD t = decide (t = u) := by decide +kernel
theorem sh_bit' : ∀ u, u < 8 → ∀ t, t < 8 → (((1 : Int32) <<< (nI u &&& 31)) ^^^ (-1 : Int32)).toBitVec.getLsbD t = !decide (t = u) := by decide +kernel
theorem Bt.or {x : Int32} {f : Nat → Bool} {u : Nat} (h : Bt x f) (hu : u < 8) : Bt (x ||| ((1 : Int32) <<< (nI u &&& 31))) (fun t => f t || decide (t = u)) := fun t ht => by
  rw [Int32.toBitVec_or, BitVec.getLsbD_or, h t ht, sh_bit u hu t ht]
theorem Bt.mi {x : Int32} {f : Nat → Bool} {u : Nat} (h : Bt x f) (hu : u < 8) : Bt (x &&& (((1 : Int32) <<< (nI u &&& 31)) ^^^ (-1 : Int32))) (mi f u) := fun t ht => by
  rw [Int32.toBitVec_and, BitVec.getLsbD_and, h t ht, sh_bit' u hu t ht]
  rfl
theorem Bt.zero : Bt 0 (fun _ => false) := by unfold Bt; decide +kernel
theorem Bt.iff {x : Int32} {f g : Nat → Bool} (h : Bt x f) (e : ∀ t, t < 8 → f t = g t) : Bt x g := fun t ht => (h t ht).trans (e t ht)
/-! an order in a row -/
def OrS (row : Rw) (p : List Nat) (T : Nat) : Prop := ∀ i, i < p.length → row i = nI (p.getD i 0) ∧ p.getD i 0 < T
theorem OrS.snoc {row row' : Rw} {p : List Nat} {T t : Nat} (h : OrS row p T) (he : ∀ i, i < p.length → row' i = row i) (hn : row' p.length = nI t) (ht : t < T) : OrS row' (p ++ [t]) T := by
  intro i hi
  rw [List.length_append, List.length_singleton] at hi
  by_cases e : i < p.length
  · have : (p ++ [t]).getD i 0 = p.getD i 0 := by simp [List.getD_eq_getElem?_getD, List.getElem?_append, e]
    rw [he i e, this]
    exact h i e
  · have e : i = p.length := by omega
    subst e
    have : (p ++ [t]).getD p.length 0 = t := by simp [List.getD_eq_getElem?_getD]
    rw [hn, this]
    exact ⟨rfl, ht⟩
theorem OrS.fr {row row' : Rw} {p : List Nat} {T : Nat} (h : OrS row p T) (he : ∀ i, i < p.length → row' i = row i) : OrS row' p T := fun i hi => by rw [he i hi]; exact h i hi
theorem OrS.nil (row : Rw) (T : Nat) : OrS row [] T := fun i hi => by simp at hi
theorem drop_at {p : List Nat} {i : Nat} (h : i < p.length) : p.drop i = p.getD i 0 :: p.drop (i + 1) := by
  rw [List.drop_eq_getElem_cons h]
  simp [List.getD_eq_getElem?_getD, h]
