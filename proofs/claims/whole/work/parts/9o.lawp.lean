/-! laws: what a text tells, as the class's steps and as what they come to -/
abbrev Den : Type := (Nat → Int32) → Int32
abbrev Res : Type := Nat × Option (List Int32 × Den)
/-- within a million -/
def clS (y : Int64) : Int32 := if (lg_cmp y (1000000 : Int64)) ≤ (0 : Int32) then (if (0 : Int32) ≤ (lg_cmp y (-1000000 : Int64)) then y.toInt32 else -1000000) else 1000000
theorem J227_cl (σ : Mem) (o : Nat) (x1 x2 x3 : Int32) (y : Int64) : f_Law_joined_J227 σ o x1 x2 x3 y = some (clS y) := by
  unfold f_Law_joined_J227 clS
  split
  · split <;> rfl
  · rfl
/-- what two numbers come to by a sign -/
def jo (c : Nat) (a b : Int32) : Int32 :=
  if c = 38 then clS (a &&& b).toInt64 else if c = 42 then clS (a.toInt64 * b.toInt64) else if c = 43 then clS (a.toInt64 + b.toInt64) else if c = 45 then clS (a.toInt64 - b.toInt64) else if c = 47 then (if b = 0 then clS 0 else clS (a / b).toInt64) else if c = 60 then (if b ≤ a then clS 0 else clS 1) else if c = 61 then (if a = b then clS 1 else clS 0) else if c = 62 then (if a ≤ b then clS 0 else clS 1) else clS (a ||| b).toInt64
theorem nI_if {α : Type} {c k : Nat} (hc : c < 256) (hk : k < 256) (x y : α) : (if nI c = nI k then x else y) = if c = k then x else y := by
  by_cases q : c = k
  · rw [if_pos (by rw [q]), if_pos q]
  · rw [if_neg (fun p => q ((nI_eq (b := k) (by omega) (by omega)).mp p)), if_neg q]
theorem Law_joined (σ : Mem) (o c : Nat) (a b : Int32) (hc : c < 256) : f_Law_joined σ o (nI c) a b = some (jo c a b) := by
  unfold f_Law_joined jo
  simp only [J227_cl]
  rw [show (38 : Int32) = nI 38 from rfl, show (42 : Int32) = nI 42 from rfl, show (43 : Int32) = nI 43 from rfl, show (45 : Int32) = nI 45 from rfl, show (47 : Int32) = nI 47 from rfl, show (60 : Int32) = nI 60 from rfl, show (61 : Int32) = nI 61 from rfl, show (62 : Int32) = nI 62 from rfl]
  rw [nI_if hc (by omega), nI_if hc (by omega), nI_if hc (by omega), nI_if hc (by omega), nI_if hc (by omega), nI_if hc (by omega), nI_if hc (by omega), nI_if hc (by omega)]
  by_cases q1 : c = 38
  · rw [if_pos q1, if_pos q1]
  rw [if_neg q1, if_neg q1]
  by_cases q2 : c = 42
  · rw [if_pos q2, if_pos q2]
  rw [if_neg q2, if_neg q2]
  by_cases q3 : c = 43
  · rw [if_pos q3, if_pos q3]
  rw [if_neg q3, if_neg q3]
  by_cases q4 : c = 45
  · rw [if_pos q4, if_pos q4]
  rw [if_neg q4, if_neg q4]
  by_cases q5 : c = 47
  · rw [if_pos q5, if_pos q5]
    by_cases z : b = 0
    · rw [if_pos z, if_pos z]
    · rw [if_neg z, if_neg z, if_neg z]
  rw [if_neg q5, if_neg q5]
  by_cases q6 : c = 60
  · rw [if_pos q6, if_pos q6]
    split <;> rfl
  rw [if_neg q6, if_neg q6]
  by_cases q7 : c = 61
  · rw [if_pos q7, if_pos q7]
    split <;> rfl
  rw [if_neg q7, if_neg q7]
  by_cases q8 : c = 62
  · rw [if_pos q8, if_pos q8]
    split <;> rfl
  rw [if_neg q8, if_neg q8]
/-! readers of a text -/
/-- more of the same, each behind a sign -/
def chF (X : Tx) (L : Nat) (op : Nat → Bool) (P : Nat → Res) : Nat → List Int32 → Den → Nat → Res
  | 0, _, _, i => (i, none)
  | n + 1, c, d, i => if op (sg X L (sk X L i)) = true then match (P (sk X L i + 1)).2 with
      | none => ((P (sk X L i + 1)).1, none)
      | some r => chF X L op P n (c ++ r.1 ++ [-(nI (sg X L (sk X L i)))]) (fun l => jo (sg X L (sk X L i)) (d l) (r.2 l)) (P (sk X L i + 1)).1
    else (sk X L i, some (c, d))
def chP (X : Tx) (L : Nat) (op : Nat → Bool) (P : Nat → Res) (i : Nat) : Res := match (P i).2 with
  | none => ((P i).1, none)
  | some r => chF X L op P 240 r.1 r.2 (P i).1
def opT (c : Nat) : Bool := decide (c = 42) || decide (c = 47)
def opS (c : Nat) : Bool := decide (c = 43) || decide (c = 45)
def opA (c : Nat) : Bool := decide (c = 38)
def opO (c : Nat) : Bool := decide (c = 124)
def isC (c : Nat) : Bool := decide (c = 61) || (decide (c = 60) || decide (c = 62))
/-- a letter's place -/
def ltI (c : Nat) : Option Nat := if c = 112 then some 0 else if c = 119 then some 1 else if c = 100 then some 2 else if c = 109 then some 3 else if c = 115 then some 4 else if c = 104 then some 5 else none
/-- then this sign -/
def thn (X : Tx) (L c : Nat) (r : Res) : Res := match r.2 with
  | none => (r.1, none)
  | some x => if sg X L (sk X L r.1) = c then (sk X L r.1 + 1, some x) else (sk X L r.1, none)
def atP (X : Tx) (L : Nat) (S : Option (Nat → Res)) (i : Nat) : Res :=
  if sg X L (sk X L i) = 91 then (match S with
    | none => (sk X L i, none)
    | some S => thn X L 93 (S (sk X L i + 1)))
  else match ltI (sg X L (sk X L i)) with
    | some q => (sk X L i + 1, some ([(-1 : Int32) - nI q], fun l => l q))
    | none => ((nbP X L 4 i).1, (nbP X L 4 i).2.map fun v => ([nI v], fun _ => nI v))
def teP (X : Tx) (L : Nat) (S : Option (Nat → Res)) : Nat → Res := chP X L opT (atP X L S)
/-- a sum within which r more may nest -/
def suP (X : Tx) (L : Nat) : Nat → Nat → Res
  | 0 => chP X L opS (teP X L none)
  | r + 1 => chP X L opS (teP X L (some (suP X L r)))
def atS (X : Tx) (L r : Nat) : Nat → Res := atP X L (match r with | 0 => none | r + 1 => some (suP X L r))
def teS (X : Tx) (L r : Nat) : Nat → Res := chP X L opT (atS X L r)
theorem suP_e (X : Tx) (L r : Nat) : suP X L r = chP X L opS (teS X L r) := by
  cases r <;> rfl
/-- what is behind a sum in a comparison -/
def cmF (X : Tx) (L r : Nat) (c : List Int32) (d : Den) (i : Nat) : Res := if isC (sg X L (sk X L i)) = true then (match (suP X L r (sk X L i + 1)).2 with
    | none => ((suP X L r (sk X L i + 1)).1, none)
    | some x => ((suP X L r (sk X L i + 1)).1, some (c ++ x.1 ++ [-(nI (sg X L (sk X L i)))], fun l => jo (sg X L (sk X L i)) (d l) (x.2 l))))
  else (sk X L i, none)
def cmP (X : Tx) (L r i : Nat) : Res := match (suP X L r i).2 with
  | none => ((suP X L r i).1, none)
  | some x => cmF X L r x.1 x.2 (suP X L r i).1
def ngP (r : Res) : Res := (r.1, r.2.map fun x => (x.1 ++ [-(nI 33)], fun l => (1 : Int32) - x.2 l))
/-- a unit, a truth, a condition within which r more may nest -/
def unP (X : Tx) (L : Nat) : Nat → Nat → Res
  | 0, i => if sg X L (sk X L i) = 33 ∨ sg X L (sk X L i) = 40 then (sk X L i, none) else cmP X L 0 i
  | r + 1, i => if sg X L (sk X L i) = 33 then ngP (unP X L r (sk X L i + 1)) else if sg X L (sk X L i) = 40 then thn X L 41 (chP X L opO (chP X L opA (unP X L r)) (sk X L i + 1)) else cmP X L (r + 1) i
def trP (X : Tx) (L r : Nat) : Nat → Res := chP X L opA (unP X L r)
def coP (X : Tx) (L r : Nat) : Nat → Res := chP X L opO (trP X L r)
/-! how far they come, and how many steps they make -/
def okP (L : Nat) (P : Nat → Res) : Prop := ∀ i, i ≤ L → (P i).1 ≤ L ∧ ∀ r, (P i).2 = some r → i < (P i).1 ∧ i + r.1.length ≤ (P i).1
theorem chF_ok {X : Tx} {L : Nat} {op : Nat → Bool} {P : Nat → Res} (h0 : op 0 = false) (hP : okP L P) : ∀ n c d i, i ≤ L → (chF X L op P n c d i).1 ≤ L ∧ ∀ r, (chF X L op P n c d i).2 = some r → i ≤ (chF X L op P n c d i).1 ∧ i + r.1.length ≤ (chF X L op P n c d i).1 + c.length := by
  intro n
  induction n with
  | zero => intro c d i hi; exact ⟨hi, fun r p => by cases p⟩
  | succ n ih =>
    intro c d i hi
    have a := sk_ge X L i
    have b := sk_le (X := X) hi
    unfold chF
    cases q : op (sg X L (sk X L i)) with
    | false =>
      rw [if_neg (by decide)]
      exact ⟨b, fun r p => by cases p; exact ⟨a, by show i + c.length ≤ sk X L i + c.length; omega⟩⟩
    | true =>
      rw [if_pos rfl]
      have lt := sg_lt (X := X) (L := L) (i := sk X L i) (fun z => by rw [z, h0] at q; cases q)
      obtain ⟨p1, p2⟩ := hP (sk X L i + 1) (by omega)
      cases h : (P (sk X L i + 1)).2 with
      | none => exact ⟨p1, fun r p => by cases p⟩
      | some r =>
        obtain ⟨p3, p4⟩ := p2 r h
        obtain ⟨g1, g2⟩ := ih (c ++ r.1 ++ [-(nI (sg X L (sk X L i)))]) (fun l => jo (sg X L (sk X L i)) (d l) (r.2 l)) (P (sk X L i + 1)).1 p1
        dsimp only
        refine ⟨g1, fun s p => ?_⟩
        obtain ⟨g3, g4⟩ := g2 s p
        rw [List.length_append, List.length_append, List.length_singleton] at g4
        exact ⟨by omega, by omega⟩
theorem chP_ok {X : Tx} {L : Nat} {op : Nat → Bool} {P : Nat → Res} (h0 : op 0 = false) (hP : okP L P) : okP L (chP X L op P) := by
  intro i hi
  obtain ⟨p1, p2⟩ := hP i hi
  unfold chP
  cases h : (P i).2 with
  | none => exact ⟨p1, fun r p => by cases p⟩
  | some r =>
    obtain ⟨p3, p4⟩ := p2 r h
    obtain ⟨g1, g2⟩ := chF_ok (X := X) h0 hP 240 r.1 r.2 (P i).1 p1
    dsimp only
    refine ⟨g1, fun s p => ?_⟩
    obtain ⟨g3, g4⟩ := g2 s p
    exact ⟨by omega, by omega⟩
theorem thn_ok {X : Tx} {L c : Nat} {r : Res} (hc : c ≠ 0) (h : r.1 ≤ L) : (thn X L c r).1 ≤ L ∧ ∀ s, (thn X L c r).2 = some s → r.2 = some s ∧ r.1 < (thn X L c r).1 := by
  have a := sk_ge X L r.1
  have b := sk_le (X := X) h
  unfold thn
  cases h2 : r.2 with
  | none => exact ⟨h, fun s p => by cases p⟩
  | some x =>
    dsimp only
    by_cases q : sg X L (sk X L r.1) = c
    · have lt := sg_lt (X := X) (L := L) (i := sk X L r.1) (by omega)
      rw [if_pos q]
      exact ⟨by show sk X L r.1 + 1 ≤ L; omega, fun s p => by cases p; exact ⟨rfl, by show r.1 < sk X L r.1 + 1; omega⟩⟩
    · rw [if_neg q]
      exact ⟨b, fun s p => by cases p⟩
theorem ltI_6 {c q : Nat} (h : ltI c = some q) : q < 6 ∧ c ≠ 0 ∧ c ≠ 91 := by
  unfold ltI at h
  repeat' split at h
  all_goals first | (cases h; omega) | cases h
theorem atP_ok {X : Tx} {L : Nat} {S : Option (Nat → Res)} (hS : ∀ s, S = some s → okP L s) : okP L (atP X L S) := by
  intro i hi
  have a := sk_ge X L i
  have b := sk_le (X := X) hi
  unfold atP
  by_cases q : sg X L (sk X L i) = 91
  · rw [if_pos q]
    have lt := sg_lt (X := X) (L := L) (i := sk X L i) (by omega)
    cases S with
    | none => exact ⟨b, fun r p => by cases p⟩
    | some s =>
      obtain ⟨p1, p2⟩ := hS s rfl (sk X L i + 1) (by omega)
      obtain ⟨t1, t2⟩ := thn_ok (X := X) (c := 93) (by omega) p1
      dsimp only
      refine ⟨t1, fun r p => ?_⟩
      obtain ⟨t3, t4⟩ := t2 r p
      obtain ⟨p3, p4⟩ := p2 r t3
      exact ⟨by omega, by omega⟩
  · rw [if_neg q]
    cases h : ltI (sg X L (sk X L i)) with
    | some k =>
      have lt := sg_lt (X := X) (L := L) (i := sk X L i) (ltI_6 h).2.1
      exact ⟨by show sk X L i + 1 ≤ L; omega, fun r p => by cases p; exact ⟨by show i < sk X L i + 1; omega, by show i + 1 ≤ sk X L i + 1; omega⟩⟩
    | none =>
      obtain ⟨n1, n2, n3⟩ := nbP_le (X := X) (n := 4) (by omega) hi
      dsimp only
      refine ⟨n1, fun r p => ?_⟩
      cases hn : (nbP X L 4 i).2 with
      | none => rw [hn] at p; cases p
      | some v => rw [hn] at p; cases p; exact ⟨n3 v hn, by show i + 1 ≤ (nbP X L 4 i).1; have := n3 v hn; omega⟩
theorem suP_ok (X : Tx) (L : Nat) : ∀ r, okP L (suP X L r) := by
  intro r
  induction r with
  | zero => exact chP_ok (by decide) (chP_ok (by decide) (atP_ok fun s p => by cases p))
  | succ r ih => exact chP_ok (by decide) (chP_ok (by decide) (atP_ok fun s p => by cases p; exact ih))
theorem atS_ok (X : Tx) (L r : Nat) : okP L (atS X L r) := by
  cases r with
  | zero => exact atP_ok fun s p => by cases p
  | succ r => exact atP_ok fun s p => by cases p; exact suP_ok X L r
theorem teS_ok (X : Tx) (L r : Nat) : okP L (teS X L r) := chP_ok (by decide) (atS_ok X L r)
theorem isC_0 {c : Nat} (h : isC c = true) : c ≠ 0 ∧ (c = 61 ∨ c = 60 ∨ c = 62) := by
  unfold isC at h
  rw [Bool.or_eq_true, Bool.or_eq_true, decide_eq_true_eq, decide_eq_true_eq, decide_eq_true_eq] at h
  omega
theorem cmF_ok {X : Tx} {L r : Nat} {c : List Int32} {d : Den} {i : Nat} (hi : i ≤ L) : (cmF X L r c d i).1 ≤ L ∧ ∀ s, (cmF X L r c d i).2 = some s → i < (cmF X L r c d i).1 ∧ i + s.1.length ≤ (cmF X L r c d i).1 + c.length := by
  have a := sk_ge X L i
  have b := sk_le (X := X) hi
  unfold cmF
  cases q : isC (sg X L (sk X L i)) with
  | false => rw [if_neg (by decide)]; exact ⟨b, fun s p => by cases p⟩
  | true =>
    rw [if_pos rfl]
    have lt := sg_lt (X := X) (L := L) (i := sk X L i) (isC_0 q).1
    obtain ⟨p1, p2⟩ := suP_ok X L r (sk X L i + 1) (by omega)
    cases h : (suP X L r (sk X L i + 1)).2 with
    | none => exact ⟨p1, fun s p => by cases p⟩
    | some x =>
      obtain ⟨p3, p4⟩ := p2 x h
      refine ⟨p1, fun s p => ?_⟩
      cases p
      refine ⟨by show i < (suP X L r (sk X L i + 1)).1; omega, ?_⟩
      show i + (c ++ x.1 ++ [-(nI (sg X L (sk X L i)))]).length ≤ (suP X L r (sk X L i + 1)).1 + c.length
      rw [List.length_append, List.length_append, List.length_singleton]
      omega
theorem cmP_ok (X : Tx) (L r : Nat) : okP L (cmP X L r) := by
  intro i hi
  obtain ⟨p1, p2⟩ := suP_ok X L r i hi
  unfold cmP
  cases h : (suP X L r i).2 with
  | none => exact ⟨p1, fun s p => by cases p⟩
  | some x =>
    obtain ⟨p3, p4⟩ := p2 x h
    obtain ⟨g1, g2⟩ := cmF_ok (X := X) (r := r) (c := x.1) (d := x.2) p1
    dsimp only
    refine ⟨g1, fun s p => ?_⟩
    obtain ⟨g3, g4⟩ := g2 s p
    exact ⟨by omega, by omega⟩
theorem unP_ok (X : Tx) (L : Nat) : ∀ r, okP L (unP X L r) := by
  intro r
  induction r with
  | zero =>
    intro i hi
    have b := sk_le (X := X) hi
    unfold unP
    split
    · exact ⟨b, fun s p => by cases p⟩
    · exact cmP_ok X L 0 i hi
  | succ r ih =>
    intro i hi
    have a := sk_ge X L i
    have b := sk_le (X := X) hi
    unfold unP
    by_cases q1 : sg X L (sk X L i) = 33
    · rw [if_pos q1]
      have lt := sg_lt (X := X) (L := L) (i := sk X L i) (by omega)
      obtain ⟨p1, p2⟩ := ih (sk X L i + 1) (by omega)
      unfold ngP
      refine ⟨p1, fun s p => ?_⟩
      cases h : (unP X L r (sk X L i + 1)).2 with
      | none => rw [h] at p; cases p
      | some x =>
        rw [h] at p; cases p
        obtain ⟨p3, p4⟩ := p2 x h
        refine ⟨by show i < (unP X L r (sk X L i + 1)).1; omega, ?_⟩
        show i + (x.1 ++ [-(nI 33)]).length ≤ (unP X L r (sk X L i + 1)).1
        rw [List.length_append, List.length_singleton]
        omega
    · rw [if_neg q1]
      by_cases q2 : sg X L (sk X L i) = 40
      · rw [if_pos q2]
        have lt := sg_lt (X := X) (L := L) (i := sk X L i) (by omega)
        obtain ⟨p1, p2⟩ := chP_ok (X := X) (op := opO) (by decide) (chP_ok (X := X) (op := opA) (by decide) ih) (sk X L i + 1) (by omega)
        obtain ⟨t1, t2⟩ := thn_ok (X := X) (c := 41) (by omega) p1
        refine ⟨t1, fun s p => ?_⟩
        obtain ⟨t3, t4⟩ := t2 s p
        obtain ⟨p3, p4⟩ := p2 s t3
        exact ⟨by omega, by omega⟩
      · rw [if_neg q2]
        exact cmP_ok X L (r + 1) i hi
theorem trP_ok (X : Tx) (L r : Nat) : okP L (trP X L r) := chP_ok (by decide) (unP_ok X L r)
theorem coP_ok (X : Tx) (L r : Nat) : okP L (coP X L r) := chP_ok (by decide) (trP_ok X L r)
