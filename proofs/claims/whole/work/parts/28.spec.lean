/-! a city's state as a row of numbers, as the reference has it; what happens to it -/
abbrev Rw : Type := Nat → Int32
/-- things and buyers, rules, wares, folk, how much one likes by six numbers, weights, desires -/
abbrev Cy : Type := (Nat × Nat) × Rw × Rw × Rw × (Int32 → Int32 → Int32 → Int32 → Int32 → Int32 → Int32) × Rw × Rw
def cT (K : Cy) : Nat := K.1.1
def cB (K : Cy) : Nat := K.1.2
def cR (K : Cy) : Rw := K.2.1
def cW (K : Cy) : Rw := K.2.2.1
def cF (K : Cy) : Rw := K.2.2.2.1
def cL (K : Cy) : Int32 → Int32 → Int32 → Int32 → Int32 → Int32 → Int32 := K.2.2.2.2.1
def cV (K : Cy) : Rw := K.2.2.2.2.2.1
def cD (K : Cy) : Rw := K.2.2.2.2.2.2
def lkS (K : Cy) (w : Rw) (b t : Nat) : Int32 := cL K (cW K (3 * t)) (cV K t) (cD K b) (w (24 + b)) (cW K (3 * t + 2)) (w 130 - w 130 / 24 * 24)
def duS (K : Cy) (w : Rw) (b t : Nat) : Int32 := dueF (cW K (3 * t)) (w 127) (cF K (4 * b + 3))
/-- the k-th bill is struck out -/
def stS (w : Rw) (k n : Nat) : Rw := fun i => if 30 + 4 * k ≤ i ∧ i < 30 + 4 * n - 4 then w (i + 4) else if i = 126 then nI (n - 1) else w i
/-- a bill is written behind n -/
def adS (w : Rw) (n : Nat) (b t : Nat) (due : Int32) : Rw := upd (upd (upd (upd (upd w (30 + 4 * n) (nI b)) (30 + 4 * n + 1) (nI t)) (30 + 4 * n + 2) (w 130)) (30 + 4 * n + 3) due) 126 (nI (n + 1))
def mny (w : Rw) : Nat := (w 126).toNatClampNeg
def wrS (w : Rw) (b t : Nat) (due : Int32) : Rw := if mny w = 24 then adS (stS w 0 24) 23 b t due else adS w (mny w) b t due
/-- put back: the thing is free -/
def drS (w : Rw) (t : Nat) : Rw := upd (upd w t (-1)) (16 + t) 0
/-- what is due, put back -/
def bdS (K : Cy) (w : Rw) (b t : Nat) : Int32 := if ((w 128 >>> (cW K (3 * t + 2) &&& 31)) &&& (1 : Int32)) = (1 : Int32) then 0 else duS K w b t
def baS (K : Cy) (w : Rw) (b t : Nat) : Rw := if bdS K w b t = 0 then drS w t else wrS (drS w t) b t (bdS K w b t)
/-- the bill k is one of b for t, written no more than r hours ago -/
def maS (w : Rw) (b t r : Int32) (k : Nat) : Bool := decide (w (30 + 4 * k) = b) && decide (w (30 + 4 * k + 1) = t) && !decide (r < w 130 - w (30 + 4 * k + 2))
def saS (b t r : Int32) : Nat → Nat → Rw → Nat → Nat × Rw
  | 0, _, w, c => (c, w)
  | k + 1, n, w, c => if maS w b t r k = true then saS b t r k (n - 1) (stS w k n) (c + 1) else saS b t r k n w c
def bu0 (K : Cy) (w : Rw) (b t : Nat) : Rw := upd (upd (upd w (24 + b) (w (24 + b) - cW K (3 * t))) (8 + t) 1) (16 + t) 0
def buS (K : Cy) (w : Rw) (b t : Nat) : Nat × Rw := saS (nI b) (nI t) (cR K 1) (mny w) (mny w) (bu0 K w b t) 0
/-- a holder's hour -/
def hoS (K : Cy) (w : Rw) (b : Nat) : Rw :=
  if holdS w (cT K) (nI b) = -1 then w else
  if lkS K w b (holdS w (cT K) (nI b)).toNatClampNeg < cW K (3 * (holdS w (cT K) (nI b)).toNatClampNeg) ∨ w (24 + b) < cW K (3 * (holdS w (cT K) (nI b)).toNatClampNeg) then
    if w (16 + (holdS w (cT K) (nI b)).toNatClampNeg) ≤ cV K (holdS w (cT K) (nI b)).toNatClampNeg / 3 then upd w (16 + (holdS w (cT K) (nI b)).toNatClampNeg) (w (16 + (holdS w (cT K) (nI b)).toNatClampNeg) + 1)
    else baS K w b (holdS w (cT K) (nI b)).toNatClampNeg
  else (buS K w b (holdS w (cT K) (nI b)).toNatClampNeg).2
/-- what a seeker likes most, among the first n things: the thing and how much -/
def faS (K : Cy) (w : Rw) (b : Nat) : Nat → Int32 × Int32
  | 0 => (-1, 0)
  | n + 1 => if w n = -1 ∧ hasS (fun k => w (30 + k)) (nI b) (nI n) (mny w) = 0 ∧ (faS K w b n).2 < lkS K w b n then (nI n, lkS K w b n) else faS K w b n
def pkS (w : Rw) (b t : Nat) : Rw := upd (upd w t (nI b)) (16 + t) 0
def seS (K : Cy) (w : Rw) (b : Nat) : Rw :=
  if holdS w (cT K) (nI b) = -1 ∧ dueS (fun k => w (30 + k)) (nI b) (mny w) ≤ 6 * cF K (4 * b + 2) ∧ (faS K w b (cT K)).1 ≠ -1 then pkS w b (faS K w b (cT K)).1.toNatClampNeg else w
def itS (f : Rw → Nat → Rw) (w : Rw) : Nat → Rw
  | 0 => w
  | n + 1 => f (itS f w n) n
/-- a buyer pays -/
def p1S (w : Rw) (b : Nat) : Rw := upd (upd w (24 + b) (w (24 + b) - imin (w (24 + b)) (dueS (fun k => w (30 + k)) (nI b) (mny w)))) 129 (imin 9999 (w 129 + imin (w (24 + b)) (dueS (fun k => w (30 + k)) (nI b) (mny w))))
def p2S (K : Cy) (w : Rw) (b : Nat) : Rw := upd w (24 + b) (imin 999 (w (24 + b) + cR K 3))
def paS (K : Cy) (w : Rw) : Rw := itS (p2S K) (upd (itS p1S w (cB K)) 126 0) (cB K)
def h1S (K : Cy) (w : Rw) : Rw := itS (seS K) (itS (hoS K) w (cB K)) (cB K)
def h2S (K : Cy) (w : Rw) : Rw := upd (h1S K w) 130 (h1S K w 130 + 1)
/-- an hour but for the log -/
def paH (K : Cy) (w : Rw) : Rw := if h2S K w 130 - h2S K w 130 / cR K 2 * cR K 2 = 0 then paS K (h2S K w) else h2S K w
/-- what a city may be -/
def CyOk (K : Cy) : Prop := cT K ≤ 8 ∧ cB K ≤ 6 ∧ (∀ t, t < cT K → ∃ p, 1 ≤ p ∧ p < 100 ∧ cW K (3 * t) = nI p) ∧ (∀ t, t < cT K → ∃ p, p < 4 ∧ cW K (3 * t + 2) = nI p) ∧ (∀ t, t < cT K → ∃ p, p < 10 ∧ cV K t = nI p) ∧ (∀ b, b < cB K → ∃ p, p < 10 ∧ cD K b = nI p) ∧ (∃ y, 2 ≤ y ∧ y ≤ 30 ∧ cR K 2 = nI y) ∧ (∃ y, y ≤ 30 ∧ cR K 3 = nI y) ∧ (∃ y, y ≤ 9 ∧ cR K 1 = nI y) ∧ (∀ b, b < cB K → ∃ p, p < 10 ∧ cF K (4 * b + 2) = nI p) ∧ (∃ r, r ≤ 8 ∧ cR K 0 = nI r) ∧ ∀ b, b < cB K → ∃ m, m < 100 ∧ cF K (4 * b) = nI m
/-- what a row may be, its hour below N -/
def WfB (N : Nat) (w : Rw) : Prop := ∃ n, n ≤ 24 ∧ w 126 = nI n ∧ ∀ k, k < n → (∃ h, h < N ∧ w (30 + 4 * k + 2) = nI h) ∧ ∃ d, d < 100 ∧ w (30 + 4 * k + 3) = nI d
def WfO (T B : Nat) (w : Rw) : Prop := (∀ t, t < T → w t = -1 ∨ ∃ b, b < B ∧ w t = nI b) ∧ (∀ t, t < T → w (8 + t) = 0 ∨ (w (8 + t) = 1 ∧ w t ≠ -1)) ∧ (∀ t u, t < T → u < T → w t = w u → w t ≠ -1 → w (8 + t) = 0 → w (8 + u) = 0 → t = u)
def WfP (B : Nat) (w : Rw) : Prop := ∀ b, b < B → ∃ m, m < 1000 ∧ w (24 + b) = nI m
def WfR (w : Rw) : Prop := ∃ r, r ≤ 8 ∧ w 127 = nI r
def WfH (N : Nat) (w : Rw) : Prop := ∃ h, h < N ∧ w 130 = nI h
def Wf (T B N : Nat) (w : Rw) : Prop := WfB N w ∧ WfO T B w ∧ WfP B w ∧ WfR w ∧ WfH N w
