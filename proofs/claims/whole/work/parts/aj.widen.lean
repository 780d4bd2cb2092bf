/-! the law: more room, its script, its end -/
section LAWR
variable {θ : Th} {p : Program} {l : Launch} {e : Env} {R : Room} {s : State} {m : MethodId} {args : Array Value} {below : List Frame} {meth : Method} {c : Code} {cc : ByteArray} {own : String} {nL cells slots pc : Nat} {Q : State → Prop} {lv : List (Nat × Value)} {st : List Value} {σ : Mem}
theorem g_widen {k n : Nat} (h1 : cells ≤ k) (h2 : slots ≤ n) (kk : G θ p l e R s m args below meth c nL k n Q pc lv st σ) : G θ p l e R s m args below meth c nL cells slots Q pc lv st σ := fun H locs ls hW hS hl => W.widen h1 h2 (kk H locs ls hW hS hl)
/-- an int of the script -/
theorem g_sld (X : Cx θ p s m args c cc nL own) {b L : Nat} {xs : Nat → Int32} {i : Int32} (hX : va_X b L xs s s.heap) (hbl : b < s.heap.size) (hbA : ¬ Aq θ b) (hi : vp_in i L) (hd : decode cc pc = .ok (.iaload, 1)) (kk : G θ p l e R s m args below meth c nL cells slots Q (pc + 1) lv (.int (xs i.toNatClampNeg) :: st) σ) : G θ p l e R s m args below meth c nL cells slots Q pc lv (.int i :: .ref b :: st) σ := fun H locs ls hW hS hl => va_sld X.1.1 X.1.2.1 hX hbl hbA hS hi hd (kk H locs ls hW hS hl)
/-- the script's length -/
theorem g_slen (X : Cx θ p s m args c cc nL own) {b L : Nat} {xs : Nat → Int32} (hX : va_X b L xs s s.heap) (hbl : b < s.heap.size) (hbA : ¬ Aq θ b) (hd : decode cc pc = .ok (.arraylength, 1)) (kk : G θ p l e R s m args below meth c nL cells slots Q (pc + 1) lv (.int (Int32.ofNat L) :: st) σ) : G θ p l e R s m args below meth c nL cells slots Q pc lv (.ref b :: st) σ := fun H locs ls hW hS hl => va_slen X.1.1 X.1.2.1 hX hbl hbA hS hd (kk H locs ls hW hS hl)
end LAWR
