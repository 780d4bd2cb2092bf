theorem byte_eq (x : Int32) {k : Nat} (h : k = 0 ∨ k = 8 ∨ k = 16 ∨ k = 24) : (x >>> (nI k &&& 31)) &&& (255 : Int32) = iush x (nI k) &&& (255 : Int32) := by
  refine Int32.toBitVec_inj.mp ?_
  rcases h with rfl | rfl | rfl | rfl
  · exact byte_bv x.toBitVec 0 (by omega)
  · exact byte_bv x.toBitVec 8 (by omega)
  · exact byte_bv x.toBitVec 16 (by omega)
  · exact byte_bv x.toBitVec 24 (by omega)
