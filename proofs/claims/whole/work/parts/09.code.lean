section Z9
variable {θ : Th} {p : Program} {l : Launch} {e : Env} {s : State} {m : MethodId} {args : Array Value} {below : List Frame} {meth : Method} {c : Code}
theorem dX1_priceOf_0 : decode cX1_priceOf 0 = .ok (.aload_n 0, 1) := by decide +kernel
theorem dX1_priceOf_1 : decode cX1_priceOf 1 = .ok (.getfield 15, 3) := by decide +kernel
theorem dX1_priceOf_4 : decode cX1_priceOf 4 = .ok (.iload_n 1, 1) := by decide +kernel
theorem dX1_priceOf_5 : decode cX1_priceOf 5 = .ok (.iconst 3, 1) := by decide +kernel
theorem dX1_priceOf_6 : decode cX1_priceOf 6 = .ok (.imul, 1) := by decide +kernel
theorem dX1_priceOf_7 : decode cX1_priceOf 7 = .ok (.iaload, 1) := by decide +kernel
theorem dX1_priceOf_8 : decode cX1_priceOf 8 = .ok (.ireturn, 1) := by decide +kernel
def f_City_priceOf (σ : Mem) (x0 : Nat) (x1 : Int32) : Option (Int32) :=
  if inb (x1 * (3 : Int32)) 24 then
    some (mI σ (x0 + 2) (x1 * (3 : Int32)).toNatClampNeg)
  else none
set_option maxHeartbeats 4000000 in
set_option maxRecDepth 20000 in
theorem g_City_priceOf (X : Cx θ p s m args c cX1_priceOf 2 RX1) (hr : meth.sig.returnType = some .int) (hlk : meth.locks = false)  {σ : Mem} {x0 : Nat} {x1 : Int32} {r : Int32} (h0 : kd x0 = 2) (h : f_City_priceOf σ x0 x1 = some r) : GB θ p l e 0 s m args below meth c 2 (some (.int r), σ) 0 [(0, .ref (be θ + x0)), (1, .int x1)] [] σ := by
  unfold f_City_priceOf at h
  refine g_aload_n X dX1_priceOf_0 rfl 0 rfl ?_
  refine g_get X fl_RX1_15 dX1_priceOf_1 h0 (v := .ref (be θ + (x0 + 2))) rfl ?_
  refine g_iload_n X dX1_priceOf_4 rfl 1 rfl ?_
  refine g_iconst X dX1_priceOf_5 (v := (3 : Int32)) ic_3 ?_
  refine g_imul X dX1_priceOf_6 ?_
  obtain ⟨g1, h⟩ := ite_some h
  refine g_iald X (lk1_1 h0).1 (lk1_1 h0).2 (inb_in g1) dX1_priceOf_7 ?_
  exact g_iret X hr hlk dX1_priceOf_8 (by cases h; rfl)
set_option maxHeartbeats 4000000 in
set_option maxRecDepth 20000 in
theorem c_City_priceOf {θ : Th} {l : Launch} {σ : Mem} {x0 : Nat} {x1 : Int32} {r : Int32} (h0 : kd x0 = 2) (h : f_City_priceOf σ x0 x1 = some r) : Cn θ l yX1_priceOf cX1_priceOf 2 (some .int) 0 0 0 [.ref (be θ + x0), .int x1] σ (some (.int r), σ) :=
  Cn.of (by decide) (Nat.le_of_ble_eq_true rfl) (fun p e s m below meth c X hr hlk => g_City_priceOf X hr hlk h0 h)
theorem dX1_shopOf_0 : decode cX1_shopOf 0 = .ok (.aload_n 0, 1) := by decide +kernel
theorem dX1_shopOf_1 : decode cX1_shopOf 1 = .ok (.getfield 15, 3) := by decide +kernel
theorem dX1_shopOf_4 : decode cX1_shopOf 4 = .ok (.iload_n 1, 1) := by decide +kernel
theorem dX1_shopOf_5 : decode cX1_shopOf 5 = .ok (.iconst 3, 1) := by decide +kernel
theorem dX1_shopOf_6 : decode cX1_shopOf 6 = .ok (.imul, 1) := by decide +kernel
theorem dX1_shopOf_7 : decode cX1_shopOf 7 = .ok (.iconst 2, 1) := by decide +kernel
theorem dX1_shopOf_8 : decode cX1_shopOf 8 = .ok (.iadd, 1) := by decide +kernel
theorem dX1_shopOf_9 : decode cX1_shopOf 9 = .ok (.iaload, 1) := by decide +kernel
theorem dX1_shopOf_10 : decode cX1_shopOf 10 = .ok (.ireturn, 1) := by decide +kernel
def f_City_shopOf (σ : Mem) (x0 : Nat) (x1 : Int32) : Option (Int32) :=
  if inb ((x1 * (3 : Int32)) + (2 : Int32)) 24 then
    some (mI σ (x0 + 2) ((x1 * (3 : Int32)) + (2 : Int32)).toNatClampNeg)
  else none
set_option maxHeartbeats 4000000 in
set_option maxRecDepth 20000 in
theorem g_City_shopOf (X : Cx θ p s m args c cX1_shopOf 2 RX1) (hr : meth.sig.returnType = some .int) (hlk : meth.locks = false)  {σ : Mem} {x0 : Nat} {x1 : Int32} {r : Int32} (h0 : kd x0 = 2) (h : f_City_shopOf σ x0 x1 = some r) : GB θ p l e 0 s m args below meth c 2 (some (.int r), σ) 0 [(0, .ref (be θ + x0)), (1, .int x1)] [] σ := by
  unfold f_City_shopOf at h
  refine g_aload_n X dX1_shopOf_0 rfl 0 rfl ?_
  refine g_get X fl_RX1_15 dX1_shopOf_1 h0 (v := .ref (be θ + (x0 + 2))) rfl ?_
  refine g_iload_n X dX1_shopOf_4 rfl 1 rfl ?_
  refine g_iconst X dX1_shopOf_5 (v := (3 : Int32)) ic_3 ?_
  refine g_imul X dX1_shopOf_6 ?_
  refine g_iconst X dX1_shopOf_7 (v := (2 : Int32)) ic_2 ?_
  refine g_iadd X dX1_shopOf_8 ?_
  obtain ⟨g1, h⟩ := ite_some h
  refine g_iald X (lk1_1 h0).1 (lk1_1 h0).2 (inb_in g1) dX1_shopOf_9 ?_
  exact g_iret X hr hlk dX1_shopOf_10 (by cases h; rfl)
set_option maxHeartbeats 4000000 in
set_option maxRecDepth 20000 in
theorem c_City_shopOf {θ : Th} {l : Launch} {σ : Mem} {x0 : Nat} {x1 : Int32} {r : Int32} (h0 : kd x0 = 2) (h : f_City_shopOf σ x0 x1 = some r) : Cn θ l yX1_shopOf cX1_shopOf 2 (some .int) 0 0 0 [.ref (be θ + x0), .int x1] σ (some (.int r), σ) :=
  Cn.of (by decide) (Nat.le_of_ble_eq_true rfl) (fun p e s m below meth c X hr hlk => g_City_shopOf X hr hlk h0 h)
theorem dX5_joined_0 : decode cX5_joined 0 = .ok (.lconst 0, 1) := by decide +kernel
theorem dX5_joined_1 : decode cX5_joined 1 = .ok (.lstore 4, 2) := by decide +kernel
theorem dX5_joined_3 : decode cX5_joined 3 = .ok (.iload_n 1, 1) := by decide +kernel
theorem dX5_joined_4 : decode cX5_joined 4 = .ok (.tableswitch 217 38 62 #[208, 217, 217, 217, 136, 116, 217, 126, 217, 146, 217, 217, 217, 217, 217, 217, 217, 217, 217, 217, 217, 217, 178, 163, 193], 116) := by decide +kernel
theorem dX5_joined_120 : decode cX5_joined 120 = .ok (.iload_n 2, 1) := by decide +kernel
theorem dX5_joined_121 : decode cX5_joined 121 = .ok (.i2l, 1) := by decide +kernel
theorem dX5_joined_122 : decode cX5_joined 122 = .ok (.iload_n 3, 1) := by decide +kernel
theorem dX5_joined_123 : decode cX5_joined 123 = .ok (.i2l, 1) := by decide +kernel
theorem dX5_joined_124 : decode cX5_joined 124 = .ok (.ladd, 1) := by decide +kernel
theorem dX5_joined_125 : decode cX5_joined 125 = .ok (.lstore 4, 2) := by decide +kernel
theorem dX5_joined_127 : decode cX5_joined 127 = .ok (.goto 100, 3) := by decide +kernel
theorem dX5_joined_130 : decode cX5_joined 130 = .ok (.iload_n 2, 1) := by decide +kernel
theorem dX5_joined_131 : decode cX5_joined 131 = .ok (.i2l, 1) := by decide +kernel
theorem dX5_joined_132 : decode cX5_joined 132 = .ok (.iload_n 3, 1) := by decide +kernel
theorem dX5_joined_133 : decode cX5_joined 133 = .ok (.i2l, 1) := by decide +kernel
theorem dX5_joined_134 : decode cX5_joined 134 = .ok (.lsub, 1) := by decide +kernel
theorem dX5_joined_135 : decode cX5_joined 135 = .ok (.lstore 4, 2) := by decide +kernel
theorem dX5_joined_137 : decode cX5_joined 137 = .ok (.goto 90, 3) := by decide +kernel
theorem dX5_joined_140 : decode cX5_joined 140 = .ok (.iload_n 2, 1) := by decide +kernel
theorem dX5_joined_141 : decode cX5_joined 141 = .ok (.i2l, 1) := by decide +kernel
theorem dX5_joined_142 : decode cX5_joined 142 = .ok (.iload_n 3, 1) := by decide +kernel
theorem dX5_joined_143 : decode cX5_joined 143 = .ok (.i2l, 1) := by decide +kernel
theorem dX5_joined_144 : decode cX5_joined 144 = .ok (.lmul, 1) := by decide +kernel
theorem dX5_joined_145 : decode cX5_joined 145 = .ok (.lstore 4, 2) := by decide +kernel
theorem dX5_joined_147 : decode cX5_joined 147 = .ok (.goto 80, 3) := by decide +kernel
theorem dX5_joined_150 : decode cX5_joined 150 = .ok (.iload_n 3, 1) := by decide +kernel
theorem dX5_joined_151 : decode cX5_joined 151 = .ok (.ifCond .ne 7, 3) := by decide +kernel
theorem dX5_joined_154 : decode cX5_joined 154 = .ok (.lconst 0, 1) := by decide +kernel
theorem dX5_joined_155 : decode cX5_joined 155 = .ok (.goto 7, 3) := by decide +kernel
theorem dX5_joined_158 : decode cX5_joined 158 = .ok (.iload_n 2, 1) := by decide +kernel
theorem dX5_joined_159 : decode cX5_joined 159 = .ok (.iload_n 3, 1) := by decide +kernel
theorem dX5_joined_160 : decode cX5_joined 160 = .ok (.idiv, 1) := by decide +kernel
theorem dX5_joined_161 : decode cX5_joined 161 = .ok (.i2l, 1) := by decide +kernel
theorem dX5_joined_162 : decode cX5_joined 162 = .ok (.lstore 4, 2) := by decide +kernel
theorem dX5_joined_164 : decode cX5_joined 164 = .ok (.goto 63, 3) := by decide +kernel
theorem dX5_joined_167 : decode cX5_joined 167 = .ok (.iload_n 2, 1) := by decide +kernel
theorem dX5_joined_168 : decode cX5_joined 168 = .ok (.iload_n 3, 1) := by decide +kernel
theorem dX5_joined_169 : decode cX5_joined 169 = .ok (.if_icmp .ne 7, 3) := by decide +kernel
theorem dX5_joined_172 : decode cX5_joined 172 = .ok (.lconst 1, 1) := by decide +kernel
theorem dX5_joined_173 : decode cX5_joined 173 = .ok (.goto 4, 3) := by decide +kernel
theorem dX5_joined_176 : decode cX5_joined 176 = .ok (.lconst 0, 1) := by decide +kernel
theorem dX5_joined_177 : decode cX5_joined 177 = .ok (.lstore 4, 2) := by decide +kernel
theorem dX5_joined_179 : decode cX5_joined 179 = .ok (.goto 48, 3) := by decide +kernel
theorem dX5_joined_182 : decode cX5_joined 182 = .ok (.iload_n 2, 1) := by decide +kernel
theorem dX5_joined_183 : decode cX5_joined 183 = .ok (.iload_n 3, 1) := by decide +kernel
theorem dX5_joined_184 : decode cX5_joined 184 = .ok (.if_icmp .ge 7, 3) := by decide +kernel
theorem dX5_joined_187 : decode cX5_joined 187 = .ok (.lconst 1, 1) := by decide +kernel
theorem dX5_joined_188 : decode cX5_joined 188 = .ok (.goto 4, 3) := by decide +kernel
theorem dX5_joined_191 : decode cX5_joined 191 = .ok (.lconst 0, 1) := by decide +kernel
theorem dX5_joined_192 : decode cX5_joined 192 = .ok (.lstore 4, 2) := by decide +kernel
theorem dX5_joined_194 : decode cX5_joined 194 = .ok (.goto 33, 3) := by decide +kernel
theorem dX5_joined_197 : decode cX5_joined 197 = .ok (.iload_n 2, 1) := by decide +kernel
theorem dX5_joined_198 : decode cX5_joined 198 = .ok (.iload_n 3, 1) := by decide +kernel
theorem dX5_joined_199 : decode cX5_joined 199 = .ok (.if_icmp .le 7, 3) := by decide +kernel
theorem dX5_joined_202 : decode cX5_joined 202 = .ok (.lconst 1, 1) := by decide +kernel
theorem dX5_joined_203 : decode cX5_joined 203 = .ok (.goto 4, 3) := by decide +kernel
theorem dX5_joined_206 : decode cX5_joined 206 = .ok (.lconst 0, 1) := by decide +kernel
theorem dX5_joined_207 : decode cX5_joined 207 = .ok (.lstore 4, 2) := by decide +kernel
theorem dX5_joined_209 : decode cX5_joined 209 = .ok (.goto 18, 3) := by decide +kernel
theorem dX5_joined_212 : decode cX5_joined 212 = .ok (.iload_n 2, 1) := by decide +kernel
theorem dX5_joined_213 : decode cX5_joined 213 = .ok (.iload_n 3, 1) := by decide +kernel
theorem dX5_joined_214 : decode cX5_joined 214 = .ok (.iand, 1) := by decide +kernel
theorem dX5_joined_215 : decode cX5_joined 215 = .ok (.i2l, 1) := by decide +kernel
theorem dX5_joined_216 : decode cX5_joined 216 = .ok (.lstore 4, 2) := by decide +kernel
theorem dX5_joined_218 : decode cX5_joined 218 = .ok (.goto 9, 3) := by decide +kernel
theorem dX5_joined_221 : decode cX5_joined 221 = .ok (.iload_n 2, 1) := by decide +kernel
theorem dX5_joined_222 : decode cX5_joined 222 = .ok (.iload_n 3, 1) := by decide +kernel
theorem dX5_joined_223 : decode cX5_joined 223 = .ok (.ior, 1) := by decide +kernel
theorem dX5_joined_224 : decode cX5_joined 224 = .ok (.i2l, 1) := by decide +kernel
theorem dX5_joined_225 : decode cX5_joined 225 = .ok (.lstore 4, 2) := by decide +kernel
theorem dX5_joined_227 : decode cX5_joined 227 = .ok (.lload 4, 2) := by decide +kernel
theorem dX5_joined_229 : decode cX5_joined 229 = .ok (.ldc2_w 91, 3) := by decide +kernel
theorem dX5_joined_232 : decode cX5_joined 232 = .ok (.lcmp, 1) := by decide +kernel
theorem dX5_joined_233 : decode cX5_joined 233 = .ok (.ifCond .le 6, 3) := by decide +kernel
theorem dX5_joined_236 : decode cX5_joined 236 = .ok (.ldc 93, 2) := by decide +kernel
theorem dX5_joined_238 : decode cX5_joined 238 = .ok (.ireturn, 1) := by decide +kernel
theorem dX5_joined_239 : decode cX5_joined 239 = .ok (.lload 4, 2) := by decide +kernel
theorem dX5_joined_241 : decode cX5_joined 241 = .ok (.ldc2_w 94, 3) := by decide +kernel
theorem dX5_joined_244 : decode cX5_joined 244 = .ok (.lcmp, 1) := by decide +kernel
theorem dX5_joined_245 : decode cX5_joined 245 = .ok (.ifCond .ge 8, 3) := by decide +kernel
theorem dX5_joined_248 : decode cX5_joined 248 = .ok (.ldc 96, 2) := by decide +kernel
theorem dX5_joined_250 : decode cX5_joined 250 = .ok (.goto 6, 3) := by decide +kernel
theorem dX5_joined_253 : decode cX5_joined 253 = .ok (.lload 4, 2) := by decide +kernel
theorem dX5_joined_255 : decode cX5_joined 255 = .ok (.l2i, 1) := by decide +kernel
theorem dX5_joined_256 : decode cX5_joined 256 = .ok (.ireturn, 1) := by decide +kernel
def f_Law_joined_J227 (σ : Mem) (x0 : Nat) (x1 : Int32) (x2 : Int32) (x3 : Int32) (y4 : Int64) : Option (Int32) :=
  if (lg_cmp y4 (1000000 : Int64)) ≤ (0 : Int32) then
    if (0 : Int32) ≤ (lg_cmp y4 (-1000000 : Int64)) then
      some ((y4).toInt32)
    else
      some (-1000000 : Int32)
  else
    some (1000000 : Int32)
def f_Law_joined (σ : Mem) (x0 : Nat) (x1 : Int32) (x2 : Int32) (x3 : Int32) : Option (Int32) :=
  if x1 = (38 : Int32) then
    f_Law_joined_J227 σ x0 x1 x2 x3 (((x2 &&& x3)).toInt64)
  else
  if x1 = (42 : Int32) then
    f_Law_joined_J227 σ x0 x1 x2 x3 (((x2).toInt64) * ((x3).toInt64))
  else
  if x1 = (43 : Int32) then
    f_Law_joined_J227 σ x0 x1 x2 x3 (((x2).toInt64) + ((x3).toInt64))
  else
  if x1 = (45 : Int32) then
    f_Law_joined_J227 σ x0 x1 x2 x3 (((x2).toInt64) - ((x3).toInt64))
  else
  if x1 = (47 : Int32) then
    if x3 = (0 : Int32) then
      f_Law_joined_J227 σ x0 x1 x2 x3 (0 : Int64)
    else
      if x3 = 0 then none else
      f_Law_joined_J227 σ x0 x1 x2 x3 (((x2 / x3)).toInt64)
  else
  if x1 = (60 : Int32) then
    if x3 ≤ x2 then
      f_Law_joined_J227 σ x0 x1 x2 x3 (0 : Int64)
    else
      f_Law_joined_J227 σ x0 x1 x2 x3 (1 : Int64)
  else
  if x1 = (61 : Int32) then
    if x2 = x3 then
      f_Law_joined_J227 σ x0 x1 x2 x3 (1 : Int64)
    else
      f_Law_joined_J227 σ x0 x1 x2 x3 (0 : Int64)
  else
  if x1 = (62 : Int32) then
    if x2 ≤ x3 then
      f_Law_joined_J227 σ x0 x1 x2 x3 (0 : Int64)
    else
      f_Law_joined_J227 σ x0 x1 x2 x3 (1 : Int64)
  else
  f_Law_joined_J227 σ x0 x1 x2 x3 (((x2 ||| x3)).toInt64)
set_option maxHeartbeats 4000000 in
set_option maxRecDepth 20000 in
theorem g_Law_joined_J227 (X : Cx θ p s m args c cX5_joined 6 RX5) (hr : meth.sig.returnType = some .int) (hlk : meth.locks = false)  {σ : Mem} {x0 : Nat} {x1 : Int32} {x2 : Int32} {x3 : Int32} {y4 : Int64} {r : Int32} (h0 : kd x0 = 6) (h : f_Law_joined_J227 σ x0 x1 x2 x3 y4 = some r) : GB θ p l e 0 s m args below meth c 6 (some (.int r), σ) 227 [(0, .ref (be θ + x0)), (1, .int x1), (2, .int x2), (3, .int x3), (4, .long y4)] [] σ := by
  unfold f_Law_joined_J227 at h
  refine g_lload X dX5_joined_227 4 rfl ?_
  refine g_ldc2 X cst_RX5_91 dX5_joined_229 ?_
  refine g_lcmp X dX5_joined_232 ?_
  refine g_if_le (tgt := 239) X dX5_joined_233 (by decide) (fun c2 => ?_) (fun c2 => ?_)
  · replace h := (if_pos c2).symm.trans h
    refine g_lload X dX5_joined_239 4 rfl ?_
    refine g_ldc2 X cst_RX5_94 dX5_joined_241 ?_
    refine g_lcmp X dX5_joined_244 ?_
    refine g_if_ge (tgt := 253) X dX5_joined_245 (by decide) (fun c3 => ?_) (fun c3 => ?_)
    · replace h := (if_pos c3).symm.trans h
      refine g_lload X dX5_joined_253 4 rfl ?_
      refine g_l2i X dX5_joined_255 (v := ((y4).toInt32)) rfl ?_
      exact g_iret X hr hlk dX5_joined_256 (by cases h; rfl)
    · replace h := (if_neg c3).symm.trans h
      refine g_ldc X cst_RX5_96 dX5_joined_248 ?_
      refine g_goto (tgt := 256) X dX5_joined_250 (by decide) ?_
      exact g_iret X hr hlk dX5_joined_256 (by cases h; rfl)
  · replace h := (if_neg c2).symm.trans h
    refine g_ldc X cst_RX5_93 dX5_joined_236 ?_
    exact g_iret X hr hlk dX5_joined_238 (by cases h; rfl)
set_option maxHeartbeats 4000000 in
set_option maxRecDepth 20000 in
theorem g_Law_joined (X : Cx θ p s m args c cX5_joined 6 RX5) (hr : meth.sig.returnType = some .int) (hlk : meth.locks = false)  {σ : Mem} {x0 : Nat} {x1 : Int32} {x2 : Int32} {x3 : Int32} {r : Int32} (h0 : kd x0 = 6) (h : f_Law_joined σ x0 x1 x2 x3 = some r) : GB θ p l e 0 s m args below meth c 6 (some (.int r), σ) 0 [(0, .ref (be θ + x0)), (1, .int x1), (2, .int x2), (3, .int x3)] [] σ := by
  unfold f_Law_joined at h
  refine g_lconst X dX5_joined_0 (v := (0 : Int64)) rfl ?_
  refine g_lstore X dX5_joined_1 (by decide) (lv' := [(4, .long (0 : Int64)), (0, .ref (be θ + x0)), (1, .int x1), (2, .int x2), (3, .int x3)]) rfl ?_
  refine g_iload_n X dX5_joined_3 rfl 2 rfl ?_
  by_cases c1 : x1 = (38 : Int32)
  · replace h := (if_pos c1).symm.trans h
    refine g_tableIn (tgt := 212) (off := 208) X dX5_joined_4 (by rw [c1]; decide) (by rw [c1]; decide) (by rw [c1]; rfl) (by decide) ?_
    refine g_iload_n X dX5_joined_212 rfl 3 rfl ?_
    refine g_iload_n X dX5_joined_213 rfl 4 rfl ?_
    refine g_iand X dX5_joined_214 ?_
    refine g_i2l X dX5_joined_215 (v := (((x2 &&& x3)).toInt64)) rfl ?_
    refine g_lstore X dX5_joined_216 (by decide) (lv' := [(4, .long (((x2 &&& x3)).toInt64)), (0, .ref (be θ + x0)), (1, .int x1), (2, .int x2), (3, .int x3)]) rfl ?_
    refine g_goto (tgt := 227) X dX5_joined_218 (by decide) ?_
    exact g_sub (lv' := [(0, .ref (be θ + x0)), (1, .int x1), (2, .int x2), (3, .int x3), (4, .long (((x2 &&& x3)).toInt64))]) [1, 2, 3, 4, 0] rfl (g_Law_joined_J227 X hr hlk  h0  h)
  replace h := (if_neg c1).symm.trans h
  by_cases c4 : x1 = (42 : Int32)
  · replace h := (if_pos c4).symm.trans h
    refine g_tableIn (tgt := 140) (off := 136) X dX5_joined_4 (by rw [c4]; decide) (by rw [c4]; decide) (by rw [c4]; rfl) (by decide) ?_
    refine g_iload_n X dX5_joined_140 rfl 3 rfl ?_
    refine g_i2l X dX5_joined_141 (v := ((x2).toInt64)) rfl ?_
    refine g_iload_n X dX5_joined_142 rfl 4 rfl ?_
    refine g_i2l X dX5_joined_143 (v := ((x3).toInt64)) rfl ?_
    refine g_lmul X dX5_joined_144 ?_
    refine g_lstore X dX5_joined_145 (by decide) (lv' := [(4, .long (((x2).toInt64) * ((x3).toInt64))), (0, .ref (be θ + x0)), (1, .int x1), (2, .int x2), (3, .int x3)]) rfl ?_
    refine g_goto (tgt := 227) X dX5_joined_147 (by decide) ?_
    exact g_sub (lv' := [(0, .ref (be θ + x0)), (1, .int x1), (2, .int x2), (3, .int x3), (4, .long (((x2).toInt64) * ((x3).toInt64)))]) [1, 2, 3, 4, 0] rfl (g_Law_joined_J227 X hr hlk  h0  h)
  replace h := (if_neg c4).symm.trans h
  by_cases c5 : x1 = (43 : Int32)
  · replace h := (if_pos c5).symm.trans h
    refine g_tableIn (tgt := 120) (off := 116) X dX5_joined_4 (by rw [c5]; decide) (by rw [c5]; decide) (by rw [c5]; rfl) (by decide) ?_
    refine g_iload_n X dX5_joined_120 rfl 3 rfl ?_
    refine g_i2l X dX5_joined_121 (v := ((x2).toInt64)) rfl ?_
    refine g_iload_n X dX5_joined_122 rfl 4 rfl ?_
    refine g_i2l X dX5_joined_123 (v := ((x3).toInt64)) rfl ?_
    refine g_ladd X dX5_joined_124 ?_
    refine g_lstore X dX5_joined_125 (by decide) (lv' := [(4, .long (((x2).toInt64) + ((x3).toInt64))), (0, .ref (be θ + x0)), (1, .int x1), (2, .int x2), (3, .int x3)]) rfl ?_
    refine g_goto (tgt := 227) X dX5_joined_127 (by decide) ?_
    exact g_sub (lv' := [(0, .ref (be θ + x0)), (1, .int x1), (2, .int x2), (3, .int x3), (4, .long (((x2).toInt64) + ((x3).toInt64)))]) [1, 2, 3, 4, 0] rfl (g_Law_joined_J227 X hr hlk  h0  h)
  replace h := (if_neg c5).symm.trans h
  by_cases c6 : x1 = (45 : Int32)
  · replace h := (if_pos c6).symm.trans h
    refine g_tableIn (tgt := 130) (off := 126) X dX5_joined_4 (by rw [c6]; decide) (by rw [c6]; decide) (by rw [c6]; rfl) (by decide) ?_
    refine g_iload_n X dX5_joined_130 rfl 3 rfl ?_
    refine g_i2l X dX5_joined_131 (v := ((x2).toInt64)) rfl ?_
    refine g_iload_n X dX5_joined_132 rfl 4 rfl ?_
    refine g_i2l X dX5_joined_133 (v := ((x3).toInt64)) rfl ?_
    refine g_lsub X dX5_joined_134 ?_
    refine g_lstore X dX5_joined_135 (by decide) (lv' := [(4, .long (((x2).toInt64) - ((x3).toInt64))), (0, .ref (be θ + x0)), (1, .int x1), (2, .int x2), (3, .int x3)]) rfl ?_
    refine g_goto (tgt := 227) X dX5_joined_137 (by decide) ?_
    exact g_sub (lv' := [(0, .ref (be θ + x0)), (1, .int x1), (2, .int x2), (3, .int x3), (4, .long (((x2).toInt64) - ((x3).toInt64)))]) [1, 2, 3, 4, 0] rfl (g_Law_joined_J227 X hr hlk  h0  h)
  replace h := (if_neg c6).symm.trans h
  by_cases c7 : x1 = (47 : Int32)
  · replace h := (if_pos c7).symm.trans h
    refine g_tableIn (tgt := 150) (off := 146) X dX5_joined_4 (by rw [c7]; decide) (by rw [c7]; decide) (by rw [c7]; rfl) (by decide) ?_
    refine g_iload_n X dX5_joined_150 rfl 4 rfl ?_
    refine g_if_ne (tgt := 158) X dX5_joined_151 (by decide) (fun c8 => ?_) (fun c8 => ?_)
    · replace h := (if_neg c8).symm.trans h
      refine g_iload_n X dX5_joined_158 rfl 3 rfl ?_
      refine g_iload_n X dX5_joined_159 rfl 4 rfl ?_
      obtain ⟨g9, h⟩ := ite_none h
      refine g_idiv X dX5_joined_160 g9 ?_
      refine g_i2l X dX5_joined_161 (v := (((x2 / x3)).toInt64)) rfl ?_
      refine g_lstore X dX5_joined_162 (by decide) (lv' := [(4, .long (((x2 / x3)).toInt64)), (0, .ref (be θ + x0)), (1, .int x1), (2, .int x2), (3, .int x3)]) rfl ?_
      refine g_goto (tgt := 227) X dX5_joined_164 (by decide) ?_
      exact g_sub (lv' := [(0, .ref (be θ + x0)), (1, .int x1), (2, .int x2), (3, .int x3), (4, .long (((x2 / x3)).toInt64))]) [1, 2, 3, 4, 0] rfl (g_Law_joined_J227 X hr hlk  h0  h)
    · replace h := (if_pos c8).symm.trans h
      refine g_lconst X dX5_joined_154 (v := (0 : Int64)) rfl ?_
      refine g_goto (tgt := 162) X dX5_joined_155 (by decide) ?_
      refine g_lstore X dX5_joined_162 (by decide) (lv' := [(4, .long (0 : Int64)), (0, .ref (be θ + x0)), (1, .int x1), (2, .int x2), (3, .int x3)]) rfl ?_
      refine g_goto (tgt := 227) X dX5_joined_164 (by decide) ?_
      exact g_sub (lv' := [(0, .ref (be θ + x0)), (1, .int x1), (2, .int x2), (3, .int x3), (4, .long (0 : Int64))]) [1, 2, 3, 4, 0] rfl (g_Law_joined_J227 X hr hlk  h0  h)
  replace h := (if_neg c7).symm.trans h
  by_cases c10 : x1 = (60 : Int32)
  · replace h := (if_pos c10).symm.trans h
    refine g_tableIn (tgt := 182) (off := 178) X dX5_joined_4 (by rw [c10]; decide) (by rw [c10]; decide) (by rw [c10]; rfl) (by decide) ?_
    refine g_iload_n X dX5_joined_182 rfl 3 rfl ?_
    refine g_iload_n X dX5_joined_183 rfl 4 rfl ?_
    refine g_icmp_ge (tgt := 191) X dX5_joined_184 (by decide) (fun c11 => ?_) (fun c11 => ?_)
    · replace h := (if_pos c11).symm.trans h
      refine g_lconst X dX5_joined_191 (v := (0 : Int64)) rfl ?_
      refine g_lstore X dX5_joined_192 (by decide) (lv' := [(4, .long (0 : Int64)), (0, .ref (be θ + x0)), (1, .int x1), (2, .int x2), (3, .int x3)]) rfl ?_
      refine g_goto (tgt := 227) X dX5_joined_194 (by decide) ?_
      exact g_sub (lv' := [(0, .ref (be θ + x0)), (1, .int x1), (2, .int x2), (3, .int x3), (4, .long (0 : Int64))]) [1, 2, 3, 4, 0] rfl (g_Law_joined_J227 X hr hlk  h0  h)
    · replace h := (if_neg c11).symm.trans h
      refine g_lconst X dX5_joined_187 (v := (1 : Int64)) rfl ?_
      refine g_goto (tgt := 192) X dX5_joined_188 (by decide) ?_
      refine g_lstore X dX5_joined_192 (by decide) (lv' := [(4, .long (1 : Int64)), (0, .ref (be θ + x0)), (1, .int x1), (2, .int x2), (3, .int x3)]) rfl ?_
      refine g_goto (tgt := 227) X dX5_joined_194 (by decide) ?_
      exact g_sub (lv' := [(0, .ref (be θ + x0)), (1, .int x1), (2, .int x2), (3, .int x3), (4, .long (1 : Int64))]) [1, 2, 3, 4, 0] rfl (g_Law_joined_J227 X hr hlk  h0  h)
  replace h := (if_neg c10).symm.trans h
  by_cases c12 : x1 = (61 : Int32)
  · replace h := (if_pos c12).symm.trans h
    refine g_tableIn (tgt := 167) (off := 163) X dX5_joined_4 (by rw [c12]; decide) (by rw [c12]; decide) (by rw [c12]; rfl) (by decide) ?_
    refine g_iload_n X dX5_joined_167 rfl 3 rfl ?_
    refine g_iload_n X dX5_joined_168 rfl 4 rfl ?_
    refine g_icmp_ne (tgt := 176) X dX5_joined_169 (by decide) (fun c13 => ?_) (fun c13 => ?_)
    · replace h := (if_neg c13).symm.trans h
      refine g_lconst X dX5_joined_176 (v := (0 : Int64)) rfl ?_
      refine g_lstore X dX5_joined_177 (by decide) (lv' := [(4, .long (0 : Int64)), (0, .ref (be θ + x0)), (1, .int x1), (2, .int x2), (3, .int x3)]) rfl ?_
      refine g_goto (tgt := 227) X dX5_joined_179 (by decide) ?_
      exact g_sub (lv' := [(0, .ref (be θ + x0)), (1, .int x1), (2, .int x2), (3, .int x3), (4, .long (0 : Int64))]) [1, 2, 3, 4, 0] rfl (g_Law_joined_J227 X hr hlk  h0  h)
    · replace h := (if_pos c13).symm.trans h
      refine g_lconst X dX5_joined_172 (v := (1 : Int64)) rfl ?_
      refine g_goto (tgt := 177) X dX5_joined_173 (by decide) ?_
      refine g_lstore X dX5_joined_177 (by decide) (lv' := [(4, .long (1 : Int64)), (0, .ref (be θ + x0)), (1, .int x1), (2, .int x2), (3, .int x3)]) rfl ?_
      refine g_goto (tgt := 227) X dX5_joined_179 (by decide) ?_
      exact g_sub (lv' := [(0, .ref (be θ + x0)), (1, .int x1), (2, .int x2), (3, .int x3), (4, .long (1 : Int64))]) [1, 2, 3, 4, 0] rfl (g_Law_joined_J227 X hr hlk  h0  h)
  replace h := (if_neg c12).symm.trans h
  by_cases c14 : x1 = (62 : Int32)
  · replace h := (if_pos c14).symm.trans h
    refine g_tableIn (tgt := 197) (off := 193) X dX5_joined_4 (by rw [c14]; decide) (by rw [c14]; decide) (by rw [c14]; rfl) (by decide) ?_
    refine g_iload_n X dX5_joined_197 rfl 3 rfl ?_
    refine g_iload_n X dX5_joined_198 rfl 4 rfl ?_
    refine g_icmp_le (tgt := 206) X dX5_joined_199 (by decide) (fun c15 => ?_) (fun c15 => ?_)
    · replace h := (if_pos c15).symm.trans h
      refine g_lconst X dX5_joined_206 (v := (0 : Int64)) rfl ?_
      refine g_lstore X dX5_joined_207 (by decide) (lv' := [(4, .long (0 : Int64)), (0, .ref (be θ + x0)), (1, .int x1), (2, .int x2), (3, .int x3)]) rfl ?_
      refine g_goto (tgt := 227) X dX5_joined_209 (by decide) ?_
      exact g_sub (lv' := [(0, .ref (be θ + x0)), (1, .int x1), (2, .int x2), (3, .int x3), (4, .long (0 : Int64))]) [1, 2, 3, 4, 0] rfl (g_Law_joined_J227 X hr hlk  h0  h)
    · replace h := (if_neg c15).symm.trans h
      refine g_lconst X dX5_joined_202 (v := (1 : Int64)) rfl ?_
      refine g_goto (tgt := 207) X dX5_joined_203 (by decide) ?_
      refine g_lstore X dX5_joined_207 (by decide) (lv' := [(4, .long (1 : Int64)), (0, .ref (be θ + x0)), (1, .int x1), (2, .int x2), (3, .int x3)]) rfl ?_
      refine g_goto (tgt := 227) X dX5_joined_209 (by decide) ?_
      exact g_sub (lv' := [(0, .ref (be θ + x0)), (1, .int x1), (2, .int x2), (3, .int x3), (4, .long (1 : Int64))]) [1, 2, 3, 4, 0] rfl (g_Law_joined_J227 X hr hlk  h0  h)
  replace h := (if_neg c14).symm.trans h
  have nc1 := neT c1
  have nc4 := neT c4
  have nc5 := neT c5
  have nc6 := neT c6
  have nc7 := neT c7
  have nc10 := neT c10
  have nc12 := neT c12
  have nc14 := neT c14
  rw [show (38 : Int32).toInt = 38 from rfl] at nc1
  rw [show (42 : Int32).toInt = 42 from rfl] at nc4
  rw [show (43 : Int32).toInt = 43 from rfl] at nc5
  rw [show (45 : Int32).toInt = 45 from rfl] at nc6
  rw [show (47 : Int32).toInt = 47 from rfl] at nc7
  rw [show (60 : Int32).toInt = 60 from rfl] at nc10
  rw [show (61 : Int32).toInt = 61 from rfl] at nc12
  rw [show (62 : Int32).toInt = 62 from rfl] at nc14
  have w16 : (x1.toInt < 38 ∨ 62 < x1.toInt) ∨ (x1.toInt = 39 ∨ x1.toInt = 40 ∨ x1.toInt = 41 ∨ x1.toInt = 44 ∨ x1.toInt = 46 ∨ x1.toInt = 48 ∨ x1.toInt = 49 ∨ x1.toInt = 50 ∨ x1.toInt = 51 ∨ x1.toInt = 52 ∨ x1.toInt = 53 ∨ x1.toInt = 54 ∨ x1.toInt = 55 ∨ x1.toInt = 56 ∨ x1.toInt = 57 ∨ x1.toInt = 58 ∨ x1.toInt = 59) := by omega
  refine g_tableD (tgt := 221) X dX5_joined_4 (by
    rcases w16 with w16 | w16
    · exact Or.inl w16
    · refine Or.inr ?_
      rcases w16 with w16 | w16 | w16 | w16 | w16 | w16 | w16 | w16 | w16 | w16 | w16 | w16 | w16 | w16 | w16 | w16 | w16 <;> rw [w16] <;> rfl) (by decide) ?_
  refine g_iload_n X dX5_joined_221 rfl 3 rfl ?_
  refine g_iload_n X dX5_joined_222 rfl 4 rfl ?_
  refine g_ior X dX5_joined_223 ?_
  refine g_i2l X dX5_joined_224 (v := (((x2 ||| x3)).toInt64)) rfl ?_
  refine g_lstore X dX5_joined_225 (by decide) (lv' := [(4, .long (((x2 ||| x3)).toInt64)), (0, .ref (be θ + x0)), (1, .int x1), (2, .int x2), (3, .int x3)]) rfl ?_
  exact g_sub (lv' := [(0, .ref (be θ + x0)), (1, .int x1), (2, .int x2), (3, .int x3), (4, .long (((x2 ||| x3)).toInt64))]) [1, 2, 3, 4, 0] rfl (g_Law_joined_J227 X hr hlk  h0  h)
set_option maxHeartbeats 4000000 in
set_option maxRecDepth 20000 in
theorem c_Law_joined {θ : Th} {l : Launch} {σ : Mem} {x0 : Nat} {x1 : Int32} {x2 : Int32} {x3 : Int32} {r : Int32} (h0 : kd x0 = 6) (h : f_Law_joined σ x0 x1 x2 x3 = some r) : Cn θ l yX5_joined cX5_joined 6 (some .int) 0 0 0 [.ref (be θ + x0), .int x1, .int x2, .int x3] σ (some (.int r), σ) :=
  Cn.of (by decide) (Nat.le_of_ble_eq_true rfl) (fun p e s m below meth c X hr hlk => g_Law_joined X hr hlk h0 h)
theorem dX5_worth_0 : decode cX5_worth 0 = .ok (.iconst 0, 1) := by decide +kernel
theorem dX5_worth_1 : decode cX5_worth 1 = .ok (.istore_n 2, 1) := by decide +kernel
theorem dX5_worth_2 : decode cX5_worth 2 = .ok (.iconst 0, 1) := by decide +kernel
theorem dX5_worth_3 : decode cX5_worth 3 = .ok (.istore_n 3, 1) := by decide +kernel
theorem dX5_worth_4 : decode cX5_worth 4 = .ok (.iconst 0, 1) := by decide +kernel
theorem dX5_worth_5 : decode cX5_worth 5 = .ok (.istore 4, 2) := by decide +kernel
theorem dX5_worth_7 : decode cX5_worth 7 = .ok (.iload 4, 2) := by decide +kernel
theorem dX5_worth_9 : decode cX5_worth 9 = .ok (.aload_n 0, 1) := by decide +kernel
theorem dX5_worth_10 : decode cX5_worth 10 = .ok (.getfield 18, 3) := by decide +kernel
theorem dX5_worth_13 : decode cX5_worth 13 = .ok (.if_icmp .ge 214, 3) := by decide +kernel
theorem dX5_worth_16 : decode cX5_worth 16 = .ok (.iload 4, 2) := by decide +kernel
theorem dX5_worth_18 : decode cX5_worth 18 = .ok (.iload_n 3, 1) := by decide +kernel
theorem dX5_worth_19 : decode cX5_worth 19 = .ok (.if_icmp .ge 6, 3) := by decide +kernel
theorem dX5_worth_22 : decode cX5_worth 22 = .ok (.goto 199, 3) := by decide +kernel
theorem dX5_worth_25 : decode cX5_worth 25 = .ok (.aload_n 0, 1) := by decide +kernel
theorem dX5_worth_26 : decode cX5_worth 26 = .ok (.getfield 9, 3) := by decide +kernel
theorem dX5_worth_29 : decode cX5_worth 29 = .ok (.iload 4, 2) := by decide +kernel
theorem dX5_worth_31 : decode cX5_worth 31 = .ok (.iaload, 1) := by decide +kernel
theorem dX5_worth_32 : decode cX5_worth 32 = .ok (.istore 5, 2) := by decide +kernel
theorem dX5_worth_34 : decode cX5_worth 34 = .ok (.iload 5, 2) := by decide +kernel
theorem dX5_worth_36 : decode cX5_worth 36 = .ok (.getstatic 77, 3) := by decide +kernel
theorem dX5_worth_39 : decode cX5_worth 39 = .ok (.arraylength, 1) := by decide +kernel
theorem dX5_worth_40 : decode cX5_worth 40 = .ok (.ineg, 1) := by decide +kernel
theorem dX5_worth_41 : decode cX5_worth 41 = .ok (.if_icmp .lt 42, 3) := by decide +kernel
theorem dX5_worth_44 : decode cX5_worth 44 = .ok (.iload_n 2, 1) := by decide +kernel
theorem dX5_worth_45 : decode cX5_worth 45 = .ok (.aload_n 0, 1) := by decide +kernel
theorem dX5_worth_46 : decode cX5_worth 46 = .ok (.getfield 15, 3) := by decide +kernel
theorem dX5_worth_49 : decode cX5_worth 49 = .ok (.arraylength, 1) := by decide +kernel
theorem dX5_worth_50 : decode cX5_worth 50 = .ok (.if_icmp .lt 5, 3) := by decide +kernel
theorem dX5_worth_53 : decode cX5_worth 53 = .ok (.iconst 0, 1) := by decide +kernel
theorem dX5_worth_54 : decode cX5_worth 54 = .ok (.ireturn, 1) := by decide +kernel
theorem dX5_worth_55 : decode cX5_worth 55 = .ok (.aload_n 0, 1) := by decide +kernel
theorem dX5_worth_56 : decode cX5_worth 56 = .ok (.getfield 15, 3) := by decide +kernel
theorem dX5_worth_59 : decode cX5_worth 59 = .ok (.iload_n 2, 1) := by decide +kernel
theorem dX5_worth_60 : decode cX5_worth 60 = .ok (.iload 5, 2) := by decide +kernel
theorem dX5_worth_62 : decode cX5_worth 62 = .ok (.ifCond .lt 8, 3) := by decide +kernel
theorem dX5_worth_65 : decode cX5_worth 65 = .ok (.iload 5, 2) := by decide +kernel
theorem dX5_worth_67 : decode cX5_worth 67 = .ok (.goto 9, 3) := by decide +kernel
theorem dX5_worth_70 : decode cX5_worth 70 = .ok (.aload_n 1, 1) := by decide +kernel
theorem dX5_worth_71 : decode cX5_worth 71 = .ok (.iconst (-1), 1) := by decide +kernel
theorem dX5_worth_72 : decode cX5_worth 72 = .ok (.iload 5, 2) := by decide +kernel
theorem dX5_worth_74 : decode cX5_worth 74 = .ok (.isub, 1) := by decide +kernel
theorem dX5_worth_75 : decode cX5_worth 75 = .ok (.iaload, 1) := by decide +kernel
theorem dX5_worth_76 : decode cX5_worth 76 = .ok (.iastore, 1) := by decide +kernel
theorem dX5_worth_77 : decode cX5_worth 77 = .ok (.iinc 2 1, 3) := by decide +kernel
theorem dX5_worth_80 : decode cX5_worth 80 = .ok (.goto 141, 3) := by decide +kernel
theorem dX5_worth_83 : decode cX5_worth 83 = .ok (.iload_n 2, 1) := by decide +kernel
theorem dX5_worth_84 : decode cX5_worth 84 = .ok (.iconst 1, 1) := by decide +kernel
theorem dX5_worth_85 : decode cX5_worth 85 = .ok (.if_icmp .ge 5, 3) := by decide +kernel
theorem dX5_worth_88 : decode cX5_worth 88 = .ok (.iconst 0, 1) := by decide +kernel
theorem dX5_worth_89 : decode cX5_worth 89 = .ok (.ireturn, 1) := by decide +kernel
theorem dX5_worth_90 : decode cX5_worth 90 = .ok (.iload 5, 2) := by decide +kernel
theorem dX5_worth_92 : decode cX5_worth 92 = .ok (.bipush (-59), 2) := by decide +kernel
theorem dX5_worth_94 : decode cX5_worth 94 = .ok (.if_icmp .ne 12, 3) := by decide +kernel
theorem dX5_worth_97 : decode cX5_worth 97 = .ok (.aload_n 0, 1) := by decide +kernel
theorem dX5_worth_98 : decode cX5_worth 98 = .ok (.getfield 15, 3) := by decide +kernel
theorem dX5_worth_101 : decode cX5_worth 101 = .ok (.iload_n 2, 1) := by decide +kernel
theorem dX5_worth_102 : decode cX5_worth 102 = .ok (.iconst 1, 1) := by decide +kernel
theorem dX5_worth_103 : decode cX5_worth 103 = .ok (.isub, 1) := by decide +kernel
theorem dX5_worth_104 : decode cX5_worth 104 = .ok (.iaload, 1) := by decide +kernel
theorem dX5_worth_105 : decode cX5_worth 105 = .ok (.ireturn, 1) := by decide +kernel
theorem dX5_worth_106 : decode cX5_worth 106 = .ok (.iload 5, 2) := by decide +kernel
theorem dX5_worth_108 : decode cX5_worth 108 = .ok (.bipush (-63), 2) := by decide +kernel
theorem dX5_worth_110 : decode cX5_worth 110 = .ok (.if_icmp .ne 46, 3) := by decide +kernel
theorem dX5_worth_113 : decode cX5_worth 113 = .ok (.iinc 2 (-1), 3) := by decide +kernel
theorem dX5_worth_116 : decode cX5_worth 116 = .ok (.aload_n 0, 1) := by decide +kernel
theorem dX5_worth_117 : decode cX5_worth 117 = .ok (.getfield 15, 3) := by decide +kernel
theorem dX5_worth_120 : decode cX5_worth 120 = .ok (.iload_n 2, 1) := by decide +kernel
theorem dX5_worth_121 : decode cX5_worth 121 = .ok (.iaload, 1) := by decide +kernel
theorem dX5_worth_122 : decode cX5_worth 122 = .ok (.ifCond .ne 26, 3) := by decide +kernel
theorem dX5_worth_125 : decode cX5_worth 125 = .ok (.iload 4, 2) := by decide +kernel
theorem dX5_worth_127 : decode cX5_worth 127 = .ok (.iconst 1, 1) := by decide +kernel
theorem dX5_worth_128 : decode cX5_worth 128 = .ok (.iadd, 1) := by decide +kernel
theorem dX5_worth_129 : decode cX5_worth 129 = .ok (.aload_n 0, 1) := by decide +kernel
theorem dX5_worth_130 : decode cX5_worth 130 = .ok (.getfield 18, 3) := by decide +kernel
theorem dX5_worth_133 : decode cX5_worth 133 = .ok (.if_icmp .ge 15, 3) := by decide +kernel
theorem dX5_worth_136 : decode cX5_worth 136 = .ok (.aload_n 0, 1) := by decide +kernel
theorem dX5_worth_137 : decode cX5_worth 137 = .ok (.getfield 9, 3) := by decide +kernel
theorem dX5_worth_140 : decode cX5_worth 140 = .ok (.iload 4, 2) := by decide +kernel
theorem dX5_worth_142 : decode cX5_worth 142 = .ok (.iconst 1, 1) := by decide +kernel
theorem dX5_worth_143 : decode cX5_worth 143 = .ok (.iadd, 1) := by decide +kernel
theorem dX5_worth_144 : decode cX5_worth 144 = .ok (.iaload, 1) := by decide +kernel
theorem dX5_worth_145 : decode cX5_worth 145 = .ok (.goto 7, 3) := by decide +kernel
theorem dX5_worth_148 : decode cX5_worth 148 = .ok (.iload 4, 2) := by decide +kernel
theorem dX5_worth_150 : decode cX5_worth 150 = .ok (.iconst 2, 1) := by decide +kernel
theorem dX5_worth_151 : decode cX5_worth 151 = .ok (.iadd, 1) := by decide +kernel
theorem dX5_worth_152 : decode cX5_worth 152 = .ok (.istore_n 3, 1) := by decide +kernel
theorem dX5_worth_153 : decode cX5_worth 153 = .ok (.goto 68, 3) := by decide +kernel
theorem dX5_worth_156 : decode cX5_worth 156 = .ok (.iload 5, 2) := by decide +kernel
theorem dX5_worth_158 : decode cX5_worth 158 = .ok (.bipush (-33), 2) := by decide +kernel
theorem dX5_worth_160 : decode cX5_worth 160 = .ok (.if_icmp .ne 24, 3) := by decide +kernel
theorem dX5_worth_163 : decode cX5_worth 163 = .ok (.aload_n 0, 1) := by decide +kernel
theorem dX5_worth_164 : decode cX5_worth 164 = .ok (.getfield 15, 3) := by decide +kernel
theorem dX5_worth_167 : decode cX5_worth 167 = .ok (.iload_n 2, 1) := by decide +kernel
theorem dX5_worth_168 : decode cX5_worth 168 = .ok (.iconst 1, 1) := by decide +kernel
theorem dX5_worth_169 : decode cX5_worth 169 = .ok (.isub, 1) := by decide +kernel
theorem dX5_worth_170 : decode cX5_worth 170 = .ok (.iconst 1, 1) := by decide +kernel
theorem dX5_worth_171 : decode cX5_worth 171 = .ok (.aload_n 0, 1) := by decide +kernel
theorem dX5_worth_172 : decode cX5_worth 172 = .ok (.getfield 15, 3) := by decide +kernel
theorem dX5_worth_175 : decode cX5_worth 175 = .ok (.iload_n 2, 1) := by decide +kernel
theorem dX5_worth_176 : decode cX5_worth 176 = .ok (.iconst 1, 1) := by decide +kernel
theorem dX5_worth_177 : decode cX5_worth 177 = .ok (.isub, 1) := by decide +kernel
theorem dX5_worth_178 : decode cX5_worth 178 = .ok (.iaload, 1) := by decide +kernel
theorem dX5_worth_179 : decode cX5_worth 179 = .ok (.isub, 1) := by decide +kernel
theorem dX5_worth_180 : decode cX5_worth 180 = .ok (.iastore, 1) := by decide +kernel
theorem dX5_worth_181 : decode cX5_worth 181 = .ok (.goto 40, 3) := by decide +kernel
theorem dX5_worth_184 : decode cX5_worth 184 = .ok (.iload_n 2, 1) := by decide +kernel
theorem dX5_worth_185 : decode cX5_worth 185 = .ok (.iconst 2, 1) := by decide +kernel
theorem dX5_worth_186 : decode cX5_worth 186 = .ok (.if_icmp .lt 35, 3) := by decide +kernel
theorem dX5_worth_189 : decode cX5_worth 189 = .ok (.iinc 2 (-1), 3) := by decide +kernel
theorem dX5_worth_192 : decode cX5_worth 192 = .ok (.aload_n 0, 1) := by decide +kernel
theorem dX5_worth_193 : decode cX5_worth 193 = .ok (.getfield 15, 3) := by decide +kernel
theorem dX5_worth_196 : decode cX5_worth 196 = .ok (.iload_n 2, 1) := by decide +kernel
theorem dX5_worth_197 : decode cX5_worth 197 = .ok (.iconst 1, 1) := by decide +kernel
theorem dX5_worth_198 : decode cX5_worth 198 = .ok (.isub, 1) := by decide +kernel
theorem dX5_worth_199 : decode cX5_worth 199 = .ok (.aload_n 0, 1) := by decide +kernel
theorem dX5_worth_200 : decode cX5_worth 200 = .ok (.iload 5, 2) := by decide +kernel
theorem dX5_worth_202 : decode cX5_worth 202 = .ok (.ineg, 1) := by decide +kernel
theorem dX5_worth_203 : decode cX5_worth 203 = .ok (.aload_n 0, 1) := by decide +kernel
theorem dX5_worth_204 : decode cX5_worth 204 = .ok (.getfield 15, 3) := by decide +kernel
theorem dX5_worth_207 : decode cX5_worth 207 = .ok (.iload_n 2, 1) := by decide +kernel
theorem dX5_worth_208 : decode cX5_worth 208 = .ok (.iconst 1, 1) := by decide +kernel
theorem dX5_worth_209 : decode cX5_worth 209 = .ok (.isub, 1) := by decide +kernel
theorem dX5_worth_210 : decode cX5_worth 210 = .ok (.iaload, 1) := by decide +kernel
theorem dX5_worth_211 : decode cX5_worth 211 = .ok (.aload_n 0, 1) := by decide +kernel
theorem dX5_worth_212 : decode cX5_worth 212 = .ok (.getfield 15, 3) := by decide +kernel
theorem dX5_worth_215 : decode cX5_worth 215 = .ok (.iload_n 2, 1) := by decide +kernel
theorem dX5_worth_216 : decode cX5_worth 216 = .ok (.iaload, 1) := by decide +kernel
theorem dX5_worth_217 : decode cX5_worth 217 = .ok (.invokevirtual 87, 3) := by decide +kernel
theorem dX5_worth_220 : decode cX5_worth 220 = .ok (.iastore, 1) := by decide +kernel
theorem dX5_worth_221 : decode cX5_worth 221 = .ok (.iinc 4 1, 3) := by decide +kernel
theorem dX5_worth_224 : decode cX5_worth 224 = .ok (.goto (-217), 3) := by decide +kernel
theorem dX5_worth_227 : decode cX5_worth 227 = .ok (.iconst 0, 1) := by decide +kernel
theorem dX5_worth_228 : decode cX5_worth 228 = .ok (.ireturn, 1) := by decide +kernel
def f_Law_worth_L7 (x0 : Nat) (x1 : Nat) (a : Mem × Int32 × Int32 × Int32) : Option ((Mem × Int32 × Int32 × Int32) ⊕ (Int32 × Mem)) :=
  @Prod.casesOn (Mem) (Int32 × Int32 × Int32) (fun _ => Option ((Mem × Int32 × Int32 × Int32) ⊕ (Int32 × Mem))) a fun τ b0 =>
  @Prod.casesOn (Int32) (Int32 × Int32) (fun _ => Option ((Mem × Int32 × Int32 × Int32) ⊕ (Int32 × Mem))) b0 fun z2 b1 =>
  @Prod.casesOn (Int32) (Int32) (fun _ => Option ((Mem × Int32 × Int32 × Int32) ⊕ (Int32 × Mem))) b1 fun z3 z4 =>
  if (mI τ x0 2) ≤ z4 then
    some (.inr ((0 : Int32), τ))
  else
    if z3 ≤ z4 then
      if inb z4 240 then
        if (mI τ (x0 + 1) z4.toNatClampNeg) < (-(Int32.ofNat 6)) then
          if (1 : Int32) ≤ z2 then
            if (mI τ (x0 + 1) z4.toNatClampNeg) = (-59 : Int32) then
              if inb (z2 - (1 : Int32)) 32 then
                some (.inr ((mI τ (x0 + 2) (z2 - (1 : Int32)).toNatClampNeg), τ))
              else none
            else
              if (mI τ (x0 + 1) z4.toNatClampNeg) = (-63 : Int32) then
                if inb (z2 + (-1 : Int32)) 32 then
                  if (mI τ (x0 + 2) (z2 + (-1 : Int32)).toNatClampNeg) = (0 : Int32) then
                    if (mI τ x0 2) ≤ (z4 + (1 : Int32)) then
                      some (.inl (τ, (z2 + (-1 : Int32)), (z4 + (2 : Int32)), (z4 + (1 : Int32))))
                    else
                      if inb (z4 + (1 : Int32)) 240 then
                        some (.inl (τ, (z2 + (-1 : Int32)), (mI τ (x0 + 1) (z4 + (1 : Int32)).toNatClampNeg), (z4 + (1 : Int32))))
                      else none
                  else
                    some (.inl (τ, (z2 + (-1 : Int32)), (z4 + (2 : Int32)), (z4 + (1 : Int32))))
                else none
              else
                if (mI τ (x0 + 1) z4.toNatClampNeg) = (-33 : Int32) then
                  if inb (z2 - (1 : Int32)) 32 then
                    some (.inl ((sI τ (x0 + 2) (z2 - (1 : Int32)).toNatClampNeg ((1 : Int32) - (mI τ (x0 + 2) (z2 - (1 : Int32)).toNatClampNeg))), z2, z3, (z4 + (1 : Int32))))
                  else none
                else
                  if z2 < (2 : Int32) then
                    some (.inl (τ, z2, z3, (z4 + (1 : Int32))))
                  else
                    if inb ((z2 + (-1 : Int32)) - (1 : Int32)) 32 then
                      if inb (z2 + (-1 : Int32)) 32 then
                        (f_Law_joined τ x0 (-(mI τ (x0 + 1) z4.toNatClampNeg)) (mI τ (x0 + 2) ((z2 + (-1 : Int32)) - (1 : Int32)).toNatClampNeg) (mI τ (x0 + 2) (z2 + (-1 : Int32)).toNatClampNeg)).bind fun q12 =>
                        some (.inl ((sI τ (x0 + 2) ((z2 + (-1 : Int32)) - (1 : Int32)).toNatClampNeg q12), (z2 + (-1 : Int32)), z3, (z4 + (1 : Int32))))
                      else none
                    else none
          else
            some (.inr ((0 : Int32), τ))
        else
          if z2 < (Int32.ofNat 32) then
            if (mI τ (x0 + 1) z4.toNatClampNeg) < (0 : Int32) then
              if inb ((-1 : Int32) - (mI τ (x0 + 1) z4.toNatClampNeg)) (ln x1) then
                if inb z2 32 then
                  some (.inl ((sI τ (x0 + 2) z2.toNatClampNeg (mI τ x1 ((-1 : Int32) - (mI τ (x0 + 1) z4.toNatClampNeg)).toNatClampNeg)), (z2 + (1 : Int32)), z3, (z4 + (1 : Int32))))
                else none
              else none
            else
              if inb z2 32 then
                some (.inl ((sI τ (x0 + 2) z2.toNatClampNeg (mI τ (x0 + 1) z4.toNatClampNeg)), (z2 + (1 : Int32)), z3, (z4 + (1 : Int32))))
              else none
          else
            some (.inr ((0 : Int32), τ))
      else none
    else
      some (.inl (τ, z2, z3, (z4 + (1 : Int32))))
def f_Law_worth (σ : Mem) (x0 : Nat) (x1 : Nat) : Option (Int32 × Mem) :=
  loopF (f_Law_worth_L7 x0 x1) FU (σ, (0 : Int32), (0 : Int32), (0 : Int32))
set_option maxHeartbeats 4000000 in
set_option maxRecDepth 20000 in
theorem gs_Law_worth_L7 (X : Cx θ p s m args c cX5_worth 6 RX5) (hr : meth.sig.returnType = some .int) (hlk : meth.locks = false)  {x0 : Nat} {x1 : Nat} {r : Int32 × Mem} (h0 : kd x0 = 6) (h1 : kd x1 = 13) (τ : Mem) (z2 : Int32) (z3 : Int32) (z4 : Int32) (x : (Mem × Int32 × Int32 × Int32) ⊕ (Int32 × Mem)) (h : f_Law_worth_L7 x0 x1 (τ, z2, z3, z4) = some x) (hk : Sum.elim (fun a => @Prod.casesOn (Mem) (Int32 × Int32 × Int32) (fun _ => Prop) a fun τ b0 => @Prod.casesOn (Int32) (Int32 × Int32) (fun _ => Prop) b0 fun z2 b1 => @Prod.casesOn (Int32) (Int32) (fun _ => Prop) b1 fun z3 z4 => GB θ p l e 1 s m args below meth c 6 (some (.int r.1), r.2) 7 [(0, .ref (be θ + x0)), (1, .ref (be θ + x1)), (2, .int z2), (3, .int z3), (4, .int z4)] [] τ) (fun b => b = r) x) : GB θ p l e 1 s m args below meth c 6 (some (.int r.1), r.2) 7 [(0, .ref (be θ + x0)), (1, .ref (be θ + x1)), (2, .int z2), (3, .int z3), (4, .int z4)] [] τ := by
  unfold f_Law_worth_L7 at h
  dsimp only at h
  refine g_iload X dX5_worth_7 4 rfl ?_
  refine g_aload_n X dX5_worth_9 rfl 0 rfl ?_
  refine g_get X fl_RX5_18 dX5_worth_10 h0 (v := .int (mI τ x0 2)) rfl ?_
  refine g_icmp_ge (tgt := 227) X dX5_worth_13 (by decide) (fun c1 => ?_) (fun c1 => ?_)
  · replace h := (if_pos c1).symm.trans h
    refine g_iconst X dX5_worth_227 (v := (0 : Int32)) ic_0 ?_
    have hk := inr_hk h hk
    have hk : ((0 : Int32), τ) = r := hk
    subst hk
    exact g_iret X hr hlk dX5_worth_228 rfl
  · replace h := (if_neg c1).symm.trans h
    refine g_iload X dX5_worth_16 4 rfl ?_
    refine g_iload_n X dX5_worth_18 rfl 3 rfl ?_
    refine g_icmp_ge (tgt := 25) X dX5_worth_19 (by decide) (fun c2 => ?_) (fun c2 => ?_)
    · replace h := (if_pos c2).symm.trans h
      refine g_aload_n X dX5_worth_25 rfl 0 rfl ?_
      refine g_get X fl_RX5_9 dX5_worth_26 h0 (v := .ref (be θ + (x0 + 1))) rfl ?_
      refine g_iload X dX5_worth_29 4 rfl ?_
      obtain ⟨g3, h⟩ := ite_some h
      refine g_iald X (lk5_0 h0).1 (lk5_0 h0).2 (inb_in g3) dX5_worth_31 ?_
      refine g_istore X dX5_worth_32 (by decide) (lv' := [(5, .int (mI τ (x0 + 1) z4.toNatClampNeg)), (0, .ref (be θ + x0)), (1, .ref (be θ + x1)), (2, .int z2), (3, .int z3), (4, .int z4)]) rfl ?_
      refine g_iload X dX5_worth_34 0 rfl ?_
      refine g_gets X X.2.2.1.1.2.1 fs_RX5_77 dX5_worth_36 ?_
      refine g_tlen X X.2.2.1.1.2.2.1 (v := Int32.ofNat 6) rfl dX5_worth_39 ?_
      refine g_ineg X dX5_worth_40 ?_
      refine g_icmp_lt (tgt := 83) X dX5_worth_41 (by decide) (fun c4 => ?_) (fun c4 => ?_)
      · replace h := (if_pos c4).symm.trans h
        refine g_iload_n X dX5_worth_83 rfl 3 rfl ?_
        refine g_iconst X dX5_worth_84 (v := (1 : Int32)) ic_1 ?_
        refine g_icmp_ge (tgt := 90) X dX5_worth_85 (by decide) (fun c5 => ?_) (fun c5 => ?_)
        · replace h := (if_pos c5).symm.trans h
          refine g_iload X dX5_worth_90 0 rfl ?_
          refine g_bipush X dX5_worth_92 (v := (-59 : Int32)) bp_m59 ?_
          refine g_icmp_ne (tgt := 106) X dX5_worth_94 (by decide) (fun c6 => ?_) (fun c6 => ?_)
          · replace h := (if_neg c6).symm.trans h
            refine g_iload X dX5_worth_106 0 rfl ?_
            refine g_bipush X dX5_worth_108 (v := (-63 : Int32)) bp_m63 ?_
            refine g_icmp_ne (tgt := 156) X dX5_worth_110 (by decide) (fun c7 => ?_) (fun c7 => ?_)
            · replace h := (if_neg c7).symm.trans h
              refine g_iload X dX5_worth_156 0 rfl ?_
              refine g_bipush X dX5_worth_158 (v := (-33 : Int32)) bp_m33 ?_
              refine g_icmp_ne (tgt := 184) X dX5_worth_160 (by decide) (fun c8 => ?_) (fun c8 => ?_)
              · replace h := (if_neg c8).symm.trans h
                refine g_iload_n X dX5_worth_184 rfl 3 rfl ?_
                refine g_iconst X dX5_worth_185 (v := (2 : Int32)) ic_2 ?_
                refine g_icmp_lt (tgt := 221) X dX5_worth_186 (by decide) (fun c9 => ?_) (fun c9 => ?_)
                · replace h := (if_pos c9).symm.trans h
                  refine g_iinc X dX5_worth_221 (kq := 5) rfl (congrArg (HAdd.hAdd _) ic_1) (by decide) (lv' := [(4, .int (z4 + (1 : Int32))), (5, .int (mI τ (x0 + 1) z4.toNatClampNeg)), (0, .ref (be θ + x0)), (1, .ref (be θ + x1)), (2, .int z2), (3, .int z3)]) rfl ?_
                  refine g_goto (tgt := 7) X dX5_worth_224 (by decide) ?_
                  have hk := inl_hk h hk
                  exact g_sub (lv' := [(0, .ref (be θ + x0)), (1, .ref (be θ + x1)), (2, .int z2), (3, .int z3), (4, .int (z4 + (1 : Int32)))]) [2, 3, 4, 5, 0] rfl hk
                · replace h := (if_neg c9).symm.trans h
                  refine g_iinc X dX5_worth_189 (kq := 3) rfl (congrArg (HAdd.hAdd _) ic_m1) (by decide) (lv' := [(2, .int (z2 + (-1 : Int32))), (5, .int (mI τ (x0 + 1) z4.toNatClampNeg)), (0, .ref (be θ + x0)), (1, .ref (be θ + x1)), (3, .int z3), (4, .int z4)]) rfl ?_
                  refine g_aload_n X dX5_worth_192 rfl 2 rfl ?_
                  refine g_get X fl_RX5_15 dX5_worth_193 h0 (v := .ref (be θ + (x0 + 2))) rfl ?_
                  refine g_iload_n X dX5_worth_196 rfl 0 rfl ?_
                  refine g_iconst X dX5_worth_197 (v := (1 : Int32)) ic_1 ?_
                  refine g_isub X dX5_worth_198 ?_
                  refine g_aload_n X dX5_worth_199 rfl 2 rfl ?_
                  refine g_iload X dX5_worth_200 1 rfl ?_
                  refine g_ineg X dX5_worth_202 ?_
                  refine g_aload_n X dX5_worth_203 rfl 2 rfl ?_
                  refine g_get X fl_RX5_15 dX5_worth_204 h0 (v := .ref (be θ + (x0 + 2))) rfl ?_
                  refine g_iload_n X dX5_worth_207 rfl 0 rfl ?_
                  refine g_iconst X dX5_worth_208 (v := (1 : Int32)) ic_1 ?_
                  refine g_isub X dX5_worth_209 ?_
                  obtain ⟨g10, h⟩ := ite_some h
                  refine g_iald X (lk5_1 h0).1 (lk5_1 h0).2 (inb_in g10) dX5_worth_210 ?_
                  refine g_aload_n X dX5_worth_211 rfl 2 rfl ?_
                  refine g_get X fl_RX5_15 dX5_worth_212 h0 (v := .ref (be θ + (x0 + 2))) rfl ?_
                  refine g_iload_n X dX5_worth_215 rfl 0 rfl ?_
                  obtain ⟨g11, h⟩ := ite_some h
                  refine g_iald X (lk5_1 h0).1 (lk5_1 h0).2 (inb_in g11) dX5_worth_216 ?_
                  obtain ⟨q12, hq12, h⟩ := Option.bind_eq_some_iff.mp h
                  refine g_cV X (c_Law_joined h0 hq12) lk_RX5_87 my_X5_joined (a := x0) (ci := 5) h0 (by decide) rfl (As := [.int (-(mI τ (x0 + 1) z4.toNatClampNeg)), .int (mI τ (x0 + 2) ((z2 + (-1 : Int32)) - (1 : Int32)).toNatClampNeg), .int (mI τ (x0 + 2) (z2 + (-1 : Int32)).toNatClampNeg)]) (rest := [.int ((z2 + (-1 : Int32)) - (1 : Int32)), .ref (be θ + (x0 + 2))]) rfl rfl (Nat.le_of_ble_eq_true rfl) ⟨(Nat.le_of_ble_eq_true rfl), (Nat.le_of_ble_eq_true rfl)⟩ ⟨(Nat.le_of_ble_eq_true rfl), (Nat.le_of_ble_eq_true rfl)⟩ dX5_worth_217 (st' := [.int q12, .int ((z2 + (-1 : Int32)) - (1 : Int32)), .ref (be θ + (x0 + 2))]) (σ' := τ) rfl rfl ?_
                  refine g_iast X (lk5_1 h0).1 (lk5_1 h0).2 (inb_in g10) dX5_worth_220 ?_
                  refine g_iinc X dX5_worth_221 (kq := 5) rfl (congrArg (HAdd.hAdd _) ic_1) (by decide) (lv' := [(4, .int (z4 + (1 : Int32))), (2, .int (z2 + (-1 : Int32))), (5, .int (mI τ (x0 + 1) z4.toNatClampNeg)), (0, .ref (be θ + x0)), (1, .ref (be θ + x1)), (3, .int z3)]) rfl ?_
                  refine g_goto (tgt := 7) X dX5_worth_224 (by decide) ?_
                  have hk := inl_hk h hk
                  exact g_sub (lv' := [(0, .ref (be θ + x0)), (1, .ref (be θ + x1)), (2, .int (z2 + (-1 : Int32))), (3, .int z3), (4, .int (z4 + (1 : Int32)))]) [3, 4, 1, 5, 0] rfl hk
              · replace h := (if_pos c8).symm.trans h
                refine g_aload_n X dX5_worth_163 rfl 1 rfl ?_
                refine g_get X fl_RX5_15 dX5_worth_164 h0 (v := .ref (be θ + (x0 + 2))) rfl ?_
                refine g_iload_n X dX5_worth_167 rfl 3 rfl ?_
                refine g_iconst X dX5_worth_168 (v := (1 : Int32)) ic_1 ?_
                refine g_isub X dX5_worth_169 ?_
                refine g_iconst X dX5_worth_170 (v := (1 : Int32)) ic_1 ?_
                refine g_aload_n X dX5_worth_171 rfl 1 rfl ?_
                refine g_get X fl_RX5_15 dX5_worth_172 h0 (v := .ref (be θ + (x0 + 2))) rfl ?_
                refine g_iload_n X dX5_worth_175 rfl 3 rfl ?_
                refine g_iconst X dX5_worth_176 (v := (1 : Int32)) ic_1 ?_
                refine g_isub X dX5_worth_177 ?_
                obtain ⟨g13, h⟩ := ite_some h
                refine g_iald X (lk5_1 h0).1 (lk5_1 h0).2 (inb_in g13) dX5_worth_178 ?_
                refine g_isub X dX5_worth_179 ?_
                refine g_iast X (lk5_1 h0).1 (lk5_1 h0).2 (inb_in g13) dX5_worth_180 ?_
                refine g_goto (tgt := 221) X dX5_worth_181 (by decide) ?_
                refine g_iinc X dX5_worth_221 (kq := 5) rfl (congrArg (HAdd.hAdd _) ic_1) (by decide) (lv' := [(4, .int (z4 + (1 : Int32))), (5, .int (mI τ (x0 + 1) z4.toNatClampNeg)), (0, .ref (be θ + x0)), (1, .ref (be θ + x1)), (2, .int z2), (3, .int z3)]) rfl ?_
                refine g_goto (tgt := 7) X dX5_worth_224 (by decide) ?_
                have hk := inl_hk h hk
                exact g_sub (lv' := [(0, .ref (be θ + x0)), (1, .ref (be θ + x1)), (2, .int z2), (3, .int z3), (4, .int (z4 + (1 : Int32)))]) [2, 3, 4, 5, 0] rfl hk
            · replace h := (if_pos c7).symm.trans h
              refine g_iinc X dX5_worth_113 (kq := 3) rfl (congrArg (HAdd.hAdd _) ic_m1) (by decide) (lv' := [(2, .int (z2 + (-1 : Int32))), (5, .int (mI τ (x0 + 1) z4.toNatClampNeg)), (0, .ref (be θ + x0)), (1, .ref (be θ + x1)), (3, .int z3), (4, .int z4)]) rfl ?_
              refine g_aload_n X dX5_worth_116 rfl 2 rfl ?_
              refine g_get X fl_RX5_15 dX5_worth_117 h0 (v := .ref (be θ + (x0 + 2))) rfl ?_
              refine g_iload_n X dX5_worth_120 rfl 0 rfl ?_
              obtain ⟨g14, h⟩ := ite_some h
              refine g_iald X (lk5_1 h0).1 (lk5_1 h0).2 (inb_in g14) dX5_worth_121 ?_
              refine g_if_ne (tgt := 148) X dX5_worth_122 (by decide) (fun c15 => ?_) (fun c15 => ?_)
              · replace h := (if_neg c15).symm.trans h
                refine g_iload X dX5_worth_148 5 rfl ?_
                refine g_iconst X dX5_worth_150 (v := (2 : Int32)) ic_2 ?_
                refine g_iadd X dX5_worth_151 ?_
                refine g_istore_n X dX5_worth_152 rfl (by decide) (lv' := [(3, .int (z4 + (2 : Int32))), (2, .int (z2 + (-1 : Int32))), (5, .int (mI τ (x0 + 1) z4.toNatClampNeg)), (0, .ref (be θ + x0)), (1, .ref (be θ + x1)), (4, .int z4)]) rfl ?_
                refine g_goto (tgt := 221) X dX5_worth_153 (by decide) ?_
                refine g_iinc X dX5_worth_221 (kq := 5) rfl (congrArg (HAdd.hAdd _) ic_1) (by decide) (lv' := [(4, .int (z4 + (1 : Int32))), (3, .int (z4 + (2 : Int32))), (2, .int (z2 + (-1 : Int32))), (5, .int (mI τ (x0 + 1) z4.toNatClampNeg)), (0, .ref (be θ + x0)), (1, .ref (be θ + x1))]) rfl ?_
                refine g_goto (tgt := 7) X dX5_worth_224 (by decide) ?_
                have hk := inl_hk h hk
                exact g_sub (lv' := [(0, .ref (be θ + x0)), (1, .ref (be θ + x1)), (2, .int (z2 + (-1 : Int32))), (3, .int (z4 + (2 : Int32))), (4, .int (z4 + (1 : Int32)))]) [4, 5, 2, 1, 0] rfl hk
              · replace h := (if_pos c15).symm.trans h
                refine g_iload X dX5_worth_125 5 rfl ?_
                refine g_iconst X dX5_worth_127 (v := (1 : Int32)) ic_1 ?_
                refine g_iadd X dX5_worth_128 ?_
                refine g_aload_n X dX5_worth_129 rfl 2 rfl ?_
                refine g_get X fl_RX5_18 dX5_worth_130 h0 (v := .int (mI τ x0 2)) rfl ?_
                refine g_icmp_ge (tgt := 148) X dX5_worth_133 (by decide) (fun c16 => ?_) (fun c16 => ?_)
                · replace h := (if_pos c16).symm.trans h
                  refine g_iload X dX5_worth_148 5 rfl ?_
                  refine g_iconst X dX5_worth_150 (v := (2 : Int32)) ic_2 ?_
                  refine g_iadd X dX5_worth_151 ?_
                  refine g_istore_n X dX5_worth_152 rfl (by decide) (lv' := [(3, .int (z4 + (2 : Int32))), (2, .int (z2 + (-1 : Int32))), (5, .int (mI τ (x0 + 1) z4.toNatClampNeg)), (0, .ref (be θ + x0)), (1, .ref (be θ + x1)), (4, .int z4)]) rfl ?_
                  refine g_goto (tgt := 221) X dX5_worth_153 (by decide) ?_
                  refine g_iinc X dX5_worth_221 (kq := 5) rfl (congrArg (HAdd.hAdd _) ic_1) (by decide) (lv' := [(4, .int (z4 + (1 : Int32))), (3, .int (z4 + (2 : Int32))), (2, .int (z2 + (-1 : Int32))), (5, .int (mI τ (x0 + 1) z4.toNatClampNeg)), (0, .ref (be θ + x0)), (1, .ref (be θ + x1))]) rfl ?_
                  refine g_goto (tgt := 7) X dX5_worth_224 (by decide) ?_
                  have hk := inl_hk h hk
                  exact g_sub (lv' := [(0, .ref (be θ + x0)), (1, .ref (be θ + x1)), (2, .int (z2 + (-1 : Int32))), (3, .int (z4 + (2 : Int32))), (4, .int (z4 + (1 : Int32)))]) [4, 5, 2, 1, 0] rfl hk
                · replace h := (if_neg c16).symm.trans h
                  refine g_aload_n X dX5_worth_136 rfl 2 rfl ?_
                  refine g_get X fl_RX5_9 dX5_worth_137 h0 (v := .ref (be θ + (x0 + 1))) rfl ?_
                  refine g_iload X dX5_worth_140 5 rfl ?_
                  refine g_iconst X dX5_worth_142 (v := (1 : Int32)) ic_1 ?_
                  refine g_iadd X dX5_worth_143 ?_
                  obtain ⟨g17, h⟩ := ite_some h
                  refine g_iald X (lk5_0 h0).1 (lk5_0 h0).2 (inb_in g17) dX5_worth_144 ?_
                  refine g_goto (tgt := 152) X dX5_worth_145 (by decide) ?_
                  refine g_istore_n X dX5_worth_152 rfl (by decide) (lv' := [(3, .int (mI τ (x0 + 1) (z4 + (1 : Int32)).toNatClampNeg)), (2, .int (z2 + (-1 : Int32))), (5, .int (mI τ (x0 + 1) z4.toNatClampNeg)), (0, .ref (be θ + x0)), (1, .ref (be θ + x1)), (4, .int z4)]) rfl ?_
                  refine g_goto (tgt := 221) X dX5_worth_153 (by decide) ?_
                  refine g_iinc X dX5_worth_221 (kq := 5) rfl (congrArg (HAdd.hAdd _) ic_1) (by decide) (lv' := [(4, .int (z4 + (1 : Int32))), (3, .int (mI τ (x0 + 1) (z4 + (1 : Int32)).toNatClampNeg)), (2, .int (z2 + (-1 : Int32))), (5, .int (mI τ (x0 + 1) z4.toNatClampNeg)), (0, .ref (be θ + x0)), (1, .ref (be θ + x1))]) rfl ?_
                  refine g_goto (tgt := 7) X dX5_worth_224 (by decide) ?_
                  have hk := inl_hk h hk
                  exact g_sub (lv' := [(0, .ref (be θ + x0)), (1, .ref (be θ + x1)), (2, .int (z2 + (-1 : Int32))), (3, .int (mI τ (x0 + 1) (z4 + (1 : Int32)).toNatClampNeg)), (4, .int (z4 + (1 : Int32)))]) [4, 5, 2, 1, 0] rfl hk
          · replace h := (if_pos c6).symm.trans h
            refine g_aload_n X dX5_worth_97 rfl 1 rfl ?_
            refine g_get X fl_RX5_15 dX5_worth_98 h0 (v := .ref (be θ + (x0 + 2))) rfl ?_
            refine g_iload_n X dX5_worth_101 rfl 3 rfl ?_
            refine g_iconst X dX5_worth_102 (v := (1 : Int32)) ic_1 ?_
            refine g_isub X dX5_worth_103 ?_
            obtain ⟨g18, h⟩ := ite_some h
            refine g_iald X (lk5_1 h0).1 (lk5_1 h0).2 (inb_in g18) dX5_worth_104 ?_
            have hk := inr_hk h hk
            have hk : ((mI τ (x0 + 2) (z2 - (1 : Int32)).toNatClampNeg), τ) = r := hk
            subst hk
            exact g_iret X hr hlk dX5_worth_105 rfl
        · replace h := (if_neg c5).symm.trans h
          refine g_iconst X dX5_worth_88 (v := (0 : Int32)) ic_0 ?_
          have hk := inr_hk h hk
          have hk : ((0 : Int32), τ) = r := hk
          subst hk
          exact g_iret X hr hlk dX5_worth_89 rfl
      · replace h := (if_neg c4).symm.trans h
        refine g_iload_n X dX5_worth_44 rfl 3 rfl ?_
        refine g_aload_n X dX5_worth_45 rfl 1 rfl ?_
        refine g_get X fl_RX5_15 dX5_worth_46 h0 (v := .ref (be θ + (x0 + 2))) rfl ?_
        refine g_alen X (lk5_1 h0).1 (by decide) (lk5_1 h0).2 (v := (Int32.ofNat 32)) rfl dX5_worth_49 ?_
        refine g_icmp_lt (tgt := 55) X dX5_worth_50 (by decide) (fun c19 => ?_) (fun c19 => ?_)
        · replace h := (if_pos c19).symm.trans h
          refine g_aload_n X dX5_worth_55 rfl 1 rfl ?_
          refine g_get X fl_RX5_15 dX5_worth_56 h0 (v := .ref (be θ + (x0 + 2))) rfl ?_
          refine g_iload_n X dX5_worth_59 rfl 3 rfl ?_
          refine g_iload X dX5_worth_60 0 rfl ?_
          refine g_if_lt (tgt := 70) X dX5_worth_62 (by decide) (fun c20 => ?_) (fun c20 => ?_)
          · replace h := (if_pos c20).symm.trans h
            refine g_aload_n X dX5_worth_70 rfl 2 rfl ?_
            refine g_iconst X dX5_worth_71 (v := (-1 : Int32)) ic_m1 ?_
            refine g_iload X dX5_worth_72 0 rfl ?_
            refine g_isub X dX5_worth_74 ?_
            obtain ⟨g21, h⟩ := ite_some h
            refine g_iald X h1 rfl (inb_in g21) dX5_worth_75 ?_
            obtain ⟨g22, h⟩ := ite_some h
            refine g_iast X (lk5_1 h0).1 (lk5_1 h0).2 (inb_in g22) dX5_worth_76 ?_
            refine g_iinc X dX5_worth_77 (kq := 3) rfl (congrArg (HAdd.hAdd _) ic_1) (by decide) (lv' := [(2, .int (z2 + (1 : Int32))), (5, .int (mI τ (x0 + 1) z4.toNatClampNeg)), (0, .ref (be θ + x0)), (1, .ref (be θ + x1)), (3, .int z3), (4, .int z4)]) rfl ?_
            refine g_goto (tgt := 221) X dX5_worth_80 (by decide) ?_
            refine g_iinc X dX5_worth_221 (kq := 5) rfl (congrArg (HAdd.hAdd _) ic_1) (by decide) (lv' := [(4, .int (z4 + (1 : Int32))), (2, .int (z2 + (1 : Int32))), (5, .int (mI τ (x0 + 1) z4.toNatClampNeg)), (0, .ref (be θ + x0)), (1, .ref (be θ + x1)), (3, .int z3)]) rfl ?_
            refine g_goto (tgt := 7) X dX5_worth_224 (by decide) ?_
            have hk := inl_hk h hk
            exact g_sub (lv' := [(0, .ref (be θ + x0)), (1, .ref (be θ + x1)), (2, .int (z2 + (1 : Int32))), (3, .int z3), (4, .int (z4 + (1 : Int32)))]) [3, 4, 1, 5, 0] rfl hk
          · replace h := (if_neg c20).symm.trans h
            refine g_iload X dX5_worth_65 0 rfl ?_
            refine g_goto (tgt := 76) X dX5_worth_67 (by decide) ?_
            obtain ⟨g23, h⟩ := ite_some h
            refine g_iast X (lk5_1 h0).1 (lk5_1 h0).2 (inb_in g23) dX5_worth_76 ?_
            refine g_iinc X dX5_worth_77 (kq := 3) rfl (congrArg (HAdd.hAdd _) ic_1) (by decide) (lv' := [(2, .int (z2 + (1 : Int32))), (5, .int (mI τ (x0 + 1) z4.toNatClampNeg)), (0, .ref (be θ + x0)), (1, .ref (be θ + x1)), (3, .int z3), (4, .int z4)]) rfl ?_
            refine g_goto (tgt := 221) X dX5_worth_80 (by decide) ?_
            refine g_iinc X dX5_worth_221 (kq := 5) rfl (congrArg (HAdd.hAdd _) ic_1) (by decide) (lv' := [(4, .int (z4 + (1 : Int32))), (2, .int (z2 + (1 : Int32))), (5, .int (mI τ (x0 + 1) z4.toNatClampNeg)), (0, .ref (be θ + x0)), (1, .ref (be θ + x1)), (3, .int z3)]) rfl ?_
            refine g_goto (tgt := 7) X dX5_worth_224 (by decide) ?_
            have hk := inl_hk h hk
            exact g_sub (lv' := [(0, .ref (be θ + x0)), (1, .ref (be θ + x1)), (2, .int (z2 + (1 : Int32))), (3, .int z3), (4, .int (z4 + (1 : Int32)))]) [3, 4, 1, 5, 0] rfl hk
        · replace h := (if_neg c19).symm.trans h
          refine g_iconst X dX5_worth_53 (v := (0 : Int32)) ic_0 ?_
          have hk := inr_hk h hk
          have hk : ((0 : Int32), τ) = r := hk
          subst hk
          exact g_iret X hr hlk dX5_worth_54 rfl
    · replace h := (if_neg c2).symm.trans h
      refine g_goto (tgt := 221) X dX5_worth_22 (by decide) ?_
      refine g_iinc X dX5_worth_221 (kq := 4) rfl (congrArg (HAdd.hAdd _) ic_1) (by decide) (lv' := [(4, .int (z4 + (1 : Int32))), (0, .ref (be θ + x0)), (1, .ref (be θ + x1)), (2, .int z2), (3, .int z3)]) rfl ?_
      refine g_goto (tgt := 7) X dX5_worth_224 (by decide) ?_
      have hk := inl_hk h hk
      exact g_sub (lv' := [(0, .ref (be θ + x0)), (1, .ref (be θ + x1)), (2, .int z2), (3, .int z3), (4, .int (z4 + (1 : Int32)))]) [1, 2, 3, 4, 0] rfl hk
set_option maxHeartbeats 4000000 in
set_option maxRecDepth 20000 in
theorem gl_Law_worth_L7 (X : Cx θ p s m args c cX5_worth 6 RX5) (hr : meth.sig.returnType = some .int) (hlk : meth.locks = false)  {x0 : Nat} {x1 : Nat} {r : Int32 × Mem} (h0 : kd x0 = 6) (h1 : kd x1 = 13) (n : Nat) (a : Mem × Int32 × Int32 × Int32) (b : Int32 × Mem) (h : loopF (f_Law_worth_L7 x0 x1) n a = some b) (hk : (fun b => b = r) b) : (fun a => @Prod.casesOn (Mem) (Int32 × Int32 × Int32) (fun _ => Prop) a fun τ b0 => @Prod.casesOn (Int32) (Int32 × Int32) (fun _ => Prop) b0 fun z2 b1 => @Prod.casesOn (Int32) (Int32) (fun _ => Prop) b1 fun z3 z4 => GB θ p l e 1 s m args below meth c 6 (some (.int r.1), r.2) 7 [(0, .ref (be θ + x0)), (1, .ref (be θ + x1)), (2, .int z2), (3, .int z3), (4, .int z4)] [] τ) a :=
  loopF_by (P := (fun a => @Prod.casesOn (Mem) (Int32 × Int32 × Int32) (fun _ => Prop) a fun τ b0 => @Prod.casesOn (Int32) (Int32 × Int32) (fun _ => Prop) b0 fun z2 b1 => @Prod.casesOn (Int32) (Int32) (fun _ => Prop) b1 fun z3 z4 => GB θ p l e 1 s m args below meth c 6 (some (.int r.1), r.2) 7 [(0, .ref (be θ + x0)), (1, .ref (be θ + x1)), (2, .int z2), (3, .int z3), (4, .int z4)] [] τ)) (K := (fun b => b = r)) (fun a x h hk => by obtain ⟨τ, z2, z3, z4⟩ := a; exact gs_Law_worth_L7 X hr hlk  h0 h1 τ z2 z3 z4 x h hk) n a b h hk
set_option maxHeartbeats 4000000 in
set_option maxRecDepth 20000 in
theorem g_Law_worth (X : Cx θ p s m args c cX5_worth 6 RX5) (hr : meth.sig.returnType = some .int) (hlk : meth.locks = false)  {σ : Mem} {x0 : Nat} {x1 : Nat} {r : Int32 × Mem} (h0 : kd x0 = 6) (h1 : kd x1 = 13) (h : f_Law_worth σ x0 x1 = some r) : GB θ p l e 1 s m args below meth c 6 (some (.int r.1), r.2) 0 [(0, .ref (be θ + x0)), (1, .ref (be θ + x1))] [] σ := by
  unfold f_Law_worth at h
  refine g_iconst X dX5_worth_0 (v := (0 : Int32)) ic_0 ?_
  refine g_istore_n X dX5_worth_1 rfl (by decide) (lv' := [(2, .int (0 : Int32)), (0, .ref (be θ + x0)), (1, .ref (be θ + x1))]) rfl ?_
  refine g_iconst X dX5_worth_2 (v := (0 : Int32)) ic_0 ?_
  refine g_istore_n X dX5_worth_3 rfl (by decide) (lv' := [(3, .int (0 : Int32)), (2, .int (0 : Int32)), (0, .ref (be θ + x0)), (1, .ref (be θ + x1))]) rfl ?_
  refine g_iconst X dX5_worth_4 (v := (0 : Int32)) ic_0 ?_
  refine g_istore X dX5_worth_5 (by decide) (lv' := [(4, .int (0 : Int32)), (3, .int (0 : Int32)), (2, .int (0 : Int32)), (0, .ref (be θ + x0)), (1, .ref (be θ + x1))]) rfl ?_
  exact g_sub (lv' := [(0, .ref (be θ + x0)), (1, .ref (be θ + x1)), (2, .int (0 : Int32)), (3, .int (0 : Int32)), (4, .int (0 : Int32))]) [3, 4, 2, 1, 0] rfl (gl_Law_worth_L7 X hr hlk  h0 h1  FU _ _ h rfl)
set_option maxHeartbeats 4000000 in
set_option maxRecDepth 20000 in
theorem c_Law_worth {θ : Th} {l : Launch} {σ : Mem} {x0 : Nat} {x1 : Nat} {r : Int32 × Mem} (h0 : kd x0 = 6) (h1 : kd x1 = 13) (h : f_Law_worth σ x0 x1 = some r) : Cn θ l yX5_worth cX5_worth 6 (some .int) 1 0 0 [.ref (be θ + x0), .ref (be θ + x1)] σ (some (.int r.1), r.2) :=
  Cn.of (by decide) (Nat.le_of_ble_eq_true rfl) (fun p e s m below meth c X hr hlk => g_Law_worth X hr hlk h0 h1 h)
theorem dX9_liked_0 : decode cX9_liked 0 = .ok (.iconst 4, 1) := by decide +kernel
theorem dX9_liked_1 : decode cX9_liked 1 = .ok (.aload_n 1, 1) := by decide +kernel
theorem dX9_liked_2 : decode cX9_liked 2 = .ok (.getfield 39, 3) := by decide +kernel
theorem dX9_liked_5 : decode cX9_liked 5 = .ok (.iload_n 2, 1) := by decide +kernel
theorem dX9_liked_6 : decode cX9_liked 6 = .ok (.iaload, 1) := by decide +kernel
theorem dX9_liked_7 : decode cX9_liked 7 = .ok (.imul, 1) := by decide +kernel
theorem dX9_liked_8 : decode cX9_liked 8 = .ok (.aload_n 1, 1) := by decide +kernel
theorem dX9_liked_9 : decode cX9_liked 9 = .ok (.getfield 44, 3) := by decide +kernel
theorem dX9_liked_12 : decode cX9_liked 12 = .ok (.iload_n 3, 1) := by decide +kernel
theorem dX9_liked_13 : decode cX9_liked 13 = .ok (.iaload, 1) := by decide +kernel
theorem dX9_liked_14 : decode cX9_liked 14 = .ok (.iadd, 1) := by decide +kernel
theorem dX9_liked_15 : decode cX9_liked 15 = .ok (.istore 4, 2) := by decide +kernel
theorem dX9_liked_17 : decode cX9_liked 17 = .ok (.aload_n 0, 1) := by decide +kernel
theorem dX9_liked_18 : decode cX9_liked 18 = .ok (.getfield 28, 3) := by decide +kernel
theorem dX9_liked_21 : decode cX9_liked 21 = .ok (.ifnull 93, 3) := by decide +kernel
theorem dX9_liked_24 : decode cX9_liked 24 = .ok (.aload_n 0, 1) := by decide +kernel
theorem dX9_liked_25 : decode cX9_liked 25 = .ok (.getfield 15, 3) := by decide +kernel
theorem dX9_liked_28 : decode cX9_liked 28 = .ok (.iconst 0, 1) := by decide +kernel
theorem dX9_liked_29 : decode cX9_liked 29 = .ok (.aload_n 0, 1) := by decide +kernel
theorem dX9_liked_30 : decode cX9_liked 30 = .ok (.getfield 24, 3) := by decide +kernel
theorem dX9_liked_33 : decode cX9_liked 33 = .ok (.iload_n 3, 1) := by decide +kernel
theorem dX9_liked_34 : decode cX9_liked 34 = .ok (.invokevirtual 47, 3) := by decide +kernel
theorem dX9_liked_37 : decode cX9_liked 37 = .ok (.iastore, 1) := by decide +kernel
theorem dX9_liked_38 : decode cX9_liked 38 = .ok (.aload_n 0, 1) := by decide +kernel
theorem dX9_liked_39 : decode cX9_liked 39 = .ok (.getfield 15, 3) := by decide +kernel
theorem dX9_liked_42 : decode cX9_liked 42 = .ok (.iconst 1, 1) := by decide +kernel
theorem dX9_liked_43 : decode cX9_liked 43 = .ok (.aload_n 1, 1) := by decide +kernel
theorem dX9_liked_44 : decode cX9_liked 44 = .ok (.getfield 44, 3) := by decide +kernel
theorem dX9_liked_47 : decode cX9_liked 47 = .ok (.iload_n 3, 1) := by decide +kernel
theorem dX9_liked_48 : decode cX9_liked 48 = .ok (.iaload, 1) := by decide +kernel
theorem dX9_liked_49 : decode cX9_liked 49 = .ok (.iastore, 1) := by decide +kernel
theorem dX9_liked_50 : decode cX9_liked 50 = .ok (.aload_n 0, 1) := by decide +kernel
theorem dX9_liked_51 : decode cX9_liked 51 = .ok (.getfield 15, 3) := by decide +kernel
theorem dX9_liked_54 : decode cX9_liked 54 = .ok (.iconst 2, 1) := by decide +kernel
theorem dX9_liked_55 : decode cX9_liked 55 = .ok (.aload_n 1, 1) := by decide +kernel
theorem dX9_liked_56 : decode cX9_liked 56 = .ok (.getfield 39, 3) := by decide +kernel
theorem dX9_liked_59 : decode cX9_liked 59 = .ok (.iload_n 2, 1) := by decide +kernel
theorem dX9_liked_60 : decode cX9_liked 60 = .ok (.iaload, 1) := by decide +kernel
theorem dX9_liked_61 : decode cX9_liked 61 = .ok (.iastore, 1) := by decide +kernel
theorem dX9_liked_62 : decode cX9_liked 62 = .ok (.aload_n 0, 1) := by decide +kernel
theorem dX9_liked_63 : decode cX9_liked 63 = .ok (.getfield 15, 3) := by decide +kernel
theorem dX9_liked_66 : decode cX9_liked 66 = .ok (.iconst 3, 1) := by decide +kernel
theorem dX9_liked_67 : decode cX9_liked 67 = .ok (.aload_n 1, 1) := by decide +kernel
theorem dX9_liked_68 : decode cX9_liked 68 = .ok (.getfield 51, 3) := by decide +kernel
theorem dX9_liked_71 : decode cX9_liked 71 = .ok (.iload_n 2, 1) := by decide +kernel
theorem dX9_liked_72 : decode cX9_liked 72 = .ok (.iaload, 1) := by decide +kernel
theorem dX9_liked_73 : decode cX9_liked 73 = .ok (.iastore, 1) := by decide +kernel
theorem dX9_liked_74 : decode cX9_liked 74 = .ok (.aload_n 0, 1) := by decide +kernel
theorem dX9_liked_75 : decode cX9_liked 75 = .ok (.getfield 15, 3) := by decide +kernel
theorem dX9_liked_78 : decode cX9_liked 78 = .ok (.iconst 4, 1) := by decide +kernel
theorem dX9_liked_79 : decode cX9_liked 79 = .ok (.aload_n 0, 1) := by decide +kernel
theorem dX9_liked_80 : decode cX9_liked 80 = .ok (.getfield 24, 3) := by decide +kernel
theorem dX9_liked_83 : decode cX9_liked 83 = .ok (.iload_n 3, 1) := by decide +kernel
theorem dX9_liked_84 : decode cX9_liked 84 = .ok (.invokevirtual 54, 3) := by decide +kernel
theorem dX9_liked_87 : decode cX9_liked 87 = .ok (.iastore, 1) := by decide +kernel
theorem dX9_liked_88 : decode cX9_liked 88 = .ok (.aload_n 0, 1) := by decide +kernel
theorem dX9_liked_89 : decode cX9_liked 89 = .ok (.getfield 15, 3) := by decide +kernel
theorem dX9_liked_92 : decode cX9_liked 92 = .ok (.iconst 5, 1) := by decide +kernel
theorem dX9_liked_93 : decode cX9_liked 93 = .ok (.aload_n 1, 1) := by decide +kernel
theorem dX9_liked_94 : decode cX9_liked 94 = .ok (.getfield 57, 3) := by decide +kernel
theorem dX9_liked_97 : decode cX9_liked 97 = .ok (.bipush 24, 2) := by decide +kernel
theorem dX9_liked_99 : decode cX9_liked 99 = .ok (.irem, 1) := by decide +kernel
theorem dX9_liked_100 : decode cX9_liked 100 = .ok (.iastore, 1) := by decide +kernel
theorem dX9_liked_101 : decode cX9_liked 101 = .ok (.aload_n 0, 1) := by decide +kernel
theorem dX9_liked_102 : decode cX9_liked 102 = .ok (.getfield 28, 3) := by decide +kernel
theorem dX9_liked_105 : decode cX9_liked 105 = .ok (.aload_n 0, 1) := by decide +kernel
theorem dX9_liked_106 : decode cX9_liked 106 = .ok (.getfield 15, 3) := by decide +kernel
theorem dX9_liked_109 : decode cX9_liked 109 = .ok (.invokevirtual 60, 3) := by decide +kernel
theorem dX9_liked_112 : decode cX9_liked 112 = .ok (.istore 4, 2) := by decide +kernel
theorem dX9_liked_114 : decode cX9_liked 114 = .ok (.iconst 0, 1) := by decide +kernel
theorem dX9_liked_115 : decode cX9_liked 115 = .ok (.bipush 99, 2) := by decide +kernel
theorem dX9_liked_117 : decode cX9_liked 117 = .ok (.iload 4, 2) := by decide +kernel
theorem dX9_liked_119 : decode cX9_liked 119 = .ok (.invokestatic 64, 3) := by decide +kernel
theorem dX9_liked_122 : decode cX9_liked 122 = .ok (.invokestatic 70, 3) := by decide +kernel
theorem dX9_liked_125 : decode cX9_liked 125 = .ok (.ireturn, 1) := by decide +kernel
def f_Trade_liked (σ : Mem) (x1 : Nat) (x2 : Int32) (x3 : Int32) : Option (Int32 × Mem) :=
  if inb x2 6 then
    if inb x3 8 then
      if (mR σ 428 2) = 0 then
        some ((imax (0 : Int32) (imin (99 : Int32) (((4 : Int32) * (mI σ (x1 + 7) x2.toNatClampNeg)) + (mI σ (x1 + 4) x3.toNatClampNeg)))), σ)
      else
        if kd (mR σ 428 1) = 2 then
          (f_City_priceOf σ (mR σ 428 1) x3).bind fun q5 =>
          (f_City_shopOf (sI (sI (sI (sI σ 429 (0 : Int32).toNatClampNeg q5) 429 (1 : Int32).toNatClampNeg (mI (sI σ 429 (0 : Int32).toNatClampNeg q5) (x1 + 4) x3.toNatClampNeg)) 429 (2 : Int32).toNatClampNeg (mI (sI (sI σ 429 (0 : Int32).toNatClampNeg q5) 429 (1 : Int32).toNatClampNeg (mI (sI σ 429 (0 : Int32).toNatClampNeg q5) (x1 + 4) x3.toNatClampNeg)) (x1 + 7) x2.toNatClampNeg)) 429 (3 : Int32).toNatClampNeg (mI (sI (sI (sI σ 429 (0 : Int32).toNatClampNeg q5) 429 (1 : Int32).toNatClampNeg (mI (sI σ 429 (0 : Int32).toNatClampNeg q5) (x1 + 4) x3.toNatClampNeg)) 429 (2 : Int32).toNatClampNeg (mI (sI (sI σ 429 (0 : Int32).toNatClampNeg q5) 429 (1 : Int32).toNatClampNeg (mI (sI σ 429 (0 : Int32).toNatClampNeg q5) (x1 + 4) x3.toNatClampNeg)) (x1 + 7) x2.toNatClampNeg)) (x1 + 6) x2.toNatClampNeg)) (mR σ 428 1) x3).bind fun q6 =>
          if kd (mR σ 428 2) = 6 then
            (f_Law_worth (sI (sI (sI (sI (sI (sI σ 429 (0 : Int32).toNatClampNeg q5) 429 (1 : Int32).toNatClampNeg (mI (sI σ 429 (0 : Int32).toNatClampNeg q5) (x1 + 4) x3.toNatClampNeg)) 429 (2 : Int32).toNatClampNeg (mI (sI (sI σ 429 (0 : Int32).toNatClampNeg q5) 429 (1 : Int32).toNatClampNeg (mI (sI σ 429 (0 : Int32).toNatClampNeg q5) (x1 + 4) x3.toNatClampNeg)) (x1 + 7) x2.toNatClampNeg)) 429 (3 : Int32).toNatClampNeg (mI (sI (sI (sI σ 429 (0 : Int32).toNatClampNeg q5) 429 (1 : Int32).toNatClampNeg (mI (sI σ 429 (0 : Int32).toNatClampNeg q5) (x1 + 4) x3.toNatClampNeg)) 429 (2 : Int32).toNatClampNeg (mI (sI (sI σ 429 (0 : Int32).toNatClampNeg q5) 429 (1 : Int32).toNatClampNeg (mI (sI σ 429 (0 : Int32).toNatClampNeg q5) (x1 + 4) x3.toNatClampNeg)) (x1 + 7) x2.toNatClampNeg)) (x1 + 6) x2.toNatClampNeg)) 429 (4 : Int32).toNatClampNeg q6) 429 (5 : Int32).toNatClampNeg ((mI (sI (sI (sI (sI (sI σ 429 (0 : Int32).toNatClampNeg q5) 429 (1 : Int32).toNatClampNeg (mI (sI σ 429 (0 : Int32).toNatClampNeg q5) (x1 + 4) x3.toNatClampNeg)) 429 (2 : Int32).toNatClampNeg (mI (sI (sI σ 429 (0 : Int32).toNatClampNeg q5) 429 (1 : Int32).toNatClampNeg (mI (sI σ 429 (0 : Int32).toNatClampNeg q5) (x1 + 4) x3.toNatClampNeg)) (x1 + 7) x2.toNatClampNeg)) 429 (3 : Int32).toNatClampNeg (mI (sI (sI (sI σ 429 (0 : Int32).toNatClampNeg q5) 429 (1 : Int32).toNatClampNeg (mI (sI σ 429 (0 : Int32).toNatClampNeg q5) (x1 + 4) x3.toNatClampNeg)) 429 (2 : Int32).toNatClampNeg (mI (sI (sI σ 429 (0 : Int32).toNatClampNeg q5) 429 (1 : Int32).toNatClampNeg (mI (sI σ 429 (0 : Int32).toNatClampNeg q5) (x1 + 4) x3.toNatClampNeg)) (x1 + 7) x2.toNatClampNeg)) (x1 + 6) x2.toNatClampNeg)) 429 (4 : Int32).toNatClampNeg q6) x1 14) - (mI (sI (sI (sI (sI (sI σ 429 (0 : Int32).toNatClampNeg q5) 429 (1 : Int32).toNatClampNeg (mI (sI σ 429 (0 : Int32).toNatClampNeg q5) (x1 + 4) x3.toNatClampNeg)) 429 (2 : Int32).toNatClampNeg (mI (sI (sI σ 429 (0 : Int32).toNatClampNeg q5) 429 (1 : Int32).toNatClampNeg (mI (sI σ 429 (0 : Int32).toNatClampNeg q5) (x1 + 4) x3.toNatClampNeg)) (x1 + 7) x2.toNatClampNeg)) 429 (3 : Int32).toNatClampNeg (mI (sI (sI (sI σ 429 (0 : Int32).toNatClampNeg q5) 429 (1 : Int32).toNatClampNeg (mI (sI σ 429 (0 : Int32).toNatClampNeg q5) (x1 + 4) x3.toNatClampNeg)) 429 (2 : Int32).toNatClampNeg (mI (sI (sI σ 429 (0 : Int32).toNatClampNeg q5) 429 (1 : Int32).toNatClampNeg (mI (sI σ 429 (0 : Int32).toNatClampNeg q5) (x1 + 4) x3.toNatClampNeg)) (x1 + 7) x2.toNatClampNeg)) (x1 + 6) x2.toNatClampNeg)) 429 (4 : Int32).toNatClampNeg q6) x1 14) / (24 : Int32) * (24 : Int32))) (mR σ 428 2) 429).bind fun q8 =>
            some ((imax (0 : Int32) (imin (99 : Int32) q8.1)), q8.2)
          else none
        else none
    else none
  else none
set_option maxHeartbeats 4000000 in
set_option maxRecDepth 20000 in
theorem g_Trade_liked (X : Cx θ p s m args c cX9_liked 5 RX9) (hr : meth.sig.returnType = some .int) (hlk : meth.locks = false)  {σ : Mem} {x1 : Nat} {x2 : Int32} {x3 : Int32} {r : Int32 × Mem} (h1 : kd x1 = 8) (h : f_Trade_liked σ x1 x2 x3 = some r) : GB θ p l e 2 s m args below meth c 5 (some (.int r.1), r.2) 0 [(0, .ref (be θ + 428)), (1, .ref (be θ + x1)), (2, .int x2), (3, .int x3)] [] σ := by
  unfold f_Trade_liked at h
  refine g_iconst X dX9_liked_0 (v := (4 : Int32)) ic_4 ?_
  refine g_aload_n X dX9_liked_1 rfl 1 rfl ?_
  refine g_get X fl_RX9_39 dX9_liked_2 h1 (v := .ref (be θ + (x1 + 7))) rfl ?_
  refine g_iload_n X dX9_liked_5 rfl 2 rfl ?_
  obtain ⟨g1, h⟩ := ite_some h
  refine g_iald X (lk7_6 h1).1 (lk7_6 h1).2 (inb_in g1) dX9_liked_6 ?_
  refine g_imul X dX9_liked_7 ?_
  refine g_aload_n X dX9_liked_8 rfl 1 rfl ?_
  refine g_get X fl_RX9_44 dX9_liked_9 h1 (v := .ref (be θ + (x1 + 4))) rfl ?_
  refine g_iload_n X dX9_liked_12 rfl 3 rfl ?_
  obtain ⟨g2, h⟩ := ite_some h
  refine g_iald X (lk7_3 h1).1 (lk7_3 h1).2 (inb_in g2) dX9_liked_13 ?_
  refine g_iadd X dX9_liked_14 ?_
  refine g_istore X dX9_liked_15 (by decide) (lv' := [(4, .int (((4 : Int32) * (mI σ (x1 + 7) x2.toNatClampNeg)) + (mI σ (x1 + 4) x3.toNatClampNeg))), (0, .ref (be θ + 428)), (1, .ref (be θ + x1)), (2, .int x2), (3, .int x3)]) rfl ?_
  refine g_aload_n X dX9_liked_17 rfl 1 rfl ?_
  refine g_get X fl_RX9_28 dX9_liked_18 kd_428 (v := rv (be θ) (mR σ 428 2)) rfl ?_
  refine g_ifnull (tgt := 114) X dX9_liked_21 (by decide) (fun c3 => ?_) (fun c3 => ?_)
  · replace h := (if_pos c3).symm.trans h
    refine g_iconst X dX9_liked_114 (v := (0 : Int32)) ic_0 ?_
    refine g_bipush X dX9_liked_115 (v := (99 : Int32)) bp_99 ?_
    refine g_iload X dX9_liked_117 0 rfl ?_
    refine g_min X lm_RX9_64 ⟨(Nat.le_of_ble_eq_true rfl), (Nat.le_of_ble_eq_true rfl)⟩ ⟨(Nat.le_of_ble_eq_true rfl), (Nat.le_of_ble_eq_true rfl)⟩ dX9_liked_119 ?_
    refine g_max X lm_RX9_70 ⟨(Nat.le_of_ble_eq_true rfl), (Nat.le_of_ble_eq_true rfl)⟩ ⟨(Nat.le_of_ble_eq_true rfl), (Nat.le_of_ble_eq_true rfl)⟩ dX9_liked_122 ?_
    exact g_iret X hr hlk dX9_liked_125 (by cases h; rfl)
  · replace h := (if_neg c3).symm.trans h
    refine g_aload_n X dX9_liked_24 rfl 1 rfl ?_
    refine g_get X fl_RX9_15 dX9_liked_25 kd_428 (v := .ref (be θ + 429)) rfl ?_
    refine g_iconst X dX9_liked_28 (v := (0 : Int32)) ic_0 ?_
    refine g_aload_n X dX9_liked_29 rfl 1 rfl ?_
    refine g_get X fl_RX9_24 dX9_liked_30 kd_428 (v := rv (be θ) (mR σ 428 1)) rfl ?_
    refine g_iload_n X dX9_liked_33 rfl 4 rfl ?_
    obtain ⟨g4, h⟩ := ite_some h
    rw [← rv_of (β := be θ) g4 (by decide)]
    obtain ⟨q5, hq5, h⟩ := Option.bind_eq_some_iff.mp h
    refine g_cV X (c_City_priceOf g4 hq5) lk_RX9_47 my_X1_priceOf (a := (mR σ 428 1)) (ci := 1) g4 (by decide) rfl (As := [.int x3]) (rest := [.int (0 : Int32), .ref (be θ + 429)]) rfl rfl (Nat.le_of_ble_eq_true rfl) ⟨(Nat.le_of_ble_eq_true rfl), (Nat.le_of_ble_eq_true rfl)⟩ ⟨(Nat.le_of_ble_eq_true rfl), (Nat.le_of_ble_eq_true rfl)⟩ dX9_liked_34 (st' := [.int q5, .int (0 : Int32), .ref (be θ + 429)]) (σ' := σ) rfl rfl ?_
    refine g_iast X kd_429 ln_429 (inb_in (show inb (0 : Int32) 6 = true by decide)) dX9_liked_37 ?_
    refine g_aload_n X dX9_liked_38 rfl 1 rfl ?_
    refine g_get X fl_RX9_15 dX9_liked_39 kd_428 (v := .ref (be θ + 429)) rfl ?_
    refine g_iconst X dX9_liked_42 (v := (1 : Int32)) ic_1 ?_
    refine g_aload_n X dX9_liked_43 rfl 2 rfl ?_
    refine g_get X fl_RX9_44 dX9_liked_44 h1 (v := .ref (be θ + (x1 + 4))) rfl ?_
    refine g_iload_n X dX9_liked_47 rfl 4 rfl ?_
    refine g_iald X (lk7_3 h1).1 (lk7_3 h1).2 (inb_in g2) dX9_liked_48 ?_
    refine g_iast X kd_429 ln_429 (inb_in (show inb (1 : Int32) 6 = true by decide)) dX9_liked_49 ?_
    refine g_aload_n X dX9_liked_50 rfl 1 rfl ?_
    refine g_get X fl_RX9_15 dX9_liked_51 kd_428 (v := .ref (be θ + 429)) rfl ?_
    refine g_iconst X dX9_liked_54 (v := (2 : Int32)) ic_2 ?_
    refine g_aload_n X dX9_liked_55 rfl 2 rfl ?_
    refine g_get X fl_RX9_39 dX9_liked_56 h1 (v := .ref (be θ + (x1 + 7))) rfl ?_
    refine g_iload_n X dX9_liked_59 rfl 3 rfl ?_
    refine g_iald X (lk7_6 h1).1 (lk7_6 h1).2 (inb_in g1) dX9_liked_60 ?_
    refine g_iast X kd_429 ln_429 (inb_in (show inb (2 : Int32) 6 = true by decide)) dX9_liked_61 ?_
    refine g_aload_n X dX9_liked_62 rfl 1 rfl ?_
    refine g_get X fl_RX9_15 dX9_liked_63 kd_428 (v := .ref (be θ + 429)) rfl ?_
    refine g_iconst X dX9_liked_66 (v := (3 : Int32)) ic_3 ?_
    refine g_aload_n X dX9_liked_67 rfl 2 rfl ?_
    refine g_get X fl_RX9_51 dX9_liked_68 h1 (v := .ref (be θ + (x1 + 6))) rfl ?_
    refine g_iload_n X dX9_liked_71 rfl 3 rfl ?_
    refine g_iald X (lk7_5 h1).1 (lk7_5 h1).2 (inb_in g1) dX9_liked_72 ?_
    refine g_iast X kd_429 ln_429 (inb_in (show inb (3 : Int32) 6 = true by decide)) dX9_liked_73 ?_
    refine g_aload_n X dX9_liked_74 rfl 1 rfl ?_
    refine g_get X fl_RX9_15 dX9_liked_75 kd_428 (v := .ref (be θ + 429)) rfl ?_
    refine g_iconst X dX9_liked_78 (v := (4 : Int32)) ic_4 ?_
    refine g_aload_n X dX9_liked_79 rfl 1 rfl ?_
    refine g_get X fl_RX9_24 dX9_liked_80 kd_428 (v := rv (be θ) (mR σ 428 1)) rfl ?_
    refine g_iload_n X dX9_liked_83 rfl 4 rfl ?_
    rw [← rv_of (β := be θ) g4 (by decide)]
    obtain ⟨q6, hq6, h⟩ := Option.bind_eq_some_iff.mp h
    refine g_cV X (c_City_shopOf g4 hq6) lk_RX9_54 my_X1_shopOf (a := (mR σ 428 1)) (ci := 1) g4 (by decide) rfl (As := [.int x3]) (rest := [.int (4 : Int32), .ref (be θ + 429)]) rfl rfl (Nat.le_of_ble_eq_true rfl) ⟨(Nat.le_of_ble_eq_true rfl), (Nat.le_of_ble_eq_true rfl)⟩ ⟨(Nat.le_of_ble_eq_true rfl), (Nat.le_of_ble_eq_true rfl)⟩ dX9_liked_84 (st' := [.int q6, .int (4 : Int32), .ref (be θ + 429)]) (σ' := (sI (sI (sI (sI σ 429 (0 : Int32).toNatClampNeg q5) 429 (1 : Int32).toNatClampNeg (mI (sI σ 429 (0 : Int32).toNatClampNeg q5) (x1 + 4) x3.toNatClampNeg)) 429 (2 : Int32).toNatClampNeg (mI (sI (sI σ 429 (0 : Int32).toNatClampNeg q5) 429 (1 : Int32).toNatClampNeg (mI (sI σ 429 (0 : Int32).toNatClampNeg q5) (x1 + 4) x3.toNatClampNeg)) (x1 + 7) x2.toNatClampNeg)) 429 (3 : Int32).toNatClampNeg (mI (sI (sI (sI σ 429 (0 : Int32).toNatClampNeg q5) 429 (1 : Int32).toNatClampNeg (mI (sI σ 429 (0 : Int32).toNatClampNeg q5) (x1 + 4) x3.toNatClampNeg)) 429 (2 : Int32).toNatClampNeg (mI (sI (sI σ 429 (0 : Int32).toNatClampNeg q5) 429 (1 : Int32).toNatClampNeg (mI (sI σ 429 (0 : Int32).toNatClampNeg q5) (x1 + 4) x3.toNatClampNeg)) (x1 + 7) x2.toNatClampNeg)) (x1 + 6) x2.toNatClampNeg))) rfl rfl ?_
    refine g_iast X kd_429 ln_429 (inb_in (show inb (4 : Int32) 6 = true by decide)) dX9_liked_87 ?_
    refine g_aload_n X dX9_liked_88 rfl 1 rfl ?_
    refine g_get X fl_RX9_15 dX9_liked_89 kd_428 (v := .ref (be θ + 429)) rfl ?_
    refine g_iconst X dX9_liked_92 (v := (5 : Int32)) ic_5 ?_
    refine g_aload_n X dX9_liked_93 rfl 2 rfl ?_
    refine g_get X fl_RX9_57 dX9_liked_94 h1 (v := .int (mI (sI (sI (sI (sI (sI σ 429 (0 : Int32).toNatClampNeg q5) 429 (1 : Int32).toNatClampNeg (mI (sI σ 429 (0 : Int32).toNatClampNeg q5) (x1 + 4) x3.toNatClampNeg)) 429 (2 : Int32).toNatClampNeg (mI (sI (sI σ 429 (0 : Int32).toNatClampNeg q5) 429 (1 : Int32).toNatClampNeg (mI (sI σ 429 (0 : Int32).toNatClampNeg q5) (x1 + 4) x3.toNatClampNeg)) (x1 + 7) x2.toNatClampNeg)) 429 (3 : Int32).toNatClampNeg (mI (sI (sI (sI σ 429 (0 : Int32).toNatClampNeg q5) 429 (1 : Int32).toNatClampNeg (mI (sI σ 429 (0 : Int32).toNatClampNeg q5) (x1 + 4) x3.toNatClampNeg)) 429 (2 : Int32).toNatClampNeg (mI (sI (sI σ 429 (0 : Int32).toNatClampNeg q5) 429 (1 : Int32).toNatClampNeg (mI (sI σ 429 (0 : Int32).toNatClampNeg q5) (x1 + 4) x3.toNatClampNeg)) (x1 + 7) x2.toNatClampNeg)) (x1 + 6) x2.toNatClampNeg)) 429 (4 : Int32).toNatClampNeg q6) x1 14)) rfl ?_
    refine g_bipush X dX9_liked_97 (v := (24 : Int32)) bp_24 ?_
    refine g_irem X dX9_liked_99 (by decide) ?_
    refine g_iast X kd_429 ln_429 (inb_in (show inb (5 : Int32) 6 = true by decide)) dX9_liked_100 ?_
    refine g_aload_n X dX9_liked_101 rfl 1 rfl ?_
    refine g_get X fl_RX9_28 dX9_liked_102 kd_428 (v := rv (be θ) (mR σ 428 2)) rfl ?_
    refine g_aload_n X dX9_liked_105 rfl 1 rfl ?_
    refine g_get X fl_RX9_15 dX9_liked_106 kd_428 (v := .ref (be θ + 429)) rfl ?_
    obtain ⟨g7, h⟩ := ite_some h
    rw [← rv_of (β := be θ) g7 (by decide)]
    obtain ⟨q8, hq8, h⟩ := Option.bind_eq_some_iff.mp h
    refine g_cV X (c_Law_worth g7 kd_429 hq8) lk_RX9_60 my_X5_worth (a := (mR σ 428 2)) (ci := 5) g7 (by decide) rfl (As := [.ref (be θ + 429)]) (rest := []) rfl rfl (Nat.le_of_ble_eq_true rfl) ⟨(Nat.le_of_ble_eq_true rfl), (Nat.le_of_ble_eq_true rfl)⟩ ⟨(Nat.le_of_ble_eq_true rfl), (Nat.le_of_ble_eq_true rfl)⟩ dX9_liked_109 (st' := [.int q8.1]) (σ' := q8.2) rfl rfl ?_
    refine g_istore X dX9_liked_112 (by decide) (lv' := [(4, .int q8.1), (0, .ref (be θ + 428)), (1, .ref (be θ + x1)), (2, .int x2), (3, .int x3)]) rfl ?_
    refine g_iconst X dX9_liked_114 (v := (0 : Int32)) ic_0 ?_
    refine g_bipush X dX9_liked_115 (v := (99 : Int32)) bp_99 ?_
    refine g_iload X dX9_liked_117 0 rfl ?_
    refine g_min X lm_RX9_64 ⟨(Nat.le_of_ble_eq_true rfl), (Nat.le_of_ble_eq_true rfl)⟩ ⟨(Nat.le_of_ble_eq_true rfl), (Nat.le_of_ble_eq_true rfl)⟩ dX9_liked_119 ?_
    refine g_max X lm_RX9_70 ⟨(Nat.le_of_ble_eq_true rfl), (Nat.le_of_ble_eq_true rfl)⟩ ⟨(Nat.le_of_ble_eq_true rfl), (Nat.le_of_ble_eq_true rfl)⟩ dX9_liked_122 ?_
    exact g_iret X hr hlk dX9_liked_125 (by cases h; rfl)
set_option maxHeartbeats 4000000 in
set_option maxRecDepth 20000 in
theorem c_Trade_liked {θ : Th} {l : Launch} {σ : Mem} {x1 : Nat} {x2 : Int32} {x3 : Int32} {r : Int32 × Mem} (h1 : kd x1 = 8) (h : f_Trade_liked σ x1 x2 x3 = some r) : Cn θ l yX9_liked cX9_liked 5 (some .int) 2 0 0 [.ref (be θ + 428), .ref (be θ + x1), .int x2, .int x3] σ (some (.int r.1), r.2) :=
  Cn.of (by decide) (Nat.le_of_ble_eq_true rfl) (fun p e s m below meth c X hr hlk => g_Trade_liked X hr hlk h1 h)
theorem dX1_kindOf_0 : decode cX1_kindOf 0 = .ok (.aload_n 0, 1) := by decide +kernel
theorem dX1_kindOf_1 : decode cX1_kindOf 1 = .ok (.getfield 18, 3) := by decide +kernel
theorem dX1_kindOf_4 : decode cX1_kindOf 4 = .ok (.iload_n 1, 1) := by decide +kernel
theorem dX1_kindOf_5 : decode cX1_kindOf 5 = .ok (.iconst 4, 1) := by decide +kernel
theorem dX1_kindOf_6 : decode cX1_kindOf 6 = .ok (.imul, 1) := by decide +kernel
theorem dX1_kindOf_7 : decode cX1_kindOf 7 = .ok (.iconst 3, 1) := by decide +kernel
theorem dX1_kindOf_8 : decode cX1_kindOf 8 = .ok (.iadd, 1) := by decide +kernel
theorem dX1_kindOf_9 : decode cX1_kindOf 9 = .ok (.iaload, 1) := by decide +kernel
theorem dX1_kindOf_10 : decode cX1_kindOf 10 = .ok (.ireturn, 1) := by decide +kernel
def f_City_kindOf (σ : Mem) (x0 : Nat) (x1 : Int32) : Option (Int32) :=
  if inb ((x1 * (4 : Int32)) + (3 : Int32)) 24 then
    some (mI σ (x0 + 3) ((x1 * (4 : Int32)) + (3 : Int32)).toNatClampNeg)
  else none
set_option maxHeartbeats 4000000 in
set_option maxRecDepth 20000 in
theorem g_City_kindOf (X : Cx θ p s m args c cX1_kindOf 2 RX1) (hr : meth.sig.returnType = some .int) (hlk : meth.locks = false)  {σ : Mem} {x0 : Nat} {x1 : Int32} {r : Int32} (h0 : kd x0 = 2) (h : f_City_kindOf σ x0 x1 = some r) : GB θ p l e 0 s m args below meth c 2 (some (.int r), σ) 0 [(0, .ref (be θ + x0)), (1, .int x1)] [] σ := by
  unfold f_City_kindOf at h
  refine g_aload_n X dX1_kindOf_0 rfl 0 rfl ?_
  refine g_get X fl_RX1_18 dX1_kindOf_1 h0 (v := .ref (be θ + (x0 + 3))) rfl ?_
  refine g_iload_n X dX1_kindOf_4 rfl 1 rfl ?_
  refine g_iconst X dX1_kindOf_5 (v := (4 : Int32)) ic_4 ?_
  refine g_imul X dX1_kindOf_6 ?_
  refine g_iconst X dX1_kindOf_7 (v := (3 : Int32)) ic_3 ?_
  refine g_iadd X dX1_kindOf_8 ?_
  obtain ⟨g1, h⟩ := ite_some h
  refine g_iald X (lk1_2 h0).1 (lk1_2 h0).2 (inb_in g1) dX1_kindOf_9 ?_
  exact g_iret X hr hlk dX1_kindOf_10 (by cases h; rfl)
set_option maxHeartbeats 4000000 in
set_option maxRecDepth 20000 in
theorem c_City_kindOf {θ : Th} {l : Launch} {σ : Mem} {x0 : Nat} {x1 : Int32} {r : Int32} (h0 : kd x0 = 2) (h : f_City_kindOf σ x0 x1 = some r) : Cn θ l yX1_kindOf cX1_kindOf 2 (some .int) 0 0 0 [.ref (be θ + x0), .int x1] σ (some (.int r), σ) :=
  Cn.of (by decide) (Nat.le_of_ble_eq_true rfl) (fun p e s m below meth c X hr hlk => g_City_kindOf X hr hlk h0 h)
theorem dX9_dueIfPutBack_0 : decode cX9_dueIfPutBack 0 = .ok (.aload_n 0, 1) := by decide +kernel
theorem dX9_dueIfPutBack_1 : decode cX9_dueIfPutBack 1 = .ok (.getfield 24, 3) := by decide +kernel
theorem dX9_dueIfPutBack_4 : decode cX9_dueIfPutBack 4 = .ok (.iload_n 2, 1) := by decide +kernel
theorem dX9_dueIfPutBack_5 : decode cX9_dueIfPutBack 5 = .ok (.invokevirtual 73, 3) := by decide +kernel
theorem dX9_dueIfPutBack_8 : decode cX9_dueIfPutBack 8 = .ok (.istore 4, 2) := by decide +kernel
theorem dX9_dueIfPutBack_10 : decode cX9_dueIfPutBack 10 = .ok (.iload 4, 2) := by decide +kernel
theorem dX9_dueIfPutBack_12 : decode cX9_dueIfPutBack 12 = .ok (.iconst 2, 1) := by decide +kernel
theorem dX9_dueIfPutBack_13 : decode cX9_dueIfPutBack 13 = .ok (.if_icmp .ne 5, 3) := by decide +kernel
theorem dX9_dueIfPutBack_16 : decode cX9_dueIfPutBack 16 = .ok (.iconst 0, 1) := by decide +kernel
theorem dX9_dueIfPutBack_17 : decode cX9_dueIfPutBack 17 = .ok (.ireturn, 1) := by decide +kernel
theorem dX9_dueIfPutBack_18 : decode cX9_dueIfPutBack 18 = .ok (.aload_n 0, 1) := by decide +kernel
theorem dX9_dueIfPutBack_19 : decode cX9_dueIfPutBack 19 = .ok (.getfield 24, 3) := by decide +kernel
theorem dX9_dueIfPutBack_22 : decode cX9_dueIfPutBack 22 = .ok (.iload_n 3, 1) := by decide +kernel
theorem dX9_dueIfPutBack_23 : decode cX9_dueIfPutBack 23 = .ok (.invokevirtual 47, 3) := by decide +kernel
theorem dX9_dueIfPutBack_26 : decode cX9_dueIfPutBack 26 = .ok (.aload_n 1, 1) := by decide +kernel
theorem dX9_dueIfPutBack_27 : decode cX9_dueIfPutBack 27 = .ok (.getfield 76, 3) := by decide +kernel
theorem dX9_dueIfPutBack_30 : decode cX9_dueIfPutBack 30 = .ok (.imul, 1) := by decide +kernel
theorem dX9_dueIfPutBack_31 : decode cX9_dueIfPutBack 31 = .ok (.bipush 8, 2) := by decide +kernel
theorem dX9_dueIfPutBack_33 : decode cX9_dueIfPutBack 33 = .ok (.idiv, 1) := by decide +kernel
theorem dX9_dueIfPutBack_34 : decode cX9_dueIfPutBack 34 = .ok (.istore 5, 2) := by decide +kernel
theorem dX9_dueIfPutBack_36 : decode cX9_dueIfPutBack 36 = .ok (.iload 4, 2) := by decide +kernel
theorem dX9_dueIfPutBack_38 : decode cX9_dueIfPutBack 38 = .ok (.iconst 1, 1) := by decide +kernel
theorem dX9_dueIfPutBack_39 : decode cX9_dueIfPutBack 39 = .ok (.if_icmp .ne 10, 3) := by decide +kernel
theorem dX9_dueIfPutBack_42 : decode cX9_dueIfPutBack 42 = .ok (.iload 5, 2) := by decide +kernel
theorem dX9_dueIfPutBack_44 : decode cX9_dueIfPutBack 44 = .ok (.iconst 2, 1) := by decide +kernel
theorem dX9_dueIfPutBack_45 : decode cX9_dueIfPutBack 45 = .ok (.idiv, 1) := by decide +kernel
theorem dX9_dueIfPutBack_46 : decode cX9_dueIfPutBack 46 = .ok (.goto 5, 3) := by decide +kernel
theorem dX9_dueIfPutBack_49 : decode cX9_dueIfPutBack 49 = .ok (.iload 5, 2) := by decide +kernel
theorem dX9_dueIfPutBack_51 : decode cX9_dueIfPutBack 51 = .ok (.ireturn, 1) := by decide +kernel
def f_Trade_dueIfPutBack (σ : Mem) (x1 : Nat) (x2 : Int32) (x3 : Int32) : Option (Int32) :=
  if kd (mR σ 428 1) = 2 then
    (f_City_kindOf σ (mR σ 428 1) x2).bind fun q2 =>
    if q2 = (2 : Int32) then
      some (0 : Int32)
    else
      (f_City_priceOf σ (mR σ 428 1) x3).bind fun q4 =>
      if q2 = (1 : Int32) then
        some (((q4 * (mI σ x1 11)) / (8 : Int32)) / (2 : Int32))
      else
        some ((q4 * (mI σ x1 11)) / (8 : Int32))
  else none
set_option maxHeartbeats 4000000 in
set_option maxRecDepth 20000 in
theorem g_Trade_dueIfPutBack (X : Cx θ p s m args c cX9_dueIfPutBack 6 RX9) (hr : meth.sig.returnType = some .int) (hlk : meth.locks = false)  {σ : Mem} {x1 : Nat} {x2 : Int32} {x3 : Int32} {r : Int32} (h1 : kd x1 = 8) (h : f_Trade_dueIfPutBack σ x1 x2 x3 = some r) : GB θ p l e 1 s m args below meth c 6 (some (.int r), σ) 0 [(0, .ref (be θ + 428)), (1, .ref (be θ + x1)), (2, .int x2), (3, .int x3)] [] σ := by
  unfold f_Trade_dueIfPutBack at h
  refine g_aload_n X dX9_dueIfPutBack_0 rfl 0 rfl ?_
  refine g_get X fl_RX9_24 dX9_dueIfPutBack_1 kd_428 (v := rv (be θ) (mR σ 428 1)) rfl ?_
  refine g_iload_n X dX9_dueIfPutBack_4 rfl 2 rfl ?_
  obtain ⟨g1, h⟩ := ite_some h
  rw [← rv_of (β := be θ) g1 (by decide)]
  obtain ⟨q2, hq2, h⟩ := Option.bind_eq_some_iff.mp h
  refine g_cV X (c_City_kindOf g1 hq2) lk_RX9_73 my_X1_kindOf (a := (mR σ 428 1)) (ci := 1) g1 (by decide) rfl (As := [.int x2]) (rest := []) rfl rfl (Nat.le_of_ble_eq_true rfl) ⟨(Nat.le_of_ble_eq_true rfl), (Nat.le_of_ble_eq_true rfl)⟩ ⟨(Nat.le_of_ble_eq_true rfl), (Nat.le_of_ble_eq_true rfl)⟩ dX9_dueIfPutBack_5 (st' := [.int q2]) (σ' := σ) rfl rfl ?_
  refine g_istore X dX9_dueIfPutBack_8 (by decide) (lv' := [(4, .int q2), (0, .ref (be θ + 428)), (1, .ref (be θ + x1)), (2, .int x2), (3, .int x3)]) rfl ?_
  refine g_iload X dX9_dueIfPutBack_10 0 rfl ?_
  refine g_iconst X dX9_dueIfPutBack_12 (v := (2 : Int32)) ic_2 ?_
  refine g_icmp_ne (tgt := 18) X dX9_dueIfPutBack_13 (by decide) (fun c3 => ?_) (fun c3 => ?_)
  · replace h := (if_neg c3).symm.trans h
    refine g_aload_n X dX9_dueIfPutBack_18 rfl 1 rfl ?_
    refine g_get X fl_RX9_24 dX9_dueIfPutBack_19 kd_428 (v := rv (be θ) (mR σ 428 1)) rfl ?_
    refine g_iload_n X dX9_dueIfPutBack_22 rfl 4 rfl ?_
    rw [← rv_of (β := be θ) g1 (by decide)]
    obtain ⟨q4, hq4, h⟩ := Option.bind_eq_some_iff.mp h
    refine g_cV X (c_City_priceOf g1 hq4) lk_RX9_47 my_X1_priceOf (a := (mR σ 428 1)) (ci := 1) g1 (by decide) rfl (As := [.int x3]) (rest := []) rfl rfl (Nat.le_of_ble_eq_true rfl) ⟨(Nat.le_of_ble_eq_true rfl), (Nat.le_of_ble_eq_true rfl)⟩ ⟨(Nat.le_of_ble_eq_true rfl), (Nat.le_of_ble_eq_true rfl)⟩ dX9_dueIfPutBack_23 (st' := [.int q4]) (σ' := σ) rfl rfl ?_
    refine g_aload_n X dX9_dueIfPutBack_26 rfl 2 rfl ?_
    refine g_get X fl_RX9_76 dX9_dueIfPutBack_27 h1 (v := .int (mI σ x1 11)) rfl ?_
    refine g_imul X dX9_dueIfPutBack_30 ?_
    refine g_bipush X dX9_dueIfPutBack_31 (v := (8 : Int32)) bp_8 ?_
    refine g_idiv X dX9_dueIfPutBack_33 (by decide) ?_
    refine g_istore X dX9_dueIfPutBack_34 (by decide) (lv' := [(5, .int ((q4 * (mI σ x1 11)) / (8 : Int32))), (4, .int q2), (0, .ref (be θ + 428)), (1, .ref (be θ + x1)), (2, .int x2), (3, .int x3)]) rfl ?_
    refine g_iload X dX9_dueIfPutBack_36 1 rfl ?_
    refine g_iconst X dX9_dueIfPutBack_38 (v := (1 : Int32)) ic_1 ?_
    refine g_icmp_ne (tgt := 49) X dX9_dueIfPutBack_39 (by decide) (fun c5 => ?_) (fun c5 => ?_)
    · replace h := (if_neg c5).symm.trans h
      refine g_iload X dX9_dueIfPutBack_49 0 rfl ?_
      exact g_iret X hr hlk dX9_dueIfPutBack_51 (by cases h; rfl)
    · replace h := (if_pos c5).symm.trans h
      refine g_iload X dX9_dueIfPutBack_42 0 rfl ?_
      refine g_iconst X dX9_dueIfPutBack_44 (v := (2 : Int32)) ic_2 ?_
      refine g_idiv X dX9_dueIfPutBack_45 (by decide) ?_
      refine g_goto (tgt := 51) X dX9_dueIfPutBack_46 (by decide) ?_
      exact g_iret X hr hlk dX9_dueIfPutBack_51 (by cases h; rfl)
  · replace h := (if_pos c3).symm.trans h
    refine g_iconst X dX9_dueIfPutBack_16 (v := (0 : Int32)) ic_0 ?_
    exact g_iret X hr hlk dX9_dueIfPutBack_17 (by cases h; rfl)
set_option maxHeartbeats 4000000 in
set_option maxRecDepth 20000 in
theorem c_Trade_dueIfPutBack {θ : Th} {l : Launch} {σ : Mem} {x1 : Nat} {x2 : Int32} {x3 : Int32} {r : Int32} (h1 : kd x1 = 8) (h : f_Trade_dueIfPutBack σ x1 x2 x3 = some r) : Cn θ l yX9_dueIfPutBack cX9_dueIfPutBack 6 (some .int) 1 0 0 [.ref (be θ + 428), .ref (be θ + x1), .int x2, .int x3] σ (some (.int r), σ) :=
  Cn.of (by decide) (Nat.le_of_ble_eq_true rfl) (fun p e s m below meth c X hr hlk => g_Trade_dueIfPutBack X hr hlk h1 h)
theorem dX0_lookAt_0 : decode cX0_lookAt 0 = .ok (.aload_n 0, 1) := by decide +kernel
theorem dX0_lookAt_1 : decode cX0_lookAt 1 = .ok (.getfield 9, 3) := by decide +kernel
theorem dX0_lookAt_4 : decode cX0_lookAt 4 = .ok (.iload 4, 2) := by decide +kernel
theorem dX0_lookAt_6 : decode cX0_lookAt 6 = .ok (.bipush 10, 2) := by decide +kernel
theorem dX0_lookAt_8 : decode cX0_lookAt 8 = .ok (.bipush 8, 2) := by decide +kernel
theorem dX0_lookAt_10 : decode cX0_lookAt 10 = .ok (.aload_n 2, 1) := by decide +kernel
theorem dX0_lookAt_11 : decode cX0_lookAt 11 = .ok (.getfield 61, 3) := by decide +kernel
theorem dX0_lookAt_14 : decode cX0_lookAt 14 = .ok (.iload 4, 2) := by decide +kernel
theorem dX0_lookAt_16 : decode cX0_lookAt 16 = .ok (.iaload, 1) := by decide +kernel
theorem dX0_lookAt_17 : decode cX0_lookAt 17 = .ok (.imul, 1) := by decide +kernel
theorem dX0_lookAt_18 : decode cX0_lookAt 18 = .ok (.iadd, 1) := by decide +kernel
theorem dX0_lookAt_19 : decode cX0_lookAt 19 = .ok (.iastore, 1) := by decide +kernel
theorem dX0_lookAt_20 : decode cX0_lookAt 20 = .ok (.aload_n 0, 1) := by decide +kernel
theorem dX0_lookAt_21 : decode cX0_lookAt 21 = .ok (.getfield 15, 3) := by decide +kernel
theorem dX0_lookAt_24 : decode cX0_lookAt 24 = .ok (.iload 4, 2) := by decide +kernel
theorem dX0_lookAt_26 : decode cX0_lookAt 26 = .ok (.aload_n 1, 1) := by decide +kernel
theorem dX0_lookAt_27 : decode cX0_lookAt 27 = .ok (.aload_n 2, 1) := by decide +kernel
theorem dX0_lookAt_28 : decode cX0_lookAt 28 = .ok (.iload_n 3, 1) := by decide +kernel
theorem dX0_lookAt_29 : decode cX0_lookAt 29 = .ok (.iload 4, 2) := by decide +kernel
theorem dX0_lookAt_31 : decode cX0_lookAt 31 = .ok (.invokevirtual 64, 3) := by decide +kernel
theorem dX0_lookAt_34 : decode cX0_lookAt 34 = .ok (.iastore, 1) := by decide +kernel
theorem dX0_lookAt_35 : decode cX0_lookAt 35 = .ok (.aload_n 0, 1) := by decide +kernel
theorem dX0_lookAt_36 : decode cX0_lookAt 36 = .ok (.getfield 18, 3) := by decide +kernel
theorem dX0_lookAt_39 : decode cX0_lookAt 39 = .ok (.iload 4, 2) := by decide +kernel
theorem dX0_lookAt_41 : decode cX0_lookAt 41 = .ok (.aload_n 1, 1) := by decide +kernel
theorem dX0_lookAt_42 : decode cX0_lookAt 42 = .ok (.aload_n 2, 1) := by decide +kernel
theorem dX0_lookAt_43 : decode cX0_lookAt 43 = .ok (.iload_n 3, 1) := by decide +kernel
theorem dX0_lookAt_44 : decode cX0_lookAt 44 = .ok (.iload 4, 2) := by decide +kernel
theorem dX0_lookAt_46 : decode cX0_lookAt 46 = .ok (.invokevirtual 68, 3) := by decide +kernel
theorem dX0_lookAt_49 : decode cX0_lookAt 49 = .ok (.iastore, 1) := by decide +kernel
theorem dX0_lookAt_50 : decode cX0_lookAt 50 = .ok (.return_, 1) := by decide +kernel
def f_Bargain_lookAt (σ : Mem) (x2 : Nat) (x3 : Int32) (x4 : Int32) : Option (Mem) :=
  if inb x4 8 then
    (f_Trade_liked (sI σ 532 x4.toNatClampNeg ((10 : Int32) + ((8 : Int32) * (mI σ (x2 + 4) x4.toNatClampNeg)))) x2 x3 x4).bind fun q2 =>
    (f_Trade_dueIfPutBack (sI q2.2 533 x4.toNatClampNeg q2.1) x2 x3 x4).bind fun q3 =>
    some (sI (sI q2.2 533 x4.toNatClampNeg q2.1) 534 x4.toNatClampNeg q3)
  else none
set_option maxHeartbeats 4000000 in
set_option maxRecDepth 20000 in
theorem g_Bargain_lookAt (X : Cx θ p s m args c cX0_lookAt 5 RX0) (hr : meth.sig.returnType = none) (hlk : meth.locks = false)  {σ : Mem} {x2 : Nat} {x3 : Int32} {x4 : Int32} {r : Mem} (h2 : kd x2 = 8) (h : f_Bargain_lookAt σ x2 x3 x4 = some r) : GB θ p l e 3 s m args below meth c 5 (none, r) 0 [(0, .ref (be θ + 531)), (1, .ref (be θ + 428)), (2, .ref (be θ + x2)), (3, .int x3), (4, .int x4)] [] σ := by
  unfold f_Bargain_lookAt at h
  refine g_aload_n X dX0_lookAt_0 rfl 0 rfl ?_
  refine g_get X fl_RX0_9 dX0_lookAt_1 kd_531 (v := .ref (be θ + 532)) rfl ?_
  refine g_iload X dX0_lookAt_4 4 rfl ?_
  refine g_bipush X dX0_lookAt_6 (v := (10 : Int32)) bp_10 ?_
  refine g_bipush X dX0_lookAt_8 (v := (8 : Int32)) bp_8 ?_
  refine g_aload_n X dX0_lookAt_10 rfl 2 rfl ?_
  refine g_get X fl_RX0_61 dX0_lookAt_11 h2 (v := .ref (be θ + (x2 + 4))) rfl ?_
  refine g_iload X dX0_lookAt_14 4 rfl ?_
  obtain ⟨g1, h⟩ := ite_some h
  refine g_iald X (lk7_3 h2).1 (lk7_3 h2).2 (inb_in g1) dX0_lookAt_16 ?_
  refine g_imul X dX0_lookAt_17 ?_
  refine g_iadd X dX0_lookAt_18 ?_
  refine g_iast X kd_532 ln_532 (inb_in g1) dX0_lookAt_19 ?_
  refine g_aload_n X dX0_lookAt_20 rfl 0 rfl ?_
  refine g_get X fl_RX0_15 dX0_lookAt_21 kd_531 (v := .ref (be θ + 533)) rfl ?_
  refine g_iload X dX0_lookAt_24 4 rfl ?_
  refine g_aload_n X dX0_lookAt_26 rfl 1 rfl ?_
  refine g_aload_n X dX0_lookAt_27 rfl 2 rfl ?_
  refine g_iload_n X dX0_lookAt_28 rfl 3 rfl ?_
  refine g_iload X dX0_lookAt_29 4 rfl ?_
  obtain ⟨q2, hq2, h⟩ := Option.bind_eq_some_iff.mp h
  refine g_cV X (c_Trade_liked h2 hq2) lk_RX0_64 my_X9_liked (a := 428) (ci := 9) kd_428 (by decide) rfl (As := [.ref (be θ + x2), .int x3, .int x4]) (rest := [.int x4, .ref (be θ + 533)]) rfl rfl (Nat.le_of_ble_eq_true rfl) ⟨(Nat.le_of_ble_eq_true rfl), (Nat.le_of_ble_eq_true rfl)⟩ ⟨(Nat.le_of_ble_eq_true rfl), (Nat.le_of_ble_eq_true rfl)⟩ dX0_lookAt_31 (st' := [.int q2.1, .int x4, .ref (be θ + 533)]) (σ' := q2.2) rfl rfl ?_
  refine g_iast X kd_533 ln_533 (inb_in g1) dX0_lookAt_34 ?_
  refine g_aload_n X dX0_lookAt_35 rfl 0 rfl ?_
  refine g_get X fl_RX0_18 dX0_lookAt_36 kd_531 (v := .ref (be θ + 534)) rfl ?_
  refine g_iload X dX0_lookAt_39 4 rfl ?_
  refine g_aload_n X dX0_lookAt_41 rfl 1 rfl ?_
  refine g_aload_n X dX0_lookAt_42 rfl 2 rfl ?_
  refine g_iload_n X dX0_lookAt_43 rfl 3 rfl ?_
  refine g_iload X dX0_lookAt_44 4 rfl ?_
  obtain ⟨q3, hq3, h⟩ := Option.bind_eq_some_iff.mp h
  refine g_cV X (c_Trade_dueIfPutBack h2 hq3) lk_RX0_68 my_X9_dueIfPutBack (a := 428) (ci := 9) kd_428 (by decide) rfl (As := [.ref (be θ + x2), .int x3, .int x4]) (rest := [.int x4, .ref (be θ + 534)]) rfl rfl (Nat.le_of_ble_eq_true rfl) ⟨(Nat.le_of_ble_eq_true rfl), (Nat.le_of_ble_eq_true rfl)⟩ ⟨(Nat.le_of_ble_eq_true rfl), (Nat.le_of_ble_eq_true rfl)⟩ dX0_lookAt_46 (st' := [.int q3, .int x4, .ref (be θ + 534)]) (σ' := (sI q2.2 533 x4.toNatClampNeg q2.1)) rfl rfl ?_
  refine g_iast X kd_534 ln_534 (inb_in g1) dX0_lookAt_49 ?_
  exact g_vret X hr hlk dX0_lookAt_50 (by cases h; rfl)
set_option maxHeartbeats 4000000 in
set_option maxRecDepth 20000 in
theorem c_Bargain_lookAt {θ : Th} {l : Launch} {σ : Mem} {x2 : Nat} {x3 : Int32} {x4 : Int32} {r : Mem} (h2 : kd x2 = 8) (h : f_Bargain_lookAt σ x2 x3 x4 = some r) : Cn θ l yX0_lookAt cX0_lookAt 5 (none) 3 0 0 [.ref (be θ + 531), .ref (be θ + 428), .ref (be θ + x2), .int x3, .int x4] σ (none, r) :=
  Cn.of (by decide) (Nat.le_of_ble_eq_true rfl) (fun p e s m below meth c X hr hlk => g_Bargain_lookAt X hr hlk h2 h)
theorem dX0_weigh_0 : decode cX0_weigh 0 = .ok (.iconst 0, 1) := by decide +kernel
theorem dX0_weigh_1 : decode cX0_weigh 1 = .ok (.istore_n 3, 1) := by decide +kernel
theorem dX0_weigh_2 : decode cX0_weigh 2 = .ok (.iload_n 1, 1) := by decide +kernel
theorem dX0_weigh_3 : decode cX0_weigh 3 = .ok (.iconst 1, 1) := by decide +kernel
theorem dX0_weigh_4 : decode cX0_weigh 4 = .ok (.isub, 1) := by decide +kernel
theorem dX0_weigh_5 : decode cX0_weigh 5 = .ok (.istore 4, 2) := by decide +kernel
theorem dX0_weigh_7 : decode cX0_weigh 7 = .ok (.iload 4, 2) := by decide +kernel
theorem dX0_weigh_9 : decode cX0_weigh 9 = .ok (.ifCond .lt 66, 3) := by decide +kernel
theorem dX0_weigh_12 : decode cX0_weigh 12 = .ok (.aload_n 0, 1) := by decide +kernel
theorem dX0_weigh_13 : decode cX0_weigh 13 = .ok (.getfield 21, 3) := by decide +kernel
theorem dX0_weigh_16 : decode cX0_weigh 16 = .ok (.iload 4, 2) := by decide +kernel
theorem dX0_weigh_18 : decode cX0_weigh 18 = .ok (.iaload, 1) := by decide +kernel
theorem dX0_weigh_19 : decode cX0_weigh 19 = .ok (.istore 5, 2) := by decide +kernel
theorem dX0_weigh_21 : decode cX0_weigh 21 = .ok (.aload_n 0, 1) := by decide +kernel
theorem dX0_weigh_22 : decode cX0_weigh 22 = .ok (.getfield 9, 3) := by decide +kernel
theorem dX0_weigh_25 : decode cX0_weigh 25 = .ok (.iload 5, 2) := by decide +kernel
theorem dX0_weigh_27 : decode cX0_weigh 27 = .ok (.iaload, 1) := by decide +kernel
theorem dX0_weigh_28 : decode cX0_weigh 28 = .ok (.sipush 1000, 3) := by decide +kernel
theorem dX0_weigh_31 : decode cX0_weigh 31 = .ok (.imul, 1) := by decide +kernel
theorem dX0_weigh_32 : decode cX0_weigh 32 = .ok (.aload_n 0, 1) := by decide +kernel
theorem dX0_weigh_33 : decode cX0_weigh 33 = .ok (.getfield 15, 3) := by decide +kernel
theorem dX0_weigh_36 : decode cX0_weigh 36 = .ok (.iload 5, 2) := by decide +kernel
theorem dX0_weigh_38 : decode cX0_weigh 38 = .ok (.iaload, 1) := by decide +kernel
theorem dX0_weigh_39 : decode cX0_weigh 39 = .ok (.imul, 1) := by decide +kernel
theorem dX0_weigh_40 : decode cX0_weigh 40 = .ok (.bipush 100, 2) := by decide +kernel
theorem dX0_weigh_42 : decode cX0_weigh 42 = .ok (.aload_n 0, 1) := by decide +kernel
theorem dX0_weigh_43 : decode cX0_weigh 43 = .ok (.getfield 9, 3) := by decide +kernel
theorem dX0_weigh_46 : decode cX0_weigh 46 = .ok (.iload 5, 2) := by decide +kernel
theorem dX0_weigh_48 : decode cX0_weigh 48 = .ok (.iaload, 1) := by decide +kernel
theorem dX0_weigh_49 : decode cX0_weigh 49 = .ok (.isub, 1) := by decide +kernel
theorem dX0_weigh_50 : decode cX0_weigh 50 = .ok (.iload_n 3, 1) := by decide +kernel
theorem dX0_weigh_51 : decode cX0_weigh 51 = .ok (.sipush 1000, 3) := by decide +kernel
theorem dX0_weigh_54 : decode cX0_weigh 54 = .ok (.aload_n 0, 1) := by decide +kernel
theorem dX0_weigh_55 : decode cX0_weigh 55 = .ok (.getfield 18, 3) := by decide +kernel
theorem dX0_weigh_58 : decode cX0_weigh 58 = .ok (.iload 5, 2) := by decide +kernel
theorem dX0_weigh_60 : decode cX0_weigh 60 = .ok (.iaload, 1) := by decide +kernel
theorem dX0_weigh_61 : decode cX0_weigh 61 = .ok (.imul, 1) := by decide +kernel
theorem dX0_weigh_62 : decode cX0_weigh 62 = .ok (.isub, 1) := by decide +kernel
theorem dX0_weigh_63 : decode cX0_weigh 63 = .ok (.imul, 1) := by decide +kernel
theorem dX0_weigh_64 : decode cX0_weigh 64 = .ok (.iadd, 1) := by decide +kernel
theorem dX0_weigh_65 : decode cX0_weigh 65 = .ok (.bipush 100, 2) := by decide +kernel
theorem dX0_weigh_67 : decode cX0_weigh 67 = .ok (.idiv, 1) := by decide +kernel
theorem dX0_weigh_68 : decode cX0_weigh 68 = .ok (.istore_n 3, 1) := by decide +kernel
theorem dX0_weigh_69 : decode cX0_weigh 69 = .ok (.iinc 4 (-1), 3) := by decide +kernel
theorem dX0_weigh_72 : decode cX0_weigh 72 = .ok (.goto (-65), 3) := by decide +kernel
theorem dX0_weigh_75 : decode cX0_weigh 75 = .ok (.iload_n 3, 1) := by decide +kernel
theorem dX0_weigh_76 : decode cX0_weigh 76 = .ok (.aload_n 0, 1) := by decide +kernel
theorem dX0_weigh_77 : decode cX0_weigh 77 = .ok (.getfield 24, 3) := by decide +kernel
theorem dX0_weigh_80 : decode cX0_weigh 80 = .ok (.if_icmp .le 13, 3) := by decide +kernel
theorem dX0_weigh_83 : decode cX0_weigh 83 = .ok (.aload_n 0, 1) := by decide +kernel
theorem dX0_weigh_84 : decode cX0_weigh 84 = .ok (.iload_n 3, 1) := by decide +kernel
theorem dX0_weigh_85 : decode cX0_weigh 85 = .ok (.putfield 24, 3) := by decide +kernel
theorem dX0_weigh_88 : decode cX0_weigh 88 = .ok (.aload_n 0, 1) := by decide +kernel
theorem dX0_weigh_89 : decode cX0_weigh 89 = .ok (.iload_n 2, 1) := by decide +kernel
theorem dX0_weigh_90 : decode cX0_weigh 90 = .ok (.putfield 28, 3) := by decide +kernel
theorem dX0_weigh_93 : decode cX0_weigh 93 = .ok (.return_, 1) := by decide +kernel
def f_Bargain_weigh_L7 (σ : Mem) (x1 : Int32) (x2 : Int32) (a : Int32 × Int32) : Option ((Int32 × Int32) ⊕ (Int32)) :=
  @Prod.casesOn (Int32) (Int32) (fun _ => Option ((Int32 × Int32) ⊕ (Int32))) a fun z3 z4 =>
  if z4 < (0 : Int32) then
    some (.inr z3)
  else
    if inb z4 4 then
      if inb (mI σ 535 z4.toNatClampNeg) 8 then
        some (.inl ((((((mI σ 532 (mI σ 535 z4.toNatClampNeg).toNatClampNeg) * (1000 : Int32)) * (mI σ 533 (mI σ 535 z4.toNatClampNeg).toNatClampNeg)) + (((100 : Int32) - (mI σ 532 (mI σ 535 z4.toNatClampNeg).toNatClampNeg)) * (z3 - ((1000 : Int32) * (mI σ 534 (mI σ 535 z4.toNatClampNeg).toNatClampNeg))))) / (100 : Int32)), (z4 + (-1 : Int32))))
      else none
    else none
def f_Bargain_weigh (σ : Mem) (x1 : Int32) (x2 : Int32) : Option (Mem) :=
  (loopF (f_Bargain_weigh_L7 σ x1 x2) FU ((0 : Int32), (x1 - (1 : Int32)))).bind fun w4 =>
  if w4 ≤ (mI σ 531 4) then
    some σ
  else
    some (sI (sI σ 531 4 w4) 531 5 x2)
set_option maxHeartbeats 4000000 in
set_option maxRecDepth 20000 in
theorem gs_Bargain_weigh_L7 (X : Cx θ p s m args c cX0_weigh 6 RX0) (hr : meth.sig.returnType = none) (hlk : meth.locks = false)  {σ : Mem} {x1 : Int32} {x2 : Int32} {r : Mem}  (z3 : Int32) (z4 : Int32) (x : (Int32 × Int32) ⊕ (Int32)) (h : f_Bargain_weigh_L7 σ x1 x2 (z3, z4) = some x) (hk : Sum.elim (fun a => @Prod.casesOn (Int32) (Int32) (fun _ => Prop) a fun z3 z4 => GB θ p l e 0 s m args below meth c 6 (none, r) 7 [(0, .ref (be θ + 531)), (1, .int x1), (2, .int x2), (3, .int z3), (4, .int z4)] [] σ) (fun w => GB θ p l e 0 s m args below meth c 6 (none, r) 75 [(0, .ref (be θ + 531)), (1, .int x1), (2, .int x2), (3, .int w)] [] σ) x) : GB θ p l e 0 s m args below meth c 6 (none, r) 7 [(0, .ref (be θ + 531)), (1, .int x1), (2, .int x2), (3, .int z3), (4, .int z4)] [] σ := by
  unfold f_Bargain_weigh_L7 at h
  dsimp only at h
  refine g_iload X dX0_weigh_7 4 rfl ?_
  refine g_if_lt (tgt := 75) X dX0_weigh_9 (by decide) (fun c1 => ?_) (fun c1 => ?_)
  · replace h := (if_pos c1).symm.trans h
    have hk := inr_hk h hk
    exact g_sub (lv' := [(0, .ref (be θ + 531)), (1, .int x1), (2, .int x2), (3, .int z3)]) [0, 1, 2, 3] rfl hk
  · replace h := (if_neg c1).symm.trans h
    refine g_aload_n X dX0_weigh_12 rfl 0 rfl ?_
    refine g_get X fl_RX0_21 dX0_weigh_13 kd_531 (v := .ref (be θ + 535)) rfl ?_
    refine g_iload X dX0_weigh_16 4 rfl ?_
    obtain ⟨g2, h⟩ := ite_some h
    refine g_iald X kd_535 ln_535 (inb_in g2) dX0_weigh_18 ?_
    refine g_istore X dX0_weigh_19 (by decide) (lv' := [(5, .int (mI σ 535 z4.toNatClampNeg)), (0, .ref (be θ + 531)), (1, .int x1), (2, .int x2), (3, .int z3), (4, .int z4)]) rfl ?_
    refine g_aload_n X dX0_weigh_21 rfl 1 rfl ?_
    refine g_get X fl_RX0_9 dX0_weigh_22 kd_531 (v := .ref (be θ + 532)) rfl ?_
    refine g_iload X dX0_weigh_25 0 rfl ?_
    obtain ⟨g3, h⟩ := ite_some h
    refine g_iald X kd_532 ln_532 (inb_in g3) dX0_weigh_27 ?_
    refine g_sipush X dX0_weigh_28 (v := (1000 : Int32)) sp_1000 ?_
    refine g_imul X dX0_weigh_31 ?_
    refine g_aload_n X dX0_weigh_32 rfl 1 rfl ?_
    refine g_get X fl_RX0_15 dX0_weigh_33 kd_531 (v := .ref (be θ + 533)) rfl ?_
    refine g_iload X dX0_weigh_36 0 rfl ?_
    refine g_iald X kd_533 ln_533 (inb_in g3) dX0_weigh_38 ?_
    refine g_imul X dX0_weigh_39 ?_
    refine g_bipush X dX0_weigh_40 (v := (100 : Int32)) bp_100 ?_
    refine g_aload_n X dX0_weigh_42 rfl 1 rfl ?_
    refine g_get X fl_RX0_9 dX0_weigh_43 kd_531 (v := .ref (be θ + 532)) rfl ?_
    refine g_iload X dX0_weigh_46 0 rfl ?_
    refine g_iald X kd_532 ln_532 (inb_in g3) dX0_weigh_48 ?_
    refine g_isub X dX0_weigh_49 ?_
    refine g_iload_n X dX0_weigh_50 rfl 4 rfl ?_
    refine g_sipush X dX0_weigh_51 (v := (1000 : Int32)) sp_1000 ?_
    refine g_aload_n X dX0_weigh_54 rfl 1 rfl ?_
    refine g_get X fl_RX0_18 dX0_weigh_55 kd_531 (v := .ref (be θ + 534)) rfl ?_
    refine g_iload X dX0_weigh_58 0 rfl ?_
    refine g_iald X kd_534 ln_534 (inb_in g3) dX0_weigh_60 ?_
    refine g_imul X dX0_weigh_61 ?_
    refine g_isub X dX0_weigh_62 ?_
    refine g_imul X dX0_weigh_63 ?_
    refine g_iadd X dX0_weigh_64 ?_
    refine g_bipush X dX0_weigh_65 (v := (100 : Int32)) bp_100 ?_
    refine g_idiv X dX0_weigh_67 (by decide) ?_
    refine g_istore_n X dX0_weigh_68 rfl (by decide) (lv' := [(3, .int (((((mI σ 532 (mI σ 535 z4.toNatClampNeg).toNatClampNeg) * (1000 : Int32)) * (mI σ 533 (mI σ 535 z4.toNatClampNeg).toNatClampNeg)) + (((100 : Int32) - (mI σ 532 (mI σ 535 z4.toNatClampNeg).toNatClampNeg)) * (z3 - ((1000 : Int32) * (mI σ 534 (mI σ 535 z4.toNatClampNeg).toNatClampNeg))))) / (100 : Int32))), (5, .int (mI σ 535 z4.toNatClampNeg)), (0, .ref (be θ + 531)), (1, .int x1), (2, .int x2), (4, .int z4)]) rfl ?_
    refine g_iinc X dX0_weigh_69 (kq := 5) rfl (congrArg (HAdd.hAdd _) ic_m1) (by decide) (lv' := [(4, .int (z4 + (-1 : Int32))), (3, .int (((((mI σ 532 (mI σ 535 z4.toNatClampNeg).toNatClampNeg) * (1000 : Int32)) * (mI σ 533 (mI σ 535 z4.toNatClampNeg).toNatClampNeg)) + (((100 : Int32) - (mI σ 532 (mI σ 535 z4.toNatClampNeg).toNatClampNeg)) * (z3 - ((1000 : Int32) * (mI σ 534 (mI σ 535 z4.toNatClampNeg).toNatClampNeg))))) / (100 : Int32))), (5, .int (mI σ 535 z4.toNatClampNeg)), (0, .ref (be θ + 531)), (1, .int x1), (2, .int x2)]) rfl ?_
    refine g_goto (tgt := 7) X dX0_weigh_72 (by decide) ?_
    have hk := inl_hk h hk
    exact g_sub (lv' := [(0, .ref (be θ + 531)), (1, .int x1), (2, .int x2), (3, .int (((((mI σ 532 (mI σ 535 z4.toNatClampNeg).toNatClampNeg) * (1000 : Int32)) * (mI σ 533 (mI σ 535 z4.toNatClampNeg).toNatClampNeg)) + (((100 : Int32) - (mI σ 532 (mI σ 535 z4.toNatClampNeg).toNatClampNeg)) * (z3 - ((1000 : Int32) * (mI σ 534 (mI σ 535 z4.toNatClampNeg).toNatClampNeg))))) / (100 : Int32))), (4, .int (z4 + (-1 : Int32)))]) [3, 4, 5, 1, 0] rfl hk
set_option maxHeartbeats 4000000 in
set_option maxRecDepth 20000 in
theorem gl_Bargain_weigh_L7 (X : Cx θ p s m args c cX0_weigh 6 RX0) (hr : meth.sig.returnType = none) (hlk : meth.locks = false)  {σ : Mem} {x1 : Int32} {x2 : Int32} {r : Mem}  (n : Nat) (a : Int32 × Int32) (b : Int32) (h : loopF (f_Bargain_weigh_L7 σ x1 x2) n a = some b) (hk : (fun w => GB θ p l e 0 s m args below meth c 6 (none, r) 75 [(0, .ref (be θ + 531)), (1, .int x1), (2, .int x2), (3, .int w)] [] σ) b) : (fun a => @Prod.casesOn (Int32) (Int32) (fun _ => Prop) a fun z3 z4 => GB θ p l e 0 s m args below meth c 6 (none, r) 7 [(0, .ref (be θ + 531)), (1, .int x1), (2, .int x2), (3, .int z3), (4, .int z4)] [] σ) a :=
  loopF_by (P := (fun a => @Prod.casesOn (Int32) (Int32) (fun _ => Prop) a fun z3 z4 => GB θ p l e 0 s m args below meth c 6 (none, r) 7 [(0, .ref (be θ + 531)), (1, .int x1), (2, .int x2), (3, .int z3), (4, .int z4)] [] σ)) (K := (fun w => GB θ p l e 0 s m args below meth c 6 (none, r) 75 [(0, .ref (be θ + 531)), (1, .int x1), (2, .int x2), (3, .int w)] [] σ)) (fun a x h hk => by obtain ⟨z3, z4⟩ := a; exact gs_Bargain_weigh_L7 X hr hlk   z3 z4 x h hk) n a b h hk
set_option maxHeartbeats 4000000 in
set_option maxRecDepth 20000 in
theorem g_Bargain_weigh (X : Cx θ p s m args c cX0_weigh 6 RX0) (hr : meth.sig.returnType = none) (hlk : meth.locks = false)  {σ : Mem} {x1 : Int32} {x2 : Int32} {r : Mem}  (h : f_Bargain_weigh σ x1 x2 = some r) : GB θ p l e 0 s m args below meth c 6 (none, r) 0 [(0, .ref (be θ + 531)), (1, .int x1), (2, .int x2)] [] σ := by
  unfold f_Bargain_weigh at h
  refine g_iconst X dX0_weigh_0 (v := (0 : Int32)) ic_0 ?_
  refine g_istore_n X dX0_weigh_1 rfl (by decide) (lv' := [(3, .int (0 : Int32)), (0, .ref (be θ + 531)), (1, .int x1), (2, .int x2)]) rfl ?_
  refine g_iload_n X dX0_weigh_2 rfl 2 rfl ?_
  refine g_iconst X dX0_weigh_3 (v := (1 : Int32)) ic_1 ?_
  refine g_isub X dX0_weigh_4 ?_
  refine g_istore X dX0_weigh_5 (by decide) (lv' := [(4, .int (x1 - (1 : Int32))), (3, .int (0 : Int32)), (0, .ref (be θ + 531)), (1, .int x1), (2, .int x2)]) rfl ?_
  obtain ⟨w4, hq4, h⟩ := Option.bind_eq_some_iff.mp h
  refine g_sub (lv' := [(0, .ref (be θ + 531)), (1, .int x1), (2, .int x2), (3, .int (0 : Int32)), (4, .int (x1 - (1 : Int32)))]) [2, 3, 4, 1, 0] rfl (gl_Bargain_weigh_L7 X hr hlk    FU _ w4 hq4 ?_)
  refine g_iload_n X dX0_weigh_75 rfl 3 rfl ?_
  refine g_aload_n X dX0_weigh_76 rfl 0 rfl ?_
  refine g_get X fl_RX0_24 dX0_weigh_77 kd_531 (v := .int (mI σ 531 4)) rfl ?_
  refine g_icmp_le (tgt := 93) X dX0_weigh_80 (by decide) (fun c5 => ?_) (fun c5 => ?_)
  · replace h := (if_pos c5).symm.trans h
    exact g_vret X hr hlk dX0_weigh_93 (by cases h; rfl)
  · replace h := (if_neg c5).symm.trans h
    refine g_aload_n X dX0_weigh_83 rfl 0 rfl ?_
    refine g_iload_n X dX0_weigh_84 rfl 3 rfl ?_
    refine g_putI X fl_RX0_24 dX0_weigh_85 kd_531 rfl rfl rfl ?_
    refine g_aload_n X dX0_weigh_88 rfl 0 rfl ?_
    refine g_iload_n X dX0_weigh_89 rfl 2 rfl ?_
    refine g_putI X fl_RX0_28 dX0_weigh_90 kd_531 rfl rfl rfl ?_
    exact g_vret X hr hlk dX0_weigh_93 (by cases h; rfl)
set_option maxHeartbeats 4000000 in
set_option maxRecDepth 20000 in
theorem c_Bargain_weigh {θ : Th} {l : Launch} {σ : Mem} {x1 : Int32} {x2 : Int32} {r : Mem}  (h : f_Bargain_weigh σ x1 x2 = some r) : Cn θ l yX0_weigh cX0_weigh 6 (none) 0 0 0 [.ref (be θ + 531), .int x1, .int x2] σ (none, r) :=
  Cn.of (by decide) (Nat.le_of_ble_eq_true rfl) (fun p e s m below meth c X hr hlk => g_Bargain_weigh X hr hlk  h)
theorem dX0_tryOrders_0 : decode cX0_tryOrders 0 = .ok (.iload_n 2, 1) := by decide +kernel
theorem dX0_tryOrders_1 : decode cX0_tryOrders 1 = .ok (.iload_n 1, 1) := by decide +kernel
theorem dX0_tryOrders_2 : decode cX0_tryOrders 2 = .ok (.if_icmp .ge 8, 3) := by decide +kernel
theorem dX0_tryOrders_5 : decode cX0_tryOrders 5 = .ok (.iload_n 2, 1) := by decide +kernel
theorem dX0_tryOrders_6 : decode cX0_tryOrders 6 = .ok (.iconst 4, 1) := by decide +kernel
theorem dX0_tryOrders_7 : decode cX0_tryOrders 7 = .ok (.if_icmp .lt 11, 3) := by decide +kernel
theorem dX0_tryOrders_10 : decode cX0_tryOrders 10 = .ok (.aload_n 0, 1) := by decide +kernel
theorem dX0_tryOrders_11 : decode cX0_tryOrders 11 = .ok (.iload_n 2, 1) := by decide +kernel
theorem dX0_tryOrders_12 : decode cX0_tryOrders 12 = .ok (.iload 4, 2) := by decide +kernel
theorem dX0_tryOrders_14 : decode cX0_tryOrders 14 = .ok (.invokevirtual 71, 3) := by decide +kernel
theorem dX0_tryOrders_17 : decode cX0_tryOrders 17 = .ok (.return_, 1) := by decide +kernel
theorem dX0_tryOrders_18 : decode cX0_tryOrders 18 = .ok (.iconst 0, 1) := by decide +kernel
theorem dX0_tryOrders_19 : decode cX0_tryOrders 19 = .ok (.istore 5, 2) := by decide +kernel
theorem dX0_tryOrders_21 : decode cX0_tryOrders 21 = .ok (.iload 5, 2) := by decide +kernel
theorem dX0_tryOrders_23 : decode cX0_tryOrders 23 = .ok (.bipush 8, 2) := by decide +kernel
theorem dX0_tryOrders_25 : decode cX0_tryOrders 25 = .ok (.if_icmp .ge 51, 3) := by decide +kernel
theorem dX0_tryOrders_28 : decode cX0_tryOrders 28 = .ok (.iload_n 3, 1) := by decide +kernel
theorem dX0_tryOrders_29 : decode cX0_tryOrders 29 = .ok (.iload 5, 2) := by decide +kernel
theorem dX0_tryOrders_31 : decode cX0_tryOrders 31 = .ok (.ishr, 1) := by decide +kernel
theorem dX0_tryOrders_32 : decode cX0_tryOrders 32 = .ok (.iconst 1, 1) := by decide +kernel
theorem dX0_tryOrders_33 : decode cX0_tryOrders 33 = .ok (.iand, 1) := by decide +kernel
theorem dX0_tryOrders_34 : decode cX0_tryOrders 34 = .ok (.iconst 1, 1) := by decide +kernel
theorem dX0_tryOrders_35 : decode cX0_tryOrders 35 = .ok (.if_icmp .ne 35, 3) := by decide +kernel
theorem dX0_tryOrders_38 : decode cX0_tryOrders 38 = .ok (.aload_n 0, 1) := by decide +kernel
theorem dX0_tryOrders_39 : decode cX0_tryOrders 39 = .ok (.getfield 21, 3) := by decide +kernel
theorem dX0_tryOrders_42 : decode cX0_tryOrders 42 = .ok (.iload_n 2, 1) := by decide +kernel
theorem dX0_tryOrders_43 : decode cX0_tryOrders 43 = .ok (.iload 5, 2) := by decide +kernel
theorem dX0_tryOrders_45 : decode cX0_tryOrders 45 = .ok (.iastore, 1) := by decide +kernel
theorem dX0_tryOrders_46 : decode cX0_tryOrders 46 = .ok (.aload_n 0, 1) := by decide +kernel
theorem dX0_tryOrders_47 : decode cX0_tryOrders 47 = .ok (.iload_n 1, 1) := by decide +kernel
theorem dX0_tryOrders_48 : decode cX0_tryOrders 48 = .ok (.iload_n 2, 1) := by decide +kernel
theorem dX0_tryOrders_49 : decode cX0_tryOrders 49 = .ok (.iconst 1, 1) := by decide +kernel
theorem dX0_tryOrders_50 : decode cX0_tryOrders 50 = .ok (.iadd, 1) := by decide +kernel
theorem dX0_tryOrders_51 : decode cX0_tryOrders 51 = .ok (.iload_n 3, 1) := by decide +kernel
theorem dX0_tryOrders_52 : decode cX0_tryOrders 52 = .ok (.iconst 1, 1) := by decide +kernel
theorem dX0_tryOrders_53 : decode cX0_tryOrders 53 = .ok (.iload 5, 2) := by decide +kernel
theorem dX0_tryOrders_55 : decode cX0_tryOrders 55 = .ok (.ishl, 1) := by decide +kernel
theorem dX0_tryOrders_56 : decode cX0_tryOrders 56 = .ok (.iconst (-1), 1) := by decide +kernel
theorem dX0_tryOrders_57 : decode cX0_tryOrders 57 = .ok (.ixor, 1) := by decide +kernel
theorem dX0_tryOrders_58 : decode cX0_tryOrders 58 = .ok (.iand, 1) := by decide +kernel
theorem dX0_tryOrders_59 : decode cX0_tryOrders 59 = .ok (.iload 4, 2) := by decide +kernel
theorem dX0_tryOrders_61 : decode cX0_tryOrders 61 = .ok (.bipush 10, 2) := by decide +kernel
theorem dX0_tryOrders_63 : decode cX0_tryOrders 63 = .ok (.imul, 1) := by decide +kernel
theorem dX0_tryOrders_64 : decode cX0_tryOrders 64 = .ok (.iload 5, 2) := by decide +kernel
theorem dX0_tryOrders_66 : decode cX0_tryOrders 66 = .ok (.iadd, 1) := by decide +kernel
theorem dX0_tryOrders_67 : decode cX0_tryOrders 67 = .ok (.invokevirtual 57, 3) := by decide +kernel
theorem dX0_tryOrders_70 : decode cX0_tryOrders 70 = .ok (.iinc 5 1, 3) := by decide +kernel
theorem dX0_tryOrders_73 : decode cX0_tryOrders 73 = .ok (.goto (-52), 3) := by decide +kernel
theorem dX0_tryOrders_76 : decode cX0_tryOrders 76 = .ok (.return_, 1) := by decide +kernel
def f_Bargain_tryOrders_L21 (rc : Nat → Mem → Int32 → Int32 → Int32 → Int32 → Option (Mem)) (x1 : Int32) (x2 : Int32) (x3 : Int32) (x4 : Int32) (a : Mem × Int32) : Option ((Mem × Int32) ⊕ (Mem)) :=
  @Prod.casesOn (Mem) (Int32) (fun _ => Option ((Mem × Int32) ⊕ (Mem))) a fun τ z5 =>
  if (8 : Int32) ≤ z5 then
    some (.inr τ)
  else
    if ((x3 >>> (z5 &&& 31)) &&& (1 : Int32)) = (1 : Int32) then
      if inb x2 4 then
        (rc 0 (sI τ 535 x2.toNatClampNeg z5) x1 (x2 + (1 : Int32)) (x3 &&& (((1 : Int32) <<< (z5 &&& 31)) ^^^ (-1 : Int32))) ((x4 * (10 : Int32)) + z5)).bind fun q7 =>
        some (.inl (q7, (z5 + (1 : Int32))))
      else none
    else
      some (.inl (τ, (z5 + (1 : Int32))))
def f_Bargain_tryOrders (rc : Nat → Mem → Int32 → Int32 → Int32 → Int32 → Option (Mem)) (σ : Mem) (x1 : Int32) (x2 : Int32) (x3 : Int32) (x4 : Int32) : Option (Mem) :=
  if x1 ≤ x2 then
    (f_Bargain_weigh σ x2 x4).bind fun q2 =>
    some q2
  else
    if x2 < (4 : Int32) then
      loopF (f_Bargain_tryOrders_L21 rc x1 x2 x3 x4) FU (σ, (0 : Int32))
    else
      (f_Bargain_weigh σ x2 x4).bind fun q8 =>
      some q8
set_option maxHeartbeats 4000000 in
set_option maxRecDepth 20000 in
theorem gs_Bargain_tryOrders_L21 (X : Cx θ p s m args c cX0_tryOrders 6 RX0) (hr : meth.sig.returnType = none) (hlk : meth.locks = false) {rc : Nat → Mem → Int32 → Int32 → Int32 → Int32 → Option (Mem)} {nr : Nat} (hrec0 : ∀ {σ : Mem} {x1 : Int32} {x2 : Int32} {x3 : Int32} {x4 : Int32} {r : Mem}, rc 0 σ x1 x2 x3 x4 = some r → Cn θ l yX0_tryOrders cX0_tryOrders 6 (none) (0 + nr) 0 0 [.ref (be θ + 531), .int x1, .int x2, .int x3, .int x4] σ (none, r))  {x1 : Int32} {x2 : Int32} {x3 : Int32} {x4 : Int32} {r : Mem}  (τ : Mem) (z5 : Int32) (x : (Mem × Int32) ⊕ (Mem)) (h : f_Bargain_tryOrders_L21 rc x1 x2 x3 x4 (τ, z5) = some x) (hk : Sum.elim (fun a => @Prod.casesOn (Mem) (Int32) (fun _ => Prop) a fun τ z5 => GB θ p l e (0 + nr + 1) s m args below meth c 6 (none, r) 21 [(0, .ref (be θ + 531)), (1, .int x1), (2, .int x2), (3, .int x3), (4, .int x4), (5, .int z5)] [] τ) (fun b => b = r) x) : GB θ p l e (0 + nr + 1) s m args below meth c 6 (none, r) 21 [(0, .ref (be θ + 531)), (1, .int x1), (2, .int x2), (3, .int x3), (4, .int x4), (5, .int z5)] [] τ := by
  unfold f_Bargain_tryOrders_L21 at h
  dsimp only at h
  refine g_iload X dX0_tryOrders_21 5 rfl ?_
  refine g_bipush X dX0_tryOrders_23 (v := (8 : Int32)) bp_8 ?_
  refine g_icmp_ge (tgt := 76) X dX0_tryOrders_25 (by decide) (fun c4 => ?_) (fun c4 => ?_)
  · replace h := (if_pos c4).symm.trans h
    have hk := inr_hk h hk
    have hk : τ = r := hk
    subst hk
    exact g_vret X hr hlk dX0_tryOrders_76 rfl
  · replace h := (if_neg c4).symm.trans h
    refine g_iload_n X dX0_tryOrders_28 rfl 3 rfl ?_
    refine g_iload X dX0_tryOrders_29 5 rfl ?_
    refine g_ishr X dX0_tryOrders_31 ?_
    refine g_iconst X dX0_tryOrders_32 (v := (1 : Int32)) ic_1 ?_
    refine g_iand X dX0_tryOrders_33 ?_
    refine g_iconst X dX0_tryOrders_34 (v := (1 : Int32)) ic_1 ?_
    refine g_icmp_ne (tgt := 70) X dX0_tryOrders_35 (by decide) (fun c5 => ?_) (fun c5 => ?_)
    · replace h := (if_neg c5).symm.trans h
      refine g_iinc X dX0_tryOrders_70 (kq := 5) rfl (congrArg (HAdd.hAdd _) ic_1) (by decide) (lv' := [(5, .int (z5 + (1 : Int32))), (0, .ref (be θ + 531)), (1, .int x1), (2, .int x2), (3, .int x3), (4, .int x4)]) rfl ?_
      refine g_goto (tgt := 21) X dX0_tryOrders_73 (by decide) ?_
      have hk := inl_hk h hk
      exact g_sub (lv' := [(0, .ref (be θ + 531)), (1, .int x1), (2, .int x2), (3, .int x3), (4, .int x4), (5, .int (z5 + (1 : Int32)))]) [1, 2, 3, 4, 5, 0] rfl hk
    · replace h := (if_pos c5).symm.trans h
      refine g_aload_n X dX0_tryOrders_38 rfl 0 rfl ?_
      refine g_get X fl_RX0_21 dX0_tryOrders_39 kd_531 (v := .ref (be θ + 535)) rfl ?_
      refine g_iload_n X dX0_tryOrders_42 rfl 2 rfl ?_
      refine g_iload X dX0_tryOrders_43 5 rfl ?_
      obtain ⟨g6, h⟩ := ite_some h
      refine g_iast X kd_535 ln_535 (inb_in g6) dX0_tryOrders_45 ?_
      refine g_aload_n X dX0_tryOrders_46 rfl 0 rfl ?_
      refine g_iload_n X dX0_tryOrders_47 rfl 1 rfl ?_
      refine g_iload_n X dX0_tryOrders_48 rfl 2 rfl ?_
      refine g_iconst X dX0_tryOrders_49 (v := (1 : Int32)) ic_1 ?_
      refine g_iadd X dX0_tryOrders_50 ?_
      refine g_iload_n X dX0_tryOrders_51 rfl 3 rfl ?_
      refine g_iconst X dX0_tryOrders_52 (v := (1 : Int32)) ic_1 ?_
      refine g_iload X dX0_tryOrders_53 5 rfl ?_
      refine g_ishl X dX0_tryOrders_55 ?_
      refine g_iconst X dX0_tryOrders_56 (v := (-1 : Int32)) ic_m1 ?_
      refine g_ixor X dX0_tryOrders_57 ?_
      refine g_iand X dX0_tryOrders_58 ?_
      refine g_iload X dX0_tryOrders_59 4 rfl ?_
      refine g_bipush X dX0_tryOrders_61 (v := (10 : Int32)) bp_10 ?_
      refine g_imul X dX0_tryOrders_63 ?_
      refine g_iload X dX0_tryOrders_64 5 rfl ?_
      refine g_iadd X dX0_tryOrders_66 ?_
      obtain ⟨q7, hq7, h⟩ := Option.bind_eq_some_iff.mp h
      refine g_cV X (hrec0  hq7) lk_RX0_57 my_X0_tryOrders (a := 531) (ci := 0) kd_531 (by decide) rfl (As := [.int x1, .int (x2 + (1 : Int32)), .int (x3 &&& (((1 : Int32) <<< (z5 &&& 31)) ^^^ (-1 : Int32))), .int ((x4 * (10 : Int32)) + z5)]) (rest := []) rfl rfl (Nat.le_of_ble_eq_true rfl) ⟨Nat.le_refl _, (by show 8 + (6 + 11) + 40 * (0 + nr) ≤ 40 * (0 + nr + 1); omega)⟩ ⟨(Nat.le_of_ble_eq_true rfl), (Nat.le_of_ble_eq_true rfl)⟩ dX0_tryOrders_67 (st' := []) (σ' := q7) rfl rfl ?_
      refine g_iinc X dX0_tryOrders_70 (kq := 5) rfl (congrArg (HAdd.hAdd _) ic_1) (by decide) (lv' := [(5, .int (z5 + (1 : Int32))), (0, .ref (be θ + 531)), (1, .int x1), (2, .int x2), (3, .int x3), (4, .int x4)]) rfl ?_
      refine g_goto (tgt := 21) X dX0_tryOrders_73 (by decide) ?_
      have hk := inl_hk h hk
      exact g_sub (lv' := [(0, .ref (be θ + 531)), (1, .int x1), (2, .int x2), (3, .int x3), (4, .int x4), (5, .int (z5 + (1 : Int32)))]) [1, 2, 3, 4, 5, 0] rfl hk
set_option maxHeartbeats 4000000 in
set_option maxRecDepth 20000 in
theorem gl_Bargain_tryOrders_L21 (X : Cx θ p s m args c cX0_tryOrders 6 RX0) (hr : meth.sig.returnType = none) (hlk : meth.locks = false) {rc : Nat → Mem → Int32 → Int32 → Int32 → Int32 → Option (Mem)} {nr : Nat} (hrec0 : ∀ {σ : Mem} {x1 : Int32} {x2 : Int32} {x3 : Int32} {x4 : Int32} {r : Mem}, rc 0 σ x1 x2 x3 x4 = some r → Cn θ l yX0_tryOrders cX0_tryOrders 6 (none) (0 + nr) 0 0 [.ref (be θ + 531), .int x1, .int x2, .int x3, .int x4] σ (none, r))  {x1 : Int32} {x2 : Int32} {x3 : Int32} {x4 : Int32} {r : Mem}  (n : Nat) (a : Mem × Int32) (b : Mem) (h : loopF (f_Bargain_tryOrders_L21 rc x1 x2 x3 x4) n a = some b) (hk : (fun b => b = r) b) : (fun a => @Prod.casesOn (Mem) (Int32) (fun _ => Prop) a fun τ z5 => GB θ p l e (0 + nr + 1) s m args below meth c 6 (none, r) 21 [(0, .ref (be θ + 531)), (1, .int x1), (2, .int x2), (3, .int x3), (4, .int x4), (5, .int z5)] [] τ) a :=
  loopF_by (P := (fun a => @Prod.casesOn (Mem) (Int32) (fun _ => Prop) a fun τ z5 => GB θ p l e (0 + nr + 1) s m args below meth c 6 (none, r) 21 [(0, .ref (be θ + 531)), (1, .int x1), (2, .int x2), (3, .int x3), (4, .int x4), (5, .int z5)] [] τ)) (K := (fun b => b = r)) (fun a x h hk => by obtain ⟨τ, z5⟩ := a; exact gs_Bargain_tryOrders_L21 X hr hlk hrec0  τ z5 x h hk) n a b h hk
set_option maxHeartbeats 4000000 in
set_option maxRecDepth 20000 in
theorem g_Bargain_tryOrders (X : Cx θ p s m args c cX0_tryOrders 6 RX0) (hr : meth.sig.returnType = none) (hlk : meth.locks = false) {rc : Nat → Mem → Int32 → Int32 → Int32 → Int32 → Option (Mem)} {nr : Nat} (hrec0 : ∀ {σ : Mem} {x1 : Int32} {x2 : Int32} {x3 : Int32} {x4 : Int32} {r : Mem}, rc 0 σ x1 x2 x3 x4 = some r → Cn θ l yX0_tryOrders cX0_tryOrders 6 (none) (0 + nr) 0 0 [.ref (be θ + 531), .int x1, .int x2, .int x3, .int x4] σ (none, r))  {σ : Mem} {x1 : Int32} {x2 : Int32} {x3 : Int32} {x4 : Int32} {r : Mem}  (h : f_Bargain_tryOrders rc σ x1 x2 x3 x4 = some r) : GB θ p l e (0 + nr + 1) s m args below meth c 6 (none, r) 0 [(0, .ref (be θ + 531)), (1, .int x1), (2, .int x2), (3, .int x3), (4, .int x4)] [] σ := by
  unfold f_Bargain_tryOrders at h
  refine g_iload_n X dX0_tryOrders_0 rfl 2 rfl ?_
  refine g_iload_n X dX0_tryOrders_1 rfl 1 rfl ?_
  refine g_icmp_ge (tgt := 10) X dX0_tryOrders_2 (by decide) (fun c1 => ?_) (fun c1 => ?_)
  · replace h := (if_pos c1).symm.trans h
    refine g_aload_n X dX0_tryOrders_10 rfl 0 rfl ?_
    refine g_iload_n X dX0_tryOrders_11 rfl 2 rfl ?_
    refine g_iload X dX0_tryOrders_12 4 rfl ?_
    obtain ⟨q2, hq2, h⟩ := Option.bind_eq_some_iff.mp h
    refine g_cV X (c_Bargain_weigh  hq2) lk_RX0_71 my_X0_weigh (a := 531) (ci := 0) kd_531 (by decide) rfl (As := [.int x2, .int x4]) (rest := []) rfl rfl (Nat.le_of_ble_eq_true rfl) ⟨(by show 0 + 1 ≤ 0 + nr + 1; omega), (by show 8 + (6 + 11) + 40 * 0 ≤ 40 * (0 + nr + 1); omega)⟩ ⟨(Nat.le_of_ble_eq_true rfl), (Nat.le_of_ble_eq_true rfl)⟩ dX0_tryOrders_14 (st' := []) (σ' := q2) rfl rfl ?_
    exact g_vret X hr hlk dX0_tryOrders_17 (by cases h; rfl)
  · replace h := (if_neg c1).symm.trans h
    refine g_iload_n X dX0_tryOrders_5 rfl 2 rfl ?_
    refine g_iconst X dX0_tryOrders_6 (v := (4 : Int32)) ic_4 ?_
    refine g_icmp_lt (tgt := 18) X dX0_tryOrders_7 (by decide) (fun c3 => ?_) (fun c3 => ?_)
    · replace h := (if_pos c3).symm.trans h
      refine g_iconst X dX0_tryOrders_18 (v := (0 : Int32)) ic_0 ?_
      refine g_istore X dX0_tryOrders_19 (by decide) (lv' := [(5, .int (0 : Int32)), (0, .ref (be θ + 531)), (1, .int x1), (2, .int x2), (3, .int x3), (4, .int x4)]) rfl ?_
      exact g_sub (lv' := [(0, .ref (be θ + 531)), (1, .int x1), (2, .int x2), (3, .int x3), (4, .int x4), (5, .int (0 : Int32))]) [1, 2, 3, 4, 5, 0] rfl (gl_Bargain_tryOrders_L21 X hr hlk hrec0   FU _ _ h rfl)
    · replace h := (if_neg c3).symm.trans h
      refine g_aload_n X dX0_tryOrders_10 rfl 0 rfl ?_
      refine g_iload_n X dX0_tryOrders_11 rfl 2 rfl ?_
      refine g_iload X dX0_tryOrders_12 4 rfl ?_
      obtain ⟨q8, hq8, h⟩ := Option.bind_eq_some_iff.mp h
      refine g_cV X (c_Bargain_weigh  hq8) lk_RX0_71 my_X0_weigh (a := 531) (ci := 0) kd_531 (by decide) rfl (As := [.int x2, .int x4]) (rest := []) rfl rfl (Nat.le_of_ble_eq_true rfl) ⟨(by show 0 + 1 ≤ 0 + nr + 1; omega), (by show 8 + (6 + 11) + 40 * 0 ≤ 40 * (0 + nr + 1); omega)⟩ ⟨(Nat.le_of_ble_eq_true rfl), (Nat.le_of_ble_eq_true rfl)⟩ dX0_tryOrders_14 (st' := []) (σ' := q8) rfl rfl ?_
      exact g_vret X hr hlk dX0_tryOrders_17 (by cases h; rfl)
def f_TO : Nat → Nat → Mem → Int32 → Int32 → Int32 → Int32 → Option (Mem)
  | 0 => fun _ _ _ _ _ _ => none
  | n + 1 => fun no σ z0 z1 z2 z3 => f_Bargain_tryOrders (f_TO n) σ z0 z1 z2 z3
set_option maxHeartbeats 4000000 in
set_option maxRecDepth 100000 in
theorem a_TO {θ : Th} {l : Launch} : ∀ n : Nat, (∀ {σ : Mem} {x1 : Int32} {x2 : Int32} {x3 : Int32} {x4 : Int32} {r : Mem}, f_TO n 0 σ x1 x2 x3 x4 = some r → Cn θ l yX0_tryOrders cX0_tryOrders 6 (none) (0 + n) 0 0 [.ref (be θ + 531), .int x1, .int x2, .int x3, .int x4] σ (none, r)) := by
  intro n
  induction n with
  | zero =>
    · intro σ x1 x2 x3 x4 r  h
      cases h
  | succ n ih =>
    have i0 := @ih
    · intro σ x1 x2 x3 x4 r  h
      exact Cn.of (by decide) (Nat.le_of_ble_eq_true rfl) (fun p e s m below meth c X hr hlk => g_Bargain_tryOrders (nr := n) (rc := f_TO n) X hr hlk i0  h)
set_option maxRecDepth 100000 in
theorem c_TO_0 {θ : Th} {l : Launch} : ∀ {σ : Mem} {x1 : Int32} {x2 : Int32} {x3 : Int32} {x4 : Int32} {r : Mem}, f_TO 8 0 σ x1 x2 x3 x4 = some r → Cn θ l yX0_tryOrders cX0_tryOrders 6 (none) 8 0 0 [.ref (be θ + 531), .int x1, .int x2, .int x3, .int x4] σ (none, r) := (a_TO 8)
theorem dX0_seekOrders_0 : decode cX0_seekOrders 0 = .ok (.iconst 0, 1) := by decide +kernel
theorem dX0_seekOrders_1 : decode cX0_seekOrders 1 = .ok (.istore 5, 2) := by decide +kernel
theorem dX0_seekOrders_3 : decode cX0_seekOrders 3 = .ok (.iconst 0, 1) := by decide +kernel
theorem dX0_seekOrders_4 : decode cX0_seekOrders 4 = .ok (.istore 6, 2) := by decide +kernel
theorem dX0_seekOrders_6 : decode cX0_seekOrders 6 = .ok (.iload 6, 2) := by decide +kernel
theorem dX0_seekOrders_8 : decode cX0_seekOrders 8 = .ok (.aload_n 1, 1) := by decide +kernel
theorem dX0_seekOrders_9 : decode cX0_seekOrders 9 = .ok (.getfield 37, 3) := by decide +kernel
theorem dX0_seekOrders_12 : decode cX0_seekOrders 12 = .ok (.getfield 43, 3) := by decide +kernel
theorem dX0_seekOrders_15 : decode cX0_seekOrders 15 = .ok (.if_icmp .ge 38, 3) := by decide +kernel
theorem dX0_seekOrders_18 : decode cX0_seekOrders 18 = .ok (.aload_n 0, 1) := by decide +kernel
theorem dX0_seekOrders_19 : decode cX0_seekOrders 19 = .ok (.aload_n 1, 1) := by decide +kernel
theorem dX0_seekOrders_20 : decode cX0_seekOrders 20 = .ok (.aload_n 2, 1) := by decide +kernel
theorem dX0_seekOrders_21 : decode cX0_seekOrders 21 = .ok (.iload_n 3, 1) := by decide +kernel
theorem dX0_seekOrders_22 : decode cX0_seekOrders 22 = .ok (.iload 6, 2) := by decide +kernel
theorem dX0_seekOrders_24 : decode cX0_seekOrders 24 = .ok (.invokevirtual 48, 3) := by decide +kernel
theorem dX0_seekOrders_27 : decode cX0_seekOrders 27 = .ok (.aload_n 2, 1) := by decide +kernel
theorem dX0_seekOrders_28 : decode cX0_seekOrders 28 = .ok (.getfield 52, 3) := by decide +kernel
theorem dX0_seekOrders_31 : decode cX0_seekOrders 31 = .ok (.iload 6, 2) := by decide +kernel
theorem dX0_seekOrders_33 : decode cX0_seekOrders 33 = .ok (.iaload, 1) := by decide +kernel
theorem dX0_seekOrders_34 : decode cX0_seekOrders 34 = .ok (.iconst (-1), 1) := by decide +kernel
theorem dX0_seekOrders_35 : decode cX0_seekOrders 35 = .ok (.if_icmp .ne 12, 3) := by decide +kernel
theorem dX0_seekOrders_38 : decode cX0_seekOrders 38 = .ok (.iload 5, 2) := by decide +kernel
theorem dX0_seekOrders_40 : decode cX0_seekOrders 40 = .ok (.iconst 1, 1) := by decide +kernel
theorem dX0_seekOrders_41 : decode cX0_seekOrders 41 = .ok (.iload 6, 2) := by decide +kernel
theorem dX0_seekOrders_43 : decode cX0_seekOrders 43 = .ok (.ishl, 1) := by decide +kernel
theorem dX0_seekOrders_44 : decode cX0_seekOrders 44 = .ok (.ior, 1) := by decide +kernel
theorem dX0_seekOrders_45 : decode cX0_seekOrders 45 = .ok (.istore 5, 2) := by decide +kernel
theorem dX0_seekOrders_47 : decode cX0_seekOrders 47 = .ok (.iinc 6 1, 3) := by decide +kernel
theorem dX0_seekOrders_50 : decode cX0_seekOrders 50 = .ok (.goto (-44), 3) := by decide +kernel
theorem dX0_seekOrders_53 : decode cX0_seekOrders 53 = .ok (.aload_n 0, 1) := by decide +kernel
theorem dX0_seekOrders_54 : decode cX0_seekOrders 54 = .ok (.iconst 0, 1) := by decide +kernel
theorem dX0_seekOrders_55 : decode cX0_seekOrders 55 = .ok (.putfield 24, 3) := by decide +kernel
theorem dX0_seekOrders_58 : decode cX0_seekOrders 58 = .ok (.aload_n 0, 1) := by decide +kernel
theorem dX0_seekOrders_59 : decode cX0_seekOrders 59 = .ok (.iconst 1, 1) := by decide +kernel
theorem dX0_seekOrders_60 : decode cX0_seekOrders 60 = .ok (.putfield 28, 3) := by decide +kernel
theorem dX0_seekOrders_63 : decode cX0_seekOrders 63 = .ok (.iconst 1, 1) := by decide +kernel
theorem dX0_seekOrders_64 : decode cX0_seekOrders 64 = .ok (.istore 6, 2) := by decide +kernel
theorem dX0_seekOrders_66 : decode cX0_seekOrders 66 = .ok (.iload 6, 2) := by decide +kernel
theorem dX0_seekOrders_68 : decode cX0_seekOrders 68 = .ok (.iload 4, 2) := by decide +kernel
theorem dX0_seekOrders_70 : decode cX0_seekOrders 70 = .ok (.if_icmp .gt 19, 3) := by decide +kernel
theorem dX0_seekOrders_73 : decode cX0_seekOrders 73 = .ok (.aload_n 0, 1) := by decide +kernel
theorem dX0_seekOrders_74 : decode cX0_seekOrders 74 = .ok (.iload 6, 2) := by decide +kernel
theorem dX0_seekOrders_76 : decode cX0_seekOrders 76 = .ok (.iconst 0, 1) := by decide +kernel
theorem dX0_seekOrders_77 : decode cX0_seekOrders 77 = .ok (.iload 5, 2) := by decide +kernel
theorem dX0_seekOrders_79 : decode cX0_seekOrders 79 = .ok (.iconst 1, 1) := by decide +kernel
theorem dX0_seekOrders_80 : decode cX0_seekOrders 80 = .ok (.invokevirtual 57, 3) := by decide +kernel
theorem dX0_seekOrders_83 : decode cX0_seekOrders 83 = .ok (.iinc 6 1, 3) := by decide +kernel
theorem dX0_seekOrders_86 : decode cX0_seekOrders 86 = .ok (.goto (-20), 3) := by decide +kernel
theorem dX0_seekOrders_89 : decode cX0_seekOrders 89 = .ok (.return_, 1) := by decide +kernel
def f_Bargain_seekOrders_L6 (x2 : Nat) (x3 : Int32) (x4 : Int32) (a : Mem × Int32 × Int32) : Option ((Mem × Int32 × Int32) ⊕ (Mem × Int32)) :=
  @Prod.casesOn (Mem) (Int32 × Int32) (fun _ => Option ((Mem × Int32 × Int32) ⊕ (Mem × Int32))) a fun τ b0 =>
  @Prod.casesOn (Int32) (Int32) (fun _ => Option ((Mem × Int32 × Int32) ⊕ (Mem × Int32))) b0 fun z5 z6 =>
  if kd (mR τ 428 1) = 2 then
    if (mI τ (mR τ 428 1) 3) ≤ z6 then
      some (.inr (τ, z5))
    else
      (f_Bargain_lookAt τ x2 x3 z6).bind fun q3 =>
      if inb z6 8 then
        if (mI q3 (x2 + 1) z6.toNatClampNeg) = (-1 : Int32) then
          some (.inl (q3, (z5 ||| ((1 : Int32) <<< (z6 &&& 31))), (z6 + (1 : Int32))))
        else
          some (.inl (q3, z5, (z6 + (1 : Int32))))
      else none
  else none
def f_Bargain_seekOrders_L66 (x2 : Nat) (x3 : Int32) (x4 : Int32) (y5 : Int32) (a : Mem × Int32) : Option ((Mem × Int32) ⊕ (Mem)) :=
  @Prod.casesOn (Mem) (Int32) (fun _ => Option ((Mem × Int32) ⊕ (Mem))) a fun τ z6 =>
  if x4 < z6 then
    some (.inr τ)
  else
    (f_TO 8 0 τ z6 (0 : Int32) y5 (1 : Int32)).bind fun q8 =>
    some (.inl (q8, (z6 + (1 : Int32))))
def f_Bargain_seekOrders (σ : Mem) (x2 : Nat) (x3 : Int32) (x4 : Int32) : Option (Mem) :=
  (loopF (f_Bargain_seekOrders_L6 x2 x3 x4) FU (σ, (0 : Int32), (0 : Int32))).bind fun q6 =>
  @Prod.casesOn (Mem) (Int32) (fun _ => Option (Mem)) q6 fun τ6 w6_5 =>
  loopF (f_Bargain_seekOrders_L66 x2 x3 x4 w6_5) FU ((sI (sI τ6 531 4 (0 : Int32)) 531 5 (1 : Int32)), (1 : Int32))
set_option maxHeartbeats 4000000 in
set_option maxRecDepth 20000 in
theorem gs_Bargain_seekOrders_L6 (X : Cx θ p s m args c cX0_seekOrders 7 RX0) (hr : meth.sig.returnType = none) (hlk : meth.locks = false)  {x2 : Nat} {x3 : Int32} {x4 : Int32} {r : Mem} (h2 : kd x2 = 8) (τ : Mem) (z5 : Int32) (z6 : Int32) (x : (Mem × Int32 × Int32) ⊕ (Mem × Int32)) (h : f_Bargain_seekOrders_L6 x2 x3 x4 (τ, z5, z6) = some x) (hk : Sum.elim (fun a => @Prod.casesOn (Mem) (Int32 × Int32) (fun _ => Prop) a fun τ b0 => @Prod.casesOn (Int32) (Int32) (fun _ => Prop) b0 fun z5 z6 => GB θ p l e 9 s m args below meth c 7 (none, r) 6 [(0, .ref (be θ + 531)), (1, .ref (be θ + 428)), (2, .ref (be θ + x2)), (3, .int x3), (4, .int x4), (5, .int z5), (6, .int z6)] [] τ) (fun ex => @Prod.casesOn (Mem) (Int32) (fun _ => Prop) ex fun τ w_5 => GB θ p l e 9 s m args below meth c 7 (none, r) 53 [(0, .ref (be θ + 531)), (1, .ref (be θ + 428)), (2, .ref (be θ + x2)), (3, .int x3), (4, .int x4), (5, .int w_5)] [] τ) x) : GB θ p l e 9 s m args below meth c 7 (none, r) 6 [(0, .ref (be θ + 531)), (1, .ref (be θ + 428)), (2, .ref (be θ + x2)), (3, .int x3), (4, .int x4), (5, .int z5), (6, .int z6)] [] τ := by
  unfold f_Bargain_seekOrders_L6 at h
  dsimp only at h
  refine g_iload X dX0_seekOrders_6 6 rfl ?_
  refine g_aload_n X dX0_seekOrders_8 rfl 1 rfl ?_
  refine g_get X fl_RX0_37 dX0_seekOrders_9 kd_428 (v := rv (be θ) (mR τ 428 1)) rfl ?_
  obtain ⟨g1, h⟩ := ite_some h
  rw [← rv_of (β := be θ) g1 (by decide)]
  refine g_get X fl_RX0_43 dX0_seekOrders_12 g1 (v := .int (mI τ (mR τ 428 1) 3)) rfl ?_
  refine g_icmp_ge (tgt := 53) X dX0_seekOrders_15 (by decide) (fun c2 => ?_) (fun c2 => ?_)
  · replace h := (if_pos c2).symm.trans h
    have hk := inr_hk h hk
    exact g_sub (lv' := [(0, .ref (be θ + 531)), (1, .ref (be θ + 428)), (2, .ref (be θ + x2)), (3, .int x3), (4, .int x4), (5, .int z5)]) [0, 1, 2, 3, 4, 5] rfl hk
  · replace h := (if_neg c2).symm.trans h
    refine g_aload_n X dX0_seekOrders_18 rfl 0 rfl ?_
    refine g_aload_n X dX0_seekOrders_19 rfl 1 rfl ?_
    refine g_aload_n X dX0_seekOrders_20 rfl 2 rfl ?_
    refine g_iload_n X dX0_seekOrders_21 rfl 3 rfl ?_
    refine g_iload X dX0_seekOrders_22 6 rfl ?_
    obtain ⟨q3, hq3, h⟩ := Option.bind_eq_some_iff.mp h
    refine g_cV X (c_Bargain_lookAt h2 hq3) lk_RX0_48 my_X0_lookAt (a := 531) (ci := 0) kd_531 (by decide) rfl (As := [.ref (be θ + 428), .ref (be θ + x2), .int x3, .int z6]) (rest := []) rfl rfl (Nat.le_of_ble_eq_true rfl) ⟨(Nat.le_of_ble_eq_true rfl), (Nat.le_of_ble_eq_true rfl)⟩ ⟨(Nat.le_of_ble_eq_true rfl), (Nat.le_of_ble_eq_true rfl)⟩ dX0_seekOrders_24 (st' := []) (σ' := q3) rfl rfl ?_
    refine g_aload_n X dX0_seekOrders_27 rfl 2 rfl ?_
    refine g_get X fl_RX0_52 dX0_seekOrders_28 h2 (v := .ref (be θ + (x2 + 1))) rfl ?_
    refine g_iload X dX0_seekOrders_31 6 rfl ?_
    obtain ⟨g4, h⟩ := ite_some h
    refine g_iald X (lk7_0 h2).1 (lk7_0 h2).2 (inb_in g4) dX0_seekOrders_33 ?_
    refine g_iconst X dX0_seekOrders_34 (v := (-1 : Int32)) ic_m1 ?_
    refine g_icmp_ne (tgt := 47) X dX0_seekOrders_35 (by decide) (fun c5 => ?_) (fun c5 => ?_)
    · replace h := (if_neg c5).symm.trans h
      refine g_iinc X dX0_seekOrders_47 (kq := 6) rfl (congrArg (HAdd.hAdd _) ic_1) (by decide) (lv' := [(6, .int (z6 + (1 : Int32))), (0, .ref (be θ + 531)), (1, .ref (be θ + 428)), (2, .ref (be θ + x2)), (3, .int x3), (4, .int x4), (5, .int z5)]) rfl ?_
      refine g_goto (tgt := 6) X dX0_seekOrders_50 (by decide) ?_
      have hk := inl_hk h hk
      exact g_sub (lv' := [(0, .ref (be θ + 531)), (1, .ref (be θ + 428)), (2, .ref (be θ + x2)), (3, .int x3), (4, .int x4), (5, .int z5), (6, .int (z6 + (1 : Int32)))]) [1, 2, 3, 4, 5, 6, 0] rfl hk
    · replace h := (if_pos c5).symm.trans h
      refine g_iload X dX0_seekOrders_38 5 rfl ?_
      refine g_iconst X dX0_seekOrders_40 (v := (1 : Int32)) ic_1 ?_
      refine g_iload X dX0_seekOrders_41 6 rfl ?_
      refine g_ishl X dX0_seekOrders_43 ?_
      refine g_ior X dX0_seekOrders_44 ?_
      refine g_istore X dX0_seekOrders_45 (by decide) (lv' := [(5, .int (z5 ||| ((1 : Int32) <<< (z6 &&& 31)))), (0, .ref (be θ + 531)), (1, .ref (be θ + 428)), (2, .ref (be θ + x2)), (3, .int x3), (4, .int x4), (6, .int z6)]) rfl ?_
      refine g_iinc X dX0_seekOrders_47 (kq := 6) rfl (congrArg (HAdd.hAdd _) ic_1) (by decide) (lv' := [(6, .int (z6 + (1 : Int32))), (5, .int (z5 ||| ((1 : Int32) <<< (z6 &&& 31)))), (0, .ref (be θ + 531)), (1, .ref (be θ + 428)), (2, .ref (be θ + x2)), (3, .int x3), (4, .int x4)]) rfl ?_
      refine g_goto (tgt := 6) X dX0_seekOrders_50 (by decide) ?_
      have hk := inl_hk h hk
      exact g_sub (lv' := [(0, .ref (be θ + 531)), (1, .ref (be θ + 428)), (2, .ref (be θ + x2)), (3, .int x3), (4, .int x4), (5, .int (z5 ||| ((1 : Int32) <<< (z6 &&& 31)))), (6, .int (z6 + (1 : Int32)))]) [2, 3, 4, 5, 6, 1, 0] rfl hk
set_option maxHeartbeats 4000000 in
set_option maxRecDepth 20000 in
theorem gl_Bargain_seekOrders_L6 (X : Cx θ p s m args c cX0_seekOrders 7 RX0) (hr : meth.sig.returnType = none) (hlk : meth.locks = false)  {x2 : Nat} {x3 : Int32} {x4 : Int32} {r : Mem} (h2 : kd x2 = 8) (n : Nat) (a : Mem × Int32 × Int32) (b : Mem × Int32) (h : loopF (f_Bargain_seekOrders_L6 x2 x3 x4) n a = some b) (hk : (fun ex => @Prod.casesOn (Mem) (Int32) (fun _ => Prop) ex fun τ w_5 => GB θ p l e 9 s m args below meth c 7 (none, r) 53 [(0, .ref (be θ + 531)), (1, .ref (be θ + 428)), (2, .ref (be θ + x2)), (3, .int x3), (4, .int x4), (5, .int w_5)] [] τ) b) : (fun a => @Prod.casesOn (Mem) (Int32 × Int32) (fun _ => Prop) a fun τ b0 => @Prod.casesOn (Int32) (Int32) (fun _ => Prop) b0 fun z5 z6 => GB θ p l e 9 s m args below meth c 7 (none, r) 6 [(0, .ref (be θ + 531)), (1, .ref (be θ + 428)), (2, .ref (be θ + x2)), (3, .int x3), (4, .int x4), (5, .int z5), (6, .int z6)] [] τ) a :=
  loopF_by (P := (fun a => @Prod.casesOn (Mem) (Int32 × Int32) (fun _ => Prop) a fun τ b0 => @Prod.casesOn (Int32) (Int32) (fun _ => Prop) b0 fun z5 z6 => GB θ p l e 9 s m args below meth c 7 (none, r) 6 [(0, .ref (be θ + 531)), (1, .ref (be θ + 428)), (2, .ref (be θ + x2)), (3, .int x3), (4, .int x4), (5, .int z5), (6, .int z6)] [] τ)) (K := (fun ex => @Prod.casesOn (Mem) (Int32) (fun _ => Prop) ex fun τ w_5 => GB θ p l e 9 s m args below meth c 7 (none, r) 53 [(0, .ref (be θ + 531)), (1, .ref (be θ + 428)), (2, .ref (be θ + x2)), (3, .int x3), (4, .int x4), (5, .int w_5)] [] τ)) (fun a x h hk => by obtain ⟨τ, z5, z6⟩ := a; exact gs_Bargain_seekOrders_L6 X hr hlk  h2 τ z5 z6 x h hk) n a b h hk
set_option maxHeartbeats 4000000 in
set_option maxRecDepth 20000 in
theorem gs_Bargain_seekOrders_L66 (X : Cx θ p s m args c cX0_seekOrders 7 RX0) (hr : meth.sig.returnType = none) (hlk : meth.locks = false)  {x2 : Nat} {x3 : Int32} {x4 : Int32} {y5 : Int32} {r : Mem} (h2 : kd x2 = 8) (τ : Mem) (z6 : Int32) (x : (Mem × Int32) ⊕ (Mem)) (h : f_Bargain_seekOrders_L66 x2 x3 x4 y5 (τ, z6) = some x) (hk : Sum.elim (fun a => @Prod.casesOn (Mem) (Int32) (fun _ => Prop) a fun τ z6 => GB θ p l e 9 s m args below meth c 7 (none, r) 66 [(0, .ref (be θ + 531)), (1, .ref (be θ + 428)), (2, .ref (be θ + x2)), (3, .int x3), (4, .int x4), (5, .int y5), (6, .int z6)] [] τ) (fun b => b = r) x) : GB θ p l e 9 s m args below meth c 7 (none, r) 66 [(0, .ref (be θ + 531)), (1, .ref (be θ + 428)), (2, .ref (be θ + x2)), (3, .int x3), (4, .int x4), (5, .int y5), (6, .int z6)] [] τ := by
  unfold f_Bargain_seekOrders_L66 at h
  dsimp only at h
  refine g_iload X dX0_seekOrders_66 6 rfl ?_
  refine g_iload X dX0_seekOrders_68 4 rfl ?_
  refine g_icmp_gt (tgt := 89) X dX0_seekOrders_70 (by decide) (fun c7 => ?_) (fun c7 => ?_)
  · replace h := (if_pos c7).symm.trans h
    have hk := inr_hk h hk
    have hk : τ = r := hk
    subst hk
    exact g_vret X hr hlk dX0_seekOrders_89 rfl
  · replace h := (if_neg c7).symm.trans h
    refine g_aload_n X dX0_seekOrders_73 rfl 0 rfl ?_
    refine g_iload X dX0_seekOrders_74 6 rfl ?_
    refine g_iconst X dX0_seekOrders_76 (v := (0 : Int32)) ic_0 ?_
    refine g_iload X dX0_seekOrders_77 5 rfl ?_
    refine g_iconst X dX0_seekOrders_79 (v := (1 : Int32)) ic_1 ?_
    obtain ⟨q8, hq8, h⟩ := Option.bind_eq_some_iff.mp h
    refine g_cV X (c_TO_0  hq8) lk_RX0_57 my_X0_tryOrders (a := 531) (ci := 0) kd_531 (by decide) rfl (As := [.int z6, .int (0 : Int32), .int y5, .int (1 : Int32)]) (rest := []) rfl rfl (Nat.le_of_ble_eq_true rfl) ⟨(Nat.le_of_ble_eq_true rfl), (Nat.le_of_ble_eq_true rfl)⟩ ⟨(Nat.le_of_ble_eq_true rfl), (Nat.le_of_ble_eq_true rfl)⟩ dX0_seekOrders_80 (st' := []) (σ' := q8) rfl rfl ?_
    refine g_iinc X dX0_seekOrders_83 (kq := 6) rfl (congrArg (HAdd.hAdd _) ic_1) (by decide) (lv' := [(6, .int (z6 + (1 : Int32))), (0, .ref (be θ + 531)), (1, .ref (be θ + 428)), (2, .ref (be θ + x2)), (3, .int x3), (4, .int x4), (5, .int y5)]) rfl ?_
    refine g_goto (tgt := 66) X dX0_seekOrders_86 (by decide) ?_
    have hk := inl_hk h hk
    exact g_sub (lv' := [(0, .ref (be θ + 531)), (1, .ref (be θ + 428)), (2, .ref (be θ + x2)), (3, .int x3), (4, .int x4), (5, .int y5), (6, .int (z6 + (1 : Int32)))]) [1, 2, 3, 4, 5, 6, 0] rfl hk
set_option maxHeartbeats 4000000 in
set_option maxRecDepth 20000 in
theorem gl_Bargain_seekOrders_L66 (X : Cx θ p s m args c cX0_seekOrders 7 RX0) (hr : meth.sig.returnType = none) (hlk : meth.locks = false)  {x2 : Nat} {x3 : Int32} {x4 : Int32} {y5 : Int32} {r : Mem} (h2 : kd x2 = 8) (n : Nat) (a : Mem × Int32) (b : Mem) (h : loopF (f_Bargain_seekOrders_L66 x2 x3 x4 y5) n a = some b) (hk : (fun b => b = r) b) : (fun a => @Prod.casesOn (Mem) (Int32) (fun _ => Prop) a fun τ z6 => GB θ p l e 9 s m args below meth c 7 (none, r) 66 [(0, .ref (be θ + 531)), (1, .ref (be θ + 428)), (2, .ref (be θ + x2)), (3, .int x3), (4, .int x4), (5, .int y5), (6, .int z6)] [] τ) a :=
  loopF_by (P := (fun a => @Prod.casesOn (Mem) (Int32) (fun _ => Prop) a fun τ z6 => GB θ p l e 9 s m args below meth c 7 (none, r) 66 [(0, .ref (be θ + 531)), (1, .ref (be θ + 428)), (2, .ref (be θ + x2)), (3, .int x3), (4, .int x4), (5, .int y5), (6, .int z6)] [] τ)) (K := (fun b => b = r)) (fun a x h hk => by obtain ⟨τ, z6⟩ := a; exact gs_Bargain_seekOrders_L66 X hr hlk  h2 τ z6 x h hk) n a b h hk
set_option maxHeartbeats 4000000 in
set_option maxRecDepth 20000 in
theorem g_Bargain_seekOrders (X : Cx θ p s m args c cX0_seekOrders 7 RX0) (hr : meth.sig.returnType = none) (hlk : meth.locks = false)  {σ : Mem} {x2 : Nat} {x3 : Int32} {x4 : Int32} {r : Mem} (h2 : kd x2 = 8) (h : f_Bargain_seekOrders σ x2 x3 x4 = some r) : GB θ p l e 9 s m args below meth c 7 (none, r) 0 [(0, .ref (be θ + 531)), (1, .ref (be θ + 428)), (2, .ref (be θ + x2)), (3, .int x3), (4, .int x4)] [] σ := by
  unfold f_Bargain_seekOrders at h
  refine g_iconst X dX0_seekOrders_0 (v := (0 : Int32)) ic_0 ?_
  refine g_istore X dX0_seekOrders_1 (by decide) (lv' := [(5, .int (0 : Int32)), (0, .ref (be θ + 531)), (1, .ref (be θ + 428)), (2, .ref (be θ + x2)), (3, .int x3), (4, .int x4)]) rfl ?_
  refine g_iconst X dX0_seekOrders_3 (v := (0 : Int32)) ic_0 ?_
  refine g_istore X dX0_seekOrders_4 (by decide) (lv' := [(6, .int (0 : Int32)), (5, .int (0 : Int32)), (0, .ref (be θ + 531)), (1, .ref (be θ + 428)), (2, .ref (be θ + x2)), (3, .int x3), (4, .int x4)]) rfl ?_
  obtain ⟨q6, hq6, h⟩ := Option.bind_eq_some_iff.mp h
  refine g_sub (lv' := [(0, .ref (be θ + 531)), (1, .ref (be θ + 428)), (2, .ref (be θ + x2)), (3, .int x3), (4, .int x4), (5, .int (0 : Int32)), (6, .int (0 : Int32))]) [2, 3, 4, 5, 6, 1, 0] rfl (gl_Bargain_seekOrders_L6 X hr hlk  h2  FU _ q6 hq6 ?_)
  obtain ⟨τ6, w6_5⟩ := q6
  dsimp only at h ⊢
  refine g_aload_n X dX0_seekOrders_53 rfl 0 rfl ?_
  refine g_iconst X dX0_seekOrders_54 (v := (0 : Int32)) ic_0 ?_
  refine g_putI X fl_RX0_24 dX0_seekOrders_55 kd_531 rfl rfl rfl ?_
  refine g_aload_n X dX0_seekOrders_58 rfl 0 rfl ?_
  refine g_iconst X dX0_seekOrders_59 (v := (1 : Int32)) ic_1 ?_
  refine g_putI X fl_RX0_28 dX0_seekOrders_60 kd_531 rfl rfl rfl ?_
  refine g_iconst X dX0_seekOrders_63 (v := (1 : Int32)) ic_1 ?_
  refine g_istore X dX0_seekOrders_64 (by decide) (lv' := [(6, .int (1 : Int32)), (0, .ref (be θ + 531)), (1, .ref (be θ + 428)), (2, .ref (be θ + x2)), (3, .int x3), (4, .int x4), (5, .int w6_5)]) rfl ?_
  exact g_sub (lv' := [(0, .ref (be θ + 531)), (1, .ref (be θ + 428)), (2, .ref (be θ + x2)), (3, .int x3), (4, .int x4), (5, .int w6_5), (6, .int (1 : Int32))]) [1, 2, 3, 4, 5, 6, 0] rfl (gl_Bargain_seekOrders_L66 X hr hlk  h2  FU _ _ h rfl)
set_option maxHeartbeats 4000000 in
set_option maxRecDepth 20000 in
theorem c_Bargain_seekOrders {θ : Th} {l : Launch} {σ : Mem} {x2 : Nat} {x3 : Int32} {x4 : Int32} {r : Mem} (h2 : kd x2 = 8) (h : f_Bargain_seekOrders σ x2 x3 x4 = some r) : Cn θ l yX0_seekOrders cX0_seekOrders 7 (none) 9 0 0 [.ref (be θ + 531), .ref (be θ + 428), .ref (be θ + x2), .int x3, .int x4] σ (none, r) :=
  Cn.of (by decide) (Nat.le_of_ble_eq_true rfl) (fun p e s m below meth c X hr hlk => g_Bargain_seekOrders X hr hlk h2 h)
theorem dX0_sitDown_0 : decode cX0_sitDown 0 = .ok (.aload_n 0, 1) := by decide +kernel
theorem dX0_sitDown_1 : decode cX0_sitDown 1 = .ok (.iload 4, 2) := by decide +kernel
theorem dX0_sitDown_3 : decode cX0_sitDown 3 = .ok (.putfield 31, 3) := by decide +kernel
theorem dX0_sitDown_6 : decode cX0_sitDown 6 = .ok (.aload_n 0, 1) := by decide +kernel
theorem dX0_sitDown_7 : decode cX0_sitDown 7 = .ok (.aload_n 1, 1) := by decide +kernel
theorem dX0_sitDown_8 : decode cX0_sitDown 8 = .ok (.getfield 37, 3) := by decide +kernel
theorem dX0_sitDown_11 : decode cX0_sitDown 11 = .ok (.iload 4, 2) := by decide +kernel
theorem dX0_sitDown_13 : decode cX0_sitDown 13 = .ok (.invokevirtual 75, 3) := by decide +kernel
theorem dX0_sitDown_16 : decode cX0_sitDown 16 = .ok (.putfield 34, 3) := by decide +kernel
theorem dX0_sitDown_19 : decode cX0_sitDown 19 = .ok (.aload_n 0, 1) := by decide +kernel
theorem dX0_sitDown_20 : decode cX0_sitDown 20 = .ok (.aload_n 1, 1) := by decide +kernel
theorem dX0_sitDown_21 : decode cX0_sitDown 21 = .ok (.aload_n 2, 1) := by decide +kernel
theorem dX0_sitDown_22 : decode cX0_sitDown 22 = .ok (.iload_n 3, 1) := by decide +kernel
theorem dX0_sitDown_23 : decode cX0_sitDown 23 = .ok (.iload 4, 2) := by decide +kernel
theorem dX0_sitDown_25 : decode cX0_sitDown 25 = .ok (.invokevirtual 48, 3) := by decide +kernel
theorem dX0_sitDown_28 : decode cX0_sitDown 28 = .ok (.return_, 1) := by decide +kernel
def f_Bargain_sitDown (σ : Mem) (x2 : Nat) (x3 : Int32) (x4 : Int32) : Option (Mem) :=
  if kd (mR σ 428 1) = 2 then
    (f_City_priceOf (sI σ 531 6 x4) (mR σ 428 1) x4).bind fun q2 =>
    (f_Bargain_lookAt (sI (sI σ 531 6 x4) 531 7 q2) x2 x3 x4).bind fun q3 =>
    some q3
  else none
set_option maxHeartbeats 4000000 in
set_option maxRecDepth 20000 in
theorem g_Bargain_sitDown (X : Cx θ p s m args c cX0_sitDown 5 RX0) (hr : meth.sig.returnType = none) (hlk : meth.locks = false)  {σ : Mem} {x2 : Nat} {x3 : Int32} {x4 : Int32} {r : Mem} (h2 : kd x2 = 8) (h : f_Bargain_sitDown σ x2 x3 x4 = some r) : GB θ p l e 4 s m args below meth c 5 (none, r) 0 [(0, .ref (be θ + 531)), (1, .ref (be θ + 428)), (2, .ref (be θ + x2)), (3, .int x3), (4, .int x4)] [] σ := by
  unfold f_Bargain_sitDown at h
  refine g_aload_n X dX0_sitDown_0 rfl 0 rfl ?_
  refine g_iload X dX0_sitDown_1 4 rfl ?_
  refine g_putI X fl_RX0_31 dX0_sitDown_3 kd_531 rfl rfl rfl ?_
  refine g_aload_n X dX0_sitDown_6 rfl 0 rfl ?_
  refine g_aload_n X dX0_sitDown_7 rfl 1 rfl ?_
  refine g_get X fl_RX0_37 dX0_sitDown_8 kd_428 (v := rv (be θ) (mR σ 428 1)) rfl ?_
  refine g_iload X dX0_sitDown_11 4 rfl ?_
  obtain ⟨g1, h⟩ := ite_some h
  rw [← rv_of (β := be θ) g1 (by decide)]
  obtain ⟨q2, hq2, h⟩ := Option.bind_eq_some_iff.mp h
  refine g_cV X (c_City_priceOf g1 hq2) lk_RX0_75 my_X1_priceOf (a := (mR σ 428 1)) (ci := 1) g1 (by decide) rfl (As := [.int x4]) (rest := [.ref (be θ + 531)]) rfl rfl (Nat.le_of_ble_eq_true rfl) ⟨(Nat.le_of_ble_eq_true rfl), (Nat.le_of_ble_eq_true rfl)⟩ ⟨(Nat.le_of_ble_eq_true rfl), (Nat.le_of_ble_eq_true rfl)⟩ dX0_sitDown_13 (st' := [.int q2, .ref (be θ + 531)]) (σ' := (sI σ 531 6 x4)) rfl rfl ?_
  refine g_putI X fl_RX0_34 dX0_sitDown_16 kd_531 rfl rfl rfl ?_
  refine g_aload_n X dX0_sitDown_19 rfl 0 rfl ?_
  refine g_aload_n X dX0_sitDown_20 rfl 1 rfl ?_
  refine g_aload_n X dX0_sitDown_21 rfl 2 rfl ?_
  refine g_iload_n X dX0_sitDown_22 rfl 3 rfl ?_
  refine g_iload X dX0_sitDown_23 4 rfl ?_
  obtain ⟨q3, hq3, h⟩ := Option.bind_eq_some_iff.mp h
  refine g_cV X (c_Bargain_lookAt h2 hq3) lk_RX0_48 my_X0_lookAt (a := 531) (ci := 0) kd_531 (by decide) rfl (As := [.ref (be θ + 428), .ref (be θ + x2), .int x3, .int x4]) (rest := []) rfl rfl (Nat.le_of_ble_eq_true rfl) ⟨(Nat.le_of_ble_eq_true rfl), (Nat.le_of_ble_eq_true rfl)⟩ ⟨(Nat.le_of_ble_eq_true rfl), (Nat.le_of_ble_eq_true rfl)⟩ dX0_sitDown_25 (st' := []) (σ' := q3) rfl rfl ?_
  exact g_vret X hr hlk dX0_sitDown_28 (by cases h; rfl)
set_option maxHeartbeats 4000000 in
set_option maxRecDepth 20000 in
theorem c_Bargain_sitDown {θ : Th} {l : Launch} {σ : Mem} {x2 : Nat} {x3 : Int32} {x4 : Int32} {r : Mem} (h2 : kd x2 = 8) (h : f_Bargain_sitDown σ x2 x3 x4 = some r) : Cn θ l yX0_sitDown cX0_sitDown 5 (none) 4 0 0 [.ref (be θ + 531), .ref (be θ + 428), .ref (be θ + x2), .int x3, .int x4] σ (none, r) :=
  Cn.of (by decide) (Nat.le_of_ble_eq_true rfl) (fun p e s m below meth c X hr hlk => g_Bargain_sitDown X hr hlk h2 h)
theorem dX0_sellerHas_0 : decode cX0_sellerHas 0 = .ok (.iload_n 2, 1) := by decide +kernel
theorem dX0_sellerHas_1 : decode cX0_sellerHas 1 = .ok (.iconst 1, 1) := by decide +kernel
theorem dX0_sellerHas_2 : decode cX0_sellerHas 2 = .ok (.if_icmp .ne 18, 3) := by decide +kernel
theorem dX0_sellerHas_5 : decode cX0_sellerHas 5 = .ok (.aload_n 0, 1) := by decide +kernel
theorem dX0_sellerHas_6 : decode cX0_sellerHas 6 = .ok (.getfield 34, 3) := by decide +kernel
theorem dX0_sellerHas_9 : decode cX0_sellerHas 9 = .ok (.aload_n 0, 1) := by decide +kernel
theorem dX0_sellerHas_10 : decode cX0_sellerHas 10 = .ok (.getfield 34, 3) := by decide +kernel
theorem dX0_sellerHas_13 : decode cX0_sellerHas 13 = .ok (.iload_n 1, 1) := by decide +kernel
theorem dX0_sellerHas_14 : decode cX0_sellerHas 14 = .ok (.imul, 1) := by decide +kernel
theorem dX0_sellerHas_15 : decode cX0_sellerHas 15 = .ok (.bipush 10, 2) := by decide +kernel
theorem dX0_sellerHas_17 : decode cX0_sellerHas 17 = .ok (.idiv, 1) := by decide +kernel
theorem dX0_sellerHas_18 : decode cX0_sellerHas 18 = .ok (.isub, 1) := by decide +kernel
theorem dX0_sellerHas_19 : decode cX0_sellerHas 19 = .ok (.ireturn, 1) := by decide +kernel
theorem dX0_sellerHas_20 : decode cX0_sellerHas 20 = .ok (.iload_n 2, 1) := by decide +kernel
theorem dX0_sellerHas_21 : decode cX0_sellerHas 21 = .ok (.iconst 2, 1) := by decide +kernel
theorem dX0_sellerHas_22 : decode cX0_sellerHas 22 = .ok (.if_icmp .ne 7, 3) := by decide +kernel
theorem dX0_sellerHas_25 : decode cX0_sellerHas 25 = .ok (.iconst 1, 1) := by decide +kernel
theorem dX0_sellerHas_26 : decode cX0_sellerHas 26 = .ok (.goto 4, 3) := by decide +kernel
theorem dX0_sellerHas_29 : decode cX0_sellerHas 29 = .ok (.iconst 0, 1) := by decide +kernel
theorem dX0_sellerHas_30 : decode cX0_sellerHas 30 = .ok (.ireturn, 1) := by decide +kernel
def f_Bargain_sellerHas (σ : Mem) (x1 : Int32) (x2 : Int32) : Option (Int32) :=
  if x2 = (1 : Int32) then
    some ((mI σ 531 7) - (((mI σ 531 7) * x1) / (10 : Int32)))
  else
    if x2 = (2 : Int32) then
      some (1 : Int32)
    else
      some (0 : Int32)
set_option maxHeartbeats 4000000 in
set_option maxRecDepth 20000 in
theorem g_Bargain_sellerHas (X : Cx θ p s m args c cX0_sellerHas 3 RX0) (hr : meth.sig.returnType = some .int) (hlk : meth.locks = false)  {σ : Mem} {x1 : Int32} {x2 : Int32} {r : Int32}  (h : f_Bargain_sellerHas σ x1 x2 = some r) : GB θ p l e 0 s m args below meth c 3 (some (.int r), σ) 0 [(0, .ref (be θ + 531)), (1, .int x1), (2, .int x2)] [] σ := by
  unfold f_Bargain_sellerHas at h
  refine g_iload_n X dX0_sellerHas_0 rfl 2 rfl ?_
  refine g_iconst X dX0_sellerHas_1 (v := (1 : Int32)) ic_1 ?_
  refine g_icmp_ne (tgt := 20) X dX0_sellerHas_2 (by decide) (fun c1 => ?_) (fun c1 => ?_)
  · replace h := (if_neg c1).symm.trans h
    refine g_iload_n X dX0_sellerHas_20 rfl 2 rfl ?_
    refine g_iconst X dX0_sellerHas_21 (v := (2 : Int32)) ic_2 ?_
    refine g_icmp_ne (tgt := 29) X dX0_sellerHas_22 (by decide) (fun c2 => ?_) (fun c2 => ?_)
    · replace h := (if_neg c2).symm.trans h
      refine g_iconst X dX0_sellerHas_29 (v := (0 : Int32)) ic_0 ?_
      exact g_iret X hr hlk dX0_sellerHas_30 (by cases h; rfl)
    · replace h := (if_pos c2).symm.trans h
      refine g_iconst X dX0_sellerHas_25 (v := (1 : Int32)) ic_1 ?_
      refine g_goto (tgt := 30) X dX0_sellerHas_26 (by decide) ?_
      exact g_iret X hr hlk dX0_sellerHas_30 (by cases h; rfl)
  · replace h := (if_pos c1).symm.trans h
    refine g_aload_n X dX0_sellerHas_5 rfl 0 rfl ?_
    refine g_get X fl_RX0_34 dX0_sellerHas_6 kd_531 (v := .int (mI σ 531 7)) rfl ?_
    refine g_aload_n X dX0_sellerHas_9 rfl 0 rfl ?_
    refine g_get X fl_RX0_34 dX0_sellerHas_10 kd_531 (v := .int (mI σ 531 7)) rfl ?_
    refine g_iload_n X dX0_sellerHas_13 rfl 1 rfl ?_
    refine g_imul X dX0_sellerHas_14 ?_
    refine g_bipush X dX0_sellerHas_15 (v := (10 : Int32)) bp_10 ?_
    refine g_idiv X dX0_sellerHas_17 (by decide) ?_
    refine g_isub X dX0_sellerHas_18 ?_
    exact g_iret X hr hlk dX0_sellerHas_19 (by cases h; rfl)
set_option maxHeartbeats 4000000 in
set_option maxRecDepth 20000 in
theorem c_Bargain_sellerHas {θ : Th} {l : Launch} {σ : Mem} {x1 : Int32} {x2 : Int32} {r : Int32}  (h : f_Bargain_sellerHas σ x1 x2 = some r) : Cn θ l yX0_sellerHas cX0_sellerHas 3 (some .int) 0 0 0 [.ref (be θ + 531), .int x1, .int x2] σ (some (.int r), σ) :=
  Cn.of (by decide) (Nat.le_of_ble_eq_true rfl) (fun p e s m below meth c X hr hlk => g_Bargain_sellerHas X hr hlk  h)
theorem dX0_buyerHas_0 : decode cX0_buyerHas 0 = .ok (.iload_n 2, 1) := by decide +kernel
theorem dX0_buyerHas_1 : decode cX0_buyerHas 1 = .ok (.iconst 1, 1) := by decide +kernel
theorem dX0_buyerHas_2 : decode cX0_buyerHas 2 = .ok (.if_icmp .ne 20, 3) := by decide +kernel
theorem dX0_buyerHas_5 : decode cX0_buyerHas 5 = .ok (.aload_n 0, 1) := by decide +kernel
theorem dX0_buyerHas_6 : decode cX0_buyerHas 6 = .ok (.getfield 15, 3) := by decide +kernel
theorem dX0_buyerHas_9 : decode cX0_buyerHas 9 = .ok (.aload_n 0, 1) := by decide +kernel
theorem dX0_buyerHas_10 : decode cX0_buyerHas 10 = .ok (.getfield 31, 3) := by decide +kernel
theorem dX0_buyerHas_13 : decode cX0_buyerHas 13 = .ok (.iaload, 1) := by decide +kernel
theorem dX0_buyerHas_14 : decode cX0_buyerHas 14 = .ok (.aload_n 0, 1) := by decide +kernel
theorem dX0_buyerHas_15 : decode cX0_buyerHas 15 = .ok (.iload_n 1, 1) := by decide +kernel
theorem dX0_buyerHas_16 : decode cX0_buyerHas 16 = .ok (.iload_n 2, 1) := by decide +kernel
theorem dX0_buyerHas_17 : decode cX0_buyerHas 17 = .ok (.invokevirtual 79, 3) := by decide +kernel
theorem dX0_buyerHas_20 : decode cX0_buyerHas 20 = .ok (.isub, 1) := by decide +kernel
theorem dX0_buyerHas_21 : decode cX0_buyerHas 21 = .ok (.ireturn, 1) := by decide +kernel
theorem dX0_buyerHas_22 : decode cX0_buyerHas 22 = .ok (.iload_n 2, 1) := by decide +kernel
theorem dX0_buyerHas_23 : decode cX0_buyerHas 23 = .ok (.iconst 2, 1) := by decide +kernel
theorem dX0_buyerHas_24 : decode cX0_buyerHas 24 = .ok (.if_icmp .ne 27, 3) := by decide +kernel
theorem dX0_buyerHas_27 : decode cX0_buyerHas 27 = .ok (.aload_n 0, 1) := by decide +kernel
theorem dX0_buyerHas_28 : decode cX0_buyerHas 28 = .ok (.getfield 15, 3) := by decide +kernel
theorem dX0_buyerHas_31 : decode cX0_buyerHas 31 = .ok (.aload_n 0, 1) := by decide +kernel
theorem dX0_buyerHas_32 : decode cX0_buyerHas 32 = .ok (.getfield 31, 3) := by decide +kernel
theorem dX0_buyerHas_35 : decode cX0_buyerHas 35 = .ok (.iaload, 1) := by decide +kernel
theorem dX0_buyerHas_36 : decode cX0_buyerHas 36 = .ok (.iconst 4, 1) := by decide +kernel
theorem dX0_buyerHas_37 : decode cX0_buyerHas 37 = .ok (.idiv, 1) := by decide +kernel
theorem dX0_buyerHas_38 : decode cX0_buyerHas 38 = .ok (.aload_n 0, 1) := by decide +kernel
theorem dX0_buyerHas_39 : decode cX0_buyerHas 39 = .ok (.getfield 18, 3) := by decide +kernel
theorem dX0_buyerHas_42 : decode cX0_buyerHas 42 = .ok (.aload_n 0, 1) := by decide +kernel
theorem dX0_buyerHas_43 : decode cX0_buyerHas 43 = .ok (.getfield 31, 3) := by decide +kernel
theorem dX0_buyerHas_46 : decode cX0_buyerHas 46 = .ok (.iaload, 1) := by decide +kernel
theorem dX0_buyerHas_47 : decode cX0_buyerHas 47 = .ok (.isub, 1) := by decide +kernel
theorem dX0_buyerHas_48 : decode cX0_buyerHas 48 = .ok (.goto 4, 3) := by decide +kernel
theorem dX0_buyerHas_51 : decode cX0_buyerHas 51 = .ok (.iconst 0, 1) := by decide +kernel
theorem dX0_buyerHas_52 : decode cX0_buyerHas 52 = .ok (.ireturn, 1) := by decide +kernel
def f_Bargain_buyerHas (σ : Mem) (x1 : Int32) (x2 : Int32) : Option (Int32) :=
  if x2 = (1 : Int32) then
    if inb (mI σ 531 6) 8 then
      (f_Bargain_sellerHas σ x1 x2).bind fun q5 =>
      some ((mI σ 533 (mI σ 531 6).toNatClampNeg) - q5)
    else none
  else
    if x2 = (2 : Int32) then
      if inb (mI σ 531 6) 8 then
        some (((mI σ 533 (mI σ 531 6).toNatClampNeg) / (4 : Int32)) - (mI σ 534 (mI σ 531 6).toNatClampNeg))
      else none
    else
      some (0 : Int32)
set_option maxHeartbeats 4000000 in
set_option maxRecDepth 20000 in
theorem g_Bargain_buyerHas (X : Cx θ p s m args c cX0_buyerHas 3 RX0) (hr : meth.sig.returnType = some .int) (hlk : meth.locks = false)  {σ : Mem} {x1 : Int32} {x2 : Int32} {r : Int32}  (h : f_Bargain_buyerHas σ x1 x2 = some r) : GB θ p l e 1 s m args below meth c 3 (some (.int r), σ) 0 [(0, .ref (be θ + 531)), (1, .int x1), (2, .int x2)] [] σ := by
  unfold f_Bargain_buyerHas at h
  refine g_iload_n X dX0_buyerHas_0 rfl 2 rfl ?_
  refine g_iconst X dX0_buyerHas_1 (v := (1 : Int32)) ic_1 ?_
  refine g_icmp_ne (tgt := 22) X dX0_buyerHas_2 (by decide) (fun c1 => ?_) (fun c1 => ?_)
  · replace h := (if_neg c1).symm.trans h
    refine g_iload_n X dX0_buyerHas_22 rfl 2 rfl ?_
    refine g_iconst X dX0_buyerHas_23 (v := (2 : Int32)) ic_2 ?_
    refine g_icmp_ne (tgt := 51) X dX0_buyerHas_24 (by decide) (fun c2 => ?_) (fun c2 => ?_)
    · replace h := (if_neg c2).symm.trans h
      refine g_iconst X dX0_buyerHas_51 (v := (0 : Int32)) ic_0 ?_
      exact g_iret X hr hlk dX0_buyerHas_52 (by cases h; rfl)
    · replace h := (if_pos c2).symm.trans h
      refine g_aload_n X dX0_buyerHas_27 rfl 0 rfl ?_
      refine g_get X fl_RX0_15 dX0_buyerHas_28 kd_531 (v := .ref (be θ + 533)) rfl ?_
      refine g_aload_n X dX0_buyerHas_31 rfl 0 rfl ?_
      refine g_get X fl_RX0_31 dX0_buyerHas_32 kd_531 (v := .int (mI σ 531 6)) rfl ?_
      obtain ⟨g3, h⟩ := ite_some h
      refine g_iald X kd_533 ln_533 (inb_in g3) dX0_buyerHas_35 ?_
      refine g_iconst X dX0_buyerHas_36 (v := (4 : Int32)) ic_4 ?_
      refine g_idiv X dX0_buyerHas_37 (by decide) ?_
      refine g_aload_n X dX0_buyerHas_38 rfl 0 rfl ?_
      refine g_get X fl_RX0_18 dX0_buyerHas_39 kd_531 (v := .ref (be θ + 534)) rfl ?_
      refine g_aload_n X dX0_buyerHas_42 rfl 0 rfl ?_
      refine g_get X fl_RX0_31 dX0_buyerHas_43 kd_531 (v := .int (mI σ 531 6)) rfl ?_
      refine g_iald X kd_534 ln_534 (inb_in g3) dX0_buyerHas_46 ?_
      refine g_isub X dX0_buyerHas_47 ?_
      refine g_goto (tgt := 52) X dX0_buyerHas_48 (by decide) ?_
      exact g_iret X hr hlk dX0_buyerHas_52 (by cases h; rfl)
  · replace h := (if_pos c1).symm.trans h
    refine g_aload_n X dX0_buyerHas_5 rfl 0 rfl ?_
    refine g_get X fl_RX0_15 dX0_buyerHas_6 kd_531 (v := .ref (be θ + 533)) rfl ?_
    refine g_aload_n X dX0_buyerHas_9 rfl 0 rfl ?_
    refine g_get X fl_RX0_31 dX0_buyerHas_10 kd_531 (v := .int (mI σ 531 6)) rfl ?_
    obtain ⟨g4, h⟩ := ite_some h
    refine g_iald X kd_533 ln_533 (inb_in g4) dX0_buyerHas_13 ?_
    refine g_aload_n X dX0_buyerHas_14 rfl 0 rfl ?_
    refine g_iload_n X dX0_buyerHas_15 rfl 1 rfl ?_
    refine g_iload_n X dX0_buyerHas_16 rfl 2 rfl ?_
    obtain ⟨q5, hq5, h⟩ := Option.bind_eq_some_iff.mp h
    refine g_cV X (c_Bargain_sellerHas  hq5) lk_RX0_79 my_X0_sellerHas (a := 531) (ci := 0) kd_531 (by decide) rfl (As := [.int x1, .int x2]) (rest := [.int (mI σ 533 (mI σ 531 6).toNatClampNeg)]) rfl rfl (Nat.le_of_ble_eq_true rfl) ⟨(Nat.le_of_ble_eq_true rfl), (Nat.le_of_ble_eq_true rfl)⟩ ⟨(Nat.le_of_ble_eq_true rfl), (Nat.le_of_ble_eq_true rfl)⟩ dX0_buyerHas_17 (st' := [.int q5, .int (mI σ 533 (mI σ 531 6).toNatClampNeg)]) (σ' := σ) rfl rfl ?_
    refine g_isub X dX0_buyerHas_20 ?_
    exact g_iret X hr hlk dX0_buyerHas_21 (by cases h; rfl)
set_option maxHeartbeats 4000000 in
set_option maxRecDepth 20000 in
theorem c_Bargain_buyerHas {θ : Th} {l : Launch} {σ : Mem} {x1 : Int32} {x2 : Int32} {r : Int32}  (h : f_Bargain_buyerHas σ x1 x2 = some r) : Cn θ l yX0_buyerHas cX0_buyerHas 3 (some .int) 1 0 0 [.ref (be θ + 531), .int x1, .int x2] σ (some (.int r), σ) :=
  Cn.of (by decide) (Nat.le_of_ble_eq_true rfl) (fun p e s m below meth c X hr hlk => g_Bargain_buyerHas X hr hlk  h)
theorem dX0_isRest_0 : decode cX0_isRest 0 = .ok (.iconst 0, 1) := by decide +kernel
theorem dX0_isRest_1 : decode cX0_isRest 1 = .ok (.istore_n 3, 1) := by decide +kernel
theorem dX0_isRest_2 : decode cX0_isRest 2 = .ok (.iload_n 3, 1) := by decide +kernel
theorem dX0_isRest_3 : decode cX0_isRest 3 = .ok (.iconst 4, 1) := by decide +kernel
theorem dX0_isRest_4 : decode cX0_isRest 4 = .ok (.if_icmp .ge 26, 3) := by decide +kernel
theorem dX0_isRest_7 : decode cX0_isRest 7 = .ok (.aload_n 0, 1) := by decide +kernel
theorem dX0_isRest_8 : decode cX0_isRest 8 = .ok (.iload_n 3, 1) := by decide +kernel
theorem dX0_isRest_9 : decode cX0_isRest 9 = .ok (.iload_n 2, 1) := by decide +kernel
theorem dX0_isRest_10 : decode cX0_isRest 10 = .ok (.invokevirtual 79, 3) := by decide +kernel
theorem dX0_isRest_13 : decode cX0_isRest 13 = .ok (.aload_n 0, 1) := by decide +kernel
theorem dX0_isRest_14 : decode cX0_isRest 14 = .ok (.iload_n 1, 1) := by decide +kernel
theorem dX0_isRest_15 : decode cX0_isRest 15 = .ok (.iload_n 2, 1) := by decide +kernel
theorem dX0_isRest_16 : decode cX0_isRest 16 = .ok (.invokevirtual 79, 3) := by decide +kernel
theorem dX0_isRest_19 : decode cX0_isRest 19 = .ok (.if_icmp .le 5, 3) := by decide +kernel
theorem dX0_isRest_22 : decode cX0_isRest 22 = .ok (.iconst 0, 1) := by decide +kernel
theorem dX0_isRest_23 : decode cX0_isRest 23 = .ok (.ireturn, 1) := by decide +kernel
theorem dX0_isRest_24 : decode cX0_isRest 24 = .ok (.iinc 3 1, 3) := by decide +kernel
theorem dX0_isRest_27 : decode cX0_isRest 27 = .ok (.goto (-25), 3) := by decide +kernel
theorem dX0_isRest_30 : decode cX0_isRest 30 = .ok (.iconst 0, 1) := by decide +kernel
theorem dX0_isRest_31 : decode cX0_isRest 31 = .ok (.istore_n 3, 1) := by decide +kernel
theorem dX0_isRest_32 : decode cX0_isRest 32 = .ok (.iload_n 3, 1) := by decide +kernel
theorem dX0_isRest_33 : decode cX0_isRest 33 = .ok (.iconst 3, 1) := by decide +kernel
theorem dX0_isRest_34 : decode cX0_isRest 34 = .ok (.if_icmp .ge 26, 3) := by decide +kernel
theorem dX0_isRest_37 : decode cX0_isRest 37 = .ok (.aload_n 0, 1) := by decide +kernel
theorem dX0_isRest_38 : decode cX0_isRest 38 = .ok (.iload_n 1, 1) := by decide +kernel
theorem dX0_isRest_39 : decode cX0_isRest 39 = .ok (.iload_n 3, 1) := by decide +kernel
theorem dX0_isRest_40 : decode cX0_isRest 40 = .ok (.invokevirtual 87, 3) := by decide +kernel
theorem dX0_isRest_43 : decode cX0_isRest 43 = .ok (.aload_n 0, 1) := by decide +kernel
theorem dX0_isRest_44 : decode cX0_isRest 44 = .ok (.iload_n 1, 1) := by decide +kernel
theorem dX0_isRest_45 : decode cX0_isRest 45 = .ok (.iload_n 2, 1) := by decide +kernel
theorem dX0_isRest_46 : decode cX0_isRest 46 = .ok (.invokevirtual 87, 3) := by decide +kernel
theorem dX0_isRest_49 : decode cX0_isRest 49 = .ok (.if_icmp .le 5, 3) := by decide +kernel
theorem dX0_isRest_52 : decode cX0_isRest 52 = .ok (.iconst 0, 1) := by decide +kernel
theorem dX0_isRest_53 : decode cX0_isRest 53 = .ok (.ireturn, 1) := by decide +kernel
theorem dX0_isRest_54 : decode cX0_isRest 54 = .ok (.iinc 3 1, 3) := by decide +kernel
theorem dX0_isRest_57 : decode cX0_isRest 57 = .ok (.goto (-25), 3) := by decide +kernel
theorem dX0_isRest_60 : decode cX0_isRest 60 = .ok (.iconst 1, 1) := by decide +kernel
theorem dX0_isRest_61 : decode cX0_isRest 61 = .ok (.ireturn, 1) := by decide +kernel
def f_Bargain_isRest_L2 (σ : Mem) (x1 : Int32) (x2 : Int32) (a : Int32) : Option ((Int32) ⊕ ((Unit) ⊕ (Int32))) :=
  if (4 : Int32) ≤ a then
    some (.inr (.inl ()))
  else
    (f_Bargain_sellerHas σ a x2).bind fun q2 =>
    (f_Bargain_sellerHas σ x1 x2).bind fun q3 =>
    if q2 ≤ q3 then
      some (.inl (a + (1 : Int32)))
    else
      some (.inr (.inr (0 : Int32)))
def f_Bargain_isRest_L32 (σ : Mem) (x1 : Int32) (x2 : Int32) (a : Int32) : Option ((Int32) ⊕ (Int32)) :=
  if (3 : Int32) ≤ a then
    some (.inr (1 : Int32))
  else
    (f_Bargain_buyerHas σ x1 a).bind fun q7 =>
    (f_Bargain_buyerHas σ x1 x2).bind fun q8 =>
    if q7 ≤ q8 then
      some (.inl (a + (1 : Int32)))
    else
      some (.inr (0 : Int32))
def f_Bargain_isRest (σ : Mem) (x1 : Int32) (x2 : Int32) : Option (Int32) :=
  (loopF (f_Bargain_isRest_L2 σ x1 x2) FU (0 : Int32)).bind fun q5 => Sum.elim (fun w5 =>
      loopF (f_Bargain_isRest_L32 σ x1 x2) FU (0 : Int32)
      ) (fun t10 => some t10) q5
set_option maxHeartbeats 4000000 in
set_option maxRecDepth 20000 in
theorem gs_Bargain_isRest_L2 (X : Cx θ p s m args c cX0_isRest 4 RX0) (hr : meth.sig.returnType = some .boolean) (hlk : meth.locks = false)  {σ : Mem} {x1 : Int32} {x2 : Int32} {r : Int32}  (a : Int32) (x : (Int32) ⊕ ((Unit) ⊕ (Int32))) (h : f_Bargain_isRest_L2 σ x1 x2 a = some x) (hk : Sum.elim (fun a => GB θ p l e 2 s m args below meth c 4 (some (.int r), σ) 2 [(0, .ref (be θ + 531)), (1, .int x1), (2, .int x2), (3, .int a)] [] σ) (Sum.elim (fun w => GB θ p l e 2 s m args below meth c 4 (some (.int r), σ) 30 [(0, .ref (be θ + 531)), (1, .int x1), (2, .int x2)] [] σ) (fun rt => rt = r)) x) : GB θ p l e 2 s m args below meth c 4 (some (.int r), σ) 2 [(0, .ref (be θ + 531)), (1, .int x1), (2, .int x2), (3, .int a)] [] σ := by
  unfold f_Bargain_isRest_L2 at h
  refine g_iload_n X dX0_isRest_2 rfl 3 rfl ?_
  refine g_iconst X dX0_isRest_3 (v := (4 : Int32)) ic_4 ?_
  refine g_icmp_ge (tgt := 30) X dX0_isRest_4 (by decide) (fun c1 => ?_) (fun c1 => ?_)
  · replace h := (if_pos c1).symm.trans h
    have hk := inr_hk h hk
    have hk := inl_el hk
    exact g_sub (lv' := [(0, .ref (be θ + 531)), (1, .int x1), (2, .int x2)]) [0, 1, 2] rfl hk
  · replace h := (if_neg c1).symm.trans h
    refine g_aload_n X dX0_isRest_7 rfl 0 rfl ?_
    refine g_iload_n X dX0_isRest_8 rfl 3 rfl ?_
    refine g_iload_n X dX0_isRest_9 rfl 2 rfl ?_
    obtain ⟨q2, hq2, h⟩ := Option.bind_eq_some_iff.mp h
    refine g_cV X (c_Bargain_sellerHas  hq2) lk_RX0_79 my_X0_sellerHas (a := 531) (ci := 0) kd_531 (by decide) rfl (As := [.int a, .int x2]) (rest := []) rfl rfl (Nat.le_of_ble_eq_true rfl) ⟨(Nat.le_of_ble_eq_true rfl), (Nat.le_of_ble_eq_true rfl)⟩ ⟨(Nat.le_of_ble_eq_true rfl), (Nat.le_of_ble_eq_true rfl)⟩ dX0_isRest_10 (st' := [.int q2]) (σ' := σ) rfl rfl ?_
    refine g_aload_n X dX0_isRest_13 rfl 0 rfl ?_
    refine g_iload_n X dX0_isRest_14 rfl 1 rfl ?_
    refine g_iload_n X dX0_isRest_15 rfl 2 rfl ?_
    obtain ⟨q3, hq3, h⟩ := Option.bind_eq_some_iff.mp h
    refine g_cV X (c_Bargain_sellerHas  hq3) lk_RX0_79 my_X0_sellerHas (a := 531) (ci := 0) kd_531 (by decide) rfl (As := [.int x1, .int x2]) (rest := [.int q2]) rfl rfl (Nat.le_of_ble_eq_true rfl) ⟨(Nat.le_of_ble_eq_true rfl), (Nat.le_of_ble_eq_true rfl)⟩ ⟨(Nat.le_of_ble_eq_true rfl), (Nat.le_of_ble_eq_true rfl)⟩ dX0_isRest_16 (st' := [.int q3, .int q2]) (σ' := σ) rfl rfl ?_
    refine g_icmp_le (tgt := 24) X dX0_isRest_19 (by decide) (fun c4 => ?_) (fun c4 => ?_)
    · replace h := (if_pos c4).symm.trans h
      refine g_iinc X dX0_isRest_24 (kq := 3) rfl (congrArg (HAdd.hAdd _) ic_1) (by decide) (lv' := [(3, .int (a + (1 : Int32))), (0, .ref (be θ + 531)), (1, .int x1), (2, .int x2)]) rfl ?_
      refine g_goto (tgt := 2) X dX0_isRest_27 (by decide) ?_
      have hk := inl_hk h hk
      exact g_sub (lv' := [(0, .ref (be θ + 531)), (1, .int x1), (2, .int x2), (3, .int (a + (1 : Int32)))]) [1, 2, 3, 0] rfl hk
    · replace h := (if_neg c4).symm.trans h
      refine g_iconst X dX0_isRest_22 (v := (0 : Int32)) ic_0 ?_
      have hk := inr_hk h hk
      have hk := inr_el hk
      have hk : (0 : Int32) = r := hk
      subst hk
      exact g_zret X hr hlk bz0 dX0_isRest_23 rfl
set_option maxHeartbeats 4000000 in
set_option maxRecDepth 20000 in
theorem gl_Bargain_isRest_L2 (X : Cx θ p s m args c cX0_isRest 4 RX0) (hr : meth.sig.returnType = some .boolean) (hlk : meth.locks = false)  {σ : Mem} {x1 : Int32} {x2 : Int32} {r : Int32}  (n : Nat) (a : Int32) (b : (Unit) ⊕ (Int32)) (h : loopF (f_Bargain_isRest_L2 σ x1 x2) n a = some b) (hk : (Sum.elim (fun w => GB θ p l e 2 s m args below meth c 4 (some (.int r), σ) 30 [(0, .ref (be θ + 531)), (1, .int x1), (2, .int x2)] [] σ) (fun rt => rt = r)) b) : (fun a => GB θ p l e 2 s m args below meth c 4 (some (.int r), σ) 2 [(0, .ref (be θ + 531)), (1, .int x1), (2, .int x2), (3, .int a)] [] σ) a :=
  loopF_by (P := (fun a => GB θ p l e 2 s m args below meth c 4 (some (.int r), σ) 2 [(0, .ref (be θ + 531)), (1, .int x1), (2, .int x2), (3, .int a)] [] σ)) (K := (Sum.elim (fun w => GB θ p l e 2 s m args below meth c 4 (some (.int r), σ) 30 [(0, .ref (be θ + 531)), (1, .int x1), (2, .int x2)] [] σ) (fun rt => rt = r))) (fun a x h hk => by exact gs_Bargain_isRest_L2 X hr hlk   a x h hk) n a b h hk
set_option maxHeartbeats 4000000 in
set_option maxRecDepth 20000 in
theorem gs_Bargain_isRest_L32 (X : Cx θ p s m args c cX0_isRest 4 RX0) (hr : meth.sig.returnType = some .boolean) (hlk : meth.locks = false)  {σ : Mem} {x1 : Int32} {x2 : Int32} {r : Int32}  (a : Int32) (x : (Int32) ⊕ (Int32)) (h : f_Bargain_isRest_L32 σ x1 x2 a = some x) (hk : Sum.elim (fun a => GB θ p l e 2 s m args below meth c 4 (some (.int r), σ) 32 [(0, .ref (be θ + 531)), (1, .int x1), (2, .int x2), (3, .int a)] [] σ) (fun b => b = r) x) : GB θ p l e 2 s m args below meth c 4 (some (.int r), σ) 32 [(0, .ref (be θ + 531)), (1, .int x1), (2, .int x2), (3, .int a)] [] σ := by
  unfold f_Bargain_isRest_L32 at h
  refine g_iload_n X dX0_isRest_32 rfl 3 rfl ?_
  refine g_iconst X dX0_isRest_33 (v := (3 : Int32)) ic_3 ?_
  refine g_icmp_ge (tgt := 60) X dX0_isRest_34 (by decide) (fun c6 => ?_) (fun c6 => ?_)
  · replace h := (if_pos c6).symm.trans h
    refine g_iconst X dX0_isRest_60 (v := (1 : Int32)) ic_1 ?_
    have hk := inr_hk h hk
    have hk : (1 : Int32) = r := hk
    subst hk
    exact g_zret X hr hlk bz1 dX0_isRest_61 rfl
  · replace h := (if_neg c6).symm.trans h
    refine g_aload_n X dX0_isRest_37 rfl 0 rfl ?_
    refine g_iload_n X dX0_isRest_38 rfl 1 rfl ?_
    refine g_iload_n X dX0_isRest_39 rfl 3 rfl ?_
    obtain ⟨q7, hq7, h⟩ := Option.bind_eq_some_iff.mp h
    refine g_cV X (c_Bargain_buyerHas  hq7) lk_RX0_87 my_X0_buyerHas (a := 531) (ci := 0) kd_531 (by decide) rfl (As := [.int x1, .int a]) (rest := []) rfl rfl (Nat.le_of_ble_eq_true rfl) ⟨(Nat.le_of_ble_eq_true rfl), (Nat.le_of_ble_eq_true rfl)⟩ ⟨(Nat.le_of_ble_eq_true rfl), (Nat.le_of_ble_eq_true rfl)⟩ dX0_isRest_40 (st' := [.int q7]) (σ' := σ) rfl rfl ?_
    refine g_aload_n X dX0_isRest_43 rfl 0 rfl ?_
    refine g_iload_n X dX0_isRest_44 rfl 1 rfl ?_
    refine g_iload_n X dX0_isRest_45 rfl 2 rfl ?_
    obtain ⟨q8, hq8, h⟩ := Option.bind_eq_some_iff.mp h
    refine g_cV X (c_Bargain_buyerHas  hq8) lk_RX0_87 my_X0_buyerHas (a := 531) (ci := 0) kd_531 (by decide) rfl (As := [.int x1, .int x2]) (rest := [.int q7]) rfl rfl (Nat.le_of_ble_eq_true rfl) ⟨(Nat.le_of_ble_eq_true rfl), (Nat.le_of_ble_eq_true rfl)⟩ ⟨(Nat.le_of_ble_eq_true rfl), (Nat.le_of_ble_eq_true rfl)⟩ dX0_isRest_46 (st' := [.int q8, .int q7]) (σ' := σ) rfl rfl ?_
    refine g_icmp_le (tgt := 54) X dX0_isRest_49 (by decide) (fun c9 => ?_) (fun c9 => ?_)
    · replace h := (if_pos c9).symm.trans h
      refine g_iinc X dX0_isRest_54 (kq := 3) rfl (congrArg (HAdd.hAdd _) ic_1) (by decide) (lv' := [(3, .int (a + (1 : Int32))), (0, .ref (be θ + 531)), (1, .int x1), (2, .int x2)]) rfl ?_
      refine g_goto (tgt := 32) X dX0_isRest_57 (by decide) ?_
      have hk := inl_hk h hk
      exact g_sub (lv' := [(0, .ref (be θ + 531)), (1, .int x1), (2, .int x2), (3, .int (a + (1 : Int32)))]) [1, 2, 3, 0] rfl hk
    · replace h := (if_neg c9).symm.trans h
      refine g_iconst X dX0_isRest_52 (v := (0 : Int32)) ic_0 ?_
      have hk := inr_hk h hk
      have hk : (0 : Int32) = r := hk
      subst hk
      exact g_zret X hr hlk bz0 dX0_isRest_53 rfl
set_option maxHeartbeats 4000000 in
set_option maxRecDepth 20000 in
theorem gl_Bargain_isRest_L32 (X : Cx θ p s m args c cX0_isRest 4 RX0) (hr : meth.sig.returnType = some .boolean) (hlk : meth.locks = false)  {σ : Mem} {x1 : Int32} {x2 : Int32} {r : Int32}  (n : Nat) (a : Int32) (b : Int32) (h : loopF (f_Bargain_isRest_L32 σ x1 x2) n a = some b) (hk : (fun b => b = r) b) : (fun a => GB θ p l e 2 s m args below meth c 4 (some (.int r), σ) 32 [(0, .ref (be θ + 531)), (1, .int x1), (2, .int x2), (3, .int a)] [] σ) a :=
  loopF_by (P := (fun a => GB θ p l e 2 s m args below meth c 4 (some (.int r), σ) 32 [(0, .ref (be θ + 531)), (1, .int x1), (2, .int x2), (3, .int a)] [] σ)) (K := (fun b => b = r)) (fun a x h hk => by exact gs_Bargain_isRest_L32 X hr hlk   a x h hk) n a b h hk
set_option maxHeartbeats 4000000 in
set_option maxRecDepth 20000 in
theorem g_Bargain_isRest (X : Cx θ p s m args c cX0_isRest 4 RX0) (hr : meth.sig.returnType = some .boolean) (hlk : meth.locks = false)  {σ : Mem} {x1 : Int32} {x2 : Int32} {r : Int32}  (h : f_Bargain_isRest σ x1 x2 = some r) : GB θ p l e 2 s m args below meth c 4 (some (.int r), σ) 0 [(0, .ref (be θ + 531)), (1, .int x1), (2, .int x2)] [] σ := by
  unfold f_Bargain_isRest at h
  refine g_iconst X dX0_isRest_0 (v := (0 : Int32)) ic_0 ?_
  refine g_istore_n X dX0_isRest_1 rfl (by decide) (lv' := [(3, .int (0 : Int32)), (0, .ref (be θ + 531)), (1, .int x1), (2, .int x2)]) rfl ?_
  obtain ⟨q5, hq5, h⟩ := Option.bind_eq_some_iff.mp h
  refine g_sub (lv' := [(0, .ref (be θ + 531)), (1, .int x1), (2, .int x2), (3, .int (0 : Int32))]) [1, 2, 3, 0] rfl (gl_Bargain_isRest_L2 X hr hlk    FU _ q5 hq5 ?_)
  rcases q5 with w5 | t10
  · simp only [Sum.elim_inl] at h ⊢
    refine g_iconst X dX0_isRest_30 (v := (0 : Int32)) ic_0 ?_
    refine g_istore_n X dX0_isRest_31 rfl (by decide) (lv' := [(3, .int (0 : Int32)), (0, .ref (be θ + 531)), (1, .int x1), (2, .int x2)]) rfl ?_
    exact g_sub (lv' := [(0, .ref (be θ + 531)), (1, .int x1), (2, .int x2), (3, .int (0 : Int32))]) [1, 2, 3, 0] rfl (gl_Bargain_isRest_L32 X hr hlk    FU _ _ h rfl)
  · simp only [Sum.elim_inr] at h ⊢
    exact Option.some.inj h
set_option maxHeartbeats 4000000 in
set_option maxRecDepth 20000 in
theorem c_Bargain_isRest {θ : Th} {l : Launch} {σ : Mem} {x1 : Int32} {x2 : Int32} {r : Int32}  (h : f_Bargain_isRest σ x1 x2 = some r) : Cn θ l yX0_isRest cX0_isRest 4 (some .boolean) 2 0 0 [.ref (be θ + 531), .int x1, .int x2] σ (some (.int r), σ) :=
  Cn.of (by decide) (Nat.le_of_ble_eq_true rfl) (fun p e s m below meth c X hr hlk => g_Bargain_isRest X hr hlk  h)
theorem dX0_nthRest_0 : decode cX0_nthRest 0 = .ok (.iconst 0, 1) := by decide +kernel
theorem dX0_nthRest_1 : decode cX0_nthRest 1 = .ok (.istore_n 2, 1) := by decide +kernel
theorem dX0_nthRest_2 : decode cX0_nthRest 2 = .ok (.iconst 0, 1) := by decide +kernel
theorem dX0_nthRest_3 : decode cX0_nthRest 3 = .ok (.istore_n 3, 1) := by decide +kernel
theorem dX0_nthRest_4 : decode cX0_nthRest 4 = .ok (.iload_n 3, 1) := by decide +kernel
theorem dX0_nthRest_5 : decode cX0_nthRest 5 = .ok (.iconst 4, 1) := by decide +kernel
theorem dX0_nthRest_6 : decode cX0_nthRest 6 = .ok (.if_icmp .ge 53, 3) := by decide +kernel
theorem dX0_nthRest_9 : decode cX0_nthRest 9 = .ok (.iconst 0, 1) := by decide +kernel
theorem dX0_nthRest_10 : decode cX0_nthRest 10 = .ok (.istore 4, 2) := by decide +kernel
theorem dX0_nthRest_12 : decode cX0_nthRest 12 = .ok (.iload 4, 2) := by decide +kernel
theorem dX0_nthRest_14 : decode cX0_nthRest 14 = .ok (.iconst 3, 1) := by decide +kernel
theorem dX0_nthRest_15 : decode cX0_nthRest 15 = .ok (.if_icmp .ge 38, 3) := by decide +kernel
theorem dX0_nthRest_18 : decode cX0_nthRest 18 = .ok (.aload_n 0, 1) := by decide +kernel
theorem dX0_nthRest_19 : decode cX0_nthRest 19 = .ok (.iload_n 3, 1) := by decide +kernel
theorem dX0_nthRest_20 : decode cX0_nthRest 20 = .ok (.iload 4, 2) := by decide +kernel
theorem dX0_nthRest_22 : decode cX0_nthRest 22 = .ok (.invokevirtual 83, 3) := by decide +kernel
theorem dX0_nthRest_25 : decode cX0_nthRest 25 = .ok (.ifCond .ne 6, 3) := by decide +kernel
theorem dX0_nthRest_28 : decode cX0_nthRest 28 = .ok (.goto 19, 3) := by decide +kernel
theorem dX0_nthRest_31 : decode cX0_nthRest 31 = .ok (.iload_n 2, 1) := by decide +kernel
theorem dX0_nthRest_32 : decode cX0_nthRest 32 = .ok (.iload_n 1, 1) := by decide +kernel
theorem dX0_nthRest_33 : decode cX0_nthRest 33 = .ok (.if_icmp .ne 11, 3) := by decide +kernel
theorem dX0_nthRest_36 : decode cX0_nthRest 36 = .ok (.bipush 10, 2) := by decide +kernel
theorem dX0_nthRest_38 : decode cX0_nthRest 38 = .ok (.iload_n 3, 1) := by decide +kernel
theorem dX0_nthRest_39 : decode cX0_nthRest 39 = .ok (.imul, 1) := by decide +kernel
theorem dX0_nthRest_40 : decode cX0_nthRest 40 = .ok (.iload 4, 2) := by decide +kernel
theorem dX0_nthRest_42 : decode cX0_nthRest 42 = .ok (.iadd, 1) := by decide +kernel
theorem dX0_nthRest_43 : decode cX0_nthRest 43 = .ok (.ireturn, 1) := by decide +kernel
theorem dX0_nthRest_44 : decode cX0_nthRest 44 = .ok (.iinc 2 1, 3) := by decide +kernel
theorem dX0_nthRest_47 : decode cX0_nthRest 47 = .ok (.iinc 4 1, 3) := by decide +kernel
theorem dX0_nthRest_50 : decode cX0_nthRest 50 = .ok (.goto (-38), 3) := by decide +kernel
theorem dX0_nthRest_53 : decode cX0_nthRest 53 = .ok (.iinc 3 1, 3) := by decide +kernel
theorem dX0_nthRest_56 : decode cX0_nthRest 56 = .ok (.goto (-52), 3) := by decide +kernel
theorem dX0_nthRest_59 : decode cX0_nthRest 59 = .ok (.iload_n 1, 1) := by decide +kernel
theorem dX0_nthRest_60 : decode cX0_nthRest 60 = .ok (.iconst (-1), 1) := by decide +kernel
theorem dX0_nthRest_61 : decode cX0_nthRest 61 = .ok (.if_icmp .ne 7, 3) := by decide +kernel
theorem dX0_nthRest_64 : decode cX0_nthRest 64 = .ok (.iload_n 2, 1) := by decide +kernel
theorem dX0_nthRest_65 : decode cX0_nthRest 65 = .ok (.goto 4, 3) := by decide +kernel
theorem dX0_nthRest_68 : decode cX0_nthRest 68 = .ok (.iconst (-1), 1) := by decide +kernel
theorem dX0_nthRest_69 : decode cX0_nthRest 69 = .ok (.ireturn, 1) := by decide +kernel
def f_Bargain_nthRest_L12 (σ : Mem) (x1 : Int32) (y3 : Int32) (a : Int32 × Int32) : Option ((Int32 × Int32) ⊕ ((Int32) ⊕ (Int32))) :=
  @Prod.casesOn (Int32) (Int32) (fun _ => Option ((Int32 × Int32) ⊕ ((Int32) ⊕ (Int32)))) a fun z2 z4 =>
  if (3 : Int32) ≤ z4 then
    some (.inr (.inl z2))
  else
    (f_Bargain_isRest σ y3 z4).bind fun q3 =>
    if q3 = (0 : Int32) then
      some (.inl (z2, (z4 + (1 : Int32))))
    else
      if z2 = x1 then
        some (.inr (.inr (((10 : Int32) * y3) + z4)))
      else
        some (.inl ((z2 + (1 : Int32)), (z4 + (1 : Int32))))
def f_Bargain_nthRest_L4 (σ : Mem) (x1 : Int32) (a : Int32 × Int32) : Option ((Int32 × Int32) ⊕ ((Int32) ⊕ (Int32))) :=
  @Prod.casesOn (Int32) (Int32) (fun _ => Option ((Int32 × Int32) ⊕ ((Int32) ⊕ (Int32)))) a fun z2 z3 =>
  if (4 : Int32) ≤ z3 then
    some (.inr (.inl z2))
  else
    (loopF (f_Bargain_nthRest_L12 σ x1 z3) FU (z2, (0 : Int32))).bind fun q6 => Sum.elim (fun w6 =>
        some (.inl (w6, (z3 + (1 : Int32))))
        ) (fun t7 => some (.inr (.inr t7))) q6
def f_Bargain_nthRest (σ : Mem) (x1 : Int32) : Option (Int32) :=
  (loopF (f_Bargain_nthRest_L4 σ x1) FU ((0 : Int32), (0 : Int32))).bind fun q8 => Sum.elim (fun w8 =>
      if x1 = (-1 : Int32) then
        some w8
      else
        some (-1 : Int32)
      ) (fun t10 => some t10) q8
set_option maxHeartbeats 4000000 in
set_option maxRecDepth 20000 in
theorem gs_Bargain_nthRest_L12 (X : Cx θ p s m args c cX0_nthRest 5 RX0) (hr : meth.sig.returnType = some .int) (hlk : meth.locks = false)  {σ : Mem} {x1 : Int32} {y3 : Int32} {r : Int32}  (z2 : Int32) (z4 : Int32) (x : (Int32 × Int32) ⊕ ((Int32) ⊕ (Int32))) (h : f_Bargain_nthRest_L12 σ x1 y3 (z2, z4) = some x) (hk : Sum.elim (fun a => @Prod.casesOn (Int32) (Int32) (fun _ => Prop) a fun z2 z4 => GB θ p l e 3 s m args below meth c 5 (some (.int r), σ) 12 [(0, .ref (be θ + 531)), (1, .int x1), (2, .int z2), (3, .int y3), (4, .int z4)] [] σ) (Sum.elim (fun w => GB θ p l e 3 s m args below meth c 5 (some (.int r), σ) 53 [(0, .ref (be θ + 531)), (1, .int x1), (2, .int w), (3, .int y3)] [] σ) (fun rt => rt = r)) x) : GB θ p l e 3 s m args below meth c 5 (some (.int r), σ) 12 [(0, .ref (be θ + 531)), (1, .int x1), (2, .int z2), (3, .int y3), (4, .int z4)] [] σ := by
  unfold f_Bargain_nthRest_L12 at h
  dsimp only at h
  refine g_iload X dX0_nthRest_12 4 rfl ?_
  refine g_iconst X dX0_nthRest_14 (v := (3 : Int32)) ic_3 ?_
  refine g_icmp_ge (tgt := 53) X dX0_nthRest_15 (by decide) (fun c2 => ?_) (fun c2 => ?_)
  · replace h := (if_pos c2).symm.trans h
    have hk := inr_hk h hk
    have hk := inl_el hk
    exact g_sub (lv' := [(0, .ref (be θ + 531)), (1, .int x1), (2, .int z2), (3, .int y3)]) [0, 1, 2, 3] rfl hk
  · replace h := (if_neg c2).symm.trans h
    refine g_aload_n X dX0_nthRest_18 rfl 0 rfl ?_
    refine g_iload_n X dX0_nthRest_19 rfl 3 rfl ?_
    refine g_iload X dX0_nthRest_20 4 rfl ?_
    obtain ⟨q3, hq3, h⟩ := Option.bind_eq_some_iff.mp h
    refine g_cV X (c_Bargain_isRest  hq3) lk_RX0_83 my_X0_isRest (a := 531) (ci := 0) kd_531 (by decide) rfl (As := [.int y3, .int z4]) (rest := []) rfl rfl (Nat.le_of_ble_eq_true rfl) ⟨(Nat.le_of_ble_eq_true rfl), (Nat.le_of_ble_eq_true rfl)⟩ ⟨(Nat.le_of_ble_eq_true rfl), (Nat.le_of_ble_eq_true rfl)⟩ dX0_nthRest_22 (st' := [.int q3]) (σ' := σ) rfl rfl ?_
    refine g_if_ne (tgt := 31) X dX0_nthRest_25 (by decide) (fun c4 => ?_) (fun c4 => ?_)
    · replace h := (if_neg c4).symm.trans h
      refine g_iload_n X dX0_nthRest_31 rfl 2 rfl ?_
      refine g_iload_n X dX0_nthRest_32 rfl 1 rfl ?_
      refine g_icmp_ne (tgt := 44) X dX0_nthRest_33 (by decide) (fun c5 => ?_) (fun c5 => ?_)
      · replace h := (if_neg c5).symm.trans h
        refine g_iinc X dX0_nthRest_44 (kq := 2) rfl (congrArg (HAdd.hAdd _) ic_1) (by decide) (lv' := [(2, .int (z2 + (1 : Int32))), (0, .ref (be θ + 531)), (1, .int x1), (3, .int y3), (4, .int z4)]) rfl ?_
        refine g_iinc X dX0_nthRest_47 (kq := 4) rfl (congrArg (HAdd.hAdd _) ic_1) (by decide) (lv' := [(4, .int (z4 + (1 : Int32))), (2, .int (z2 + (1 : Int32))), (0, .ref (be θ + 531)), (1, .int x1), (3, .int y3)]) rfl ?_
        refine g_goto (tgt := 12) X dX0_nthRest_50 (by decide) ?_
        have hk := inl_hk h hk
        exact g_sub (lv' := [(0, .ref (be θ + 531)), (1, .int x1), (2, .int (z2 + (1 : Int32))), (3, .int y3), (4, .int (z4 + (1 : Int32)))]) [2, 3, 1, 4, 0] rfl hk
      · replace h := (if_pos c5).symm.trans h
        refine g_bipush X dX0_nthRest_36 (v := (10 : Int32)) bp_10 ?_
        refine g_iload_n X dX0_nthRest_38 rfl 3 rfl ?_
        refine g_imul X dX0_nthRest_39 ?_
        refine g_iload X dX0_nthRest_40 4 rfl ?_
        refine g_iadd X dX0_nthRest_42 ?_
        have hk := inr_hk h hk
        have hk := inr_el hk
        have hk : (((10 : Int32) * y3) + z4) = r := hk
        subst hk
        exact g_iret X hr hlk dX0_nthRest_43 rfl
    · replace h := (if_pos c4).symm.trans h
      refine g_goto (tgt := 47) X dX0_nthRest_28 (by decide) ?_
      refine g_iinc X dX0_nthRest_47 (kq := 4) rfl (congrArg (HAdd.hAdd _) ic_1) (by decide) (lv' := [(4, .int (z4 + (1 : Int32))), (0, .ref (be θ + 531)), (1, .int x1), (2, .int z2), (3, .int y3)]) rfl ?_
      refine g_goto (tgt := 12) X dX0_nthRest_50 (by decide) ?_
      have hk := inl_hk h hk
      exact g_sub (lv' := [(0, .ref (be θ + 531)), (1, .int x1), (2, .int z2), (3, .int y3), (4, .int (z4 + (1 : Int32)))]) [1, 2, 3, 4, 0] rfl hk
set_option maxHeartbeats 4000000 in
set_option maxRecDepth 20000 in
theorem gl_Bargain_nthRest_L12 (X : Cx θ p s m args c cX0_nthRest 5 RX0) (hr : meth.sig.returnType = some .int) (hlk : meth.locks = false)  {σ : Mem} {x1 : Int32} {y3 : Int32} {r : Int32}  (n : Nat) (a : Int32 × Int32) (b : (Int32) ⊕ (Int32)) (h : loopF (f_Bargain_nthRest_L12 σ x1 y3) n a = some b) (hk : (Sum.elim (fun w => GB θ p l e 3 s m args below meth c 5 (some (.int r), σ) 53 [(0, .ref (be θ + 531)), (1, .int x1), (2, .int w), (3, .int y3)] [] σ) (fun rt => rt = r)) b) : (fun a => @Prod.casesOn (Int32) (Int32) (fun _ => Prop) a fun z2 z4 => GB θ p l e 3 s m args below meth c 5 (some (.int r), σ) 12 [(0, .ref (be θ + 531)), (1, .int x1), (2, .int z2), (3, .int y3), (4, .int z4)] [] σ) a :=
  loopF_by (P := (fun a => @Prod.casesOn (Int32) (Int32) (fun _ => Prop) a fun z2 z4 => GB θ p l e 3 s m args below meth c 5 (some (.int r), σ) 12 [(0, .ref (be θ + 531)), (1, .int x1), (2, .int z2), (3, .int y3), (4, .int z4)] [] σ)) (K := (Sum.elim (fun w => GB θ p l e 3 s m args below meth c 5 (some (.int r), σ) 53 [(0, .ref (be θ + 531)), (1, .int x1), (2, .int w), (3, .int y3)] [] σ) (fun rt => rt = r))) (fun a x h hk => by obtain ⟨z2, z4⟩ := a; exact gs_Bargain_nthRest_L12 X hr hlk   z2 z4 x h hk) n a b h hk
set_option maxHeartbeats 4000000 in
set_option maxRecDepth 20000 in
theorem gs_Bargain_nthRest_L4 (X : Cx θ p s m args c cX0_nthRest 5 RX0) (hr : meth.sig.returnType = some .int) (hlk : meth.locks = false)  {σ : Mem} {x1 : Int32} {r : Int32}  (z2 : Int32) (z3 : Int32) (x : (Int32 × Int32) ⊕ ((Int32) ⊕ (Int32))) (h : f_Bargain_nthRest_L4 σ x1 (z2, z3) = some x) (hk : Sum.elim (fun a => @Prod.casesOn (Int32) (Int32) (fun _ => Prop) a fun z2 z3 => GB θ p l e 3 s m args below meth c 5 (some (.int r), σ) 4 [(0, .ref (be θ + 531)), (1, .int x1), (2, .int z2), (3, .int z3)] [] σ) (Sum.elim (fun w => GB θ p l e 3 s m args below meth c 5 (some (.int r), σ) 59 [(0, .ref (be θ + 531)), (1, .int x1), (2, .int w)] [] σ) (fun rt => rt = r)) x) : GB θ p l e 3 s m args below meth c 5 (some (.int r), σ) 4 [(0, .ref (be θ + 531)), (1, .int x1), (2, .int z2), (3, .int z3)] [] σ := by
  unfold f_Bargain_nthRest_L4 at h
  dsimp only at h
  refine g_iload_n X dX0_nthRest_4 rfl 3 rfl ?_
  refine g_iconst X dX0_nthRest_5 (v := (4 : Int32)) ic_4 ?_
  refine g_icmp_ge (tgt := 59) X dX0_nthRest_6 (by decide) (fun c1 => ?_) (fun c1 => ?_)
  · replace h := (if_pos c1).symm.trans h
    have hk := inr_hk h hk
    have hk := inl_el hk
    exact g_sub (lv' := [(0, .ref (be θ + 531)), (1, .int x1), (2, .int z2)]) [0, 1, 2] rfl hk
  · replace h := (if_neg c1).symm.trans h
    refine g_iconst X dX0_nthRest_9 (v := (0 : Int32)) ic_0 ?_
    refine g_istore X dX0_nthRest_10 (by decide) (lv' := [(4, .int (0 : Int32)), (0, .ref (be θ + 531)), (1, .int x1), (2, .int z2), (3, .int z3)]) rfl ?_
    obtain ⟨q6, hq6, h⟩ := Option.bind_eq_some_iff.mp h
    refine g_sub (lv' := [(0, .ref (be θ + 531)), (1, .int x1), (2, .int z2), (3, .int z3), (4, .int (0 : Int32))]) [1, 2, 3, 4, 0] rfl (gl_Bargain_nthRest_L12 X hr hlk    FU _ q6 hq6 ?_)
    rcases q6 with w6 | t7
    · simp only [Sum.elim_inl] at h ⊢
      refine g_iinc X dX0_nthRest_53 (kq := 3) rfl (congrArg (HAdd.hAdd _) ic_1) (by decide) (lv' := [(3, .int (z3 + (1 : Int32))), (0, .ref (be θ + 531)), (1, .int x1), (2, .int w6)]) rfl ?_
      refine g_goto (tgt := 4) X dX0_nthRest_56 (by decide) ?_
      have hk := inl_hk h hk
      exact g_sub (lv' := [(0, .ref (be θ + 531)), (1, .int x1), (2, .int w6), (3, .int (z3 + (1 : Int32)))]) [1, 2, 3, 0] rfl hk
    · simp only [Sum.elim_inr] at h ⊢
      have hk := inr_hk h hk
      have hk := inr_el hk
      exact hk
set_option maxHeartbeats 4000000 in
set_option maxRecDepth 20000 in
theorem gl_Bargain_nthRest_L4 (X : Cx θ p s m args c cX0_nthRest 5 RX0) (hr : meth.sig.returnType = some .int) (hlk : meth.locks = false)  {σ : Mem} {x1 : Int32} {r : Int32}  (n : Nat) (a : Int32 × Int32) (b : (Int32) ⊕ (Int32)) (h : loopF (f_Bargain_nthRest_L4 σ x1) n a = some b) (hk : (Sum.elim (fun w => GB θ p l e 3 s m args below meth c 5 (some (.int r), σ) 59 [(0, .ref (be θ + 531)), (1, .int x1), (2, .int w)] [] σ) (fun rt => rt = r)) b) : (fun a => @Prod.casesOn (Int32) (Int32) (fun _ => Prop) a fun z2 z3 => GB θ p l e 3 s m args below meth c 5 (some (.int r), σ) 4 [(0, .ref (be θ + 531)), (1, .int x1), (2, .int z2), (3, .int z3)] [] σ) a :=
  loopF_by (P := (fun a => @Prod.casesOn (Int32) (Int32) (fun _ => Prop) a fun z2 z3 => GB θ p l e 3 s m args below meth c 5 (some (.int r), σ) 4 [(0, .ref (be θ + 531)), (1, .int x1), (2, .int z2), (3, .int z3)] [] σ)) (K := (Sum.elim (fun w => GB θ p l e 3 s m args below meth c 5 (some (.int r), σ) 59 [(0, .ref (be θ + 531)), (1, .int x1), (2, .int w)] [] σ) (fun rt => rt = r))) (fun a x h hk => by obtain ⟨z2, z3⟩ := a; exact gs_Bargain_nthRest_L4 X hr hlk   z2 z3 x h hk) n a b h hk
set_option maxHeartbeats 4000000 in
set_option maxRecDepth 20000 in
theorem g_Bargain_nthRest (X : Cx θ p s m args c cX0_nthRest 5 RX0) (hr : meth.sig.returnType = some .int) (hlk : meth.locks = false)  {σ : Mem} {x1 : Int32} {r : Int32}  (h : f_Bargain_nthRest σ x1 = some r) : GB θ p l e 3 s m args below meth c 5 (some (.int r), σ) 0 [(0, .ref (be θ + 531)), (1, .int x1)] [] σ := by
  unfold f_Bargain_nthRest at h
  refine g_iconst X dX0_nthRest_0 (v := (0 : Int32)) ic_0 ?_
  refine g_istore_n X dX0_nthRest_1 rfl (by decide) (lv' := [(2, .int (0 : Int32)), (0, .ref (be θ + 531)), (1, .int x1)]) rfl ?_
  refine g_iconst X dX0_nthRest_2 (v := (0 : Int32)) ic_0 ?_
  refine g_istore_n X dX0_nthRest_3 rfl (by decide) (lv' := [(3, .int (0 : Int32)), (2, .int (0 : Int32)), (0, .ref (be θ + 531)), (1, .int x1)]) rfl ?_
  obtain ⟨q8, hq8, h⟩ := Option.bind_eq_some_iff.mp h
  refine g_sub (lv' := [(0, .ref (be θ + 531)), (1, .int x1), (2, .int (0 : Int32)), (3, .int (0 : Int32))]) [2, 3, 1, 0] rfl (gl_Bargain_nthRest_L4 X hr hlk    FU _ q8 hq8 ?_)
  rcases q8 with w8 | t10
  · simp only [Sum.elim_inl] at h ⊢
    refine g_iload_n X dX0_nthRest_59 rfl 1 rfl ?_
    refine g_iconst X dX0_nthRest_60 (v := (-1 : Int32)) ic_m1 ?_
    refine g_icmp_ne (tgt := 68) X dX0_nthRest_61 (by decide) (fun c9 => ?_) (fun c9 => ?_)
    · replace h := (if_neg c9).symm.trans h
      refine g_iconst X dX0_nthRest_68 (v := (-1 : Int32)) ic_m1 ?_
      exact g_iret X hr hlk dX0_nthRest_69 (by cases h; rfl)
    · replace h := (if_pos c9).symm.trans h
      refine g_iload_n X dX0_nthRest_64 rfl 2 rfl ?_
      refine g_goto (tgt := 69) X dX0_nthRest_65 (by decide) ?_
      exact g_iret X hr hlk dX0_nthRest_69 (by cases h; rfl)
  · simp only [Sum.elim_inr] at h ⊢
    exact Option.some.inj h
set_option maxHeartbeats 4000000 in
set_option maxRecDepth 20000 in
theorem c_Bargain_nthRest {θ : Th} {l : Launch} {σ : Mem} {x1 : Int32} {r : Int32}  (h : f_Bargain_nthRest σ x1 = some r) : Cn θ l yX0_nthRest cX0_nthRest 5 (some .int) 3 0 0 [.ref (be θ + 531), .int x1] σ (some (.int r), σ) :=
  Cn.of (by decide) (Nat.le_of_ble_eq_true rfl) (fun p e s m below meth c X hr hlk => g_Bargain_nthRest X hr hlk  h)
theorem dX8_sign_0 : decode cX8_sign 0 = .ok (.aload_n 0, 1) := by decide +kernel
theorem dX8_sign_1 : decode cX8_sign 1 = .ok (.getfield 19, 3) := by decide +kernel
theorem dX8_sign_4 : decode cX8_sign 4 = .ok (.aload_n 0, 1) := by decide +kernel
theorem dX8_sign_5 : decode cX8_sign 5 = .ok (.getfield 15, 3) := by decide +kernel
theorem dX8_sign_8 : decode cX8_sign 8 = .ok (.if_icmp .ge 30, 3) := by decide +kernel
theorem dX8_sign_11 : decode cX8_sign 11 = .ok (.aload_n 0, 1) := by decide +kernel
theorem dX8_sign_12 : decode cX8_sign 12 = .ok (.getfield 9, 3) := by decide +kernel
theorem dX8_sign_15 : decode cX8_sign 15 = .ok (.aload_n 0, 1) := by decide +kernel
theorem dX8_sign_16 : decode cX8_sign 16 = .ok (.getfield 19, 3) := by decide +kernel
theorem dX8_sign_19 : decode cX8_sign 19 = .ok (.iaload, 1) := by decide +kernel
theorem dX8_sign_20 : decode cX8_sign 20 = .ok (.bipush 32, 2) := by decide +kernel
theorem dX8_sign_22 : decode cX8_sign 22 = .ok (.if_icmp .ne 16, 3) := by decide +kernel
theorem dX8_sign_25 : decode cX8_sign 25 = .ok (.aload_n 0, 1) := by decide +kernel
theorem dX8_sign_26 : decode cX8_sign 26 = .ok (.dup, 1) := by decide +kernel
theorem dX8_sign_27 : decode cX8_sign 27 = .ok (.getfield 19, 3) := by decide +kernel
theorem dX8_sign_30 : decode cX8_sign 30 = .ok (.iconst 1, 1) := by decide +kernel
theorem dX8_sign_31 : decode cX8_sign 31 = .ok (.iadd, 1) := by decide +kernel
theorem dX8_sign_32 : decode cX8_sign 32 = .ok (.putfield 19, 3) := by decide +kernel
theorem dX8_sign_35 : decode cX8_sign 35 = .ok (.goto (-35), 3) := by decide +kernel
theorem dX8_sign_38 : decode cX8_sign 38 = .ok (.aload_n 0, 1) := by decide +kernel
theorem dX8_sign_39 : decode cX8_sign 39 = .ok (.getfield 19, 3) := by decide +kernel
theorem dX8_sign_42 : decode cX8_sign 42 = .ok (.aload_n 0, 1) := by decide +kernel
theorem dX8_sign_43 : decode cX8_sign 43 = .ok (.getfield 15, 3) := by decide +kernel
theorem dX8_sign_46 : decode cX8_sign 46 = .ok (.if_icmp .ge 15, 3) := by decide +kernel
theorem dX8_sign_49 : decode cX8_sign 49 = .ok (.aload_n 0, 1) := by decide +kernel
theorem dX8_sign_50 : decode cX8_sign 50 = .ok (.getfield 9, 3) := by decide +kernel
theorem dX8_sign_53 : decode cX8_sign 53 = .ok (.aload_n 0, 1) := by decide +kernel
theorem dX8_sign_54 : decode cX8_sign 54 = .ok (.getfield 19, 3) := by decide +kernel
theorem dX8_sign_57 : decode cX8_sign 57 = .ok (.iaload, 1) := by decide +kernel
theorem dX8_sign_58 : decode cX8_sign 58 = .ok (.goto 4, 3) := by decide +kernel
theorem dX8_sign_61 : decode cX8_sign 61 = .ok (.iconst 0, 1) := by decide +kernel
theorem dX8_sign_62 : decode cX8_sign 62 = .ok (.ireturn, 1) := by decide +kernel
def f_Tape_sign_L0  (a : Mem) : Option ((Mem) ⊕ (Mem)) :=
  if (mI a 1 1) ≤ (mI a 1 2) then
    some (.inr a)
  else
    if inb (mI a 1 2) 240 then
      if (mI a 2 (mI a 1 2).toNatClampNeg) = (32 : Int32) then
        some (.inl (sI a 1 2 ((mI a 1 2) + (1 : Int32))))
      else
        some (.inr a)
    else none
def f_Tape_sign_J38 (σ : Mem)  : Option (Int32 × Mem) :=
  if (mI σ 1 1) ≤ (mI σ 1 2) then
    some ((0 : Int32), σ)
  else
    if inb (mI σ 1 2) 240 then
      some ((mI σ 2 (mI σ 1 2).toNatClampNeg), σ)
    else none
def f_Tape_sign (σ : Mem)  : Option (Int32 × Mem) :=
  (loopF (f_Tape_sign_L0 ) FU σ).bind fun w4 =>
  f_Tape_sign_J38 w4 
set_option maxHeartbeats 4000000 in
set_option maxRecDepth 20000 in
theorem gs_Tape_sign_L0 (X : Cx θ p s m args c cX8_sign 1 RX8) (hr : meth.sig.returnType = some .int) (hlk : meth.locks = false)   {r : Int32 × Mem}  (a : Mem) (x : (Mem) ⊕ (Mem)) (h : f_Tape_sign_L0  a = some x) (hk : Sum.elim (fun a => GB θ p l e 0 s m args below meth c 1 (some (.int r.1), r.2) 0 [(0, .ref (be θ + 1))] [] a) (fun w => GB θ p l e 0 s m args below meth c 1 (some (.int r.1), r.2) 38 [(0, .ref (be θ + 1))] [] w) x) : GB θ p l e 0 s m args below meth c 1 (some (.int r.1), r.2) 0 [(0, .ref (be θ + 1))] [] a := by
  unfold f_Tape_sign_L0 at h
  refine g_aload_n X dX8_sign_0 rfl 0 rfl ?_
  refine g_get X fl_RX8_19 dX8_sign_1 kd_1 (v := .int (mI a 1 2)) rfl ?_
  refine g_aload_n X dX8_sign_4 rfl 0 rfl ?_
  refine g_get X fl_RX8_15 dX8_sign_5 kd_1 (v := .int (mI a 1 1)) rfl ?_
  refine g_icmp_ge (tgt := 38) X dX8_sign_8 (by decide) (fun c1 => ?_) (fun c1 => ?_)
  · replace h := (if_pos c1).symm.trans h
    have hk := inr_hk h hk
    exact g_sub (lv' := [(0, .ref (be θ + 1))]) [0] rfl hk
  · replace h := (if_neg c1).symm.trans h
    refine g_aload_n X dX8_sign_11 rfl 0 rfl ?_
    refine g_get X fl_RX8_9 dX8_sign_12 kd_1 (v := .ref (be θ + 2)) rfl ?_
    refine g_aload_n X dX8_sign_15 rfl 0 rfl ?_
    refine g_get X fl_RX8_19 dX8_sign_16 kd_1 (v := .int (mI a 1 2)) rfl ?_
    obtain ⟨g2, h⟩ := ite_some h
    refine g_iald X kd_2 ln_2 (inb_in g2) dX8_sign_19 ?_
    refine g_bipush X dX8_sign_20 (v := (32 : Int32)) bp_32 ?_
    refine g_icmp_ne (tgt := 38) X dX8_sign_22 (by decide) (fun c3 => ?_) (fun c3 => ?_)
    · replace h := (if_neg c3).symm.trans h
      have hk := inr_hk h hk
      exact g_sub (lv' := [(0, .ref (be θ + 1))]) [0] rfl hk
    · replace h := (if_pos c3).symm.trans h
      refine g_aload_n X dX8_sign_25 rfl 0 rfl ?_
      refine g_dup X dX8_sign_26 rfl ?_
      refine g_get X fl_RX8_19 dX8_sign_27 kd_1 (v := .int (mI a 1 2)) rfl ?_
      refine g_iconst X dX8_sign_30 (v := (1 : Int32)) ic_1 ?_
      refine g_iadd X dX8_sign_31 ?_
      refine g_putI X fl_RX8_19 dX8_sign_32 kd_1 rfl rfl rfl ?_
      refine g_goto (tgt := 0) X dX8_sign_35 (by decide) ?_
      have hk := inl_hk h hk
      exact g_sub (lv' := [(0, .ref (be θ + 1))]) [0] rfl hk
set_option maxHeartbeats 4000000 in
set_option maxRecDepth 20000 in
theorem gl_Tape_sign_L0 (X : Cx θ p s m args c cX8_sign 1 RX8) (hr : meth.sig.returnType = some .int) (hlk : meth.locks = false)   {r : Int32 × Mem}  (n : Nat) (a : Mem) (b : Mem) (h : loopF (f_Tape_sign_L0 ) n a = some b) (hk : (fun w => GB θ p l e 0 s m args below meth c 1 (some (.int r.1), r.2) 38 [(0, .ref (be θ + 1))] [] w) b) : (fun a => GB θ p l e 0 s m args below meth c 1 (some (.int r.1), r.2) 0 [(0, .ref (be θ + 1))] [] a) a :=
  loopF_by (P := (fun a => GB θ p l e 0 s m args below meth c 1 (some (.int r.1), r.2) 0 [(0, .ref (be θ + 1))] [] a)) (K := (fun w => GB θ p l e 0 s m args below meth c 1 (some (.int r.1), r.2) 38 [(0, .ref (be θ + 1))] [] w)) (fun a x h hk => by exact gs_Tape_sign_L0 X hr hlk   a x h hk) n a b h hk
set_option maxHeartbeats 4000000 in
set_option maxRecDepth 20000 in
theorem g_Tape_sign_J38 (X : Cx θ p s m args c cX8_sign 1 RX8) (hr : meth.sig.returnType = some .int) (hlk : meth.locks = false)  {σ : Mem}  {r : Int32 × Mem}  (h : f_Tape_sign_J38 σ  = some r) : GB θ p l e 0 s m args below meth c 1 (some (.int r.1), r.2) 38 [(0, .ref (be θ + 1))] [] σ := by
  unfold f_Tape_sign_J38 at h
  refine g_aload_n X dX8_sign_38 rfl 0 rfl ?_
  refine g_get X fl_RX8_19 dX8_sign_39 kd_1 (v := .int (mI σ 1 2)) rfl ?_
  refine g_aload_n X dX8_sign_42 rfl 0 rfl ?_
  refine g_get X fl_RX8_15 dX8_sign_43 kd_1 (v := .int (mI σ 1 1)) rfl ?_
  refine g_icmp_ge (tgt := 61) X dX8_sign_46 (by decide) (fun c5 => ?_) (fun c5 => ?_)
  · replace h := (if_pos c5).symm.trans h
    refine g_iconst X dX8_sign_61 (v := (0 : Int32)) ic_0 ?_
    exact g_iret X hr hlk dX8_sign_62 (by cases h; rfl)
  · replace h := (if_neg c5).symm.trans h
    refine g_aload_n X dX8_sign_49 rfl 0 rfl ?_
    refine g_get X fl_RX8_9 dX8_sign_50 kd_1 (v := .ref (be θ + 2)) rfl ?_
    refine g_aload_n X dX8_sign_53 rfl 0 rfl ?_
    refine g_get X fl_RX8_19 dX8_sign_54 kd_1 (v := .int (mI σ 1 2)) rfl ?_
    obtain ⟨g6, h⟩ := ite_some h
    refine g_iald X kd_2 ln_2 (inb_in g6) dX8_sign_57 ?_
    refine g_goto (tgt := 62) X dX8_sign_58 (by decide) ?_
    exact g_iret X hr hlk dX8_sign_62 (by cases h; rfl)
set_option maxHeartbeats 4000000 in
set_option maxRecDepth 20000 in
theorem g_Tape_sign (X : Cx θ p s m args c cX8_sign 1 RX8) (hr : meth.sig.returnType = some .int) (hlk : meth.locks = false)  {σ : Mem}  {r : Int32 × Mem}  (h : f_Tape_sign σ  = some r) : GB θ p l e 0 s m args below meth c 1 (some (.int r.1), r.2) 0 [(0, .ref (be θ + 1))] [] σ := by
  unfold f_Tape_sign at h
  obtain ⟨w4, hq4, h⟩ := Option.bind_eq_some_iff.mp h
  refine g_sub (lv' := [(0, .ref (be θ + 1))]) [0] rfl (gl_Tape_sign_L0 X hr hlk    FU _ w4 hq4 ?_)
  exact g_sub (lv' := [(0, .ref (be θ + 1))]) [0] rfl (g_Tape_sign_J38 X hr hlk    h)
set_option maxHeartbeats 4000000 in
set_option maxRecDepth 20000 in
theorem c_Tape_sign {θ : Th} {l : Launch} {σ : Mem}  {r : Int32 × Mem}  (h : f_Tape_sign σ  = some r) : Cn θ l yX8_sign cX8_sign 1 (some .int) 0 0 0 [.ref (be θ + 1)] σ (some (.int r.1), r.2) :=
  Cn.of (by decide) (Nat.le_of_ble_eq_true rfl) (fun p e s m below meth c X hr hlk => g_Tape_sign X hr hlk  h)
theorem dX8_passes_0 : decode cX8_passes 0 = .ok (.aload_n 0, 1) := by decide +kernel
theorem dX8_passes_1 : decode cX8_passes 1 = .ok (.invokevirtual 25, 3) := by decide +kernel
theorem dX8_passes_4 : decode cX8_passes 4 = .ok (.iload_n 1, 1) := by decide +kernel
theorem dX8_passes_5 : decode cX8_passes 5 = .ok (.if_icmp .eq 5, 3) := by decide +kernel
theorem dX8_passes_8 : decode cX8_passes 8 = .ok (.iconst 0, 1) := by decide +kernel
theorem dX8_passes_9 : decode cX8_passes 9 = .ok (.ireturn, 1) := by decide +kernel
theorem dX8_passes_10 : decode cX8_passes 10 = .ok (.aload_n 0, 1) := by decide +kernel
theorem dX8_passes_11 : decode cX8_passes 11 = .ok (.dup, 1) := by decide +kernel
theorem dX8_passes_12 : decode cX8_passes 12 = .ok (.getfield 19, 3) := by decide +kernel
theorem dX8_passes_15 : decode cX8_passes 15 = .ok (.iconst 1, 1) := by decide +kernel
theorem dX8_passes_16 : decode cX8_passes 16 = .ok (.iadd, 1) := by decide +kernel
theorem dX8_passes_17 : decode cX8_passes 17 = .ok (.putfield 19, 3) := by decide +kernel
theorem dX8_passes_20 : decode cX8_passes 20 = .ok (.iconst 1, 1) := by decide +kernel
theorem dX8_passes_21 : decode cX8_passes 21 = .ok (.ireturn, 1) := by decide +kernel
def f_Tape_passes (σ : Mem) (x1 : Int32) : Option (Int32 × Mem) :=
  (f_Tape_sign σ).bind fun q1 =>
  if q1.1 = x1 then
    some ((1 : Int32), (sI q1.2 1 2 ((mI q1.2 1 2) + (1 : Int32))))
  else
    some ((0 : Int32), q1.2)
set_option maxHeartbeats 4000000 in
set_option maxRecDepth 20000 in
theorem g_Tape_passes (X : Cx θ p s m args c cX8_passes 2 RX8) (hr : meth.sig.returnType = some .boolean) (hlk : meth.locks = false)  {σ : Mem} {x1 : Int32} {r : Int32 × Mem}  (h : f_Tape_passes σ x1 = some r) : GB θ p l e 1 s m args below meth c 2 (some (.int r.1), r.2) 0 [(0, .ref (be θ + 1)), (1, .int x1)] [] σ := by
  unfold f_Tape_passes at h
  refine g_aload_n X dX8_passes_0 rfl 0 rfl ?_
  obtain ⟨q1, hq1, h⟩ := Option.bind_eq_some_iff.mp h
  refine g_cV X (c_Tape_sign  hq1) lk_RX8_25 my_X8_sign (a := 1) (ci := 8) kd_1 (by decide) rfl (As := []) (rest := []) rfl rfl (Nat.le_of_ble_eq_true rfl) ⟨(Nat.le_of_ble_eq_true rfl), (Nat.le_of_ble_eq_true rfl)⟩ ⟨(Nat.le_of_ble_eq_true rfl), (Nat.le_of_ble_eq_true rfl)⟩ dX8_passes_1 (st' := [.int q1.1]) (σ' := q1.2) rfl rfl ?_
  refine g_iload_n X dX8_passes_4 rfl 1 rfl ?_
  refine g_icmp_eq (tgt := 10) X dX8_passes_5 (by decide) (fun c2 => ?_) (fun c2 => ?_)
  · replace h := (if_pos c2).symm.trans h
    refine g_aload_n X dX8_passes_10 rfl 0 rfl ?_
    refine g_dup X dX8_passes_11 rfl ?_
    refine g_get X fl_RX8_19 dX8_passes_12 kd_1 (v := .int (mI q1.2 1 2)) rfl ?_
    refine g_iconst X dX8_passes_15 (v := (1 : Int32)) ic_1 ?_
    refine g_iadd X dX8_passes_16 ?_
    refine g_putI X fl_RX8_19 dX8_passes_17 kd_1 rfl rfl rfl ?_
    refine g_iconst X dX8_passes_20 (v := (1 : Int32)) ic_1 ?_
    exact g_zret X hr hlk bz1 dX8_passes_21 (by cases h; rfl)
  · replace h := (if_neg c2).symm.trans h
    refine g_iconst X dX8_passes_8 (v := (0 : Int32)) ic_0 ?_
    exact g_zret X hr hlk bz0 dX8_passes_9 (by cases h; rfl)
set_option maxHeartbeats 4000000 in
set_option maxRecDepth 20000 in
theorem c_Tape_passes {θ : Th} {l : Launch} {σ : Mem} {x1 : Int32} {r : Int32 × Mem}  (h : f_Tape_passes σ x1 = some r) : Cn θ l yX8_passes cX8_passes 2 (some .boolean) 1 0 0 [.ref (be θ + 1), .int x1] σ (some (.int r.1), r.2) :=
  Cn.of (by decide) (Nat.le_of_ble_eq_true rfl) (fun p e s m below meth c X hr hlk => g_Tape_passes X hr hlk  h)
theorem dX1_itemOf_0 : decode cX1_itemOf 0 = .ok (.iconst 0, 1) := by decide +kernel
theorem dX1_itemOf_1 : decode cX1_itemOf 1 = .ok (.istore 4, 2) := by decide +kernel
theorem dX1_itemOf_3 : decode cX1_itemOf 3 = .ok (.iload 4, 2) := by decide +kernel
theorem dX1_itemOf_5 : decode cX1_itemOf 5 = .ok (.iload_n 3, 1) := by decide +kernel
theorem dX1_itemOf_6 : decode cX1_itemOf 6 = .ok (.if_icmp .ge 24, 3) := by decide +kernel
theorem dX1_itemOf_9 : decode cX1_itemOf 9 = .ok (.getstatic 79, 3) := by decide +kernel
theorem dX1_itemOf_12 : decode cX1_itemOf 12 = .ok (.iload_n 2, 1) := by decide +kernel
theorem dX1_itemOf_13 : decode cX1_itemOf 13 = .ok (.iload 4, 2) := by decide +kernel
theorem dX1_itemOf_15 : decode cX1_itemOf 15 = .ok (.iadd, 1) := by decide +kernel
theorem dX1_itemOf_16 : decode cX1_itemOf 16 = .ok (.caload, 1) := by decide +kernel
theorem dX1_itemOf_17 : decode cX1_itemOf 17 = .ok (.iload_n 1, 1) := by decide +kernel
theorem dX1_itemOf_18 : decode cX1_itemOf 18 = .ok (.if_icmp .ne 6, 3) := by decide +kernel
theorem dX1_itemOf_21 : decode cX1_itemOf 21 = .ok (.iload 4, 2) := by decide +kernel
theorem dX1_itemOf_23 : decode cX1_itemOf 23 = .ok (.ireturn, 1) := by decide +kernel
theorem dX1_itemOf_24 : decode cX1_itemOf 24 = .ok (.iinc 4 1, 3) := by decide +kernel
theorem dX1_itemOf_27 : decode cX1_itemOf 27 = .ok (.goto (-24), 3) := by decide +kernel
theorem dX1_itemOf_30 : decode cX1_itemOf 30 = .ok (.iconst (-1), 1) := by decide +kernel
theorem dX1_itemOf_31 : decode cX1_itemOf 31 = .ok (.ireturn, 1) := by decide +kernel
def f_City_itemOf_L3 (σ : Mem) (x0 : Nat) (x1 : Int32) (x2 : Int32) (x3 : Int32) (a : Int32) : Option ((Int32) ⊕ (Int32)) :=
  if x3 ≤ a then
    some (.inr (-1 : Int32))
  else
    if inb (x2 + a) 11 then
      if (tb 2 (x2 + a).toNatClampNeg) = x1 then
        some (.inr a)
      else
        some (.inl (a + (1 : Int32)))
    else none
def f_City_itemOf (σ : Mem) (x0 : Nat) (x1 : Int32) (x2 : Int32) (x3 : Int32) : Option (Int32) :=
  loopF (f_City_itemOf_L3 σ x0 x1 x2 x3) FU (0 : Int32)
set_option maxHeartbeats 4000000 in
set_option maxRecDepth 20000 in
theorem gs_City_itemOf_L3 (X : Cx θ p s m args c cX1_itemOf 5 RX1) (hr : meth.sig.returnType = some .int) (hlk : meth.locks = false)  {σ : Mem} {x0 : Nat} {x1 : Int32} {x2 : Int32} {x3 : Int32} {r : Int32} (h0 : kd x0 = 2) (a : Int32) (x : (Int32) ⊕ (Int32)) (h : f_City_itemOf_L3 σ x0 x1 x2 x3 a = some x) (hk : Sum.elim (fun a => GB θ p l e 0 s m args below meth c 5 (some (.int r), σ) 3 [(0, .ref (be θ + x0)), (1, .int x1), (2, .int x2), (3, .int x3), (4, .int a)] [] σ) (fun b => b = r) x) : GB θ p l e 0 s m args below meth c 5 (some (.int r), σ) 3 [(0, .ref (be θ + x0)), (1, .int x1), (2, .int x2), (3, .int x3), (4, .int a)] [] σ := by
  unfold f_City_itemOf_L3 at h
  refine g_iload X dX1_itemOf_3 4 rfl ?_
  refine g_iload_n X dX1_itemOf_5 rfl 3 rfl ?_
  refine g_icmp_ge (tgt := 30) X dX1_itemOf_6 (by decide) (fun c1 => ?_) (fun c1 => ?_)
  · replace h := (if_pos c1).symm.trans h
    refine g_iconst X dX1_itemOf_30 (v := (-1 : Int32)) ic_m1 ?_
    have hk := inr_hk h hk
    have hk : (-1 : Int32) = r := hk
    subst hk
    exact g_iret X hr hlk dX1_itemOf_31 rfl
  · replace h := (if_neg c1).symm.trans h
    refine g_gets X X.2.2.1.1.2.2.2.2.2.1 fs_RX1_79 dX1_itemOf_9 ?_
    refine g_iload_n X dX1_itemOf_12 rfl 2 rfl ?_
    refine g_iload X dX1_itemOf_13 4 rfl ?_
    refine g_iadd X dX1_itemOf_15 ?_
    obtain ⟨g2, h⟩ := ite_some h
    refine g_tc X X.2.2.1.1.2.2.2.2.2.2.1 (inb_in g2) dX1_itemOf_16 ?_
    refine g_iload_n X dX1_itemOf_17 rfl 1 rfl ?_
    refine g_icmp_ne (tgt := 24) X dX1_itemOf_18 (by decide) (fun c3 => ?_) (fun c3 => ?_)
    · replace h := (if_neg c3).symm.trans h
      refine g_iinc X dX1_itemOf_24 (kq := 4) rfl (congrArg (HAdd.hAdd _) ic_1) (by decide) (lv' := [(4, .int (a + (1 : Int32))), (0, .ref (be θ + x0)), (1, .int x1), (2, .int x2), (3, .int x3)]) rfl ?_
      refine g_goto (tgt := 3) X dX1_itemOf_27 (by decide) ?_
      have hk := inl_hk h hk
      exact g_sub (lv' := [(0, .ref (be θ + x0)), (1, .int x1), (2, .int x2), (3, .int x3), (4, .int (a + (1 : Int32)))]) [1, 2, 3, 4, 0] rfl hk
    · replace h := (if_pos c3).symm.trans h
      refine g_iload X dX1_itemOf_21 4 rfl ?_
      have hk := inr_hk h hk
      have hk : a = r := hk
      subst hk
      exact g_iret X hr hlk dX1_itemOf_23 rfl
set_option maxHeartbeats 4000000 in
set_option maxRecDepth 20000 in
theorem gl_City_itemOf_L3 (X : Cx θ p s m args c cX1_itemOf 5 RX1) (hr : meth.sig.returnType = some .int) (hlk : meth.locks = false)  {σ : Mem} {x0 : Nat} {x1 : Int32} {x2 : Int32} {x3 : Int32} {r : Int32} (h0 : kd x0 = 2) (n : Nat) (a : Int32) (b : Int32) (h : loopF (f_City_itemOf_L3 σ x0 x1 x2 x3) n a = some b) (hk : (fun b => b = r) b) : (fun a => GB θ p l e 0 s m args below meth c 5 (some (.int r), σ) 3 [(0, .ref (be θ + x0)), (1, .int x1), (2, .int x2), (3, .int x3), (4, .int a)] [] σ) a :=
  loopF_by (P := (fun a => GB θ p l e 0 s m args below meth c 5 (some (.int r), σ) 3 [(0, .ref (be θ + x0)), (1, .int x1), (2, .int x2), (3, .int x3), (4, .int a)] [] σ)) (K := (fun b => b = r)) (fun a x h hk => by exact gs_City_itemOf_L3 X hr hlk  h0 a x h hk) n a b h hk
set_option maxHeartbeats 4000000 in
set_option maxRecDepth 20000 in
theorem g_City_itemOf (X : Cx θ p s m args c cX1_itemOf 5 RX1) (hr : meth.sig.returnType = some .int) (hlk : meth.locks = false)  {σ : Mem} {x0 : Nat} {x1 : Int32} {x2 : Int32} {x3 : Int32} {r : Int32} (h0 : kd x0 = 2) (h : f_City_itemOf σ x0 x1 x2 x3 = some r) : GB θ p l e 0 s m args below meth c 5 (some (.int r), σ) 0 [(0, .ref (be θ + x0)), (1, .int x1), (2, .int x2), (3, .int x3)] [] σ := by
  unfold f_City_itemOf at h
  refine g_iconst X dX1_itemOf_0 (v := (0 : Int32)) ic_0 ?_
  refine g_istore X dX1_itemOf_1 (by decide) (lv' := [(4, .int (0 : Int32)), (0, .ref (be θ + x0)), (1, .int x1), (2, .int x2), (3, .int x3)]) rfl ?_
  exact g_sub (lv' := [(0, .ref (be θ + x0)), (1, .int x1), (2, .int x2), (3, .int x3), (4, .int (0 : Int32))]) [1, 2, 3, 4, 0] rfl (gl_City_itemOf_L3 X hr hlk  h0  FU _ _ h rfl)
set_option maxHeartbeats 4000000 in
set_option maxRecDepth 20000 in
theorem c_City_itemOf {θ : Th} {l : Launch} {σ : Mem} {x0 : Nat} {x1 : Int32} {x2 : Int32} {x3 : Int32} {r : Int32} (h0 : kd x0 = 2) (h : f_City_itemOf σ x0 x1 x2 x3 = some r) : Cn θ l yX1_itemOf cX1_itemOf 5 (some .int) 0 0 0 [.ref (be θ + x0), .int x1, .int x2, .int x3] σ (some (.int r), σ) :=
  Cn.of (by decide) (Nat.le_of_ble_eq_true rfl) (fun p e s m below meth c X hr hlk => g_City_itemOf X hr hlk h0 h)
theorem dX8_atDigit_0 : decode cX8_atDigit 0 = .ok (.aload_n 0, 1) := by decide +kernel
theorem dX8_atDigit_1 : decode cX8_atDigit 1 = .ok (.getfield 19, 3) := by decide +kernel
theorem dX8_atDigit_4 : decode cX8_atDigit 4 = .ok (.aload_n 0, 1) := by decide +kernel
theorem dX8_atDigit_5 : decode cX8_atDigit 5 = .ok (.getfield 15, 3) := by decide +kernel
theorem dX8_atDigit_8 : decode cX8_atDigit 8 = .ok (.if_icmp .ge 35, 3) := by decide +kernel
theorem dX8_atDigit_11 : decode cX8_atDigit 11 = .ok (.aload_n 0, 1) := by decide +kernel
theorem dX8_atDigit_12 : decode cX8_atDigit 12 = .ok (.getfield 9, 3) := by decide +kernel
theorem dX8_atDigit_15 : decode cX8_atDigit 15 = .ok (.aload_n 0, 1) := by decide +kernel
theorem dX8_atDigit_16 : decode cX8_atDigit 16 = .ok (.getfield 19, 3) := by decide +kernel
theorem dX8_atDigit_19 : decode cX8_atDigit 19 = .ok (.iaload, 1) := by decide +kernel
theorem dX8_atDigit_20 : decode cX8_atDigit 20 = .ok (.bipush 48, 2) := by decide +kernel
theorem dX8_atDigit_22 : decode cX8_atDigit 22 = .ok (.if_icmp .lt 21, 3) := by decide +kernel
theorem dX8_atDigit_25 : decode cX8_atDigit 25 = .ok (.aload_n 0, 1) := by decide +kernel
theorem dX8_atDigit_26 : decode cX8_atDigit 26 = .ok (.getfield 9, 3) := by decide +kernel
theorem dX8_atDigit_29 : decode cX8_atDigit 29 = .ok (.aload_n 0, 1) := by decide +kernel
theorem dX8_atDigit_30 : decode cX8_atDigit 30 = .ok (.getfield 19, 3) := by decide +kernel
theorem dX8_atDigit_33 : decode cX8_atDigit 33 = .ok (.iaload, 1) := by decide +kernel
theorem dX8_atDigit_34 : decode cX8_atDigit 34 = .ok (.bipush 57, 2) := by decide +kernel
theorem dX8_atDigit_36 : decode cX8_atDigit 36 = .ok (.if_icmp .gt 7, 3) := by decide +kernel
theorem dX8_atDigit_39 : decode cX8_atDigit 39 = .ok (.iconst 1, 1) := by decide +kernel
theorem dX8_atDigit_40 : decode cX8_atDigit 40 = .ok (.goto 4, 3) := by decide +kernel
theorem dX8_atDigit_43 : decode cX8_atDigit 43 = .ok (.iconst 0, 1) := by decide +kernel
theorem dX8_atDigit_44 : decode cX8_atDigit 44 = .ok (.ireturn, 1) := by decide +kernel
def f_Tape_atDigit (σ : Mem)  : Option (Int32) :=
  if (mI σ 1 1) ≤ (mI σ 1 2) then
    some (0 : Int32)
  else
    if inb (mI σ 1 2) 240 then
      if (mI σ 2 (mI σ 1 2).toNatClampNeg) < (48 : Int32) then
        some (0 : Int32)
      else
        if (57 : Int32) < (mI σ 2 (mI σ 1 2).toNatClampNeg) then
          some (0 : Int32)
        else
          some (1 : Int32)
    else none
set_option maxHeartbeats 4000000 in
set_option maxRecDepth 20000 in
theorem g_Tape_atDigit (X : Cx θ p s m args c cX8_atDigit 1 RX8) (hr : meth.sig.returnType = some .boolean) (hlk : meth.locks = false)  {σ : Mem}  {r : Int32}  (h : f_Tape_atDigit σ  = some r) : GB θ p l e 0 s m args below meth c 1 (some (.int r), σ) 0 [(0, .ref (be θ + 1))] [] σ := by
  unfold f_Tape_atDigit at h
  refine g_aload_n X dX8_atDigit_0 rfl 0 rfl ?_
  refine g_get X fl_RX8_19 dX8_atDigit_1 kd_1 (v := .int (mI σ 1 2)) rfl ?_
  refine g_aload_n X dX8_atDigit_4 rfl 0 rfl ?_
  refine g_get X fl_RX8_15 dX8_atDigit_5 kd_1 (v := .int (mI σ 1 1)) rfl ?_
  refine g_icmp_ge (tgt := 43) X dX8_atDigit_8 (by decide) (fun c1 => ?_) (fun c1 => ?_)
  · replace h := (if_pos c1).symm.trans h
    refine g_iconst X dX8_atDigit_43 (v := (0 : Int32)) ic_0 ?_
    exact g_zret X hr hlk bz0 dX8_atDigit_44 (by cases h; rfl)
  · replace h := (if_neg c1).symm.trans h
    refine g_aload_n X dX8_atDigit_11 rfl 0 rfl ?_
    refine g_get X fl_RX8_9 dX8_atDigit_12 kd_1 (v := .ref (be θ + 2)) rfl ?_
    refine g_aload_n X dX8_atDigit_15 rfl 0 rfl ?_
    refine g_get X fl_RX8_19 dX8_atDigit_16 kd_1 (v := .int (mI σ 1 2)) rfl ?_
    obtain ⟨g2, h⟩ := ite_some h
    refine g_iald X kd_2 ln_2 (inb_in g2) dX8_atDigit_19 ?_
    refine g_bipush X dX8_atDigit_20 (v := (48 : Int32)) bp_48 ?_
    refine g_icmp_lt (tgt := 43) X dX8_atDigit_22 (by decide) (fun c3 => ?_) (fun c3 => ?_)
    · replace h := (if_pos c3).symm.trans h
      refine g_iconst X dX8_atDigit_43 (v := (0 : Int32)) ic_0 ?_
      exact g_zret X hr hlk bz0 dX8_atDigit_44 (by cases h; rfl)
    · replace h := (if_neg c3).symm.trans h
      refine g_aload_n X dX8_atDigit_25 rfl 0 rfl ?_
      refine g_get X fl_RX8_9 dX8_atDigit_26 kd_1 (v := .ref (be θ + 2)) rfl ?_
      refine g_aload_n X dX8_atDigit_29 rfl 0 rfl ?_
      refine g_get X fl_RX8_19 dX8_atDigit_30 kd_1 (v := .int (mI σ 1 2)) rfl ?_
      refine g_iald X kd_2 ln_2 (inb_in g2) dX8_atDigit_33 ?_
      refine g_bipush X dX8_atDigit_34 (v := (57 : Int32)) bp_57 ?_
      refine g_icmp_gt (tgt := 43) X dX8_atDigit_36 (by decide) (fun c4 => ?_) (fun c4 => ?_)
      · replace h := (if_pos c4).symm.trans h
        refine g_iconst X dX8_atDigit_43 (v := (0 : Int32)) ic_0 ?_
        exact g_zret X hr hlk bz0 dX8_atDigit_44 (by cases h; rfl)
      · replace h := (if_neg c4).symm.trans h
        refine g_iconst X dX8_atDigit_39 (v := (1 : Int32)) ic_1 ?_
        refine g_goto (tgt := 44) X dX8_atDigit_40 (by decide) ?_
        exact g_zret X hr hlk bz1 dX8_atDigit_44 (by cases h; rfl)
set_option maxHeartbeats 4000000 in
set_option maxRecDepth 20000 in
theorem c_Tape_atDigit {θ : Th} {l : Launch} {σ : Mem}  {r : Int32}  (h : f_Tape_atDigit σ  = some r) : Cn θ l yX8_atDigit cX8_atDigit 1 (some .boolean) 0 0 0 [.ref (be θ + 1)] σ (some (.int r), σ) :=
  Cn.of (by decide) (Nat.le_of_ble_eq_true rfl) (fun p e s m below meth c X hr hlk => g_Tape_atDigit X hr hlk  h)
theorem dX8_passesNumber_0 : decode cX8_passesNumber 0 = .ok (.aload_n 0, 1) := by decide +kernel
theorem dX8_passesNumber_1 : decode cX8_passesNumber 1 = .ok (.invokevirtual 25, 3) := by decide +kernel
theorem dX8_passesNumber_4 : decode cX8_passesNumber 4 = .ok (.pop, 1) := by decide +kernel
theorem dX8_passesNumber_5 : decode cX8_passesNumber 5 = .ok (.aload_n 0, 1) := by decide +kernel
theorem dX8_passesNumber_6 : decode cX8_passesNumber 6 = .ok (.invokevirtual 29, 3) := by decide +kernel
theorem dX8_passesNumber_9 : decode cX8_passesNumber 9 = .ok (.ifCond .ne 5, 3) := by decide +kernel
theorem dX8_passesNumber_12 : decode cX8_passesNumber 12 = .ok (.iconst 0, 1) := by decide +kernel
theorem dX8_passesNumber_13 : decode cX8_passesNumber 13 = .ok (.ireturn, 1) := by decide +kernel
theorem dX8_passesNumber_14 : decode cX8_passesNumber 14 = .ok (.aload_n 0, 1) := by decide +kernel
theorem dX8_passesNumber_15 : decode cX8_passesNumber 15 = .ok (.iconst 0, 1) := by decide +kernel
theorem dX8_passesNumber_16 : decode cX8_passesNumber 16 = .ok (.putfield 22, 3) := by decide +kernel
theorem dX8_passesNumber_19 : decode cX8_passesNumber 19 = .ok (.iconst 0, 1) := by decide +kernel
theorem dX8_passesNumber_20 : decode cX8_passesNumber 20 = .ok (.istore_n 2, 1) := by decide +kernel
theorem dX8_passesNumber_21 : decode cX8_passesNumber 21 = .ok (.iload_n 2, 1) := by decide +kernel
theorem dX8_passesNumber_22 : decode cX8_passesNumber 22 = .ok (.iload_n 1, 1) := by decide +kernel
theorem dX8_passesNumber_23 : decode cX8_passesNumber 23 = .ok (.if_icmp .ge 50, 3) := by decide +kernel
theorem dX8_passesNumber_26 : decode cX8_passesNumber 26 = .ok (.aload_n 0, 1) := by decide +kernel
theorem dX8_passesNumber_27 : decode cX8_passesNumber 27 = .ok (.invokevirtual 29, 3) := by decide +kernel
theorem dX8_passesNumber_30 : decode cX8_passesNumber 30 = .ok (.ifCond .eq 43, 3) := by decide +kernel
theorem dX8_passesNumber_33 : decode cX8_passesNumber 33 = .ok (.aload_n 0, 1) := by decide +kernel
theorem dX8_passesNumber_34 : decode cX8_passesNumber 34 = .ok (.aload_n 0, 1) := by decide +kernel
theorem dX8_passesNumber_35 : decode cX8_passesNumber 35 = .ok (.getfield 22, 3) := by decide +kernel
theorem dX8_passesNumber_38 : decode cX8_passesNumber 38 = .ok (.bipush 10, 2) := by decide +kernel
theorem dX8_passesNumber_40 : decode cX8_passesNumber 40 = .ok (.imul, 1) := by decide +kernel
theorem dX8_passesNumber_41 : decode cX8_passesNumber 41 = .ok (.aload_n 0, 1) := by decide +kernel
theorem dX8_passesNumber_42 : decode cX8_passesNumber 42 = .ok (.getfield 9, 3) := by decide +kernel
theorem dX8_passesNumber_45 : decode cX8_passesNumber 45 = .ok (.aload_n 0, 1) := by decide +kernel
theorem dX8_passesNumber_46 : decode cX8_passesNumber 46 = .ok (.getfield 19, 3) := by decide +kernel
theorem dX8_passesNumber_49 : decode cX8_passesNumber 49 = .ok (.iaload, 1) := by decide +kernel
theorem dX8_passesNumber_50 : decode cX8_passesNumber 50 = .ok (.iadd, 1) := by decide +kernel
theorem dX8_passesNumber_51 : decode cX8_passesNumber 51 = .ok (.bipush 48, 2) := by decide +kernel
theorem dX8_passesNumber_53 : decode cX8_passesNumber 53 = .ok (.isub, 1) := by decide +kernel
theorem dX8_passesNumber_54 : decode cX8_passesNumber 54 = .ok (.putfield 22, 3) := by decide +kernel
theorem dX8_passesNumber_57 : decode cX8_passesNumber 57 = .ok (.aload_n 0, 1) := by decide +kernel
theorem dX8_passesNumber_58 : decode cX8_passesNumber 58 = .ok (.dup, 1) := by decide +kernel
theorem dX8_passesNumber_59 : decode cX8_passesNumber 59 = .ok (.getfield 19, 3) := by decide +kernel
theorem dX8_passesNumber_62 : decode cX8_passesNumber 62 = .ok (.iconst 1, 1) := by decide +kernel
theorem dX8_passesNumber_63 : decode cX8_passesNumber 63 = .ok (.iadd, 1) := by decide +kernel
theorem dX8_passesNumber_64 : decode cX8_passesNumber 64 = .ok (.putfield 19, 3) := by decide +kernel
theorem dX8_passesNumber_67 : decode cX8_passesNumber 67 = .ok (.iinc 2 1, 3) := by decide +kernel
theorem dX8_passesNumber_70 : decode cX8_passesNumber 70 = .ok (.goto (-49), 3) := by decide +kernel
theorem dX8_passesNumber_73 : decode cX8_passesNumber 73 = .ok (.aload_n 0, 1) := by decide +kernel
theorem dX8_passesNumber_74 : decode cX8_passesNumber 74 = .ok (.invokevirtual 29, 3) := by decide +kernel
theorem dX8_passesNumber_77 : decode cX8_passesNumber 77 = .ok (.ifCond .ne 7, 3) := by decide +kernel
theorem dX8_passesNumber_80 : decode cX8_passesNumber 80 = .ok (.iconst 1, 1) := by decide +kernel
theorem dX8_passesNumber_81 : decode cX8_passesNumber 81 = .ok (.goto 4, 3) := by decide +kernel
theorem dX8_passesNumber_84 : decode cX8_passesNumber 84 = .ok (.iconst 0, 1) := by decide +kernel
theorem dX8_passesNumber_85 : decode cX8_passesNumber 85 = .ok (.ireturn, 1) := by decide +kernel
def f_Tape_passesNumber_L21 (x1 : Int32) (a : Mem × Int32) : Option ((Mem × Int32) ⊕ (Mem)) :=
  @Prod.casesOn (Mem) (Int32) (fun _ => Option ((Mem × Int32) ⊕ (Mem))) a fun τ z2 =>
  if x1 ≤ z2 then
    some (.inr τ)
  else
    (f_Tape_atDigit τ).bind fun q5 =>
    if q5 = (0 : Int32) then
      some (.inr τ)
    else
      if inb (mI τ 1 2) 240 then
        some (.inl ((sI (sI τ 1 3 ((((mI τ 1 3) * (10 : Int32)) + (mI τ 2 (mI τ 1 2).toNatClampNeg)) - (48 : Int32))) 1 2 ((mI (sI τ 1 3 ((((mI τ 1 3) * (10 : Int32)) + (mI τ 2 (mI τ 1 2).toNatClampNeg)) - (48 : Int32))) 1 2) + (1 : Int32))), (z2 + (1 : Int32))))
      else none
def f_Tape_passesNumber_J73 (σ : Mem) (x1 : Int32) : Option (Int32 × Mem) :=
  (f_Tape_atDigit σ).bind fun q9 =>
  if q9 = (0 : Int32) then
    some ((1 : Int32), σ)
  else
    some ((0 : Int32), σ)
def f_Tape_passesNumber (σ : Mem) (x1 : Int32) : Option (Int32 × Mem) :=
  (f_Tape_sign σ).bind fun q1 =>
  (f_Tape_atDigit q1.2).bind fun q2 =>
  if q2 = (0 : Int32) then
    some ((0 : Int32), q1.2)
  else
    (loopF (f_Tape_passesNumber_L21 x1) FU ((sI q1.2 1 3 (0 : Int32)), (0 : Int32))).bind fun w8 =>
    f_Tape_passesNumber_J73 w8 x1
set_option maxHeartbeats 4000000 in
set_option maxRecDepth 20000 in
theorem gs_Tape_passesNumber_L21 (X : Cx θ p s m args c cX8_passesNumber 3 RX8) (hr : meth.sig.returnType = some .boolean) (hlk : meth.locks = false)  {x1 : Int32} {r : Int32 × Mem}  (τ : Mem) (z2 : Int32) (x : (Mem × Int32) ⊕ (Mem)) (h : f_Tape_passesNumber_L21 x1 (τ, z2) = some x) (hk : Sum.elim (fun a => @Prod.casesOn (Mem) (Int32) (fun _ => Prop) a fun τ z2 => GB θ p l e 1 s m args below meth c 3 (some (.int r.1), r.2) 21 [(0, .ref (be θ + 1)), (1, .int x1), (2, .int z2)] [] τ) (fun w => GB θ p l e 1 s m args below meth c 3 (some (.int r.1), r.2) 73 [(0, .ref (be θ + 1)), (1, .int x1)] [] w) x) : GB θ p l e 1 s m args below meth c 3 (some (.int r.1), r.2) 21 [(0, .ref (be θ + 1)), (1, .int x1), (2, .int z2)] [] τ := by
  unfold f_Tape_passesNumber_L21 at h
  dsimp only at h
  refine g_iload_n X dX8_passesNumber_21 rfl 2 rfl ?_
  refine g_iload_n X dX8_passesNumber_22 rfl 1 rfl ?_
  refine g_icmp_ge (tgt := 73) X dX8_passesNumber_23 (by decide) (fun c4 => ?_) (fun c4 => ?_)
  · replace h := (if_pos c4).symm.trans h
    have hk := inr_hk h hk
    exact g_sub (lv' := [(0, .ref (be θ + 1)), (1, .int x1)]) [0, 1] rfl hk
  · replace h := (if_neg c4).symm.trans h
    refine g_aload_n X dX8_passesNumber_26 rfl 0 rfl ?_
    obtain ⟨q5, hq5, h⟩ := Option.bind_eq_some_iff.mp h
    refine g_cV X (c_Tape_atDigit  hq5) lk_RX8_29 my_X8_atDigit (a := 1) (ci := 8) kd_1 (by decide) rfl (As := []) (rest := []) rfl rfl (Nat.le_of_ble_eq_true rfl) ⟨(Nat.le_of_ble_eq_true rfl), (Nat.le_of_ble_eq_true rfl)⟩ ⟨(Nat.le_of_ble_eq_true rfl), (Nat.le_of_ble_eq_true rfl)⟩ dX8_passesNumber_27 (st' := [.int q5]) (σ' := τ) rfl rfl ?_
    refine g_if_eq (tgt := 73) X dX8_passesNumber_30 (by decide) (fun c6 => ?_) (fun c6 => ?_)
    · replace h := (if_pos c6).symm.trans h
      have hk := inr_hk h hk
      exact g_sub (lv' := [(0, .ref (be θ + 1)), (1, .int x1)]) [0, 1] rfl hk
    · replace h := (if_neg c6).symm.trans h
      refine g_aload_n X dX8_passesNumber_33 rfl 0 rfl ?_
      refine g_aload_n X dX8_passesNumber_34 rfl 0 rfl ?_
      refine g_get X fl_RX8_22 dX8_passesNumber_35 kd_1 (v := .int (mI τ 1 3)) rfl ?_
      refine g_bipush X dX8_passesNumber_38 (v := (10 : Int32)) bp_10 ?_
      refine g_imul X dX8_passesNumber_40 ?_
      refine g_aload_n X dX8_passesNumber_41 rfl 0 rfl ?_
      refine g_get X fl_RX8_9 dX8_passesNumber_42 kd_1 (v := .ref (be θ + 2)) rfl ?_
      refine g_aload_n X dX8_passesNumber_45 rfl 0 rfl ?_
      refine g_get X fl_RX8_19 dX8_passesNumber_46 kd_1 (v := .int (mI τ 1 2)) rfl ?_
      obtain ⟨g7, h⟩ := ite_some h
      refine g_iald X kd_2 ln_2 (inb_in g7) dX8_passesNumber_49 ?_
      refine g_iadd X dX8_passesNumber_50 ?_
      refine g_bipush X dX8_passesNumber_51 (v := (48 : Int32)) bp_48 ?_
      refine g_isub X dX8_passesNumber_53 ?_
      refine g_putI X fl_RX8_22 dX8_passesNumber_54 kd_1 rfl rfl rfl ?_
      refine g_aload_n X dX8_passesNumber_57 rfl 0 rfl ?_
      refine g_dup X dX8_passesNumber_58 rfl ?_
      refine g_get X fl_RX8_19 dX8_passesNumber_59 kd_1 (v := .int (mI (sI τ 1 3 ((((mI τ 1 3) * (10 : Int32)) + (mI τ 2 (mI τ 1 2).toNatClampNeg)) - (48 : Int32))) 1 2)) rfl ?_
      refine g_iconst X dX8_passesNumber_62 (v := (1 : Int32)) ic_1 ?_
      refine g_iadd X dX8_passesNumber_63 ?_
      refine g_putI X fl_RX8_19 dX8_passesNumber_64 kd_1 rfl rfl rfl ?_
      refine g_iinc X dX8_passesNumber_67 (kq := 2) rfl (congrArg (HAdd.hAdd _) ic_1) (by decide) (lv' := [(2, .int (z2 + (1 : Int32))), (0, .ref (be θ + 1)), (1, .int x1)]) rfl ?_
      refine g_goto (tgt := 21) X dX8_passesNumber_70 (by decide) ?_
      have hk := inl_hk h hk
      exact g_sub (lv' := [(0, .ref (be θ + 1)), (1, .int x1), (2, .int (z2 + (1 : Int32)))]) [1, 2, 0] rfl hk
set_option maxHeartbeats 4000000 in
set_option maxRecDepth 20000 in
theorem gl_Tape_passesNumber_L21 (X : Cx θ p s m args c cX8_passesNumber 3 RX8) (hr : meth.sig.returnType = some .boolean) (hlk : meth.locks = false)  {x1 : Int32} {r : Int32 × Mem}  (n : Nat) (a : Mem × Int32) (b : Mem) (h : loopF (f_Tape_passesNumber_L21 x1) n a = some b) (hk : (fun w => GB θ p l e 1 s m args below meth c 3 (some (.int r.1), r.2) 73 [(0, .ref (be θ + 1)), (1, .int x1)] [] w) b) : (fun a => @Prod.casesOn (Mem) (Int32) (fun _ => Prop) a fun τ z2 => GB θ p l e 1 s m args below meth c 3 (some (.int r.1), r.2) 21 [(0, .ref (be θ + 1)), (1, .int x1), (2, .int z2)] [] τ) a :=
  loopF_by (P := (fun a => @Prod.casesOn (Mem) (Int32) (fun _ => Prop) a fun τ z2 => GB θ p l e 1 s m args below meth c 3 (some (.int r.1), r.2) 21 [(0, .ref (be θ + 1)), (1, .int x1), (2, .int z2)] [] τ)) (K := (fun w => GB θ p l e 1 s m args below meth c 3 (some (.int r.1), r.2) 73 [(0, .ref (be θ + 1)), (1, .int x1)] [] w)) (fun a x h hk => by obtain ⟨τ, z2⟩ := a; exact gs_Tape_passesNumber_L21 X hr hlk   τ z2 x h hk) n a b h hk
set_option maxHeartbeats 4000000 in
set_option maxRecDepth 20000 in
theorem g_Tape_passesNumber_J73 (X : Cx θ p s m args c cX8_passesNumber 3 RX8) (hr : meth.sig.returnType = some .boolean) (hlk : meth.locks = false)  {σ : Mem} {x1 : Int32} {r : Int32 × Mem}  (h : f_Tape_passesNumber_J73 σ x1 = some r) : GB θ p l e 1 s m args below meth c 3 (some (.int r.1), r.2) 73 [(0, .ref (be θ + 1)), (1, .int x1)] [] σ := by
  unfold f_Tape_passesNumber_J73 at h
  refine g_aload_n X dX8_passesNumber_73 rfl 0 rfl ?_
  obtain ⟨q9, hq9, h⟩ := Option.bind_eq_some_iff.mp h
  refine g_cV X (c_Tape_atDigit  hq9) lk_RX8_29 my_X8_atDigit (a := 1) (ci := 8) kd_1 (by decide) rfl (As := []) (rest := []) rfl rfl (Nat.le_of_ble_eq_true rfl) ⟨(Nat.le_of_ble_eq_true rfl), (Nat.le_of_ble_eq_true rfl)⟩ ⟨(Nat.le_of_ble_eq_true rfl), (Nat.le_of_ble_eq_true rfl)⟩ dX8_passesNumber_74 (st' := [.int q9]) (σ' := σ) rfl rfl ?_
  refine g_if_ne (tgt := 84) X dX8_passesNumber_77 (by decide) (fun c10 => ?_) (fun c10 => ?_)
  · replace h := (if_neg c10).symm.trans h
    refine g_iconst X dX8_passesNumber_84 (v := (0 : Int32)) ic_0 ?_
    exact g_zret X hr hlk bz0 dX8_passesNumber_85 (by cases h; rfl)
  · replace h := (if_pos c10).symm.trans h
    refine g_iconst X dX8_passesNumber_80 (v := (1 : Int32)) ic_1 ?_
    refine g_goto (tgt := 85) X dX8_passesNumber_81 (by decide) ?_
    exact g_zret X hr hlk bz1 dX8_passesNumber_85 (by cases h; rfl)
set_option maxHeartbeats 4000000 in
set_option maxRecDepth 20000 in
theorem g_Tape_passesNumber (X : Cx θ p s m args c cX8_passesNumber 3 RX8) (hr : meth.sig.returnType = some .boolean) (hlk : meth.locks = false)  {σ : Mem} {x1 : Int32} {r : Int32 × Mem}  (h : f_Tape_passesNumber σ x1 = some r) : GB θ p l e 1 s m args below meth c 3 (some (.int r.1), r.2) 0 [(0, .ref (be θ + 1)), (1, .int x1)] [] σ := by
  unfold f_Tape_passesNumber at h
  refine g_aload_n X dX8_passesNumber_0 rfl 0 rfl ?_
  obtain ⟨q1, hq1, h⟩ := Option.bind_eq_some_iff.mp h
  refine g_cV X (c_Tape_sign  hq1) lk_RX8_25 my_X8_sign (a := 1) (ci := 8) kd_1 (by decide) rfl (As := []) (rest := []) rfl rfl (Nat.le_of_ble_eq_true rfl) ⟨(Nat.le_of_ble_eq_true rfl), (Nat.le_of_ble_eq_true rfl)⟩ ⟨(Nat.le_of_ble_eq_true rfl), (Nat.le_of_ble_eq_true rfl)⟩ dX8_passesNumber_1 (st' := [.int q1.1]) (σ' := q1.2) rfl rfl ?_
  refine g_pop X dX8_passesNumber_4 rfl ?_
  refine g_aload_n X dX8_passesNumber_5 rfl 0 rfl ?_
  obtain ⟨q2, hq2, h⟩ := Option.bind_eq_some_iff.mp h
  refine g_cV X (c_Tape_atDigit  hq2) lk_RX8_29 my_X8_atDigit (a := 1) (ci := 8) kd_1 (by decide) rfl (As := []) (rest := []) rfl rfl (Nat.le_of_ble_eq_true rfl) ⟨(Nat.le_of_ble_eq_true rfl), (Nat.le_of_ble_eq_true rfl)⟩ ⟨(Nat.le_of_ble_eq_true rfl), (Nat.le_of_ble_eq_true rfl)⟩ dX8_passesNumber_6 (st' := [.int q2]) (σ' := q1.2) rfl rfl ?_
  refine g_if_ne (tgt := 14) X dX8_passesNumber_9 (by decide) (fun c3 => ?_) (fun c3 => ?_)
  · replace h := (if_neg c3).symm.trans h
    refine g_aload_n X dX8_passesNumber_14 rfl 0 rfl ?_
    refine g_iconst X dX8_passesNumber_15 (v := (0 : Int32)) ic_0 ?_
    refine g_putI X fl_RX8_22 dX8_passesNumber_16 kd_1 rfl rfl rfl ?_
    refine g_iconst X dX8_passesNumber_19 (v := (0 : Int32)) ic_0 ?_
    refine g_istore_n X dX8_passesNumber_20 rfl (by decide) (lv' := [(2, .int (0 : Int32)), (0, .ref (be θ + 1)), (1, .int x1)]) rfl ?_
    obtain ⟨w8, hq8, h⟩ := Option.bind_eq_some_iff.mp h
    refine g_sub (lv' := [(0, .ref (be θ + 1)), (1, .int x1), (2, .int (0 : Int32))]) [1, 2, 0] rfl (gl_Tape_passesNumber_L21 X hr hlk    FU _ w8 hq8 ?_)
    exact g_sub (lv' := [(0, .ref (be θ + 1)), (1, .int x1)]) [0, 1] rfl (g_Tape_passesNumber_J73 X hr hlk    h)
  · replace h := (if_pos c3).symm.trans h
    refine g_iconst X dX8_passesNumber_12 (v := (0 : Int32)) ic_0 ?_
    exact g_zret X hr hlk bz0 dX8_passesNumber_13 (by cases h; rfl)
set_option maxHeartbeats 4000000 in
set_option maxRecDepth 20000 in
theorem c_Tape_passesNumber {θ : Th} {l : Launch} {σ : Mem} {x1 : Int32} {r : Int32 × Mem}  (h : f_Tape_passesNumber σ x1 = some r) : Cn θ l yX8_passesNumber cX8_passesNumber 3 (some .boolean) 1 0 0 [.ref (be θ + 1), .int x1] σ (some (.int r.1), r.2) :=
  Cn.of (by decide) (Nat.le_of_ble_eq_true rfl) (fun p e s m below meth c X hr hlk => g_Tape_passesNumber X hr hlk  h)
theorem dX8_passesNumberWithin_0 : decode cX8_passesNumberWithin 0 = .ok (.aload_n 0, 1) := by decide +kernel
theorem dX8_passesNumberWithin_1 : decode cX8_passesNumberWithin 1 = .ok (.iconst 2, 1) := by decide +kernel
theorem dX8_passesNumberWithin_2 : decode cX8_passesNumberWithin 2 = .ok (.invokevirtual 33, 3) := by decide +kernel
theorem dX8_passesNumberWithin_5 : decode cX8_passesNumberWithin 5 = .ok (.ifCond .ne 5, 3) := by decide +kernel
theorem dX8_passesNumberWithin_8 : decode cX8_passesNumberWithin 8 = .ok (.iconst 0, 1) := by decide +kernel
theorem dX8_passesNumberWithin_9 : decode cX8_passesNumberWithin 9 = .ok (.ireturn, 1) := by decide +kernel
theorem dX8_passesNumberWithin_10 : decode cX8_passesNumberWithin 10 = .ok (.aload_n 0, 1) := by decide +kernel
theorem dX8_passesNumberWithin_11 : decode cX8_passesNumberWithin 11 = .ok (.getfield 22, 3) := by decide +kernel
theorem dX8_passesNumberWithin_14 : decode cX8_passesNumberWithin 14 = .ok (.iload_n 1, 1) := by decide +kernel
theorem dX8_passesNumberWithin_15 : decode cX8_passesNumberWithin 15 = .ok (.if_icmp .lt 11, 3) := by decide +kernel
theorem dX8_passesNumberWithin_18 : decode cX8_passesNumberWithin 18 = .ok (.aload_n 0, 1) := by decide +kernel
theorem dX8_passesNumberWithin_19 : decode cX8_passesNumberWithin 19 = .ok (.getfield 22, 3) := by decide +kernel
theorem dX8_passesNumberWithin_22 : decode cX8_passesNumberWithin 22 = .ok (.iload_n 2, 1) := by decide +kernel
theorem dX8_passesNumberWithin_23 : decode cX8_passesNumberWithin 23 = .ok (.if_icmp .le 15, 3) := by decide +kernel
theorem dX8_passesNumberWithin_26 : decode cX8_passesNumberWithin 26 = .ok (.aload_n 0, 1) := by decide +kernel
theorem dX8_passesNumberWithin_27 : decode cX8_passesNumberWithin 27 = .ok (.dup, 1) := by decide +kernel
theorem dX8_passesNumberWithin_28 : decode cX8_passesNumberWithin 28 = .ok (.getfield 19, 3) := by decide +kernel
theorem dX8_passesNumberWithin_31 : decode cX8_passesNumberWithin 31 = .ok (.iconst 1, 1) := by decide +kernel
theorem dX8_passesNumberWithin_32 : decode cX8_passesNumberWithin 32 = .ok (.isub, 1) := by decide +kernel
theorem dX8_passesNumberWithin_33 : decode cX8_passesNumberWithin 33 = .ok (.putfield 19, 3) := by decide +kernel
theorem dX8_passesNumberWithin_36 : decode cX8_passesNumberWithin 36 = .ok (.iconst 0, 1) := by decide +kernel
theorem dX8_passesNumberWithin_37 : decode cX8_passesNumberWithin 37 = .ok (.ireturn, 1) := by decide +kernel
theorem dX8_passesNumberWithin_38 : decode cX8_passesNumberWithin 38 = .ok (.iconst 1, 1) := by decide +kernel
theorem dX8_passesNumberWithin_39 : decode cX8_passesNumberWithin 39 = .ok (.ireturn, 1) := by decide +kernel
def f_Tape_passesNumberWithin_J26 (σ : Mem) (x1 : Int32) (x2 : Int32) : Option (Int32 × Mem) :=
  some ((0 : Int32), (sI σ 1 2 ((mI σ 1 2) - (1 : Int32))))
def f_Tape_passesNumberWithin (σ : Mem) (x1 : Int32) (x2 : Int32) : Option (Int32 × Mem) :=
  (f_Tape_passesNumber σ (2 : Int32)).bind fun q1 =>
  if q1.1 = (0 : Int32) then
    some ((0 : Int32), q1.2)
  else
    if (mI q1.2 1 3) < x1 then
      f_Tape_passesNumberWithin_J26 q1.2 x1 x2
    else
      if (mI q1.2 1 3) ≤ x2 then
        some ((1 : Int32), q1.2)
      else
        f_Tape_passesNumberWithin_J26 q1.2 x1 x2
set_option maxHeartbeats 4000000 in
set_option maxRecDepth 20000 in
theorem g_Tape_passesNumberWithin_J26 (X : Cx θ p s m args c cX8_passesNumberWithin 3 RX8) (hr : meth.sig.returnType = some .boolean) (hlk : meth.locks = false)  {σ : Mem} {x1 : Int32} {x2 : Int32} {r : Int32 × Mem}  (h : f_Tape_passesNumberWithin_J26 σ x1 x2 = some r) : GB θ p l e 2 s m args below meth c 3 (some (.int r.1), r.2) 26 [(0, .ref (be θ + 1)), (1, .int x1), (2, .int x2)] [] σ := by
  unfold f_Tape_passesNumberWithin_J26 at h
  refine g_aload_n X dX8_passesNumberWithin_26 rfl 0 rfl ?_
  refine g_dup X dX8_passesNumberWithin_27 rfl ?_
  refine g_get X fl_RX8_19 dX8_passesNumberWithin_28 kd_1 (v := .int (mI σ 1 2)) rfl ?_
  refine g_iconst X dX8_passesNumberWithin_31 (v := (1 : Int32)) ic_1 ?_
  refine g_isub X dX8_passesNumberWithin_32 ?_
  refine g_putI X fl_RX8_19 dX8_passesNumberWithin_33 kd_1 rfl rfl rfl ?_
  refine g_iconst X dX8_passesNumberWithin_36 (v := (0 : Int32)) ic_0 ?_
  exact g_zret X hr hlk bz0 dX8_passesNumberWithin_37 (by cases h; rfl)
set_option maxHeartbeats 4000000 in
set_option maxRecDepth 20000 in
theorem g_Tape_passesNumberWithin (X : Cx θ p s m args c cX8_passesNumberWithin 3 RX8) (hr : meth.sig.returnType = some .boolean) (hlk : meth.locks = false)  {σ : Mem} {x1 : Int32} {x2 : Int32} {r : Int32 × Mem}  (h : f_Tape_passesNumberWithin σ x1 x2 = some r) : GB θ p l e 2 s m args below meth c 3 (some (.int r.1), r.2) 0 [(0, .ref (be θ + 1)), (1, .int x1), (2, .int x2)] [] σ := by
  unfold f_Tape_passesNumberWithin at h
  refine g_aload_n X dX8_passesNumberWithin_0 rfl 0 rfl ?_
  refine g_iconst X dX8_passesNumberWithin_1 (v := (2 : Int32)) ic_2 ?_
  obtain ⟨q1, hq1, h⟩ := Option.bind_eq_some_iff.mp h
  refine g_cV X (c_Tape_passesNumber  hq1) lk_RX8_33 my_X8_passesNumber (a := 1) (ci := 8) kd_1 (by decide) rfl (As := [.int (2 : Int32)]) (rest := []) rfl rfl (Nat.le_of_ble_eq_true rfl) ⟨(Nat.le_of_ble_eq_true rfl), (Nat.le_of_ble_eq_true rfl)⟩ ⟨(Nat.le_of_ble_eq_true rfl), (Nat.le_of_ble_eq_true rfl)⟩ dX8_passesNumberWithin_2 (st' := [.int q1.1]) (σ' := q1.2) rfl rfl ?_
  refine g_if_ne (tgt := 10) X dX8_passesNumberWithin_5 (by decide) (fun c2 => ?_) (fun c2 => ?_)
  · replace h := (if_neg c2).symm.trans h
    refine g_aload_n X dX8_passesNumberWithin_10 rfl 0 rfl ?_
    refine g_get X fl_RX8_22 dX8_passesNumberWithin_11 kd_1 (v := .int (mI q1.2 1 3)) rfl ?_
    refine g_iload_n X dX8_passesNumberWithin_14 rfl 1 rfl ?_
    refine g_icmp_lt (tgt := 26) X dX8_passesNumberWithin_15 (by decide) (fun c3 => ?_) (fun c3 => ?_)
    · replace h := (if_pos c3).symm.trans h
      exact g_sub (lv' := [(0, .ref (be θ + 1)), (1, .int x1), (2, .int x2)]) [0, 1, 2] rfl (g_Tape_passesNumberWithin_J26 X hr hlk    h)
    · replace h := (if_neg c3).symm.trans h
      refine g_aload_n X dX8_passesNumberWithin_18 rfl 0 rfl ?_
      refine g_get X fl_RX8_22 dX8_passesNumberWithin_19 kd_1 (v := .int (mI q1.2 1 3)) rfl ?_
      refine g_iload_n X dX8_passesNumberWithin_22 rfl 2 rfl ?_
      refine g_icmp_le (tgt := 38) X dX8_passesNumberWithin_23 (by decide) (fun c4 => ?_) (fun c4 => ?_)
      · replace h := (if_pos c4).symm.trans h
        refine g_iconst X dX8_passesNumberWithin_38 (v := (1 : Int32)) ic_1 ?_
        exact g_zret X hr hlk bz1 dX8_passesNumberWithin_39 (by cases h; rfl)
      · replace h := (if_neg c4).symm.trans h
        exact g_sub (lv' := [(0, .ref (be θ + 1)), (1, .int x1), (2, .int x2)]) [0, 1, 2] rfl (g_Tape_passesNumberWithin_J26 X hr hlk    h)
  · replace h := (if_pos c2).symm.trans h
    refine g_iconst X dX8_passesNumberWithin_8 (v := (0 : Int32)) ic_0 ?_
    exact g_zret X hr hlk bz0 dX8_passesNumberWithin_9 (by cases h; rfl)
set_option maxHeartbeats 4000000 in
set_option maxRecDepth 20000 in
theorem c_Tape_passesNumberWithin {θ : Th} {l : Launch} {σ : Mem} {x1 : Int32} {x2 : Int32} {r : Int32 × Mem}  (h : f_Tape_passesNumberWithin σ x1 x2 = some r) : Cn θ l yX8_passesNumberWithin cX8_passesNumberWithin 3 (some .boolean) 2 0 0 [.ref (be θ + 1), .int x1, .int x2] σ (some (.int r.1), r.2) :=
  Cn.of (by decide) (Nat.le_of_ble_eq_true rfl) (fun p e s m below meth c X hr hlk => g_Tape_passesNumberWithin X hr hlk  h)
theorem dX1_itemsRead_0 : decode cX1_itemsRead 0 = .ok (.getstatic 32, 3) := by decide +kernel
theorem dX1_itemsRead_3 : decode cX1_itemsRead 3 = .ok (.iload 4, 2) := by decide +kernel
theorem dX1_itemsRead_5 : decode cX1_itemsRead 5 = .ok (.aload_n 2, 1) := by decide +kernel
theorem dX1_itemsRead_6 : decode cX1_itemsRead 6 = .ok (.iload_n 3, 1) := by decide +kernel
theorem dX1_itemsRead_7 : decode cX1_itemsRead 7 = .ok (.iload 5, 2) := by decide +kernel
theorem dX1_itemsRead_9 : decode cX1_itemsRead 9 = .ok (.invokestatic 35, 3) := by decide +kernel
theorem dX1_itemsRead_12 : decode cX1_itemsRead 12 = .ok (.iconst 0, 1) := by decide +kernel
theorem dX1_itemsRead_13 : decode cX1_itemsRead 13 = .ok (.istore 6, 2) := by decide +kernel
theorem dX1_itemsRead_15 : decode cX1_itemsRead 15 = .ok (.iconst 0, 1) := by decide +kernel
theorem dX1_itemsRead_16 : decode cX1_itemsRead 16 = .ok (.istore 7, 2) := by decide +kernel
theorem dX1_itemsRead_18 : decode cX1_itemsRead 18 = .ok (.iload 7, 2) := by decide +kernel
theorem dX1_itemsRead_20 : decode cX1_itemsRead 20 = .ok (.iload 5, 2) := by decide +kernel
theorem dX1_itemsRead_22 : decode cX1_itemsRead 22 = .ok (.if_icmp .gt 116, 3) := by decide +kernel
theorem dX1_itemsRead_25 : decode cX1_itemsRead 25 = .ok (.aload_n 1, 1) := by decide +kernel
theorem dX1_itemsRead_26 : decode cX1_itemsRead 26 = .ok (.invokevirtual 50, 3) := by decide +kernel
theorem dX1_itemsRead_29 : decode cX1_itemsRead 29 = .ok (.istore 8, 2) := by decide +kernel
theorem dX1_itemsRead_31 : decode cX1_itemsRead 31 = .ok (.iload 8, 2) := by decide +kernel
theorem dX1_itemsRead_33 : decode cX1_itemsRead 33 = .ok (.ifCond .eq 10, 3) := by decide +kernel
theorem dX1_itemsRead_36 : decode cX1_itemsRead 36 = .ok (.iload 8, 2) := by decide +kernel
theorem dX1_itemsRead_38 : decode cX1_itemsRead 38 = .ok (.bipush 59, 2) := by decide +kernel
theorem dX1_itemsRead_40 : decode cX1_itemsRead 40 = .ok (.if_icmp .ne 5, 3) := by decide +kernel
theorem dX1_itemsRead_43 : decode cX1_itemsRead 43 = .ok (.iconst 1, 1) := by decide +kernel
theorem dX1_itemsRead_44 : decode cX1_itemsRead 44 = .ok (.ireturn, 1) := by decide +kernel
theorem dX1_itemsRead_45 : decode cX1_itemsRead 45 = .ok (.aload_n 0, 1) := by decide +kernel
theorem dX1_itemsRead_46 : decode cX1_itemsRead 46 = .ok (.iload 8, 2) := by decide +kernel
theorem dX1_itemsRead_48 : decode cX1_itemsRead 48 = .ok (.iload 4, 2) := by decide +kernel
theorem dX1_itemsRead_50 : decode cX1_itemsRead 50 = .ok (.iload 5, 2) := by decide +kernel
theorem dX1_itemsRead_52 : decode cX1_itemsRead 52 = .ok (.invokevirtual 62, 3) := by decide +kernel
theorem dX1_itemsRead_55 : decode cX1_itemsRead 55 = .ok (.istore 9, 2) := by decide +kernel
theorem dX1_itemsRead_57 : decode cX1_itemsRead 57 = .ok (.iload 9, 2) := by decide +kernel
theorem dX1_itemsRead_59 : decode cX1_itemsRead 59 = .ok (.iconst (-1), 1) := by decide +kernel
theorem dX1_itemsRead_60 : decode cX1_itemsRead 60 = .ok (.if_icmp .eq 14, 3) := by decide +kernel
theorem dX1_itemsRead_63 : decode cX1_itemsRead 63 = .ok (.iload 6, 2) := by decide +kernel
theorem dX1_itemsRead_65 : decode cX1_itemsRead 65 = .ok (.iload 9, 2) := by decide +kernel
theorem dX1_itemsRead_67 : decode cX1_itemsRead 67 = .ok (.ishr, 1) := by decide +kernel
theorem dX1_itemsRead_68 : decode cX1_itemsRead 68 = .ok (.iconst 1, 1) := by decide +kernel
theorem dX1_itemsRead_69 : decode cX1_itemsRead 69 = .ok (.iand, 1) := by decide +kernel
theorem dX1_itemsRead_70 : decode cX1_itemsRead 70 = .ok (.iconst 1, 1) := by decide +kernel
theorem dX1_itemsRead_71 : decode cX1_itemsRead 71 = .ok (.if_icmp .ne 5, 3) := by decide +kernel
theorem dX1_itemsRead_74 : decode cX1_itemsRead 74 = .ok (.iconst 0, 1) := by decide +kernel
theorem dX1_itemsRead_75 : decode cX1_itemsRead 75 = .ok (.ireturn, 1) := by decide +kernel
theorem dX1_itemsRead_76 : decode cX1_itemsRead 76 = .ok (.iload 6, 2) := by decide +kernel
theorem dX1_itemsRead_78 : decode cX1_itemsRead 78 = .ok (.iconst 1, 1) := by decide +kernel
theorem dX1_itemsRead_79 : decode cX1_itemsRead 79 = .ok (.iload 9, 2) := by decide +kernel
theorem dX1_itemsRead_81 : decode cX1_itemsRead 81 = .ok (.ishl, 1) := by decide +kernel
theorem dX1_itemsRead_82 : decode cX1_itemsRead 82 = .ok (.ior, 1) := by decide +kernel
theorem dX1_itemsRead_83 : decode cX1_itemsRead 83 = .ok (.istore 6, 2) := by decide +kernel
theorem dX1_itemsRead_85 : decode cX1_itemsRead 85 = .ok (.aload_n 1, 1) := by decide +kernel
theorem dX1_itemsRead_86 : decode cX1_itemsRead 86 = .ok (.dup, 1) := by decide +kernel
theorem dX1_itemsRead_87 : decode cX1_itemsRead 87 = .ok (.getfield 41, 3) := by decide +kernel
theorem dX1_itemsRead_90 : decode cX1_itemsRead 90 = .ok (.iconst 1, 1) := by decide +kernel
theorem dX1_itemsRead_91 : decode cX1_itemsRead 91 = .ok (.iadd, 1) := by decide +kernel
theorem dX1_itemsRead_92 : decode cX1_itemsRead 92 = .ok (.putfield 41, 3) := by decide +kernel
theorem dX1_itemsRead_95 : decode cX1_itemsRead 95 = .ok (.aload_n 1, 1) := by decide +kernel
theorem dX1_itemsRead_96 : decode cX1_itemsRead 96 = .ok (.getstatic 66, 3) := by decide +kernel
theorem dX1_itemsRead_99 : decode cX1_itemsRead 99 = .ok (.iload 4, 2) := by decide +kernel
theorem dX1_itemsRead_101 : decode cX1_itemsRead 101 = .ok (.iload 9, 2) := by decide +kernel
theorem dX1_itemsRead_103 : decode cX1_itemsRead 103 = .ok (.iadd, 1) := by decide +kernel
theorem dX1_itemsRead_104 : decode cX1_itemsRead 104 = .ok (.iaload, 1) := by decide +kernel
theorem dX1_itemsRead_105 : decode cX1_itemsRead 105 = .ok (.getstatic 69, 3) := by decide +kernel
theorem dX1_itemsRead_108 : decode cX1_itemsRead 108 = .ok (.iload 4, 2) := by decide +kernel
theorem dX1_itemsRead_110 : decode cX1_itemsRead 110 = .ok (.iload 9, 2) := by decide +kernel
theorem dX1_itemsRead_112 : decode cX1_itemsRead 112 = .ok (.iadd, 1) := by decide +kernel
theorem dX1_itemsRead_113 : decode cX1_itemsRead 113 = .ok (.iaload, 1) := by decide +kernel
theorem dX1_itemsRead_114 : decode cX1_itemsRead 114 = .ok (.invokevirtual 72, 3) := by decide +kernel
theorem dX1_itemsRead_117 : decode cX1_itemsRead 117 = .ok (.ifCond .ne 5, 3) := by decide +kernel
theorem dX1_itemsRead_120 : decode cX1_itemsRead 120 = .ok (.iconst 0, 1) := by decide +kernel
theorem dX1_itemsRead_121 : decode cX1_itemsRead 121 = .ok (.ireturn, 1) := by decide +kernel
theorem dX1_itemsRead_122 : decode cX1_itemsRead 122 = .ok (.aload_n 2, 1) := by decide +kernel
theorem dX1_itemsRead_123 : decode cX1_itemsRead 123 = .ok (.iload_n 3, 1) := by decide +kernel
theorem dX1_itemsRead_124 : decode cX1_itemsRead 124 = .ok (.iload 9, 2) := by decide +kernel
theorem dX1_itemsRead_126 : decode cX1_itemsRead 126 = .ok (.iadd, 1) := by decide +kernel
theorem dX1_itemsRead_127 : decode cX1_itemsRead 127 = .ok (.aload_n 1, 1) := by decide +kernel
theorem dX1_itemsRead_128 : decode cX1_itemsRead 128 = .ok (.getfield 76, 3) := by decide +kernel
theorem dX1_itemsRead_131 : decode cX1_itemsRead 131 = .ok (.iastore, 1) := by decide +kernel
theorem dX1_itemsRead_132 : decode cX1_itemsRead 132 = .ok (.iinc 7 1, 3) := by decide +kernel
theorem dX1_itemsRead_135 : decode cX1_itemsRead 135 = .ok (.goto (-117), 3) := by decide +kernel
theorem dX1_itemsRead_138 : decode cX1_itemsRead 138 = .ok (.iconst 0, 1) := by decide +kernel
theorem dX1_itemsRead_139 : decode cX1_itemsRead 139 = .ok (.ireturn, 1) := by decide +kernel
def f_City_itemsRead_L18 (x0 : Nat) (x2 : Nat) (x3 : Int32) (x4 : Int32) (x5 : Int32) (a : Mem × Int32 × Int32) : Option ((Mem × Int32 × Int32) ⊕ (Int32 × Mem)) :=
  @Prod.casesOn (Mem) (Int32 × Int32) (fun _ => Option ((Mem × Int32 × Int32) ⊕ (Int32 × Mem))) a fun τ b0 =>
  @Prod.casesOn (Int32) (Int32) (fun _ => Option ((Mem × Int32 × Int32) ⊕ (Int32 × Mem))) b0 fun z6 z7 =>
  if x5 < z7 then
    some (.inr ((0 : Int32), τ))
  else
    (f_Tape_sign τ).bind fun q4 =>
    if q4.1 = (0 : Int32) then
      some (.inr ((1 : Int32), q4.2))
    else
      if q4.1 = (59 : Int32) then
        some (.inr ((1 : Int32), q4.2))
      else
        (f_City_itemOf q4.2 x0 q4.1 x4 x5).bind fun q7 =>
        if q7 = (-1 : Int32) then
          some (.inr ((0 : Int32), q4.2))
        else
          if ((z6 >>> (q7 &&& 31)) &&& (1 : Int32)) = (1 : Int32) then
            some (.inr ((0 : Int32), q4.2))
          else
            if inb (x4 + q7) 11 then
              (f_Tape_passesNumberWithin (sI q4.2 1 2 ((mI q4.2 1 2) + (1 : Int32))) (tb 3 (x4 + q7).toNatClampNeg) (tb 4 (x4 + q7).toNatClampNeg)).bind fun q11 =>
              if q11.1 = (0 : Int32) then
                some (.inr ((0 : Int32), q11.2))
              else
                if inb (x3 + q7) (ln x2) then
                  some (.inl ((sI q11.2 x2 (x3 + q7).toNatClampNeg (mI q11.2 1 3)), (z6 ||| ((1 : Int32) <<< (q7 &&& 31))), (z7 + (1 : Int32))))
                else none
            else none
def f_City_itemsRead (σ : Mem) (x0 : Nat) (x2 : Nat) (x3 : Int32) (x4 : Int32) (x5 : Int32) : Option (Int32 × Mem) :=
  if cpyB 11 (ln x2) x4 x3 x5 then
    (some (rI σ x2 (cpyM (tb 1) (mI σ x2) x4 x3 x5))).bind fun σ2 =>
    loopF (f_City_itemsRead_L18 x0 x2 x3 x4 x5) FU (σ2, (0 : Int32), (0 : Int32))
  else none
set_option maxHeartbeats 4000000 in
set_option maxRecDepth 20000 in
theorem gs_City_itemsRead_L18 (X : Cx θ p s m args c cX1_itemsRead 10 RX1) (hr : meth.sig.returnType = some .boolean) (hlk : meth.locks = false)  {x0 : Nat} {x2 : Nat} {x3 : Int32} {x4 : Int32} {x5 : Int32} {r : Int32 × Mem} (h0 : kd x0 = 2) (h2 : kd x2 = 13) (τ : Mem) (z6 : Int32) (z7 : Int32) (x : (Mem × Int32 × Int32) ⊕ (Int32 × Mem)) (h : f_City_itemsRead_L18 x0 x2 x3 x4 x5 (τ, z6, z7) = some x) (hk : Sum.elim (fun a => @Prod.casesOn (Mem) (Int32 × Int32) (fun _ => Prop) a fun τ b0 => @Prod.casesOn (Int32) (Int32) (fun _ => Prop) b0 fun z6 z7 => GB θ p l e 3 s m args below meth c 10 (some (.int r.1), r.2) 18 [(0, .ref (be θ + x0)), (1, .ref (be θ + 1)), (2, .ref (be θ + x2)), (3, .int x3), (4, .int x4), (5, .int x5), (6, .int z6), (7, .int z7)] [] τ) (fun b => b = r) x) : GB θ p l e 3 s m args below meth c 10 (some (.int r.1), r.2) 18 [(0, .ref (be θ + x0)), (1, .ref (be θ + 1)), (2, .ref (be θ + x2)), (3, .int x3), (4, .int x4), (5, .int x5), (6, .int z6), (7, .int z7)] [] τ := by
  unfold f_City_itemsRead_L18 at h
  dsimp only at h
  refine g_iload X dX1_itemsRead_18 7 rfl ?_
  refine g_iload X dX1_itemsRead_20 5 rfl ?_
  refine g_icmp_gt (tgt := 138) X dX1_itemsRead_22 (by decide) (fun c3 => ?_) (fun c3 => ?_)
  · replace h := (if_pos c3).symm.trans h
    refine g_iconst X dX1_itemsRead_138 (v := (0 : Int32)) ic_0 ?_
    have hk := inr_hk h hk
    have hk : ((0 : Int32), τ) = r := hk
    subst hk
    exact g_zret X hr hlk bz0 dX1_itemsRead_139 rfl
  · replace h := (if_neg c3).symm.trans h
    refine g_aload_n X dX1_itemsRead_25 rfl 1 rfl ?_
    obtain ⟨q4, hq4, h⟩ := Option.bind_eq_some_iff.mp h
    refine g_cV X (c_Tape_sign  hq4) lk_RX1_50 my_X8_sign (a := 1) (ci := 8) kd_1 (by decide) rfl (As := []) (rest := []) rfl rfl (Nat.le_of_ble_eq_true rfl) ⟨(Nat.le_of_ble_eq_true rfl), (Nat.le_of_ble_eq_true rfl)⟩ ⟨(Nat.le_of_ble_eq_true rfl), (Nat.le_of_ble_eq_true rfl)⟩ dX1_itemsRead_26 (st' := [.int q4.1]) (σ' := q4.2) rfl rfl ?_
    refine g_istore X dX1_itemsRead_29 (by decide) (lv' := [(8, .int q4.1), (0, .ref (be θ + x0)), (1, .ref (be θ + 1)), (2, .ref (be θ + x2)), (3, .int x3), (4, .int x4), (5, .int x5), (6, .int z6), (7, .int z7)]) rfl ?_
    refine g_iload X dX1_itemsRead_31 0 rfl ?_
    refine g_if_eq (tgt := 43) X dX1_itemsRead_33 (by decide) (fun c5 => ?_) (fun c5 => ?_)
    · replace h := (if_pos c5).symm.trans h
      refine g_iconst X dX1_itemsRead_43 (v := (1 : Int32)) ic_1 ?_
      have hk := inr_hk h hk
      have hk : ((1 : Int32), q4.2) = r := hk
      subst hk
      exact g_zret X hr hlk bz1 dX1_itemsRead_44 rfl
    · replace h := (if_neg c5).symm.trans h
      refine g_iload X dX1_itemsRead_36 0 rfl ?_
      refine g_bipush X dX1_itemsRead_38 (v := (59 : Int32)) bp_59 ?_
      refine g_icmp_ne (tgt := 45) X dX1_itemsRead_40 (by decide) (fun c6 => ?_) (fun c6 => ?_)
      · replace h := (if_neg c6).symm.trans h
        refine g_aload_n X dX1_itemsRead_45 rfl 1 rfl ?_
        refine g_iload X dX1_itemsRead_46 0 rfl ?_
        refine g_iload X dX1_itemsRead_48 5 rfl ?_
        refine g_iload X dX1_itemsRead_50 6 rfl ?_
        obtain ⟨q7, hq7, h⟩ := Option.bind_eq_some_iff.mp h
        refine g_cV X (c_City_itemOf h0 hq7) lk_RX1_62 my_X1_itemOf (a := x0) (ci := 1) h0 (by decide) rfl (As := [.int q4.1, .int x4, .int x5]) (rest := []) rfl rfl (Nat.le_of_ble_eq_true rfl) ⟨(Nat.le_of_ble_eq_true rfl), (Nat.le_of_ble_eq_true rfl)⟩ ⟨(Nat.le_of_ble_eq_true rfl), (Nat.le_of_ble_eq_true rfl)⟩ dX1_itemsRead_52 (st' := [.int q7]) (σ' := q4.2) rfl rfl ?_
        refine g_istore X dX1_itemsRead_55 (by decide) (lv' := [(9, .int q7), (8, .int q4.1), (0, .ref (be θ + x0)), (1, .ref (be θ + 1)), (2, .ref (be θ + x2)), (3, .int x3), (4, .int x4), (5, .int x5), (6, .int z6), (7, .int z7)]) rfl ?_
        refine g_iload X dX1_itemsRead_57 0 rfl ?_
        refine g_iconst X dX1_itemsRead_59 (v := (-1 : Int32)) ic_m1 ?_
        refine g_icmp_eq (tgt := 74) X dX1_itemsRead_60 (by decide) (fun c8 => ?_) (fun c8 => ?_)
        · replace h := (if_pos c8).symm.trans h
          refine g_iconst X dX1_itemsRead_74 (v := (0 : Int32)) ic_0 ?_
          have hk := inr_hk h hk
          have hk : ((0 : Int32), q4.2) = r := hk
          subst hk
          exact g_zret X hr hlk bz0 dX1_itemsRead_75 rfl
        · replace h := (if_neg c8).symm.trans h
          refine g_iload X dX1_itemsRead_63 8 rfl ?_
          refine g_iload X dX1_itemsRead_65 0 rfl ?_
          refine g_ishr X dX1_itemsRead_67 ?_
          refine g_iconst X dX1_itemsRead_68 (v := (1 : Int32)) ic_1 ?_
          refine g_iand X dX1_itemsRead_69 ?_
          refine g_iconst X dX1_itemsRead_70 (v := (1 : Int32)) ic_1 ?_
          refine g_icmp_ne (tgt := 76) X dX1_itemsRead_71 (by decide) (fun c9 => ?_) (fun c9 => ?_)
          · replace h := (if_neg c9).symm.trans h
            refine g_iload X dX1_itemsRead_76 8 rfl ?_
            refine g_iconst X dX1_itemsRead_78 (v := (1 : Int32)) ic_1 ?_
            refine g_iload X dX1_itemsRead_79 0 rfl ?_
            refine g_ishl X dX1_itemsRead_81 ?_
            refine g_ior X dX1_itemsRead_82 ?_
            refine g_istore X dX1_itemsRead_83 (by decide) (lv' := [(6, .int (z6 ||| ((1 : Int32) <<< (q7 &&& 31)))), (9, .int q7), (8, .int q4.1), (0, .ref (be θ + x0)), (1, .ref (be θ + 1)), (2, .ref (be θ + x2)), (3, .int x3), (4, .int x4), (5, .int x5), (7, .int z7)]) rfl ?_
            refine g_aload_n X dX1_itemsRead_85 rfl 4 rfl ?_
            refine g_dup X dX1_itemsRead_86 rfl ?_
            refine g_get X fl_RX1_41 dX1_itemsRead_87 kd_1 (v := .int (mI q4.2 1 2)) rfl ?_
            refine g_iconst X dX1_itemsRead_90 (v := (1 : Int32)) ic_1 ?_
            refine g_iadd X dX1_itemsRead_91 ?_
            refine g_putI X fl_RX1_41 dX1_itemsRead_92 kd_1 rfl rfl rfl ?_
            refine g_aload_n X dX1_itemsRead_95 rfl 4 rfl ?_
            refine g_gets X X.2.2.1.1.2.2.2.2.2.2.2.1 fs_RX1_66 dX1_itemsRead_96 ?_
            refine g_iload X dX1_itemsRead_99 7 rfl ?_
            refine g_iload X dX1_itemsRead_101 1 rfl ?_
            refine g_iadd X dX1_itemsRead_103 ?_
            obtain ⟨g10, h⟩ := ite_some h
            refine g_ti X X.2.2.1.1.2.2.2.2.2.2.2.2.1 (inb_in g10) dX1_itemsRead_104 ?_
            refine g_gets X X.2.2.1.1.2.2.2.2.2.2.2.2.2.1 fs_RX1_69 dX1_itemsRead_105 ?_
            refine g_iload X dX1_itemsRead_108 7 rfl ?_
            refine g_iload X dX1_itemsRead_110 1 rfl ?_
            refine g_iadd X dX1_itemsRead_112 ?_
            refine g_ti X X.2.2.1.1.2.2.2.2.2.2.2.2.2.2.1 (inb_in g10) dX1_itemsRead_113 ?_
            obtain ⟨q11, hq11, h⟩ := Option.bind_eq_some_iff.mp h
            refine g_cV X (c_Tape_passesNumberWithin  hq11) lk_RX1_72 my_X8_passesNumberWithin (a := 1) (ci := 8) kd_1 (by decide) rfl (As := [.int (tb 3 (x4 + q7).toNatClampNeg), .int (tb 4 (x4 + q7).toNatClampNeg)]) (rest := []) rfl rfl (Nat.le_of_ble_eq_true rfl) ⟨(Nat.le_of_ble_eq_true rfl), (Nat.le_of_ble_eq_true rfl)⟩ ⟨(Nat.le_of_ble_eq_true rfl), (Nat.le_of_ble_eq_true rfl)⟩ dX1_itemsRead_114 (st' := [.int q11.1]) (σ' := q11.2) rfl rfl ?_
            refine g_if_ne (tgt := 122) X dX1_itemsRead_117 (by decide) (fun c12 => ?_) (fun c12 => ?_)
            · replace h := (if_neg c12).symm.trans h
              refine g_aload_n X dX1_itemsRead_122 rfl 5 rfl ?_
              refine g_iload_n X dX1_itemsRead_123 rfl 6 rfl ?_
              refine g_iload X dX1_itemsRead_124 1 rfl ?_
              refine g_iadd X dX1_itemsRead_126 ?_
              refine g_aload_n X dX1_itemsRead_127 rfl 4 rfl ?_
              refine g_get X fl_RX1_76 dX1_itemsRead_128 kd_1 (v := .int (mI q11.2 1 3)) rfl ?_
              obtain ⟨g13, h⟩ := ite_some h
              refine g_iast X h2 rfl (inb_in g13) dX1_itemsRead_131 ?_
              refine g_iinc X dX1_itemsRead_132 (kq := 9) rfl (congrArg (HAdd.hAdd _) ic_1) (by decide) (lv' := [(7, .int (z7 + (1 : Int32))), (6, .int (z6 ||| ((1 : Int32) <<< (q7 &&& 31)))), (9, .int q7), (8, .int q4.1), (0, .ref (be θ + x0)), (1, .ref (be θ + 1)), (2, .ref (be θ + x2)), (3, .int x3), (4, .int x4), (5, .int x5)]) rfl ?_
              refine g_goto (tgt := 18) X dX1_itemsRead_135 (by decide) ?_
              have hk := inl_hk h hk
              exact g_sub (lv' := [(0, .ref (be θ + x0)), (1, .ref (be θ + 1)), (2, .ref (be θ + x2)), (3, .int x3), (4, .int x4), (5, .int x5), (6, .int (z6 ||| ((1 : Int32) <<< (q7 &&& 31)))), (7, .int (z7 + (1 : Int32)))]) [4, 5, 6, 7, 8, 9, 1, 0] rfl hk
            · replace h := (if_pos c12).symm.trans h
              refine g_iconst X dX1_itemsRead_120 (v := (0 : Int32)) ic_0 ?_
              have hk := inr_hk h hk
              have hk : ((0 : Int32), q11.2) = r := hk
              subst hk
              exact g_zret X hr hlk bz0 dX1_itemsRead_121 rfl
          · replace h := (if_pos c9).symm.trans h
            refine g_iconst X dX1_itemsRead_74 (v := (0 : Int32)) ic_0 ?_
            have hk := inr_hk h hk
            have hk : ((0 : Int32), q4.2) = r := hk
            subst hk
            exact g_zret X hr hlk bz0 dX1_itemsRead_75 rfl
      · replace h := (if_pos c6).symm.trans h
        refine g_iconst X dX1_itemsRead_43 (v := (1 : Int32)) ic_1 ?_
        have hk := inr_hk h hk
        have hk : ((1 : Int32), q4.2) = r := hk
        subst hk
        exact g_zret X hr hlk bz1 dX1_itemsRead_44 rfl
set_option maxHeartbeats 4000000 in
set_option maxRecDepth 20000 in
theorem gl_City_itemsRead_L18 (X : Cx θ p s m args c cX1_itemsRead 10 RX1) (hr : meth.sig.returnType = some .boolean) (hlk : meth.locks = false)  {x0 : Nat} {x2 : Nat} {x3 : Int32} {x4 : Int32} {x5 : Int32} {r : Int32 × Mem} (h0 : kd x0 = 2) (h2 : kd x2 = 13) (n : Nat) (a : Mem × Int32 × Int32) (b : Int32 × Mem) (h : loopF (f_City_itemsRead_L18 x0 x2 x3 x4 x5) n a = some b) (hk : (fun b => b = r) b) : (fun a => @Prod.casesOn (Mem) (Int32 × Int32) (fun _ => Prop) a fun τ b0 => @Prod.casesOn (Int32) (Int32) (fun _ => Prop) b0 fun z6 z7 => GB θ p l e 3 s m args below meth c 10 (some (.int r.1), r.2) 18 [(0, .ref (be θ + x0)), (1, .ref (be θ + 1)), (2, .ref (be θ + x2)), (3, .int x3), (4, .int x4), (5, .int x5), (6, .int z6), (7, .int z7)] [] τ) a :=
  loopF_by (P := (fun a => @Prod.casesOn (Mem) (Int32 × Int32) (fun _ => Prop) a fun τ b0 => @Prod.casesOn (Int32) (Int32) (fun _ => Prop) b0 fun z6 z7 => GB θ p l e 3 s m args below meth c 10 (some (.int r.1), r.2) 18 [(0, .ref (be θ + x0)), (1, .ref (be θ + 1)), (2, .ref (be θ + x2)), (3, .int x3), (4, .int x4), (5, .int x5), (6, .int z6), (7, .int z7)] [] τ)) (K := (fun b => b = r)) (fun a x h hk => by obtain ⟨τ, z6, z7⟩ := a; exact gs_City_itemsRead_L18 X hr hlk  h0 h2 τ z6 z7 x h hk) n a b h hk
set_option maxHeartbeats 4000000 in
set_option maxRecDepth 20000 in
theorem g_City_itemsRead (X : Cx θ p s m args c cX1_itemsRead 10 RX1) (hr : meth.sig.returnType = some .boolean) (hlk : meth.locks = false)  {σ : Mem} {x0 : Nat} {x2 : Nat} {x3 : Int32} {x4 : Int32} {x5 : Int32} {r : Int32 × Mem} (h0 : kd x0 = 2) (h2 : kd x2 = 13) (h : f_City_itemsRead σ x0 x2 x3 x4 x5 = some r) : GB θ p l e 3 s m args below meth c 10 (some (.int r.1), r.2) 0 [(0, .ref (be θ + x0)), (1, .ref (be θ + 1)), (2, .ref (be θ + x2)), (3, .int x3), (4, .int x4), (5, .int x5)] [] σ := by
  unfold f_City_itemsRead at h
  refine g_gets X X.2.2.1.1.2.2.2.1 fs_RX1_32 dX1_itemsRead_0 ?_
  refine g_iload X dX1_itemsRead_3 4 rfl ?_
  refine g_aload_n X dX1_itemsRead_5 rfl 2 rfl ?_
  refine g_iload_n X dX1_itemsRead_6 rfl 3 rfl ?_
  refine g_iload X dX1_itemsRead_7 5 rfl ?_
  obtain ⟨g1, h⟩ := ite_some h
  obtain ⟨σ2, hσ2, h⟩ := Option.bind_eq_some_iff.mp h
  refine g_cpT X lc_RX1_35 h2 rfl (cpyB_ok g1) ⟨(Nat.le_of_ble_eq_true rfl), (Nat.le_of_ble_eq_true rfl)⟩ dX1_itemsRead_9 (Option.some.inj hσ2) ?_
  refine g_iconst X dX1_itemsRead_12 (v := (0 : Int32)) ic_0 ?_
  refine g_istore X dX1_itemsRead_13 (by decide) (lv' := [(6, .int (0 : Int32)), (0, .ref (be θ + x0)), (1, .ref (be θ + 1)), (2, .ref (be θ + x2)), (3, .int x3), (4, .int x4), (5, .int x5)]) rfl ?_
  refine g_iconst X dX1_itemsRead_15 (v := (0 : Int32)) ic_0 ?_
  refine g_istore X dX1_itemsRead_16 (by decide) (lv' := [(7, .int (0 : Int32)), (6, .int (0 : Int32)), (0, .ref (be θ + x0)), (1, .ref (be θ + 1)), (2, .ref (be θ + x2)), (3, .int x3), (4, .int x4), (5, .int x5)]) rfl ?_
  exact g_sub (lv' := [(0, .ref (be θ + x0)), (1, .ref (be θ + 1)), (2, .ref (be θ + x2)), (3, .int x3), (4, .int x4), (5, .int x5), (6, .int (0 : Int32)), (7, .int (0 : Int32))]) [2, 3, 4, 5, 6, 7, 1, 0] rfl (gl_City_itemsRead_L18 X hr hlk  h0 h2  FU _ _ h rfl)
set_option maxHeartbeats 4000000 in
set_option maxRecDepth 20000 in
theorem c_City_itemsRead {θ : Th} {l : Launch} {σ : Mem} {x0 : Nat} {x2 : Nat} {x3 : Int32} {x4 : Int32} {x5 : Int32} {r : Int32 × Mem} (h0 : kd x0 = 2) (h2 : kd x2 = 13) (h : f_City_itemsRead σ x0 x2 x3 x4 x5 = some r) : Cn θ l yX1_itemsRead cX1_itemsRead 10 (some .boolean) 3 0 0 [.ref (be θ + x0), .ref (be θ + 1), .ref (be θ + x2), .int x3, .int x4, .int x5] σ (some (.int r.1), r.2) :=
  Cn.of (by decide) (Nat.le_of_ble_eq_true rfl) (fun p e s m below meth c X hr hlk => g_City_itemsRead X hr hlk h0 h2 h)
theorem dX1_clauseReads_0 : decode cX1_clauseReads 0 = .ok (.aload_n 0, 1) := by decide +kernel
theorem dX1_clauseReads_1 : decode cX1_clauseReads 1 = .ok (.getfield 28, 3) := by decide +kernel
theorem dX1_clauseReads_4 : decode cX1_clauseReads 4 = .ok (.ifCond .ne 30, 3) := by decide +kernel
theorem dX1_clauseReads_7 : decode cX1_clauseReads 7 = .ok (.aload_n 1, 1) := by decide +kernel
theorem dX1_clauseReads_8 : decode cX1_clauseReads 8 = .ok (.bipush 115, 2) := by decide +kernel
theorem dX1_clauseReads_10 : decode cX1_clauseReads 10 = .ok (.invokevirtual 54, 3) := by decide +kernel
theorem dX1_clauseReads_13 : decode cX1_clauseReads 13 = .ok (.ifCond .eq 21, 3) := by decide +kernel
theorem dX1_clauseReads_16 : decode cX1_clauseReads 16 = .ok (.aload_n 0, 1) := by decide +kernel
theorem dX1_clauseReads_17 : decode cX1_clauseReads 17 = .ok (.iconst 1, 1) := by decide +kernel
theorem dX1_clauseReads_18 : decode cX1_clauseReads 18 = .ok (.putfield 28, 3) := by decide +kernel
theorem dX1_clauseReads_21 : decode cX1_clauseReads 21 = .ok (.aload_n 0, 1) := by decide +kernel
theorem dX1_clauseReads_22 : decode cX1_clauseReads 22 = .ok (.aload_n 1, 1) := by decide +kernel
theorem dX1_clauseReads_23 : decode cX1_clauseReads 23 = .ok (.aload_n 0, 1) := by decide +kernel
theorem dX1_clauseReads_24 : decode cX1_clauseReads 24 = .ok (.getfield 11, 3) := by decide +kernel
theorem dX1_clauseReads_27 : decode cX1_clauseReads 27 = .ok (.iconst 0, 1) := by decide +kernel
theorem dX1_clauseReads_28 : decode cX1_clauseReads 28 = .ok (.iconst 0, 1) := by decide +kernel
theorem dX1_clauseReads_29 : decode cX1_clauseReads 29 = .ok (.iconst 4, 1) := by decide +kernel
theorem dX1_clauseReads_30 : decode cX1_clauseReads 30 = .ok (.invokevirtual 58, 3) := by decide +kernel
theorem dX1_clauseReads_33 : decode cX1_clauseReads 33 = .ok (.ireturn, 1) := by decide +kernel
theorem dX1_clauseReads_34 : decode cX1_clauseReads 34 = .ok (.aload_n 0, 1) := by decide +kernel
theorem dX1_clauseReads_35 : decode cX1_clauseReads 35 = .ok (.getfield 21, 3) := by decide +kernel
theorem dX1_clauseReads_38 : decode cX1_clauseReads 38 = .ok (.bipush 8, 2) := by decide +kernel
theorem dX1_clauseReads_40 : decode cX1_clauseReads 40 = .ok (.if_icmp .ge 42, 3) := by decide +kernel
theorem dX1_clauseReads_43 : decode cX1_clauseReads 43 = .ok (.aload_n 1, 1) := by decide +kernel
theorem dX1_clauseReads_44 : decode cX1_clauseReads 44 = .ok (.bipush 116, 2) := by decide +kernel
theorem dX1_clauseReads_46 : decode cX1_clauseReads 46 = .ok (.invokevirtual 54, 3) := by decide +kernel
theorem dX1_clauseReads_49 : decode cX1_clauseReads 49 = .ok (.ifCond .eq 33, 3) := by decide +kernel
theorem dX1_clauseReads_52 : decode cX1_clauseReads 52 = .ok (.aload_n 0, 1) := by decide +kernel
theorem dX1_clauseReads_53 : decode cX1_clauseReads 53 = .ok (.dup, 1) := by decide +kernel
theorem dX1_clauseReads_54 : decode cX1_clauseReads 54 = .ok (.getfield 21, 3) := by decide +kernel
theorem dX1_clauseReads_57 : decode cX1_clauseReads 57 = .ok (.iconst 1, 1) := by decide +kernel
theorem dX1_clauseReads_58 : decode cX1_clauseReads 58 = .ok (.iadd, 1) := by decide +kernel
theorem dX1_clauseReads_59 : decode cX1_clauseReads 59 = .ok (.putfield 21, 3) := by decide +kernel
theorem dX1_clauseReads_62 : decode cX1_clauseReads 62 = .ok (.aload_n 0, 1) := by decide +kernel
theorem dX1_clauseReads_63 : decode cX1_clauseReads 63 = .ok (.aload_n 1, 1) := by decide +kernel
theorem dX1_clauseReads_64 : decode cX1_clauseReads 64 = .ok (.aload_n 0, 1) := by decide +kernel
theorem dX1_clauseReads_65 : decode cX1_clauseReads 65 = .ok (.getfield 15, 3) := by decide +kernel
theorem dX1_clauseReads_68 : decode cX1_clauseReads 68 = .ok (.aload_n 0, 1) := by decide +kernel
theorem dX1_clauseReads_69 : decode cX1_clauseReads 69 = .ok (.getfield 21, 3) := by decide +kernel
theorem dX1_clauseReads_72 : decode cX1_clauseReads 72 = .ok (.iconst 1, 1) := by decide +kernel
theorem dX1_clauseReads_73 : decode cX1_clauseReads 73 = .ok (.isub, 1) := by decide +kernel
theorem dX1_clauseReads_74 : decode cX1_clauseReads 74 = .ok (.iconst 3, 1) := by decide +kernel
theorem dX1_clauseReads_75 : decode cX1_clauseReads 75 = .ok (.imul, 1) := by decide +kernel
theorem dX1_clauseReads_76 : decode cX1_clauseReads 76 = .ok (.iconst 4, 1) := by decide +kernel
theorem dX1_clauseReads_77 : decode cX1_clauseReads 77 = .ok (.iconst 3, 1) := by decide +kernel
theorem dX1_clauseReads_78 : decode cX1_clauseReads 78 = .ok (.invokevirtual 58, 3) := by decide +kernel
theorem dX1_clauseReads_81 : decode cX1_clauseReads 81 = .ok (.ireturn, 1) := by decide +kernel
theorem dX1_clauseReads_82 : decode cX1_clauseReads 82 = .ok (.aload_n 0, 1) := by decide +kernel
theorem dX1_clauseReads_83 : decode cX1_clauseReads 83 = .ok (.getfield 25, 3) := by decide +kernel
theorem dX1_clauseReads_86 : decode cX1_clauseReads 86 = .ok (.bipush 6, 2) := by decide +kernel
theorem dX1_clauseReads_88 : decode cX1_clauseReads 88 = .ok (.if_icmp .ge 43, 3) := by decide +kernel
theorem dX1_clauseReads_91 : decode cX1_clauseReads 91 = .ok (.aload_n 1, 1) := by decide +kernel
theorem dX1_clauseReads_92 : decode cX1_clauseReads 92 = .ok (.bipush 98, 2) := by decide +kernel
theorem dX1_clauseReads_94 : decode cX1_clauseReads 94 = .ok (.invokevirtual 54, 3) := by decide +kernel
theorem dX1_clauseReads_97 : decode cX1_clauseReads 97 = .ok (.ifCond .eq 34, 3) := by decide +kernel
theorem dX1_clauseReads_100 : decode cX1_clauseReads 100 = .ok (.aload_n 0, 1) := by decide +kernel
theorem dX1_clauseReads_101 : decode cX1_clauseReads 101 = .ok (.dup, 1) := by decide +kernel
theorem dX1_clauseReads_102 : decode cX1_clauseReads 102 = .ok (.getfield 25, 3) := by decide +kernel
theorem dX1_clauseReads_105 : decode cX1_clauseReads 105 = .ok (.iconst 1, 1) := by decide +kernel
theorem dX1_clauseReads_106 : decode cX1_clauseReads 106 = .ok (.iadd, 1) := by decide +kernel
theorem dX1_clauseReads_107 : decode cX1_clauseReads 107 = .ok (.putfield 25, 3) := by decide +kernel
theorem dX1_clauseReads_110 : decode cX1_clauseReads 110 = .ok (.aload_n 0, 1) := by decide +kernel
theorem dX1_clauseReads_111 : decode cX1_clauseReads 111 = .ok (.aload_n 1, 1) := by decide +kernel
theorem dX1_clauseReads_112 : decode cX1_clauseReads 112 = .ok (.aload_n 0, 1) := by decide +kernel
theorem dX1_clauseReads_113 : decode cX1_clauseReads 113 = .ok (.getfield 18, 3) := by decide +kernel
theorem dX1_clauseReads_116 : decode cX1_clauseReads 116 = .ok (.aload_n 0, 1) := by decide +kernel
theorem dX1_clauseReads_117 : decode cX1_clauseReads 117 = .ok (.getfield 25, 3) := by decide +kernel
theorem dX1_clauseReads_120 : decode cX1_clauseReads 120 = .ok (.iconst 1, 1) := by decide +kernel
theorem dX1_clauseReads_121 : decode cX1_clauseReads 121 = .ok (.isub, 1) := by decide +kernel
theorem dX1_clauseReads_122 : decode cX1_clauseReads 122 = .ok (.iconst 4, 1) := by decide +kernel
theorem dX1_clauseReads_123 : decode cX1_clauseReads 123 = .ok (.imul, 1) := by decide +kernel
theorem dX1_clauseReads_124 : decode cX1_clauseReads 124 = .ok (.bipush 7, 2) := by decide +kernel
theorem dX1_clauseReads_126 : decode cX1_clauseReads 126 = .ok (.iconst 4, 1) := by decide +kernel
theorem dX1_clauseReads_127 : decode cX1_clauseReads 127 = .ok (.invokevirtual 58, 3) := by decide +kernel
theorem dX1_clauseReads_130 : decode cX1_clauseReads 130 = .ok (.ireturn, 1) := by decide +kernel
theorem dX1_clauseReads_131 : decode cX1_clauseReads 131 = .ok (.aload_n 1, 1) := by decide +kernel
theorem dX1_clauseReads_132 : decode cX1_clauseReads 132 = .ok (.invokevirtual 50, 3) := by decide +kernel
theorem dX1_clauseReads_135 : decode cX1_clauseReads 135 = .ok (.pop, 1) := by decide +kernel
theorem dX1_clauseReads_136 : decode cX1_clauseReads 136 = .ok (.iconst 0, 1) := by decide +kernel
theorem dX1_clauseReads_137 : decode cX1_clauseReads 137 = .ok (.ireturn, 1) := by decide +kernel
def f_City_clauseReads_J82 (σ : Mem) (x0 : Nat) : Option (Int32 × Mem) :=
  if (6 : Int32) ≤ (mI σ x0 4) then
    (f_Tape_sign σ).bind fun q4 =>
    some ((0 : Int32), q4.2)
  else
    (f_Tape_passes σ (98 : Int32)).bind fun q5 =>
    if q5.1 = (0 : Int32) then
      (f_Tape_sign q5.2).bind fun q7 =>
      some ((0 : Int32), q7.2)
    else
      (f_City_itemsRead (sI q5.2 x0 4 ((mI q5.2 x0 4) + (1 : Int32))) x0 (x0 + 3) (((mI (sI q5.2 x0 4 ((mI q5.2 x0 4) + (1 : Int32))) x0 4) - (1 : Int32)) * (4 : Int32)) (7 : Int32) (4 : Int32)).bind fun q8 =>
      if bzb q8.1 then
        some (q8.1, q8.2)
      else none
def f_City_clauseReads_J34 (σ : Mem) (x0 : Nat) : Option (Int32 × Mem) :=
  if (8 : Int32) ≤ (mI σ x0 3) then
    f_City_clauseReads_J82 σ x0
  else
    (f_Tape_passes σ (116 : Int32)).bind fun q10 =>
    if q10.1 = (0 : Int32) then
      f_City_clauseReads_J82 q10.2 x0
    else
      (f_City_itemsRead (sI q10.2 x0 3 ((mI q10.2 x0 3) + (1 : Int32))) x0 (x0 + 2) (((mI (sI q10.2 x0 3 ((mI q10.2 x0 3) + (1 : Int32))) x0 3) - (1 : Int32)) * (3 : Int32)) (4 : Int32) (3 : Int32)).bind fun q12 =>
      if bzb q12.1 then
        some (q12.1, q12.2)
      else none
def f_City_clauseReads (σ : Mem) (x0 : Nat) : Option (Int32 × Mem) :=
  if (mI σ x0 5) = (0 : Int32) then
    (f_Tape_passes σ (115 : Int32)).bind fun q14 =>
    if q14.1 = (0 : Int32) then
      f_City_clauseReads_J34 q14.2 x0
    else
      (f_City_itemsRead (sI q14.2 x0 5 (1 : Int32)) x0 (x0 + 1) (0 : Int32) (0 : Int32) (4 : Int32)).bind fun q16 =>
      if bzb q16.1 then
        some (q16.1, q16.2)
      else none
  else
    f_City_clauseReads_J34 σ x0
set_option maxHeartbeats 4000000 in
set_option maxRecDepth 20000 in
theorem g_City_clauseReads_J82 (X : Cx θ p s m args c cX1_clauseReads 2 RX1) (hr : meth.sig.returnType = some .boolean) (hlk : meth.locks = false)  {σ : Mem} {x0 : Nat} {r : Int32 × Mem} (h0 : kd x0 = 2) (h : f_City_clauseReads_J82 σ x0 = some r) : GB θ p l e 4 s m args below meth c 2 (some (.int r.1), r.2) 82 [(0, .ref (be θ + x0)), (1, .ref (be θ + 1))] [] σ := by
  unfold f_City_clauseReads_J82 at h
  refine g_aload_n X dX1_clauseReads_82 rfl 0 rfl ?_
  refine g_get X fl_RX1_25 dX1_clauseReads_83 h0 (v := .int (mI σ x0 4)) rfl ?_
  refine g_bipush X dX1_clauseReads_86 (v := (6 : Int32)) bp_6 ?_
  refine g_icmp_ge (tgt := 131) X dX1_clauseReads_88 (by decide) (fun c3 => ?_) (fun c3 => ?_)
  · replace h := (if_pos c3).symm.trans h
    refine g_aload_n X dX1_clauseReads_131 rfl 1 rfl ?_
    obtain ⟨q4, hq4, h⟩ := Option.bind_eq_some_iff.mp h
    refine g_cV X (c_Tape_sign  hq4) lk_RX1_50 my_X8_sign (a := 1) (ci := 8) kd_1 (by decide) rfl (As := []) (rest := []) rfl rfl (Nat.le_of_ble_eq_true rfl) ⟨(Nat.le_of_ble_eq_true rfl), (Nat.le_of_ble_eq_true rfl)⟩ ⟨(Nat.le_of_ble_eq_true rfl), (Nat.le_of_ble_eq_true rfl)⟩ dX1_clauseReads_132 (st' := [.int q4.1]) (σ' := q4.2) rfl rfl ?_
    refine g_pop X dX1_clauseReads_135 rfl ?_
    refine g_iconst X dX1_clauseReads_136 (v := (0 : Int32)) ic_0 ?_
    exact g_zret X hr hlk bz0 dX1_clauseReads_137 (by cases h; rfl)
  · replace h := (if_neg c3).symm.trans h
    refine g_aload_n X dX1_clauseReads_91 rfl 1 rfl ?_
    refine g_bipush X dX1_clauseReads_92 (v := (98 : Int32)) bp_98 ?_
    obtain ⟨q5, hq5, h⟩ := Option.bind_eq_some_iff.mp h
    refine g_cV X (c_Tape_passes  hq5) lk_RX1_54 my_X8_passes (a := 1) (ci := 8) kd_1 (by decide) rfl (As := [.int (98 : Int32)]) (rest := []) rfl rfl (Nat.le_of_ble_eq_true rfl) ⟨(Nat.le_of_ble_eq_true rfl), (Nat.le_of_ble_eq_true rfl)⟩ ⟨(Nat.le_of_ble_eq_true rfl), (Nat.le_of_ble_eq_true rfl)⟩ dX1_clauseReads_94 (st' := [.int q5.1]) (σ' := q5.2) rfl rfl ?_
    refine g_if_eq (tgt := 131) X dX1_clauseReads_97 (by decide) (fun c6 => ?_) (fun c6 => ?_)
    · replace h := (if_pos c6).symm.trans h
      refine g_aload_n X dX1_clauseReads_131 rfl 1 rfl ?_
      obtain ⟨q7, hq7, h⟩ := Option.bind_eq_some_iff.mp h
      refine g_cV X (c_Tape_sign  hq7) lk_RX1_50 my_X8_sign (a := 1) (ci := 8) kd_1 (by decide) rfl (As := []) (rest := []) rfl rfl (Nat.le_of_ble_eq_true rfl) ⟨(Nat.le_of_ble_eq_true rfl), (Nat.le_of_ble_eq_true rfl)⟩ ⟨(Nat.le_of_ble_eq_true rfl), (Nat.le_of_ble_eq_true rfl)⟩ dX1_clauseReads_132 (st' := [.int q7.1]) (σ' := q7.2) rfl rfl ?_
      refine g_pop X dX1_clauseReads_135 rfl ?_
      refine g_iconst X dX1_clauseReads_136 (v := (0 : Int32)) ic_0 ?_
      exact g_zret X hr hlk bz0 dX1_clauseReads_137 (by cases h; rfl)
    · replace h := (if_neg c6).symm.trans h
      refine g_aload_n X dX1_clauseReads_100 rfl 0 rfl ?_
      refine g_dup X dX1_clauseReads_101 rfl ?_
      refine g_get X fl_RX1_25 dX1_clauseReads_102 h0 (v := .int (mI q5.2 x0 4)) rfl ?_
      refine g_iconst X dX1_clauseReads_105 (v := (1 : Int32)) ic_1 ?_
      refine g_iadd X dX1_clauseReads_106 ?_
      refine g_putI X fl_RX1_25 dX1_clauseReads_107 h0 rfl rfl rfl ?_
      refine g_aload_n X dX1_clauseReads_110 rfl 0 rfl ?_
      refine g_aload_n X dX1_clauseReads_111 rfl 1 rfl ?_
      refine g_aload_n X dX1_clauseReads_112 rfl 0 rfl ?_
      refine g_get X fl_RX1_18 dX1_clauseReads_113 h0 (v := .ref (be θ + (x0 + 3))) rfl ?_
      refine g_aload_n X dX1_clauseReads_116 rfl 0 rfl ?_
      refine g_get X fl_RX1_25 dX1_clauseReads_117 h0 (v := .int (mI (sI q5.2 x0 4 ((mI q5.2 x0 4) + (1 : Int32))) x0 4)) rfl ?_
      refine g_iconst X dX1_clauseReads_120 (v := (1 : Int32)) ic_1 ?_
      refine g_isub X dX1_clauseReads_121 ?_
      refine g_iconst X dX1_clauseReads_122 (v := (4 : Int32)) ic_4 ?_
      refine g_imul X dX1_clauseReads_123 ?_
      refine g_bipush X dX1_clauseReads_124 (v := (7 : Int32)) bp_7 ?_
      refine g_iconst X dX1_clauseReads_126 (v := (4 : Int32)) ic_4 ?_
      obtain ⟨q8, hq8, h⟩ := Option.bind_eq_some_iff.mp h
      refine g_cV X (c_City_itemsRead h0 ((lk1_2 h0).1) hq8) lk_RX1_58 my_X1_itemsRead (a := x0) (ci := 1) h0 (by decide) rfl (As := [.ref (be θ + 1), .ref (be θ + (x0 + 3)), .int (((mI (sI q5.2 x0 4 ((mI q5.2 x0 4) + (1 : Int32))) x0 4) - (1 : Int32)) * (4 : Int32)), .int (7 : Int32), .int (4 : Int32)]) (rest := []) rfl rfl (Nat.le_of_ble_eq_true rfl) ⟨(Nat.le_of_ble_eq_true rfl), (Nat.le_of_ble_eq_true rfl)⟩ ⟨(Nat.le_of_ble_eq_true rfl), (Nat.le_of_ble_eq_true rfl)⟩ dX1_clauseReads_127 (st' := [.int q8.1]) (σ' := q8.2) rfl rfl ?_
      obtain ⟨g9, h⟩ := ite_some h
      exact g_zret X hr hlk (bzb_bz g9) dX1_clauseReads_130 (by cases h; rfl)
set_option maxHeartbeats 4000000 in
set_option maxRecDepth 20000 in
theorem g_City_clauseReads_J34 (X : Cx θ p s m args c cX1_clauseReads 2 RX1) (hr : meth.sig.returnType = some .boolean) (hlk : meth.locks = false)  {σ : Mem} {x0 : Nat} {r : Int32 × Mem} (h0 : kd x0 = 2) (h : f_City_clauseReads_J34 σ x0 = some r) : GB θ p l e 4 s m args below meth c 2 (some (.int r.1), r.2) 34 [(0, .ref (be θ + x0)), (1, .ref (be θ + 1))] [] σ := by
  unfold f_City_clauseReads_J34 at h
  refine g_aload_n X dX1_clauseReads_34 rfl 0 rfl ?_
  refine g_get X fl_RX1_21 dX1_clauseReads_35 h0 (v := .int (mI σ x0 3)) rfl ?_
  refine g_bipush X dX1_clauseReads_38 (v := (8 : Int32)) bp_8 ?_
  refine g_icmp_ge (tgt := 82) X dX1_clauseReads_40 (by decide) (fun c2 => ?_) (fun c2 => ?_)
  · replace h := (if_pos c2).symm.trans h
    exact g_sub (lv' := [(0, .ref (be θ + x0)), (1, .ref (be θ + 1))]) [0, 1] rfl (g_City_clauseReads_J82 X hr hlk  h0  h)
  · replace h := (if_neg c2).symm.trans h
    refine g_aload_n X dX1_clauseReads_43 rfl 1 rfl ?_
    refine g_bipush X dX1_clauseReads_44 (v := (116 : Int32)) bp_116 ?_
    obtain ⟨q10, hq10, h⟩ := Option.bind_eq_some_iff.mp h
    refine g_cV X (c_Tape_passes  hq10) lk_RX1_54 my_X8_passes (a := 1) (ci := 8) kd_1 (by decide) rfl (As := [.int (116 : Int32)]) (rest := []) rfl rfl (Nat.le_of_ble_eq_true rfl) ⟨(Nat.le_of_ble_eq_true rfl), (Nat.le_of_ble_eq_true rfl)⟩ ⟨(Nat.le_of_ble_eq_true rfl), (Nat.le_of_ble_eq_true rfl)⟩ dX1_clauseReads_46 (st' := [.int q10.1]) (σ' := q10.2) rfl rfl ?_
    refine g_if_eq (tgt := 82) X dX1_clauseReads_49 (by decide) (fun c11 => ?_) (fun c11 => ?_)
    · replace h := (if_pos c11).symm.trans h
      exact g_sub (lv' := [(0, .ref (be θ + x0)), (1, .ref (be θ + 1))]) [0, 1] rfl (g_City_clauseReads_J82 X hr hlk  h0  h)
    · replace h := (if_neg c11).symm.trans h
      refine g_aload_n X dX1_clauseReads_52 rfl 0 rfl ?_
      refine g_dup X dX1_clauseReads_53 rfl ?_
      refine g_get X fl_RX1_21 dX1_clauseReads_54 h0 (v := .int (mI q10.2 x0 3)) rfl ?_
      refine g_iconst X dX1_clauseReads_57 (v := (1 : Int32)) ic_1 ?_
      refine g_iadd X dX1_clauseReads_58 ?_
      refine g_putI X fl_RX1_21 dX1_clauseReads_59 h0 rfl rfl rfl ?_
      refine g_aload_n X dX1_clauseReads_62 rfl 0 rfl ?_
      refine g_aload_n X dX1_clauseReads_63 rfl 1 rfl ?_
      refine g_aload_n X dX1_clauseReads_64 rfl 0 rfl ?_
      refine g_get X fl_RX1_15 dX1_clauseReads_65 h0 (v := .ref (be θ + (x0 + 2))) rfl ?_
      refine g_aload_n X dX1_clauseReads_68 rfl 0 rfl ?_
      refine g_get X fl_RX1_21 dX1_clauseReads_69 h0 (v := .int (mI (sI q10.2 x0 3 ((mI q10.2 x0 3) + (1 : Int32))) x0 3)) rfl ?_
      refine g_iconst X dX1_clauseReads_72 (v := (1 : Int32)) ic_1 ?_
      refine g_isub X dX1_clauseReads_73 ?_
      refine g_iconst X dX1_clauseReads_74 (v := (3 : Int32)) ic_3 ?_
      refine g_imul X dX1_clauseReads_75 ?_
      refine g_iconst X dX1_clauseReads_76 (v := (4 : Int32)) ic_4 ?_
      refine g_iconst X dX1_clauseReads_77 (v := (3 : Int32)) ic_3 ?_
      obtain ⟨q12, hq12, h⟩ := Option.bind_eq_some_iff.mp h
      refine g_cV X (c_City_itemsRead h0 ((lk1_1 h0).1) hq12) lk_RX1_58 my_X1_itemsRead (a := x0) (ci := 1) h0 (by decide) rfl (As := [.ref (be θ + 1), .ref (be θ + (x0 + 2)), .int (((mI (sI q10.2 x0 3 ((mI q10.2 x0 3) + (1 : Int32))) x0 3) - (1 : Int32)) * (3 : Int32)), .int (4 : Int32), .int (3 : Int32)]) (rest := []) rfl rfl (Nat.le_of_ble_eq_true rfl) ⟨(Nat.le_of_ble_eq_true rfl), (Nat.le_of_ble_eq_true rfl)⟩ ⟨(Nat.le_of_ble_eq_true rfl), (Nat.le_of_ble_eq_true rfl)⟩ dX1_clauseReads_78 (st' := [.int q12.1]) (σ' := q12.2) rfl rfl ?_
      obtain ⟨g13, h⟩ := ite_some h
      exact g_zret X hr hlk (bzb_bz g13) dX1_clauseReads_81 (by cases h; rfl)
set_option maxHeartbeats 4000000 in
set_option maxRecDepth 20000 in
theorem g_City_clauseReads (X : Cx θ p s m args c cX1_clauseReads 2 RX1) (hr : meth.sig.returnType = some .boolean) (hlk : meth.locks = false)  {σ : Mem} {x0 : Nat} {r : Int32 × Mem} (h0 : kd x0 = 2) (h : f_City_clauseReads σ x0 = some r) : GB θ p l e 4 s m args below meth c 2 (some (.int r.1), r.2) 0 [(0, .ref (be θ + x0)), (1, .ref (be θ + 1))] [] σ := by
  unfold f_City_clauseReads at h
  refine g_aload_n X dX1_clauseReads_0 rfl 0 rfl ?_
  refine g_get X fl_RX1_28 dX1_clauseReads_1 h0 (v := .int (mI σ x0 5)) rfl ?_
  refine g_if_ne (tgt := 34) X dX1_clauseReads_4 (by decide) (fun c1 => ?_) (fun c1 => ?_)
  · replace h := (if_neg c1).symm.trans h
    exact g_sub (lv' := [(0, .ref (be θ + x0)), (1, .ref (be θ + 1))]) [0, 1] rfl (g_City_clauseReads_J34 X hr hlk  h0  h)
  · replace h := (if_pos c1).symm.trans h
    refine g_aload_n X dX1_clauseReads_7 rfl 1 rfl ?_
    refine g_bipush X dX1_clauseReads_8 (v := (115 : Int32)) bp_115 ?_
    obtain ⟨q14, hq14, h⟩ := Option.bind_eq_some_iff.mp h
    refine g_cV X (c_Tape_passes  hq14) lk_RX1_54 my_X8_passes (a := 1) (ci := 8) kd_1 (by decide) rfl (As := [.int (115 : Int32)]) (rest := []) rfl rfl (Nat.le_of_ble_eq_true rfl) ⟨(Nat.le_of_ble_eq_true rfl), (Nat.le_of_ble_eq_true rfl)⟩ ⟨(Nat.le_of_ble_eq_true rfl), (Nat.le_of_ble_eq_true rfl)⟩ dX1_clauseReads_10 (st' := [.int q14.1]) (σ' := q14.2) rfl rfl ?_
    refine g_if_eq (tgt := 34) X dX1_clauseReads_13 (by decide) (fun c15 => ?_) (fun c15 => ?_)
    · replace h := (if_pos c15).symm.trans h
      exact g_sub (lv' := [(0, .ref (be θ + x0)), (1, .ref (be θ + 1))]) [0, 1] rfl (g_City_clauseReads_J34 X hr hlk  h0  h)
    · replace h := (if_neg c15).symm.trans h
      refine g_aload_n X dX1_clauseReads_16 rfl 0 rfl ?_
      refine g_iconst X dX1_clauseReads_17 (v := (1 : Int32)) ic_1 ?_
      refine g_putZ X fl_RX1_28 dX1_clauseReads_18 h0 rfl rfl rfl bz1 ?_
      refine g_aload_n X dX1_clauseReads_21 rfl 0 rfl ?_
      refine g_aload_n X dX1_clauseReads_22 rfl 1 rfl ?_
      refine g_aload_n X dX1_clauseReads_23 rfl 0 rfl ?_
      refine g_get X fl_RX1_11 dX1_clauseReads_24 h0 (v := .ref (be θ + (x0 + 1))) rfl ?_
      refine g_iconst X dX1_clauseReads_27 (v := (0 : Int32)) ic_0 ?_
      refine g_iconst X dX1_clauseReads_28 (v := (0 : Int32)) ic_0 ?_
      refine g_iconst X dX1_clauseReads_29 (v := (4 : Int32)) ic_4 ?_
      obtain ⟨q16, hq16, h⟩ := Option.bind_eq_some_iff.mp h
      refine g_cV X (c_City_itemsRead h0 ((lk1_0 h0).1) hq16) lk_RX1_58 my_X1_itemsRead (a := x0) (ci := 1) h0 (by decide) rfl (As := [.ref (be θ + 1), .ref (be θ + (x0 + 1)), .int (0 : Int32), .int (0 : Int32), .int (4 : Int32)]) (rest := []) rfl rfl (Nat.le_of_ble_eq_true rfl) ⟨(Nat.le_of_ble_eq_true rfl), (Nat.le_of_ble_eq_true rfl)⟩ ⟨(Nat.le_of_ble_eq_true rfl), (Nat.le_of_ble_eq_true rfl)⟩ dX1_clauseReads_30 (st' := [.int q16.1]) (σ' := q16.2) rfl rfl ?_
      obtain ⟨g17, h⟩ := ite_some h
      exact g_zret X hr hlk (bzb_bz g17) dX1_clauseReads_33 (by cases h; rfl)
set_option maxHeartbeats 4000000 in
set_option maxRecDepth 20000 in
theorem c_City_clauseReads {θ : Th} {l : Launch} {σ : Mem} {x0 : Nat} {r : Int32 × Mem} (h0 : kd x0 = 2) (h : f_City_clauseReads σ x0 = some r) : Cn θ l yX1_clauseReads cX1_clauseReads 2 (some .boolean) 4 0 0 [.ref (be θ + x0), .ref (be θ + 1)] σ (some (.int r.1), r.2) :=
  Cn.of (by decide) (Nat.le_of_ble_eq_true rfl) (fun p e s m below meth c X hr hlk => g_City_clauseReads X hr hlk h0 h)
theorem dX1_read_0 : decode cX1_read 0 = .ok (.aload_n 0, 1) := by decide +kernel
theorem dX1_read_1 : decode cX1_read 1 = .ok (.iconst 0, 1) := by decide +kernel
theorem dX1_read_2 : decode cX1_read 2 = .ok (.putfield 21, 3) := by decide +kernel
theorem dX1_read_5 : decode cX1_read 5 = .ok (.aload_n 0, 1) := by decide +kernel
theorem dX1_read_6 : decode cX1_read 6 = .ok (.iconst 0, 1) := by decide +kernel
theorem dX1_read_7 : decode cX1_read 7 = .ok (.putfield 25, 3) := by decide +kernel
theorem dX1_read_10 : decode cX1_read 10 = .ok (.aload_n 0, 1) := by decide +kernel
theorem dX1_read_11 : decode cX1_read 11 = .ok (.iconst 0, 1) := by decide +kernel
theorem dX1_read_12 : decode cX1_read 12 = .ok (.putfield 28, 3) := by decide +kernel
theorem dX1_read_15 : decode cX1_read 15 = .ok (.getstatic 32, 3) := by decide +kernel
theorem dX1_read_18 : decode cX1_read 18 = .ok (.iconst 0, 1) := by decide +kernel
theorem dX1_read_19 : decode cX1_read 19 = .ok (.aload_n 0, 1) := by decide +kernel
theorem dX1_read_20 : decode cX1_read 20 = .ok (.getfield 11, 3) := by decide +kernel
theorem dX1_read_23 : decode cX1_read 23 = .ok (.iconst 0, 1) := by decide +kernel
theorem dX1_read_24 : decode cX1_read 24 = .ok (.iconst 4, 1) := by decide +kernel
theorem dX1_read_25 : decode cX1_read 25 = .ok (.invokestatic 35, 3) := by decide +kernel
theorem dX1_read_28 : decode cX1_read 28 = .ok (.aload_n 1, 1) := by decide +kernel
theorem dX1_read_29 : decode cX1_read 29 = .ok (.iconst 0, 1) := by decide +kernel
theorem dX1_read_30 : decode cX1_read 30 = .ok (.putfield 41, 3) := by decide +kernel
theorem dX1_read_33 : decode cX1_read 33 = .ok (.iconst 0, 1) := by decide +kernel
theorem dX1_read_34 : decode cX1_read 34 = .ok (.istore_n 2, 1) := by decide +kernel
theorem dX1_read_35 : decode cX1_read 35 = .ok (.iload_n 2, 1) := by decide +kernel
theorem dX1_read_36 : decode cX1_read 36 = .ok (.bipush 15, 2) := by decide +kernel
theorem dX1_read_38 : decode cX1_read 38 = .ok (.if_icmp .gt 66, 3) := by decide +kernel
theorem dX1_read_41 : decode cX1_read 41 = .ok (.aload_n 0, 1) := by decide +kernel
theorem dX1_read_42 : decode cX1_read 42 = .ok (.aload_n 1, 1) := by decide +kernel
theorem dX1_read_43 : decode cX1_read 43 = .ok (.invokevirtual 46, 3) := by decide +kernel
theorem dX1_read_46 : decode cX1_read 46 = .ok (.ifCond .ne 8, 3) := by decide +kernel
theorem dX1_read_49 : decode cX1_read 49 = .ok (.aload_n 1, 1) := by decide +kernel
theorem dX1_read_50 : decode cX1_read 50 = .ok (.getfield 41, 3) := by decide +kernel
theorem dX1_read_53 : decode cX1_read 53 = .ok (.ireturn, 1) := by decide +kernel
theorem dX1_read_54 : decode cX1_read 54 = .ok (.aload_n 1, 1) := by decide +kernel
theorem dX1_read_55 : decode cX1_read 55 = .ok (.invokevirtual 50, 3) := by decide +kernel
theorem dX1_read_58 : decode cX1_read 58 = .ok (.ifCond .ne 26, 3) := by decide +kernel
theorem dX1_read_61 : decode cX1_read 61 = .ok (.aload_n 0, 1) := by decide +kernel
theorem dX1_read_62 : decode cX1_read 62 = .ok (.getfield 21, 3) := by decide +kernel
theorem dX1_read_65 : decode cX1_read 65 = .ok (.ifCond .le 14, 3) := by decide +kernel
theorem dX1_read_68 : decode cX1_read 68 = .ok (.aload_n 0, 1) := by decide +kernel
theorem dX1_read_69 : decode cX1_read 69 = .ok (.getfield 25, 3) := by decide +kernel
theorem dX1_read_72 : decode cX1_read 72 = .ok (.ifCond .le 7, 3) := by decide +kernel
theorem dX1_read_75 : decode cX1_read 75 = .ok (.iconst (-1), 1) := by decide +kernel
theorem dX1_read_76 : decode cX1_read 76 = .ok (.goto 7, 3) := by decide +kernel
theorem dX1_read_79 : decode cX1_read 79 = .ok (.aload_n 1, 1) := by decide +kernel
theorem dX1_read_80 : decode cX1_read 80 = .ok (.getfield 41, 3) := by decide +kernel
theorem dX1_read_83 : decode cX1_read 83 = .ok (.ireturn, 1) := by decide +kernel
theorem dX1_read_84 : decode cX1_read 84 = .ok (.aload_n 1, 1) := by decide +kernel
theorem dX1_read_85 : decode cX1_read 85 = .ok (.bipush 59, 2) := by decide +kernel
theorem dX1_read_87 : decode cX1_read 87 = .ok (.invokevirtual 54, 3) := by decide +kernel
theorem dX1_read_90 : decode cX1_read 90 = .ok (.ifCond .ne 8, 3) := by decide +kernel
theorem dX1_read_93 : decode cX1_read 93 = .ok (.aload_n 1, 1) := by decide +kernel
theorem dX1_read_94 : decode cX1_read 94 = .ok (.getfield 41, 3) := by decide +kernel
theorem dX1_read_97 : decode cX1_read 97 = .ok (.ireturn, 1) := by decide +kernel
theorem dX1_read_98 : decode cX1_read 98 = .ok (.iinc 2 1, 3) := by decide +kernel
theorem dX1_read_101 : decode cX1_read 101 = .ok (.goto (-66), 3) := by decide +kernel
theorem dX1_read_104 : decode cX1_read 104 = .ok (.aload_n 1, 1) := by decide +kernel
theorem dX1_read_105 : decode cX1_read 105 = .ok (.getfield 41, 3) := by decide +kernel
theorem dX1_read_108 : decode cX1_read 108 = .ok (.ireturn, 1) := by decide +kernel
def f_City_read_L35 (x0 : Nat) (a : Mem × Int32) : Option ((Mem × Int32) ⊕ ((Mem) ⊕ (Int32 × Mem))) :=
  @Prod.casesOn (Mem) (Int32) (fun _ => Option ((Mem × Int32) ⊕ ((Mem) ⊕ (Int32 × Mem)))) a fun τ z2 =>
  if (15 : Int32) < z2 then
    some (.inr (.inr ((mI τ 1 2), τ)))
  else
    (f_City_clauseReads τ x0).bind fun q4 =>
    if q4.1 = (0 : Int32) then
      some (.inr (.inr ((mI q4.2 1 2), q4.2)))
    else
      (f_Tape_sign q4.2).bind fun q6 =>
      if q6.1 = (0 : Int32) then
        some (.inr (.inl q6.2))
      else
        (f_Tape_passes q6.2 (59 : Int32)).bind fun q8 =>
        if q8.1 = (0 : Int32) then
          some (.inr (.inr ((mI q8.2 1 2), q8.2)))
        else
          some (.inl (q8.2, (z2 + (1 : Int32))))
def f_City_read (σ : Mem) (x0 : Nat) : Option (Int32 × Mem) :=
  if cpyB 11 4 (0 : Int32) (0 : Int32) (4 : Int32) then
    (some (rI (sI (sI (sI σ x0 3 (0 : Int32)) x0 4 (0 : Int32)) x0 5 (0 : Int32)) (x0 + 1) (cpyM (tb 1) (mI (sI (sI (sI σ x0 3 (0 : Int32)) x0 4 (0 : Int32)) x0 5 (0 : Int32)) (x0 + 1)) (0 : Int32) (0 : Int32) (4 : Int32)))).bind fun σ2 =>
    (loopF (f_City_read_L35 x0) FU ((sI σ2 1 2 (0 : Int32)), (0 : Int32))).bind fun q10 => Sum.elim (fun w10 =>
        if (mI w10 x0 3) ≤ (0 : Int32) then
          some ((mI w10 1 2), w10)
        else
          if (mI w10 x0 4) ≤ (0 : Int32) then
            some ((mI w10 1 2), w10)
          else
            some ((-1 : Int32), w10)
        ) (fun t13 => some t13) q10
  else none
set_option maxHeartbeats 4000000 in
set_option maxRecDepth 20000 in
theorem gs_City_read_L35 (X : Cx θ p s m args c cX1_read 3 RX1) (hr : meth.sig.returnType = some .int) (hlk : meth.locks = false)  {x0 : Nat} {r : Int32 × Mem} (h0 : kd x0 = 2) (τ : Mem) (z2 : Int32) (x : (Mem × Int32) ⊕ ((Mem) ⊕ (Int32 × Mem))) (h : f_City_read_L35 x0 (τ, z2) = some x) (hk : Sum.elim (fun a => @Prod.casesOn (Mem) (Int32) (fun _ => Prop) a fun τ z2 => GB θ p l e 5 s m args below meth c 3 (some (.int r.1), r.2) 35 [(0, .ref (be θ + x0)), (1, .ref (be θ + 1)), (2, .int z2)] [] τ) (Sum.elim (fun w => GB θ p l e 5 s m args below meth c 3 (some (.int r.1), r.2) 61 [(0, .ref (be θ + x0)), (1, .ref (be θ + 1))] [] w) (fun rt => rt = r)) x) : GB θ p l e 5 s m args below meth c 3 (some (.int r.1), r.2) 35 [(0, .ref (be θ + x0)), (1, .ref (be θ + 1)), (2, .int z2)] [] τ := by
  unfold f_City_read_L35 at h
  dsimp only at h
  refine g_iload_n X dX1_read_35 rfl 2 rfl ?_
  refine g_bipush X dX1_read_36 (v := (15 : Int32)) bp_15 ?_
  refine g_icmp_gt (tgt := 104) X dX1_read_38 (by decide) (fun c3 => ?_) (fun c3 => ?_)
  · replace h := (if_pos c3).symm.trans h
    refine g_aload_n X dX1_read_104 rfl 1 rfl ?_
    refine g_get X fl_RX1_41 dX1_read_105 kd_1 (v := .int (mI τ 1 2)) rfl ?_
    have hk := inr_hk h hk
    have hk := inr_el hk
    have hk : ((mI τ 1 2), τ) = r := hk
    subst hk
    exact g_iret X hr hlk dX1_read_108 rfl
  · replace h := (if_neg c3).symm.trans h
    refine g_aload_n X dX1_read_41 rfl 0 rfl ?_
    refine g_aload_n X dX1_read_42 rfl 1 rfl ?_
    obtain ⟨q4, hq4, h⟩ := Option.bind_eq_some_iff.mp h
    refine g_cV X (c_City_clauseReads h0 hq4) lk_RX1_46 my_X1_clauseReads (a := x0) (ci := 1) h0 (by decide) rfl (As := [.ref (be θ + 1)]) (rest := []) rfl rfl (Nat.le_of_ble_eq_true rfl) ⟨(Nat.le_of_ble_eq_true rfl), (Nat.le_of_ble_eq_true rfl)⟩ ⟨(Nat.le_of_ble_eq_true rfl), (Nat.le_of_ble_eq_true rfl)⟩ dX1_read_43 (st' := [.int q4.1]) (σ' := q4.2) rfl rfl ?_
    refine g_if_ne (tgt := 54) X dX1_read_46 (by decide) (fun c5 => ?_) (fun c5 => ?_)
    · replace h := (if_neg c5).symm.trans h
      refine g_aload_n X dX1_read_54 rfl 1 rfl ?_
      obtain ⟨q6, hq6, h⟩ := Option.bind_eq_some_iff.mp h
      refine g_cV X (c_Tape_sign  hq6) lk_RX1_50 my_X8_sign (a := 1) (ci := 8) kd_1 (by decide) rfl (As := []) (rest := []) rfl rfl (Nat.le_of_ble_eq_true rfl) ⟨(Nat.le_of_ble_eq_true rfl), (Nat.le_of_ble_eq_true rfl)⟩ ⟨(Nat.le_of_ble_eq_true rfl), (Nat.le_of_ble_eq_true rfl)⟩ dX1_read_55 (st' := [.int q6.1]) (σ' := q6.2) rfl rfl ?_
      refine g_if_ne (tgt := 84) X dX1_read_58 (by decide) (fun c7 => ?_) (fun c7 => ?_)
      · replace h := (if_neg c7).symm.trans h
        refine g_aload_n X dX1_read_84 rfl 1 rfl ?_
        refine g_bipush X dX1_read_85 (v := (59 : Int32)) bp_59 ?_
        obtain ⟨q8, hq8, h⟩ := Option.bind_eq_some_iff.mp h
        refine g_cV X (c_Tape_passes  hq8) lk_RX1_54 my_X8_passes (a := 1) (ci := 8) kd_1 (by decide) rfl (As := [.int (59 : Int32)]) (rest := []) rfl rfl (Nat.le_of_ble_eq_true rfl) ⟨(Nat.le_of_ble_eq_true rfl), (Nat.le_of_ble_eq_true rfl)⟩ ⟨(Nat.le_of_ble_eq_true rfl), (Nat.le_of_ble_eq_true rfl)⟩ dX1_read_87 (st' := [.int q8.1]) (σ' := q8.2) rfl rfl ?_
        refine g_if_ne (tgt := 98) X dX1_read_90 (by decide) (fun c9 => ?_) (fun c9 => ?_)
        · replace h := (if_neg c9).symm.trans h
          refine g_iinc X dX1_read_98 (kq := 2) rfl (congrArg (HAdd.hAdd _) ic_1) (by decide) (lv' := [(2, .int (z2 + (1 : Int32))), (0, .ref (be θ + x0)), (1, .ref (be θ + 1))]) rfl ?_
          refine g_goto (tgt := 35) X dX1_read_101 (by decide) ?_
          have hk := inl_hk h hk
          exact g_sub (lv' := [(0, .ref (be θ + x0)), (1, .ref (be θ + 1)), (2, .int (z2 + (1 : Int32)))]) [1, 2, 0] rfl hk
        · replace h := (if_pos c9).symm.trans h
          refine g_aload_n X dX1_read_93 rfl 1 rfl ?_
          refine g_get X fl_RX1_41 dX1_read_94 kd_1 (v := .int (mI q8.2 1 2)) rfl ?_
          have hk := inr_hk h hk
          have hk := inr_el hk
          have hk : ((mI q8.2 1 2), q8.2) = r := hk
          subst hk
          exact g_iret X hr hlk dX1_read_97 rfl
      · replace h := (if_pos c7).symm.trans h
        have hk := inr_hk h hk
        have hk := inl_el hk
        exact g_sub (lv' := [(0, .ref (be θ + x0)), (1, .ref (be θ + 1))]) [0, 1] rfl hk
    · replace h := (if_pos c5).symm.trans h
      refine g_aload_n X dX1_read_49 rfl 1 rfl ?_
      refine g_get X fl_RX1_41 dX1_read_50 kd_1 (v := .int (mI q4.2 1 2)) rfl ?_
      have hk := inr_hk h hk
      have hk := inr_el hk
      have hk : ((mI q4.2 1 2), q4.2) = r := hk
      subst hk
      exact g_iret X hr hlk dX1_read_53 rfl
set_option maxHeartbeats 4000000 in
set_option maxRecDepth 20000 in
theorem gl_City_read_L35 (X : Cx θ p s m args c cX1_read 3 RX1) (hr : meth.sig.returnType = some .int) (hlk : meth.locks = false)  {x0 : Nat} {r : Int32 × Mem} (h0 : kd x0 = 2) (n : Nat) (a : Mem × Int32) (b : (Mem) ⊕ (Int32 × Mem)) (h : loopF (f_City_read_L35 x0) n a = some b) (hk : (Sum.elim (fun w => GB θ p l e 5 s m args below meth c 3 (some (.int r.1), r.2) 61 [(0, .ref (be θ + x0)), (1, .ref (be θ + 1))] [] w) (fun rt => rt = r)) b) : (fun a => @Prod.casesOn (Mem) (Int32) (fun _ => Prop) a fun τ z2 => GB θ p l e 5 s m args below meth c 3 (some (.int r.1), r.2) 35 [(0, .ref (be θ + x0)), (1, .ref (be θ + 1)), (2, .int z2)] [] τ) a :=
  loopF_by (P := (fun a => @Prod.casesOn (Mem) (Int32) (fun _ => Prop) a fun τ z2 => GB θ p l e 5 s m args below meth c 3 (some (.int r.1), r.2) 35 [(0, .ref (be θ + x0)), (1, .ref (be θ + 1)), (2, .int z2)] [] τ)) (K := (Sum.elim (fun w => GB θ p l e 5 s m args below meth c 3 (some (.int r.1), r.2) 61 [(0, .ref (be θ + x0)), (1, .ref (be θ + 1))] [] w) (fun rt => rt = r))) (fun a x h hk => by obtain ⟨τ, z2⟩ := a; exact gs_City_read_L35 X hr hlk  h0 τ z2 x h hk) n a b h hk
set_option maxHeartbeats 4000000 in
set_option maxRecDepth 20000 in
theorem g_City_read (X : Cx θ p s m args c cX1_read 3 RX1) (hr : meth.sig.returnType = some .int) (hlk : meth.locks = false)  {σ : Mem} {x0 : Nat} {r : Int32 × Mem} (h0 : kd x0 = 2) (h : f_City_read σ x0 = some r) : GB θ p l e 5 s m args below meth c 3 (some (.int r.1), r.2) 0 [(0, .ref (be θ + x0)), (1, .ref (be θ + 1))] [] σ := by
  unfold f_City_read at h
  refine g_aload_n X dX1_read_0 rfl 0 rfl ?_
  refine g_iconst X dX1_read_1 (v := (0 : Int32)) ic_0 ?_
  refine g_putI X fl_RX1_21 dX1_read_2 h0 rfl rfl rfl ?_
  refine g_aload_n X dX1_read_5 rfl 0 rfl ?_
  refine g_iconst X dX1_read_6 (v := (0 : Int32)) ic_0 ?_
  refine g_putI X fl_RX1_25 dX1_read_7 h0 rfl rfl rfl ?_
  refine g_aload_n X dX1_read_10 rfl 0 rfl ?_
  refine g_iconst X dX1_read_11 (v := (0 : Int32)) ic_0 ?_
  refine g_putZ X fl_RX1_28 dX1_read_12 h0 rfl rfl rfl bz0 ?_
  refine g_gets X X.2.2.1.1.2.2.2.1 fs_RX1_32 dX1_read_15 ?_
  refine g_iconst X dX1_read_18 (v := (0 : Int32)) ic_0 ?_
  refine g_aload_n X dX1_read_19 rfl 0 rfl ?_
  refine g_get X fl_RX1_11 dX1_read_20 h0 (v := .ref (be θ + (x0 + 1))) rfl ?_
  refine g_iconst X dX1_read_23 (v := (0 : Int32)) ic_0 ?_
  refine g_iconst X dX1_read_24 (v := (4 : Int32)) ic_4 ?_
  obtain ⟨g1, h⟩ := ite_some h
  obtain ⟨σ2, hσ2, h⟩ := Option.bind_eq_some_iff.mp h
  refine g_cpT X lc_RX1_35 (lk1_0 h0).1 (lk1_0 h0).2 (cpyB_ok g1) ⟨(Nat.le_of_ble_eq_true rfl), (Nat.le_of_ble_eq_true rfl)⟩ dX1_read_25 (Option.some.inj hσ2) ?_
  refine g_aload_n X dX1_read_28 rfl 1 rfl ?_
  refine g_iconst X dX1_read_29 (v := (0 : Int32)) ic_0 ?_
  refine g_putI X fl_RX1_41 dX1_read_30 kd_1 rfl rfl rfl ?_
  refine g_iconst X dX1_read_33 (v := (0 : Int32)) ic_0 ?_
  refine g_istore_n X dX1_read_34 rfl (by decide) (lv' := [(2, .int (0 : Int32)), (0, .ref (be θ + x0)), (1, .ref (be θ + 1))]) rfl ?_
  obtain ⟨q10, hq10, h⟩ := Option.bind_eq_some_iff.mp h
  refine g_sub (lv' := [(0, .ref (be θ + x0)), (1, .ref (be θ + 1)), (2, .int (0 : Int32))]) [1, 2, 0] rfl (gl_City_read_L35 X hr hlk  h0  FU _ q10 hq10 ?_)
  rcases q10 with w10 | t13
  · simp only [Sum.elim_inl] at h ⊢
    refine g_aload_n X dX1_read_61 rfl 0 rfl ?_
    refine g_get X fl_RX1_21 dX1_read_62 h0 (v := .int (mI w10 x0 3)) rfl ?_
    refine g_if_le (tgt := 79) X dX1_read_65 (by decide) (fun c11 => ?_) (fun c11 => ?_)
    · replace h := (if_pos c11).symm.trans h
      refine g_aload_n X dX1_read_79 rfl 1 rfl ?_
      refine g_get X fl_RX1_41 dX1_read_80 kd_1 (v := .int (mI w10 1 2)) rfl ?_
      exact g_iret X hr hlk dX1_read_83 (by cases h; rfl)
    · replace h := (if_neg c11).symm.trans h
      refine g_aload_n X dX1_read_68 rfl 0 rfl ?_
      refine g_get X fl_RX1_25 dX1_read_69 h0 (v := .int (mI w10 x0 4)) rfl ?_
      refine g_if_le (tgt := 79) X dX1_read_72 (by decide) (fun c12 => ?_) (fun c12 => ?_)
      · replace h := (if_pos c12).symm.trans h
        refine g_aload_n X dX1_read_79 rfl 1 rfl ?_
        refine g_get X fl_RX1_41 dX1_read_80 kd_1 (v := .int (mI w10 1 2)) rfl ?_
        exact g_iret X hr hlk dX1_read_83 (by cases h; rfl)
      · replace h := (if_neg c12).symm.trans h
        refine g_iconst X dX1_read_75 (v := (-1 : Int32)) ic_m1 ?_
        refine g_goto (tgt := 83) X dX1_read_76 (by decide) ?_
        exact g_iret X hr hlk dX1_read_83 (by cases h; rfl)
  · simp only [Sum.elim_inr] at h ⊢
    exact Option.some.inj h
set_option maxHeartbeats 4000000 in
set_option maxRecDepth 20000 in
theorem c_City_read {θ : Th} {l : Launch} {σ : Mem} {x0 : Nat} {r : Int32 × Mem} (h0 : kd x0 = 2) (h : f_City_read σ x0 = some r) : Cn θ l yX1_read cX1_read 3 (some .int) 5 0 0 [.ref (be θ + x0), .ref (be θ + 1)] σ (some (.int r.1), r.2) :=
  Cn.of (by decide) (Nat.le_of_ble_eq_true rfl) (fun p e s m below meth c X hr hlk => g_City_read X hr hlk h0 h)
theorem dX1_rateTold_0 : decode cX1_rateTold 0 = .ok (.aload_n 0, 1) := by decide +kernel
theorem dX1_rateTold_1 : decode cX1_rateTold 1 = .ok (.getfield 11, 3) := by decide +kernel
theorem dX1_rateTold_4 : decode cX1_rateTold 4 = .ok (.iconst 0, 1) := by decide +kernel
theorem dX1_rateTold_5 : decode cX1_rateTold 5 = .ok (.iaload, 1) := by decide +kernel
theorem dX1_rateTold_6 : decode cX1_rateTold 6 = .ok (.ireturn, 1) := by decide +kernel
def f_City_rateTold (σ : Mem) (x0 : Nat) : Option (Int32) :=
  some (mI σ (x0 + 1) (0 : Int32).toNatClampNeg)
set_option maxHeartbeats 4000000 in
set_option maxRecDepth 20000 in
theorem g_City_rateTold (X : Cx θ p s m args c cX1_rateTold 1 RX1) (hr : meth.sig.returnType = some .int) (hlk : meth.locks = false)  {σ : Mem} {x0 : Nat} {r : Int32} (h0 : kd x0 = 2) (h : f_City_rateTold σ x0 = some r) : GB θ p l e 0 s m args below meth c 1 (some (.int r), σ) 0 [(0, .ref (be θ + x0))] [] σ := by
  unfold f_City_rateTold at h
  refine g_aload_n X dX1_rateTold_0 rfl 0 rfl ?_
  refine g_get X fl_RX1_11 dX1_rateTold_1 h0 (v := .ref (be θ + (x0 + 1))) rfl ?_
  refine g_iconst X dX1_rateTold_4 (v := (0 : Int32)) ic_0 ?_
  refine g_iald X (lk1_0 h0).1 (lk1_0 h0).2 (inb_in (show inb (0 : Int32) 4 = true by decide)) dX1_rateTold_5 ?_
  exact g_iret X hr hlk dX1_rateTold_6 (by cases h; rfl)
set_option maxHeartbeats 4000000 in
set_option maxRecDepth 20000 in
theorem c_City_rateTold {θ : Th} {l : Launch} {σ : Mem} {x0 : Nat} {r : Int32} (h0 : kd x0 = 2) (h : f_City_rateTold σ x0 = some r) : Cn θ l yX1_rateTold cX1_rateTold 1 (some .int) 0 0 0 [.ref (be θ + x0)] σ (some (.int r), σ) :=
  Cn.of (by decide) (Nat.le_of_ble_eq_true rfl) (fun p e s m below meth c X hr hlk => g_City_rateTold X hr hlk h0 h)
theorem dX1_hoursToComeBack_0 : decode cX1_hoursToComeBack 0 = .ok (.aload_n 0, 1) := by decide +kernel
theorem dX1_hoursToComeBack_1 : decode cX1_hoursToComeBack 1 = .ok (.getfield 11, 3) := by decide +kernel
theorem dX1_hoursToComeBack_4 : decode cX1_hoursToComeBack 4 = .ok (.iconst 1, 1) := by decide +kernel
theorem dX1_hoursToComeBack_5 : decode cX1_hoursToComeBack 5 = .ok (.iaload, 1) := by decide +kernel
theorem dX1_hoursToComeBack_6 : decode cX1_hoursToComeBack 6 = .ok (.ireturn, 1) := by decide +kernel
def f_City_hoursToComeBack (σ : Mem) (x0 : Nat) : Option (Int32) :=
  some (mI σ (x0 + 1) (1 : Int32).toNatClampNeg)
set_option maxHeartbeats 4000000 in
set_option maxRecDepth 20000 in
theorem g_City_hoursToComeBack (X : Cx θ p s m args c cX1_hoursToComeBack 1 RX1) (hr : meth.sig.returnType = some .int) (hlk : meth.locks = false)  {σ : Mem} {x0 : Nat} {r : Int32} (h0 : kd x0 = 2) (h : f_City_hoursToComeBack σ x0 = some r) : GB θ p l e 0 s m args below meth c 1 (some (.int r), σ) 0 [(0, .ref (be θ + x0))] [] σ := by
  unfold f_City_hoursToComeBack at h
  refine g_aload_n X dX1_hoursToComeBack_0 rfl 0 rfl ?_
  refine g_get X fl_RX1_11 dX1_hoursToComeBack_1 h0 (v := .ref (be θ + (x0 + 1))) rfl ?_
  refine g_iconst X dX1_hoursToComeBack_4 (v := (1 : Int32)) ic_1 ?_
  refine g_iald X (lk1_0 h0).1 (lk1_0 h0).2 (inb_in (show inb (1 : Int32) 4 = true by decide)) dX1_hoursToComeBack_5 ?_
  exact g_iret X hr hlk dX1_hoursToComeBack_6 (by cases h; rfl)
set_option maxHeartbeats 4000000 in
set_option maxRecDepth 20000 in
theorem c_City_hoursToComeBack {θ : Th} {l : Launch} {σ : Mem} {x0 : Nat} {r : Int32} (h0 : kd x0 = 2) (h : f_City_hoursToComeBack σ x0 = some r) : Cn θ l yX1_hoursToComeBack cX1_hoursToComeBack 1 (some .int) 0 0 0 [.ref (be θ + x0)] σ (some (.int r), σ) :=
  Cn.of (by decide) (Nat.le_of_ble_eq_true rfl) (fun p e s m below meth c X hr hlk => g_City_hoursToComeBack X hr hlk h0 h)
theorem dX1_michaelmas_0 : decode cX1_michaelmas 0 = .ok (.aload_n 0, 1) := by decide +kernel
theorem dX1_michaelmas_1 : decode cX1_michaelmas 1 = .ok (.getfield 11, 3) := by decide +kernel
theorem dX1_michaelmas_4 : decode cX1_michaelmas 4 = .ok (.iconst 2, 1) := by decide +kernel
theorem dX1_michaelmas_5 : decode cX1_michaelmas 5 = .ok (.iaload, 1) := by decide +kernel
theorem dX1_michaelmas_6 : decode cX1_michaelmas 6 = .ok (.ireturn, 1) := by decide +kernel
def f_City_michaelmas (σ : Mem) (x0 : Nat) : Option (Int32) :=
  some (mI σ (x0 + 1) (2 : Int32).toNatClampNeg)
set_option maxHeartbeats 4000000 in
set_option maxRecDepth 20000 in
theorem g_City_michaelmas (X : Cx θ p s m args c cX1_michaelmas 1 RX1) (hr : meth.sig.returnType = some .int) (hlk : meth.locks = false)  {σ : Mem} {x0 : Nat} {r : Int32} (h0 : kd x0 = 2) (h : f_City_michaelmas σ x0 = some r) : GB θ p l e 0 s m args below meth c 1 (some (.int r), σ) 0 [(0, .ref (be θ + x0))] [] σ := by
  unfold f_City_michaelmas at h
  refine g_aload_n X dX1_michaelmas_0 rfl 0 rfl ?_
  refine g_get X fl_RX1_11 dX1_michaelmas_1 h0 (v := .ref (be θ + (x0 + 1))) rfl ?_
  refine g_iconst X dX1_michaelmas_4 (v := (2 : Int32)) ic_2 ?_
  refine g_iald X (lk1_0 h0).1 (lk1_0 h0).2 (inb_in (show inb (2 : Int32) 4 = true by decide)) dX1_michaelmas_5 ?_
  exact g_iret X hr hlk dX1_michaelmas_6 (by cases h; rfl)
set_option maxHeartbeats 4000000 in
set_option maxRecDepth 20000 in
theorem c_City_michaelmas {θ : Th} {l : Launch} {σ : Mem} {x0 : Nat} {r : Int32} (h0 : kd x0 = 2) (h : f_City_michaelmas σ x0 = some r) : Cn θ l yX1_michaelmas cX1_michaelmas 1 (some .int) 0 0 0 [.ref (be θ + x0)] σ (some (.int r), σ) :=
  Cn.of (by decide) (Nat.le_of_ble_eq_true rfl) (fun p e s m below meth c X hr hlk => g_City_michaelmas X hr hlk h0 h)
theorem dX1_income_0 : decode cX1_income 0 = .ok (.aload_n 0, 1) := by decide +kernel
theorem dX1_income_1 : decode cX1_income 1 = .ok (.getfield 11, 3) := by decide +kernel
theorem dX1_income_4 : decode cX1_income 4 = .ok (.iconst 3, 1) := by decide +kernel
theorem dX1_income_5 : decode cX1_income 5 = .ok (.iaload, 1) := by decide +kernel
theorem dX1_income_6 : decode cX1_income 6 = .ok (.ireturn, 1) := by decide +kernel
def f_City_income (σ : Mem) (x0 : Nat) : Option (Int32) :=
  some (mI σ (x0 + 1) (3 : Int32).toNatClampNeg)
set_option maxHeartbeats 4000000 in
set_option maxRecDepth 20000 in
theorem g_City_income (X : Cx θ p s m args c cX1_income 1 RX1) (hr : meth.sig.returnType = some .int) (hlk : meth.locks = false)  {σ : Mem} {x0 : Nat} {r : Int32} (h0 : kd x0 = 2) (h : f_City_income σ x0 = some r) : GB θ p l e 0 s m args below meth c 1 (some (.int r), σ) 0 [(0, .ref (be θ + x0))] [] σ := by
  unfold f_City_income at h
  refine g_aload_n X dX1_income_0 rfl 0 rfl ?_
  refine g_get X fl_RX1_11 dX1_income_1 h0 (v := .ref (be θ + (x0 + 1))) rfl ?_
  refine g_iconst X dX1_income_4 (v := (3 : Int32)) ic_3 ?_
  refine g_iald X (lk1_0 h0).1 (lk1_0 h0).2 (inb_in (show inb (3 : Int32) 4 = true by decide)) dX1_income_5 ?_
  exact g_iret X hr hlk dX1_income_6 (by cases h; rfl)
set_option maxHeartbeats 4000000 in
set_option maxRecDepth 20000 in
theorem c_City_income {θ : Th} {l : Launch} {σ : Mem} {x0 : Nat} {r : Int32} (h0 : kd x0 = 2) (h : f_City_income σ x0 = some r) : Cn θ l yX1_income cX1_income 1 (some .int) 0 0 0 [.ref (be θ + x0)] σ (some (.int r), σ) :=
  Cn.of (by decide) (Nat.le_of_ble_eq_true rfl) (fun p e s m below meth c X hr hlk => g_City_income X hr hlk h0 h)
theorem dX1_weightTold_0 : decode cX1_weightTold 0 = .ok (.aload_n 0, 1) := by decide +kernel
theorem dX1_weightTold_1 : decode cX1_weightTold 1 = .ok (.getfield 15, 3) := by decide +kernel
theorem dX1_weightTold_4 : decode cX1_weightTold 4 = .ok (.iload_n 1, 1) := by decide +kernel
theorem dX1_weightTold_5 : decode cX1_weightTold 5 = .ok (.iconst 3, 1) := by decide +kernel
theorem dX1_weightTold_6 : decode cX1_weightTold 6 = .ok (.imul, 1) := by decide +kernel
theorem dX1_weightTold_7 : decode cX1_weightTold 7 = .ok (.iconst 1, 1) := by decide +kernel
theorem dX1_weightTold_8 : decode cX1_weightTold 8 = .ok (.iadd, 1) := by decide +kernel
theorem dX1_weightTold_9 : decode cX1_weightTold 9 = .ok (.iaload, 1) := by decide +kernel
theorem dX1_weightTold_10 : decode cX1_weightTold 10 = .ok (.ireturn, 1) := by decide +kernel
def f_City_weightTold (σ : Mem) (x0 : Nat) (x1 : Int32) : Option (Int32) :=
  if inb ((x1 * (3 : Int32)) + (1 : Int32)) 24 then
    some (mI σ (x0 + 2) ((x1 * (3 : Int32)) + (1 : Int32)).toNatClampNeg)
  else none
set_option maxHeartbeats 4000000 in
set_option maxRecDepth 20000 in
theorem g_City_weightTold (X : Cx θ p s m args c cX1_weightTold 2 RX1) (hr : meth.sig.returnType = some .int) (hlk : meth.locks = false)  {σ : Mem} {x0 : Nat} {x1 : Int32} {r : Int32} (h0 : kd x0 = 2) (h : f_City_weightTold σ x0 x1 = some r) : GB θ p l e 0 s m args below meth c 2 (some (.int r), σ) 0 [(0, .ref (be θ + x0)), (1, .int x1)] [] σ := by
  unfold f_City_weightTold at h
  refine g_aload_n X dX1_weightTold_0 rfl 0 rfl ?_
  refine g_get X fl_RX1_15 dX1_weightTold_1 h0 (v := .ref (be θ + (x0 + 2))) rfl ?_
  refine g_iload_n X dX1_weightTold_4 rfl 1 rfl ?_
  refine g_iconst X dX1_weightTold_5 (v := (3 : Int32)) ic_3 ?_
  refine g_imul X dX1_weightTold_6 ?_
  refine g_iconst X dX1_weightTold_7 (v := (1 : Int32)) ic_1 ?_
  refine g_iadd X dX1_weightTold_8 ?_
  obtain ⟨g1, h⟩ := ite_some h
  refine g_iald X (lk1_1 h0).1 (lk1_1 h0).2 (inb_in g1) dX1_weightTold_9 ?_
  exact g_iret X hr hlk dX1_weightTold_10 (by cases h; rfl)
set_option maxHeartbeats 4000000 in
set_option maxRecDepth 20000 in
theorem c_City_weightTold {θ : Th} {l : Launch} {σ : Mem} {x0 : Nat} {x1 : Int32} {r : Int32} (h0 : kd x0 = 2) (h : f_City_weightTold σ x0 x1 = some r) : Cn θ l yX1_weightTold cX1_weightTold 2 (some .int) 0 0 0 [.ref (be θ + x0), .int x1] σ (some (.int r), σ) :=
  Cn.of (by decide) (Nat.le_of_ble_eq_true rfl) (fun p e s m below meth c X hr hlk => g_City_weightTold X hr hlk h0 h)
theorem dX1_purseTold_0 : decode cX1_purseTold 0 = .ok (.aload_n 0, 1) := by decide +kernel
theorem dX1_purseTold_1 : decode cX1_purseTold 1 = .ok (.getfield 18, 3) := by decide +kernel
theorem dX1_purseTold_4 : decode cX1_purseTold 4 = .ok (.iload_n 1, 1) := by decide +kernel
theorem dX1_purseTold_5 : decode cX1_purseTold 5 = .ok (.iconst 4, 1) := by decide +kernel
theorem dX1_purseTold_6 : decode cX1_purseTold 6 = .ok (.imul, 1) := by decide +kernel
theorem dX1_purseTold_7 : decode cX1_purseTold 7 = .ok (.iaload, 1) := by decide +kernel
theorem dX1_purseTold_8 : decode cX1_purseTold 8 = .ok (.ireturn, 1) := by decide +kernel
def f_City_purseTold (σ : Mem) (x0 : Nat) (x1 : Int32) : Option (Int32) :=
  if inb (x1 * (4 : Int32)) 24 then
    some (mI σ (x0 + 3) (x1 * (4 : Int32)).toNatClampNeg)
  else none
set_option maxHeartbeats 4000000 in
set_option maxRecDepth 20000 in
theorem g_City_purseTold (X : Cx θ p s m args c cX1_purseTold 2 RX1) (hr : meth.sig.returnType = some .int) (hlk : meth.locks = false)  {σ : Mem} {x0 : Nat} {x1 : Int32} {r : Int32} (h0 : kd x0 = 2) (h : f_City_purseTold σ x0 x1 = some r) : GB θ p l e 0 s m args below meth c 2 (some (.int r), σ) 0 [(0, .ref (be θ + x0)), (1, .int x1)] [] σ := by
  unfold f_City_purseTold at h
  refine g_aload_n X dX1_purseTold_0 rfl 0 rfl ?_
  refine g_get X fl_RX1_18 dX1_purseTold_1 h0 (v := .ref (be θ + (x0 + 3))) rfl ?_
  refine g_iload_n X dX1_purseTold_4 rfl 1 rfl ?_
  refine g_iconst X dX1_purseTold_5 (v := (4 : Int32)) ic_4 ?_
  refine g_imul X dX1_purseTold_6 ?_
  obtain ⟨g1, h⟩ := ite_some h
  refine g_iald X (lk1_2 h0).1 (lk1_2 h0).2 (inb_in g1) dX1_purseTold_7 ?_
  exact g_iret X hr hlk dX1_purseTold_8 (by cases h; rfl)
set_option maxHeartbeats 4000000 in
set_option maxRecDepth 20000 in
theorem c_City_purseTold {θ : Th} {l : Launch} {σ : Mem} {x0 : Nat} {x1 : Int32} {r : Int32} (h0 : kd x0 = 2) (h : f_City_purseTold σ x0 x1 = some r) : Cn θ l yX1_purseTold cX1_purseTold 2 (some .int) 0 0 0 [.ref (be θ + x0), .int x1] σ (some (.int r), σ) :=
  Cn.of (by decide) (Nat.le_of_ble_eq_true rfl) (fun p e s m below meth c X hr hlk => g_City_purseTold X hr hlk h0 h)
theorem dX1_desireTold_0 : decode cX1_desireTold 0 = .ok (.aload_n 0, 1) := by decide +kernel
theorem dX1_desireTold_1 : decode cX1_desireTold 1 = .ok (.getfield 18, 3) := by decide +kernel
theorem dX1_desireTold_4 : decode cX1_desireTold 4 = .ok (.iload_n 1, 1) := by decide +kernel
theorem dX1_desireTold_5 : decode cX1_desireTold 5 = .ok (.iconst 4, 1) := by decide +kernel
theorem dX1_desireTold_6 : decode cX1_desireTold 6 = .ok (.imul, 1) := by decide +kernel
theorem dX1_desireTold_7 : decode cX1_desireTold 7 = .ok (.iconst 1, 1) := by decide +kernel
theorem dX1_desireTold_8 : decode cX1_desireTold 8 = .ok (.iadd, 1) := by decide +kernel
theorem dX1_desireTold_9 : decode cX1_desireTold 9 = .ok (.iaload, 1) := by decide +kernel
theorem dX1_desireTold_10 : decode cX1_desireTold 10 = .ok (.ireturn, 1) := by decide +kernel
def f_City_desireTold (σ : Mem) (x0 : Nat) (x1 : Int32) : Option (Int32) :=
  if inb ((x1 * (4 : Int32)) + (1 : Int32)) 24 then
    some (mI σ (x0 + 3) ((x1 * (4 : Int32)) + (1 : Int32)).toNatClampNeg)
  else none
set_option maxHeartbeats 4000000 in
set_option maxRecDepth 20000 in
theorem g_City_desireTold (X : Cx θ p s m args c cX1_desireTold 2 RX1) (hr : meth.sig.returnType = some .int) (hlk : meth.locks = false)  {σ : Mem} {x0 : Nat} {x1 : Int32} {r : Int32} (h0 : kd x0 = 2) (h : f_City_desireTold σ x0 x1 = some r) : GB θ p l e 0 s m args below meth c 2 (some (.int r), σ) 0 [(0, .ref (be θ + x0)), (1, .int x1)] [] σ := by
  unfold f_City_desireTold at h
  refine g_aload_n X dX1_desireTold_0 rfl 0 rfl ?_
  refine g_get X fl_RX1_18 dX1_desireTold_1 h0 (v := .ref (be θ + (x0 + 3))) rfl ?_
  refine g_iload_n X dX1_desireTold_4 rfl 1 rfl ?_
  refine g_iconst X dX1_desireTold_5 (v := (4 : Int32)) ic_4 ?_
  refine g_imul X dX1_desireTold_6 ?_
  refine g_iconst X dX1_desireTold_7 (v := (1 : Int32)) ic_1 ?_
  refine g_iadd X dX1_desireTold_8 ?_
  obtain ⟨g1, h⟩ := ite_some h
  refine g_iald X (lk1_2 h0).1 (lk1_2 h0).2 (inb_in g1) dX1_desireTold_9 ?_
  exact g_iret X hr hlk dX1_desireTold_10 (by cases h; rfl)
set_option maxHeartbeats 4000000 in
set_option maxRecDepth 20000 in
theorem c_City_desireTold {θ : Th} {l : Launch} {σ : Mem} {x0 : Nat} {x1 : Int32} {r : Int32} (h0 : kd x0 = 2) (h : f_City_desireTold σ x0 x1 = some r) : Cn θ l yX1_desireTold cX1_desireTold 2 (some .int) 0 0 0 [.ref (be θ + x0), .int x1] σ (some (.int r), σ) :=
  Cn.of (by decide) (Nat.le_of_ble_eq_true rfl) (fun p e s m below meth c X hr hlk => g_City_desireTold X hr hlk h0 h)
theorem dX1_nerveOf_0 : decode cX1_nerveOf 0 = .ok (.aload_n 0, 1) := by decide +kernel
theorem dX1_nerveOf_1 : decode cX1_nerveOf 1 = .ok (.getfield 18, 3) := by decide +kernel
theorem dX1_nerveOf_4 : decode cX1_nerveOf 4 = .ok (.iload_n 1, 1) := by decide +kernel
theorem dX1_nerveOf_5 : decode cX1_nerveOf 5 = .ok (.iconst 4, 1) := by decide +kernel
theorem dX1_nerveOf_6 : decode cX1_nerveOf 6 = .ok (.imul, 1) := by decide +kernel
theorem dX1_nerveOf_7 : decode cX1_nerveOf 7 = .ok (.iconst 2, 1) := by decide +kernel
theorem dX1_nerveOf_8 : decode cX1_nerveOf 8 = .ok (.iadd, 1) := by decide +kernel
theorem dX1_nerveOf_9 : decode cX1_nerveOf 9 = .ok (.iaload, 1) := by decide +kernel
theorem dX1_nerveOf_10 : decode cX1_nerveOf 10 = .ok (.ireturn, 1) := by decide +kernel
def f_City_nerveOf (σ : Mem) (x0 : Nat) (x1 : Int32) : Option (Int32) :=
  if inb ((x1 * (4 : Int32)) + (2 : Int32)) 24 then
    some (mI σ (x0 + 3) ((x1 * (4 : Int32)) + (2 : Int32)).toNatClampNeg)
  else none
set_option maxHeartbeats 4000000 in
set_option maxRecDepth 20000 in
theorem g_City_nerveOf (X : Cx θ p s m args c cX1_nerveOf 2 RX1) (hr : meth.sig.returnType = some .int) (hlk : meth.locks = false)  {σ : Mem} {x0 : Nat} {x1 : Int32} {r : Int32} (h0 : kd x0 = 2) (h : f_City_nerveOf σ x0 x1 = some r) : GB θ p l e 0 s m args below meth c 2 (some (.int r), σ) 0 [(0, .ref (be θ + x0)), (1, .int x1)] [] σ := by
  unfold f_City_nerveOf at h
  refine g_aload_n X dX1_nerveOf_0 rfl 0 rfl ?_
  refine g_get X fl_RX1_18 dX1_nerveOf_1 h0 (v := .ref (be θ + (x0 + 3))) rfl ?_
  refine g_iload_n X dX1_nerveOf_4 rfl 1 rfl ?_
  refine g_iconst X dX1_nerveOf_5 (v := (4 : Int32)) ic_4 ?_
  refine g_imul X dX1_nerveOf_6 ?_
  refine g_iconst X dX1_nerveOf_7 (v := (2 : Int32)) ic_2 ?_
  refine g_iadd X dX1_nerveOf_8 ?_
  obtain ⟨g1, h⟩ := ite_some h
  refine g_iald X (lk1_2 h0).1 (lk1_2 h0).2 (inb_in g1) dX1_nerveOf_9 ?_
  exact g_iret X hr hlk dX1_nerveOf_10 (by cases h; rfl)
set_option maxHeartbeats 4000000 in
set_option maxRecDepth 20000 in
theorem c_City_nerveOf {θ : Th} {l : Launch} {σ : Mem} {x0 : Nat} {x1 : Int32} {r : Int32} (h0 : kd x0 = 2) (h : f_City_nerveOf σ x0 x1 = some r) : Cn θ l yX1_nerveOf cX1_nerveOf 2 (some .int) 0 0 0 [.ref (be θ + x0), .int x1] σ (some (.int r), σ) :=
  Cn.of (by decide) (Nat.le_of_ble_eq_true rfl) (fun p e s m below meth c X hr hlk => g_City_nerveOf X hr hlk h0 h)
theorem dX8_passesDigit_0 : decode cX8_passesDigit 0 = .ok (.aload_n 0, 1) := by decide +kernel
theorem dX8_passesDigit_1 : decode cX8_passesDigit 1 = .ok (.invokevirtual 25, 3) := by decide +kernel
theorem dX8_passesDigit_4 : decode cX8_passesDigit 4 = .ok (.pop, 1) := by decide +kernel
theorem dX8_passesDigit_5 : decode cX8_passesDigit 5 = .ok (.aload_n 0, 1) := by decide +kernel
theorem dX8_passesDigit_6 : decode cX8_passesDigit 6 = .ok (.invokevirtual 29, 3) := by decide +kernel
theorem dX8_passesDigit_9 : decode cX8_passesDigit 9 = .ok (.ifCond .ne 5, 3) := by decide +kernel
theorem dX8_passesDigit_12 : decode cX8_passesDigit 12 = .ok (.iconst 0, 1) := by decide +kernel
theorem dX8_passesDigit_13 : decode cX8_passesDigit 13 = .ok (.ireturn, 1) := by decide +kernel
theorem dX8_passesDigit_14 : decode cX8_passesDigit 14 = .ok (.aload_n 0, 1) := by decide +kernel
theorem dX8_passesDigit_15 : decode cX8_passesDigit 15 = .ok (.aload_n 0, 1) := by decide +kernel
theorem dX8_passesDigit_16 : decode cX8_passesDigit 16 = .ok (.getfield 9, 3) := by decide +kernel
theorem dX8_passesDigit_19 : decode cX8_passesDigit 19 = .ok (.aload_n 0, 1) := by decide +kernel
theorem dX8_passesDigit_20 : decode cX8_passesDigit 20 = .ok (.getfield 19, 3) := by decide +kernel
theorem dX8_passesDigit_23 : decode cX8_passesDigit 23 = .ok (.iaload, 1) := by decide +kernel
theorem dX8_passesDigit_24 : decode cX8_passesDigit 24 = .ok (.bipush 48, 2) := by decide +kernel
theorem dX8_passesDigit_26 : decode cX8_passesDigit 26 = .ok (.isub, 1) := by decide +kernel
theorem dX8_passesDigit_27 : decode cX8_passesDigit 27 = .ok (.putfield 22, 3) := by decide +kernel
theorem dX8_passesDigit_30 : decode cX8_passesDigit 30 = .ok (.aload_n 0, 1) := by decide +kernel
theorem dX8_passesDigit_31 : decode cX8_passesDigit 31 = .ok (.dup, 1) := by decide +kernel
theorem dX8_passesDigit_32 : decode cX8_passesDigit 32 = .ok (.getfield 19, 3) := by decide +kernel
theorem dX8_passesDigit_35 : decode cX8_passesDigit 35 = .ok (.iconst 1, 1) := by decide +kernel
theorem dX8_passesDigit_36 : decode cX8_passesDigit 36 = .ok (.iadd, 1) := by decide +kernel
theorem dX8_passesDigit_37 : decode cX8_passesDigit 37 = .ok (.putfield 19, 3) := by decide +kernel
theorem dX8_passesDigit_40 : decode cX8_passesDigit 40 = .ok (.iconst 1, 1) := by decide +kernel
theorem dX8_passesDigit_41 : decode cX8_passesDigit 41 = .ok (.ireturn, 1) := by decide +kernel
def f_Tape_passesDigit (σ : Mem)  : Option (Int32 × Mem) :=
  (f_Tape_sign σ).bind fun q1 =>
  (f_Tape_atDigit q1.2).bind fun q2 =>
  if q2 = (0 : Int32) then
    some ((0 : Int32), q1.2)
  else
    if inb (mI q1.2 1 2) 240 then
      some ((1 : Int32), (sI (sI q1.2 1 3 ((mI q1.2 2 (mI q1.2 1 2).toNatClampNeg) - (48 : Int32))) 1 2 ((mI (sI q1.2 1 3 ((mI q1.2 2 (mI q1.2 1 2).toNatClampNeg) - (48 : Int32))) 1 2) + (1 : Int32))))
    else none
set_option maxHeartbeats 4000000 in
set_option maxRecDepth 20000 in
theorem g_Tape_passesDigit (X : Cx θ p s m args c cX8_passesDigit 1 RX8) (hr : meth.sig.returnType = some .boolean) (hlk : meth.locks = false)  {σ : Mem}  {r : Int32 × Mem}  (h : f_Tape_passesDigit σ  = some r) : GB θ p l e 1 s m args below meth c 1 (some (.int r.1), r.2) 0 [(0, .ref (be θ + 1))] [] σ := by
  unfold f_Tape_passesDigit at h
  refine g_aload_n X dX8_passesDigit_0 rfl 0 rfl ?_
  obtain ⟨q1, hq1, h⟩ := Option.bind_eq_some_iff.mp h
  refine g_cV X (c_Tape_sign  hq1) lk_RX8_25 my_X8_sign (a := 1) (ci := 8) kd_1 (by decide) rfl (As := []) (rest := []) rfl rfl (Nat.le_of_ble_eq_true rfl) ⟨(Nat.le_of_ble_eq_true rfl), (Nat.le_of_ble_eq_true rfl)⟩ ⟨(Nat.le_of_ble_eq_true rfl), (Nat.le_of_ble_eq_true rfl)⟩ dX8_passesDigit_1 (st' := [.int q1.1]) (σ' := q1.2) rfl rfl ?_
  refine g_pop X dX8_passesDigit_4 rfl ?_
  refine g_aload_n X dX8_passesDigit_5 rfl 0 rfl ?_
  obtain ⟨q2, hq2, h⟩ := Option.bind_eq_some_iff.mp h
  refine g_cV X (c_Tape_atDigit  hq2) lk_RX8_29 my_X8_atDigit (a := 1) (ci := 8) kd_1 (by decide) rfl (As := []) (rest := []) rfl rfl (Nat.le_of_ble_eq_true rfl) ⟨(Nat.le_of_ble_eq_true rfl), (Nat.le_of_ble_eq_true rfl)⟩ ⟨(Nat.le_of_ble_eq_true rfl), (Nat.le_of_ble_eq_true rfl)⟩ dX8_passesDigit_6 (st' := [.int q2]) (σ' := q1.2) rfl rfl ?_
  refine g_if_ne (tgt := 14) X dX8_passesDigit_9 (by decide) (fun c3 => ?_) (fun c3 => ?_)
  · replace h := (if_neg c3).symm.trans h
    refine g_aload_n X dX8_passesDigit_14 rfl 0 rfl ?_
    refine g_aload_n X dX8_passesDigit_15 rfl 0 rfl ?_
    refine g_get X fl_RX8_9 dX8_passesDigit_16 kd_1 (v := .ref (be θ + 2)) rfl ?_
    refine g_aload_n X dX8_passesDigit_19 rfl 0 rfl ?_
    refine g_get X fl_RX8_19 dX8_passesDigit_20 kd_1 (v := .int (mI q1.2 1 2)) rfl ?_
    obtain ⟨g4, h⟩ := ite_some h
    refine g_iald X kd_2 ln_2 (inb_in g4) dX8_passesDigit_23 ?_
    refine g_bipush X dX8_passesDigit_24 (v := (48 : Int32)) bp_48 ?_
    refine g_isub X dX8_passesDigit_26 ?_
    refine g_putI X fl_RX8_22 dX8_passesDigit_27 kd_1 rfl rfl rfl ?_
    refine g_aload_n X dX8_passesDigit_30 rfl 0 rfl ?_
    refine g_dup X dX8_passesDigit_31 rfl ?_
    refine g_get X fl_RX8_19 dX8_passesDigit_32 kd_1 (v := .int (mI (sI q1.2 1 3 ((mI q1.2 2 (mI q1.2 1 2).toNatClampNeg) - (48 : Int32))) 1 2)) rfl ?_
    refine g_iconst X dX8_passesDigit_35 (v := (1 : Int32)) ic_1 ?_
    refine g_iadd X dX8_passesDigit_36 ?_
    refine g_putI X fl_RX8_19 dX8_passesDigit_37 kd_1 rfl rfl rfl ?_
    refine g_iconst X dX8_passesDigit_40 (v := (1 : Int32)) ic_1 ?_
    exact g_zret X hr hlk bz1 dX8_passesDigit_41 (by cases h; rfl)
  · replace h := (if_pos c3).symm.trans h
    refine g_iconst X dX8_passesDigit_12 (v := (0 : Int32)) ic_0 ?_
    exact g_zret X hr hlk bz0 dX8_passesDigit_13 (by cases h; rfl)
set_option maxHeartbeats 4000000 in
set_option maxRecDepth 20000 in
theorem c_Tape_passesDigit {θ : Th} {l : Launch} {σ : Mem}  {r : Int32 × Mem}  (h : f_Tape_passesDigit σ  = some r) : Cn θ l yX8_passesDigit cX8_passesDigit 1 (some .boolean) 1 0 0 [.ref (be θ + 1)] σ (some (.int r.1), r.2) :=
  Cn.of (by decide) (Nat.le_of_ble_eq_true rfl) (fun p e s m below meth c X hr hlk => g_Tape_passesDigit X hr hlk  h)
theorem dX2_stepReads_0 : decode cX2_stepReads 0 = .ok (.iconst (-1), 1) := by decide +kernel
theorem dX2_stepReads_1 : decode cX2_stepReads 1 = .ok (.istore_n 3, 1) := by decide +kernel
theorem dX2_stepReads_2 : decode cX2_stepReads 2 = .ok (.aload_n 1, 1) := by decide +kernel
theorem dX2_stepReads_3 : decode cX2_stepReads 3 = .ok (.invokevirtual 32, 3) := by decide +kernel
theorem dX2_stepReads_6 : decode cX2_stepReads 6 = .ok (.istore 4, 2) := by decide +kernel
theorem dX2_stepReads_8 : decode cX2_stepReads 8 = .ok (.iconst 0, 1) := by decide +kernel
theorem dX2_stepReads_9 : decode cX2_stepReads 9 = .ok (.istore 5, 2) := by decide +kernel
theorem dX2_stepReads_11 : decode cX2_stepReads 11 = .ok (.iload 5, 2) := by decide +kernel
theorem dX2_stepReads_13 : decode cX2_stepReads 13 = .ok (.getstatic 36, 3) := by decide +kernel
theorem dX2_stepReads_16 : decode cX2_stepReads 16 = .ok (.arraylength, 1) := by decide +kernel
theorem dX2_stepReads_17 : decode cX2_stepReads 17 = .ok (.if_icmp .ge 23, 3) := by decide +kernel
theorem dX2_stepReads_20 : decode cX2_stepReads 20 = .ok (.getstatic 36, 3) := by decide +kernel
theorem dX2_stepReads_23 : decode cX2_stepReads 23 = .ok (.iload 5, 2) := by decide +kernel
theorem dX2_stepReads_25 : decode cX2_stepReads 25 = .ok (.caload, 1) := by decide +kernel
theorem dX2_stepReads_26 : decode cX2_stepReads 26 = .ok (.iload 4, 2) := by decide +kernel
theorem dX2_stepReads_28 : decode cX2_stepReads 28 = .ok (.if_icmp .ne 6, 3) := by decide +kernel
theorem dX2_stepReads_31 : decode cX2_stepReads 31 = .ok (.iload 5, 2) := by decide +kernel
theorem dX2_stepReads_33 : decode cX2_stepReads 33 = .ok (.istore_n 3, 1) := by decide +kernel
theorem dX2_stepReads_34 : decode cX2_stepReads 34 = .ok (.iinc 5 1, 3) := by decide +kernel
theorem dX2_stepReads_37 : decode cX2_stepReads 37 = .ok (.goto (-26), 3) := by decide +kernel
theorem dX2_stepReads_40 : decode cX2_stepReads 40 = .ok (.iload_n 3, 1) := by decide +kernel
theorem dX2_stepReads_41 : decode cX2_stepReads 41 = .ok (.iconst (-1), 1) := by decide +kernel
theorem dX2_stepReads_42 : decode cX2_stepReads 42 = .ok (.if_icmp .ne 5, 3) := by decide +kernel
theorem dX2_stepReads_45 : decode cX2_stepReads 45 = .ok (.iconst 0, 1) := by decide +kernel
theorem dX2_stepReads_46 : decode cX2_stepReads 46 = .ok (.ireturn, 1) := by decide +kernel
theorem dX2_stepReads_47 : decode cX2_stepReads 47 = .ok (.aload_n 1, 1) := by decide +kernel
theorem dX2_stepReads_48 : decode cX2_stepReads 48 = .ok (.dup, 1) := by decide +kernel
theorem dX2_stepReads_49 : decode cX2_stepReads 49 = .ok (.getfield 19, 3) := by decide +kernel
theorem dX2_stepReads_52 : decode cX2_stepReads 52 = .ok (.iconst 1, 1) := by decide +kernel
theorem dX2_stepReads_53 : decode cX2_stepReads 53 = .ok (.iadd, 1) := by decide +kernel
theorem dX2_stepReads_54 : decode cX2_stepReads 54 = .ok (.putfield 19, 3) := by decide +kernel
theorem dX2_stepReads_57 : decode cX2_stepReads 57 = .ok (.aload_n 0, 1) := by decide +kernel
theorem dX2_stepReads_58 : decode cX2_stepReads 58 = .ok (.getfield 11, 3) := by decide +kernel
theorem dX2_stepReads_61 : decode cX2_stepReads 61 = .ok (.iload_n 2, 1) := by decide +kernel
theorem dX2_stepReads_62 : decode cX2_stepReads 62 = .ok (.iload_n 3, 1) := by decide +kernel
theorem dX2_stepReads_63 : decode cX2_stepReads 63 = .ok (.iastore, 1) := by decide +kernel
theorem dX2_stepReads_64 : decode cX2_stepReads 64 = .ok (.aload_n 0, 1) := by decide +kernel
theorem dX2_stepReads_65 : decode cX2_stepReads 65 = .ok (.getfield 11, 3) := by decide +kernel
theorem dX2_stepReads_68 : decode cX2_stepReads 68 = .ok (.iload_n 2, 1) := by decide +kernel
theorem dX2_stepReads_69 : decode cX2_stepReads 69 = .ok (.iconst 1, 1) := by decide +kernel
theorem dX2_stepReads_70 : decode cX2_stepReads 70 = .ok (.iadd, 1) := by decide +kernel
theorem dX2_stepReads_71 : decode cX2_stepReads 71 = .ok (.iconst (-1), 1) := by decide +kernel
theorem dX2_stepReads_72 : decode cX2_stepReads 72 = .ok (.iastore, 1) := by decide +kernel
theorem dX2_stepReads_73 : decode cX2_stepReads 73 = .ok (.aload_n 0, 1) := by decide +kernel
theorem dX2_stepReads_74 : decode cX2_stepReads 74 = .ok (.getfield 11, 3) := by decide +kernel
theorem dX2_stepReads_77 : decode cX2_stepReads 77 = .ok (.iload_n 2, 1) := by decide +kernel
theorem dX2_stepReads_78 : decode cX2_stepReads 78 = .ok (.iconst 2, 1) := by decide +kernel
theorem dX2_stepReads_79 : decode cX2_stepReads 79 = .ok (.iadd, 1) := by decide +kernel
theorem dX2_stepReads_80 : decode cX2_stepReads 80 = .ok (.iconst (-1), 1) := by decide +kernel
theorem dX2_stepReads_81 : decode cX2_stepReads 81 = .ok (.iastore, 1) := by decide +kernel
theorem dX2_stepReads_82 : decode cX2_stepReads 82 = .ok (.iconst 1, 1) := by decide +kernel
theorem dX2_stepReads_83 : decode cX2_stepReads 83 = .ok (.istore 5, 2) := by decide +kernel
theorem dX2_stepReads_85 : decode cX2_stepReads 85 = .ok (.iload 5, 2) := by decide +kernel
theorem dX2_stepReads_87 : decode cX2_stepReads 87 = .ok (.getstatic 40, 3) := by decide +kernel
theorem dX2_stepReads_90 : decode cX2_stepReads 90 = .ok (.iload_n 3, 1) := by decide +kernel
theorem dX2_stepReads_91 : decode cX2_stepReads 91 = .ok (.iaload, 1) := by decide +kernel
theorem dX2_stepReads_92 : decode cX2_stepReads 92 = .ok (.if_icmp .gt 31, 3) := by decide +kernel
theorem dX2_stepReads_95 : decode cX2_stepReads 95 = .ok (.aload_n 1, 1) := by decide +kernel
theorem dX2_stepReads_96 : decode cX2_stepReads 96 = .ok (.invokevirtual 43, 3) := by decide +kernel
theorem dX2_stepReads_99 : decode cX2_stepReads 99 = .ok (.ifCond .ne 5, 3) := by decide +kernel
theorem dX2_stepReads_102 : decode cX2_stepReads 102 = .ok (.iconst 0, 1) := by decide +kernel
theorem dX2_stepReads_103 : decode cX2_stepReads 103 = .ok (.ireturn, 1) := by decide +kernel
theorem dX2_stepReads_104 : decode cX2_stepReads 104 = .ok (.aload_n 0, 1) := by decide +kernel
theorem dX2_stepReads_105 : decode cX2_stepReads 105 = .ok (.getfield 11, 3) := by decide +kernel
theorem dX2_stepReads_108 : decode cX2_stepReads 108 = .ok (.iload_n 2, 1) := by decide +kernel
theorem dX2_stepReads_109 : decode cX2_stepReads 109 = .ok (.iload 5, 2) := by decide +kernel
theorem dX2_stepReads_111 : decode cX2_stepReads 111 = .ok (.iadd, 1) := by decide +kernel
theorem dX2_stepReads_112 : decode cX2_stepReads 112 = .ok (.aload_n 1, 1) := by decide +kernel
theorem dX2_stepReads_113 : decode cX2_stepReads 113 = .ok (.getfield 47, 3) := by decide +kernel
theorem dX2_stepReads_116 : decode cX2_stepReads 116 = .ok (.iastore, 1) := by decide +kernel
theorem dX2_stepReads_117 : decode cX2_stepReads 117 = .ok (.iinc 5 1, 3) := by decide +kernel
theorem dX2_stepReads_120 : decode cX2_stepReads 120 = .ok (.goto (-35), 3) := by decide +kernel
theorem dX2_stepReads_123 : decode cX2_stepReads 123 = .ok (.iconst 1, 1) := by decide +kernel
theorem dX2_stepReads_124 : decode cX2_stepReads 124 = .ok (.ireturn, 1) := by decide +kernel
def f_Day_stepReads_L11 (σ : Mem) (x0 : Nat) (x2 : Int32) (y4 : Int32) (a : Int32 × Int32) : Option ((Int32 × Int32) ⊕ (Int32)) :=
  @Prod.casesOn (Int32) (Int32) (fun _ => Option ((Int32 × Int32) ⊕ (Int32))) a fun z3 z5 =>
  if (Int32.ofNat 5) ≤ z5 then
    some (.inr z3)
  else
    if inb z5 5 then
      if (tb 5 z5.toNatClampNeg) = y4 then
        some (.inl (z5, (z5 + (1 : Int32))))
      else
        some (.inl (z3, (z5 + (1 : Int32))))
    else none
def f_Day_stepReads_L85 (x0 : Nat) (x2 : Int32) (y3 : Int32) (a : Mem × Int32) : Option ((Mem × Int32) ⊕ (Int32 × Mem)) :=
  @Prod.casesOn (Mem) (Int32) (fun _ => Option ((Mem × Int32) ⊕ (Int32 × Mem))) a fun τ z5 =>
  if inb y3 5 then
    if (tb 6 y3.toNatClampNeg) < z5 then
      some (.inr ((1 : Int32), τ))
    else
      (f_Tape_passesDigit τ).bind fun q12 =>
      if q12.1 = (0 : Int32) then
        some (.inr ((0 : Int32), q12.2))
      else
        if inb (x2 + z5) 48 then
          some (.inl ((sI q12.2 (x0 + 1) (x2 + z5).toNatClampNeg (mI q12.2 1 3)), (z5 + (1 : Int32))))
        else none
  else none
def f_Day_stepReads (σ : Mem) (x0 : Nat) (x2 : Int32) : Option (Int32 × Mem) :=
  (f_Tape_sign σ).bind fun q1 =>
  (loopF (f_Day_stepReads_L11 q1.2 x0 x2 q1.1) FU ((-1 : Int32), (0 : Int32))).bind fun w5 =>
  if w5 = (-1 : Int32) then
    some ((0 : Int32), q1.2)
  else
    if inb x2 48 then
      if inb (x2 + (1 : Int32)) 48 then
        if inb (x2 + (2 : Int32)) 48 then
          loopF (f_Day_stepReads_L85 x0 x2 w5) FU ((sI (sI (sI (sI q1.2 1 2 ((mI q1.2 1 2) + (1 : Int32))) (x0 + 1) x2.toNatClampNeg w5) (x0 + 1) (x2 + (1 : Int32)).toNatClampNeg (-1 : Int32)) (x0 + 1) (x2 + (2 : Int32)).toNatClampNeg (-1 : Int32)), (1 : Int32))
        else none
      else none
    else none
set_option maxHeartbeats 4000000 in
set_option maxRecDepth 20000 in
theorem gs_Day_stepReads_L11 (X : Cx θ p s m args c cX2_stepReads 6 RX2) (hr : meth.sig.returnType = some .boolean) (hlk : meth.locks = false)  {σ : Mem} {x0 : Nat} {x2 : Int32} {y4 : Int32} {r : Int32 × Mem} (h0 : kd x0 = 3) (z3 : Int32) (z5 : Int32) (x : (Int32 × Int32) ⊕ (Int32)) (h : f_Day_stepReads_L11 σ x0 x2 y4 (z3, z5) = some x) (hk : Sum.elim (fun a => @Prod.casesOn (Int32) (Int32) (fun _ => Prop) a fun z3 z5 => GB θ p l e 2 s m args below meth c 6 (some (.int r.1), r.2) 11 [(0, .ref (be θ + x0)), (1, .ref (be θ + 1)), (2, .int x2), (3, .int z3), (4, .int y4), (5, .int z5)] [] σ) (fun w => GB θ p l e 2 s m args below meth c 6 (some (.int r.1), r.2) 40 [(0, .ref (be θ + x0)), (1, .ref (be θ + 1)), (2, .int x2), (3, .int w)] [] σ) x) : GB θ p l e 2 s m args below meth c 6 (some (.int r.1), r.2) 11 [(0, .ref (be θ + x0)), (1, .ref (be θ + 1)), (2, .int x2), (3, .int z3), (4, .int y4), (5, .int z5)] [] σ := by
  unfold f_Day_stepReads_L11 at h
  dsimp only at h
  refine g_iload X dX2_stepReads_11 5 rfl ?_
  refine g_gets X X.2.2.1.1.2.2.2.2.2.2.2.2.2.2.2.1 fs_RX2_36 dX2_stepReads_13 ?_
  refine g_tlen X X.2.2.1.1.2.2.2.2.2.2.2.2.2.2.2.2.1 (v := Int32.ofNat 5) rfl dX2_stepReads_16 ?_
  refine g_icmp_ge (tgt := 40) X dX2_stepReads_17 (by decide) (fun c2 => ?_) (fun c2 => ?_)
  · replace h := (if_pos c2).symm.trans h
    have hk := inr_hk h hk
    exact g_sub (lv' := [(0, .ref (be θ + x0)), (1, .ref (be θ + 1)), (2, .int x2), (3, .int z3)]) [0, 1, 2, 3] rfl hk
  · replace h := (if_neg c2).symm.trans h
    refine g_gets X X.2.2.1.1.2.2.2.2.2.2.2.2.2.2.2.1 fs_RX2_36 dX2_stepReads_20 ?_
    refine g_iload X dX2_stepReads_23 5 rfl ?_
    obtain ⟨g3, h⟩ := ite_some h
    refine g_tc X X.2.2.1.1.2.2.2.2.2.2.2.2.2.2.2.2.1 (inb_in g3) dX2_stepReads_25 ?_
    refine g_iload X dX2_stepReads_26 4 rfl ?_
    refine g_icmp_ne (tgt := 34) X dX2_stepReads_28 (by decide) (fun c4 => ?_) (fun c4 => ?_)
    · replace h := (if_neg c4).symm.trans h
      refine g_iinc X dX2_stepReads_34 (kq := 5) rfl (congrArg (HAdd.hAdd _) ic_1) (by decide) (lv' := [(5, .int (z5 + (1 : Int32))), (0, .ref (be θ + x0)), (1, .ref (be θ + 1)), (2, .int x2), (3, .int z3), (4, .int y4)]) rfl ?_
      refine g_goto (tgt := 11) X dX2_stepReads_37 (by decide) ?_
      have hk := inl_hk h hk
      exact g_sub (lv' := [(0, .ref (be θ + x0)), (1, .ref (be θ + 1)), (2, .int x2), (3, .int z3), (4, .int y4), (5, .int (z5 + (1 : Int32)))]) [1, 2, 3, 4, 5, 0] rfl hk
    · replace h := (if_pos c4).symm.trans h
      refine g_iload X dX2_stepReads_31 5 rfl ?_
      refine g_istore_n X dX2_stepReads_33 rfl (by decide) (lv' := [(3, .int z5), (0, .ref (be θ + x0)), (1, .ref (be θ + 1)), (2, .int x2), (4, .int y4), (5, .int z5)]) rfl ?_
      refine g_iinc X dX2_stepReads_34 (kq := 5) rfl (congrArg (HAdd.hAdd _) ic_1) (by decide) (lv' := [(5, .int (z5 + (1 : Int32))), (3, .int z5), (0, .ref (be θ + x0)), (1, .ref (be θ + 1)), (2, .int x2), (4, .int y4)]) rfl ?_
      refine g_goto (tgt := 11) X dX2_stepReads_37 (by decide) ?_
      have hk := inl_hk h hk
      exact g_sub (lv' := [(0, .ref (be θ + x0)), (1, .ref (be θ + 1)), (2, .int x2), (3, .int z5), (4, .int y4), (5, .int (z5 + (1 : Int32)))]) [2, 3, 4, 1, 5, 0] rfl hk
set_option maxHeartbeats 4000000 in
set_option maxRecDepth 20000 in
theorem gl_Day_stepReads_L11 (X : Cx θ p s m args c cX2_stepReads 6 RX2) (hr : meth.sig.returnType = some .boolean) (hlk : meth.locks = false)  {σ : Mem} {x0 : Nat} {x2 : Int32} {y4 : Int32} {r : Int32 × Mem} (h0 : kd x0 = 3) (n : Nat) (a : Int32 × Int32) (b : Int32) (h : loopF (f_Day_stepReads_L11 σ x0 x2 y4) n a = some b) (hk : (fun w => GB θ p l e 2 s m args below meth c 6 (some (.int r.1), r.2) 40 [(0, .ref (be θ + x0)), (1, .ref (be θ + 1)), (2, .int x2), (3, .int w)] [] σ) b) : (fun a => @Prod.casesOn (Int32) (Int32) (fun _ => Prop) a fun z3 z5 => GB θ p l e 2 s m args below meth c 6 (some (.int r.1), r.2) 11 [(0, .ref (be θ + x0)), (1, .ref (be θ + 1)), (2, .int x2), (3, .int z3), (4, .int y4), (5, .int z5)] [] σ) a :=
  loopF_by (P := (fun a => @Prod.casesOn (Int32) (Int32) (fun _ => Prop) a fun z3 z5 => GB θ p l e 2 s m args below meth c 6 (some (.int r.1), r.2) 11 [(0, .ref (be θ + x0)), (1, .ref (be θ + 1)), (2, .int x2), (3, .int z3), (4, .int y4), (5, .int z5)] [] σ)) (K := (fun w => GB θ p l e 2 s m args below meth c 6 (some (.int r.1), r.2) 40 [(0, .ref (be θ + x0)), (1, .ref (be θ + 1)), (2, .int x2), (3, .int w)] [] σ)) (fun a x h hk => by obtain ⟨z3, z5⟩ := a; exact gs_Day_stepReads_L11 X hr hlk  h0 z3 z5 x h hk) n a b h hk
set_option maxHeartbeats 4000000 in
set_option maxRecDepth 20000 in
theorem gs_Day_stepReads_L85 (X : Cx θ p s m args c cX2_stepReads 6 RX2) (hr : meth.sig.returnType = some .boolean) (hlk : meth.locks = false)  {x0 : Nat} {x2 : Int32} {y3 : Int32} {r : Int32 × Mem} (h0 : kd x0 = 3) (τ : Mem) (z5 : Int32) (x : (Mem × Int32) ⊕ (Int32 × Mem)) (h : f_Day_stepReads_L85 x0 x2 y3 (τ, z5) = some x) (hk : Sum.elim (fun a => @Prod.casesOn (Mem) (Int32) (fun _ => Prop) a fun τ z5 => GB θ p l e 2 s m args below meth c 6 (some (.int r.1), r.2) 85 [(0, .ref (be θ + x0)), (1, .ref (be θ + 1)), (2, .int x2), (3, .int y3), (5, .int z5)] [] τ) (fun b => b = r) x) : GB θ p l e 2 s m args below meth c 6 (some (.int r.1), r.2) 85 [(0, .ref (be θ + x0)), (1, .ref (be θ + 1)), (2, .int x2), (3, .int y3), (5, .int z5)] [] τ := by
  unfold f_Day_stepReads_L85 at h
  dsimp only at h
  refine g_iload X dX2_stepReads_85 4 rfl ?_
  refine g_gets X X.2.2.1.1.2.2.2.2.2.2.2.2.2.2.2.2.2.1 fs_RX2_40 dX2_stepReads_87 ?_
  refine g_iload_n X dX2_stepReads_90 rfl 3 rfl ?_
  obtain ⟨g10, h⟩ := ite_some h
  refine g_ti X X.2.2.1.1.2.2.2.2.2.2.2.2.2.2.2.2.2.2 (inb_in g10) dX2_stepReads_91 ?_
  refine g_icmp_gt (tgt := 123) X dX2_stepReads_92 (by decide) (fun c11 => ?_) (fun c11 => ?_)
  · replace h := (if_pos c11).symm.trans h
    refine g_iconst X dX2_stepReads_123 (v := (1 : Int32)) ic_1 ?_
    have hk := inr_hk h hk
    have hk : ((1 : Int32), τ) = r := hk
    subst hk
    exact g_zret X hr hlk bz1 dX2_stepReads_124 rfl
  · replace h := (if_neg c11).symm.trans h
    refine g_aload_n X dX2_stepReads_95 rfl 1 rfl ?_
    obtain ⟨q12, hq12, h⟩ := Option.bind_eq_some_iff.mp h
    refine g_cV X (c_Tape_passesDigit  hq12) lk_RX2_43 my_X8_passesDigit (a := 1) (ci := 8) kd_1 (by decide) rfl (As := []) (rest := []) rfl rfl (Nat.le_of_ble_eq_true rfl) ⟨(Nat.le_of_ble_eq_true rfl), (Nat.le_of_ble_eq_true rfl)⟩ ⟨(Nat.le_of_ble_eq_true rfl), (Nat.le_of_ble_eq_true rfl)⟩ dX2_stepReads_96 (st' := [.int q12.1]) (σ' := q12.2) rfl rfl ?_
    refine g_if_ne (tgt := 104) X dX2_stepReads_99 (by decide) (fun c13 => ?_) (fun c13 => ?_)
    · replace h := (if_neg c13).symm.trans h
      refine g_aload_n X dX2_stepReads_104 rfl 0 rfl ?_
      refine g_get X fl_RX2_11 dX2_stepReads_105 h0 (v := .ref (be θ + (x0 + 1))) rfl ?_
      refine g_iload_n X dX2_stepReads_108 rfl 2 rfl ?_
      refine g_iload X dX2_stepReads_109 4 rfl ?_
      refine g_iadd X dX2_stepReads_111 ?_
      refine g_aload_n X dX2_stepReads_112 rfl 1 rfl ?_
      refine g_get X fl_RX2_47 dX2_stepReads_113 kd_1 (v := .int (mI q12.2 1 3)) rfl ?_
      obtain ⟨g14, h⟩ := ite_some h
      refine g_iast X (lk2_0 h0).1 (lk2_0 h0).2 (inb_in g14) dX2_stepReads_116 ?_
      refine g_iinc X dX2_stepReads_117 (kq := 4) rfl (congrArg (HAdd.hAdd _) ic_1) (by decide) (lv' := [(5, .int (z5 + (1 : Int32))), (0, .ref (be θ + x0)), (1, .ref (be θ + 1)), (2, .int x2), (3, .int y3)]) rfl ?_
      refine g_goto (tgt := 85) X dX2_stepReads_120 (by decide) ?_
      have hk := inl_hk h hk
      exact g_sub (lv' := [(0, .ref (be θ + x0)), (1, .ref (be θ + 1)), (2, .int x2), (3, .int y3), (5, .int (z5 + (1 : Int32)))]) [1, 2, 3, 4, 0] rfl hk
    · replace h := (if_pos c13).symm.trans h
      refine g_iconst X dX2_stepReads_102 (v := (0 : Int32)) ic_0 ?_
      have hk := inr_hk h hk
      have hk : ((0 : Int32), q12.2) = r := hk
      subst hk
      exact g_zret X hr hlk bz0 dX2_stepReads_103 rfl
set_option maxHeartbeats 4000000 in
set_option maxRecDepth 20000 in
theorem gl_Day_stepReads_L85 (X : Cx θ p s m args c cX2_stepReads 6 RX2) (hr : meth.sig.returnType = some .boolean) (hlk : meth.locks = false)  {x0 : Nat} {x2 : Int32} {y3 : Int32} {r : Int32 × Mem} (h0 : kd x0 = 3) (n : Nat) (a : Mem × Int32) (b : Int32 × Mem) (h : loopF (f_Day_stepReads_L85 x0 x2 y3) n a = some b) (hk : (fun b => b = r) b) : (fun a => @Prod.casesOn (Mem) (Int32) (fun _ => Prop) a fun τ z5 => GB θ p l e 2 s m args below meth c 6 (some (.int r.1), r.2) 85 [(0, .ref (be θ + x0)), (1, .ref (be θ + 1)), (2, .int x2), (3, .int y3), (5, .int z5)] [] τ) a :=
  loopF_by (P := (fun a => @Prod.casesOn (Mem) (Int32) (fun _ => Prop) a fun τ z5 => GB θ p l e 2 s m args below meth c 6 (some (.int r.1), r.2) 85 [(0, .ref (be θ + x0)), (1, .ref (be θ + 1)), (2, .int x2), (3, .int y3), (5, .int z5)] [] τ)) (K := (fun b => b = r)) (fun a x h hk => by obtain ⟨τ, z5⟩ := a; exact gs_Day_stepReads_L85 X hr hlk  h0 τ z5 x h hk) n a b h hk
set_option maxHeartbeats 4000000 in
set_option maxRecDepth 20000 in
theorem g_Day_stepReads (X : Cx θ p s m args c cX2_stepReads 6 RX2) (hr : meth.sig.returnType = some .boolean) (hlk : meth.locks = false)  {σ : Mem} {x0 : Nat} {x2 : Int32} {r : Int32 × Mem} (h0 : kd x0 = 3) (h : f_Day_stepReads σ x0 x2 = some r) : GB θ p l e 2 s m args below meth c 6 (some (.int r.1), r.2) 0 [(0, .ref (be θ + x0)), (1, .ref (be θ + 1)), (2, .int x2)] [] σ := by
  unfold f_Day_stepReads at h
  refine g_iconst X dX2_stepReads_0 (v := (-1 : Int32)) ic_m1 ?_
  refine g_istore_n X dX2_stepReads_1 rfl (by decide) (lv' := [(3, .int (-1 : Int32)), (0, .ref (be θ + x0)), (1, .ref (be θ + 1)), (2, .int x2)]) rfl ?_
  refine g_aload_n X dX2_stepReads_2 rfl 2 rfl ?_
  obtain ⟨q1, hq1, h⟩ := Option.bind_eq_some_iff.mp h
  refine g_cV X (c_Tape_sign  hq1) lk_RX2_32 my_X8_sign (a := 1) (ci := 8) kd_1 (by decide) rfl (As := []) (rest := []) rfl rfl (Nat.le_of_ble_eq_true rfl) ⟨(Nat.le_of_ble_eq_true rfl), (Nat.le_of_ble_eq_true rfl)⟩ ⟨(Nat.le_of_ble_eq_true rfl), (Nat.le_of_ble_eq_true rfl)⟩ dX2_stepReads_3 (st' := [.int q1.1]) (σ' := q1.2) rfl rfl ?_
  refine g_istore X dX2_stepReads_6 (by decide) (lv' := [(4, .int q1.1), (3, .int (-1 : Int32)), (0, .ref (be θ + x0)), (1, .ref (be θ + 1)), (2, .int x2)]) rfl ?_
  refine g_iconst X dX2_stepReads_8 (v := (0 : Int32)) ic_0 ?_
  refine g_istore X dX2_stepReads_9 (by decide) (lv' := [(5, .int (0 : Int32)), (4, .int q1.1), (3, .int (-1 : Int32)), (0, .ref (be θ + x0)), (1, .ref (be θ + 1)), (2, .int x2)]) rfl ?_
  obtain ⟨w5, hq5, h⟩ := Option.bind_eq_some_iff.mp h
  refine g_sub (lv' := [(0, .ref (be θ + x0)), (1, .ref (be θ + 1)), (2, .int x2), (3, .int (-1 : Int32)), (4, .int q1.1), (5, .int (0 : Int32))]) [3, 4, 5, 2, 1, 0] rfl (gl_Day_stepReads_L11 X hr hlk  h0  FU _ w5 hq5 ?_)
  refine g_iload_n X dX2_stepReads_40 rfl 3 rfl ?_
  refine g_iconst X dX2_stepReads_41 (v := (-1 : Int32)) ic_m1 ?_
  refine g_icmp_ne (tgt := 47) X dX2_stepReads_42 (by decide) (fun c6 => ?_) (fun c6 => ?_)
  · replace h := (if_neg c6).symm.trans h
    refine g_aload_n X dX2_stepReads_47 rfl 1 rfl ?_
    refine g_dup X dX2_stepReads_48 rfl ?_
    refine g_get X fl_RX2_19 dX2_stepReads_49 kd_1 (v := .int (mI q1.2 1 2)) rfl ?_
    refine g_iconst X dX2_stepReads_52 (v := (1 : Int32)) ic_1 ?_
    refine g_iadd X dX2_stepReads_53 ?_
    refine g_putI X fl_RX2_19 dX2_stepReads_54 kd_1 rfl rfl rfl ?_
    refine g_aload_n X dX2_stepReads_57 rfl 0 rfl ?_
    refine g_get X fl_RX2_11 dX2_stepReads_58 h0 (v := .ref (be θ + (x0 + 1))) rfl ?_
    refine g_iload_n X dX2_stepReads_61 rfl 2 rfl ?_
    refine g_iload_n X dX2_stepReads_62 rfl 3 rfl ?_
    obtain ⟨g7, h⟩ := ite_some h
    refine g_iast X (lk2_0 h0).1 (lk2_0 h0).2 (inb_in g7) dX2_stepReads_63 ?_
    refine g_aload_n X dX2_stepReads_64 rfl 0 rfl ?_
    refine g_get X fl_RX2_11 dX2_stepReads_65 h0 (v := .ref (be θ + (x0 + 1))) rfl ?_
    refine g_iload_n X dX2_stepReads_68 rfl 2 rfl ?_
    refine g_iconst X dX2_stepReads_69 (v := (1 : Int32)) ic_1 ?_
    refine g_iadd X dX2_stepReads_70 ?_
    refine g_iconst X dX2_stepReads_71 (v := (-1 : Int32)) ic_m1 ?_
    obtain ⟨g8, h⟩ := ite_some h
    refine g_iast X (lk2_0 h0).1 (lk2_0 h0).2 (inb_in g8) dX2_stepReads_72 ?_
    refine g_aload_n X dX2_stepReads_73 rfl 0 rfl ?_
    refine g_get X fl_RX2_11 dX2_stepReads_74 h0 (v := .ref (be θ + (x0 + 1))) rfl ?_
    refine g_iload_n X dX2_stepReads_77 rfl 2 rfl ?_
    refine g_iconst X dX2_stepReads_78 (v := (2 : Int32)) ic_2 ?_
    refine g_iadd X dX2_stepReads_79 ?_
    refine g_iconst X dX2_stepReads_80 (v := (-1 : Int32)) ic_m1 ?_
    obtain ⟨g9, h⟩ := ite_some h
    refine g_iast X (lk2_0 h0).1 (lk2_0 h0).2 (inb_in g9) dX2_stepReads_81 ?_
    refine g_iconst X dX2_stepReads_82 (v := (1 : Int32)) ic_1 ?_
    refine g_istore X dX2_stepReads_83 (by decide) (lv' := [(5, .int (1 : Int32)), (0, .ref (be θ + x0)), (1, .ref (be θ + 1)), (2, .int x2), (3, .int w5)]) rfl ?_
    exact g_sub (lv' := [(0, .ref (be θ + x0)), (1, .ref (be θ + 1)), (2, .int x2), (3, .int w5), (5, .int (1 : Int32))]) [1, 2, 3, 4, 0] rfl (gl_Day_stepReads_L85 X hr hlk  h0  FU _ _ h rfl)
  · replace h := (if_pos c6).symm.trans h
    refine g_iconst X dX2_stepReads_45 (v := (0 : Int32)) ic_0 ?_
    exact g_zret X hr hlk bz0 dX2_stepReads_46 (by cases h; rfl)
set_option maxHeartbeats 4000000 in
set_option maxRecDepth 20000 in
theorem c_Day_stepReads {θ : Th} {l : Launch} {σ : Mem} {x0 : Nat} {x2 : Int32} {r : Int32 × Mem} (h0 : kd x0 = 3) (h : f_Day_stepReads σ x0 x2 = some r) : Cn θ l yX2_stepReads cX2_stepReads 6 (some .boolean) 2 0 0 [.ref (be θ + x0), .ref (be θ + 1), .int x2] σ (some (.int r.1), r.2) :=
  Cn.of (by decide) (Nat.le_of_ble_eq_true rfl) (fun p e s m below meth c X hr hlk => g_Day_stepReads X hr hlk h0 h)
end Z9
