section Z15
variable {θ : Th} {p : Program} {l : Launch} {e : Env} {s : State} {m : MethodId} {args : Array Value} {below : List Frame} {meth : Method} {c : Code}
theorem dX11_text_0 : decode cX11_text 0 = .ok (.aload_n 0, 1) := by decide +kernel
theorem dX11_text_1 : decode cX11_text 1 = .ok (.iconst 0, 1) := by decide +kernel
theorem dX11_text_2 : decode cX11_text 2 = .ok (.putfield 112, 3) := by decide +kernel
theorem dX11_text_5 : decode cX11_text 5 = .ok (.iload_n 1, 1) := by decide +kernel
theorem dX11_text_6 : decode cX11_text 6 = .ok (.i2l, 1) := by decide +kernel
theorem dX11_text_7 : decode cX11_text 7 = .ok (.lconst 0, 1) := by decide +kernel
theorem dX11_text_8 : decode cX11_text 8 = .ok (.ldc2_w 288, 3) := by decide +kernel
theorem dX11_text_11 : decode cX11_text 11 = .ok (.invokestatic 233, 3) := by decide +kernel
theorem dX11_text_14 : decode cX11_text 14 = .ok (.ifCond .eq 38, 3) := by decide +kernel
theorem dX11_text_17 : decode cX11_text 17 = .ok (.iload_n 1, 1) := by decide +kernel
theorem dX11_text_18 : decode cX11_text 18 = .ok (.iconst 1, 1) := by decide +kernel
theorem dX11_text_19 : decode cX11_text 19 = .ok (.if_icmp .ne 11, 3) := by decide +kernel
theorem dX11_text_22 : decode cX11_text 22 = .ok (.aload_n 0, 1) := by decide +kernel
theorem dX11_text_23 : decode cX11_text 23 = .ok (.getfield 299, 3) := by decide +kernel
theorem dX11_text_26 : decode cX11_text 26 = .ok (.iconst 4, 1) := by decide +kernel
theorem dX11_text_27 : decode cX11_text 27 = .ok (.if_icmp .eq 25, 3) := by decide +kernel
theorem dX11_text_30 : decode cX11_text 30 = .ok (.iload_n 1, 1) := by decide +kernel
theorem dX11_text_31 : decode cX11_text 31 = .ok (.iconst 2, 1) := by decide +kernel
theorem dX11_text_32 : decode cX11_text 32 = .ok (.if_icmp .ne 11, 3) := by decide +kernel
theorem dX11_text_35 : decode cX11_text 35 = .ok (.aload_n 0, 1) := by decide +kernel
theorem dX11_text_36 : decode cX11_text 36 = .ok (.getfield 302, 3) := by decide +kernel
theorem dX11_text_39 : decode cX11_text 39 = .ok (.iconst 4, 1) := by decide +kernel
theorem dX11_text_40 : decode cX11_text 40 = .ok (.if_icmp .eq 12, 3) := by decide +kernel
theorem dX11_text_43 : decode cX11_text 43 = .ok (.aload_n 0, 1) := by decide +kernel
theorem dX11_text_44 : decode cX11_text 44 = .ok (.iload_n 1, 1) := by decide +kernel
theorem dX11_text_45 : decode cX11_text 45 = .ok (.invokevirtual 305, 3) := by decide +kernel
theorem dX11_text_48 : decode cX11_text 48 = .ok (.iconst (-1), 1) := by decide +kernel
theorem dX11_text_49 : decode cX11_text 49 = .ok (.if_icmp .eq 5, 3) := by decide +kernel
theorem dX11_text_52 : decode cX11_text 52 = .ok (.iconst (-1), 1) := by decide +kernel
theorem dX11_text_53 : decode cX11_text 53 = .ok (.ireturn, 1) := by decide +kernel
theorem dX11_text_54 : decode cX11_text 54 = .ok (.aload_n 0, 1) := by decide +kernel
theorem dX11_text_55 : decode cX11_text 55 = .ok (.getfield 125, 3) := by decide +kernel
theorem dX11_text_58 : decode cX11_text 58 = .ok (.istore_n 2, 1) := by decide +kernel
theorem dX11_text_59 : decode cX11_text 59 = .ok (.aload_n 0, 1) := by decide +kernel
theorem dX11_text_60 : decode cX11_text 60 = .ok (.iconst 0, 1) := by decide +kernel
theorem dX11_text_61 : decode cX11_text 61 = .ok (.putfield 125, 3) := by decide +kernel
theorem dX11_text_64 : decode cX11_text 64 = .ok (.iload_n 1, 1) := by decide +kernel
theorem dX11_text_65 : decode cX11_text 65 = .ok (.iconst 1, 1) := by decide +kernel
theorem dX11_text_66 : decode cX11_text 66 = .ok (.if_icmp .ne 64, 3) := by decide +kernel
theorem dX11_text_69 : decode cX11_text 69 = .ok (.iconst 0, 1) := by decide +kernel
theorem dX11_text_70 : decode cX11_text 70 = .ok (.istore_n 3, 1) := by decide +kernel
theorem dX11_text_71 : decode cX11_text 71 = .ok (.iload_n 3, 1) := by decide +kernel
theorem dX11_text_72 : decode cX11_text 72 = .ok (.iload_n 2, 1) := by decide +kernel
theorem dX11_text_73 : decode cX11_text 73 = .ok (.if_icmp .ge 30, 3) := by decide +kernel
theorem dX11_text_76 : decode cX11_text 76 = .ok (.aload_n 0, 1) := by decide +kernel
theorem dX11_text_77 : decode cX11_text 77 = .ok (.getfield 13, 3) := by decide +kernel
theorem dX11_text_80 : decode cX11_text 80 = .ok (.sipush 240, 3) := by decide +kernel
theorem dX11_text_83 : decode cX11_text 83 = .ok (.aload_n 0, 1) := by decide +kernel
theorem dX11_text_84 : decode cX11_text 84 = .ok (.getfield 299, 3) := by decide +kernel
theorem dX11_text_87 : decode cX11_text 87 = .ok (.imul, 1) := by decide +kernel
theorem dX11_text_88 : decode cX11_text 88 = .ok (.iload_n 3, 1) := by decide +kernel
theorem dX11_text_89 : decode cX11_text 89 = .ok (.iadd, 1) := by decide +kernel
theorem dX11_text_90 : decode cX11_text 90 = .ok (.aload_n 0, 1) := by decide +kernel
theorem dX11_text_91 : decode cX11_text 91 = .ok (.getfield 9, 3) := by decide +kernel
theorem dX11_text_94 : decode cX11_text 94 = .ok (.iload_n 3, 1) := by decide +kernel
theorem dX11_text_95 : decode cX11_text 95 = .ok (.baload, 1) := by decide +kernel
theorem dX11_text_96 : decode cX11_text 96 = .ok (.bastore, 1) := by decide +kernel
theorem dX11_text_97 : decode cX11_text 97 = .ok (.iinc 3 1, 3) := by decide +kernel
theorem dX11_text_100 : decode cX11_text 100 = .ok (.goto (-29), 3) := by decide +kernel
theorem dX11_text_103 : decode cX11_text 103 = .ok (.aload_n 0, 1) := by decide +kernel
theorem dX11_text_104 : decode cX11_text 104 = .ok (.getfield 16, 3) := by decide +kernel
theorem dX11_text_107 : decode cX11_text 107 = .ok (.aload_n 0, 1) := by decide +kernel
theorem dX11_text_108 : decode cX11_text 108 = .ok (.getfield 299, 3) := by decide +kernel
theorem dX11_text_111 : decode cX11_text 111 = .ok (.iload_n 2, 1) := by decide +kernel
theorem dX11_text_112 : decode cX11_text 112 = .ok (.iastore, 1) := by decide +kernel
theorem dX11_text_113 : decode cX11_text 113 = .ok (.aload_n 0, 1) := by decide +kernel
theorem dX11_text_114 : decode cX11_text 114 = .ok (.dup, 1) := by decide +kernel
theorem dX11_text_115 : decode cX11_text 115 = .ok (.getfield 299, 3) := by decide +kernel
theorem dX11_text_118 : decode cX11_text 118 = .ok (.iconst 1, 1) := by decide +kernel
theorem dX11_text_119 : decode cX11_text 119 = .ok (.iadd, 1) := by decide +kernel
theorem dX11_text_120 : decode cX11_text 120 = .ok (.putfield 299, 3) := by decide +kernel
theorem dX11_text_123 : decode cX11_text 123 = .ok (.aload_n 0, 1) := by decide +kernel
theorem dX11_text_124 : decode cX11_text 124 = .ok (.getfield 299, 3) := by decide +kernel
theorem dX11_text_127 : decode cX11_text 127 = .ok (.iconst 1, 1) := by decide +kernel
theorem dX11_text_128 : decode cX11_text 128 = .ok (.isub, 1) := by decide +kernel
theorem dX11_text_129 : decode cX11_text 129 = .ok (.ireturn, 1) := by decide +kernel
theorem dX11_text_130 : decode cX11_text 130 = .ok (.iload_n 1, 1) := by decide +kernel
theorem dX11_text_131 : decode cX11_text 131 = .ok (.iconst 2, 1) := by decide +kernel
theorem dX11_text_132 : decode cX11_text 132 = .ok (.if_icmp .ne 73, 3) := by decide +kernel
theorem dX11_text_135 : decode cX11_text 135 = .ok (.iconst 0, 1) := by decide +kernel
theorem dX11_text_136 : decode cX11_text 136 = .ok (.istore_n 3, 1) := by decide +kernel
theorem dX11_text_137 : decode cX11_text 137 = .ok (.iload_n 3, 1) := by decide +kernel
theorem dX11_text_138 : decode cX11_text 138 = .ok (.bipush 48, 2) := by decide +kernel
theorem dX11_text_140 : decode cX11_text 140 = .ok (.if_icmp .ge 33, 3) := by decide +kernel
theorem dX11_text_143 : decode cX11_text 143 = .ok (.aload_n 0, 1) := by decide +kernel
theorem dX11_text_144 : decode cX11_text 144 = .ok (.getfield 55, 3) := by decide +kernel
theorem dX11_text_147 : decode cX11_text 147 = .ok (.bipush 48, 2) := by decide +kernel
theorem dX11_text_149 : decode cX11_text 149 = .ok (.aload_n 0, 1) := by decide +kernel
theorem dX11_text_150 : decode cX11_text 150 = .ok (.getfield 302, 3) := by decide +kernel
theorem dX11_text_153 : decode cX11_text 153 = .ok (.imul, 1) := by decide +kernel
theorem dX11_text_154 : decode cX11_text 154 = .ok (.iload_n 3, 1) := by decide +kernel
theorem dX11_text_155 : decode cX11_text 155 = .ok (.iadd, 1) := by decide +kernel
theorem dX11_text_156 : decode cX11_text 156 = .ok (.aload_n 0, 1) := by decide +kernel
theorem dX11_text_157 : decode cX11_text 157 = .ok (.getfield 55, 3) := by decide +kernel
theorem dX11_text_160 : decode cX11_text 160 = .ok (.sipush 192, 3) := by decide +kernel
theorem dX11_text_163 : decode cX11_text 163 = .ok (.iload_n 3, 1) := by decide +kernel
theorem dX11_text_164 : decode cX11_text 164 = .ok (.iadd, 1) := by decide +kernel
theorem dX11_text_165 : decode cX11_text 165 = .ok (.iaload, 1) := by decide +kernel
theorem dX11_text_166 : decode cX11_text 166 = .ok (.iastore, 1) := by decide +kernel
theorem dX11_text_167 : decode cX11_text 167 = .ok (.iinc 3 1, 3) := by decide +kernel
theorem dX11_text_170 : decode cX11_text 170 = .ok (.goto (-33), 3) := by decide +kernel
theorem dX11_text_173 : decode cX11_text 173 = .ok (.aload_n 0, 1) := by decide +kernel
theorem dX11_text_174 : decode cX11_text 174 = .ok (.getfield 58, 3) := by decide +kernel
theorem dX11_text_177 : decode cX11_text 177 = .ok (.aload_n 0, 1) := by decide +kernel
theorem dX11_text_178 : decode cX11_text 178 = .ok (.getfield 302, 3) := by decide +kernel
theorem dX11_text_181 : decode cX11_text 181 = .ok (.aload_n 0, 1) := by decide +kernel
theorem dX11_text_182 : decode cX11_text 182 = .ok (.getfield 58, 3) := by decide +kernel
theorem dX11_text_185 : decode cX11_text 185 = .ok (.iconst 4, 1) := by decide +kernel
theorem dX11_text_186 : decode cX11_text 186 = .ok (.iaload, 1) := by decide +kernel
theorem dX11_text_187 : decode cX11_text 187 = .ok (.iastore, 1) := by decide +kernel
theorem dX11_text_188 : decode cX11_text 188 = .ok (.aload_n 0, 1) := by decide +kernel
theorem dX11_text_189 : decode cX11_text 189 = .ok (.dup, 1) := by decide +kernel
theorem dX11_text_190 : decode cX11_text 190 = .ok (.getfield 302, 3) := by decide +kernel
theorem dX11_text_193 : decode cX11_text 193 = .ok (.iconst 1, 1) := by decide +kernel
theorem dX11_text_194 : decode cX11_text 194 = .ok (.iadd, 1) := by decide +kernel
theorem dX11_text_195 : decode cX11_text 195 = .ok (.putfield 302, 3) := by decide +kernel
theorem dX11_text_198 : decode cX11_text 198 = .ok (.aload_n 0, 1) := by decide +kernel
theorem dX11_text_199 : decode cX11_text 199 = .ok (.getfield 302, 3) := by decide +kernel
theorem dX11_text_202 : decode cX11_text 202 = .ok (.iconst 1, 1) := by decide +kernel
theorem dX11_text_203 : decode cX11_text 203 = .ok (.isub, 1) := by decide +kernel
theorem dX11_text_204 : decode cX11_text 204 = .ok (.ireturn, 1) := by decide +kernel
theorem dX11_text_205 : decode cX11_text 205 = .ok (.aload_n 0, 1) := by decide +kernel
theorem dX11_text_206 : decode cX11_text 206 = .ok (.aload_n 0, 1) := by decide +kernel
theorem dX11_text_207 : decode cX11_text 207 = .ok (.getfield 261, 3) := by decide +kernel
theorem dX11_text_210 : decode cX11_text 210 = .ok (.putfield 307, 3) := by decide +kernel
theorem dX11_text_213 : decode cX11_text 213 = .ok (.aload_n 0, 1) := by decide +kernel
theorem dX11_text_214 : decode cX11_text 214 = .ok (.aload_n 0, 1) := by decide +kernel
theorem dX11_text_215 : decode cX11_text 215 = .ok (.getfield 264, 3) := by decide +kernel
theorem dX11_text_218 : decode cX11_text 218 = .ok (.putfield 310, 3) := by decide +kernel
theorem dX11_text_221 : decode cX11_text 221 = .ok (.iconst 0, 1) := by decide +kernel
theorem dX11_text_222 : decode cX11_text 222 = .ok (.istore_n 3, 1) := by decide +kernel
theorem dX11_text_223 : decode cX11_text 223 = .ok (.iload_n 3, 1) := by decide +kernel
theorem dX11_text_224 : decode cX11_text 224 = .ok (.iconst 4, 1) := by decide +kernel
theorem dX11_text_225 : decode cX11_text 225 = .ok (.if_icmp .ge 21, 3) := by decide +kernel
theorem dX11_text_228 : decode cX11_text 228 = .ok (.aload_n 0, 1) := by decide +kernel
theorem dX11_text_229 : decode cX11_text 229 = .ok (.getfield 37, 3) := by decide +kernel
theorem dX11_text_232 : decode cX11_text 232 = .ok (.iload_n 3, 1) := by decide +kernel
theorem dX11_text_233 : decode cX11_text 233 = .ok (.aload_n 0, 1) := by decide +kernel
theorem dX11_text_234 : decode cX11_text 234 = .ok (.getfield 40, 3) := by decide +kernel
theorem dX11_text_237 : decode cX11_text 237 = .ok (.iload_n 3, 1) := by decide +kernel
theorem dX11_text_238 : decode cX11_text 238 = .ok (.iaload, 1) := by decide +kernel
theorem dX11_text_239 : decode cX11_text 239 = .ok (.iastore, 1) := by decide +kernel
theorem dX11_text_240 : decode cX11_text 240 = .ok (.iinc 3 1, 3) := by decide +kernel
theorem dX11_text_243 : decode cX11_text 243 = .ok (.goto (-20), 3) := by decide +kernel
theorem dX11_text_246 : decode cX11_text 246 = .ok (.iconst 0, 1) := by decide +kernel
theorem dX11_text_247 : decode cX11_text 247 = .ok (.istore_n 3, 1) := by decide +kernel
theorem dX11_text_248 : decode cX11_text 248 = .ok (.iload_n 3, 1) := by decide +kernel
theorem dX11_text_249 : decode cX11_text 249 = .ok (.bipush 24, 2) := by decide +kernel
theorem dX11_text_251 : decode cX11_text 251 = .ok (.if_icmp .ge 21, 3) := by decide +kernel
theorem dX11_text_254 : decode cX11_text 254 = .ok (.aload_n 0, 1) := by decide +kernel
theorem dX11_text_255 : decode cX11_text 255 = .ok (.getfield 43, 3) := by decide +kernel
theorem dX11_text_258 : decode cX11_text 258 = .ok (.iload_n 3, 1) := by decide +kernel
theorem dX11_text_259 : decode cX11_text 259 = .ok (.aload_n 0, 1) := by decide +kernel
theorem dX11_text_260 : decode cX11_text 260 = .ok (.getfield 46, 3) := by decide +kernel
theorem dX11_text_263 : decode cX11_text 263 = .ok (.iload_n 3, 1) := by decide +kernel
theorem dX11_text_264 : decode cX11_text 264 = .ok (.iaload, 1) := by decide +kernel
theorem dX11_text_265 : decode cX11_text 265 = .ok (.iastore, 1) := by decide +kernel
theorem dX11_text_266 : decode cX11_text 266 = .ok (.iinc 3 1, 3) := by decide +kernel
theorem dX11_text_269 : decode cX11_text 269 = .ok (.goto (-21), 3) := by decide +kernel
theorem dX11_text_272 : decode cX11_text 272 = .ok (.iconst 0, 1) := by decide +kernel
theorem dX11_text_273 : decode cX11_text 273 = .ok (.istore_n 3, 1) := by decide +kernel
theorem dX11_text_274 : decode cX11_text 274 = .ok (.iload_n 3, 1) := by decide +kernel
theorem dX11_text_275 : decode cX11_text 275 = .ok (.bipush 24, 2) := by decide +kernel
theorem dX11_text_277 : decode cX11_text 277 = .ok (.if_icmp .ge 21, 3) := by decide +kernel
theorem dX11_text_280 : decode cX11_text 280 = .ok (.aload_n 0, 1) := by decide +kernel
theorem dX11_text_281 : decode cX11_text 281 = .ok (.getfield 49, 3) := by decide +kernel
theorem dX11_text_284 : decode cX11_text 284 = .ok (.iload_n 3, 1) := by decide +kernel
theorem dX11_text_285 : decode cX11_text 285 = .ok (.aload_n 0, 1) := by decide +kernel
theorem dX11_text_286 : decode cX11_text 286 = .ok (.getfield 52, 3) := by decide +kernel
theorem dX11_text_289 : decode cX11_text 289 = .ok (.iload_n 3, 1) := by decide +kernel
theorem dX11_text_290 : decode cX11_text 290 = .ok (.iaload, 1) := by decide +kernel
theorem dX11_text_291 : decode cX11_text 291 = .ok (.iastore, 1) := by decide +kernel
theorem dX11_text_292 : decode cX11_text 292 = .ok (.iinc 3 1, 3) := by decide +kernel
theorem dX11_text_295 : decode cX11_text 295 = .ok (.goto (-21), 3) := by decide +kernel
theorem dX11_text_298 : decode cX11_text 298 = .ok (.aload_n 0, 1) := by decide +kernel
theorem dX11_text_299 : decode cX11_text 299 = .ok (.aload_n 0, 1) := by decide +kernel
theorem dX11_text_300 : decode cX11_text 300 = .ok (.getfield 61, 3) := by decide +kernel
theorem dX11_text_303 : decode cX11_text 303 = .ok (.invokevirtual 313, 3) := by decide +kernel
theorem dX11_text_306 : decode cX11_text 306 = .ok (.aload_n 0, 1) := by decide +kernel
theorem dX11_text_307 : decode cX11_text 307 = .ok (.iconst 0, 1) := by decide +kernel
theorem dX11_text_308 : decode cX11_text 308 = .ok (.putfield 317, 3) := by decide +kernel
theorem dX11_text_311 : decode cX11_text 311 = .ok (.aload_n 0, 1) := by decide +kernel
theorem dX11_text_312 : decode cX11_text 312 = .ok (.iconst 0, 1) := by decide +kernel
theorem dX11_text_313 : decode cX11_text 313 = .ok (.putfield 320, 3) := by decide +kernel
theorem dX11_text_316 : decode cX11_text 316 = .ok (.aload_n 0, 1) := by decide +kernel
theorem dX11_text_317 : decode cX11_text 317 = .ok (.iconst 0, 1) := by decide +kernel
theorem dX11_text_318 : decode cX11_text 318 = .ok (.putfield 323, 3) := by decide +kernel
theorem dX11_text_321 : decode cX11_text 321 = .ok (.aload_n 0, 1) := by decide +kernel
theorem dX11_text_322 : decode cX11_text 322 = .ok (.getfield 307, 3) := by decide +kernel
theorem dX11_text_325 : decode cX11_text 325 = .ok (.ireturn, 1) := by decide +kernel
def f_Model_text_L223 (x1 : Int32) (a : Mem × Int32) : Option ((Mem × Int32) ⊕ (Mem)) :=
  @Prod.casesOn (Mem) (Int32) (fun _ => Option ((Mem × Int32) ⊕ (Mem))) a fun τ z3 =>
  if (4 : Int32) ≤ z3 then
    some (.inr τ)
  else
    if inb z3 4 then
      some (.inl ((sI τ 570 z3.toNatClampNeg (mI τ 571 z3.toNatClampNeg)), (z3 + (1 : Int32))))
    else none
def f_Model_text_L248 (x1 : Int32) (a : Mem × Int32) : Option ((Mem × Int32) ⊕ (Mem)) :=
  @Prod.casesOn (Mem) (Int32) (fun _ => Option ((Mem × Int32) ⊕ (Mem))) a fun τ z3 =>
  if (24 : Int32) ≤ z3 then
    some (.inr τ)
  else
    if inb z3 24 then
      some (.inl ((sI τ 572 z3.toNatClampNeg (mI τ 573 z3.toNatClampNeg)), (z3 + (1 : Int32))))
    else none
def f_Model_text_L274 (x1 : Int32) (a : Mem × Int32) : Option ((Mem × Int32) ⊕ (Int32 × Mem)) :=
  @Prod.casesOn (Mem) (Int32) (fun _ => Option ((Mem × Int32) ⊕ (Int32 × Mem))) a fun τ z3 =>
  if (24 : Int32) ≤ z3 then
    (f_Model_lays τ 578).bind fun q16 =>
    some (.inr ((mI (sI (sI (sI q16 565 51 (0 : Int32)) 565 44 (0 : Int32)) 565 56 (0 : Int32)) 565 26), (sI (sI (sI q16 565 51 (0 : Int32)) 565 44 (0 : Int32)) 565 56 (0 : Int32))))
  else
    if inb z3 24 then
      some (.inl ((sI τ 574 z3.toNatClampNeg (mI τ 575 z3.toNatClampNeg)), (z3 + (1 : Int32))))
    else none
def f_Model_text_L137 (x1 : Int32) (a : Mem × Int32) : Option ((Mem × Int32) ⊕ (Int32 × Mem)) :=
  @Prod.casesOn (Mem) (Int32) (fun _ => Option ((Mem × Int32) ⊕ (Int32 × Mem))) a fun τ z3 =>
  if (48 : Int32) ≤ z3 then
    if inb (mI τ 565 30) 5 then
      some (.inr (((mI (sI (sI τ 577 (mI τ 565 30).toNatClampNeg (mI τ 577 (4 : Int32).toNatClampNeg)) 565 30 ((mI (sI τ 577 (mI τ 565 30).toNatClampNeg (mI τ 577 (4 : Int32).toNatClampNeg)) 565 30) + (1 : Int32))) 565 30) - (1 : Int32)), (sI (sI τ 577 (mI τ 565 30).toNatClampNeg (mI τ 577 (4 : Int32).toNatClampNeg)) 565 30 ((mI (sI τ 577 (mI τ 565 30).toNatClampNeg (mI τ 577 (4 : Int32).toNatClampNeg)) 565 30) + (1 : Int32)))))
    else none
  else
    if inb ((192 : Int32) + z3) 240 then
      if inb (((48 : Int32) * (mI τ 565 30)) + z3) 240 then
        some (.inl ((sI τ 576 (((48 : Int32) * (mI τ 565 30)) + z3).toNatClampNeg (mI τ 576 ((192 : Int32) + z3).toNatClampNeg)), (z3 + (1 : Int32))))
      else none
    else none
def f_Model_text_L71 (x1 : Int32) (y2 : Int32) (a : Mem × Int32) : Option ((Mem × Int32) ⊕ (Int32 × Mem)) :=
  @Prod.casesOn (Mem) (Int32) (fun _ => Option ((Mem × Int32) ⊕ (Int32 × Mem))) a fun τ z3 =>
  if y2 ≤ z3 then
    if inb (mI τ 565 7) 4 then
      some (.inr (((mI (sI (sI τ 568 (mI τ 565 7).toNatClampNeg y2) 565 7 ((mI (sI τ 568 (mI τ 565 7).toNatClampNeg y2) 565 7) + (1 : Int32))) 565 7) - (1 : Int32)), (sI (sI τ 568 (mI τ 565 7).toNatClampNeg y2) 565 7 ((mI (sI τ 568 (mI τ 565 7).toNatClampNeg y2) 565 7) + (1 : Int32)))))
    else none
  else
    if inb z3 240 then
      if inb (((240 : Int32) * (mI τ 565 7)) + z3) 960 then
        some (.inl ((sI τ 567 (((240 : Int32) * (mI τ 565 7)) + z3).toNatClampNeg (vp_nar .byte (mI τ 566 z3.toNatClampNeg))), (z3 + (1 : Int32))))
      else none
    else none
def f_Model_text_J43 (σ : Mem) (x1 : Int32) : Option (Int32 × Mem) :=
  (f_Model_fault σ x1).bind fun q5 =>
  if q5.1 = (-1 : Int32) then
    if x1 = (1 : Int32) then
      loopF (f_Model_text_L71 x1 (mI q5.2 565 6)) FU ((sI q5.2 565 6 (0 : Int32)), (0 : Int32))
    else
      if x1 = (2 : Int32) then
        loopF (f_Model_text_L137 x1) FU ((sI q5.2 565 6 (0 : Int32)), (0 : Int32))
      else
        (loopF (f_Model_text_L223 x1) FU ((sI (sI (sI q5.2 565 6 (0 : Int32)) 565 26 (mI (sI q5.2 565 6 (0 : Int32)) 565 28)) 565 27 (mI (sI (sI q5.2 565 6 (0 : Int32)) 565 26 (mI (sI q5.2 565 6 (0 : Int32)) 565 28)) 565 29)), (0 : Int32))).bind fun w11 =>
        (loopF (f_Model_text_L248 x1) FU (w11, (0 : Int32))).bind fun w14 =>
        loopF (f_Model_text_L274 x1) FU (w14, (0 : Int32))
  else
    some ((-1 : Int32), q5.2)
def f_Model_text_J30 (σ : Mem) (x1 : Int32) : Option (Int32 × Mem) :=
  if x1 = (2 : Int32) then
    if (mI σ 565 30) = (4 : Int32) then
      some ((-1 : Int32), σ)
    else
      f_Model_text_J43 σ x1
  else
    f_Model_text_J43 σ x1
def f_Model_text (σ : Mem) (x1 : Int32) : Option (Int32 × Mem) :=
  (f_Model_isIn (sI σ 565 0 (0 : Int32)) ((x1).toInt64) (0 : Int64) (2 : Int64)).bind fun q1 =>
  if q1 = (0 : Int32) then
    some ((-1 : Int32), (sI σ 565 0 (0 : Int32)))
  else
    if x1 = (1 : Int32) then
      if (mI (sI σ 565 0 (0 : Int32)) 565 7) = (4 : Int32) then
        some ((-1 : Int32), (sI σ 565 0 (0 : Int32)))
      else
        f_Model_text_J30 (sI σ 565 0 (0 : Int32)) x1
    else
      f_Model_text_J30 (sI σ 565 0 (0 : Int32)) x1
set_option maxHeartbeats 4000000 in
set_option maxRecDepth 20000 in
theorem gs_Model_text_L223 (X : Cx θ p s m args c cX11_text 4 RX11) (hr : meth.sig.returnType = some .int) (hlk : meth.locks = false)  {x1 : Int32} {r : Int32 × Mem}  (τ : Mem) (z3 : Int32) (x : (Mem × Int32) ⊕ (Mem)) (h : f_Model_text_L223 x1 (τ, z3) = some x) (hk : Sum.elim (fun a => @Prod.casesOn (Mem) (Int32) (fun _ => Prop) a fun τ z3 => GB θ p l e 63 s m args below meth c 4 (some (.int r.1), r.2) 223 [(0, .ref (be θ + 565)), (1, .int x1), (3, .int z3)] [] τ) (fun w => GB θ p l e 63 s m args below meth c 4 (some (.int r.1), r.2) 246 [(0, .ref (be θ + 565)), (1, .int x1)] [] w) x) : GB θ p l e 63 s m args below meth c 4 (some (.int r.1), r.2) 223 [(0, .ref (be θ + 565)), (1, .int x1), (3, .int z3)] [] τ := by
  unfold f_Model_text_L223 at h
  dsimp only at h
  refine g_iload_n X dX11_text_223 rfl 2 rfl ?_
  refine g_iconst X dX11_text_224 (v := (4 : Int32)) ic_4 ?_
  refine g_icmp_ge (tgt := 246) X dX11_text_225 (by decide) (fun c9 => ?_) (fun c9 => ?_)
  · replace h := (if_pos c9).symm.trans h
    have hk := inr_hk h hk
    exact g_sub (lv' := [(0, .ref (be θ + 565)), (1, .int x1)]) [0, 1] rfl hk
  · replace h := (if_neg c9).symm.trans h
    refine g_aload_n X dX11_text_228 rfl 0 rfl ?_
    refine g_get X fl_RX11_37 dX11_text_229 kd_565 (v := .ref (be θ + 570)) rfl ?_
    refine g_iload_n X dX11_text_232 rfl 2 rfl ?_
    refine g_aload_n X dX11_text_233 rfl 0 rfl ?_
    refine g_get X fl_RX11_40 dX11_text_234 kd_565 (v := .ref (be θ + 571)) rfl ?_
    refine g_iload_n X dX11_text_237 rfl 2 rfl ?_
    obtain ⟨g10, h⟩ := ite_some h
    refine g_iald X kd_571 ln_571 (inb_in g10) dX11_text_238 ?_
    refine g_iast X kd_570 ln_570 (inb_in g10) dX11_text_239 ?_
    refine g_iinc X dX11_text_240 (kq := 2) rfl (congrArg (HAdd.hAdd _) ic_1) (by decide) (lv' := [(3, .int (z3 + (1 : Int32))), (0, .ref (be θ + 565)), (1, .int x1)]) rfl ?_
    refine g_goto (tgt := 223) X dX11_text_243 (by decide) ?_
    have hk := inl_hk h hk
    exact g_sub (lv' := [(0, .ref (be θ + 565)), (1, .int x1), (3, .int (z3 + (1 : Int32)))]) [1, 2, 0] rfl hk
set_option maxHeartbeats 4000000 in
set_option maxRecDepth 20000 in
theorem gl_Model_text_L223 (X : Cx θ p s m args c cX11_text 4 RX11) (hr : meth.sig.returnType = some .int) (hlk : meth.locks = false)  {x1 : Int32} {r : Int32 × Mem}  (n : Nat) (a : Mem × Int32) (b : Mem) (h : loopF (f_Model_text_L223 x1) n a = some b) (hk : (fun w => GB θ p l e 63 s m args below meth c 4 (some (.int r.1), r.2) 246 [(0, .ref (be θ + 565)), (1, .int x1)] [] w) b) : (fun a => @Prod.casesOn (Mem) (Int32) (fun _ => Prop) a fun τ z3 => GB θ p l e 63 s m args below meth c 4 (some (.int r.1), r.2) 223 [(0, .ref (be θ + 565)), (1, .int x1), (3, .int z3)] [] τ) a :=
  loopF_by (P := (fun a => @Prod.casesOn (Mem) (Int32) (fun _ => Prop) a fun τ z3 => GB θ p l e 63 s m args below meth c 4 (some (.int r.1), r.2) 223 [(0, .ref (be θ + 565)), (1, .int x1), (3, .int z3)] [] τ)) (K := (fun w => GB θ p l e 63 s m args below meth c 4 (some (.int r.1), r.2) 246 [(0, .ref (be θ + 565)), (1, .int x1)] [] w)) (fun a x h hk => by obtain ⟨τ, z3⟩ := a; exact gs_Model_text_L223 X hr hlk   τ z3 x h hk) n a b h hk
set_option maxHeartbeats 4000000 in
set_option maxRecDepth 20000 in
theorem gs_Model_text_L248 (X : Cx θ p s m args c cX11_text 4 RX11) (hr : meth.sig.returnType = some .int) (hlk : meth.locks = false)  {x1 : Int32} {r : Int32 × Mem}  (τ : Mem) (z3 : Int32) (x : (Mem × Int32) ⊕ (Mem)) (h : f_Model_text_L248 x1 (τ, z3) = some x) (hk : Sum.elim (fun a => @Prod.casesOn (Mem) (Int32) (fun _ => Prop) a fun τ z3 => GB θ p l e 63 s m args below meth c 4 (some (.int r.1), r.2) 248 [(0, .ref (be θ + 565)), (1, .int x1), (3, .int z3)] [] τ) (fun w => GB θ p l e 63 s m args below meth c 4 (some (.int r.1), r.2) 272 [(0, .ref (be θ + 565)), (1, .int x1)] [] w) x) : GB θ p l e 63 s m args below meth c 4 (some (.int r.1), r.2) 248 [(0, .ref (be θ + 565)), (1, .int x1), (3, .int z3)] [] τ := by
  unfold f_Model_text_L248 at h
  dsimp only at h
  refine g_iload_n X dX11_text_248 rfl 2 rfl ?_
  refine g_bipush X dX11_text_249 (v := (24 : Int32)) bp_24 ?_
  refine g_icmp_ge (tgt := 272) X dX11_text_251 (by decide) (fun c12 => ?_) (fun c12 => ?_)
  · replace h := (if_pos c12).symm.trans h
    have hk := inr_hk h hk
    exact g_sub (lv' := [(0, .ref (be θ + 565)), (1, .int x1)]) [0, 1] rfl hk
  · replace h := (if_neg c12).symm.trans h
    refine g_aload_n X dX11_text_254 rfl 0 rfl ?_
    refine g_get X fl_RX11_43 dX11_text_255 kd_565 (v := .ref (be θ + 572)) rfl ?_
    refine g_iload_n X dX11_text_258 rfl 2 rfl ?_
    refine g_aload_n X dX11_text_259 rfl 0 rfl ?_
    refine g_get X fl_RX11_46 dX11_text_260 kd_565 (v := .ref (be θ + 573)) rfl ?_
    refine g_iload_n X dX11_text_263 rfl 2 rfl ?_
    obtain ⟨g13, h⟩ := ite_some h
    refine g_iald X kd_573 ln_573 (inb_in g13) dX11_text_264 ?_
    refine g_iast X kd_572 ln_572 (inb_in g13) dX11_text_265 ?_
    refine g_iinc X dX11_text_266 (kq := 2) rfl (congrArg (HAdd.hAdd _) ic_1) (by decide) (lv' := [(3, .int (z3 + (1 : Int32))), (0, .ref (be θ + 565)), (1, .int x1)]) rfl ?_
    refine g_goto (tgt := 248) X dX11_text_269 (by decide) ?_
    have hk := inl_hk h hk
    exact g_sub (lv' := [(0, .ref (be θ + 565)), (1, .int x1), (3, .int (z3 + (1 : Int32)))]) [1, 2, 0] rfl hk
set_option maxHeartbeats 4000000 in
set_option maxRecDepth 20000 in
theorem gl_Model_text_L248 (X : Cx θ p s m args c cX11_text 4 RX11) (hr : meth.sig.returnType = some .int) (hlk : meth.locks = false)  {x1 : Int32} {r : Int32 × Mem}  (n : Nat) (a : Mem × Int32) (b : Mem) (h : loopF (f_Model_text_L248 x1) n a = some b) (hk : (fun w => GB θ p l e 63 s m args below meth c 4 (some (.int r.1), r.2) 272 [(0, .ref (be θ + 565)), (1, .int x1)] [] w) b) : (fun a => @Prod.casesOn (Mem) (Int32) (fun _ => Prop) a fun τ z3 => GB θ p l e 63 s m args below meth c 4 (some (.int r.1), r.2) 248 [(0, .ref (be θ + 565)), (1, .int x1), (3, .int z3)] [] τ) a :=
  loopF_by (P := (fun a => @Prod.casesOn (Mem) (Int32) (fun _ => Prop) a fun τ z3 => GB θ p l e 63 s m args below meth c 4 (some (.int r.1), r.2) 248 [(0, .ref (be θ + 565)), (1, .int x1), (3, .int z3)] [] τ)) (K := (fun w => GB θ p l e 63 s m args below meth c 4 (some (.int r.1), r.2) 272 [(0, .ref (be θ + 565)), (1, .int x1)] [] w)) (fun a x h hk => by obtain ⟨τ, z3⟩ := a; exact gs_Model_text_L248 X hr hlk   τ z3 x h hk) n a b h hk
set_option maxHeartbeats 4000000 in
set_option maxRecDepth 20000 in
theorem gs_Model_text_L274 (X : Cx θ p s m args c cX11_text 4 RX11) (hr : meth.sig.returnType = some .int) (hlk : meth.locks = false)  {x1 : Int32} {r : Int32 × Mem}  (τ : Mem) (z3 : Int32) (x : (Mem × Int32) ⊕ (Int32 × Mem)) (h : f_Model_text_L274 x1 (τ, z3) = some x) (hk : Sum.elim (fun a => @Prod.casesOn (Mem) (Int32) (fun _ => Prop) a fun τ z3 => GB θ p l e 63 s m args below meth c 4 (some (.int r.1), r.2) 274 [(0, .ref (be θ + 565)), (1, .int x1), (3, .int z3)] [] τ) (fun b => b = r) x) : GB θ p l e 63 s m args below meth c 4 (some (.int r.1), r.2) 274 [(0, .ref (be θ + 565)), (1, .int x1), (3, .int z3)] [] τ := by
  unfold f_Model_text_L274 at h
  dsimp only at h
  refine g_iload_n X dX11_text_274 rfl 2 rfl ?_
  refine g_bipush X dX11_text_275 (v := (24 : Int32)) bp_24 ?_
  refine g_icmp_ge (tgt := 298) X dX11_text_277 (by decide) (fun c15 => ?_) (fun c15 => ?_)
  · replace h := (if_pos c15).symm.trans h
    refine g_aload_n X dX11_text_298 rfl 0 rfl ?_
    refine g_aload_n X dX11_text_299 rfl 0 rfl ?_
    refine g_get X fl_RX11_61 dX11_text_300 kd_565 (v := .ref (be θ + 578)) rfl ?_
    obtain ⟨q16, hq16, h⟩ := Option.bind_eq_some_iff.mp h
    refine g_cV X (c_Model_lays kd_578 hq16) lk_RX11_313 my_X11_lays (a := 565) (ci := 11) kd_565 (by decide) rfl (As := [.ref (be θ + 578)]) (rest := []) rfl rfl (Nat.le_of_ble_eq_true rfl) ⟨(Nat.le_of_ble_eq_true rfl), (Nat.le_of_ble_eq_true rfl)⟩ ⟨(Nat.le_of_ble_eq_true rfl), (Nat.le_of_ble_eq_true rfl)⟩ dX11_text_303 (st' := []) (σ' := q16) rfl rfl ?_
    refine g_aload_n X dX11_text_306 rfl 0 rfl ?_
    refine g_iconst X dX11_text_307 (v := (0 : Int32)) ic_0 ?_
    refine g_putI X fl_RX11_317 dX11_text_308 kd_565 rfl rfl rfl ?_
    refine g_aload_n X dX11_text_311 rfl 0 rfl ?_
    refine g_iconst X dX11_text_312 (v := (0 : Int32)) ic_0 ?_
    refine g_putI X fl_RX11_320 dX11_text_313 kd_565 rfl rfl rfl ?_
    refine g_aload_n X dX11_text_316 rfl 0 rfl ?_
    refine g_iconst X dX11_text_317 (v := (0 : Int32)) ic_0 ?_
    refine g_putZ X fl_RX11_323 dX11_text_318 kd_565 rfl rfl rfl bz0 ?_
    refine g_aload_n X dX11_text_321 rfl 0 rfl ?_
    refine g_get X fl_RX11_307 dX11_text_322 kd_565 (v := .int (mI (sI (sI (sI q16 565 51 (0 : Int32)) 565 44 (0 : Int32)) 565 56 (0 : Int32)) 565 26)) rfl ?_
    have hk := inr_hk h hk
    have hk : ((mI (sI (sI (sI q16 565 51 (0 : Int32)) 565 44 (0 : Int32)) 565 56 (0 : Int32)) 565 26), (sI (sI (sI q16 565 51 (0 : Int32)) 565 44 (0 : Int32)) 565 56 (0 : Int32))) = r := hk
    subst hk
    exact g_iret X hr hlk dX11_text_325 rfl
  · replace h := (if_neg c15).symm.trans h
    refine g_aload_n X dX11_text_280 rfl 0 rfl ?_
    refine g_get X fl_RX11_49 dX11_text_281 kd_565 (v := .ref (be θ + 574)) rfl ?_
    refine g_iload_n X dX11_text_284 rfl 2 rfl ?_
    refine g_aload_n X dX11_text_285 rfl 0 rfl ?_
    refine g_get X fl_RX11_52 dX11_text_286 kd_565 (v := .ref (be θ + 575)) rfl ?_
    refine g_iload_n X dX11_text_289 rfl 2 rfl ?_
    obtain ⟨g17, h⟩ := ite_some h
    refine g_iald X kd_575 ln_575 (inb_in g17) dX11_text_290 ?_
    refine g_iast X kd_574 ln_574 (inb_in g17) dX11_text_291 ?_
    refine g_iinc X dX11_text_292 (kq := 2) rfl (congrArg (HAdd.hAdd _) ic_1) (by decide) (lv' := [(3, .int (z3 + (1 : Int32))), (0, .ref (be θ + 565)), (1, .int x1)]) rfl ?_
    refine g_goto (tgt := 274) X dX11_text_295 (by decide) ?_
    have hk := inl_hk h hk
    exact g_sub (lv' := [(0, .ref (be θ + 565)), (1, .int x1), (3, .int (z3 + (1 : Int32)))]) [1, 2, 0] rfl hk
set_option maxHeartbeats 4000000 in
set_option maxRecDepth 20000 in
theorem gl_Model_text_L274 (X : Cx θ p s m args c cX11_text 4 RX11) (hr : meth.sig.returnType = some .int) (hlk : meth.locks = false)  {x1 : Int32} {r : Int32 × Mem}  (n : Nat) (a : Mem × Int32) (b : Int32 × Mem) (h : loopF (f_Model_text_L274 x1) n a = some b) (hk : (fun b => b = r) b) : (fun a => @Prod.casesOn (Mem) (Int32) (fun _ => Prop) a fun τ z3 => GB θ p l e 63 s m args below meth c 4 (some (.int r.1), r.2) 274 [(0, .ref (be θ + 565)), (1, .int x1), (3, .int z3)] [] τ) a :=
  loopF_by (P := (fun a => @Prod.casesOn (Mem) (Int32) (fun _ => Prop) a fun τ z3 => GB θ p l e 63 s m args below meth c 4 (some (.int r.1), r.2) 274 [(0, .ref (be θ + 565)), (1, .int x1), (3, .int z3)] [] τ)) (K := (fun b => b = r)) (fun a x h hk => by obtain ⟨τ, z3⟩ := a; exact gs_Model_text_L274 X hr hlk   τ z3 x h hk) n a b h hk
set_option maxHeartbeats 4000000 in
set_option maxRecDepth 20000 in
theorem gs_Model_text_L137 (X : Cx θ p s m args c cX11_text 4 RX11) (hr : meth.sig.returnType = some .int) (hlk : meth.locks = false)  {x1 : Int32} {r : Int32 × Mem}  (τ : Mem) (z3 : Int32) (x : (Mem × Int32) ⊕ (Int32 × Mem)) (h : f_Model_text_L137 x1 (τ, z3) = some x) (hk : Sum.elim (fun a => @Prod.casesOn (Mem) (Int32) (fun _ => Prop) a fun τ z3 => GB θ p l e 63 s m args below meth c 4 (some (.int r.1), r.2) 137 [(0, .ref (be θ + 565)), (1, .int x1), (3, .int z3)] [] τ) (fun b => b = r) x) : GB θ p l e 63 s m args below meth c 4 (some (.int r.1), r.2) 137 [(0, .ref (be θ + 565)), (1, .int x1), (3, .int z3)] [] τ := by
  unfold f_Model_text_L137 at h
  dsimp only at h
  refine g_iload_n X dX11_text_137 rfl 2 rfl ?_
  refine g_bipush X dX11_text_138 (v := (48 : Int32)) bp_48 ?_
  refine g_icmp_ge (tgt := 173) X dX11_text_140 (by decide) (fun c18 => ?_) (fun c18 => ?_)
  · replace h := (if_pos c18).symm.trans h
    refine g_aload_n X dX11_text_173 rfl 0 rfl ?_
    refine g_get X fl_RX11_58 dX11_text_174 kd_565 (v := .ref (be θ + 577)) rfl ?_
    refine g_aload_n X dX11_text_177 rfl 0 rfl ?_
    refine g_get X fl_RX11_302 dX11_text_178 kd_565 (v := .int (mI τ 565 30)) rfl ?_
    refine g_aload_n X dX11_text_181 rfl 0 rfl ?_
    refine g_get X fl_RX11_58 dX11_text_182 kd_565 (v := .ref (be θ + 577)) rfl ?_
    refine g_iconst X dX11_text_185 (v := (4 : Int32)) ic_4 ?_
    refine g_iald X kd_577 ln_577 (inb_in (show inb (4 : Int32) 5 = true by decide)) dX11_text_186 ?_
    obtain ⟨g19, h⟩ := ite_some h
    refine g_iast X kd_577 ln_577 (inb_in g19) dX11_text_187 ?_
    refine g_aload_n X dX11_text_188 rfl 0 rfl ?_
    refine g_dup X dX11_text_189 rfl ?_
    refine g_get X fl_RX11_302 dX11_text_190 kd_565 (v := .int (mI (sI τ 577 (mI τ 565 30).toNatClampNeg (mI τ 577 (4 : Int32).toNatClampNeg)) 565 30)) rfl ?_
    refine g_iconst X dX11_text_193 (v := (1 : Int32)) ic_1 ?_
    refine g_iadd X dX11_text_194 ?_
    refine g_putI X fl_RX11_302 dX11_text_195 kd_565 rfl rfl rfl ?_
    refine g_aload_n X dX11_text_198 rfl 0 rfl ?_
    refine g_get X fl_RX11_302 dX11_text_199 kd_565 (v := .int (mI (sI (sI τ 577 (mI τ 565 30).toNatClampNeg (mI τ 577 (4 : Int32).toNatClampNeg)) 565 30 ((mI (sI τ 577 (mI τ 565 30).toNatClampNeg (mI τ 577 (4 : Int32).toNatClampNeg)) 565 30) + (1 : Int32))) 565 30)) rfl ?_
    refine g_iconst X dX11_text_202 (v := (1 : Int32)) ic_1 ?_
    refine g_isub X dX11_text_203 ?_
    have hk := inr_hk h hk
    have hk : (((mI (sI (sI τ 577 (mI τ 565 30).toNatClampNeg (mI τ 577 (4 : Int32).toNatClampNeg)) 565 30 ((mI (sI τ 577 (mI τ 565 30).toNatClampNeg (mI τ 577 (4 : Int32).toNatClampNeg)) 565 30) + (1 : Int32))) 565 30) - (1 : Int32)), (sI (sI τ 577 (mI τ 565 30).toNatClampNeg (mI τ 577 (4 : Int32).toNatClampNeg)) 565 30 ((mI (sI τ 577 (mI τ 565 30).toNatClampNeg (mI τ 577 (4 : Int32).toNatClampNeg)) 565 30) + (1 : Int32)))) = r := hk
    subst hk
    exact g_iret X hr hlk dX11_text_204 rfl
  · replace h := (if_neg c18).symm.trans h
    refine g_aload_n X dX11_text_143 rfl 0 rfl ?_
    refine g_get X fl_RX11_55 dX11_text_144 kd_565 (v := .ref (be θ + 576)) rfl ?_
    refine g_bipush X dX11_text_147 (v := (48 : Int32)) bp_48 ?_
    refine g_aload_n X dX11_text_149 rfl 0 rfl ?_
    refine g_get X fl_RX11_302 dX11_text_150 kd_565 (v := .int (mI τ 565 30)) rfl ?_
    refine g_imul X dX11_text_153 ?_
    refine g_iload_n X dX11_text_154 rfl 2 rfl ?_
    refine g_iadd X dX11_text_155 ?_
    refine g_aload_n X dX11_text_156 rfl 0 rfl ?_
    refine g_get X fl_RX11_55 dX11_text_157 kd_565 (v := .ref (be θ + 576)) rfl ?_
    refine g_sipush X dX11_text_160 (v := (192 : Int32)) sp_192 ?_
    refine g_iload_n X dX11_text_163 rfl 2 rfl ?_
    refine g_iadd X dX11_text_164 ?_
    obtain ⟨g20, h⟩ := ite_some h
    refine g_iald X kd_576 ln_576 (inb_in g20) dX11_text_165 ?_
    obtain ⟨g21, h⟩ := ite_some h
    refine g_iast X kd_576 ln_576 (inb_in g21) dX11_text_166 ?_
    refine g_iinc X dX11_text_167 (kq := 2) rfl (congrArg (HAdd.hAdd _) ic_1) (by decide) (lv' := [(3, .int (z3 + (1 : Int32))), (0, .ref (be θ + 565)), (1, .int x1)]) rfl ?_
    refine g_goto (tgt := 137) X dX11_text_170 (by decide) ?_
    have hk := inl_hk h hk
    exact g_sub (lv' := [(0, .ref (be θ + 565)), (1, .int x1), (3, .int (z3 + (1 : Int32)))]) [1, 2, 0] rfl hk
set_option maxHeartbeats 4000000 in
set_option maxRecDepth 20000 in
theorem gl_Model_text_L137 (X : Cx θ p s m args c cX11_text 4 RX11) (hr : meth.sig.returnType = some .int) (hlk : meth.locks = false)  {x1 : Int32} {r : Int32 × Mem}  (n : Nat) (a : Mem × Int32) (b : Int32 × Mem) (h : loopF (f_Model_text_L137 x1) n a = some b) (hk : (fun b => b = r) b) : (fun a => @Prod.casesOn (Mem) (Int32) (fun _ => Prop) a fun τ z3 => GB θ p l e 63 s m args below meth c 4 (some (.int r.1), r.2) 137 [(0, .ref (be θ + 565)), (1, .int x1), (3, .int z3)] [] τ) a :=
  loopF_by (P := (fun a => @Prod.casesOn (Mem) (Int32) (fun _ => Prop) a fun τ z3 => GB θ p l e 63 s m args below meth c 4 (some (.int r.1), r.2) 137 [(0, .ref (be θ + 565)), (1, .int x1), (3, .int z3)] [] τ)) (K := (fun b => b = r)) (fun a x h hk => by obtain ⟨τ, z3⟩ := a; exact gs_Model_text_L137 X hr hlk   τ z3 x h hk) n a b h hk
set_option maxHeartbeats 4000000 in
set_option maxRecDepth 20000 in
theorem gs_Model_text_L71 (X : Cx θ p s m args c cX11_text 4 RX11) (hr : meth.sig.returnType = some .int) (hlk : meth.locks = false)  {x1 : Int32} {y2 : Int32} {r : Int32 × Mem}  (τ : Mem) (z3 : Int32) (x : (Mem × Int32) ⊕ (Int32 × Mem)) (h : f_Model_text_L71 x1 y2 (τ, z3) = some x) (hk : Sum.elim (fun a => @Prod.casesOn (Mem) (Int32) (fun _ => Prop) a fun τ z3 => GB θ p l e 63 s m args below meth c 4 (some (.int r.1), r.2) 71 [(0, .ref (be θ + 565)), (1, .int x1), (2, .int y2), (3, .int z3)] [] τ) (fun b => b = r) x) : GB θ p l e 63 s m args below meth c 4 (some (.int r.1), r.2) 71 [(0, .ref (be θ + 565)), (1, .int x1), (2, .int y2), (3, .int z3)] [] τ := by
  unfold f_Model_text_L71 at h
  dsimp only at h
  refine g_iload_n X dX11_text_71 rfl 3 rfl ?_
  refine g_iload_n X dX11_text_72 rfl 2 rfl ?_
  refine g_icmp_ge (tgt := 103) X dX11_text_73 (by decide) (fun c22 => ?_) (fun c22 => ?_)
  · replace h := (if_pos c22).symm.trans h
    refine g_aload_n X dX11_text_103 rfl 0 rfl ?_
    refine g_get X fl_RX11_16 dX11_text_104 kd_565 (v := .ref (be θ + 568)) rfl ?_
    refine g_aload_n X dX11_text_107 rfl 0 rfl ?_
    refine g_get X fl_RX11_299 dX11_text_108 kd_565 (v := .int (mI τ 565 7)) rfl ?_
    refine g_iload_n X dX11_text_111 rfl 2 rfl ?_
    obtain ⟨g23, h⟩ := ite_some h
    refine g_iast X kd_568 ln_568 (inb_in g23) dX11_text_112 ?_
    refine g_aload_n X dX11_text_113 rfl 0 rfl ?_
    refine g_dup X dX11_text_114 rfl ?_
    refine g_get X fl_RX11_299 dX11_text_115 kd_565 (v := .int (mI (sI τ 568 (mI τ 565 7).toNatClampNeg y2) 565 7)) rfl ?_
    refine g_iconst X dX11_text_118 (v := (1 : Int32)) ic_1 ?_
    refine g_iadd X dX11_text_119 ?_
    refine g_putI X fl_RX11_299 dX11_text_120 kd_565 rfl rfl rfl ?_
    refine g_aload_n X dX11_text_123 rfl 0 rfl ?_
    refine g_get X fl_RX11_299 dX11_text_124 kd_565 (v := .int (mI (sI (sI τ 568 (mI τ 565 7).toNatClampNeg y2) 565 7 ((mI (sI τ 568 (mI τ 565 7).toNatClampNeg y2) 565 7) + (1 : Int32))) 565 7)) rfl ?_
    refine g_iconst X dX11_text_127 (v := (1 : Int32)) ic_1 ?_
    refine g_isub X dX11_text_128 ?_
    have hk := inr_hk h hk
    have hk : (((mI (sI (sI τ 568 (mI τ 565 7).toNatClampNeg y2) 565 7 ((mI (sI τ 568 (mI τ 565 7).toNatClampNeg y2) 565 7) + (1 : Int32))) 565 7) - (1 : Int32)), (sI (sI τ 568 (mI τ 565 7).toNatClampNeg y2) 565 7 ((mI (sI τ 568 (mI τ 565 7).toNatClampNeg y2) 565 7) + (1 : Int32)))) = r := hk
    subst hk
    exact g_iret X hr hlk dX11_text_129 rfl
  · replace h := (if_neg c22).symm.trans h
    refine g_aload_n X dX11_text_76 rfl 0 rfl ?_
    refine g_get X fl_RX11_13 dX11_text_77 kd_565 (v := .ref (be θ + 567)) rfl ?_
    refine g_sipush X dX11_text_80 (v := (240 : Int32)) sp_240 ?_
    refine g_aload_n X dX11_text_83 rfl 0 rfl ?_
    refine g_get X fl_RX11_299 dX11_text_84 kd_565 (v := .int (mI τ 565 7)) rfl ?_
    refine g_imul X dX11_text_87 ?_
    refine g_iload_n X dX11_text_88 rfl 3 rfl ?_
    refine g_iadd X dX11_text_89 ?_
    refine g_aload_n X dX11_text_90 rfl 0 rfl ?_
    refine g_get X fl_RX11_9 dX11_text_91 kd_565 (v := .ref (be θ + 566)) rfl ?_
    refine g_iload_n X dX11_text_94 rfl 3 rfl ?_
    obtain ⟨g24, h⟩ := ite_some h
    refine g_bald X kd_566 ln_566 (inb_in g24) dX11_text_95 ?_
    obtain ⟨g25, h⟩ := ite_some h
    refine g_bast X kd_567 ln_567 (inb_in g25) dX11_text_96 ?_
    refine g_iinc X dX11_text_97 (kq := 3) rfl (congrArg (HAdd.hAdd _) ic_1) (by decide) (lv' := [(3, .int (z3 + (1 : Int32))), (0, .ref (be θ + 565)), (1, .int x1), (2, .int y2)]) rfl ?_
    refine g_goto (tgt := 71) X dX11_text_100 (by decide) ?_
    have hk := inl_hk h hk
    exact g_sub (lv' := [(0, .ref (be θ + 565)), (1, .int x1), (2, .int y2), (3, .int (z3 + (1 : Int32)))]) [1, 2, 3, 0] rfl hk
set_option maxHeartbeats 4000000 in
set_option maxRecDepth 20000 in
theorem gl_Model_text_L71 (X : Cx θ p s m args c cX11_text 4 RX11) (hr : meth.sig.returnType = some .int) (hlk : meth.locks = false)  {x1 : Int32} {y2 : Int32} {r : Int32 × Mem}  (n : Nat) (a : Mem × Int32) (b : Int32 × Mem) (h : loopF (f_Model_text_L71 x1 y2) n a = some b) (hk : (fun b => b = r) b) : (fun a => @Prod.casesOn (Mem) (Int32) (fun _ => Prop) a fun τ z3 => GB θ p l e 63 s m args below meth c 4 (some (.int r.1), r.2) 71 [(0, .ref (be θ + 565)), (1, .int x1), (2, .int y2), (3, .int z3)] [] τ) a :=
  loopF_by (P := (fun a => @Prod.casesOn (Mem) (Int32) (fun _ => Prop) a fun τ z3 => GB θ p l e 63 s m args below meth c 4 (some (.int r.1), r.2) 71 [(0, .ref (be θ + 565)), (1, .int x1), (2, .int y2), (3, .int z3)] [] τ)) (K := (fun b => b = r)) (fun a x h hk => by obtain ⟨τ, z3⟩ := a; exact gs_Model_text_L71 X hr hlk   τ z3 x h hk) n a b h hk
set_option maxHeartbeats 4000000 in
set_option maxRecDepth 20000 in
theorem g_Model_text_J43 (X : Cx θ p s m args c cX11_text 4 RX11) (hr : meth.sig.returnType = some .int) (hlk : meth.locks = false)  {σ : Mem} {x1 : Int32} {r : Int32 × Mem}  (h : f_Model_text_J43 σ x1 = some r) : GB θ p l e 63 s m args below meth c 4 (some (.int r.1), r.2) 43 [(0, .ref (be θ + 565)), (1, .int x1)] [] σ := by
  unfold f_Model_text_J43 at h
  refine g_aload_n X dX11_text_43 rfl 0 rfl ?_
  refine g_iload_n X dX11_text_44 rfl 1 rfl ?_
  obtain ⟨q5, hq5, h⟩ := Option.bind_eq_some_iff.mp h
  refine g_cV X (c_Model_fault  hq5) lk_RX11_305 my_X11_fault (a := 565) (ci := 11) kd_565 (by decide) rfl (As := [.int x1]) (rest := []) rfl rfl (Nat.le_of_ble_eq_true rfl) ⟨(Nat.le_of_ble_eq_true rfl), (Nat.le_of_ble_eq_true rfl)⟩ ⟨(Nat.le_of_ble_eq_true rfl), (Nat.le_of_ble_eq_true rfl)⟩ dX11_text_45 (st' := [.int q5.1]) (σ' := q5.2) rfl rfl ?_
  refine g_iconst X dX11_text_48 (v := (-1 : Int32)) ic_m1 ?_
  refine g_icmp_eq (tgt := 54) X dX11_text_49 (by decide) (fun c6 => ?_) (fun c6 => ?_)
  · replace h := (if_pos c6).symm.trans h
    refine g_aload_n X dX11_text_54 rfl 0 rfl ?_
    refine g_get X fl_RX11_125 dX11_text_55 kd_565 (v := .int (mI q5.2 565 6)) rfl ?_
    refine g_istore_n X dX11_text_58 rfl (by decide) (lv' := [(2, .int (mI q5.2 565 6)), (0, .ref (be θ + 565)), (1, .int x1)]) rfl ?_
    refine g_aload_n X dX11_text_59 rfl 1 rfl ?_
    refine g_iconst X dX11_text_60 (v := (0 : Int32)) ic_0 ?_
    refine g_putI X fl_RX11_125 dX11_text_61 kd_565 rfl rfl rfl ?_
    refine g_iload_n X dX11_text_64 rfl 2 rfl ?_
    refine g_iconst X dX11_text_65 (v := (1 : Int32)) ic_1 ?_
    refine g_icmp_ne (tgt := 130) X dX11_text_66 (by decide) (fun c7 => ?_) (fun c7 => ?_)
    · replace h := (if_neg c7).symm.trans h
      refine g_iload_n X dX11_text_130 rfl 2 rfl ?_
      refine g_iconst X dX11_text_131 (v := (2 : Int32)) ic_2 ?_
      refine g_icmp_ne (tgt := 205) X dX11_text_132 (by decide) (fun c8 => ?_) (fun c8 => ?_)
      · replace h := (if_neg c8).symm.trans h
        refine g_aload_n X dX11_text_205 rfl 1 rfl ?_
        refine g_aload_n X dX11_text_206 rfl 1 rfl ?_
        refine g_get X fl_RX11_261 dX11_text_207 kd_565 (v := .int (mI (sI q5.2 565 6 (0 : Int32)) 565 28)) rfl ?_
        refine g_putI X fl_RX11_307 dX11_text_210 kd_565 rfl rfl rfl ?_
        refine g_aload_n X dX11_text_213 rfl 1 rfl ?_
        refine g_aload_n X dX11_text_214 rfl 1 rfl ?_
        refine g_get X fl_RX11_264 dX11_text_215 kd_565 (v := .int (mI (sI (sI q5.2 565 6 (0 : Int32)) 565 26 (mI (sI q5.2 565 6 (0 : Int32)) 565 28)) 565 29)) rfl ?_
        refine g_putI X fl_RX11_310 dX11_text_218 kd_565 rfl rfl rfl ?_
        refine g_iconst X dX11_text_221 (v := (0 : Int32)) ic_0 ?_
        refine g_istore_n X dX11_text_222 rfl (by decide) (lv' := [(3, .int (0 : Int32)), (2, .int (mI q5.2 565 6)), (0, .ref (be θ + 565)), (1, .int x1)]) rfl ?_
        obtain ⟨w11, hq11, h⟩ := Option.bind_eq_some_iff.mp h
        refine g_sub (lv' := [(0, .ref (be θ + 565)), (1, .int x1), (3, .int (0 : Int32))]) [2, 3, 0] rfl (gl_Model_text_L223 X hr hlk    FU _ w11 hq11 ?_)
        refine g_iconst X dX11_text_246 (v := (0 : Int32)) ic_0 ?_
        refine g_istore_n X dX11_text_247 rfl (by decide) (lv' := [(3, .int (0 : Int32)), (0, .ref (be θ + 565)), (1, .int x1)]) rfl ?_
        obtain ⟨w14, hq14, h⟩ := Option.bind_eq_some_iff.mp h
        refine g_sub (lv' := [(0, .ref (be θ + 565)), (1, .int x1), (3, .int (0 : Int32))]) [1, 2, 0] rfl (gl_Model_text_L248 X hr hlk    FU _ w14 hq14 ?_)
        refine g_iconst X dX11_text_272 (v := (0 : Int32)) ic_0 ?_
        refine g_istore_n X dX11_text_273 rfl (by decide) (lv' := [(3, .int (0 : Int32)), (0, .ref (be θ + 565)), (1, .int x1)]) rfl ?_
        exact g_sub (lv' := [(0, .ref (be θ + 565)), (1, .int x1), (3, .int (0 : Int32))]) [1, 2, 0] rfl (gl_Model_text_L274 X hr hlk    FU _ _ h rfl)
      · replace h := (if_pos c8).symm.trans h
        refine g_iconst X dX11_text_135 (v := (0 : Int32)) ic_0 ?_
        refine g_istore_n X dX11_text_136 rfl (by decide) (lv' := [(3, .int (0 : Int32)), (2, .int (mI q5.2 565 6)), (0, .ref (be θ + 565)), (1, .int x1)]) rfl ?_
        exact g_sub (lv' := [(0, .ref (be θ + 565)), (1, .int x1), (3, .int (0 : Int32))]) [2, 3, 0] rfl (gl_Model_text_L137 X hr hlk    FU _ _ h rfl)
    · replace h := (if_pos c7).symm.trans h
      refine g_iconst X dX11_text_69 (v := (0 : Int32)) ic_0 ?_
      refine g_istore_n X dX11_text_70 rfl (by decide) (lv' := [(3, .int (0 : Int32)), (2, .int (mI q5.2 565 6)), (0, .ref (be θ + 565)), (1, .int x1)]) rfl ?_
      exact g_sub (lv' := [(0, .ref (be θ + 565)), (1, .int x1), (2, .int (mI q5.2 565 6)), (3, .int (0 : Int32))]) [2, 3, 1, 0] rfl (gl_Model_text_L71 X hr hlk    FU _ _ h rfl)
  · replace h := (if_neg c6).symm.trans h
    refine g_iconst X dX11_text_52 (v := (-1 : Int32)) ic_m1 ?_
    exact g_iret X hr hlk dX11_text_53 (by cases h; rfl)
set_option maxHeartbeats 4000000 in
set_option maxRecDepth 20000 in
theorem g_Model_text_J30 (X : Cx θ p s m args c cX11_text 4 RX11) (hr : meth.sig.returnType = some .int) (hlk : meth.locks = false)  {σ : Mem} {x1 : Int32} {r : Int32 × Mem}  (h : f_Model_text_J30 σ x1 = some r) : GB θ p l e 63 s m args below meth c 4 (some (.int r.1), r.2) 30 [(0, .ref (be θ + 565)), (1, .int x1)] [] σ := by
  unfold f_Model_text_J30 at h
  refine g_iload_n X dX11_text_30 rfl 1 rfl ?_
  refine g_iconst X dX11_text_31 (v := (2 : Int32)) ic_2 ?_
  refine g_icmp_ne (tgt := 43) X dX11_text_32 (by decide) (fun c4 => ?_) (fun c4 => ?_)
  · replace h := (if_neg c4).symm.trans h
    exact g_sub (lv' := [(0, .ref (be θ + 565)), (1, .int x1)]) [0, 1] rfl (g_Model_text_J43 X hr hlk    h)
  · replace h := (if_pos c4).symm.trans h
    refine g_aload_n X dX11_text_35 rfl 0 rfl ?_
    refine g_get X fl_RX11_302 dX11_text_36 kd_565 (v := .int (mI σ 565 30)) rfl ?_
    refine g_iconst X dX11_text_39 (v := (4 : Int32)) ic_4 ?_
    refine g_icmp_eq (tgt := 52) X dX11_text_40 (by decide) (fun c26 => ?_) (fun c26 => ?_)
    · replace h := (if_pos c26).symm.trans h
      refine g_iconst X dX11_text_52 (v := (-1 : Int32)) ic_m1 ?_
      exact g_iret X hr hlk dX11_text_53 (by cases h; rfl)
    · replace h := (if_neg c26).symm.trans h
      exact g_sub (lv' := [(0, .ref (be θ + 565)), (1, .int x1)]) [0, 1] rfl (g_Model_text_J43 X hr hlk    h)
set_option maxHeartbeats 4000000 in
set_option maxRecDepth 20000 in
theorem g_Model_text (X : Cx θ p s m args c cX11_text 4 RX11) (hr : meth.sig.returnType = some .int) (hlk : meth.locks = false)  {σ : Mem} {x1 : Int32} {r : Int32 × Mem}  (h : f_Model_text σ x1 = some r) : GB θ p l e 63 s m args below meth c 4 (some (.int r.1), r.2) 0 [(0, .ref (be θ + 565)), (1, .int x1)] [] σ := by
  unfold f_Model_text at h
  refine g_aload_n X dX11_text_0 rfl 0 rfl ?_
  refine g_iconst X dX11_text_1 (v := (0 : Int32)) ic_0 ?_
  refine g_putI X fl_RX11_112 dX11_text_2 kd_565 rfl rfl rfl ?_
  refine g_iload_n X dX11_text_5 rfl 1 rfl ?_
  refine g_i2l X dX11_text_6 (v := ((x1).toInt64)) rfl ?_
  refine g_lconst X dX11_text_7 (v := (0 : Int64)) rfl ?_
  refine g_ldc2 X cst_RX11_288 dX11_text_8 ?_
  obtain ⟨q1, hq1, h⟩ := Option.bind_eq_some_iff.mp h
  refine g_cS X (c_Model_isIn  hq1) lk_RX11_233 my_X11_isIn (As := [.long ((x1).toInt64), .long (0 : Int64), .long (2 : Int64)]) (rest := []) rfl rfl (Nat.le_of_ble_eq_true rfl) ⟨(Nat.le_of_ble_eq_true rfl), (Nat.le_of_ble_eq_true rfl)⟩ ⟨(Nat.le_of_ble_eq_true rfl), (Nat.le_of_ble_eq_true rfl)⟩ dX11_text_11 (st' := [.int q1]) (σ' := (sI σ 565 0 (0 : Int32))) rfl rfl ?_
  refine g_if_eq (tgt := 52) X dX11_text_14 (by decide) (fun c2 => ?_) (fun c2 => ?_)
  · replace h := (if_pos c2).symm.trans h
    refine g_iconst X dX11_text_52 (v := (-1 : Int32)) ic_m1 ?_
    exact g_iret X hr hlk dX11_text_53 (by cases h; rfl)
  · replace h := (if_neg c2).symm.trans h
    refine g_iload_n X dX11_text_17 rfl 1 rfl ?_
    refine g_iconst X dX11_text_18 (v := (1 : Int32)) ic_1 ?_
    refine g_icmp_ne (tgt := 30) X dX11_text_19 (by decide) (fun c3 => ?_) (fun c3 => ?_)
    · replace h := (if_neg c3).symm.trans h
      exact g_sub (lv' := [(0, .ref (be θ + 565)), (1, .int x1)]) [0, 1] rfl (g_Model_text_J30 X hr hlk    h)
    · replace h := (if_pos c3).symm.trans h
      refine g_aload_n X dX11_text_22 rfl 0 rfl ?_
      refine g_get X fl_RX11_299 dX11_text_23 kd_565 (v := .int (mI (sI σ 565 0 (0 : Int32)) 565 7)) rfl ?_
      refine g_iconst X dX11_text_26 (v := (4 : Int32)) ic_4 ?_
      refine g_icmp_eq (tgt := 52) X dX11_text_27 (by decide) (fun c27 => ?_) (fun c27 => ?_)
      · replace h := (if_pos c27).symm.trans h
        refine g_iconst X dX11_text_52 (v := (-1 : Int32)) ic_m1 ?_
        exact g_iret X hr hlk dX11_text_53 (by cases h; rfl)
      · replace h := (if_neg c27).symm.trans h
        exact g_sub (lv' := [(0, .ref (be θ + 565)), (1, .int x1)]) [0, 1] rfl (g_Model_text_J30 X hr hlk    h)
set_option maxHeartbeats 4000000 in
set_option maxRecDepth 20000 in
theorem c_Model_text {θ : Th} {l : Launch} {σ : Mem} {x1 : Int32} {r : Int32 × Mem}  (h : f_Model_text σ x1 = some r) : Cn θ l yX11_text cX11_text 4 (some .int) 63 0 0 [.ref (be θ + 565), .int x1] σ (some (.int r.1), r.2) :=
  Cn.of (by decide) (Nat.le_of_ble_eq_true rfl) (fun p e s m below meth c X hr hlk => g_Model_text X hr hlk  h)
theorem dX11_copy_0 : decode cX11_copy 0 = .ok (.iconst 0, 1) := by decide +kernel
theorem dX11_copy_1 : decode cX11_copy 1 = .ok (.istore_n 2, 1) := by decide +kernel
theorem dX11_copy_2 : decode cX11_copy 2 = .ok (.iload_n 2, 1) := by decide +kernel
theorem dX11_copy_3 : decode cX11_copy 3 = .ok (.sipush 131, 3) := by decide +kernel
theorem dX11_copy_6 : decode cX11_copy 6 = .ok (.if_icmp .ge 15, 3) := by decide +kernel
theorem dX11_copy_9 : decode cX11_copy 9 = .ok (.aload_n 1, 1) := by decide +kernel
theorem dX11_copy_10 : decode cX11_copy 10 = .ok (.iload_n 2, 1) := by decide +kernel
theorem dX11_copy_11 : decode cX11_copy 11 = .ok (.aload_n 0, 1) := by decide +kernel
theorem dX11_copy_12 : decode cX11_copy 12 = .ok (.iload_n 2, 1) := by decide +kernel
theorem dX11_copy_13 : decode cX11_copy 13 = .ok (.iaload, 1) := by decide +kernel
theorem dX11_copy_14 : decode cX11_copy 14 = .ok (.iastore, 1) := by decide +kernel
theorem dX11_copy_15 : decode cX11_copy 15 = .ok (.iinc 2 1, 3) := by decide +kernel
theorem dX11_copy_18 : decode cX11_copy 18 = .ok (.goto (-16), 3) := by decide +kernel
theorem dX11_copy_21 : decode cX11_copy 21 = .ok (.return_, 1) := by decide +kernel
def f_Model_copy_L2 (x0 : Nat) (x1 : Nat) (a : Mem × Int32) : Option ((Mem × Int32) ⊕ (Mem)) :=
  @Prod.casesOn (Mem) (Int32) (fun _ => Option ((Mem × Int32) ⊕ (Mem))) a fun τ z2 =>
  if (131 : Int32) ≤ z2 then
    some (.inr τ)
  else
    if inb z2 (ln x0) then
      if inb z2 (ln x1) then
        some (.inl ((sI τ x1 z2.toNatClampNeg (mI τ x0 z2.toNatClampNeg)), (z2 + (1 : Int32))))
      else none
    else none
def f_Model_copy (σ : Mem) (x0 : Nat) (x1 : Nat) : Option (Mem) :=
  loopF (f_Model_copy_L2 x0 x1) FU (σ, (0 : Int32))
set_option maxHeartbeats 4000000 in
set_option maxRecDepth 20000 in
theorem gs_Model_copy_L2 (X : Cx θ p s m args c cX11_copy 3 RX11) (hr : meth.sig.returnType = none) (hlk : meth.locks = false)  {x0 : Nat} {x1 : Nat} {r : Mem} (h0 : kd x0 = 13) (h1 : kd x1 = 13) (τ : Mem) (z2 : Int32) (x : (Mem × Int32) ⊕ (Mem)) (h : f_Model_copy_L2 x0 x1 (τ, z2) = some x) (hk : Sum.elim (fun a => @Prod.casesOn (Mem) (Int32) (fun _ => Prop) a fun τ z2 => GB θ p l e 0 s m args below meth c 3 (none, r) 2 [(0, .ref (be θ + x0)), (1, .ref (be θ + x1)), (2, .int z2)] [] τ) (fun b => b = r) x) : GB θ p l e 0 s m args below meth c 3 (none, r) 2 [(0, .ref (be θ + x0)), (1, .ref (be θ + x1)), (2, .int z2)] [] τ := by
  unfold f_Model_copy_L2 at h
  dsimp only at h
  refine g_iload_n X dX11_copy_2 rfl 2 rfl ?_
  refine g_sipush X dX11_copy_3 (v := (131 : Int32)) sp_131 ?_
  refine g_icmp_ge (tgt := 21) X dX11_copy_6 (by decide) (fun c1 => ?_) (fun c1 => ?_)
  · replace h := (if_pos c1).symm.trans h
    have hk := inr_hk h hk
    have hk : τ = r := hk
    subst hk
    exact g_vret X hr hlk dX11_copy_21 rfl
  · replace h := (if_neg c1).symm.trans h
    refine g_aload_n X dX11_copy_9 rfl 1 rfl ?_
    refine g_iload_n X dX11_copy_10 rfl 2 rfl ?_
    refine g_aload_n X dX11_copy_11 rfl 0 rfl ?_
    refine g_iload_n X dX11_copy_12 rfl 2 rfl ?_
    obtain ⟨g2, h⟩ := ite_some h
    refine g_iald X h0 rfl (inb_in g2) dX11_copy_13 ?_
    obtain ⟨g3, h⟩ := ite_some h
    refine g_iast X h1 rfl (inb_in g3) dX11_copy_14 ?_
    refine g_iinc X dX11_copy_15 (kq := 2) rfl (congrArg (HAdd.hAdd _) ic_1) (by decide) (lv' := [(2, .int (z2 + (1 : Int32))), (0, .ref (be θ + x0)), (1, .ref (be θ + x1))]) rfl ?_
    refine g_goto (tgt := 2) X dX11_copy_18 (by decide) ?_
    have hk := inl_hk h hk
    exact g_sub (lv' := [(0, .ref (be θ + x0)), (1, .ref (be θ + x1)), (2, .int (z2 + (1 : Int32)))]) [1, 2, 0] rfl hk
set_option maxHeartbeats 4000000 in
set_option maxRecDepth 20000 in
theorem gl_Model_copy_L2 (X : Cx θ p s m args c cX11_copy 3 RX11) (hr : meth.sig.returnType = none) (hlk : meth.locks = false)  {x0 : Nat} {x1 : Nat} {r : Mem} (h0 : kd x0 = 13) (h1 : kd x1 = 13) (n : Nat) (a : Mem × Int32) (b : Mem) (h : loopF (f_Model_copy_L2 x0 x1) n a = some b) (hk : (fun b => b = r) b) : (fun a => @Prod.casesOn (Mem) (Int32) (fun _ => Prop) a fun τ z2 => GB θ p l e 0 s m args below meth c 3 (none, r) 2 [(0, .ref (be θ + x0)), (1, .ref (be θ + x1)), (2, .int z2)] [] τ) a :=
  loopF_by (P := (fun a => @Prod.casesOn (Mem) (Int32) (fun _ => Prop) a fun τ z2 => GB θ p l e 0 s m args below meth c 3 (none, r) 2 [(0, .ref (be θ + x0)), (1, .ref (be θ + x1)), (2, .int z2)] [] τ)) (K := (fun b => b = r)) (fun a x h hk => by obtain ⟨τ, z2⟩ := a; exact gs_Model_copy_L2 X hr hlk  h0 h1 τ z2 x h hk) n a b h hk
set_option maxHeartbeats 4000000 in
set_option maxRecDepth 20000 in
theorem g_Model_copy (X : Cx θ p s m args c cX11_copy 3 RX11) (hr : meth.sig.returnType = none) (hlk : meth.locks = false)  {σ : Mem} {x0 : Nat} {x1 : Nat} {r : Mem} (h0 : kd x0 = 13) (h1 : kd x1 = 13) (h : f_Model_copy σ x0 x1 = some r) : GB θ p l e 0 s m args below meth c 3 (none, r) 0 [(0, .ref (be θ + x0)), (1, .ref (be θ + x1))] [] σ := by
  unfold f_Model_copy at h
  refine g_iconst X dX11_copy_0 (v := (0 : Int32)) ic_0 ?_
  refine g_istore_n X dX11_copy_1 rfl (by decide) (lv' := [(2, .int (0 : Int32)), (0, .ref (be θ + x0)), (1, .ref (be θ + x1))]) rfl ?_
  exact g_sub (lv' := [(0, .ref (be θ + x0)), (1, .ref (be θ + x1)), (2, .int (0 : Int32))]) [1, 2, 0] rfl (gl_Model_copy_L2 X hr hlk  h0 h1  FU _ _ h rfl)
set_option maxHeartbeats 4000000 in
set_option maxRecDepth 20000 in
theorem c_Model_copy {θ : Th} {l : Launch} {σ : Mem} {x0 : Nat} {x1 : Nat} {r : Mem} (h0 : kd x0 = 13) (h1 : kd x1 = 13) (h : f_Model_copy σ x0 x1 = some r) : Cn θ l yX11_copy cX11_copy 3 (none) 0 0 0 [.ref (be θ + x0), .ref (be θ + x1)] σ (none, r) :=
  Cn.of (by decide) (Nat.le_of_ble_eq_true rfl) (fun p e s m below meth c X hr hlk => g_Model_copy X hr hlk h0 h1 h)
theorem dX11_isThing_0 : decode cX11_isThing 0 = .ok (.iload_n 1, 1) := by decide +kernel
theorem dX11_isThing_1 : decode cX11_isThing 1 = .ok (.ifCond .lt 15, 3) := by decide +kernel
theorem dX11_isThing_4 : decode cX11_isThing 4 = .ok (.iload_n 1, 1) := by decide +kernel
theorem dX11_isThing_5 : decode cX11_isThing 5 = .ok (.aload_n 0, 1) := by decide +kernel
theorem dX11_isThing_6 : decode cX11_isThing 6 = .ok (.getfield 307, 3) := by decide +kernel
theorem dX11_isThing_9 : decode cX11_isThing 9 = .ok (.if_icmp .ge 7, 3) := by decide +kernel
theorem dX11_isThing_12 : decode cX11_isThing 12 = .ok (.iconst 1, 1) := by decide +kernel
theorem dX11_isThing_13 : decode cX11_isThing 13 = .ok (.goto 4, 3) := by decide +kernel
theorem dX11_isThing_16 : decode cX11_isThing 16 = .ok (.iconst 0, 1) := by decide +kernel
theorem dX11_isThing_17 : decode cX11_isThing 17 = .ok (.ireturn, 1) := by decide +kernel
def f_Model_isThing (σ : Mem) (x1 : Int32) : Option (Int32) :=
  if x1 < (0 : Int32) then
    some (0 : Int32)
  else
    if (mI σ 565 26) ≤ x1 then
      some (0 : Int32)
    else
      some (1 : Int32)
set_option maxHeartbeats 4000000 in
set_option maxRecDepth 20000 in
theorem g_Model_isThing (X : Cx θ p s m args c cX11_isThing 2 RX11) (hr : meth.sig.returnType = some .boolean) (hlk : meth.locks = false)  {σ : Mem} {x1 : Int32} {r : Int32}  (h : f_Model_isThing σ x1 = some r) : GB θ p l e 0 s m args below meth c 2 (some (.int r), σ) 0 [(0, .ref (be θ + 565)), (1, .int x1)] [] σ := by
  unfold f_Model_isThing at h
  refine g_iload_n X dX11_isThing_0 rfl 1 rfl ?_
  refine g_if_lt (tgt := 16) X dX11_isThing_1 (by decide) (fun c1 => ?_) (fun c1 => ?_)
  · replace h := (if_pos c1).symm.trans h
    refine g_iconst X dX11_isThing_16 (v := (0 : Int32)) ic_0 ?_
    exact g_zret X hr hlk bz0 dX11_isThing_17 (by cases h; rfl)
  · replace h := (if_neg c1).symm.trans h
    refine g_iload_n X dX11_isThing_4 rfl 1 rfl ?_
    refine g_aload_n X dX11_isThing_5 rfl 0 rfl ?_
    refine g_get X fl_RX11_307 dX11_isThing_6 kd_565 (v := .int (mI σ 565 26)) rfl ?_
    refine g_icmp_ge (tgt := 16) X dX11_isThing_9 (by decide) (fun c2 => ?_) (fun c2 => ?_)
    · replace h := (if_pos c2).symm.trans h
      refine g_iconst X dX11_isThing_16 (v := (0 : Int32)) ic_0 ?_
      exact g_zret X hr hlk bz0 dX11_isThing_17 (by cases h; rfl)
    · replace h := (if_neg c2).symm.trans h
      refine g_iconst X dX11_isThing_12 (v := (1 : Int32)) ic_1 ?_
      refine g_goto (tgt := 17) X dX11_isThing_13 (by decide) ?_
      exact g_zret X hr hlk bz1 dX11_isThing_17 (by cases h; rfl)
set_option maxHeartbeats 4000000 in
set_option maxRecDepth 20000 in
theorem c_Model_isThing {θ : Th} {l : Launch} {σ : Mem} {x1 : Int32} {r : Int32}  (h : f_Model_isThing σ x1 = some r) : Cn θ l yX11_isThing cX11_isThing 2 (some .boolean) 0 0 0 [.ref (be θ + 565), .int x1] σ (some (.int r), σ) :=
  Cn.of (by decide) (Nat.le_of_ble_eq_true rfl) (fun p e s m below meth c X hr hlk => g_Model_isThing X hr hlk  h)
theorem dX11_isBuyer_0 : decode cX11_isBuyer 0 = .ok (.iload_n 1, 1) := by decide +kernel
theorem dX11_isBuyer_1 : decode cX11_isBuyer 1 = .ok (.ifCond .lt 15, 3) := by decide +kernel
theorem dX11_isBuyer_4 : decode cX11_isBuyer 4 = .ok (.iload_n 1, 1) := by decide +kernel
theorem dX11_isBuyer_5 : decode cX11_isBuyer 5 = .ok (.aload_n 0, 1) := by decide +kernel
theorem dX11_isBuyer_6 : decode cX11_isBuyer 6 = .ok (.getfield 310, 3) := by decide +kernel
theorem dX11_isBuyer_9 : decode cX11_isBuyer 9 = .ok (.if_icmp .ge 7, 3) := by decide +kernel
theorem dX11_isBuyer_12 : decode cX11_isBuyer 12 = .ok (.iconst 1, 1) := by decide +kernel
theorem dX11_isBuyer_13 : decode cX11_isBuyer 13 = .ok (.goto 4, 3) := by decide +kernel
theorem dX11_isBuyer_16 : decode cX11_isBuyer 16 = .ok (.iconst 0, 1) := by decide +kernel
theorem dX11_isBuyer_17 : decode cX11_isBuyer 17 = .ok (.ireturn, 1) := by decide +kernel
def f_Model_isBuyer (σ : Mem) (x1 : Int32) : Option (Int32) :=
  if x1 < (0 : Int32) then
    some (0 : Int32)
  else
    if (mI σ 565 27) ≤ x1 then
      some (0 : Int32)
    else
      some (1 : Int32)
set_option maxHeartbeats 4000000 in
set_option maxRecDepth 20000 in
theorem g_Model_isBuyer (X : Cx θ p s m args c cX11_isBuyer 2 RX11) (hr : meth.sig.returnType = some .boolean) (hlk : meth.locks = false)  {σ : Mem} {x1 : Int32} {r : Int32}  (h : f_Model_isBuyer σ x1 = some r) : GB θ p l e 0 s m args below meth c 2 (some (.int r), σ) 0 [(0, .ref (be θ + 565)), (1, .int x1)] [] σ := by
  unfold f_Model_isBuyer at h
  refine g_iload_n X dX11_isBuyer_0 rfl 1 rfl ?_
  refine g_if_lt (tgt := 16) X dX11_isBuyer_1 (by decide) (fun c1 => ?_) (fun c1 => ?_)
  · replace h := (if_pos c1).symm.trans h
    refine g_iconst X dX11_isBuyer_16 (v := (0 : Int32)) ic_0 ?_
    exact g_zret X hr hlk bz0 dX11_isBuyer_17 (by cases h; rfl)
  · replace h := (if_neg c1).symm.trans h
    refine g_iload_n X dX11_isBuyer_4 rfl 1 rfl ?_
    refine g_aload_n X dX11_isBuyer_5 rfl 0 rfl ?_
    refine g_get X fl_RX11_310 dX11_isBuyer_6 kd_565 (v := .int (mI σ 565 27)) rfl ?_
    refine g_icmp_ge (tgt := 16) X dX11_isBuyer_9 (by decide) (fun c2 => ?_) (fun c2 => ?_)
    · replace h := (if_pos c2).symm.trans h
      refine g_iconst X dX11_isBuyer_16 (v := (0 : Int32)) ic_0 ?_
      exact g_zret X hr hlk bz0 dX11_isBuyer_17 (by cases h; rfl)
    · replace h := (if_neg c2).symm.trans h
      refine g_iconst X dX11_isBuyer_12 (v := (1 : Int32)) ic_1 ?_
      refine g_goto (tgt := 17) X dX11_isBuyer_13 (by decide) ?_
      exact g_zret X hr hlk bz1 dX11_isBuyer_17 (by cases h; rfl)
set_option maxHeartbeats 4000000 in
set_option maxRecDepth 20000 in
theorem c_Model_isBuyer {θ : Th} {l : Launch} {σ : Mem} {x1 : Int32} {r : Int32}  (h : f_Model_isBuyer σ x1 = some r) : Cn θ l yX11_isBuyer cX11_isBuyer 2 (some .boolean) 0 0 0 [.ref (be θ + 565), .int x1] σ (some (.int r), σ) :=
  Cn.of (by decide) (Nat.le_of_ble_eq_true rfl) (fun p e s m below meth c X hr hlk => g_Model_isBuyer X hr hlk  h)
theorem dX11_isFree_0 : decode cX11_isFree 0 = .ok (.aload_n 0, 1) := by decide +kernel
theorem dX11_isFree_1 : decode cX11_isFree 1 = .ok (.iload_n 2, 1) := by decide +kernel
theorem dX11_isFree_2 : decode cX11_isFree 2 = .ok (.invokevirtual 326, 3) := by decide +kernel
theorem dX11_isFree_5 : decode cX11_isFree 5 = .ok (.ifCond .eq 14, 3) := by decide +kernel
theorem dX11_isFree_8 : decode cX11_isFree 8 = .ok (.aload_n 1, 1) := by decide +kernel
theorem dX11_isFree_9 : decode cX11_isFree 9 = .ok (.iload_n 2, 1) := by decide +kernel
theorem dX11_isFree_10 : decode cX11_isFree 10 = .ok (.iaload, 1) := by decide +kernel
theorem dX11_isFree_11 : decode cX11_isFree 11 = .ok (.iconst (-1), 1) := by decide +kernel
theorem dX11_isFree_12 : decode cX11_isFree 12 = .ok (.if_icmp .ne 7, 3) := by decide +kernel
theorem dX11_isFree_15 : decode cX11_isFree 15 = .ok (.iconst 1, 1) := by decide +kernel
theorem dX11_isFree_16 : decode cX11_isFree 16 = .ok (.goto 4, 3) := by decide +kernel
theorem dX11_isFree_19 : decode cX11_isFree 19 = .ok (.iconst 0, 1) := by decide +kernel
theorem dX11_isFree_20 : decode cX11_isFree 20 = .ok (.ireturn, 1) := by decide +kernel
def f_Model_isFree (σ : Mem) (x1 : Nat) (x2 : Int32) : Option (Int32) :=
  (f_Model_isThing σ x2).bind fun q1 =>
  if q1 = (0 : Int32) then
    some (0 : Int32)
  else
    if inb x2 (ln x1) then
      if (mI σ x1 x2.toNatClampNeg) = (-1 : Int32) then
        some (1 : Int32)
      else
        some (0 : Int32)
    else none
set_option maxHeartbeats 4000000 in
set_option maxRecDepth 20000 in
theorem g_Model_isFree (X : Cx θ p s m args c cX11_isFree 3 RX11) (hr : meth.sig.returnType = some .boolean) (hlk : meth.locks = false)  {σ : Mem} {x1 : Nat} {x2 : Int32} {r : Int32} (h1 : kd x1 = 13) (h : f_Model_isFree σ x1 x2 = some r) : GB θ p l e 1 s m args below meth c 3 (some (.int r), σ) 0 [(0, .ref (be θ + 565)), (1, .ref (be θ + x1)), (2, .int x2)] [] σ := by
  unfold f_Model_isFree at h
  refine g_aload_n X dX11_isFree_0 rfl 0 rfl ?_
  refine g_iload_n X dX11_isFree_1 rfl 2 rfl ?_
  obtain ⟨q1, hq1, h⟩ := Option.bind_eq_some_iff.mp h
  refine g_cV X (c_Model_isThing  hq1) lk_RX11_326 my_X11_isThing (a := 565) (ci := 11) kd_565 (by decide) rfl (As := [.int x2]) (rest := []) rfl rfl (Nat.le_of_ble_eq_true rfl) ⟨(Nat.le_of_ble_eq_true rfl), (Nat.le_of_ble_eq_true rfl)⟩ ⟨(Nat.le_of_ble_eq_true rfl), (Nat.le_of_ble_eq_true rfl)⟩ dX11_isFree_2 (st' := [.int q1]) (σ' := σ) rfl rfl ?_
  refine g_if_eq (tgt := 19) X dX11_isFree_5 (by decide) (fun c2 => ?_) (fun c2 => ?_)
  · replace h := (if_pos c2).symm.trans h
    refine g_iconst X dX11_isFree_19 (v := (0 : Int32)) ic_0 ?_
    exact g_zret X hr hlk bz0 dX11_isFree_20 (by cases h; rfl)
  · replace h := (if_neg c2).symm.trans h
    refine g_aload_n X dX11_isFree_8 rfl 1 rfl ?_
    refine g_iload_n X dX11_isFree_9 rfl 2 rfl ?_
    obtain ⟨g3, h⟩ := ite_some h
    refine g_iald X h1 rfl (inb_in g3) dX11_isFree_10 ?_
    refine g_iconst X dX11_isFree_11 (v := (-1 : Int32)) ic_m1 ?_
    refine g_icmp_ne (tgt := 19) X dX11_isFree_12 (by decide) (fun c4 => ?_) (fun c4 => ?_)
    · replace h := (if_neg c4).symm.trans h
      refine g_iconst X dX11_isFree_19 (v := (0 : Int32)) ic_0 ?_
      exact g_zret X hr hlk bz0 dX11_isFree_20 (by cases h; rfl)
    · replace h := (if_pos c4).symm.trans h
      refine g_iconst X dX11_isFree_15 (v := (1 : Int32)) ic_1 ?_
      refine g_goto (tgt := 20) X dX11_isFree_16 (by decide) ?_
      exact g_zret X hr hlk bz1 dX11_isFree_20 (by cases h; rfl)
set_option maxHeartbeats 4000000 in
set_option maxRecDepth 20000 in
theorem c_Model_isFree {θ : Th} {l : Launch} {σ : Mem} {x1 : Nat} {x2 : Int32} {r : Int32} (h1 : kd x1 = 13) (h : f_Model_isFree σ x1 x2 = some r) : Cn θ l yX11_isFree cX11_isFree 3 (some .boolean) 1 0 0 [.ref (be θ + 565), .ref (be θ + x1), .int x2] σ (some (.int r), σ) :=
  Cn.of (by decide) (Nat.le_of_ble_eq_true rfl) (fun p e s m below meth c X hr hlk => g_Model_isFree X hr hlk h1 h)
theorem dX11_holds_0 : decode cX11_holds 0 = .ok (.iconst 0, 1) := by decide +kernel
theorem dX11_holds_1 : decode cX11_holds 1 = .ok (.istore_n 3, 1) := by decide +kernel
theorem dX11_holds_2 : decode cX11_holds 2 = .ok (.iload_n 3, 1) := by decide +kernel
theorem dX11_holds_3 : decode cX11_holds 3 = .ok (.aload_n 0, 1) := by decide +kernel
theorem dX11_holds_4 : decode cX11_holds 4 = .ok (.getfield 307, 3) := by decide +kernel
theorem dX11_holds_7 : decode cX11_holds 7 = .ok (.if_icmp .ge 27, 3) := by decide +kernel
theorem dX11_holds_10 : decode cX11_holds 10 = .ok (.aload_n 1, 1) := by decide +kernel
theorem dX11_holds_11 : decode cX11_holds 11 = .ok (.iload_n 3, 1) := by decide +kernel
theorem dX11_holds_12 : decode cX11_holds 12 = .ok (.iaload, 1) := by decide +kernel
theorem dX11_holds_13 : decode cX11_holds 13 = .ok (.iload_n 2, 1) := by decide +kernel
theorem dX11_holds_14 : decode cX11_holds 14 = .ok (.if_icmp .ne 14, 3) := by decide +kernel
theorem dX11_holds_17 : decode cX11_holds 17 = .ok (.aload_n 1, 1) := by decide +kernel
theorem dX11_holds_18 : decode cX11_holds 18 = .ok (.bipush 8, 2) := by decide +kernel
theorem dX11_holds_20 : decode cX11_holds 20 = .ok (.iload_n 3, 1) := by decide +kernel
theorem dX11_holds_21 : decode cX11_holds 21 = .ok (.iadd, 1) := by decide +kernel
theorem dX11_holds_22 : decode cX11_holds 22 = .ok (.iaload, 1) := by decide +kernel
theorem dX11_holds_23 : decode cX11_holds 23 = .ok (.ifCond .ne 5, 3) := by decide +kernel
theorem dX11_holds_26 : decode cX11_holds 26 = .ok (.iload_n 3, 1) := by decide +kernel
theorem dX11_holds_27 : decode cX11_holds 27 = .ok (.ireturn, 1) := by decide +kernel
theorem dX11_holds_28 : decode cX11_holds 28 = .ok (.iinc 3 1, 3) := by decide +kernel
theorem dX11_holds_31 : decode cX11_holds 31 = .ok (.goto (-29), 3) := by decide +kernel
theorem dX11_holds_34 : decode cX11_holds 34 = .ok (.iconst (-1), 1) := by decide +kernel
theorem dX11_holds_35 : decode cX11_holds 35 = .ok (.ireturn, 1) := by decide +kernel
def f_Model_holds_L2 (σ : Mem) (x1 : Nat) (x2 : Int32) (a : Int32) : Option ((Int32) ⊕ (Int32)) :=
  if (mI σ 565 26) ≤ a then
    some (.inr (-1 : Int32))
  else
    if inb a (ln x1) then
      if (mI σ x1 a.toNatClampNeg) = x2 then
        if inb ((8 : Int32) + a) (ln x1) then
          if (mI σ x1 ((8 : Int32) + a).toNatClampNeg) = (0 : Int32) then
            some (.inr a)
          else
            some (.inl (a + (1 : Int32)))
        else none
      else
        some (.inl (a + (1 : Int32)))
    else none
def f_Model_holds (σ : Mem) (x1 : Nat) (x2 : Int32) : Option (Int32) :=
  loopF (f_Model_holds_L2 σ x1 x2) FU (0 : Int32)
set_option maxHeartbeats 4000000 in
set_option maxRecDepth 20000 in
theorem gs_Model_holds_L2 (X : Cx θ p s m args c cX11_holds 4 RX11) (hr : meth.sig.returnType = some .int) (hlk : meth.locks = false)  {σ : Mem} {x1 : Nat} {x2 : Int32} {r : Int32} (h1 : kd x1 = 13) (a : Int32) (x : (Int32) ⊕ (Int32)) (h : f_Model_holds_L2 σ x1 x2 a = some x) (hk : Sum.elim (fun a => GB θ p l e 0 s m args below meth c 4 (some (.int r), σ) 2 [(0, .ref (be θ + 565)), (1, .ref (be θ + x1)), (2, .int x2), (3, .int a)] [] σ) (fun b => b = r) x) : GB θ p l e 0 s m args below meth c 4 (some (.int r), σ) 2 [(0, .ref (be θ + 565)), (1, .ref (be θ + x1)), (2, .int x2), (3, .int a)] [] σ := by
  unfold f_Model_holds_L2 at h
  refine g_iload_n X dX11_holds_2 rfl 3 rfl ?_
  refine g_aload_n X dX11_holds_3 rfl 0 rfl ?_
  refine g_get X fl_RX11_307 dX11_holds_4 kd_565 (v := .int (mI σ 565 26)) rfl ?_
  refine g_icmp_ge (tgt := 34) X dX11_holds_7 (by decide) (fun c1 => ?_) (fun c1 => ?_)
  · replace h := (if_pos c1).symm.trans h
    refine g_iconst X dX11_holds_34 (v := (-1 : Int32)) ic_m1 ?_
    have hk := inr_hk h hk
    have hk : (-1 : Int32) = r := hk
    subst hk
    exact g_iret X hr hlk dX11_holds_35 rfl
  · replace h := (if_neg c1).symm.trans h
    refine g_aload_n X dX11_holds_10 rfl 1 rfl ?_
    refine g_iload_n X dX11_holds_11 rfl 3 rfl ?_
    obtain ⟨g2, h⟩ := ite_some h
    refine g_iald X h1 rfl (inb_in g2) dX11_holds_12 ?_
    refine g_iload_n X dX11_holds_13 rfl 2 rfl ?_
    refine g_icmp_ne (tgt := 28) X dX11_holds_14 (by decide) (fun c3 => ?_) (fun c3 => ?_)
    · replace h := (if_neg c3).symm.trans h
      refine g_iinc X dX11_holds_28 (kq := 3) rfl (congrArg (HAdd.hAdd _) ic_1) (by decide) (lv' := [(3, .int (a + (1 : Int32))), (0, .ref (be θ + 565)), (1, .ref (be θ + x1)), (2, .int x2)]) rfl ?_
      refine g_goto (tgt := 2) X dX11_holds_31 (by decide) ?_
      have hk := inl_hk h hk
      exact g_sub (lv' := [(0, .ref (be θ + 565)), (1, .ref (be θ + x1)), (2, .int x2), (3, .int (a + (1 : Int32)))]) [1, 2, 3, 0] rfl hk
    · replace h := (if_pos c3).symm.trans h
      refine g_aload_n X dX11_holds_17 rfl 1 rfl ?_
      refine g_bipush X dX11_holds_18 (v := (8 : Int32)) bp_8 ?_
      refine g_iload_n X dX11_holds_20 rfl 3 rfl ?_
      refine g_iadd X dX11_holds_21 ?_
      obtain ⟨g4, h⟩ := ite_some h
      refine g_iald X h1 rfl (inb_in g4) dX11_holds_22 ?_
      refine g_if_ne (tgt := 28) X dX11_holds_23 (by decide) (fun c5 => ?_) (fun c5 => ?_)
      · replace h := (if_neg c5).symm.trans h
        refine g_iinc X dX11_holds_28 (kq := 3) rfl (congrArg (HAdd.hAdd _) ic_1) (by decide) (lv' := [(3, .int (a + (1 : Int32))), (0, .ref (be θ + 565)), (1, .ref (be θ + x1)), (2, .int x2)]) rfl ?_
        refine g_goto (tgt := 2) X dX11_holds_31 (by decide) ?_
        have hk := inl_hk h hk
        exact g_sub (lv' := [(0, .ref (be θ + 565)), (1, .ref (be θ + x1)), (2, .int x2), (3, .int (a + (1 : Int32)))]) [1, 2, 3, 0] rfl hk
      · replace h := (if_pos c5).symm.trans h
        refine g_iload_n X dX11_holds_26 rfl 3 rfl ?_
        have hk := inr_hk h hk
        have hk : a = r := hk
        subst hk
        exact g_iret X hr hlk dX11_holds_27 rfl
set_option maxHeartbeats 4000000 in
set_option maxRecDepth 20000 in
theorem gl_Model_holds_L2 (X : Cx θ p s m args c cX11_holds 4 RX11) (hr : meth.sig.returnType = some .int) (hlk : meth.locks = false)  {σ : Mem} {x1 : Nat} {x2 : Int32} {r : Int32} (h1 : kd x1 = 13) (n : Nat) (a : Int32) (b : Int32) (h : loopF (f_Model_holds_L2 σ x1 x2) n a = some b) (hk : (fun b => b = r) b) : (fun a => GB θ p l e 0 s m args below meth c 4 (some (.int r), σ) 2 [(0, .ref (be θ + 565)), (1, .ref (be θ + x1)), (2, .int x2), (3, .int a)] [] σ) a :=
  loopF_by (P := (fun a => GB θ p l e 0 s m args below meth c 4 (some (.int r), σ) 2 [(0, .ref (be θ + 565)), (1, .ref (be θ + x1)), (2, .int x2), (3, .int a)] [] σ)) (K := (fun b => b = r)) (fun a x h hk => by exact gs_Model_holds_L2 X hr hlk  h1 a x h hk) n a b h hk
set_option maxHeartbeats 4000000 in
set_option maxRecDepth 20000 in
theorem g_Model_holds (X : Cx θ p s m args c cX11_holds 4 RX11) (hr : meth.sig.returnType = some .int) (hlk : meth.locks = false)  {σ : Mem} {x1 : Nat} {x2 : Int32} {r : Int32} (h1 : kd x1 = 13) (h : f_Model_holds σ x1 x2 = some r) : GB θ p l e 0 s m args below meth c 4 (some (.int r), σ) 0 [(0, .ref (be θ + 565)), (1, .ref (be θ + x1)), (2, .int x2)] [] σ := by
  unfold f_Model_holds at h
  refine g_iconst X dX11_holds_0 (v := (0 : Int32)) ic_0 ?_
  refine g_istore_n X dX11_holds_1 rfl (by decide) (lv' := [(3, .int (0 : Int32)), (0, .ref (be θ + 565)), (1, .ref (be θ + x1)), (2, .int x2)]) rfl ?_
  exact g_sub (lv' := [(0, .ref (be θ + 565)), (1, .ref (be θ + x1)), (2, .int x2), (3, .int (0 : Int32))]) [1, 2, 3, 0] rfl (gl_Model_holds_L2 X hr hlk  h1  FU _ _ h rfl)
set_option maxHeartbeats 4000000 in
set_option maxRecDepth 20000 in
theorem c_Model_holds {θ : Th} {l : Launch} {σ : Mem} {x1 : Nat} {x2 : Int32} {r : Int32} (h1 : kd x1 = 13) (h : f_Model_holds σ x1 x2 = some r) : Cn θ l yX11_holds cX11_holds 4 (some .int) 0 0 0 [.ref (be θ + 565), .ref (be θ + x1), .int x2] σ (some (.int r), σ) :=
  Cn.of (by decide) (Nat.le_of_ble_eq_true rfl) (fun p e s m below meth c X hr hlk => g_Model_holds X hr hlk h1 h)
theorem dX11_desireOf_0 : decode cX11_desireOf 0 = .ok (.iload_n 1, 1) := by decide +kernel
theorem dX11_desireOf_1 : decode cX11_desireOf 1 = .ok (.aload_n 0, 1) := by decide +kernel
theorem dX11_desireOf_2 : decode cX11_desireOf 2 = .ok (.getfield 84, 3) := by decide +kernel
theorem dX11_desireOf_5 : decode cX11_desireOf 5 = .ok (.if_icmp .ne 10, 3) := by decide +kernel
theorem dX11_desireOf_8 : decode cX11_desireOf 8 = .ok (.aload_n 0, 1) := by decide +kernel
theorem dX11_desireOf_9 : decode cX11_desireOf 9 = .ok (.getfield 329, 3) := by decide +kernel
theorem dX11_desireOf_12 : decode cX11_desireOf 12 = .ok (.goto 13, 3) := by decide +kernel
theorem dX11_desireOf_15 : decode cX11_desireOf 15 = .ok (.aload_n 0, 1) := by decide +kernel
theorem dX11_desireOf_16 : decode cX11_desireOf 16 = .ok (.getfield 49, 3) := by decide +kernel
theorem dX11_desireOf_19 : decode cX11_desireOf 19 = .ok (.iconst 4, 1) := by decide +kernel
theorem dX11_desireOf_20 : decode cX11_desireOf 20 = .ok (.iload_n 1, 1) := by decide +kernel
theorem dX11_desireOf_21 : decode cX11_desireOf 21 = .ok (.imul, 1) := by decide +kernel
theorem dX11_desireOf_22 : decode cX11_desireOf 22 = .ok (.iconst 1, 1) := by decide +kernel
theorem dX11_desireOf_23 : decode cX11_desireOf 23 = .ok (.iadd, 1) := by decide +kernel
theorem dX11_desireOf_24 : decode cX11_desireOf 24 = .ok (.iaload, 1) := by decide +kernel
theorem dX11_desireOf_25 : decode cX11_desireOf 25 = .ok (.ireturn, 1) := by decide +kernel
def f_Model_desireOf (σ : Mem) (x1 : Int32) : Option (Int32) :=
  if x1 = (mI σ 565 39) then
    some (mI σ 565 40)
  else
    if inb (((4 : Int32) * x1) + (1 : Int32)) 24 then
      some (mI σ 574 (((4 : Int32) * x1) + (1 : Int32)).toNatClampNeg)
    else none
set_option maxHeartbeats 4000000 in
set_option maxRecDepth 20000 in
theorem g_Model_desireOf (X : Cx θ p s m args c cX11_desireOf 2 RX11) (hr : meth.sig.returnType = some .int) (hlk : meth.locks = false)  {σ : Mem} {x1 : Int32} {r : Int32}  (h : f_Model_desireOf σ x1 = some r) : GB θ p l e 0 s m args below meth c 2 (some (.int r), σ) 0 [(0, .ref (be θ + 565)), (1, .int x1)] [] σ := by
  unfold f_Model_desireOf at h
  refine g_iload_n X dX11_desireOf_0 rfl 1 rfl ?_
  refine g_aload_n X dX11_desireOf_1 rfl 0 rfl ?_
  refine g_get X fl_RX11_84 dX11_desireOf_2 kd_565 (v := .int (mI σ 565 39)) rfl ?_
  refine g_icmp_ne (tgt := 15) X dX11_desireOf_5 (by decide) (fun c1 => ?_) (fun c1 => ?_)
  · replace h := (if_neg c1).symm.trans h
    refine g_aload_n X dX11_desireOf_15 rfl 0 rfl ?_
    refine g_get X fl_RX11_49 dX11_desireOf_16 kd_565 (v := .ref (be θ + 574)) rfl ?_
    refine g_iconst X dX11_desireOf_19 (v := (4 : Int32)) ic_4 ?_
    refine g_iload_n X dX11_desireOf_20 rfl 1 rfl ?_
    refine g_imul X dX11_desireOf_21 ?_
    refine g_iconst X dX11_desireOf_22 (v := (1 : Int32)) ic_1 ?_
    refine g_iadd X dX11_desireOf_23 ?_
    obtain ⟨g2, h⟩ := ite_some h
    refine g_iald X kd_574 ln_574 (inb_in g2) dX11_desireOf_24 ?_
    exact g_iret X hr hlk dX11_desireOf_25 (by cases h; rfl)
  · replace h := (if_pos c1).symm.trans h
    refine g_aload_n X dX11_desireOf_8 rfl 0 rfl ?_
    refine g_get X fl_RX11_329 dX11_desireOf_9 kd_565 (v := .int (mI σ 565 40)) rfl ?_
    refine g_goto (tgt := 25) X dX11_desireOf_12 (by decide) ?_
    exact g_iret X hr hlk dX11_desireOf_25 (by cases h; rfl)
set_option maxHeartbeats 4000000 in
set_option maxRecDepth 20000 in
theorem c_Model_desireOf {θ : Th} {l : Launch} {σ : Mem} {x1 : Int32} {r : Int32}  (h : f_Model_desireOf σ x1 = some r) : Cn θ l yX11_desireOf cX11_desireOf 2 (some .int) 0 0 0 [.ref (be θ + 565), .int x1] σ (some (.int r), σ) :=
  Cn.of (by decide) (Nat.le_of_ble_eq_true rfl) (fun p e s m below meth c X hr hlk => g_Model_desireOf X hr hlk  h)
theorem dX11_weightOf_0 : decode cX11_weightOf 0 = .ok (.iload_n 1, 1) := by decide +kernel
theorem dX11_weightOf_1 : decode cX11_weightOf 1 = .ok (.aload_n 0, 1) := by decide +kernel
theorem dX11_weightOf_2 : decode cX11_weightOf 2 = .ok (.getfield 87, 3) := by decide +kernel
theorem dX11_weightOf_5 : decode cX11_weightOf 5 = .ok (.if_icmp .ne 10, 3) := by decide +kernel
theorem dX11_weightOf_8 : decode cX11_weightOf 8 = .ok (.aload_n 0, 1) := by decide +kernel
theorem dX11_weightOf_9 : decode cX11_weightOf 9 = .ok (.getfield 332, 3) := by decide +kernel
theorem dX11_weightOf_12 : decode cX11_weightOf 12 = .ok (.goto 13, 3) := by decide +kernel
theorem dX11_weightOf_15 : decode cX11_weightOf 15 = .ok (.aload_n 0, 1) := by decide +kernel
theorem dX11_weightOf_16 : decode cX11_weightOf 16 = .ok (.getfield 43, 3) := by decide +kernel
theorem dX11_weightOf_19 : decode cX11_weightOf 19 = .ok (.iconst 3, 1) := by decide +kernel
theorem dX11_weightOf_20 : decode cX11_weightOf 20 = .ok (.iload_n 1, 1) := by decide +kernel
theorem dX11_weightOf_21 : decode cX11_weightOf 21 = .ok (.imul, 1) := by decide +kernel
theorem dX11_weightOf_22 : decode cX11_weightOf 22 = .ok (.iconst 1, 1) := by decide +kernel
theorem dX11_weightOf_23 : decode cX11_weightOf 23 = .ok (.iadd, 1) := by decide +kernel
theorem dX11_weightOf_24 : decode cX11_weightOf 24 = .ok (.iaload, 1) := by decide +kernel
theorem dX11_weightOf_25 : decode cX11_weightOf 25 = .ok (.ireturn, 1) := by decide +kernel
def f_Model_weightOf (σ : Mem) (x1 : Int32) : Option (Int32) :=
  if x1 = (mI σ 565 41) then
    some (mI σ 565 42)
  else
    if inb (((3 : Int32) * x1) + (1 : Int32)) 24 then
      some (mI σ 572 (((3 : Int32) * x1) + (1 : Int32)).toNatClampNeg)
    else none
set_option maxHeartbeats 4000000 in
set_option maxRecDepth 20000 in
theorem g_Model_weightOf (X : Cx θ p s m args c cX11_weightOf 2 RX11) (hr : meth.sig.returnType = some .int) (hlk : meth.locks = false)  {σ : Mem} {x1 : Int32} {r : Int32}  (h : f_Model_weightOf σ x1 = some r) : GB θ p l e 0 s m args below meth c 2 (some (.int r), σ) 0 [(0, .ref (be θ + 565)), (1, .int x1)] [] σ := by
  unfold f_Model_weightOf at h
  refine g_iload_n X dX11_weightOf_0 rfl 1 rfl ?_
  refine g_aload_n X dX11_weightOf_1 rfl 0 rfl ?_
  refine g_get X fl_RX11_87 dX11_weightOf_2 kd_565 (v := .int (mI σ 565 41)) rfl ?_
  refine g_icmp_ne (tgt := 15) X dX11_weightOf_5 (by decide) (fun c1 => ?_) (fun c1 => ?_)
  · replace h := (if_neg c1).symm.trans h
    refine g_aload_n X dX11_weightOf_15 rfl 0 rfl ?_
    refine g_get X fl_RX11_43 dX11_weightOf_16 kd_565 (v := .ref (be θ + 572)) rfl ?_
    refine g_iconst X dX11_weightOf_19 (v := (3 : Int32)) ic_3 ?_
    refine g_iload_n X dX11_weightOf_20 rfl 1 rfl ?_
    refine g_imul X dX11_weightOf_21 ?_
    refine g_iconst X dX11_weightOf_22 (v := (1 : Int32)) ic_1 ?_
    refine g_iadd X dX11_weightOf_23 ?_
    obtain ⟨g2, h⟩ := ite_some h
    refine g_iald X kd_572 ln_572 (inb_in g2) dX11_weightOf_24 ?_
    exact g_iret X hr hlk dX11_weightOf_25 (by cases h; rfl)
  · replace h := (if_pos c1).symm.trans h
    refine g_aload_n X dX11_weightOf_8 rfl 0 rfl ?_
    refine g_get X fl_RX11_332 dX11_weightOf_9 kd_565 (v := .int (mI σ 565 42)) rfl ?_
    refine g_goto (tgt := 25) X dX11_weightOf_12 (by decide) ?_
    exact g_iret X hr hlk dX11_weightOf_25 (by cases h; rfl)
set_option maxHeartbeats 4000000 in
set_option maxRecDepth 20000 in
theorem c_Model_weightOf {θ : Th} {l : Launch} {σ : Mem} {x1 : Int32} {r : Int32}  (h : f_Model_weightOf σ x1 = some r) : Cn θ l yX11_weightOf cX11_weightOf 2 (some .int) 0 0 0 [.ref (be θ + 565), .int x1] σ (some (.int r), σ) :=
  Cn.of (by decide) (Nat.le_of_ble_eq_true rfl) (fun p e s m below meth c X hr hlk => g_Model_weightOf X hr hlk  h)
theorem dX11_worthOf_0 : decode cX11_worthOf 0 = .ok (.lconst 1, 1) := by decide +kernel
theorem dX11_worthOf_1 : decode cX11_worthOf 1 = .ok (.aload_n 0, 1) := by decide +kernel
theorem dX11_worthOf_2 : decode cX11_worthOf 2 = .ok (.getfield 70, 3) := by decide +kernel
theorem dX11_worthOf_5 : decode cX11_worthOf 5 = .ok (.i2l, 1) := by decide +kernel
theorem dX11_worthOf_6 : decode cX11_worthOf 6 = .ok (.ladd, 1) := by decide +kernel
theorem dX11_worthOf_7 : decode cX11_worthOf 7 = .ok (.lstore 7, 2) := by decide +kernel
theorem dX11_worthOf_9 : decode cX11_worthOf 9 = .ok (.ldc2_w 335, 3) := by decide +kernel
theorem dX11_worthOf_12 : decode cX11_worthOf 12 = .ok (.lload 7, 2) := by decide +kernel
theorem dX11_worthOf_14 : decode cX11_worthOf 14 = .ok (.lmul, 1) := by decide +kernel
theorem dX11_worthOf_15 : decode cX11_worthOf 15 = .ok (.iload_n 1, 1) := by decide +kernel
theorem dX11_worthOf_16 : decode cX11_worthOf 16 = .ok (.i2l, 1) := by decide +kernel
theorem dX11_worthOf_17 : decode cX11_worthOf 17 = .ok (.ladd, 1) := by decide +kernel
theorem dX11_worthOf_18 : decode cX11_worthOf 18 = .ok (.lstore 7, 2) := by decide +kernel
theorem dX11_worthOf_20 : decode cX11_worthOf 20 = .ok (.ldc2_w 337, 3) := by decide +kernel
theorem dX11_worthOf_23 : decode cX11_worthOf 23 = .ok (.lload 7, 2) := by decide +kernel
theorem dX11_worthOf_25 : decode cX11_worthOf 25 = .ok (.lmul, 1) := by decide +kernel
theorem dX11_worthOf_26 : decode cX11_worthOf 26 = .ok (.iload_n 2, 1) := by decide +kernel
theorem dX11_worthOf_27 : decode cX11_worthOf 27 = .ok (.i2l, 1) := by decide +kernel
theorem dX11_worthOf_28 : decode cX11_worthOf 28 = .ok (.ladd, 1) := by decide +kernel
theorem dX11_worthOf_29 : decode cX11_worthOf 29 = .ok (.lstore 7, 2) := by decide +kernel
theorem dX11_worthOf_31 : decode cX11_worthOf 31 = .ok (.ldc2_w 337, 3) := by decide +kernel
theorem dX11_worthOf_34 : decode cX11_worthOf 34 = .ok (.lload 7, 2) := by decide +kernel
theorem dX11_worthOf_36 : decode cX11_worthOf 36 = .ok (.lmul, 1) := by decide +kernel
theorem dX11_worthOf_37 : decode cX11_worthOf 37 = .ok (.iload_n 3, 1) := by decide +kernel
theorem dX11_worthOf_38 : decode cX11_worthOf 38 = .ok (.i2l, 1) := by decide +kernel
theorem dX11_worthOf_39 : decode cX11_worthOf 39 = .ok (.ladd, 1) := by decide +kernel
theorem dX11_worthOf_40 : decode cX11_worthOf 40 = .ok (.lstore 7, 2) := by decide +kernel
theorem dX11_worthOf_42 : decode cX11_worthOf 42 = .ok (.ldc2_w 339, 3) := by decide +kernel
theorem dX11_worthOf_45 : decode cX11_worthOf 45 = .ok (.lload 7, 2) := by decide +kernel
theorem dX11_worthOf_47 : decode cX11_worthOf 47 = .ok (.lmul, 1) := by decide +kernel
theorem dX11_worthOf_48 : decode cX11_worthOf 48 = .ok (.iload 4, 2) := by decide +kernel
theorem dX11_worthOf_50 : decode cX11_worthOf 50 = .ok (.i2l, 1) := by decide +kernel
theorem dX11_worthOf_51 : decode cX11_worthOf 51 = .ok (.ladd, 1) := by decide +kernel
theorem dX11_worthOf_52 : decode cX11_worthOf 52 = .ok (.lstore 7, 2) := by decide +kernel
theorem dX11_worthOf_54 : decode cX11_worthOf 54 = .ok (.ldc2_w 341, 3) := by decide +kernel
theorem dX11_worthOf_57 : decode cX11_worthOf 57 = .ok (.lload 7, 2) := by decide +kernel
theorem dX11_worthOf_59 : decode cX11_worthOf 59 = .ok (.lmul, 1) := by decide +kernel
theorem dX11_worthOf_60 : decode cX11_worthOf 60 = .ok (.iload 5, 2) := by decide +kernel
theorem dX11_worthOf_62 : decode cX11_worthOf 62 = .ok (.i2l, 1) := by decide +kernel
theorem dX11_worthOf_63 : decode cX11_worthOf 63 = .ok (.ladd, 1) := by decide +kernel
theorem dX11_worthOf_64 : decode cX11_worthOf 64 = .ok (.lstore 7, 2) := by decide +kernel
theorem dX11_worthOf_66 : decode cX11_worthOf 66 = .ok (.ldc2_w 343, 3) := by decide +kernel
theorem dX11_worthOf_69 : decode cX11_worthOf 69 = .ok (.lload 7, 2) := by decide +kernel
theorem dX11_worthOf_71 : decode cX11_worthOf 71 = .ok (.lmul, 1) := by decide +kernel
theorem dX11_worthOf_72 : decode cX11_worthOf 72 = .ok (.iload 6, 2) := by decide +kernel
theorem dX11_worthOf_74 : decode cX11_worthOf 74 = .ok (.i2l, 1) := by decide +kernel
theorem dX11_worthOf_75 : decode cX11_worthOf 75 = .ok (.ladd, 1) := by decide +kernel
theorem dX11_worthOf_76 : decode cX11_worthOf 76 = .ok (.lstore 7, 2) := by decide +kernel
theorem dX11_worthOf_78 : decode cX11_worthOf 78 = .ok (.lload 7, 2) := by decide +kernel
theorem dX11_worthOf_80 : decode cX11_worthOf 80 = .ok (.ldc2_w 345, 3) := by decide +kernel
theorem dX11_worthOf_83 : decode cX11_worthOf 83 = .ok (.lrem, 1) := by decide +kernel
theorem dX11_worthOf_84 : decode cX11_worthOf 84 = .ok (.l2i, 1) := by decide +kernel
theorem dX11_worthOf_85 : decode cX11_worthOf 85 = .ok (.istore 9, 2) := by decide +kernel
theorem dX11_worthOf_87 : decode cX11_worthOf 87 = .ok (.aload_n 0, 1) := by decide +kernel
theorem dX11_worthOf_88 : decode cX11_worthOf 88 = .ok (.getfield 77, 3) := by decide +kernel
theorem dX11_worthOf_91 : decode cX11_worthOf 91 = .ok (.iload 9, 2) := by decide +kernel
theorem dX11_worthOf_93 : decode cX11_worthOf 93 = .ok (.laload, 1) := by decide +kernel
theorem dX11_worthOf_94 : decode cX11_worthOf 94 = .ok (.lload 7, 2) := by decide +kernel
theorem dX11_worthOf_96 : decode cX11_worthOf 96 = .ok (.lcmp, 1) := by decide +kernel
theorem dX11_worthOf_97 : decode cX11_worthOf 97 = .ok (.ifCond .ne 11, 3) := by decide +kernel
theorem dX11_worthOf_100 : decode cX11_worthOf 100 = .ok (.aload_n 0, 1) := by decide +kernel
theorem dX11_worthOf_101 : decode cX11_worthOf 101 = .ok (.getfield 81, 3) := by decide +kernel
theorem dX11_worthOf_104 : decode cX11_worthOf 104 = .ok (.iload 9, 2) := by decide +kernel
theorem dX11_worthOf_106 : decode cX11_worthOf 106 = .ok (.iaload, 1) := by decide +kernel
theorem dX11_worthOf_107 : decode cX11_worthOf 107 = .ok (.ireturn, 1) := by decide +kernel
theorem dX11_worthOf_108 : decode cX11_worthOf 108 = .ok (.aload_n 0, 1) := by decide +kernel
theorem dX11_worthOf_109 : decode cX11_worthOf 109 = .ok (.getfield 20, 3) := by decide +kernel
theorem dX11_worthOf_112 : decode cX11_worthOf 112 = .ok (.bipush 112, 2) := by decide +kernel
theorem dX11_worthOf_114 : decode cX11_worthOf 114 = .ok (.iload_n 1, 1) := by decide +kernel
theorem dX11_worthOf_115 : decode cX11_worthOf 115 = .ok (.iastore, 1) := by decide +kernel
theorem dX11_worthOf_116 : decode cX11_worthOf 116 = .ok (.aload_n 0, 1) := by decide +kernel
theorem dX11_worthOf_117 : decode cX11_worthOf 117 = .ok (.getfield 20, 3) := by decide +kernel
theorem dX11_worthOf_120 : decode cX11_worthOf 120 = .ok (.bipush 119, 2) := by decide +kernel
theorem dX11_worthOf_122 : decode cX11_worthOf 122 = .ok (.iload_n 2, 1) := by decide +kernel
theorem dX11_worthOf_123 : decode cX11_worthOf 123 = .ok (.iastore, 1) := by decide +kernel
theorem dX11_worthOf_124 : decode cX11_worthOf 124 = .ok (.aload_n 0, 1) := by decide +kernel
theorem dX11_worthOf_125 : decode cX11_worthOf 125 = .ok (.getfield 20, 3) := by decide +kernel
theorem dX11_worthOf_128 : decode cX11_worthOf 128 = .ok (.bipush 100, 2) := by decide +kernel
theorem dX11_worthOf_130 : decode cX11_worthOf 130 = .ok (.iload_n 3, 1) := by decide +kernel
theorem dX11_worthOf_131 : decode cX11_worthOf 131 = .ok (.iastore, 1) := by decide +kernel
theorem dX11_worthOf_132 : decode cX11_worthOf 132 = .ok (.aload_n 0, 1) := by decide +kernel
theorem dX11_worthOf_133 : decode cX11_worthOf 133 = .ok (.getfield 20, 3) := by decide +kernel
theorem dX11_worthOf_136 : decode cX11_worthOf 136 = .ok (.bipush 109, 2) := by decide +kernel
theorem dX11_worthOf_138 : decode cX11_worthOf 138 = .ok (.iload 4, 2) := by decide +kernel
theorem dX11_worthOf_140 : decode cX11_worthOf 140 = .ok (.iastore, 1) := by decide +kernel
theorem dX11_worthOf_141 : decode cX11_worthOf 141 = .ok (.aload_n 0, 1) := by decide +kernel
theorem dX11_worthOf_142 : decode cX11_worthOf 142 = .ok (.getfield 20, 3) := by decide +kernel
theorem dX11_worthOf_145 : decode cX11_worthOf 145 = .ok (.bipush 115, 2) := by decide +kernel
theorem dX11_worthOf_147 : decode cX11_worthOf 147 = .ok (.iload 5, 2) := by decide +kernel
theorem dX11_worthOf_149 : decode cX11_worthOf 149 = .ok (.iastore, 1) := by decide +kernel
theorem dX11_worthOf_150 : decode cX11_worthOf 150 = .ok (.aload_n 0, 1) := by decide +kernel
theorem dX11_worthOf_151 : decode cX11_worthOf 151 = .ok (.getfield 20, 3) := by decide +kernel
theorem dX11_worthOf_154 : decode cX11_worthOf 154 = .ok (.bipush 104, 2) := by decide +kernel
theorem dX11_worthOf_156 : decode cX11_worthOf 156 = .ok (.iload 6, 2) := by decide +kernel
theorem dX11_worthOf_158 : decode cX11_worthOf 158 = .ok (.iastore, 1) := by decide +kernel
theorem dX11_worthOf_159 : decode cX11_worthOf 159 = .ok (.aload_n 0, 1) := by decide +kernel
theorem dX11_worthOf_160 : decode cX11_worthOf 160 = .ok (.aload_n 0, 1) := by decide +kernel
theorem dX11_worthOf_161 : decode cX11_worthOf 161 = .ok (.getfield 13, 3) := by decide +kernel
theorem dX11_worthOf_164 : decode cX11_worthOf 164 = .ok (.sipush 240, 3) := by decide +kernel
theorem dX11_worthOf_167 : decode cX11_worthOf 167 = .ok (.aload_n 0, 1) := by decide +kernel
theorem dX11_worthOf_168 : decode cX11_worthOf 168 = .ok (.getfield 70, 3) := by decide +kernel
theorem dX11_worthOf_171 : decode cX11_worthOf 171 = .ok (.imul, 1) := by decide +kernel
theorem dX11_worthOf_172 : decode cX11_worthOf 172 = .ok (.aload_n 0, 1) := by decide +kernel
theorem dX11_worthOf_173 : decode cX11_worthOf 173 = .ok (.getfield 16, 3) := by decide +kernel
theorem dX11_worthOf_176 : decode cX11_worthOf 176 = .ok (.aload_n 0, 1) := by decide +kernel
theorem dX11_worthOf_177 : decode cX11_worthOf 177 = .ok (.getfield 70, 3) := by decide +kernel
theorem dX11_worthOf_180 : decode cX11_worthOf 180 = .ok (.iaload, 1) := by decide +kernel
theorem dX11_worthOf_181 : decode cX11_worthOf 181 = .ok (.invokevirtual 293, 3) := by decide +kernel
theorem dX11_worthOf_184 : decode cX11_worthOf 184 = .ok (.aload_n 0, 1) := by decide +kernel
theorem dX11_worthOf_185 : decode cX11_worthOf 185 = .ok (.getfield 77, 3) := by decide +kernel
theorem dX11_worthOf_188 : decode cX11_worthOf 188 = .ok (.iload 9, 2) := by decide +kernel
theorem dX11_worthOf_190 : decode cX11_worthOf 190 = .ok (.lload 7, 2) := by decide +kernel
theorem dX11_worthOf_192 : decode cX11_worthOf 192 = .ok (.lastore, 1) := by decide +kernel
theorem dX11_worthOf_193 : decode cX11_worthOf 193 = .ok (.aload_n 0, 1) := by decide +kernel
theorem dX11_worthOf_194 : decode cX11_worthOf 194 = .ok (.getfield 81, 3) := by decide +kernel
theorem dX11_worthOf_197 : decode cX11_worthOf 197 = .ok (.iload 9, 2) := by decide +kernel
theorem dX11_worthOf_199 : decode cX11_worthOf 199 = .ok (.iconst 0, 1) := by decide +kernel
theorem dX11_worthOf_200 : decode cX11_worthOf 200 = .ok (.bipush 99, 2) := by decide +kernel
theorem dX11_worthOf_202 : decode cX11_worthOf 202 = .ok (.aload_n 0, 1) := by decide +kernel
theorem dX11_worthOf_203 : decode cX11_worthOf 203 = .ok (.getfield 220, 3) := by decide +kernel
theorem dX11_worthOf_206 : decode cX11_worthOf 206 = .ok (.invokestatic 347, 3) := by decide +kernel
theorem dX11_worthOf_209 : decode cX11_worthOf 209 = .ok (.invokestatic 349, 3) := by decide +kernel
theorem dX11_worthOf_212 : decode cX11_worthOf 212 = .ok (.iastore, 1) := by decide +kernel
theorem dX11_worthOf_213 : decode cX11_worthOf 213 = .ok (.aload_n 0, 1) := by decide +kernel
theorem dX11_worthOf_214 : decode cX11_worthOf 214 = .ok (.getfield 81, 3) := by decide +kernel
theorem dX11_worthOf_217 : decode cX11_worthOf 217 = .ok (.iload 9, 2) := by decide +kernel
theorem dX11_worthOf_219 : decode cX11_worthOf 219 = .ok (.iaload, 1) := by decide +kernel
theorem dX11_worthOf_220 : decode cX11_worthOf 220 = .ok (.ireturn, 1) := by decide +kernel
def f_Model_worthOf (σ : Mem) (x1 : Int32) (x2 : Int32) (x3 : Int32) (x4 : Int32) (x5 : Int32) (x6 : Int32) : Option (Int32 × Mem) :=
  if inb ((((((24 : Int64) * (((4 : Int64) * (((1000 : Int64) * (((10 : Int64) * (((10 : Int64) * (((100 : Int64) * ((1 : Int64) + (((mI σ 565 35)).toInt64))) + ((x1).toInt64))) + ((x2).toInt64))) + ((x3).toInt64))) + ((x4).toInt64))) + ((x5).toInt64))) + ((x6).toInt64)) - (((24 : Int64) * (((4 : Int64) * (((1000 : Int64) * (((10 : Int64) * (((10 : Int64) * (((100 : Int64) * ((1 : Int64) + (((mI σ 565 35)).toInt64))) + ((x1).toInt64))) + ((x2).toInt64))) + ((x3).toInt64))) + ((x4).toInt64))) + ((x5).toInt64))) + ((x6).toInt64)) / (8191 : Int64) * (8191 : Int64))).toInt32) 8191 then
    if (lg_cmp (mL σ 581 ((((((24 : Int64) * (((4 : Int64) * (((1000 : Int64) * (((10 : Int64) * (((10 : Int64) * (((100 : Int64) * ((1 : Int64) + (((mI σ 565 35)).toInt64))) + ((x1).toInt64))) + ((x2).toInt64))) + ((x3).toInt64))) + ((x4).toInt64))) + ((x5).toInt64))) + ((x6).toInt64)) - (((24 : Int64) * (((4 : Int64) * (((1000 : Int64) * (((10 : Int64) * (((10 : Int64) * (((100 : Int64) * ((1 : Int64) + (((mI σ 565 35)).toInt64))) + ((x1).toInt64))) + ((x2).toInt64))) + ((x3).toInt64))) + ((x4).toInt64))) + ((x5).toInt64))) + ((x6).toInt64)) / (8191 : Int64) * (8191 : Int64))).toInt32).toNatClampNeg) (((24 : Int64) * (((4 : Int64) * (((1000 : Int64) * (((10 : Int64) * (((10 : Int64) * (((100 : Int64) * ((1 : Int64) + (((mI σ 565 35)).toInt64))) + ((x1).toInt64))) + ((x2).toInt64))) + ((x3).toInt64))) + ((x4).toInt64))) + ((x5).toInt64))) + ((x6).toInt64))) = (0 : Int32) then
      some ((mI σ 582 ((((((24 : Int64) * (((4 : Int64) * (((1000 : Int64) * (((10 : Int64) * (((10 : Int64) * (((100 : Int64) * ((1 : Int64) + (((mI σ 565 35)).toInt64))) + ((x1).toInt64))) + ((x2).toInt64))) + ((x3).toInt64))) + ((x4).toInt64))) + ((x5).toInt64))) + ((x6).toInt64)) - (((24 : Int64) * (((4 : Int64) * (((1000 : Int64) * (((10 : Int64) * (((10 : Int64) * (((100 : Int64) * ((1 : Int64) + (((mI σ 565 35)).toInt64))) + ((x1).toInt64))) + ((x2).toInt64))) + ((x3).toInt64))) + ((x4).toInt64))) + ((x5).toInt64))) + ((x6).toInt64)) / (8191 : Int64) * (8191 : Int64))).toInt32).toNatClampNeg), σ)
    else
      if inb (mI (sI (sI (sI (sI (sI (sI σ 569 (112 : Int32).toNatClampNeg x1) 569 (119 : Int32).toNatClampNeg x2) 569 (100 : Int32).toNatClampNeg x3) 569 (109 : Int32).toNatClampNeg x4) 569 (115 : Int32).toNatClampNeg x5) 569 (104 : Int32).toNatClampNeg x6) 565 35) 4 then
        (f_Model_goThrough (sI (sI (sI (sI (sI (sI σ 569 (112 : Int32).toNatClampNeg x1) 569 (119 : Int32).toNatClampNeg x2) 569 (100 : Int32).toNatClampNeg x3) 569 (109 : Int32).toNatClampNeg x4) 569 (115 : Int32).toNatClampNeg x5) 569 (104 : Int32).toNatClampNeg x6) 567 ((240 : Int32) * (mI (sI (sI (sI (sI (sI (sI σ 569 (112 : Int32).toNatClampNeg x1) 569 (119 : Int32).toNatClampNeg x2) 569 (100 : Int32).toNatClampNeg x3) 569 (109 : Int32).toNatClampNeg x4) 569 (115 : Int32).toNatClampNeg x5) 569 (104 : Int32).toNatClampNeg x6) 565 35)) (mI (sI (sI (sI (sI (sI (sI σ 569 (112 : Int32).toNatClampNeg x1) 569 (119 : Int32).toNatClampNeg x2) 569 (100 : Int32).toNatClampNeg x3) 569 (109 : Int32).toNatClampNeg x4) 569 (115 : Int32).toNatClampNeg x5) 569 (104 : Int32).toNatClampNeg x6) 568 (mI (sI (sI (sI (sI (sI (sI σ 569 (112 : Int32).toNatClampNeg x1) 569 (119 : Int32).toNatClampNeg x2) 569 (100 : Int32).toNatClampNeg x3) 569 (109 : Int32).toNatClampNeg x4) 569 (115 : Int32).toNatClampNeg x5) 569 (104 : Int32).toNatClampNeg x6) 565 35).toNatClampNeg)).bind fun q4 =>
        some ((mI (sI (sL q4 581 ((((((24 : Int64) * (((4 : Int64) * (((1000 : Int64) * (((10 : Int64) * (((10 : Int64) * (((100 : Int64) * ((1 : Int64) + (((mI σ 565 35)).toInt64))) + ((x1).toInt64))) + ((x2).toInt64))) + ((x3).toInt64))) + ((x4).toInt64))) + ((x5).toInt64))) + ((x6).toInt64)) - (((24 : Int64) * (((4 : Int64) * (((1000 : Int64) * (((10 : Int64) * (((10 : Int64) * (((100 : Int64) * ((1 : Int64) + (((mI σ 565 35)).toInt64))) + ((x1).toInt64))) + ((x2).toInt64))) + ((x3).toInt64))) + ((x4).toInt64))) + ((x5).toInt64))) + ((x6).toInt64)) / (8191 : Int64) * (8191 : Int64))).toInt32).toNatClampNeg (((24 : Int64) * (((4 : Int64) * (((1000 : Int64) * (((10 : Int64) * (((10 : Int64) * (((100 : Int64) * ((1 : Int64) + (((mI σ 565 35)).toInt64))) + ((x1).toInt64))) + ((x2).toInt64))) + ((x3).toInt64))) + ((x4).toInt64))) + ((x5).toInt64))) + ((x6).toInt64))) 582 ((((((24 : Int64) * (((4 : Int64) * (((1000 : Int64) * (((10 : Int64) * (((10 : Int64) * (((100 : Int64) * ((1 : Int64) + (((mI σ 565 35)).toInt64))) + ((x1).toInt64))) + ((x2).toInt64))) + ((x3).toInt64))) + ((x4).toInt64))) + ((x5).toInt64))) + ((x6).toInt64)) - (((24 : Int64) * (((4 : Int64) * (((1000 : Int64) * (((10 : Int64) * (((10 : Int64) * (((100 : Int64) * ((1 : Int64) + (((mI σ 565 35)).toInt64))) + ((x1).toInt64))) + ((x2).toInt64))) + ((x3).toInt64))) + ((x4).toInt64))) + ((x5).toInt64))) + ((x6).toInt64)) / (8191 : Int64) * (8191 : Int64))).toInt32).toNatClampNeg (imax (0 : Int32) (imin (99 : Int32) (mI (sL q4 581 ((((((24 : Int64) * (((4 : Int64) * (((1000 : Int64) * (((10 : Int64) * (((10 : Int64) * (((100 : Int64) * ((1 : Int64) + (((mI σ 565 35)).toInt64))) + ((x1).toInt64))) + ((x2).toInt64))) + ((x3).toInt64))) + ((x4).toInt64))) + ((x5).toInt64))) + ((x6).toInt64)) - (((24 : Int64) * (((4 : Int64) * (((1000 : Int64) * (((10 : Int64) * (((10 : Int64) * (((100 : Int64) * ((1 : Int64) + (((mI σ 565 35)).toInt64))) + ((x1).toInt64))) + ((x2).toInt64))) + ((x3).toInt64))) + ((x4).toInt64))) + ((x5).toInt64))) + ((x6).toInt64)) / (8191 : Int64) * (8191 : Int64))).toInt32).toNatClampNeg (((24 : Int64) * (((4 : Int64) * (((1000 : Int64) * (((10 : Int64) * (((10 : Int64) * (((100 : Int64) * ((1 : Int64) + (((mI σ 565 35)).toInt64))) + ((x1).toInt64))) + ((x2).toInt64))) + ((x3).toInt64))) + ((x4).toInt64))) + ((x5).toInt64))) + ((x6).toInt64))) 565 14)))) 582 ((((((24 : Int64) * (((4 : Int64) * (((1000 : Int64) * (((10 : Int64) * (((10 : Int64) * (((100 : Int64) * ((1 : Int64) + (((mI σ 565 35)).toInt64))) + ((x1).toInt64))) + ((x2).toInt64))) + ((x3).toInt64))) + ((x4).toInt64))) + ((x5).toInt64))) + ((x6).toInt64)) - (((24 : Int64) * (((4 : Int64) * (((1000 : Int64) * (((10 : Int64) * (((10 : Int64) * (((100 : Int64) * ((1 : Int64) + (((mI σ 565 35)).toInt64))) + ((x1).toInt64))) + ((x2).toInt64))) + ((x3).toInt64))) + ((x4).toInt64))) + ((x5).toInt64))) + ((x6).toInt64)) / (8191 : Int64) * (8191 : Int64))).toInt32).toNatClampNeg), (sI (sL q4 581 ((((((24 : Int64) * (((4 : Int64) * (((1000 : Int64) * (((10 : Int64) * (((10 : Int64) * (((100 : Int64) * ((1 : Int64) + (((mI σ 565 35)).toInt64))) + ((x1).toInt64))) + ((x2).toInt64))) + ((x3).toInt64))) + ((x4).toInt64))) + ((x5).toInt64))) + ((x6).toInt64)) - (((24 : Int64) * (((4 : Int64) * (((1000 : Int64) * (((10 : Int64) * (((10 : Int64) * (((100 : Int64) * ((1 : Int64) + (((mI σ 565 35)).toInt64))) + ((x1).toInt64))) + ((x2).toInt64))) + ((x3).toInt64))) + ((x4).toInt64))) + ((x5).toInt64))) + ((x6).toInt64)) / (8191 : Int64) * (8191 : Int64))).toInt32).toNatClampNeg (((24 : Int64) * (((4 : Int64) * (((1000 : Int64) * (((10 : Int64) * (((10 : Int64) * (((100 : Int64) * ((1 : Int64) + (((mI σ 565 35)).toInt64))) + ((x1).toInt64))) + ((x2).toInt64))) + ((x3).toInt64))) + ((x4).toInt64))) + ((x5).toInt64))) + ((x6).toInt64))) 582 ((((((24 : Int64) * (((4 : Int64) * (((1000 : Int64) * (((10 : Int64) * (((10 : Int64) * (((100 : Int64) * ((1 : Int64) + (((mI σ 565 35)).toInt64))) + ((x1).toInt64))) + ((x2).toInt64))) + ((x3).toInt64))) + ((x4).toInt64))) + ((x5).toInt64))) + ((x6).toInt64)) - (((24 : Int64) * (((4 : Int64) * (((1000 : Int64) * (((10 : Int64) * (((10 : Int64) * (((100 : Int64) * ((1 : Int64) + (((mI σ 565 35)).toInt64))) + ((x1).toInt64))) + ((x2).toInt64))) + ((x3).toInt64))) + ((x4).toInt64))) + ((x5).toInt64))) + ((x6).toInt64)) / (8191 : Int64) * (8191 : Int64))).toInt32).toNatClampNeg (imax (0 : Int32) (imin (99 : Int32) (mI (sL q4 581 ((((((24 : Int64) * (((4 : Int64) * (((1000 : Int64) * (((10 : Int64) * (((10 : Int64) * (((100 : Int64) * ((1 : Int64) + (((mI σ 565 35)).toInt64))) + ((x1).toInt64))) + ((x2).toInt64))) + ((x3).toInt64))) + ((x4).toInt64))) + ((x5).toInt64))) + ((x6).toInt64)) - (((24 : Int64) * (((4 : Int64) * (((1000 : Int64) * (((10 : Int64) * (((10 : Int64) * (((100 : Int64) * ((1 : Int64) + (((mI σ 565 35)).toInt64))) + ((x1).toInt64))) + ((x2).toInt64))) + ((x3).toInt64))) + ((x4).toInt64))) + ((x5).toInt64))) + ((x6).toInt64)) / (8191 : Int64) * (8191 : Int64))).toInt32).toNatClampNeg (((24 : Int64) * (((4 : Int64) * (((1000 : Int64) * (((10 : Int64) * (((10 : Int64) * (((100 : Int64) * ((1 : Int64) + (((mI σ 565 35)).toInt64))) + ((x1).toInt64))) + ((x2).toInt64))) + ((x3).toInt64))) + ((x4).toInt64))) + ((x5).toInt64))) + ((x6).toInt64))) 565 14)))))
      else none
  else none
set_option maxHeartbeats 4000000 in
set_option maxRecDepth 20000 in
theorem g_Model_worthOf (X : Cx θ p s m args c cX11_worthOf 10 RX11) (hr : meth.sig.returnType = some .int) (hlk : meth.locks = false)  {σ : Mem} {x1 : Int32} {x2 : Int32} {x3 : Int32} {x4 : Int32} {x5 : Int32} {x6 : Int32} {r : Int32 × Mem}  (h : f_Model_worthOf σ x1 x2 x3 x4 x5 x6 = some r) : GB θ p l e 62 s m args below meth c 10 (some (.int r.1), r.2) 0 [(0, .ref (be θ + 565)), (1, .int x1), (2, .int x2), (3, .int x3), (4, .int x4), (5, .int x5), (6, .int x6)] [] σ := by
  unfold f_Model_worthOf at h
  refine g_lconst X dX11_worthOf_0 (v := (1 : Int64)) rfl ?_
  refine g_aload_n X dX11_worthOf_1 rfl 0 rfl ?_
  refine g_get X fl_RX11_70 dX11_worthOf_2 kd_565 (v := .int (mI σ 565 35)) rfl ?_
  refine g_i2l X dX11_worthOf_5 (v := (((mI σ 565 35)).toInt64)) rfl ?_
  refine g_ladd X dX11_worthOf_6 ?_
  refine g_lstore X dX11_worthOf_7 (by decide) (lv' := [(7, .long ((1 : Int64) + (((mI σ 565 35)).toInt64))), (0, .ref (be θ + 565)), (1, .int x1), (2, .int x2), (3, .int x3), (4, .int x4), (5, .int x5), (6, .int x6)]) rfl ?_
  refine g_ldc2 X cst_RX11_335 dX11_worthOf_9 ?_
  refine g_lload X dX11_worthOf_12 0 rfl ?_
  refine g_lmul X dX11_worthOf_14 ?_
  refine g_iload_n X dX11_worthOf_15 rfl 2 rfl ?_
  refine g_i2l X dX11_worthOf_16 (v := ((x1).toInt64)) rfl ?_
  refine g_ladd X dX11_worthOf_17 ?_
  refine g_lstore X dX11_worthOf_18 (by decide) (lv' := [(7, .long (((100 : Int64) * ((1 : Int64) + (((mI σ 565 35)).toInt64))) + ((x1).toInt64))), (0, .ref (be θ + 565)), (1, .int x1), (2, .int x2), (3, .int x3), (4, .int x4), (5, .int x5), (6, .int x6)]) rfl ?_
  refine g_ldc2 X cst_RX11_337 dX11_worthOf_20 ?_
  refine g_lload X dX11_worthOf_23 0 rfl ?_
  refine g_lmul X dX11_worthOf_25 ?_
  refine g_iload_n X dX11_worthOf_26 rfl 3 rfl ?_
  refine g_i2l X dX11_worthOf_27 (v := ((x2).toInt64)) rfl ?_
  refine g_ladd X dX11_worthOf_28 ?_
  refine g_lstore X dX11_worthOf_29 (by decide) (lv' := [(7, .long (((10 : Int64) * (((100 : Int64) * ((1 : Int64) + (((mI σ 565 35)).toInt64))) + ((x1).toInt64))) + ((x2).toInt64))), (0, .ref (be θ + 565)), (1, .int x1), (2, .int x2), (3, .int x3), (4, .int x4), (5, .int x5), (6, .int x6)]) rfl ?_
  refine g_ldc2 X cst_RX11_337 dX11_worthOf_31 ?_
  refine g_lload X dX11_worthOf_34 0 rfl ?_
  refine g_lmul X dX11_worthOf_36 ?_
  refine g_iload_n X dX11_worthOf_37 rfl 4 rfl ?_
  refine g_i2l X dX11_worthOf_38 (v := ((x3).toInt64)) rfl ?_
  refine g_ladd X dX11_worthOf_39 ?_
  refine g_lstore X dX11_worthOf_40 (by decide) (lv' := [(7, .long (((10 : Int64) * (((10 : Int64) * (((100 : Int64) * ((1 : Int64) + (((mI σ 565 35)).toInt64))) + ((x1).toInt64))) + ((x2).toInt64))) + ((x3).toInt64))), (0, .ref (be θ + 565)), (1, .int x1), (2, .int x2), (3, .int x3), (4, .int x4), (5, .int x5), (6, .int x6)]) rfl ?_
  refine g_ldc2 X cst_RX11_339 dX11_worthOf_42 ?_
  refine g_lload X dX11_worthOf_45 0 rfl ?_
  refine g_lmul X dX11_worthOf_47 ?_
  refine g_iload X dX11_worthOf_48 5 rfl ?_
  refine g_i2l X dX11_worthOf_50 (v := ((x4).toInt64)) rfl ?_
  refine g_ladd X dX11_worthOf_51 ?_
  refine g_lstore X dX11_worthOf_52 (by decide) (lv' := [(7, .long (((1000 : Int64) * (((10 : Int64) * (((10 : Int64) * (((100 : Int64) * ((1 : Int64) + (((mI σ 565 35)).toInt64))) + ((x1).toInt64))) + ((x2).toInt64))) + ((x3).toInt64))) + ((x4).toInt64))), (0, .ref (be θ + 565)), (1, .int x1), (2, .int x2), (3, .int x3), (4, .int x4), (5, .int x5), (6, .int x6)]) rfl ?_
  refine g_ldc2 X cst_RX11_341 dX11_worthOf_54 ?_
  refine g_lload X dX11_worthOf_57 0 rfl ?_
  refine g_lmul X dX11_worthOf_59 ?_
  refine g_iload X dX11_worthOf_60 6 rfl ?_
  refine g_i2l X dX11_worthOf_62 (v := ((x5).toInt64)) rfl ?_
  refine g_ladd X dX11_worthOf_63 ?_
  refine g_lstore X dX11_worthOf_64 (by decide) (lv' := [(7, .long (((4 : Int64) * (((1000 : Int64) * (((10 : Int64) * (((10 : Int64) * (((100 : Int64) * ((1 : Int64) + (((mI σ 565 35)).toInt64))) + ((x1).toInt64))) + ((x2).toInt64))) + ((x3).toInt64))) + ((x4).toInt64))) + ((x5).toInt64))), (0, .ref (be θ + 565)), (1, .int x1), (2, .int x2), (3, .int x3), (4, .int x4), (5, .int x5), (6, .int x6)]) rfl ?_
  refine g_ldc2 X cst_RX11_343 dX11_worthOf_66 ?_
  refine g_lload X dX11_worthOf_69 0 rfl ?_
  refine g_lmul X dX11_worthOf_71 ?_
  refine g_iload X dX11_worthOf_72 7 rfl ?_
  refine g_i2l X dX11_worthOf_74 (v := ((x6).toInt64)) rfl ?_
  refine g_ladd X dX11_worthOf_75 ?_
  refine g_lstore X dX11_worthOf_76 (by decide) (lv' := [(7, .long (((24 : Int64) * (((4 : Int64) * (((1000 : Int64) * (((10 : Int64) * (((10 : Int64) * (((100 : Int64) * ((1 : Int64) + (((mI σ 565 35)).toInt64))) + ((x1).toInt64))) + ((x2).toInt64))) + ((x3).toInt64))) + ((x4).toInt64))) + ((x5).toInt64))) + ((x6).toInt64))), (0, .ref (be θ + 565)), (1, .int x1), (2, .int x2), (3, .int x3), (4, .int x4), (5, .int x5), (6, .int x6)]) rfl ?_
  refine g_lload X dX11_worthOf_78 0 rfl ?_
  refine g_ldc2 X cst_RX11_345 dX11_worthOf_80 ?_
  refine g_lrem X dX11_worthOf_83 (by decide) ?_
  refine g_l2i X dX11_worthOf_84 (v := ((((((24 : Int64) * (((4 : Int64) * (((1000 : Int64) * (((10 : Int64) * (((10 : Int64) * (((100 : Int64) * ((1 : Int64) + (((mI σ 565 35)).toInt64))) + ((x1).toInt64))) + ((x2).toInt64))) + ((x3).toInt64))) + ((x4).toInt64))) + ((x5).toInt64))) + ((x6).toInt64)) - (((24 : Int64) * (((4 : Int64) * (((1000 : Int64) * (((10 : Int64) * (((10 : Int64) * (((100 : Int64) * ((1 : Int64) + (((mI σ 565 35)).toInt64))) + ((x1).toInt64))) + ((x2).toInt64))) + ((x3).toInt64))) + ((x4).toInt64))) + ((x5).toInt64))) + ((x6).toInt64)) / (8191 : Int64) * (8191 : Int64))).toInt32)) rfl ?_
  refine g_istore X dX11_worthOf_85 (by decide) (lv' := [(9, .int ((((((24 : Int64) * (((4 : Int64) * (((1000 : Int64) * (((10 : Int64) * (((10 : Int64) * (((100 : Int64) * ((1 : Int64) + (((mI σ 565 35)).toInt64))) + ((x1).toInt64))) + ((x2).toInt64))) + ((x3).toInt64))) + ((x4).toInt64))) + ((x5).toInt64))) + ((x6).toInt64)) - (((24 : Int64) * (((4 : Int64) * (((1000 : Int64) * (((10 : Int64) * (((10 : Int64) * (((100 : Int64) * ((1 : Int64) + (((mI σ 565 35)).toInt64))) + ((x1).toInt64))) + ((x2).toInt64))) + ((x3).toInt64))) + ((x4).toInt64))) + ((x5).toInt64))) + ((x6).toInt64)) / (8191 : Int64) * (8191 : Int64))).toInt32)), (7, .long (((24 : Int64) * (((4 : Int64) * (((1000 : Int64) * (((10 : Int64) * (((10 : Int64) * (((100 : Int64) * ((1 : Int64) + (((mI σ 565 35)).toInt64))) + ((x1).toInt64))) + ((x2).toInt64))) + ((x3).toInt64))) + ((x4).toInt64))) + ((x5).toInt64))) + ((x6).toInt64))), (0, .ref (be θ + 565)), (1, .int x1), (2, .int x2), (3, .int x3), (4, .int x4), (5, .int x5), (6, .int x6)]) rfl ?_
  refine g_aload_n X dX11_worthOf_87 rfl 2 rfl ?_
  refine g_get X fl_RX11_77 dX11_worthOf_88 kd_565 (v := .ref (be θ + 581)) rfl ?_
  refine g_iload X dX11_worthOf_91 0 rfl ?_
  obtain ⟨g1, h⟩ := ite_some h
  refine g_lald X kd_581 ln_581 (inb_in g1) dX11_worthOf_93 ?_
  refine g_lload X dX11_worthOf_94 1 rfl ?_
  refine g_lcmp X dX11_worthOf_96 ?_
  refine g_if_ne (tgt := 108) X dX11_worthOf_97 (by decide) (fun c2 => ?_) (fun c2 => ?_)
  · replace h := (if_neg c2).symm.trans h
    refine g_aload_n X dX11_worthOf_108 rfl 2 rfl ?_
    refine g_get X fl_RX11_20 dX11_worthOf_109 kd_565 (v := .ref (be θ + 569)) rfl ?_
    refine g_bipush X dX11_worthOf_112 (v := (112 : Int32)) bp_112 ?_
    refine g_iload_n X dX11_worthOf_114 rfl 3 rfl ?_
    refine g_iast X kd_569 ln_569 (inb_in (show inb (112 : Int32) 128 = true by decide)) dX11_worthOf_115 ?_
    refine g_aload_n X dX11_worthOf_116 rfl 2 rfl ?_
    refine g_get X fl_RX11_20 dX11_worthOf_117 kd_565 (v := .ref (be θ + 569)) rfl ?_
    refine g_bipush X dX11_worthOf_120 (v := (119 : Int32)) bp_119 ?_
    refine g_iload_n X dX11_worthOf_122 rfl 4 rfl ?_
    refine g_iast X kd_569 ln_569 (inb_in (show inb (119 : Int32) 128 = true by decide)) dX11_worthOf_123 ?_
    refine g_aload_n X dX11_worthOf_124 rfl 2 rfl ?_
    refine g_get X fl_RX11_20 dX11_worthOf_125 kd_565 (v := .ref (be θ + 569)) rfl ?_
    refine g_bipush X dX11_worthOf_128 (v := (100 : Int32)) bp_100 ?_
    refine g_iload_n X dX11_worthOf_130 rfl 5 rfl ?_
    refine g_iast X kd_569 ln_569 (inb_in (show inb (100 : Int32) 128 = true by decide)) dX11_worthOf_131 ?_
    refine g_aload_n X dX11_worthOf_132 rfl 2 rfl ?_
    refine g_get X fl_RX11_20 dX11_worthOf_133 kd_565 (v := .ref (be θ + 569)) rfl ?_
    refine g_bipush X dX11_worthOf_136 (v := (109 : Int32)) bp_109 ?_
    refine g_iload X dX11_worthOf_138 6 rfl ?_
    refine g_iast X kd_569 ln_569 (inb_in (show inb (109 : Int32) 128 = true by decide)) dX11_worthOf_140 ?_
    refine g_aload_n X dX11_worthOf_141 rfl 2 rfl ?_
    refine g_get X fl_RX11_20 dX11_worthOf_142 kd_565 (v := .ref (be θ + 569)) rfl ?_
    refine g_bipush X dX11_worthOf_145 (v := (115 : Int32)) bp_115 ?_
    refine g_iload X dX11_worthOf_147 7 rfl ?_
    refine g_iast X kd_569 ln_569 (inb_in (show inb (115 : Int32) 128 = true by decide)) dX11_worthOf_149 ?_
    refine g_aload_n X dX11_worthOf_150 rfl 2 rfl ?_
    refine g_get X fl_RX11_20 dX11_worthOf_151 kd_565 (v := .ref (be θ + 569)) rfl ?_
    refine g_bipush X dX11_worthOf_154 (v := (104 : Int32)) bp_104 ?_
    refine g_iload X dX11_worthOf_156 8 rfl ?_
    refine g_iast X kd_569 ln_569 (inb_in (show inb (104 : Int32) 128 = true by decide)) dX11_worthOf_158 ?_
    refine g_aload_n X dX11_worthOf_159 rfl 2 rfl ?_
    refine g_aload_n X dX11_worthOf_160 rfl 2 rfl ?_
    refine g_get X fl_RX11_13 dX11_worthOf_161 kd_565 (v := .ref (be θ + 567)) rfl ?_
    refine g_sipush X dX11_worthOf_164 (v := (240 : Int32)) sp_240 ?_
    refine g_aload_n X dX11_worthOf_167 rfl 2 rfl ?_
    refine g_get X fl_RX11_70 dX11_worthOf_168 kd_565 (v := .int (mI (sI (sI (sI (sI (sI (sI σ 569 (112 : Int32).toNatClampNeg x1) 569 (119 : Int32).toNatClampNeg x2) 569 (100 : Int32).toNatClampNeg x3) 569 (109 : Int32).toNatClampNeg x4) 569 (115 : Int32).toNatClampNeg x5) 569 (104 : Int32).toNatClampNeg x6) 565 35)) rfl ?_
    refine g_imul X dX11_worthOf_171 ?_
    refine g_aload_n X dX11_worthOf_172 rfl 2 rfl ?_
    refine g_get X fl_RX11_16 dX11_worthOf_173 kd_565 (v := .ref (be θ + 568)) rfl ?_
    refine g_aload_n X dX11_worthOf_176 rfl 2 rfl ?_
    refine g_get X fl_RX11_70 dX11_worthOf_177 kd_565 (v := .int (mI (sI (sI (sI (sI (sI (sI σ 569 (112 : Int32).toNatClampNeg x1) 569 (119 : Int32).toNatClampNeg x2) 569 (100 : Int32).toNatClampNeg x3) 569 (109 : Int32).toNatClampNeg x4) 569 (115 : Int32).toNatClampNeg x5) 569 (104 : Int32).toNatClampNeg x6) 565 35)) rfl ?_
    obtain ⟨g3, h⟩ := ite_some h
    refine g_iald X kd_568 ln_568 (inb_in g3) dX11_worthOf_180 ?_
    obtain ⟨q4, hq4, h⟩ := Option.bind_eq_some_iff.mp h
    refine g_cV X (c_Model_goThrough kd_567 hq4) lk_RX11_293 my_X11_goThrough (a := 565) (ci := 11) kd_565 (by decide) rfl (As := [.ref (be θ + 567), .int ((240 : Int32) * (mI (sI (sI (sI (sI (sI (sI σ 569 (112 : Int32).toNatClampNeg x1) 569 (119 : Int32).toNatClampNeg x2) 569 (100 : Int32).toNatClampNeg x3) 569 (109 : Int32).toNatClampNeg x4) 569 (115 : Int32).toNatClampNeg x5) 569 (104 : Int32).toNatClampNeg x6) 565 35)), .int (mI (sI (sI (sI (sI (sI (sI σ 569 (112 : Int32).toNatClampNeg x1) 569 (119 : Int32).toNatClampNeg x2) 569 (100 : Int32).toNatClampNeg x3) 569 (109 : Int32).toNatClampNeg x4) 569 (115 : Int32).toNatClampNeg x5) 569 (104 : Int32).toNatClampNeg x6) 568 (mI (sI (sI (sI (sI (sI (sI σ 569 (112 : Int32).toNatClampNeg x1) 569 (119 : Int32).toNatClampNeg x2) 569 (100 : Int32).toNatClampNeg x3) 569 (109 : Int32).toNatClampNeg x4) 569 (115 : Int32).toNatClampNeg x5) 569 (104 : Int32).toNatClampNeg x6) 565 35).toNatClampNeg)]) (rest := []) rfl rfl (Nat.le_of_ble_eq_true rfl) ⟨(Nat.le_of_ble_eq_true rfl), (Nat.le_of_ble_eq_true rfl)⟩ ⟨(Nat.le_of_ble_eq_true rfl), (Nat.le_of_ble_eq_true rfl)⟩ dX11_worthOf_181 (st' := []) (σ' := q4) rfl rfl ?_
    refine g_aload_n X dX11_worthOf_184 rfl 2 rfl ?_
    refine g_get X fl_RX11_77 dX11_worthOf_185 kd_565 (v := .ref (be θ + 581)) rfl ?_
    refine g_iload X dX11_worthOf_188 0 rfl ?_
    refine g_lload X dX11_worthOf_190 1 rfl ?_
    refine g_last X kd_581 ln_581 (inb_in g1) dX11_worthOf_192 ?_
    refine g_aload_n X dX11_worthOf_193 rfl 2 rfl ?_
    refine g_get X fl_RX11_81 dX11_worthOf_194 kd_565 (v := .ref (be θ + 582)) rfl ?_
    refine g_iload X dX11_worthOf_197 0 rfl ?_
    refine g_iconst X dX11_worthOf_199 (v := (0 : Int32)) ic_0 ?_
    refine g_bipush X dX11_worthOf_200 (v := (99 : Int32)) bp_99 ?_
    refine g_aload_n X dX11_worthOf_202 rfl 2 rfl ?_
    refine g_get X fl_RX11_220 dX11_worthOf_203 kd_565 (v := .int (mI (sL q4 581 ((((((24 : Int64) * (((4 : Int64) * (((1000 : Int64) * (((10 : Int64) * (((10 : Int64) * (((100 : Int64) * ((1 : Int64) + (((mI σ 565 35)).toInt64))) + ((x1).toInt64))) + ((x2).toInt64))) + ((x3).toInt64))) + ((x4).toInt64))) + ((x5).toInt64))) + ((x6).toInt64)) - (((24 : Int64) * (((4 : Int64) * (((1000 : Int64) * (((10 : Int64) * (((10 : Int64) * (((100 : Int64) * ((1 : Int64) + (((mI σ 565 35)).toInt64))) + ((x1).toInt64))) + ((x2).toInt64))) + ((x3).toInt64))) + ((x4).toInt64))) + ((x5).toInt64))) + ((x6).toInt64)) / (8191 : Int64) * (8191 : Int64))).toInt32).toNatClampNeg (((24 : Int64) * (((4 : Int64) * (((1000 : Int64) * (((10 : Int64) * (((10 : Int64) * (((100 : Int64) * ((1 : Int64) + (((mI σ 565 35)).toInt64))) + ((x1).toInt64))) + ((x2).toInt64))) + ((x3).toInt64))) + ((x4).toInt64))) + ((x5).toInt64))) + ((x6).toInt64))) 565 14)) rfl ?_
    refine g_min X lm_RX11_347 ⟨(Nat.le_of_ble_eq_true rfl), (Nat.le_of_ble_eq_true rfl)⟩ ⟨(Nat.le_of_ble_eq_true rfl), (Nat.le_of_ble_eq_true rfl)⟩ dX11_worthOf_206 ?_
    refine g_max X lm_RX11_349 ⟨(Nat.le_of_ble_eq_true rfl), (Nat.le_of_ble_eq_true rfl)⟩ ⟨(Nat.le_of_ble_eq_true rfl), (Nat.le_of_ble_eq_true rfl)⟩ dX11_worthOf_209 ?_
    refine g_iast X kd_582 ln_582 (inb_in g1) dX11_worthOf_212 ?_
    refine g_aload_n X dX11_worthOf_213 rfl 2 rfl ?_
    refine g_get X fl_RX11_81 dX11_worthOf_214 kd_565 (v := .ref (be θ + 582)) rfl ?_
    refine g_iload X dX11_worthOf_217 0 rfl ?_
    refine g_iald X kd_582 ln_582 (inb_in g1) dX11_worthOf_219 ?_
    exact g_iret X hr hlk dX11_worthOf_220 (by cases h; rfl)
  · replace h := (if_pos c2).symm.trans h
    refine g_aload_n X dX11_worthOf_100 rfl 2 rfl ?_
    refine g_get X fl_RX11_81 dX11_worthOf_101 kd_565 (v := .ref (be θ + 582)) rfl ?_
    refine g_iload X dX11_worthOf_104 0 rfl ?_
    refine g_iald X kd_582 ln_582 (inb_in g1) dX11_worthOf_106 ?_
    exact g_iret X hr hlk dX11_worthOf_107 (by cases h; rfl)
set_option maxHeartbeats 4000000 in
set_option maxRecDepth 20000 in
theorem c_Model_worthOf {θ : Th} {l : Launch} {σ : Mem} {x1 : Int32} {x2 : Int32} {x3 : Int32} {x4 : Int32} {x5 : Int32} {x6 : Int32} {r : Int32 × Mem}  (h : f_Model_worthOf σ x1 x2 x3 x4 x5 x6 = some r) : Cn θ l yX11_worthOf cX11_worthOf 10 (some .int) 62 0 0 [.ref (be θ + 565), .int x1, .int x2, .int x3, .int x4, .int x5, .int x6] σ (some (.int r.1), r.2) :=
  Cn.of (by decide) (Nat.le_of_ble_eq_true rfl) (fun p e s m below meth c X hr hlk => g_Model_worthOf X hr hlk  h)
theorem dX11_likingOf_0 : decode cX11_likingOf 0 = .ok (.aload_n 0, 1) := by decide +kernel
theorem dX11_likingOf_1 : decode cX11_likingOf 1 = .ok (.getfield 70, 3) := by decide +kernel
theorem dX11_likingOf_4 : decode cX11_likingOf 4 = .ok (.iconst (-1), 1) := by decide +kernel
theorem dX11_likingOf_5 : decode cX11_likingOf 5 = .ok (.if_icmp .ne 22, 3) := by decide +kernel
theorem dX11_likingOf_8 : decode cX11_likingOf 8 = .ok (.bipush 99, 2) := by decide +kernel
theorem dX11_likingOf_10 : decode cX11_likingOf 10 = .ok (.iconst 4, 1) := by decide +kernel
theorem dX11_likingOf_11 : decode cX11_likingOf 11 = .ok (.aload_n 0, 1) := by decide +kernel
theorem dX11_likingOf_12 : decode cX11_likingOf 12 = .ok (.iload_n 2, 1) := by decide +kernel
theorem dX11_likingOf_13 : decode cX11_likingOf 13 = .ok (.invokevirtual 351, 3) := by decide +kernel
theorem dX11_likingOf_16 : decode cX11_likingOf 16 = .ok (.imul, 1) := by decide +kernel
theorem dX11_likingOf_17 : decode cX11_likingOf 17 = .ok (.aload_n 0, 1) := by decide +kernel
theorem dX11_likingOf_18 : decode cX11_likingOf 18 = .ok (.iload_n 3, 1) := by decide +kernel
theorem dX11_likingOf_19 : decode cX11_likingOf 19 = .ok (.invokevirtual 354, 3) := by decide +kernel
theorem dX11_likingOf_22 : decode cX11_likingOf 22 = .ok (.iadd, 1) := by decide +kernel
theorem dX11_likingOf_23 : decode cX11_likingOf 23 = .ok (.invokestatic 347, 3) := by decide +kernel
theorem dX11_likingOf_26 : decode cX11_likingOf 26 = .ok (.ireturn, 1) := by decide +kernel
theorem dX11_likingOf_27 : decode cX11_likingOf 27 = .ok (.aload_n 0, 1) := by decide +kernel
theorem dX11_likingOf_28 : decode cX11_likingOf 28 = .ok (.aload_n 0, 1) := by decide +kernel
theorem dX11_likingOf_29 : decode cX11_likingOf 29 = .ok (.getfield 43, 3) := by decide +kernel
theorem dX11_likingOf_32 : decode cX11_likingOf 32 = .ok (.iconst 3, 1) := by decide +kernel
theorem dX11_likingOf_33 : decode cX11_likingOf 33 = .ok (.iload_n 3, 1) := by decide +kernel
theorem dX11_likingOf_34 : decode cX11_likingOf 34 = .ok (.imul, 1) := by decide +kernel
theorem dX11_likingOf_35 : decode cX11_likingOf 35 = .ok (.iaload, 1) := by decide +kernel
theorem dX11_likingOf_36 : decode cX11_likingOf 36 = .ok (.aload_n 0, 1) := by decide +kernel
theorem dX11_likingOf_37 : decode cX11_likingOf 37 = .ok (.iload_n 3, 1) := by decide +kernel
theorem dX11_likingOf_38 : decode cX11_likingOf 38 = .ok (.invokevirtual 354, 3) := by decide +kernel
theorem dX11_likingOf_41 : decode cX11_likingOf 41 = .ok (.aload_n 0, 1) := by decide +kernel
theorem dX11_likingOf_42 : decode cX11_likingOf 42 = .ok (.iload_n 2, 1) := by decide +kernel
theorem dX11_likingOf_43 : decode cX11_likingOf 43 = .ok (.invokevirtual 351, 3) := by decide +kernel
theorem dX11_likingOf_46 : decode cX11_likingOf 46 = .ok (.aload_n 1, 1) := by decide +kernel
theorem dX11_likingOf_47 : decode cX11_likingOf 47 = .ok (.bipush 24, 2) := by decide +kernel
theorem dX11_likingOf_49 : decode cX11_likingOf 49 = .ok (.iload_n 2, 1) := by decide +kernel
theorem dX11_likingOf_50 : decode cX11_likingOf 50 = .ok (.iadd, 1) := by decide +kernel
theorem dX11_likingOf_51 : decode cX11_likingOf 51 = .ok (.iaload, 1) := by decide +kernel
theorem dX11_likingOf_52 : decode cX11_likingOf 52 = .ok (.aload_n 0, 1) := by decide +kernel
theorem dX11_likingOf_53 : decode cX11_likingOf 53 = .ok (.getfield 43, 3) := by decide +kernel
theorem dX11_likingOf_56 : decode cX11_likingOf 56 = .ok (.iconst 3, 1) := by decide +kernel
theorem dX11_likingOf_57 : decode cX11_likingOf 57 = .ok (.iload_n 3, 1) := by decide +kernel
theorem dX11_likingOf_58 : decode cX11_likingOf 58 = .ok (.imul, 1) := by decide +kernel
theorem dX11_likingOf_59 : decode cX11_likingOf 59 = .ok (.iconst 2, 1) := by decide +kernel
theorem dX11_likingOf_60 : decode cX11_likingOf 60 = .ok (.iadd, 1) := by decide +kernel
theorem dX11_likingOf_61 : decode cX11_likingOf 61 = .ok (.iaload, 1) := by decide +kernel
theorem dX11_likingOf_62 : decode cX11_likingOf 62 = .ok (.aload_n 1, 1) := by decide +kernel
theorem dX11_likingOf_63 : decode cX11_likingOf 63 = .ok (.sipush 130, 3) := by decide +kernel
theorem dX11_likingOf_66 : decode cX11_likingOf 66 = .ok (.iaload, 1) := by decide +kernel
theorem dX11_likingOf_67 : decode cX11_likingOf 67 = .ok (.bipush 24, 2) := by decide +kernel
theorem dX11_likingOf_69 : decode cX11_likingOf 69 = .ok (.irem, 1) := by decide +kernel
theorem dX11_likingOf_70 : decode cX11_likingOf 70 = .ok (.invokevirtual 357, 3) := by decide +kernel
theorem dX11_likingOf_73 : decode cX11_likingOf 73 = .ok (.ireturn, 1) := by decide +kernel
def f_Model_likingOf (σ : Mem) (x1 : Nat) (x2 : Int32) (x3 : Int32) : Option (Int32 × Mem) :=
  if (mI σ 565 35) = (-1 : Int32) then
    (f_Model_desireOf σ x2).bind fun q9 =>
    (f_Model_weightOf σ x3).bind fun q10 =>
    some ((imin (99 : Int32) (((4 : Int32) * q9) + q10)), σ)
  else
    if inb ((3 : Int32) * x3) 24 then
      (f_Model_weightOf σ x3).bind fun q3 =>
      (f_Model_desireOf σ x2).bind fun q4 =>
      if inb ((24 : Int32) + x2) (ln x1) then
        if inb (((3 : Int32) * x3) + (2 : Int32)) 24 then
          if inb (130 : Int32) (ln x1) then
            (f_Model_worthOf σ (mI σ 572 ((3 : Int32) * x3).toNatClampNeg) q3 q4 (mI σ x1 ((24 : Int32) + x2).toNatClampNeg) (mI σ 572 (((3 : Int32) * x3) + (2 : Int32)).toNatClampNeg) ((mI σ x1 (130 : Int32).toNatClampNeg) - (mI σ x1 (130 : Int32).toNatClampNeg) / (24 : Int32) * (24 : Int32))).bind fun q8 =>
            some (q8.1, q8.2)
          else none
        else none
      else none
    else none
set_option maxHeartbeats 4000000 in
set_option maxRecDepth 20000 in
theorem g_Model_likingOf (X : Cx θ p s m args c cX11_likingOf 4 RX11) (hr : meth.sig.returnType = some .int) (hlk : meth.locks = false)  {σ : Mem} {x1 : Nat} {x2 : Int32} {x3 : Int32} {r : Int32 × Mem} (h1 : kd x1 = 13) (h : f_Model_likingOf σ x1 x2 x3 = some r) : GB θ p l e 63 s m args below meth c 4 (some (.int r.1), r.2) 0 [(0, .ref (be θ + 565)), (1, .ref (be θ + x1)), (2, .int x2), (3, .int x3)] [] σ := by
  unfold f_Model_likingOf at h
  refine g_aload_n X dX11_likingOf_0 rfl 0 rfl ?_
  refine g_get X fl_RX11_70 dX11_likingOf_1 kd_565 (v := .int (mI σ 565 35)) rfl ?_
  refine g_iconst X dX11_likingOf_4 (v := (-1 : Int32)) ic_m1 ?_
  refine g_icmp_ne (tgt := 27) X dX11_likingOf_5 (by decide) (fun c1 => ?_) (fun c1 => ?_)
  · replace h := (if_neg c1).symm.trans h
    refine g_aload_n X dX11_likingOf_27 rfl 0 rfl ?_
    refine g_aload_n X dX11_likingOf_28 rfl 0 rfl ?_
    refine g_get X fl_RX11_43 dX11_likingOf_29 kd_565 (v := .ref (be θ + 572)) rfl ?_
    refine g_iconst X dX11_likingOf_32 (v := (3 : Int32)) ic_3 ?_
    refine g_iload_n X dX11_likingOf_33 rfl 3 rfl ?_
    refine g_imul X dX11_likingOf_34 ?_
    obtain ⟨g2, h⟩ := ite_some h
    refine g_iald X kd_572 ln_572 (inb_in g2) dX11_likingOf_35 ?_
    refine g_aload_n X dX11_likingOf_36 rfl 0 rfl ?_
    refine g_iload_n X dX11_likingOf_37 rfl 3 rfl ?_
    obtain ⟨q3, hq3, h⟩ := Option.bind_eq_some_iff.mp h
    refine g_cV X (c_Model_weightOf  hq3) lk_RX11_354 my_X11_weightOf (a := 565) (ci := 11) kd_565 (by decide) rfl (As := [.int x3]) (rest := [.int (mI σ 572 ((3 : Int32) * x3).toNatClampNeg), .ref (be θ + 565)]) rfl rfl (Nat.le_of_ble_eq_true rfl) ⟨(Nat.le_of_ble_eq_true rfl), (Nat.le_of_ble_eq_true rfl)⟩ ⟨(Nat.le_of_ble_eq_true rfl), (Nat.le_of_ble_eq_true rfl)⟩ dX11_likingOf_38 (st' := [.int q3, .int (mI σ 572 ((3 : Int32) * x3).toNatClampNeg), .ref (be θ + 565)]) (σ' := σ) rfl rfl ?_
    refine g_aload_n X dX11_likingOf_41 rfl 0 rfl ?_
    refine g_iload_n X dX11_likingOf_42 rfl 2 rfl ?_
    obtain ⟨q4, hq4, h⟩ := Option.bind_eq_some_iff.mp h
    refine g_cV X (c_Model_desireOf  hq4) lk_RX11_351 my_X11_desireOf (a := 565) (ci := 11) kd_565 (by decide) rfl (As := [.int x2]) (rest := [.int q3, .int (mI σ 572 ((3 : Int32) * x3).toNatClampNeg), .ref (be θ + 565)]) rfl rfl (Nat.le_of_ble_eq_true rfl) ⟨(Nat.le_of_ble_eq_true rfl), (Nat.le_of_ble_eq_true rfl)⟩ ⟨(Nat.le_of_ble_eq_true rfl), (Nat.le_of_ble_eq_true rfl)⟩ dX11_likingOf_43 (st' := [.int q4, .int q3, .int (mI σ 572 ((3 : Int32) * x3).toNatClampNeg), .ref (be θ + 565)]) (σ' := σ) rfl rfl ?_
    refine g_aload_n X dX11_likingOf_46 rfl 1 rfl ?_
    refine g_bipush X dX11_likingOf_47 (v := (24 : Int32)) bp_24 ?_
    refine g_iload_n X dX11_likingOf_49 rfl 2 rfl ?_
    refine g_iadd X dX11_likingOf_50 ?_
    obtain ⟨g5, h⟩ := ite_some h
    refine g_iald X h1 rfl (inb_in g5) dX11_likingOf_51 ?_
    refine g_aload_n X dX11_likingOf_52 rfl 0 rfl ?_
    refine g_get X fl_RX11_43 dX11_likingOf_53 kd_565 (v := .ref (be θ + 572)) rfl ?_
    refine g_iconst X dX11_likingOf_56 (v := (3 : Int32)) ic_3 ?_
    refine g_iload_n X dX11_likingOf_57 rfl 3 rfl ?_
    refine g_imul X dX11_likingOf_58 ?_
    refine g_iconst X dX11_likingOf_59 (v := (2 : Int32)) ic_2 ?_
    refine g_iadd X dX11_likingOf_60 ?_
    obtain ⟨g6, h⟩ := ite_some h
    refine g_iald X kd_572 ln_572 (inb_in g6) dX11_likingOf_61 ?_
    refine g_aload_n X dX11_likingOf_62 rfl 1 rfl ?_
    refine g_sipush X dX11_likingOf_63 (v := (130 : Int32)) sp_130 ?_
    obtain ⟨g7, h⟩ := ite_some h
    refine g_iald X h1 rfl (inb_in g7) dX11_likingOf_66 ?_
    refine g_bipush X dX11_likingOf_67 (v := (24 : Int32)) bp_24 ?_
    refine g_irem X dX11_likingOf_69 (by decide) ?_
    obtain ⟨q8, hq8, h⟩ := Option.bind_eq_some_iff.mp h
    refine g_cV X (c_Model_worthOf  hq8) lk_RX11_357 my_X11_worthOf (a := 565) (ci := 11) kd_565 (by decide) rfl (As := [.int (mI σ 572 ((3 : Int32) * x3).toNatClampNeg), .int q3, .int q4, .int (mI σ x1 ((24 : Int32) + x2).toNatClampNeg), .int (mI σ 572 (((3 : Int32) * x3) + (2 : Int32)).toNatClampNeg), .int ((mI σ x1 (130 : Int32).toNatClampNeg) - (mI σ x1 (130 : Int32).toNatClampNeg) / (24 : Int32) * (24 : Int32))]) (rest := []) rfl rfl (Nat.le_of_ble_eq_true rfl) ⟨(Nat.le_of_ble_eq_true rfl), (Nat.le_of_ble_eq_true rfl)⟩ ⟨(Nat.le_of_ble_eq_true rfl), (Nat.le_of_ble_eq_true rfl)⟩ dX11_likingOf_70 (st' := [.int q8.1]) (σ' := q8.2) rfl rfl ?_
    exact g_iret X hr hlk dX11_likingOf_73 (by cases h; rfl)
  · replace h := (if_pos c1).symm.trans h
    refine g_bipush X dX11_likingOf_8 (v := (99 : Int32)) bp_99 ?_
    refine g_iconst X dX11_likingOf_10 (v := (4 : Int32)) ic_4 ?_
    refine g_aload_n X dX11_likingOf_11 rfl 0 rfl ?_
    refine g_iload_n X dX11_likingOf_12 rfl 2 rfl ?_
    obtain ⟨q9, hq9, h⟩ := Option.bind_eq_some_iff.mp h
    refine g_cV X (c_Model_desireOf  hq9) lk_RX11_351 my_X11_desireOf (a := 565) (ci := 11) kd_565 (by decide) rfl (As := [.int x2]) (rest := [.int (4 : Int32), .int (99 : Int32)]) rfl rfl (Nat.le_of_ble_eq_true rfl) ⟨(Nat.le_of_ble_eq_true rfl), (Nat.le_of_ble_eq_true rfl)⟩ ⟨(Nat.le_of_ble_eq_true rfl), (Nat.le_of_ble_eq_true rfl)⟩ dX11_likingOf_13 (st' := [.int q9, .int (4 : Int32), .int (99 : Int32)]) (σ' := σ) rfl rfl ?_
    refine g_imul X dX11_likingOf_16 ?_
    refine g_aload_n X dX11_likingOf_17 rfl 0 rfl ?_
    refine g_iload_n X dX11_likingOf_18 rfl 3 rfl ?_
    obtain ⟨q10, hq10, h⟩ := Option.bind_eq_some_iff.mp h
    refine g_cV X (c_Model_weightOf  hq10) lk_RX11_354 my_X11_weightOf (a := 565) (ci := 11) kd_565 (by decide) rfl (As := [.int x3]) (rest := [.int ((4 : Int32) * q9), .int (99 : Int32)]) rfl rfl (Nat.le_of_ble_eq_true rfl) ⟨(Nat.le_of_ble_eq_true rfl), (Nat.le_of_ble_eq_true rfl)⟩ ⟨(Nat.le_of_ble_eq_true rfl), (Nat.le_of_ble_eq_true rfl)⟩ dX11_likingOf_19 (st' := [.int q10, .int ((4 : Int32) * q9), .int (99 : Int32)]) (σ' := σ) rfl rfl ?_
    refine g_iadd X dX11_likingOf_22 ?_
    refine g_min X lm_RX11_347 ⟨(Nat.le_of_ble_eq_true rfl), (Nat.le_of_ble_eq_true rfl)⟩ ⟨(Nat.le_of_ble_eq_true rfl), (Nat.le_of_ble_eq_true rfl)⟩ dX11_likingOf_23 ?_
    exact g_iret X hr hlk dX11_likingOf_26 (by cases h; rfl)
set_option maxHeartbeats 4000000 in
set_option maxRecDepth 20000 in
theorem c_Model_likingOf {θ : Th} {l : Launch} {σ : Mem} {x1 : Nat} {x2 : Int32} {x3 : Int32} {r : Int32 × Mem} (h1 : kd x1 = 13) (h : f_Model_likingOf σ x1 x2 x3 = some r) : Cn θ l yX11_likingOf cX11_likingOf 4 (some .int) 63 0 0 [.ref (be θ + 565), .ref (be θ + x1), .int x2, .int x3] σ (some (.int r.1), r.2) :=
  Cn.of (by decide) (Nat.le_of_ble_eq_true rfl) (fun p e s m below meth c X hr hlk => g_Model_likingOf X hr hlk h1 h)
theorem dX11_dueFor_0 : decode cX11_dueFor 0 = .ok (.aload_n 0, 1) := by decide +kernel
theorem dX11_dueFor_1 : decode cX11_dueFor 1 = .ok (.getfield 43, 3) := by decide +kernel
theorem dX11_dueFor_4 : decode cX11_dueFor 4 = .ok (.iconst 3, 1) := by decide +kernel
theorem dX11_dueFor_5 : decode cX11_dueFor 5 = .ok (.iload_n 3, 1) := by decide +kernel
theorem dX11_dueFor_6 : decode cX11_dueFor 6 = .ok (.imul, 1) := by decide +kernel
theorem dX11_dueFor_7 : decode cX11_dueFor 7 = .ok (.iaload, 1) := by decide +kernel
theorem dX11_dueFor_8 : decode cX11_dueFor 8 = .ok (.aload_n 1, 1) := by decide +kernel
theorem dX11_dueFor_9 : decode cX11_dueFor 9 = .ok (.bipush 127, 2) := by decide +kernel
theorem dX11_dueFor_11 : decode cX11_dueFor 11 = .ok (.iaload, 1) := by decide +kernel
theorem dX11_dueFor_12 : decode cX11_dueFor 12 = .ok (.imul, 1) := by decide +kernel
theorem dX11_dueFor_13 : decode cX11_dueFor 13 = .ok (.bipush 8, 2) := by decide +kernel
theorem dX11_dueFor_15 : decode cX11_dueFor 15 = .ok (.idiv, 1) := by decide +kernel
theorem dX11_dueFor_16 : decode cX11_dueFor 16 = .ok (.istore 4, 2) := by decide +kernel
theorem dX11_dueFor_18 : decode cX11_dueFor 18 = .ok (.aload_n 0, 1) := by decide +kernel
theorem dX11_dueFor_19 : decode cX11_dueFor 19 = .ok (.getfield 49, 3) := by decide +kernel
theorem dX11_dueFor_22 : decode cX11_dueFor 22 = .ok (.iconst 4, 1) := by decide +kernel
theorem dX11_dueFor_23 : decode cX11_dueFor 23 = .ok (.iload_n 2, 1) := by decide +kernel
theorem dX11_dueFor_24 : decode cX11_dueFor 24 = .ok (.imul, 1) := by decide +kernel
theorem dX11_dueFor_25 : decode cX11_dueFor 25 = .ok (.iconst 3, 1) := by decide +kernel
theorem dX11_dueFor_26 : decode cX11_dueFor 26 = .ok (.iadd, 1) := by decide +kernel
theorem dX11_dueFor_27 : decode cX11_dueFor 27 = .ok (.iaload, 1) := by decide +kernel
theorem dX11_dueFor_28 : decode cX11_dueFor 28 = .ok (.iconst 2, 1) := by decide +kernel
theorem dX11_dueFor_29 : decode cX11_dueFor 29 = .ok (.if_icmp .ne 7, 3) := by decide +kernel
theorem dX11_dueFor_32 : decode cX11_dueFor 32 = .ok (.iconst 0, 1) := by decide +kernel
theorem dX11_dueFor_33 : decode cX11_dueFor 33 = .ok (.goto 26, 3) := by decide +kernel
theorem dX11_dueFor_36 : decode cX11_dueFor 36 = .ok (.aload_n 0, 1) := by decide +kernel
theorem dX11_dueFor_37 : decode cX11_dueFor 37 = .ok (.getfield 49, 3) := by decide +kernel
theorem dX11_dueFor_40 : decode cX11_dueFor 40 = .ok (.iconst 4, 1) := by decide +kernel
theorem dX11_dueFor_41 : decode cX11_dueFor 41 = .ok (.iload_n 2, 1) := by decide +kernel
theorem dX11_dueFor_42 : decode cX11_dueFor 42 = .ok (.imul, 1) := by decide +kernel
theorem dX11_dueFor_43 : decode cX11_dueFor 43 = .ok (.iconst 3, 1) := by decide +kernel
theorem dX11_dueFor_44 : decode cX11_dueFor 44 = .ok (.iadd, 1) := by decide +kernel
theorem dX11_dueFor_45 : decode cX11_dueFor 45 = .ok (.iaload, 1) := by decide +kernel
theorem dX11_dueFor_46 : decode cX11_dueFor 46 = .ok (.iconst 1, 1) := by decide +kernel
theorem dX11_dueFor_47 : decode cX11_dueFor 47 = .ok (.if_icmp .ne 10, 3) := by decide +kernel
theorem dX11_dueFor_50 : decode cX11_dueFor 50 = .ok (.iload 4, 2) := by decide +kernel
theorem dX11_dueFor_52 : decode cX11_dueFor 52 = .ok (.iconst 2, 1) := by decide +kernel
theorem dX11_dueFor_53 : decode cX11_dueFor 53 = .ok (.idiv, 1) := by decide +kernel
theorem dX11_dueFor_54 : decode cX11_dueFor 54 = .ok (.goto 5, 3) := by decide +kernel
theorem dX11_dueFor_57 : decode cX11_dueFor 57 = .ok (.iload 4, 2) := by decide +kernel
theorem dX11_dueFor_59 : decode cX11_dueFor 59 = .ok (.ireturn, 1) := by decide +kernel
def f_Model_dueFor (σ : Mem) (x1 : Nat) (x2 : Int32) (x3 : Int32) : Option (Int32) :=
  if inb ((3 : Int32) * x3) 24 then
    if inb (127 : Int32) (ln x1) then
      if inb (((4 : Int32) * x2) + (3 : Int32)) 24 then
        if (mI σ 574 (((4 : Int32) * x2) + (3 : Int32)).toNatClampNeg) = (2 : Int32) then
          some (0 : Int32)
        else
          if (mI σ 574 (((4 : Int32) * x2) + (3 : Int32)).toNatClampNeg) = (1 : Int32) then
            some ((((mI σ 572 ((3 : Int32) * x3).toNatClampNeg) * (mI σ x1 (127 : Int32).toNatClampNeg)) / (8 : Int32)) / (2 : Int32))
          else
            some (((mI σ 572 ((3 : Int32) * x3).toNatClampNeg) * (mI σ x1 (127 : Int32).toNatClampNeg)) / (8 : Int32))
      else none
    else none
  else none
set_option maxHeartbeats 4000000 in
set_option maxRecDepth 20000 in
theorem g_Model_dueFor (X : Cx θ p s m args c cX11_dueFor 5 RX11) (hr : meth.sig.returnType = some .int) (hlk : meth.locks = false)  {σ : Mem} {x1 : Nat} {x2 : Int32} {x3 : Int32} {r : Int32} (h1 : kd x1 = 13) (h : f_Model_dueFor σ x1 x2 x3 = some r) : GB θ p l e 0 s m args below meth c 5 (some (.int r), σ) 0 [(0, .ref (be θ + 565)), (1, .ref (be θ + x1)), (2, .int x2), (3, .int x3)] [] σ := by
  unfold f_Model_dueFor at h
  refine g_aload_n X dX11_dueFor_0 rfl 0 rfl ?_
  refine g_get X fl_RX11_43 dX11_dueFor_1 kd_565 (v := .ref (be θ + 572)) rfl ?_
  refine g_iconst X dX11_dueFor_4 (v := (3 : Int32)) ic_3 ?_
  refine g_iload_n X dX11_dueFor_5 rfl 3 rfl ?_
  refine g_imul X dX11_dueFor_6 ?_
  obtain ⟨g1, h⟩ := ite_some h
  refine g_iald X kd_572 ln_572 (inb_in g1) dX11_dueFor_7 ?_
  refine g_aload_n X dX11_dueFor_8 rfl 1 rfl ?_
  refine g_bipush X dX11_dueFor_9 (v := (127 : Int32)) bp_127 ?_
  obtain ⟨g2, h⟩ := ite_some h
  refine g_iald X h1 rfl (inb_in g2) dX11_dueFor_11 ?_
  refine g_imul X dX11_dueFor_12 ?_
  refine g_bipush X dX11_dueFor_13 (v := (8 : Int32)) bp_8 ?_
  refine g_idiv X dX11_dueFor_15 (by decide) ?_
  refine g_istore X dX11_dueFor_16 (by decide) (lv' := [(4, .int (((mI σ 572 ((3 : Int32) * x3).toNatClampNeg) * (mI σ x1 (127 : Int32).toNatClampNeg)) / (8 : Int32))), (0, .ref (be θ + 565)), (1, .ref (be θ + x1)), (2, .int x2), (3, .int x3)]) rfl ?_
  refine g_aload_n X dX11_dueFor_18 rfl 1 rfl ?_
  refine g_get X fl_RX11_49 dX11_dueFor_19 kd_565 (v := .ref (be θ + 574)) rfl ?_
  refine g_iconst X dX11_dueFor_22 (v := (4 : Int32)) ic_4 ?_
  refine g_iload_n X dX11_dueFor_23 rfl 3 rfl ?_
  refine g_imul X dX11_dueFor_24 ?_
  refine g_iconst X dX11_dueFor_25 (v := (3 : Int32)) ic_3 ?_
  refine g_iadd X dX11_dueFor_26 ?_
  obtain ⟨g3, h⟩ := ite_some h
  refine g_iald X kd_574 ln_574 (inb_in g3) dX11_dueFor_27 ?_
  refine g_iconst X dX11_dueFor_28 (v := (2 : Int32)) ic_2 ?_
  refine g_icmp_ne (tgt := 36) X dX11_dueFor_29 (by decide) (fun c4 => ?_) (fun c4 => ?_)
  · replace h := (if_neg c4).symm.trans h
    refine g_aload_n X dX11_dueFor_36 rfl 1 rfl ?_
    refine g_get X fl_RX11_49 dX11_dueFor_37 kd_565 (v := .ref (be θ + 574)) rfl ?_
    refine g_iconst X dX11_dueFor_40 (v := (4 : Int32)) ic_4 ?_
    refine g_iload_n X dX11_dueFor_41 rfl 3 rfl ?_
    refine g_imul X dX11_dueFor_42 ?_
    refine g_iconst X dX11_dueFor_43 (v := (3 : Int32)) ic_3 ?_
    refine g_iadd X dX11_dueFor_44 ?_
    refine g_iald X kd_574 ln_574 (inb_in g3) dX11_dueFor_45 ?_
    refine g_iconst X dX11_dueFor_46 (v := (1 : Int32)) ic_1 ?_
    refine g_icmp_ne (tgt := 57) X dX11_dueFor_47 (by decide) (fun c5 => ?_) (fun c5 => ?_)
    · replace h := (if_neg c5).symm.trans h
      refine g_iload X dX11_dueFor_57 0 rfl ?_
      exact g_iret X hr hlk dX11_dueFor_59 (by cases h; rfl)
    · replace h := (if_pos c5).symm.trans h
      refine g_iload X dX11_dueFor_50 0 rfl ?_
      refine g_iconst X dX11_dueFor_52 (v := (2 : Int32)) ic_2 ?_
      refine g_idiv X dX11_dueFor_53 (by decide) ?_
      refine g_goto (tgt := 59) X dX11_dueFor_54 (by decide) ?_
      exact g_iret X hr hlk dX11_dueFor_59 (by cases h; rfl)
  · replace h := (if_pos c4).symm.trans h
    refine g_iconst X dX11_dueFor_32 (v := (0 : Int32)) ic_0 ?_
    refine g_goto (tgt := 59) X dX11_dueFor_33 (by decide) ?_
    exact g_iret X hr hlk dX11_dueFor_59 (by cases h; rfl)
set_option maxHeartbeats 4000000 in
set_option maxRecDepth 20000 in
theorem c_Model_dueFor {θ : Th} {l : Launch} {σ : Mem} {x1 : Nat} {x2 : Int32} {x3 : Int32} {r : Int32} (h1 : kd x1 = 13) (h : f_Model_dueFor σ x1 x2 x3 = some r) : Cn θ l yX11_dueFor cX11_dueFor 5 (some .int) 0 0 0 [.ref (be θ + 565), .ref (be θ + x1), .int x2, .int x3] σ (some (.int r), σ) :=
  Cn.of (by decide) (Nat.le_of_ble_eq_true rfl) (fun p e s m below meth c X hr hlk => g_Model_dueFor X hr hlk h1 h)
theorem dX11_strikes_0 : decode cX11_strikes 0 = .ok (.bipush 30, 2) := by decide +kernel
theorem dX11_strikes_2 : decode cX11_strikes 2 = .ok (.iconst 4, 1) := by decide +kernel
theorem dX11_strikes_3 : decode cX11_strikes 3 = .ok (.iload_n 1, 1) := by decide +kernel
theorem dX11_strikes_4 : decode cX11_strikes 4 = .ok (.imul, 1) := by decide +kernel
theorem dX11_strikes_5 : decode cX11_strikes 5 = .ok (.iadd, 1) := by decide +kernel
theorem dX11_strikes_6 : decode cX11_strikes 6 = .ok (.istore_n 2, 1) := by decide +kernel
theorem dX11_strikes_7 : decode cX11_strikes 7 = .ok (.iload_n 2, 1) := by decide +kernel
theorem dX11_strikes_8 : decode cX11_strikes 8 = .ok (.bipush 30, 2) := by decide +kernel
theorem dX11_strikes_10 : decode cX11_strikes 10 = .ok (.iconst 4, 1) := by decide +kernel
theorem dX11_strikes_11 : decode cX11_strikes 11 = .ok (.aload_n 0, 1) := by decide +kernel
theorem dX11_strikes_12 : decode cX11_strikes 12 = .ok (.bipush 126, 2) := by decide +kernel
theorem dX11_strikes_14 : decode cX11_strikes 14 = .ok (.iaload, 1) := by decide +kernel
theorem dX11_strikes_15 : decode cX11_strikes 15 = .ok (.imul, 1) := by decide +kernel
theorem dX11_strikes_16 : decode cX11_strikes 16 = .ok (.iadd, 1) := by decide +kernel
theorem dX11_strikes_17 : decode cX11_strikes 17 = .ok (.iconst 4, 1) := by decide +kernel
theorem dX11_strikes_18 : decode cX11_strikes 18 = .ok (.isub, 1) := by decide +kernel
theorem dX11_strikes_19 : decode cX11_strikes 19 = .ok (.if_icmp .ge 17, 3) := by decide +kernel
theorem dX11_strikes_22 : decode cX11_strikes 22 = .ok (.aload_n 0, 1) := by decide +kernel
theorem dX11_strikes_23 : decode cX11_strikes 23 = .ok (.iload_n 2, 1) := by decide +kernel
theorem dX11_strikes_24 : decode cX11_strikes 24 = .ok (.aload_n 0, 1) := by decide +kernel
theorem dX11_strikes_25 : decode cX11_strikes 25 = .ok (.iload_n 2, 1) := by decide +kernel
theorem dX11_strikes_26 : decode cX11_strikes 26 = .ok (.iconst 4, 1) := by decide +kernel
theorem dX11_strikes_27 : decode cX11_strikes 27 = .ok (.iadd, 1) := by decide +kernel
theorem dX11_strikes_28 : decode cX11_strikes 28 = .ok (.iaload, 1) := by decide +kernel
theorem dX11_strikes_29 : decode cX11_strikes 29 = .ok (.iastore, 1) := by decide +kernel
theorem dX11_strikes_30 : decode cX11_strikes 30 = .ok (.iinc 2 1, 3) := by decide +kernel
theorem dX11_strikes_33 : decode cX11_strikes 33 = .ok (.goto (-26), 3) := by decide +kernel
theorem dX11_strikes_36 : decode cX11_strikes 36 = .ok (.aload_n 0, 1) := by decide +kernel
theorem dX11_strikes_37 : decode cX11_strikes 37 = .ok (.bipush 126, 2) := by decide +kernel
theorem dX11_strikes_39 : decode cX11_strikes 39 = .ok (.dup2, 1) := by decide +kernel
theorem dX11_strikes_40 : decode cX11_strikes 40 = .ok (.iaload, 1) := by decide +kernel
theorem dX11_strikes_41 : decode cX11_strikes 41 = .ok (.iconst 1, 1) := by decide +kernel
theorem dX11_strikes_42 : decode cX11_strikes 42 = .ok (.isub, 1) := by decide +kernel
theorem dX11_strikes_43 : decode cX11_strikes 43 = .ok (.iastore, 1) := by decide +kernel
theorem dX11_strikes_44 : decode cX11_strikes 44 = .ok (.return_, 1) := by decide +kernel
def f_Model_strikes_L7 (x0 : Nat) (x1 : Int32) (a : Mem × Int32) : Option ((Mem × Int32) ⊕ (Mem)) :=
  @Prod.casesOn (Mem) (Int32) (fun _ => Option ((Mem × Int32) ⊕ (Mem))) a fun τ z2 =>
  if inb (126 : Int32) (ln x0) then
    if (((30 : Int32) + ((4 : Int32) * (mI τ x0 (126 : Int32).toNatClampNeg))) - (4 : Int32)) ≤ z2 then
      some (.inr (sI τ x0 (126 : Int32).toNatClampNeg ((mI τ x0 (126 : Int32).toNatClampNeg) - (1 : Int32))))
    else
      if inb (z2 + (4 : Int32)) (ln x0) then
        if inb z2 (ln x0) then
          some (.inl ((sI τ x0 z2.toNatClampNeg (mI τ x0 (z2 + (4 : Int32)).toNatClampNeg)), (z2 + (1 : Int32))))
        else none
      else none
  else none
def f_Model_strikes (σ : Mem) (x0 : Nat) (x1 : Int32) : Option (Mem) :=
  loopF (f_Model_strikes_L7 x0 x1) FU (σ, ((30 : Int32) + ((4 : Int32) * x1)))
set_option maxHeartbeats 4000000 in
set_option maxRecDepth 20000 in
theorem gs_Model_strikes_L7 (X : Cx θ p s m args c cX11_strikes 3 RX11) (hr : meth.sig.returnType = none) (hlk : meth.locks = false)  {x0 : Nat} {x1 : Int32} {r : Mem} (h0 : kd x0 = 13) (τ : Mem) (z2 : Int32) (x : (Mem × Int32) ⊕ (Mem)) (h : f_Model_strikes_L7 x0 x1 (τ, z2) = some x) (hk : Sum.elim (fun a => @Prod.casesOn (Mem) (Int32) (fun _ => Prop) a fun τ z2 => GB θ p l e 0 s m args below meth c 3 (none, r) 7 [(0, .ref (be θ + x0)), (1, .int x1), (2, .int z2)] [] τ) (fun b => b = r) x) : GB θ p l e 0 s m args below meth c 3 (none, r) 7 [(0, .ref (be θ + x0)), (1, .int x1), (2, .int z2)] [] τ := by
  unfold f_Model_strikes_L7 at h
  dsimp only at h
  refine g_iload_n X dX11_strikes_7 rfl 2 rfl ?_
  refine g_bipush X dX11_strikes_8 (v := (30 : Int32)) bp_30 ?_
  refine g_iconst X dX11_strikes_10 (v := (4 : Int32)) ic_4 ?_
  refine g_aload_n X dX11_strikes_11 rfl 0 rfl ?_
  refine g_bipush X dX11_strikes_12 (v := (126 : Int32)) bp_126 ?_
  obtain ⟨g1, h⟩ := ite_some h
  refine g_iald X h0 rfl (inb_in g1) dX11_strikes_14 ?_
  refine g_imul X dX11_strikes_15 ?_
  refine g_iadd X dX11_strikes_16 ?_
  refine g_iconst X dX11_strikes_17 (v := (4 : Int32)) ic_4 ?_
  refine g_isub X dX11_strikes_18 ?_
  refine g_icmp_ge (tgt := 36) X dX11_strikes_19 (by decide) (fun c2 => ?_) (fun c2 => ?_)
  · replace h := (if_pos c2).symm.trans h
    refine g_aload_n X dX11_strikes_36 rfl 0 rfl ?_
    refine g_bipush X dX11_strikes_37 (v := (126 : Int32)) bp_126 ?_
    refine g_dup2 X dX11_strikes_39 rfl rfl ?_
    refine g_iald X h0 rfl (inb_in g1) dX11_strikes_40 ?_
    refine g_iconst X dX11_strikes_41 (v := (1 : Int32)) ic_1 ?_
    refine g_isub X dX11_strikes_42 ?_
    refine g_iast X h0 rfl (inb_in g1) dX11_strikes_43 ?_
    have hk := inr_hk h hk
    have hk : (sI τ x0 (126 : Int32).toNatClampNeg ((mI τ x0 (126 : Int32).toNatClampNeg) - (1 : Int32))) = r := hk
    subst hk
    exact g_vret X hr hlk dX11_strikes_44 rfl
  · replace h := (if_neg c2).symm.trans h
    refine g_aload_n X dX11_strikes_22 rfl 0 rfl ?_
    refine g_iload_n X dX11_strikes_23 rfl 2 rfl ?_
    refine g_aload_n X dX11_strikes_24 rfl 0 rfl ?_
    refine g_iload_n X dX11_strikes_25 rfl 2 rfl ?_
    refine g_iconst X dX11_strikes_26 (v := (4 : Int32)) ic_4 ?_
    refine g_iadd X dX11_strikes_27 ?_
    obtain ⟨g3, h⟩ := ite_some h
    refine g_iald X h0 rfl (inb_in g3) dX11_strikes_28 ?_
    obtain ⟨g4, h⟩ := ite_some h
    refine g_iast X h0 rfl (inb_in g4) dX11_strikes_29 ?_
    refine g_iinc X dX11_strikes_30 (kq := 2) rfl (congrArg (HAdd.hAdd _) ic_1) (by decide) (lv' := [(2, .int (z2 + (1 : Int32))), (0, .ref (be θ + x0)), (1, .int x1)]) rfl ?_
    refine g_goto (tgt := 7) X dX11_strikes_33 (by decide) ?_
    have hk := inl_hk h hk
    exact g_sub (lv' := [(0, .ref (be θ + x0)), (1, .int x1), (2, .int (z2 + (1 : Int32)))]) [1, 2, 0] rfl hk
set_option maxHeartbeats 4000000 in
set_option maxRecDepth 20000 in
theorem gl_Model_strikes_L7 (X : Cx θ p s m args c cX11_strikes 3 RX11) (hr : meth.sig.returnType = none) (hlk : meth.locks = false)  {x0 : Nat} {x1 : Int32} {r : Mem} (h0 : kd x0 = 13) (n : Nat) (a : Mem × Int32) (b : Mem) (h : loopF (f_Model_strikes_L7 x0 x1) n a = some b) (hk : (fun b => b = r) b) : (fun a => @Prod.casesOn (Mem) (Int32) (fun _ => Prop) a fun τ z2 => GB θ p l e 0 s m args below meth c 3 (none, r) 7 [(0, .ref (be θ + x0)), (1, .int x1), (2, .int z2)] [] τ) a :=
  loopF_by (P := (fun a => @Prod.casesOn (Mem) (Int32) (fun _ => Prop) a fun τ z2 => GB θ p l e 0 s m args below meth c 3 (none, r) 7 [(0, .ref (be θ + x0)), (1, .int x1), (2, .int z2)] [] τ)) (K := (fun b => b = r)) (fun a x h hk => by obtain ⟨τ, z2⟩ := a; exact gs_Model_strikes_L7 X hr hlk  h0 τ z2 x h hk) n a b h hk
set_option maxHeartbeats 4000000 in
set_option maxRecDepth 20000 in
theorem g_Model_strikes (X : Cx θ p s m args c cX11_strikes 3 RX11) (hr : meth.sig.returnType = none) (hlk : meth.locks = false)  {σ : Mem} {x0 : Nat} {x1 : Int32} {r : Mem} (h0 : kd x0 = 13) (h : f_Model_strikes σ x0 x1 = some r) : GB θ p l e 0 s m args below meth c 3 (none, r) 0 [(0, .ref (be θ + x0)), (1, .int x1)] [] σ := by
  unfold f_Model_strikes at h
  refine g_bipush X dX11_strikes_0 (v := (30 : Int32)) bp_30 ?_
  refine g_iconst X dX11_strikes_2 (v := (4 : Int32)) ic_4 ?_
  refine g_iload_n X dX11_strikes_3 rfl 1 rfl ?_
  refine g_imul X dX11_strikes_4 ?_
  refine g_iadd X dX11_strikes_5 ?_
  refine g_istore_n X dX11_strikes_6 rfl (by decide) (lv' := [(2, .int ((30 : Int32) + ((4 : Int32) * x1))), (0, .ref (be θ + x0)), (1, .int x1)]) rfl ?_
  exact g_sub (lv' := [(0, .ref (be θ + x0)), (1, .int x1), (2, .int ((30 : Int32) + ((4 : Int32) * x1)))]) [1, 2, 0] rfl (gl_Model_strikes_L7 X hr hlk  h0  FU _ _ h rfl)
set_option maxHeartbeats 4000000 in
set_option maxRecDepth 20000 in
theorem c_Model_strikes {θ : Th} {l : Launch} {σ : Mem} {x0 : Nat} {x1 : Int32} {r : Mem} (h0 : kd x0 = 13) (h : f_Model_strikes σ x0 x1 = some r) : Cn θ l yX11_strikes cX11_strikes 3 (none) 0 0 0 [.ref (be θ + x0), .int x1] σ (none, r) :=
  Cn.of (by decide) (Nat.le_of_ble_eq_true rfl) (fun p e s m below meth c X hr hlk => g_Model_strikes X hr hlk h0 h)
theorem dX11_goesBack_0 : decode cX11_goesBack 0 = .ok (.aload_n 0, 1) := by decide +kernel
theorem dX11_goesBack_1 : decode cX11_goesBack 1 = .ok (.aload_n 1, 1) := by decide +kernel
theorem dX11_goesBack_2 : decode cX11_goesBack 2 = .ok (.iload_n 2, 1) := by decide +kernel
theorem dX11_goesBack_3 : decode cX11_goesBack 3 = .ok (.invokevirtual 361, 3) := by decide +kernel
theorem dX11_goesBack_6 : decode cX11_goesBack 6 = .ok (.istore_n 3, 1) := by decide +kernel
theorem dX11_goesBack_7 : decode cX11_goesBack 7 = .ok (.aload_n 1, 1) := by decide +kernel
theorem dX11_goesBack_8 : decode cX11_goesBack 8 = .ok (.iload_n 3, 1) := by decide +kernel
theorem dX11_goesBack_9 : decode cX11_goesBack 9 = .ok (.iconst (-1), 1) := by decide +kernel
theorem dX11_goesBack_10 : decode cX11_goesBack 10 = .ok (.iastore, 1) := by decide +kernel
theorem dX11_goesBack_11 : decode cX11_goesBack 11 = .ok (.aload_n 1, 1) := by decide +kernel
theorem dX11_goesBack_12 : decode cX11_goesBack 12 = .ok (.bipush 16, 2) := by decide +kernel
theorem dX11_goesBack_14 : decode cX11_goesBack 14 = .ok (.iload_n 3, 1) := by decide +kernel
theorem dX11_goesBack_15 : decode cX11_goesBack 15 = .ok (.iadd, 1) := by decide +kernel
theorem dX11_goesBack_16 : decode cX11_goesBack 16 = .ok (.iconst 0, 1) := by decide +kernel
theorem dX11_goesBack_17 : decode cX11_goesBack 17 = .ok (.iastore, 1) := by decide +kernel
theorem dX11_goesBack_18 : decode cX11_goesBack 18 = .ok (.aload_n 1, 1) := by decide +kernel
theorem dX11_goesBack_19 : decode cX11_goesBack 19 = .ok (.sipush 128, 3) := by decide +kernel
theorem dX11_goesBack_22 : decode cX11_goesBack 22 = .ok (.iaload, 1) := by decide +kernel
theorem dX11_goesBack_23 : decode cX11_goesBack 23 = .ok (.aload_n 0, 1) := by decide +kernel
theorem dX11_goesBack_24 : decode cX11_goesBack 24 = .ok (.getfield 43, 3) := by decide +kernel
theorem dX11_goesBack_27 : decode cX11_goesBack 27 = .ok (.iconst 3, 1) := by decide +kernel
theorem dX11_goesBack_28 : decode cX11_goesBack 28 = .ok (.iload_n 3, 1) := by decide +kernel
theorem dX11_goesBack_29 : decode cX11_goesBack 29 = .ok (.imul, 1) := by decide +kernel
theorem dX11_goesBack_30 : decode cX11_goesBack 30 = .ok (.iconst 2, 1) := by decide +kernel
theorem dX11_goesBack_31 : decode cX11_goesBack 31 = .ok (.iadd, 1) := by decide +kernel
theorem dX11_goesBack_32 : decode cX11_goesBack 32 = .ok (.iaload, 1) := by decide +kernel
theorem dX11_goesBack_33 : decode cX11_goesBack 33 = .ok (.invokestatic 245, 3) := by decide +kernel
theorem dX11_goesBack_36 : decode cX11_goesBack 36 = .ok (.ifCond .eq 7, 3) := by decide +kernel
theorem dX11_goesBack_39 : decode cX11_goesBack 39 = .ok (.iconst 0, 1) := by decide +kernel
theorem dX11_goesBack_40 : decode cX11_goesBack 40 = .ok (.goto 10, 3) := by decide +kernel
theorem dX11_goesBack_43 : decode cX11_goesBack 43 = .ok (.aload_n 0, 1) := by decide +kernel
theorem dX11_goesBack_44 : decode cX11_goesBack 44 = .ok (.aload_n 1, 1) := by decide +kernel
theorem dX11_goesBack_45 : decode cX11_goesBack 45 = .ok (.iload_n 2, 1) := by decide +kernel
theorem dX11_goesBack_46 : decode cX11_goesBack 46 = .ok (.iload_n 3, 1) := by decide +kernel
theorem dX11_goesBack_47 : decode cX11_goesBack 47 = .ok (.invokevirtual 365, 3) := by decide +kernel
theorem dX11_goesBack_50 : decode cX11_goesBack 50 = .ok (.istore 4, 2) := by decide +kernel
theorem dX11_goesBack_52 : decode cX11_goesBack 52 = .ok (.iload 4, 2) := by decide +kernel
theorem dX11_goesBack_54 : decode cX11_goesBack 54 = .ok (.ifCond .ne 5, 3) := by decide +kernel
theorem dX11_goesBack_57 : decode cX11_goesBack 57 = .ok (.iconst 0, 1) := by decide +kernel
theorem dX11_goesBack_58 : decode cX11_goesBack 58 = .ok (.ireturn, 1) := by decide +kernel
theorem dX11_goesBack_59 : decode cX11_goesBack 59 = .ok (.aload_n 1, 1) := by decide +kernel
theorem dX11_goesBack_60 : decode cX11_goesBack 60 = .ok (.bipush 126, 2) := by decide +kernel
theorem dX11_goesBack_62 : decode cX11_goesBack 62 = .ok (.iaload, 1) := by decide +kernel
theorem dX11_goesBack_63 : decode cX11_goesBack 63 = .ok (.bipush 24, 2) := by decide +kernel
theorem dX11_goesBack_65 : decode cX11_goesBack 65 = .ok (.if_icmp .ne 8, 3) := by decide +kernel
theorem dX11_goesBack_68 : decode cX11_goesBack 68 = .ok (.aload_n 1, 1) := by decide +kernel
theorem dX11_goesBack_69 : decode cX11_goesBack 69 = .ok (.iconst 0, 1) := by decide +kernel
theorem dX11_goesBack_70 : decode cX11_goesBack 70 = .ok (.invokestatic 369, 3) := by decide +kernel
theorem dX11_goesBack_73 : decode cX11_goesBack 73 = .ok (.bipush 30, 2) := by decide +kernel
theorem dX11_goesBack_75 : decode cX11_goesBack 75 = .ok (.iconst 4, 1) := by decide +kernel
theorem dX11_goesBack_76 : decode cX11_goesBack 76 = .ok (.aload_n 1, 1) := by decide +kernel
theorem dX11_goesBack_77 : decode cX11_goesBack 77 = .ok (.bipush 126, 2) := by decide +kernel
theorem dX11_goesBack_79 : decode cX11_goesBack 79 = .ok (.iaload, 1) := by decide +kernel
theorem dX11_goesBack_80 : decode cX11_goesBack 80 = .ok (.imul, 1) := by decide +kernel
theorem dX11_goesBack_81 : decode cX11_goesBack 81 = .ok (.iadd, 1) := by decide +kernel
theorem dX11_goesBack_82 : decode cX11_goesBack 82 = .ok (.istore 5, 2) := by decide +kernel
theorem dX11_goesBack_84 : decode cX11_goesBack 84 = .ok (.aload_n 1, 1) := by decide +kernel
theorem dX11_goesBack_85 : decode cX11_goesBack 85 = .ok (.iload 5, 2) := by decide +kernel
theorem dX11_goesBack_87 : decode cX11_goesBack 87 = .ok (.iload_n 2, 1) := by decide +kernel
theorem dX11_goesBack_88 : decode cX11_goesBack 88 = .ok (.iastore, 1) := by decide +kernel
theorem dX11_goesBack_89 : decode cX11_goesBack 89 = .ok (.aload_n 1, 1) := by decide +kernel
theorem dX11_goesBack_90 : decode cX11_goesBack 90 = .ok (.iload 5, 2) := by decide +kernel
theorem dX11_goesBack_92 : decode cX11_goesBack 92 = .ok (.iconst 1, 1) := by decide +kernel
theorem dX11_goesBack_93 : decode cX11_goesBack 93 = .ok (.iadd, 1) := by decide +kernel
theorem dX11_goesBack_94 : decode cX11_goesBack 94 = .ok (.iload_n 3, 1) := by decide +kernel
theorem dX11_goesBack_95 : decode cX11_goesBack 95 = .ok (.iastore, 1) := by decide +kernel
theorem dX11_goesBack_96 : decode cX11_goesBack 96 = .ok (.aload_n 1, 1) := by decide +kernel
theorem dX11_goesBack_97 : decode cX11_goesBack 97 = .ok (.iload 5, 2) := by decide +kernel
theorem dX11_goesBack_99 : decode cX11_goesBack 99 = .ok (.iconst 2, 1) := by decide +kernel
theorem dX11_goesBack_100 : decode cX11_goesBack 100 = .ok (.iadd, 1) := by decide +kernel
theorem dX11_goesBack_101 : decode cX11_goesBack 101 = .ok (.aload_n 1, 1) := by decide +kernel
theorem dX11_goesBack_102 : decode cX11_goesBack 102 = .ok (.sipush 130, 3) := by decide +kernel
theorem dX11_goesBack_105 : decode cX11_goesBack 105 = .ok (.iaload, 1) := by decide +kernel
theorem dX11_goesBack_106 : decode cX11_goesBack 106 = .ok (.iastore, 1) := by decide +kernel
theorem dX11_goesBack_107 : decode cX11_goesBack 107 = .ok (.aload_n 1, 1) := by decide +kernel
theorem dX11_goesBack_108 : decode cX11_goesBack 108 = .ok (.iload 5, 2) := by decide +kernel
theorem dX11_goesBack_110 : decode cX11_goesBack 110 = .ok (.iconst 3, 1) := by decide +kernel
theorem dX11_goesBack_111 : decode cX11_goesBack 111 = .ok (.iadd, 1) := by decide +kernel
theorem dX11_goesBack_112 : decode cX11_goesBack 112 = .ok (.iload 4, 2) := by decide +kernel
theorem dX11_goesBack_114 : decode cX11_goesBack 114 = .ok (.iastore, 1) := by decide +kernel
theorem dX11_goesBack_115 : decode cX11_goesBack 115 = .ok (.aload_n 1, 1) := by decide +kernel
theorem dX11_goesBack_116 : decode cX11_goesBack 116 = .ok (.bipush 126, 2) := by decide +kernel
theorem dX11_goesBack_118 : decode cX11_goesBack 118 = .ok (.dup2, 1) := by decide +kernel
theorem dX11_goesBack_119 : decode cX11_goesBack 119 = .ok (.iaload, 1) := by decide +kernel
theorem dX11_goesBack_120 : decode cX11_goesBack 120 = .ok (.iconst 1, 1) := by decide +kernel
theorem dX11_goesBack_121 : decode cX11_goesBack 121 = .ok (.iadd, 1) := by decide +kernel
theorem dX11_goesBack_122 : decode cX11_goesBack 122 = .ok (.iastore, 1) := by decide +kernel
theorem dX11_goesBack_123 : decode cX11_goesBack 123 = .ok (.iload 4, 2) := by decide +kernel
theorem dX11_goesBack_125 : decode cX11_goesBack 125 = .ok (.ireturn, 1) := by decide +kernel
def f_Model_goesBack_J73 (σ : Mem) (x1 : Nat) (x2 : Int32) (y3 : Int32) (y4 : Int32) : Option (Int32 × Mem) :=
  if inb (126 : Int32) (ln x1) then
    if inb ((30 : Int32) + ((4 : Int32) * (mI σ x1 (126 : Int32).toNatClampNeg))) (ln x1) then
      if inb (((30 : Int32) + ((4 : Int32) * (mI σ x1 (126 : Int32).toNatClampNeg))) + (1 : Int32)) (ln x1) then
        if inb (130 : Int32) (ln x1) then
          if inb (((30 : Int32) + ((4 : Int32) * (mI σ x1 (126 : Int32).toNatClampNeg))) + (2 : Int32)) (ln x1) then
            if inb (((30 : Int32) + ((4 : Int32) * (mI σ x1 (126 : Int32).toNatClampNeg))) + (3 : Int32)) (ln x1) then
              some (y4, (sI (sI (sI (sI (sI σ x1 ((30 : Int32) + ((4 : Int32) * (mI σ x1 (126 : Int32).toNatClampNeg))).toNatClampNeg x2) x1 (((30 : Int32) + ((4 : Int32) * (mI σ x1 (126 : Int32).toNatClampNeg))) + (1 : Int32)).toNatClampNeg y3) x1 (((30 : Int32) + ((4 : Int32) * (mI σ x1 (126 : Int32).toNatClampNeg))) + (2 : Int32)).toNatClampNeg (mI (sI (sI σ x1 ((30 : Int32) + ((4 : Int32) * (mI σ x1 (126 : Int32).toNatClampNeg))).toNatClampNeg x2) x1 (((30 : Int32) + ((4 : Int32) * (mI σ x1 (126 : Int32).toNatClampNeg))) + (1 : Int32)).toNatClampNeg y3) x1 (130 : Int32).toNatClampNeg)) x1 (((30 : Int32) + ((4 : Int32) * (mI σ x1 (126 : Int32).toNatClampNeg))) + (3 : Int32)).toNatClampNeg y4) x1 (126 : Int32).toNatClampNeg ((mI (sI (sI (sI (sI σ x1 ((30 : Int32) + ((4 : Int32) * (mI σ x1 (126 : Int32).toNatClampNeg))).toNatClampNeg x2) x1 (((30 : Int32) + ((4 : Int32) * (mI σ x1 (126 : Int32).toNatClampNeg))) + (1 : Int32)).toNatClampNeg y3) x1 (((30 : Int32) + ((4 : Int32) * (mI σ x1 (126 : Int32).toNatClampNeg))) + (2 : Int32)).toNatClampNeg (mI (sI (sI σ x1 ((30 : Int32) + ((4 : Int32) * (mI σ x1 (126 : Int32).toNatClampNeg))).toNatClampNeg x2) x1 (((30 : Int32) + ((4 : Int32) * (mI σ x1 (126 : Int32).toNatClampNeg))) + (1 : Int32)).toNatClampNeg y3) x1 (130 : Int32).toNatClampNeg)) x1 (((30 : Int32) + ((4 : Int32) * (mI σ x1 (126 : Int32).toNatClampNeg))) + (3 : Int32)).toNatClampNeg y4) x1 (126 : Int32).toNatClampNeg) + (1 : Int32))))
            else none
          else none
        else none
      else none
    else none
  else none
def f_Model_goesBack (σ : Mem) (x1 : Nat) (x2 : Int32) : Option (Int32 × Mem) :=
  (f_Model_holds σ x1 x2).bind fun q1 =>
  if inb q1 (ln x1) then
    if inb ((16 : Int32) + q1) (ln x1) then
      if inb (128 : Int32) (ln x1) then
        if inb (((3 : Int32) * q1) + (2 : Int32)) 24 then
          (f_Model_has (sI (sI σ x1 q1.toNatClampNeg (-1 : Int32)) x1 ((16 : Int32) + q1).toNatClampNeg (0 : Int32)) (mI (sI (sI σ x1 q1.toNatClampNeg (-1 : Int32)) x1 ((16 : Int32) + q1).toNatClampNeg (0 : Int32)) x1 (128 : Int32).toNatClampNeg) (mI (sI (sI σ x1 q1.toNatClampNeg (-1 : Int32)) x1 ((16 : Int32) + q1).toNatClampNeg (0 : Int32)) 572 (((3 : Int32) * q1) + (2 : Int32)).toNatClampNeg)).bind fun q6 =>
          if q6 = (0 : Int32) then
            (f_Model_dueFor (sI (sI σ x1 q1.toNatClampNeg (-1 : Int32)) x1 ((16 : Int32) + q1).toNatClampNeg (0 : Int32)) x1 x2 q1).bind fun q8 =>
            if q8 = (0 : Int32) then
              some ((0 : Int32), (sI (sI σ x1 q1.toNatClampNeg (-1 : Int32)) x1 ((16 : Int32) + q1).toNatClampNeg (0 : Int32)))
            else
              if inb (126 : Int32) (ln x1) then
                if (mI (sI (sI σ x1 q1.toNatClampNeg (-1 : Int32)) x1 ((16 : Int32) + q1).toNatClampNeg (0 : Int32)) x1 (126 : Int32).toNatClampNeg) = (24 : Int32) then
                  (f_Model_strikes (sI (sI σ x1 q1.toNatClampNeg (-1 : Int32)) x1 ((16 : Int32) + q1).toNatClampNeg (0 : Int32)) x1 (0 : Int32)).bind fun q18 =>
                  f_Model_goesBack_J73 q18 x1 x2 q1 q8
                else
                  f_Model_goesBack_J73 (sI (sI σ x1 q1.toNatClampNeg (-1 : Int32)) x1 ((16 : Int32) + q1).toNatClampNeg (0 : Int32)) x1 x2 q1 q8
              else none
          else
            if (0 : Int32) = (0 : Int32) then
              some ((0 : Int32), (sI (sI σ x1 q1.toNatClampNeg (-1 : Int32)) x1 ((16 : Int32) + q1).toNatClampNeg (0 : Int32)))
            else
              if inb (126 : Int32) (ln x1) then
                if (mI (sI (sI σ x1 q1.toNatClampNeg (-1 : Int32)) x1 ((16 : Int32) + q1).toNatClampNeg (0 : Int32)) x1 (126 : Int32).toNatClampNeg) = (24 : Int32) then
                  (f_Model_strikes (sI (sI σ x1 q1.toNatClampNeg (-1 : Int32)) x1 ((16 : Int32) + q1).toNatClampNeg (0 : Int32)) x1 (0 : Int32)).bind fun q22 =>
                  f_Model_goesBack_J73 q22 x1 x2 q1 (0 : Int32)
                else
                  f_Model_goesBack_J73 (sI (sI σ x1 q1.toNatClampNeg (-1 : Int32)) x1 ((16 : Int32) + q1).toNatClampNeg (0 : Int32)) x1 x2 q1 (0 : Int32)
              else none
        else none
      else none
    else none
  else none
set_option maxHeartbeats 4000000 in
set_option maxRecDepth 20000 in
theorem g_Model_goesBack_J73 (X : Cx θ p s m args c cX11_goesBack 6 RX11) (hr : meth.sig.returnType = some .int) (hlk : meth.locks = false)  {σ : Mem} {x1 : Nat} {x2 : Int32} {y3 : Int32} {y4 : Int32} {r : Int32 × Mem} (h1 : kd x1 = 13) (h : f_Model_goesBack_J73 σ x1 x2 y3 y4 = some r) : GB θ p l e 1 s m args below meth c 6 (some (.int r.1), r.2) 73 [(0, .ref (be θ + 565)), (1, .ref (be θ + x1)), (2, .int x2), (3, .int y3), (4, .int y4)] [] σ := by
  unfold f_Model_goesBack_J73 at h
  refine g_bipush X dX11_goesBack_73 (v := (30 : Int32)) bp_30 ?_
  refine g_iconst X dX11_goesBack_75 (v := (4 : Int32)) ic_4 ?_
  refine g_aload_n X dX11_goesBack_76 rfl 1 rfl ?_
  refine g_bipush X dX11_goesBack_77 (v := (126 : Int32)) bp_126 ?_
  obtain ⟨g12, h⟩ := ite_some h
  refine g_iald X h1 rfl (inb_in g12) dX11_goesBack_79 ?_
  refine g_imul X dX11_goesBack_80 ?_
  refine g_iadd X dX11_goesBack_81 ?_
  refine g_istore X dX11_goesBack_82 (by decide) (lv' := [(5, .int ((30 : Int32) + ((4 : Int32) * (mI σ x1 (126 : Int32).toNatClampNeg)))), (0, .ref (be θ + 565)), (1, .ref (be θ + x1)), (2, .int x2), (3, .int y3), (4, .int y4)]) rfl ?_
  refine g_aload_n X dX11_goesBack_84 rfl 2 rfl ?_
  refine g_iload X dX11_goesBack_85 0 rfl ?_
  refine g_iload_n X dX11_goesBack_87 rfl 3 rfl ?_
  obtain ⟨g13, h⟩ := ite_some h
  refine g_iast X h1 rfl (inb_in g13) dX11_goesBack_88 ?_
  refine g_aload_n X dX11_goesBack_89 rfl 2 rfl ?_
  refine g_iload X dX11_goesBack_90 0 rfl ?_
  refine g_iconst X dX11_goesBack_92 (v := (1 : Int32)) ic_1 ?_
  refine g_iadd X dX11_goesBack_93 ?_
  refine g_iload_n X dX11_goesBack_94 rfl 4 rfl ?_
  obtain ⟨g14, h⟩ := ite_some h
  refine g_iast X h1 rfl (inb_in g14) dX11_goesBack_95 ?_
  refine g_aload_n X dX11_goesBack_96 rfl 2 rfl ?_
  refine g_iload X dX11_goesBack_97 0 rfl ?_
  refine g_iconst X dX11_goesBack_99 (v := (2 : Int32)) ic_2 ?_
  refine g_iadd X dX11_goesBack_100 ?_
  refine g_aload_n X dX11_goesBack_101 rfl 2 rfl ?_
  refine g_sipush X dX11_goesBack_102 (v := (130 : Int32)) sp_130 ?_
  obtain ⟨g15, h⟩ := ite_some h
  refine g_iald X h1 rfl (inb_in g15) dX11_goesBack_105 ?_
  obtain ⟨g16, h⟩ := ite_some h
  refine g_iast X h1 rfl (inb_in g16) dX11_goesBack_106 ?_
  refine g_aload_n X dX11_goesBack_107 rfl 2 rfl ?_
  refine g_iload X dX11_goesBack_108 0 rfl ?_
  refine g_iconst X dX11_goesBack_110 (v := (3 : Int32)) ic_3 ?_
  refine g_iadd X dX11_goesBack_111 ?_
  refine g_iload X dX11_goesBack_112 5 rfl ?_
  obtain ⟨g17, h⟩ := ite_some h
  refine g_iast X h1 rfl (inb_in g17) dX11_goesBack_114 ?_
  refine g_aload_n X dX11_goesBack_115 rfl 2 rfl ?_
  refine g_bipush X dX11_goesBack_116 (v := (126 : Int32)) bp_126 ?_
  refine g_dup2 X dX11_goesBack_118 rfl rfl ?_
  refine g_iald X h1 rfl (inb_in g12) dX11_goesBack_119 ?_
  refine g_iconst X dX11_goesBack_120 (v := (1 : Int32)) ic_1 ?_
  refine g_iadd X dX11_goesBack_121 ?_
  refine g_iast X h1 rfl (inb_in g12) dX11_goesBack_122 ?_
  refine g_iload X dX11_goesBack_123 5 rfl ?_
  exact g_iret X hr hlk dX11_goesBack_125 (by cases h; rfl)
set_option maxHeartbeats 4000000 in
set_option maxRecDepth 20000 in
theorem g_Model_goesBack (X : Cx θ p s m args c cX11_goesBack 6 RX11) (hr : meth.sig.returnType = some .int) (hlk : meth.locks = false)  {σ : Mem} {x1 : Nat} {x2 : Int32} {r : Int32 × Mem} (h1 : kd x1 = 13) (h : f_Model_goesBack σ x1 x2 = some r) : GB θ p l e 1 s m args below meth c 6 (some (.int r.1), r.2) 0 [(0, .ref (be θ + 565)), (1, .ref (be θ + x1)), (2, .int x2)] [] σ := by
  unfold f_Model_goesBack at h
  refine g_aload_n X dX11_goesBack_0 rfl 0 rfl ?_
  refine g_aload_n X dX11_goesBack_1 rfl 1 rfl ?_
  refine g_iload_n X dX11_goesBack_2 rfl 2 rfl ?_
  obtain ⟨q1, hq1, h⟩ := Option.bind_eq_some_iff.mp h
  refine g_cV X (c_Model_holds h1 hq1) lk_RX11_361 my_X11_holds (a := 565) (ci := 11) kd_565 (by decide) rfl (As := [.ref (be θ + x1), .int x2]) (rest := []) rfl rfl (Nat.le_of_ble_eq_true rfl) ⟨(Nat.le_of_ble_eq_true rfl), (Nat.le_of_ble_eq_true rfl)⟩ ⟨(Nat.le_of_ble_eq_true rfl), (Nat.le_of_ble_eq_true rfl)⟩ dX11_goesBack_3 (st' := [.int q1]) (σ' := σ) rfl rfl ?_
  refine g_istore_n X dX11_goesBack_6 rfl (by decide) (lv' := [(3, .int q1), (0, .ref (be θ + 565)), (1, .ref (be θ + x1)), (2, .int x2)]) rfl ?_
  refine g_aload_n X dX11_goesBack_7 rfl 2 rfl ?_
  refine g_iload_n X dX11_goesBack_8 rfl 0 rfl ?_
  refine g_iconst X dX11_goesBack_9 (v := (-1 : Int32)) ic_m1 ?_
  obtain ⟨g2, h⟩ := ite_some h
  refine g_iast X h1 rfl (inb_in g2) dX11_goesBack_10 ?_
  refine g_aload_n X dX11_goesBack_11 rfl 2 rfl ?_
  refine g_bipush X dX11_goesBack_12 (v := (16 : Int32)) bp_16 ?_
  refine g_iload_n X dX11_goesBack_14 rfl 0 rfl ?_
  refine g_iadd X dX11_goesBack_15 ?_
  refine g_iconst X dX11_goesBack_16 (v := (0 : Int32)) ic_0 ?_
  obtain ⟨g3, h⟩ := ite_some h
  refine g_iast X h1 rfl (inb_in g3) dX11_goesBack_17 ?_
  refine g_aload_n X dX11_goesBack_18 rfl 2 rfl ?_
  refine g_sipush X dX11_goesBack_19 (v := (128 : Int32)) sp_128 ?_
  obtain ⟨g4, h⟩ := ite_some h
  refine g_iald X h1 rfl (inb_in g4) dX11_goesBack_22 ?_
  refine g_aload_n X dX11_goesBack_23 rfl 1 rfl ?_
  refine g_get X fl_RX11_43 dX11_goesBack_24 kd_565 (v := .ref (be θ + 572)) rfl ?_
  refine g_iconst X dX11_goesBack_27 (v := (3 : Int32)) ic_3 ?_
  refine g_iload_n X dX11_goesBack_28 rfl 0 rfl ?_
  refine g_imul X dX11_goesBack_29 ?_
  refine g_iconst X dX11_goesBack_30 (v := (2 : Int32)) ic_2 ?_
  refine g_iadd X dX11_goesBack_31 ?_
  obtain ⟨g5, h⟩ := ite_some h
  refine g_iald X kd_572 ln_572 (inb_in g5) dX11_goesBack_32 ?_
  obtain ⟨q6, hq6, h⟩ := Option.bind_eq_some_iff.mp h
  refine g_cS X (c_Model_has  hq6) lk_RX11_245 my_X11_has (As := [.int (mI (sI (sI σ x1 q1.toNatClampNeg (-1 : Int32)) x1 ((16 : Int32) + q1).toNatClampNeg (0 : Int32)) x1 (128 : Int32).toNatClampNeg), .int (mI (sI (sI σ x1 q1.toNatClampNeg (-1 : Int32)) x1 ((16 : Int32) + q1).toNatClampNeg (0 : Int32)) 572 (((3 : Int32) * q1) + (2 : Int32)).toNatClampNeg)]) (rest := []) rfl rfl (Nat.le_of_ble_eq_true rfl) ⟨(Nat.le_of_ble_eq_true rfl), (Nat.le_of_ble_eq_true rfl)⟩ ⟨(Nat.le_of_ble_eq_true rfl), (Nat.le_of_ble_eq_true rfl)⟩ dX11_goesBack_33 (st' := [.int q6]) (σ' := (sI (sI σ x1 q1.toNatClampNeg (-1 : Int32)) x1 ((16 : Int32) + q1).toNatClampNeg (0 : Int32))) rfl rfl ?_
  refine g_if_eq (tgt := 43) X dX11_goesBack_36 (by decide) (fun c7 => ?_) (fun c7 => ?_)
  · replace h := (if_pos c7).symm.trans h
    refine g_aload_n X dX11_goesBack_43 rfl 1 rfl ?_
    refine g_aload_n X dX11_goesBack_44 rfl 2 rfl ?_
    refine g_iload_n X dX11_goesBack_45 rfl 3 rfl ?_
    refine g_iload_n X dX11_goesBack_46 rfl 0 rfl ?_
    obtain ⟨q8, hq8, h⟩ := Option.bind_eq_some_iff.mp h
    refine g_cV X (c_Model_dueFor h1 hq8) lk_RX11_365 my_X11_dueFor (a := 565) (ci := 11) kd_565 (by decide) rfl (As := [.ref (be θ + x1), .int x2, .int q1]) (rest := []) rfl rfl (Nat.le_of_ble_eq_true rfl) ⟨(Nat.le_of_ble_eq_true rfl), (Nat.le_of_ble_eq_true rfl)⟩ ⟨(Nat.le_of_ble_eq_true rfl), (Nat.le_of_ble_eq_true rfl)⟩ dX11_goesBack_47 (st' := [.int q8]) (σ' := (sI (sI σ x1 q1.toNatClampNeg (-1 : Int32)) x1 ((16 : Int32) + q1).toNatClampNeg (0 : Int32))) rfl rfl ?_
    refine g_istore X dX11_goesBack_50 (by decide) (lv' := [(4, .int q8), (3, .int q1), (0, .ref (be θ + 565)), (1, .ref (be θ + x1)), (2, .int x2)]) rfl ?_
    refine g_iload X dX11_goesBack_52 0 rfl ?_
    refine g_if_ne (tgt := 59) X dX11_goesBack_54 (by decide) (fun c9 => ?_) (fun c9 => ?_)
    · replace h := (if_neg c9).symm.trans h
      refine g_aload_n X dX11_goesBack_59 rfl 3 rfl ?_
      refine g_bipush X dX11_goesBack_60 (v := (126 : Int32)) bp_126 ?_
      obtain ⟨g10, h⟩ := ite_some h
      refine g_iald X h1 rfl (inb_in g10) dX11_goesBack_62 ?_
      refine g_bipush X dX11_goesBack_63 (v := (24 : Int32)) bp_24 ?_
      refine g_icmp_ne (tgt := 73) X dX11_goesBack_65 (by decide) (fun c11 => ?_) (fun c11 => ?_)
      · replace h := (if_neg c11).symm.trans h
        exact g_sub (lv' := [(0, .ref (be θ + 565)), (1, .ref (be θ + x1)), (2, .int x2), (3, .int q1), (4, .int q8)]) [2, 3, 4, 1, 0] rfl (g_Model_goesBack_J73 X hr hlk  h1  h)
      · replace h := (if_pos c11).symm.trans h
        refine g_aload_n X dX11_goesBack_68 rfl 3 rfl ?_
        refine g_iconst X dX11_goesBack_69 (v := (0 : Int32)) ic_0 ?_
        obtain ⟨q18, hq18, h⟩ := Option.bind_eq_some_iff.mp h
        refine g_cS X (c_Model_strikes h1 hq18) lk_RX11_369 my_X11_strikes (As := [.ref (be θ + x1), .int (0 : Int32)]) (rest := []) rfl rfl (Nat.le_of_ble_eq_true rfl) ⟨(Nat.le_of_ble_eq_true rfl), (Nat.le_of_ble_eq_true rfl)⟩ ⟨(Nat.le_of_ble_eq_true rfl), (Nat.le_of_ble_eq_true rfl)⟩ dX11_goesBack_70 (st' := []) (σ' := q18) rfl rfl ?_
        exact g_sub (lv' := [(0, .ref (be θ + 565)), (1, .ref (be θ + x1)), (2, .int x2), (3, .int q1), (4, .int q8)]) [2, 3, 4, 1, 0] rfl (g_Model_goesBack_J73 X hr hlk  h1  h)
    · replace h := (if_pos c9).symm.trans h
      refine g_iconst X dX11_goesBack_57 (v := (0 : Int32)) ic_0 ?_
      exact g_iret X hr hlk dX11_goesBack_58 (by cases h; rfl)
  · replace h := (if_neg c7).symm.trans h
    refine g_iconst X dX11_goesBack_39 (v := (0 : Int32)) ic_0 ?_
    refine g_goto (tgt := 50) X dX11_goesBack_40 (by decide) ?_
    refine g_istore X dX11_goesBack_50 (by decide) (lv' := [(4, .int (0 : Int32)), (3, .int q1), (0, .ref (be θ + 565)), (1, .ref (be θ + x1)), (2, .int x2)]) rfl ?_
    refine g_iload X dX11_goesBack_52 0 rfl ?_
    refine g_if_ne (tgt := 59) X dX11_goesBack_54 (by decide) (fun c19 => ?_) (fun c19 => ?_)
    · replace h := (if_neg c19).symm.trans h
      refine g_aload_n X dX11_goesBack_59 rfl 3 rfl ?_
      refine g_bipush X dX11_goesBack_60 (v := (126 : Int32)) bp_126 ?_
      obtain ⟨g20, h⟩ := ite_some h
      refine g_iald X h1 rfl (inb_in g20) dX11_goesBack_62 ?_
      refine g_bipush X dX11_goesBack_63 (v := (24 : Int32)) bp_24 ?_
      refine g_icmp_ne (tgt := 73) X dX11_goesBack_65 (by decide) (fun c21 => ?_) (fun c21 => ?_)
      · replace h := (if_neg c21).symm.trans h
        exact g_sub (lv' := [(0, .ref (be θ + 565)), (1, .ref (be θ + x1)), (2, .int x2), (3, .int q1), (4, .int (0 : Int32))]) [2, 3, 4, 1, 0] rfl (g_Model_goesBack_J73 X hr hlk  h1  h)
      · replace h := (if_pos c21).symm.trans h
        refine g_aload_n X dX11_goesBack_68 rfl 3 rfl ?_
        refine g_iconst X dX11_goesBack_69 (v := (0 : Int32)) ic_0 ?_
        obtain ⟨q22, hq22, h⟩ := Option.bind_eq_some_iff.mp h
        refine g_cS X (c_Model_strikes h1 hq22) lk_RX11_369 my_X11_strikes (As := [.ref (be θ + x1), .int (0 : Int32)]) (rest := []) rfl rfl (Nat.le_of_ble_eq_true rfl) ⟨(Nat.le_of_ble_eq_true rfl), (Nat.le_of_ble_eq_true rfl)⟩ ⟨(Nat.le_of_ble_eq_true rfl), (Nat.le_of_ble_eq_true rfl)⟩ dX11_goesBack_70 (st' := []) (σ' := q22) rfl rfl ?_
        exact g_sub (lv' := [(0, .ref (be θ + 565)), (1, .ref (be θ + x1)), (2, .int x2), (3, .int q1), (4, .int (0 : Int32))]) [2, 3, 4, 1, 0] rfl (g_Model_goesBack_J73 X hr hlk  h1  h)
    · replace h := (if_pos c19).symm.trans h
      refine g_iconst X dX11_goesBack_57 (v := (0 : Int32)) ic_0 ?_
      exact g_iret X hr hlk dX11_goesBack_58 (by cases h; rfl)
set_option maxHeartbeats 4000000 in
set_option maxRecDepth 20000 in
theorem c_Model_goesBack {θ : Th} {l : Launch} {σ : Mem} {x1 : Nat} {x2 : Int32} {r : Int32 × Mem} (h1 : kd x1 = 13) (h : f_Model_goesBack σ x1 x2 = some r) : Cn θ l yX11_goesBack cX11_goesBack 6 (some .int) 1 0 0 [.ref (be θ + 565), .ref (be θ + x1), .int x2] σ (some (.int r.1), r.2) :=
  Cn.of (by decide) (Nat.le_of_ble_eq_true rfl) (fun p e s m below meth c X hr hlk => g_Model_goesBack X hr hlk h1 h)
theorem dX11_buys_0 : decode cX11_buys 0 = .ok (.aload_n 0, 1) := by decide +kernel
theorem dX11_buys_1 : decode cX11_buys 1 = .ok (.aload_n 1, 1) := by decide +kernel
theorem dX11_buys_2 : decode cX11_buys 2 = .ok (.iload_n 2, 1) := by decide +kernel
theorem dX11_buys_3 : decode cX11_buys 3 = .ok (.invokevirtual 361, 3) := by decide +kernel
theorem dX11_buys_6 : decode cX11_buys 6 = .ok (.istore_n 3, 1) := by decide +kernel
theorem dX11_buys_7 : decode cX11_buys 7 = .ok (.aload_n 1, 1) := by decide +kernel
theorem dX11_buys_8 : decode cX11_buys 8 = .ok (.bipush 24, 2) := by decide +kernel
theorem dX11_buys_10 : decode cX11_buys 10 = .ok (.iload_n 2, 1) := by decide +kernel
theorem dX11_buys_11 : decode cX11_buys 11 = .ok (.iadd, 1) := by decide +kernel
theorem dX11_buys_12 : decode cX11_buys 12 = .ok (.dup2, 1) := by decide +kernel
theorem dX11_buys_13 : decode cX11_buys 13 = .ok (.iaload, 1) := by decide +kernel
theorem dX11_buys_14 : decode cX11_buys 14 = .ok (.aload_n 0, 1) := by decide +kernel
theorem dX11_buys_15 : decode cX11_buys 15 = .ok (.getfield 43, 3) := by decide +kernel
theorem dX11_buys_18 : decode cX11_buys 18 = .ok (.iconst 3, 1) := by decide +kernel
theorem dX11_buys_19 : decode cX11_buys 19 = .ok (.iload_n 3, 1) := by decide +kernel
theorem dX11_buys_20 : decode cX11_buys 20 = .ok (.imul, 1) := by decide +kernel
theorem dX11_buys_21 : decode cX11_buys 21 = .ok (.iaload, 1) := by decide +kernel
theorem dX11_buys_22 : decode cX11_buys 22 = .ok (.isub, 1) := by decide +kernel
theorem dX11_buys_23 : decode cX11_buys 23 = .ok (.iastore, 1) := by decide +kernel
theorem dX11_buys_24 : decode cX11_buys 24 = .ok (.aload_n 1, 1) := by decide +kernel
theorem dX11_buys_25 : decode cX11_buys 25 = .ok (.bipush 8, 2) := by decide +kernel
theorem dX11_buys_27 : decode cX11_buys 27 = .ok (.iload_n 3, 1) := by decide +kernel
theorem dX11_buys_28 : decode cX11_buys 28 = .ok (.iadd, 1) := by decide +kernel
theorem dX11_buys_29 : decode cX11_buys 29 = .ok (.iconst 1, 1) := by decide +kernel
theorem dX11_buys_30 : decode cX11_buys 30 = .ok (.iastore, 1) := by decide +kernel
theorem dX11_buys_31 : decode cX11_buys 31 = .ok (.aload_n 1, 1) := by decide +kernel
theorem dX11_buys_32 : decode cX11_buys 32 = .ok (.bipush 16, 2) := by decide +kernel
theorem dX11_buys_34 : decode cX11_buys 34 = .ok (.iload_n 3, 1) := by decide +kernel
theorem dX11_buys_35 : decode cX11_buys 35 = .ok (.iadd, 1) := by decide +kernel
theorem dX11_buys_36 : decode cX11_buys 36 = .ok (.iconst 0, 1) := by decide +kernel
theorem dX11_buys_37 : decode cX11_buys 37 = .ok (.iastore, 1) := by decide +kernel
theorem dX11_buys_38 : decode cX11_buys 38 = .ok (.iconst 0, 1) := by decide +kernel
theorem dX11_buys_39 : decode cX11_buys 39 = .ok (.istore 4, 2) := by decide +kernel
theorem dX11_buys_41 : decode cX11_buys 41 = .ok (.aload_n 1, 1) := by decide +kernel
theorem dX11_buys_42 : decode cX11_buys 42 = .ok (.bipush 126, 2) := by decide +kernel
theorem dX11_buys_44 : decode cX11_buys 44 = .ok (.iaload, 1) := by decide +kernel
theorem dX11_buys_45 : decode cX11_buys 45 = .ok (.iconst 1, 1) := by decide +kernel
theorem dX11_buys_46 : decode cX11_buys 46 = .ok (.isub, 1) := by decide +kernel
theorem dX11_buys_47 : decode cX11_buys 47 = .ok (.istore 5, 2) := by decide +kernel
theorem dX11_buys_49 : decode cX11_buys 49 = .ok (.iload 5, 2) := by decide +kernel
theorem dX11_buys_51 : decode cX11_buys 51 = .ok (.ifCond .lt 69, 3) := by decide +kernel
theorem dX11_buys_54 : decode cX11_buys 54 = .ok (.bipush 30, 2) := by decide +kernel
theorem dX11_buys_56 : decode cX11_buys 56 = .ok (.iconst 4, 1) := by decide +kernel
theorem dX11_buys_57 : decode cX11_buys 57 = .ok (.iload 5, 2) := by decide +kernel
theorem dX11_buys_59 : decode cX11_buys 59 = .ok (.imul, 1) := by decide +kernel
theorem dX11_buys_60 : decode cX11_buys 60 = .ok (.iadd, 1) := by decide +kernel
theorem dX11_buys_61 : decode cX11_buys 61 = .ok (.istore 6, 2) := by decide +kernel
theorem dX11_buys_63 : decode cX11_buys 63 = .ok (.aload_n 1, 1) := by decide +kernel
theorem dX11_buys_64 : decode cX11_buys 64 = .ok (.iload 6, 2) := by decide +kernel
theorem dX11_buys_66 : decode cX11_buys 66 = .ok (.iaload, 1) := by decide +kernel
theorem dX11_buys_67 : decode cX11_buys 67 = .ok (.iload_n 2, 1) := by decide +kernel
theorem dX11_buys_68 : decode cX11_buys 68 = .ok (.if_icmp .ne 46, 3) := by decide +kernel
theorem dX11_buys_71 : decode cX11_buys 71 = .ok (.aload_n 1, 1) := by decide +kernel
theorem dX11_buys_72 : decode cX11_buys 72 = .ok (.iload 6, 2) := by decide +kernel
theorem dX11_buys_74 : decode cX11_buys 74 = .ok (.iconst 1, 1) := by decide +kernel
theorem dX11_buys_75 : decode cX11_buys 75 = .ok (.iadd, 1) := by decide +kernel
theorem dX11_buys_76 : decode cX11_buys 76 = .ok (.iaload, 1) := by decide +kernel
theorem dX11_buys_77 : decode cX11_buys 77 = .ok (.iload_n 3, 1) := by decide +kernel
theorem dX11_buys_78 : decode cX11_buys 78 = .ok (.if_icmp .ne 36, 3) := by decide +kernel
theorem dX11_buys_81 : decode cX11_buys 81 = .ok (.aload_n 1, 1) := by decide +kernel
theorem dX11_buys_82 : decode cX11_buys 82 = .ok (.sipush 130, 3) := by decide +kernel
theorem dX11_buys_85 : decode cX11_buys 85 = .ok (.iaload, 1) := by decide +kernel
theorem dX11_buys_86 : decode cX11_buys 86 = .ok (.aload_n 1, 1) := by decide +kernel
theorem dX11_buys_87 : decode cX11_buys 87 = .ok (.iload 6, 2) := by decide +kernel
theorem dX11_buys_89 : decode cX11_buys 89 = .ok (.iconst 2, 1) := by decide +kernel
theorem dX11_buys_90 : decode cX11_buys 90 = .ok (.iadd, 1) := by decide +kernel
theorem dX11_buys_91 : decode cX11_buys 91 = .ok (.iaload, 1) := by decide +kernel
theorem dX11_buys_92 : decode cX11_buys 92 = .ok (.isub, 1) := by decide +kernel
theorem dX11_buys_93 : decode cX11_buys 93 = .ok (.aload_n 0, 1) := by decide +kernel
theorem dX11_buys_94 : decode cX11_buys 94 = .ok (.getfield 37, 3) := by decide +kernel
theorem dX11_buys_97 : decode cX11_buys 97 = .ok (.iconst 1, 1) := by decide +kernel
theorem dX11_buys_98 : decode cX11_buys 98 = .ok (.iaload, 1) := by decide +kernel
theorem dX11_buys_99 : decode cX11_buys 99 = .ok (.if_icmp .le 6, 3) := by decide +kernel
theorem dX11_buys_102 : decode cX11_buys 102 = .ok (.goto 12, 3) := by decide +kernel
theorem dX11_buys_105 : decode cX11_buys 105 = .ok (.aload_n 1, 1) := by decide +kernel
theorem dX11_buys_106 : decode cX11_buys 106 = .ok (.iload 5, 2) := by decide +kernel
theorem dX11_buys_108 : decode cX11_buys 108 = .ok (.invokestatic 369, 3) := by decide +kernel
theorem dX11_buys_111 : decode cX11_buys 111 = .ok (.iinc 4 1, 3) := by decide +kernel
theorem dX11_buys_114 : decode cX11_buys 114 = .ok (.iinc 5 (-1), 3) := by decide +kernel
theorem dX11_buys_117 : decode cX11_buys 117 = .ok (.goto (-68), 3) := by decide +kernel
theorem dX11_buys_120 : decode cX11_buys 120 = .ok (.iload 4, 2) := by decide +kernel
theorem dX11_buys_122 : decode cX11_buys 122 = .ok (.ireturn, 1) := by decide +kernel
def f_Model_buys_L49 (x1 : Nat) (x2 : Int32) (y3 : Int32) (a : Mem × Int32 × Int32) : Option ((Mem × Int32 × Int32) ⊕ (Int32 × Mem)) :=
  @Prod.casesOn (Mem) (Int32 × Int32) (fun _ => Option ((Mem × Int32 × Int32) ⊕ (Int32 × Mem))) a fun τ b0 =>
  @Prod.casesOn (Int32) (Int32) (fun _ => Option ((Mem × Int32 × Int32) ⊕ (Int32 × Mem))) b0 fun z4 z5 =>
  if z5 < (0 : Int32) then
    some (.inr (z4, τ))
  else
    if inb ((30 : Int32) + ((4 : Int32) * z5)) (ln x1) then
      if (mI τ x1 ((30 : Int32) + ((4 : Int32) * z5)).toNatClampNeg) = x2 then
        if inb (((30 : Int32) + ((4 : Int32) * z5)) + (1 : Int32)) (ln x1) then
          if (mI τ x1 (((30 : Int32) + ((4 : Int32) * z5)) + (1 : Int32)).toNatClampNeg) = y3 then
            if inb (130 : Int32) (ln x1) then
              if inb (((30 : Int32) + ((4 : Int32) * z5)) + (2 : Int32)) (ln x1) then
                if ((mI τ x1 (130 : Int32).toNatClampNeg) - (mI τ x1 (((30 : Int32) + ((4 : Int32) * z5)) + (2 : Int32)).toNatClampNeg)) ≤ (mI τ 570 (1 : Int32).toNatClampNeg) then
                  (f_Model_strikes τ x1 z5).bind fun q15 =>
                  some (.inl (q15, (z4 + (1 : Int32)), (z5 + (-1 : Int32))))
                else
                  some (.inl (τ, z4, (z5 + (-1 : Int32))))
              else none
            else none
          else
            some (.inl (τ, z4, (z5 + (-1 : Int32))))
        else none
      else
        some (.inl (τ, z4, (z5 + (-1 : Int32))))
    else none
def f_Model_buys (σ : Mem) (x1 : Nat) (x2 : Int32) : Option (Int32 × Mem) :=
  (f_Model_holds σ x1 x2).bind fun q1 =>
  if inb ((24 : Int32) + x2) (ln x1) then
    if inb ((3 : Int32) * q1) 24 then
      if inb ((8 : Int32) + q1) (ln x1) then
        if inb ((16 : Int32) + q1) (ln x1) then
          if inb (126 : Int32) (ln x1) then
            loopF (f_Model_buys_L49 x1 x2 q1) FU ((sI (sI (sI σ x1 ((24 : Int32) + x2).toNatClampNeg ((mI σ x1 ((24 : Int32) + x2).toNatClampNeg) - (mI σ 572 ((3 : Int32) * q1).toNatClampNeg))) x1 ((8 : Int32) + q1).toNatClampNeg (1 : Int32)) x1 ((16 : Int32) + q1).toNatClampNeg (0 : Int32)), (0 : Int32), ((mI (sI (sI (sI σ x1 ((24 : Int32) + x2).toNatClampNeg ((mI σ x1 ((24 : Int32) + x2).toNatClampNeg) - (mI σ 572 ((3 : Int32) * q1).toNatClampNeg))) x1 ((8 : Int32) + q1).toNatClampNeg (1 : Int32)) x1 ((16 : Int32) + q1).toNatClampNeg (0 : Int32)) x1 (126 : Int32).toNatClampNeg) - (1 : Int32)))
          else none
        else none
      else none
    else none
  else none
set_option maxHeartbeats 4000000 in
set_option maxRecDepth 20000 in
theorem gs_Model_buys_L49 (X : Cx θ p s m args c cX11_buys 7 RX11) (hr : meth.sig.returnType = some .int) (hlk : meth.locks = false)  {x1 : Nat} {x2 : Int32} {y3 : Int32} {r : Int32 × Mem} (h1 : kd x1 = 13) (τ : Mem) (z4 : Int32) (z5 : Int32) (x : (Mem × Int32 × Int32) ⊕ (Int32 × Mem)) (h : f_Model_buys_L49 x1 x2 y3 (τ, z4, z5) = some x) (hk : Sum.elim (fun a => @Prod.casesOn (Mem) (Int32 × Int32) (fun _ => Prop) a fun τ b0 => @Prod.casesOn (Int32) (Int32) (fun _ => Prop) b0 fun z4 z5 => GB θ p l e 1 s m args below meth c 7 (some (.int r.1), r.2) 49 [(0, .ref (be θ + 565)), (1, .ref (be θ + x1)), (2, .int x2), (3, .int y3), (4, .int z4), (5, .int z5)] [] τ) (fun b => b = r) x) : GB θ p l e 1 s m args below meth c 7 (some (.int r.1), r.2) 49 [(0, .ref (be θ + 565)), (1, .ref (be θ + x1)), (2, .int x2), (3, .int y3), (4, .int z4), (5, .int z5)] [] τ := by
  unfold f_Model_buys_L49 at h
  dsimp only at h
  refine g_iload X dX11_buys_49 5 rfl ?_
  refine g_if_lt (tgt := 120) X dX11_buys_51 (by decide) (fun c7 => ?_) (fun c7 => ?_)
  · replace h := (if_pos c7).symm.trans h
    refine g_iload X dX11_buys_120 4 rfl ?_
    have hk := inr_hk h hk
    have hk : (z4, τ) = r := hk
    subst hk
    exact g_iret X hr hlk dX11_buys_122 rfl
  · replace h := (if_neg c7).symm.trans h
    refine g_bipush X dX11_buys_54 (v := (30 : Int32)) bp_30 ?_
    refine g_iconst X dX11_buys_56 (v := (4 : Int32)) ic_4 ?_
    refine g_iload X dX11_buys_57 5 rfl ?_
    refine g_imul X dX11_buys_59 ?_
    refine g_iadd X dX11_buys_60 ?_
    refine g_istore X dX11_buys_61 (by decide) (lv' := [(6, .int ((30 : Int32) + ((4 : Int32) * z5))), (0, .ref (be θ + 565)), (1, .ref (be θ + x1)), (2, .int x2), (3, .int y3), (4, .int z4), (5, .int z5)]) rfl ?_
    refine g_aload_n X dX11_buys_63 rfl 2 rfl ?_
    refine g_iload X dX11_buys_64 0 rfl ?_
    obtain ⟨g8, h⟩ := ite_some h
    refine g_iald X h1 rfl (inb_in g8) dX11_buys_66 ?_
    refine g_iload_n X dX11_buys_67 rfl 3 rfl ?_
    refine g_icmp_ne (tgt := 114) X dX11_buys_68 (by decide) (fun c9 => ?_) (fun c9 => ?_)
    · replace h := (if_neg c9).symm.trans h
      refine g_iinc X dX11_buys_114 (kq := 6) rfl (congrArg (HAdd.hAdd _) ic_m1) (by decide) (lv' := [(5, .int (z5 + (-1 : Int32))), (6, .int ((30 : Int32) + ((4 : Int32) * z5))), (0, .ref (be θ + 565)), (1, .ref (be θ + x1)), (2, .int x2), (3, .int y3), (4, .int z4)]) rfl ?_
      refine g_goto (tgt := 49) X dX11_buys_117 (by decide) ?_
      have hk := inl_hk h hk
      exact g_sub (lv' := [(0, .ref (be θ + 565)), (1, .ref (be θ + x1)), (2, .int x2), (3, .int y3), (4, .int z4), (5, .int (z5 + (-1 : Int32)))]) [2, 3, 4, 5, 6, 0] rfl hk
    · replace h := (if_pos c9).symm.trans h
      refine g_aload_n X dX11_buys_71 rfl 2 rfl ?_
      refine g_iload X dX11_buys_72 0 rfl ?_
      refine g_iconst X dX11_buys_74 (v := (1 : Int32)) ic_1 ?_
      refine g_iadd X dX11_buys_75 ?_
      obtain ⟨g10, h⟩ := ite_some h
      refine g_iald X h1 rfl (inb_in g10) dX11_buys_76 ?_
      refine g_iload_n X dX11_buys_77 rfl 4 rfl ?_
      refine g_icmp_ne (tgt := 114) X dX11_buys_78 (by decide) (fun c11 => ?_) (fun c11 => ?_)
      · replace h := (if_neg c11).symm.trans h
        refine g_iinc X dX11_buys_114 (kq := 6) rfl (congrArg (HAdd.hAdd _) ic_m1) (by decide) (lv' := [(5, .int (z5 + (-1 : Int32))), (6, .int ((30 : Int32) + ((4 : Int32) * z5))), (0, .ref (be θ + 565)), (1, .ref (be θ + x1)), (2, .int x2), (3, .int y3), (4, .int z4)]) rfl ?_
        refine g_goto (tgt := 49) X dX11_buys_117 (by decide) ?_
        have hk := inl_hk h hk
        exact g_sub (lv' := [(0, .ref (be θ + 565)), (1, .ref (be θ + x1)), (2, .int x2), (3, .int y3), (4, .int z4), (5, .int (z5 + (-1 : Int32)))]) [2, 3, 4, 5, 6, 0] rfl hk
      · replace h := (if_pos c11).symm.trans h
        refine g_aload_n X dX11_buys_81 rfl 2 rfl ?_
        refine g_sipush X dX11_buys_82 (v := (130 : Int32)) sp_130 ?_
        obtain ⟨g12, h⟩ := ite_some h
        refine g_iald X h1 rfl (inb_in g12) dX11_buys_85 ?_
        refine g_aload_n X dX11_buys_86 rfl 2 rfl ?_
        refine g_iload X dX11_buys_87 0 rfl ?_
        refine g_iconst X dX11_buys_89 (v := (2 : Int32)) ic_2 ?_
        refine g_iadd X dX11_buys_90 ?_
        obtain ⟨g13, h⟩ := ite_some h
        refine g_iald X h1 rfl (inb_in g13) dX11_buys_91 ?_
        refine g_isub X dX11_buys_92 ?_
        refine g_aload_n X dX11_buys_93 rfl 1 rfl ?_
        refine g_get X fl_RX11_37 dX11_buys_94 kd_565 (v := .ref (be θ + 570)) rfl ?_
        refine g_iconst X dX11_buys_97 (v := (1 : Int32)) ic_1 ?_
        refine g_iald X kd_570 ln_570 (inb_in (show inb (1 : Int32) 4 = true by decide)) dX11_buys_98 ?_
        refine g_icmp_le (tgt := 105) X dX11_buys_99 (by decide) (fun c14 => ?_) (fun c14 => ?_)
        · replace h := (if_pos c14).symm.trans h
          refine g_aload_n X dX11_buys_105 rfl 2 rfl ?_
          refine g_iload X dX11_buys_106 6 rfl ?_
          obtain ⟨q15, hq15, h⟩ := Option.bind_eq_some_iff.mp h
          refine g_cS X (c_Model_strikes h1 hq15) lk_RX11_369 my_X11_strikes (As := [.ref (be θ + x1), .int z5]) (rest := []) rfl rfl (Nat.le_of_ble_eq_true rfl) ⟨(Nat.le_of_ble_eq_true rfl), (Nat.le_of_ble_eq_true rfl)⟩ ⟨(Nat.le_of_ble_eq_true rfl), (Nat.le_of_ble_eq_true rfl)⟩ dX11_buys_108 (st' := []) (σ' := q15) rfl rfl ?_
          refine g_iinc X dX11_buys_111 (kq := 5) rfl (congrArg (HAdd.hAdd _) ic_1) (by decide) (lv' := [(4, .int (z4 + (1 : Int32))), (6, .int ((30 : Int32) + ((4 : Int32) * z5))), (0, .ref (be θ + 565)), (1, .ref (be θ + x1)), (2, .int x2), (3, .int y3), (5, .int z5)]) rfl ?_
          refine g_iinc X dX11_buys_114 (kq := 6) rfl (congrArg (HAdd.hAdd _) ic_m1) (by decide) (lv' := [(5, .int (z5 + (-1 : Int32))), (4, .int (z4 + (1 : Int32))), (6, .int ((30 : Int32) + ((4 : Int32) * z5))), (0, .ref (be θ + 565)), (1, .ref (be θ + x1)), (2, .int x2), (3, .int y3)]) rfl ?_
          refine g_goto (tgt := 49) X dX11_buys_117 (by decide) ?_
          have hk := inl_hk h hk
          exact g_sub (lv' := [(0, .ref (be θ + 565)), (1, .ref (be θ + x1)), (2, .int x2), (3, .int y3), (4, .int (z4 + (1 : Int32))), (5, .int (z5 + (-1 : Int32)))]) [3, 4, 5, 6, 1, 0] rfl hk
        · replace h := (if_neg c14).symm.trans h
          refine g_goto (tgt := 114) X dX11_buys_102 (by decide) ?_
          refine g_iinc X dX11_buys_114 (kq := 6) rfl (congrArg (HAdd.hAdd _) ic_m1) (by decide) (lv' := [(5, .int (z5 + (-1 : Int32))), (6, .int ((30 : Int32) + ((4 : Int32) * z5))), (0, .ref (be θ + 565)), (1, .ref (be θ + x1)), (2, .int x2), (3, .int y3), (4, .int z4)]) rfl ?_
          refine g_goto (tgt := 49) X dX11_buys_117 (by decide) ?_
          have hk := inl_hk h hk
          exact g_sub (lv' := [(0, .ref (be θ + 565)), (1, .ref (be θ + x1)), (2, .int x2), (3, .int y3), (4, .int z4), (5, .int (z5 + (-1 : Int32)))]) [2, 3, 4, 5, 6, 0] rfl hk
set_option maxHeartbeats 4000000 in
set_option maxRecDepth 20000 in
theorem gl_Model_buys_L49 (X : Cx θ p s m args c cX11_buys 7 RX11) (hr : meth.sig.returnType = some .int) (hlk : meth.locks = false)  {x1 : Nat} {x2 : Int32} {y3 : Int32} {r : Int32 × Mem} (h1 : kd x1 = 13) (n : Nat) (a : Mem × Int32 × Int32) (b : Int32 × Mem) (h : loopF (f_Model_buys_L49 x1 x2 y3) n a = some b) (hk : (fun b => b = r) b) : (fun a => @Prod.casesOn (Mem) (Int32 × Int32) (fun _ => Prop) a fun τ b0 => @Prod.casesOn (Int32) (Int32) (fun _ => Prop) b0 fun z4 z5 => GB θ p l e 1 s m args below meth c 7 (some (.int r.1), r.2) 49 [(0, .ref (be θ + 565)), (1, .ref (be θ + x1)), (2, .int x2), (3, .int y3), (4, .int z4), (5, .int z5)] [] τ) a :=
  loopF_by (P := (fun a => @Prod.casesOn (Mem) (Int32 × Int32) (fun _ => Prop) a fun τ b0 => @Prod.casesOn (Int32) (Int32) (fun _ => Prop) b0 fun z4 z5 => GB θ p l e 1 s m args below meth c 7 (some (.int r.1), r.2) 49 [(0, .ref (be θ + 565)), (1, .ref (be θ + x1)), (2, .int x2), (3, .int y3), (4, .int z4), (5, .int z5)] [] τ)) (K := (fun b => b = r)) (fun a x h hk => by obtain ⟨τ, z4, z5⟩ := a; exact gs_Model_buys_L49 X hr hlk  h1 τ z4 z5 x h hk) n a b h hk
set_option maxHeartbeats 4000000 in
set_option maxRecDepth 20000 in
theorem g_Model_buys (X : Cx θ p s m args c cX11_buys 7 RX11) (hr : meth.sig.returnType = some .int) (hlk : meth.locks = false)  {σ : Mem} {x1 : Nat} {x2 : Int32} {r : Int32 × Mem} (h1 : kd x1 = 13) (h : f_Model_buys σ x1 x2 = some r) : GB θ p l e 1 s m args below meth c 7 (some (.int r.1), r.2) 0 [(0, .ref (be θ + 565)), (1, .ref (be θ + x1)), (2, .int x2)] [] σ := by
  unfold f_Model_buys at h
  refine g_aload_n X dX11_buys_0 rfl 0 rfl ?_
  refine g_aload_n X dX11_buys_1 rfl 1 rfl ?_
  refine g_iload_n X dX11_buys_2 rfl 2 rfl ?_
  obtain ⟨q1, hq1, h⟩ := Option.bind_eq_some_iff.mp h
  refine g_cV X (c_Model_holds h1 hq1) lk_RX11_361 my_X11_holds (a := 565) (ci := 11) kd_565 (by decide) rfl (As := [.ref (be θ + x1), .int x2]) (rest := []) rfl rfl (Nat.le_of_ble_eq_true rfl) ⟨(Nat.le_of_ble_eq_true rfl), (Nat.le_of_ble_eq_true rfl)⟩ ⟨(Nat.le_of_ble_eq_true rfl), (Nat.le_of_ble_eq_true rfl)⟩ dX11_buys_3 (st' := [.int q1]) (σ' := σ) rfl rfl ?_
  refine g_istore_n X dX11_buys_6 rfl (by decide) (lv' := [(3, .int q1), (0, .ref (be θ + 565)), (1, .ref (be θ + x1)), (2, .int x2)]) rfl ?_
  refine g_aload_n X dX11_buys_7 rfl 2 rfl ?_
  refine g_bipush X dX11_buys_8 (v := (24 : Int32)) bp_24 ?_
  refine g_iload_n X dX11_buys_10 rfl 3 rfl ?_
  refine g_iadd X dX11_buys_11 ?_
  refine g_dup2 X dX11_buys_12 rfl rfl ?_
  obtain ⟨g2, h⟩ := ite_some h
  refine g_iald X h1 rfl (inb_in g2) dX11_buys_13 ?_
  refine g_aload_n X dX11_buys_14 rfl 1 rfl ?_
  refine g_get X fl_RX11_43 dX11_buys_15 kd_565 (v := .ref (be θ + 572)) rfl ?_
  refine g_iconst X dX11_buys_18 (v := (3 : Int32)) ic_3 ?_
  refine g_iload_n X dX11_buys_19 rfl 0 rfl ?_
  refine g_imul X dX11_buys_20 ?_
  obtain ⟨g3, h⟩ := ite_some h
  refine g_iald X kd_572 ln_572 (inb_in g3) dX11_buys_21 ?_
  refine g_isub X dX11_buys_22 ?_
  refine g_iast X h1 rfl (inb_in g2) dX11_buys_23 ?_
  refine g_aload_n X dX11_buys_24 rfl 2 rfl ?_
  refine g_bipush X dX11_buys_25 (v := (8 : Int32)) bp_8 ?_
  refine g_iload_n X dX11_buys_27 rfl 0 rfl ?_
  refine g_iadd X dX11_buys_28 ?_
  refine g_iconst X dX11_buys_29 (v := (1 : Int32)) ic_1 ?_
  obtain ⟨g4, h⟩ := ite_some h
  refine g_iast X h1 rfl (inb_in g4) dX11_buys_30 ?_
  refine g_aload_n X dX11_buys_31 rfl 2 rfl ?_
  refine g_bipush X dX11_buys_32 (v := (16 : Int32)) bp_16 ?_
  refine g_iload_n X dX11_buys_34 rfl 0 rfl ?_
  refine g_iadd X dX11_buys_35 ?_
  refine g_iconst X dX11_buys_36 (v := (0 : Int32)) ic_0 ?_
  obtain ⟨g5, h⟩ := ite_some h
  refine g_iast X h1 rfl (inb_in g5) dX11_buys_37 ?_
  refine g_iconst X dX11_buys_38 (v := (0 : Int32)) ic_0 ?_
  refine g_istore X dX11_buys_39 (by decide) (lv' := [(4, .int (0 : Int32)), (3, .int q1), (0, .ref (be θ + 565)), (1, .ref (be θ + x1)), (2, .int x2)]) rfl ?_
  refine g_aload_n X dX11_buys_41 rfl 3 rfl ?_
  refine g_bipush X dX11_buys_42 (v := (126 : Int32)) bp_126 ?_
  obtain ⟨g6, h⟩ := ite_some h
  refine g_iald X h1 rfl (inb_in g6) dX11_buys_44 ?_
  refine g_iconst X dX11_buys_45 (v := (1 : Int32)) ic_1 ?_
  refine g_isub X dX11_buys_46 ?_
  refine g_istore X dX11_buys_47 (by decide) (lv' := [(5, .int ((mI (sI (sI (sI σ x1 ((24 : Int32) + x2).toNatClampNeg ((mI σ x1 ((24 : Int32) + x2).toNatClampNeg) - (mI σ 572 ((3 : Int32) * q1).toNatClampNeg))) x1 ((8 : Int32) + q1).toNatClampNeg (1 : Int32)) x1 ((16 : Int32) + q1).toNatClampNeg (0 : Int32)) x1 (126 : Int32).toNatClampNeg) - (1 : Int32))), (4, .int (0 : Int32)), (3, .int q1), (0, .ref (be θ + 565)), (1, .ref (be θ + x1)), (2, .int x2)]) rfl ?_
  exact g_sub (lv' := [(0, .ref (be θ + 565)), (1, .ref (be θ + x1)), (2, .int x2), (3, .int q1), (4, .int (0 : Int32)), (5, .int ((mI (sI (sI (sI σ x1 ((24 : Int32) + x2).toNatClampNeg ((mI σ x1 ((24 : Int32) + x2).toNatClampNeg) - (mI σ 572 ((3 : Int32) * q1).toNatClampNeg))) x1 ((8 : Int32) + q1).toNatClampNeg (1 : Int32)) x1 ((16 : Int32) + q1).toNatClampNeg (0 : Int32)) x1 (126 : Int32).toNatClampNeg) - (1 : Int32)))]) [3, 4, 5, 2, 1, 0] rfl (gl_Model_buys_L49 X hr hlk  h1  FU _ _ h rfl)
set_option maxHeartbeats 4000000 in
set_option maxRecDepth 20000 in
theorem c_Model_buys {θ : Th} {l : Launch} {σ : Mem} {x1 : Nat} {x2 : Int32} {r : Int32 × Mem} (h1 : kd x1 = 13) (h : f_Model_buys σ x1 x2 = some r) : Cn θ l yX11_buys cX11_buys 7 (some .int) 1 0 0 [.ref (be θ + 565), .ref (be θ + x1), .int x2] σ (some (.int r.1), r.2) :=
  Cn.of (by decide) (Nat.le_of_ble_eq_true rfl) (fun p e s m below meth c X hr hlk => g_Model_buys X hr hlk h1 h)
theorem dX11_dueOf_0 : decode cX11_dueOf 0 = .ok (.iconst 0, 1) := by decide +kernel
theorem dX11_dueOf_1 : decode cX11_dueOf 1 = .ok (.istore_n 2, 1) := by decide +kernel
theorem dX11_dueOf_2 : decode cX11_dueOf 2 = .ok (.iconst 0, 1) := by decide +kernel
theorem dX11_dueOf_3 : decode cX11_dueOf 3 = .ok (.istore_n 3, 1) := by decide +kernel
theorem dX11_dueOf_4 : decode cX11_dueOf 4 = .ok (.iload_n 3, 1) := by decide +kernel
theorem dX11_dueOf_5 : decode cX11_dueOf 5 = .ok (.aload_n 0, 1) := by decide +kernel
theorem dX11_dueOf_6 : decode cX11_dueOf 6 = .ok (.bipush 126, 2) := by decide +kernel
theorem dX11_dueOf_8 : decode cX11_dueOf 8 = .ok (.iaload, 1) := by decide +kernel
theorem dX11_dueOf_9 : decode cX11_dueOf 9 = .ok (.if_icmp .ge 38, 3) := by decide +kernel
theorem dX11_dueOf_12 : decode cX11_dueOf 12 = .ok (.iload_n 2, 1) := by decide +kernel
theorem dX11_dueOf_13 : decode cX11_dueOf 13 = .ok (.aload_n 0, 1) := by decide +kernel
theorem dX11_dueOf_14 : decode cX11_dueOf 14 = .ok (.bipush 30, 2) := by decide +kernel
theorem dX11_dueOf_16 : decode cX11_dueOf 16 = .ok (.iconst 4, 1) := by decide +kernel
theorem dX11_dueOf_17 : decode cX11_dueOf 17 = .ok (.iload_n 3, 1) := by decide +kernel
theorem dX11_dueOf_18 : decode cX11_dueOf 18 = .ok (.imul, 1) := by decide +kernel
theorem dX11_dueOf_19 : decode cX11_dueOf 19 = .ok (.iadd, 1) := by decide +kernel
theorem dX11_dueOf_20 : decode cX11_dueOf 20 = .ok (.iaload, 1) := by decide +kernel
theorem dX11_dueOf_21 : decode cX11_dueOf 21 = .ok (.iload_n 1, 1) := by decide +kernel
theorem dX11_dueOf_22 : decode cX11_dueOf 22 = .ok (.if_icmp .ne 16, 3) := by decide +kernel
theorem dX11_dueOf_25 : decode cX11_dueOf 25 = .ok (.aload_n 0, 1) := by decide +kernel
theorem dX11_dueOf_26 : decode cX11_dueOf 26 = .ok (.bipush 30, 2) := by decide +kernel
theorem dX11_dueOf_28 : decode cX11_dueOf 28 = .ok (.iconst 4, 1) := by decide +kernel
theorem dX11_dueOf_29 : decode cX11_dueOf 29 = .ok (.iload_n 3, 1) := by decide +kernel
theorem dX11_dueOf_30 : decode cX11_dueOf 30 = .ok (.imul, 1) := by decide +kernel
theorem dX11_dueOf_31 : decode cX11_dueOf 31 = .ok (.iadd, 1) := by decide +kernel
theorem dX11_dueOf_32 : decode cX11_dueOf 32 = .ok (.iconst 3, 1) := by decide +kernel
theorem dX11_dueOf_33 : decode cX11_dueOf 33 = .ok (.iadd, 1) := by decide +kernel
theorem dX11_dueOf_34 : decode cX11_dueOf 34 = .ok (.iaload, 1) := by decide +kernel
theorem dX11_dueOf_35 : decode cX11_dueOf 35 = .ok (.goto 4, 3) := by decide +kernel
theorem dX11_dueOf_38 : decode cX11_dueOf 38 = .ok (.iconst 0, 1) := by decide +kernel
theorem dX11_dueOf_39 : decode cX11_dueOf 39 = .ok (.iadd, 1) := by decide +kernel
theorem dX11_dueOf_40 : decode cX11_dueOf 40 = .ok (.istore_n 2, 1) := by decide +kernel
theorem dX11_dueOf_41 : decode cX11_dueOf 41 = .ok (.iinc 3 1, 3) := by decide +kernel
theorem dX11_dueOf_44 : decode cX11_dueOf 44 = .ok (.goto (-40), 3) := by decide +kernel
theorem dX11_dueOf_47 : decode cX11_dueOf 47 = .ok (.iload_n 2, 1) := by decide +kernel
theorem dX11_dueOf_48 : decode cX11_dueOf 48 = .ok (.ireturn, 1) := by decide +kernel
def f_Model_dueOf_L4 (σ : Mem) (x0 : Nat) (x1 : Int32) (a : Int32 × Int32) : Option ((Int32 × Int32) ⊕ (Int32)) :=
  @Prod.casesOn (Int32) (Int32) (fun _ => Option ((Int32 × Int32) ⊕ (Int32))) a fun z2 z3 =>
  if inb (126 : Int32) (ln x0) then
    if (mI σ x0 (126 : Int32).toNatClampNeg) ≤ z3 then
      some (.inr z2)
    else
      if inb ((30 : Int32) + ((4 : Int32) * z3)) (ln x0) then
        if (mI σ x0 ((30 : Int32) + ((4 : Int32) * z3)).toNatClampNeg) = x1 then
          if inb (((30 : Int32) + ((4 : Int32) * z3)) + (3 : Int32)) (ln x0) then
            some (.inl ((z2 + (mI σ x0 (((30 : Int32) + ((4 : Int32) * z3)) + (3 : Int32)).toNatClampNeg)), (z3 + (1 : Int32))))
          else none
        else
          some (.inl ((z2 + (0 : Int32)), (z3 + (1 : Int32))))
      else none
  else none
def f_Model_dueOf (σ : Mem) (x0 : Nat) (x1 : Int32) : Option (Int32) :=
  loopF (f_Model_dueOf_L4 σ x0 x1) FU ((0 : Int32), (0 : Int32))
set_option maxHeartbeats 4000000 in
set_option maxRecDepth 20000 in
theorem gs_Model_dueOf_L4 (X : Cx θ p s m args c cX11_dueOf 4 RX11) (hr : meth.sig.returnType = some .int) (hlk : meth.locks = false)  {σ : Mem} {x0 : Nat} {x1 : Int32} {r : Int32} (h0 : kd x0 = 13) (z2 : Int32) (z3 : Int32) (x : (Int32 × Int32) ⊕ (Int32)) (h : f_Model_dueOf_L4 σ x0 x1 (z2, z3) = some x) (hk : Sum.elim (fun a => @Prod.casesOn (Int32) (Int32) (fun _ => Prop) a fun z2 z3 => GB θ p l e 0 s m args below meth c 4 (some (.int r), σ) 4 [(0, .ref (be θ + x0)), (1, .int x1), (2, .int z2), (3, .int z3)] [] σ) (fun b => b = r) x) : GB θ p l e 0 s m args below meth c 4 (some (.int r), σ) 4 [(0, .ref (be θ + x0)), (1, .int x1), (2, .int z2), (3, .int z3)] [] σ := by
  unfold f_Model_dueOf_L4 at h
  dsimp only at h
  refine g_iload_n X dX11_dueOf_4 rfl 3 rfl ?_
  refine g_aload_n X dX11_dueOf_5 rfl 0 rfl ?_
  refine g_bipush X dX11_dueOf_6 (v := (126 : Int32)) bp_126 ?_
  obtain ⟨g1, h⟩ := ite_some h
  refine g_iald X h0 rfl (inb_in g1) dX11_dueOf_8 ?_
  refine g_icmp_ge (tgt := 47) X dX11_dueOf_9 (by decide) (fun c2 => ?_) (fun c2 => ?_)
  · replace h := (if_pos c2).symm.trans h
    refine g_iload_n X dX11_dueOf_47 rfl 2 rfl ?_
    have hk := inr_hk h hk
    have hk : z2 = r := hk
    subst hk
    exact g_iret X hr hlk dX11_dueOf_48 rfl
  · replace h := (if_neg c2).symm.trans h
    refine g_iload_n X dX11_dueOf_12 rfl 2 rfl ?_
    refine g_aload_n X dX11_dueOf_13 rfl 0 rfl ?_
    refine g_bipush X dX11_dueOf_14 (v := (30 : Int32)) bp_30 ?_
    refine g_iconst X dX11_dueOf_16 (v := (4 : Int32)) ic_4 ?_
    refine g_iload_n X dX11_dueOf_17 rfl 3 rfl ?_
    refine g_imul X dX11_dueOf_18 ?_
    refine g_iadd X dX11_dueOf_19 ?_
    obtain ⟨g3, h⟩ := ite_some h
    refine g_iald X h0 rfl (inb_in g3) dX11_dueOf_20 ?_
    refine g_iload_n X dX11_dueOf_21 rfl 1 rfl ?_
    refine g_icmp_ne (tgt := 38) X dX11_dueOf_22 (by decide) (fun c4 => ?_) (fun c4 => ?_)
    · replace h := (if_neg c4).symm.trans h
      refine g_iconst X dX11_dueOf_38 (v := (0 : Int32)) ic_0 ?_
      refine g_iadd X dX11_dueOf_39 ?_
      refine g_istore_n X dX11_dueOf_40 rfl (by decide) (lv' := [(2, .int (z2 + (0 : Int32))), (0, .ref (be θ + x0)), (1, .int x1), (3, .int z3)]) rfl ?_
      refine g_iinc X dX11_dueOf_41 (kq := 3) rfl (congrArg (HAdd.hAdd _) ic_1) (by decide) (lv' := [(3, .int (z3 + (1 : Int32))), (2, .int (z2 + (0 : Int32))), (0, .ref (be θ + x0)), (1, .int x1)]) rfl ?_
      refine g_goto (tgt := 4) X dX11_dueOf_44 (by decide) ?_
      have hk := inl_hk h hk
      exact g_sub (lv' := [(0, .ref (be θ + x0)), (1, .int x1), (2, .int (z2 + (0 : Int32))), (3, .int (z3 + (1 : Int32)))]) [2, 3, 1, 0] rfl hk
    · replace h := (if_pos c4).symm.trans h
      refine g_aload_n X dX11_dueOf_25 rfl 0 rfl ?_
      refine g_bipush X dX11_dueOf_26 (v := (30 : Int32)) bp_30 ?_
      refine g_iconst X dX11_dueOf_28 (v := (4 : Int32)) ic_4 ?_
      refine g_iload_n X dX11_dueOf_29 rfl 3 rfl ?_
      refine g_imul X dX11_dueOf_30 ?_
      refine g_iadd X dX11_dueOf_31 ?_
      refine g_iconst X dX11_dueOf_32 (v := (3 : Int32)) ic_3 ?_
      refine g_iadd X dX11_dueOf_33 ?_
      obtain ⟨g5, h⟩ := ite_some h
      refine g_iald X h0 rfl (inb_in g5) dX11_dueOf_34 ?_
      refine g_goto (tgt := 39) X dX11_dueOf_35 (by decide) ?_
      refine g_iadd X dX11_dueOf_39 ?_
      refine g_istore_n X dX11_dueOf_40 rfl (by decide) (lv' := [(2, .int (z2 + (mI σ x0 (((30 : Int32) + ((4 : Int32) * z3)) + (3 : Int32)).toNatClampNeg))), (0, .ref (be θ + x0)), (1, .int x1), (3, .int z3)]) rfl ?_
      refine g_iinc X dX11_dueOf_41 (kq := 3) rfl (congrArg (HAdd.hAdd _) ic_1) (by decide) (lv' := [(3, .int (z3 + (1 : Int32))), (2, .int (z2 + (mI σ x0 (((30 : Int32) + ((4 : Int32) * z3)) + (3 : Int32)).toNatClampNeg))), (0, .ref (be θ + x0)), (1, .int x1)]) rfl ?_
      refine g_goto (tgt := 4) X dX11_dueOf_44 (by decide) ?_
      have hk := inl_hk h hk
      exact g_sub (lv' := [(0, .ref (be θ + x0)), (1, .int x1), (2, .int (z2 + (mI σ x0 (((30 : Int32) + ((4 : Int32) * z3)) + (3 : Int32)).toNatClampNeg))), (3, .int (z3 + (1 : Int32)))]) [2, 3, 1, 0] rfl hk
set_option maxHeartbeats 4000000 in
set_option maxRecDepth 20000 in
theorem gl_Model_dueOf_L4 (X : Cx θ p s m args c cX11_dueOf 4 RX11) (hr : meth.sig.returnType = some .int) (hlk : meth.locks = false)  {σ : Mem} {x0 : Nat} {x1 : Int32} {r : Int32} (h0 : kd x0 = 13) (n : Nat) (a : Int32 × Int32) (b : Int32) (h : loopF (f_Model_dueOf_L4 σ x0 x1) n a = some b) (hk : (fun b => b = r) b) : (fun a => @Prod.casesOn (Int32) (Int32) (fun _ => Prop) a fun z2 z3 => GB θ p l e 0 s m args below meth c 4 (some (.int r), σ) 4 [(0, .ref (be θ + x0)), (1, .int x1), (2, .int z2), (3, .int z3)] [] σ) a :=
  loopF_by (P := (fun a => @Prod.casesOn (Int32) (Int32) (fun _ => Prop) a fun z2 z3 => GB θ p l e 0 s m args below meth c 4 (some (.int r), σ) 4 [(0, .ref (be θ + x0)), (1, .int x1), (2, .int z2), (3, .int z3)] [] σ)) (K := (fun b => b = r)) (fun a x h hk => by obtain ⟨z2, z3⟩ := a; exact gs_Model_dueOf_L4 X hr hlk  h0 z2 z3 x h hk) n a b h hk
set_option maxHeartbeats 4000000 in
set_option maxRecDepth 20000 in
theorem g_Model_dueOf (X : Cx θ p s m args c cX11_dueOf 4 RX11) (hr : meth.sig.returnType = some .int) (hlk : meth.locks = false)  {σ : Mem} {x0 : Nat} {x1 : Int32} {r : Int32} (h0 : kd x0 = 13) (h : f_Model_dueOf σ x0 x1 = some r) : GB θ p l e 0 s m args below meth c 4 (some (.int r), σ) 0 [(0, .ref (be θ + x0)), (1, .int x1)] [] σ := by
  unfold f_Model_dueOf at h
  refine g_iconst X dX11_dueOf_0 (v := (0 : Int32)) ic_0 ?_
  refine g_istore_n X dX11_dueOf_1 rfl (by decide) (lv' := [(2, .int (0 : Int32)), (0, .ref (be θ + x0)), (1, .int x1)]) rfl ?_
  refine g_iconst X dX11_dueOf_2 (v := (0 : Int32)) ic_0 ?_
  refine g_istore_n X dX11_dueOf_3 rfl (by decide) (lv' := [(3, .int (0 : Int32)), (2, .int (0 : Int32)), (0, .ref (be θ + x0)), (1, .int x1)]) rfl ?_
  exact g_sub (lv' := [(0, .ref (be θ + x0)), (1, .int x1), (2, .int (0 : Int32)), (3, .int (0 : Int32))]) [2, 3, 1, 0] rfl (gl_Model_dueOf_L4 X hr hlk  h0  FU _ _ h rfl)
set_option maxHeartbeats 4000000 in
set_option maxRecDepth 20000 in
theorem c_Model_dueOf {θ : Th} {l : Launch} {σ : Mem} {x0 : Nat} {x1 : Int32} {r : Int32} (h0 : kd x0 = 13) (h : f_Model_dueOf σ x0 x1 = some r) : Cn θ l yX11_dueOf cX11_dueOf 4 (some .int) 0 0 0 [.ref (be θ + x0), .int x1] σ (some (.int r), σ) :=
  Cn.of (by decide) (Nat.le_of_ble_eq_true rfl) (fun p e s m below meth c X hr hlk => g_Model_dueOf X hr hlk h0 h)
theorem dX11_allDue_0 : decode cX11_allDue 0 = .ok (.iconst 0, 1) := by decide +kernel
theorem dX11_allDue_1 : decode cX11_allDue 1 = .ok (.istore_n 1, 1) := by decide +kernel
theorem dX11_allDue_2 : decode cX11_allDue 2 = .ok (.iconst 0, 1) := by decide +kernel
theorem dX11_allDue_3 : decode cX11_allDue 3 = .ok (.istore_n 2, 1) := by decide +kernel
theorem dX11_allDue_4 : decode cX11_allDue 4 = .ok (.iload_n 2, 1) := by decide +kernel
theorem dX11_allDue_5 : decode cX11_allDue 5 = .ok (.aload_n 0, 1) := by decide +kernel
theorem dX11_allDue_6 : decode cX11_allDue 6 = .ok (.bipush 126, 2) := by decide +kernel
theorem dX11_allDue_8 : decode cX11_allDue 8 = .ok (.iaload, 1) := by decide +kernel
theorem dX11_allDue_9 : decode cX11_allDue 9 = .ok (.if_icmp .ge 22, 3) := by decide +kernel
theorem dX11_allDue_12 : decode cX11_allDue 12 = .ok (.iload_n 1, 1) := by decide +kernel
theorem dX11_allDue_13 : decode cX11_allDue 13 = .ok (.aload_n 0, 1) := by decide +kernel
theorem dX11_allDue_14 : decode cX11_allDue 14 = .ok (.bipush 30, 2) := by decide +kernel
theorem dX11_allDue_16 : decode cX11_allDue 16 = .ok (.iconst 4, 1) := by decide +kernel
theorem dX11_allDue_17 : decode cX11_allDue 17 = .ok (.iload_n 2, 1) := by decide +kernel
theorem dX11_allDue_18 : decode cX11_allDue 18 = .ok (.imul, 1) := by decide +kernel
theorem dX11_allDue_19 : decode cX11_allDue 19 = .ok (.iadd, 1) := by decide +kernel
theorem dX11_allDue_20 : decode cX11_allDue 20 = .ok (.iconst 3, 1) := by decide +kernel
theorem dX11_allDue_21 : decode cX11_allDue 21 = .ok (.iadd, 1) := by decide +kernel
theorem dX11_allDue_22 : decode cX11_allDue 22 = .ok (.iaload, 1) := by decide +kernel
theorem dX11_allDue_23 : decode cX11_allDue 23 = .ok (.iadd, 1) := by decide +kernel
theorem dX11_allDue_24 : decode cX11_allDue 24 = .ok (.istore_n 1, 1) := by decide +kernel
theorem dX11_allDue_25 : decode cX11_allDue 25 = .ok (.iinc 2 1, 3) := by decide +kernel
theorem dX11_allDue_28 : decode cX11_allDue 28 = .ok (.goto (-24), 3) := by decide +kernel
theorem dX11_allDue_31 : decode cX11_allDue 31 = .ok (.iload_n 1, 1) := by decide +kernel
theorem dX11_allDue_32 : decode cX11_allDue 32 = .ok (.ireturn, 1) := by decide +kernel
def f_Model_allDue_L4 (σ : Mem) (x0 : Nat) (a : Int32 × Int32) : Option ((Int32 × Int32) ⊕ (Int32)) :=
  @Prod.casesOn (Int32) (Int32) (fun _ => Option ((Int32 × Int32) ⊕ (Int32))) a fun z1 z2 =>
  if inb (126 : Int32) (ln x0) then
    if (mI σ x0 (126 : Int32).toNatClampNeg) ≤ z2 then
      some (.inr z1)
    else
      if inb (((30 : Int32) + ((4 : Int32) * z2)) + (3 : Int32)) (ln x0) then
        some (.inl ((z1 + (mI σ x0 (((30 : Int32) + ((4 : Int32) * z2)) + (3 : Int32)).toNatClampNeg)), (z2 + (1 : Int32))))
      else none
  else none
def f_Model_allDue (σ : Mem) (x0 : Nat) : Option (Int32) :=
  loopF (f_Model_allDue_L4 σ x0) FU ((0 : Int32), (0 : Int32))
set_option maxHeartbeats 4000000 in
set_option maxRecDepth 20000 in
theorem gs_Model_allDue_L4 (X : Cx θ p s m args c cX11_allDue 3 RX11) (hr : meth.sig.returnType = some .int) (hlk : meth.locks = false)  {σ : Mem} {x0 : Nat} {r : Int32} (h0 : kd x0 = 13) (z1 : Int32) (z2 : Int32) (x : (Int32 × Int32) ⊕ (Int32)) (h : f_Model_allDue_L4 σ x0 (z1, z2) = some x) (hk : Sum.elim (fun a => @Prod.casesOn (Int32) (Int32) (fun _ => Prop) a fun z1 z2 => GB θ p l e 0 s m args below meth c 3 (some (.int r), σ) 4 [(0, .ref (be θ + x0)), (1, .int z1), (2, .int z2)] [] σ) (fun b => b = r) x) : GB θ p l e 0 s m args below meth c 3 (some (.int r), σ) 4 [(0, .ref (be θ + x0)), (1, .int z1), (2, .int z2)] [] σ := by
  unfold f_Model_allDue_L4 at h
  dsimp only at h
  refine g_iload_n X dX11_allDue_4 rfl 2 rfl ?_
  refine g_aload_n X dX11_allDue_5 rfl 0 rfl ?_
  refine g_bipush X dX11_allDue_6 (v := (126 : Int32)) bp_126 ?_
  obtain ⟨g1, h⟩ := ite_some h
  refine g_iald X h0 rfl (inb_in g1) dX11_allDue_8 ?_
  refine g_icmp_ge (tgt := 31) X dX11_allDue_9 (by decide) (fun c2 => ?_) (fun c2 => ?_)
  · replace h := (if_pos c2).symm.trans h
    refine g_iload_n X dX11_allDue_31 rfl 1 rfl ?_
    have hk := inr_hk h hk
    have hk : z1 = r := hk
    subst hk
    exact g_iret X hr hlk dX11_allDue_32 rfl
  · replace h := (if_neg c2).symm.trans h
    refine g_iload_n X dX11_allDue_12 rfl 1 rfl ?_
    refine g_aload_n X dX11_allDue_13 rfl 0 rfl ?_
    refine g_bipush X dX11_allDue_14 (v := (30 : Int32)) bp_30 ?_
    refine g_iconst X dX11_allDue_16 (v := (4 : Int32)) ic_4 ?_
    refine g_iload_n X dX11_allDue_17 rfl 2 rfl ?_
    refine g_imul X dX11_allDue_18 ?_
    refine g_iadd X dX11_allDue_19 ?_
    refine g_iconst X dX11_allDue_20 (v := (3 : Int32)) ic_3 ?_
    refine g_iadd X dX11_allDue_21 ?_
    obtain ⟨g3, h⟩ := ite_some h
    refine g_iald X h0 rfl (inb_in g3) dX11_allDue_22 ?_
    refine g_iadd X dX11_allDue_23 ?_
    refine g_istore_n X dX11_allDue_24 rfl (by decide) (lv' := [(1, .int (z1 + (mI σ x0 (((30 : Int32) + ((4 : Int32) * z2)) + (3 : Int32)).toNatClampNeg))), (0, .ref (be θ + x0)), (2, .int z2)]) rfl ?_
    refine g_iinc X dX11_allDue_25 (kq := 2) rfl (congrArg (HAdd.hAdd _) ic_1) (by decide) (lv' := [(2, .int (z2 + (1 : Int32))), (1, .int (z1 + (mI σ x0 (((30 : Int32) + ((4 : Int32) * z2)) + (3 : Int32)).toNatClampNeg))), (0, .ref (be θ + x0))]) rfl ?_
    refine g_goto (tgt := 4) X dX11_allDue_28 (by decide) ?_
    have hk := inl_hk h hk
    exact g_sub (lv' := [(0, .ref (be θ + x0)), (1, .int (z1 + (mI σ x0 (((30 : Int32) + ((4 : Int32) * z2)) + (3 : Int32)).toNatClampNeg))), (2, .int (z2 + (1 : Int32)))]) [2, 1, 0] rfl hk
set_option maxHeartbeats 4000000 in
set_option maxRecDepth 20000 in
theorem gl_Model_allDue_L4 (X : Cx θ p s m args c cX11_allDue 3 RX11) (hr : meth.sig.returnType = some .int) (hlk : meth.locks = false)  {σ : Mem} {x0 : Nat} {r : Int32} (h0 : kd x0 = 13) (n : Nat) (a : Int32 × Int32) (b : Int32) (h : loopF (f_Model_allDue_L4 σ x0) n a = some b) (hk : (fun b => b = r) b) : (fun a => @Prod.casesOn (Int32) (Int32) (fun _ => Prop) a fun z1 z2 => GB θ p l e 0 s m args below meth c 3 (some (.int r), σ) 4 [(0, .ref (be θ + x0)), (1, .int z1), (2, .int z2)] [] σ) a :=
  loopF_by (P := (fun a => @Prod.casesOn (Int32) (Int32) (fun _ => Prop) a fun z1 z2 => GB θ p l e 0 s m args below meth c 3 (some (.int r), σ) 4 [(0, .ref (be θ + x0)), (1, .int z1), (2, .int z2)] [] σ)) (K := (fun b => b = r)) (fun a x h hk => by obtain ⟨z1, z2⟩ := a; exact gs_Model_allDue_L4 X hr hlk  h0 z1 z2 x h hk) n a b h hk
set_option maxHeartbeats 4000000 in
set_option maxRecDepth 20000 in
theorem g_Model_allDue (X : Cx θ p s m args c cX11_allDue 3 RX11) (hr : meth.sig.returnType = some .int) (hlk : meth.locks = false)  {σ : Mem} {x0 : Nat} {r : Int32} (h0 : kd x0 = 13) (h : f_Model_allDue σ x0 = some r) : GB θ p l e 0 s m args below meth c 3 (some (.int r), σ) 0 [(0, .ref (be θ + x0))] [] σ := by
  unfold f_Model_allDue at h
  refine g_iconst X dX11_allDue_0 (v := (0 : Int32)) ic_0 ?_
  refine g_istore_n X dX11_allDue_1 rfl (by decide) (lv' := [(1, .int (0 : Int32)), (0, .ref (be θ + x0))]) rfl ?_
  refine g_iconst X dX11_allDue_2 (v := (0 : Int32)) ic_0 ?_
  refine g_istore_n X dX11_allDue_3 rfl (by decide) (lv' := [(2, .int (0 : Int32)), (1, .int (0 : Int32)), (0, .ref (be θ + x0))]) rfl ?_
  exact g_sub (lv' := [(0, .ref (be θ + x0)), (1, .int (0 : Int32)), (2, .int (0 : Int32))]) [2, 1, 0] rfl (gl_Model_allDue_L4 X hr hlk  h0  FU _ _ h rfl)
set_option maxHeartbeats 4000000 in
set_option maxRecDepth 20000 in
theorem c_Model_allDue {θ : Th} {l : Launch} {σ : Mem} {x0 : Nat} {r : Int32} (h0 : kd x0 = 13) (h : f_Model_allDue σ x0 = some r) : Cn θ l yX11_allDue cX11_allDue 3 (some .int) 0 0 0 [.ref (be θ + x0)] σ (some (.int r), σ) :=
  Cn.of (by decide) (Nat.le_of_ble_eq_true rfl) (fun p e s m below meth c X hr hlk => g_Model_allDue X hr hlk h0 h)
theorem dX11_hasBill_0 : decode cX11_hasBill 0 = .ok (.iconst 0, 1) := by decide +kernel
theorem dX11_hasBill_1 : decode cX11_hasBill 1 = .ok (.istore_n 3, 1) := by decide +kernel
theorem dX11_hasBill_2 : decode cX11_hasBill 2 = .ok (.iload_n 3, 1) := by decide +kernel
theorem dX11_hasBill_3 : decode cX11_hasBill 3 = .ok (.aload_n 0, 1) := by decide +kernel
theorem dX11_hasBill_4 : decode cX11_hasBill 4 = .ok (.bipush 126, 2) := by decide +kernel
theorem dX11_hasBill_6 : decode cX11_hasBill 6 = .ok (.iaload, 1) := by decide +kernel
theorem dX11_hasBill_7 : decode cX11_hasBill 7 = .ok (.if_icmp .ge 37, 3) := by decide +kernel
theorem dX11_hasBill_10 : decode cX11_hasBill 10 = .ok (.aload_n 0, 1) := by decide +kernel
theorem dX11_hasBill_11 : decode cX11_hasBill 11 = .ok (.bipush 30, 2) := by decide +kernel
theorem dX11_hasBill_13 : decode cX11_hasBill 13 = .ok (.iconst 4, 1) := by decide +kernel
theorem dX11_hasBill_14 : decode cX11_hasBill 14 = .ok (.iload_n 3, 1) := by decide +kernel
theorem dX11_hasBill_15 : decode cX11_hasBill 15 = .ok (.imul, 1) := by decide +kernel
theorem dX11_hasBill_16 : decode cX11_hasBill 16 = .ok (.iadd, 1) := by decide +kernel
theorem dX11_hasBill_17 : decode cX11_hasBill 17 = .ok (.iaload, 1) := by decide +kernel
theorem dX11_hasBill_18 : decode cX11_hasBill 18 = .ok (.iload_n 1, 1) := by decide +kernel
theorem dX11_hasBill_19 : decode cX11_hasBill 19 = .ok (.if_icmp .ne 19, 3) := by decide +kernel
theorem dX11_hasBill_22 : decode cX11_hasBill 22 = .ok (.aload_n 0, 1) := by decide +kernel
theorem dX11_hasBill_23 : decode cX11_hasBill 23 = .ok (.bipush 30, 2) := by decide +kernel
theorem dX11_hasBill_25 : decode cX11_hasBill 25 = .ok (.iconst 4, 1) := by decide +kernel
theorem dX11_hasBill_26 : decode cX11_hasBill 26 = .ok (.iload_n 3, 1) := by decide +kernel
theorem dX11_hasBill_27 : decode cX11_hasBill 27 = .ok (.imul, 1) := by decide +kernel
theorem dX11_hasBill_28 : decode cX11_hasBill 28 = .ok (.iadd, 1) := by decide +kernel
theorem dX11_hasBill_29 : decode cX11_hasBill 29 = .ok (.iconst 1, 1) := by decide +kernel
theorem dX11_hasBill_30 : decode cX11_hasBill 30 = .ok (.iadd, 1) := by decide +kernel
theorem dX11_hasBill_31 : decode cX11_hasBill 31 = .ok (.iaload, 1) := by decide +kernel
theorem dX11_hasBill_32 : decode cX11_hasBill 32 = .ok (.iload_n 2, 1) := by decide +kernel
theorem dX11_hasBill_33 : decode cX11_hasBill 33 = .ok (.if_icmp .ne 5, 3) := by decide +kernel
theorem dX11_hasBill_36 : decode cX11_hasBill 36 = .ok (.iconst 1, 1) := by decide +kernel
theorem dX11_hasBill_37 : decode cX11_hasBill 37 = .ok (.ireturn, 1) := by decide +kernel
theorem dX11_hasBill_38 : decode cX11_hasBill 38 = .ok (.iinc 3 1, 3) := by decide +kernel
theorem dX11_hasBill_41 : decode cX11_hasBill 41 = .ok (.goto (-39), 3) := by decide +kernel
theorem dX11_hasBill_44 : decode cX11_hasBill 44 = .ok (.iconst 0, 1) := by decide +kernel
theorem dX11_hasBill_45 : decode cX11_hasBill 45 = .ok (.ireturn, 1) := by decide +kernel
def f_Model_hasBill_L2 (σ : Mem) (x0 : Nat) (x1 : Int32) (x2 : Int32) (a : Int32) : Option ((Int32) ⊕ (Int32)) :=
  if inb (126 : Int32) (ln x0) then
    if (mI σ x0 (126 : Int32).toNatClampNeg) ≤ a then
      some (.inr (0 : Int32))
    else
      if inb ((30 : Int32) + ((4 : Int32) * a)) (ln x0) then
        if (mI σ x0 ((30 : Int32) + ((4 : Int32) * a)).toNatClampNeg) = x1 then
          if inb (((30 : Int32) + ((4 : Int32) * a)) + (1 : Int32)) (ln x0) then
            if (mI σ x0 (((30 : Int32) + ((4 : Int32) * a)) + (1 : Int32)).toNatClampNeg) = x2 then
              some (.inr (1 : Int32))
            else
              some (.inl (a + (1 : Int32)))
          else none
        else
          some (.inl (a + (1 : Int32)))
      else none
  else none
def f_Model_hasBill (σ : Mem) (x0 : Nat) (x1 : Int32) (x2 : Int32) : Option (Int32) :=
  loopF (f_Model_hasBill_L2 σ x0 x1 x2) FU (0 : Int32)
set_option maxHeartbeats 4000000 in
set_option maxRecDepth 20000 in
theorem gs_Model_hasBill_L2 (X : Cx θ p s m args c cX11_hasBill 4 RX11) (hr : meth.sig.returnType = some .boolean) (hlk : meth.locks = false)  {σ : Mem} {x0 : Nat} {x1 : Int32} {x2 : Int32} {r : Int32} (h0 : kd x0 = 13) (a : Int32) (x : (Int32) ⊕ (Int32)) (h : f_Model_hasBill_L2 σ x0 x1 x2 a = some x) (hk : Sum.elim (fun a => GB θ p l e 0 s m args below meth c 4 (some (.int r), σ) 2 [(0, .ref (be θ + x0)), (1, .int x1), (2, .int x2), (3, .int a)] [] σ) (fun b => b = r) x) : GB θ p l e 0 s m args below meth c 4 (some (.int r), σ) 2 [(0, .ref (be θ + x0)), (1, .int x1), (2, .int x2), (3, .int a)] [] σ := by
  unfold f_Model_hasBill_L2 at h
  refine g_iload_n X dX11_hasBill_2 rfl 3 rfl ?_
  refine g_aload_n X dX11_hasBill_3 rfl 0 rfl ?_
  refine g_bipush X dX11_hasBill_4 (v := (126 : Int32)) bp_126 ?_
  obtain ⟨g1, h⟩ := ite_some h
  refine g_iald X h0 rfl (inb_in g1) dX11_hasBill_6 ?_
  refine g_icmp_ge (tgt := 44) X dX11_hasBill_7 (by decide) (fun c2 => ?_) (fun c2 => ?_)
  · replace h := (if_pos c2).symm.trans h
    refine g_iconst X dX11_hasBill_44 (v := (0 : Int32)) ic_0 ?_
    have hk := inr_hk h hk
    have hk : (0 : Int32) = r := hk
    subst hk
    exact g_zret X hr hlk bz0 dX11_hasBill_45 rfl
  · replace h := (if_neg c2).symm.trans h
    refine g_aload_n X dX11_hasBill_10 rfl 0 rfl ?_
    refine g_bipush X dX11_hasBill_11 (v := (30 : Int32)) bp_30 ?_
    refine g_iconst X dX11_hasBill_13 (v := (4 : Int32)) ic_4 ?_
    refine g_iload_n X dX11_hasBill_14 rfl 3 rfl ?_
    refine g_imul X dX11_hasBill_15 ?_
    refine g_iadd X dX11_hasBill_16 ?_
    obtain ⟨g3, h⟩ := ite_some h
    refine g_iald X h0 rfl (inb_in g3) dX11_hasBill_17 ?_
    refine g_iload_n X dX11_hasBill_18 rfl 1 rfl ?_
    refine g_icmp_ne (tgt := 38) X dX11_hasBill_19 (by decide) (fun c4 => ?_) (fun c4 => ?_)
    · replace h := (if_neg c4).symm.trans h
      refine g_iinc X dX11_hasBill_38 (kq := 3) rfl (congrArg (HAdd.hAdd _) ic_1) (by decide) (lv' := [(3, .int (a + (1 : Int32))), (0, .ref (be θ + x0)), (1, .int x1), (2, .int x2)]) rfl ?_
      refine g_goto (tgt := 2) X dX11_hasBill_41 (by decide) ?_
      have hk := inl_hk h hk
      exact g_sub (lv' := [(0, .ref (be θ + x0)), (1, .int x1), (2, .int x2), (3, .int (a + (1 : Int32)))]) [1, 2, 3, 0] rfl hk
    · replace h := (if_pos c4).symm.trans h
      refine g_aload_n X dX11_hasBill_22 rfl 0 rfl ?_
      refine g_bipush X dX11_hasBill_23 (v := (30 : Int32)) bp_30 ?_
      refine g_iconst X dX11_hasBill_25 (v := (4 : Int32)) ic_4 ?_
      refine g_iload_n X dX11_hasBill_26 rfl 3 rfl ?_
      refine g_imul X dX11_hasBill_27 ?_
      refine g_iadd X dX11_hasBill_28 ?_
      refine g_iconst X dX11_hasBill_29 (v := (1 : Int32)) ic_1 ?_
      refine g_iadd X dX11_hasBill_30 ?_
      obtain ⟨g5, h⟩ := ite_some h
      refine g_iald X h0 rfl (inb_in g5) dX11_hasBill_31 ?_
      refine g_iload_n X dX11_hasBill_32 rfl 2 rfl ?_
      refine g_icmp_ne (tgt := 38) X dX11_hasBill_33 (by decide) (fun c6 => ?_) (fun c6 => ?_)
      · replace h := (if_neg c6).symm.trans h
        refine g_iinc X dX11_hasBill_38 (kq := 3) rfl (congrArg (HAdd.hAdd _) ic_1) (by decide) (lv' := [(3, .int (a + (1 : Int32))), (0, .ref (be θ + x0)), (1, .int x1), (2, .int x2)]) rfl ?_
        refine g_goto (tgt := 2) X dX11_hasBill_41 (by decide) ?_
        have hk := inl_hk h hk
        exact g_sub (lv' := [(0, .ref (be θ + x0)), (1, .int x1), (2, .int x2), (3, .int (a + (1 : Int32)))]) [1, 2, 3, 0] rfl hk
      · replace h := (if_pos c6).symm.trans h
        refine g_iconst X dX11_hasBill_36 (v := (1 : Int32)) ic_1 ?_
        have hk := inr_hk h hk
        have hk : (1 : Int32) = r := hk
        subst hk
        exact g_zret X hr hlk bz1 dX11_hasBill_37 rfl
set_option maxHeartbeats 4000000 in
set_option maxRecDepth 20000 in
theorem gl_Model_hasBill_L2 (X : Cx θ p s m args c cX11_hasBill 4 RX11) (hr : meth.sig.returnType = some .boolean) (hlk : meth.locks = false)  {σ : Mem} {x0 : Nat} {x1 : Int32} {x2 : Int32} {r : Int32} (h0 : kd x0 = 13) (n : Nat) (a : Int32) (b : Int32) (h : loopF (f_Model_hasBill_L2 σ x0 x1 x2) n a = some b) (hk : (fun b => b = r) b) : (fun a => GB θ p l e 0 s m args below meth c 4 (some (.int r), σ) 2 [(0, .ref (be θ + x0)), (1, .int x1), (2, .int x2), (3, .int a)] [] σ) a :=
  loopF_by (P := (fun a => GB θ p l e 0 s m args below meth c 4 (some (.int r), σ) 2 [(0, .ref (be θ + x0)), (1, .int x1), (2, .int x2), (3, .int a)] [] σ)) (K := (fun b => b = r)) (fun a x h hk => by exact gs_Model_hasBill_L2 X hr hlk  h0 a x h hk) n a b h hk
set_option maxHeartbeats 4000000 in
set_option maxRecDepth 20000 in
theorem g_Model_hasBill (X : Cx θ p s m args c cX11_hasBill 4 RX11) (hr : meth.sig.returnType = some .boolean) (hlk : meth.locks = false)  {σ : Mem} {x0 : Nat} {x1 : Int32} {x2 : Int32} {r : Int32} (h0 : kd x0 = 13) (h : f_Model_hasBill σ x0 x1 x2 = some r) : GB θ p l e 0 s m args below meth c 4 (some (.int r), σ) 0 [(0, .ref (be θ + x0)), (1, .int x1), (2, .int x2)] [] σ := by
  unfold f_Model_hasBill at h
  refine g_iconst X dX11_hasBill_0 (v := (0 : Int32)) ic_0 ?_
  refine g_istore_n X dX11_hasBill_1 rfl (by decide) (lv' := [(3, .int (0 : Int32)), (0, .ref (be θ + x0)), (1, .int x1), (2, .int x2)]) rfl ?_
  exact g_sub (lv' := [(0, .ref (be θ + x0)), (1, .int x1), (2, .int x2), (3, .int (0 : Int32))]) [1, 2, 3, 0] rfl (gl_Model_hasBill_L2 X hr hlk  h0  FU _ _ h rfl)
set_option maxHeartbeats 4000000 in
set_option maxRecDepth 20000 in
theorem c_Model_hasBill {θ : Th} {l : Launch} {σ : Mem} {x0 : Nat} {x1 : Int32} {x2 : Int32} {r : Int32} (h0 : kd x0 = 13) (h : f_Model_hasBill σ x0 x1 x2 = some r) : Cn θ l yX11_hasBill cX11_hasBill 4 (some .boolean) 0 0 0 [.ref (be θ + x0), .int x1, .int x2] σ (some (.int r), σ) :=
  Cn.of (by decide) (Nat.le_of_ble_eq_true rfl) (fun p e s m below meth c X hr hlk => g_Model_hasBill X hr hlk h0 h)
theorem dX11_goHolder_0 : decode cX11_goHolder 0 = .ok (.aload_n 0, 1) := by decide +kernel
theorem dX11_goHolder_1 : decode cX11_goHolder 1 = .ok (.aload_n 1, 1) := by decide +kernel
theorem dX11_goHolder_2 : decode cX11_goHolder 2 = .ok (.iload_n 2, 1) := by decide +kernel
theorem dX11_goHolder_3 : decode cX11_goHolder 3 = .ok (.invokevirtual 361, 3) := by decide +kernel
theorem dX11_goHolder_6 : decode cX11_goHolder 6 = .ok (.istore_n 3, 1) := by decide +kernel
theorem dX11_goHolder_7 : decode cX11_goHolder 7 = .ok (.iload_n 3, 1) := by decide +kernel
theorem dX11_goHolder_8 : decode cX11_goHolder 8 = .ok (.iconst (-1), 1) := by decide +kernel
theorem dX11_goHolder_9 : decode cX11_goHolder 9 = .ok (.if_icmp .ne 4, 3) := by decide +kernel
theorem dX11_goHolder_12 : decode cX11_goHolder 12 = .ok (.return_, 1) := by decide +kernel
theorem dX11_goHolder_13 : decode cX11_goHolder 13 = .ok (.iconst 0, 1) := by decide +kernel
theorem dX11_goHolder_14 : decode cX11_goHolder 14 = .ok (.istore 4, 2) := by decide +kernel
theorem dX11_goHolder_16 : decode cX11_goHolder 16 = .ok (.aload_n 0, 1) := by decide +kernel
theorem dX11_goHolder_17 : decode cX11_goHolder 17 = .ok (.aload_n 1, 1) := by decide +kernel
theorem dX11_goHolder_18 : decode cX11_goHolder 18 = .ok (.iload_n 2, 1) := by decide +kernel
theorem dX11_goHolder_19 : decode cX11_goHolder 19 = .ok (.iload_n 3, 1) := by decide +kernel
theorem dX11_goHolder_20 : decode cX11_goHolder 20 = .ok (.invokevirtual 373, 3) := by decide +kernel
theorem dX11_goHolder_23 : decode cX11_goHolder 23 = .ok (.aload_n 0, 1) := by decide +kernel
theorem dX11_goHolder_24 : decode cX11_goHolder 24 = .ok (.getfield 43, 3) := by decide +kernel
theorem dX11_goHolder_27 : decode cX11_goHolder 27 = .ok (.iconst 3, 1) := by decide +kernel
theorem dX11_goHolder_28 : decode cX11_goHolder 28 = .ok (.iload_n 3, 1) := by decide +kernel
theorem dX11_goHolder_29 : decode cX11_goHolder 29 = .ok (.imul, 1) := by decide +kernel
theorem dX11_goHolder_30 : decode cX11_goHolder 30 = .ok (.iaload, 1) := by decide +kernel
theorem dX11_goHolder_31 : decode cX11_goHolder 31 = .ok (.if_icmp .lt 31, 3) := by decide +kernel
theorem dX11_goHolder_34 : decode cX11_goHolder 34 = .ok (.aload_n 1, 1) := by decide +kernel
theorem dX11_goHolder_35 : decode cX11_goHolder 35 = .ok (.bipush 24, 2) := by decide +kernel
theorem dX11_goHolder_37 : decode cX11_goHolder 37 = .ok (.iload_n 2, 1) := by decide +kernel
theorem dX11_goHolder_38 : decode cX11_goHolder 38 = .ok (.iadd, 1) := by decide +kernel
theorem dX11_goHolder_39 : decode cX11_goHolder 39 = .ok (.iaload, 1) := by decide +kernel
theorem dX11_goHolder_40 : decode cX11_goHolder 40 = .ok (.aload_n 0, 1) := by decide +kernel
theorem dX11_goHolder_41 : decode cX11_goHolder 41 = .ok (.getfield 43, 3) := by decide +kernel
theorem dX11_goHolder_44 : decode cX11_goHolder 44 = .ok (.iconst 3, 1) := by decide +kernel
theorem dX11_goHolder_45 : decode cX11_goHolder 45 = .ok (.iload_n 3, 1) := by decide +kernel
theorem dX11_goHolder_46 : decode cX11_goHolder 46 = .ok (.imul, 1) := by decide +kernel
theorem dX11_goHolder_47 : decode cX11_goHolder 47 = .ok (.iaload, 1) := by decide +kernel
theorem dX11_goHolder_48 : decode cX11_goHolder 48 = .ok (.if_icmp .lt 14, 3) := by decide +kernel
theorem dX11_goHolder_51 : decode cX11_goHolder 51 = .ok (.aload_n 0, 1) := by decide +kernel
theorem dX11_goHolder_52 : decode cX11_goHolder 52 = .ok (.aload_n 1, 1) := by decide +kernel
theorem dX11_goHolder_53 : decode cX11_goHolder 53 = .ok (.iload_n 2, 1) := by decide +kernel
theorem dX11_goHolder_54 : decode cX11_goHolder 54 = .ok (.invokevirtual 376, 3) := by decide +kernel
theorem dX11_goHolder_57 : decode cX11_goHolder 57 = .ok (.istore 4, 2) := by decide +kernel
theorem dX11_goHolder_59 : decode cX11_goHolder 59 = .ok (.goto 40, 3) := by decide +kernel
theorem dX11_goHolder_62 : decode cX11_goHolder 62 = .ok (.aload_n 1, 1) := by decide +kernel
theorem dX11_goHolder_63 : decode cX11_goHolder 63 = .ok (.bipush 16, 2) := by decide +kernel
theorem dX11_goHolder_65 : decode cX11_goHolder 65 = .ok (.iload_n 3, 1) := by decide +kernel
theorem dX11_goHolder_66 : decode cX11_goHolder 66 = .ok (.iadd, 1) := by decide +kernel
theorem dX11_goHolder_67 : decode cX11_goHolder 67 = .ok (.iaload, 1) := by decide +kernel
theorem dX11_goHolder_68 : decode cX11_goHolder 68 = .ok (.aload_n 0, 1) := by decide +kernel
theorem dX11_goHolder_69 : decode cX11_goHolder 69 = .ok (.iload_n 3, 1) := by decide +kernel
theorem dX11_goHolder_70 : decode cX11_goHolder 70 = .ok (.invokevirtual 354, 3) := by decide +kernel
theorem dX11_goHolder_73 : decode cX11_goHolder 73 = .ok (.iconst 3, 1) := by decide +kernel
theorem dX11_goHolder_74 : decode cX11_goHolder 74 = .ok (.idiv, 1) := by decide +kernel
theorem dX11_goHolder_75 : decode cX11_goHolder 75 = .ok (.if_icmp .le 14, 3) := by decide +kernel
theorem dX11_goHolder_78 : decode cX11_goHolder 78 = .ok (.aload_n 0, 1) := by decide +kernel
theorem dX11_goHolder_79 : decode cX11_goHolder 79 = .ok (.aload_n 1, 1) := by decide +kernel
theorem dX11_goHolder_80 : decode cX11_goHolder 80 = .ok (.iload_n 2, 1) := by decide +kernel
theorem dX11_goHolder_81 : decode cX11_goHolder 81 = .ok (.invokevirtual 379, 3) := by decide +kernel
theorem dX11_goHolder_84 : decode cX11_goHolder 84 = .ok (.istore 4, 2) := by decide +kernel
theorem dX11_goHolder_86 : decode cX11_goHolder 86 = .ok (.goto 13, 3) := by decide +kernel
theorem dX11_goHolder_89 : decode cX11_goHolder 89 = .ok (.aload_n 1, 1) := by decide +kernel
theorem dX11_goHolder_90 : decode cX11_goHolder 90 = .ok (.bipush 16, 2) := by decide +kernel
theorem dX11_goHolder_92 : decode cX11_goHolder 92 = .ok (.iload_n 3, 1) := by decide +kernel
theorem dX11_goHolder_93 : decode cX11_goHolder 93 = .ok (.iadd, 1) := by decide +kernel
theorem dX11_goHolder_94 : decode cX11_goHolder 94 = .ok (.dup2, 1) := by decide +kernel
theorem dX11_goHolder_95 : decode cX11_goHolder 95 = .ok (.iaload, 1) := by decide +kernel
theorem dX11_goHolder_96 : decode cX11_goHolder 96 = .ok (.iconst 1, 1) := by decide +kernel
theorem dX11_goHolder_97 : decode cX11_goHolder 97 = .ok (.iadd, 1) := by decide +kernel
theorem dX11_goHolder_98 : decode cX11_goHolder 98 = .ok (.iastore, 1) := by decide +kernel
theorem dX11_goHolder_99 : decode cX11_goHolder 99 = .ok (.return_, 1) := by decide +kernel
def f_Model_goHolder_J62 (σ : Mem) (x1 : Nat) (x2 : Int32) (y3 : Int32) : Option (Mem) :=
  if inb ((16 : Int32) + y3) (ln x1) then
    (f_Model_weightOf σ y3).bind fun q7 =>
    if (mI σ x1 ((16 : Int32) + y3).toNatClampNeg) ≤ (q7 / (3 : Int32)) then
      some (sI σ x1 ((16 : Int32) + y3).toNatClampNeg ((mI σ x1 ((16 : Int32) + y3).toNatClampNeg) + (1 : Int32)))
    else
      (f_Model_goesBack σ x1 x2).bind fun q9 =>
      some q9.2
  else none
def f_Model_goHolder (σ : Mem) (x1 : Nat) (x2 : Int32) : Option (Mem) :=
  (f_Model_holds σ x1 x2).bind fun q1 =>
  if q1 = (-1 : Int32) then
    some σ
  else
    (f_Model_likingOf σ x1 x2 q1).bind fun q3 =>
    if inb ((3 : Int32) * q1) 24 then
      if q3.1 < (mI q3.2 572 ((3 : Int32) * q1).toNatClampNeg) then
        f_Model_goHolder_J62 q3.2 x1 x2 q1
      else
        if inb ((24 : Int32) + x2) (ln x1) then
          if (mI q3.2 x1 ((24 : Int32) + x2).toNatClampNeg) < (mI q3.2 572 ((3 : Int32) * q1).toNatClampNeg) then
            f_Model_goHolder_J62 q3.2 x1 x2 q1
          else
            (f_Model_buys q3.2 x1 x2).bind fun q12 =>
            some q12.2
        else none
    else none
set_option maxHeartbeats 4000000 in
set_option maxRecDepth 20000 in
theorem g_Model_goHolder_J62 (X : Cx θ p s m args c cX11_goHolder 5 RX11) (hr : meth.sig.returnType = none) (hlk : meth.locks = false)  {σ : Mem} {x1 : Nat} {x2 : Int32} {y3 : Int32} {r : Mem} (h1 : kd x1 = 13) (h : f_Model_goHolder_J62 σ x1 x2 y3 = some r) : GB θ p l e 64 s m args below meth c 5 (none, r) 62 [(0, .ref (be θ + 565)), (1, .ref (be θ + x1)), (2, .int x2), (3, .int y3)] [] σ := by
  unfold f_Model_goHolder_J62 at h
  refine g_aload_n X dX11_goHolder_62 rfl 1 rfl ?_
  refine g_bipush X dX11_goHolder_63 (v := (16 : Int32)) bp_16 ?_
  refine g_iload_n X dX11_goHolder_65 rfl 3 rfl ?_
  refine g_iadd X dX11_goHolder_66 ?_
  obtain ⟨g6, h⟩ := ite_some h
  refine g_iald X h1 rfl (inb_in g6) dX11_goHolder_67 ?_
  refine g_aload_n X dX11_goHolder_68 rfl 0 rfl ?_
  refine g_iload_n X dX11_goHolder_69 rfl 3 rfl ?_
  obtain ⟨q7, hq7, h⟩ := Option.bind_eq_some_iff.mp h
  refine g_cV X (c_Model_weightOf  hq7) lk_RX11_354 my_X11_weightOf (a := 565) (ci := 11) kd_565 (by decide) rfl (As := [.int y3]) (rest := [.int (mI σ x1 ((16 : Int32) + y3).toNatClampNeg)]) rfl rfl (Nat.le_of_ble_eq_true rfl) ⟨(Nat.le_of_ble_eq_true rfl), (Nat.le_of_ble_eq_true rfl)⟩ ⟨(Nat.le_of_ble_eq_true rfl), (Nat.le_of_ble_eq_true rfl)⟩ dX11_goHolder_70 (st' := [.int q7, .int (mI σ x1 ((16 : Int32) + y3).toNatClampNeg)]) (σ' := σ) rfl rfl ?_
  refine g_iconst X dX11_goHolder_73 (v := (3 : Int32)) ic_3 ?_
  refine g_idiv X dX11_goHolder_74 (by decide) ?_
  refine g_icmp_le (tgt := 89) X dX11_goHolder_75 (by decide) (fun c8 => ?_) (fun c8 => ?_)
  · replace h := (if_pos c8).symm.trans h
    refine g_aload_n X dX11_goHolder_89 rfl 1 rfl ?_
    refine g_bipush X dX11_goHolder_90 (v := (16 : Int32)) bp_16 ?_
    refine g_iload_n X dX11_goHolder_92 rfl 3 rfl ?_
    refine g_iadd X dX11_goHolder_93 ?_
    refine g_dup2 X dX11_goHolder_94 rfl rfl ?_
    refine g_iald X h1 rfl (inb_in g6) dX11_goHolder_95 ?_
    refine g_iconst X dX11_goHolder_96 (v := (1 : Int32)) ic_1 ?_
    refine g_iadd X dX11_goHolder_97 ?_
    refine g_iast X h1 rfl (inb_in g6) dX11_goHolder_98 ?_
    exact g_vret X hr hlk dX11_goHolder_99 (by cases h; rfl)
  · replace h := (if_neg c8).symm.trans h
    refine g_aload_n X dX11_goHolder_78 rfl 0 rfl ?_
    refine g_aload_n X dX11_goHolder_79 rfl 1 rfl ?_
    refine g_iload_n X dX11_goHolder_80 rfl 2 rfl ?_
    obtain ⟨q9, hq9, h⟩ := Option.bind_eq_some_iff.mp h
    refine g_cV X (c_Model_goesBack h1 hq9) lk_RX11_379 my_X11_goesBack (a := 565) (ci := 11) kd_565 (by decide) rfl (As := [.ref (be θ + x1), .int x2]) (rest := []) rfl rfl (Nat.le_of_ble_eq_true rfl) ⟨(Nat.le_of_ble_eq_true rfl), (Nat.le_of_ble_eq_true rfl)⟩ ⟨(Nat.le_of_ble_eq_true rfl), (Nat.le_of_ble_eq_true rfl)⟩ dX11_goHolder_81 (st' := [.int q9.1]) (σ' := q9.2) rfl rfl ?_
    refine g_istore X dX11_goHolder_84 (by decide) (lv' := [(4, .int q9.1), (0, .ref (be θ + 565)), (1, .ref (be θ + x1)), (2, .int x2), (3, .int y3)]) rfl ?_
    refine g_goto (tgt := 99) X dX11_goHolder_86 (by decide) ?_
    exact g_vret X hr hlk dX11_goHolder_99 (by cases h; rfl)
set_option maxHeartbeats 4000000 in
set_option maxRecDepth 20000 in
theorem g_Model_goHolder (X : Cx θ p s m args c cX11_goHolder 5 RX11) (hr : meth.sig.returnType = none) (hlk : meth.locks = false)  {σ : Mem} {x1 : Nat} {x2 : Int32} {r : Mem} (h1 : kd x1 = 13) (h : f_Model_goHolder σ x1 x2 = some r) : GB θ p l e 64 s m args below meth c 5 (none, r) 0 [(0, .ref (be θ + 565)), (1, .ref (be θ + x1)), (2, .int x2)] [] σ := by
  unfold f_Model_goHolder at h
  refine g_aload_n X dX11_goHolder_0 rfl 0 rfl ?_
  refine g_aload_n X dX11_goHolder_1 rfl 1 rfl ?_
  refine g_iload_n X dX11_goHolder_2 rfl 2 rfl ?_
  obtain ⟨q1, hq1, h⟩ := Option.bind_eq_some_iff.mp h
  refine g_cV X (c_Model_holds h1 hq1) lk_RX11_361 my_X11_holds (a := 565) (ci := 11) kd_565 (by decide) rfl (As := [.ref (be θ + x1), .int x2]) (rest := []) rfl rfl (Nat.le_of_ble_eq_true rfl) ⟨(Nat.le_of_ble_eq_true rfl), (Nat.le_of_ble_eq_true rfl)⟩ ⟨(Nat.le_of_ble_eq_true rfl), (Nat.le_of_ble_eq_true rfl)⟩ dX11_goHolder_3 (st' := [.int q1]) (σ' := σ) rfl rfl ?_
  refine g_istore_n X dX11_goHolder_6 rfl (by decide) (lv' := [(3, .int q1), (0, .ref (be θ + 565)), (1, .ref (be θ + x1)), (2, .int x2)]) rfl ?_
  refine g_iload_n X dX11_goHolder_7 rfl 0 rfl ?_
  refine g_iconst X dX11_goHolder_8 (v := (-1 : Int32)) ic_m1 ?_
  refine g_icmp_ne (tgt := 13) X dX11_goHolder_9 (by decide) (fun c2 => ?_) (fun c2 => ?_)
  · replace h := (if_neg c2).symm.trans h
    refine g_iconst X dX11_goHolder_13 (v := (0 : Int32)) ic_0 ?_
    refine g_istore X dX11_goHolder_14 (by decide) (lv' := [(4, .int (0 : Int32)), (3, .int q1), (0, .ref (be θ + 565)), (1, .ref (be θ + x1)), (2, .int x2)]) rfl ?_
    refine g_aload_n X dX11_goHolder_16 rfl 2 rfl ?_
    refine g_aload_n X dX11_goHolder_17 rfl 3 rfl ?_
    refine g_iload_n X dX11_goHolder_18 rfl 4 rfl ?_
    refine g_iload_n X dX11_goHolder_19 rfl 1 rfl ?_
    obtain ⟨q3, hq3, h⟩ := Option.bind_eq_some_iff.mp h
    refine g_cV X (c_Model_likingOf h1 hq3) lk_RX11_373 my_X11_likingOf (a := 565) (ci := 11) kd_565 (by decide) rfl (As := [.ref (be θ + x1), .int x2, .int q1]) (rest := []) rfl rfl (Nat.le_of_ble_eq_true rfl) ⟨(Nat.le_of_ble_eq_true rfl), (Nat.le_of_ble_eq_true rfl)⟩ ⟨(Nat.le_of_ble_eq_true rfl), (Nat.le_of_ble_eq_true rfl)⟩ dX11_goHolder_20 (st' := [.int q3.1]) (σ' := q3.2) rfl rfl ?_
    refine g_aload_n X dX11_goHolder_23 rfl 2 rfl ?_
    refine g_get X fl_RX11_43 dX11_goHolder_24 kd_565 (v := .ref (be θ + 572)) rfl ?_
    refine g_iconst X dX11_goHolder_27 (v := (3 : Int32)) ic_3 ?_
    refine g_iload_n X dX11_goHolder_28 rfl 1 rfl ?_
    refine g_imul X dX11_goHolder_29 ?_
    obtain ⟨g4, h⟩ := ite_some h
    refine g_iald X kd_572 ln_572 (inb_in g4) dX11_goHolder_30 ?_
    refine g_icmp_lt (tgt := 62) X dX11_goHolder_31 (by decide) (fun c5 => ?_) (fun c5 => ?_)
    · replace h := (if_pos c5).symm.trans h
      exact g_sub (lv' := [(0, .ref (be θ + 565)), (1, .ref (be θ + x1)), (2, .int x2), (3, .int q1)]) [2, 3, 4, 1] rfl (g_Model_goHolder_J62 X hr hlk  h1  h)
    · replace h := (if_neg c5).symm.trans h
      refine g_aload_n X dX11_goHolder_34 rfl 3 rfl ?_
      refine g_bipush X dX11_goHolder_35 (v := (24 : Int32)) bp_24 ?_
      refine g_iload_n X dX11_goHolder_37 rfl 4 rfl ?_
      refine g_iadd X dX11_goHolder_38 ?_
      obtain ⟨g10, h⟩ := ite_some h
      refine g_iald X h1 rfl (inb_in g10) dX11_goHolder_39 ?_
      refine g_aload_n X dX11_goHolder_40 rfl 2 rfl ?_
      refine g_get X fl_RX11_43 dX11_goHolder_41 kd_565 (v := .ref (be θ + 572)) rfl ?_
      refine g_iconst X dX11_goHolder_44 (v := (3 : Int32)) ic_3 ?_
      refine g_iload_n X dX11_goHolder_45 rfl 1 rfl ?_
      refine g_imul X dX11_goHolder_46 ?_
      refine g_iald X kd_572 ln_572 (inb_in g4) dX11_goHolder_47 ?_
      refine g_icmp_lt (tgt := 62) X dX11_goHolder_48 (by decide) (fun c11 => ?_) (fun c11 => ?_)
      · replace h := (if_pos c11).symm.trans h
        exact g_sub (lv' := [(0, .ref (be θ + 565)), (1, .ref (be θ + x1)), (2, .int x2), (3, .int q1)]) [2, 3, 4, 1] rfl (g_Model_goHolder_J62 X hr hlk  h1  h)
      · replace h := (if_neg c11).symm.trans h
        refine g_aload_n X dX11_goHolder_51 rfl 2 rfl ?_
        refine g_aload_n X dX11_goHolder_52 rfl 3 rfl ?_
        refine g_iload_n X dX11_goHolder_53 rfl 4 rfl ?_
        obtain ⟨q12, hq12, h⟩ := Option.bind_eq_some_iff.mp h
        refine g_cV X (c_Model_buys h1 hq12) lk_RX11_376 my_X11_buys (a := 565) (ci := 11) kd_565 (by decide) rfl (As := [.ref (be θ + x1), .int x2]) (rest := []) rfl rfl (Nat.le_of_ble_eq_true rfl) ⟨(Nat.le_of_ble_eq_true rfl), (Nat.le_of_ble_eq_true rfl)⟩ ⟨(Nat.le_of_ble_eq_true rfl), (Nat.le_of_ble_eq_true rfl)⟩ dX11_goHolder_54 (st' := [.int q12.1]) (σ' := q12.2) rfl rfl ?_
        refine g_istore X dX11_goHolder_57 (by decide) (lv' := [(4, .int q12.1), (3, .int q1), (0, .ref (be θ + 565)), (1, .ref (be θ + x1)), (2, .int x2)]) rfl ?_
        refine g_goto (tgt := 99) X dX11_goHolder_59 (by decide) ?_
        exact g_vret X hr hlk dX11_goHolder_99 (by cases h; rfl)
  · replace h := (if_pos c2).symm.trans h
    exact g_vret X hr hlk dX11_goHolder_12 (by cases h; rfl)
set_option maxHeartbeats 4000000 in
set_option maxRecDepth 20000 in
theorem c_Model_goHolder {θ : Th} {l : Launch} {σ : Mem} {x1 : Nat} {x2 : Int32} {r : Mem} (h1 : kd x1 = 13) (h : f_Model_goHolder σ x1 x2 = some r) : Cn θ l yX11_goHolder cX11_goHolder 5 (none) 64 0 0 [.ref (be θ + 565), .ref (be θ + x1), .int x2] σ (none, r) :=
  Cn.of (by decide) (Nat.le_of_ble_eq_true rfl) (fun p e s m below meth c X hr hlk => g_Model_goHolder X hr hlk h1 h)
theorem dX11_goSeeker_0 : decode cX11_goSeeker 0 = .ok (.aload_n 0, 1) := by decide +kernel
theorem dX11_goSeeker_1 : decode cX11_goSeeker 1 = .ok (.aload_n 1, 1) := by decide +kernel
theorem dX11_goSeeker_2 : decode cX11_goSeeker 2 = .ok (.iload_n 2, 1) := by decide +kernel
theorem dX11_goSeeker_3 : decode cX11_goSeeker 3 = .ok (.invokevirtual 361, 3) := by decide +kernel
theorem dX11_goSeeker_6 : decode cX11_goSeeker 6 = .ok (.iconst (-1), 1) := by decide +kernel
theorem dX11_goSeeker_7 : decode cX11_goSeeker 7 = .ok (.if_icmp .ne 24, 3) := by decide +kernel
theorem dX11_goSeeker_10 : decode cX11_goSeeker 10 = .ok (.aload_n 1, 1) := by decide +kernel
theorem dX11_goSeeker_11 : decode cX11_goSeeker 11 = .ok (.iload_n 2, 1) := by decide +kernel
theorem dX11_goSeeker_12 : decode cX11_goSeeker 12 = .ok (.invokestatic 382, 3) := by decide +kernel
theorem dX11_goSeeker_15 : decode cX11_goSeeker 15 = .ok (.bipush 6, 2) := by decide +kernel
theorem dX11_goSeeker_17 : decode cX11_goSeeker 17 = .ok (.aload_n 0, 1) := by decide +kernel
theorem dX11_goSeeker_18 : decode cX11_goSeeker 18 = .ok (.getfield 49, 3) := by decide +kernel
theorem dX11_goSeeker_21 : decode cX11_goSeeker 21 = .ok (.iconst 4, 1) := by decide +kernel
theorem dX11_goSeeker_22 : decode cX11_goSeeker 22 = .ok (.iload_n 2, 1) := by decide +kernel
theorem dX11_goSeeker_23 : decode cX11_goSeeker 23 = .ok (.imul, 1) := by decide +kernel
theorem dX11_goSeeker_24 : decode cX11_goSeeker 24 = .ok (.iconst 2, 1) := by decide +kernel
theorem dX11_goSeeker_25 : decode cX11_goSeeker 25 = .ok (.iadd, 1) := by decide +kernel
theorem dX11_goSeeker_26 : decode cX11_goSeeker 26 = .ok (.iaload, 1) := by decide +kernel
theorem dX11_goSeeker_27 : decode cX11_goSeeker 27 = .ok (.imul, 1) := by decide +kernel
theorem dX11_goSeeker_28 : decode cX11_goSeeker 28 = .ok (.if_icmp .le 4, 3) := by decide +kernel
theorem dX11_goSeeker_31 : decode cX11_goSeeker 31 = .ok (.return_, 1) := by decide +kernel
theorem dX11_goSeeker_32 : decode cX11_goSeeker 32 = .ok (.iconst (-1), 1) := by decide +kernel
theorem dX11_goSeeker_33 : decode cX11_goSeeker 33 = .ok (.istore_n 3, 1) := by decide +kernel
theorem dX11_goSeeker_34 : decode cX11_goSeeker 34 = .ok (.iconst 0, 1) := by decide +kernel
theorem dX11_goSeeker_35 : decode cX11_goSeeker 35 = .ok (.istore 4, 2) := by decide +kernel
theorem dX11_goSeeker_37 : decode cX11_goSeeker 37 = .ok (.iconst 0, 1) := by decide +kernel
theorem dX11_goSeeker_38 : decode cX11_goSeeker 38 = .ok (.istore 5, 2) := by decide +kernel
theorem dX11_goSeeker_40 : decode cX11_goSeeker 40 = .ok (.iload 5, 2) := by decide +kernel
theorem dX11_goSeeker_42 : decode cX11_goSeeker 42 = .ok (.aload_n 0, 1) := by decide +kernel
theorem dX11_goSeeker_43 : decode cX11_goSeeker 43 = .ok (.getfield 307, 3) := by decide +kernel
theorem dX11_goSeeker_46 : decode cX11_goSeeker 46 = .ok (.if_icmp .ge 59, 3) := by decide +kernel
theorem dX11_goSeeker_49 : decode cX11_goSeeker 49 = .ok (.aload_n 0, 1) := by decide +kernel
theorem dX11_goSeeker_50 : decode cX11_goSeeker 50 = .ok (.aload_n 1, 1) := by decide +kernel
theorem dX11_goSeeker_51 : decode cX11_goSeeker 51 = .ok (.iload 5, 2) := by decide +kernel
theorem dX11_goSeeker_53 : decode cX11_goSeeker 53 = .ok (.invokevirtual 385, 3) := by decide +kernel
theorem dX11_goSeeker_56 : decode cX11_goSeeker 56 = .ok (.ifCond .eq 43, 3) := by decide +kernel
theorem dX11_goSeeker_59 : decode cX11_goSeeker 59 = .ok (.aload_n 1, 1) := by decide +kernel
theorem dX11_goSeeker_60 : decode cX11_goSeeker 60 = .ok (.iload_n 2, 1) := by decide +kernel
theorem dX11_goSeeker_61 : decode cX11_goSeeker 61 = .ok (.iload 5, 2) := by decide +kernel
theorem dX11_goSeeker_63 : decode cX11_goSeeker 63 = .ok (.invokestatic 389, 3) := by decide +kernel
theorem dX11_goSeeker_66 : decode cX11_goSeeker 66 = .ok (.ifCond .eq 6, 3) := by decide +kernel
theorem dX11_goSeeker_69 : decode cX11_goSeeker 69 = .ok (.goto 30, 3) := by decide +kernel
theorem dX11_goSeeker_72 : decode cX11_goSeeker 72 = .ok (.aload_n 0, 1) := by decide +kernel
theorem dX11_goSeeker_73 : decode cX11_goSeeker 73 = .ok (.aload_n 1, 1) := by decide +kernel
theorem dX11_goSeeker_74 : decode cX11_goSeeker 74 = .ok (.iload_n 2, 1) := by decide +kernel
theorem dX11_goSeeker_75 : decode cX11_goSeeker 75 = .ok (.iload 5, 2) := by decide +kernel
theorem dX11_goSeeker_77 : decode cX11_goSeeker 77 = .ok (.invokevirtual 373, 3) := by decide +kernel
theorem dX11_goSeeker_80 : decode cX11_goSeeker 80 = .ok (.istore 6, 2) := by decide +kernel
theorem dX11_goSeeker_82 : decode cX11_goSeeker 82 = .ok (.iload 6, 2) := by decide +kernel
theorem dX11_goSeeker_84 : decode cX11_goSeeker 84 = .ok (.iload 4, 2) := by decide +kernel
theorem dX11_goSeeker_86 : decode cX11_goSeeker 86 = .ok (.if_icmp .gt 6, 3) := by decide +kernel
theorem dX11_goSeeker_89 : decode cX11_goSeeker 89 = .ok (.goto 10, 3) := by decide +kernel
theorem dX11_goSeeker_92 : decode cX11_goSeeker 92 = .ok (.iload 5, 2) := by decide +kernel
theorem dX11_goSeeker_94 : decode cX11_goSeeker 94 = .ok (.istore_n 3, 1) := by decide +kernel
theorem dX11_goSeeker_95 : decode cX11_goSeeker 95 = .ok (.iload 6, 2) := by decide +kernel
theorem dX11_goSeeker_97 : decode cX11_goSeeker 97 = .ok (.istore 4, 2) := by decide +kernel
theorem dX11_goSeeker_99 : decode cX11_goSeeker 99 = .ok (.iinc 5 1, 3) := by decide +kernel
theorem dX11_goSeeker_102 : decode cX11_goSeeker 102 = .ok (.goto (-62), 3) := by decide +kernel
theorem dX11_goSeeker_105 : decode cX11_goSeeker 105 = .ok (.iload_n 3, 1) := by decide +kernel
theorem dX11_goSeeker_106 : decode cX11_goSeeker 106 = .ok (.iconst (-1), 1) := by decide +kernel
theorem dX11_goSeeker_107 : decode cX11_goSeeker 107 = .ok (.if_icmp .ne 4, 3) := by decide +kernel
theorem dX11_goSeeker_110 : decode cX11_goSeeker 110 = .ok (.return_, 1) := by decide +kernel
theorem dX11_goSeeker_111 : decode cX11_goSeeker 111 = .ok (.aload_n 1, 1) := by decide +kernel
theorem dX11_goSeeker_112 : decode cX11_goSeeker 112 = .ok (.iload_n 3, 1) := by decide +kernel
theorem dX11_goSeeker_113 : decode cX11_goSeeker 113 = .ok (.iload_n 2, 1) := by decide +kernel
theorem dX11_goSeeker_114 : decode cX11_goSeeker 114 = .ok (.iastore, 1) := by decide +kernel
theorem dX11_goSeeker_115 : decode cX11_goSeeker 115 = .ok (.aload_n 1, 1) := by decide +kernel
theorem dX11_goSeeker_116 : decode cX11_goSeeker 116 = .ok (.bipush 16, 2) := by decide +kernel
theorem dX11_goSeeker_118 : decode cX11_goSeeker 118 = .ok (.iload_n 3, 1) := by decide +kernel
theorem dX11_goSeeker_119 : decode cX11_goSeeker 119 = .ok (.iadd, 1) := by decide +kernel
theorem dX11_goSeeker_120 : decode cX11_goSeeker 120 = .ok (.iconst 0, 1) := by decide +kernel
theorem dX11_goSeeker_121 : decode cX11_goSeeker 121 = .ok (.iastore, 1) := by decide +kernel
theorem dX11_goSeeker_122 : decode cX11_goSeeker 122 = .ok (.return_, 1) := by decide +kernel
def f_Model_goSeeker_L40 (x1 : Nat) (x2 : Int32) (a : Mem × Int32 × Int32 × Int32) : Option ((Mem × Int32 × Int32 × Int32) ⊕ (Mem × Int32)) :=
  @Prod.casesOn (Mem) (Int32 × Int32 × Int32) (fun _ => Option ((Mem × Int32 × Int32 × Int32) ⊕ (Mem × Int32))) a fun τ b0 =>
  @Prod.casesOn (Int32) (Int32 × Int32) (fun _ => Option ((Mem × Int32 × Int32 × Int32) ⊕ (Mem × Int32))) b0 fun z3 b1 =>
  @Prod.casesOn (Int32) (Int32) (fun _ => Option ((Mem × Int32 × Int32 × Int32) ⊕ (Mem × Int32))) b1 fun z4 z5 =>
  if (mI τ 565 26) ≤ z5 then
    some (.inr (τ, z3))
  else
    (f_Model_isFree τ x1 z5).bind fun q7 =>
    if q7 = (0 : Int32) then
      some (.inl (τ, z3, z4, (z5 + (1 : Int32))))
    else
      (f_Model_hasBill τ x1 x2 z5).bind fun q9 =>
      if q9 = (0 : Int32) then
        (f_Model_likingOf τ x1 x2 z5).bind fun q11 =>
        if z4 < q11.1 then
          some (.inl (q11.2, z5, q11.1, (z5 + (1 : Int32))))
        else
          some (.inl (q11.2, z3, z4, (z5 + (1 : Int32))))
      else
        some (.inl (τ, z3, z4, (z5 + (1 : Int32))))
def f_Model_goSeeker (σ : Mem) (x1 : Nat) (x2 : Int32) : Option (Mem) :=
  (f_Model_holds σ x1 x2).bind fun q1 =>
  if q1 = (-1 : Int32) then
    (f_Model_dueOf σ x1 x2).bind fun q3 =>
    if inb (((4 : Int32) * x2) + (2 : Int32)) 24 then
      if q3 ≤ ((6 : Int32) * (mI σ 574 (((4 : Int32) * x2) + (2 : Int32)).toNatClampNeg)) then
        (loopF (f_Model_goSeeker_L40 x1 x2) FU (σ, (-1 : Int32), (0 : Int32), (0 : Int32))).bind fun q13 =>
        @Prod.casesOn (Mem) (Int32) (fun _ => Option (Mem)) q13 fun τ13 w13_3 =>
        if w13_3 = (-1 : Int32) then
          some τ13
        else
          if inb w13_3 (ln x1) then
            if inb ((16 : Int32) + w13_3) (ln x1) then
              some (sI (sI τ13 x1 w13_3.toNatClampNeg x2) x1 ((16 : Int32) + w13_3).toNatClampNeg (0 : Int32))
            else none
          else none
      else
        some σ
    else none
  else
    some σ
set_option maxHeartbeats 4000000 in
set_option maxRecDepth 20000 in
theorem gs_Model_goSeeker_L40 (X : Cx θ p s m args c cX11_goSeeker 7 RX11) (hr : meth.sig.returnType = none) (hlk : meth.locks = false)  {x1 : Nat} {x2 : Int32} {r : Mem} (h1 : kd x1 = 13) (τ : Mem) (z3 : Int32) (z4 : Int32) (z5 : Int32) (x : (Mem × Int32 × Int32 × Int32) ⊕ (Mem × Int32)) (h : f_Model_goSeeker_L40 x1 x2 (τ, z3, z4, z5) = some x) (hk : Sum.elim (fun a => @Prod.casesOn (Mem) (Int32 × Int32 × Int32) (fun _ => Prop) a fun τ b0 => @Prod.casesOn (Int32) (Int32 × Int32) (fun _ => Prop) b0 fun z3 b1 => @Prod.casesOn (Int32) (Int32) (fun _ => Prop) b1 fun z4 z5 => GB θ p l e 64 s m args below meth c 7 (none, r) 40 [(0, .ref (be θ + 565)), (1, .ref (be θ + x1)), (2, .int x2), (3, .int z3), (4, .int z4), (5, .int z5)] [] τ) (fun ex => @Prod.casesOn (Mem) (Int32) (fun _ => Prop) ex fun τ w_3 => GB θ p l e 64 s m args below meth c 7 (none, r) 105 [(0, .ref (be θ + 565)), (1, .ref (be θ + x1)), (2, .int x2), (3, .int w_3)] [] τ) x) : GB θ p l e 64 s m args below meth c 7 (none, r) 40 [(0, .ref (be θ + 565)), (1, .ref (be θ + x1)), (2, .int x2), (3, .int z3), (4, .int z4), (5, .int z5)] [] τ := by
  unfold f_Model_goSeeker_L40 at h
  dsimp only at h
  refine g_iload X dX11_goSeeker_40 5 rfl ?_
  refine g_aload_n X dX11_goSeeker_42 rfl 0 rfl ?_
  refine g_get X fl_RX11_307 dX11_goSeeker_43 kd_565 (v := .int (mI τ 565 26)) rfl ?_
  refine g_icmp_ge (tgt := 105) X dX11_goSeeker_46 (by decide) (fun c6 => ?_) (fun c6 => ?_)
  · replace h := (if_pos c6).symm.trans h
    have hk := inr_hk h hk
    exact g_sub (lv' := [(0, .ref (be θ + 565)), (1, .ref (be θ + x1)), (2, .int x2), (3, .int z3)]) [0, 1, 2, 3] rfl hk
  · replace h := (if_neg c6).symm.trans h
    refine g_aload_n X dX11_goSeeker_49 rfl 0 rfl ?_
    refine g_aload_n X dX11_goSeeker_50 rfl 1 rfl ?_
    refine g_iload X dX11_goSeeker_51 5 rfl ?_
    obtain ⟨q7, hq7, h⟩ := Option.bind_eq_some_iff.mp h
    refine g_cV X (c_Model_isFree h1 hq7) lk_RX11_385 my_X11_isFree (a := 565) (ci := 11) kd_565 (by decide) rfl (As := [.ref (be θ + x1), .int z5]) (rest := []) rfl rfl (Nat.le_of_ble_eq_true rfl) ⟨(Nat.le_of_ble_eq_true rfl), (Nat.le_of_ble_eq_true rfl)⟩ ⟨(Nat.le_of_ble_eq_true rfl), (Nat.le_of_ble_eq_true rfl)⟩ dX11_goSeeker_53 (st' := [.int q7]) (σ' := τ) rfl rfl ?_
    refine g_if_eq (tgt := 99) X dX11_goSeeker_56 (by decide) (fun c8 => ?_) (fun c8 => ?_)
    · replace h := (if_pos c8).symm.trans h
      refine g_iinc X dX11_goSeeker_99 (kq := 5) rfl (congrArg (HAdd.hAdd _) ic_1) (by decide) (lv' := [(5, .int (z5 + (1 : Int32))), (0, .ref (be θ + 565)), (1, .ref (be θ + x1)), (2, .int x2), (3, .int z3), (4, .int z4)]) rfl ?_
      refine g_goto (tgt := 40) X dX11_goSeeker_102 (by decide) ?_
      have hk := inl_hk h hk
      exact g_sub (lv' := [(0, .ref (be θ + 565)), (1, .ref (be θ + x1)), (2, .int x2), (3, .int z3), (4, .int z4), (5, .int (z5 + (1 : Int32)))]) [1, 2, 3, 4, 5, 0] rfl hk
    · replace h := (if_neg c8).symm.trans h
      refine g_aload_n X dX11_goSeeker_59 rfl 1 rfl ?_
      refine g_iload_n X dX11_goSeeker_60 rfl 2 rfl ?_
      refine g_iload X dX11_goSeeker_61 5 rfl ?_
      obtain ⟨q9, hq9, h⟩ := Option.bind_eq_some_iff.mp h
      refine g_cS X (c_Model_hasBill h1 hq9) lk_RX11_389 my_X11_hasBill (As := [.ref (be θ + x1), .int x2, .int z5]) (rest := []) rfl rfl (Nat.le_of_ble_eq_true rfl) ⟨(Nat.le_of_ble_eq_true rfl), (Nat.le_of_ble_eq_true rfl)⟩ ⟨(Nat.le_of_ble_eq_true rfl), (Nat.le_of_ble_eq_true rfl)⟩ dX11_goSeeker_63 (st' := [.int q9]) (σ' := τ) rfl rfl ?_
      refine g_if_eq (tgt := 72) X dX11_goSeeker_66 (by decide) (fun c10 => ?_) (fun c10 => ?_)
      · replace h := (if_pos c10).symm.trans h
        refine g_aload_n X dX11_goSeeker_72 rfl 0 rfl ?_
        refine g_aload_n X dX11_goSeeker_73 rfl 1 rfl ?_
        refine g_iload_n X dX11_goSeeker_74 rfl 2 rfl ?_
        refine g_iload X dX11_goSeeker_75 5 rfl ?_
        obtain ⟨q11, hq11, h⟩ := Option.bind_eq_some_iff.mp h
        refine g_cV X (c_Model_likingOf h1 hq11) lk_RX11_373 my_X11_likingOf (a := 565) (ci := 11) kd_565 (by decide) rfl (As := [.ref (be θ + x1), .int x2, .int z5]) (rest := []) rfl rfl (Nat.le_of_ble_eq_true rfl) ⟨(Nat.le_of_ble_eq_true rfl), (Nat.le_of_ble_eq_true rfl)⟩ ⟨(Nat.le_of_ble_eq_true rfl), (Nat.le_of_ble_eq_true rfl)⟩ dX11_goSeeker_77 (st' := [.int q11.1]) (σ' := q11.2) rfl rfl ?_
        refine g_istore X dX11_goSeeker_80 (by decide) (lv' := [(6, .int q11.1), (0, .ref (be θ + 565)), (1, .ref (be θ + x1)), (2, .int x2), (3, .int z3), (4, .int z4), (5, .int z5)]) rfl ?_
        refine g_iload X dX11_goSeeker_82 0 rfl ?_
        refine g_iload X dX11_goSeeker_84 5 rfl ?_
        refine g_icmp_gt (tgt := 92) X dX11_goSeeker_86 (by decide) (fun c12 => ?_) (fun c12 => ?_)
        · replace h := (if_pos c12).symm.trans h
          refine g_iload X dX11_goSeeker_92 6 rfl ?_
          refine g_istore_n X dX11_goSeeker_94 rfl (by decide) (lv' := [(3, .int z5), (6, .int q11.1), (0, .ref (be θ + 565)), (1, .ref (be θ + x1)), (2, .int x2), (4, .int z4), (5, .int z5)]) rfl ?_
          refine g_iload X dX11_goSeeker_95 1 rfl ?_
          refine g_istore X dX11_goSeeker_97 (by decide) (lv' := [(4, .int q11.1), (3, .int z5), (6, .int q11.1), (0, .ref (be θ + 565)), (1, .ref (be θ + x1)), (2, .int x2), (5, .int z5)]) rfl ?_
          refine g_iinc X dX11_goSeeker_99 (kq := 6) rfl (congrArg (HAdd.hAdd _) ic_1) (by decide) (lv' := [(5, .int (z5 + (1 : Int32))), (4, .int q11.1), (3, .int z5), (6, .int q11.1), (0, .ref (be θ + 565)), (1, .ref (be θ + x1)), (2, .int x2)]) rfl ?_
          refine g_goto (tgt := 40) X dX11_goSeeker_102 (by decide) ?_
          have hk := inl_hk h hk
          exact g_sub (lv' := [(0, .ref (be θ + 565)), (1, .ref (be θ + x1)), (2, .int x2), (3, .int z5), (4, .int q11.1), (5, .int (z5 + (1 : Int32)))]) [4, 5, 6, 2, 1, 0] rfl hk
        · replace h := (if_neg c12).symm.trans h
          refine g_goto (tgt := 99) X dX11_goSeeker_89 (by decide) ?_
          refine g_iinc X dX11_goSeeker_99 (kq := 6) rfl (congrArg (HAdd.hAdd _) ic_1) (by decide) (lv' := [(5, .int (z5 + (1 : Int32))), (6, .int q11.1), (0, .ref (be θ + 565)), (1, .ref (be θ + x1)), (2, .int x2), (3, .int z3), (4, .int z4)]) rfl ?_
          refine g_goto (tgt := 40) X dX11_goSeeker_102 (by decide) ?_
          have hk := inl_hk h hk
          exact g_sub (lv' := [(0, .ref (be θ + 565)), (1, .ref (be θ + x1)), (2, .int x2), (3, .int z3), (4, .int z4), (5, .int (z5 + (1 : Int32)))]) [2, 3, 4, 5, 6, 0] rfl hk
      · replace h := (if_neg c10).symm.trans h
        refine g_goto (tgt := 99) X dX11_goSeeker_69 (by decide) ?_
        refine g_iinc X dX11_goSeeker_99 (kq := 5) rfl (congrArg (HAdd.hAdd _) ic_1) (by decide) (lv' := [(5, .int (z5 + (1 : Int32))), (0, .ref (be θ + 565)), (1, .ref (be θ + x1)), (2, .int x2), (3, .int z3), (4, .int z4)]) rfl ?_
        refine g_goto (tgt := 40) X dX11_goSeeker_102 (by decide) ?_
        have hk := inl_hk h hk
        exact g_sub (lv' := [(0, .ref (be θ + 565)), (1, .ref (be θ + x1)), (2, .int x2), (3, .int z3), (4, .int z4), (5, .int (z5 + (1 : Int32)))]) [1, 2, 3, 4, 5, 0] rfl hk
set_option maxHeartbeats 4000000 in
set_option maxRecDepth 20000 in
theorem gl_Model_goSeeker_L40 (X : Cx θ p s m args c cX11_goSeeker 7 RX11) (hr : meth.sig.returnType = none) (hlk : meth.locks = false)  {x1 : Nat} {x2 : Int32} {r : Mem} (h1 : kd x1 = 13) (n : Nat) (a : Mem × Int32 × Int32 × Int32) (b : Mem × Int32) (h : loopF (f_Model_goSeeker_L40 x1 x2) n a = some b) (hk : (fun ex => @Prod.casesOn (Mem) (Int32) (fun _ => Prop) ex fun τ w_3 => GB θ p l e 64 s m args below meth c 7 (none, r) 105 [(0, .ref (be θ + 565)), (1, .ref (be θ + x1)), (2, .int x2), (3, .int w_3)] [] τ) b) : (fun a => @Prod.casesOn (Mem) (Int32 × Int32 × Int32) (fun _ => Prop) a fun τ b0 => @Prod.casesOn (Int32) (Int32 × Int32) (fun _ => Prop) b0 fun z3 b1 => @Prod.casesOn (Int32) (Int32) (fun _ => Prop) b1 fun z4 z5 => GB θ p l e 64 s m args below meth c 7 (none, r) 40 [(0, .ref (be θ + 565)), (1, .ref (be θ + x1)), (2, .int x2), (3, .int z3), (4, .int z4), (5, .int z5)] [] τ) a :=
  loopF_by (P := (fun a => @Prod.casesOn (Mem) (Int32 × Int32 × Int32) (fun _ => Prop) a fun τ b0 => @Prod.casesOn (Int32) (Int32 × Int32) (fun _ => Prop) b0 fun z3 b1 => @Prod.casesOn (Int32) (Int32) (fun _ => Prop) b1 fun z4 z5 => GB θ p l e 64 s m args below meth c 7 (none, r) 40 [(0, .ref (be θ + 565)), (1, .ref (be θ + x1)), (2, .int x2), (3, .int z3), (4, .int z4), (5, .int z5)] [] τ)) (K := (fun ex => @Prod.casesOn (Mem) (Int32) (fun _ => Prop) ex fun τ w_3 => GB θ p l e 64 s m args below meth c 7 (none, r) 105 [(0, .ref (be θ + 565)), (1, .ref (be θ + x1)), (2, .int x2), (3, .int w_3)] [] τ)) (fun a x h hk => by obtain ⟨τ, z3, z4, z5⟩ := a; exact gs_Model_goSeeker_L40 X hr hlk  h1 τ z3 z4 z5 x h hk) n a b h hk
set_option maxHeartbeats 4000000 in
set_option maxRecDepth 20000 in
theorem g_Model_goSeeker (X : Cx θ p s m args c cX11_goSeeker 7 RX11) (hr : meth.sig.returnType = none) (hlk : meth.locks = false)  {σ : Mem} {x1 : Nat} {x2 : Int32} {r : Mem} (h1 : kd x1 = 13) (h : f_Model_goSeeker σ x1 x2 = some r) : GB θ p l e 64 s m args below meth c 7 (none, r) 0 [(0, .ref (be θ + 565)), (1, .ref (be θ + x1)), (2, .int x2)] [] σ := by
  unfold f_Model_goSeeker at h
  refine g_aload_n X dX11_goSeeker_0 rfl 0 rfl ?_
  refine g_aload_n X dX11_goSeeker_1 rfl 1 rfl ?_
  refine g_iload_n X dX11_goSeeker_2 rfl 2 rfl ?_
  obtain ⟨q1, hq1, h⟩ := Option.bind_eq_some_iff.mp h
  refine g_cV X (c_Model_holds h1 hq1) lk_RX11_361 my_X11_holds (a := 565) (ci := 11) kd_565 (by decide) rfl (As := [.ref (be θ + x1), .int x2]) (rest := []) rfl rfl (Nat.le_of_ble_eq_true rfl) ⟨(Nat.le_of_ble_eq_true rfl), (Nat.le_of_ble_eq_true rfl)⟩ ⟨(Nat.le_of_ble_eq_true rfl), (Nat.le_of_ble_eq_true rfl)⟩ dX11_goSeeker_3 (st' := [.int q1]) (σ' := σ) rfl rfl ?_
  refine g_iconst X dX11_goSeeker_6 (v := (-1 : Int32)) ic_m1 ?_
  refine g_icmp_ne (tgt := 31) X dX11_goSeeker_7 (by decide) (fun c2 => ?_) (fun c2 => ?_)
  · replace h := (if_neg c2).symm.trans h
    exact g_vret X hr hlk dX11_goSeeker_31 (by cases h; rfl)
  · replace h := (if_pos c2).symm.trans h
    refine g_aload_n X dX11_goSeeker_10 rfl 1 rfl ?_
    refine g_iload_n X dX11_goSeeker_11 rfl 2 rfl ?_
    obtain ⟨q3, hq3, h⟩ := Option.bind_eq_some_iff.mp h
    refine g_cS X (c_Model_dueOf h1 hq3) lk_RX11_382 my_X11_dueOf (As := [.ref (be θ + x1), .int x2]) (rest := []) rfl rfl (Nat.le_of_ble_eq_true rfl) ⟨(Nat.le_of_ble_eq_true rfl), (Nat.le_of_ble_eq_true rfl)⟩ ⟨(Nat.le_of_ble_eq_true rfl), (Nat.le_of_ble_eq_true rfl)⟩ dX11_goSeeker_12 (st' := [.int q3]) (σ' := σ) rfl rfl ?_
    refine g_bipush X dX11_goSeeker_15 (v := (6 : Int32)) bp_6 ?_
    refine g_aload_n X dX11_goSeeker_17 rfl 0 rfl ?_
    refine g_get X fl_RX11_49 dX11_goSeeker_18 kd_565 (v := .ref (be θ + 574)) rfl ?_
    refine g_iconst X dX11_goSeeker_21 (v := (4 : Int32)) ic_4 ?_
    refine g_iload_n X dX11_goSeeker_22 rfl 2 rfl ?_
    refine g_imul X dX11_goSeeker_23 ?_
    refine g_iconst X dX11_goSeeker_24 (v := (2 : Int32)) ic_2 ?_
    refine g_iadd X dX11_goSeeker_25 ?_
    obtain ⟨g4, h⟩ := ite_some h
    refine g_iald X kd_574 ln_574 (inb_in g4) dX11_goSeeker_26 ?_
    refine g_imul X dX11_goSeeker_27 ?_
    refine g_icmp_le (tgt := 32) X dX11_goSeeker_28 (by decide) (fun c5 => ?_) (fun c5 => ?_)
    · replace h := (if_pos c5).symm.trans h
      refine g_iconst X dX11_goSeeker_32 (v := (-1 : Int32)) ic_m1 ?_
      refine g_istore_n X dX11_goSeeker_33 rfl (by decide) (lv' := [(3, .int (-1 : Int32)), (0, .ref (be θ + 565)), (1, .ref (be θ + x1)), (2, .int x2)]) rfl ?_
      refine g_iconst X dX11_goSeeker_34 (v := (0 : Int32)) ic_0 ?_
      refine g_istore X dX11_goSeeker_35 (by decide) (lv' := [(4, .int (0 : Int32)), (3, .int (-1 : Int32)), (0, .ref (be θ + 565)), (1, .ref (be θ + x1)), (2, .int x2)]) rfl ?_
      refine g_iconst X dX11_goSeeker_37 (v := (0 : Int32)) ic_0 ?_
      refine g_istore X dX11_goSeeker_38 (by decide) (lv' := [(5, .int (0 : Int32)), (4, .int (0 : Int32)), (3, .int (-1 : Int32)), (0, .ref (be θ + 565)), (1, .ref (be θ + x1)), (2, .int x2)]) rfl ?_
      obtain ⟨q13, hq13, h⟩ := Option.bind_eq_some_iff.mp h
      refine g_sub (lv' := [(0, .ref (be θ + 565)), (1, .ref (be θ + x1)), (2, .int x2), (3, .int (-1 : Int32)), (4, .int (0 : Int32)), (5, .int (0 : Int32))]) [3, 4, 5, 2, 1, 0] rfl (gl_Model_goSeeker_L40 X hr hlk  h1  FU _ q13 hq13 ?_)
      obtain ⟨τ13, w13_3⟩ := q13
      dsimp only at h ⊢
      refine g_iload_n X dX11_goSeeker_105 rfl 3 rfl ?_
      refine g_iconst X dX11_goSeeker_106 (v := (-1 : Int32)) ic_m1 ?_
      refine g_icmp_ne (tgt := 111) X dX11_goSeeker_107 (by decide) (fun c14 => ?_) (fun c14 => ?_)
      · replace h := (if_neg c14).symm.trans h
        refine g_aload_n X dX11_goSeeker_111 rfl 1 rfl ?_
        refine g_iload_n X dX11_goSeeker_112 rfl 3 rfl ?_
        refine g_iload_n X dX11_goSeeker_113 rfl 2 rfl ?_
        obtain ⟨g15, h⟩ := ite_some h
        refine g_iast X h1 rfl (inb_in g15) dX11_goSeeker_114 ?_
        refine g_aload_n X dX11_goSeeker_115 rfl 1 rfl ?_
        refine g_bipush X dX11_goSeeker_116 (v := (16 : Int32)) bp_16 ?_
        refine g_iload_n X dX11_goSeeker_118 rfl 3 rfl ?_
        refine g_iadd X dX11_goSeeker_119 ?_
        refine g_iconst X dX11_goSeeker_120 (v := (0 : Int32)) ic_0 ?_
        obtain ⟨g16, h⟩ := ite_some h
        refine g_iast X h1 rfl (inb_in g16) dX11_goSeeker_121 ?_
        exact g_vret X hr hlk dX11_goSeeker_122 (by cases h; rfl)
      · replace h := (if_pos c14).symm.trans h
        exact g_vret X hr hlk dX11_goSeeker_110 (by cases h; rfl)
    · replace h := (if_neg c5).symm.trans h
      exact g_vret X hr hlk dX11_goSeeker_31 (by cases h; rfl)
set_option maxHeartbeats 4000000 in
set_option maxRecDepth 20000 in
theorem c_Model_goSeeker {θ : Th} {l : Launch} {σ : Mem} {x1 : Nat} {x2 : Int32} {r : Mem} (h1 : kd x1 = 13) (h : f_Model_goSeeker σ x1 x2 = some r) : Cn θ l yX11_goSeeker cX11_goSeeker 7 (none) 64 0 0 [.ref (be θ + 565), .ref (be θ + x1), .int x2] σ (none, r) :=
  Cn.of (by decide) (Nat.le_of_ble_eq_true rfl) (fun p e s m below meth c X hr hlk => g_Model_goSeeker X hr hlk h1 h)
theorem dX11_paysAll_0 : decode cX11_paysAll 0 = .ok (.iconst 0, 1) := by decide +kernel
theorem dX11_paysAll_1 : decode cX11_paysAll 1 = .ok (.istore_n 2, 1) := by decide +kernel
theorem dX11_paysAll_2 : decode cX11_paysAll 2 = .ok (.iload_n 2, 1) := by decide +kernel
theorem dX11_paysAll_3 : decode cX11_paysAll 3 = .ok (.aload_n 0, 1) := by decide +kernel
theorem dX11_paysAll_4 : decode cX11_paysAll 4 = .ok (.getfield 310, 3) := by decide +kernel
theorem dX11_paysAll_7 : decode cX11_paysAll 7 = .ok (.if_icmp .ge 52, 3) := by decide +kernel
theorem dX11_paysAll_10 : decode cX11_paysAll 10 = .ok (.aload_n 1, 1) := by decide +kernel
theorem dX11_paysAll_11 : decode cX11_paysAll 11 = .ok (.bipush 24, 2) := by decide +kernel
theorem dX11_paysAll_13 : decode cX11_paysAll 13 = .ok (.iload_n 2, 1) := by decide +kernel
theorem dX11_paysAll_14 : decode cX11_paysAll 14 = .ok (.iadd, 1) := by decide +kernel
theorem dX11_paysAll_15 : decode cX11_paysAll 15 = .ok (.iaload, 1) := by decide +kernel
theorem dX11_paysAll_16 : decode cX11_paysAll 16 = .ok (.aload_n 1, 1) := by decide +kernel
theorem dX11_paysAll_17 : decode cX11_paysAll 17 = .ok (.iload_n 2, 1) := by decide +kernel
theorem dX11_paysAll_18 : decode cX11_paysAll 18 = .ok (.invokestatic 382, 3) := by decide +kernel
theorem dX11_paysAll_21 : decode cX11_paysAll 21 = .ok (.invokestatic 347, 3) := by decide +kernel
theorem dX11_paysAll_24 : decode cX11_paysAll 24 = .ok (.istore_n 3, 1) := by decide +kernel
theorem dX11_paysAll_25 : decode cX11_paysAll 25 = .ok (.aload_n 1, 1) := by decide +kernel
theorem dX11_paysAll_26 : decode cX11_paysAll 26 = .ok (.bipush 24, 2) := by decide +kernel
theorem dX11_paysAll_28 : decode cX11_paysAll 28 = .ok (.iload_n 2, 1) := by decide +kernel
theorem dX11_paysAll_29 : decode cX11_paysAll 29 = .ok (.iadd, 1) := by decide +kernel
theorem dX11_paysAll_30 : decode cX11_paysAll 30 = .ok (.dup2, 1) := by decide +kernel
theorem dX11_paysAll_31 : decode cX11_paysAll 31 = .ok (.iaload, 1) := by decide +kernel
theorem dX11_paysAll_32 : decode cX11_paysAll 32 = .ok (.iload_n 3, 1) := by decide +kernel
theorem dX11_paysAll_33 : decode cX11_paysAll 33 = .ok (.isub, 1) := by decide +kernel
theorem dX11_paysAll_34 : decode cX11_paysAll 34 = .ok (.iastore, 1) := by decide +kernel
theorem dX11_paysAll_35 : decode cX11_paysAll 35 = .ok (.aload_n 1, 1) := by decide +kernel
theorem dX11_paysAll_36 : decode cX11_paysAll 36 = .ok (.sipush 129, 3) := by decide +kernel
theorem dX11_paysAll_39 : decode cX11_paysAll 39 = .ok (.sipush 9999, 3) := by decide +kernel
theorem dX11_paysAll_42 : decode cX11_paysAll 42 = .ok (.aload_n 1, 1) := by decide +kernel
theorem dX11_paysAll_43 : decode cX11_paysAll 43 = .ok (.sipush 129, 3) := by decide +kernel
theorem dX11_paysAll_46 : decode cX11_paysAll 46 = .ok (.iaload, 1) := by decide +kernel
theorem dX11_paysAll_47 : decode cX11_paysAll 47 = .ok (.iload_n 3, 1) := by decide +kernel
theorem dX11_paysAll_48 : decode cX11_paysAll 48 = .ok (.iadd, 1) := by decide +kernel
theorem dX11_paysAll_49 : decode cX11_paysAll 49 = .ok (.invokestatic 347, 3) := by decide +kernel
theorem dX11_paysAll_52 : decode cX11_paysAll 52 = .ok (.iastore, 1) := by decide +kernel
theorem dX11_paysAll_53 : decode cX11_paysAll 53 = .ok (.iinc 2 1, 3) := by decide +kernel
theorem dX11_paysAll_56 : decode cX11_paysAll 56 = .ok (.goto (-54), 3) := by decide +kernel
theorem dX11_paysAll_59 : decode cX11_paysAll 59 = .ok (.aload_n 1, 1) := by decide +kernel
theorem dX11_paysAll_60 : decode cX11_paysAll 60 = .ok (.bipush 126, 2) := by decide +kernel
theorem dX11_paysAll_62 : decode cX11_paysAll 62 = .ok (.iconst 0, 1) := by decide +kernel
theorem dX11_paysAll_63 : decode cX11_paysAll 63 = .ok (.iastore, 1) := by decide +kernel
theorem dX11_paysAll_64 : decode cX11_paysAll 64 = .ok (.iconst 0, 1) := by decide +kernel
theorem dX11_paysAll_65 : decode cX11_paysAll 65 = .ok (.istore_n 2, 1) := by decide +kernel
theorem dX11_paysAll_66 : decode cX11_paysAll 66 = .ok (.iload_n 2, 1) := by decide +kernel
theorem dX11_paysAll_67 : decode cX11_paysAll 67 = .ok (.aload_n 0, 1) := by decide +kernel
theorem dX11_paysAll_68 : decode cX11_paysAll 68 = .ok (.getfield 310, 3) := by decide +kernel
theorem dX11_paysAll_71 : decode cX11_paysAll 71 = .ok (.if_icmp .ge 34, 3) := by decide +kernel
theorem dX11_paysAll_74 : decode cX11_paysAll 74 = .ok (.aload_n 1, 1) := by decide +kernel
theorem dX11_paysAll_75 : decode cX11_paysAll 75 = .ok (.bipush 24, 2) := by decide +kernel
theorem dX11_paysAll_77 : decode cX11_paysAll 77 = .ok (.iload_n 2, 1) := by decide +kernel
theorem dX11_paysAll_78 : decode cX11_paysAll 78 = .ok (.iadd, 1) := by decide +kernel
theorem dX11_paysAll_79 : decode cX11_paysAll 79 = .ok (.sipush 999, 3) := by decide +kernel
theorem dX11_paysAll_82 : decode cX11_paysAll 82 = .ok (.aload_n 1, 1) := by decide +kernel
theorem dX11_paysAll_83 : decode cX11_paysAll 83 = .ok (.bipush 24, 2) := by decide +kernel
theorem dX11_paysAll_85 : decode cX11_paysAll 85 = .ok (.iload_n 2, 1) := by decide +kernel
theorem dX11_paysAll_86 : decode cX11_paysAll 86 = .ok (.iadd, 1) := by decide +kernel
theorem dX11_paysAll_87 : decode cX11_paysAll 87 = .ok (.iaload, 1) := by decide +kernel
theorem dX11_paysAll_88 : decode cX11_paysAll 88 = .ok (.aload_n 0, 1) := by decide +kernel
theorem dX11_paysAll_89 : decode cX11_paysAll 89 = .ok (.getfield 37, 3) := by decide +kernel
theorem dX11_paysAll_92 : decode cX11_paysAll 92 = .ok (.iconst 3, 1) := by decide +kernel
theorem dX11_paysAll_93 : decode cX11_paysAll 93 = .ok (.iaload, 1) := by decide +kernel
theorem dX11_paysAll_94 : decode cX11_paysAll 94 = .ok (.iadd, 1) := by decide +kernel
theorem dX11_paysAll_95 : decode cX11_paysAll 95 = .ok (.invokestatic 347, 3) := by decide +kernel
theorem dX11_paysAll_98 : decode cX11_paysAll 98 = .ok (.iastore, 1) := by decide +kernel
theorem dX11_paysAll_99 : decode cX11_paysAll 99 = .ok (.iinc 2 1, 3) := by decide +kernel
theorem dX11_paysAll_102 : decode cX11_paysAll 102 = .ok (.goto (-36), 3) := by decide +kernel
theorem dX11_paysAll_105 : decode cX11_paysAll 105 = .ok (.return_, 1) := by decide +kernel
def f_Model_paysAll_L2 (x1 : Nat) (a : Mem × Int32) : Option ((Mem × Int32) ⊕ (Mem)) :=
  @Prod.casesOn (Mem) (Int32) (fun _ => Option ((Mem × Int32) ⊕ (Mem))) a fun τ z2 =>
  if (mI τ 565 27) ≤ z2 then
    some (.inr τ)
  else
    if inb ((24 : Int32) + z2) (ln x1) then
      (f_Model_dueOf τ x1 z2).bind fun q3 =>
      if inb (129 : Int32) (ln x1) then
        some (.inl ((sI (sI τ x1 ((24 : Int32) + z2).toNatClampNeg ((mI τ x1 ((24 : Int32) + z2).toNatClampNeg) - (imin (mI τ x1 ((24 : Int32) + z2).toNatClampNeg) q3))) x1 (129 : Int32).toNatClampNeg (imin (9999 : Int32) ((mI (sI τ x1 ((24 : Int32) + z2).toNatClampNeg ((mI τ x1 ((24 : Int32) + z2).toNatClampNeg) - (imin (mI τ x1 ((24 : Int32) + z2).toNatClampNeg) q3))) x1 (129 : Int32).toNatClampNeg) + (imin (mI τ x1 ((24 : Int32) + z2).toNatClampNeg) q3)))), (z2 + (1 : Int32))))
      else none
    else none
def f_Model_paysAll_L66 (x1 : Nat) (a : Mem × Int32) : Option ((Mem × Int32) ⊕ (Mem)) :=
  @Prod.casesOn (Mem) (Int32) (fun _ => Option ((Mem × Int32) ⊕ (Mem))) a fun τ z2 =>
  if (mI τ 565 27) ≤ z2 then
    some (.inr τ)
  else
    if inb ((24 : Int32) + z2) (ln x1) then
      some (.inl ((sI τ x1 ((24 : Int32) + z2).toNatClampNeg (imin (999 : Int32) ((mI τ x1 ((24 : Int32) + z2).toNatClampNeg) + (mI τ 570 (3 : Int32).toNatClampNeg)))), (z2 + (1 : Int32))))
    else none
def f_Model_paysAll (σ : Mem) (x1 : Nat) : Option (Mem) :=
  (loopF (f_Model_paysAll_L2 x1) FU (σ, (0 : Int32))).bind fun w5 =>
  if inb (126 : Int32) (ln x1) then
    loopF (f_Model_paysAll_L66 x1) FU ((sI w5 x1 (126 : Int32).toNatClampNeg (0 : Int32)), (0 : Int32))
  else none
set_option maxHeartbeats 4000000 in
set_option maxRecDepth 20000 in
theorem gs_Model_paysAll_L2 (X : Cx θ p s m args c cX11_paysAll 4 RX11) (hr : meth.sig.returnType = none) (hlk : meth.locks = false)  {x1 : Nat} {r : Mem} (h1 : kd x1 = 13) (τ : Mem) (z2 : Int32) (x : (Mem × Int32) ⊕ (Mem)) (h : f_Model_paysAll_L2 x1 (τ, z2) = some x) (hk : Sum.elim (fun a => @Prod.casesOn (Mem) (Int32) (fun _ => Prop) a fun τ z2 => GB θ p l e 1 s m args below meth c 4 (none, r) 2 [(0, .ref (be θ + 565)), (1, .ref (be θ + x1)), (2, .int z2)] [] τ) (fun w => GB θ p l e 1 s m args below meth c 4 (none, r) 59 [(0, .ref (be θ + 565)), (1, .ref (be θ + x1))] [] w) x) : GB θ p l e 1 s m args below meth c 4 (none, r) 2 [(0, .ref (be θ + 565)), (1, .ref (be θ + x1)), (2, .int z2)] [] τ := by
  unfold f_Model_paysAll_L2 at h
  dsimp only at h
  refine g_iload_n X dX11_paysAll_2 rfl 2 rfl ?_
  refine g_aload_n X dX11_paysAll_3 rfl 0 rfl ?_
  refine g_get X fl_RX11_310 dX11_paysAll_4 kd_565 (v := .int (mI τ 565 27)) rfl ?_
  refine g_icmp_ge (tgt := 59) X dX11_paysAll_7 (by decide) (fun c1 => ?_) (fun c1 => ?_)
  · replace h := (if_pos c1).symm.trans h
    have hk := inr_hk h hk
    exact g_sub (lv' := [(0, .ref (be θ + 565)), (1, .ref (be θ + x1))]) [0, 1] rfl hk
  · replace h := (if_neg c1).symm.trans h
    refine g_aload_n X dX11_paysAll_10 rfl 1 rfl ?_
    refine g_bipush X dX11_paysAll_11 (v := (24 : Int32)) bp_24 ?_
    refine g_iload_n X dX11_paysAll_13 rfl 2 rfl ?_
    refine g_iadd X dX11_paysAll_14 ?_
    obtain ⟨g2, h⟩ := ite_some h
    refine g_iald X h1 rfl (inb_in g2) dX11_paysAll_15 ?_
    refine g_aload_n X dX11_paysAll_16 rfl 1 rfl ?_
    refine g_iload_n X dX11_paysAll_17 rfl 2 rfl ?_
    obtain ⟨q3, hq3, h⟩ := Option.bind_eq_some_iff.mp h
    refine g_cS X (c_Model_dueOf h1 hq3) lk_RX11_382 my_X11_dueOf (As := [.ref (be θ + x1), .int z2]) (rest := [.int (mI τ x1 ((24 : Int32) + z2).toNatClampNeg)]) rfl rfl (Nat.le_of_ble_eq_true rfl) ⟨(Nat.le_of_ble_eq_true rfl), (Nat.le_of_ble_eq_true rfl)⟩ ⟨(Nat.le_of_ble_eq_true rfl), (Nat.le_of_ble_eq_true rfl)⟩ dX11_paysAll_18 (st' := [.int q3, .int (mI τ x1 ((24 : Int32) + z2).toNatClampNeg)]) (σ' := τ) rfl rfl ?_
    refine g_min X lm_RX11_347 ⟨(Nat.le_of_ble_eq_true rfl), (Nat.le_of_ble_eq_true rfl)⟩ ⟨(Nat.le_of_ble_eq_true rfl), (Nat.le_of_ble_eq_true rfl)⟩ dX11_paysAll_21 ?_
    refine g_istore_n X dX11_paysAll_24 rfl (by decide) (lv' := [(3, .int (imin (mI τ x1 ((24 : Int32) + z2).toNatClampNeg) q3)), (0, .ref (be θ + 565)), (1, .ref (be θ + x1)), (2, .int z2)]) rfl ?_
    refine g_aload_n X dX11_paysAll_25 rfl 2 rfl ?_
    refine g_bipush X dX11_paysAll_26 (v := (24 : Int32)) bp_24 ?_
    refine g_iload_n X dX11_paysAll_28 rfl 3 rfl ?_
    refine g_iadd X dX11_paysAll_29 ?_
    refine g_dup2 X dX11_paysAll_30 rfl rfl ?_
    refine g_iald X h1 rfl (inb_in g2) dX11_paysAll_31 ?_
    refine g_iload_n X dX11_paysAll_32 rfl 0 rfl ?_
    refine g_isub X dX11_paysAll_33 ?_
    refine g_iast X h1 rfl (inb_in g2) dX11_paysAll_34 ?_
    refine g_aload_n X dX11_paysAll_35 rfl 2 rfl ?_
    refine g_sipush X dX11_paysAll_36 (v := (129 : Int32)) sp_129 ?_
    refine g_sipush X dX11_paysAll_39 (v := (9999 : Int32)) sp_9999 ?_
    refine g_aload_n X dX11_paysAll_42 rfl 2 rfl ?_
    refine g_sipush X dX11_paysAll_43 (v := (129 : Int32)) sp_129 ?_
    obtain ⟨g4, h⟩ := ite_some h
    refine g_iald X h1 rfl (inb_in g4) dX11_paysAll_46 ?_
    refine g_iload_n X dX11_paysAll_47 rfl 0 rfl ?_
    refine g_iadd X dX11_paysAll_48 ?_
    refine g_min X lm_RX11_347 ⟨(Nat.le_of_ble_eq_true rfl), (Nat.le_of_ble_eq_true rfl)⟩ ⟨(Nat.le_of_ble_eq_true rfl), (Nat.le_of_ble_eq_true rfl)⟩ dX11_paysAll_49 ?_
    refine g_iast X h1 rfl (inb_in g4) dX11_paysAll_52 ?_
    refine g_iinc X dX11_paysAll_53 (kq := 3) rfl (congrArg (HAdd.hAdd _) ic_1) (by decide) (lv' := [(2, .int (z2 + (1 : Int32))), (3, .int (imin (mI τ x1 ((24 : Int32) + z2).toNatClampNeg) q3)), (0, .ref (be θ + 565)), (1, .ref (be θ + x1))]) rfl ?_
    refine g_goto (tgt := 2) X dX11_paysAll_56 (by decide) ?_
    have hk := inl_hk h hk
    exact g_sub (lv' := [(0, .ref (be θ + 565)), (1, .ref (be θ + x1)), (2, .int (z2 + (1 : Int32)))]) [2, 3, 0] rfl hk
set_option maxHeartbeats 4000000 in
set_option maxRecDepth 20000 in
theorem gl_Model_paysAll_L2 (X : Cx θ p s m args c cX11_paysAll 4 RX11) (hr : meth.sig.returnType = none) (hlk : meth.locks = false)  {x1 : Nat} {r : Mem} (h1 : kd x1 = 13) (n : Nat) (a : Mem × Int32) (b : Mem) (h : loopF (f_Model_paysAll_L2 x1) n a = some b) (hk : (fun w => GB θ p l e 1 s m args below meth c 4 (none, r) 59 [(0, .ref (be θ + 565)), (1, .ref (be θ + x1))] [] w) b) : (fun a => @Prod.casesOn (Mem) (Int32) (fun _ => Prop) a fun τ z2 => GB θ p l e 1 s m args below meth c 4 (none, r) 2 [(0, .ref (be θ + 565)), (1, .ref (be θ + x1)), (2, .int z2)] [] τ) a :=
  loopF_by (P := (fun a => @Prod.casesOn (Mem) (Int32) (fun _ => Prop) a fun τ z2 => GB θ p l e 1 s m args below meth c 4 (none, r) 2 [(0, .ref (be θ + 565)), (1, .ref (be θ + x1)), (2, .int z2)] [] τ)) (K := (fun w => GB θ p l e 1 s m args below meth c 4 (none, r) 59 [(0, .ref (be θ + 565)), (1, .ref (be θ + x1))] [] w)) (fun a x h hk => by obtain ⟨τ, z2⟩ := a; exact gs_Model_paysAll_L2 X hr hlk  h1 τ z2 x h hk) n a b h hk
set_option maxHeartbeats 4000000 in
set_option maxRecDepth 20000 in
theorem gs_Model_paysAll_L66 (X : Cx θ p s m args c cX11_paysAll 4 RX11) (hr : meth.sig.returnType = none) (hlk : meth.locks = false)  {x1 : Nat} {r : Mem} (h1 : kd x1 = 13) (τ : Mem) (z2 : Int32) (x : (Mem × Int32) ⊕ (Mem)) (h : f_Model_paysAll_L66 x1 (τ, z2) = some x) (hk : Sum.elim (fun a => @Prod.casesOn (Mem) (Int32) (fun _ => Prop) a fun τ z2 => GB θ p l e 1 s m args below meth c 4 (none, r) 66 [(0, .ref (be θ + 565)), (1, .ref (be θ + x1)), (2, .int z2)] [] τ) (fun b => b = r) x) : GB θ p l e 1 s m args below meth c 4 (none, r) 66 [(0, .ref (be θ + 565)), (1, .ref (be θ + x1)), (2, .int z2)] [] τ := by
  unfold f_Model_paysAll_L66 at h
  dsimp only at h
  refine g_iload_n X dX11_paysAll_66 rfl 2 rfl ?_
  refine g_aload_n X dX11_paysAll_67 rfl 0 rfl ?_
  refine g_get X fl_RX11_310 dX11_paysAll_68 kd_565 (v := .int (mI τ 565 27)) rfl ?_
  refine g_icmp_ge (tgt := 105) X dX11_paysAll_71 (by decide) (fun c7 => ?_) (fun c7 => ?_)
  · replace h := (if_pos c7).symm.trans h
    have hk := inr_hk h hk
    have hk : τ = r := hk
    subst hk
    exact g_vret X hr hlk dX11_paysAll_105 rfl
  · replace h := (if_neg c7).symm.trans h
    refine g_aload_n X dX11_paysAll_74 rfl 1 rfl ?_
    refine g_bipush X dX11_paysAll_75 (v := (24 : Int32)) bp_24 ?_
    refine g_iload_n X dX11_paysAll_77 rfl 2 rfl ?_
    refine g_iadd X dX11_paysAll_78 ?_
    refine g_sipush X dX11_paysAll_79 (v := (999 : Int32)) sp_999 ?_
    refine g_aload_n X dX11_paysAll_82 rfl 1 rfl ?_
    refine g_bipush X dX11_paysAll_83 (v := (24 : Int32)) bp_24 ?_
    refine g_iload_n X dX11_paysAll_85 rfl 2 rfl ?_
    refine g_iadd X dX11_paysAll_86 ?_
    obtain ⟨g8, h⟩ := ite_some h
    refine g_iald X h1 rfl (inb_in g8) dX11_paysAll_87 ?_
    refine g_aload_n X dX11_paysAll_88 rfl 0 rfl ?_
    refine g_get X fl_RX11_37 dX11_paysAll_89 kd_565 (v := .ref (be θ + 570)) rfl ?_
    refine g_iconst X dX11_paysAll_92 (v := (3 : Int32)) ic_3 ?_
    refine g_iald X kd_570 ln_570 (inb_in (show inb (3 : Int32) 4 = true by decide)) dX11_paysAll_93 ?_
    refine g_iadd X dX11_paysAll_94 ?_
    refine g_min X lm_RX11_347 ⟨(Nat.le_of_ble_eq_true rfl), (Nat.le_of_ble_eq_true rfl)⟩ ⟨(Nat.le_of_ble_eq_true rfl), (Nat.le_of_ble_eq_true rfl)⟩ dX11_paysAll_95 ?_
    refine g_iast X h1 rfl (inb_in g8) dX11_paysAll_98 ?_
    refine g_iinc X dX11_paysAll_99 (kq := 2) rfl (congrArg (HAdd.hAdd _) ic_1) (by decide) (lv' := [(2, .int (z2 + (1 : Int32))), (0, .ref (be θ + 565)), (1, .ref (be θ + x1))]) rfl ?_
    refine g_goto (tgt := 66) X dX11_paysAll_102 (by decide) ?_
    have hk := inl_hk h hk
    exact g_sub (lv' := [(0, .ref (be θ + 565)), (1, .ref (be θ + x1)), (2, .int (z2 + (1 : Int32)))]) [1, 2, 0] rfl hk
set_option maxHeartbeats 4000000 in
set_option maxRecDepth 20000 in
theorem gl_Model_paysAll_L66 (X : Cx θ p s m args c cX11_paysAll 4 RX11) (hr : meth.sig.returnType = none) (hlk : meth.locks = false)  {x1 : Nat} {r : Mem} (h1 : kd x1 = 13) (n : Nat) (a : Mem × Int32) (b : Mem) (h : loopF (f_Model_paysAll_L66 x1) n a = some b) (hk : (fun b => b = r) b) : (fun a => @Prod.casesOn (Mem) (Int32) (fun _ => Prop) a fun τ z2 => GB θ p l e 1 s m args below meth c 4 (none, r) 66 [(0, .ref (be θ + 565)), (1, .ref (be θ + x1)), (2, .int z2)] [] τ) a :=
  loopF_by (P := (fun a => @Prod.casesOn (Mem) (Int32) (fun _ => Prop) a fun τ z2 => GB θ p l e 1 s m args below meth c 4 (none, r) 66 [(0, .ref (be θ + 565)), (1, .ref (be θ + x1)), (2, .int z2)] [] τ)) (K := (fun b => b = r)) (fun a x h hk => by obtain ⟨τ, z2⟩ := a; exact gs_Model_paysAll_L66 X hr hlk  h1 τ z2 x h hk) n a b h hk
set_option maxHeartbeats 4000000 in
set_option maxRecDepth 20000 in
theorem g_Model_paysAll (X : Cx θ p s m args c cX11_paysAll 4 RX11) (hr : meth.sig.returnType = none) (hlk : meth.locks = false)  {σ : Mem} {x1 : Nat} {r : Mem} (h1 : kd x1 = 13) (h : f_Model_paysAll σ x1 = some r) : GB θ p l e 1 s m args below meth c 4 (none, r) 0 [(0, .ref (be θ + 565)), (1, .ref (be θ + x1))] [] σ := by
  unfold f_Model_paysAll at h
  refine g_iconst X dX11_paysAll_0 (v := (0 : Int32)) ic_0 ?_
  refine g_istore_n X dX11_paysAll_1 rfl (by decide) (lv' := [(2, .int (0 : Int32)), (0, .ref (be θ + 565)), (1, .ref (be θ + x1))]) rfl ?_
  obtain ⟨w5, hq5, h⟩ := Option.bind_eq_some_iff.mp h
  refine g_sub (lv' := [(0, .ref (be θ + 565)), (1, .ref (be θ + x1)), (2, .int (0 : Int32))]) [1, 2, 0] rfl (gl_Model_paysAll_L2 X hr hlk  h1  FU _ w5 hq5 ?_)
  refine g_aload_n X dX11_paysAll_59 rfl 1 rfl ?_
  refine g_bipush X dX11_paysAll_60 (v := (126 : Int32)) bp_126 ?_
  refine g_iconst X dX11_paysAll_62 (v := (0 : Int32)) ic_0 ?_
  obtain ⟨g6, h⟩ := ite_some h
  refine g_iast X h1 rfl (inb_in g6) dX11_paysAll_63 ?_
  refine g_iconst X dX11_paysAll_64 (v := (0 : Int32)) ic_0 ?_
  refine g_istore_n X dX11_paysAll_65 rfl (by decide) (lv' := [(2, .int (0 : Int32)), (0, .ref (be θ + 565)), (1, .ref (be θ + x1))]) rfl ?_
  exact g_sub (lv' := [(0, .ref (be θ + 565)), (1, .ref (be θ + x1)), (2, .int (0 : Int32))]) [1, 2, 0] rfl (gl_Model_paysAll_L66 X hr hlk  h1  FU _ _ h rfl)
set_option maxHeartbeats 4000000 in
set_option maxRecDepth 20000 in
theorem c_Model_paysAll {θ : Th} {l : Launch} {σ : Mem} {x1 : Nat} {r : Mem} (h1 : kd x1 = 13) (h : f_Model_paysAll σ x1 = some r) : Cn θ l yX11_paysAll cX11_paysAll 4 (none) 1 0 0 [.ref (be θ + 565), .ref (be θ + x1)] σ (none, r) :=
  Cn.of (by decide) (Nat.le_of_ble_eq_true rfl) (fun p e s m below meth c X hr hlk => g_Model_paysAll X hr hlk h1 h)
theorem dX11_passes_0 : decode cX11_passes 0 = .ok (.iconst 0, 1) := by decide +kernel
theorem dX11_passes_1 : decode cX11_passes 1 = .ok (.istore_n 2, 1) := by decide +kernel
theorem dX11_passes_2 : decode cX11_passes 2 = .ok (.iload_n 2, 1) := by decide +kernel
theorem dX11_passes_3 : decode cX11_passes 3 = .ok (.aload_n 0, 1) := by decide +kernel
theorem dX11_passes_4 : decode cX11_passes 4 = .ok (.getfield 310, 3) := by decide +kernel
theorem dX11_passes_7 : decode cX11_passes 7 = .ok (.if_icmp .ge 15, 3) := by decide +kernel
theorem dX11_passes_10 : decode cX11_passes 10 = .ok (.aload_n 0, 1) := by decide +kernel
theorem dX11_passes_11 : decode cX11_passes 11 = .ok (.aload_n 1, 1) := by decide +kernel
theorem dX11_passes_12 : decode cX11_passes 12 = .ok (.iload_n 2, 1) := by decide +kernel
theorem dX11_passes_13 : decode cX11_passes 13 = .ok (.invokevirtual 393, 3) := by decide +kernel
theorem dX11_passes_16 : decode cX11_passes 16 = .ok (.iinc 2 1, 3) := by decide +kernel
theorem dX11_passes_19 : decode cX11_passes 19 = .ok (.goto (-17), 3) := by decide +kernel
theorem dX11_passes_22 : decode cX11_passes 22 = .ok (.iconst 0, 1) := by decide +kernel
theorem dX11_passes_23 : decode cX11_passes 23 = .ok (.istore_n 2, 1) := by decide +kernel
theorem dX11_passes_24 : decode cX11_passes 24 = .ok (.iload_n 2, 1) := by decide +kernel
theorem dX11_passes_25 : decode cX11_passes 25 = .ok (.aload_n 0, 1) := by decide +kernel
theorem dX11_passes_26 : decode cX11_passes 26 = .ok (.getfield 310, 3) := by decide +kernel
theorem dX11_passes_29 : decode cX11_passes 29 = .ok (.if_icmp .ge 15, 3) := by decide +kernel
theorem dX11_passes_32 : decode cX11_passes 32 = .ok (.aload_n 0, 1) := by decide +kernel
theorem dX11_passes_33 : decode cX11_passes 33 = .ok (.aload_n 1, 1) := by decide +kernel
theorem dX11_passes_34 : decode cX11_passes 34 = .ok (.iload_n 2, 1) := by decide +kernel
theorem dX11_passes_35 : decode cX11_passes 35 = .ok (.invokevirtual 396, 3) := by decide +kernel
theorem dX11_passes_38 : decode cX11_passes 38 = .ok (.iinc 2 1, 3) := by decide +kernel
theorem dX11_passes_41 : decode cX11_passes 41 = .ok (.goto (-17), 3) := by decide +kernel
theorem dX11_passes_44 : decode cX11_passes 44 = .ok (.aload_n 1, 1) := by decide +kernel
theorem dX11_passes_45 : decode cX11_passes 45 = .ok (.sipush 130, 3) := by decide +kernel
theorem dX11_passes_48 : decode cX11_passes 48 = .ok (.dup2, 1) := by decide +kernel
theorem dX11_passes_49 : decode cX11_passes 49 = .ok (.iaload, 1) := by decide +kernel
theorem dX11_passes_50 : decode cX11_passes 50 = .ok (.iconst 1, 1) := by decide +kernel
theorem dX11_passes_51 : decode cX11_passes 51 = .ok (.iadd, 1) := by decide +kernel
theorem dX11_passes_52 : decode cX11_passes 52 = .ok (.iastore, 1) := by decide +kernel
theorem dX11_passes_53 : decode cX11_passes 53 = .ok (.aload_n 1, 1) := by decide +kernel
theorem dX11_passes_54 : decode cX11_passes 54 = .ok (.sipush 130, 3) := by decide +kernel
theorem dX11_passes_57 : decode cX11_passes 57 = .ok (.iaload, 1) := by decide +kernel
theorem dX11_passes_58 : decode cX11_passes 58 = .ok (.aload_n 0, 1) := by decide +kernel
theorem dX11_passes_59 : decode cX11_passes 59 = .ok (.getfield 37, 3) := by decide +kernel
theorem dX11_passes_62 : decode cX11_passes 62 = .ok (.iconst 2, 1) := by decide +kernel
theorem dX11_passes_63 : decode cX11_passes 63 = .ok (.iaload, 1) := by decide +kernel
theorem dX11_passes_64 : decode cX11_passes 64 = .ok (.irem, 1) := by decide +kernel
theorem dX11_passes_65 : decode cX11_passes 65 = .ok (.ifCond .ne 8, 3) := by decide +kernel
theorem dX11_passes_68 : decode cX11_passes 68 = .ok (.aload_n 0, 1) := by decide +kernel
theorem dX11_passes_69 : decode cX11_passes 69 = .ok (.aload_n 1, 1) := by decide +kernel
theorem dX11_passes_70 : decode cX11_passes 70 = .ok (.invokevirtual 399, 3) := by decide +kernel
theorem dX11_passes_73 : decode cX11_passes 73 = .ok (.return_, 1) := by decide +kernel
def f_Model_passes_L2 (x1 : Nat) (a : Mem × Int32) : Option ((Mem × Int32) ⊕ (Mem)) :=
  @Prod.casesOn (Mem) (Int32) (fun _ => Option ((Mem × Int32) ⊕ (Mem))) a fun τ z2 =>
  if (mI τ 565 27) ≤ z2 then
    some (.inr τ)
  else
    (f_Model_goHolder τ x1 z2).bind fun q2 =>
    some (.inl (q2, (z2 + (1 : Int32))))
def f_Model_passes_L24 (x1 : Nat) (a : Mem × Int32) : Option ((Mem × Int32) ⊕ (Mem)) :=
  @Prod.casesOn (Mem) (Int32) (fun _ => Option ((Mem × Int32) ⊕ (Mem))) a fun τ z2 =>
  if (mI τ 565 27) ≤ z2 then
    some (.inr τ)
  else
    (f_Model_goSeeker τ x1 z2).bind fun q5 =>
    some (.inl (q5, (z2 + (1 : Int32))))
def f_Model_passes (σ : Mem) (x1 : Nat) : Option (Mem) :=
  (loopF (f_Model_passes_L2 x1) FU (σ, (0 : Int32))).bind fun w3 =>
  (loopF (f_Model_passes_L24 x1) FU (w3, (0 : Int32))).bind fun w6 =>
  if inb (130 : Int32) (ln x1) then
    if (mI (sI w6 x1 (130 : Int32).toNatClampNeg ((mI w6 x1 (130 : Int32).toNatClampNeg) + (1 : Int32))) 570 (2 : Int32).toNatClampNeg) = 0 then none else
    if ((mI (sI w6 x1 (130 : Int32).toNatClampNeg ((mI w6 x1 (130 : Int32).toNatClampNeg) + (1 : Int32))) x1 (130 : Int32).toNatClampNeg) - (mI (sI w6 x1 (130 : Int32).toNatClampNeg ((mI w6 x1 (130 : Int32).toNatClampNeg) + (1 : Int32))) x1 (130 : Int32).toNatClampNeg) / (mI (sI w6 x1 (130 : Int32).toNatClampNeg ((mI w6 x1 (130 : Int32).toNatClampNeg) + (1 : Int32))) 570 (2 : Int32).toNatClampNeg) * (mI (sI w6 x1 (130 : Int32).toNatClampNeg ((mI w6 x1 (130 : Int32).toNatClampNeg) + (1 : Int32))) 570 (2 : Int32).toNatClampNeg)) = (0 : Int32) then
      (f_Model_paysAll (sI w6 x1 (130 : Int32).toNatClampNeg ((mI w6 x1 (130 : Int32).toNatClampNeg) + (1 : Int32))) x1).bind fun q10 =>
      some q10
    else
      some (sI w6 x1 (130 : Int32).toNatClampNeg ((mI w6 x1 (130 : Int32).toNatClampNeg) + (1 : Int32)))
  else none
set_option maxHeartbeats 4000000 in
set_option maxRecDepth 20000 in
theorem gs_Model_passes_L2 (X : Cx θ p s m args c cX11_passes 3 RX11) (hr : meth.sig.returnType = none) (hlk : meth.locks = false)  {x1 : Nat} {r : Mem} (h1 : kd x1 = 13) (τ : Mem) (z2 : Int32) (x : (Mem × Int32) ⊕ (Mem)) (h : f_Model_passes_L2 x1 (τ, z2) = some x) (hk : Sum.elim (fun a => @Prod.casesOn (Mem) (Int32) (fun _ => Prop) a fun τ z2 => GB θ p l e 65 s m args below meth c 3 (none, r) 2 [(0, .ref (be θ + 565)), (1, .ref (be θ + x1)), (2, .int z2)] [] τ) (fun w => GB θ p l e 65 s m args below meth c 3 (none, r) 22 [(0, .ref (be θ + 565)), (1, .ref (be θ + x1))] [] w) x) : GB θ p l e 65 s m args below meth c 3 (none, r) 2 [(0, .ref (be θ + 565)), (1, .ref (be θ + x1)), (2, .int z2)] [] τ := by
  unfold f_Model_passes_L2 at h
  dsimp only at h
  refine g_iload_n X dX11_passes_2 rfl 2 rfl ?_
  refine g_aload_n X dX11_passes_3 rfl 0 rfl ?_
  refine g_get X fl_RX11_310 dX11_passes_4 kd_565 (v := .int (mI τ 565 27)) rfl ?_
  refine g_icmp_ge (tgt := 22) X dX11_passes_7 (by decide) (fun c1 => ?_) (fun c1 => ?_)
  · replace h := (if_pos c1).symm.trans h
    have hk := inr_hk h hk
    exact g_sub (lv' := [(0, .ref (be θ + 565)), (1, .ref (be θ + x1))]) [0, 1] rfl hk
  · replace h := (if_neg c1).symm.trans h
    refine g_aload_n X dX11_passes_10 rfl 0 rfl ?_
    refine g_aload_n X dX11_passes_11 rfl 1 rfl ?_
    refine g_iload_n X dX11_passes_12 rfl 2 rfl ?_
    obtain ⟨q2, hq2, h⟩ := Option.bind_eq_some_iff.mp h
    refine g_cV X (c_Model_goHolder h1 hq2) lk_RX11_393 my_X11_goHolder (a := 565) (ci := 11) kd_565 (by decide) rfl (As := [.ref (be θ + x1), .int z2]) (rest := []) rfl rfl (Nat.le_of_ble_eq_true rfl) ⟨(Nat.le_of_ble_eq_true rfl), (Nat.le_of_ble_eq_true rfl)⟩ ⟨(Nat.le_of_ble_eq_true rfl), (Nat.le_of_ble_eq_true rfl)⟩ dX11_passes_13 (st' := []) (σ' := q2) rfl rfl ?_
    refine g_iinc X dX11_passes_16 (kq := 2) rfl (congrArg (HAdd.hAdd _) ic_1) (by decide) (lv' := [(2, .int (z2 + (1 : Int32))), (0, .ref (be θ + 565)), (1, .ref (be θ + x1))]) rfl ?_
    refine g_goto (tgt := 2) X dX11_passes_19 (by decide) ?_
    have hk := inl_hk h hk
    exact g_sub (lv' := [(0, .ref (be θ + 565)), (1, .ref (be θ + x1)), (2, .int (z2 + (1 : Int32)))]) [1, 2, 0] rfl hk
set_option maxHeartbeats 4000000 in
set_option maxRecDepth 20000 in
theorem gl_Model_passes_L2 (X : Cx θ p s m args c cX11_passes 3 RX11) (hr : meth.sig.returnType = none) (hlk : meth.locks = false)  {x1 : Nat} {r : Mem} (h1 : kd x1 = 13) (n : Nat) (a : Mem × Int32) (b : Mem) (h : loopF (f_Model_passes_L2 x1) n a = some b) (hk : (fun w => GB θ p l e 65 s m args below meth c 3 (none, r) 22 [(0, .ref (be θ + 565)), (1, .ref (be θ + x1))] [] w) b) : (fun a => @Prod.casesOn (Mem) (Int32) (fun _ => Prop) a fun τ z2 => GB θ p l e 65 s m args below meth c 3 (none, r) 2 [(0, .ref (be θ + 565)), (1, .ref (be θ + x1)), (2, .int z2)] [] τ) a :=
  loopF_by (P := (fun a => @Prod.casesOn (Mem) (Int32) (fun _ => Prop) a fun τ z2 => GB θ p l e 65 s m args below meth c 3 (none, r) 2 [(0, .ref (be θ + 565)), (1, .ref (be θ + x1)), (2, .int z2)] [] τ)) (K := (fun w => GB θ p l e 65 s m args below meth c 3 (none, r) 22 [(0, .ref (be θ + 565)), (1, .ref (be θ + x1))] [] w)) (fun a x h hk => by obtain ⟨τ, z2⟩ := a; exact gs_Model_passes_L2 X hr hlk  h1 τ z2 x h hk) n a b h hk
set_option maxHeartbeats 4000000 in
set_option maxRecDepth 20000 in
theorem gs_Model_passes_L24 (X : Cx θ p s m args c cX11_passes 3 RX11) (hr : meth.sig.returnType = none) (hlk : meth.locks = false)  {x1 : Nat} {r : Mem} (h1 : kd x1 = 13) (τ : Mem) (z2 : Int32) (x : (Mem × Int32) ⊕ (Mem)) (h : f_Model_passes_L24 x1 (τ, z2) = some x) (hk : Sum.elim (fun a => @Prod.casesOn (Mem) (Int32) (fun _ => Prop) a fun τ z2 => GB θ p l e 65 s m args below meth c 3 (none, r) 24 [(0, .ref (be θ + 565)), (1, .ref (be θ + x1)), (2, .int z2)] [] τ) (fun w => GB θ p l e 65 s m args below meth c 3 (none, r) 44 [(0, .ref (be θ + 565)), (1, .ref (be θ + x1))] [] w) x) : GB θ p l e 65 s m args below meth c 3 (none, r) 24 [(0, .ref (be θ + 565)), (1, .ref (be θ + x1)), (2, .int z2)] [] τ := by
  unfold f_Model_passes_L24 at h
  dsimp only at h
  refine g_iload_n X dX11_passes_24 rfl 2 rfl ?_
  refine g_aload_n X dX11_passes_25 rfl 0 rfl ?_
  refine g_get X fl_RX11_310 dX11_passes_26 kd_565 (v := .int (mI τ 565 27)) rfl ?_
  refine g_icmp_ge (tgt := 44) X dX11_passes_29 (by decide) (fun c4 => ?_) (fun c4 => ?_)
  · replace h := (if_pos c4).symm.trans h
    have hk := inr_hk h hk
    exact g_sub (lv' := [(0, .ref (be θ + 565)), (1, .ref (be θ + x1))]) [0, 1] rfl hk
  · replace h := (if_neg c4).symm.trans h
    refine g_aload_n X dX11_passes_32 rfl 0 rfl ?_
    refine g_aload_n X dX11_passes_33 rfl 1 rfl ?_
    refine g_iload_n X dX11_passes_34 rfl 2 rfl ?_
    obtain ⟨q5, hq5, h⟩ := Option.bind_eq_some_iff.mp h
    refine g_cV X (c_Model_goSeeker h1 hq5) lk_RX11_396 my_X11_goSeeker (a := 565) (ci := 11) kd_565 (by decide) rfl (As := [.ref (be θ + x1), .int z2]) (rest := []) rfl rfl (Nat.le_of_ble_eq_true rfl) ⟨(Nat.le_of_ble_eq_true rfl), (Nat.le_of_ble_eq_true rfl)⟩ ⟨(Nat.le_of_ble_eq_true rfl), (Nat.le_of_ble_eq_true rfl)⟩ dX11_passes_35 (st' := []) (σ' := q5) rfl rfl ?_
    refine g_iinc X dX11_passes_38 (kq := 2) rfl (congrArg (HAdd.hAdd _) ic_1) (by decide) (lv' := [(2, .int (z2 + (1 : Int32))), (0, .ref (be θ + 565)), (1, .ref (be θ + x1))]) rfl ?_
    refine g_goto (tgt := 24) X dX11_passes_41 (by decide) ?_
    have hk := inl_hk h hk
    exact g_sub (lv' := [(0, .ref (be θ + 565)), (1, .ref (be θ + x1)), (2, .int (z2 + (1 : Int32)))]) [1, 2, 0] rfl hk
set_option maxHeartbeats 4000000 in
set_option maxRecDepth 20000 in
theorem gl_Model_passes_L24 (X : Cx θ p s m args c cX11_passes 3 RX11) (hr : meth.sig.returnType = none) (hlk : meth.locks = false)  {x1 : Nat} {r : Mem} (h1 : kd x1 = 13) (n : Nat) (a : Mem × Int32) (b : Mem) (h : loopF (f_Model_passes_L24 x1) n a = some b) (hk : (fun w => GB θ p l e 65 s m args below meth c 3 (none, r) 44 [(0, .ref (be θ + 565)), (1, .ref (be θ + x1))] [] w) b) : (fun a => @Prod.casesOn (Mem) (Int32) (fun _ => Prop) a fun τ z2 => GB θ p l e 65 s m args below meth c 3 (none, r) 24 [(0, .ref (be θ + 565)), (1, .ref (be θ + x1)), (2, .int z2)] [] τ) a :=
  loopF_by (P := (fun a => @Prod.casesOn (Mem) (Int32) (fun _ => Prop) a fun τ z2 => GB θ p l e 65 s m args below meth c 3 (none, r) 24 [(0, .ref (be θ + 565)), (1, .ref (be θ + x1)), (2, .int z2)] [] τ)) (K := (fun w => GB θ p l e 65 s m args below meth c 3 (none, r) 44 [(0, .ref (be θ + 565)), (1, .ref (be θ + x1))] [] w)) (fun a x h hk => by obtain ⟨τ, z2⟩ := a; exact gs_Model_passes_L24 X hr hlk  h1 τ z2 x h hk) n a b h hk
set_option maxHeartbeats 4000000 in
set_option maxRecDepth 20000 in
theorem g_Model_passes (X : Cx θ p s m args c cX11_passes 3 RX11) (hr : meth.sig.returnType = none) (hlk : meth.locks = false)  {σ : Mem} {x1 : Nat} {r : Mem} (h1 : kd x1 = 13) (h : f_Model_passes σ x1 = some r) : GB θ p l e 65 s m args below meth c 3 (none, r) 0 [(0, .ref (be θ + 565)), (1, .ref (be θ + x1))] [] σ := by
  unfold f_Model_passes at h
  refine g_iconst X dX11_passes_0 (v := (0 : Int32)) ic_0 ?_
  refine g_istore_n X dX11_passes_1 rfl (by decide) (lv' := [(2, .int (0 : Int32)), (0, .ref (be θ + 565)), (1, .ref (be θ + x1))]) rfl ?_
  obtain ⟨w3, hq3, h⟩ := Option.bind_eq_some_iff.mp h
  refine g_sub (lv' := [(0, .ref (be θ + 565)), (1, .ref (be θ + x1)), (2, .int (0 : Int32))]) [1, 2, 0] rfl (gl_Model_passes_L2 X hr hlk  h1  FU _ w3 hq3 ?_)
  refine g_iconst X dX11_passes_22 (v := (0 : Int32)) ic_0 ?_
  refine g_istore_n X dX11_passes_23 rfl (by decide) (lv' := [(2, .int (0 : Int32)), (0, .ref (be θ + 565)), (1, .ref (be θ + x1))]) rfl ?_
  obtain ⟨w6, hq6, h⟩ := Option.bind_eq_some_iff.mp h
  refine g_sub (lv' := [(0, .ref (be θ + 565)), (1, .ref (be θ + x1)), (2, .int (0 : Int32))]) [1, 2, 0] rfl (gl_Model_passes_L24 X hr hlk  h1  FU _ w6 hq6 ?_)
  refine g_aload_n X dX11_passes_44 rfl 1 rfl ?_
  refine g_sipush X dX11_passes_45 (v := (130 : Int32)) sp_130 ?_
  refine g_dup2 X dX11_passes_48 rfl rfl ?_
  obtain ⟨g7, h⟩ := ite_some h
  refine g_iald X h1 rfl (inb_in g7) dX11_passes_49 ?_
  refine g_iconst X dX11_passes_50 (v := (1 : Int32)) ic_1 ?_
  refine g_iadd X dX11_passes_51 ?_
  refine g_iast X h1 rfl (inb_in g7) dX11_passes_52 ?_
  refine g_aload_n X dX11_passes_53 rfl 1 rfl ?_
  refine g_sipush X dX11_passes_54 (v := (130 : Int32)) sp_130 ?_
  refine g_iald X h1 rfl (inb_in g7) dX11_passes_57 ?_
  refine g_aload_n X dX11_passes_58 rfl 0 rfl ?_
  refine g_get X fl_RX11_37 dX11_passes_59 kd_565 (v := .ref (be θ + 570)) rfl ?_
  refine g_iconst X dX11_passes_62 (v := (2 : Int32)) ic_2 ?_
  refine g_iald X kd_570 ln_570 (inb_in (show inb (2 : Int32) 4 = true by decide)) dX11_passes_63 ?_
  obtain ⟨g8, h⟩ := ite_none h
  refine g_irem X dX11_passes_64 g8 ?_
  refine g_if_ne (tgt := 73) X dX11_passes_65 (by decide) (fun c9 => ?_) (fun c9 => ?_)
  · replace h := (if_neg c9).symm.trans h
    exact g_vret X hr hlk dX11_passes_73 (by cases h; rfl)
  · replace h := (if_pos c9).symm.trans h
    refine g_aload_n X dX11_passes_68 rfl 0 rfl ?_
    refine g_aload_n X dX11_passes_69 rfl 1 rfl ?_
    obtain ⟨q10, hq10, h⟩ := Option.bind_eq_some_iff.mp h
    refine g_cV X (c_Model_paysAll h1 hq10) lk_RX11_399 my_X11_paysAll (a := 565) (ci := 11) kd_565 (by decide) rfl (As := [.ref (be θ + x1)]) (rest := []) rfl rfl (Nat.le_of_ble_eq_true rfl) ⟨(Nat.le_of_ble_eq_true rfl), (Nat.le_of_ble_eq_true rfl)⟩ ⟨(Nat.le_of_ble_eq_true rfl), (Nat.le_of_ble_eq_true rfl)⟩ dX11_passes_70 (st' := []) (σ' := q10) rfl rfl ?_
    exact g_vret X hr hlk dX11_passes_73 (by cases h; rfl)
set_option maxHeartbeats 4000000 in
set_option maxRecDepth 20000 in
theorem c_Model_passes {θ : Th} {l : Launch} {σ : Mem} {x1 : Nat} {r : Mem} (h1 : kd x1 = 13) (h : f_Model_passes σ x1 = some r) : Cn θ l yX11_passes cX11_passes 3 (none) 65 0 0 [.ref (be θ + 565), .ref (be θ + x1)] σ (none, r) :=
  Cn.of (by decide) (Nat.le_of_ble_eq_true rfl) (fun p e s m below meth c X hr hlk => g_Model_passes X hr hlk h1 h)
theorem dX11_holders_0 : decode cX11_holders 0 = .ok (.iconst 0, 1) := by decide +kernel
theorem dX11_holders_1 : decode cX11_holders 1 = .ok (.istore_n 2, 1) := by decide +kernel
theorem dX11_holders_2 : decode cX11_holders 2 = .ok (.iconst 0, 1) := by decide +kernel
theorem dX11_holders_3 : decode cX11_holders 3 = .ok (.istore_n 3, 1) := by decide +kernel
theorem dX11_holders_4 : decode cX11_holders 4 = .ok (.iload_n 3, 1) := by decide +kernel
theorem dX11_holders_5 : decode cX11_holders 5 = .ok (.aload_n 0, 1) := by decide +kernel
theorem dX11_holders_6 : decode cX11_holders 6 = .ok (.getfield 310, 3) := by decide +kernel
theorem dX11_holders_9 : decode cX11_holders 9 = .ok (.if_icmp .ge 29, 3) := by decide +kernel
theorem dX11_holders_12 : decode cX11_holders 12 = .ok (.iload_n 2, 1) := by decide +kernel
theorem dX11_holders_13 : decode cX11_holders 13 = .ok (.aload_n 0, 1) := by decide +kernel
theorem dX11_holders_14 : decode cX11_holders 14 = .ok (.aload_n 1, 1) := by decide +kernel
theorem dX11_holders_15 : decode cX11_holders 15 = .ok (.iload_n 3, 1) := by decide +kernel
theorem dX11_holders_16 : decode cX11_holders 16 = .ok (.invokevirtual 361, 3) := by decide +kernel
theorem dX11_holders_19 : decode cX11_holders 19 = .ok (.iconst (-1), 1) := by decide +kernel
theorem dX11_holders_20 : decode cX11_holders 20 = .ok (.if_icmp .eq 9, 3) := by decide +kernel
theorem dX11_holders_23 : decode cX11_holders 23 = .ok (.iconst 1, 1) := by decide +kernel
theorem dX11_holders_24 : decode cX11_holders 24 = .ok (.iload_n 3, 1) := by decide +kernel
theorem dX11_holders_25 : decode cX11_holders 25 = .ok (.ishl, 1) := by decide +kernel
theorem dX11_holders_26 : decode cX11_holders 26 = .ok (.goto 4, 3) := by decide +kernel
theorem dX11_holders_29 : decode cX11_holders 29 = .ok (.iconst 0, 1) := by decide +kernel
theorem dX11_holders_30 : decode cX11_holders 30 = .ok (.ior, 1) := by decide +kernel
theorem dX11_holders_31 : decode cX11_holders 31 = .ok (.istore_n 2, 1) := by decide +kernel
theorem dX11_holders_32 : decode cX11_holders 32 = .ok (.iinc 3 1, 3) := by decide +kernel
theorem dX11_holders_35 : decode cX11_holders 35 = .ok (.goto (-31), 3) := by decide +kernel
theorem dX11_holders_38 : decode cX11_holders 38 = .ok (.iload_n 2, 1) := by decide +kernel
theorem dX11_holders_39 : decode cX11_holders 39 = .ok (.ireturn, 1) := by decide +kernel
def f_Model_holders_L4 (σ : Mem) (x1 : Nat) (a : Int32 × Int32) : Option ((Int32 × Int32) ⊕ (Int32)) :=
  @Prod.casesOn (Int32) (Int32) (fun _ => Option ((Int32 × Int32) ⊕ (Int32))) a fun z2 z3 =>
  if (mI σ 565 27) ≤ z3 then
    some (.inr z2)
  else
    (f_Model_holds σ x1 z3).bind fun q2 =>
    if q2 = (-1 : Int32) then
      some (.inl ((z2 ||| (0 : Int32)), (z3 + (1 : Int32))))
    else
      some (.inl ((z2 ||| ((1 : Int32) <<< (z3 &&& 31))), (z3 + (1 : Int32))))
def f_Model_holders (σ : Mem) (x1 : Nat) : Option (Int32) :=
  loopF (f_Model_holders_L4 σ x1) FU ((0 : Int32), (0 : Int32))
set_option maxHeartbeats 4000000 in
set_option maxRecDepth 20000 in
theorem gs_Model_holders_L4 (X : Cx θ p s m args c cX11_holders 4 RX11) (hr : meth.sig.returnType = some .int) (hlk : meth.locks = false)  {σ : Mem} {x1 : Nat} {r : Int32} (h1 : kd x1 = 13) (z2 : Int32) (z3 : Int32) (x : (Int32 × Int32) ⊕ (Int32)) (h : f_Model_holders_L4 σ x1 (z2, z3) = some x) (hk : Sum.elim (fun a => @Prod.casesOn (Int32) (Int32) (fun _ => Prop) a fun z2 z3 => GB θ p l e 1 s m args below meth c 4 (some (.int r), σ) 4 [(0, .ref (be θ + 565)), (1, .ref (be θ + x1)), (2, .int z2), (3, .int z3)] [] σ) (fun b => b = r) x) : GB θ p l e 1 s m args below meth c 4 (some (.int r), σ) 4 [(0, .ref (be θ + 565)), (1, .ref (be θ + x1)), (2, .int z2), (3, .int z3)] [] σ := by
  unfold f_Model_holders_L4 at h
  dsimp only at h
  refine g_iload_n X dX11_holders_4 rfl 3 rfl ?_
  refine g_aload_n X dX11_holders_5 rfl 0 rfl ?_
  refine g_get X fl_RX11_310 dX11_holders_6 kd_565 (v := .int (mI σ 565 27)) rfl ?_
  refine g_icmp_ge (tgt := 38) X dX11_holders_9 (by decide) (fun c1 => ?_) (fun c1 => ?_)
  · replace h := (if_pos c1).symm.trans h
    refine g_iload_n X dX11_holders_38 rfl 2 rfl ?_
    have hk := inr_hk h hk
    have hk : z2 = r := hk
    subst hk
    exact g_iret X hr hlk dX11_holders_39 rfl
  · replace h := (if_neg c1).symm.trans h
    refine g_iload_n X dX11_holders_12 rfl 2 rfl ?_
    refine g_aload_n X dX11_holders_13 rfl 0 rfl ?_
    refine g_aload_n X dX11_holders_14 rfl 1 rfl ?_
    refine g_iload_n X dX11_holders_15 rfl 3 rfl ?_
    obtain ⟨q2, hq2, h⟩ := Option.bind_eq_some_iff.mp h
    refine g_cV X (c_Model_holds h1 hq2) lk_RX11_361 my_X11_holds (a := 565) (ci := 11) kd_565 (by decide) rfl (As := [.ref (be θ + x1), .int z3]) (rest := [.int z2]) rfl rfl (Nat.le_of_ble_eq_true rfl) ⟨(Nat.le_of_ble_eq_true rfl), (Nat.le_of_ble_eq_true rfl)⟩ ⟨(Nat.le_of_ble_eq_true rfl), (Nat.le_of_ble_eq_true rfl)⟩ dX11_holders_16 (st' := [.int q2, .int z2]) (σ' := σ) rfl rfl ?_
    refine g_iconst X dX11_holders_19 (v := (-1 : Int32)) ic_m1 ?_
    refine g_icmp_eq (tgt := 29) X dX11_holders_20 (by decide) (fun c3 => ?_) (fun c3 => ?_)
    · replace h := (if_pos c3).symm.trans h
      refine g_iconst X dX11_holders_29 (v := (0 : Int32)) ic_0 ?_
      refine g_ior X dX11_holders_30 ?_
      refine g_istore_n X dX11_holders_31 rfl (by decide) (lv' := [(2, .int (z2 ||| (0 : Int32))), (0, .ref (be θ + 565)), (1, .ref (be θ + x1)), (3, .int z3)]) rfl ?_
      refine g_iinc X dX11_holders_32 (kq := 3) rfl (congrArg (HAdd.hAdd _) ic_1) (by decide) (lv' := [(3, .int (z3 + (1 : Int32))), (2, .int (z2 ||| (0 : Int32))), (0, .ref (be θ + 565)), (1, .ref (be θ + x1))]) rfl ?_
      refine g_goto (tgt := 4) X dX11_holders_35 (by decide) ?_
      have hk := inl_hk h hk
      exact g_sub (lv' := [(0, .ref (be θ + 565)), (1, .ref (be θ + x1)), (2, .int (z2 ||| (0 : Int32))), (3, .int (z3 + (1 : Int32)))]) [2, 3, 1, 0] rfl hk
    · replace h := (if_neg c3).symm.trans h
      refine g_iconst X dX11_holders_23 (v := (1 : Int32)) ic_1 ?_
      refine g_iload_n X dX11_holders_24 rfl 3 rfl ?_
      refine g_ishl X dX11_holders_25 ?_
      refine g_goto (tgt := 30) X dX11_holders_26 (by decide) ?_
      refine g_ior X dX11_holders_30 ?_
      refine g_istore_n X dX11_holders_31 rfl (by decide) (lv' := [(2, .int (z2 ||| ((1 : Int32) <<< (z3 &&& 31)))), (0, .ref (be θ + 565)), (1, .ref (be θ + x1)), (3, .int z3)]) rfl ?_
      refine g_iinc X dX11_holders_32 (kq := 3) rfl (congrArg (HAdd.hAdd _) ic_1) (by decide) (lv' := [(3, .int (z3 + (1 : Int32))), (2, .int (z2 ||| ((1 : Int32) <<< (z3 &&& 31)))), (0, .ref (be θ + 565)), (1, .ref (be θ + x1))]) rfl ?_
      refine g_goto (tgt := 4) X dX11_holders_35 (by decide) ?_
      have hk := inl_hk h hk
      exact g_sub (lv' := [(0, .ref (be θ + 565)), (1, .ref (be θ + x1)), (2, .int (z2 ||| ((1 : Int32) <<< (z3 &&& 31)))), (3, .int (z3 + (1 : Int32)))]) [2, 3, 1, 0] rfl hk
set_option maxHeartbeats 4000000 in
set_option maxRecDepth 20000 in
theorem gl_Model_holders_L4 (X : Cx θ p s m args c cX11_holders 4 RX11) (hr : meth.sig.returnType = some .int) (hlk : meth.locks = false)  {σ : Mem} {x1 : Nat} {r : Int32} (h1 : kd x1 = 13) (n : Nat) (a : Int32 × Int32) (b : Int32) (h : loopF (f_Model_holders_L4 σ x1) n a = some b) (hk : (fun b => b = r) b) : (fun a => @Prod.casesOn (Int32) (Int32) (fun _ => Prop) a fun z2 z3 => GB θ p l e 1 s m args below meth c 4 (some (.int r), σ) 4 [(0, .ref (be θ + 565)), (1, .ref (be θ + x1)), (2, .int z2), (3, .int z3)] [] σ) a :=
  loopF_by (P := (fun a => @Prod.casesOn (Int32) (Int32) (fun _ => Prop) a fun z2 z3 => GB θ p l e 1 s m args below meth c 4 (some (.int r), σ) 4 [(0, .ref (be θ + 565)), (1, .ref (be θ + x1)), (2, .int z2), (3, .int z3)] [] σ)) (K := (fun b => b = r)) (fun a x h hk => by obtain ⟨z2, z3⟩ := a; exact gs_Model_holders_L4 X hr hlk  h1 z2 z3 x h hk) n a b h hk
set_option maxHeartbeats 4000000 in
set_option maxRecDepth 20000 in
theorem g_Model_holders (X : Cx θ p s m args c cX11_holders 4 RX11) (hr : meth.sig.returnType = some .int) (hlk : meth.locks = false)  {σ : Mem} {x1 : Nat} {r : Int32} (h1 : kd x1 = 13) (h : f_Model_holders σ x1 = some r) : GB θ p l e 1 s m args below meth c 4 (some (.int r), σ) 0 [(0, .ref (be θ + 565)), (1, .ref (be θ + x1))] [] σ := by
  unfold f_Model_holders at h
  refine g_iconst X dX11_holders_0 (v := (0 : Int32)) ic_0 ?_
  refine g_istore_n X dX11_holders_1 rfl (by decide) (lv' := [(2, .int (0 : Int32)), (0, .ref (be θ + 565)), (1, .ref (be θ + x1))]) rfl ?_
  refine g_iconst X dX11_holders_2 (v := (0 : Int32)) ic_0 ?_
  refine g_istore_n X dX11_holders_3 rfl (by decide) (lv' := [(3, .int (0 : Int32)), (2, .int (0 : Int32)), (0, .ref (be θ + 565)), (1, .ref (be θ + x1))]) rfl ?_
  exact g_sub (lv' := [(0, .ref (be θ + 565)), (1, .ref (be θ + x1)), (2, .int (0 : Int32)), (3, .int (0 : Int32))]) [2, 3, 1, 0] rfl (gl_Model_holders_L4 X hr hlk  h1  FU _ _ h rfl)
set_option maxHeartbeats 4000000 in
set_option maxRecDepth 20000 in
theorem c_Model_holders {θ : Th} {l : Launch} {σ : Mem} {x1 : Nat} {r : Int32} (h1 : kd x1 = 13) (h : f_Model_holders σ x1 = some r) : Cn θ l yX11_holders cX11_holders 4 (some .int) 1 0 0 [.ref (be θ + 565), .ref (be θ + x1)] σ (some (.int r), σ) :=
  Cn.of (by decide) (Nat.le_of_ble_eq_true rfl) (fun p e s m below meth c X hr hlk => g_Model_holders X hr hlk h1 h)
theorem dX11_goNow_0 : decode cX11_goNow 0 = .ok (.aload_n 0, 1) := by decide +kernel
theorem dX11_goNow_1 : decode cX11_goNow 1 = .ok (.aload_n 0, 1) := by decide +kernel
theorem dX11_goNow_2 : decode cX11_goNow 2 = .ok (.getfield 61, 3) := by decide +kernel
theorem dX11_goNow_5 : decode cX11_goNow 5 = .ok (.invokevirtual 402, 3) := by decide +kernel
theorem dX11_goNow_8 : decode cX11_goNow 8 = .ok (.aload_n 0, 1) := by decide +kernel
theorem dX11_goNow_9 : decode cX11_goNow 9 = .ok (.getfield 61, 3) := by decide +kernel
theorem dX11_goNow_12 : decode cX11_goNow 12 = .ok (.sipush 131, 3) := by decide +kernel
theorem dX11_goNow_15 : decode cX11_goNow 15 = .ok (.iaload, 1) := by decide +kernel
theorem dX11_goNow_16 : decode cX11_goNow 16 = .ok (.bipush 60, 2) := by decide +kernel
theorem dX11_goNow_18 : decode cX11_goNow 18 = .ok (.if_icmp .ne 52, 3) := by decide +kernel
theorem dX11_goNow_21 : decode cX11_goNow 21 = .ok (.iconst 1, 1) := by decide +kernel
theorem dX11_goNow_22 : decode cX11_goNow 22 = .ok (.istore_n 1, 1) := by decide +kernel
theorem dX11_goNow_23 : decode cX11_goNow 23 = .ok (.iload_n 1, 1) := by decide +kernel
theorem dX11_goNow_24 : decode cX11_goNow 24 = .ok (.sipush 177, 3) := by decide +kernel
theorem dX11_goNow_27 : decode cX11_goNow 27 = .ok (.if_icmp .gt 31, 3) := by decide +kernel
theorem dX11_goNow_30 : decode cX11_goNow 30 = .ok (.aload_n 0, 1) := by decide +kernel
theorem dX11_goNow_31 : decode cX11_goNow 31 = .ok (.getfield 61, 3) := by decide +kernel
theorem dX11_goNow_34 : decode cX11_goNow 34 = .ok (.sipush 131, 3) := by decide +kernel
theorem dX11_goNow_37 : decode cX11_goNow 37 = .ok (.iload_n 1, 1) := by decide +kernel
theorem dX11_goNow_38 : decode cX11_goNow 38 = .ok (.iadd, 1) := by decide +kernel
theorem dX11_goNow_39 : decode cX11_goNow 39 = .ok (.aload_n 0, 1) := by decide +kernel
theorem dX11_goNow_40 : decode cX11_goNow 40 = .ok (.getfield 61, 3) := by decide +kernel
theorem dX11_goNow_43 : decode cX11_goNow 43 = .ok (.sipush 131, 3) := by decide +kernel
theorem dX11_goNow_46 : decode cX11_goNow 46 = .ok (.iload_n 1, 1) := by decide +kernel
theorem dX11_goNow_47 : decode cX11_goNow 47 = .ok (.iadd, 1) := by decide +kernel
theorem dX11_goNow_48 : decode cX11_goNow 48 = .ok (.iconst 3, 1) := by decide +kernel
theorem dX11_goNow_49 : decode cX11_goNow 49 = .ok (.iadd, 1) := by decide +kernel
theorem dX11_goNow_50 : decode cX11_goNow 50 = .ok (.iaload, 1) := by decide +kernel
theorem dX11_goNow_51 : decode cX11_goNow 51 = .ok (.iastore, 1) := by decide +kernel
theorem dX11_goNow_52 : decode cX11_goNow 52 = .ok (.iinc 1 1, 3) := by decide +kernel
theorem dX11_goNow_55 : decode cX11_goNow 55 = .ok (.goto (-32), 3) := by decide +kernel
theorem dX11_goNow_58 : decode cX11_goNow 58 = .ok (.aload_n 0, 1) := by decide +kernel
theorem dX11_goNow_59 : decode cX11_goNow 59 = .ok (.getfield 61, 3) := by decide +kernel
theorem dX11_goNow_62 : decode cX11_goNow 62 = .ok (.sipush 131, 3) := by decide +kernel
theorem dX11_goNow_65 : decode cX11_goNow 65 = .ok (.dup2, 1) := by decide +kernel
theorem dX11_goNow_66 : decode cX11_goNow 66 = .ok (.iaload, 1) := by decide +kernel
theorem dX11_goNow_67 : decode cX11_goNow 67 = .ok (.iconst 1, 1) := by decide +kernel
theorem dX11_goNow_68 : decode cX11_goNow 68 = .ok (.isub, 1) := by decide +kernel
theorem dX11_goNow_69 : decode cX11_goNow 69 = .ok (.iastore, 1) := by decide +kernel
theorem dX11_goNow_70 : decode cX11_goNow 70 = .ok (.sipush 132, 3) := by decide +kernel
theorem dX11_goNow_73 : decode cX11_goNow 73 = .ok (.iconst 3, 1) := by decide +kernel
theorem dX11_goNow_74 : decode cX11_goNow 74 = .ok (.aload_n 0, 1) := by decide +kernel
theorem dX11_goNow_75 : decode cX11_goNow 75 = .ok (.getfield 61, 3) := by decide +kernel
theorem dX11_goNow_78 : decode cX11_goNow 78 = .ok (.sipush 131, 3) := by decide +kernel
theorem dX11_goNow_81 : decode cX11_goNow 81 = .ok (.iaload, 1) := by decide +kernel
theorem dX11_goNow_82 : decode cX11_goNow 82 = .ok (.imul, 1) := by decide +kernel
theorem dX11_goNow_83 : decode cX11_goNow 83 = .ok (.iadd, 1) := by decide +kernel
theorem dX11_goNow_84 : decode cX11_goNow 84 = .ok (.istore_n 1, 1) := by decide +kernel
theorem dX11_goNow_85 : decode cX11_goNow 85 = .ok (.aload_n 0, 1) := by decide +kernel
theorem dX11_goNow_86 : decode cX11_goNow 86 = .ok (.getfield 61, 3) := by decide +kernel
theorem dX11_goNow_89 : decode cX11_goNow 89 = .ok (.iload_n 1, 1) := by decide +kernel
theorem dX11_goNow_90 : decode cX11_goNow 90 = .ok (.aload_n 0, 1) := by decide +kernel
theorem dX11_goNow_91 : decode cX11_goNow 91 = .ok (.aload_n 0, 1) := by decide +kernel
theorem dX11_goNow_92 : decode cX11_goNow 92 = .ok (.getfield 61, 3) := by decide +kernel
theorem dX11_goNow_95 : decode cX11_goNow 95 = .ok (.invokevirtual 405, 3) := by decide +kernel
theorem dX11_goNow_98 : decode cX11_goNow 98 = .ok (.iastore, 1) := by decide +kernel
theorem dX11_goNow_99 : decode cX11_goNow 99 = .ok (.aload_n 0, 1) := by decide +kernel
theorem dX11_goNow_100 : decode cX11_goNow 100 = .ok (.getfield 61, 3) := by decide +kernel
theorem dX11_goNow_103 : decode cX11_goNow 103 = .ok (.iload_n 1, 1) := by decide +kernel
theorem dX11_goNow_104 : decode cX11_goNow 104 = .ok (.iconst 1, 1) := by decide +kernel
theorem dX11_goNow_105 : decode cX11_goNow 105 = .ok (.iadd, 1) := by decide +kernel
theorem dX11_goNow_106 : decode cX11_goNow 106 = .ok (.aload_n 0, 1) := by decide +kernel
theorem dX11_goNow_107 : decode cX11_goNow 107 = .ok (.getfield 61, 3) := by decide +kernel
theorem dX11_goNow_110 : decode cX11_goNow 110 = .ok (.bipush 126, 2) := by decide +kernel
theorem dX11_goNow_112 : decode cX11_goNow 112 = .ok (.iaload, 1) := by decide +kernel
theorem dX11_goNow_113 : decode cX11_goNow 113 = .ok (.iastore, 1) := by decide +kernel
theorem dX11_goNow_114 : decode cX11_goNow 114 = .ok (.aload_n 0, 1) := by decide +kernel
theorem dX11_goNow_115 : decode cX11_goNow 115 = .ok (.getfield 61, 3) := by decide +kernel
theorem dX11_goNow_118 : decode cX11_goNow 118 = .ok (.iload_n 1, 1) := by decide +kernel
theorem dX11_goNow_119 : decode cX11_goNow 119 = .ok (.iconst 2, 1) := by decide +kernel
theorem dX11_goNow_120 : decode cX11_goNow 120 = .ok (.iadd, 1) := by decide +kernel
theorem dX11_goNow_121 : decode cX11_goNow 121 = .ok (.aload_n 0, 1) := by decide +kernel
theorem dX11_goNow_122 : decode cX11_goNow 122 = .ok (.getfield 61, 3) := by decide +kernel
theorem dX11_goNow_125 : decode cX11_goNow 125 = .ok (.sipush 129, 3) := by decide +kernel
theorem dX11_goNow_128 : decode cX11_goNow 128 = .ok (.iaload, 1) := by decide +kernel
theorem dX11_goNow_129 : decode cX11_goNow 129 = .ok (.iastore, 1) := by decide +kernel
theorem dX11_goNow_130 : decode cX11_goNow 130 = .ok (.aload_n 0, 1) := by decide +kernel
theorem dX11_goNow_131 : decode cX11_goNow 131 = .ok (.getfield 61, 3) := by decide +kernel
theorem dX11_goNow_134 : decode cX11_goNow 134 = .ok (.sipush 131, 3) := by decide +kernel
theorem dX11_goNow_137 : decode cX11_goNow 137 = .ok (.dup2, 1) := by decide +kernel
theorem dX11_goNow_138 : decode cX11_goNow 138 = .ok (.iaload, 1) := by decide +kernel
theorem dX11_goNow_139 : decode cX11_goNow 139 = .ok (.iconst 1, 1) := by decide +kernel
theorem dX11_goNow_140 : decode cX11_goNow 140 = .ok (.iadd, 1) := by decide +kernel
theorem dX11_goNow_141 : decode cX11_goNow 141 = .ok (.iastore, 1) := by decide +kernel
theorem dX11_goNow_142 : decode cX11_goNow 142 = .ok (.aload_n 0, 1) := by decide +kernel
theorem dX11_goNow_143 : decode cX11_goNow 143 = .ok (.aload_n 0, 1) := by decide +kernel
theorem dX11_goNow_144 : decode cX11_goNow 144 = .ok (.getfield 61, 3) := by decide +kernel
theorem dX11_goNow_147 : decode cX11_goNow 147 = .ok (.invokevirtual 405, 3) := by decide +kernel
theorem dX11_goNow_150 : decode cX11_goNow 150 = .ok (.ireturn, 1) := by decide +kernel
def f_Model_goNow_J70 (σ : Mem)  : Option (Int32 × Mem) :=
  (f_Model_holders σ 578).bind fun q3 =>
  if inb ((132 : Int32) + ((3 : Int32) * (mI σ 578 (131 : Int32).toNatClampNeg))) 312 then
    if inb (((132 : Int32) + ((3 : Int32) * (mI σ 578 (131 : Int32).toNatClampNeg))) + (1 : Int32)) 312 then
      if inb (((132 : Int32) + ((3 : Int32) * (mI σ 578 (131 : Int32).toNatClampNeg))) + (2 : Int32)) 312 then
        (f_Model_holders (sI (sI (sI (sI σ 578 ((132 : Int32) + ((3 : Int32) * (mI σ 578 (131 : Int32).toNatClampNeg))).toNatClampNeg q3) 578 (((132 : Int32) + ((3 : Int32) * (mI σ 578 (131 : Int32).toNatClampNeg))) + (1 : Int32)).toNatClampNeg (mI (sI σ 578 ((132 : Int32) + ((3 : Int32) * (mI σ 578 (131 : Int32).toNatClampNeg))).toNatClampNeg q3) 578 (126 : Int32).toNatClampNeg)) 578 (((132 : Int32) + ((3 : Int32) * (mI σ 578 (131 : Int32).toNatClampNeg))) + (2 : Int32)).toNatClampNeg (mI (sI (sI σ 578 ((132 : Int32) + ((3 : Int32) * (mI σ 578 (131 : Int32).toNatClampNeg))).toNatClampNeg q3) 578 (((132 : Int32) + ((3 : Int32) * (mI σ 578 (131 : Int32).toNatClampNeg))) + (1 : Int32)).toNatClampNeg (mI (sI σ 578 ((132 : Int32) + ((3 : Int32) * (mI σ 578 (131 : Int32).toNatClampNeg))).toNatClampNeg q3) 578 (126 : Int32).toNatClampNeg)) 578 (129 : Int32).toNatClampNeg)) 578 (131 : Int32).toNatClampNeg ((mI (sI (sI (sI σ 578 ((132 : Int32) + ((3 : Int32) * (mI σ 578 (131 : Int32).toNatClampNeg))).toNatClampNeg q3) 578 (((132 : Int32) + ((3 : Int32) * (mI σ 578 (131 : Int32).toNatClampNeg))) + (1 : Int32)).toNatClampNeg (mI (sI σ 578 ((132 : Int32) + ((3 : Int32) * (mI σ 578 (131 : Int32).toNatClampNeg))).toNatClampNeg q3) 578 (126 : Int32).toNatClampNeg)) 578 (((132 : Int32) + ((3 : Int32) * (mI σ 578 (131 : Int32).toNatClampNeg))) + (2 : Int32)).toNatClampNeg (mI (sI (sI σ 578 ((132 : Int32) + ((3 : Int32) * (mI σ 578 (131 : Int32).toNatClampNeg))).toNatClampNeg q3) 578 (((132 : Int32) + ((3 : Int32) * (mI σ 578 (131 : Int32).toNatClampNeg))) + (1 : Int32)).toNatClampNeg (mI (sI σ 578 ((132 : Int32) + ((3 : Int32) * (mI σ 578 (131 : Int32).toNatClampNeg))).toNatClampNeg q3) 578 (126 : Int32).toNatClampNeg)) 578 (129 : Int32).toNatClampNeg)) 578 (131 : Int32).toNatClampNeg) + (1 : Int32))) 578).bind fun q7 =>
        some (q7, (sI (sI (sI (sI σ 578 ((132 : Int32) + ((3 : Int32) * (mI σ 578 (131 : Int32).toNatClampNeg))).toNatClampNeg q3) 578 (((132 : Int32) + ((3 : Int32) * (mI σ 578 (131 : Int32).toNatClampNeg))) + (1 : Int32)).toNatClampNeg (mI (sI σ 578 ((132 : Int32) + ((3 : Int32) * (mI σ 578 (131 : Int32).toNatClampNeg))).toNatClampNeg q3) 578 (126 : Int32).toNatClampNeg)) 578 (((132 : Int32) + ((3 : Int32) * (mI σ 578 (131 : Int32).toNatClampNeg))) + (2 : Int32)).toNatClampNeg (mI (sI (sI σ 578 ((132 : Int32) + ((3 : Int32) * (mI σ 578 (131 : Int32).toNatClampNeg))).toNatClampNeg q3) 578 (((132 : Int32) + ((3 : Int32) * (mI σ 578 (131 : Int32).toNatClampNeg))) + (1 : Int32)).toNatClampNeg (mI (sI σ 578 ((132 : Int32) + ((3 : Int32) * (mI σ 578 (131 : Int32).toNatClampNeg))).toNatClampNeg q3) 578 (126 : Int32).toNatClampNeg)) 578 (129 : Int32).toNatClampNeg)) 578 (131 : Int32).toNatClampNeg ((mI (sI (sI (sI σ 578 ((132 : Int32) + ((3 : Int32) * (mI σ 578 (131 : Int32).toNatClampNeg))).toNatClampNeg q3) 578 (((132 : Int32) + ((3 : Int32) * (mI σ 578 (131 : Int32).toNatClampNeg))) + (1 : Int32)).toNatClampNeg (mI (sI σ 578 ((132 : Int32) + ((3 : Int32) * (mI σ 578 (131 : Int32).toNatClampNeg))).toNatClampNeg q3) 578 (126 : Int32).toNatClampNeg)) 578 (((132 : Int32) + ((3 : Int32) * (mI σ 578 (131 : Int32).toNatClampNeg))) + (2 : Int32)).toNatClampNeg (mI (sI (sI σ 578 ((132 : Int32) + ((3 : Int32) * (mI σ 578 (131 : Int32).toNatClampNeg))).toNatClampNeg q3) 578 (((132 : Int32) + ((3 : Int32) * (mI σ 578 (131 : Int32).toNatClampNeg))) + (1 : Int32)).toNatClampNeg (mI (sI σ 578 ((132 : Int32) + ((3 : Int32) * (mI σ 578 (131 : Int32).toNatClampNeg))).toNatClampNeg q3) 578 (126 : Int32).toNatClampNeg)) 578 (129 : Int32).toNatClampNeg)) 578 (131 : Int32).toNatClampNeg) + (1 : Int32))))
      else none
    else none
  else none
def f_Model_goNow_L23  (a : Mem × Int32) : Option ((Mem × Int32) ⊕ (Mem)) :=
  @Prod.casesOn (Mem) (Int32) (fun _ => Option ((Mem × Int32) ⊕ (Mem))) a fun τ z1 =>
  if (177 : Int32) < z1 then
    some (.inr τ)
  else
    if inb (((131 : Int32) + z1) + (3 : Int32)) 312 then
      if inb ((131 : Int32) + z1) 312 then
        some (.inl ((sI τ 578 ((131 : Int32) + z1).toNatClampNeg (mI τ 578 (((131 : Int32) + z1) + (3 : Int32)).toNatClampNeg)), (z1 + (1 : Int32))))
      else none
    else none
def f_Model_goNow (σ : Mem)  : Option (Int32 × Mem) :=
  (f_Model_passes σ 578).bind fun q1 =>
  if (mI q1 578 (131 : Int32).toNatClampNeg) = (60 : Int32) then
    (loopF (f_Model_goNow_L23 ) FU (q1, (1 : Int32))).bind fun w11 =>
    f_Model_goNow_J70 (sI w11 578 (131 : Int32).toNatClampNeg ((mI w11 578 (131 : Int32).toNatClampNeg) - (1 : Int32))) 
  else
    f_Model_goNow_J70 q1 
set_option maxHeartbeats 4000000 in
set_option maxRecDepth 20000 in
theorem g_Model_goNow_J70 (X : Cx θ p s m args c cX11_goNow 2 RX11) (hr : meth.sig.returnType = some .int) (hlk : meth.locks = false)  {σ : Mem}  {r : Int32 × Mem}  (h : f_Model_goNow_J70 σ  = some r) : GB θ p l e 66 s m args below meth c 2 (some (.int r.1), r.2) 70 [(0, .ref (be θ + 565))] [] σ := by
  unfold f_Model_goNow_J70 at h
  refine g_sipush X dX11_goNow_70 (v := (132 : Int32)) sp_132 ?_
  refine g_iconst X dX11_goNow_73 (v := (3 : Int32)) ic_3 ?_
  refine g_aload_n X dX11_goNow_74 rfl 0 rfl ?_
  refine g_get X fl_RX11_61 dX11_goNow_75 kd_565 (v := .ref (be θ + 578)) rfl ?_
  refine g_sipush X dX11_goNow_78 (v := (131 : Int32)) sp_131 ?_
  refine g_iald X kd_578 ln_578 (inb_in (show inb (131 : Int32) 312 = true by decide)) dX11_goNow_81 ?_
  refine g_imul X dX11_goNow_82 ?_
  refine g_iadd X dX11_goNow_83 ?_
  refine g_istore_n X dX11_goNow_84 rfl (by decide) (lv' := [(1, .int ((132 : Int32) + ((3 : Int32) * (mI σ 578 (131 : Int32).toNatClampNeg)))), (0, .ref (be θ + 565))]) rfl ?_
  refine g_aload_n X dX11_goNow_85 rfl 1 rfl ?_
  refine g_get X fl_RX11_61 dX11_goNow_86 kd_565 (v := .ref (be θ + 578)) rfl ?_
  refine g_iload_n X dX11_goNow_89 rfl 0 rfl ?_
  refine g_aload_n X dX11_goNow_90 rfl 1 rfl ?_
  refine g_aload_n X dX11_goNow_91 rfl 1 rfl ?_
  refine g_get X fl_RX11_61 dX11_goNow_92 kd_565 (v := .ref (be θ + 578)) rfl ?_
  obtain ⟨q3, hq3, h⟩ := Option.bind_eq_some_iff.mp h
  refine g_cV X (c_Model_holders kd_578 hq3) lk_RX11_405 my_X11_holders (a := 565) (ci := 11) kd_565 (by decide) rfl (As := [.ref (be θ + 578)]) (rest := [.int ((132 : Int32) + ((3 : Int32) * (mI σ 578 (131 : Int32).toNatClampNeg))), .ref (be θ + 578)]) rfl rfl (Nat.le_of_ble_eq_true rfl) ⟨(Nat.le_of_ble_eq_true rfl), (Nat.le_of_ble_eq_true rfl)⟩ ⟨(Nat.le_of_ble_eq_true rfl), (Nat.le_of_ble_eq_true rfl)⟩ dX11_goNow_95 (st' := [.int q3, .int ((132 : Int32) + ((3 : Int32) * (mI σ 578 (131 : Int32).toNatClampNeg))), .ref (be θ + 578)]) (σ' := σ) rfl rfl ?_
  obtain ⟨g4, h⟩ := ite_some h
  refine g_iast X kd_578 ln_578 (inb_in g4) dX11_goNow_98 ?_
  refine g_aload_n X dX11_goNow_99 rfl 1 rfl ?_
  refine g_get X fl_RX11_61 dX11_goNow_100 kd_565 (v := .ref (be θ + 578)) rfl ?_
  refine g_iload_n X dX11_goNow_103 rfl 0 rfl ?_
  refine g_iconst X dX11_goNow_104 (v := (1 : Int32)) ic_1 ?_
  refine g_iadd X dX11_goNow_105 ?_
  refine g_aload_n X dX11_goNow_106 rfl 1 rfl ?_
  refine g_get X fl_RX11_61 dX11_goNow_107 kd_565 (v := .ref (be θ + 578)) rfl ?_
  refine g_bipush X dX11_goNow_110 (v := (126 : Int32)) bp_126 ?_
  refine g_iald X kd_578 ln_578 (inb_in (show inb (126 : Int32) 312 = true by decide)) dX11_goNow_112 ?_
  obtain ⟨g5, h⟩ := ite_some h
  refine g_iast X kd_578 ln_578 (inb_in g5) dX11_goNow_113 ?_
  refine g_aload_n X dX11_goNow_114 rfl 1 rfl ?_
  refine g_get X fl_RX11_61 dX11_goNow_115 kd_565 (v := .ref (be θ + 578)) rfl ?_
  refine g_iload_n X dX11_goNow_118 rfl 0 rfl ?_
  refine g_iconst X dX11_goNow_119 (v := (2 : Int32)) ic_2 ?_
  refine g_iadd X dX11_goNow_120 ?_
  refine g_aload_n X dX11_goNow_121 rfl 1 rfl ?_
  refine g_get X fl_RX11_61 dX11_goNow_122 kd_565 (v := .ref (be θ + 578)) rfl ?_
  refine g_sipush X dX11_goNow_125 (v := (129 : Int32)) sp_129 ?_
  refine g_iald X kd_578 ln_578 (inb_in (show inb (129 : Int32) 312 = true by decide)) dX11_goNow_128 ?_
  obtain ⟨g6, h⟩ := ite_some h
  refine g_iast X kd_578 ln_578 (inb_in g6) dX11_goNow_129 ?_
  refine g_aload_n X dX11_goNow_130 rfl 1 rfl ?_
  refine g_get X fl_RX11_61 dX11_goNow_131 kd_565 (v := .ref (be θ + 578)) rfl ?_
  refine g_sipush X dX11_goNow_134 (v := (131 : Int32)) sp_131 ?_
  refine g_dup2 X dX11_goNow_137 rfl rfl ?_
  refine g_iald X kd_578 ln_578 (inb_in (show inb (131 : Int32) 312 = true by decide)) dX11_goNow_138 ?_
  refine g_iconst X dX11_goNow_139 (v := (1 : Int32)) ic_1 ?_
  refine g_iadd X dX11_goNow_140 ?_
  refine g_iast X kd_578 ln_578 (inb_in (show inb (131 : Int32) 312 = true by decide)) dX11_goNow_141 ?_
  refine g_aload_n X dX11_goNow_142 rfl 1 rfl ?_
  refine g_aload_n X dX11_goNow_143 rfl 1 rfl ?_
  refine g_get X fl_RX11_61 dX11_goNow_144 kd_565 (v := .ref (be θ + 578)) rfl ?_
  obtain ⟨q7, hq7, h⟩ := Option.bind_eq_some_iff.mp h
  refine g_cV X (c_Model_holders kd_578 hq7) lk_RX11_405 my_X11_holders (a := 565) (ci := 11) kd_565 (by decide) rfl (As := [.ref (be θ + 578)]) (rest := []) rfl rfl (Nat.le_of_ble_eq_true rfl) ⟨(Nat.le_of_ble_eq_true rfl), (Nat.le_of_ble_eq_true rfl)⟩ ⟨(Nat.le_of_ble_eq_true rfl), (Nat.le_of_ble_eq_true rfl)⟩ dX11_goNow_147 (st' := [.int q7]) (σ' := (sI (sI (sI (sI σ 578 ((132 : Int32) + ((3 : Int32) * (mI σ 578 (131 : Int32).toNatClampNeg))).toNatClampNeg q3) 578 (((132 : Int32) + ((3 : Int32) * (mI σ 578 (131 : Int32).toNatClampNeg))) + (1 : Int32)).toNatClampNeg (mI (sI σ 578 ((132 : Int32) + ((3 : Int32) * (mI σ 578 (131 : Int32).toNatClampNeg))).toNatClampNeg q3) 578 (126 : Int32).toNatClampNeg)) 578 (((132 : Int32) + ((3 : Int32) * (mI σ 578 (131 : Int32).toNatClampNeg))) + (2 : Int32)).toNatClampNeg (mI (sI (sI σ 578 ((132 : Int32) + ((3 : Int32) * (mI σ 578 (131 : Int32).toNatClampNeg))).toNatClampNeg q3) 578 (((132 : Int32) + ((3 : Int32) * (mI σ 578 (131 : Int32).toNatClampNeg))) + (1 : Int32)).toNatClampNeg (mI (sI σ 578 ((132 : Int32) + ((3 : Int32) * (mI σ 578 (131 : Int32).toNatClampNeg))).toNatClampNeg q3) 578 (126 : Int32).toNatClampNeg)) 578 (129 : Int32).toNatClampNeg)) 578 (131 : Int32).toNatClampNeg ((mI (sI (sI (sI σ 578 ((132 : Int32) + ((3 : Int32) * (mI σ 578 (131 : Int32).toNatClampNeg))).toNatClampNeg q3) 578 (((132 : Int32) + ((3 : Int32) * (mI σ 578 (131 : Int32).toNatClampNeg))) + (1 : Int32)).toNatClampNeg (mI (sI σ 578 ((132 : Int32) + ((3 : Int32) * (mI σ 578 (131 : Int32).toNatClampNeg))).toNatClampNeg q3) 578 (126 : Int32).toNatClampNeg)) 578 (((132 : Int32) + ((3 : Int32) * (mI σ 578 (131 : Int32).toNatClampNeg))) + (2 : Int32)).toNatClampNeg (mI (sI (sI σ 578 ((132 : Int32) + ((3 : Int32) * (mI σ 578 (131 : Int32).toNatClampNeg))).toNatClampNeg q3) 578 (((132 : Int32) + ((3 : Int32) * (mI σ 578 (131 : Int32).toNatClampNeg))) + (1 : Int32)).toNatClampNeg (mI (sI σ 578 ((132 : Int32) + ((3 : Int32) * (mI σ 578 (131 : Int32).toNatClampNeg))).toNatClampNeg q3) 578 (126 : Int32).toNatClampNeg)) 578 (129 : Int32).toNatClampNeg)) 578 (131 : Int32).toNatClampNeg) + (1 : Int32)))) rfl rfl ?_
  exact g_iret X hr hlk dX11_goNow_150 (by cases h; rfl)
set_option maxHeartbeats 4000000 in
set_option maxRecDepth 20000 in
theorem gs_Model_goNow_L23 (X : Cx θ p s m args c cX11_goNow 2 RX11) (hr : meth.sig.returnType = some .int) (hlk : meth.locks = false)   {r : Int32 × Mem}  (τ : Mem) (z1 : Int32) (x : (Mem × Int32) ⊕ (Mem)) (h : f_Model_goNow_L23  (τ, z1) = some x) (hk : Sum.elim (fun a => @Prod.casesOn (Mem) (Int32) (fun _ => Prop) a fun τ z1 => GB θ p l e 66 s m args below meth c 2 (some (.int r.1), r.2) 23 [(0, .ref (be θ + 565)), (1, .int z1)] [] τ) (fun w => GB θ p l e 66 s m args below meth c 2 (some (.int r.1), r.2) 58 [(0, .ref (be θ + 565))] [] w) x) : GB θ p l e 66 s m args below meth c 2 (some (.int r.1), r.2) 23 [(0, .ref (be θ + 565)), (1, .int z1)] [] τ := by
  unfold f_Model_goNow_L23 at h
  dsimp only at h
  refine g_iload_n X dX11_goNow_23 rfl 1 rfl ?_
  refine g_sipush X dX11_goNow_24 (v := (177 : Int32)) sp_177 ?_
  refine g_icmp_gt (tgt := 58) X dX11_goNow_27 (by decide) (fun c8 => ?_) (fun c8 => ?_)
  · replace h := (if_pos c8).symm.trans h
    have hk := inr_hk h hk
    exact g_sub (lv' := [(0, .ref (be θ + 565))]) [0] rfl hk
  · replace h := (if_neg c8).symm.trans h
    refine g_aload_n X dX11_goNow_30 rfl 0 rfl ?_
    refine g_get X fl_RX11_61 dX11_goNow_31 kd_565 (v := .ref (be θ + 578)) rfl ?_
    refine g_sipush X dX11_goNow_34 (v := (131 : Int32)) sp_131 ?_
    refine g_iload_n X dX11_goNow_37 rfl 1 rfl ?_
    refine g_iadd X dX11_goNow_38 ?_
    refine g_aload_n X dX11_goNow_39 rfl 0 rfl ?_
    refine g_get X fl_RX11_61 dX11_goNow_40 kd_565 (v := .ref (be θ + 578)) rfl ?_
    refine g_sipush X dX11_goNow_43 (v := (131 : Int32)) sp_131 ?_
    refine g_iload_n X dX11_goNow_46 rfl 1 rfl ?_
    refine g_iadd X dX11_goNow_47 ?_
    refine g_iconst X dX11_goNow_48 (v := (3 : Int32)) ic_3 ?_
    refine g_iadd X dX11_goNow_49 ?_
    obtain ⟨g9, h⟩ := ite_some h
    refine g_iald X kd_578 ln_578 (inb_in g9) dX11_goNow_50 ?_
    obtain ⟨g10, h⟩ := ite_some h
    refine g_iast X kd_578 ln_578 (inb_in g10) dX11_goNow_51 ?_
    refine g_iinc X dX11_goNow_52 (kq := 1) rfl (congrArg (HAdd.hAdd _) ic_1) (by decide) (lv' := [(1, .int (z1 + (1 : Int32))), (0, .ref (be θ + 565))]) rfl ?_
    refine g_goto (tgt := 23) X dX11_goNow_55 (by decide) ?_
    have hk := inl_hk h hk
    exact g_sub (lv' := [(0, .ref (be θ + 565)), (1, .int (z1 + (1 : Int32)))]) [1, 0] rfl hk
set_option maxHeartbeats 4000000 in
set_option maxRecDepth 20000 in
theorem gl_Model_goNow_L23 (X : Cx θ p s m args c cX11_goNow 2 RX11) (hr : meth.sig.returnType = some .int) (hlk : meth.locks = false)   {r : Int32 × Mem}  (n : Nat) (a : Mem × Int32) (b : Mem) (h : loopF (f_Model_goNow_L23 ) n a = some b) (hk : (fun w => GB θ p l e 66 s m args below meth c 2 (some (.int r.1), r.2) 58 [(0, .ref (be θ + 565))] [] w) b) : (fun a => @Prod.casesOn (Mem) (Int32) (fun _ => Prop) a fun τ z1 => GB θ p l e 66 s m args below meth c 2 (some (.int r.1), r.2) 23 [(0, .ref (be θ + 565)), (1, .int z1)] [] τ) a :=
  loopF_by (P := (fun a => @Prod.casesOn (Mem) (Int32) (fun _ => Prop) a fun τ z1 => GB θ p l e 66 s m args below meth c 2 (some (.int r.1), r.2) 23 [(0, .ref (be θ + 565)), (1, .int z1)] [] τ)) (K := (fun w => GB θ p l e 66 s m args below meth c 2 (some (.int r.1), r.2) 58 [(0, .ref (be θ + 565))] [] w)) (fun a x h hk => by obtain ⟨τ, z1⟩ := a; exact gs_Model_goNow_L23 X hr hlk   τ z1 x h hk) n a b h hk
set_option maxHeartbeats 4000000 in
set_option maxRecDepth 20000 in
theorem g_Model_goNow (X : Cx θ p s m args c cX11_goNow 2 RX11) (hr : meth.sig.returnType = some .int) (hlk : meth.locks = false)  {σ : Mem}  {r : Int32 × Mem}  (h : f_Model_goNow σ  = some r) : GB θ p l e 66 s m args below meth c 2 (some (.int r.1), r.2) 0 [(0, .ref (be θ + 565))] [] σ := by
  unfold f_Model_goNow at h
  refine g_aload_n X dX11_goNow_0 rfl 0 rfl ?_
  refine g_aload_n X dX11_goNow_1 rfl 0 rfl ?_
  refine g_get X fl_RX11_61 dX11_goNow_2 kd_565 (v := .ref (be θ + 578)) rfl ?_
  obtain ⟨q1, hq1, h⟩ := Option.bind_eq_some_iff.mp h
  refine g_cV X (c_Model_passes kd_578 hq1) lk_RX11_402 my_X11_passes (a := 565) (ci := 11) kd_565 (by decide) rfl (As := [.ref (be θ + 578)]) (rest := []) rfl rfl (Nat.le_of_ble_eq_true rfl) ⟨(Nat.le_of_ble_eq_true rfl), (Nat.le_of_ble_eq_true rfl)⟩ ⟨(Nat.le_of_ble_eq_true rfl), (Nat.le_of_ble_eq_true rfl)⟩ dX11_goNow_5 (st' := []) (σ' := q1) rfl rfl ?_
  refine g_aload_n X dX11_goNow_8 rfl 0 rfl ?_
  refine g_get X fl_RX11_61 dX11_goNow_9 kd_565 (v := .ref (be θ + 578)) rfl ?_
  refine g_sipush X dX11_goNow_12 (v := (131 : Int32)) sp_131 ?_
  refine g_iald X kd_578 ln_578 (inb_in (show inb (131 : Int32) 312 = true by decide)) dX11_goNow_15 ?_
  refine g_bipush X dX11_goNow_16 (v := (60 : Int32)) bp_60 ?_
  refine g_icmp_ne (tgt := 70) X dX11_goNow_18 (by decide) (fun c2 => ?_) (fun c2 => ?_)
  · replace h := (if_neg c2).symm.trans h
    exact g_sub (lv' := [(0, .ref (be θ + 565))]) [0] rfl (g_Model_goNow_J70 X hr hlk    h)
  · replace h := (if_pos c2).symm.trans h
    refine g_iconst X dX11_goNow_21 (v := (1 : Int32)) ic_1 ?_
    refine g_istore_n X dX11_goNow_22 rfl (by decide) (lv' := [(1, .int (1 : Int32)), (0, .ref (be θ + 565))]) rfl ?_
    obtain ⟨w11, hq11, h⟩ := Option.bind_eq_some_iff.mp h
    refine g_sub (lv' := [(0, .ref (be θ + 565)), (1, .int (1 : Int32))]) [1, 0] rfl (gl_Model_goNow_L23 X hr hlk    FU _ w11 hq11 ?_)
    refine g_aload_n X dX11_goNow_58 rfl 0 rfl ?_
    refine g_get X fl_RX11_61 dX11_goNow_59 kd_565 (v := .ref (be θ + 578)) rfl ?_
    refine g_sipush X dX11_goNow_62 (v := (131 : Int32)) sp_131 ?_
    refine g_dup2 X dX11_goNow_65 rfl rfl ?_
    refine g_iald X kd_578 ln_578 (inb_in (show inb (131 : Int32) 312 = true by decide)) dX11_goNow_66 ?_
    refine g_iconst X dX11_goNow_67 (v := (1 : Int32)) ic_1 ?_
    refine g_isub X dX11_goNow_68 ?_
    refine g_iast X kd_578 ln_578 (inb_in (show inb (131 : Int32) 312 = true by decide)) dX11_goNow_69 ?_
    exact g_sub (lv' := [(0, .ref (be θ + 565))]) [0] rfl (g_Model_goNow_J70 X hr hlk    h)
set_option maxHeartbeats 4000000 in
set_option maxRecDepth 20000 in
theorem c_Model_goNow {θ : Th} {l : Launch} {σ : Mem}  {r : Int32 × Mem}  (h : f_Model_goNow σ  = some r) : Cn θ l yX11_goNow cX11_goNow 2 (some .int) 66 0 0 [.ref (be θ + 565)] σ (some (.int r.1), r.2) :=
  Cn.of (by decide) (Nat.le_of_ble_eq_true rfl) (fun p e s m below meth c X hr hlk => g_Model_goNow X hr hlk  h)
end Z15
