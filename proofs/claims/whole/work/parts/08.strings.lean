theorem js_38 : Cond.fieldLink RJ0 38 "java/lang/String" "COMPACT_STRINGS" "Z" ∈ ALL := allT6 235 (by decide +kernel) rfl
theorem js_15 : Cond.fieldLink RJ0 15 "java/lang/String" "coder" "B" ∈ ALL := allT9 22 (by decide +kernel) rfl
theorem js_9 : Cond.fieldLink RJ0 9 "java/lang/String" "value" "[B" ∈ ALL := allT9 21 (by decide +kernel) rfl
theorem js_1053 : Cond.fieldLink RJ0 1053 "jdk/internal/util/Preconditions" "SIOOBE_FORMATTER" "Ljava/util/function/BiFunction;" ∈ ALL := allT7 14 (by decide +kernel) rfl
theorem jk_335 : Cond.methodLink RJ0 335 yJ0_coder_7d493 ∈ ALL := allT6 231 (by decide +kernel) rfl
theorem jk_492 : Cond.methodLink RJ0 492 yJ0_isLatin1_aae02 ∈ ALL := allT7 4 (by decide +kernel) rfl
theorem jk_495 : Cond.methodLink RJ0 495 yJ1_charAt_3b067 ∈ ALL := allT7 8 (by decide +kernel) rfl
theorem jk_1059 : Cond.methodLink RJ0 1059 yJ3_checkIndex_8e157 ∈ ALL := allT7 16 (by decide +kernel) rfl
theorem jk_9 : Cond.methodLink RJ1 9 yJ0_checkIndex_df160 ∈ ALL := allT7 11 (by decide +kernel) rfl
theorem my_J0_coder_7d493 : MyV yJ0_coder_7d493 cJ0_coder_7d493 1 (some .byte) 0 := ⟨⟨allT6 232 (by decide +kernel) rfl, allT6 233 (by decide +kernel) rfl, allT1 14 (by decide +kernel) rfl, allT6 234 (by decide +kernel) rfl⟩, by decide +kernel, by decide +kernel, by decide +kernel⟩
theorem my_J0_isLatin1_aae02 : MyV yJ0_isLatin1_aae02 cJ0_isLatin1_aae02 1 (some .boolean) 0 := ⟨⟨allT7 5 (by decide +kernel) rfl, allT7 6 (by decide +kernel) rfl, allT1 14 (by decide +kernel) rfl, allT7 7 (by decide +kernel) rfl⟩, by decide +kernel, by decide +kernel, by decide +kernel⟩
theorem my_J1_charAt_3b067 : MyS yJ1_charAt_3b067 cJ1_charAt_3b067 2 (some .char) 2 := ⟨⟨allT7 9 (by decide +kernel) rfl, allT1 15 (by decide +kernel) rfl, allT7 10 (by decide +kernel) rfl⟩, by decide +kernel, by decide +kernel, by decide +kernel⟩
theorem my_J3_checkIndex_8e157 : MyS yJ3_checkIndex_8e157 cJ3_checkIndex_8e157 3 (some .int) 3 := ⟨⟨allT7 17 (by decide +kernel) rfl, allT1 16 (by decide +kernel) rfl, allT7 18 (by decide +kernel) rfl⟩, by decide +kernel, by decide +kernel, by decide +kernel⟩
theorem my_J0_checkIndex_df160 : MyS yJ0_checkIndex_df160 cJ0_checkIndex_df160 2 none 2 := ⟨⟨allT7 12 (by decide +kernel) rfl, allT1 14 (by decide +kernel) rfl, allT7 13 (by decide +kernel) rfl⟩, by decide +kernel, by decide +kernel, by decide +kernel⟩
theorem dJ0_coder_7d493_0 : decode cJ0_coder_7d493 0 = .ok (.getstatic 38, 3) := by decide +kernel
theorem dJ0_coder_7d493_3 : decode cJ0_coder_7d493 3 = .ok (.ifCond .eq 10, 3) := by decide +kernel
theorem dJ0_coder_7d493_6 : decode cJ0_coder_7d493 6 = .ok (.aload_n 0, 1) := by decide +kernel
theorem dJ0_coder_7d493_7 : decode cJ0_coder_7d493 7 = .ok (.getfield 15, 3) := by decide +kernel
theorem dJ0_coder_7d493_10 : decode cJ0_coder_7d493 10 = .ok (.goto 4, 3) := by decide +kernel
theorem dJ0_coder_7d493_13 : decode cJ0_coder_7d493 13 = .ok (.iconst 1, 1) := by decide +kernel
theorem dJ0_coder_7d493_14 : decode cJ0_coder_7d493 14 = .ok (.ireturn, 1) := by decide +kernel
theorem dJ0_isLatin1_aae02_0 : decode cJ0_isLatin1_aae02 0 = .ok (.getstatic 38, 3) := by decide +kernel
theorem dJ0_isLatin1_aae02_3 : decode cJ0_isLatin1_aae02 3 = .ok (.ifCond .eq 14, 3) := by decide +kernel
theorem dJ0_isLatin1_aae02_6 : decode cJ0_isLatin1_aae02 6 = .ok (.aload_n 0, 1) := by decide +kernel
theorem dJ0_isLatin1_aae02_7 : decode cJ0_isLatin1_aae02 7 = .ok (.getfield 15, 3) := by decide +kernel
theorem dJ0_isLatin1_aae02_10 : decode cJ0_isLatin1_aae02 10 = .ok (.ifCond .ne 7, 3) := by decide +kernel
theorem dJ0_isLatin1_aae02_13 : decode cJ0_isLatin1_aae02 13 = .ok (.iconst 1, 1) := by decide +kernel
theorem dJ0_isLatin1_aae02_14 : decode cJ0_isLatin1_aae02 14 = .ok (.goto 4, 3) := by decide +kernel
theorem dJ0_isLatin1_aae02_17 : decode cJ0_isLatin1_aae02 17 = .ok (.iconst 0, 1) := by decide +kernel
theorem dJ0_isLatin1_aae02_18 : decode cJ0_isLatin1_aae02 18 = .ok (.ireturn, 1) := by decide +kernel
theorem dJ1_charAt_3b067_0 : decode cJ1_charAt_3b067 0 = .ok (.iload_n 1, 1) := by decide +kernel
theorem dJ1_charAt_3b067_1 : decode cJ1_charAt_3b067 1 = .ok (.aload_n 0, 1) := by decide +kernel
theorem dJ1_charAt_3b067_2 : decode cJ1_charAt_3b067 2 = .ok (.arraylength, 1) := by decide +kernel
theorem dJ1_charAt_3b067_3 : decode cJ1_charAt_3b067 3 = .ok (.invokestatic 9, 3) := by decide +kernel
theorem dJ1_charAt_3b067_6 : decode cJ1_charAt_3b067 6 = .ok (.aload_n 0, 1) := by decide +kernel
theorem dJ1_charAt_3b067_7 : decode cJ1_charAt_3b067 7 = .ok (.iload_n 1, 1) := by decide +kernel
theorem dJ1_charAt_3b067_8 : decode cJ1_charAt_3b067 8 = .ok (.baload, 1) := by decide +kernel
theorem dJ1_charAt_3b067_9 : decode cJ1_charAt_3b067 9 = .ok (.sipush 255, 3) := by decide +kernel
theorem dJ1_charAt_3b067_12 : decode cJ1_charAt_3b067 12 = .ok (.iand, 1) := by decide +kernel
theorem dJ1_charAt_3b067_13 : decode cJ1_charAt_3b067 13 = .ok (.i2c, 1) := by decide +kernel
theorem dJ1_charAt_3b067_14 : decode cJ1_charAt_3b067 14 = .ok (.ireturn, 1) := by decide +kernel
theorem dJ3_checkIndex_8e157_0 : decode cJ3_checkIndex_8e157 0 = .ok (.iload_n 0, 1) := by decide +kernel
theorem dJ3_checkIndex_8e157_1 : decode cJ3_checkIndex_8e157 1 = .ok (.ifCond .lt 8, 3) := by decide +kernel
theorem dJ3_checkIndex_8e157_4 : decode cJ3_checkIndex_8e157 4 = .ok (.iload_n 0, 1) := by decide +kernel
theorem dJ3_checkIndex_8e157_5 : decode cJ3_checkIndex_8e157 5 = .ok (.iload_n 1, 1) := by decide +kernel
theorem dJ3_checkIndex_8e157_6 : decode cJ3_checkIndex_8e157 6 = .ok (.if_icmp .lt 10, 3) := by decide +kernel
theorem dJ3_checkIndex_8e157_9 : decode cJ3_checkIndex_8e157 9 = .ok (.aload_n 2, 1) := by decide +kernel
theorem dJ3_checkIndex_8e157_10 : decode cJ3_checkIndex_8e157 10 = .ok (.iload_n 0, 1) := by decide +kernel
theorem dJ3_checkIndex_8e157_11 : decode cJ3_checkIndex_8e157 11 = .ok (.iload_n 1, 1) := by decide +kernel
theorem dJ3_checkIndex_8e157_12 : decode cJ3_checkIndex_8e157 12 = .ok (.invokestatic 95, 3) := by decide +kernel
theorem dJ3_checkIndex_8e157_15 : decode cJ3_checkIndex_8e157 15 = .ok (.athrow, 1) := by decide +kernel
theorem dJ3_checkIndex_8e157_16 : decode cJ3_checkIndex_8e157 16 = .ok (.iload_n 0, 1) := by decide +kernel
theorem dJ3_checkIndex_8e157_17 : decode cJ3_checkIndex_8e157 17 = .ok (.ireturn, 1) := by decide +kernel
theorem dJ0_checkIndex_df160_0 : decode cJ0_checkIndex_df160 0 = .ok (.iload_n 0, 1) := by decide +kernel
theorem dJ0_checkIndex_df160_1 : decode cJ0_checkIndex_df160 1 = .ok (.iload_n 1, 1) := by decide +kernel
theorem dJ0_checkIndex_df160_2 : decode cJ0_checkIndex_df160 2 = .ok (.getstatic 1053, 3) := by decide +kernel
theorem dJ0_checkIndex_df160_5 : decode cJ0_checkIndex_df160 5 = .ok (.invokestatic 1059, 3) := by decide +kernel
theorem dJ0_checkIndex_df160_8 : decode cJ0_checkIndex_df160 8 = .ok (.pop, 1) := by decide +kernel
theorem dJ0_checkIndex_df160_9 : decode cJ0_checkIndex_df160 9 = .ok (.return_, 1) := by decide +kernel
theorem dJ0_length_8abf5_0 : decode cJ0_length_8abf5 0 = .ok (.aload_n 0, 1) := by decide +kernel
theorem dJ0_length_8abf5_1 : decode cJ0_length_8abf5 1 = .ok (.getfield 9, 3) := by decide +kernel
theorem dJ0_length_8abf5_4 : decode cJ0_length_8abf5 4 = .ok (.arraylength, 1) := by decide +kernel
theorem dJ0_length_8abf5_5 : decode cJ0_length_8abf5 5 = .ok (.aload_n 0, 1) := by decide +kernel
theorem dJ0_length_8abf5_6 : decode cJ0_length_8abf5 6 = .ok (.invokevirtual 335, 3) := by decide +kernel
theorem dJ0_length_8abf5_9 : decode cJ0_length_8abf5 9 = .ok (.ishr, 1) := by decide +kernel
theorem dJ0_length_8abf5_10 : decode cJ0_length_8abf5 10 = .ok (.ireturn, 1) := by decide +kernel
theorem dJ0_charAt_5068e_0 : decode cJ0_charAt_5068e 0 = .ok (.aload_n 0, 1) := by decide +kernel
theorem dJ0_charAt_5068e_1 : decode cJ0_charAt_5068e 1 = .ok (.invokevirtual 492, 3) := by decide +kernel
theorem dJ0_charAt_5068e_4 : decode cJ0_charAt_5068e 4 = .ok (.ifCond .eq 12, 3) := by decide +kernel
theorem dJ0_charAt_5068e_7 : decode cJ0_charAt_5068e 7 = .ok (.aload_n 0, 1) := by decide +kernel
theorem dJ0_charAt_5068e_8 : decode cJ0_charAt_5068e 8 = .ok (.getfield 9, 3) := by decide +kernel
theorem dJ0_charAt_5068e_11 : decode cJ0_charAt_5068e 11 = .ok (.iload_n 1, 1) := by decide +kernel
theorem dJ0_charAt_5068e_12 : decode cJ0_charAt_5068e 12 = .ok (.invokestatic 495, 3) := by decide +kernel
theorem dJ0_charAt_5068e_15 : decode cJ0_charAt_5068e 15 = .ok (.ireturn, 1) := by decide +kernel
theorem dJ0_charAt_5068e_16 : decode cJ0_charAt_5068e 16 = .ok (.aload_n 0, 1) := by decide +kernel
theorem dJ0_charAt_5068e_17 : decode cJ0_charAt_5068e 17 = .ok (.getfield 9, 3) := by decide +kernel
theorem dJ0_charAt_5068e_20 : decode cJ0_charAt_5068e 20 = .ok (.iload_n 1, 1) := by decide +kernel
theorem dJ0_charAt_5068e_21 : decode cJ0_charAt_5068e 21 = .ok (.invokestatic 498, 3) := by decide +kernel
theorem dJ0_charAt_5068e_24 : decode cJ0_charAt_5068e 24 = .ok (.ireturn, 1) := by decide +kernel
/-! the two methods of String, over the String constants -/
section GU
variable {θ : Th} {p : Program} {l : Launch} {e : Env} {R : Room} {s : State} {m : MethodId} {args : Array Value} {below : List Frame} {meth : Method} {c : Code} {cc : ByteArray} {own : String} {nL cells slots pc : Nat} {Q : State → Prop} {lv : List (Nat × Value)} {st : List Value} {σ : Mem}
theorem g_nret (X : Cx θ p s m args c cc nL own) {r : Option Value × Mem} {v : Int32} {ty : FieldType} (hr : meth.sig.returnType = some ty) (hlk : meth.locks = false) (hn : narrow ty (.int v) = .int v) (hd : decode cc pc = .ok (.ireturn, 1)) (h : r = (some (.int v), σ)) : G θ p l e R s m args below meth c nL cells slots (MQ below (Qy θ r) args s cells slots (Aq θ)) pc lv [.int v] σ := by
  subst h
  intro H locs ls hW hS hl
  exact W.zret X.1.1 X.1.2.1 hr hn (fun t ht hw => ⟨⟨rfl, Pr.of X hW hS ht hw⟩, hS.F ht⟩) hS.2.2 hd hlk
theorem g_sget (X : Cx θ p s m args c cc nL own) {k idx : Nat} {n d : String} {v : Value} (hE : va_OF "java/lang/String" n d v (sA θ k) (Aq θ) s s.heap) (hl' : Cond.fieldLink own idx "java/lang/String" n d ∈ ALL) (hd : decode cc pc = .ok (.getfield idx, 3)) (kk : G θ p l e R s m args below meth c nL cells slots Q (pc + 3) lv (v :: st) σ) : G θ p l e R s m args below meth c nL cells slots Q pc lv (.ref (sA θ k) :: st) σ := fun H locs ls hW hS hl =>
  vk_getf X.1.1 X.1.2.1 hE hS X.1.2.2.2.1 (X.1.2.2.2.2 _ hl') (fun _ h => h) hd (kk H locs ls hW hS hl)
theorem g_tb (X : Cx θ p s m args c cc nL own) {t N : Nat} {f : Nat → Int32} {i : Int32} (hT : va_T .byte t N (fun j => .int (f j)) (Aq θ) s s.heap) (hi : vp_in i N) (hd : decode cc pc = .ok (.baload, 1)) (kk : G θ p l e R s m args below meth c nL cells slots Q (pc + 1) lv (.int (f i.toNatClampNeg) :: st) σ) : G θ p l e R s m args below meth c nL cells slots Q pc lv (.int i :: .ref t :: st) σ := fun H locs ls hW hS hl => va_tb X.1.1 X.1.2.1 hT hS hi rfl hd (kk H locs ls hW hS hl)
theorem g_i2c (X : Cx θ p s m args c cc nL own) {x v : Int32} (hd : decode cc pc = .ok (.i2c, 1)) (hv : (x.toUInt32 % 65536).toInt32 = v) (k : G θ p l e R s m args below meth c nL cells slots Q (pc + 1) lv (.int v :: st) σ) : G θ p l e R s m args below meth c nL cells slots Q pc lv (.int x :: st) σ := fun H locs ls hW hS hl => lv_i2c X.1.1 X.1.2.1 hd hv (k H locs ls hW hS hl)
theorem g_aloadV (X : Cx θ p s m args c cc nL own) {k : Fin 4} {i kq : Nat} {v : Value} (hv : v = .null ∨ ∃ t, v = .ref t) (hd : decode cc pc = .ok (.aload_n k, 1)) (hi : (k : Nat) = i) (hq : lv[kq]? = some (i, v)) (kk : G θ p l e R s m args below meth c nL cells slots Q (pc + 1) lv (v :: st) σ) : G θ p l e R s m args below meth c nL cells slots Q pc lv st σ := by
  intro H locs ls hW hS hl
  rcases hv with rfl | ⟨t, rfl⟩
  · exact lv_aload_nN X.1.1 X.1.2.1 hd hi (lv_at hl kq hq) (kk H locs ls hW hS hl)
  · exact lv_aload_n X.1.1 X.1.2.1 hd hi (lv_at hl kq hq) (kk H locs ls hW hS hl)
end GU
theorem c_str_coder {θ : Th} {l : Launch} {σ : Mem} {k : Nat} (hk : k < 6) : Cn θ l yJ0_coder_7d493 cJ0_coder_7d493 1 (some .byte) 0 0 0 [.ref (sA θ k)] σ (some (.int 0), σ) := by
  refine Cn.of (by decide) (Nat.le_of_ble_eq_true rfl) (fun p e s m below meth c X hr hlk => ?_)
  refine g_gets X X.2.2.1.2.2.2.1 js_38 dJ0_coder_7d493_0 ?_
  refine g_if_eq (tgt := 13) X dJ0_coder_7d493_3 (by decide) (fun c1 => absurd c1 (by decide)) (fun c1 => ?_)
  refine g_aload_n X dJ0_coder_7d493_6 rfl 0 rfl ?_
  refine g_sget X (X.2.2.1.2.1.1 k hk).2.1 js_15 dJ0_coder_7d493_7 ?_
  refine g_goto (tgt := 14) X dJ0_coder_7d493_10 (by decide) ?_
  exact g_nret X hr hlk (by decide) dJ0_coder_7d493_14 rfl
theorem c_str_isLatin1 {θ : Th} {l : Launch} {σ : Mem} {k : Nat} (hk : k < 6) : Cn θ l yJ0_isLatin1_aae02 cJ0_isLatin1_aae02 1 (some .boolean) 0 0 0 [.ref (sA θ k)] σ (some (.int 1), σ) := by
  refine Cn.of (by decide) (Nat.le_of_ble_eq_true rfl) (fun p e s m below meth c X hr hlk => ?_)
  refine g_gets X X.2.2.1.2.2.2.1 js_38 dJ0_isLatin1_aae02_0 ?_
  refine g_if_eq (tgt := 17) X dJ0_isLatin1_aae02_3 (by decide) (fun c1 => absurd c1 (by decide)) (fun c1 => ?_)
  refine g_aload_n X dJ0_isLatin1_aae02_6 rfl 0 rfl ?_
  refine g_sget X (X.2.2.1.2.1.1 k hk).2.1 js_15 dJ0_isLatin1_aae02_7 ?_
  refine g_if_ne (tgt := 17) X dJ0_isLatin1_aae02_10 (by decide) (fun c1 => absurd rfl c1) (fun c1 => ?_)
  refine g_iconst X dJ0_isLatin1_aae02_13 (v := (1 : Int32)) ic_1 ?_
  refine g_goto (tgt := 18) X dJ0_isLatin1_aae02_14 (by decide) ?_
  exact g_zret X hr hlk bz1 dJ0_isLatin1_aae02_18 rfl
theorem c_str_length {θ : Th} {l : Launch} {σ : Mem} {k : Nat} (hk : k < 6) : Cn θ l yJ0_length_8abf5 cJ0_length_8abf5 1 (some .int) 1 0 0 [.ref (sA θ k)] σ (some (.int (slen k)), σ) := by
  refine Cn.of (by decide) (Nat.le_of_ble_eq_true rfl) (fun p e s m below meth c X hr hlk => ?_)
  refine g_aload_n X dJ0_length_8abf5_0 rfl 0 rfl ?_
  refine g_sget X (X.2.2.1.2.1.1 k hk).2.2.1 js_9 dJ0_length_8abf5_1 ?_
  refine g_tlen X (X.2.2.1.2.1.1 k hk).2.2.2 (v := slen k) rfl dJ0_length_8abf5_4 ?_
  refine g_aload_n X dJ0_length_8abf5_5 rfl 0 rfl ?_
  refine g_cT X (c_str_coder hk) jk_335 my_J0_coder_7d493 hk rfl (As := []) (rest := [.int (slen k)]) rfl rfl (Nat.le_of_ble_eq_true rfl) ⟨Nat.le_of_ble_eq_true rfl, Nat.le_of_ble_eq_true rfl⟩ ⟨Nat.le_of_ble_eq_true rfl, Nat.le_of_ble_eq_true rfl⟩ dJ0_length_8abf5_6 (st' := [.int 0, .int (slen k)]) rfl rfl ?_
  refine g_ishr X dJ0_length_8abf5_9 ?_
  refine g_iret X hr hlk dJ0_length_8abf5_10 ?_
  rw [show slen k >>> ((0 : Int32) &&& 31) = slen k from (show ∀ k, k < 6 → slen k >>> ((0 : Int32) &&& 31) = slen k by decide +kernel) k hk]
theorem c_pre_checkIndex {θ : Th} {l : Launch} {σ : Mem} {i n : Int32} {v : Value} (hv : v = .null ∨ ∃ t, v = .ref t) (h1 : ¬ i < 0) (h2 : i < n) : Cn θ l yJ3_checkIndex_8e157 cJ3_checkIndex_8e157 3 (some .int) 0 0 0 [.int i, .int n, v] σ (some (.int i), σ) := by
  have hc : v.category = 1 := by rcases hv with rfl | ⟨t, rfl⟩ <;> rfl
  refine Cn.of (by decide) (by rcases hv with rfl | ⟨t, rfl⟩ <;> exact Nat.le_of_ble_eq_true rfl) (fun p e s m below meth c X hr hlk => ?_)
  refine g_iload_n X dJ3_checkIndex_8e157_0 rfl 0 rfl ?_
  refine g_if_lt (tgt := 9) X dJ3_checkIndex_8e157_1 (by decide) (fun c1 => absurd c1 h1) (fun c1 => ?_)
  refine g_iload_n X dJ3_checkIndex_8e157_4 rfl 0 rfl ?_
  refine g_iload_n X dJ3_checkIndex_8e157_5 rfl 1 rfl ?_
  refine g_icmp_lt (tgt := 16) X dJ3_checkIndex_8e157_6 (by decide) (fun c2 => ?_) (fun c2 => absurd h2 c2)
  refine g_iload_n X dJ3_checkIndex_8e157_16 rfl 0 rfl ?_
  exact g_iret X hr hlk dJ3_checkIndex_8e157_17 rfl
theorem c_str_checkIndex {θ : Th} {l : Launch} {σ : Mem} {i n : Int32} (h1 : ¬ i < 0) (h2 : i < n) : Cn θ l yJ0_checkIndex_df160 cJ0_checkIndex_df160 2 none 1 0 0 [.int i, .int n] σ (none, σ) := by
  refine Cn.of (by decide) (Nat.le_of_ble_eq_true rfl) (fun p e s m below meth c X hr hlk => ?_)
  refine g_iload_n X dJ0_checkIndex_df160_0 rfl 0 rfl ?_
  refine g_iload_n X dJ0_checkIndex_df160_1 rfl 1 rfl ?_
  have key : ∀ v : Value, (v = .null ∨ ∃ t, v = .ref t) → va_Z "jdk/internal/util/Preconditions" "SIOOBE_FORMATTER" "Ljava/util/function/BiFunction;" v (Aq θ) s s.heap → G θ p l e (rmq 1 0 0) s m [.int i, .int n].toArray below meth c 2 0 0 (MQ below (Qy θ (none, σ)) [.int i, .int n].toArray s 0 0 (Aq θ)) 2 (lv_args 0 [.int i, .int n]) [.int n, .int i] σ := by
    intro v hv hZ
    refine g_gets X hZ js_1053 dJ0_checkIndex_df160_2 ?_
    refine g_cS X (c_pre_checkIndex hv h1 h2) jk_1059 my_J3_checkIndex_8e157 (As := [.int i, .int n, v]) (rest := []) rfl rfl (Nat.le_of_ble_eq_true rfl) ⟨Nat.le_of_ble_eq_true rfl, Nat.le_of_ble_eq_true rfl⟩ ⟨Nat.le_of_ble_eq_true rfl, Nat.le_of_ble_eq_true rfl⟩ dJ0_checkIndex_df160_5 (st' := [.int i]) rfl rfl ?_
    refine g_pop X dJ0_checkIndex_df160_8 rfl ?_
    exact g_vret X hr hlk dJ0_checkIndex_df160_9 rfl
  rcases X.2.2.1.2.2.2.2.1 with h | ⟨t, h⟩
  · exact key _ (Or.inl rfl) h
  · exact key _ (Or.inr ⟨t, rfl⟩) h
theorem stn_lt : ∀ k, k < 6 → stn.getD k 0 < 10 := by decide +kernel
theorem c_lat_charAt {θ : Th} {l : Launch} {σ : Mem} {k : Nat} {i : Int32} (hk : k < 6) (hi : vp_in i (stn.getD k 0)) : Cn θ l yJ1_charAt_3b067 cJ1_charAt_3b067 2 (some .char) 2 0 0 [.ref (sV θ k), .int i] σ (some (.int (schr k i.toNatClampNeg)), σ) := by
  obtain ⟨j, hj, rfl⟩ := vp_in_of hi (Nat.lt_trans (stn_lt k hk) (by decide))
  have hj31 : j < 2 ^ 31 := by have := stn_lt k hk; omega
  refine Cn.of (by decide) (Nat.le_of_ble_eq_true rfl) (fun p e s m below meth c X hr hlk => ?_)
  refine g_iload_n X dJ1_charAt_3b067_0 rfl 1 rfl ?_
  refine g_aload_n X dJ1_charAt_3b067_1 rfl 0 rfl ?_
  refine g_tlen X (X.2.2.1.2.1.1 k hk).2.2.2 (v := nI (stn.getD k 0)) rfl dJ1_charAt_3b067_2 ?_
  refine g_cS X (c_str_checkIndex (nI_pos hj31) (nI_lt hj (by have := stn_lt k hk; omega))) jk_9 my_J0_checkIndex_df160 (As := [.int (nI j), .int (nI (stn.getD k 0))]) (rest := []) rfl rfl (Nat.le_of_ble_eq_true rfl) ⟨Nat.le_of_ble_eq_true rfl, Nat.le_of_ble_eq_true rfl⟩ ⟨Nat.le_of_ble_eq_true rfl, Nat.le_of_ble_eq_true rfl⟩ dJ1_charAt_3b067_3 (st' := []) rfl rfl ?_
  refine g_aload_n X dJ1_charAt_3b067_6 rfl 0 rfl ?_
  refine g_iload_n X dJ1_charAt_3b067_7 rfl 1 rfl ?_
  refine g_tb X (X.2.2.1.2.1.1 k hk).2.2.2 hi dJ1_charAt_3b067_8 ?_
  refine g_sipush X dJ1_charAt_3b067_9 (v := (255 : Int32)) sp_255 ?_
  refine g_iand X dJ1_charAt_3b067_12 ?_
  have hs : ∀ k, k < 6 → ∀ j, j < 10 → ((((sts.getD k []).getD j 0 &&& 255).toUInt32 % 65536).toInt32 = (sts.getD k []).getD j 0 ∧ narrow .char (.int ((sts.getD k []).getD j 0)) = .int ((sts.getD k []).getD j 0)) := by decide +kernel
  have hj10 : j < 10 := by have := stn_lt k hk; omega
  refine g_i2c X dJ1_charAt_3b067_13 (v := schr k (nI j).toNatClampNeg) (by rw [nI_clamp hj31]; exact (hs k hk j hj10).1) ?_
  refine g_nret X hr hlk ?_ dJ1_charAt_3b067_14 rfl
  rw [nI_clamp hj31]
  exact (hs k hk j hj10).2
theorem c_str_charAt {θ : Th} {l : Launch} {σ : Mem} {k : Nat} {i : Int32} (hk : k < 6) (hi : vp_in i (stn.getD k 0)) : Cn θ l yJ0_charAt_5068e cJ0_charAt_5068e 2 (some .char) 3 0 0 [.ref (sA θ k), .int i] σ (some (.int (schr k i.toNatClampNeg)), σ) := by
  refine Cn.of (by decide) (Nat.le_of_ble_eq_true rfl) (fun p e s m below meth c X hr hlk => ?_)
  refine g_aload_n X dJ0_charAt_5068e_0 rfl 0 rfl ?_
  refine g_cT X (c_str_isLatin1 hk) jk_492 my_J0_isLatin1_aae02 hk rfl (As := []) (rest := []) rfl rfl (Nat.le_of_ble_eq_true rfl) ⟨Nat.le_of_ble_eq_true rfl, Nat.le_of_ble_eq_true rfl⟩ ⟨Nat.le_of_ble_eq_true rfl, Nat.le_of_ble_eq_true rfl⟩ dJ0_charAt_5068e_1 (st' := [.int 1]) rfl rfl ?_
  refine g_if_eq (tgt := 16) X dJ0_charAt_5068e_4 (by decide) (fun c1 => absurd c1 (by decide)) (fun c1 => ?_)
  refine g_aload_n X dJ0_charAt_5068e_7 rfl 0 rfl ?_
  refine g_sget X (X.2.2.1.2.1.1 k hk).2.2.1 js_9 dJ0_charAt_5068e_8 ?_
  refine g_iload_n X dJ0_charAt_5068e_11 rfl 1 rfl ?_
  refine g_cS X (c_lat_charAt hk hi) jk_495 my_J1_charAt_3b067 (As := [.ref (sV θ k), .int i]) (rest := []) rfl rfl (Nat.le_of_ble_eq_true rfl) ⟨Nat.le_of_ble_eq_true rfl, Nat.le_of_ble_eq_true rfl⟩ ⟨Nat.le_of_ble_eq_true rfl, Nat.le_of_ble_eq_true rfl⟩ dJ0_charAt_5068e_12 (st' := [.int (schr k i.toNatClampNeg)]) rfl rfl ?_
  refine g_nret X hr hlk ?_ dJ0_charAt_5068e_15 rfl
  have hs : ∀ k, k < 6 → ∀ j, j < 10 → narrow .char (.int (schr k j)) = .int (schr k j) := by decide +kernel
  have h10 := stn_lt k hk
  have hlt := in_lt hi
  exact hs k hk _ (by omega)
