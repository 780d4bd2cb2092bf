/-! the constructor of the class (laid by wip/tools/ini.py) -/
theorem iX4_keep {θ : Th} (V : Nat → Nat → Value) (b : Nat) (h : b < 26) : iX4 θ V b = V b := by
  unfold iX4
  rw [fillV_keep (fun V n b h => iX7_keep V n b h) (by omega) (by omega)]
  simp only [vX41, upC, upR, if_neg (show b ≠ 26 by omega), if_neg (show b ≠ 27 by omega)]
theorem iX6_keep {θ : Th} (V : Nat → Nat → Value) (b : Nat) (h : b < 434) : iX6 θ V b = V b := by
  unfold iX6
  rw [fillV_keep (fun V n b h => iX7_keep V n b h) (by omega) (by omega)]
  simp only [vX61, upC, upR, if_neg (show b ≠ 434 by omega), if_neg (show b ≠ 445 by omega)]
  rw [iX7_keep _ _ _ (by omega)]
  exact if_neg (by omega)
theorem dX10_init_0 : decode cX10_init 0 = .ok (.aload_n 0, 1) := by decide +kernel
theorem dX10_init_1 : decode cX10_init 1 = .ok (.invokespecial 1, 3) := by decide +kernel
theorem dX10_init_4 : decode cX10_init 4 = .ok (.aload_n 0, 1) := by decide +kernel
theorem dX10_init_5 : decode cX10_init 5 = .ok (.new 7, 3) := by decide +kernel
theorem dX10_init_8 : decode cX10_init 8 = .ok (.dup, 1) := by decide +kernel
theorem dX10_init_9 : decode cX10_init 9 = .ok (.invokespecial 9, 3) := by decide +kernel
theorem dX10_init_12 : decode cX10_init 12 = .ok (.putfield 10, 3) := by decide +kernel
theorem dX10_init_15 : decode cX10_init 15 = .ok (.aload_n 0, 1) := by decide +kernel
theorem dX10_init_16 : decode cX10_init 16 = .ok (.iconst 5, 1) := by decide +kernel
theorem dX10_init_17 : decode cX10_init 17 = .ok (.anewarray 16, 3) := by decide +kernel
theorem dX10_init_20 : decode cX10_init 20 = .ok (.putfield 18, 3) := by decide +kernel
theorem dX10_init_23 : decode cX10_init 23 = .ok (.aload_n 0, 1) := by decide +kernel
theorem dX10_init_24 : decode cX10_init 24 = .ok (.iconst 5, 1) := by decide +kernel
theorem dX10_init_25 : decode cX10_init 25 = .ok (.anewarray 22, 3) := by decide +kernel
theorem dX10_init_28 : decode cX10_init 28 = .ok (.putfield 24, 3) := by decide +kernel
theorem dX10_init_31 : decode cX10_init 31 = .ok (.aload_n 0, 1) := by decide +kernel
theorem dX10_init_32 : decode cX10_init 32 = .ok (.bipush 6, 2) := by decide +kernel
theorem dX10_init_34 : decode cX10_init 34 = .ok (.newarray .int, 2) := by decide +kernel
theorem dX10_init_36 : decode cX10_init 36 = .ok (.putfield 28, 3) := by decide +kernel
theorem dX10_init_39 : decode cX10_init 39 = .ok (.aload_n 0, 1) := by decide +kernel
theorem dX10_init_40 : decode cX10_init 40 = .ok (.new 32, 3) := by decide +kernel
theorem dX10_init_43 : decode cX10_init 43 = .ok (.dup, 1) := by decide +kernel
theorem dX10_init_44 : decode cX10_init 44 = .ok (.invokespecial 34, 3) := by decide +kernel
theorem dX10_init_47 : decode cX10_init 47 = .ok (.putfield 35, 3) := by decide +kernel
theorem dX10_init_50 : decode cX10_init 50 = .ok (.aload_n 0, 1) := by decide +kernel
theorem dX10_init_51 : decode cX10_init 51 = .ok (.new 32, 3) := by decide +kernel
theorem dX10_init_54 : decode cX10_init 54 = .ok (.dup, 1) := by decide +kernel
theorem dX10_init_55 : decode cX10_init 55 = .ok (.invokespecial 34, 3) := by decide +kernel
theorem dX10_init_58 : decode cX10_init 58 = .ok (.putfield 39, 3) := by decide +kernel
theorem dX10_init_61 : decode cX10_init 61 = .ok (.aload_n 0, 1) := by decide +kernel
theorem dX10_init_62 : decode cX10_init 62 = .ok (.new 42, 3) := by decide +kernel
theorem dX10_init_65 : decode cX10_init 65 = .ok (.dup, 1) := by decide +kernel
theorem dX10_init_66 : decode cX10_init 66 = .ok (.invokespecial 44, 3) := by decide +kernel
theorem dX10_init_69 : decode cX10_init 69 = .ok (.putfield 45, 3) := by decide +kernel
theorem dX10_init_72 : decode cX10_init 72 = .ok (.aload_n 0, 1) := by decide +kernel
theorem dX10_init_73 : decode cX10_init 73 = .ok (.new 49, 3) := by decide +kernel
theorem dX10_init_76 : decode cX10_init 76 = .ok (.dup, 1) := by decide +kernel
theorem dX10_init_77 : decode cX10_init 77 = .ok (.invokespecial 51, 3) := by decide +kernel
theorem dX10_init_80 : decode cX10_init 80 = .ok (.putfield 52, 3) := by decide +kernel
theorem dX10_init_83 : decode cX10_init 83 = .ok (.aload_n 0, 1) := by decide +kernel
theorem dX10_init_84 : decode cX10_init 84 = .ok (.new 56, 3) := by decide +kernel
theorem dX10_init_87 : decode cX10_init 87 = .ok (.dup, 1) := by decide +kernel
theorem dX10_init_88 : decode cX10_init 88 = .ok (.invokespecial 58, 3) := by decide +kernel
theorem dX10_init_91 : decode cX10_init 91 = .ok (.putfield 59, 3) := by decide +kernel
theorem dX10_init_94 : decode cX10_init 94 = .ok (.aload_n 0, 1) := by decide +kernel
theorem dX10_init_95 : decode cX10_init 95 = .ok (.new 63, 3) := by decide +kernel
theorem dX10_init_98 : decode cX10_init 98 = .ok (.dup, 1) := by decide +kernel
theorem dX10_init_99 : decode cX10_init 99 = .ok (.invokespecial 65, 3) := by decide +kernel
theorem dX10_init_102 : decode cX10_init 102 = .ok (.putfield 66, 3) := by decide +kernel
theorem dX10_init_105 : decode cX10_init 105 = .ok (.aload_n 0, 1) := by decide +kernel
theorem dX10_init_106 : decode cX10_init 106 = .ok (.new 70, 3) := by decide +kernel
theorem dX10_init_109 : decode cX10_init 109 = .ok (.dup, 1) := by decide +kernel
theorem dX10_init_110 : decode cX10_init 110 = .ok (.invokespecial 72, 3) := by decide +kernel
theorem dX10_init_113 : decode cX10_init 113 = .ok (.putfield 73, 3) := by decide +kernel
theorem dX10_init_116 : decode cX10_init 116 = .ok (.aload_n 0, 1) := by decide +kernel
theorem dX10_init_117 : decode cX10_init 117 = .ok (.new 77, 3) := by decide +kernel
theorem dX10_init_120 : decode cX10_init 120 = .ok (.dup, 1) := by decide +kernel
theorem dX10_init_121 : decode cX10_init 121 = .ok (.invokespecial 79, 3) := by decide +kernel
theorem dX10_init_124 : decode cX10_init 124 = .ok (.putfield 80, 3) := by decide +kernel
theorem dX10_init_127 : decode cX10_init 127 = .ok (.aload_n 0, 1) := by decide +kernel
theorem dX10_init_128 : decode cX10_init 128 = .ok (.iconst 0, 1) := by decide +kernel
theorem dX10_init_129 : decode cX10_init 129 = .ok (.putfield 84, 3) := by decide +kernel
theorem dX10_init_132 : decode cX10_init 132 = .ok (.aload_n 0, 1) := by decide +kernel
theorem dX10_init_133 : decode cX10_init 133 = .ok (.iconst (-1), 1) := by decide +kernel
theorem dX10_init_134 : decode cX10_init 134 = .ok (.putfield 88, 3) := by decide +kernel
theorem dX10_init_137 : decode cX10_init 137 = .ok (.aload_n 0, 1) := by decide +kernel
theorem dX10_init_138 : decode cX10_init 138 = .ok (.iconst 0, 1) := by decide +kernel
theorem dX10_init_139 : decode cX10_init 139 = .ok (.putfield 91, 3) := by decide +kernel
theorem dX10_init_142 : decode cX10_init 142 = .ok (.aload_n 0, 1) := by decide +kernel
theorem dX10_init_143 : decode cX10_init 143 = .ok (.iconst 2, 1) := by decide +kernel
theorem dX10_init_144 : decode cX10_init 144 = .ok (.putfield 94, 3) := by decide +kernel
theorem dX10_init_147 : decode cX10_init 147 = .ok (.aload_n 0, 1) := by decide +kernel
theorem dX10_init_148 : decode cX10_init 148 = .ok (.iconst 0, 1) := by decide +kernel
theorem dX10_init_149 : decode cX10_init 149 = .ok (.putfield 97, 3) := by decide +kernel
theorem dX10_init_152 : decode cX10_init 152 = .ok (.aload_n 0, 1) := by decide +kernel
theorem dX10_init_153 : decode cX10_init 153 = .ok (.lconst 0, 1) := by decide +kernel
theorem dX10_init_154 : decode cX10_init 154 = .ok (.putfield 101, 3) := by decide +kernel
theorem dX10_init_157 : decode cX10_init 157 = .ok (.iconst 0, 1) := by decide +kernel
theorem dX10_init_158 : decode cX10_init 158 = .ok (.istore_n 1, 1) := by decide +kernel
theorem dX10_init_159 : decode cX10_init 159 = .ok (.iload_n 1, 1) := by decide +kernel
theorem dX10_init_160 : decode cX10_init 160 = .ok (.aload_n 0, 1) := by decide +kernel
theorem dX10_init_161 : decode cX10_init 161 = .ok (.getfield 18, 3) := by decide +kernel
theorem dX10_init_164 : decode cX10_init 164 = .ok (.arraylength, 1) := by decide +kernel
theorem dX10_init_165 : decode cX10_init 165 = .ok (.if_icmp .ge 22, 3) := by decide +kernel
theorem dX10_init_168 : decode cX10_init 168 = .ok (.aload_n 0, 1) := by decide +kernel
theorem dX10_init_169 : decode cX10_init 169 = .ok (.getfield 18, 3) := by decide +kernel
theorem dX10_init_172 : decode cX10_init 172 = .ok (.iload_n 1, 1) := by decide +kernel
theorem dX10_init_173 : decode cX10_init 173 = .ok (.new 16, 3) := by decide +kernel
theorem dX10_init_176 : decode cX10_init 176 = .ok (.dup, 1) := by decide +kernel
theorem dX10_init_177 : decode cX10_init 177 = .ok (.invokespecial 105, 3) := by decide +kernel
theorem dX10_init_180 : decode cX10_init 180 = .ok (.aastore, 1) := by decide +kernel
theorem dX10_init_181 : decode cX10_init 181 = .ok (.iinc 1 1, 3) := by decide +kernel
theorem dX10_init_184 : decode cX10_init 184 = .ok (.goto (-25), 3) := by decide +kernel
theorem dX10_init_187 : decode cX10_init 187 = .ok (.iconst 0, 1) := by decide +kernel
theorem dX10_init_188 : decode cX10_init 188 = .ok (.istore_n 1, 1) := by decide +kernel
theorem dX10_init_189 : decode cX10_init 189 = .ok (.iload_n 1, 1) := by decide +kernel
theorem dX10_init_190 : decode cX10_init 190 = .ok (.aload_n 0, 1) := by decide +kernel
theorem dX10_init_191 : decode cX10_init 191 = .ok (.getfield 24, 3) := by decide +kernel
theorem dX10_init_194 : decode cX10_init 194 = .ok (.arraylength, 1) := by decide +kernel
theorem dX10_init_195 : decode cX10_init 195 = .ok (.if_icmp .ge 22, 3) := by decide +kernel
theorem dX10_init_198 : decode cX10_init 198 = .ok (.aload_n 0, 1) := by decide +kernel
theorem dX10_init_199 : decode cX10_init 199 = .ok (.getfield 24, 3) := by decide +kernel
theorem dX10_init_202 : decode cX10_init 202 = .ok (.iload_n 1, 1) := by decide +kernel
theorem dX10_init_203 : decode cX10_init 203 = .ok (.new 22, 3) := by decide +kernel
theorem dX10_init_206 : decode cX10_init 206 = .ok (.dup, 1) := by decide +kernel
theorem dX10_init_207 : decode cX10_init 207 = .ok (.invokespecial 106, 3) := by decide +kernel
theorem dX10_init_210 : decode cX10_init 210 = .ok (.aastore, 1) := by decide +kernel
theorem dX10_init_211 : decode cX10_init 211 = .ok (.iinc 1 1, 3) := by decide +kernel
theorem dX10_init_214 : decode cX10_init 214 = .ok (.goto (-25), 3) := by decide +kernel
theorem dX10_init_217 : decode cX10_init 217 = .ok (.return_, 1) := by decide +kernel
theorem mi_X10 : MyI yX10_init cX10_init 2 := ⟨⟨allT1 28 (by decide +kernel) rfl, allT1 1 (by decide +kernel) rfl, allT1 29 (by decide +kernel) rfl⟩, rfl, by decide +kernel, by decide +kernel, by decide +kernel⟩
theorem oi_X10 : Cond.methodLink RX10 1 Lib.objectInit ∈ ALL := allT1 30 (by decide +kernel) rfl
theorem ck_X10_7 : Cond.classLink RX10 7 (clC 8) ∈ ALL := allT1 33 (by decide +kernel) rfl
theorem in_8 : Cond.instantiable (clC 8) (nF 8) ∈ ALL := allT1 34 (by decide +kernel) rfl
theorem ii_8 : Cond.initialized (clC 8) ∈ ALL := allT1 2 (by decide +kernel) rfl
theorem fi_X10_10 : Fl RX10 10 10 0 := ⟨by decide, by decide, allT2 101 (by decide +kernel) rfl⟩
theorem ck_X10_16 : Cond.classLink RX10 16 (clC 5) ∈ ALL := allT1 60 (by decide +kernel) rfl
theorem fi_X10_18 : Fl RX10 18 10 1 := ⟨by decide, by decide, allT2 102 (by decide +kernel) rfl⟩
theorem ck_X10_22 : Cond.classLink RX10 22 (clC 2) ∈ ALL := allT1 62 (by decide +kernel) rfl
theorem fi_X10_24 : Fl RX10 24 10 2 := ⟨by decide, by decide, allT2 103 (by decide +kernel) rfl⟩
theorem fi_X10_28 : Fl RX10 28 10 3 := ⟨by decide, by decide, allT2 104 (by decide +kernel) rfl⟩
theorem ck_X10_32 : Cond.classLink RX10 32 (clC 7) ∈ ALL := allT1 64 (by decide +kernel) rfl
theorem fi_X10_35 : Fl RX10 35 10 4 := ⟨by decide, by decide, allT2 105 (by decide +kernel) rfl⟩
theorem fi_X10_39 : Fl RX10 39 10 5 := ⟨by decide, by decide, allT2 106 (by decide +kernel) rfl⟩
theorem ck_X10_42 : Cond.classLink RX10 42 (clC 4) ∈ ALL := allT1 152 (by decide +kernel) rfl
theorem in_4 : Cond.instantiable (clC 4) (nF 4) ∈ ALL := allT1 153 (by decide +kernel) rfl
theorem ii_4 : Cond.initialized (clC 4) ∈ ALL := allT1 4 (by decide +kernel) rfl
theorem ml_X10_44 : Cond.methodLink RX10 44 yX4_init ∈ ALL := allT1 154 (by decide +kernel) rfl
theorem fi_X10_45 : Fl RX10 45 10 6 := ⟨by decide, by decide, allT2 107 (by decide +kernel) rfl⟩
theorem ck_X10_49 : Cond.classLink RX10 49 (clC 9) ∈ ALL := allT1 172 (by decide +kernel) rfl
theorem in_9 : Cond.instantiable (clC 9) (nF 9) ∈ ALL := allT1 173 (by decide +kernel) rfl
theorem ii_9 : Cond.initialized (clC 9) ∈ ALL := allT1 5 (by decide +kernel) rfl
theorem fi_X10_52 : Fl RX10 52 10 7 := ⟨by decide, by decide, allT2 108 (by decide +kernel) rfl⟩
theorem ck_X10_56 : Cond.classLink RX10 56 (clC 6) ∈ ALL := allT1 226 (by decide +kernel) rfl
theorem in_6 : Cond.instantiable (clC 6) (nF 6) ∈ ALL := allT1 227 (by decide +kernel) rfl
theorem ii_6 : Cond.initialized (clC 6) ∈ ALL := allT1 8 (by decide +kernel) rfl
theorem ml_X10_58 : Cond.methodLink RX10 58 yX6_init ∈ ALL := allT1 228 (by decide +kernel) rfl
theorem fi_X10_59 : Fl RX10 59 10 8 := ⟨by decide, by decide, allT2 109 (by decide +kernel) rfl⟩
theorem ck_X10_63 : Cond.classLink RX10 63 (clC 3) ∈ ALL := allT2 9 (by decide +kernel) rfl
theorem in_3 : Cond.instantiable (clC 3) (nF 3) ∈ ALL := allT2 10 (by decide +kernel) rfl
theorem ii_3 : Cond.initialized (clC 3) ∈ ALL := allT1 9 (by decide +kernel) rfl
theorem fi_X10_66 : Fl RX10 66 10 9 := ⟨by decide, by decide, allT2 110 (by decide +kernel) rfl⟩
theorem ck_X10_70 : Cond.classLink RX10 70 (clC 0) ∈ ALL := allT2 38 (by decide +kernel) rfl
theorem in_0 : Cond.instantiable (clC 0) (nF 0) ∈ ALL := allT2 39 (by decide +kernel) rfl
theorem ii_0 : Cond.initialized (clC 0) ∈ ALL := allT1 10 (by decide +kernel) rfl
theorem fi_X10_73 : Fl RX10 73 10 10 := ⟨by decide, by decide, allT2 111 (by decide +kernel) rfl⟩
theorem ck_X10_77 : Cond.classLink RX10 77 (clC 1) ∈ ALL := allT2 71 (by decide +kernel) rfl
theorem fi_X10_80 : Fl RX10 80 10 11 := ⟨by decide, by decide, allT2 112 (by decide +kernel) rfl⟩
theorem fi_X10_84 : Fl RX10 84 10 12 := ⟨by decide, by decide, allT2 113 (by decide +kernel) rfl⟩
theorem fi_X10_88 : Fl RX10 88 10 13 := ⟨by decide, by decide, allT2 114 (by decide +kernel) rfl⟩
theorem fi_X10_91 : Fl RX10 91 10 14 := ⟨by decide, by decide, allT2 115 (by decide +kernel) rfl⟩
theorem fi_X10_94 : Fl RX10 94 10 15 := ⟨by decide, by decide, allT2 116 (by decide +kernel) rfl⟩
theorem fi_X10_97 : Fl RX10 97 10 16 := ⟨by decide, by decide, allT2 117 (by decide +kernel) rfl⟩
theorem fi_X10_101 : Fl RX10 101 10 17 := ⟨by decide, by decide, allT2 118 (by decide +kernel) rfl⟩
theorem in_5 : Cond.instantiable (clC 5) (nF 5) ∈ ALL := allT2 73 (by decide +kernel) rfl
theorem ii_5 : Cond.initialized (clC 5) ∈ ALL := allT1 6 (by decide +kernel) rfl
def vX101 (θ : Th) (V : Nat → Nat → Value) : Nat → Nat → Value := (upC (upC (upC (upC (upC (upC (upC (iX1 θ (upR (upC (iX0 θ (upR (upC (iX3 θ (upR (upC (iX6 θ (upR (upC (iX9 θ (upR (upC (iX4 θ (upR (upC (iX7 θ (upR (upC (iX7 θ (upR (upC (upR (upC (upR (upC (upR (upC (iX8 θ (upR V 1 (fun k => defaultValue (clty 8 k))) 1) 0 0 (.ref (be θ + 1))) 3 (fun _ => .null)) 0 1 (.ref (be θ + 3))) 4 (fun _ => .null)) 0 2 (.ref (be θ + 4))) 5 (fun _ => .int 0)) 0 3 (.ref (be θ + 5))) 6 (fun k => defaultValue (clty 7 k))) 6) 0 4 (.ref (be θ + 6))) 16 (fun k => defaultValue (clty 7 k))) 16) 0 5 (.ref (be θ + 16))) 26 (fun k => defaultValue (clty 4 k)))) 0 6 (.ref (be θ + 26))) 428 (fun k => defaultValue (clty 9 k))) 428) 0 7 (.ref (be θ + 428))) 434 (fun k => defaultValue (clty 6 k)))) 0 8 (.ref (be θ + 434))) 516 (fun k => defaultValue (clty 3 k))) 516) 0 9 (.ref (be θ + 516))) 531 (fun k => defaultValue (clty 0 k))) 531) 0 10 (.ref (be θ + 531))) 536 (fun k => defaultValue (clty 1 k))) 536) 0 11 (.ref (be θ + 536))) 0 12 (.int (0 : Int32))) 0 13 (.int (-1 : Int32))) 0 14 (.int (0 : Int32))) 0 15 (.int (2 : Int32))) 0 16 (.int (0 : Int32))) 0 17 (.long 0))
theorem hX101 (θ : Th) (V : Nat → Nat → Value) : vX101 θ V 0 1 = .ref (be θ + 3) := by
  simp [vX101, upC, upR, updV, iX7_keep, iX5_keep, iX2_keep, iX8_keep, iX1_keep, iX0_keep, iX3_keep, iX9_keep, iX4_keep, iX6_keep]
theorem in_2 : Cond.instantiable (clC 2) (nF 2) ∈ ALL := allT2 88 (by decide +kernel) rfl
theorem ii_2 : Cond.initialized (clC 2) ∈ ALL := allT1 11 (by decide +kernel) rfl
def vX102 (θ : Th) (V : Nat → Nat → Value) : Nat → Nat → Value := (fillV θ (iX5 θ) 5 3 3 540 (vX101 θ V) 5)
theorem hX102 (θ : Th) (V : Nat → Nat → Value) : vX102 θ V 0 2 = .ref (be θ + 4) := by
  unfold vX102
  rw [fillV_keep (fun V n b h => iX5_keep V n b h) (by decide) (by decide)]
  simp [vX101, upC, upR, updV, iX7_keep, iX5_keep, iX2_keep, iX8_keep, iX1_keep, iX0_keep, iX3_keep, iX9_keep, iX4_keep, iX6_keep]
def iX10 (θ : Th) (V : Nat → Nat → Value) : Nat → Nat → Value := (fillV θ (iX2 θ) 2 4 2 555 (vX102 θ V) 5)
set_option maxRecDepth 20000 in
theorem c_X10_init {θ : Th} {l : Launch} {V : Nat → Nat → Value} : CnV θ l yX10_init cX10_init 2 3 564 20137 [.ref (be θ + 0)] V 1 (iX10 θ V) 565 := by
  refine CnV.of (by decide) rfl (Nat.le_of_ble_eq_true rfl) fun p e s m below meth c X N hin hr hlk => ?_
  refine v_aload_n X dX10_init_0 rfl 0 rfl ?_
  refine v_objInit X oi_X10 oiI oiC ⟨by decide, by decide⟩ dX10_init_1 ?_
  refine v_aload_n X dX10_init_4 rfl 0 rfl ?_
  refine v_new (ci := 8) X (by decide) (by decide +kernel) ck_X10_7 in_8 ii_8 (by decide) (by decide) dX10_init_5 ?_
  refine v_dup X dX10_init_8 rfl ?_
  refine v_callN X N (c_X8_init (o := 1) (by decide +kernel) (by decide +kernel) (by decide +kernel)) (by decide +kernel) mi_X8 (Nat.le_of_ble_eq_true rfl) ⟨by decide, by decide⟩ ⟨by decide, by decide⟩ dX10_init_9 ?_
  refine v_put (a := 0) X fi_X10_10 dX10_init_12 (by decide +kernel) (by decide) (Or.inr ⟨rfl, hin, rfl⟩) rfl rfl ?_
  refine v_aload_n X dX10_init_15 rfl 0 rfl ?_
  refine v_iconst X dX10_init_16 (v := (5 : Int32)) (by decide) ?_
  refine v_anew (C := RX5) (k := 17) (N := 5) X (by decide +kernel) (by decide) (by decide +kernel) ck_X10_16 N.2.1 (RA17 X.2.1).2 (by decide) (by decide) (by decide) (by decide) (by decide) dX10_init_17 ?_
  refine v_put (a := 0) X fi_X10_18 dX10_init_20 (by decide +kernel) (by decide) (Or.inr ⟨rfl, hin, rfl⟩) rfl rfl ?_
  refine v_aload_n X dX10_init_23 rfl 0 rfl ?_
  refine v_iconst X dX10_init_24 (v := (5 : Int32)) (by decide) ?_
  refine v_anew (C := RX2) (k := 18) (N := 5) X (by decide +kernel) (by decide) (by decide +kernel) ck_X10_22 N.2.2.1 (RA18 X.2.1).2 (by decide) (by decide) (by decide) (by decide) (by decide) dX10_init_25 ?_
  refine v_put (a := 0) X fi_X10_24 dX10_init_28 (by decide +kernel) (by decide) (Or.inr ⟨rfl, hin, rfl⟩) rfl rfl ?_
  refine v_aload_n X dX10_init_31 rfl 0 rfl ?_
  refine v_bipush X dX10_init_32 (v := (6 : Int32)) (by decide) ?_
  refine v_newa (atype := .int) (k := 13) (N := 6) (dv := .int 0) X (by decide +kernel) (by decide) (by decide +kernel) acI (cl13 X.2.1) rfl (by decide) (by decide) (by decide) (by decide) (by decide) dX10_init_34 ?_
  refine v_put (a := 0) X fi_X10_28 dX10_init_36 (by decide +kernel) (by decide) (Or.inr ⟨rfl, hin, rfl⟩) rfl rfl ?_
  refine v_aload_n X dX10_init_39 rfl 0 rfl ?_
  refine v_new (ci := 7) X (by decide) (by decide +kernel) ck_X10_32 in_7 ii_7 (by decide) (by decide) dX10_init_40 ?_
  refine v_dup X dX10_init_43 rfl ?_
  refine v_callN X N (c_X7_init (o := 6) (by decide +kernel) (by decide +kernel) (by decide +kernel) (by decide +kernel) (by decide +kernel) (by decide +kernel) (by decide +kernel) (by decide +kernel) (by decide +kernel) (by decide +kernel) (by decide +kernel) (by decide +kernel) (by decide +kernel) (by decide +kernel) (by decide +kernel) (by decide +kernel) (by decide +kernel) (by decide +kernel) (by decide +kernel)) (by decide +kernel) mi_X7 (Nat.le_of_ble_eq_true rfl) ⟨by decide, by decide⟩ ⟨by decide, by decide⟩ dX10_init_44 ?_
  refine v_put (a := 0) X fi_X10_35 dX10_init_47 (by decide +kernel) (by decide) (Or.inr ⟨rfl, hin, rfl⟩) rfl rfl ?_
  refine v_aload_n X dX10_init_50 rfl 0 rfl ?_
  refine v_new (ci := 7) X (by decide) (by decide +kernel) ck_X10_32 in_7 ii_7 (by decide) (by decide) dX10_init_51 ?_
  refine v_dup X dX10_init_54 rfl ?_
  refine v_callN X N (c_X7_init (o := 16) (by decide +kernel) (by decide +kernel) (by decide +kernel) (by decide +kernel) (by decide +kernel) (by decide +kernel) (by decide +kernel) (by decide +kernel) (by decide +kernel) (by decide +kernel) (by decide +kernel) (by decide +kernel) (by decide +kernel) (by decide +kernel) (by decide +kernel) (by decide +kernel) (by decide +kernel) (by decide +kernel) (by decide +kernel)) (by decide +kernel) mi_X7 (Nat.le_of_ble_eq_true rfl) ⟨by decide, by decide⟩ ⟨by decide, by decide⟩ dX10_init_55 ?_
  refine v_put (a := 0) X fi_X10_39 dX10_init_58 (by decide +kernel) (by decide) (Or.inr ⟨rfl, hin, rfl⟩) rfl rfl ?_
  refine v_aload_n X dX10_init_61 rfl 0 rfl ?_
  refine v_new (ci := 4) X (by decide) (by decide +kernel) ck_X10_42 in_4 ii_4 (by decide) (by decide) dX10_init_62 ?_
  refine v_dup X dX10_init_65 rfl ?_
  refine v_callI X N (c_X4_init ) ml_X10_44 mi_X4 (Nat.le_of_ble_eq_true rfl) ⟨by decide, by decide⟩ ⟨by decide, by decide⟩ dX10_init_66 ?_
  refine v_put (a := 0) X fi_X10_45 dX10_init_69 (by decide +kernel) (by decide) (Or.inr ⟨rfl, hin, rfl⟩) rfl rfl ?_
  refine v_aload_n X dX10_init_72 rfl 0 rfl ?_
  refine v_new (ci := 9) X (by decide) (by decide +kernel) ck_X10_49 in_9 ii_9 (by decide) (by decide) dX10_init_73 ?_
  refine v_dup X dX10_init_76 rfl ?_
  refine v_callN X N (c_X9_init (o := 428) (by decide +kernel) (by decide +kernel) (by decide +kernel) (by decide +kernel) (by decide +kernel) (by decide +kernel) (by decide +kernel) (by decide +kernel) (by decide +kernel) (by decide +kernel)) (by decide +kernel) mi_X9 (Nat.le_of_ble_eq_true rfl) ⟨by decide, by decide⟩ ⟨by decide, by decide⟩ dX10_init_77 ?_
  refine v_put (a := 0) X fi_X10_52 dX10_init_80 (by decide +kernel) (by decide) (Or.inr ⟨rfl, hin, rfl⟩) rfl rfl ?_
  refine v_aload_n X dX10_init_83 rfl 0 rfl ?_
  refine v_new (ci := 6) X (by decide) (by decide +kernel) ck_X10_56 in_6 ii_6 (by decide) (by decide) dX10_init_84 ?_
  refine v_dup X dX10_init_87 rfl ?_
  refine v_callI X N (c_X6_init ) ml_X10_58 mi_X6 (Nat.le_of_ble_eq_true rfl) ⟨by decide, by decide⟩ ⟨by decide, by decide⟩ dX10_init_88 ?_
  refine v_put (a := 0) X fi_X10_59 dX10_init_91 (by decide +kernel) (by decide) (Or.inr ⟨rfl, hin, rfl⟩) rfl rfl ?_
  refine v_aload_n X dX10_init_94 rfl 0 rfl ?_
  refine v_new (ci := 3) X (by decide) (by decide +kernel) ck_X10_63 in_3 ii_3 (by decide) (by decide) dX10_init_95 ?_
  refine v_dup X dX10_init_98 rfl ?_
  refine v_callN X N (c_X3_init (o := 516) (by decide +kernel) (by decide +kernel) (by decide +kernel) (by decide +kernel) (by decide +kernel) (by decide +kernel) (by decide +kernel) (by decide +kernel) (by decide +kernel) (by decide +kernel) (by decide +kernel) (by decide +kernel) (by decide +kernel) (by decide +kernel) (by decide +kernel) (by decide +kernel) (by decide +kernel) (by decide +kernel) (by decide +kernel) (by decide +kernel) (by decide +kernel) (by decide +kernel) (by decide +kernel) (by decide +kernel) (by decide +kernel) (by decide +kernel) (by decide +kernel) (by decide +kernel)) (by decide +kernel) mi_X3 (Nat.le_of_ble_eq_true rfl) ⟨by decide, by decide⟩ ⟨by decide, by decide⟩ dX10_init_99 ?_
  refine v_put (a := 0) X fi_X10_66 dX10_init_102 (by decide +kernel) (by decide) (Or.inr ⟨rfl, hin, rfl⟩) rfl rfl ?_
  refine v_aload_n X dX10_init_105 rfl 0 rfl ?_
  refine v_new (ci := 0) X (by decide) (by decide +kernel) ck_X10_70 in_0 ii_0 (by decide) (by decide) dX10_init_106 ?_
  refine v_dup X dX10_init_109 rfl ?_
  refine v_callN X N (c_X0_init (o := 531) (by decide +kernel) (by decide +kernel) (by decide +kernel) (by decide +kernel) (by decide +kernel) (by decide +kernel) (by decide +kernel) (by decide +kernel) (by decide +kernel)) (by decide +kernel) mi_X0 (Nat.le_of_ble_eq_true rfl) ⟨by decide, by decide⟩ ⟨by decide, by decide⟩ dX10_init_110 ?_
  refine v_put (a := 0) X fi_X10_73 dX10_init_113 (by decide +kernel) (by decide) (Or.inr ⟨rfl, hin, rfl⟩) rfl rfl ?_
  refine v_aload_n X dX10_init_116 rfl 0 rfl ?_
  refine v_new (ci := 1) X (by decide) (by decide +kernel) ck_X10_77 in_1 ii_1 (by decide) (by decide) dX10_init_117 ?_
  refine v_dup X dX10_init_120 rfl ?_
  refine v_callN X N (c_X1_init (o := 536) (by decide +kernel) (by decide +kernel) (by decide +kernel) (by decide +kernel) (by decide +kernel) (by decide +kernel) (by decide +kernel)) (by decide +kernel) mi_X1 (Nat.le_of_ble_eq_true rfl) ⟨by decide, by decide⟩ ⟨by decide, by decide⟩ dX10_init_121 ?_
  refine v_put (a := 0) X fi_X10_80 dX10_init_124 (by decide +kernel) (by decide) (Or.inl rfl) rfl rfl ?_
  refine v_aload_n X dX10_init_127 rfl 0 rfl ?_
  refine v_iconst X dX10_init_128 (v := (0 : Int32)) (by decide) ?_
  refine v_put (a := 0) X fi_X10_84 dX10_init_129 (by decide +kernel) (by decide) (Or.inl rfl) rfl rfl ?_
  refine v_aload_n X dX10_init_132 rfl 0 rfl ?_
  refine v_iconst X dX10_init_133 (v := (-1 : Int32)) (by decide) ?_
  refine v_put (a := 0) X fi_X10_88 dX10_init_134 (by decide +kernel) (by decide) (Or.inl rfl) rfl rfl ?_
  refine v_aload_n X dX10_init_137 rfl 0 rfl ?_
  refine v_iconst X dX10_init_138 (v := (0 : Int32)) (by decide) ?_
  refine v_put (a := 0) X fi_X10_91 dX10_init_139 (by decide +kernel) (by decide) (Or.inl rfl) rfl rfl ?_
  refine v_aload_n X dX10_init_142 rfl 0 rfl ?_
  refine v_iconst X dX10_init_143 (v := (2 : Int32)) (by decide) ?_
  refine v_put (a := 0) X fi_X10_94 dX10_init_144 (by decide +kernel) (by decide) (Or.inl rfl) rfl rfl ?_
  refine v_aload_n X dX10_init_147 rfl 0 rfl ?_
  refine v_iconst X dX10_init_148 (v := (0 : Int32)) (by decide) ?_
  refine v_put (a := 0) X fi_X10_97 dX10_init_149 (by decide +kernel) (by decide) (Or.inl rfl) rfl rfl ?_
  refine v_aload_n X dX10_init_152 rfl 0 rfl ?_
  refine v_lconst X dX10_init_153 (v := 0) (by decide) ?_
  refine v_put (a := 0) X fi_X10_101 dX10_init_154 (by decide +kernel) (by decide) (Or.inl rfl) rfl rfl ?_
  refine v_iconst X dX10_init_157 (v := (0 : Int32)) (by decide) ?_
  refine v_istore_n X dX10_init_158 rfl (by decide) rfl ?_
  refine v_fill (o := 0) (a := 3) (cj := 5) (kA := 17) (M := 5) (w := 3) (base := 540) (E := 187) (mc := 2) (ms := 272) (ini := iX5 θ) (V0 := vX101 θ V) X N (by decide) (by decide +kernel) fi_X10_18 (by decide +kernel) (by decide) (by decide +kernel) (by decide) (by decide) (fun i hi => (lw_tab i hi).1) (fun V i hi => by
    obtain ⟨t0, ⟨k1, n1⟩, ⟨k2, n2⟩⟩ := lw_tab i hi
    exact c_X5_init (o := 540 + 3 * i) t0 k1 n1 k2 n2) (fun V n b h => iX5_keep V n b h) (by decide) (by decide) (by decide) (by decide) ck_X10_16 in_5 ii_5 (by decide +kernel) mi_X5 (RA17 X.2.1).1 dX10_init_159 dX10_init_160 dX10_init_161 dX10_init_164 dX10_init_165 dX10_init_168 dX10_init_169 dX10_init_172 dX10_init_173 dX10_init_176 dX10_init_177 dX10_init_180 dX10_init_181 dX10_init_184 (by decide) (by decide) ⟨by decide, by decide⟩ ⟨by decide, by decide⟩ (hX101 θ V) ?_
  refine v_iconst X dX10_init_187 (v := (0 : Int32)) (by decide) ?_
  refine v_istore_n X dX10_init_188 rfl (by decide) rfl ?_
  refine v_fill (o := 0) (a := 4) (cj := 2) (kA := 18) (M := 5) (w := 2) (base := 555) (E := 217) (mc := 1) (ms := 48) (ini := iX2 θ) (V0 := vX102 θ V) X N (by decide) (by decide +kernel) fi_X10_24 (by decide +kernel) (by decide) (by decide +kernel) (by decide) (by decide) (fun i hi => (dy_tab i hi).1) (fun V i hi => by
    obtain ⟨t0, ⟨k1, n1⟩⟩ := dy_tab i hi
    exact c_X2_init (o := 555 + 2 * i) t0 k1 n1) (fun V n b h => iX2_keep V n b h) (by decide) (by decide) (by decide) (by decide) ck_X10_22 in_2 ii_2 (by decide +kernel) mi_X2 (RA18 X.2.1).1 dX10_init_189 dX10_init_190 dX10_init_191 dX10_init_194 dX10_init_195 dX10_init_198 dX10_init_199 dX10_init_202 dX10_init_203 dX10_init_206 dX10_init_207 dX10_init_210 dX10_init_211 dX10_init_214 (by decide) (by decide) ⟨by decide, by decide⟩ ⟨by decide, by decide⟩ (hX102 θ V) ?_
  exact v_vret X N hr hlk dX10_init_217 rfl
