set_option maxRecDepth 20000 in
theorem inX0 : ∀ w ∈ u_ws RX0 TX0 8, w ∈ ALL := by
  have h : u_ws RX0 TX0 8 = [405, 407, 409, 411, 413, 415, 417, 419].filterMap (fun i => lw_tbl[i]?) := by decide +kernel
  have hg : (u_ws RX0 TX0 8).all goodWord = true := by decide +kernel
  intro w hw
  have h1 := List.all_eq_true.mp hg w hw
  rw [h] at hw
  obtain ⟨i, -, hi⟩ := List.mem_filterMap.mp hw
  exact allIdx i hi h1
set_option maxRecDepth 20000 in
theorem inX1 : ∀ w ∈ u_ws RX1 TX1 6, w ∈ ALL := by
  have h : u_ws RX1 TX1 6 = [310, 312, 314, 316, 318, 320].filterMap (fun i => lw_tbl[i]?) := by decide +kernel
  have hg : (u_ws RX1 TX1 6).all goodWord = true := by decide +kernel
  intro w hw
  have h1 := List.all_eq_true.mp hg w hw
  rw [h] at hw
  obtain ⟨i, -, hi⟩ := List.mem_filterMap.mp hw
  exact allIdx i hi h1
set_option maxRecDepth 20000 in
theorem inX2 : ∀ w ∈ u_ws RX2 TX2 2, w ∈ ALL := by
  have h : u_ws RX2 TX2 2 = [447, 449].filterMap (fun i => lw_tbl[i]?) := by decide +kernel
  have hg : (u_ws RX2 TX2 2).all goodWord = true := by decide +kernel
  intro w hw
  have h1 := List.all_eq_true.mp hg w hw
  rw [h] at hw
  obtain ⟨i, -, hi⟩ := List.mem_filterMap.mp hw
  exact allIdx i hi h1
set_option maxRecDepth 20000 in
theorem inX3 : ∀ w ∈ u_ws RX3 TX3 6, w ∈ ALL := by
  have h : u_ws RX3 TX3 6 = [375, 377, 379, 381, 383, 385].filterMap (fun i => lw_tbl[i]?) := by decide +kernel
  have hg : (u_ws RX3 TX3 6).all goodWord = true := by decide +kernel
  intro w hw
  have h1 := List.all_eq_true.mp hg w hw
  rw [h] at hw
  obtain ⟨i, -, hi⟩ := List.mem_filterMap.mp hw
  exact allIdx i hi h1
set_option maxRecDepth 20000 in
theorem inX4 : ∀ w ∈ u_ws RX4 TX4 3, w ∈ ALL := by
  have h : u_ws RX4 TX4 3 = [276, 278, 280].filterMap (fun i => lw_tbl[i]?) := by decide +kernel
  have hg : (u_ws RX4 TX4 3).all goodWord = true := by decide +kernel
  intro w hw
  have h1 := List.all_eq_true.mp hg w hw
  rw [h] at hw
  obtain ⟨i, -, hi⟩ := List.mem_filterMap.mp hw
  exact allIdx i hi h1
set_option maxRecDepth 20000 in
theorem inX5 : ∀ w ∈ u_ws RX5 TX5 3, w ∈ ALL := by
  have h : u_ws RX5 TX5 3 = [432, 434, 436].filterMap (fun i => lw_tbl[i]?) := by decide +kernel
  have hg : (u_ws RX5 TX5 3).all goodWord = true := by decide +kernel
  intro w hw
  have h1 := List.all_eq_true.mp hg w hw
  rw [h] at hw
  obtain ⟨i, -, hi⟩ := List.mem_filterMap.mp hw
  exact allIdx i hi h1
set_option maxRecDepth 20000 in
theorem inX6 : ∀ w ∈ u_ws RX6 TX6 4, w ∈ ALL := by
  have h : u_ws RX6 TX6 4 = [351, 353, 355, 357].filterMap (fun i => lw_tbl[i]?) := by decide +kernel
  have hg : (u_ws RX6 TX6 4).all goodWord = true := by decide +kernel
  intro w hw
  have h1 := List.all_eq_true.mp hg w hw
  rw [h] at hw
  obtain ⟨i, -, hi⟩ := List.mem_filterMap.mp hw
  exact allIdx i hi h1
set_option maxRecDepth 20000 in
theorem inX7 : ∀ w ∈ u_ws RX7 TX7 15, w ∈ ALL := by
  have h : u_ws RX7 TX7 15 = [232, 234, 236, 238, 240, 242, 244, 246, 248, 250, 252, 254, 256, 258, 260].filterMap (fun i => lw_tbl[i]?) := by decide +kernel
  have hg : (u_ws RX7 TX7 15).all goodWord = true := by decide +kernel
  intro w hw
  have h1 := List.all_eq_true.mp hg w hw
  rw [h] at hw
  obtain ⟨i, -, hi⟩ := List.mem_filterMap.mp hw
  exact allIdx i hi h1
set_option maxRecDepth 20000 in
theorem inX8 : ∀ w ∈ u_ws RX8 TX8 4, w ∈ ALL := by
  have h : u_ws RX8 TX8 4 = [161, 163, 165, 167].filterMap (fun i => lw_tbl[i]?) := by decide +kernel
  have hg : (u_ws RX8 TX8 4).all goodWord = true := by decide +kernel
  intro w hw
  have h1 := List.all_eq_true.mp hg w hw
  rw [h] at hw
  obtain ⟨i, -, hi⟩ := List.mem_filterMap.mp hw
  exact allIdx i hi h1
set_option maxRecDepth 20000 in
theorem inX9 : ∀ w ∈ u_ws RX9 TX9 3, w ∈ ALL := by
  have h : u_ws RX9 TX9 3 = [330, 332, 334].filterMap (fun i => lw_tbl[i]?) := by decide +kernel
  have hg : (u_ws RX9 TX9 3).all goodWord = true := by decide +kernel
  intro w hw
  have h1 := List.all_eq_true.mp hg w hw
  rw [h] at hw
  obtain ⟨i, -, hi⟩ := List.mem_filterMap.mp hw
  exact allIdx i hi h1
set_option maxRecDepth 20000 in
theorem inX10 : ∀ w ∈ u_ws RX10 TX10 18, w ∈ ALL := by
  have h : u_ws RX10 TX10 18 = [470, 472, 474, 476, 478, 480, 482, 484, 486, 488, 490, 492, 494, 496, 498, 500, 502, 504].filterMap (fun i => lw_tbl[i]?) := by decide +kernel
  have hg : (u_ws RX10 TX10 18).all goodWord = true := by decide +kernel
  intro w hw
  have h1 := List.all_eq_true.mp hg w hw
  rw [h] at hw
  obtain ⟨i, -, hi⟩ := List.mem_filterMap.mp hw
  exact allIdx i hi h1
set_option maxRecDepth 20000 in
theorem inX11 : ∀ w ∈ u_ws RX11 TX11 57, w ∈ ALL := by
  have h : u_ws RX11 TX11 57 = [1366, 1368, 1370, 1372, 1374, 1376, 1378, 1380, 1382, 1384, 1386, 1388, 1390, 1392, 1394, 1396, 1398, 1400, 1402, 1404, 1406, 1408, 1410, 1412, 1414, 1416, 1418, 1420, 1422, 1424, 1426, 1428, 1430, 1432, 1434, 1436, 1438, 1440, 1442, 1444, 1446, 1448, 1450, 1452, 1454, 1456, 1458, 1460, 1462, 1464, 1466, 1468, 1470, 1472, 1474, 1476, 1478].filterMap (fun i => lw_tbl[i]?) := by decide +kernel
  have hg : (u_ws RX11 TX11 57).all goodWord = true := by decide +kernel
  intro w hw
  have h1 := List.all_eq_true.mp hg w hw
  rw [h] at hw
  obtain ⟨i, -, hi⟩ := List.mem_filterMap.mp hw
  exact allIdx i hi h1
theorem cl_in (ci : Nat) (h : ci < 12) : ∀ w ∈ u_ws (clC ci) (clT ci) (nF ci), w ∈ ALL := by
  match ci, h with
  | 0, _ => exact inX0
  | 1, _ => exact inX1
  | 2, _ => exact inX2
  | 3, _ => exact inX3
  | 4, _ => exact inX4
  | 5, _ => exact inX5
  | 6, _ => exact inX6
  | 7, _ => exact inX7
  | 8, _ => exact inX8
  | 9, _ => exact inX9
  | 10, _ => exact inX10
  | 11, _ => exact inX11
/-- where a static field lies -/
def vL (C n d : String) (A : Nat → Prop) (U : State) (H : Heap) : Prop := ∃ (c : ClassId) (k : Class) (i : Nat) (f : Field) (a : Nat) (cell : Cell), U.vm.findClass C = some c ∧ U.fieldFound? C n d = some (c, k, i, f) ∧ f.isStatic = true ∧ k.statics = some a ∧ H[a]? = some cell ∧ cell.vm.isStatics = true ∧ cell.cls = c ∧ f.slot < cell.slots.size ∧ k.staticTypes[f.slot]? = some f.type ∧ ¬ A a
theorem vL.moved {C n d : String} {A : Nat → Prop} {u U : State} {H : Heap} (hvm : u.vm.Alike U.vm) (h : vL C n d A u H) : vL C n d A U H := by
  obtain ⟨c, k, i, f, a, cell, h1, h2, h3, h4, h5, h6, h7, h8, h9, h10⟩ := h
  obtain ⟨k', hi', he⟩ := State.fieldFound?_setVm hvm h2
  exact ⟨c, k', i, f, a, cell, by rw [hvm.findClass]; exact h1, hi', h3, by rw [he]; exact h4, h5, h6, h7, h8, by rw [he]; exact h9, h10⟩
theorem vL.kept {C n d : String} {A : Nat → Prop} {U : State} {H H1 : Heap} (h : vL C n d A U H) (hq : ∀ a : Nat, a < H.size → ¬ A a → H1[a]? = H[a]?) : vL C n d A U H1 := by
  obtain ⟨c, k, i, f, a, cell, h1, h2, h3, h4, h5, h6, h7, h8, h9, h10⟩ := h
  exact ⟨c, k, i, f, a, cell, h1, h2, h3, h4, by rw [hq a (Array.getElem?_eq_some_iff.mp h5).1 h10]; exact h5, h6, h7, h8, h9, h10⟩
def tbs : List (List Int32) := [[112, 119, 100, 109, 115, 104], [2, 2, 12, 5, 20, 2, 0, 30, 5, 4, 0], [114, 104, 121, 105, 112, 119, 115, 109, 100, 110, 107], [0, 0, 2, 0, 1, 0, 0, 0, 0, 0, 0], [8, 9, 30, 30, 99, 9, 3, 99, 9, 9, 2], [112, 98, 103, 121, 104], [2, 1, 2, 1, 0]]
def tb (t j : Nat) : Int32 := (tbs.getD t []).getD j 0
def tbn (t : Nat) : Nat := (tbs.getD t []).length
def sts : List (List Int32) := [[121], [112, 119, 100, 109, 115, 104], [114, 104, 121, 105], [112, 119, 115], [109, 100, 110, 107], [112, 98, 103, 121, 104]]
def stn : List Nat := [1, 6, 4, 3, 4, 5]
/-- what stays: where the slots of the classes lie, the array classes, the first cell, the static tables, the String constants and their bytes -/
abbrev Th : Type := va_G × (Nat → ClassId) × Nat × (Nat → Nat) × (Nat → Nat) × (Nat → Nat)
abbrev tD (θ : Th) : va_G := θ.1
abbrev aC (θ : Th) : Nat → ClassId := θ.2.1
abbrev be (θ : Th) : Nat := θ.2.2.1
abbrev tA (θ : Th) : Nat → Nat := θ.2.2.2.1
abbrev sA (θ : Th) : Nat → Nat := θ.2.2.2.2.1
abbrev sV (θ : Th) : Nat → Nat := θ.2.2.2.2.2
def Aq (θ : Th) : Nat → Prop := fun q => be θ ≤ q
def rv (β r : Nat) : Value := if r = 0 then .null else .ref (β + r)
def fv (θ : Th) (σ : Mem) (ci a k : Nat) : Value := match (ft ci k).1 with
  | 0 => .int (mI σ a k)
  | 1 => .long (mL σ a k)
  | 2 => .ref (be θ + (a + (ft ci k).2))
  | 3 => rv (be θ) (mR σ a k)
  | _ => .ref (sA θ (ft ci k).2)
def ev (θ : Th) (σ : Mem) (k a j : Nat) : Value := if k = 16 then .long (mL σ a j) else if k ≤ 15 then .int (mI σ a j) else .ref (be θ + ra a j)
def cellOk (θ : Th) (σ : Mem) (a : Nat) (H : Heap) : Prop :=
  (∀ ci, kd a = ci + 1 → ci < 12 → t_OB (be θ + a) ((tD θ).1 ci) (nF ci) ((tD θ).2 ci) H (fv θ σ ci a)) ∧ (13 ≤ kd a → H[be θ + a]? = some (arrV (aC θ (kd a)) (ln a) (fun j => ev θ σ (kd a) a j)))
def Wd (θ : Th) (σ : Mem) (H : Heap) : Prop := ∀ a, cellOk θ σ a H
def tys (θ : Th) : List (ClassId × FieldType) := [(aC θ 13, .int), (aC θ 14, .byte), (aC θ 15, .boolean), (aC θ 16, .long), (aC θ 17, .object RX5), (aC θ 18, .object RX2), (aC θ 19, .object RX7)]
abbrev Kn (θ : Th) (U : State) : Prop := va_K (tD θ) vwCl (tys θ) U
def Sx (θ : Th) (U : State) (H : Heap) : Prop := (va_X (tA θ 1) 11 (fun j => tb 1 j) U H ∧ va_Z "NearlyBought$Law" "LETTERS" "[C" (.ref (tA θ 0)) (Aq θ) U H ∧ va_T .char (tA θ 0) 6 (fun j => .int (tb 0 j)) (Aq θ) U H ∧ va_Z "NearlyBought$City" "USUAL" "[I" (.ref (tA θ 1)) (Aq θ) U H ∧ va_T .int (tA θ 1) 11 (fun j => .int (tb 1 j)) (Aq θ) U H ∧ va_Z "NearlyBought$City" "LETTERS" "[C" (.ref (tA θ 2)) (Aq θ) U H ∧ va_T .char (tA θ 2) 11 (fun j => .int (tb 2 j)) (Aq θ) U H ∧ va_Z "NearlyBought$City" "LOWEST" "[I" (.ref (tA θ 3)) (Aq θ) U H ∧ va_T .int (tA θ 3) 11 (fun j => .int (tb 3 j)) (Aq θ) U H ∧ va_Z "NearlyBought$City" "HIGHEST" "[I" (.ref (tA θ 4)) (Aq θ) U H ∧ va_T .int (tA θ 4) 11 (fun j => .int (tb 4 j)) (Aq θ) U H ∧ va_Z "NearlyBought$Day" "LETTERS" "[C" (.ref (tA θ 5)) (Aq θ) U H ∧ va_T .char (tA θ 5) 5 (fun j => .int (tb 5 j)) (Aq θ) U H ∧ va_Z "NearlyBought$Day" "DIGITS" "[I" (.ref (tA θ 6)) (Aq θ) U H ∧ va_T .int (tA θ 6) 5 (fun j => .int (tb 6 j)) (Aq θ) U H) ∧ vk_S 6 stn sts (sA θ) (sV θ) (Aq θ) U H ∧ (vk_R RX11 26 "y" (sA θ 0) U ∧ vk_R RX11 32 "pwdmsh" (sA θ 1) U ∧ vk_R RX11 267 "rhyi" (sA θ 2) U ∧ vk_R RX11 273 "pws" (sA θ 3) U ∧ vk_R RX11 275 "mdnk" (sA θ 4) U ∧ vk_R RX11 280 "pbgyh" (sA θ 5) U) ∧ va_Z "java/lang/String" "COMPACT_STRINGS" "Z" (.int 1) (Aq θ) U H ∧ va_Zq "jdk/internal/util/Preconditions" "SIOOBE_FORMATTER" "Ljava/util/function/BiFunction;" (Aq θ) U H ∧ va_Zq "java/lang/Throwable" "UNASSIGNED_STACK" "[Ljava/lang/StackTraceElement;" (Aq θ) U H ∧ vL "java/lang/Throwable" "UNASSIGNED_STACK" "[Ljava/lang/StackTraceElement;" (Aq θ) U H ∧ va_Zq "java/lang/Throwable" "SUPPRESSED_SENTINEL" "Ljava/util/List;" (Aq θ) U H ∧ vL "java/lang/Throwable" "SUPPRESSED_SENTINEL" "Ljava/util/List;" (Aq θ) U H
theorem Sx.kept {θ : Th} {U : State} {H H1 : Heap} (h : Sx θ U H) (hq : ∀ a : Nat, a < H.size → ¬ Aq θ a → H1[a]? = H[a]?) : Sx θ U H1 := by
  obtain ⟨⟨ax, a0, a1, a2, a3, a4, a5, a6, a7, a8, a9, a10, a11, a12, a13⟩, b, ⟨c0, c1, c2, c3, c4, c5⟩, e0, e1, e2, e3, e4, e5⟩ := h
  exact ⟨⟨ax.kept (by obtain ⟨cl, q1, -, -, -, -, -, q2⟩ := a3; exact hq _ (Array.getElem?_eq_some_iff.mp q1).1 q2), a0.kept hq, a1.kept hq, a2.kept hq, a3.kept hq, a4.kept hq, a5.kept hq, a6.kept hq, a7.kept hq, a8.kept hq, a9.kept hq, a10.kept hq, a11.kept hq, a12.kept hq, a13.kept hq⟩, b.kept hq, ⟨c0, c1, c2, c3, c4, c5⟩, e0.kept hq, e1.kept hq, e2.kept hq, e3.kept hq, e4.kept hq, e5.kept hq⟩
theorem Sx.warm {θ : Th} {s U : State} {H : Heap} (hW : s.WarmedH U.vm) (h : Sx θ s H) : Sx θ U H := by
  obtain ⟨⟨ax, a0, a1, a2, a3, a4, a5, a6, a7, a8, a9, a10, a11, a12, a13⟩, b, ⟨c0, c1, c2, c3, c4, c5⟩, e0, e1, e2, e3, e4, e5⟩ := h
  exact ⟨⟨ax.moved hW.alike, a0.moved hW.alike, a1.moved hW.alike, a2.moved hW.alike, a3.moved hW.alike, a4.moved hW.alike, a5.moved hW.alike, a6.moved hW.alike, a7.moved hW.alike, a8.moved hW.alike, a9.moved hW.alike, a10.moved hW.alike, a11.moved hW.alike, a12.moved hW.alike, a13.moved hW.alike⟩, b.moved hW.alike, ⟨c0.warm hW, c1.warm hW, c2.warm hW, c3.warm hW, c4.warm hW, c5.warm hW⟩, e0.moved hW.alike, e1.moved hW.alike, e2.moved hW.alike, e3.moved hW.alike, e4.moved hW.alike, e5.moved hW.alike⟩
theorem Sx.same {θ : Th} {u U : State} {H : Heap} (hv : U.vm = u.vm) (h : Sx θ u H) : Sx θ U H := by
  have hW : u.vm.Alike U.vm := by rw [hv]; exact Vm.Alike.refl _
  obtain ⟨⟨ax, a0, a1, a2, a3, a4, a5, a6, a7, a8, a9, a10, a11, a12, a13⟩, b, ⟨c0, c1, c2, c3, c4, c5⟩, e0, e1, e2, e3, e4, e5⟩ := h
  exact ⟨⟨ax.moved hW, a0.moved hW, a1.moved hW, a2.moved hW, a3.moved hW, a4.moved hW, a5.moved hW, a6.moved hW, a7.moved hW, a8.moved hW, a9.moved hW, a10.moved hW, a11.moved hW, a12.moved hW, a13.moved hW⟩, b.moved hW, ⟨c0.same hv, c1.same hv, c2.same hv, c3.same hv, c4.same hv, c5.same hv⟩, e0.moved hW, e1.moved hW, e2.moved hW, e3.moved hW, e4.moved hW, e5.moved hW⟩
/-- what holds of a state in which the system stands, its memory σ -/
def Pr (θ : Th) (σ : Mem) (U : State) : Prop := Wd θ σ U.heap ∧ Kn θ U ∧ Sx θ U U.heap ∧ be θ ≤ U.heap.size
/-- what holds all through a method's body -/
def Cx (θ : Th) (p : Program) (s : State) (m : MethodId) (args : Array Value) (c : Code) (cc : ByteArray) (nL : Nat) (own : String) : Prop :=
  CallFix p m c cc nL s args ALL own ∧ Kn θ s ∧ Sx θ s s.heap ∧ be θ ≤ s.heap.size
def G (θ : Th) (p : Program) (l : Launch) (e : Env) (R : Room) (s : State) (m : MethodId) (args : Array Value) (below : List Frame) (meth : Method) (c : Code) (nL cells slots : Nat) (Q : State → Prop) (pc : Nat) (lv : List (Nat × Value)) (st : List Value) (σ : Mem) : Prop :=
  ∀ (H : Heap) (locs : List Loc) (ls : Array Slot), Wd θ σ H → va_S (Aq θ) s.heap H locs → lv_has ls nL lv → W p l e R s m args below meth c H locs cells slots Q (F0 m pc ls st)
/-- a method's end: this answer, this memory -/
def Qy (θ : Th) (r : Option Value × Mem) : Array Value → State → Outcome → State → Prop := fun _ st oc t => (oc = .returned r.1 ∧ Pr θ r.2 t) ∧ va_F (Aq θ) st t
abbrev rmq (d mc ms : Nat) : Room := { frames := d, cells := mc, slots := ms, locals := 40 * d }
/-- a method's contract: from the memory σ with these arguments it comes to r -/
def Cn (θ : Th) (l : Launch) (y : MethodName) (cc : ByteArray) (maxL : Nat) (ret : Option FieldType) (d mc ms : Nat) (av : List Value) (σ : Mem) (r : Option Value × Mem) : Prop :=
  Met l y (.code y cc maxL ret :: ALL) (rmq d mc ms) (va_Pc av (Pr θ σ)) (Qy θ r) mc ms (Aq θ)
theorem Pr.blind {θ : Th} {σ : Mem} {av : List Value} : FrameBlind (va_Pc av (Pr θ σ)) := by
  intro a U g mk ⟨h1, h2, h3, h4, h5⟩
  exact ⟨h1, h2, va_K.moved (u := U) (U := U.calling g mk a) (Vm.Alike.refl U.vm) h3, Sx.same (u := U) (U := U.calling g mk a) rfl h4, h5⟩
theorem Pr.of {θ : Th} {σ : Mem} {s U : State} {H : Heap} {locs : List Loc} {p : Program} {m : MethodId} {args : Array Value} {c : Code} {cc : ByteArray} {nL : Nat} {own : String} (X : Cx θ p s m args c cc nL own) (hW : Wd θ σ H) (hS : va_S (Aq θ) s.heap H locs) (hU : U.heap = H) (hw : s.WarmedH U.vm) : Pr θ σ U := by
  refine ⟨by rw [hU]; exact hW, va_K.moved hw.alike X.2.1, ?_, by rw [hU]; exact Nat.le_trans X.2.2.2 hS.1⟩
  rw [hU]
  exact (X.2.2.1.kept hS.2.1).warm hw
/-- from the contract's start to the body -/
theorem Cn.of {θ : Th} {l : Launch} {y : MethodName} {cc : ByteArray} {maxL : Nat} {ret : Option FieldType} {d mc ms : Nat} {av : List Value} {σ : Mem} {r : Option Value × Mem} (hy : plainName y.cls = true) (hn : (lg_sl av).length ≤ maxL)
    (body : ∀ (p : Program) (e : Env) (s : State) (m : MethodId) (below : List Frame) (meth : Method) (c : Code), Cx θ p s m av.toArray c cc maxL y.cls → meth.sig.returnType = ret → meth.locks = false →
      G θ p l e (rmq d mc ms) s m av.toArray below meth c maxL 0 0 (MQ below (Qy θ r) av.toArray s mc ms (Aq θ)) 0 (lv_args 0 av) [] σ) : Cn θ l y cc maxL ret d mc ms av σ r := by
  refine Met.ofW (cc := cc) (maxL := maxL) (ret := ret) hy rfl ?_
  intro p e s m args below meth c s₁ B hml hv
  obtain ⟨rfl, h2, h3, h4, h5⟩ := hv
  have hts := atoms_spec (ws := .code y cc maxL ret :: ALL) B.pre
  have hown : s.vm.findClass y.cls = some m.cls := findClass_of_methodNamed B.named
  have X : Cx θ p s m av.toArray c cc maxL y.cls := ⟨⟨B.exec, B.bytes, hml, hown, fun w hw => hts w (List.mem_cons_of_mem _ hw)⟩, h3, h4, h5⟩
  have hl := lv_entry av (n := maxL) hn
  rw [lg_entry_eq]
  exact body p e s m below meth c X B.returns B.notSynchronized s.heap [] _ h2 va_S.rf hl
/-! the world under stores -/
theorem mI_rI_ne {σ : Mem} {a b : Nat} {f : Nat → Int32} (h : b ≠ a) : mI (rI σ a f) b = mI σ b := va_up_ne _ _ h
theorem mI_rI_self {σ : Mem} {a : Nat} {f : Nat → Int32} : mI (rI σ a f) a = f := va_up_self _ _ _
theorem Wd.setI {θ : Th} {σ : Mem} {H H1 : Heap} {a k : Nat} {v : Int32} (h : Wd θ σ H) (hk : 1 ≤ kd a ∧ kd a ≤ 15) (hft : ∀ ci, kd a = ci + 1 → ci < 12 → (ft ci k).1 = 0)
    (h1 : ∀ ci, kd a = ci + 1 → ci < 12 → t_OB (be θ + a) ((tD θ).1 ci) (nF ci) ((tD θ).2 ci) H1 (updV (fv θ σ ci a) k (.int v)))
    (h2 : 13 ≤ kd a → H1[be θ + a]? = some (arrV (aC θ (kd a)) (ln a) (updV (fun j => ev θ σ (kd a) a j) k (.int v)))) (ho : ∀ q, q ≠ be θ + a → H1[q]? = H[q]?) : Wd θ (sI σ a k v) H1 := by
  intro b
  by_cases hb : b = a
  · subst hb
    refine ⟨fun ci hc hi => ?_, fun hc => ?_⟩
    · refine (h1 ci hc hi).to fun j _ => ?_
      by_cases hj : j = k
      · subst hj
        simp [updV, fv, hft ci hc hi, sI, mI_rI_self, upd]
      · have e : mI (sI σ b k v) b j = mI σ b j := by simp [sI, mI_rI_self, upd, hj]
        simp only [updV, if_neg hj]
        unfold fv
        split <;> first | rfl | (rw [e]) | skip
    · rw [h2 hc]
      congr 2
      funext j
      have hk16 : ¬ kd b = 16 := by omega
      have hk15 : kd b ≤ 15 := hk.2
      by_cases hj : j = k
      · subst hj
        simp [updV, ev, hk16, hk15, sI, mI_rI_self, upd]
      · simp [updV, ev, hk16, hk15, hj, sI, mI_rI_self, upd]
  · have e : ∀ j, mI (sI σ a k v) b j = mI σ b j := fun j => by rw [sI, mI_rI_ne hb]
    have hq : H1[be θ + b]? = H[be θ + b]? := ho _ (by omega)
    refine ⟨fun ci hc hi => ((h b).1 ci hc hi |>.kept hq).to fun j _ => ?_, fun hc => ?_⟩
    · unfold fv
      split <;> first | rfl | (rw [e]) | skip
    · rw [hq, (h b).2 hc]
      congr 2
      funext j
      unfold ev
      split
      · rfl
      · split
        · rw [e]
        · rfl
theorem Wd.setL {θ : Th} {σ : Mem} {H H1 : Heap} {a k : Nat} {v : Int64} (h : Wd θ σ H) (hk : 1 ≤ kd a ∧ kd a ≤ 16) (hft : ∀ ci, kd a = ci + 1 → ci < 12 → (ft ci k).1 = 1) (hn : 13 ≤ kd a → kd a = 16)
    (h1 : ∀ ci, kd a = ci + 1 → ci < 12 → t_OB (be θ + a) ((tD θ).1 ci) (nF ci) ((tD θ).2 ci) H1 (updV (fv θ σ ci a) k (.long v)))
    (h2 : 13 ≤ kd a → H1[be θ + a]? = some (arrV (aC θ (kd a)) (ln a) (updV (fun j => ev θ σ (kd a) a j) k (.long v)))) (ho : ∀ q, q ≠ be θ + a → H1[q]? = H[q]?) : Wd θ (sL σ a k v) H1 := by
  intro b
  by_cases hb : b = a
  · subst hb
    have e0 : mL (sL σ b k v) b = vp_updL (mL σ b) k v := va_up_self _ _ _
    refine ⟨fun ci hc hi => ?_, fun hc => ?_⟩
    · refine (h1 ci hc hi).to fun j _ => ?_
      by_cases hj : j = k
      · subst hj
        simp [updV, fv, hft ci hc hi, e0, vp_updL]
      · have e : mL (sL σ b k v) b j = mL σ b j := by rw [e0]; simp [vp_updL, hj]
        simp only [updV, if_neg hj]
        unfold fv
        split <;> first | rfl | (rw [e]) | skip
    · rw [h2 hc]
      congr 2
      funext j
      have hk16 : kd b = 16 := hn hc
      by_cases hj : j = k
      · subst hj
        simp [updV, ev, hk16, e0, vp_updL]
      · simp [updV, ev, hk16, hj, e0, vp_updL]
  · have e : ∀ j, mL (sL σ a k v) b j = mL σ b j := fun j => by
      show va_up σ.2.1 a _ b j = _
      rw [va_up_ne _ _ hb]; rfl
    have hq : H1[be θ + b]? = H[be θ + b]? := ho _ (by omega)
    refine ⟨fun ci hc hi => ((h b).1 ci hc hi |>.kept hq).to fun j _ => ?_, fun hc => ?_⟩
    · unfold fv
      split <;> first | rfl | (rw [e]) | skip
    · rw [hq, (h b).2 hc]
      congr 2
      funext j
      unfold ev
      split
      · rw [e]
      · rfl
theorem Wd.setR {θ : Th} {σ : Mem} {H H1 : Heap} {a k v : Nat} (h : Wd θ σ H) (hk : 1 ≤ kd a ∧ kd a ≤ 12) (hft : ∀ ci, kd a = ci + 1 → ci < 12 → (ft ci k).1 = 3)
    (h1 : ∀ ci, kd a = ci + 1 → ci < 12 → t_OB (be θ + a) ((tD θ).1 ci) (nF ci) ((tD θ).2 ci) H1 (updV (fv θ σ ci a) k (rv (be θ) v))) (ho : ∀ q, q ≠ be θ + a → H1[q]? = H[q]?) : Wd θ (sR σ a k v) H1 := by
  intro b
  by_cases hb : b = a
  · subst hb
    have e0 : mR (sR σ b k v) b = va_up (mR σ b) k v := va_up_self _ _ _
    refine ⟨fun ci hc hi => ?_, fun hc => by omega⟩
    refine (h1 ci hc hi).to fun j _ => ?_
    by_cases hj : j = k
    · subst hj
      simp [updV, fv, hft ci hc hi, e0, va_up]
    · have e : mR (sR σ b k v) b j = mR σ b j := by rw [e0]; simp [va_up, hj]
      simp only [updV, if_neg hj]
      unfold fv
      split <;> first | rfl | (rw [e]) | skip
  · have e : ∀ j, mR (sR σ a k v) b j = mR σ b j := fun j => by
      show va_up σ.2.2 a _ b j = _
      rw [va_up_ne _ _ hb]; rfl
    have hq : H1[be θ + b]? = H[be θ + b]? := ho _ (by omega)
    refine ⟨fun ci hc hi => ((h b).1 ci hc hi |>.kept hq).to fun j _ => ?_, fun hc => ?_⟩
    · unfold fv
      split <;> first | rfl | (rw [e]) | skip
    · rw [hq, (h b).2 hc]
      rfl

section GR
variable {θ : Th} {p : Program} {l : Launch} {e : Env} {R : Room} {s : State} {m : MethodId} {args : Array Value} {below : List Frame} {meth : Method} {c : Code} {cc : ByteArray} {own : String} {nL cells slots pc : Nat} {Q : State → Prop} {lv : List (Nat × Value)} {st : List Value} {σ : Mem}
theorem g_iconst (X : Cx θ p s m args c cc nL own) {n : Int} {v : Int32} (hd : decode cc pc = .ok (.iconst n, 1)) (hv : Int32.ofInt n = v) (k : G θ p l e R s m args below meth c nL cells slots Q (pc + 1) lv (.int v :: st) σ) : G θ p l e R s m args below meth c nL cells slots Q pc lv (st) σ := fun H locs ls hW hS hl => lv_iconst X.1.1 X.1.2.1 hd hv (k H locs ls hW hS hl)
theorem g_bipush (X : Cx θ p s m args c cc nL own) {n : Int} {v : Int32} (hd : decode cc pc = .ok (.bipush n, 2)) (hv : (Int8.ofInt n).toInt32 = v) (k : G θ p l e R s m args below meth c nL cells slots Q (pc + 2) lv (.int v :: st) σ) : G θ p l e R s m args below meth c nL cells slots Q pc lv (st) σ := fun H locs ls hW hS hl => lv_bipush X.1.1 X.1.2.1 hd hv (k H locs ls hW hS hl)
theorem g_sipush (X : Cx θ p s m args c cc nL own) {n : Int} {v : Int32} (hd : decode cc pc = .ok (.sipush n, 3)) (hv : (Int16.ofInt n).toInt32 = v) (k : G θ p l e R s m args below meth c nL cells slots Q (pc + 3) lv (.int v :: st) σ) : G θ p l e R s m args below meth c nL cells slots Q pc lv (st) σ := fun H locs ls hW hS hl => lv_sipush X.1.1 X.1.2.1 hd hv (k H locs ls hW hS hl)
theorem g_lconst (X : Cx θ p s m args c cc nL own) {n : Fin 2} {v : Int64} (hd : decode cc pc = .ok (.lconst n, 1)) (hv : Int64.ofNat (n : Nat) = v) (k : G θ p l e R s m args below meth c nL cells slots Q (pc + 1) lv (.long v :: st) σ) : G θ p l e R s m args below meth c nL cells slots Q pc lv (st) σ := fun H locs ls hW hS hl => lv_lconst X.1.1 X.1.2.1 hd hv (k H locs ls hW hS hl)
theorem g_iadd (X : Cx θ p s m args c cc nL own) {x y : Int32} (hd : decode cc pc = .ok (.iadd, 1)) (k : G θ p l e R s m args below meth c nL cells slots Q (pc + 1) lv (.int (x + y) :: st) σ) : G θ p l e R s m args below meth c nL cells slots Q pc lv (.int y :: .int x :: st) σ := fun H locs ls hW hS hl => lv_iadd X.1.1 X.1.2.1 hd (k H locs ls hW hS hl)
theorem g_isub (X : Cx θ p s m args c cc nL own) {x y : Int32} (hd : decode cc pc = .ok (.isub, 1)) (k : G θ p l e R s m args below meth c nL cells slots Q (pc + 1) lv (.int (x - y) :: st) σ) : G θ p l e R s m args below meth c nL cells slots Q pc lv (.int y :: .int x :: st) σ := fun H locs ls hW hS hl => lv_isub X.1.1 X.1.2.1 hd (k H locs ls hW hS hl)
theorem g_imul (X : Cx θ p s m args c cc nL own) {x y : Int32} (hd : decode cc pc = .ok (.imul, 1)) (k : G θ p l e R s m args below meth c nL cells slots Q (pc + 1) lv (.int (x * y) :: st) σ) : G θ p l e R s m args below meth c nL cells slots Q pc lv (.int y :: .int x :: st) σ := fun H locs ls hW hS hl => lv_imul X.1.1 X.1.2.1 hd (k H locs ls hW hS hl)
theorem g_iand (X : Cx θ p s m args c cc nL own) {x y : Int32} (hd : decode cc pc = .ok (.iand, 1)) (k : G θ p l e R s m args below meth c nL cells slots Q (pc + 1) lv (.int (x &&& y) :: st) σ) : G θ p l e R s m args below meth c nL cells slots Q pc lv (.int y :: .int x :: st) σ := fun H locs ls hW hS hl => lv_iand X.1.1 X.1.2.1 hd (k H locs ls hW hS hl)
theorem g_ior (X : Cx θ p s m args c cc nL own) {x y : Int32} (hd : decode cc pc = .ok (.ior, 1)) (k : G θ p l e R s m args below meth c nL cells slots Q (pc + 1) lv (.int (x ||| y) :: st) σ) : G θ p l e R s m args below meth c nL cells slots Q pc lv (.int y :: .int x :: st) σ := fun H locs ls hW hS hl => lv_ior X.1.1 X.1.2.1 hd (k H locs ls hW hS hl)
theorem g_ixor (X : Cx θ p s m args c cc nL own) {x y : Int32} (hd : decode cc pc = .ok (.ixor, 1)) (k : G θ p l e R s m args below meth c nL cells slots Q (pc + 1) lv (.int (x ^^^ y) :: st) σ) : G θ p l e R s m args below meth c nL cells slots Q pc lv (.int y :: .int x :: st) σ := fun H locs ls hW hS hl => lv_ixor X.1.1 X.1.2.1 hd (k H locs ls hW hS hl)
theorem g_idiv (X : Cx θ p s m args c cc nL own) {x y : Int32} (hd : decode cc pc = .ok (.idiv, 1)) (hne : ¬ y = 0) (k : G θ p l e R s m args below meth c nL cells slots Q (pc + 1) lv (.int (x / y) :: st) σ) : G θ p l e R s m args below meth c nL cells slots Q pc lv (.int y :: .int x :: st) σ := fun H locs ls hW hS hl => lv_idiv X.1.1 X.1.2.1 hd hne (k H locs ls hW hS hl)
theorem g_irem (X : Cx θ p s m args c cc nL own) {x y : Int32} (hd : decode cc pc = .ok (.irem, 1)) (hne : ¬ y = 0) (k : G θ p l e R s m args below meth c nL cells slots Q (pc + 1) lv (.int (x - x / y * y) :: st) σ) : G θ p l e R s m args below meth c nL cells slots Q pc lv (.int y :: .int x :: st) σ := fun H locs ls hW hS hl => lv_irem X.1.1 X.1.2.1 hd hne (k H locs ls hW hS hl)
theorem g_ineg (X : Cx θ p s m args c cc nL own) {x : Int32} (hd : decode cc pc = .ok (.ineg, 1)) (k : G θ p l e R s m args below meth c nL cells slots Q (pc + 1) lv (.int (-x) :: st) σ) : G θ p l e R s m args below meth c nL cells slots Q pc lv (.int x :: st) σ := fun H locs ls hW hS hl => lv_ineg X.1.1 X.1.2.1 hd (k H locs ls hW hS hl)
theorem g_ladd (X : Cx θ p s m args c cc nL own) {x y : Int64} (hd : decode cc pc = .ok (.ladd, 1)) (k : G θ p l e R s m args below meth c nL cells slots Q (pc + 1) lv (.long (x + y) :: st) σ) : G θ p l e R s m args below meth c nL cells slots Q pc lv (.long y :: .long x :: st) σ := fun H locs ls hW hS hl => lv_ladd X.1.1 X.1.2.1 hd (k H locs ls hW hS hl)
theorem g_lsub (X : Cx θ p s m args c cc nL own) {x y : Int64} (hd : decode cc pc = .ok (.lsub, 1)) (k : G θ p l e R s m args below meth c nL cells slots Q (pc + 1) lv (.long (x - y) :: st) σ) : G θ p l e R s m args below meth c nL cells slots Q pc lv (.long y :: .long x :: st) σ := fun H locs ls hW hS hl => lv_lsub X.1.1 X.1.2.1 hd (k H locs ls hW hS hl)
theorem g_lmul (X : Cx θ p s m args c cc nL own) {x y : Int64} (hd : decode cc pc = .ok (.lmul, 1)) (k : G θ p l e R s m args below meth c nL cells slots Q (pc + 1) lv (.long (x * y) :: st) σ) : G θ p l e R s m args below meth c nL cells slots Q pc lv (.long y :: .long x :: st) σ := fun H locs ls hW hS hl => lv_lmul X.1.1 X.1.2.1 hd (k H locs ls hW hS hl)
theorem g_land (X : Cx θ p s m args c cc nL own) {x y : Int64} (hd : decode cc pc = .ok (.land, 1)) (k : G θ p l e R s m args below meth c nL cells slots Q (pc + 1) lv (.long (x &&& y) :: st) σ) : G θ p l e R s m args below meth c nL cells slots Q pc lv (.long y :: .long x :: st) σ := fun H locs ls hW hS hl => lv_land X.1.1 X.1.2.1 hd (k H locs ls hW hS hl)
theorem g_lor (X : Cx θ p s m args c cc nL own) {x y : Int64} (hd : decode cc pc = .ok (.lor, 1)) (k : G θ p l e R s m args below meth c nL cells slots Q (pc + 1) lv (.long (x ||| y) :: st) σ) : G θ p l e R s m args below meth c nL cells slots Q pc lv (.long y :: .long x :: st) σ := fun H locs ls hW hS hl => lv_lor X.1.1 X.1.2.1 hd (k H locs ls hW hS hl)
theorem g_ldiv (X : Cx θ p s m args c cc nL own) {x y : Int64} (hd : decode cc pc = .ok (.ldiv, 1)) (hne : ¬ y = 0) (k : G θ p l e R s m args below meth c nL cells slots Q (pc + 1) lv (.long (x / y) :: st) σ) : G θ p l e R s m args below meth c nL cells slots Q pc lv (.long y :: .long x :: st) σ := fun H locs ls hW hS hl => lv_ldiv X.1.1 X.1.2.1 hd hne (k H locs ls hW hS hl)
theorem g_lrem (X : Cx θ p s m args c cc nL own) {x y : Int64} (hd : decode cc pc = .ok (.lrem, 1)) (hne : ¬ y = 0) (k : G θ p l e R s m args below meth c nL cells slots Q (pc + 1) lv (.long (x - x / y * y) :: st) σ) : G θ p l e R s m args below meth c nL cells slots Q pc lv (.long y :: .long x :: st) σ := fun H locs ls hW hS hl => lv_lrem X.1.1 X.1.2.1 hd hne (k H locs ls hW hS hl)
theorem g_ishl (X : Cx θ p s m args c cc nL own) {x y : Int32} (hd : decode cc pc = .ok (.ishl, 1)) (k : G θ p l e R s m args below meth c nL cells slots Q (pc + 1) lv (.int (x <<< (y &&& 31)) :: st) σ) : G θ p l e R s m args below meth c nL cells slots Q pc lv (.int y :: .int x :: st) σ := fun H locs ls hW hS hl => lv_ishl X.1.1 X.1.2.1 hd (k H locs ls hW hS hl)
theorem g_ishr (X : Cx θ p s m args c cc nL own) {x y : Int32} (hd : decode cc pc = .ok (.ishr, 1)) (k : G θ p l e R s m args below meth c nL cells slots Q (pc + 1) lv (.int (x >>> (y &&& 31)) :: st) σ) : G θ p l e R s m args below meth c nL cells slots Q pc lv (.int y :: .int x :: st) σ := fun H locs ls hW hS hl => lv_ishr X.1.1 X.1.2.1 hd (k H locs ls hW hS hl)
theorem g_iushr (X : Cx θ p s m args c cc nL own) {x y v : Int32} (hd : decode cc pc = .ok (.iushr, 1)) (hv : (x.toUInt32 >>> (y.toUInt32 &&& Int32.toUInt32 31)).toInt32 = v) (k : G θ p l e R s m args below meth c nL cells slots Q (pc + 1) lv (.int v :: st) σ) : G θ p l e R s m args below meth c nL cells slots Q pc lv (.int y :: .int x :: st) σ := fun H locs ls hW hS hl => lv_iushr X.1.1 X.1.2.1 hd hv (k H locs ls hW hS hl)
theorem g_lushr (X : Cx θ p s m args c cc nL own) {x v : Int64} {y : Int32} (hd : decode cc pc = .ok (.lushr, 1)) (hv : (x.toUInt64 >>> (y.toInt64.toUInt64 &&& Int64.toUInt64 63)).toInt64 = v) (k : G θ p l e R s m args below meth c nL cells slots Q (pc + 1) lv (.long v :: st) σ) : G θ p l e R s m args below meth c nL cells slots Q pc lv (.int y :: .long x :: st) σ := fun H locs ls hW hS hl => lv_lushr X.1.1 X.1.2.1 hd hv (k H locs ls hW hS hl)
theorem g_lshl (X : Cx θ p s m args c cc nL own) {x v : Int64} {y : Int32} (hd : decode cc pc = .ok (.lshl, 1)) (hv : x <<< (y.toInt64 &&& 63) = v) (k : G θ p l e R s m args below meth c nL cells slots Q (pc + 1) lv (.long v :: st) σ) : G θ p l e R s m args below meth c nL cells slots Q pc lv (.int y :: .long x :: st) σ := fun H locs ls hW hS hl => lv_lshl X.1.1 X.1.2.1 hd hv (k H locs ls hW hS hl)
theorem g_i2l (X : Cx θ p s m args c cc nL own) {x : Int32} {v : Int64} (hd : decode cc pc = .ok (.i2l, 1)) (hv : x.toInt64 = v) (k : G θ p l e R s m args below meth c nL cells slots Q (pc + 1) lv (.long v :: st) σ) : G θ p l e R s m args below meth c nL cells slots Q pc lv (.int x :: st) σ := fun H locs ls hW hS hl => lv_i2l X.1.1 X.1.2.1 hd hv (k H locs ls hW hS hl)
theorem g_l2i (X : Cx θ p s m args c cc nL own) {x : Int64} {v : Int32} (hd : decode cc pc = .ok (.l2i, 1)) (hv : x.toInt32 = v) (k : G θ p l e R s m args below meth c nL cells slots Q (pc + 1) lv (.int v :: st) σ) : G θ p l e R s m args below meth c nL cells slots Q pc lv (.long x :: st) σ := fun H locs ls hW hS hl => lv_l2i X.1.1 X.1.2.1 hd hv (k H locs ls hW hS hl)
theorem g_i2b (X : Cx θ p s m args c cc nL own) {x v : Int32} (hd : decode cc pc = .ok (.i2b, 1)) (hv : x.toInt8.toInt32 = v) (k : G θ p l e R s m args below meth c nL cells slots Q (pc + 1) lv (.int v :: st) σ) : G θ p l e R s m args below meth c nL cells slots Q pc lv (.int x :: st) σ := fun H locs ls hW hS hl => lv_i2b X.1.1 X.1.2.1 hd hv (k H locs ls hW hS hl)
theorem g_dup (X : Cx θ p s m args c cc nL own) {va : Value} (hd : decode cc pc = .ok (.dup, 1)) (hva : va.category = 1) (k : G θ p l e R s m args below meth c nL cells slots Q (pc + 1) lv (va :: va :: st) σ) : G θ p l e R s m args below meth c nL cells slots Q pc lv (va :: st) σ := fun H locs ls hW hS hl => lv_dup X.1.1 X.1.2.1 hd hva (k H locs ls hW hS hl)
theorem g_pop (X : Cx θ p s m args c cc nL own) {va : Value} (hd : decode cc pc = .ok (.pop, 1)) (hva : va.category = 1) (k : G θ p l e R s m args below meth c nL cells slots Q (pc + 1) lv (st) σ) : G θ p l e R s m args below meth c nL cells slots Q pc lv (va :: st) σ := fun H locs ls hW hS hl => lv_pop X.1.1 X.1.2.1 hd hva (k H locs ls hW hS hl)
theorem g_dup2 (X : Cx θ p s m args c cc nL own) {va vb : Value} (hd : decode cc pc = .ok (.dup2, 1)) (hva : va.category = 1) (hvb : vb.category = 1) (k : G θ p l e R s m args below meth c nL cells slots Q (pc + 1) lv (va :: vb :: va :: vb :: st) σ) : G θ p l e R s m args below meth c nL cells slots Q pc lv (va :: vb :: st) σ := fun H locs ls hW hS hl => lv_dup2_11 X.1.1 X.1.2.1 hd hva hvb (k H locs ls hW hS hl)
theorem g_lcmp (X : Cx θ p s m args c cc nL own) {x y : Int64} (hd : decode cc pc = .ok (.lcmp, 1)) (k : G θ p l e R s m args below meth c nL cells slots Q (pc + 1) lv (.int (lg_cmp x y) :: st) σ) : G θ p l e R s m args below meth c nL cells slots Q pc lv (.long y :: .long x :: st) σ := fun H locs ls hW hS hl => W.lcmp X.1.1 X.1.2.1 hd (k H locs ls hW hS hl)
theorem g_null (X : Cx θ p s m args c cc nL own)  (hd : decode cc pc = .ok (.aconst_null, 1)) (k : G θ p l e R s m args below meth c nL cells slots Q (pc + 1) lv (.null :: st) σ) : G θ p l e R s m args below meth c nL cells slots Q pc lv (st) σ := fun H locs ls hW hS hl => lv_null X.1.1 X.1.2.1 hd (k H locs ls hW hS hl)
theorem g_if_eq (X : Cx θ p s m args c cc nL own) {x : Int32} {off : Int} {tgt : Nat} (hd : decode cc pc = .ok (.ifCond .eq off, 3)) (ht : (pc : Int) + off = (tgt : Int)) (kt : x = 0 → G θ p l e R s m args below meth c nL cells slots Q tgt lv st σ) (kf : ¬ x = 0 → G θ p l e R s m args below meth c nL cells slots Q (pc + 3) lv st σ) : G θ p l e R s m args below meth c nL cells slots Q pc lv (.int x :: st) σ := fun H locs ls hW hS hl => lv_if_eq X.1.1 X.1.2.1 hd ht (fun q => kt q H locs ls hW hS hl) (fun q => kf q H locs ls hW hS hl)
theorem g_icmp_eq (X : Cx θ p s m args c cc nL own) {x y : Int32} {off : Int} {tgt : Nat} (hd : decode cc pc = .ok (.if_icmp .eq off, 3)) (ht : (pc : Int) + off = (tgt : Int)) (kt : x = y → G θ p l e R s m args below meth c nL cells slots Q tgt lv st σ) (kf : ¬ x = y → G θ p l e R s m args below meth c nL cells slots Q (pc + 3) lv st σ) : G θ p l e R s m args below meth c nL cells slots Q pc lv (.int y :: .int x :: st) σ := fun H locs ls hW hS hl => lv_icmp_eq X.1.1 X.1.2.1 hd ht (fun q => kt q H locs ls hW hS hl) (fun q => kf q H locs ls hW hS hl)
theorem g_if_ne (X : Cx θ p s m args c cc nL own) {x : Int32} {off : Int} {tgt : Nat} (hd : decode cc pc = .ok (.ifCond .ne off, 3)) (ht : (pc : Int) + off = (tgt : Int)) (kt : ¬ x = 0 → G θ p l e R s m args below meth c nL cells slots Q tgt lv st σ) (kf : x = 0 → G θ p l e R s m args below meth c nL cells slots Q (pc + 3) lv st σ) : G θ p l e R s m args below meth c nL cells slots Q pc lv (.int x :: st) σ := fun H locs ls hW hS hl => lv_if_ne X.1.1 X.1.2.1 hd ht (fun q => kt q H locs ls hW hS hl) (fun q => kf q H locs ls hW hS hl)
theorem g_icmp_ne (X : Cx θ p s m args c cc nL own) {x y : Int32} {off : Int} {tgt : Nat} (hd : decode cc pc = .ok (.if_icmp .ne off, 3)) (ht : (pc : Int) + off = (tgt : Int)) (kt : ¬ x = y → G θ p l e R s m args below meth c nL cells slots Q tgt lv st σ) (kf : x = y → G θ p l e R s m args below meth c nL cells slots Q (pc + 3) lv st σ) : G θ p l e R s m args below meth c nL cells slots Q pc lv (.int y :: .int x :: st) σ := fun H locs ls hW hS hl => lv_icmp_ne X.1.1 X.1.2.1 hd ht (fun q => kt q H locs ls hW hS hl) (fun q => kf q H locs ls hW hS hl)
theorem g_if_lt (X : Cx θ p s m args c cc nL own) {x : Int32} {off : Int} {tgt : Nat} (hd : decode cc pc = .ok (.ifCond .lt off, 3)) (ht : (pc : Int) + off = (tgt : Int)) (kt : x < 0 → G θ p l e R s m args below meth c nL cells slots Q tgt lv st σ) (kf : ¬ x < 0 → G θ p l e R s m args below meth c nL cells slots Q (pc + 3) lv st σ) : G θ p l e R s m args below meth c nL cells slots Q pc lv (.int x :: st) σ := fun H locs ls hW hS hl => lv_if_lt X.1.1 X.1.2.1 hd ht (fun q => kt q H locs ls hW hS hl) (fun q => kf q H locs ls hW hS hl)
theorem g_icmp_lt (X : Cx θ p s m args c cc nL own) {x y : Int32} {off : Int} {tgt : Nat} (hd : decode cc pc = .ok (.if_icmp .lt off, 3)) (ht : (pc : Int) + off = (tgt : Int)) (kt : x < y → G θ p l e R s m args below meth c nL cells slots Q tgt lv st σ) (kf : ¬ x < y → G θ p l e R s m args below meth c nL cells slots Q (pc + 3) lv st σ) : G θ p l e R s m args below meth c nL cells slots Q pc lv (.int y :: .int x :: st) σ := fun H locs ls hW hS hl => lv_icmp_lt X.1.1 X.1.2.1 hd ht (fun q => kt q H locs ls hW hS hl) (fun q => kf q H locs ls hW hS hl)
theorem g_if_ge (X : Cx θ p s m args c cc nL own) {x : Int32} {off : Int} {tgt : Nat} (hd : decode cc pc = .ok (.ifCond .ge off, 3)) (ht : (pc : Int) + off = (tgt : Int)) (kt : 0 ≤ x → G θ p l e R s m args below meth c nL cells slots Q tgt lv st σ) (kf : ¬ 0 ≤ x → G θ p l e R s m args below meth c nL cells slots Q (pc + 3) lv st σ) : G θ p l e R s m args below meth c nL cells slots Q pc lv (.int x :: st) σ := fun H locs ls hW hS hl => lv_if_ge X.1.1 X.1.2.1 hd ht (fun q => kt q H locs ls hW hS hl) (fun q => kf q H locs ls hW hS hl)
theorem g_icmp_ge (X : Cx θ p s m args c cc nL own) {x y : Int32} {off : Int} {tgt : Nat} (hd : decode cc pc = .ok (.if_icmp .ge off, 3)) (ht : (pc : Int) + off = (tgt : Int)) (kt : y ≤ x → G θ p l e R s m args below meth c nL cells slots Q tgt lv st σ) (kf : ¬ y ≤ x → G θ p l e R s m args below meth c nL cells slots Q (pc + 3) lv st σ) : G θ p l e R s m args below meth c nL cells slots Q pc lv (.int y :: .int x :: st) σ := fun H locs ls hW hS hl => lv_icmp_ge X.1.1 X.1.2.1 hd ht (fun q => kt q H locs ls hW hS hl) (fun q => kf q H locs ls hW hS hl)
theorem g_if_gt (X : Cx θ p s m args c cc nL own) {x : Int32} {off : Int} {tgt : Nat} (hd : decode cc pc = .ok (.ifCond .gt off, 3)) (ht : (pc : Int) + off = (tgt : Int)) (kt : 0 < x → G θ p l e R s m args below meth c nL cells slots Q tgt lv st σ) (kf : ¬ 0 < x → G θ p l e R s m args below meth c nL cells slots Q (pc + 3) lv st σ) : G θ p l e R s m args below meth c nL cells slots Q pc lv (.int x :: st) σ := fun H locs ls hW hS hl => lv_if_gt X.1.1 X.1.2.1 hd ht (fun q => kt q H locs ls hW hS hl) (fun q => kf q H locs ls hW hS hl)
theorem g_icmp_gt (X : Cx θ p s m args c cc nL own) {x y : Int32} {off : Int} {tgt : Nat} (hd : decode cc pc = .ok (.if_icmp .gt off, 3)) (ht : (pc : Int) + off = (tgt : Int)) (kt : y < x → G θ p l e R s m args below meth c nL cells slots Q tgt lv st σ) (kf : ¬ y < x → G θ p l e R s m args below meth c nL cells slots Q (pc + 3) lv st σ) : G θ p l e R s m args below meth c nL cells slots Q pc lv (.int y :: .int x :: st) σ := fun H locs ls hW hS hl => lv_icmp_gt X.1.1 X.1.2.1 hd ht (fun q => kt q H locs ls hW hS hl) (fun q => kf q H locs ls hW hS hl)
theorem g_if_le (X : Cx θ p s m args c cc nL own) {x : Int32} {off : Int} {tgt : Nat} (hd : decode cc pc = .ok (.ifCond .le off, 3)) (ht : (pc : Int) + off = (tgt : Int)) (kt : x ≤ 0 → G θ p l e R s m args below meth c nL cells slots Q tgt lv st σ) (kf : ¬ x ≤ 0 → G θ p l e R s m args below meth c nL cells slots Q (pc + 3) lv st σ) : G θ p l e R s m args below meth c nL cells slots Q pc lv (.int x :: st) σ := fun H locs ls hW hS hl => lv_if_le X.1.1 X.1.2.1 hd ht (fun q => kt q H locs ls hW hS hl) (fun q => kf q H locs ls hW hS hl)
theorem g_icmp_le (X : Cx θ p s m args c cc nL own) {x y : Int32} {off : Int} {tgt : Nat} (hd : decode cc pc = .ok (.if_icmp .le off, 3)) (ht : (pc : Int) + off = (tgt : Int)) (kt : x ≤ y → G θ p l e R s m args below meth c nL cells slots Q tgt lv st σ) (kf : ¬ x ≤ y → G θ p l e R s m args below meth c nL cells slots Q (pc + 3) lv st σ) : G θ p l e R s m args below meth c nL cells slots Q pc lv (.int y :: .int x :: st) σ := fun H locs ls hW hS hl => lv_icmp_le X.1.1 X.1.2.1 hd ht (fun q => kt q H locs ls hW hS hl) (fun q => kf q H locs ls hW hS hl)
theorem g_goto (X : Cx θ p s m args c cc nL own) {off : Int} {tgt : Nat} (hd : decode cc pc = .ok (.goto off, 3)) (ht : (pc : Int) + off = (tgt : Int)) (k : G θ p l e R s m args below meth c nL cells slots Q tgt lv st σ) : G θ p l e R s m args below meth c nL cells slots Q pc lv st σ := fun H locs ls hW hS hl => lv_goto X.1.1 X.1.2.1 hd ht (k H locs ls hW hS hl)
theorem g_ifnull (X : Cx θ p s m args c cc nL own) {r : Nat} {off : Int} {tgt : Nat} (hd : decode cc pc = .ok (.ifnull off, 3)) (ht : (pc : Int) + off = (tgt : Int)) (kt : r = 0 → G θ p l e R s m args below meth c nL cells slots Q tgt lv st σ) (kf : ¬ r = 0 → G θ p l e R s m args below meth c nL cells slots Q (pc + 3) lv st σ) : G θ p l e R s m args below meth c nL cells slots Q pc lv (rv (be θ) r :: st) σ := by
  intro H locs ls hW hS hl
  by_cases h : r = 0
  · rw [rv, if_pos h]
    exact lv_ifnullN X.1.1 X.1.2.1 hd ht (kt h H locs ls hW hS hl)
  · rw [rv, if_neg h]
    exact lv_ifnull X.1.1 X.1.2.1 hd (kf h H locs ls hW hS hl)
theorem g_iload_n (X : Cx θ p s m args c cc nL own) {k : Fin 4} {i : Nat} {x : Int32} (hd : decode cc pc = .ok (.iload_n k, 1)) (hi : (k : Nat) = i) (kq : Nat) (hq : lv[kq]? = some (i, .int x)) (k : G θ p l e R s m args below meth c nL cells slots Q (pc + 1) lv (.int x :: st) σ) : G θ p l e R s m args below meth c nL cells slots Q pc lv st σ := fun H locs ls hW hS hl => lv_iload_n X.1.1 X.1.2.1 hd hi (lv_at hl kq hq) (k H locs ls hW hS hl)
theorem g_iload (X : Cx θ p s m args c cc nL own) {i : Nat} {x : Int32} (hd : decode cc pc = .ok (.iload i, 2)) (kq : Nat) (hq : lv[kq]? = some (i, .int x)) (k : G θ p l e R s m args below meth c nL cells slots Q (pc + 2) lv (.int x :: st) σ) : G θ p l e R s m args below meth c nL cells slots Q pc lv st σ := fun H locs ls hW hS hl => lv_iload X.1.1 X.1.2.1 hd (lv_at hl kq hq) (k H locs ls hW hS hl)
theorem g_istore_n (X : Cx θ p s m args c cc nL own) {k : Fin 4} {i : Nat} {x : Int32} {lv' : List (Nat × Value)} (hd : decode cc pc = .ok (.istore_n k, 1)) (hi : (k : Nat) = i) (hn : i < nL) (hl' : (i, Value.int x) :: lv.filter (fun q => !(q.1 == i) && !(q.1 + 1 == i && q.2.category == 2)) = lv') (k : G θ p l e R s m args below meth c nL cells slots Q (pc + 1) lv' st σ) : G θ p l e R s m args below meth c nL cells slots Q pc lv (.int x :: st) σ := fun H locs ls hW hS hl => lv_istore_n X.1.1 X.1.2.1 hd hi hl hn hl' (fun ls hl => k H locs ls hW hS hl)
theorem g_istore (X : Cx θ p s m args c cc nL own) {i : Nat} {x : Int32} {lv' : List (Nat × Value)} (hd : decode cc pc = .ok (.istore i, 2)) (hn : i < nL) (hl' : (i, Value.int x) :: lv.filter (fun q => !(q.1 == i) && !(q.1 + 1 == i && q.2.category == 2)) = lv') (k : G θ p l e R s m args below meth c nL cells slots Q (pc + 2) lv' st σ) : G θ p l e R s m args below meth c nL cells slots Q pc lv (.int x :: st) σ := fun H locs ls hW hS hl => lv_istore X.1.1 X.1.2.1 hd hl hn hl' (fun ls hl => k H locs ls hW hS hl)
theorem g_lload_n (X : Cx θ p s m args c cc nL own) {k : Fin 4} {i : Nat} {x : Int64} (hd : decode cc pc = .ok (.lload_n k, 1)) (hi : (k : Nat) = i) (kq : Nat) (hq : lv[kq]? = some (i, .long x)) (k : G θ p l e R s m args below meth c nL cells slots Q (pc + 1) lv (.long x :: st) σ) : G θ p l e R s m args below meth c nL cells slots Q pc lv st σ := fun H locs ls hW hS hl => lv_lload_n X.1.1 X.1.2.1 hd hi (lv_at hl kq hq) (k H locs ls hW hS hl)
theorem g_lload (X : Cx θ p s m args c cc nL own) {i : Nat} {x : Int64} (hd : decode cc pc = .ok (.lload i, 2)) (kq : Nat) (hq : lv[kq]? = some (i, .long x)) (k : G θ p l e R s m args below meth c nL cells slots Q (pc + 2) lv (.long x :: st) σ) : G θ p l e R s m args below meth c nL cells slots Q pc lv st σ := fun H locs ls hW hS hl => lv_lload X.1.1 X.1.2.1 hd (lv_at hl kq hq) (k H locs ls hW hS hl)
theorem g_lstore_n (X : Cx θ p s m args c cc nL own) {k : Fin 4} {i : Nat} {x : Int64} {lv' : List (Nat × Value)} (hd : decode cc pc = .ok (.lstore_n k, 1)) (hi : (k : Nat) = i) (hn : i + 1 < nL) (hl' : (i, Value.long x) :: lv.filter (fun q => !(q.1 == i) && (!(q.1 == i + 1) && !(q.1 + 1 == i && q.2.category == 2))) = lv') (k : G θ p l e R s m args below meth c nL cells slots Q (pc + 1) lv' st σ) : G θ p l e R s m args below meth c nL cells slots Q pc lv (.long x :: st) σ := fun H locs ls hW hS hl => lv_lstore_n X.1.1 X.1.2.1 hd hi hl hn hl' (fun ls hl => k H locs ls hW hS hl)
theorem g_lstore (X : Cx θ p s m args c cc nL own) {i : Nat} {x : Int64} {lv' : List (Nat × Value)} (hd : decode cc pc = .ok (.lstore i, 2)) (hn : i + 1 < nL) (hl' : (i, Value.long x) :: lv.filter (fun q => !(q.1 == i) && (!(q.1 == i + 1) && !(q.1 + 1 == i && q.2.category == 2))) = lv') (k : G θ p l e R s m args below meth c nL cells slots Q (pc + 2) lv' st σ) : G θ p l e R s m args below meth c nL cells slots Q pc lv (.long x :: st) σ := fun H locs ls hW hS hl => lv_lstore X.1.1 X.1.2.1 hd hl hn hl' (fun ls hl => k H locs ls hW hS hl)
theorem g_aload_n (X : Cx θ p s m args c cc nL own) {k : Fin 4} {i : Nat} {x : Nat} (hd : decode cc pc = .ok (.aload_n k, 1)) (hi : (k : Nat) = i) (kq : Nat) (hq : lv[kq]? = some (i, .ref x)) (k : G θ p l e R s m args below meth c nL cells slots Q (pc + 1) lv (.ref x :: st) σ) : G θ p l e R s m args below meth c nL cells slots Q pc lv st σ := fun H locs ls hW hS hl => lv_aload_n X.1.1 X.1.2.1 hd hi (lv_at hl kq hq) (k H locs ls hW hS hl)
theorem g_aload (X : Cx θ p s m args c cc nL own) {i : Nat} {x : Nat} (hd : decode cc pc = .ok (.aload i, 2)) (kq : Nat) (hq : lv[kq]? = some (i, .ref x)) (k : G θ p l e R s m args below meth c nL cells slots Q (pc + 2) lv (.ref x :: st) σ) : G θ p l e R s m args below meth c nL cells slots Q pc lv st σ := fun H locs ls hW hS hl => lv_aload X.1.1 X.1.2.1 hd (lv_at hl kq hq) (k H locs ls hW hS hl)
theorem g_astore_n (X : Cx θ p s m args c cc nL own) {k : Fin 4} {i : Nat} {x : Nat} {lv' : List (Nat × Value)} (hd : decode cc pc = .ok (.astore_n k, 1)) (hi : (k : Nat) = i) (hn : i < nL) (hl' : (i, Value.ref x) :: lv.filter (fun q => !(q.1 == i) && !(q.1 + 1 == i && q.2.category == 2)) = lv') (k : G θ p l e R s m args below meth c nL cells slots Q (pc + 1) lv' st σ) : G θ p l e R s m args below meth c nL cells slots Q pc lv (.ref x :: st) σ := fun H locs ls hW hS hl => lv_astore_n X.1.1 X.1.2.1 hd hi hl hn hl' (fun ls hl => k H locs ls hW hS hl)
theorem g_astore (X : Cx θ p s m args c cc nL own) {i : Nat} {x : Nat} {lv' : List (Nat × Value)} (hd : decode cc pc = .ok (.astore i, 2)) (hn : i < nL) (hl' : (i, Value.ref x) :: lv.filter (fun q => !(q.1 == i) && !(q.1 + 1 == i && q.2.category == 2)) = lv') (k : G θ p l e R s m args below meth c nL cells slots Q (pc + 2) lv' st σ) : G θ p l e R s m args below meth c nL cells slots Q pc lv (.ref x :: st) σ := fun H locs ls hW hS hl => lv_astore X.1.1 X.1.2.1 hd hl hn hl' (fun ls hl => k H locs ls hW hS hl)
theorem g_iinc (X : Cx θ p s m args c cc nL own) {i kq : Nat} {n : Int} {x v : Int32} {lv' : List (Nat × Value)} (hd : decode cc pc = .ok (.iinc i n, 3)) (hq : lv[kq]? = some (i, .int x)) (hv : x + Int32.ofInt n = v) (hn : i < nL) (hl' : (i, Value.int v) :: lv.filter (fun q => !(q.1 == i) && !(q.1 + 1 == i && q.2.category == 2)) = lv') (k : G θ p l e R s m args below meth c nL cells slots Q (pc + 3) lv' st σ) : G θ p l e R s m args below meth c nL cells slots Q pc lv st σ := fun H locs ls hW hS hl => lv_iinc X.1.1 X.1.2.1 hd hl hq hv hn hl' (fun ls hl => k H locs ls hW hS hl)
theorem g_sub {lv' : List (Nat × Value)} (ks : List Nat) (h : lv_pick lv ks = lv') (k : G θ p l e R s m args below meth c nL cells slots Q pc lv' st σ) : G θ p l e R s m args below meth c nL cells slots Q pc lv st σ := fun H locs ls hW hS hl => k H locs ls hW hS (lv_sub hl ks h)
theorem g_ldc (X : Cx θ p s m args c cc nL own) {idx : Nat} {v : Int32} (hc : Cond.constant own idx v ∈ ALL) (hd : decode cc pc = .ok (.ldc idx, 2)) (k : G θ p l e R s m args below meth c nL cells slots Q (pc + 2) lv (.int v :: st) σ) : G θ p l e R s m args below meth c nL cells slots Q pc lv st σ := fun H locs ls hW hS hl => lv_ldc X.1.1 X.1.2.1 X.1.2.2.2.1 (X.1.2.2.2.2 _ hc) hd (k H locs ls hW hS hl)
theorem g_ldcw (X : Cx θ p s m args c cc nL own) {idx : Nat} {v : Int32} (hc : Cond.constant own idx v ∈ ALL) (hd : decode cc pc = .ok (.ldc_w idx, 3)) (k : G θ p l e R s m args below meth c nL cells slots Q (pc + 3) lv (.int v :: st) σ) : G θ p l e R s m args below meth c nL cells slots Q pc lv st σ := fun H locs ls hW hS hl => lv_ldcw X.1.1 X.1.2.1 X.1.2.2.2.1 (X.1.2.2.2.2 _ hc) hd (k H locs ls hW hS hl)
theorem g_ldc2 (X : Cx θ p s m args c cc nL own) {idx : Nat} {v : Int64} (hc : Cond.constantLong own idx v ∈ ALL) (hd : decode cc pc = .ok (.ldc2_w idx, 3)) (k : G θ p l e R s m args below meth c nL cells slots Q (pc + 3) lv (.long v :: st) σ) : G θ p l e R s m args below meth c nL cells slots Q pc lv st σ := fun H locs ls hW hS hl => lv_ldc2 X.1.1 X.1.2.1 X.1.2.2.2.1 (X.1.2.2.2.2 _ hc) hd (k H locs ls hW hS hl)
/-! fields -/
def Fl (own : String) (idx ci k : Nat) : Prop := ci < 12 ∧ k < nF ci ∧ Cond.fieldLink own idx (clT ci k).1 (clT ci k).2.1 (clT ci k).2.2.1 ∈ ALL
theorem g_get (X : Cx θ p s m args c cc nL own) {idx ci k a : Nat} {v : Value} (F : Fl own idx ci k) (hd : decode cc pc = .ok (.getfield idx, 3)) (ha : kd a = ci + 1) (hv : fv θ σ ci a k = v) (kk : G θ p l e R s m args below meth c nL cells slots Q (pc + 3) lv (v :: st) σ) : G θ p l e R s m args below meth c nL cells slots Q pc lv (.ref (be θ + a) :: st) σ := by
  intro H locs ls hW hS hl
  obtain ⟨hc, hk, hlink⟩ := F
  have hob := (hW a).1 ci ha hc
  have hP : va_P (tD θ) vwCl [(be θ + a, .inr (ci, (List.range (nF ci)).map (fv θ σ ci a)))] H := by
    intro j q hq
    have hz : j < 1 := (List.getElem?_eq_some_iff.mp hq).1
    rw [show j = 0 by omega] at hq
    cases hq
    exact ⟨_, cl_ok ci hc, hob.to fun i hi => by simp [vp_V, hi]⟩
  refine va_get (D := tD θ) (ci := ci) (v := v) (C := clC ci) (T := clT ci) (N := nF ci) X.1.1 X.1.2.1 X.1.2.2.2.2 (cl_in ci hc) X.1.2.2.2.1 X.2.1 hP 0 rfl (cl_ok ci hc) k hk (X.1.2.2.2.2 _ hlink) (fun _ h9 => h9) ?_ hd (kk H locs ls hW hS hl)
  rw [← hv]
  simp [hk]
/-- a store into a field: what the heap is then -/
theorem g_put0 (X : Cx θ p s m args c cc nL own) {idx ci k a : Nat} {v : Value} (F : Fl own idx ci k) (hd : decode cc pc = .ok (.putfield idx, 3)) (ha : kd a = ci + 1) (hfin : (clT ci k).2.2.2 = false) (hn : narrow (clty ci k) v = v) (hfit : fits (clty ci k) v = true) {H : Heap} {locs : List Loc} {ls : Array Slot} (hW : Wd θ σ H) (hS : va_S (Aq θ) s.heap H locs)
    (kk : ∀ (H1 : Heap) (locs1 : List Loc), t_OB (be θ + a) ((tD θ).1 ci) (nF ci) ((tD θ).2 ci) H1 (updV (fv θ σ ci a) k v) → (∀ q, q ≠ be θ + a → H1[q]? = H[q]?) → va_S (Aq θ) s.heap H1 locs1 → W p l e R s m args below meth c H1 locs1 cells slots Q (F0 m (pc + 3) ls st)) : W p l e R s m args below meth c H locs cells slots Q (F0 m pc ls (v :: .ref (be θ + a) :: st)) := by
  obtain ⟨hc, hk, hlink⟩ := F
  have hap := va_apart (own := own) X.1.2.2.2.2 (cl_in ci hc) (clty ci) (cl_ty ci hc) (cl_nm ci hc) X.2.1 (cl_ok ci hc)
  obtain ⟨cell, q1, q2, q3, q4⟩ := (hW a).1 ci ha hc
  obtain ⟨hS2, hfc, kC, hkC, hkind⟩ := X.2.1.1 ci _ (cl_ok ci hc)
  obtain ⟨cf, kf, fi, f, hi, hsl⟩ := hS2 k hk
  have hlay := X.1.2.2.2.2 _ (cl_in ci hc _ (u_in_lay hk))
  unfold u_lay at hlay
  rw [if_neg (by rw [hfin]; decide)] at hlay
  have hst := (u_facts hfc hkC (u_lays X.1.2.2.2.2 (cl_in ci hc) hk) hi).1
  have h6 := u_store hfc hkC hkind hlay hi (cl_ty ci hc k hk) hn hfit
  refine W.putK X.1.1 X.1.2.1 (f := f) ⟨X.1.2.2.2.1, X.1.2.2.2.2 _ hlink, ⟨_, _, _, hi⟩, hst⟩ (by rw [q2]; exact h6) q1 q3 (by rw [hsl]; exact k2_hasslot (q4 k hk)) rfl rfl hd fun H' e1 e2 e3 => ?_
  rw [hsl] at e1 ⊢
  exact kk H' _ ⟨_, e1, q2, q3, t_set q4 hap hk v⟩ e3 (hS.put e2 e3 (Nat.le_add_right _ _))
theorem kd_of {a ci : Nat} (h : kd a = ci + 1) (hc : ci < 12) : ∀ c, kd a = c + 1 → c = ci := fun c h1 => by omega
theorem g_putI (X : Cx θ p s m args c cc nL own) {idx ci k a : Nat} {v : Int32} (F : Fl own idx ci k) (hd : decode cc pc = .ok (.putfield idx, 3)) (ha : kd a = ci + 1) (hfin : (clT ci k).2.2.2 = false) (hty : clty ci k = .int) (hft : (ft ci k).1 = 0) (kk : G θ p l e R s m args below meth c nL cells slots Q (pc + 3) lv st (sI σ a k v)) : G θ p l e R s m args below meth c nL cells slots Q pc lv (.int v :: .ref (be θ + a) :: st) σ := by
  intro H locs ls hW hS hl
  have hc := F.1
  refine g_put0 X F hd ha hfin (by rw [hty]; rfl) (by rw [hty]; rfl) hW hS fun H1 locs1 h1 h2 h3 => kk H1 locs1 ls ?_ h3 hl
  exact hW.setI (by omega) (fun c e _ => by rw [kd_of ha hc c e]; exact hft) (fun c e _ => by rw [kd_of ha hc c e]; exact h1) (fun h => by omega) h2
def bz (v : Int32) : Prop := v = 0 ∨ v = 1
theorem bz0 : bz 0 := Or.inl rfl
theorem bz1 : bz 1 := Or.inr rfl
theorem g_putZ (X : Cx θ p s m args c cc nL own) {idx ci k a : Nat} {v : Int32} (F : Fl own idx ci k) (hd : decode cc pc = .ok (.putfield idx, 3)) (ha : kd a = ci + 1) (hfin : (clT ci k).2.2.2 = false) (hty : clty ci k = .boolean) (hft : (ft ci k).1 = 0) (hb : bz v) (kk : G θ p l e R s m args below meth c nL cells slots Q (pc + 3) lv st (sI σ a k v)) : G θ p l e R s m args below meth c nL cells slots Q pc lv (.int v :: .ref (be θ + a) :: st) σ := by
  intro H locs ls hW hS hl
  have hc := F.1
  refine g_put0 X F hd ha hfin (by rw [hty]; rcases hb with rfl | rfl <;> decide) (by rw [hty]; rcases hb with rfl | rfl <;> decide) hW hS fun H1 locs1 h1 h2 h3 => kk H1 locs1 ls ?_ h3 hl
  exact hW.setI (by omega) (fun c e _ => by rw [kd_of ha hc c e]; exact hft) (fun c e _ => by rw [kd_of ha hc c e]; exact h1) (fun h => by omega) h2
theorem g_putJ (X : Cx θ p s m args c cc nL own) {idx ci k a : Nat} {v : Int64} (F : Fl own idx ci k) (hd : decode cc pc = .ok (.putfield idx, 3)) (ha : kd a = ci + 1) (hfin : (clT ci k).2.2.2 = false) (hty : clty ci k = .long) (hft : (ft ci k).1 = 1) (kk : G θ p l e R s m args below meth c nL cells slots Q (pc + 3) lv st (sL σ a k v)) : G θ p l e R s m args below meth c nL cells slots Q pc lv (.long v :: .ref (be θ + a) :: st) σ := by
  intro H locs ls hW hS hl
  have hc := F.1
  refine g_put0 X F hd ha hfin (by rw [hty]; rfl) (by rw [hty]; rfl) hW hS fun H1 locs1 h1 h2 h3 => kk H1 locs1 ls ?_ h3 hl
  exact hW.setL (by omega) (fun c e _ => by rw [kd_of ha hc c e]; exact hft) (fun h => by omega) (fun c e _ => by rw [kd_of ha hc c e]; exact h1) (fun h => by omega) h2
theorem rv_pos {β r : Nat} (h : r ≠ 0) : rv β r = .ref (β + r) := if_neg h
theorem g_putR (X : Cx θ p s m args c cc nL own) {idx ci k a v : Nat} {w : Value} (F : Fl own idx ci k) (hd : decode cc pc = .ok (.putfield idx, 3)) (ha : kd a = ci + 1) (hfin : (clT ci k).2.2.2 = false) (hn : ∀ u, narrow (clty ci k) (rv u v) = rv u v) (hfit : ∀ u, fits (clty ci k) (rv u v) = true) (hft : (ft ci k).1 = 3) (hw : w = rv (be θ) v) (kk : G θ p l e R s m args below meth c nL cells slots Q (pc + 3) lv st (sR σ a k v)) : G θ p l e R s m args below meth c nL cells slots Q pc lv (w :: .ref (be θ + a) :: st) σ := by
  subst hw
  intro H locs ls hW hS hl
  have hc := F.1
  refine g_put0 X F hd ha hfin (hn _) (hfit _) hW hS fun H1 locs1 h1 h2 h3 => kk H1 locs1 ls ?_ h3 hl
  exact hW.setR (by omega) (fun c e _ => by rw [kd_of ha hc c e]; exact hft) (fun c e _ => by rw [kd_of ha hc c e]; exact h1) h2
/-! arrays -/
theorem ty13 {θ : Th} {U : State} (h : Kn θ U) : ArrOfT U (aC θ 13) .int := (h.2 0 _ rfl).1
theorem ty14 {θ : Th} {U : State} (h : Kn θ U) : ArrOfT U (aC θ 14) .byte := (h.2 1 _ rfl).1
theorem ty15 {θ : Th} {U : State} (h : Kn θ U) : ArrOfT U (aC θ 15) .boolean := (h.2 2 _ rfl).1
theorem ty16 {θ : Th} {U : State} (h : Kn θ U) : ArrOfT U (aC θ 16) .long := (h.2 3 _ rfl).1
theorem Wd.arr {θ : Th} {σ : Mem} {H : Heap} {a k : Nat} (h : Wd θ σ H) (hk : kd a = k) (h13 : 13 ≤ k) : H[be θ + a]? = some (arrV (aC θ k) (ln a) (fun j => ev θ σ k a j)) := by
  subst hk
  exact (h a).2 h13
theorem in_lt {i : Int32} {n : Nat} (h : vp_in i n) : i.toNatClampNeg < n := Nat.not_le.mp fun q => h (Or.inr q)
theorem g_iald (X : Cx θ p s m args c cc nL own) {a n : Nat} {i : Int32} (hk : kd a = 13) (hn : ln a = n) (hi : vp_in i n) (hd : decode cc pc = .ok (.iaload, 1)) (kk : G θ p l e R s m args below meth c nL cells slots Q (pc + 1) lv (.int (mI σ a i.toNatClampNeg) :: st) σ) : G θ p l e R s m args below meth c nL cells slots Q pc lv (.int i :: .ref (be θ + a) :: st) σ := by
  subst hn
  intro H locs ls hW hS hl
  exact W.iald X.1.1 X.1.2.1 (hW.arr hk (by decide)) (ty13 X.2.1 _ _) (fun q => by cases q) (by show ¬ (i < 0 ∨ (arrV _ _ _).slots.size ≤ _); rw [arrV_size]; exact hi) (by show (arrV _ _ _).slots[_]? = _; rw [arrV_read _ _ (in_lt hi)]; rfl) rfl rfl hd (kk H locs ls hW hS hl)
theorem g_bald (X : Cx θ p s m args c cc nL own) {a n : Nat} {i : Int32} (hk : kd a = 14) (hn : ln a = n) (hi : vp_in i n) (hd : decode cc pc = .ok (.baload, 1)) (kk : G θ p l e R s m args below meth c nL cells slots Q (pc + 1) lv (.int (mI σ a i.toNatClampNeg) :: st) σ) : G θ p l e R s m args below meth c nL cells slots Q pc lv (.int i :: .ref (be θ + a) :: st) σ := by
  subst hn
  intro H locs ls hW hS hl
  exact W.bald X.1.1 X.1.2.1 (hW.arr hk (by decide)) (ty14 X.2.1 _ _) (fun q => by cases q) (by show ¬ (i < 0 ∨ (arrV _ _ _).slots.size ≤ _); rw [arrV_size]; exact hi) (by show (arrV _ _ _).slots[_]? = _; rw [arrV_read _ _ (in_lt hi)]; rfl) rfl rfl hd (kk H locs ls hW hS hl)
theorem g_zald (X : Cx θ p s m args c cc nL own) {a n : Nat} {i : Int32} (hk : kd a = 15) (hn : ln a = n) (hi : vp_in i n) (hd : decode cc pc = .ok (.baload, 1)) (kk : G θ p l e R s m args below meth c nL cells slots Q (pc + 1) lv (.int (mI σ a i.toNatClampNeg) :: st) σ) : G θ p l e R s m args below meth c nL cells slots Q pc lv (.int i :: .ref (be θ + a) :: st) σ := by
  subst hn
  intro H locs ls hW hS hl
  exact W.zald X.1.1 X.1.2.1 (hW.arr hk (by decide)) (ty15 X.2.1 _ _) (fun q => by cases q) (by show ¬ (i < 0 ∨ (arrV _ _ _).slots.size ≤ _); rw [arrV_size]; exact hi) (by show (arrV _ _ _).slots[_]? = _; rw [arrV_read _ _ (in_lt hi)]; rfl) rfl rfl hd (kk H locs ls hW hS hl)
theorem g_lald (X : Cx θ p s m args c cc nL own) {a n : Nat} {i : Int32} (hk : kd a = 16) (hn : ln a = n) (hi : vp_in i n) (hd : decode cc pc = .ok (.laload, 1)) (kk : G θ p l e R s m args below meth c nL cells slots Q (pc + 1) lv (.long (mL σ a i.toNatClampNeg) :: st) σ) : G θ p l e R s m args below meth c nL cells slots Q pc lv (.int i :: .ref (be θ + a) :: st) σ := by
  subst hn
  intro H locs ls hW hS hl
  exact W.lald X.1.1 X.1.2.1 (hW.arr hk (by decide)) (ty16 X.2.1 _ _) (fun q => by cases q) (by show ¬ (i < 0 ∨ (arrV _ _ _).slots.size ≤ _); rw [arrV_size]; exact hi) (by show (arrV _ _ _).slots[_]? = _; rw [arrV_read _ _ (in_lt hi)]; rfl) rfl rfl hd (kk H locs ls hW hS hl)
theorem tyq {θ : Th} {U : State} {k : Nat} (h : Kn θ U) (hk : 17 ≤ k ∧ k ≤ 19) : ∃ C : String, ArrOfT U (aC θ k) (.object C) := by
  obtain ⟨h1, h2⟩ := hk
  rcases (show k = 17 ∨ k = 18 ∨ k = 19 by omega) with rfl | rfl | rfl
  · exact ⟨_, (h.2 4 _ rfl).1⟩
  · exact ⟨_, (h.2 5 _ rfl).1⟩
  · exact ⟨_, (h.2 6 _ rfl).1⟩
theorem g_aald (X : Cx θ p s m args c cc nL own) {a n k : Nat} {i : Int32} (hk : kd a = k) (hk2 : 17 ≤ k ∧ k ≤ 19) (hn : ln a = n) (hi : vp_in i n) (hd : decode cc pc = .ok (.aaload, 1)) (kk : G θ p l e R s m args below meth c nL cells slots Q (pc + 1) lv (.ref (be θ + ra a i.toNatClampNeg) :: st) σ) : G θ p l e R s m args below meth c nL cells slots Q pc lv (.int i :: .ref (be θ + a) :: st) σ := by
  subst hn
  intro H locs ls hW hS hl
  obtain ⟨C, hC⟩ := tyq X.2.1 hk2
  have h1 : ¬ k = 16 := by omega
  have h2 : ¬ k ≤ 15 := by omega
  exact W.aald (ty := .object C) X.1.1 X.1.2.1 (hW.arr hk (by omega)) (hC _ _) rfl (fun q => by cases q) (by show ¬ (i < 0 ∨ (arrV _ _ _).slots.size ≤ _); rw [arrV_size]; exact hi) (by show (arrV _ _ _).slots[_]? = _; rw [arrV_read _ _ (in_lt hi)]; simp [ev, h1, h2]) rfl rfl hd (kk H locs ls hW hS hl)
theorem g_iast (X : Cx θ p s m args c cc nL own) {a n : Nat} {i x : Int32} (hk : kd a = 13) (hn : ln a = n) (hi : vp_in i n) (hd : decode cc pc = .ok (.iastore, 1)) (kk : G θ p l e R s m args below meth c nL cells slots Q (pc + 1) lv st (sI σ a i.toNatClampNeg x)) : G θ p l e R s m args below meth c nL cells slots Q pc lv (.int x :: .int i :: .ref (be θ + a) :: st) σ := by
  subst hn
  intro H locs ls hW hS hl
  refine W.iast X.1.1 X.1.2.1 (hW.arr hk (by decide)) (ty13 X.2.1 _ _) (fun q => by cases q) (by show ¬ (i < 0 ∨ (arrV _ _ _).slots.size ≤ _); rw [arrV_size]; exact hi) rfl rfl hd fun H1 e z oq => kk H1 _ ls (hW.setI (by omega) (fun ci h _ => by omega) (fun ci h _ => by omega) (fun _ => ?_) oq) (hS.put z oq (Nat.le_add_right _ _)) hl
  rw [e, arrV_store, hk]
theorem g_bast (X : Cx θ p s m args c cc nL own) {a n : Nat} {i x : Int32} (hk : kd a = 14) (hn : ln a = n) (hi : vp_in i n) (hd : decode cc pc = .ok (.bastore, 1)) (kk : G θ p l e R s m args below meth c nL cells slots Q (pc + 1) lv st (sI σ a i.toNatClampNeg (vp_nar .byte x))) : G θ p l e R s m args below meth c nL cells slots Q pc lv (.int x :: .int i :: .ref (be θ + a) :: st) σ := by
  subst hn
  intro H locs ls hW hS hl
  refine W.bast X.1.1 X.1.2.1 (hW.arr hk (by decide)) (ty14 X.2.1 _ _) (fun q => by cases q) (by show ¬ (i < 0 ∨ (arrV _ _ _).slots.size ≤ _); rw [arrV_size]; exact hi) rfl rfl hd fun H1 e z oq => kk H1 _ ls (hW.setI (by omega) (fun ci h _ => by omega) (fun ci h _ => by omega) (fun _ => ?_) oq) (hS.put z oq (Nat.le_add_right _ _)) hl
  rw [e, arrV_store, hk]
  rfl
theorem g_zast (X : Cx θ p s m args c cc nL own) {a n : Nat} {i x : Int32} (hk : kd a = 15) (hn : ln a = n) (hi : vp_in i n) (hd : decode cc pc = .ok (.bastore, 1)) (kk : G θ p l e R s m args below meth c nL cells slots Q (pc + 1) lv st (sI σ a i.toNatClampNeg (vp_nar .boolean x))) : G θ p l e R s m args below meth c nL cells slots Q pc lv (.int x :: .int i :: .ref (be θ + a) :: st) σ := by
  subst hn
  intro H locs ls hW hS hl
  refine W.zast X.1.1 X.1.2.1 (hW.arr hk (by decide)) (ty15 X.2.1 _ _) (fun q => by cases q) (by show ¬ (i < 0 ∨ (arrV _ _ _).slots.size ≤ _); rw [arrV_size]; exact hi) rfl rfl hd fun H1 e z oq => kk H1 _ ls (hW.setI (by omega) (fun ci h _ => by omega) (fun ci h _ => by omega) (fun _ => ?_) oq) (hS.put z oq (Nat.le_add_right _ _)) hl
  rw [e, arrV_store, hk]
  rfl
theorem g_last (X : Cx θ p s m args c cc nL own) {a n : Nat} {i : Int32} {x : Int64} (hk : kd a = 16) (hn : ln a = n) (hi : vp_in i n) (hd : decode cc pc = .ok (.lastore, 1)) (kk : G θ p l e R s m args below meth c nL cells slots Q (pc + 1) lv st (sL σ a i.toNatClampNeg x)) : G θ p l e R s m args below meth c nL cells slots Q pc lv (.long x :: .int i :: .ref (be θ + a) :: st) σ := by
  subst hn
  intro H locs ls hW hS hl
  refine W.last X.1.1 X.1.2.1 (hW.arr hk (by decide)) (ty16 X.2.1 _ _) (fun q => by cases q) (by show ¬ (i < 0 ∨ (arrV _ _ _).slots.size ≤ _); rw [arrV_size]; exact hi) rfl rfl hd fun H1 e z oq => kk H1 _ ls (hW.setL (by omega) (fun ci h _ => by omega) (fun _ => hk) (fun ci h _ => by omega) (fun _ => ?_) oq) (hS.put z oq (Nat.le_add_right _ _)) hl
  rw [e, arrV_store, hk]
theorem g_alen (X : Cx θ p s m args c cc nL own) {a n k : Nat} {v : Int32} (hk : kd a = k) (hk2 : 13 ≤ k ∧ k ≤ 19) (hn : ln a = n) (hv : Int32.ofNat n = v) (hd : decode cc pc = .ok (.arraylength, 1)) (kk : G θ p l e R s m args below meth c nL cells slots Q (pc + 1) lv (.int v :: st) σ) : G θ p l e R s m args below meth c nL cells slots Q pc lv (.ref (be θ + a) :: st) σ := by
  subst hn; subst hv
  intro H locs ls hW hS hl
  have hT : ∃ ty, ArrOfT s (aC θ k) ty := by
    rcases (show k = 13 ∨ k = 14 ∨ k = 15 ∨ k = 16 ∨ (17 ≤ k ∧ k ≤ 19) by omega) with rfl | rfl | rfl | rfl | h
    · exact ⟨_, ty13 X.2.1⟩
    · exact ⟨_, ty14 X.2.1⟩
    · exact ⟨_, ty15 X.2.1⟩
    · exact ⟨_, ty16 X.2.1⟩
    · obtain ⟨C, hC⟩ := tyq X.2.1 h
      exact ⟨_, hC⟩
  obtain ⟨ty, hT⟩ := hT
  exact W.alen (n := Int32.ofNat (ln a)) (ty := ty) X.1.1 X.1.2.1 (hW.arr hk hk2.1) (hT _ _) (by rw [arrV_size] <;> rfl) rfl rfl hd (kk H locs ls hW hS hl)

end GR
