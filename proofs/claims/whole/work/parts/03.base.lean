/-! memory of a fixed layout: which cell is of which kind, and what it holds -/
abbrev Mem : Type := (Nat → Nat → Int32) × (Nat → Nat → Int64) × (Nat → Nat → Nat)
def mI (σ : Mem) : Nat → Nat → Int32 := σ.1
def mL (σ : Mem) : Nat → Nat → Int64 := σ.2.1
def mR (σ : Mem) : Nat → Nat → Nat := σ.2.2
def rI (σ : Mem) (a : Nat) (f : Nat → Int32) : Mem := (va_up σ.1 a f, σ.2.1, σ.2.2)
def sI (σ : Mem) (a k : Nat) (v : Int32) : Mem := rI σ a (upd (mI σ a) k v)
def sL (σ : Mem) (a k : Nat) (v : Int64) : Mem := (σ.1, va_up σ.2.1 a (vp_updL (mL σ a) k v), σ.2.2)
def sR (σ : Mem) (a k : Nat) (v : Nat) : Mem := (σ.1, σ.2.1, va_up σ.2.2 a (va_up (mR σ a) k v))
def lay : List (Nat × Nat) := [(11, 0), (9, 0), (13, 240), (17, 5), (18, 5), (13, 6), (8, 0), (13, 8), (13, 8), (13, 8), (13, 8), (13, 6), (13, 6), (13, 6), (13, 96), (13, 180), (8, 0), (13, 8), (13, 8), (13, 8), (13, 8), (13, 6), (13, 6), (13, 6), (13, 96), (13, 180), (5, 0), (19, 40), (8, 0), (13, 8), (13, 8), (13, 8), (13, 8), (13, 6), (13, 6), (13, 6), (13, 96), (13, 180), (8, 0), (13, 8), (13, 8), (13, 8), (13, 8), (13, 6), (13, 6), (13, 6), (13, 96), (13, 180), (8, 0), (13, 8), (13, 8), (13, 8), (13, 8), (13, 6), (13, 6), (13, 6), (13, 96), (13, 180), (8, 0), (13, 8), (13, 8), (13, 8), (13, 8), (13, 6), (13, 6), (13, 6), (13, 96), (13, 180), (8, 0), (13, 8), (13, 8), (13, 8), (13, 8), (13, 6), (13, 6), (13, 6), (13, 96), (13, 180), (8, 0), (13, 8), (13, 8), (13, 8), (13, 8), (13, 6), (13, 6), (13, 6), (13, 96), (13, 180), (8, 0), (13, 8), (13, 8), (13, 8), (13, 8), (13, 6), (13, 6), (13, 6), (13, 96), (13, 180), (8, 0), (13, 8), (13, 8), (13, 8), (13, 8), (13, 6), (13, 6), (13, 6), (13, 96), (13, 180), (8, 0), (13, 8), (13, 8), (13, 8), (13, 8), (13, 6), (13, 6), (13, 6), (13, 96), (13, 180), (8, 0), (13, 8), (13, 8), (13, 8), (13, 8), (13, 6), (13, 6), (13, 6), (13, 96), (13, 180), (8, 0), (13, 8), (13, 8), (13, 8), (13, 8), (13, 6), (13, 6), (13, 6), (13, 96), (13, 180), (8, 0), (13, 8), (13, 8), (13, 8), (13, 8), (13, 6), (13, 6), (13, 6), (13, 96), (13, 180), (8, 0), (13, 8), (13, 8), (13, 8), (13, 8), (13, 6), (13, 6), (13, 6), (13, 96), (13, 180), (8, 0), (13, 8), (13, 8), (13, 8), (13, 8), (13, 6), (13, 6), (13, 6), (13, 96), (13, 180), (8, 0), (13, 8), (13, 8), (13, 8), (13, 8), (13, 6), (13, 6), (13, 6), (13, 96), (13, 180), (8, 0), (13, 8), (13, 8), (13, 8), (13, 8), (13, 6), (13, 6), (13, 6), (13, 96), (13, 180), (8, 0), (13, 8), (13, 8), (13, 8), (13, 8), (13, 6), (13, 6), (13, 6), (13, 96), (13, 180), (8, 0), (13, 8), (13, 8), (13, 8), (13, 8), (13, 6), (13, 6), (13, 6), (13, 96), (13, 180), (8, 0), (13, 8), (13, 8), (13, 8), (13, 8), (13, 6), (13, 6), (13, 6), (13, 96), (13, 180), (8, 0), (13, 8), (13, 8), (13, 8), (13, 8), (13, 6), (13, 6), (13, 6), (13, 96), (13, 180), (8, 0), (13, 8), (13, 8), (13, 8), (13, 8), (13, 6), (13, 6), (13, 6), (13, 96), (13, 180), (8, 0), (13, 8), (13, 8), (13, 8), (13, 8), (13, 6), (13, 6), (13, 6), (13, 96), (13, 180), (8, 0), (13, 8), (13, 8), (13, 8), (13, 8), (13, 6), (13, 6), (13, 6), (13, 96), (13, 180), (8, 0), (13, 8), (13, 8), (13, 8), (13, 8), (13, 6), (13, 6), (13, 6), (13, 96), (13, 180), (8, 0), (13, 8), (13, 8), (13, 8), (13, 8), (13, 6), (13, 6), (13, 6), (13, 96), (13, 180), (8, 0), (13, 8), (13, 8), (13, 8), (13, 8), (13, 6), (13, 6), (13, 6), (13, 96), (13, 180), (8, 0), (13, 8), (13, 8), (13, 8), (13, 8), (13, 6), (13, 6), (13, 6), (13, 96), (13, 180), (8, 0), (13, 8), (13, 8), (13, 8), (13, 8), (13, 6), (13, 6), (13, 6), (13, 96), (13, 180), (8, 0), (13, 8), (13, 8), (13, 8), (13, 8), (13, 6), (13, 6), (13, 6), (13, 96), (13, 180), (8, 0), (13, 8), (13, 8), (13, 8), (13, 8), (13, 6), (13, 6), (13, 6), (13, 96), (13, 180), (8, 0), (13, 8), (13, 8), (13, 8), (13, 8), (13, 6), (13, 6), (13, 6), (13, 96), (13, 180), (8, 0), (13, 8), (13, 8), (13, 8), (13, 8), (13, 6), (13, 6), (13, 6), (13, 96), (13, 180), (8, 0), (13, 8), (13, 8), (13, 8), (13, 8), (13, 6), (13, 6), (13, 6), (13, 96), (13, 180), (8, 0), (13, 8), (13, 8), (13, 8), (13, 8), (13, 6), (13, 6), (13, 6), (13, 96), (13, 180), (8, 0), (13, 8), (13, 8), (13, 8), (13, 8), (13, 6), (13, 6), (13, 6), (13, 96), (13, 180), (8, 0), (13, 8), (13, 8), (13, 8), (13, 8), (13, 6), (13, 6), (13, 6), (13, 96), (13, 180), (8, 0), (13, 8), (13, 8), (13, 8), (13, 8), (13, 6), (13, 6), (13, 6), (13, 96), (13, 180), (8, 0), (13, 8), (13, 8), (13, 8), (13, 8), (13, 6), (13, 6), (13, 6), (13, 96), (13, 180), (8, 0), (13, 8), (13, 8), (13, 8), (13, 8), (13, 6), (13, 6), (13, 6), (13, 96), (13, 180), (8, 0), (13, 8), (13, 8), (13, 8), (13, 8), (13, 6), (13, 6), (13, 6), (13, 96), (13, 180), (10, 0), (13, 6), (2, 0), (13, 4), (13, 24), (13, 24), (7, 0), (8, 0), (13, 8), (13, 8), (13, 8), (13, 8), (13, 6), (13, 6), (13, 6), (13, 96), (13, 180), (19, 7), (8, 0), (13, 8), (13, 8), (13, 8), (13, 8), (13, 6), (13, 6), (13, 6), (13, 96), (13, 180), (8, 0), (13, 8), (13, 8), (13, 8), (13, 8), (13, 6), (13, 6), (13, 6), (13, 96), (13, 180), (8, 0), (13, 8), (13, 8), (13, 8), (13, 8), (13, 6), (13, 6), (13, 6), (13, 96), (13, 180), (8, 0), (13, 8), (13, 8), (13, 8), (13, 8), (13, 6), (13, 6), (13, 6), (13, 96), (13, 180), (8, 0), (13, 8), (13, 8), (13, 8), (13, 8), (13, 6), (13, 6), (13, 6), (13, 96), (13, 180), (8, 0), (13, 8), (13, 8), (13, 8), (13, 8), (13, 6), (13, 6), (13, 6), (13, 96), (13, 180), (8, 0), (13, 8), (13, 8), (13, 8), (13, 8), (13, 6), (13, 6), (13, 6), (13, 96), (13, 180), (4, 0), (8, 0), (13, 8), (13, 8), (13, 8), (13, 8), (13, 6), (13, 6), (13, 6), (13, 96), (13, 180), (13, 10), (13, 10), (15, 10), (13, 610), (1, 0), (13, 8), (13, 8), (13, 8), (13, 4), (2, 0), (13, 4), (13, 24), (13, 24), (6, 0), (13, 240), (13, 32), (6, 0), (13, 240), (13, 32), (6, 0), (13, 240), (13, 32), (6, 0), (13, 240), (13, 32), (6, 0), (13, 240), (13, 32), (3, 0), (13, 48), (3, 0), (13, 48), (3, 0), (13, 48), (3, 0), (13, 48), (3, 0), (13, 48), (12, 0), (14, 240), (14, 960), (13, 4), (13, 128), (13, 4), (13, 4), (13, 24), (13, 24), (13, 24), (13, 24), (13, 240), (13, 5), (13, 312), (13, 131), (13, 6), (16, 8191), (13, 8191), (13, 12480), (13, 4), (13, 30), (13, 610), (15, 10), (13, 917), (13, 312), (16, 1)]
def kd (a : Nat) : Nat := (lay.getD a (0, 0)).1
def ln (a : Nat) : Nat := (lay.getD a (0, 0)).2
def ra (a j : Nat) : Nat := if a = 3 then 540 + 3 * j else if a = 4 then 555 + 2 * j else if a = 27 then 28 + 10 * j else 446 + 10 * j
def ftab : List (List (Nat × Nat)) := [[(2, 1), (2, 2), (2, 3), (2, 4), (0, 0), (0, 0), (0, 0), (0, 0)], [(2, 1), (2, 2), (2, 3), (0, 0), (0, 0), (0, 0)], [(2, 1), (0, 0)], [(2, 1), (2, 11), (2, 12), (2, 13), (2, 14), (0, 0)], [(2, 1), (0, 0), (0, 0)], [(2, 1), (2, 2), (0, 0)], [(2, 1), (2, 11), (0, 0), (0, 0)], [(2, 1), (2, 2), (2, 3), (2, 4), (2, 5), (2, 6), (2, 7), (2, 8), (2, 9), (0, 0), (0, 0), (0, 0), (0, 0), (0, 0), (0, 0)], [(2, 1), (0, 0), (0, 0), (0, 0)], [(2, 1), (3, 0), (3, 0)], [(2, 1), (2, 3), (2, 4), (2, 5), (2, 6), (2, 16), (2, 26), (2, 428), (2, 434), (2, 516), (2, 531), (3, 0), (0, 0), (0, 0), (0, 0), (0, 0), (0, 0), (1, 0)], [(0, 0), (2, 1), (2, 2), (2, 3), (2, 4), (3, 0), (0, 0), (0, 0), (0, 0), (0, 0), (0, 0), (0, 0), (0, 0), (0, 0), (0, 0), (4, 0), (4, 1), (0, 0), (2, 5), (2, 6), (2, 7), (2, 8), (2, 9), (2, 10), (2, 11), (2, 12), (0, 0), (0, 0), (0, 0), (0, 0), (0, 0), (0, 0), (2, 13), (2, 14), (2, 15), (0, 0), (0, 0), (2, 16), (2, 17), (0, 0), (0, 0), (0, 0), (0, 0), (2, 18), (0, 0), (1, 0), (2, 19), (0, 0), (0, 0), (0, 0), (2, 20), (0, 0), (2, 21), (2, 22), (2, 23), (2, 24), (0, 0)]]
def ft (ci k : Nat) : Nat × Nat := (ftab.getD ci []).getD k (9, 0)
def nF (ci : Nat) : Nat := (ftab.getD ci []).length
def clC : Nat → String
  | 0 => RX0
  | 1 => RX1
  | 2 => RX2
  | 3 => RX3
  | 4 => RX4
  | 5 => RX5
  | 6 => RX6
  | 7 => RX7
  | 8 => RX8
  | 9 => RX9
  | 10 => RX10
  | _ => RX11
def clT : Nat → u_T
  | 0 => TX0
  | 1 => TX1
  | 2 => TX2
  | 3 => TX3
  | 4 => TX4
  | 5 => TX5
  | 6 => TX6
  | 7 => TX7
  | 8 => TX8
  | 9 => TX9
  | 10 => TX10
  | _ => TX11
def clty : Nat → Nat → FieldType
  | 0 => tyX0
  | 1 => tyX1
  | 2 => tyX2
  | 3 => tyX3
  | 4 => tyX4
  | 5 => tyX5
  | 6 => tyX6
  | 7 => tyX7
  | 8 => tyX8
  | 9 => tyX9
  | 10 => tyX10
  | _ => tyX11
/-- the words that hold everywhere -/
def ALL : List Cond := lw_tbl.filter goodWord
theorem allIdx {w : Cond} (i : Nat) (h : lw_tbl[i]? = some w) (hg : goodWord w = true) : w ∈ ALL := List.mem_filter.mpr ⟨List.mem_of_getElem? h, hg⟩
theorem allT1 {w : Cond} (i : Nat) (h : tables_1_1[i]? = some w) (hg : goodWord w = true) : w ∈ ALL := by
  have h := List.mem_of_getElem? h
  exact List.mem_filter.mpr ⟨List.mem_append_right _ (show w ∈ tables_1 from List.mem_append_left _ h), hg⟩
theorem allT2 {w : Cond} (i : Nat) (h : tables_1_2[i]? = some w) (hg : goodWord w = true) : w ∈ ALL := by
  have h := List.mem_of_getElem? h
  exact List.mem_filter.mpr ⟨List.mem_append_right _ (show w ∈ tables_1 from List.mem_append_right _ (List.mem_append_left _ h)), hg⟩
theorem allT3 {w : Cond} (i : Nat) (h : tables_1_3[i]? = some w) (hg : goodWord w = true) : w ∈ ALL := by
  have h := List.mem_of_getElem? h
  exact List.mem_filter.mpr ⟨List.mem_append_right _ (show w ∈ tables_1 from List.mem_append_right _ (List.mem_append_right _ (List.mem_append_left _ h))), hg⟩
theorem allT4 {w : Cond} (i : Nat) (h : tables_1_4[i]? = some w) (hg : goodWord w = true) : w ∈ ALL := by
  have h := List.mem_of_getElem? h
  exact List.mem_filter.mpr ⟨List.mem_append_right _ (show w ∈ tables_1 from List.mem_append_right _ (List.mem_append_right _ (List.mem_append_right _ (List.mem_append_left _ h)))), hg⟩
theorem allT5 {w : Cond} (i : Nat) (h : tables_1_5[i]? = some w) (hg : goodWord w = true) : w ∈ ALL := by
  have h := List.mem_of_getElem? h
  exact List.mem_filter.mpr ⟨List.mem_append_right _ (show w ∈ tables_1 from List.mem_append_right _ (List.mem_append_right _ (List.mem_append_right _ (List.mem_append_right _ (List.mem_append_left _ h))))), hg⟩
theorem allT6 {w : Cond} (i : Nat) (h : tables_1_6[i]? = some w) (hg : goodWord w = true) : w ∈ ALL := by
  have h := List.mem_of_getElem? h
  exact List.mem_filter.mpr ⟨List.mem_append_right _ (show w ∈ tables_1 from List.mem_append_right _ (List.mem_append_right _ (List.mem_append_right _ (List.mem_append_right _ (List.mem_append_right _ (List.mem_append_left _ h)))))), hg⟩
theorem allT7 {w : Cond} (i : Nat) (h : tables_1_7[i]? = some w) (hg : goodWord w = true) : w ∈ ALL := by
  have h := List.mem_of_getElem? h
  exact List.mem_filter.mpr ⟨List.mem_append_right _ (show w ∈ tables_1 from List.mem_append_right _ (List.mem_append_right _ (List.mem_append_right _ (List.mem_append_right _ (List.mem_append_right _ (List.mem_append_right _ (List.mem_append_left _ h))))))), hg⟩
theorem allT8 {w : Cond} (i : Nat) (h : tables_1_8[i]? = some w) (hg : goodWord w = true) : w ∈ ALL := by
  have h := List.mem_of_getElem? h
  exact List.mem_filter.mpr ⟨List.mem_append_right _ (show w ∈ tables_1 from List.mem_append_right _ (List.mem_append_right _ (List.mem_append_right _ (List.mem_append_right _ (List.mem_append_right _ (List.mem_append_right _ (List.mem_append_right _ (List.mem_append_left _ h)))))))), hg⟩
theorem allT9 {w : Cond} (i : Nat) (h : tables_1_9[i]? = some w) (hg : goodWord w = true) : w ∈ ALL := by
  have h := List.mem_of_getElem? h
  exact List.mem_filter.mpr ⟨List.mem_append_right _ (show w ∈ tables_1 from List.mem_append_right _ (List.mem_append_right _ (List.mem_append_right _ (List.mem_append_right _ (List.mem_append_right _ (List.mem_append_right _ (List.mem_append_right _ (List.mem_append_right _ (h))))))))), hg⟩
theorem goodALL {ws : List Cond} (h : ∀ w ∈ ws, w ∈ ALL) : GoodIn ALL ws := fun w hw => ⟨h w hw, good_of_word (List.mem_filter.mp (h w hw)).2⟩
theorem cl_ok (ci : Nat) (h : ci < 12) : vwCl[ci]? = some (clC ci, clT ci, nF ci) := by
  match ci, h with
  | 0, _ => rfl
  | 1, _ => rfl
  | 2, _ => rfl
  | 3, _ => rfl
  | 4, _ => rfl
  | 5, _ => rfl
  | 6, _ => rfl
  | 7, _ => rfl
  | 8, _ => rfl
  | 9, _ => rfl
  | 10, _ => rfl
  | 11, _ => rfl
theorem cl_ty (ci : Nat) (h : ci < 12) : ∀ k, k < nF ci → parseFieldDescriptor (clT ci k).2.2.1 = some (clty ci k) := by
  match ci, h with
  | 0, _ => exact tyX0_ok
  | 1, _ => exact tyX1_ok
  | 2, _ => exact tyX2_ok
  | 3, _ => exact tyX3_ok
  | 4, _ => exact tyX4_ok
  | 5, _ => exact tyX5_ok
  | 6, _ => exact tyX6_ok
  | 7, _ => exact tyX7_ok
  | 8, _ => exact tyX8_ok
  | 9, _ => exact tyX9_ok
  | 10, _ => exact tyX10_ok
  | 11, _ => exact tyX11_ok
theorem cl_nm (ci : Nat) (h : ci < 12) : ∀ a, a < nF ci → ∀ b, b < nF ci → a ≠ b → (clT ci a).2.1 ≠ (clT ci b).2.1 := by
  match ci, h with
  | 0, _ => exact nmX0
  | 1, _ => exact nmX1
  | 2, _ => exact nmX2
  | 3, _ => exact nmX3
  | 4, _ => exact nmX4
  | 5, _ => exact nmX5
  | 6, _ => exact nmX6
  | 7, _ => exact nmX7
  | 8, _ => exact nmX8
  | 9, _ => exact nmX9
  | 10, _ => exact nmX10
  | 11, _ => exact nmX11
