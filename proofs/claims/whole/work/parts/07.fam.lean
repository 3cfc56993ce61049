/-! families of cells by an index: tiles, laws, sheets -/
theorem sk_small {i : Int32} {n : Nat} (h : vp_in i n) : i.toNatClampNeg < n := by
  unfold vp_in at h
  omega
theorem sk_tileF : ∀ j : Nat, j < 10 → sk_Sc[3 + j]? = some (0, 5, [0, 0, 0, 0, 0, 0, 0]) := by decide
theorem sk_tileAt {i : Int32} (h : vp_in i 10) : sk_Sc[3 + i.toNatClampNeg]? = some (0, 5, [0, 0, 0, 0, 0, 0, 0]) := sk_tileF _ (sk_small h)
theorem sk_tileFK : ∀ j : Nat, j < 10 → sk_Sc[13 + j]? = some (0, 5, [0, 0, 0, 0, 0, 0, 0]) := by decide
theorem sk_tileAtK {i : Int32} (h : vp_in i 10) : sk_Sc[13 + i.toNatClampNeg]? = some (0, 5, [0, 0, 0, 0, 0, 0, 0]) := sk_tileFK _ (sk_small h)
theorem sk_tl0F : ∀ j : Nat, j < 10 → ([3, 4, 5, 6, 7, 8, 9, 10, 11, 12] : List Nat)[j]? = some (3 + j) := by decide
theorem sk_tl0 {i : Int32} (h : vp_in i 10) : ([3, 4, 5, 6, 7, 8, 9, 10, 11, 12] : List Nat)[i.toNatClampNeg]? = some (3 + i.toNatClampNeg) := sk_tl0F _ (sk_small h)
theorem sk_tl0FK : ∀ j : Nat, j < 10 → ([13, 14, 15, 16, 17, 18, 19, 20, 21, 22] : List Nat)[j]? = some (13 + j) := by decide
theorem sk_tl0K {i : Int32} (h : vp_in i 10) : ([13, 14, 15, 16, 17, 18, 19, 20, 21, 22] : List Nat)[i.toNatClampNeg]? = some (13 + i.toNatClampNeg) := sk_tl0FK _ (sk_small h)
theorem sk_lawF : ∀ j : Nat, j < 2 → sk_Sc[23 + j]? = some (0, 1, [0, 1, (27 + j) + 2, 0, (31 + j) + 2]) ∧ sk_Sc[27 + j]? = some (1, 60, []) ∧ sk_Sc[31 + j]? = some (1, 60, []) ∧ ([23, 24] : List Nat)[j]? = some (23 + j) := fun j h => match j, h with
  | 0, _ => ⟨rfl, rfl, rfl, rfl⟩
  | 1, _ => ⟨rfl, rfl, rfl, rfl⟩
theorem sk_lawFK : ∀ j : Nat, j < 2 → sk_Sc[25 + j]? = some (0, 1, [0, 1, (29 + j) + 2, 0, (33 + j) + 2]) ∧ sk_Sc[29 + j]? = some (1, 60, []) ∧ sk_Sc[33 + j]? = some (1, 60, []) ∧ ([25, 26] : List Nat)[j]? = some (25 + j) := fun j h => match j, h with
  | 0, _ => ⟨rfl, rfl, rfl, rfl⟩
  | 1, _ => ⟨rfl, rfl, rfl, rfl⟩
theorem sk_lawAt {i : Int32} (h : vp_in i 2) : sk_Sc[23 + i.toNatClampNeg]? = some (0, 1, [0, 1, (27 + i.toNatClampNeg) + 2, 0, (31 + i.toNatClampNeg) + 2]) := (sk_lawF _ (sk_small h)).1
theorem sk_lawCAt {i : Int32} (h : vp_in i 2) : sk_Sc[27 + i.toNatClampNeg]? = some (1, 60, []) := (sk_lawF _ (sk_small h)).2.1
theorem sk_lawSAt {i : Int32} (h : vp_in i 2) : sk_Sc[31 + i.toNatClampNeg]? = some (1, 60, []) := (sk_lawF _ (sk_small h)).2.2.1
theorem sk_ll0 {i : Int32} (h : vp_in i 2) : ([23, 24] : List Nat)[i.toNatClampNeg]? = some (23 + i.toNatClampNeg) := (sk_lawF _ (sk_small h)).2.2.2
theorem sk_lawAtK {i : Int32} (h : vp_in i 2) : sk_Sc[25 + i.toNatClampNeg]? = some (0, 1, [0, 1, (29 + i.toNatClampNeg) + 2, 0, (33 + i.toNatClampNeg) + 2]) := (sk_lawFK _ (sk_small h)).1
theorem sk_lawCAtK {i : Int32} (h : vp_in i 2) : sk_Sc[29 + i.toNatClampNeg]? = some (1, 60, []) := (sk_lawFK _ (sk_small h)).2.1
theorem sk_lawSAtK {i : Int32} (h : vp_in i 2) : sk_Sc[33 + i.toNatClampNeg]? = some (1, 60, []) := (sk_lawFK _ (sk_small h)).2.2.1
theorem sk_ll0K {i : Int32} (h : vp_in i 2) : ([25, 26] : List Nat)[i.toNatClampNeg]? = some (25 + i.toNatClampNeg) := (sk_lawFK _ (sk_small h)).2.2.2
theorem sk_sheetF : ∀ j : Nat, j < 4 → sk_Sc[49 + j]? = some (0, 4, [0, 0, (53 + j) + 2]) ∧ sk_Sc[53 + j]? = some (1, 24, []) ∧ ([49, 50, 51, 52] : List Nat)[j]? = some (49 + j) := by decide
theorem sk_sheetAt {i : Int32} (h : vp_in i 4) : sk_Sc[49 + i.toNatClampNeg]? = some (0, 4, [0, 0, (53 + i.toNatClampNeg) + 2]) := (sk_sheetF _ (sk_small h)).1
theorem sk_sheetNAt {i : Int32} (h : vp_in i 4) : sk_Sc[53 + i.toNatClampNeg]? = some (1, 24, []) := (sk_sheetF _ (sk_small h)).2.1
theorem sk_sl0 {i : Int32} (h : vp_in i 4) : ([49, 50, 51, 52] : List Nat)[i.toNatClampNeg]? = some (49 + i.toNatClampNeg) := (sk_sheetF _ (sk_small h)).2.2
