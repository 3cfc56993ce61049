/-! ===== a pure judgement over the machine: a world of cells 0, 1, .. of fixed shapes, their numbers τ; references are places ===== -/
def sk_ALL : List Cond := lw_tbl.filter goodWord
theorem sk_tin {w : Cond} (i : Nat) (h : tables_1[i]? = some w) (hg : goodWord w = true) : w ∈ sk_ALL := by
  unfold sk_ALL lw_tbl
  exact List.mem_filter.mpr ⟨List.mem_append_right _ (List.mem_of_getElem? h), hg⟩
theorem sk_sin {w : Cond} (i : Nat) (h : (k2_sels lw_privs)[i]? = some w) (hg : goodWord w = true) : w ∈ sk_ALL := by
  unfold sk_ALL lw_tbl
  exact List.mem_filter.mpr ⟨List.mem_append_left _ (List.mem_of_getElem? h), hg⟩
theorem sk_good : ∀ w ∈ sk_ALL, goodWord w = true := fun w h => (List.mem_filter.mp h).2
theorem sk_goodIn : GoodIn sk_ALL sk_ALL := fun w h => ⟨h, good_of_word (sk_good w h)⟩
theorem sk_in_tbl : ∀ w ∈ sk_ALL, w ∈ lw_tbl := fun w h => (List.mem_filter.mp h).1
def sk_isN (w : Cond) : Bool := match w with
  | .fieldLinkNest .. => true
  | .methodLinkNest .. => true
  | _ => false
/-- the links between nest mates -/
def sk_NL : List Cond := tables_1.filter sk_isN
theorem sk_nin {w : Cond} (i : Nat) (h : tables_1[i]? = some w) (hg : sk_isN w = true) : w ∈ sk_NL := List.mem_filter.mpr ⟨List.mem_of_getElem? h, hg⟩
def sk_NW (U : State) : Prop := ∀ w ∈ sk_NL, va_Nw w U
theorem sk_isN_tab {w : Cond} (h : sk_isN w = true) : w.onTables = true := by
  cases w <;> first | rfl | (simp [sk_isN] at h)
theorem sk_NW.same {u U : State} (h : u.vm = U.vm) (hZ : sk_NW u) : sk_NW U := fun w hw => (hZ w hw).same (sk_isN_tab (List.mem_filter.mp hw).2) h
theorem sk_NW.warm {s U : State} (hW : s.WarmedH U.vm) (hZ : sk_NW s) : sk_NW U := by
  intro w hw
  have h1 := hZ w hw
  have h2 := (List.mem_filter.mp hw).2
  cases w <;> first | exact va_Nw.warmF hW h1 | exact va_Nw.warmM hW h1 | (simp [sk_isN] at h2)
theorem sk_NW.of {args : Array Value} {s : State} (h : ∀ w ∈ tables_1, w.before args s = true) : sk_NW s := fun w hw => va_Nw.of (sk_isN_tab (List.mem_filter.mp hw).2) (h w (List.mem_filter.mp hw).1)
abbrev sk_T : Type := Nat → Nat → Int32
abbrev sk_Sh : Type := Nat × Nat × List Nat
abbrev sk_M : Type := MethodName × ByteArray × Nat × Option FieldType
abbrev sk_K : Type := Option Value → sk_T → Prop
abbrev sk_L : Type := List (Nat × Value)
def sk_ush (x y : Int32) : Int32 := (x.toUInt32 >>> (y.toUInt32 &&& Int32.toUInt32 31)).toInt32
def sk_lush (x : Int64) (y : Int32) : Int64 := (x.toUInt64 >>> (y.toInt64.toUInt64 &&& Int64.toUInt64 63)).toInt64
/-- cell a becomes f -/
def sk_w (τ : sk_T) (a : Nat) (f : Nat → Int32) : sk_T := fun b => if b = a then f else τ b
/-- number j of cell a becomes x -/
def sk_u (τ : sk_T) (a j : Nat) (x : Int32) : sk_T := sk_w τ a (upd (τ a) j x)
def sk_vm (ad : Nat → Nat) : Value → Value
  | .ref k => .ref (ad k)
  | v => v
def sk_lm (ad : Nat → Nat) (l : sk_L) : sk_L := l.map (fun q => (q.1, sk_vm ad q.2))
def sk_v (ad : Nat → Nat) (x : Int32) (c : Nat) : Value := match c with
  | 0 => .int x
  | 1 => .int (x &&& 1)
  | r + 2 => .ref (ad r)
def sk_fs (ad : Nat → Nat) (f : Nat → Int32) : List Nat → Nat → List Value
  | [], _ => []
  | c :: cs, j => sk_v ad (f j) c :: sk_fs ad f cs (j + 1)
/-- what a cell of a shape holds: (0, class, slots: 0 int, 1 boolean, r + 2 the cell r); (1, n) ints; (2, n) bytes; (3, 4, 5: tiles, laws, sheets; n; which cells) -/
def sk_e (ad : Nat → Nat) (cA : Nat → ClassId) (f : Nat → Int32) (h : sk_Sh) : va_E := match h with
  | (0, ci, cs) => .inr (ci, sk_fs ad f cs 0)
  | (1, n, _) => .inl (cA 0, n, .inl f)
  | (2, n, _) => .inl (cA 1, n, .inl (fun j => vp_nar .byte (f j)))
  | (t + 3, n, rs) => .inl (cA (t + 2), n, .inr (.inr (.inr (.inr (fun j => (rs[j]?).map ad)))))
def sk_wl (S : List sk_Sh) (ad : Nat → Nat) (cA : Nat → ClassId) (τ : sk_T) : va_W := S.mapIdx (fun k h => (ad k, sk_e ad cA (τ k) h))
def sk_tys (cA : Nat → ClassId) : List (ClassId × FieldType) := [(cA 0, .int), (cA 1, .byte), (cA 2, .object "SlateKin$Tile"), (cA 3, .object "SlateKin$Law"), (cA 4, .object "SlateKin$Sheet")]
def sk_above (j : Nat) : Int32 := ([-1, 0, 0, 0, 1, 2, 0] : List Int32).getD j 0
def sk_names (j : Nat) : Int32 := ([104, 110, 103, 114, 99, 121] : List Int32).getD j 0
def sk_bodies (j : Nat) : Int32 := ([10, 11, 12, 13, 20, 0, 0, 21, 0, 30, 0, 0, 0, 0, 40, 0, 50, 0, 51, 0, 0, 60, 0, 0, 70, 71, 0, 0] : List Int32).getD j 0
/-- the three static rows: at places 1000, 1001, 1002; nobody writes them -/
def sk_Ro (ad : Nat → Nat) (A : Nat → Prop) (U : State) (H : Heap) : Prop :=
  (va_Z "SlateKin$Tile" "ABOVE" "[I" (.ref (ad 1000)) A U H ∧ va_T .int (ad 1000) 7 (fun j => .int (sk_above j)) A U H) ∧
  (va_Z "SlateKin$Reader" "NAMES" "[C" (.ref (ad 1001)) A U H ∧ va_T .char (ad 1001) 6 (fun j => .int (sk_names j)) A U H) ∧
  (va_Z "SlateKin$Choir" "BODIES" "[I" (.ref (ad 1002)) A U H ∧ va_T .int (ad 1002) 28 (fun j => .int (sk_bodies j)) A U H)
theorem sk_Ro.moved {ad : Nat → Nat} {A : Nat → Prop} {u U : State} {H : Heap} (hvm : u.vm.Alike U.vm) (h : sk_Ro ad A u H) : sk_Ro ad A U H :=
  ⟨⟨h.1.1.moved hvm, h.1.2.moved hvm⟩, ⟨h.2.1.1.moved hvm, h.2.1.2.moved hvm⟩, ⟨h.2.2.1.moved hvm, h.2.2.2.moved hvm⟩⟩
theorem sk_Ro.kept {ad : Nat → Nat} {A : Nat → Prop} {U : State} {H H1 : Heap} (h : sk_Ro ad A U H) (hq : ∀ a : Nat, a < H.size → ¬ A a → H1[a]? = H[a]?) : sk_Ro ad A U H1 :=
  ⟨⟨h.1.1.kept hq, h.1.2.kept hq⟩, ⟨h.2.1.1.kept hq, h.2.1.2.kept hq⟩, ⟨h.2.2.1.kept hq, h.2.2.2.kept hq⟩⟩
def sk_Wd (S : List sk_Sh) (ad : Nat → Nat) (cA : Nat → ClassId) (D : va_G) (A : Nat → Prop) (τ : sk_T) (U : State) : Prop :=
  va_P D vwCl (sk_wl S ad cA τ) U.heap ∧ va_K D vwCl (sk_tys cA) U ∧ va_D A (sk_wl S ad cA τ) ∧ sk_Ro ad A U U.heap
def sk_Qc (S : List sk_Sh) (ad : Nat → Nat) (cA : Nat → ClassId) (D : va_G) (A : Nat → Prop) (K : sk_K) : Array Value → State → Outcome → State → Prop :=
  fun _ st o t => ∃ (v : Option Value) (τ : sk_T), o = .returned (v.map (sk_vm ad)) ∧ K v τ ∧ sk_Wd S ad cA D A τ t ∧ va_F A st t
def sk_ws (M : sk_M) : List Cond := .code M.1 M.2.1 M.2.2.1 M.2.2.2 :: sk_ALL
def sk_rm (d : Nat) : Room := { frames := d, cells := 0, slots := 0, locals := 40 * d }
/-- a method called with these arguments in this world comes back, and K holds of its answer and the world then -/
def sk_C (S : List sk_Sh) (d : Nat) (M : sk_M) (vs : List Value) (τ : sk_T) (K : sk_K) : Prop :=
  ∀ (l : Launch) (ad : Nat → Nat) (cA : Nat → ClassId) (D : va_G) (A : Nat → Prop), Met l M.1 (sk_ws M) (sk_rm d) (va_Pc (vs.map (sk_vm ad)) (fun U => sk_Wd S ad cA D A τ U ∧ sk_NW U)) (sk_Qc S ad cA D A K) 0 0 A
def sk_X (S : List sk_Sh) (M : sk_M) (p : Program) (s : State) (m : MethodId) (args : Array Value) (meth : Method) (c : Code) (H : Heap) (locs : List Loc) (ls : Array Slot) (ad : Nat → Nat) (cA : Nat → ClassId) (D : va_G) (A : Nat → Prop) (lv : sk_L) (τ : sk_T) : Prop :=
  p.tables.exec = Jvm.exec ∧ c.code = M.2.1 ∧ c.maxLocals = M.2.2.1 ∧ meth.sig.returnType = M.2.2.2 ∧ meth.locks = false ∧ s.vm.findClass M.1.cls = some m.cls ∧ (∀ w ∈ sk_ALL, w.before args s = true) ∧
  va_P D vwCl (sk_wl S ad cA τ) H ∧ va_K D vwCl (sk_tys cA) s ∧ va_D A (sk_wl S ad cA τ) ∧ va_S A s.heap H locs ∧ (sk_Ro ad A s s.heap ∧ sk_NW s) ∧ lv_has ls M.2.2.1 (sk_lm ad lv)
/-- from here on (pc, locals, operands, numbers) the method comes to its end, and K holds then -/
def sk_G (S : List sk_Sh) (d : Nat) (M : sk_M) (pc : Nat) (lv : sk_L) (st : List Value) (τ : sk_T) (K : sk_K) : Prop :=
  ∀ (p : Program) (l : Launch) (e : Env) (s : State) (m : MethodId) (args : Array Value) (below : List Frame) (meth : Method) (c : Code) (H : Heap) (locs : List Loc) (ls : Array Slot) (ad : Nat → Nat) (cA : Nat → ClassId) (D : va_G) (A : Nat → Prop),
    sk_X S M p s m args meth c H locs ls ad cA D A lv τ → W p l e (sk_rm d) s m args below meth c H locs 0 0 (MQ below (sk_Qc S ad cA D A K) args s 0 0 A) (F0 m pc ls (st.map (sk_vm ad)))
/-- what is known of a method -/
def sk_MF (M : sk_M) (n : Nat) : Prop := Cond.code M.1 M.2.1 M.2.2.1 M.2.2.2 ∈ sk_ALL ∧ Cond.initialized M.1.cls ∈ sk_ALL ∧ plainName M.1.cls = true ∧ M.1.cls ≠ "java/lang/invoke/MethodHandle" ∧ M.1.cls ≠ "java/lang/invoke/VarHandle" ∧ (parseMethodDescriptor M.1.desc).map (fun d => d.parameters.length) = some n ∧ M.2.2.1 ≤ 21
/-- a field: slot k of class ci, named in class own's pool at idx -/
def sk_LF (own : String) (idx ci k : Nat) : Prop := ∃ (C : String) (T : u_T) (N : Nat), vwCl[ci]? = some (C, T, N) ∧ k < N ∧ (∀ w ∈ u_ws C T N, w ∈ sk_ALL) ∧ (Cond.fieldLink own idx (T k).1 (T k).2.1 (T k).2.2.1 ∈ sk_ALL ∨ ∃ host, Cond.fieldLinkNest own idx (T k).1 (T k).2.1 (T k).2.2.1 host ∈ sk_NL)
/-- .. that may be written, of a type -/
def sk_LP (own : String) (idx ci k : Nat) (ty : FieldType) : Prop := ∃ (C : String) (T : u_T) (N : Nat), vwCl[ci]? = some (C, T, N) ∧ k < N ∧ (∀ w ∈ u_ws C T N, w ∈ sk_ALL) ∧ (Cond.fieldLink own idx (T k).1 (T k).2.1 (T k).2.2.1 ∈ sk_ALL ∨ ∃ host, Cond.fieldLinkNest own idx (T k).1 (T k).2.1 (T k).2.2.1 host ∈ sk_NL) ∧
  (∃ ty0 : Nat → FieldType, ∀ k, k < N → parseFieldDescriptor (T k).2.2.1 = some (ty0 k)) ∧ (∀ a, a < N → ∀ b, b < N → a ≠ b → (T a).2.1 ≠ (T b).2.1) ∧ (T k).2.2.2 = false ∧ parseFieldDescriptor (T k).2.2.1 = some ty
theorem sk_vm_cat (ad : Nat → Nat) (v : Value) : (sk_vm ad v).category = v.category := by cases v <;> rfl
theorem sk_wl_at {S : List sk_Sh} {ad : Nat → Nat} {cA : Nat → ClassId} {τ : sk_T} {k : Nat} {h : sk_Sh} (hs : S[k]? = some h) : (sk_wl S ad cA τ)[k]? = some (ad k, sk_e ad cA (τ k) h) := by
  unfold sk_wl
  rw [List.getElem?_mapIdx, hs]; rfl
theorem sk_wl_set {S : List sk_Sh} {ad : Nat → Nat} {cA : Nat → ClassId} {τ : sk_T} {k : Nat} {h : sk_Sh} (hs : S[k]? = some h) (f : Nat → Int32) : (sk_wl S ad cA τ).set k (ad k, sk_e ad cA f h) = sk_wl S ad cA (sk_w τ k f) := by
  apply List.ext_getElem?
  intro i
  unfold sk_wl
  rw [List.getElem?_set, List.getElem?_mapIdx, List.getElem?_mapIdx, List.length_mapIdx]
  have hk : k < S.length := (List.getElem?_eq_some_iff.mp hs).1
  by_cases e : k = i
  · subst e
    rw [if_pos rfl, if_pos hk, hs]
    simp [sk_w]
  · rw [if_neg e]
    have e2 : ¬ i = k := fun z => e z.symm
    simp [sk_w, e2]
theorem sk_fs_at {ad : Nat → Nat} {f : Nat → Int32} : ∀ {cs : List Nat} {j i c : Nat}, cs[j]? = some c → (sk_fs ad f cs i)[j]? = some (sk_v ad (f (i + j)) c)
  | [], j, i, c, h => by simp at h
  | c0 :: cs, 0, i, c, h => by simp at h; subst h; rfl
  | c0 :: cs, j + 1, i, c, h => by
    have h2 := sk_fs_at (ad := ad) (f := f) (cs := cs) (j := j) (i := i + 1) (c := c) (by simpa using h)
    rw [show i + 1 + j = i + (j + 1) by omega] at h2
    simpa [sk_fs] using h2
theorem sk_fs_len {ad : Nat → Nat} {f : Nat → Int32} : ∀ {cs : List Nat} {i : Nat}, (sk_fs ad f cs i).length = cs.length
  | [], i => rfl
  | c0 :: cs, i => by simp [sk_fs, sk_fs_len]
theorem sk_fs_low {ad : Nat → Nat} {f : Nat → Int32} {k : Nat} {x : Int32} : ∀ {cs : List Nat} {i : Nat}, k < i → sk_fs ad (upd f k x) cs i = sk_fs ad f cs i
  | [], i, _ => rfl
  | c0 :: cs, i, h => by
    have e : ¬ i = k := by omega
    simp [sk_fs, upd, e]
    exact sk_fs_low (by omega)
theorem sk_fs_set {ad : Nat → Nat} {f : Nat → Int32} {x : Int32} {v : Value} : ∀ {cs : List Nat} {j i c : Nat}, cs[j]? = some c → sk_v ad x c = v → (sk_fs ad f cs i).set j v = sk_fs ad (upd f (i + j) x) cs i
  | [], j, i, c, h, _ => by simp at h
  | c0 :: cs, 0, i, c, h, hv => by
    simp at h; subst h
    simp only [sk_fs, List.set_cons_zero, Nat.add_zero]
    rw [show upd f i x i = x by simp [upd], hv, sk_fs_low (Nat.lt_succ_self i)]
  | c0 :: cs, j + 1, i, c, h, hv => by
    have h2 := sk_fs_set (ad := ad) (f := f) (x := x) (v := v) (cs := cs) (j := j) (i := i + 1) (c := c) (by simpa using h) hv
    rw [show i + 1 + j = i + (j + 1) by omega] at h2
    simp only [sk_fs, List.set_cons_succ]
    rw [h2]
    have e : ¬ i = i + (j + 1) := by omega
    simp [upd, e]
theorem sk_lm_at {ad : Nat → Nat} {l : sk_L} {ls : Array Slot} {nL k i : Nat} {v : Value} (h : lv_has ls nL (sk_lm ad l)) (hk : l[k]? = some (i, v)) : ls[i]? = some (.val (sk_vm ad v)) :=
  lv_at h k (by unfold sk_lm; rw [List.getElem?_map, hk]; rfl)
theorem sk_lm_filter {ad : Nat → Nat} {P : Nat → Nat → Bool} (l : sk_L) : (sk_lm ad l).filter (fun q => P q.1 q.2.category) = sk_lm ad (l.filter (fun q => P q.1 q.2.category)) := by
  unfold sk_lm
  rw [List.filter_map]
  congr 1
  apply List.filter_congr
  intro q _
  simp [sk_vm_cat]
/-- a category 1 value put into local i -/
def sk_st1 (l : sk_L) (i : Nat) (v : Value) : sk_L := (i, v) :: l.filter (fun q => !(q.1 == i) && !(q.1 + 1 == i && q.2.category == 2))
def sk_st2 (l : sk_L) (i : Nat) (v : Value) : sk_L := (i, v) :: l.filter (fun q => !(q.1 == i) && (!(q.1 == i + 1) && !(q.1 + 1 == i && q.2.category == 2)))
theorem sk_st1_m {ad : Nat → Nat} (l : sk_L) (i : Nat) (v : Value) : (i, sk_vm ad v) :: (sk_lm ad l).filter (fun q => !(q.1 == i) && !(q.1 + 1 == i && q.2.category == 2)) = sk_lm ad (sk_st1 l i v) := by
  rw [sk_lm_filter (P := fun a b => !(a == i) && !(a + 1 == i && b == 2))]; rfl
theorem sk_st2_m {ad : Nat → Nat} (l : sk_L) (i : Nat) (v : Value) : (i, sk_vm ad v) :: (sk_lm ad l).filter (fun q => !(q.1 == i) && (!(q.1 == i + 1) && !(q.1 + 1 == i && q.2.category == 2))) = sk_lm ad (sk_st2 l i v) := by
  rw [sk_lm_filter (P := fun a b => !(a == i) && (!(a == i + 1) && !(a + 1 == i && b == 2)))]; rfl
theorem sk_args_m {ad : Nat → Nat} : ∀ (vs : List Value) (i : Nat), lv_args i (vs.map (sk_vm ad)) = sk_lm ad (lv_args i vs)
  | [], i => rfl
  | v :: vs, i => by
    show (i, sk_vm ad v) :: lv_args (if (sk_vm ad v).category = 2 then i + 2 else i + 1) (vs.map (sk_vm ad)) = _
    rw [sk_vm_cat, sk_args_m vs]; rfl
theorem sk_sl_len {ad : Nat → Nat} : ∀ (vs : List Value), (lg_sl (vs.map (sk_vm ad))).length = (lg_sl vs).length
  | [] => rfl
  | v :: vs => by
    have ih := sk_sl_len (ad := ad) vs
    unfold lg_sl at ih ⊢
    simp only [List.map_cons, List.flatMap_cons, List.length_append, sk_vm_cat, ih]
    split <;> rfl
theorem sk_cat_m {ad : Nat → Nat} (vs : List Value) : ((vs.map (sk_vm ad)).map fun v => v.category).sum = (vs.map fun v => v.category).sum := by
  rw [List.map_map]
  congr 1
  apply List.map_congr_left
  intro v _
  exact sk_vm_cat ad v
section
variable {S : List sk_Sh} {d : Nat} {M : sk_M} {pc : Nat} {lv : sk_L} {st : List Value} {τ : sk_T} {K : sk_K}

theorem sk_iadd {x y : Int32} (pc2 : Nat) (hd : decode M.2.1 pc = .ok (.iadd, 1)) (hp : pc + 1 = pc2) (k : sk_G S d M pc2 lv (.int (x + y) :: st) τ K) : sk_G S d M pc lv (.int y :: .int x :: st) τ K := by
  subst hp
  intro p l e s m args below meth c H locs ls ad cA D A X
  obtain ⟨hx, hb, hml, hr, hlk, hown, hts, hP, hK, hD, hS, hR, hl⟩ := id X
  have k := k p l e s m args below meth c H locs ls ad cA D A X
  exact lv_iadd hx hb hd k

theorem sk_isub {x y : Int32} (pc2 : Nat) (hd : decode M.2.1 pc = .ok (.isub, 1)) (hp : pc + 1 = pc2) (k : sk_G S d M pc2 lv (.int (x - y) :: st) τ K) : sk_G S d M pc lv (.int y :: .int x :: st) τ K := by
  subst hp
  intro p l e s m args below meth c H locs ls ad cA D A X
  obtain ⟨hx, hb, hml, hr, hlk, hown, hts, hP, hK, hD, hS, hR, hl⟩ := id X
  have k := k p l e s m args below meth c H locs ls ad cA D A X
  exact lv_isub hx hb hd k

theorem sk_imul {x y : Int32} (pc2 : Nat) (hd : decode M.2.1 pc = .ok (.imul, 1)) (hp : pc + 1 = pc2) (k : sk_G S d M pc2 lv (.int (x * y) :: st) τ K) : sk_G S d M pc lv (.int y :: .int x :: st) τ K := by
  subst hp
  intro p l e s m args below meth c H locs ls ad cA D A X
  obtain ⟨hx, hb, hml, hr, hlk, hown, hts, hP, hK, hD, hS, hR, hl⟩ := id X
  have k := k p l e s m args below meth c H locs ls ad cA D A X
  exact lv_imul hx hb hd k

theorem sk_iand {x y : Int32} (pc2 : Nat) (hd : decode M.2.1 pc = .ok (.iand, 1)) (hp : pc + 1 = pc2) (k : sk_G S d M pc2 lv (.int (x &&& y) :: st) τ K) : sk_G S d M pc lv (.int y :: .int x :: st) τ K := by
  subst hp
  intro p l e s m args below meth c H locs ls ad cA D A X
  obtain ⟨hx, hb, hml, hr, hlk, hown, hts, hP, hK, hD, hS, hR, hl⟩ := id X
  have k := k p l e s m args below meth c H locs ls ad cA D A X
  exact lv_iand hx hb hd k

theorem sk_ior {x y : Int32} (pc2 : Nat) (hd : decode M.2.1 pc = .ok (.ior, 1)) (hp : pc + 1 = pc2) (k : sk_G S d M pc2 lv (.int (x ||| y) :: st) τ K) : sk_G S d M pc lv (.int y :: .int x :: st) τ K := by
  subst hp
  intro p l e s m args below meth c H locs ls ad cA D A X
  obtain ⟨hx, hb, hml, hr, hlk, hown, hts, hP, hK, hD, hS, hR, hl⟩ := id X
  have k := k p l e s m args below meth c H locs ls ad cA D A X
  exact lv_ior hx hb hd k

theorem sk_ixor {x y : Int32} (pc2 : Nat) (hd : decode M.2.1 pc = .ok (.ixor, 1)) (hp : pc + 1 = pc2) (k : sk_G S d M pc2 lv (.int (x ^^^ y) :: st) τ K) : sk_G S d M pc lv (.int y :: .int x :: st) τ K := by
  subst hp
  intro p l e s m args below meth c H locs ls ad cA D A X
  obtain ⟨hx, hb, hml, hr, hlk, hown, hts, hP, hK, hD, hS, hR, hl⟩ := id X
  have k := k p l e s m args below meth c H locs ls ad cA D A X
  exact lv_ixor hx hb hd k

theorem sk_ishl {x y : Int32} (pc2 : Nat) (hd : decode M.2.1 pc = .ok (.ishl, 1)) (hp : pc + 1 = pc2) (k : sk_G S d M pc2 lv (.int (x <<< (y &&& 31)) :: st) τ K) : sk_G S d M pc lv (.int y :: .int x :: st) τ K := by
  subst hp
  intro p l e s m args below meth c H locs ls ad cA D A X
  obtain ⟨hx, hb, hml, hr, hlk, hown, hts, hP, hK, hD, hS, hR, hl⟩ := id X
  have k := k p l e s m args below meth c H locs ls ad cA D A X
  exact lv_ishl hx hb hd k

theorem sk_ishr {x y : Int32} (pc2 : Nat) (hd : decode M.2.1 pc = .ok (.ishr, 1)) (hp : pc + 1 = pc2) (k : sk_G S d M pc2 lv (.int (x >>> (y &&& 31)) :: st) τ K) : sk_G S d M pc lv (.int y :: .int x :: st) τ K := by
  subst hp
  intro p l e s m args below meth c H locs ls ad cA D A X
  obtain ⟨hx, hb, hml, hr, hlk, hown, hts, hP, hK, hD, hS, hR, hl⟩ := id X
  have k := k p l e s m args below meth c H locs ls ad cA D A X
  exact lv_ishr hx hb hd k

theorem sk_iushr {x y : Int32} (pc2 : Nat) (hd : decode M.2.1 pc = .ok (.iushr, 1)) (hp : pc + 1 = pc2) (k : sk_G S d M pc2 lv (.int (sk_ush x y) :: st) τ K) : sk_G S d M pc lv (.int y :: .int x :: st) τ K := by
  subst hp
  intro p l e s m args below meth c H locs ls ad cA D A X
  obtain ⟨hx, hb, hml, hr, hlk, hown, hts, hP, hK, hD, hS, hR, hl⟩ := id X
  have k := k p l e s m args below meth c H locs ls ad cA D A X
  exact lv_iushr hx hb hd rfl k

theorem sk_idiv {x y : Int32} (pc2 : Nat) (hd : decode M.2.1 pc = .ok (.idiv, 1)) (hp : pc + 1 = pc2) (hne : ¬ y = 0) (k : sk_G S d M pc2 lv (.int (x / y) :: st) τ K) : sk_G S d M pc lv (.int y :: .int x :: st) τ K := by
  subst hp
  intro p l e s m args below meth c H locs ls ad cA D A X
  obtain ⟨hx, hb, hml, hr, hlk, hown, hts, hP, hK, hD, hS, hR, hl⟩ := id X
  have k := k p l e s m args below meth c H locs ls ad cA D A X
  exact lv_idiv hx hb hd hne k

theorem sk_irem {x y : Int32} (pc2 : Nat) (hd : decode M.2.1 pc = .ok (.irem, 1)) (hp : pc + 1 = pc2) (hne : ¬ y = 0) (k : sk_G S d M pc2 lv (.int (x % y) :: st) τ K) : sk_G S d M pc lv (.int y :: .int x :: st) τ K := by
  subst hp
  intro p l e s m args below meth c H locs ls ad cA D A X
  obtain ⟨hx, hb, hml, hr, hlk, hown, hts, hP, hK, hD, hS, hR, hl⟩ := id X
  have k := k p l e s m args below meth c H locs ls ad cA D A X
  exact lv_irem hx hb hd hne (by rw [irem_eq_mod]; exact k)

theorem sk_ineg {x : Int32} (pc2 : Nat) (hd : decode M.2.1 pc = .ok (.ineg, 1)) (hp : pc + 1 = pc2) (k : sk_G S d M pc2 lv (.int (-x) :: st) τ K) : sk_G S d M pc lv (.int x :: st) τ K := by
  subst hp
  intro p l e s m args below meth c H locs ls ad cA D A X
  obtain ⟨hx, hb, hml, hr, hlk, hown, hts, hP, hK, hD, hS, hR, hl⟩ := id X
  have k := k p l e s m args below meth c H locs ls ad cA D A X
  exact lv_ineg hx hb hd k

theorem sk_ladd {x y : Int64} (pc2 : Nat) (hd : decode M.2.1 pc = .ok (.ladd, 1)) (hp : pc + 1 = pc2) (k : sk_G S d M pc2 lv (.long (x + y) :: st) τ K) : sk_G S d M pc lv (.long y :: .long x :: st) τ K := by
  subst hp
  intro p l e s m args below meth c H locs ls ad cA D A X
  obtain ⟨hx, hb, hml, hr, hlk, hown, hts, hP, hK, hD, hS, hR, hl⟩ := id X
  have k := k p l e s m args below meth c H locs ls ad cA D A X
  exact lv_ladd hx hb hd k

theorem sk_lsub {x y : Int64} (pc2 : Nat) (hd : decode M.2.1 pc = .ok (.lsub, 1)) (hp : pc + 1 = pc2) (k : sk_G S d M pc2 lv (.long (x - y) :: st) τ K) : sk_G S d M pc lv (.long y :: .long x :: st) τ K := by
  subst hp
  intro p l e s m args below meth c H locs ls ad cA D A X
  obtain ⟨hx, hb, hml, hr, hlk, hown, hts, hP, hK, hD, hS, hR, hl⟩ := id X
  have k := k p l e s m args below meth c H locs ls ad cA D A X
  exact lv_lsub hx hb hd k

theorem sk_land {x y : Int64} (pc2 : Nat) (hd : decode M.2.1 pc = .ok (.land, 1)) (hp : pc + 1 = pc2) (k : sk_G S d M pc2 lv (.long (x &&& y) :: st) τ K) : sk_G S d M pc lv (.long y :: .long x :: st) τ K := by
  subst hp
  intro p l e s m args below meth c H locs ls ad cA D A X
  obtain ⟨hx, hb, hml, hr, hlk, hown, hts, hP, hK, hD, hS, hR, hl⟩ := id X
  have k := k p l e s m args below meth c H locs ls ad cA D A X
  exact lv_land hx hb hd k

theorem sk_lor {x y : Int64} (pc2 : Nat) (hd : decode M.2.1 pc = .ok (.lor, 1)) (hp : pc + 1 = pc2) (k : sk_G S d M pc2 lv (.long (x ||| y) :: st) τ K) : sk_G S d M pc lv (.long y :: .long x :: st) τ K := by
  subst hp
  intro p l e s m args below meth c H locs ls ad cA D A X
  obtain ⟨hx, hb, hml, hr, hlk, hown, hts, hP, hK, hD, hS, hR, hl⟩ := id X
  have k := k p l e s m args below meth c H locs ls ad cA D A X
  exact lv_lor hx hb hd k

theorem sk_lxor {x y : Int64} (pc2 : Nat) (hd : decode M.2.1 pc = .ok (.lxor, 1)) (hp : pc + 1 = pc2) (k : sk_G S d M pc2 lv (.long (x ^^^ y) :: st) τ K) : sk_G S d M pc lv (.long y :: .long x :: st) τ K := by
  subst hp
  intro p l e s m args below meth c H locs ls ad cA D A X
  obtain ⟨hx, hb, hml, hr, hlk, hown, hts, hP, hK, hD, hS, hR, hl⟩ := id X
  have k := k p l e s m args below meth c H locs ls ad cA D A X
  exact lv_lxor hx hb hd k

theorem sk_lushr {x : Int64} {y : Int32} (pc2 : Nat) (hd : decode M.2.1 pc = .ok (.lushr, 1)) (hp : pc + 1 = pc2) (k : sk_G S d M pc2 lv (.long (sk_lush x y) :: st) τ K) : sk_G S d M pc lv (.int y :: .long x :: st) τ K := by
  subst hp
  intro p l e s m args below meth c H locs ls ad cA D A X
  obtain ⟨hx, hb, hml, hr, hlk, hown, hts, hP, hK, hD, hS, hR, hl⟩ := id X
  have k := k p l e s m args below meth c H locs ls ad cA D A X
  exact lv_lushr hx hb hd rfl k

theorem sk_lshl {x : Int64} {y : Int32} (pc2 : Nat) (hd : decode M.2.1 pc = .ok (.lshl, 1)) (hp : pc + 1 = pc2) (k : sk_G S d M pc2 lv (.long (x <<< (y.toInt64 &&& 63)) :: st) τ K) : sk_G S d M pc lv (.int y :: .long x :: st) τ K := by
  subst hp
  intro p l e s m args below meth c H locs ls ad cA D A X
  obtain ⟨hx, hb, hml, hr, hlk, hown, hts, hP, hK, hD, hS, hR, hl⟩ := id X
  have k := k p l e s m args below meth c H locs ls ad cA D A X
  exact lv_lshl hx hb hd rfl k

theorem sk_lshr {x : Int64} {y : Int32} (pc2 : Nat) (hd : decode M.2.1 pc = .ok (.lshr, 1)) (hp : pc + 1 = pc2) (k : sk_G S d M pc2 lv (.long (x >>> (y.toInt64 &&& 63)) :: st) τ K) : sk_G S d M pc lv (.int y :: .long x :: st) τ K := by
  subst hp
  intro p l e s m args below meth c H locs ls ad cA D A X
  obtain ⟨hx, hb, hml, hr, hlk, hown, hts, hP, hK, hD, hS, hR, hl⟩ := id X
  have k := k p l e s m args below meth c H locs ls ad cA D A X
  exact lv_lshr hx hb hd rfl k

theorem sk_i2l {x : Int32} (pc2 : Nat) (hd : decode M.2.1 pc = .ok (.i2l, 1)) (hp : pc + 1 = pc2) (k : sk_G S d M pc2 lv (.long x.toInt64 :: st) τ K) : sk_G S d M pc lv (.int x :: st) τ K := by
  subst hp
  intro p l e s m args below meth c H locs ls ad cA D A X
  obtain ⟨hx, hb, hml, hr, hlk, hown, hts, hP, hK, hD, hS, hR, hl⟩ := id X
  have k := k p l e s m args below meth c H locs ls ad cA D A X
  exact lv_i2l hx hb hd rfl k

theorem sk_l2i {x : Int64} (pc2 : Nat) (hd : decode M.2.1 pc = .ok (.l2i, 1)) (hp : pc + 1 = pc2) (k : sk_G S d M pc2 lv (.int x.toInt32 :: st) τ K) : sk_G S d M pc lv (.long x :: st) τ K := by
  subst hp
  intro p l e s m args below meth c H locs ls ad cA D A X
  obtain ⟨hx, hb, hml, hr, hlk, hown, hts, hP, hK, hD, hS, hR, hl⟩ := id X
  have k := k p l e s m args below meth c H locs ls ad cA D A X
  exact lv_l2i hx hb hd rfl k

theorem sk_i2b {x : Int32} (pc2 : Nat) (hd : decode M.2.1 pc = .ok (.i2b, 1)) (hp : pc + 1 = pc2) (k : sk_G S d M pc2 lv (.int x.toInt8.toInt32 :: st) τ K) : sk_G S d M pc lv (.int x :: st) τ K := by
  subst hp
  intro p l e s m args below meth c H locs ls ad cA D A X
  obtain ⟨hx, hb, hml, hr, hlk, hown, hts, hP, hK, hD, hS, hR, hl⟩ := id X
  have k := k p l e s m args below meth c H locs ls ad cA D A X
  exact lv_i2b hx hb hd rfl k

theorem sk_i2s {x : Int32} (pc2 : Nat) (hd : decode M.2.1 pc = .ok (.i2s, 1)) (hp : pc + 1 = pc2) (k : sk_G S d M pc2 lv (.int x.toInt16.toInt32 :: st) τ K) : sk_G S d M pc lv (.int x :: st) τ K := by
  subst hp
  intro p l e s m args below meth c H locs ls ad cA D A X
  obtain ⟨hx, hb, hml, hr, hlk, hown, hts, hP, hK, hD, hS, hR, hl⟩ := id X
  have k := k p l e s m args below meth c H locs ls ad cA D A X
  exact lv_i2s hx hb hd rfl k

theorem sk_lcmp {x y : Int64} (pc2 : Nat) (hd : decode M.2.1 pc = .ok (.lcmp, 1)) (hp : pc + 1 = pc2) (k : sk_G S d M pc2 lv (.int (lg_cmp x y) :: st) τ K) : sk_G S d M pc lv (.long y :: .long x :: st) τ K := by
  subst hp
  intro p l e s m args below meth c H locs ls ad cA D A X
  obtain ⟨hx, hb, hml, hr, hlk, hown, hts, hP, hK, hD, hS, hR, hl⟩ := id X
  have k := k p l e s m args below meth c H locs ls ad cA D A X
  exact W.lcmp hx hb hd k

theorem sk_iconst {n : Int} {v : Int32} (pc2 : Nat) (hd : decode M.2.1 pc = .ok (.iconst n, 1)) (hp : pc + 1 = pc2) (hv : Int32.ofInt n = v) (k : sk_G S d M pc2 lv (.int v :: st) τ K) : sk_G S d M pc lv st τ K := by
  subst hp
  intro p l e s m args below meth c H locs ls ad cA D A X
  obtain ⟨hx, hb, hml, hr, hlk, hown, hts, hP, hK, hD, hS, hR, hl⟩ := id X
  have k := k p l e s m args below meth c H locs ls ad cA D A X
  exact lv_iconst hx hb hd hv k

theorem sk_bipush {n : Int} {v : Int32} (pc2 : Nat) (hd : decode M.2.1 pc = .ok (.bipush n, 2)) (hp : pc + 2 = pc2) (hv : (Int8.ofInt n).toInt32 = v) (k : sk_G S d M pc2 lv (.int v :: st) τ K) : sk_G S d M pc lv st τ K := by
  subst hp
  intro p l e s m args below meth c H locs ls ad cA D A X
  obtain ⟨hx, hb, hml, hr, hlk, hown, hts, hP, hK, hD, hS, hR, hl⟩ := id X
  have k := k p l e s m args below meth c H locs ls ad cA D A X
  exact lv_bipush hx hb hd hv k

theorem sk_sipush {n : Int} {v : Int32} (pc2 : Nat) (hd : decode M.2.1 pc = .ok (.sipush n, 3)) (hp : pc + 3 = pc2) (hv : (Int16.ofInt n).toInt32 = v) (k : sk_G S d M pc2 lv (.int v :: st) τ K) : sk_G S d M pc lv st τ K := by
  subst hp
  intro p l e s m args below meth c H locs ls ad cA D A X
  obtain ⟨hx, hb, hml, hr, hlk, hown, hts, hP, hK, hD, hS, hR, hl⟩ := id X
  have k := k p l e s m args below meth c H locs ls ad cA D A X
  exact lv_sipush hx hb hd hv k

theorem sk_lconst {n : Fin 2} {v : Int64} (pc2 : Nat) (hd : decode M.2.1 pc = .ok (.lconst n, 1)) (hp : pc + 1 = pc2) (hv : Int64.ofNat (n : Nat) = v) (k : sk_G S d M pc2 lv (.long v :: st) τ K) : sk_G S d M pc lv st τ K := by
  subst hp
  intro p l e s m args below meth c H locs ls ad cA D A X
  obtain ⟨hx, hb, hml, hr, hlk, hown, hts, hP, hK, hD, hS, hR, hl⟩ := id X
  have k := k p l e s m args below meth c H locs ls ad cA D A X
  exact lv_lconst hx hb hd hv k

theorem sk_ldc {idx : Nat} {v : Int32} (pc2 : Nat) (hd : decode M.2.1 pc = .ok (.ldc idx, 2)) (hp : pc + 2 = pc2) (hc : Cond.constant M.1.cls idx v ∈ sk_ALL) (k : sk_G S d M pc2 lv (.int v :: st) τ K) : sk_G S d M pc lv st τ K := by
  subst hp
  intro p l e s m args below meth c H locs ls ad cA D A X
  obtain ⟨hx, hb, hml, hr, hlk, hown, hts, hP, hK, hD, hS, hR, hl⟩ := id X
  have k := k p l e s m args below meth c H locs ls ad cA D A X
  exact lv_ldc hx hb hown (hts _ hc) hd k

theorem sk_ldcw {idx : Nat} {v : Int32} (pc2 : Nat) (hd : decode M.2.1 pc = .ok (.ldc_w idx, 3)) (hp : pc + 3 = pc2) (hc : Cond.constant M.1.cls idx v ∈ sk_ALL) (k : sk_G S d M pc2 lv (.int v :: st) τ K) : sk_G S d M pc lv st τ K := by
  subst hp
  intro p l e s m args below meth c H locs ls ad cA D A X
  obtain ⟨hx, hb, hml, hr, hlk, hown, hts, hP, hK, hD, hS, hR, hl⟩ := id X
  have k := k p l e s m args below meth c H locs ls ad cA D A X
  exact lv_ldcw hx hb hown (hts _ hc) hd k

theorem sk_ldc2 {idx : Nat} {v : Int64} (pc2 : Nat) (hd : decode M.2.1 pc = .ok (.ldc2_w idx, 3)) (hp : pc + 3 = pc2) (hc : Cond.constantLong M.1.cls idx v ∈ sk_ALL) (k : sk_G S d M pc2 lv (.long v :: st) τ K) : sk_G S d M pc lv st τ K := by
  subst hp
  intro p l e s m args below meth c H locs ls ad cA D A X
  obtain ⟨hx, hb, hml, hr, hlk, hown, hts, hP, hK, hD, hS, hR, hl⟩ := id X
  have k := k p l e s m args below meth c H locs ls ad cA D A X
  exact lv_ldc2 hx hb hown (hts _ hc) hd k

theorem sk_iload {i : Nat} {x : Int32} (q : Nat) (pc2 : Nat) (hd : decode M.2.1 pc = .ok (.iload i, 2)) (hp : pc + 2 = pc2) (hq : lv[q]? = some (i, .int x)) (k : sk_G S d M pc2 lv (.int x :: st) τ K) : sk_G S d M pc lv st τ K := by
  subst hp
  intro p l e s m args below meth c H locs ls ad cA D A X
  obtain ⟨hx, hb, hml, hr, hlk, hown, hts, hP, hK, hD, hS, hR, hl⟩ := id X
  have k := k p l e s m args below meth c H locs ls ad cA D A X
  exact lv_iload hx hb hd (sk_lm_at hl hq) k

theorem sk_iload_n {n : Fin 4} {i : Nat} {x : Int32} (q : Nat) (pc2 : Nat) (hd : decode M.2.1 pc = .ok (.iload_n n, 1)) (hp : pc + 1 = pc2) (hi : (n : Nat) = i) (hq : lv[q]? = some (i, .int x)) (k : sk_G S d M pc2 lv (.int x :: st) τ K) : sk_G S d M pc lv st τ K := by
  subst hp
  intro p l e s m args below meth c H locs ls ad cA D A X
  obtain ⟨hx, hb, hml, hr, hlk, hown, hts, hP, hK, hD, hS, hR, hl⟩ := id X
  have k := k p l e s m args below meth c H locs ls ad cA D A X
  exact lv_iload_n hx hb hd hi (sk_lm_at hl hq) k

theorem sk_lload {i : Nat} {x : Int64} (q : Nat) (pc2 : Nat) (hd : decode M.2.1 pc = .ok (.lload i, 2)) (hp : pc + 2 = pc2) (hq : lv[q]? = some (i, .long x)) (k : sk_G S d M pc2 lv (.long x :: st) τ K) : sk_G S d M pc lv st τ K := by
  subst hp
  intro p l e s m args below meth c H locs ls ad cA D A X
  obtain ⟨hx, hb, hml, hr, hlk, hown, hts, hP, hK, hD, hS, hR, hl⟩ := id X
  have k := k p l e s m args below meth c H locs ls ad cA D A X
  exact lv_lload hx hb hd (sk_lm_at hl hq) k

theorem sk_lload_n {n : Fin 4} {i : Nat} {x : Int64} (q : Nat) (pc2 : Nat) (hd : decode M.2.1 pc = .ok (.lload_n n, 1)) (hp : pc + 1 = pc2) (hi : (n : Nat) = i) (hq : lv[q]? = some (i, .long x)) (k : sk_G S d M pc2 lv (.long x :: st) τ K) : sk_G S d M pc lv st τ K := by
  subst hp
  intro p l e s m args below meth c H locs ls ad cA D A X
  obtain ⟨hx, hb, hml, hr, hlk, hown, hts, hP, hK, hD, hS, hR, hl⟩ := id X
  have k := k p l e s m args below meth c H locs ls ad cA D A X
  exact lv_lload_n hx hb hd hi (sk_lm_at hl hq) k

theorem sk_aload {i : Nat} {x : Nat} (q : Nat) (pc2 : Nat) (hd : decode M.2.1 pc = .ok (.aload i, 2)) (hp : pc + 2 = pc2) (hq : lv[q]? = some (i, .ref x)) (k : sk_G S d M pc2 lv (.ref x :: st) τ K) : sk_G S d M pc lv st τ K := by
  subst hp
  intro p l e s m args below meth c H locs ls ad cA D A X
  obtain ⟨hx, hb, hml, hr, hlk, hown, hts, hP, hK, hD, hS, hR, hl⟩ := id X
  have k := k p l e s m args below meth c H locs ls ad cA D A X
  exact lv_aload hx hb hd (sk_lm_at hl hq) k

theorem sk_aload_n {n : Fin 4} {i : Nat} {x : Nat} (q : Nat) (pc2 : Nat) (hd : decode M.2.1 pc = .ok (.aload_n n, 1)) (hp : pc + 1 = pc2) (hi : (n : Nat) = i) (hq : lv[q]? = some (i, .ref x)) (k : sk_G S d M pc2 lv (.ref x :: st) τ K) : sk_G S d M pc lv st τ K := by
  subst hp
  intro p l e s m args below meth c H locs ls ad cA D A X
  obtain ⟨hx, hb, hml, hr, hlk, hown, hts, hP, hK, hD, hS, hR, hl⟩ := id X
  have k := k p l e s m args below meth c H locs ls ad cA D A X
  exact lv_aload_n hx hb hd hi (sk_lm_at hl hq) k

theorem sk_istore {i : Nat} {x : Int32} {lv2 : sk_L} (pc2 : Nat) (hd : decode M.2.1 pc = .ok (.istore i, 2)) (hp : pc + 2 = pc2) (hn : i < M.2.2.1) (h2 : sk_st1 lv i (.int x) = lv2) (k : sk_G S d M pc2 lv2 st τ K) : sk_G S d M pc lv (.int x :: st) τ K := by
  subst hp
  subst h2
  intro p l e s m args below meth c H locs ls ad cA D A X
  obtain ⟨hx, hb, hml, hr, hlk, hown, hts, hP, hK, hD, hS, hR, hl⟩ := id X
  exact lv_istore hx hb hd hl hn (sk_st1_m (ad := ad) lv i (.int x)) (fun ls2 hl2 => k p l e s m args below meth c H locs ls2 ad cA D A ⟨hx, hb, hml, hr, hlk, hown, hts, hP, hK, hD, hS, hR, hl2⟩)

theorem sk_istore_n {i : Nat} {x : Int32} {lv2 : sk_L} {n : Fin 4} (pc2 : Nat) (hd : decode M.2.1 pc = .ok (.istore_n n, 1)) (hp : pc + 1 = pc2) (hi : (n : Nat) = i) (hn : i < M.2.2.1) (h2 : sk_st1 lv i (.int x) = lv2) (k : sk_G S d M pc2 lv2 st τ K) : sk_G S d M pc lv (.int x :: st) τ K := by
  subst hp
  subst h2
  intro p l e s m args below meth c H locs ls ad cA D A X
  obtain ⟨hx, hb, hml, hr, hlk, hown, hts, hP, hK, hD, hS, hR, hl⟩ := id X
  exact lv_istore_n hx hb hd hi hl hn (sk_st1_m (ad := ad) lv i (.int x)) (fun ls2 hl2 => k p l e s m args below meth c H locs ls2 ad cA D A ⟨hx, hb, hml, hr, hlk, hown, hts, hP, hK, hD, hS, hR, hl2⟩)

theorem sk_astore {i : Nat} {x : Nat} {lv2 : sk_L} (pc2 : Nat) (hd : decode M.2.1 pc = .ok (.astore i, 2)) (hp : pc + 2 = pc2) (hn : i < M.2.2.1) (h2 : sk_st1 lv i (.ref x) = lv2) (k : sk_G S d M pc2 lv2 st τ K) : sk_G S d M pc lv (.ref x :: st) τ K := by
  subst hp
  subst h2
  intro p l e s m args below meth c H locs ls ad cA D A X
  obtain ⟨hx, hb, hml, hr, hlk, hown, hts, hP, hK, hD, hS, hR, hl⟩ := id X
  exact lv_astore hx hb hd hl hn (sk_st1_m (ad := ad) lv i (.ref x)) (fun ls2 hl2 => k p l e s m args below meth c H locs ls2 ad cA D A ⟨hx, hb, hml, hr, hlk, hown, hts, hP, hK, hD, hS, hR, hl2⟩)

theorem sk_astore_n {i : Nat} {x : Nat} {lv2 : sk_L} {n : Fin 4} (pc2 : Nat) (hd : decode M.2.1 pc = .ok (.astore_n n, 1)) (hp : pc + 1 = pc2) (hi : (n : Nat) = i) (hn : i < M.2.2.1) (h2 : sk_st1 lv i (.ref x) = lv2) (k : sk_G S d M pc2 lv2 st τ K) : sk_G S d M pc lv (.ref x :: st) τ K := by
  subst hp
  subst h2
  intro p l e s m args below meth c H locs ls ad cA D A X
  obtain ⟨hx, hb, hml, hr, hlk, hown, hts, hP, hK, hD, hS, hR, hl⟩ := id X
  exact lv_astore_n hx hb hd hi hl hn (sk_st1_m (ad := ad) lv i (.ref x)) (fun ls2 hl2 => k p l e s m args below meth c H locs ls2 ad cA D A ⟨hx, hb, hml, hr, hlk, hown, hts, hP, hK, hD, hS, hR, hl2⟩)

theorem sk_lstore {i : Nat} {x : Int64} {lv2 : sk_L} (pc2 : Nat) (hd : decode M.2.1 pc = .ok (.lstore i, 2)) (hp : pc + 2 = pc2) (hn : i + 1 < M.2.2.1) (h2 : sk_st2 lv i (.long x) = lv2) (k : sk_G S d M pc2 lv2 st τ K) : sk_G S d M pc lv (.long x :: st) τ K := by
  subst hp
  subst h2
  intro p l e s m args below meth c H locs ls ad cA D A X
  obtain ⟨hx, hb, hml, hr, hlk, hown, hts, hP, hK, hD, hS, hR, hl⟩ := id X
  exact lv_lstore hx hb hd hl hn (sk_st2_m (ad := ad) lv i (.long x)) (fun ls2 hl2 => k p l e s m args below meth c H locs ls2 ad cA D A ⟨hx, hb, hml, hr, hlk, hown, hts, hP, hK, hD, hS, hR, hl2⟩)

theorem sk_lstore_n {i : Nat} {x : Int64} {lv2 : sk_L} {n : Fin 4} (pc2 : Nat) (hd : decode M.2.1 pc = .ok (.lstore_n n, 1)) (hp : pc + 1 = pc2) (hi : (n : Nat) = i) (hn : i + 1 < M.2.2.1) (h2 : sk_st2 lv i (.long x) = lv2) (k : sk_G S d M pc2 lv2 st τ K) : sk_G S d M pc lv (.long x :: st) τ K := by
  subst hp
  subst h2
  intro p l e s m args below meth c H locs ls ad cA D A X
  obtain ⟨hx, hb, hml, hr, hlk, hown, hts, hP, hK, hD, hS, hR, hl⟩ := id X
  exact lv_lstore_n hx hb hd hi hl hn (sk_st2_m (ad := ad) lv i (.long x)) (fun ls2 hl2 => k p l e s m args below meth c H locs ls2 ad cA D A ⟨hx, hb, hml, hr, hlk, hown, hts, hP, hK, hD, hS, hR, hl2⟩)

theorem sk_iinc {i : Nat} {n : Int} {x v : Int32} {lv2 : sk_L} (q : Nat) (pc2 : Nat) (hd : decode M.2.1 pc = .ok (.iinc i n, 3)) (hp : pc + 3 = pc2) (hq : lv[q]? = some (i, .int x)) (hv : x + Int32.ofInt n = v) (hn : i < M.2.2.1) (h2 : sk_st1 lv i (.int v) = lv2) (k : sk_G S d M pc2 lv2 st τ K) : sk_G S d M pc lv st τ K := by
  subst hp
  subst h2
  intro p l e s m args below meth c H locs ls ad cA D A X
  obtain ⟨hx, hb, hml, hr, hlk, hown, hts, hP, hK, hD, hS, hR, hl⟩ := id X
  exact lv_iinc (k := q) hx hb hd hl (by unfold sk_lm; rw [List.getElem?_map, hq]; rfl) hv hn (sk_st1_m (ad := ad) lv i (.int v)) (fun ls2 hl2 => k p l e s m args below meth c H locs ls2 ad cA D A ⟨hx, hb, hml, hr, hlk, hown, hts, hP, hK, hD, hS, hR, hl2⟩)

theorem sk_perm {lv2 : sk_L} (ks : List Nat) (h : lv_pick lv ks = lv2) (k : sk_G S d M pc lv2 st τ K) : sk_G S d M pc lv st τ K := by
  intro p l e s m args below meth c H locs ls ad cA D A X
  obtain ⟨hx, hb, hml, hr, hlk, hown, hts, hP, hK, hD, hS, hR, hl⟩ := id X
  refine k p l e s m args below meth c H locs ls ad cA D A ⟨hx, hb, hml, hr, hlk, hown, hts, hP, hK, hD, hS, hR, lv_sub hl ks ?_⟩
  subst h
  unfold lv_pick sk_lm
  rw [List.map_filterMap]
  congr 1
  funext i
  rw [List.getElem?_map]

theorem sk_goto {off : Int} (pc2 : Nat) (hd : decode M.2.1 pc = .ok (.goto off, 3)) (ht : (pc : Int) + off = (pc2 : Int)) (k : sk_G S d M pc2 lv st τ K) : sk_G S d M pc lv st τ K := by
  intro p l e s m args below meth c H locs ls ad cA D A X
  obtain ⟨hx, hb, hml, hr, hlk, hown, hts, hP, hK, hD, hS, hR, hl⟩ := id X
  exact lv_goto hx hb hd ht (k p l e s m args below meth c H locs ls ad cA D A X)

theorem sk_icmp_eq {x y : Int32} {off : Int} (tgt pc2 : Nat) (hd : decode M.2.1 pc = .ok (.if_icmp .eq off, 3)) (ht : (pc : Int) + off = (tgt : Int)) (hp : pc + 3 = pc2) (kt : x = y → sk_G S d M tgt lv st τ K) (kf : ¬ x = y → sk_G S d M pc2 lv st τ K) : sk_G S d M pc lv (.int y :: .int x :: st) τ K := by
  subst hp
  intro p l e s m args below meth c H locs ls ad cA D A X
  obtain ⟨hx, hb, hml, hr, hlk, hown, hts, hP, hK, hD, hS, hR, hl⟩ := id X
  exact lv_icmp_eq hx hb hd ht (fun h => kt h p l e s m args below meth c H locs ls ad cA D A X) (fun h => kf h p l e s m args below meth c H locs ls ad cA D A X)

theorem sk_icmp_ne {x y : Int32} {off : Int} (tgt pc2 : Nat) (hd : decode M.2.1 pc = .ok (.if_icmp .ne off, 3)) (ht : (pc : Int) + off = (tgt : Int)) (hp : pc + 3 = pc2) (kt : ¬ x = y → sk_G S d M tgt lv st τ K) (kf : x = y → sk_G S d M pc2 lv st τ K) : sk_G S d M pc lv (.int y :: .int x :: st) τ K := by
  subst hp
  intro p l e s m args below meth c H locs ls ad cA D A X
  obtain ⟨hx, hb, hml, hr, hlk, hown, hts, hP, hK, hD, hS, hR, hl⟩ := id X
  exact lv_icmp_ne hx hb hd ht (fun h => kt h p l e s m args below meth c H locs ls ad cA D A X) (fun h => kf h p l e s m args below meth c H locs ls ad cA D A X)

theorem sk_icmp_lt {x y : Int32} {off : Int} (tgt pc2 : Nat) (hd : decode M.2.1 pc = .ok (.if_icmp .lt off, 3)) (ht : (pc : Int) + off = (tgt : Int)) (hp : pc + 3 = pc2) (kt : x < y → sk_G S d M tgt lv st τ K) (kf : ¬ x < y → sk_G S d M pc2 lv st τ K) : sk_G S d M pc lv (.int y :: .int x :: st) τ K := by
  subst hp
  intro p l e s m args below meth c H locs ls ad cA D A X
  obtain ⟨hx, hb, hml, hr, hlk, hown, hts, hP, hK, hD, hS, hR, hl⟩ := id X
  exact lv_icmp_lt hx hb hd ht (fun h => kt h p l e s m args below meth c H locs ls ad cA D A X) (fun h => kf h p l e s m args below meth c H locs ls ad cA D A X)

theorem sk_icmp_ge {x y : Int32} {off : Int} (tgt pc2 : Nat) (hd : decode M.2.1 pc = .ok (.if_icmp .ge off, 3)) (ht : (pc : Int) + off = (tgt : Int)) (hp : pc + 3 = pc2) (kt : y ≤ x → sk_G S d M tgt lv st τ K) (kf : ¬ y ≤ x → sk_G S d M pc2 lv st τ K) : sk_G S d M pc lv (.int y :: .int x :: st) τ K := by
  subst hp
  intro p l e s m args below meth c H locs ls ad cA D A X
  obtain ⟨hx, hb, hml, hr, hlk, hown, hts, hP, hK, hD, hS, hR, hl⟩ := id X
  exact lv_icmp_ge hx hb hd ht (fun h => kt h p l e s m args below meth c H locs ls ad cA D A X) (fun h => kf h p l e s m args below meth c H locs ls ad cA D A X)

theorem sk_icmp_gt {x y : Int32} {off : Int} (tgt pc2 : Nat) (hd : decode M.2.1 pc = .ok (.if_icmp .gt off, 3)) (ht : (pc : Int) + off = (tgt : Int)) (hp : pc + 3 = pc2) (kt : y < x → sk_G S d M tgt lv st τ K) (kf : ¬ y < x → sk_G S d M pc2 lv st τ K) : sk_G S d M pc lv (.int y :: .int x :: st) τ K := by
  subst hp
  intro p l e s m args below meth c H locs ls ad cA D A X
  obtain ⟨hx, hb, hml, hr, hlk, hown, hts, hP, hK, hD, hS, hR, hl⟩ := id X
  exact lv_icmp_gt hx hb hd ht (fun h => kt h p l e s m args below meth c H locs ls ad cA D A X) (fun h => kf h p l e s m args below meth c H locs ls ad cA D A X)

theorem sk_icmp_le {x y : Int32} {off : Int} (tgt pc2 : Nat) (hd : decode M.2.1 pc = .ok (.if_icmp .le off, 3)) (ht : (pc : Int) + off = (tgt : Int)) (hp : pc + 3 = pc2) (kt : x ≤ y → sk_G S d M tgt lv st τ K) (kf : ¬ x ≤ y → sk_G S d M pc2 lv st τ K) : sk_G S d M pc lv (.int y :: .int x :: st) τ K := by
  subst hp
  intro p l e s m args below meth c H locs ls ad cA D A X
  obtain ⟨hx, hb, hml, hr, hlk, hown, hts, hP, hK, hD, hS, hR, hl⟩ := id X
  exact lv_icmp_le hx hb hd ht (fun h => kt h p l e s m args below meth c H locs ls ad cA D A X) (fun h => kf h p l e s m args below meth c H locs ls ad cA D A X)

theorem sk_if_eq {x : Int32} {off : Int} (tgt pc2 : Nat) (hd : decode M.2.1 pc = .ok (.ifCond .eq off, 3)) (ht : (pc : Int) + off = (tgt : Int)) (hp : pc + 3 = pc2) (kt : x = 0 → sk_G S d M tgt lv st τ K) (kf : ¬ x = 0 → sk_G S d M pc2 lv st τ K) : sk_G S d M pc lv (.int x :: st) τ K := by
  subst hp
  intro p l e s m args below meth c H locs ls ad cA D A X
  obtain ⟨hx, hb, hml, hr, hlk, hown, hts, hP, hK, hD, hS, hR, hl⟩ := id X
  exact lv_if_eq hx hb hd ht (fun h => kt h p l e s m args below meth c H locs ls ad cA D A X) (fun h => kf h p l e s m args below meth c H locs ls ad cA D A X)

theorem sk_if_ne {x : Int32} {off : Int} (tgt pc2 : Nat) (hd : decode M.2.1 pc = .ok (.ifCond .ne off, 3)) (ht : (pc : Int) + off = (tgt : Int)) (hp : pc + 3 = pc2) (kt : ¬ x = 0 → sk_G S d M tgt lv st τ K) (kf : x = 0 → sk_G S d M pc2 lv st τ K) : sk_G S d M pc lv (.int x :: st) τ K := by
  subst hp
  intro p l e s m args below meth c H locs ls ad cA D A X
  obtain ⟨hx, hb, hml, hr, hlk, hown, hts, hP, hK, hD, hS, hR, hl⟩ := id X
  exact lv_if_ne hx hb hd ht (fun h => kt h p l e s m args below meth c H locs ls ad cA D A X) (fun h => kf h p l e s m args below meth c H locs ls ad cA D A X)

theorem sk_if_lt {x : Int32} {off : Int} (tgt pc2 : Nat) (hd : decode M.2.1 pc = .ok (.ifCond .lt off, 3)) (ht : (pc : Int) + off = (tgt : Int)) (hp : pc + 3 = pc2) (kt : x < 0 → sk_G S d M tgt lv st τ K) (kf : ¬ x < 0 → sk_G S d M pc2 lv st τ K) : sk_G S d M pc lv (.int x :: st) τ K := by
  subst hp
  intro p l e s m args below meth c H locs ls ad cA D A X
  obtain ⟨hx, hb, hml, hr, hlk, hown, hts, hP, hK, hD, hS, hR, hl⟩ := id X
  exact lv_if_lt hx hb hd ht (fun h => kt h p l e s m args below meth c H locs ls ad cA D A X) (fun h => kf h p l e s m args below meth c H locs ls ad cA D A X)

theorem sk_if_ge {x : Int32} {off : Int} (tgt pc2 : Nat) (hd : decode M.2.1 pc = .ok (.ifCond .ge off, 3)) (ht : (pc : Int) + off = (tgt : Int)) (hp : pc + 3 = pc2) (kt : 0 ≤ x → sk_G S d M tgt lv st τ K) (kf : ¬ 0 ≤ x → sk_G S d M pc2 lv st τ K) : sk_G S d M pc lv (.int x :: st) τ K := by
  subst hp
  intro p l e s m args below meth c H locs ls ad cA D A X
  obtain ⟨hx, hb, hml, hr, hlk, hown, hts, hP, hK, hD, hS, hR, hl⟩ := id X
  exact lv_if_ge hx hb hd ht (fun h => kt h p l e s m args below meth c H locs ls ad cA D A X) (fun h => kf h p l e s m args below meth c H locs ls ad cA D A X)

theorem sk_if_gt {x : Int32} {off : Int} (tgt pc2 : Nat) (hd : decode M.2.1 pc = .ok (.ifCond .gt off, 3)) (ht : (pc : Int) + off = (tgt : Int)) (hp : pc + 3 = pc2) (kt : 0 < x → sk_G S d M tgt lv st τ K) (kf : ¬ 0 < x → sk_G S d M pc2 lv st τ K) : sk_G S d M pc lv (.int x :: st) τ K := by
  subst hp
  intro p l e s m args below meth c H locs ls ad cA D A X
  obtain ⟨hx, hb, hml, hr, hlk, hown, hts, hP, hK, hD, hS, hR, hl⟩ := id X
  exact lv_if_gt hx hb hd ht (fun h => kt h p l e s m args below meth c H locs ls ad cA D A X) (fun h => kf h p l e s m args below meth c H locs ls ad cA D A X)

theorem sk_if_le {x : Int32} {off : Int} (tgt pc2 : Nat) (hd : decode M.2.1 pc = .ok (.ifCond .le off, 3)) (ht : (pc : Int) + off = (tgt : Int)) (hp : pc + 3 = pc2) (kt : x ≤ 0 → sk_G S d M tgt lv st τ K) (kf : ¬ x ≤ 0 → sk_G S d M pc2 lv st τ K) : sk_G S d M pc lv (.int x :: st) τ K := by
  subst hp
  intro p l e s m args below meth c H locs ls ad cA D A X
  obtain ⟨hx, hb, hml, hr, hlk, hown, hts, hP, hK, hD, hS, hR, hl⟩ := id X
  exact lv_if_le hx hb hd ht (fun h => kt h p l e s m args below meth c H locs ls ad cA D A X) (fun h => kf h p l e s m args below meth c H locs ls ad cA D A X)

end
