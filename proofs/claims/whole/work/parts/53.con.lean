/-! ===== constructors: worlds that grow, at their own addresses ===== -/
def kAO (U : State) : Prop := va_AO "SlateKin$Tile" U ∧ va_AO "SlateKin$Law" U ∧ va_AO "SlateKin$Sheet" U
theorem kAO.moved {u U : State} (hvm : u.vm.Alike U.vm) (h : kAO u) : kAO U := ⟨h.1.moved hvm, h.2.1.moved hvm, h.2.2.moved hvm⟩
abbrev eQ (c : ClassId) (n : Nat) (l : List Nat) : va_E := .inl (c, n, .inr (.inr (.inr (.inr (fun j => l[j]?)))))
abbrev eF (c : ClassId) (n : Nat) (f : Nat → Int32) : va_E := .inl (c, n, .inl f)
abbrev eO (ci : Nat) (fs : List Value) : va_E := .inr (ci, fs)
theorem kRA_uniq {U : State} {c c2 : ClassId} {ty : FieldType} (h : va_RA U c ty) (h2 : va_RA U c2 ty) : c = c2 := by
  have hf : ∀ {d : ClassId}, va_RA U d ty → U.vm.findClass ("[" ++ ty.toString) = some d := by
    intro d hd
    cases ty with
    | object C => obtain ⟨_, _, _, _, _, q⟩ := hd; exact q
    | _ => exact hd
  exact Option.some.inj ((hf h).symm.trans (hf h2))
/-- what stays of a constructor's frame, and its world -/
def kB (y : String) (cc : ByteArray) (nL : Nat) (D : va_G) (cA : Nat → ClassId) (A : Nat → Prop) (p : Program) (s : State) (m : MethodId) (args : Array Value) (c : Code) (H : Heap) (locs : List Loc) (ws : va_W) : Prop :=
  (p.tables.exec = Jvm.exec ∧ c.code = cc ∧ c.maxLocals = nL ∧ s.vm.findClass y = some m.cls ∧ ∀ w ∈ sk_ALL, w.before args s = true) ∧ va_P D vwCl ws H ∧ va_K D vwCl (sk_tys cA) s ∧ va_D A ws ∧ va_S A s.heap H locs ∧ (∀ q : Nat, s.heap.size ≤ q → A q) ∧ sk_NW s ∧ kAO s
/-- a field that its class's constructor writes -/
def kF (own : String) (idx ci k : Nat) (ty : FieldType) : Prop := ∃ (C : String) (T : u_T) (N : Nat), vwCl[ci]? = some (C, T, N) ∧ k < N ∧ (∀ w ∈ u_ws C T N, w ∈ sk_ALL) ∧ Cond.fieldLink own idx (T k).1 (T k).2.1 (T k).2.2.1 ∈ sk_ALL ∧
  (∃ ty0 : Nat → FieldType, ∀ k, k < N → parseFieldDescriptor (T k).2.2.1 = some (ty0 k)) ∧ (∀ a, a < N → ∀ b, b < N → a ≠ b → (T a).2.1 ≠ (T b).2.1) ∧ (T k).1 = own ∧ parseFieldDescriptor (T k).2.2.1 = some ty
/-- a class that is made -/
def kNw (own : String) (idx ci N : Nat) (fs : List Value) : Prop := ∃ (C : String) (T : u_T) (ty : Nat → FieldType), vwCl[ci]? = some (C, T, N) ∧ (∀ w ∈ u_ws C T N, w ∈ sk_ALL) ∧ (∀ k, k < N → parseFieldDescriptor (T k).2.2.1 = some (ty k)) ∧ Cond.classLink own idx C ∈ sk_ALL ∧ Cond.instantiable C N ∈ sk_ALL ∧ Cond.initialized C ∈ sk_ALL ∧ ∀ j, j < N → defaultValue (ty j) = vp_V fs j
def kCon (M : sk_M) (d mc ms : Nat) (D : va_G) (cA : Nat → ClassId) (vs : List Value) (z : va_E) (post : Nat → (Nat → Nat) → va_W) : Prop :=
  ∀ (l : Launch) (h0 sz : Nat), Met l M.1 (sk_ws M) { frames := d, cells := mc, slots := ms, locals := 40 * d } (va_Pc (.ref h0 :: vs) (fun U => U.heap.size = sz ∧ va_P D vwCl [(h0, z)] U.heap ∧ va_K D vwCl (sk_tys cA) U ∧ va_D (fun _ => True) [(h0, z)] ∧ sk_NW U ∧ kAO U))
    (va_Qv (fun _ : Nat → Nat => True) (fun q t => va_P D vwCl (post h0 q) t.heap ∧ va_K D vwCl (sk_tys cA) t ∧ va_D (va_A [(h0, z)] sz) (post h0 q)) (va_A [(h0, z)] sz)) mc ms (va_A [(h0, z)] sz)
section
variable {p : Program} {l : Launch} {e : Env} {R : Room} {s : State} {m : MethodId} {args : Array Value} {below : List Frame} {meth : Method} {c : Code} {H : Heap} {locs : List Loc} {cells slots : Nat} {Q : State → Prop} {pc : Nat} {ls : Array Slot} {D : va_G} {cA : Nat → ClassId} {A : Nat → Prop} {y : String} {cc : ByteArray} {nL : Nat} {ws : va_W} {rest : List Value}
theorem k_put {ci idx a : Nat} {fs : List Value} {v : Value} {ty : FieldType} (X : kB y cc nL D cA A p s m args c H locs ws) (hin : meth.name = "<init>") (hdg : decode cc pc = .ok (.putfield idx, 3)) (q0 k : Nat) (lf : kF y idx ci k ty) (he : ws[q0]? = some (a, eO ci fs)) (hn : narrow ty v = v) (hfit : fits ty v = true) (hl : k < fs.length) (ws' : va_W) (hw : ws.set q0 (a, eO ci (fs.set k v)) = ws')
    (kk : ∀ (H1 : Heap) (locs1 : List Loc), kB y cc nL D cA A p s m args c H1 locs1 ws' → W p l e R s m args below meth c H1 locs1 cells slots Q (F0 m (pc + 3) ls rest)) : W p l e R s m args below meth c H locs cells slots Q (F0 m pc ls (v :: .ref a :: rest)) := by
  subst hw
  obtain ⟨⟨hx, hb, hml, hown, hts⟩, hP, hK, hD, hS, hA, hN, hO⟩ := X
  obtain ⟨C, T, N, hc, hk, hu, hlk, ⟨ty0, hty0⟩, hnm, hdc, hpd⟩ := lf
  rw [hdc] at hlk
  have hsame : ∀ x, s.fieldFound? (T k).1 (T k).2.1 (T k).2.2.1 = some x → s.fieldFound? y (T k).2.1 (T k).2.2.1 = some x := fun x h9 => by rw [hdc] at h9; exact h9
  cases hf : (T k).2.2.2 with
  | true => exact va_putF hx hb hts hu ty0 hty0 hnm hown hK hP hD hS q0 he hc k hk (hts _ hlk) hsame hf hin hdc hpd hn hfit hl hdg (fun H1 locs1 hP hD hS => kk H1 locs1 ⟨⟨hx, hb, hml, hown, hts⟩, hP, hK, hD, hS, hA, hN, hO⟩)
  | false => exact va_put hx hb hts hu ty0 hty0 hnm hown hK hP hD hS q0 he hc k hk (hts _ hlk) hsame hf hpd hn hfit hl hdg (fun H1 locs1 hP hD hS => kk H1 locs1 ⟨⟨hx, hb, hml, hown, hts⟩, hP, hK, hD, hS, hA, hN, hO⟩)
theorem k_get {ci idx a : Nat} {fs : List Value} {v : Value} {ty : FieldType} (X : kB y cc nL D cA A p s m args c H locs ws) (hdg : decode cc pc = .ok (.getfield idx, 3)) (q0 k : Nat) (lf : kF y idx ci k ty) (he : ws[q0]? = some (a, eO ci fs)) (hv : fs[k]? = some v)
    (kk : W p l e R s m args below meth c H locs cells slots Q (F0 m (pc + 3) ls (v :: rest))) : W p l e R s m args below meth c H locs cells slots Q (F0 m pc ls (.ref a :: rest)) := by
  obtain ⟨⟨hx, hb, hml, hown, hts⟩, hP, hK, hD, hS, hA, hN, hO⟩ := X
  obtain ⟨C, T, N, hc, hk, hu, hlk, ⟨ty0, hty0⟩, hnm, hdc, hpd⟩ := lf
  rw [hdc] at hlk
  exact va_get hx hb hts hu hown hK hP q0 he hc k hk (hts _ hlk) (fun x h9 => by rw [hdc] at h9; exact h9) hv hdg kk
theorem k_new {ci N idx : Nat} {fs : List Value} (X : kB y cc nL D cA A p s m args c H locs ws) (hdg : decode cc pc = .ok (.new idx, 3)) (nw : kNw y idx ci N fs) (k2 n2 : Nat) (hk : cells + 1 = k2) (hn : slots + N = n2) (hR : k2 ≤ R.cells ∧ n2 ≤ R.slots)
    (kk : ∀ (q : Nat) (H1 : Heap), kB y cc nL D cA A p s m args c H1 locs (ws ++ [(q, eO ci fs)]) → W p l e R s m args below meth c H1 locs k2 n2 Q (F0 m (pc + 3) ls (.ref q :: rest))) : W p l e R s m args below meth c H locs cells slots Q (F0 m pc ls rest) := by
  subst hk
  subst hn
  obtain ⟨⟨hx, hb, hml, hown, hts⟩, hP, hK, hD, hS, hA, hN, hO⟩ := X
  obtain ⟨C, T, ty, hc, hu, hty, h1, h2, h3, hfs⟩ := nw
  exact va_new hx hb hts hu ty hty hown (hts _ h1) (hts _ h2) (hts _ h3) hK hP hD hS hA hc hfs hR.1 hR.2 hdg (fun q H1 hP hD hS => kk q H1 ⟨⟨hx, hb, hml, hown, hts⟩, hP, hK, hD, hS, hA, hN, hO⟩)
theorem k_newI {n : Int32} {N : Nat} (X : kB y cc nL D cA A p s m args c H locs ws) (hdg : decode cc pc = .ok (.newarray .int, 2)) (h0 : ¬ n < 0) (hN0 : n.toNatClampNeg = N) (hby : N * 4 ≤ 536870912) (k2 n2 : Nat) (hk : cells + 1 = k2) (hn : slots + N = n2) (hR : k2 ≤ R.cells ∧ n2 ≤ R.slots)
    (kk : ∀ (q : Nat) (H1 : Heap), kB y cc nL D cA A p s m args c H1 locs (ws ++ [(q, eF (cA 0) N (fun _ => 0))]) → W p l e R s m args below meth c H1 locs k2 n2 Q (F0 m (pc + 2) ls (.ref q :: rest))) : W p l e R s m args below meth c H locs cells slots Q (F0 m pc ls (.int n :: rest)) := by
  subst hk
  subst hn
  obtain ⟨⟨hx, hb, hml, hown, hts⟩, hP, hK, hD, hS, hA, hN, hO⟩ := X
  refine va_newa (ty := .int) (a0 := (N, .inl (fun _ => 0))) hx hb (hts _ (sk_tin 72 (by decide +kernel) rfl)) rfl hK hP hD hS hA (fun _ => rfl) h0 hN0 hby hR.1 hR.2 hdg (fun q c9 H1 hK1 hP1 hD1 hS1 => ?_)
  have e9 : c9 = cA 0 := kRA_uniq (hK1.2 5 _ rfl).2 (hK.2 0 _ rfl).2
  subst e9
  exact kk q H1 ⟨⟨hx, hb, hml, hown, hts⟩, hP1, hK, hD1, hS1, hA, hN, hO⟩
theorem k_newB {n : Int32} {N : Nat} (X : kB y cc nL D cA A p s m args c H locs ws) (hdg : decode cc pc = .ok (.newarray .byte, 2)) (h0 : ¬ n < 0) (hN0 : n.toNatClampNeg = N) (hby : N * 1 ≤ 536870912) (k2 n2 : Nat) (hk : cells + 1 = k2) (hn : slots + N = n2) (hR : k2 ≤ R.cells ∧ n2 ≤ R.slots)
    (kk : ∀ (q : Nat) (H1 : Heap), kB y cc nL D cA A p s m args c H1 locs (ws ++ [(q, eF (cA 1) N (fun _ => 0))]) → W p l e R s m args below meth c H1 locs k2 n2 Q (F0 m (pc + 2) ls (.ref q :: rest))) : W p l e R s m args below meth c H locs cells slots Q (F0 m pc ls (.int n :: rest)) := by
  subst hk
  subst hn
  obtain ⟨⟨hx, hb, hml, hown, hts⟩, hP, hK, hD, hS, hA, hN, hO⟩ := X
  refine va_newa (ty := .byte) (a0 := (N, .inl (fun _ => 0))) hx hb (hts _ (sk_tin 71 (by decide +kernel) rfl)) rfl hK hP hD hS hA (fun _ => rfl) h0 hN0 hby hR.1 hR.2 hdg (fun q c9 H1 hK1 hP1 hD1 hS1 => ?_)
  have e9 : c9 = cA 1 := kRA_uniq (hK1.2 5 _ rfl).2 (hK.2 1 _ rfl).2
  subst e9
  exact kk q H1 ⟨⟨hx, hb, hml, hown, hts⟩, hP1, hK, hD1, hS1, hA, hN, hO⟩
theorem k_newq {n : Int32} {N idx : Nat} {C : String} (X : kB y cc nL D cA A p s m args c H locs ws) (hdg : decode cc pc = .ok (.anewarray idx, 3)) (t : Nat) (ht : (sk_tys cA)[t]? = some (cA t, .object C)) (hcl : Cond.classLink y idx C ∈ sk_ALL) (hao : kAO s → va_AO C s) (h0 : ¬ n < 0) (hN0 : n.toNatClampNeg = N) (hby : N * 4 ≤ 536870912) (k2 n2 : Nat) (hk : cells + 1 = k2) (hn : slots + N = n2) (hR : k2 ≤ R.cells ∧ n2 ≤ R.slots)
    (kk : ∀ (q : Nat) (H1 : Heap), kB y cc nL D cA A p s m args c H1 locs (ws ++ [(q, eQ (cA t) N [])]) → W p l e R s m args below meth c H1 locs k2 n2 Q (F0 m (pc + 3) ls (.ref q :: rest))) : W p l e R s m args below meth c H locs cells slots Q (F0 m pc ls (.int n :: rest)) := by
  subst hk
  subst hn
  obtain ⟨⟨hx, hb, hml, hown, hts⟩, hP, hK, hD, hS, hA, hN, hO⟩ := X
  refine va_newq hx hb hown (hts _ hcl) (hao hO) hK hP hD hS hA h0 hN0 hby hR.1 hR.2 hdg (fun q c9 H1 hK1 hP1 hD1 hS1 => ?_)
  have e9 : c9 = cA t := kRA_uniq (hK1.2 5 _ rfl).2 (hK.2 t _ ht).2
  subst e9
  have e8 : (fun _ : Nat => (none : Option Nat)) = (fun j => ([] : List Nat)[j]?) := by funext j; simp
  rw [e8] at hP1 hD1
  exact kk q H1 ⟨⟨hx, hb, hml, hown, hts⟩, hP1, hK, hD1, hS1, hA, hN, hO⟩
theorem k_ast {a v n ci : Nat} {i : Int32} {r : vw_C} {vs : List Value} {L : List Nat} (X : kB y cc nL D cA A p s m args c H locs ws) (hdg : decode cc pc = .ok (.aastore, 1)) (q0 t qk : Nat) (ht : (sk_tys cA)[t]? = some (cA t, .object r.1)) (ha : ws[q0]? = some (a, eQ (cA t) n L)) (hv : ws[qk]? = some (v, eO ci vs)) (hc : vwCl[ci]? = some r) (hi : vp_in i n) (hL : i.toNatClampNeg = L.length) (ws' : va_W) (hw : ws.set q0 (a, eQ (cA t) n (L ++ [v])) = ws')
    (kk : ∀ (H1 : Heap) (locs1 : List Loc), kB y cc nL D cA A p s m args c H1 locs1 ws' → W p l e R s m args below meth c H1 locs1 cells slots Q (F0 m (pc + 1) ls rest)) : W p l e R s m args below meth c H locs cells slots Q (F0 m pc ls (.ref v :: .int i :: .ref a :: rest)) := by
  subst hw
  obtain ⟨⟨hx, hb, hml, hown, hts⟩, hP, hK, hD, hS, hA, hN, hO⟩ := X
  refine va_astq hx hb hK hP hD hS q0 t qk ci ha ht hv hc hi hdg (fun H1 locs1 hP1 hD1 hS1 => ?_)
  have e8 : va_up (fun j => L[j]?) i.toNatClampNeg (some v) = (fun j => (L ++ [v])[j]?) := by
    rw [hL]
    funext j
    show (if j = L.length then some v else L[j]?) = _
    by_cases h1 : j = L.length
    · subst h1; simp
    · rw [if_neg h1]
      by_cases h2 : j < L.length
      · rw [List.getElem?_append_left h2]
      · rw [List.getElem?_eq_none (by omega), List.getElem?_eq_none (by simp; omega)]
  rw [e8] at hP1 hD1
  exact kk H1 locs1 ⟨⟨hx, hb, hml, hown, hts⟩, hP1, hK, hD1, hS1, hA, hN, hO⟩
theorem k_obj {idx a : Nat} (X : kB y cc nL D cA A p s m args c H locs ws) (hdg : decode cc pc = .ok (.invokespecial idx, 3)) (hl : Cond.methodLink y idx Lib.objectInit ∈ sk_ALL) (hsz : ls.size = nL) (hR : 1 ≤ R.frames ∧ 12 ≤ R.locals)
    (kk : W p l e R s m args below meth c H locs cells slots Q (F0 m (pc + 3) ls [])) : W p l e R s m args below meth c H locs cells slots Q (F0 m pc ls [.ref a]) := by
  obtain ⟨⟨hx, hb, hml, hown, hts⟩, hP, hK, hD, hS, hA, hN, hO⟩ := X
  refine W.objInit (rest := []) hx hb hown (hts _ hl) (hts _ (sk_tin 19 (by decide +kernel) rfl)) (hts _ (sk_tin 20 (by decide +kernel) rfl)) rfl (by rw [hml]; exact hsz) rfl hdg hR.1 hR.2 ?_
  exact W.eq (g2 := F0 m (pc + 3) ls []) rfl kk
theorem k_call {M2 : sk_M} {d2 mc2 ms2 n idx q : Nat} {vs : List Value} {st : List Value} {z : va_E} {post : Nat → (Nat → Nat) → va_W} {wr : va_W} (X : kB y cc nL D cA A p s m args c H locs ws) (hdg : decode cc pc = .ok (.invokespecial idx, 3)) (k : kCon M2 d2 mc2 ms2 D cA vs z post) (mf : sk_MF M2 n) (hname : M2.1.name = "<init>") (hi : Cond.instanceMethod M2.1 ∈ sk_ALL) (hl : sk_LV y idx M2.1) (hret : M2.2.2.2 = none) (hn : vs.length = n) (hst : st = vs.reverse ++ .ref q :: rest) (hcat : (rest.map fun v => v.category).sum ≤ 8)
    (hfr : d2 + 1 ≤ R.frames ∧ 8 + (M2.2.2.1 + 11) + 40 * d2 ≤ R.locals) (hsz : ls.size = nL) (i : Nat) (isR : List Nat) (hiq : ws[i]? = some (q, z)) (hR : isR.map (fun i => ws[i]?) = wr.map some) (hnd : va_nd isR = true) (hdis : isR.all (fun j => !(j == i)) = true) (k2 n2 : Nat) (hk : cells + mc2 = k2) (hn2 : slots + ms2 = n2) (hRR : k2 ≤ R.cells ∧ n2 ≤ R.slots)
    (kk : ∀ (u : Nat → Nat) (H1 : Heap) (locs1 : List Loc), kB y cc nL D cA A p s m args c H1 locs1 (wr ++ post q u) → W p l e R s m args below meth c H1 locs1 k2 n2 Q (F0 m (pc + 3) ls rest)) : W p l e R s m args below meth c H locs cells slots Q (F0 m pc ls st) := by
  subst hk
  subst hn2
  subst hst
  obtain ⟨⟨hx, hb, hml, hown, hts⟩, hP, hK, hD, hS, hA, hN, hO⟩ := X
  have hC : [i].map (fun i => ws[i]?) = [(q, z)].map some := by simp [hiq]
  have hPc : va_P D vwCl [(q, z)] H := hP.sub [i] (by simp [hiq])
  have hDc : va_D A [(q, z)] := hD.sub [i] (by simp [va_nd]) hC
  have hFc := va_free (wc := [(q, z)]) hD hS hA [i] hC
  have hdj : ∀ j ∈ isR, j ∉ [i] := fun j hj h9 => by
    have := List.all_eq_true.mp hdis j hj
    simp at h9
    subst h9
    simp at this
  have hws : sk_ws M2 = Cond.code M2.1 M2.2.1 M2.2.2.1 none :: sk_ALL := by unfold sk_ws; rw [hret]
  have hpre : PreS s H (va_Pc (.ref q :: vs) (fun U => U.heap.size = H.size ∧ va_P D vwCl [(q, z)] U.heap ∧ va_K D vwCl (sk_tys cA) U ∧ va_D (fun _ => True) [(q, z)] ∧ sk_NW U ∧ kAO U)) (.ref q :: vs) :=
    ⟨fun a U g mk w => by obtain ⟨w0, w1, wP, wK, wD, wN, wO⟩ := w; exact ⟨w0, w1, wP, va_K.moved (u := U) (U := U.calling g mk a) (Vm.Alike.refl U.vm) wK, wD, sk_NW.same (u := U) (U := U.calling g mk a) rfl wN, kAO.moved (u := U) (U := U.calling g mk a) (Vm.Alike.refl U.vm) wO⟩,
      fun U hU hW => ⟨rfl, by rw [hU], by rw [hU]; exact hPc, va_K.moved hW.alike hK, hDc.weaken (fun _ _ _ _ => trivial), hN.warm hW, hO.moved hW.alike⟩⟩
  have hrun : va_Run p l e R s m args below meth c H locs cells slots mc2 ms2 (F0 m pc ls (vs.reverse ++ .ref q :: rest)) rest (va_Qv (fun _ : Nat → Nat => True) (fun u t => va_P D vwCl (post q u) t.heap ∧ va_K D vwCl (sk_tys cA) t ∧ va_D (va_A [(q, z)] H.size) (post q u)) (va_A [(q, z)] H.size) (Value.ref q :: vs).toArray) (va_A [(q, z)] H.size) := by
    rcases hl with hl | ⟨host, hl⟩
    · exact va_runI (As := vs) (rest := rest) ⟨hx, hb, hml, hown, hts⟩ (k l q H.size) ⟨callB_of (index := idx) n hts (sk_goodM mf) hws rfl rfl (hts _ mf.2.1) (hts _ hl) ⟨mf.2.2.2.1, mf.2.2.2.2.1, mf.2.2.2.2.2.1⟩ hfr, hname, hts _ hi⟩ hpre rfl hn hsz rfl (lv_room hcat) hdg hRR
    · exact va_runIN (host := host) (As := vs) (rest := rest) ⟨hx, hb, hml, hown, hts⟩ (k l q H.size) ⟨va_cnB (index := idx) n hts (sk_goodM mf) hws rfl rfl (va_Nw.use rfl (hN _ hl)) (hts _ mf.2.1) ⟨mf.2.2.2.1, mf.2.2.2.2.1, mf.2.2.2.2.2.1⟩ hfr, hname, hts _ hi⟩ hpre rfl hn hsz rfl (lv_room hcat) hdg hRR
  refine va_callv hrun hS (fun q _ h => hFc q h) hFc (fun u t H1 locs1 ht hvm hw hB hz1 hk1 hS1 => ?_)
  obtain ⟨hP1, hK1, hD1⟩ := hB
  rw [ht] at hP1
  obtain ⟨hP2, hD2⟩ := va_join (wr := wr) (w1 := post q u) hP hD [i] isR hC hR hnd hdj hk1 hFc hP1 hD1
  exact kk u H1 locs1 ⟨⟨hx, hb, hml, hown, hts⟩, hP2, hK, hD2, hS1, hA, hN, hO⟩
theorem k_ret {z : va_E} {h0 : Nat} {post : Nat → (Nat → Nat) → va_W} {mc ms : Nat} (X : kB y cc nL D cA (va_A [(h0, z)] s.heap.size) p s m args c H locs ws) (hdg : decode cc pc = .ok (.return_, 1)) (hr : meth.sig.returnType = none) (hlocks : meth.locks = false) (u : Nat → Nat) (hw : ws = post h0 u) (h1 : cells ≤ mc) (h2 : slots ≤ ms) :
    W p l e R s m args below meth c H locs cells slots (MQ below (va_Qv (fun _ : Nat → Nat => True) (fun q t => va_P D vwCl (post h0 q) t.heap ∧ va_K D vwCl (sk_tys cA) t ∧ va_D (va_A [(h0, z)] s.heap.size) (post h0 q)) (va_A [(h0, z)] s.heap.size)) args s mc ms (va_A [(h0, z)] s.heap.size)) (F0 m pc ls []) := by
  subst hw
  obtain ⟨⟨hx, hb, hml, hown, hts⟩, hP, hK, hD, hS, hA, hN, hO⟩ := X
  refine W.widen h1 h2 ?_
  exact W.vret hx hb hr (fun t ht hW => ⟨⟨u, rfl, trivial, by rw [ht]; exact hP, va_K.moved hW.alike hK, hD⟩, hS.F ht⟩) hS.2.2 hdg hlocks
theorem k_enter {M : sk_M} {n d mc ms : Nat} {vs : List Value} {z : va_E} {post : Nat → (Nat → Nat) → va_W} (mf : sk_MF M n) (hret : M.2.2.2 = none) (hnm : M.1.name = "<init>") (hlen : ∀ h0 : Nat, (lg_sl (.ref h0 :: vs)).length ≤ M.2.2.1)
    (k : ∀ (p : Program) (l : Launch) (e : Env) (s : State) (m : MethodId) (args : Array Value) (below : List Frame) (meth : Method) (c : Code) (ls : Array Slot) (h0 : Nat), lv_has ls M.2.2.1 (lv_args 0 (.ref h0 :: vs)) → kB M.1.cls M.2.1 M.2.2.1 D cA (va_A [(h0, z)] s.heap.size) p s m args c s.heap [] [(h0, z)] → meth.name = "<init>" → meth.sig.returnType = none → meth.locks = false →
      W p l e { frames := d, cells := mc, slots := ms, locals := 40 * d } s m args below meth c s.heap [] 0 0 (MQ below (va_Qv (fun _ : Nat → Nat => True) (fun q t => va_P D vwCl (post h0 q) t.heap ∧ va_K D vwCl (sk_tys cA) t ∧ va_D (va_A [(h0, z)] s.heap.size) (post h0 q)) (va_A [(h0, z)] s.heap.size)) args s mc ms (va_A [(h0, z)] s.heap.size)) (F0 m 0 ls [])) : kCon M d mc ms D cA vs z post := by
  intro l h0 sz
  refine Met.ofW (cc := M.2.1) (maxL := M.2.2.1) (ret := M.2.2.2) mf.2.2.1 rfl ?_
  intro p e s m args below meth c s₁ B hml hv
  obtain ⟨rfl, rfl, hP, hK, hD0, hN, hO⟩ := hv
  have hts := atoms_spec (ws := sk_ws M) B.pre
  rw [lg_entry_eq]
  have hl := lv_entry (.ref h0 :: vs) (n := M.2.2.1) (hlen h0)
  exact k p l e s m _ below meth c _ h0 hl ⟨⟨B.exec, B.bytes, hml, findClass_of_methodNamed B.named, fun w hw => hts w (List.mem_cons_of_mem _ hw)⟩, hP, hK, hD0.self, va_S.rf, fun q h => Or.inr h, hN, hO⟩ ((name_of_methodNamed B.named B.method).1.trans hnm) (B.returns.trans hret) B.notSynchronized
end
