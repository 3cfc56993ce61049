/-! THE CLAIM OUT OF ONE WALK OF THE LAW'S BODY. Your part is whole_start (and what it stands on); all else here is the same for every law, but numbers. -/
def R_law : String := "SlateKinLaw"
def lw_P (b : Addr) (xs : List Int32) (args : Array Value) (s : State) : Prop := args = #[.ref b] ∧ s.IntsAt b xs ∧ xs.length ≤ 3072 ∧ (Jvm.Cond.and given_1 narrow_1).before args s = true
def lw_Q (_ : Array Value) (s : State) (o : Outcome) (t : State) : Prop := o = .returned (some (.int 1)) ∧ Framed s o t [] 600000 7302250
def lw_Z (below : List Frame) (a : Array Value) (s : State) : State → Prop := fun t => ∃ o, t.status = .running ∧ Ended t below o ∧ lw_Q a s o t
/-- the law's own end, with 1 on the stack, nothing written that was there before, its room as the claim has it -/
theorem lw_ret {p : Program} {l : Launch} {e : Env} {s : State} {m : MethodId} {below : List Frame} {meth : Method} {c : Code} {b : Nat} (hx : p.tables.exec = Jvm.exec) (hb : c.code = code) (hr : meth.sig.returnType = ret) (hlocks : meth.locks = false) {pc : Nat} {H : Heap} {ls : Array Slot} (hdg : decode code pc = .ok (.ireturn, 1)) : W p l e room_1 s m #[Value.ref b] below meth c H [] 600000 7302250 (lw_Z below #[Value.ref b] s) (F0 m pc ls [.int 1]) := by
  intro T hT X
  obtain ⟨fs, hret, hrun, hended, hW, hframe⟩ := X.leave (v := some (.int 1)) (hlocks := hlocks) (fun h => by rw [hr] at h; cases h)
  have hmeth' : T.vm.method? m = some meth := X.method'
  refine ⟨T.setFrames fs, ?_, .returned (some (.int 1)), hrun, hended, rfl, ⟨_, rfl⟩, hW, hframe⟩
  jvm_step X.here [X.here.top, hx, hb, hdg, hmeth', hr, ret, narrow_b1]
  (try refine ⟨rfl, ?_⟩); (try refine ⟨rfl, ?_⟩)
  first | (intro acts; rw [hret _ acts rfl rfl rfl]) | rw [hret _ _ rfl rfl rfl]
  exact Steps.refl _
/-- what holds at the law's entry: the machine, the code, the tables' words (any of lw_tbl by 'hts w (by decide +kernel)'), the script of L ints xs at the cell b, what the Statement gives of the start (any of its parts by flat_of_before) -/
def lw_At (p : Program) (s : State) (m : MethodId) (meth : Method) (c : Code) (b L : Nat) (xs : Nat → Int32) : Prop :=
  p.tables.exec = Jvm.exec ∧ c.code = code ∧ meth.sig.returnType = ret ∧ c.maxLocals = 4 ∧ s.vm.findClass R_law = some m.cls ∧ (∀ w ∈ lw_tbl, w.before #[Value.ref b] s = true) ∧ va_X b L xs s s.heap ∧ b < s.heap.size ∧ meth.locks = false ∧ (Jvm.Cond.and given_1 narrow_1).before #[Value.ref b] s = true
/-! ===== the class's world and the reference's, side by side ===== -/
def lwA1 (S : List sk_Sh) (ad : Nat → Nat) : Nat → Prop := fun q => ∃ k, k < S.length ∧ q = ad k
def lwS (s : State) (H : Heap) (locs : List Loc) (D : va_G) (cA : Nat → ClassId) (ad1 ad2 : Nat → Nat) (τ σ : sk_T) : Prop :=
  va_P D vwCl (sk_wl sk_Sc ad1 cA τ) H ∧ va_P D vwCl (sk_wl sk_Sm ad2 cA σ) H ∧ va_K D vwCl (sk_tys cA) s ∧ va_D (lwA1 sk_Sc ad1) (sk_wl sk_Sc ad1 cA τ) ∧ va_D (lwA1 sk_Sm ad2) (sk_wl sk_Sm ad2 cA σ) ∧
  (∀ q, lwA1 sk_Sc ad1 q → s.heap.size ≤ q ∧ ¬ lwA1 sk_Sm ad2 q) ∧ (∀ q, lwA1 sk_Sm ad2 q → s.heap.size ≤ q) ∧ va_S (fun q => s.heap.size ≤ q) s.heap H locs ∧ sk_Ro ad1 (fun q => s.heap.size ≤ q) s s.heap ∧ sk_Ro ad2 (fun q => s.heap.size ≤ q) s s.heap ∧ sk_NW s
theorem va_Z.mono {C n d : String} {v : Value} {A B : Nat → Prop} {U : State} {H : Heap} (h : va_Z C n d v A U H) (hAB : ∀ q, B q → A q) : va_Z C n d v B U H := by
  obtain ⟨cf, kf, fi, f, a, cell, h1, h2, h3, h4, h5, h6, h7, h8⟩ := h
  exact ⟨cf, kf, fi, f, a, cell, h1, h2, h3, h4, h5, h6, h7, fun z => h8 (hAB a z)⟩
theorem va_T.mono {ty : FieldType} {t N : Nat} {f : Nat → Value} {A B : Nat → Prop} {U : State} {H : Heap} (h : va_T ty t N f A U H) (hAB : ∀ q, B q → A q) : va_T ty t N f B U H := by
  obtain ⟨cell, h1, h2, h3, h4, h5, h6, h7⟩ := h
  exact ⟨cell, h1, h2, h3, h4, h5, h6, fun z => h7 (hAB t z)⟩
theorem sk_Ro.mono {ad : Nat → Nat} {A B : Nat → Prop} {U : State} {H : Heap} (h : sk_Ro ad A U H) (hAB : ∀ q, B q → A q) : sk_Ro ad B U H :=
  ⟨⟨h.1.1.mono hAB, h.1.2.mono hAB⟩, ⟨h.2.1.1.mono hAB, h.2.1.2.mono hAB⟩, ⟨h.2.2.1.mono hAB, h.2.2.2.mono hAB⟩⟩
section
variable {p : Program} {l : Launch} {e : Env} {s : State} {m : MethodId} {args : Array Value} {below : List Frame} {meth : Method} {c : Code} {H : Heap} {locs : List Loc} {kc ks : Nat} {Q : State → Prop} {pc : Nat} {ls : Array Slot} {D : va_G} {cA : Nat → ClassId} {ad1 ad2 : Nat → Nat} {τ σ : sk_T}
theorem lw_callC {M2 : sk_M} {n idx : Nat} {K : sk_K} {st : List Value} (As rest : List Value) (hk : kc ≤ 600000 ∧ ks ≤ 7302250) (hx : p.tables.exec = Jvm.exec) (hb : c.code = cL_law) (hml : c.maxLocals = 4) (hls : ls.size = 4) (hown : s.vm.findClass RL = some m.cls) (hts : ∀ w ∈ sk_ALL, w.before args s = true) (hd : decode cL_law pc = .ok (.invokevirtual idx, 3)) (mf : sk_MF M2 n) (hl : sk_LV RL idx M2.1) (hi : Cond.instanceMethod M2.1 ∈ sk_ALL) (hse : Cond.selects M2.1.cls M2.1 M2.1 ∈ sk_ALL) (hrc : RX6 = M2.1.cls) (hn : As.length = n) (hst : st = (As.map (sk_vm ad1)).reverse ++ .ref (ad1 0) :: rest) (hcat : (rest.map fun v => v.category).sum ≤ 8)
    (C : lwS s H locs D cA ad1 ad2 τ σ) (k : sk_C sk_Sc 200 M2 (.ref 0 :: As) τ K)
    (kk : ∀ v τ2 H1 locs1, K v τ2 → lwS s H1 locs1 D cA ad1 ad2 τ2 σ → W p l e room_1 s m args below meth c H1 locs1 kc ks Q (F0 m (pc + 3) ls ((v.map (sk_vm ad1)).toList ++ rest))) : W p l e room_1 s m args below meth c H locs kc ks Q (F0 m pc ls st) := by
  subst hst
  obtain ⟨hP, hP2, hK, hD, hD2, hA1, hA2, hS, hR1, hR2, hN⟩ := id C
  have hAA : ∀ q, lwA1 sk_Sc ad1 q → (fun q : Nat => s.heap.size ≤ q) q := fun q h => (hA1 q h).1
  have hfr : (sk_rm 200).frames + 1 ≤ room_1.frames ∧ 8 + (M2.2.2.1 + 11) + (sk_rm 200).locals ≤ room_1.locals := by
    have := mf.2.2.2.2.2.2
    refine ⟨show 200 + 1 ≤ 2048 by omega, ?_⟩
    show 8 + (M2.2.2.1 + 11) + 40 * 200 ≤ 84000
    omega
  have hpre := sk_pre (A := lwA1 sk_Sc ad1) (vs := .ref 0 :: As) (locs := locs) hP hK hD (fun q h1 _ => hS.2.1 q h1 (fun z => absurd z (Nat.not_le.mpr h1))) (hR1.mono hAA) hN
  have hrun : va_Run p l e room_1 s m args below meth c H locs kc ks 0 0 (F0 m pc ls ((As.map (sk_vm ad1)).reverse ++ .ref (ad1 0) :: rest)) rest (sk_Qc sk_Sc ad1 cA D (lwA1 sk_Sc ad1) K (Value.ref (ad1 0) :: As.map (sk_vm ad1)).toArray) (lwA1 sk_Sc ad1) := by
    rcases hl with hl | ⟨host, hl⟩
    · exact va_runV (C := M2.1.cls) (As := As.map (sk_vm ad1)) ⟨hx, hb, hml, hown, hts⟩ (k l ad1 cA D (lwA1 sk_Sc ad1)) ⟨callB_of (index := idx) n hts (sk_goodM mf) rfl rfl rfl (hts _ mf.2.1) (hts _ hl) ⟨mf.2.2.2.1, mf.2.2.2.2.1, mf.2.2.2.2.2.1⟩ hfr, hts _ hi, hts _ hse⟩ ⟨hpre.1, hrc ▸ va_recv hK hP (q := (RX6, TX6, 7)) (ci := 6) rfl (sk_wl_at (S := sk_Sc) (ad := ad1) (cA := cA) (τ := τ) sc_0), hpre.2⟩ rfl (by rw [List.length_map]; exact hn) hls rfl (lv_room hcat) hd ⟨hk.1, hk.2⟩
    · exact va_runVN (C := M2.1.cls) (host := host) (As := As.map (sk_vm ad1)) ⟨hx, hb, hml, hown, hts⟩ (k l ad1 cA D (lwA1 sk_Sc ad1)) ⟨va_cnB (index := idx) n hts (sk_goodM mf) rfl rfl rfl (hN _ hl) (hts _ mf.2.1) ⟨mf.2.2.2.1, mf.2.2.2.2.1, mf.2.2.2.2.2.1⟩ hfr, hts _ hi, hts _ hse⟩ ⟨hpre.1, hrc ▸ va_recv hK hP (q := (RX6, TX6, 7)) (ci := 6) rfl (sk_wl_at (S := sk_Sc) (ad := ad1) (cA := cA) (τ := τ) sc_0), hpre.2⟩ rfl (by rw [List.length_map]; exact hn) hls rfl (lv_room hcat) hd ⟨hk.1, hk.2⟩
  refine sk_run hrun hS hAA (fun v τ2 t H1 locs1 ht hvm hkk hw hq hS1 => ?_)
  obtain ⟨hP1, hK1, hD1, hR3⟩ := hw
  rw [ht] at hP1
  refine kk v τ2 H1 locs1 hkk ⟨hP1, ?_, hK, hD1, hD2, hA1, hA2, hS1, hR1, hR2, hN⟩
  refine hP2.kept (fun j x hx2 => hq x.1 ((hP2 j x hx2).lt) (fun z => (hA1 _ z).2 (hD2.2 j x hx2)))
theorem lw_callM {M2 : sk_M} {n idx : Nat} {K : sk_K} {st : List Value} (As rest : List Value) (hk : kc ≤ 600000 ∧ ks ≤ 7302250) (hx : p.tables.exec = Jvm.exec) (hb : c.code = cL_law) (hml : c.maxLocals = 4) (hls : ls.size = 4) (hown : s.vm.findClass RL = some m.cls) (hts : ∀ w ∈ sk_ALL, w.before args s = true) (hd : decode cL_law pc = .ok (.invokevirtual idx, 3)) (mf : sk_MF M2 n) (hl : sk_LV RL idx M2.1) (hi : Cond.instanceMethod M2.1 ∈ sk_ALL) (hse : Cond.selects M2.1.cls M2.1 M2.1 ∈ sk_ALL) (hrc : RX7 = M2.1.cls) (hn : As.length = n) (hst : st = (As.map (sk_vm ad2)).reverse ++ .ref (ad2 0) :: rest) (hcat : (rest.map fun v => v.category).sum ≤ 8)
    (C : lwS s H locs D cA ad1 ad2 τ σ) (k : sk_C sk_Sm 200 M2 (.ref 0 :: As) σ K)
    (kk : ∀ v σ2 H1 locs1, K v σ2 → lwS s H1 locs1 D cA ad1 ad2 τ σ2 → W p l e room_1 s m args below meth c H1 locs1 kc ks Q (F0 m (pc + 3) ls ((v.map (sk_vm ad2)).toList ++ rest))) : W p l e room_1 s m args below meth c H locs kc ks Q (F0 m pc ls st) := by
  subst hst
  obtain ⟨hP, hP2, hK, hD, hD2, hA1, hA2, hS, hR1, hR2, hN⟩ := id C
  have hfr : (sk_rm 200).frames + 1 ≤ room_1.frames ∧ 8 + (M2.2.2.1 + 11) + (sk_rm 200).locals ≤ room_1.locals := by
    have := mf.2.2.2.2.2.2
    refine ⟨show 200 + 1 ≤ 2048 by omega, ?_⟩
    show 8 + (M2.2.2.1 + 11) + 40 * 200 ≤ 84000
    omega
  have hpre := sk_pre (A := lwA1 sk_Sm ad2) (vs := .ref 0 :: As) (locs := locs) hP2 hK hD2 (fun q h1 _ => hS.2.1 q h1 (fun z => absurd z (Nat.not_le.mpr h1))) (hR2.mono hA2) hN
  have hrun : va_Run p l e room_1 s m args below meth c H locs kc ks 0 0 (F0 m pc ls ((As.map (sk_vm ad2)).reverse ++ .ref (ad2 0) :: rest)) rest (sk_Qc sk_Sm ad2 cA D (lwA1 sk_Sm ad2) K (Value.ref (ad2 0) :: As.map (sk_vm ad2)).toArray) (lwA1 sk_Sm ad2) := by
    rcases hl with hl | ⟨host, hl⟩
    · exact va_runV (C := M2.1.cls) (As := As.map (sk_vm ad2)) ⟨hx, hb, hml, hown, hts⟩ (k l ad2 cA D (lwA1 sk_Sm ad2)) ⟨callB_of (index := idx) n hts (sk_goodM mf) rfl rfl rfl (hts _ mf.2.1) (hts _ hl) ⟨mf.2.2.2.1, mf.2.2.2.2.1, mf.2.2.2.2.2.1⟩ hfr, hts _ hi, hts _ hse⟩ ⟨hpre.1, hrc ▸ va_recv hK hP2 (q := (RX7, TX7, 20)) (ci := 7) rfl (sk_wl_at (S := sk_Sm) (ad := ad2) (cA := cA) (τ := σ) sm_0), hpre.2⟩ rfl (by rw [List.length_map]; exact hn) hls rfl (lv_room hcat) hd ⟨hk.1, hk.2⟩
    · exact va_runVN (C := M2.1.cls) (host := host) (As := As.map (sk_vm ad2)) ⟨hx, hb, hml, hown, hts⟩ (k l ad2 cA D (lwA1 sk_Sm ad2)) ⟨va_cnB (index := idx) n hts (sk_goodM mf) rfl rfl rfl (hN _ hl) (hts _ mf.2.1) ⟨mf.2.2.2.1, mf.2.2.2.2.1, mf.2.2.2.2.2.1⟩ hfr, hts _ hi, hts _ hse⟩ ⟨hpre.1, hrc ▸ va_recv hK hP2 (q := (RX7, TX7, 20)) (ci := 7) rfl (sk_wl_at (S := sk_Sm) (ad := ad2) (cA := cA) (τ := σ) sm_0), hpre.2⟩ rfl (by rw [List.length_map]; exact hn) hls rfl (lv_room hcat) hd ⟨hk.1, hk.2⟩
  refine sk_run hrun hS hA2 (fun v τ2 t H1 locs1 ht hvm hkk hw hq hS1 => ?_)
  obtain ⟨hP1, hK1, hD1, hR3⟩ := hw
  rw [ht] at hP1
  refine kk v τ2 H1 locs1 hkk ⟨?_, hP1, hK, hD, hD1, hA1, hA2, hS1, hR1, hR2, hN⟩
  refine hP.kept (fun j x hx2 => hq x.1 ((hP j x hx2).lt) (fun z => (hA1 _ (hD.2 j x hx2)).2 z))
end
