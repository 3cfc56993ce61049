/-! ===== the law from its entry (written by wip/whole/gen/p58.py) ===== -/
theorem klv_RL_9 : sk_LV RL 9 yX6_init := Or.inl (sk_tin 15 (by decide +kernel) rfl)
theorem klv_RL_12 : sk_LV RL 12 yX7_init := Or.inl (sk_tin 722 (by decide +kernel) rfl)
theorem knw_RL_7 : kNw RL 7 6 7 [.null, .null, .int 0, .null, .null, .null, .null] := ⟨RX6, TX6, tyX6, rfl, sk_fw6, tyX6_ok, sk_tin 13 (by decide +kernel) rfl, sk_tin 14 (by decide +kernel) rfl, sk_tin 1 (by decide +kernel) rfl, fun j hj => by rcases (show j = 0 ∨ j = 1 ∨ j = 2 ∨ j = 3 ∨ j = 4 ∨ j = 5 ∨ j = 6 by omega) with rfl | rfl | rfl | rfl | rfl | rfl | rfl <;> rfl⟩
theorem knw_RL_10 : kNw RL 10 7 20 [.null, .null, .int 0, .null, .int 0, .int 0, .int 0, .int 0, .null, .null, .null, .null, .int 0, .null, .int 0, .int 0, .null, .null, .null, .null] := ⟨RX7, TX7, tyX7, rfl, sk_fw7, tyX7_ok, sk_tin 720 (by decide +kernel) rfl, sk_tin 721 (by decide +kernel) rfl, sk_tin 8 (by decide +kernel) rfl, fun j hj => by rcases (show j = 0 ∨ j = 1 ∨ j = 2 ∨ j = 3 ∨ j = 4 ∨ j = 5 ∨ j = 6 ∨ j = 7 ∨ j = 8 ∨ j = 9 ∨ j = 10 ∨ j = 11 ∨ j = 12 ∨ j = 13 ∨ j = 14 ∨ j = 15 ∨ j = 16 ∨ j = 17 ∨ j = 18 ∨ j = 19 by omega) with rfl | rfl | rfl | rfl | rfl | rfl | rfl | rfl | rfl | rfl | rfl | rfl | rfl | rfl | rfl | rfl | rfl | rfl | rfl | rfl <;> rfl⟩
theorem lw_tin {w : Cond} (i : Nat) (h : tables_1[i]? = some w) : w ∈ lw_tbl := List.mem_append_right _ (List.mem_of_getElem? h)
theorem ro_above {b : Nat} {s : State} (hg : (Jvm.Cond.and given_1 narrow_1).before #[Value.ref b] s = true) (hts : ∀ w ∈ lw_tbl, w.before #[Value.ref b] s = true) : ∃ t : Nat, va_Z "SlateKin$Tile" "ABOVE" "[I" (.ref t) (fun q : Nat => s.heap.size ≤ q) s s.heap ∧ va_T .int t 7 (fun j => .int (sk_above j)) (fun q : Nat => s.heap.size ≤ q) s s.heap := by
  have hs := flat_of_before _ hg
  have hA : ∀ a : Nat, a < s.heap.size → ¬ (fun q : Nat => s.heap.size ≤ q) a := fun a h => Nat.not_le.mpr h
  have hel : ∀ j : Nat, j < 7 → (Term.elem (.static "SlateKin$Tile" "ABOVE" "[I") (.int (Int32.ofNat j))).eval #[Value.ref b] s none [] s = some (.int (sk_above j)) := by
    have hm : ∀ j : Nat, j < 7 → Cond.eq (.elem (.static "SlateKin$Tile" "ABOVE" "[I") (.int (Int32.ofNat j))) (.int (sk_above j)) ∈ flatC (Jvm.Cond.and given_1 narrow_1) := by decide +kernel
    exact fun j hj => va_eqt (hs _ (hm j hj))
  obtain ⟨t, ht, hT⟩ := va_Tof (N := 7) (f := fun j => .int (sk_above j)) (tm := .static "SlateKin$Tile" "ABOVE" "[I") (ty := .int) (by decide) (hs _ (by decide +kernel)) (va_eqt (hs (Cond.eq (.length (.static "SlateKin$Tile" "ABOVE" "[I")) (.int (Int32.ofNat 7))) (by decide +kernel))) hel hA
  exact ⟨t, va_Zref (hts _ (lw_tin 330 (by decide +kernel))) (hts _ (lw_tin 3 (by decide +kernel))) ht hA, hT⟩
theorem ro_names {b : Nat} {s : State} (hg : (Jvm.Cond.and given_1 narrow_1).before #[Value.ref b] s = true) (hts : ∀ w ∈ lw_tbl, w.before #[Value.ref b] s = true) : ∃ t : Nat, va_Z "SlateKin$Reader" "NAMES" "[C" (.ref t) (fun q : Nat => s.heap.size ≤ q) s s.heap ∧ va_T .char t 6 (fun j => .int (sk_names j)) (fun q : Nat => s.heap.size ≤ q) s s.heap := by
  have hs := flat_of_before _ hg
  have hA : ∀ a : Nat, a < s.heap.size → ¬ (fun q : Nat => s.heap.size ≤ q) a := fun a h => Nat.not_le.mpr h
  have hel : ∀ j : Nat, j < 6 → (Term.elem (.static "SlateKin$Reader" "NAMES" "[C") (.int (Int32.ofNat j))).eval #[Value.ref b] s none [] s = some (.int (sk_names j)) := by
    have hm : ∀ j : Nat, j < 6 → Cond.eq (.elem (.static "SlateKin$Reader" "NAMES" "[C") (.int (Int32.ofNat j))) (.int (sk_names j)) ∈ flatC (Jvm.Cond.and given_1 narrow_1) := by decide +kernel
    exact fun j hj => va_eqt (hs _ (hm j hj))
  obtain ⟨t, ht, hT⟩ := va_Tof (N := 6) (f := fun j => .int (sk_names j)) (tm := .static "SlateKin$Reader" "NAMES" "[C") (ty := .char) (by decide) (hs _ (by decide +kernel)) (va_eqt (hs (Cond.eq (.length (.static "SlateKin$Reader" "NAMES" "[C")) (.int (Int32.ofNat 6))) (by decide +kernel))) hel hA
  exact ⟨t, va_Zref (hts _ (lw_tin 450 (by decide +kernel))) (hts _ (lw_tin 5 (by decide +kernel))) ht hA, hT⟩
theorem ro_bodies {b : Nat} {s : State} (hg : (Jvm.Cond.and given_1 narrow_1).before #[Value.ref b] s = true) (hts : ∀ w ∈ lw_tbl, w.before #[Value.ref b] s = true) : ∃ t : Nat, va_Z "SlateKin$Choir" "BODIES" "[I" (.ref t) (fun q : Nat => s.heap.size ≤ q) s s.heap ∧ va_T .int t 28 (fun j => .int (sk_bodies j)) (fun q : Nat => s.heap.size ≤ q) s s.heap := by
  have hs := flat_of_before _ hg
  have hA : ∀ a : Nat, a < s.heap.size → ¬ (fun q : Nat => s.heap.size ≤ q) a := fun a h => Nat.not_le.mpr h
  have hel : ∀ j : Nat, j < 28 → (Term.elem (.static "SlateKin$Choir" "BODIES" "[I") (.int (Int32.ofNat j))).eval #[Value.ref b] s none [] s = some (.int (sk_bodies j)) := by
    have hm : ∀ j : Nat, j < 28 → Cond.eq (.elem (.static "SlateKin$Choir" "BODIES" "[I") (.int (Int32.ofNat j))) (.int (sk_bodies j)) ∈ flatC (Jvm.Cond.and given_1 narrow_1) := by decide +kernel
    exact fun j hj => va_eqt (hs _ (hm j hj))
  obtain ⟨t, ht, hT⟩ := va_Tof (N := 28) (f := fun j => .int (sk_bodies j)) (tm := .static "SlateKin$Choir" "BODIES" "[I") (ty := .int) (by decide) (hs _ (by decide +kernel)) (va_eqt (hs (Cond.eq (.length (.static "SlateKin$Choir" "BODIES" "[I")) (.int (Int32.ofNat 28))) (by decide +kernel))) hel hA
  exact ⟨t, va_Zref (hts _ (lw_tin 632 (by decide +kernel))) (hts _ (lw_tin 6 (by decide +kernel))) ht hA, hT⟩
theorem lw_arr {b : Nat} {s : State} (hts : ∀ w ∈ lw_tbl, w.before #[Value.ref b] s = true) : ∃ cA : Nat → ClassId, ∀ (k : Nat) (q : ClassId × FieldType), (sk_tys cA)[k]? = some q → ArrOfT s q.1 q.2 ∧ va_RA s q.1 q.2 := by
  have hq : ∀ C : String, (Cond.arrayOver (.object C)).before #[Value.ref b] s = true → ∃ c : ClassId, ArrOfT s c (.object C) ∧ va_RA s c (.object C) := by
    intro C h
    obtain ⟨comp, c, k, h1, h2, h3, h4, h5⟩ := Cond.arrayOver_spec h
    exact ⟨c, fun N z => ⟨(fun k h => by cases h), k, h3, comp, h4⟩, k, comp, h3, h4, h1, h5⟩
  obtain ⟨c0, k0, p0, a1, a2, a3⟩ := Cond.arrayClass_spec (hts (.arrayClass .int) (lw_tin 72 (by decide +kernel)))
  obtain ⟨c1, k1, p1, b1, b2, b3⟩ := Cond.arrayClass_spec (hts (.arrayClass .byte) (lw_tin 71 (by decide +kernel)))
  obtain ⟨c2, d1, d2⟩ := hq "SlateKin$Tile" (hts _ (lw_tin 28 (by decide +kernel)))
  obtain ⟨c3, e1, e2⟩ := hq "SlateKin$Law" (hts _ (lw_tin 30 (by decide +kernel)))
  obtain ⟨c4, f1, f2⟩ := hq "SlateKin$Sheet" (hts _ (lw_tin 196 (by decide +kernel)))
  refine ⟨fun k => ([c0, c1, c2, c3, c4] : List ClassId).getD k c0, fun k q h => ?_⟩
  match k, h with
  | 0, h => cases h; exact ⟨fun N z => ⟨(fun k h => by cases h), k0, a2, p0, a3⟩, a1⟩
  | 1, h => cases h; exact ⟨fun N z => ⟨(fun k h => by cases h), k1, b2, p1, b3⟩, b1⟩
  | 2, h => cases h; exact ⟨d1, d2⟩
  | 3, h => cases h; exact ⟨e1, e2⟩
  | 4, h => cases h; exact ⟨f1, f2⟩
  | k + 5, h => simp [sk_tys] at h
theorem lw_cls {b : Nat} {s : State} (hts : ∀ w ∈ sk_ALL, w.before #[Value.ref b] s = true) : ∃ D : va_G, ∀ (k : Nat) (q : vw_C), vwCl[k]? = some q → u_Kn s q.1 q.2.1 q.2.2 (D.1 k) (D.2 k) := by
  obtain ⟨c0, i0, h0⟩ := u_known (C := RX0) (T := TX0) (N := 6) (n := 6) hts sk_fw0 (hts (.instantiable RX0 6) (sk_tin 168 (by decide +kernel) rfl))
  obtain ⟨c1, i1, h1⟩ := u_known (C := RX1) (T := TX1) (N := 5) (n := 5) hts sk_fw1 (hts (.instantiable RX1 5) (sk_tin 73 (by decide +kernel) rfl))
  obtain ⟨c2, i2, h2⟩ := u_known (C := RX2) (T := TX2) (N := 6) (n := 6) hts sk_fw2 (hts (.instantiable RX2 6) (sk_tin 141 (by decide +kernel) rfl))
  obtain ⟨c3, i3, h3⟩ := u_known (C := RX3) (T := TX3) (N := 11) (n := 11) hts sk_fw3 (hts (.instantiable RX3 11) (sk_tin 22 (by decide +kernel) rfl))
  obtain ⟨c4, i4, h4⟩ := u_known (C := RX4) (T := TX4) (N := 3) (n := 3) hts sk_fw4 (hts (.instantiable RX4 3) (sk_tin 197 (by decide +kernel) rfl))
  obtain ⟨c5, i5, h5⟩ := u_known (C := RX5) (T := TX5) (N := 7) (n := 7) hts sk_fw5 (hts (.instantiable RX5 7) (sk_tin 31 (by decide +kernel) rfl))
  obtain ⟨c6, i6, h6⟩ := u_known (C := RX6) (T := TX6) (N := 7) (n := 7) hts sk_fw6 (hts (.instantiable RX6 7) (sk_tin 14 (by decide +kernel) rfl))
  obtain ⟨c7, i7, h7⟩ := u_known (C := RX7) (T := TX7) (N := 20) (n := 20) hts sk_fw7 (hts (.instantiable RX7 20) (sk_tin 721 (by decide +kernel) rfl))
  refine ⟨(fun k => ([c0, c1, c2, c3, c4, c5, c6, c7] : List ClassId).getD k c0, fun k => ([i0, i1, i2, i3, i4, i5, i6, i7] : List (Nat → Nat)).getD k i0), fun k q h => ?_⟩
  match k, h with
  | 0, h => cases h; exact h0
  | 1, h => cases h; exact h1
  | 2, h => cases h; exact h2
  | 3, h => cases h; exact h3
  | 4, h => cases h; exact h4
  | 5, h => cases h; exact h5
  | 6, h => cases h; exact h6
  | 7, h => cases h; exact h7
  | k + 8, h => simp [vwCl] at h
theorem lw_fresh {s : State} {H : Heap} {locs : List Loc} {D : va_G} {cA : Nat → ClassId} {ad1 ad2 : Nat → Nat} {τ σ : sk_T} (hP : va_P D vwCl (sk_wl sk_Sc ad1 cA τ ++ sk_wl sk_Sm ad2 cA σ) H) (hK : va_K D vwCl (sk_tys cA) s) (hD : va_D (fun q : Nat => s.heap.size ≤ q) (sk_wl sk_Sc ad1 cA τ ++ sk_wl sk_Sm ad2 cA σ)) (hS : va_S (fun q : Nat => s.heap.size ≤ q) s.heap H locs) (hR1 : sk_Ro ad1 (fun q : Nat => s.heap.size ≤ q) s s.heap) (hR2 : sk_Ro ad2 (fun q : Nat => s.heap.size ≤ q) s s.heap) (hN : sk_NW s) : lwS s H locs D cA ad1 ad2 τ σ := by
  have hl : ∀ (S : List sk_Sh) (ad : Nat → Nat) (τ : sk_T), (sk_wl S ad cA τ).length = S.length := fun S ad τ => by unfold sk_wl; rw [List.length_mapIdx]
  have hg : ∀ (S : List sk_Sh) (ad : Nat → Nat) (τ : sk_T) (k : Nat) (q : Nat × va_E), (sk_wl S ad cA τ)[k]? = some q → k < S.length ∧ q.1 = ad k := by
    intro S ad τ k q h
    unfold sk_wl at h
    rw [List.getElem?_mapIdx] at h
    cases hs : S[k]? with
    | none => rw [hs] at h; cases h
    | some v =>
      rw [hs] at h
      cases h
      exact ⟨(List.getElem?_eq_some_iff.mp hs).1, rfl⟩
  have hat : ∀ (S : List sk_Sh) (ad : Nat → Nat) (τ : sk_T) (k : Nat), k < S.length → ∃ e, (sk_wl S ad cA τ)[k]? = some (ad k, e) := fun S ad τ k hk => ⟨_, sk_wl_at (List.getElem?_eq_getElem hk)⟩
  have h1 : ∀ (k : Nat) (q : Nat × va_E), (sk_wl sk_Sc ad1 cA τ)[k]? = some q → (sk_wl sk_Sc ad1 cA τ ++ sk_wl sk_Sm ad2 cA σ)[k]? = some q := fun k q h => by
    rw [List.getElem?_append_left (by rw [hl]; exact (hg _ _ _ _ _ h).1)]; exact h
  have h2 : ∀ (k : Nat) (q : Nat × va_E), (sk_wl sk_Sm ad2 cA σ)[k]? = some q → (sk_wl sk_Sc ad1 cA τ ++ sk_wl sk_Sm ad2 cA σ)[sk_Sc.length + k]? = some q := fun k q h => by
    rw [List.getElem?_append_right (by rw [hl]; omega), hl, Nat.add_sub_cancel_left]; exact h
  refine ⟨fun k q h => hP k q (h1 k q h), fun k q h => hP _ q (h2 k q h), hK, ⟨fun i j p q hi hj e => hD.1 i j p q (h1 i p hi) (h1 j q hj) e, fun k q h => ⟨k, (hg _ _ _ _ _ h).1, (hg _ _ _ _ _ h).2⟩⟩, ⟨fun i j p q hi hj e => ?_, fun k q h => ⟨k, (hg _ _ _ _ _ h).1, (hg _ _ _ _ _ h).2⟩⟩, ?_, ?_, hS, hR1, hR2, hN⟩
  · have := hD.1 _ _ p q (h2 i p hi) (h2 j q hj) e
    omega
  · rintro q ⟨k, hk, rfl⟩
    obtain ⟨e, he⟩ := hat sk_Sc ad1 τ k hk
    refine ⟨hD.2 k _ (h1 k _ he), ?_⟩
    rintro ⟨j, hj, hjk⟩
    obtain ⟨e', he'⟩ := hat sk_Sm ad2 σ j hj
    have := hD.1 _ _ _ _ (h1 k _ he) (h2 j _ he') hjk
    omega
  · rintro q ⟨k, hk, rfl⟩
    obtain ⟨e, he⟩ := hat sk_Sm ad2 σ k hk
    exact hD.2 _ _ (h2 k _ he)
set_option maxHeartbeats 4000000 in
set_option maxRecDepth 100000 in
/-- THE LAW, from its entry -/
theorem whole_start {p : Program} {e : Env} {s : State} {m : MethodId} {below : List Frame} {meth : Method} {c : Code} (l : Launch) (hflags : l.flags = flags0) {b L : Nat} {xs : Nat → Int32} (hL : L ≤ 3072) (C0 : lw_At p s m meth c b L xs) : W p l e room_1 s m #[Value.ref b] below meth c s.heap [] 0 0 (lw_Z below #[Value.ref b] s) (entryFrame m ([Value.ref b] : List Value).toArray 4) := by
  obtain ⟨hx, hb, hr, hml, hown, hts0, hX, hbl, hlocks, hgv⟩ := id C0
  have hts : ∀ w ∈ sk_ALL, w.before #[Value.ref b] s = true := fun w hw => hts0 w (sk_in_tbl w hw)
  obtain ⟨D, hKc⟩ := lw_cls hts
  obtain ⟨cA, hKa⟩ := lw_arr hts0
  obtain ⟨x, hZx, hTx⟩ := ro_above hgv hts0
  obtain ⟨y, hZy, hTy⟩ := ro_names hgv hts0
  obtain ⟨z, hZz, hTz⟩ := ro_bodies hgv hts0
  have hN : sk_NW s := sk_NW.of (args := #[Value.ref b]) (fun w hw => hts0 w (List.mem_append_right _ hw))
  have hO : kAO s := ⟨va_AO.of (hts0 _ (lw_tin 28 (by decide +kernel))), va_AO.of (hts0 _ (lw_tin 30 (by decide +kernel))), va_AO.of (hts0 _ (lw_tin 196 (by decide +kernel)))⟩
  have hK : va_K D vwCl (sk_tys cA) s := ⟨hKc, hKa⟩
  have X : kB RL cL_law 4 D cA (fun q : Nat => s.heap.size ≤ q) p s m #[Value.ref b] c s.heap [] [] := ⟨⟨hx, hb, hml, hown, hts⟩, fun k q h => by simp at h, hK, ⟨fun i j p q h => by simp at h, fun k q h => by simp at h⟩, va_S.rf, fun _ h => h, hN, hO⟩
  have hl := lv_entry ([.ref b]) (n := 4) (Nat.le_of_ble_eq_true rfl)
  rw [lg_entry_eq]
  generalize (lg_sl ([.ref b]) ++ List.replicate (4 - (lg_sl ([.ref b])).length) Slot.unset).toArray = ls at hl ⊢
  have hl : lv_has ls 4 [(0, .ref b)] := hl
  refine k_new X dL_law_0 knw_RL_7 1 7 rfl rfl ⟨Nat.le_of_ble_eq_true rfl, Nat.le_of_ble_eq_true rfl⟩ (fun h0 H X => ?_)
  refine lv_dup hx hb dL_law_3 rfl ?_
  refine k_call (vs := []) (q := h0) (wr := []) X dL_law_4 (coX6 D cA) mfiX6 rfl miiX6 klv_RL_9 rfl rfl rfl (Nat.le_of_ble_eq_true rfl) ⟨Nat.le_of_ble_eq_true rfl, Nat.le_of_ble_eq_true rfl⟩ hl.1 0 [] rfl rfl rfl rfl 58 1142 rfl rfl ⟨Nat.le_of_ble_eq_true rfl, Nat.le_of_ble_eq_true rfl⟩ (fun u H locs X => ?_)
  refine lv_astore_n (lv' := [(1, .ref h0), (0, .ref b)]) hx hb dL_law_7 rfl hl (by decide) rfl (fun ls hl => ?_)
  refine k_new X dL_law_8 knw_RL_10 59 1162 rfl rfl ⟨Nat.le_of_ble_eq_true rfl, Nat.le_of_ble_eq_true rfl⟩ (fun h1 H X => ?_)
  refine lv_dup hx hb dL_law_11 rfl ?_
  refine k_call (vs := []) (q := h1) (wr := poX6 cA h0 u) X dL_law_12 (coX7 D cA) mfiX7 rfl miiX7 klv_RL_12 rfl rfl rfl (Nat.le_of_ble_eq_true rfl) ⟨Nat.le_of_ble_eq_true rfl, Nat.le_of_ble_eq_true rfl⟩ hl.1 58 [0, 1, 2, 3, 4, 5, 6, 7, 8, 9, 10, 11, 12, 13, 14, 15, 16, 17, 18, 19, 20, 21, 22, 23, 24, 25, 26, 27, 28, 29, 30, 31, 32, 33, 34, 35, 36, 37, 38, 39, 40, 41, 42, 43, 44, 45, 46, 47, 48, 49, 50, 51, 52, 53, 54, 55, 56, 57] rfl rfl rfl rfl 71 2477 rfl rfl ⟨Nat.le_of_ble_eq_true rfl, Nat.le_of_ble_eq_true rfl⟩ (fun v H locs X => ?_)
  refine lv_astore_n (lv' := [(2, .ref h1), (1, .ref h0), (0, .ref b)]) hx hb dL_law_15 rfl hl (by decide) rfl (fun ls hl => ?_)
  refine lv_iconst (v := 0) hx hb dL_law_16 (by decide) ?_
  refine lv_istore_n (lv' := [(3, .int 0), (2, .ref h1), (1, .ref h0), (0, .ref b)]) hx hb dL_law_17 rfl hl (by decide) rfl (fun ls hl => ?_)
  obtain ⟨-, hP, -, hD, hS, -, -, -⟩ := X
  have hP2 := hP.sub plc (plc_f cA h0 h1 u v)
  have hD2 := hD.sub plc plc_n (plc_m cA h0 h1 u v)
  rw [← nar0, ← wlC_eq cA h0 u x y z, ← wlM_eq cA h1 v x y z] at hP2 hD2
  have hl : lv_has ls 4 [(3, .int (nI 0)), (2, .ref (adF (lsM h1 v) x y z 0)), (1, .ref (adF (lsC h0 u) x y z 0)), (0, .ref b)] := by rw [nI_0]; exact hl
  exact lw_loop hL ⟨Nat.le_of_ble_eq_true rfl, Nat.le_of_ble_eq_true rfl⟩ C0 (L + 6) 0 (by omega) (by omega) t0 s0 H locs ls (lw_fresh hP2 hK hD2 hS ⟨⟨hZx, hTx⟩, ⟨hZy, hTy⟩, ⟨hZz, hTz⟩⟩ ⟨⟨hZx, hTx⟩, ⟨hZy, hTy⟩, ⟨hZz, hTz⟩⟩ hN) R_first hl
