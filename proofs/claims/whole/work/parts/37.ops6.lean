/-! ===== the operations: lay, loose, dry ===== -/
section
variable {d e : Nat} {τ σ : sk_T} {K : sk_K} {s : Nat → Int32} {n y k : Nat} {v v1 v2 v3 v4 : Int32} {l0 l1 : Option (List Tk)}
theorem jLay (hd : 20 < d) (he : 20 < e) (hR : R τ σ) : sk_C sk_Sc d mX6_lay [.ref 0, .int v1, .int v2, .int v3] τ (jK e mX7_lay [.ref 0, .int v1, .int v2, .int v3] σ) := by
  obtain ⟨n, l0, l1, hN⟩ := hR.1
  have hn := hN.1.1
  have h6 : σ 1 6 = nI n := hN.s.2.1
  have h11 : τ 1 1 = nI n := hN.t.n0
  by_cases hs : ∃ c, c < n ∧ v1 = nI c
  rotate_left
  · exact wX6_lay (by omega) (cSl_f h11 hn hs (ex_i (br_t rfl (cE 1 (by omega) (wX7_lay (by omega) (mSl_f h6 hn (by omega) hs (ex_i (br_t rfl (mE 1 (by omega) hR)))))))))
  obtain ⟨k, hk, rfl⟩ := hs
  have vk := vp_in_nI (show k < 10 by omega) (by omega)
  have hc := nI_clamp (show k < 2 ^ 31 by omega)
  have ho : ∀ {x : Int32} {N : Nat}, N < 2 ^ 31 → (¬ ∃ c, c < N ∧ x = nI c) → (x < 0 ∨ nI N ≤ x) := fun {x N} hN2 hx => by
    rcases ix_cases x N hN2 with h | h
    · exact absurd h hx
    · exact h.1
  by_cases hb : ∃ c, c < 6 ∧ v2 = nI c
  rotate_left
  · exact wX6_lay (by omega) (cSl_t h11 hn hk (ex_i (br_f i1_0 (or2_f (c2 := 6 ≤ v2) (ho (N := 6) (by omega) hb) (cE 1 (by omega) (wX7_lay (by omega) (mSl_t h6 hn (by omega) hk (ex_i (br_f i1_0 (mIn_f (N := 5) (by omega) hb (ex_i (br_t rfl (mE 1 (by omega) hR)))))))))))))
  obtain ⟨r, hr, rfl⟩ := hb
  have g1 : ¬ nI r < 0 := nI_pos (by omega)
  have g2 : ¬ 6 ≤ nI r := fun z => absurd ((nI_leI (a := 6) (by omega) (by omega)).mp z) (by omega)
  by_cases hq : ∃ c, c < 8 ∧ v3 = nI c
  rotate_left
  · have ho2 : v3 < 0 ∨ ¬ v3 < 8 := (ho (N := 8) (by omega) hq).elim Or.inl (fun z => Or.inr (Int32.not_lt.mpr z))
    exact wX6_lay (by omega) (cSl_t h11 hn hk (ex_i (br_f i1_0 (or2_t g1 g2 (on2_f ho2 (cE 1 (by omega) (wX7_lay (by omega) (mSl_t h6 hn (by omega) hk (ex_i (br_f i1_0 (mIn_t (N := 5) (by omega) hr (ex_i (br_f i1_0 (mIn_f (N := 7) (by omega) hq (ex_i (ns_f rfl (mE 1 (by omega) hR)))))))))))))))))
  obtain ⟨p, hp, rfl⟩ := hq
  have ec : nI r * 8 + nI p = nI (8 * r + p) := by rw [show (8 : Int32) = nI 8 from rfl, pk_mul, nI_add, Nat.mul_comm]
  have ec2 : 8 * nI r + nI p = nI (8 * r + p) := by rw [show (8 : Int32) = nI 8 from rfl, pk_mul, nI_add]
  have h48 : 8 * r + p < 48 := by omega
  refine wX6_lay (by omega) (cSl_t h11 hn hk (ex_i (br_f i1_0 (or2_t g1 g2 (on2_t (nI_pos (by omega)) ((nI_ltI (b := 8) (by omega) (by omega)).mpr hp) ?_)))))
  rw [ec]
  have ref : ∀ {K2 : sk_K}, (mayF (σ 1) n k (nI (8 * r + p)) = true → sk_C sk_Sm (e - 1) mX7_lays1 [.ref 0, .int (nI k), .int 6, .int (nI (8 * r + p))] σ (fun w t63 => w = none ∧ sk_C sk_Sm (e - 1) mX7_drySet [.ref 0] t63 (fun w t67 => ∃ r67 : Int64, w = some (.long r67) ∧ sk_C sk_Sm (e - 1) mX7_bitsOf [.long r67] t67 (fun w t70 => ∃ r70 : Int32, w = some (.int r70) ∧ K2 (some (.int r70)) t70)))) →
      (mayF (σ 1) n k (nI (8 * r + p)) = false → sk_C sk_Sm (e - 1) mX7_error [.ref 0, .int 3] σ (fun w t53 => ∃ r53 : Int32, w = some (.int r53) ∧ K2 (some (.int r53)) t53)) →
      sk_C sk_Sm e mX7_lay [.ref 0, .int (nI k), .int (nI r), .int (nI p)] σ K2 := fun {K2} hy hn2 => by
    refine wX7_lay (by omega) (mSl_t h6 hn (by omega) hk (ex_i (br_f i1_0 (mIn_t (N := 5) (by omega) hr (ex_i (br_f i1_0 (mIn_t (N := 7) (by omega) hp (ex_i (ns_t i1_0 ?_)))))))))
    rw [ec2]
    refine pX7_mayLie hk h48 hN.s (by omega) (ex_i ?_)
    cases hm : mayF (σ 1) n k (nI (8 * r + p)) with
    | true => exact ns_t i1_0 (hy hm)
    | false => exact ns_f rfl (hn2 hm)
  refine pX3_mayLie hk h48 hN.t (by omega) (ex_i ?_)
  cases hm : mayF (σ 1) n k (nI (8 * r + p)) with
  | false => exact ns_f rfl (cE 3 (by omega) (ref (fun z => absurd (hm.symm.trans z) (by decide)) (fun _ => mE 3 (by omega) hR)))
  | true =>
    refine ns_t i1_0 ⟨vk, ?_⟩
    rw [hc]
    have h2 := hN.lay hk h48
    refine pX3_dryBut h2.t (by omega) (ex_l (pJ13_bitCount (ex_i ⟨_, rfl, ref (fun _ => ?_) (fun z => absurd (hm.symm.trans z) (by decide))⟩)))
    refine pX7_lays1 6 (by omega) (by omega) ⟨rfl, pX7_drySet (n := n) ?_ (by omega) (ex_l (pX7_bitsOf (ex_i ⟨?_, ?_⟩)))⟩
    · rw [mv_u]; exact h2.s
    · rw [mv_u, dry0]
    · exact hR.now (frC.u (by omega)) frM.u (by rw [mv_u]; exact h2)
/-! years by draws -/
def loI (s : Nat → Int32) (n : Nat) (l0 l1 : Option (List Tk)) : Nat → Nat → Int32
  | 0 => s
  | i + 1 => loS (loI s n l0 l1 i) n l0 l1
def loO (s : Nat → Int32) (n : Nat) (l0 l1 : Option (List Tk)) : Nat → Int32
  | 0 => 0
  | i + 1 => loO s n l0 l1 i ||| loV (loI s n l0 l1 i) n l0
theorem loS_0 : loS s n l0 l1 0 = s 0 + 1 := by
  have h1 : yrS (loL (loG s n l0) n) n l1 0 = loL (loG s n l0) n 0 + 1 := by
    unfold yrS
    exact upd_s
  show yrS (loL (loG s n l0) n) n l1 0 = _
  rw [h1, loL_0, loG_lo (by omega), dw_0]
theorem loI_0 (hy : s 0 = nI y) : ∀ i, loI s n l0 l1 i 0 = nI (y + i)
  | 0 => hy
  | i + 1 => by
    show loS (loI s n l0 l1 i) n l0 l1 0 = _
    rw [loS_0, loI_0 hy i, nI_1]; rfl
theorem lX6_loose (hd : 7 < d) (hy : s 0 = nI y) (hk : y + k ≤ 9999) (h : ∀ τ2, frC τ τ2 → RN τ2 (loI s n l0 l1 k) n l0 l1 → (∀ j, j ≤ k → RP (loI s n l0 l1 j) n l0 l1) → K (some (.int (loO s n l0 l1 k))) τ2) : ∀ m i, i + m = k → ∀ τ2, frC τ τ2 → RN τ2 (loI s n l0 l1 i) n l0 l1 → (∀ j, j ≤ i → RP (loI s n l0 l1 j) n l0 l1) →
    sk_G sk_Sc d mX6_loose 42 [(0, .ref 0), (1, .int (nI k)), (2, .int (loO s n l0 l1 i)), (3, .int (nI i))] [] τ2 K := by
  intro m
  induction m with
  | zero =>
    intro i hi τ2 hf hN hP
    obtain rfl : i = k := hi
    exact bX6_loose_42 (by omega) (br_t (Int32.le_refl _) (h τ2 hf hN hP))
  | succ m ih =>
    intro i hi τ2 hf hN hP
    refine bX6_loose_42 (by omega) (br_f (fun z => absurd ((nI_leI (by omega) (by omega)).mp z) (by omega)) (pX3_yearByDraws (by omega) hN (loI_0 hy i) (by omega) (fun τ3 f3 N3 => ex_i ?_)))
    rw [nI_1]
    refine ih (i + 1) (by omega) τ3 (hf.tr f3) N3 (fun j hj => ?_)
    by_cases hq : j ≤ i
    · exact hP j hq
    · obtain rfl : j = i + 1 := by omega
      exact N3.p
theorem lX7_looseI (he : 7 < e) (hy : σ 1 0 = nI y) (hk : y + k ≤ 9999) (hP : ∀ j, j ≤ k → RP (loI (σ 1) n l0 l1 j) n l0 l1) (h : ∀ σ2, frM σ σ2 → σ2 1 = loI (σ 1) n l0 l1 k → K (some (.int (loO (σ 1) n l0 l1 k))) σ2) : ∀ m i, i + m = k → ∀ σ2, frM σ σ2 → σ2 1 = loI (σ 1) n l0 l1 i →
    sk_G sk_Sm e mX7_loose 23 [(0, .ref 0), (1, .int (nI k)), (3, .int (loO (σ 1) n l0 l1 i)), (4, .int (nI i))] [] σ2 K := by
  intro m
  induction m with
  | zero =>
    intro i hi σ2 hf h1
    obtain rfl : i = k := hi
    exact bX7_loose_23 (by omega) (br_t (Int32.le_refl _) (h σ2 hf h1))
  | succ m ih =>
    intro i hi σ2 hf h1
    refine pX7_loose (n := n) (l0 := l0) (l1 := l1) (y := y + i) (by omega) (by rw [h1]; exact hP i (by omega)) (by rw [h1]; exact loI_0 hy i) (by omega) (fun z => absurd ((nI_leI (by omega) (by omega)).mp z) (by omega)) (fun σ3 f3 e3 => ?_)
    rw [nI_1, h1]
    refine ih (i + 1) (by omega) σ3 (hf.tr f3) ?_
    rw [e3, h1]; rfl
theorem jLoose (hd : 20 < d) (he : 20 < e) (hR : R τ σ) : sk_C sk_Sc d mX6_loose [.ref 0, .int v1] τ (jK e mX7_loose [.ref 0, .int v1] σ) := by
  obtain ⟨n, l0, l1, hN⟩ := hR.1
  obtain ⟨y, hy9, ey, ey2⟩ := hN.1.2.2.2.1
  by_cases h1 : v1 < 1
  · exact wX6_loose (by omega) (br_t h1 (cE 1 (by omega) (wX7_loose (by omega) (wX7_whyNot (by omega) (wX7_in (br_t h1 (ex_i (ns_f rfl (ex_i (br_f (by decide) (mE 1 (by omega) hR)))))))))))
  · by_cases h2 : v1 ≤ 20
    · obtain ⟨k, hk1, hk, rfl⟩ := rg_1 20 (by omega) h1 h2
      by_cases h3 : τ 1 2 + nI k ≤ 9999
      · have h4 : σ 1 0 + nI k ≤ 9999 := by rw [ey, ← ey2]; exact h3
        have hyk : y + k ≤ 9999 := by
          rw [ey2, nI_add] at h3
          exact (nI_leI (b := 9999) (by omega) (by omega)).mp h3
        have hP0 : ∀ j, j ≤ 0 → RP (loI (σ 1) n l0 l1 j) n l0 l1 := fun j hj => by
          obtain rfl : j = 0 := Nat.le_zero.mp hj
          exact hN.p
        have hfin : ∀ τ2, frC τ τ2 → RN τ2 (loI (σ 1) n l0 l1 k) n l0 l1 → (∀ j, j ≤ k → RP (loI (σ 1) n l0 l1 j) n l0 l1) → jK e mX7_loose [.ref 0, .int (nI k)] σ (some (.int (loO (σ 1) n l0 l1 k))) τ2 := fun τ2 f2 N2 P2 => by
          refine ⟨_, rfl, wX7_loose (by omega) (wX7_whyNot (by omega) (wX7_in (br_f h1 (br_f (Int32.not_lt.mpr h2) (ex_i (ns_t i1_0 (br_t h4 (ex_i (br_t rfl ?_)))))))))⟩
          have hend : ∀ σ2, frM σ σ2 → σ2 1 = loI (σ 1) n l0 l1 k → (some (Value.int (loO (σ 1) n l0 l1 k)) = some (Value.int (loO (σ 1) n l0 l1 k)) ∧ R τ2 σ2) := fun σ2 g2 e2 => ⟨rfl, hR.now f2 g2 (by rw [e2]; exact N2)⟩
          exact lX7_looseI (σ := σ) (n := n) (l0 := l0) (l1 := l1) (y := y) (k := k) (by omega) ey hyk P2 hend k 0 (by omega) σ frM.rf rfl
        exact wX6_loose (by omega) (br_f h1 (br_t h2 (br_t h3 (lX6_loose (τ := τ) (s := σ 1) (n := n) (l0 := l0) (l1 := l1) (y := y) (by omega) ey hyk hfin k 0 (by omega) τ frC.rf hN hP0))))
      · have h4 : ¬ σ 1 0 + nI k ≤ 9999 := by rw [ey, ← ey2]; exact h3
        exact wX6_loose (by omega) (br_f h1 (br_t h2 (br_f h3 (cE 3 (by omega) (wX7_loose (by omega) (wX7_whyNot (by omega) (wX7_in (br_f h1 (br_f (Int32.not_lt.mpr h2) (ex_i (ns_t i1_0 (br_f h4 (ex_i (br_f (by decide) (mE 3 (by omega) hR)))))))))))))))
    · exact wX6_loose (by omega) (br_f h1 (br_f h2 (cE 1 (by omega) (wX7_loose (by omega) (wX7_whyNot (by omega) (wX7_in (br_f h1 (br_t (Int32.not_le.mp h2) (ex_i (ns_f rfl (ex_i (br_f (by decide) (mE 1 (by omega) hR)))))))))))))
/-! dry -/
theorem cEL {M : sk_M} {args : List Value} {σ0 : sk_T} (j : Nat) (hj : j < 7) (h : sk_C sk_Sm e M args σ0 (fun w σ' => w = some (.long (Int32.toInt64 (-1000000000 - nI j))) ∧ R (sk_u τ 57 j (τ 57 j + 1)) σ')) : sk_C sk_Sc d mX6_error [.ref 0, .int (nI j)] τ (fun w t => ∃ r : Int32, w = some (.int r) ∧ jL e M args σ0 (some (.long (Int32.toInt64 r))) t) := by
  refine wX6_error ⟨vp_in_nI hj (by omega), vp_in_nI hj (by omega), ex_i ⟨_, rfl, ?_⟩⟩
  rw [nI_clamp (show j < 2 ^ 31 by omega)]
  exact h
theorem mEL (j : Nat) (hj : j < 7) (hR : R τ σ) : sk_C sk_Sm d mX7_error [.ref 0, .int (nI j)] σ (fun w t => ∃ r : Int32, w = some (.int r) ∧ (some (Value.long (Int32.toInt64 r)) = some (.long (Int32.toInt64 (-1000000000 - nI j))) ∧ R (sk_u τ 57 j (τ 57 j + 1)) t)) := by
  refine wX7_error ⟨vp_in_nI hj (by omega), vp_in_nI hj (by omega), ex_i ⟨rfl, ?_⟩⟩
  rw [nI_clamp (show j < 2 ^ 31 by omega)]
  exact hR.err hj
theorem jDry (hd : 20 < d) (he : 20 < e) (hR : R τ σ) : sk_C sk_Sc d mX6_dry [.ref 0, .int v1] τ (jL e mX7_dry [.ref 0, .int v1] σ) := by
  obtain ⟨n, l0, l1, hN⟩ := hR.1
  have hn := hN.1.1
  by_cases hb : ∃ c, c < 3 ∧ v1 = nI c
  rotate_left
  · have ho : v1 < 0 ∨ ¬ v1 ≤ 2 := by
      rcases ix_cases v1 3 (by omega) with h | ⟨h1 | h1, -⟩
      · exact absurd h hb
      · exact Or.inl h1
      · exact Or.inr (fun z => absurd (Int32.le_trans h1 z) (by decide))
    exact wX6_dry (by omega) (on2_f ho (cEL 1 (by omega) (wX7_dry (by omega) (mIn_f (N := 2) (by omega) hb (ex_i (ns_f rfl (mEL 1 (by omega) hR)))))))
  obtain ⟨b, hb, rfl⟩ := hb
  have h48 := dry_48 (g := fun _ => false) (fun k hk => hN.s.2.2 k hk) n (Nat.le_refl _)
  refine wX6_dry (by omega) (on2_t (nI_pos (by omega)) ((nI_leI (b := 2) (by omega) (by omega)).mpr (by omega)) (pX3_dryBut hN.t (by omega) (ex_l ?_)))
  rw [dry0]
  match b, hb with
  | 0, _ => exact ns_f rfl ⟨_, rfl, wX7_dry (by omega) (mIn_t (N := 2) (by omega) (k := 0) (by omega) (ex_i (ns_t i1_0 (pX7_drySet hN.s (by omega) (ex_l (br_f (by decide) (ns_f rfl ⟨rfl, hR⟩)))))))⟩
  | 1, _ => exact ns_t (by decide) (ns_f rfl (pJ13_bitCount (ex_i ⟨_, rfl, wX7_dry (by omega) (mIn_t (N := 2) (by omega) (k := 1) (by omega) (ex_i (ns_t i1_0 (pX7_drySet hN.s (by omega) (ex_l (br_f (by decide) (ns_t (by decide) (pX7_bitsOf (ex_i ⟨rfl, hR⟩)))))))))⟩)))
  | 2, _ =>
    have ref : ∀ {K2 : sk_K}, ((∀ j, j < 48 → btL (dryF (σ 1) (fun _ => false) n) j = true) → sk_C sk_Sm (e - 1) mX7_error [.ref 0, .int 2] σ (fun w t82 => ∃ r82 : Int32, w = some (.int r82) ∧ K2 (some (.long (Int32.toInt64 r82))) t82)) →
        (∀ t, t < 48 → btL (dryF (σ 1) (fun _ => false) n) t = false → (∀ j, j < t → btL (dryF (σ 1) (fun _ => false) n) j = true) → K2 (some (.long (Int32.toInt64 (nI t)))) σ) → sk_C sk_Sm e mX7_dry [.ref 0, .int (nI 2)] σ K2 := fun {K2} hN2 hS2 =>
      wX7_dry (by omega) (mIn_t (N := 2) (by omega) (k := 2) (by omega) (ex_i (ns_t i1_0 (pX7_drySet hN.s (by omega) (ex_l (br_t (by decide) (lX7_dry43 (by omega) hN2 hS2 48 0 rfl (fun j hj => absurd hj (by omega)))))))))
    refine ns_t (by decide) (ns_t (by decide) ⟨fun z => ?_, fun z => ?_⟩)
    · have hne : ¬ dryF (σ 1) (fun _ => false) n = 281474976710655 := fun y => z (lc_e.mpr y)
      rcases fz_or (fun j => btL (dryF (σ 1) (fun _ => false) n) j) 48 with h | ⟨t, ht, h1, h2⟩
      · exact absurd ((dry_full h48).mpr h) hne
      · refine cls_fz (by omega) ht h1 h2 (ex_i ⟨_, rfl, ref (fun h => absurd ((dry_full h48).mpr h) hne) (fun t2 h3 h4 h5 => ⟨?_, hR⟩)⟩)
        have : t2 = t := by
          rcases Nat.lt_trichotomy t2 t with q | q | q
          · exact absurd ((h2 t2 q).symm.trans h4) (by decide)
          · exact q
          · exact absurd ((h5 t q).symm.trans h1) (by decide)
        rw [this]
    · have hf := (dry_full h48).mp (lc_e.mp z)
      exact cEL 2 (by omega) (ref (fun _ => mEL 2 (by omega) hR) (fun t h3 h4 _ => absurd ((hf t h3).symm.trans h4) (by decide)))
end
