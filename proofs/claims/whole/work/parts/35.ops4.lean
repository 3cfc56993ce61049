/-! ===== the operations: told, years ===== -/
def yrI (s : Nat → Int32) (n : Nat) (l1 : Option (List Tk)) : Nat → Nat → Int32
  | 0 => s
  | i + 1 => yrS (yrI s n l1 i) n l1
theorem yrI_0 {s : Nat → Int32} {n y : Nat} {l1 : Option (List Tk)} (hy : s 0 = nI y) : ∀ i, yrI s n l1 i 0 = nI (y + i)
  | 0 => hy
  | i + 1 => by
    have h1 : yrS (yrI s n l1 i) n l1 0 = yrI s n l1 i 0 + 1 := by
      unfold yrS
      exact upd_s
    show yrS (yrI s n l1 i) n l1 0 = _
    rw [h1, yrI_0 hy i, nI_1]; rfl
theorem rg_1 {v : Int32} (N : Nat) (hN : N < 2 ^ 31) (h1 : ¬ v < 1) (h2 : v ≤ nI N) : ∃ j, 1 ≤ j ∧ j ≤ N ∧ v = nI j := by
  obtain ⟨j, hj, rfl⟩ := nI_of (x := v) (fun z => h1 (Int32.lt_trans z (by decide)))
  refine ⟨j, ?_, (nI_leI hj hN).mp h2, rfl⟩
  rcases Nat.eq_zero_or_pos j with z | z
  · subst z; exact absurd (show nI 0 < 1 by decide) h1
  · exact z
section
variable {d e : Nat} {τ σ : sk_T} {K : sk_K} {s : Nat → Int32} {n y k : Nat} {l0 l1 : Option (List Tk)} {v v1 v2 v3 : Int32}
theorem jTold (hd : 20 < d) (he : 20 < e) (hR : R τ σ) : sk_C sk_Sc d mX6_told [.ref 0, .int v1] τ (jK e mX7_told [.ref 0, .int v1] σ) := by
  by_cases h1 : v1 < 1
  · exact wX6_told (by omega) (br_t h1 (cE 1 (by omega) (wX7_told (by omega) (wX7_in (br_t h1 (ex_i (br_t rfl (mE 1 (by omega) hR))))))))
  · by_cases h2 : v1 ≤ 6
    · obtain ⟨j, hj1, hj, rfl⟩ := rg_1 6 (by omega) h1 h2
      have vj := vp_in_nI (show j < 7 by omega) (by omega)
      refine wX6_told (by omega) (br_f h1 (br_t h2 ⟨vj, _, rfl, wX7_told (by omega) (wX7_in (br_f h1 (br_f (Int32.not_lt.mpr h2) (ex_i (br_f i1_0 ⟨vj, ?_, hR⟩)))))⟩))
      rw [nI_clamp (show j < 2 ^ 31 by omega), hR.2.2.2.2.1 j (by omega)]
    · exact wX6_told (by omega) (br_f h1 (br_f h2 (cE 1 (by omega) (wX7_told (by omega) (wX7_in (br_f h1 (br_t (Int32.not_le.mp h2) (ex_i (br_t rfl (mE 1 (by omega) hR))))))))))
theorem lX6_years (hd : 5 < d) (hy : s 0 = nI y) (hk : y + k ≤ 9999) (h : ∀ τ2, frC τ τ2 → RN τ2 (yrI s n l1 k) n l0 l1 → (∀ j, j ≤ k → RP (yrI s n l1 j) n l0 l1) → K (some (.int (τ2 1 4))) τ2) : ∀ m i, i + m = k → ∀ τ2, frC τ τ2 → RN τ2 (yrI s n l1 i) n l0 l1 → (∀ j, j ≤ i → RP (yrI s n l1 j) n l0 l1) →
    sk_G sk_Sc d mX6_years 40 [(0, .ref 0), (1, .int (nI k)), (2, .int (nI i))] [] τ2 K := by
  intro m
  induction m with
  | zero =>
    intro i hi τ2 hf hN hP
    obtain rfl : i = k := hi
    exact bX6_years_40 (by omega) (br_t (Int32.le_refl _) (h τ2 hf hN hP))
  | succ m ih =>
    intro i hi τ2 hf hN hP
    refine bX6_years_40 (by omega) (br_f (fun z => absurd ((nI_leI (by omega) (by omega)).mp z) (by omega)) (pX3_passYear (by omega) hN (yrI_0 hy i) (by omega) (fun τ3 f3 N3 => ⟨rfl, ?_⟩)))
    rw [nI_1]
    refine ih (i + 1) (by omega) τ3 (hf.tr f3) N3 (fun j hj => ?_)
    by_cases hq : j ≤ i
    · exact hP j hq
    · obtain rfl : j = i + 1 := by omega
      exact N3.p
theorem lX7_years (he : 6 < e) (hy : σ 1 0 = nI y) (hk : y + k ≤ 9999) (hP : ∀ j, j ≤ k → RP (yrI (σ 1) n l1 j) n l0 l1) (h : ∀ σ2, frM σ σ2 → σ2 1 = yrI (σ 1) n l1 k → K (some (.int (σ2 1 2))) σ2) : ∀ m i, i + m = k → ∀ σ2, frM σ σ2 → σ2 1 = yrI (σ 1) n l1 i →
    sk_G sk_Sm e mX7_years 20 [(0, .ref 0), (1, .int (nI k)), (3, .int (nI i))] [] σ2 K := by
  intro m
  induction m with
  | zero =>
    intro i hi σ2 hf h1
    obtain rfl : i = k := hi
    exact bX7_years_20 (by omega) (br_t (Int32.le_refl _) (h σ2 hf h1))
  | succ m ih =>
    intro i hi σ2 hf h1
    refine bX7_years_20 (by omega) (br_f (fun z => absurd ((nI_leI (by omega) (by omega)).mp z) (by omega)) ?_)
    rw [nI_1]
    refine RP.year (n := n) (l0 := l0) (l1 := l1) (y := y + i) (by rw [h1]; exact hP i (by omega)) (by rw [h1]; exact yrI_0 hy i) (by omega) (by omega) (fun σ3 f3 e3 => ⟨rfl, ih (i + 1) (by omega) σ3 (hf.tr f3) ?_⟩)
    rw [e3, h1]; rfl
theorem jYears (hd : 20 < d) (he : 20 < e) (hR : R τ σ) : sk_C sk_Sc d mX6_years [.ref 0, .int v1] τ (jK e mX7_years [.ref 0, .int v1] σ) := by
  obtain ⟨n, l0, l1, hN⟩ := hR.1
  obtain ⟨y, hy9, ey, ey2⟩ := hN.1.2.2.2.1
  by_cases h1 : v1 < 1
  · exact wX6_years (by omega) (br_t h1 (cE 1 (by omega) (wX7_years (by omega) (wX7_whyNot (by omega) (wX7_in (br_t h1 (ex_i (ns_f rfl (ex_i (br_f (by decide) (mE 1 (by omega) hR)))))))))))
  · by_cases h2 : v1 ≤ 60
    · obtain ⟨k, hk1, hk, rfl⟩ := rg_1 60 (by omega) h1 h2
      by_cases h3 : τ 1 2 + nI k ≤ 9999
      · have h4 : σ 1 0 + nI k ≤ 9999 := by rw [ey, ← ey2]; exact h3
        have hyk : y + k ≤ 9999 := by
          rw [ey2, nI_add] at h3
          exact (nI_leI (b := 9999) (by omega) (by omega)).mp h3
        have hP0 : ∀ j, j ≤ 0 → RP (yrI (σ 1) n l1 j) n l0 l1 := fun j hj => by
          obtain rfl : j = 0 := Nat.le_zero.mp hj
          exact hN.p
        have hfin : ∀ τ2, frC τ τ2 → RN τ2 (yrI (σ 1) n l1 k) n l0 l1 → (∀ j, j ≤ k → RP (yrI (σ 1) n l1 j) n l0 l1) → jK e mX7_years [.ref 0, .int (nI k)] σ (some (.int (τ2 1 4))) τ2 := fun τ2 f2 N2 P2 => by
          refine ⟨_, rfl, wX7_years (by omega) (wX7_whyNot (by omega) (wX7_in (br_f h1 (br_f (Int32.not_lt.mpr h2) (ex_i (ns_t i1_0 (br_t h4 (ex_i (br_t rfl ?_)))))))))⟩
          have hend : ∀ σ2, frM σ σ2 → σ2 1 = yrI (σ 1) n l1 k → (some (Value.int (σ2 1 2)) = some (Value.int (τ2 1 4)) ∧ R τ2 σ2) := fun σ2 g2 e2 => by
            obtain ⟨b, b1, b2, b3⟩ := N2.1.2.2.2.2.2.2.1
            exact ⟨by rw [e2, b2, b3], hR.now f2 g2 (by rw [e2]; exact N2)⟩
          exact lX7_years (σ := σ) (n := n) (l0 := l0) (l1 := l1) (y := y) (k := k) (by omega) ey hyk P2 hend k 0 (by omega) σ frM.rf rfl
        exact wX6_years (by omega) (br_f h1 (br_t h2 (br_t h3 (lX6_years (τ := τ) (s := σ 1) (n := n) (l0 := l0) (l1 := l1) (y := y) (by omega) ey hyk hfin k 0 (by omega) τ frC.rf hN hP0))))
      · have h4 : ¬ σ 1 0 + nI k ≤ 9999 := by rw [ey, ← ey2]; exact h3
        exact wX6_years (by omega) (br_f h1 (br_t h2 (br_f h3 (cE 3 (by omega) (wX7_years (by omega) (wX7_whyNot (by omega) (wX7_in (br_f h1 (br_f (Int32.not_lt.mpr h2) (ex_i (ns_t i1_0 (br_f h4 (ex_i (br_f (by decide) (mE 3 (by omega) hR)))))))))))))))
    · exact wX6_years (by omega) (br_f h1 (br_f h2 (cE 1 (by omega) (wX7_years (by omega) (wX7_whyNot (by omega) (wX7_in (br_f h1 (br_t (Int32.not_le.mp h2) (ex_i (ns_f rfl (ex_i (br_f (by decide) (mE 1 (by omega) hR)))))))))))))
end
