/-! ===== fits ===== -/
def fitR (D : Int64) (g : Nat → Int32) : Nat → Bool
  | 0 => true
  | r + 1 => fitR D g r && decide (nI (pop ((sk_lush D (nI (8 * r))) &&& 255)) = g r)
def fitB (D : Int64) (z : Nat) (g : Nat → Int32) : Bool := decide (z ≤ 6) && fitR D g z
theorem fitR_f {D : Int64} {g : Nat → Int32} {i : Nat} (h : fitR D g i = false) : ∀ k, fitR D g (i + k) = false
  | 0 => h
  | k + 1 => by
    show (fitR D g (i + k) && _) = false
    rw [fitR_f h k, Bool.false_and]
def ftM (s : Nat → Int32) (n : Nat) (lw : Option (List Tk)) (z : Nat) (g : Nat → Int32) : Nat → Int32
  | 0 => 0
  | t + 1 => ftM s n lw z g t + bI (fitB (drG s n lw (nI (40 - t))) z g)
def ftL (s : Nat → Int32) (n : Nat) (lw : Option (List Tk)) (z : Nat) (g : Nat → Int32) : Nat → Int32
  | 0 => -1
  | t + 1 => if fitB (drG s n lw (nI (40 - t))) z g = true then nI (40 - t) else ftL s n lw z g t
theorem ftL_c {s : Nat → Int32} {n : Nat} {lw : Option (List Tk)} {z : Nat} {g : Nat → Int32} : ∀ t, ftL s n lw z g t = -1 ∨ ∃ x, x ≤ 40 ∧ ftL s n lw z g t = nI x
  | 0 => Or.inl rfl
  | t + 1 => by
    unfold ftL
    split
    · exact Or.inr ⟨40 - t, by omega, rfl⟩
    · exact ftL_c t
/-- the gale at hand: m of them are left -/
def gvI : Nat → Int32
  | 0 => -1
  | m + 1 => nI m
theorem gv_s : ∀ m, nI m + (-1) = gvI m
  | 0 => by decide
  | m + 1 => pk_m1 m
section
variable {d e : Nat} {τ σ : sk_T} {K : sk_K} {s g : Nat → Int32} {j n z : Nat} {D : Int64} {lw : Option (List Tk)} {v v1 v2 v3 v4 v5 v6 : Int32}
theorem lX4_tells (hd : 0 < d) (hj : j < 4) (hz : z ≤ 24) (hsz : τ (49 + j) 1 = nI z) (hg : ∀ i, i < 24 → τ (53 + j) i = g i) (h : K (some (.int (bI (fitB D z g)))) τ) : ∀ m i, i + m = z → i ≤ 6 → fitR D g i = true → sk_G sk_Sc d mX4_tellsRows 2 [(0, .ref (49 + j)), (1, .long D), (3, .int (nI i))] [] τ K := by
  intro m
  induction m with
  | zero =>
    intro i hi h6 hf
    obtain rfl : i = z := hi
    refine bX4_tellsRows_2 (sk_sheetF j hj).1 (sk_sheetF j hj).2.1 hd (br_t (by rw [hsz]; exact Int32.le_refl _) ?_)
    unfold fitB at h
    rw [hf, decide_eq_true h6] at h
    exact h
  | succ m ih =>
    intro i hi h6 hf
    refine bX4_tellsRows_2 (sk_sheetF j hj).1 (sk_sheetF j hj).2.1 hd (br_f (by rw [hsz]; exact fun y => absurd ((nI_leI (by omega) (by omega)).mp y) (by omega)) ?_)
    by_cases h7 : i = 6
    · refine br_t (by rw [h7]; decide) ?_
      unfold fitB at h
      rw [decide_eq_false (by omega), Bool.false_and] at h
      exact h
    · refine br_f (fun y => absurd ((nI_leI (a := 6) (by omega) (by omega)).mp y) (by omega)) ⟨vp_in_nI (by omega) (by omega), ?_⟩
      rw [nI_clamp (show i < 2 ^ 31 by omega), hg i (by omega), show nI i * 8 = nI (8 * i) from by rw [show (8 : Int32) = nI 8 from rfl, pk_mul, Nat.mul_comm], nI_1]
      refine pJ13_bitCount (ex_i ?_)
      by_cases e : g i = nI (pop ((sk_lush D (nI (8 * i))) &&& 255))
      · refine br_t e (ih (i + 1) (by omega) (by omega) ?_)
        show (fitR D g i && _) = true
        rw [hf, decide_eq_true e.symm]; rfl
      · refine br_f e ?_
        have hF : fitR D g (i + 1) = false := by
          show (fitR D g i && _) = false
          rw [decide_eq_false (fun y => e y.symm), Bool.and_false]
        have := fitR_f hF m
        rw [show i + 1 + m = z by omega] at this
        unfold fitB at h
        rw [this, Bool.and_false] at h
        exact h
theorem pX4_tells (hd : 0 < d) (hj : j < 4) (hz : z ≤ 24) (hsz : τ (49 + j) 1 = nI z) (hg : ∀ i, i < 24 → τ (53 + j) i = g i) (h : K (some (.int (bI (fitB D z g)))) τ) : sk_C sk_Sc d mX4_tellsRows [.ref (49 + j), .long D] τ K :=
  wX4_tellsRows (sk_sheetF j hj).1 (sk_sheetF j hj).2.1 (lX4_tells hd hj hz hsz hg h z 0 (by omega) (by omega) rfl)
theorem lX7_fit73 (hd : 1 < d) (hj : j < 4) (hz : z ≤ 24) (hsz : σ 10 j = nI z) (hg : ∀ i, i < 24 → σ 11 (24 * j + i) = g i) (h : sk_G sk_Sm d mX7_fits 39 [(0, .ref 0), (1, .int (nI j)), (2, .int v2), (4, .int (v4 + bI (fitB D z g))), (5, .int (if fitB D z g = true then v6 else v5)), (6, .int (v6 + (-1)))] [] σ K) : ∀ m i, i + m = z → ∀ B, B = (decide (z ≤ 6) && fitR D g i) → sk_G sk_Sm d mX7_fits 73 [(0, .ref 0), (1, .int (nI j)), (2, .int v2), (4, .int v4), (5, .int v5), (6, .int v6), (7, .long D), (9, .int (bI B)), (10, .int (nI i))] [] σ K := by
  have hcj := nI_clamp (show j < 2 ^ 31 by omega)
  intro m
  induction m with
  | zero =>
    intro i hi B hB
    obtain rfl : i = z := hi
    refine bX7_fits_73 (by omega) ⟨vp_in_nI hj (by omega), ?_⟩
    rw [hcj, hsz]
    refine br_t (Int32.le_refl _) ?_
    have hB2 : fitB D i g = B := hB.symm
    rw [hB2] at h
    cases B with
    | false => exact br_t rfl (br_t rfl h)
    | true => exact br_f i1_0 (br_f i1_0 h)
  | succ m ih =>
    intro i hi B hB
    refine bX7_fits_73 (by omega) ⟨vp_in_nI hj (by omega), ?_⟩
    rw [hcj, hsz]
    refine br_f (fun y => absurd ((nI_leI (by omega) (by omega)).mp y) (by omega)) ?_
    cases B with
    | false =>
      have hB2 : fitB D z g = false := by
        unfold fitB
        cases h6 : decide (z ≤ 6) with
        | false => rfl
        | true =>
          rw [h6, Bool.true_and] at hB
          have := fitR_f hB.symm (m + 1)
          rw [hi] at this
          rw [this]; rfl
      rw [hB2] at h
      exact br_t rfl (br_t rfl (br_t rfl h))
    | true =>
      have hb := Bool.and_eq_true_iff.mp hB.symm
      have h6 : z ≤ 6 := of_decide_eq_true hb.1
      refine br_f i1_0 ?_
      rw [show (8 : Int32) * nI i = nI (8 * i) from pk_mul 8 i, nI_1, e24, nI_clamp (show 24 * j + i < 2 ^ 31 by omega)]
      refine pX7_bitsOf (ex_i ⟨vp_in_nI (by omega) (by omega), ?_⟩)
      rw [hg i (by omega)]
      by_cases e : nI (pop ((sk_lush D (nI (8 * i))) &&& 255)) = g i
      · refine ns_f e (ih (i + 1) (by omega) true ?_)
        show true = (decide (z ≤ 6) && (fitR D g i && _))
        rw [hb.1, hb.2, decide_eq_true e]; rfl
      · refine ns_t e (ih (i + 1) (by omega) false ?_)
        show false = (decide (z ≤ 6) && (fitR D g i && _))
        rw [decide_eq_false e, Bool.and_false, Bool.and_false]
theorem lX6_fits (hd : 8 < d) (hj : j < 4) (hz : z ≤ 24) (hsz : τ (49 + j) 1 = nI z) (hg : ∀ i, i < 24 → τ (53 + j) i = g i) (hG0 : RG τ s n lw) (h0 : v2 = 0 → ∀ τ2, scC τ τ2 → K (some (.int (ftM s n lw z g 41))) τ2) (h1 : ¬ v2 = 0 → ¬ ftL s n lw z g 41 = -1 → ∀ τ2, scC τ τ2 → K (some (.int (ftL s n lw z g 41))) τ2) (h2 : ¬ v2 = 0 → ftL s n lw z g 41 = -1 → ∀ τ2, scC τ τ2 → sk_C sk_Sc (d - 1) mX6_error [.ref 0, .int 2] τ2 (fun w t106 => ∃ r106 : Int32, w = some (.int r106) ∧ K (some (.int r106)) t106)) : ∀ m t, t + m = 41 → ∀ τ2, scC τ τ2 →
    sk_G sk_Sc d mX6_fits 47 [(0, .ref 0), (1, .int (nI j)), (2, .int v2), (3, .int (ftM s n lw z g t)), (4, .int (ftL s n lw z g t)), (5, .int (gvI m))] [] τ2 K := by
  have hcj := nI_clamp (show j < 2 ^ 31 by omega)
  intro m
  induction m with
  | zero =>
    intro t ht τ2 hf
    obtain rfl : t = 41 := ht
    refine bX6_fits_47 (by omega) (br_t (by decide) ⟨fun q => ?_, fun q => h0 q τ2 hf⟩)
    rcases ftL_c (s := s) (n := n) (lw := lw) (z := z) (g := g) 41 with y | ⟨x, hx, y⟩
    · exact br_f (by rw [y]; decide) (h2 q y τ2 hf)
    · exact br_t (by rw [y]; exact nI_pos' (by omega)) (h1 q (by rw [y]; exact nI_nm1 (by omega)) τ2 hf)
  | succ m ih =>
    intro t ht τ2 hf
    have hm : m = 40 - t := by omega
    refine bX6_fits_47 (by omega) (br_f (nI_pos (by omega)) ⟨vp_in_nI hj (by omega), ?_⟩)
    rw [hcj]
    refine pX3_blown (by omega) (hG0.sc hf) (fun τ3 f3 => ex_i (pX3_dryG (by omega) ((hG0.sc hf).sc f3) (ex_l ?_)))
    have hf3 := hf.tr f3
    refine pX4_tells (z := z) (g := g) (by omega) hj hz (by rw [hf3 (49 + j) (by omega)]; exact hsz) (fun i hi => by rw [hf3 (53 + j) (by omega)]; exact hg i hi) (ex_i ?_)
    have ih2 := ih (t + 1) (by omega) τ3 hf3
    unfold ftM ftL at ih2
    rw [← hm] at ih2
    show ((bI (fitB (drG s n lw (nI m)) z g) = 0 → sk_G sk_Sc d mX6_fits 47 [(0, .ref 0), (1, .int (nI j)), (2, .int v2), (3, .int (ftM s n lw z g t)), (4, .int (ftL s n lw z g t)), (5, .int (nI m + (-1)))] [] τ3 K) ∧ (¬ bI (fitB (drG s n lw (nI m)) z g) = 0 → sk_G sk_Sc d mX6_fits 47 [(0, .ref 0), (1, .int (nI j)), (2, .int v2), (3, .int (ftM s n lw z g t + 1)), (4, .int (nI m)), (5, .int (nI m + (-1)))] [] τ3 K))
    rw [gv_s]
    cases hb : fitB (drG s n lw (nI m)) z g with
    | false =>
      rw [hb] at ih2
      refine br_t rfl ?_
      have e0 : ftM s n lw z g t + bI false = ftM s n lw z g t := Int32.add_zero _
      rw [e0] at ih2
      exact ih2
    | true =>
      rw [hb] at ih2
      exact br_f i1_0 ih2
theorem lX7_fits (hd : 8 < d) (hj : j < 4) (hz : z ≤ 24) (hsz : σ 10 j = nI z) (hg : ∀ i, i < 24 → σ 11 (24 * j + i) = g i) (hR : RS (σ 1) n) (hL : RLm (σ 1) 0 lw) (h0 : v2 = 0 → ∀ σ2, scN σ σ2 → K (some (.int (ftM (σ 1) n lw z g 41))) σ2) (h1 : ¬ v2 = 0 → ¬ ftL (σ 1) n lw z g 41 = -1 → ∀ σ2, scN σ σ2 → K (some (.int (ftL (σ 1) n lw z g 41))) σ2) (h2 : ¬ v2 = 0 → ftL (σ 1) n lw z g 41 = -1 → ∀ σ2, scN σ σ2 → sk_C sk_Sm (d - 1) mX7_error [.ref 0, .int 2] σ2 (fun w t184 => ∃ r184 : Int32, w = some (.int r184) ∧ K (some (.int r184)) t184)) : ∀ m t, t + m = 41 → ∀ σ2, scN σ σ2 →
    sk_G sk_Sm d mX7_fits 39 [(0, .ref 0), (1, .int (nI j)), (2, .int v2), (4, .int (ftM (σ 1) n lw z g t)), (5, .int (ftL (σ 1) n lw z g t)), (6, .int (gvI m))] [] σ2 K := by
  have hcj := nI_clamp (show j < 2 ^ 31 by omega)
  intro m
  induction m with
  | zero =>
    intro t ht σ2 hf
    obtain rfl : t = 41 := ht
    refine bX7_fits_39 (by omega) (br_t (by decide) ⟨fun q => ⟨fun y => h1 q y σ2 hf, fun y => h2 q y σ2 hf⟩, fun q => h0 q σ2 hf⟩)
  | succ m ih =>
    intro t ht σ2 hf
    have hm : m = 40 - t := by omega
    have e1 : σ2 1 = σ 1 := hf.s1
    refine bX7_fits_39 (by omega) (br_f (nI_pos (by omega)) (pX7_dryBehind (n := n) (lw := lw) (by omega) (by rw [e1]; exact hR) (by rw [e1]; exact hL) (fun σ3 f3 => ex_l ⟨vp_in_nI hj (by omega), ?_⟩)))
    have hf3 := hf.tr f3
    have hsz3 : σ3 10 j = nI z := by rw [hf3 10 (by omega) (by omega) (by omega)]; exact hsz
    have hg3 : ∀ i, i < 24 → σ3 11 (24 * j + i) = g i := fun i hi => by rw [hf3 11 (by omega) (by omega) (by omega)]; exact hg i hi
    have ih2 := ih (t + 1) (by omega) σ3 hf3
    unfold ftM ftL at ih2
    rw [← hm, ← gv_s] at ih2
    rw [hcj, hsz3, e1]
    have key := lX7_fit73 (d := d) (K := K) (D := drG (σ 1) n lw (nI m)) (by omega) hj hz hsz3 hg3 ih2 z 0 (by omega)
    by_cases h6 : z ≤ 6
    · refine br_f (fun y => absurd ((nI_ltI (a := 6) (by omega) (by omega)).mp y) (by omega)) (key true ?_)
      rw [decide_eq_true h6]; rfl
    · refine br_t ((nI_ltI (a := 6) (by omega) (by omega)).mpr (by omega)) (key false ?_)
      rw [decide_eq_false h6]; rfl
theorem jFits (hd : 20 < d) (he : 20 < e) (hR : R τ σ) : sk_C sk_Sc d mX6_fits [.ref 0, .int v1, .int v2] τ (jK e mX7_fits [.ref 0, .int v1, .int v2] σ) := by
  have hS := hR.2.2.2.2.2.1
  obtain ⟨n, l0, l1, hN⟩ := hR.1
  have hn := hN.1.1
  by_cases hb : ∃ c, c < 2 ∧ v2 = nI c
  rotate_left
  · have ref : sk_C sk_Sm e mX7_fits [.ref 0, .int v1, .int v2] σ (fun w σ' => w = some (.int (-1000000000 - nI 1)) ∧ R (sk_u τ 57 1 (τ 57 1 + 1)) σ') :=
      wX7_fits (by omega) (mIn_f (N := 1) (by omega) hb (ex_i (br_t rfl (br_f (by decide) (mE 1 (by omega) hR)))))
    by_cases hs : ∃ c, c < 4 ∧ v1 = nI c
    · obtain ⟨j, hj, rfl⟩ := hs
      exact wX6_fits (by omega) (cSh_t hj (ex_i (br_f i1_0 (cBt_f hb (ex_i (ns_f rfl (cE 1 (by omega) ref)))))))
    · exact wX6_fits (by omega) (cSh_f hs (ex_i (br_t rfl (cE 1 (by omega) ref))))
  obtain ⟨b, hb, rfl⟩ := hb
  by_cases hs : ∃ c, c < 4 ∧ v1 = nI c
  rotate_left
  · exact wX6_fits (by omega) (cSh_f hs (ex_i (br_t rfl (cE 1 (by omega) (wX7_fits (by omega) (mIn_t (N := 1) (by omega) hb (ex_i (br_f i1_0 (mLk_f (by omega) hs (ex_i (br_f i1_0 (mE 1 (by omega) hR))))))))))))
  obtain ⟨j, hj, rfl⟩ := hs
  have vj := vp_in_nI hj (by omega)
  have hcj := nI_clamp (show j < 2 ^ 31 by omega)
  obtain ⟨g1, g2, ⟨z, hz, g3, g4⟩, g5⟩ := hS j hj
  by_cases h0 : τ (49 + j) 0 = 0
  · have h0' : σ 9 j = 0 := by rw [← g1]; exact h0
    refine wX6_fits (by omega) (cSh_t hj (ex_i (br_f i1_0 (cBt_t hb (ex_i (ns_t i1_0 ⟨vj, ?_⟩))))))
    rw [hcj]
    exact cMs_t hj h0 (ex_i (br_f i1_0 (cE 2 (by omega) (wX7_fits (by omega) (mIn_t (N := 1) (by omega) hb (ex_i (br_f i1_0 (mLk (by omega) hj (fun _ => ex_i (br_f (by decide) (mE 2 (by omega) hR))) (fun y => absurd h0' y)))))))))
  have h0' : ¬ σ 9 j = 0 := by rw [← g1]; exact h0
  have ref : ∀ {K2 : sk_K}, (nI b = 0 → ∀ σ2, scN σ σ2 → K2 (some (.int (ftM (σ 1) n l0 z (fun i => σ 11 (24 * j + i)) 41))) σ2) → (¬ nI b = 0 → ¬ ftL (σ 1) n l0 z (fun i => σ 11 (24 * j + i)) 41 = -1 → ∀ σ2, scN σ σ2 → K2 (some (.int (ftL (σ 1) n l0 z (fun i => σ 11 (24 * j + i)) 41))) σ2) → (¬ nI b = 0 → ftL (σ 1) n l0 z (fun i => σ 11 (24 * j + i)) 41 = -1 → ∀ σ2, scN σ σ2 → sk_C sk_Sm (e - 1) mX7_error [.ref 0, .int 2] σ2 (fun w t184 => ∃ r184 : Int32, w = some (.int r184) ∧ K2 (some (.int r184)) t184)) → sk_C sk_Sm e mX7_fits [.ref 0, .int (nI j), .int (nI b)] σ K2 := fun {K2} p0 p1 p2 => by
    refine wX7_fits (by omega) (mIn_t (N := 1) (by omega) hb (ex_i (br_f i1_0 (mLk (by omega) hj (fun y => absurd y h0') (fun _ => ex_i (br_t rfl ?_))))))
    exact lX7_fits (z := z) (g := fun i => σ 11 (24 * j + i)) (by omega) hj hz g4 (fun i hi => rfl) hN.s hN.m0 p0 p1 p2 41 0 (by omega) σ scN.rf
  refine wX6_fits (by omega) (cSh_t hj (ex_i (br_f i1_0 (cBt_t hb (ex_i (ns_t i1_0 ⟨vj, ?_⟩))))))
  rw [hcj]
  refine cMs_f hj h0 (ex_i (br_t rfl ?_))
  refine lX6_fits (z := z) (g := fun i => σ 11 (24 * j + i)) (s := σ 1) (n := n) (lw := l0) (by omega) hj hz g3 g5 hN.g (fun q τ2 f2 => ⟨_, rfl, ref (fun _ σ2 f3 => ⟨rfl, hR.sc f2 f3⟩) (fun y => absurd q y) (fun y => absurd q y)⟩) (fun q q2 τ2 f2 => ⟨_, rfl, ref (fun y => absurd y q) (fun _ _ σ2 f3 => ⟨rfl, hR.sc f2 f3⟩) (fun _ y => absurd y q2)⟩) (fun q q2 τ2 f2 => cE 2 (by omega) (ref (fun y => absurd y q) (fun _ y => absurd q2 y) (fun _ _ σ2 f3 => mE 2 (by omega) (hR.sc f2 f3)))) 41 0 (by omega) τ scC.rf
end
