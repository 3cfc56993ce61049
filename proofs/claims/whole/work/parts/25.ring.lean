/-! ===== slates beside one another; how often it rings ===== -/
def beB (s : Nat → Int32) (k j : Nat) : Bool := !decide (fl s k 6 = -1) && (!decide (fl s j 6 = -1) && (decide (fl s k 6 / 8 = fl s j 6 / 8) && decide (fl s k 6 = fl s j 6 + pBr (fl s j))))
def riB (s : Nat → Int32) (i j : Nat) : Bool := (beB s i j || beB s j i) && (!decide (fl s i 4 = nI j) && !decide (fl s j 4 = nI i))
def rgI (s : Nat → Int32) (i : Nat) (a : Int32) : Nat → Int32
  | 0 => a
  | j + 1 => if riB s i j = true then rgI s i a j + 1 else rgI s i a j
def rgO (s : Nat → Int32) : Nat → Int32
  | 0 => 0
  | i + 1 => rgI s i (rgO s i) i
theorem nI_iff {a b : Nat} (ha : a < 2 ^ 31) (hb : b < 2 ^ 31) : nI a = nI b ↔ a = b := by
  constructor
  · intro e
    have h1 := (nI_leI ha hb).mp (by rw [e]; exact Int32.le_refl _)
    have h2 := (nI_leI hb ha).mp (by rw [e]; exact Int32.le_refl _)
    omega
  · intro e; rw [e]
theorem br_nat {t : Nat → Int32} {k : Nat} (h : tl_ok t k) : ∃ b, 1 ≤ b ∧ b ≤ 3 ∧ pBr t = nI b := by
  rcases br_rng h with e | e | e
  · exact ⟨1, by omega, by omega, e⟩
  · exact ⟨2, by omega, by omega, e⟩
  · exact ⟨3, by omega, by omega, e⟩
theorem be_at {s : Nat → Int32} {k j a b c : Nat} (ha : a < 48) (hb : b < 48) (hc : c ≤ 3) (h1 : fl s k 6 = nI a) (h2 : fl s j 6 = nI b) (h3 : pBr (fl s j) = nI c) : beB s k j = (decide (a / 8 = b / 8) && decide (a = b + c)) := by
  unfold beB
  rw [h1, h2, h3, decide_eq_false (nI_nm1 (by omega)), decide_eq_false (nI_nm1 (by omega)), show (8 : Int32) = nI 8 from rfl, pk_div (by omega) (by omega) (by omega), pk_div (by omega) (by omega) (by omega), nI_add]
  simp only [Bool.not_false, Bool.true_and, nI_iff (show a / 8 < 2 ^ 31 by omega) (show b / 8 < 2 ^ 31 by omega), nI_iff (show a < 2 ^ 31 by omega) (show b + c < 2 ^ 31 by omega)]
section
variable {d : Nat} {τ σ : sk_T} {K : sk_K} {s : Nat → Int32} {n : Nat}
theorem pX3_follows {k j : Nat} (hk : k < n) (hj : j < n) (hR : RT τ 0 s n) (hd : 2 < d) (h : K (some (.int (bI (beB s k j)))) τ) : sk_C sk_Sc d mX3_follows [.ref 1, .int (nI k), .int (nI j)] τ K := by
  have hn := hR.1
  have vk := vp_in_nI (show k < 10 by omega) (by omega)
  have vj := vp_in_nI (show j < 10 by omega) (by omega)
  refine wX3_follows (by omega) ⟨vk, ?_⟩
  rw [nI_clamp (show k < 2 ^ 31 by omega), nI_clamp (show j < 2 ^ 31 by omega)]
  have tk := sk_tileF k (by omega)
  have tj := sk_tileF j (by omega)
  refine pX5_isLaid tk (hR.t0 hk) (hR.ok hk) (fun a ha e6 => ex_i (br_f i1_0 ⟨vk, pX5_row tk (by omega) (hR.t0 hk) (hR.ok hk) (fun a2 ha2 e2 => ex_i ⟨vj, ?_⟩) (fun z => absurd (e6.symm.trans z) (nI_nm1 (by omega)))⟩)) (fun e6 => ex_i (br_t rfl ?_))
  · have : a = a2 := (nI_iff (by omega) (by omega)).mp (e6.symm.trans e2)
    subst this
    refine pX5_row tj (by omega) (hR.t0 hj) (hR.ok hj) (fun b hb f6 => ex_i ?_) (fun f6 => ex_i (ns_t (nI_nm1 (k := a / 8) (by omega)) ?_))
    · obtain ⟨c, hc1, hc, hbr⟩ := br_nat (hR.ok hj)
      rw [be_at ha hb hc e6 f6 hbr] at h
      by_cases er : a / 8 = b / 8
      · rw [decide_eq_true er, Bool.true_and] at h
        refine ns_f (by rw [er]) ⟨vk, pX5_place tk (by omega) (hR.t0 hk) (hR.ok hk) (fun a3 ha3 e3 => ex_i ⟨vj, ?_⟩) (fun z => absurd (e6.symm.trans z) (nI_nm1 (by omega)))⟩
        have : a = a3 := (nI_iff (by omega) (by omega)).mp (e6.symm.trans e3)
        subst this
        refine pX5_place tj (by omega) (hR.t0 hj) (hR.ok hj) (fun b2 hb2 f2 => ex_i ⟨vj, ?_⟩) (fun z => absurd (f6.symm.trans z) (nI_nm1 (by omega)))
        have : b = b2 := (nI_iff (by omega) (by omega)).mp (f6.symm.trans f2)
        subst this
        refine pX5_broad tj (by omega) (hR.t0 hj) (hR.ok hj) (ex_i ?_)
        rw [hbr, nI_add, nI_iff (by omega) (by omega)]
        by_cases e2 : a = b + c
        · rw [decide_eq_true e2] at h
          exact ns_f (by omega) h
        · rw [decide_eq_false e2] at h
          exact ns_t (by omega) h
      · rw [decide_eq_false er] at h
        exact ns_t (fun z => er ((nI_iff (by omega) (by omega)).mp z)) h
    · have : beB s k j = false := by
        unfold beB
        rw [decide_eq_true f6]; simp
      rw [this] at h
      exact h
  · have : beB s k j = false := by
      unfold beB
      rw [decide_eq_true e6]; rfl
    rw [this] at h
    exact h
theorem pX7_isBeside {k j : Nat} (hk : k < n) (hj : j < n) (hR : RS (σ 1) n) (hd : 1 < d) (h : K (some (.int (bI (beB (σ 1) k j)))) σ) : sk_C sk_Sm d mX7_isBeside [.ref 0, .int (nI k), .int (nI j)] σ K := by
  have hn := hR.1
  refine wX7_isBeside (by omega) (pX7_its 6 (by omega) (by omega) (ex_i (pX7_its 6 (by omega) (by omega) (ex_i ?_))))
  unfold beB at h
  by_cases e1 : fl (σ 1) k 6 = -1
  · rw [decide_eq_true e1] at h
    exact br_t e1 h
  refine br_f e1 ?_
  rw [decide_eq_false e1] at h
  by_cases e2 : fl (σ 1) j 6 = -1
  · rw [decide_eq_true e2] at h
    exact br_t e2 h
  refine br_f e2 ?_
  rw [decide_eq_false e2] at h
  by_cases e3 : fl (σ 1) k 6 / 8 = fl (σ 1) j 6 / 8
  · rw [decide_eq_true e3] at h
    refine ns_f e3 (pX7_broad (by omega) (by omega) (hR.2.2 j hj) (ex_i ?_))
    by_cases e4 : fl (σ 1) k 6 = fl (σ 1) j 6 + pBr (fl (σ 1) j)
    · rw [decide_eq_true e4] at h
      exact ns_f e4 h
    · rw [decide_eq_false e4] at h
      exact ns_t e4 h
  · rw [decide_eq_false e3] at h
    exact ns_t e3 h
theorem lX3_ringI {i : Nat} {a : Int32} (hi : i < n) (hR : RT τ 0 s n) (hd : 3 < d) (h : sk_G sk_Sc d mX3_ringing 4 [(0, .ref 1), (1, .int (rgI s i a i)), (2, .int (nI (i + 1)))] [] τ K) : ∀ m j, j + m = i → sk_G sk_Sc d mX3_ringing 14 [(0, .ref 1), (1, .int (rgI s i a j)), (2, .int (nI i)), (3, .int (nI j))] [] τ K := by
  have hn := hR.1
  intro m
  induction m with
  | zero =>
    intro j hj
    have : j = i := by omega
    subst this
    refine bX3_ringing_14 (by omega) (br_t (Int32.le_refl _) ?_)
    rw [nI_1]; exact h
  | succ m ih =>
    intro j hj
    have ih2 := ih (j + 1) (by omega)
    have vi := vp_in_nI (show i < 10 by omega) (by omega)
    have vj := vp_in_nI (show j < 10 by omega) (by omega)
    refine bX3_ringing_14 (by omega) (br_f (fun z => absurd ((nI_leI (by omega) (by omega)).mp z) (by omega)) ?_)
    rw [nI_1, nI_clamp (show i < 2 ^ 31 by omega), nI_clamp (show j < 2 ^ 31 by omega)]
    unfold rgI at ih2
    have tail : (beB s i j || beB s j i) = true → vp_in (nI i) 10 ∧
          (((τ (3 + i) 4) = nI j →
            sk_G sk_Sc d mX3_ringing 14 [(0, .ref 1), (1, .int (rgI s i a j)), (2, .int (nI i)), (3, .int (nI (j + 1)))] [] τ K
          ) ∧
          (¬ (τ (3 + i) 4) = nI j →
            vp_in (nI j) 10 ∧
            (((τ (3 + j) 4) = nI i →
              sk_G sk_Sc d mX3_ringing 14 [(0, .ref 1), (1, .int (rgI s i a j)), (2, .int (nI i)), (3, .int (nI (j + 1)))] [] τ K
            ) ∧
            (¬ (τ (3 + j) 4) = nI i →
              sk_G sk_Sc d mX3_ringing 14 [(0, .ref 1), (1, .int (rgI s i a j + 1)), (2, .int (nI i)), (3, .int (nI (j + 1)))] [] τ K
            ))
          )) := by
      intro hb
      rw [hR.t0 hi 4 (by omega), hR.t0 (show j < n by omega) 4 (by omega)]
      unfold riB at ih2
      rw [hb, Bool.true_and] at ih2
      refine ⟨vi, fun e => ?_, fun e => ⟨vj, fun e2 => ?_, fun e2 => ?_⟩⟩
      · rw [decide_eq_true e] at ih2; exact ih2
      · rw [decide_eq_true e2, decide_eq_false e] at ih2; exact ih2
      · rw [decide_eq_false e2, decide_eq_false e] at ih2; exact ih2
    refine pX3_follows hi (by omega) hR (by omega) (ex_i ?_)
    cases h1 : beB s i j with
    | true => exact ns_t i1_0 (tail (by rw [h1]; rfl))
    | false =>
      refine ns_f rfl (pX3_follows (by omega) hi hR (by omega) (ex_i ?_))
      cases h2 : beB s j i with
      | true => exact br_f i1_0 (tail (by rw [h2, Bool.or_true]))
      | false =>
        unfold riB at ih2
        rw [h1, h2] at ih2
        exact br_t rfl ih2
theorem lX3_ringO (hR : RT τ 0 s n) (hd : 3 < d) (h : K (some (.int (rgO s n))) τ) : ∀ m i, i + m = n → sk_G sk_Sc d mX3_ringing 4 [(0, .ref 1), (1, .int (rgO s i)), (2, .int (nI i))] [] τ K := by
  have hn := hR.1
  intro m
  induction m with
  | zero =>
    intro i hi
    have : i = n := by omega
    subst this
    exact bX3_ringing_4 (br_t (by rw [hR.n0]; exact Int32.le_refl _) h)
  | succ m ih =>
    intro i hi
    refine bX3_ringing_4 (br_f ?_ (lX3_ringI (a := rgO s i) (by omega) hR hd (ih (i + 1) (by omega)) i 0 (by omega)))
    rw [hR.n0]; exact fun z => absurd ((nI_leI (by omega) (by omega)).mp z) (by omega)
theorem pX3_ringing (hR : RT τ 0 s n) (hd : 3 < d) (h : K (some (.int (rgO s n))) τ) : sk_C sk_Sc d mX3_ringing [.ref 1] τ K :=
  wX3_ringing (lX3_ringO hR hd h n 0 (by omega))
theorem lX7_ringI {i : Nat} {a : Int32} (hi : i < n) (hR : RS (σ 1) n) (hd : 2 < d) (h : sk_G sk_Sm d mX7_rings 4 [(0, .ref 0), (1, .int (rgI (σ 1) i a i)), (2, .int (nI (i + 1)))] [] σ K) : ∀ m j, j + m = i → sk_G sk_Sm d mX7_rings 17 [(0, .ref 0), (1, .int (rgI (σ 1) i a j)), (2, .int (nI i)), (3, .int (nI j))] [] σ K := by
  have hn := hR.1
  intro m
  induction m with
  | zero =>
    intro j hj
    have : j = i := by omega
    subst this
    refine bX7_rings_17 (by omega) (br_t (Int32.le_refl _) ?_)
    rw [nI_1]; exact h
  | succ m ih =>
    intro j hj
    have ih2 := ih (j + 1) (by omega)
    refine bX7_rings_17 (by omega) (br_f (fun z => absurd ((nI_leI (by omega) (by omega)).mp z) (by omega)) (pX7_its 4 (by omega) (by omega) (ex_i ?_)))
    rw [nI_1, Int32.add_zero]
    unfold rgI riB at ih2
    refine ⟨fun e => ns_t i1_0 ?_, fun e => pX7_its 4 (by omega) (by omega) (ex_i ⟨fun e2 => ?_, fun e2 => ns_t i1_0 ?_⟩)⟩
    · rw [decide_eq_true e] at ih2
      simpa using ih2
    · refine ns_f rfl (pX7_isBeside hi (by omega) hR (by omega) (ex_i ?_))
      rw [decide_eq_false e, decide_eq_false e2] at ih2
      cases h1 : beB (σ 1) i j with
      | true =>
        rw [h1] at ih2
        exact ns_t i1_0 ih2
      | false =>
        refine ns_f rfl (pX7_isBeside (by omega) hi hR (by omega) (ex_i ?_))
        rw [h1] at ih2
        cases h2 : beB (σ 1) j i with
        | true =>
          rw [h2] at ih2
          exact br_f i1_0 ih2
        | false =>
          rw [h2] at ih2
          exact br_t rfl ih2
    · rw [decide_eq_true e2] at ih2
      simpa using ih2
theorem lX7_ringO (hR : RS (σ 1) n) (hd : 2 < d) (h : K (some (.int (rgO (σ 1) n))) σ) : ∀ m i, i + m = n → sk_G sk_Sm d mX7_rings 4 [(0, .ref 0), (1, .int (rgO (σ 1) i)), (2, .int (nI i))] [] σ K := by
  have hn := hR.1
  intro m
  induction m with
  | zero =>
    intro i hi
    have : i = n := by omega
    subst this
    exact bX7_rings_4 (br_t (by rw [hR.2.1]; exact Int32.le_refl _) h)
  | succ m ih =>
    intro i hi
    refine bX7_rings_4 (br_f ?_ (lX7_ringI (a := rgO (σ 1) i) (by omega) hR hd (ih (i + 1) (by omega)) i 0 (by omega)))
    rw [hR.2.1]; exact fun z => absurd ((nI_leI (by omega) (by omega)).mp z) (by omega)
theorem pX7_rings (hR : RS (σ 1) n) (hd : 2 < d) (h : K (some (.int (rgO (σ 1) n))) σ) : sk_C sk_Sm d mX7_rings [.ref 0] σ K :=
  wX7_rings (lX7_ringO hR hd h n 0 (by omega))
end
