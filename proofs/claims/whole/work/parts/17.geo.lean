/-! ===== what is dry, where one may lie: both sides ===== -/
theorem RT.t0 {τ : sk_T} {s : Nat → Int32} {n k : Nat} (h : RT τ 0 s n) (hk : k < n) : ∀ j, j < 7 → τ (3 + k) j = fl s k j := (h.2.2.2 k hk).1
theorem RT.ok {τ : sk_T} {r : Nat} {s : Nat → Int32} {n k : Nat} (h : RT τ r s n) (hk : k < n) : tl_ok (fl s k) k := (h.2.2.2 k hk).2
theorem RT.n0 {τ : sk_T} {s : Nat → Int32} {n : Nat} (h : RT τ 0 s n) : τ 1 1 = nI n := h.2.2.1
def dryF (s : Nat → Int32) (gone : Nat → Bool) : Nat → Int64
  | 0 => 0
  | n + 1 => if gone n = true then dryF s gone n else dryF s gone n ||| tCov (pOwn (fl s n))
theorem tab_at {b : Int32} {c : Nat} (hb : b = 1 ∨ b = 2 ∨ b = 3) (hc : c < 48) : oLp b (nI c) (nI c % 8) 4 0 0 = tOwn b (nI c) ∧ ¬ tOwn b (nI c) = 0 ∧
    (tOwn b (nI c) ||| (tOwn b (nI c) <<< (Int32.toInt64 (8 : Int32) &&& 63))) &&& 281474976710655 = tCov (tOwn b (nI c)) ∧ tOwn b (nI c) &&& 281474976710655 = tOwn b (nI c) :=
  ⟨of_decide_eq_true (tb3_of own_tab hb hc), of_decide_eq_true (tb3_of own_ne hb hc), of_decide_eq_true (tb3_of cov_tab hb hc), of_decide_eq_true (tb3_of own_all hb hc)⟩
theorem own_in {t : Nat → Int32} {k : Nat} (h : tl_ok t k) : pOwn t &&& 281474976710655 = pOwn t := by
  unfold pOwn
  rcases own_rng h with e | ⟨c, hc, e⟩
  · rw [if_pos e]; decide
  · rw [e, if_neg (nI_nm1 (by omega))]
    exact (tab_at (br_rng h) hc).2.2.2
theorem own_z {t : Nat → Int32} {k : Nat} (h : tl_ok t k) : pOwn t = 0 ↔ t 6 = -1 := by
  unfold pOwn
  rcases own_rng h with e | ⟨c, hc, e⟩
  · rw [if_pos e]; exact ⟨fun _ => e, fun _ => rfl⟩
  · rw [e, if_neg (nI_nm1 (by omega))]
    exact ⟨fun z => absurd z (tab_at (br_rng h) hc).2.1, fun z => absurd z (nI_nm1 (by omega))⟩
theorem own_cov {t : Nat → Int32} {k : Nat} (h : tl_ok t k) : (pOwn t ||| (pOwn t <<< (Int32.toInt64 (8 : Int32) &&& 63))) &&& 281474976710655 = tCov (pOwn t) := by
  unfold pOwn
  rcases own_rng h with e | ⟨c, hc, e⟩
  · rw [if_pos e]; decide
  · rw [e, if_neg (nI_nm1 (by omega))]
    exact (tab_at (br_rng h) hc).2.2.1
/-- no other slate's cells are in x -/
def frF (s : Nat → Int32) (x : Int64) (k : Nat) : Nat → Bool
  | 0 => true
  | i + 1 => frF s x k i && (decide (i = k) || decide (pOwn (fl s i) &&& x = 0))
def lnF (s : Nat → Int32) (k : Nat) (x : Int64) : Bool :=
  if fl s k 4 = -1 then true else decide (pOwn (fl s (fl s k 4).toNatClampNeg) = 0) || !decide ((tAb x ||| tUn x) &&& pOwn (fl s (fl s k 4).toNatClampNeg) = 0)
def mayF (s : Nat → Int32) (n k : Nat) (c : Int32) : Bool := frF s (pAt (fl s k) c) k n && lnF s k (pAt (fl s k) c)
theorem un_eq {x o : Int64} (h : o &&& 281474976710655 = o) : ((x <<< (Int32.toInt64 (8 : Int32) &&& 63)) ||| (sk_lush x 8)) &&& o = (tAb x ||| tUn x) &&& o := by
  apply bL_ext
  intro i hi
  have h1 : btL o i = (btL o i && decide (i < 48)) := by
    have := congrArg (fun z => btL z i) h
    rw [bL_and, bL_all] at this
    exact this.symm
  rw [bL_and, bL_and, bL_or, bL_or, bL_un hi]
  rw [show (8 : Int32) = nI 8 from rfl, bL_shl 8 (by omega) x hi]
  rw [h1]
  rw [show btL (tAb x) i = btL (sk_lush x (nI 8)) i from rfl]
  cases btL (sk_lush x (nI 8)) i <;> cases decide (8 ≤ i) <;> cases btL x (i - 8) <;> cases decide (i < 48) <;> cases btL o i <;> rfl
def bI (b : Bool) : Int32 := if b = true then 1 else 0
section
variable {d : Nat} {τ σ : sk_T} {K : sk_K} {s : Nat → Int32} {n : Nat}
theorem lX3_dryBut {v : Int32} (hR : RT τ 0 s n) (hd : 3 < d) (h : K (some (.long (dryF s (fun k => bt v k) n))) τ) : ∀ m i, i + m = n → sk_G sk_Sc d mX3_dryBut 5 [(0, .ref 1), (1, .int v), (2, .long (dryF s (fun k => bt v k) i)), (4, .int (nI i))] [] τ K := by
  have hn := hR.1
  intro m
  induction m with
  | zero =>
    intro i hi
    have : i = n := by omega
    subst this
    refine bX3_dryBut_5 (by omega) (br_t ?_ h)
    rw [hR.n0]; exact (nI_leI (by omega) (by omega)).mpr (Nat.le_refl _)
  | succ m ih =>
    intro i hi
    refine bX3_dryBut_5 (by omega) (br_f ?_ ?_)
    · rw [hR.n0]; exact fun z => absurd ((nI_leI (by omega) (by omega)).mp z) (by omega)
    rw [nI_1, nI_clamp (show i < 2 ^ 31 by omega)]
    have ih2 := ih (i + 1) (by omega)
    refine ⟨fun e => ?_, fun e => ⟨vp_in_nI (by omega) (by omega), ?_⟩⟩
    · have hb : bt v i = true := by
        rcases hb : bt v i with _ | _
        · exact absurd ((b_t0 (by omega)).mpr hb) e
        · rfl
      unfold dryF at ih2
      rw [if_pos hb] at ih2
      exact ih2
    · have hb : bt v i = false := (b_t0 (by omega)).mp e
      unfold dryF at ih2
      rw [if_neg (by rw [hb]; decide)] at ih2
      exact pX5_own (sk_tileF i (by omega)) (by omega) (hR.t0 (by omega)) (hR.ok (by omega)) (ex_l (pX3_covered (by omega) (ex_l ih2)))
theorem pX3_dryBut {v : Int32} (hR : RT τ 0 s n) (hd : 3 < d) (h : K (some (.long (dryF s (fun k => bt v k) n))) τ) : sk_C sk_Sc d mX3_dryBut [.ref 1, .int v] τ K :=
  wX3_dryBut (lX3_dryBut hR hd h n 0 (by omega))
theorem lX3_mayLie {k : Nat} {x : Int64} (hk : k < n) (hR : RT τ 0 s n) (hd : 3 < d) (h : K (some (.int (bI (frF s x k n && lnF s k x)))) τ) : ∀ m i, i + m = n → frF s x k i = true → sk_G sk_Sc d mX3_mayLie 14 [(0, .ref 1), (1, .int (nI k)), (3, .long x), (5, .int (nI i))] [] τ K := by
  have hn := hR.1
  have hfr : ∀ i, i ≤ n → frF s x k i = false → frF s x k n = false := by
    intro i hi hf
    obtain ⟨m, rfl⟩ : ∃ m, n = i + m := ⟨n - i, by omega⟩
    clear hi h hR hk hn
    induction m with
    | zero => exact hf
    | succ m ih =>
      show frF s x k ((i + m) + 1) = false
      unfold frF
      rw [ih, Bool.false_and]
  intro m
  induction m with
  | zero =>
    intro i hi hf
    have : i = n := by omega
    subst this
    rw [hf, Bool.true_and] at h
    refine bX3_mayLie_14 (by omega) (br_t ?_ ?_)
    · rw [hR.n0]; exact (nI_leI (by omega) (by omega)).mpr (Nat.le_refl _)
    rw [nI_clamp (show k < 2 ^ 31 by omega), hR.t0 hk 4 (by omega)]
    refine ⟨vp_in_nI (by omega) (by omega), ?_⟩
    unfold lnF at h
    rcases (hR.ok hk).2.2.2.2.1 with e | ⟨j, hj, e⟩
    · rw [if_pos e] at h
      rw [e]; exact br_t (by decide) h
    · have hne : ¬ fl s k 4 = -1 := by rw [e]; exact nI_nm1 (by omega)
      rw [if_neg hne] at h
      rw [e, nI_clamp (show j < 2 ^ 31 by omega)] at h
      rw [e, nI_clamp (show j < 2 ^ 31 by omega)]
      refine br_f (nI_pos (by omega)) (br_f (by rw [hR.n0]; exact fun z => absurd ((nI_leI (by omega) (by omega)).mp z) (by omega)) ⟨vp_in_nI (by omega) (by omega), ?_⟩)
      have hjn : j < i := by omega
      refine pX5_isLaid (sk_tileF j (by omega)) (hR.t0 hjn) (hR.ok hjn) (fun c hc e6 => ex_i (ns_t i1_0 ?_)) (fun e6 => ex_i (ns_f rfl ?_))
      · refine pX3_rightAbove (ex_l (pX3_rightUnder (ex_l ⟨vp_in_nI (by omega) (by omega), pX5_own (sk_tileF j (by omega)) (by omega) (hR.t0 hjn) (hR.ok hjn) (ex_l ?_)⟩)))
        have hz : ¬ pOwn (fl s j) = 0 := by
          rw [own_z (hR.ok hjn), e6]; exact nI_nm1 (by omega)
        rw [decide_eq_false hz, Bool.false_or] at h
        refine ⟨fun e9 => ?_, fun e9 => ?_⟩
        · rw [decide_eq_true (lc_0.mp e9)] at h; exact h
        · rw [decide_eq_false (fun z => e9 (lc_0.mpr z))] at h; exact h
      · rw [decide_eq_true ((own_z (hR.ok hjn)).mpr e6), Bool.true_or] at h; exact h
  | succ m ih =>
    intro i hi hf
    refine bX3_mayLie_14 (by omega) (br_f ?_ ?_)
    · rw [hR.n0]; exact fun z => absurd ((nI_leI (by omega) (by omega)).mp z) (by omega)
    rw [nI_1, nI_clamp (show i < 2 ^ 31 by omega), nI_eq (by omega) (by omega)]
    refine ⟨fun e => ?_, fun e => ⟨vp_in_nI (by omega) (by omega), pX5_own (sk_tileF i (by omega)) (by omega) (hR.t0 (by omega)) (hR.ok (by omega)) (ex_l ⟨fun e2 => ?_, fun e2 => ?_⟩)⟩⟩
    · refine ih (i + 1) (by omega) ?_
      unfold frF
      rw [hf, decide_eq_true e]; rfl
    · refine ih (i + 1) (by omega) ?_
      unfold frF
      have := lc_0.mp e2
      rw [hf, decide_eq_true (show pOwn (fl s i) &&& x = 0 by rw [Int64.and_comm]; exact this), Bool.or_true]; rfl
    · have hf2 : frF s x k (i + 1) = false := by
        unfold frF
        rw [decide_eq_false e, decide_eq_false (show ¬ pOwn (fl s i) &&& x = 0 by rw [Int64.and_comm]; exact fun z => e2 (lc_0.mpr z)), Bool.or_false, Bool.and_false]
      rw [hfr (i + 1) (by omega) hf2, Bool.false_and] at h
      exact h
theorem pX3_mayLie {k c : Nat} (hk : k < n) (hc : c < 48) (hR : RT τ 0 s n) (hd : 3 < d) (h : K (some (.int (bI (mayF s n k (nI c))))) τ) : sk_C sk_Sc d mX3_mayLie [.ref 1, .int (nI k), .int (nI c)] τ K := by
  have hn := hR.1
  refine wX3_mayLie (by omega) ⟨vp_in_nI (by omega) (by omega), ?_⟩
  rw [nI_clamp (show k < 2 ^ 31 by omega)]
  exact pX5_ownAt hc (sk_tileF k (by omega)) (by omega) (hR.t0 hk) (hR.ok hk) (ex_l (lX3_mayLie hk hR hd h n 0 (by omega) rfl))
/-! the reference -/
theorem lX7_ownAt {k kk c : Nat} (hk : k < 10) (hd : 1 < d) (ht : tl_ok (fl (σ 1) k) kk) : ∀ m b set, 4 ≤ b + m → b < 100 → K (some (.long (oLp (pBr (fl (σ 1) k)) (nI c) (nI c % 8) m (nI b) set))) σ →
    sk_G sk_Sm d mX7_ownAt 11 [(0, .ref 0), (1, .int (nI k)), (2, .int (nI c)), (3, .long set), (5, .int (nI c % 8)), (6, .int (nI b))] [] σ K := by
  intro m
  induction m with
  | zero =>
    intro b set hb hb2 hK
    refine bX7_ownAt_11 (by omega) (pX7_broad hk (by omega) ht (ex_i (br_t ?_ hK)))
    have h4 : (4 : Int32) ≤ nI b := (nI_leI (a := 4) (by omega) (by omega)).mpr (by omega)
    rcases br_rng ht with e | e | e <;> rw [e]
    · exact Int32.le_trans (by decide) h4
    · exact Int32.le_trans (by decide) h4
    · exact Int32.le_trans (by decide) h4
  | succ m ih =>
    intro b set hb hb2 hK
    unfold oLp at hK
    refine bX7_ownAt_11 (by omega) (pX7_broad hk (by omega) ht (ex_i ⟨fun e => ?_, fun e => ⟨fun e2 => ?_, fun e2 => ?_⟩⟩))
    · rw [if_pos e] at hK; exact hK
    · rw [if_neg e, if_pos e2] at hK; exact hK
    · rw [if_neg e, if_neg e2] at hK
      rw [nI_1] at hK ⊢
      refine ih (b + 1) _ (by omega) ?_ hK
      have h4 : nI b < 4 := by
        rcases br_rng ht with e3 | e3 | e3 <;> rw [e3] at e
        · exact Int32.lt_of_lt_of_le (Int32.not_le.mp e) (by decide)
        · exact Int32.lt_of_lt_of_le (Int32.not_le.mp e) (by decide)
        · exact Int32.lt_of_lt_of_le (Int32.not_le.mp e) (by decide)
      have := (nI_ltI (b := 4) (by omega) (by omega)).mp h4
      omega
theorem pX7_ownAt {k kk c : Nat} (hk : k < 10) (hc : c < 48) (hd : 1 < d) (ht : tl_ok (fl (σ 1) k) kk) (h : K (some (.long (pAt (fl (σ 1) k) (nI c)))) σ) : sk_C sk_Sm d mX7_ownAt [.ref 0, .int (nI k), .int (nI c)] σ K := by
  refine wX7_ownAt (lX7_ownAt hk hd ht 4 0 0 (by omega) (by omega) ?_)
  have := (tab_at (br_rng ht) hc).1
  show K (some (.long (oLp (pBr (fl (σ 1) k)) (nI c) (nI c % 8) 4 0 0))) σ
  rw [this]; exact h
theorem pX7_own {k kk : Nat} (hk : k < 10) (hd : 2 < d) (ht : tl_ok (fl (σ 1) k) kk) (h : K (some (.long (pOwn (fl (σ 1) k)))) σ) : sk_C sk_Sm d mX7_own [.ref 0, .int (nI k)] σ K := by
  refine wX7_own (by omega) (pX7_its 6 hk (by omega) (ex_i ?_))
  unfold pOwn at h
  rcases own_rng ht with e | ⟨c, hc, e⟩
  · rw [if_pos e] at h
    exact ns_f e h
  · rw [e, if_neg (nI_nm1 (by omega))] at h
    refine ns_t (by rw [e]; exact nI_nm1 (by omega)) (pX7_its 6 hk (by omega) (ex_i ?_))
    rw [e]
    exact pX7_ownAt hk hc (by omega) ht (ex_l h)
theorem pX7_covers {k kk : Nat} (hk : k < 10) (hd : 3 < d) (ht : tl_ok (fl (σ 1) k) kk) (h : K (some (.long (tCov (pOwn (fl (σ 1) k))))) σ) : sk_C sk_Sm d mX7_covers [.ref 0, .int (nI k)] σ K := by
  refine wX7_covers (by omega) (pX7_own hk (by omega) ht (ex_l ?_))
  rw [own_cov ht]; exact h
theorem lX7_drySet (hR : RS (σ 1) n) (hd : 4 < d) (h : K (some (.long (dryF (σ 1) (fun _ => false) n))) σ) : ∀ m i, i + m = n → sk_G sk_Sm d mX7_drySet 4 [(0, .ref 0), (1, .long (dryF (σ 1) (fun _ => false) i)), (3, .int (nI i))] [] σ K := by
  have hn := hR.1
  intro m
  induction m with
  | zero =>
    intro i hi
    have : i = n := by omega
    subst this
    refine bX7_drySet_4 (by omega) (br_t ?_ h)
    rw [hR.2.1]; exact (nI_leI (by omega) (by omega)).mpr (Nat.le_refl _)
  | succ m ih =>
    intro i hi
    refine bX7_drySet_4 (by omega) (br_f ?_ ?_)
    · rw [hR.2.1]; exact fun z => absurd ((nI_leI (by omega) (by omega)).mp z) (by omega)
    rw [nI_1]
    exact pX7_covers (by omega) (by omega) (hR.2.2 i (by omega)) (ex_l (ih (i + 1) (by omega)))
theorem pX7_drySet (hR : RS (σ 1) n) (hd : 4 < d) (h : K (some (.long (dryF (σ 1) (fun _ => false) n))) σ) : sk_C sk_Sm d mX7_drySet [.ref 0] σ K :=
  wX7_drySet (lX7_drySet hR hd h n 0 (by omega))
theorem lX7_mayLie {k : Nat} {x : Int64} (hk : k < n) (hR : RS (σ 1) n) (hd : 3 < d) (h : K (some (.int (bI (frF (σ 1) x k n && lnF (σ 1) k x)))) σ) : ∀ m i, i + m = n → sk_G sk_Sm d mX7_mayLie 13 [(0, .ref 0), (1, .int (nI k)), (3, .long x), (5, .int (bI (frF (σ 1) x k i))), (6, .int (nI i))] [] σ K := by
  have hn := hR.1
  intro m
  induction m with
  | zero =>
    intro i hi
    have : i = n := by omega
    subst this
    refine bX7_mayLie_13 (by omega) (br_t ?_ (pX7_its 4 (by omega) (by omega) (ex_i ?_)))
    · rw [hR.2.1]; exact (nI_leI (by omega) (by omega)).mpr (Nat.le_refl _)
    unfold lnF at h
    rcases (hR.2.2 k hk).2.2.2.2.1 with e | ⟨j, hj, e⟩
    · rw [if_pos e] at h
      rw [e]
      refine ns_f rfl ?_
      cases hf : frF (σ 1) x k i
      · rw [hf, Bool.false_and] at h
        exact br_t rfl h
      · rw [hf, Bool.true_and] at h
        exact br_f i1_0 (br_t (by decide) h)
    · have hne : ¬ fl (σ 1) k 4 = -1 := by rw [e]; exact nI_nm1 (by omega)
      rw [if_neg hne] at h
      rw [e, nI_clamp (show j < 2 ^ 31 by omega)] at h
      rw [e]
      refine ns_t (nI_nm1 (by omega)) ?_
      have hjn : j < i := by omega
      refine pX7_own (by omega) (by omega) (hR.2.2 j hjn) (ex_l ?_)
      rw [un_eq (own_in (hR.2.2 j hjn))]
      cases hf : frF (σ 1) x k i
      · rw [hf, Bool.false_and] at h
        exact br_t rfl h
      · rw [hf, Bool.true_and] at h
        refine br_f i1_0 ⟨fun e9 => ?_, fun e9 => ⟨fun e8 => ?_, fun e8 => ?_⟩⟩
        · rw [decide_eq_true (lc_0.mp e9), Bool.true_or] at h; exact h
        · rw [decide_eq_false (fun z => e9 (lc_0.mpr z)), Bool.false_or, decide_eq_true (lc_0.mp e8)] at h; exact h
        · rw [decide_eq_false (fun z => e9 (lc_0.mpr z)), Bool.false_or, decide_eq_false (fun z => e8 (lc_0.mpr z))] at h; exact h
  | succ m ih =>
    intro i hi
    refine bX7_mayLie_13 (by omega) (br_f ?_ ?_)
    · rw [hR.2.1]; exact fun z => absurd ((nI_leI (by omega) (by omega)).mp z) (by omega)
    have ih2 := ih (i + 1) (by omega)
    unfold frF at ih2
    rw [nI_1, nI_eq (by omega) (by omega)]
    cases hf : frF (σ 1) x k i
    · rw [hf, Bool.false_and] at ih2
      exact br_t rfl ih2
    · rw [hf, Bool.true_and] at ih2
      refine br_f i1_0 ⟨fun e => ?_, fun e => pX7_own (by omega) (by omega) (hR.2.2 i (by omega)) (ex_l ⟨fun e2 => ?_, fun e2 => ?_⟩)⟩
      · rw [decide_eq_true e, Bool.true_or] at ih2; exact ih2
      · rw [decide_eq_false e, Bool.false_or, decide_eq_false (fun z => e2 (lc_0.mpr z))] at ih2; exact ih2
      · rw [decide_eq_false e, Bool.false_or, decide_eq_true (lc_0.mp e2)] at ih2; exact ih2
theorem pX7_mayLie {k c : Nat} (hk : k < n) (hc : c < 48) (hR : RS (σ 1) n) (hd : 3 < d) (h : K (some (.int (bI (mayF (σ 1) n k (nI c))))) σ) : sk_C sk_Sm d mX7_mayLie [.ref 0, .int (nI k), .int (nI c)] σ K := by
  have hn := hR.1
  exact wX7_mayLie (by omega) (pX7_ownAt (by omega) hc (by omega) (hR.2.2 k hk) (ex_l (lX7_mayLie hk hR hd h n 0 (by omega))))
end
