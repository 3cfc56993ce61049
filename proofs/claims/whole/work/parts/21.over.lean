/-! ===== over a cell, to come to it: both sides ===== -/
/-- o, a row above k, covers an OWN CELL of k -/
def edB (s : Nat → Int32) (o k : Nat) : Bool := match (fl s k 6).toNatClampNeg / 8 with
  | 0 => false
  | r + 1 => rwB s o r && !decide (tCov (pOwn (fl s o)) &&& pOwn (fl s k) = 0)
def clsd (s : Nat → Int32) (n : Nat) (C : Nat → Bool) : Prop := ∀ o k, o < n → k < n → C k = true → edB s o k = true → C o = true
/-- R is what T comes to -/
def isCl (s : Nat → Int32) (n : Nat) (T R : Nat → Bool) : Prop := (∀ o, n ≤ o → R o = false) ∧ (∀ o, T o = true → R o = true) ∧ clsd s n R ∧ ∀ C, clsd s n C → (∀ o, T o = true → C o = true) → ∀ o, R o = true → C o = true
theorem isCl.eq {s : Nat → Int32} {n : Nat} {T R Q : Nat → Bool} (h : isCl s n T R) (h2 : isCl s n T Q) : ∀ o, R o = Q o := by
  intro o
  have a := h.2.2.2 Q h2.2.2.1 h2.2.1 o
  have b := h2.2.2.2 R h.2.2.1 h.2.1 o
  cases h3 : R o <;> cases h4 : Q o <;> simp_all
theorem ed_r {s : Nat → Int32} {n o k r : Nat} (hR : RS s n) (ho : o < n) (hk : k < n) (hr : rwB s k (r + 1) = true) : edB s o k = (rwB s o r && !decide (tUn (pOwn (fl s o)) &&& pOwn (fl s k) = 0)) := by
  have hr2 := hr
  unfold rwB at hr
  simp only [Bool.and_eq_true, Bool.not_eq_true', decide_eq_false_iff_not, decide_eq_true_eq] at hr
  unfold edB
  rw [hr.2]
  show (rwB s o r && _) = _
  cases h : rwB s o r
  · rfl
  · have e := own_apart (hR.2.2 k hk) (hR.2.2 o ho) hr2 h (by omega)
    have : (tCov (pOwn (fl s o)) &&& pOwn (fl s k) = 0) ↔ (tUn (pOwn (fl s o)) &&& pOwn (fl s k) = 0) := by
      unfold tCov
      rw [or_and_z]
      exact ⟨fun z => z.2, fun z => ⟨e, z⟩⟩
    simp only [this]
theorem ed_row {s : Nat → Int32} {n o k : Nat} (hR : RS s n) (hk : k < n) (h : edB s o k = true) : ∃ r, rwB s k (r + 1) = true ∧ rwB s o r = true := by
  unfold edB at h
  rcases own_rng (hR.2.2 k hk) with e | ⟨c, hc, e⟩
  · rw [e, show (-1 : Int32).toNatClampNeg / 8 = 0 from rfl] at h
    exact absurd h Bool.false_ne_true
  · rw [e, nI_clamp (by omega)] at h
    cases h2 : c / 8 with
    | zero => rw [h2] at h; exact absurd h Bool.false_ne_true
    | succ r =>
      rw [h2] at h
      have h3 : (rwB s o r && !decide (tCov (pOwn (fl s o)) &&& pOwn (fl s k) = 0)) = true := h
      simp only [Bool.and_eq_true] at h3
      exact ⟨r, by rw [rw_at e hc, h2]; exact decide_eq_true rfl, h3.1⟩
theorem and_orF {s : Nat → Int32} {ab : Nat → Bool} {x : Int64} : ∀ n, (x &&& orF s ab n = 0 ↔ ∀ k, k < n → ab k = true → x &&& pOwn (fl s k) = 0)
  | 0 => by
    show x &&& 0 = 0 ↔ _
    rw [Int64.and_zero]
    exact ⟨fun _ k hk => absurd hk (by omega), fun _ => rfl⟩
  | n + 1 => by
    have ih := and_orF (s := s) (ab := ab) (x := x) n
    unfold orF
    by_cases h : ab n = true
    · rw [if_pos h, Int64.and_comm, or_and_z, Int64.and_comm, ih, Int64.and_comm]
      constructor
      · rintro ⟨h1, h2⟩ k hk hab
        by_cases e : k = n
        · subst e; exact h2
        · exact h1 k (by omega) hab
      · intro h1
        exact ⟨fun k hk => h1 k (by omega), h1 n (by omega) h⟩
    · rw [if_neg h, ih]
      constructor
      · intro h1 k hk hab
        by_cases e : k = n
        · subst e; exact absurd hab h
        · exact h1 k (by omega) hab
      · intro h1 k hk hab; exact h1 k (by omega) hab
/-- those that cover one of the cells x, of a kind -/
def cvB (s : Nat → Int32) (n : Nat) (x : Int64) (rr : Nat → Bool) (o : Nat) : Bool := decide (o < n) && (rr o && !decide (tCov (pOwn (fl s o)) &&& x = 0))
theorem cov_bit {o : Int64} {c : Nat} (hc : c < 64) : (tCov o &&& (1 <<< (Int32.toInt64 (nI c) &&& 63)) = 0) ↔ btL (tCov o) c = false := by
  rw [and_z]
  constructor
  · intro h
    refine tn_f (fun z => h c hc ⟨z, ?_⟩)
    rw [bL_one c hc hc]; simp
  · intro h i hi z
    rw [bL_one c hc hi] at z
    have := of_decide_eq_true z.2
    subst this
    rw [h] at z; exact absurd z.1 (by decide)
theorem shl0 : ∀ k, k < 31 → (0 : Int32) <<< (nI k &&& 31) = 0 := by decide +kernel
section
variable {d : Nat} {τ σ : sk_T} {K : sk_K} {s : Nat → Int32} {n : Nat}
theorem lX3_lyingOver {c : Nat} (hc : c < 48) (hR : RT τ 0 s n) (hd : 3 < d) (h : ∀ v, isS v (fun o => decide (o < n) && btL (tCov (pOwn (fl s o))) c) → K (some (.int v)) τ) : ∀ m i, i + m = n → ∀ v, isS v (fun o => false || (decide (o < i) && btL (tCov (pOwn (fl s o))) c)) → sk_G sk_Sc d mX3_lyingOver 4 [(0, .ref 1), (1, .int (nI c)), (2, .int v), (3, .int (nI i))] [] τ K := by
  have hn := hR.1
  intro m
  induction m with
  | zero =>
    intro i hi v hv
    have : i = n := by omega
    subst this
    refine bX3_lyingOver_4 (by omega) (br_t ?_ (h v (hv.cg (fun j _ => Bool.false_or _))))
    rw [hR.n0]; exact (nI_leI (by omega) (by omega)).mpr (Nat.le_refl _)
  | succ m ih =>
    intro i hi v hv
    have hin : i < n := by omega
    refine bX3_lyingOver_4 (by omega) (br_f ?_ ⟨vp_in_nI (by omega) (by omega), ?_⟩)
    · rw [hR.n0]; exact fun z => absurd ((nI_leI (by omega) (by omega)).mp z) (by omega)
    rw [nI_1, nI_clamp (show i < 2 ^ 31 by omega)]
    refine pX5_own (sk_tileF i (by omega)) (by omega) (hR.t0 hin) (hR.ok hin) (ex_l (pX3_covered (by omega) (ex_l ?_)))
    rw [bL_t (by omega)]
    cases hb : btL (tCov (pOwn (fl s i))) c
    · rw [if_neg (by decide)]
      have : Int64.toInt32 0 = 0 := by decide
      rw [this, shl0 i (by omega), or_0]
      exact ih (i + 1) (by omega) v (step_no hv hb)
    · rw [if_pos rfl]
      have : Int64.toInt32 1 = 1 := by decide
      rw [this]
      exact ih (i + 1) (by omega) _ (step_yes hv hb (by omega))
theorem pX3_lyingOver {c : Nat} (hc : c < 48) (hR : RT τ 0 s n) (hd : 3 < d) (h : ∀ v, isS v (fun o => decide (o < n) && btL (tCov (pOwn (fl s o))) c) → K (some (.int v)) τ) : sk_C sk_Sc d mX3_lyingOver [.ref 1, .int (nI c)] τ K :=
  wX3_lyingOver (lX3_lyingOver hc hR hd h n 0 (by omega) 0 (isS_0.cg (fun _ _ => by simp)))
/-- the class's inner loop: row r + 1 asks for those of row r -/
theorem lX3_to19 {S : Nat → Bool} {r : Nat} (hr : r < 5) (hR : RT τ 0 s n) (hd : 3 < d)
    (h : ∀ v, isS v (fun o => S o || (decide (o < n) && (rwB s o r && !decide (tUn (pOwn (fl s o)) &&& orF s (fun k => rwB s k (r + 1) && S k) n = 0)))) → sk_G sk_Sc d mX3_toComeTo 4 [(0, .ref 1), (2, .int v), (3, .int (nI r))] [] τ K) :
    ∀ m i, i + m = n → ∀ v, isS v (fun o => S o || (decide (o < i) && (rwB s o r && !decide (tUn (pOwn (fl s o)) &&& orF s (fun k => rwB s k (r + 1) && S k) n = 0)))) →
    sk_G sk_Sc d mX3_toComeTo 19 [(0, .ref 1), (2, .int v), (3, .int (nI (r + 1))), (4, .long (orF s (fun k => rwB s k (r + 1) && S k) n)), (6, .int (nI i))] [] τ K := by
  have hn := hR.1
  intro m
  induction m with
  | zero =>
    intro i hi v hv
    have : i = n := by omega
    subst this
    refine bX3_toComeTo_19 (by omega) (br_t ?_ ?_)
    · rw [hR.n0]; exact (nI_leI (by omega) (by omega)).mpr (Nat.le_refl _)
    rw [pk_m1]
    exact h v hv
  | succ m ih =>
    intro i hi v hv
    have hin : i < n := by omega
    refine bX3_toComeTo_19 (by omega) (br_f ?_ ⟨vp_in_nI (by omega) (by omega), ?_⟩)
    · rw [hR.n0]; exact fun z => absurd ((nI_leI (by omega) (by omega)).mp z) (by omega)
    rw [nI_1, nI_clamp (show i < 2 ^ 31 by omega), nI_m1]
    have skip : (rwB s i r && !decide (tUn (pOwn (fl s i)) &&& orF s (fun k => rwB s k (r + 1) && S k) n = 0)) = false → sk_G sk_Sc d mX3_toComeTo 19 [(0, .ref 1), (2, .int v), (3, .int (nI (r + 1))), (4, .long (orF s (fun k => rwB s k (r + 1) && S k) n)), (6, .int (nI (i + 1)))] [] τ K := fun e => ih (i + 1) (by omega) v (step_no hv e)
    have body : rwB s i r = true → vp_in (nI i) 10 ∧ sk_C sk_Sc (d - 1) mX5_own [.ref (3 + i)] τ (fun w t51 => ∃ r51 : Int64, w = some (.long r51) ∧
            sk_C sk_Sc (d - 1) mX3_rightUnder [.long r51] t51 (fun w t54 => ∃ r54 : Int64, w = some (.long r54) ∧
              (((lg_cmp (r54 &&& (orF s (fun k => rwB s k (r + 1) && S k) n)) 0) = 0 →
                sk_G sk_Sc d mX3_toComeTo 19 [(0, .ref 1), (2, .int v), (3, .int (nI (r + 1))), (4, .long (orF s (fun k => rwB s k (r + 1) && S k) n)), (6, .int (nI (i + 1)))] [] t54 K
              ) ∧
              (¬ (lg_cmp (r54 &&& (orF s (fun k => rwB s k (r + 1) && S k) n)) 0) = 0 →
                sk_G sk_Sc d mX3_toComeTo 19 [(0, .ref 1), (2, .int (v ||| (1 <<< (nI i &&& 31)))), (3, .int (nI (r + 1))), (4, .long (orF s (fun k => rwB s k (r + 1) && S k) n)), (6, .int (nI (i + 1)))] [] t54 K
              ))
            )
          ) := by
      intro hrw
      refine ⟨vp_in_nI (by omega) (by omega), pX5_own (sk_tileF i (by omega)) (by omega) (hR.t0 hin) (hR.ok hin) (ex_l (pX3_rightUnder (ex_l ⟨fun e => skip ?_, fun e => ?_⟩)))⟩
      · rw [decide_eq_true (lc_0.mp e), Bool.not_true, Bool.and_false]
      · exact ih (i + 1) (by omega) _ (step_yes hv (by rw [hrw, decide_eq_false (fun z => e (lc_0.mpr z))]; rfl) (by omega))
    have hc := rw_iff (s := s) (hR.ok hin) (show r < 100 by omega) (fun e => body e) (fun e => skip (by rw [e]; rfl))
    exact pX5_row (sk_tileF i (by omega)) (by omega) (hR.t0 hin) (hR.ok hin) (fun c hc2 e2 => ex_i (hc.1 c hc2 e2)) (fun e2 => ex_i (hc.2 e2))
theorem lX3_toComeTo {T : Nat → Bool} (hR : RT τ 0 s n) (hd : 4 < d) (h : ∀ v R, isS v R → isCl s n T R → K (some (.int v)) τ) : ∀ r, r < 6 → ∀ v S, isS v S → (∀ o, n ≤ o → S o = false) → (∀ o, T o = true → S o = true) → (∀ C, clsd s n C → (∀ o, T o = true → C o = true) → ∀ o, S o = true → C o = true) →
    (∀ o k q, o < n → k < n → r < q → rwB s k q = true → S k = true → edB s o k = true → S o = true) → sk_G sk_Sc d mX3_toComeTo 4 [(0, .ref 1), (2, .int v), (3, .int (nI r))] [] τ K := by
  have hn := hR.1
  have hRS := hR.rs
  intro r
  induction r with
  | zero =>
    intro _ v S hv hb hT hC hcl
    refine bX3_toComeTo_4 (by omega) (br_t ((nI_leI (b := 0) (by omega) (by omega)).mpr (Nat.le_refl _)) (h v S hv ⟨hb, hT, ?_, hC⟩))
    intro o k ho hk hS he
    obtain ⟨q, h1, -⟩ := ed_row hRS hk he
    exact hcl o k (q + 1) ho hk (by omega) h1 hS he
  | succ r ih =>
    intro hr6 v S hv hb hT hC hcl
    refine bX3_toComeTo_4 (by omega) (br_f (fun z => absurd ((nI_leI (b := 0) (by omega) (by omega)).mp z) (by omega)) ?_)
    refine pX3_ownOf (r := r + 1) (by omega) hv hR (by omega) (ex_l ?_)
    refine lX3_to19 (S := S) (r := r) (by omega) hR (by omega) (fun v2 hv2 => ih (by omega) v2 _ hv2 ?_ ?_ ?_ ?_) n 0 (by omega) v (hv.cg (fun j _ => by simp))
    · intro o ho
      show (S o || _) = false
      rw [hb o ho, decide_eq_false (by omega)]; rfl
    · intro o ho
      show (S o || _) = true
      rw [hT o ho]; rfl
    · intro C hc hTC o ho
      have ho2 : (S o || (decide (o < n) && (rwB s o r && !decide (tUn (pOwn (fl s o)) &&& orF s (fun k => rwB s k (r + 1) && S k) n = 0)))) = true := ho
      cases hS : S o
      · rw [hS, Bool.false_or] at ho2
        simp only [Bool.and_eq_true, Bool.not_eq_true', decide_eq_false_iff_not, decide_eq_true_eq] at ho2
        obtain ⟨hon, hrw, hne⟩ := ho2
        rw [and_orF] at hne
        obtain ⟨k, hk⟩ := Classical.not_forall.mp hne
        obtain ⟨hkn, hk⟩ := Classical.not_imp.mp hk
        obtain ⟨hab, hz⟩ := Classical.not_imp.mp hk
        simp only [Bool.and_eq_true] at hab
        refine hc o k hon hkn (hC C hc hTC k hab.2) ?_
        rw [ed_r hRS hon hkn hab.1, hrw, decide_eq_false hz]; rfl
      · exact hC C hc hTC o hS
    · intro o k q ho hk hq hkq hSk he
      show (S o || (decide (o < n) && (rwB s o r && !decide (tUn (pOwn (fl s o)) &&& orF s (fun k => rwB s k (r + 1) && S k) n = 0)))) = true
      have hSk2 : (S k || (decide (k < n) && (rwB s k r && !decide (tUn (pOwn (fl s k)) &&& orF s (fun k => rwB s k (r + 1) && S k) n = 0)))) = true := hSk
      -- k is in a row above r, so it was there before
      have hkr : rwB s k r = false := by
        refine tn_f (fun z => ?_)
        unfold rwB at z hkq
        simp only [Bool.and_eq_true, decide_eq_true_eq] at z hkq
        omega
      rw [hkr, Bool.false_and, Bool.and_false, Bool.or_false] at hSk2
      by_cases e : q = r + 1
      · subst e
        rw [ed_r hRS ho hk hkq] at he
        simp only [Bool.and_eq_true, Bool.not_eq_true', decide_eq_false_iff_not] at he
        rw [decide_eq_true ho, he.1]
        have : ¬ (tUn (pOwn (fl s o)) &&& orF s (fun k => rwB s k (r + 1) && S k) n = 0) := fun z => he.2 ((and_orF n).mp z k hk (by rw [hkq, hSk2]; rfl))
        rw [decide_eq_false this]; simp
      · rw [hcl o k q ho hk (by omega) hkq hSk2 he]; rfl
theorem pX3_toComeTo {T : Nat → Bool} {v : Int32} (hR : RT τ 0 s n) (hd : 4 < d) (hv : isS v T) (hb : ∀ o, n ≤ o → T o = false) (h : ∀ v R, isS v R → isCl s n T R → K (some (.int v)) τ) : sk_C sk_Sc d mX3_toComeTo [.ref 1, .int v] τ K := by
  refine wX3_toComeTo (lX3_toComeTo hR hd h 5 (by omega) v T hv hb (fun _ z => z) (fun _ _ z => z) ?_)
  intro o k q ho hk hq hkq _ _
  exfalso
  unfold rwB at hkq
  simp only [Bool.and_eq_true, Bool.not_eq_true', decide_eq_false_iff_not, decide_eq_true_eq] at hkq
  rcases own_rng (hR.ok hk) with e | ⟨c, hc, e⟩
  · exact hkq.1 e
  · rw [e, nI_clamp (by omega)] at hkq
    omega
end
