/-! ===== to come to a cell: the reference ===== -/
/-- laid, in row rr, or anywhere (none) -/
def kdB (s : Nat → Int32) (rr : Option Nat) (o : Nat) : Bool := match rr with
  | none => !decide (fl s o 6 = -1)
  | some r => rwB s o r
def kdV (rr : Option Nat) : Int32 := match rr with
  | none => -1
  | some r => nI r
theorem cvB_none {s : Nat → Int32} {n : Nat} {x : Int64} (hR : RS s n) (o : Nat) : cvB s n x (kdB s none) o = (decide (o < n) && !decide (tCov (pOwn (fl s o)) &&& x = 0)) := by
  unfold cvB kdB
  by_cases h : o < n
  · rw [decide_eq_true h, Bool.true_and, Bool.true_and]
    by_cases e : fl s o 6 = -1
    · have : pOwn (fl s o) = 0 := (own_z (hR.2.2 o h)).mpr e
      have e2 : tCov 0 &&& x = 0 := by
        have : tCov 0 = 0 := by decide
        rw [this, Int64.zero_and]
      rw [this, decide_eq_true e2]; simp
    · rw [decide_eq_false e]; rfl
  · rw [decide_eq_false h]; rfl
section
variable {d : Nat} {τ σ : sk_T} {K : sk_K} {s : Nat → Int32} {n : Nat}
theorem lX7_coveredBy {x : Int64} {rr : Option Nat} (hrr : ∀ r, rr = some r → r < 100) (hR : RS (σ 1) n) (hd : 4 < d) (h : ∀ v, isS v (cvB (σ 1) n x (kdB (σ 1) rr)) → K (some (.int v)) σ) : ∀ m i, i + m = n → ∀ v, isS v (fun o => false || (decide (o < i) && (kdB (σ 1) rr o && !decide (tCov (pOwn (fl (σ 1) o)) &&& x = 0)))) →
    sk_G sk_Sm d mX7_coveredBy 6 [(0, .ref 0), (1, .long x), (3, .int (kdV rr)), (4, .int v), (5, .int (nI i))] [] σ K := by
  have hn := hR.1
  intro m
  induction m with
  | zero =>
    intro i hi v hv
    have : i = n := by omega
    subst this
    refine bX7_coveredBy_6 (by omega) (br_t ?_ (h v (hv.cg (fun j _ => Bool.false_or _))))
    rw [hR.2.1]; exact (nI_leI (by omega) (by omega)).mpr (Nat.le_refl _)
  | succ m ih =>
    intro i hi v hv
    have hin : i < n := by omega
    refine bX7_coveredBy_6 (by omega) (br_f ?_ (pX7_its 6 (by omega) (by omega) (ex_i ?_)))
    · rw [hR.2.1]; exact fun z => absurd ((nI_leI (by omega) (by omega)).mp z) (by omega)
    rw [nI_1, or_0]
    have skip : (kdB (σ 1) rr i && !decide (tCov (pOwn (fl (σ 1) i)) &&& x = 0)) = false → sk_G sk_Sm d mX7_coveredBy 6 [(0, .ref 0), (1, .long x), (3, .int (kdV rr)), (4, .int v), (5, .int (nI (i + 1)))] [] σ K := fun e => ih (i + 1) (by omega) v (step_no hv e)
    have cov : kdB (σ 1) rr i = true → sk_C sk_Sm (d - 1) mX7_covers [.ref 0, .int (nI i)] σ (fun w t53 => ∃ r53 : Int64, w = some (.long r53) ∧
              (((lg_cmp (r53 &&& x) 0) = 0 →
                (((0 : Int32) = 0 →
                  sk_G sk_Sm d mX7_coveredBy 6 [(0, .ref 0), (1, .long x), (3, .int (kdV rr)), (4, .int v), (5, .int (nI (i + 1)))] [] t53 K
                ) ∧
                (¬ (0 : Int32) = 0 →
                  sk_G sk_Sm d mX7_coveredBy 6 [(0, .ref 0), (1, .long x), (3, .int (kdV rr)), (4, .int (v ||| (1 <<< (nI i &&& 31)))), (5, .int (nI (i + 1)))] [] t53 K
                ))
              ) ∧
              (¬ (lg_cmp (r53 &&& x) 0) = 0 →
                (((1 : Int32) = 0 →
                  sk_G sk_Sm d mX7_coveredBy 6 [(0, .ref 0), (1, .long x), (3, .int (kdV rr)), (4, .int v), (5, .int (nI (i + 1)))] [] t53 K
                ) ∧
                (¬ (1 : Int32) = 0 →
                  sk_G sk_Sm d mX7_coveredBy 6 [(0, .ref 0), (1, .long x), (3, .int (kdV rr)), (4, .int (v ||| (1 <<< (nI i &&& 31)))), (5, .int (nI (i + 1)))] [] t53 K
                ))
              ))) := by
      intro hkd
      refine pX7_covers (by omega) (by omega) (hR.2.2 i hin) (ex_l ⟨fun e => br_t rfl (skip ?_), fun e => br_f i1_0 ?_⟩)
      · rw [decide_eq_true (lc_0.mp e)]; simp
      · exact ih (i + 1) (by omega) _ (step_yes hv (by rw [hkd, decide_eq_false (fun z => e (lc_0.mpr z))]; rfl) (by omega))
    rcases own_rng (hR.2.2 i hin) with e5 | ⟨cc, hcc, e5⟩
    · refine br_t e5 (br_t rfl (skip ?_))
      cases rr with
      | none => unfold kdB; rw [decide_eq_true e5]; rfl
      | some r =>
        show (rwB (σ 1) i r && _) = false
        rw [rw_no e5]; rfl
    · refine br_f (by rw [e5]; exact nI_nm1 (by omega)) ?_
      cases rr with
      | none => exact br_t rfl (cov (by unfold kdB; rw [decide_eq_false (by rw [e5]; exact nI_nm1 (by omega))]; rfl))
      | some r =>
        have hr := hrr r rfl
        refine br_f (nI_nm1 (by omega)) (pX7_its 6 (by omega) (by omega) (ex_i ?_))
        rw [e5, show (8 : Int32) = nI 8 from rfl, pk_div (by omega) (by omega) (by omega)]
        have hk : kdB (σ 1) (some r) i = decide (cc / 8 = r) := rw_at e5 hcc r
        refine ⟨fun e6 => br_t rfl (skip ?_), fun e6 => cov ?_⟩
        · rw [hk, decide_eq_false (fun z => e6 (by rw [z]; rfl))]; rfl
        · rw [hk]
          exact decide_eq_true ((nI_eq (by omega) (by omega)).mp e6)
theorem pX7_coveredBy {x : Int64} {rr : Option Nat} (hrr : ∀ r, rr = some r → r < 100) (hR : RS (σ 1) n) (hd : 4 < d) (h : ∀ v, isS v (cvB (σ 1) n x (kdB (σ 1) rr)) → K (some (.int v)) σ) : sk_C sk_Sm d mX7_coveredBy [.ref 0, .long x, .int (kdV rr)] σ K :=
  wX7_coveredBy (lX7_coveredBy hrr hR hd h n 0 (by omega) 0 (isS_0.cg (fun _ _ => by simp)))
/-- those that cover an OWN CELL of one of W below i -/
def stB (s : Nat → Int32) (n : Nat) (W : Nat → Bool) : Nat → Nat → Bool
  | 0, _ => false
  | i + 1, o => stB s n W i o || (W i && (decide (o < n) && edB s o i))
theorem stB_lt {s : Nat → Int32} {n : Nat} {W : Nat → Bool} {o : Nat} (h : n ≤ o) : ∀ i, stB s n W i o = false
  | 0 => rfl
  | i + 1 => by unfold stB; rw [stB_lt h i, decide_eq_false (by omega)]; simp
theorem stB_iff {s : Nat → Int32} {n : Nat} {W : Nat → Bool} {o : Nat} : ∀ i, (stB s n W i o = true ↔ ∃ k, k < i ∧ W k = true ∧ o < n ∧ edB s o k = true)
  | 0 => ⟨fun z => absurd z (by unfold stB; decide), fun ⟨k, hk, _⟩ => absurd hk (by omega)⟩
  | i + 1 => by
    have ih := stB_iff (s := s) (n := n) (W := W) (o := o) i
    unfold stB
    rw [Bool.or_eq_true, ih]
    simp only [Bool.and_eq_true, decide_eq_true_eq]
    constructor
    · rintro (⟨k, h1, h2⟩ | ⟨h1, h2, h3⟩)
      · exact ⟨k, by omega, h2⟩
      · exact ⟨i, by omega, h1, h2, h3⟩
    · rintro ⟨k, h1, h2, h3, h4⟩
      by_cases e : k = i
      · subst e; exact Or.inr ⟨h2, h3, h4⟩
      · exact Or.inl ⟨k, by omega, h2, h3, h4⟩
theorem lX7_over54 {S W : Nat → Bool} {wv : Int32} (hR : RS (σ 1) n) (hd : 5 < d) (hW : isS wv W)
    (h : ∀ v, isS v (fun o => S o || stB (σ 1) n W n o) → sk_G sk_Sm d mX7_over 37 [(0, .ref 0), (2, .int 1), (3, .int v), (4, .int wv)] [] σ K) :
    ∀ m i, i + m = n → ∀ v, isS v (fun o => S o || stB (σ 1) n W i o) → sk_G sk_Sm d mX7_over 54 [(0, .ref 0), (2, .int 1), (3, .int v), (4, .int wv), (5, .int (nI i))] [] σ K := by
  have hn := hR.1
  intro m
  induction m with
  | zero =>
    intro i hi v hv
    have : i = n := by omega
    subst this
    refine bX7_over_54 (by omega) (br_t ?_ (h v hv))
    rw [hR.2.1]; exact (nI_leI (by omega) (by omega)).mpr (Nat.le_refl _)
  | succ m ih =>
    intro i hi v hv
    have hin : i < n := by omega
    refine bX7_over_54 (by omega) (br_f ?_ (pX7_its 6 (by omega) (by omega) (ex_i ?_)))
    · rw [hR.2.1]; exact fun z => absurd ((nI_leI (by omega) (by omega)).mp z) (by omega)
    rw [nI_1, or_0, b_t1 (by omega), hW i (by omega)]
    have skip : (∀ o, (W i && (decide (o < n) && edB (σ 1) o i)) = false) → sk_G sk_Sm d mX7_over 54 [(0, .ref 0), (2, .int 1), (3, .int v), (4, .int wv), (5, .int (nI (i + 1)))] [] σ K := fun e => ih (i + 1) (by omega) v (hv.cg (fun o _ => by
      show (S o || stB (σ 1) n W i o) = (S o || (stB (σ 1) n W i o || (W i && (decide (o < n) && edB (σ 1) o i))))
      rw [e o, Bool.or_false]))
    refine ⟨fun e => skip (fun o => by rw [tn_f e]; rfl), fun e => ?_⟩
    rcases own_rng (hR.2.2 i hin) with e5 | ⟨cc, hcc, e5⟩
    · rw [e5]
      refine br_t (by decide) (skip (fun o => ?_))
      have : edB (σ 1) o i = false := by
        unfold edB
        rw [e5]; rfl
      rw [this]; simp
    · rw [e5, show (8 : Int32) = nI 8 from rfl, pk_div (by omega) (by omega) (by omega)]
      cases h2 : cc / 8 with
      | zero =>
        refine br_t (by decide) (skip (fun o => ?_))
        have : edB (σ 1) o i = false := by
          unfold edB
          rw [e5, nI_clamp (by omega), h2]
        rw [this]; simp
      | succ r =>
        refine br_f (nI_nle (by omega) (by omega)) (pX7_own (by omega) (by omega) (hR.2.2 i hin) (ex_l ?_))
        rw [nI_m1]
        refine pX7_coveredBy (rr := some r) (fun q hq => by cases hq; omega) hR (by omega) (fun u hu => ex_i ?_)
        refine ih (i + 1) (by omega) _ ((hv.or hu).cg (fun o _ => ?_))
        show ((S o || stB (σ 1) n W i o) || cvB (σ 1) n (pOwn (fl (σ 1) i)) (kdB (σ 1) (some r)) o) = (S o || (stB (σ 1) n W i o || (W i && (decide (o < n) && edB (σ 1) o i))))
        have : edB (σ 1) o i = (rwB (σ 1) o r && !decide (tCov (pOwn (fl (σ 1) o)) &&& pOwn (fl (σ 1) i) = 0)) := by
          unfold edB
          rw [e5, nI_clamp (by omega), h2]
        rw [this, e, Bool.true_and, Bool.or_assoc]
        rfl
theorem ct_sub {S S2 : Nat → Bool} : ∀ n, (∀ o, S o = true → S2 o = true) → (∀ o, o < n → S o = S2 o) ∨ fb_ct (fun o => !S2 o) n < fb_ct (fun o => !S o) n
  | 0, _ => Or.inl (fun o ho => absurd ho (by omega))
  | n + 1, h => by
    have hle : ∀ m, fb_ct (fun o => !S2 o) m ≤ fb_ct (fun o => !S o) m := by
      intro m
      induction m with
      | zero => exact Nat.le_refl _
      | succ m ih =>
        rw [fb_ct_succ, fb_ct_succ]
        have h3 := h m
        cases h4 : S m with
        | true =>
          rw [h3 h4]
          simp only [Bool.not_true, Bool.false_eq_true, if_false]
          omega
        | false =>
          cases S2 m
          · simp only [Bool.not_false, if_true]
            omega
          · simp only [Bool.not_true, Bool.not_false, Bool.false_eq_true, if_false, if_true]
            omega
    rcases ct_sub n h with h1 | h1
    · by_cases e : S n = S2 n
      · refine Or.inl (fun o ho => ?_)
        by_cases e2 : o = n
        · subst e2; exact e
        · exact h1 o (by omega)
      · refine Or.inr ?_
        rw [fb_ct_succ, fb_ct_succ]
        have h2 := hle n
        have h3 := h n
        cases h4 : S n with
        | true => exact absurd (h4.trans (h3 h4).symm) e
        | false =>
          cases h5 : S2 n with
          | false => exact absurd (h4.trans h5.symm) e
          | true =>
            simp only [Bool.not_true, Bool.not_false, Bool.false_eq_true, if_false, if_true]
            omega
    · refine Or.inr ?_
      rw [fb_ct_succ, fb_ct_succ]
      have h3 := h n
      cases h4 : S n with
      | true =>
        rw [h3 h4]
        simp only [Bool.not_true, Bool.false_eq_true, if_false]
        omega
      | false =>
        cases S2 n
        · simp only [Bool.not_false, if_true]
          omega
        · simp only [Bool.not_true, Bool.not_false, Bool.false_eq_true, if_false, if_true]
          omega
theorem lX7_over37 {T : Nat → Bool} (hR : RS (σ 1) n) (hd : 5 < d) (h : ∀ v R, isS v R → isCl (σ 1) n T R → K (some (.int v)) σ) : ∀ c v S wv W, fb_ct (fun o => !S o) n = c → isS v S → isS wv W → (∀ o, n ≤ o → S o = false) → (∀ o, T o = true → S o = true) → (∀ C, clsd (σ 1) n C → (∀ o, T o = true → C o = true) → ∀ o, S o = true → C o = true) →
    ((∀ o, o < n → W o = S o) → clsd (σ 1) n S) → sk_G sk_Sm d mX7_over 37 [(0, .ref 0), (2, .int 1), (3, .int v), (4, .int wv)] [] σ K := by
  have hn := hR.1
  intro c
  induction c using Nat.strongRecOn with
  | ind c ih =>
    intro v S wv W hc hv hwv hb hT hC hfix
    refine bX7_over_37 (ns_f rfl ⟨fun e => ?_, fun e => ?_⟩)
    · refine h v S hv ⟨hb, hT, hfix (fun o ho => ?_), hC⟩
      rw [← hwv o (by omega), e, hv o (by omega)]
    · have hst : ∀ o k, o < n → k < n → S k = true → edB (σ 1) o k = true → (S o || stB (σ 1) n S n o) = true := fun o k ho hk hS he => by
        rw [(stB_iff n).mpr ⟨k, hk, hS, ho, he⟩, Bool.or_true]
      have hb2 : ∀ o, n ≤ o → (S o || stB (σ 1) n S n o) = false := fun o ho => by rw [hb o ho, stB_lt ho]; rfl
      have hT2 : ∀ o, T o = true → (S o || stB (σ 1) n S n o) = true := fun o ho => by rw [hT o ho]; rfl
      have hC2 : ∀ C, clsd (σ 1) n C → (∀ o, T o = true → C o = true) → ∀ o, (S o || stB (σ 1) n S n o) = true → C o = true := by
        intro C hcl hTC o ho
        cases hS : S o
        · rw [hS, Bool.false_or] at ho
          obtain ⟨k, hk, hSk, hon, he⟩ := (stB_iff n).mp ho
          exact hcl o k hon hk (hC C hcl hTC k hSk) he
        · exact hC C hcl hTC o hS
      have hfix2 : (∀ o, o < n → S o = (S o || stB (σ 1) n S n o)) → clsd (σ 1) n (fun o => S o || stB (σ 1) n S n o) := by
        intro heq o k ho hk hS he
        have hS2 : (S k || stB (σ 1) n S n k) = true := hS
        rw [← heq k hk] at hS2
        exact hst o k ho hk hS2 he
      refine lX7_over54 (S := S) (W := S) hR hd hv (fun v2 hv2 => ?_) n 0 (by omega) v (hv.cg (fun o _ => by unfold stB; simp))
      rcases ct_sub (S := S) (S2 := fun o => S o || stB (σ 1) n S n o) n (fun o ho => by show (S o || _) = true; rw [ho]; rfl) with h1 | h1
      · -- nothing new: the next look ends it
        have hvv : v = v2 := hv.eq (hv2.cg (fun o _ => by
          show (S o || stB (σ 1) n S n o) = S o
          rcases Nat.lt_or_ge o n with h3 | h3
          · exact (h1 o h3).symm
          · rw [hb o h3, stB_lt h3]; rfl))
        exact bX7_over_37 (ns_f rfl (br_t hvv (h v2 _ hv2 ⟨hb2, hT2, hfix2 h1, hC2⟩)))
      · exact ih _ (by rw [← hc]; exact h1) v2 _ v S rfl hv2 hv hb2 hT2 hC2 hfix2
end
