/-! ===== gales: both sides ===== -/
/-- who is lifted in row r -/
def nwF (s : Nat → Int32) (n : Nat) (wk : Nat → Bool) (r k : Nat) : Bool := decide (k < n) && (rwB s k r && wk k && !coF s (abF s (LB s n wk r) r) k n)
theorem LB_s (s : Nat → Int32) (n : Nat) (wk : Nat → Bool) (r k : Nat) : LB s n wk (r + 1) k = (LB s n wk r k || nwF s n wk r k) := rfl
theorem step_no {v : Int32} {P N : Nat → Bool} {i : Nat} (h : isS v (fun j => P j || (decide (j < i) && N j))) (hN : N i = false) : isS v (fun j => P j || (decide (j < i + 1) && N j)) := by
  refine h.cg (fun j _ => ?_)
  by_cases e : j = i
  · subst e; simp [hN]
  · have : decide (j < i + 1) = decide (j < i) := by simp only [decide_eq_decide]; omega
    show (P j || (decide (j < i) && N j)) = (P j || (decide (j < i + 1) && N j))
    rw [this]
theorem step_yes {v : Int32} {P N : Nat → Bool} {i : Nat} (h : isS v (fun j => P j || (decide (j < i) && N j))) (hN : N i = true) (hi : i < 32) : isS (v ||| (1 <<< (nI i &&& 31))) (fun j => P j || (decide (j < i + 1) && N j)) := by
  refine (h.add hi).cg (fun j _ => ?_)
  show ((P j || (decide (j < i) && N j)) || decide (j = i)) = (P j || (decide (j < i + 1) && N j))
  by_cases e : j = i
  · subst e; simp [hN]
  · have : decide (j < i + 1) = decide (j < i) := by simp only [decide_eq_decide]; omega
    rw [this, decide_eq_false e, Bool.or_false]
theorem orF_no {s : Nat → Int32} {ab : Nat → Bool} (h : ∀ o, ab o = false) : ∀ n, orF s ab n = 0
  | 0 => rfl
  | n + 1 => by
    unfold orF
    rw [if_neg (by rw [h n]; decide), orF_no h n]
theorem tn_f {b : Bool} (h : ¬ b = true) : b = false := by cases b <;> simp_all
theorem tn_t {b : Bool} (h : ¬ b = false) : b = true := by cases b <;> simp_all
/-- whom a gale lifts, the weak ones being wk -/
def pLift (s : Nat → Int32) (n : Nat) (wk : Nat → Bool) : Int32 := setI (LB s n wk 6) n
theorem pLift_is {s : Nat → Int32} {n : Nat} {wk : Nat → Bool} (hn : n ≤ 10) : isS (pLift s n wk) (LB s n wk 6) := by
  refine (setI_bt (LB s n wk 6) n (by omega)).cg (fun i _ => ?_)
  show (decide (i < n) && LB s n wk 6 i) = _
  by_cases h : i < n
  · rw [decide_eq_true h, Bool.true_and]
  · rw [decide_eq_false h, Bool.false_and, LB_lt (by omega)]
def wkH (s : Nat → Int32) (lw : Option (List Tk)) (g : Int32) (k : Nat) : Bool := decide (pHold s lw k g < g)
section
variable {d : Nat} {τ σ : sk_T} {K : sk_K} {s : Nat → Int32} {n : Nat} {lw : Option (List Tk)} {g : Int32}
set_option maxHeartbeats 4000000 in
theorem lX3_blown (hd : 5 < d) (hG0 : RG τ s n lw) (h : ∀ τ2, scC τ τ2 → K (some (.int (pLift s n (wkH s lw g)))) τ2) : ∀ m r, r + m = 6 → ∀ τ2 v x, scC τ τ2 → isS v (LB s n (wkH s lw g) r) → x = tUn (orF s (abF s (LB s n (wkH s lw g) r) r) n) →
    sk_G sk_Sc d mX3_blown 7 [(0, .ref 1), (1, .int g), (2, .int v), (3, .long x), (5, .int (nI r))] [] τ2 K := by
  have hn := hG0.1.1
  have hRS := hG0.1.rs
  intro m
  induction m with
  | zero =>
    intro r hr τ2 v x hsc hv hx
    have : r = 6 := by omega
    subst this
    refine bX3_blown_7 (br_t ((nI_leI (a := 6) (by omega) (by omega)).mpr (Nat.le_refl _)) ?_)
    rw [hv.eq (pLift_is hn)]
    exact h _ hsc
  | succ m ih =>
    intro r hr τ2 v x hsc hv hx
    refine bX3_blown_7 (br_f (fun z => absurd ((nI_leI (a := 6) (by omega) (by omega)).mp z) (by omega)) ?_)
    have inner : ∀ m2 i, i + m2 = n → ∀ τ2 v, scC τ τ2 → isS v (fun j => LB s n (wkH s lw g) r j || (decide (j < i) && nwF s n (wkH s lw g) r j)) →
        sk_G sk_Sc d mX3_blown 17 [(0, .ref 1), (1, .int g), (2, .int v), (3, .long x), (5, .int (nI r)), (6, .int (nI i))] [] τ2 K := by
      intro m2
      induction m2 with
      | zero =>
        intro i hi τ2 v hsc hv
        have : i = n := by omega
        subst this
        have hG := hG0.sc hsc
        have hv2 : isS v (LB s i (wkH s lw g) (r + 1)) := by
          refine hv.cg (fun j _ => ?_)
          rw [LB_s]
          unfold nwF
          cases decide (j < i) <;> simp
        refine bX3_blown_17 (by omega) (br_t ?_ ?_)
        · rw [hG.1.n0]; exact (nI_leI (by omega) (by omega)).mpr (Nat.le_refl _)
        refine pX3_ownOf (r := r) (by omega) hv2.not hG.1 (by omega) (ex_l (pX3_rightUnder (ex_l ?_)))
        rw [nI_1]
        exact ih (r + 1) (by omega) τ2 v _ hsc hv2 rfl
      | succ m2 ih2 =>
        intro i hi τ2 v hsc hv
        have hG := hG0.sc hsc
        have hin : i < n := by omega
        refine bX3_blown_17 (by omega) (br_f ?_ ?_)
        · rw [hG.1.n0]; exact fun z => absurd ((nI_leI (by omega) (by omega)).mp z) (by omega)
        rw [nI_1, nI_clamp (show i < 2 ^ 31 by omega)]
        have skip : ∀ τ3, scC τ τ3 → nwF s n (wkH s lw g) r i = false → sk_G sk_Sc d mX3_blown 17 [(0, .ref 1), (1, .int g), (2, .int v), (3, .long x), (5, .int (nI r)), (6, .int (nI (i + 1)))] [] τ3 K := fun τ3 h3 hN => ih2 (i + 1) (by omega) τ3 v h3 (step_no hv hN)
        refine ⟨vp_in_nI (by omega) (by omega), ?_⟩
        have hno : rwB s i r = false → nwF s n (wkH s lw g) r i = false := fun e => by unfold nwF; rw [e]; simp
        have body : rwB s i r = true → vp_in (nI i) 10 ∧ sk_C sk_Sc (d - 1) mX5_own [.ref (3 + i)] τ2 (fun w t48 => ∃ r48 : Int64, w = some (.long r48) ∧
            ((¬ (lg_cmp (r48 &&& x) 0) = 0 →
              sk_G sk_Sc d mX3_blown 17 [(0, .ref 1), (1, .int g), (2, .int v), (3, .long x), (5, .int (nI r)), (6, .int (nI (i + 1)))] [] t48 K
            ) ∧
            ((lg_cmp (r48 &&& x) 0) = 0 →
              sk_C sk_Sc (d - 1) mX3_holdOf [.ref 1, .int (nI i), .int g] t48 (fun w t62 => ∃ r62 : Int32, w = some (.int r62) ∧
                ((g ≤ r62 →
                  sk_G sk_Sc d mX3_blown 17 [(0, .ref 1), (1, .int g), (2, .int v), (3, .long x), (5, .int (nI r)), (6, .int (nI (i + 1)))] [] t62 K
                ) ∧
                (¬ g ≤ r62 →
                  sk_G sk_Sc d mX3_blown 17 [(0, .ref 1), (1, .int g), (2, .int (v ||| (1 <<< (nI i &&& 31)))), (3, .long x), (5, .int (nI r)), (6, .int (nI (i + 1)))] [] t62 K
                ))
              )
            ))) := by
          intro hrw
          refine ⟨vp_in_nI (by omega) (by omega), pX5_own (sk_tileF i (by omega)) (by omega) (hG.1.t0 hin) (hG.1.ok hin) (ex_l ⟨fun e => ?_, fun e => pX3_holdOf hin hG (by omega) (fun τ3 h3 => ex_i ⟨fun e2 => ?_, fun e2 => ?_⟩)⟩)⟩
          · refine skip τ2 hsc ?_
            have hco : coF s (abF s (LB s n (wkH s lw g) r) r) i n = true := by
              refine tn_t (fun z => e (lc_0.mpr ?_))
              rw [hx]; exact (sh_co hRS hin hrw n (Nat.le_refl _)).mpr z
            unfold nwF; rw [hco]; simp
          · refine skip τ3 (hsc.tr h3) ?_
            have : wkH s lw g i = false := decide_eq_false (Int32.not_lt.mpr e2)
            unfold nwF; rw [this]; simp
          · refine ih2 (i + 1) (by omega) τ3 _ (hsc.tr h3) (step_yes hv ?_ (by omega))
            have hco : coF s (abF s (LB s n (wkH s lw g) r) r) i n = false := (sh_co hRS hin hrw n (Nat.le_refl _)).mp (by rw [← hx]; exact lc_0.mp e)
            have : wkH s lw g i = true := decide_eq_true (Int32.not_le.mp e2)
            unfold nwF; rw [hco, this, hrw, decide_eq_true hin]; rfl
        have hc := rw_iff (s := s) (hG.1.ok hin) (show r < 100 by omega) (fun e => body e) (fun e => skip τ2 hsc (hno e))
        exact pX5_row (sk_tileF i (by omega)) (by omega) (hG.1.t0 hin) (hG.1.ok hin) (fun c hc2 e2 => ex_i (hc.1 c hc2 e2)) (fun e2 => ex_i (hc.2 e2))
    refine inner n 0 (by omega) τ2 v hsc (hv.cg (fun j _ => ?_))
    simp
theorem pX3_blown (hd : 5 < d) (hG : RG τ s n lw) (h : ∀ τ2, scC τ τ2 → K (some (.int (pLift s n (wkH s lw g)))) τ2) : sk_C sk_Sc d mX3_blown [.ref 1, .int g] τ K := by
  refine wX3_blown (lX3_blown hd hG h 6 0 (by omega) τ 0 0 scC.rf (isS_0.cg (fun _ _ => rfl)) ?_)
  rw [orF_no (ab := abF s (LB s n (wkH s lw g) 0) 0) (fun _ => rfl), un_0]
/-! the reference -/
theorem lX7_findHolds (hd : 3 < d) (hR : RS (σ 1) n) (hL : RLm (σ 1) 0 lw) (h : ∀ σ2, scN σ σ2 → (∀ k, k < n → σ2 7 k = pHold (σ 1) lw k g) → K none σ2) : ∀ m i, i + m = n → ∀ σ2, scN σ σ2 → (∀ k, k < i → σ2 7 k = pHold (σ 1) lw k g) → sk_G sk_Sm d mX7_findHolds 2 [(0, .ref 0), (1, .int g), (2, .int (nI i))] [] σ2 K := by
  have hn := hR.1
  intro m
  induction m with
  | zero =>
    intro i hi σ2 hs hh
    have : i = n := by omega
    subst this
    refine bX7_findHolds_2 (by omega) (br_t ?_ (h σ2 hs hh))
    rw [hs.s1, hR.2.1]; exact (nI_leI (by omega) (by omega)).mpr (Nat.le_refl _)
  | succ m ih =>
    intro i hi σ2 hs hh
    refine bX7_findHolds_2 (by omega) (br_f ?_ ?_)
    · rw [hs.s1, hR.2.1]; exact fun z => absurd ((nI_leI (by omega) (by omega)).mp z) (by omega)
    rw [nI_1, nI_clamp (show i < 2 ^ 31 by omega)]
    refine pX7_holdOf (lw := lw) (by omega) (by omega) (by rw [hs.s1]; exact hL) (fun σ3 h3 => ex_i ⟨vp_in_nI (by omega) (by omega), ?_⟩)
    rw [hs.s1]
    refine ih (i + 1) (by omega) _ (hs.tr h3.n).u7 (fun k hk => ?_)
    by_cases e : k = i
    · subst e; rw [su_e]
    · rw [su_n e, h3 7 (by omega) (by omega)]
      exact hh k (by omega)
theorem pX7_findHolds (hd : 3 < d) (hR : RS (σ 1) n) (hL : RLm (σ 1) 0 lw) (h : ∀ σ2, scN σ σ2 → (∀ k, k < n → σ2 7 k = pHold (σ 1) lw k g) → K none σ2) : sk_C sk_Sm d mX7_findHolds [.ref 0, .int g] σ K :=
  wX7_findHolds (lX7_findHolds hd hR hL h n 0 (by omega) σ scN.rf (fun _ hk => absurd hk (by omega)))
/-- the weak ones that aren't fast -/
def wkM (f : Nat → Int32) (g : Int32) (fast : Nat → Bool) (k : Nat) : Bool := decide (f k < g) && !fast k
theorem rw_at {s : Nat → Int32} {k c : Nat} (e : fl s k 6 = nI c) (hc : c < 48) (r : Nat) : rwB s k r = decide (c / 8 = r) := by
  unfold rwB
  rw [e, nI_clamp (by omega), decide_eq_false (nI_nm1 (by omega))]; rfl
theorem rw_no {s : Nat → Int32} {k : Nat} (e : fl s k 6 = -1) (r : Nat) : rwB s k r = false := by
  unfold rwB
  rw [e]; rfl
set_option maxHeartbeats 4000000 in
theorem lX7_lifted88 {wk : Nat → Bool} {fv lv nv : Int32} {r k : Nat} {c : Bool} (hd : 4 < d) (hR : RS (σ 1) n) (hk : k < n) (hr : r < 6) (hrw : c = true → rwB (σ 1) k r = true) (hlv : isS lv (LB (σ 1) n wk r))
    (h1 : (c && !coF (σ 1) (abF (σ 1) (LB (σ 1) n wk r) r) k n) = true → sk_G sk_Sm d mX7_liftedBy 18 [(0, .ref 0), (1, .int g), (2, .int fv), (3, .int lv), (4, .int (nI r)), (5, .int (nv ||| (1 <<< (nI k &&& 31)))), (6, .int (nI (k + 1)))] [] σ K)
    (h0 : (c && !coF (σ 1) (abF (σ 1) (LB (σ 1) n wk r) r) k n) = false → sk_G sk_Sm d mX7_liftedBy 18 [(0, .ref 0), (1, .int g), (2, .int fv), (3, .int lv), (4, .int (nI r)), (5, .int nv), (6, .int (nI (k + 1)))] [] σ K) :
    ∀ m i, i + m = n → sk_G sk_Sm d mX7_liftedBy 88 [(0, .ref 0), (1, .int g), (2, .int fv), (3, .int lv), (4, .int (nI r)), (5, .int nv), (6, .int (nI k)), (7, .int (bI (c && !coF (σ 1) (abF (σ 1) (LB (σ 1) n wk r) r) k i))), (8, .int (nI i))] [] σ K := by
  have hn := hR.1
  intro m
  induction m with
  | zero =>
    intro i hi
    have : i = n := by omega
    subst this
    refine bX7_liftedBy_88 (by omega) (br_t ?_ ?_)
    · rw [hR.2.1]; exact (nI_leI (by omega) (by omega)).mpr (Nat.le_refl _)
    rw [nI_1, or_0]
    cases e : (c && !coF (σ 1) (abF (σ 1) (LB (σ 1) i wk r) r) k i)
    · exact br_t rfl (h0 e)
    · exact br_f i1_0 (h1 e)
  | succ m ih =>
    intro i hi
    have hin : i < n := by omega
    refine bX7_liftedBy_88 (by omega) (br_f ?_ ?_)
    · rw [hR.2.1]; exact fun z => absurd ((nI_leI (by omega) (by omega)).mp z) (by omega)
    rw [nI_1, nI_1, or_0]
    have ih2 := ih (i + 1) (by omega)
    unfold coF at ih2
    cases e : (c && !coF (σ 1) (abF (σ 1) (LB (σ 1) n wk r) r) k i)
    · refine br_t rfl ⟨fun _ => h0 ?_, fun z => absurd rfl z⟩
      have mono : ∀ j, coF (σ 1) (abF (σ 1) (LB (σ 1) n wk r) r) k i = true → coF (σ 1) (abF (σ 1) (LB (σ 1) n wk r) r) k (i + j) = true := by
        intro j h
        induction j with
        | zero => exact h
        | succ j ihj => show (coF _ _ _ (i + j) || _) = true; rw [ihj]; rfl
      cases hc : c
      · rfl
      · rw [hc, Bool.true_and] at e
        have e2 : coF (σ 1) (abF (σ 1) (LB (σ 1) n wk r) r) k i = true := by simpa using e
        have := mono (n - i) e2
        rw [show i + (n - i) = n by omega] at this
        rw [this]; rfl
    · have hc : c = true := by cases hc : c <;> simp_all
      subst hc
      have hkr := hrw rfl
      have e2 : coF (σ 1) (abF (σ 1) (LB (σ 1) n wk r) r) k i = false := by simpa using e
      rw [e2, Bool.false_or, Bool.true_and] at ih2
      -- not above: the next one
      have skip : abF (σ 1) (LB (σ 1) n wk r) r i = false → sk_G sk_Sm d mX7_liftedBy 88 [(0, .ref 0), (1, .int g), (2, .int fv), (3, .int lv), (4, .int (nI r)), (5, .int nv), (6, .int (nI k)), (7, .int 1), (8, .int (nI (i + 1)))] [] σ K := by
        intro ha
        rw [ha, Bool.false_and] at ih2
        exact ih2
      refine br_f i1_0 ⟨fun e3 => ?_, fun e3 => pX7_its 6 (by omega) (by omega) (ex_i ?_)⟩
      · have e4 : i = k := (nI_eq (by omega) (by omega)).mp e3
        subst e4
        refine br_t rfl (skip ?_)
        cases r with
        | zero => rfl
        | succ r =>
          show (rwB (σ 1) i r && !LB (σ 1) n wk (r + 1) i) = false
          rcases own_rng (hR.2.2 i hin) with e5 | ⟨cc, hcc, e5⟩
          · rw [rw_no e5]; rfl
          · rw [rw_at e5 hcc] at hkr ⊢
            have := of_decide_eq_true hkr
            rw [decide_eq_false (by omega)]; rfl
      · rcases own_rng (hR.2.2 i hin) with e5 | ⟨cc, hcc, e5⟩
        · refine br_t e5 (br_t rfl (skip ?_))
          cases r with
          | zero => rfl
          | succ r =>
            show (rwB (σ 1) i r && !LB (σ 1) n wk (r + 1) i) = false
            rw [rw_no e5]; rfl
        · refine br_f (by rw [e5]; exact nI_nm1 (by omega)) (pX7_its 6 (by omega) (by omega) (ex_i ?_))
          rw [e5, show (8 : Int32) = nI 8 from rfl, pk_div (by omega) (by omega) (by omega)]
          cases r with
          | zero =>
            refine ns_t ?_ (br_t rfl (skip rfl))
            show ¬ nI (cc / 8) = nI 0 - 1
            exact fun z => nI_nm1 (by omega) (z.trans (by decide))
          | succ r =>
            rw [nI_m1, nI_eq (by omega) (by omega)]
            have ha : abF (σ 1) (LB (σ 1) n wk (r + 1)) (r + 1) i = (decide (cc / 8 = r) && !LB (σ 1) n wk (r + 1) i) := by
              show (rwB (σ 1) i r && _) = _
              rw [rw_at e5 hcc]
            refine ⟨fun e6 => br_t rfl (skip ?_), fun e6 => ?_⟩
            · rw [ha, decide_eq_false e6]; rfl
            · rw [b_t0 (by omega), hlv i (by omega)]
              refine ⟨fun e7 => br_t rfl (skip ?_), fun e7 => br_f i1_0 (pX7_covers (by omega) (by omega) (hR.2.2 i hin) (ex_l (pX7_own (by omega) (by omega) (hR.2.2 k hk) (ex_l ⟨fun e8 => ?_, fun e8 => ?_⟩))))⟩
              · rw [ha, tn_t e7, Bool.not_true, Bool.and_false]
              · have e9 : ¬ tCov (pOwn (fl (σ 1) i)) &&& pOwn (fl (σ 1) k) = 0 := fun z => e8 (lc_0.mpr z)
                rw [ha, decide_eq_true e6, e7, decide_eq_false e9] at ih2
                exact ih2
              · rw [decide_eq_true (lc_0.mp e8), Bool.not_true, Bool.and_false] at ih2
                exact ih2
end
