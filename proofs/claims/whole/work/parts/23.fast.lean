/-! ===== whom one must nail fast: the class's short way, the reference's long one ===== -/
def uB (s : Nat → Int32) (n : Nat) (lw : Option (List Tk)) (g : Int32) (k : Nat) : Bool := decide (k < n) && (!decide (fl s k 6 = -1) && (decide (pOwn (fl s k) &&& tUn (orF s (fun _ => true) n) = 0) && wkH s lw g k))
theorem orU {s : Nat → Int32} {ab : Nat → Bool} {x : Int64} : ∀ n, (x &&& tUn (orF s ab n) = 0 ↔ ∀ k, k < n → ab k = true → x &&& tUn (pOwn (fl s k)) = 0)
  | 0 => by
    show x &&& tUn 0 = 0 ↔ _
    rw [un_0, Int64.and_zero]
    exact ⟨fun _ k hk => absurd hk (by omega), fun _ => rfl⟩
  | n + 1 => by
    have ih := orU (s := s) (ab := ab) (x := x) n
    unfold orF
    by_cases h : ab n = true
    · rw [if_pos h, un_or, Int64.and_comm, or_and_z, Int64.and_comm, ih, Int64.and_comm]
      constructor
      · rintro ⟨h1, h2⟩ k hk hab
        by_cases e : k = n
        · subst e; exact h2
        · exact h1 k (by omega) hab
      · intro h1
        exact ⟨fun k hk => h1 k (by omega), h1 n (by omega) h⟩
    · rw [if_neg h, ih]
      constructor
      · intro h1 k hk hab
        by_cases e : k = n
        · subst e; exact absurd hab h
        · exact h1 k (by omega) hab
      · intro h1 k hk hab; exact h1 k (by omega) hab
theorem un_row {s : Nat → Int32} {k o kk oo r q : Nat} (hk : tl_ok (fl s k) kk) (ho : tl_ok (fl s o) oo) (h1 : rwB s k r = true) (h2 : rwB s o q = true) (hne : r ≠ q + 1) : pOwn (fl s k) &&& tUn (pOwn (fl s o)) = 0 := by
  rw [and_z]
  rintro i hi ⟨a, b⟩
  rw [bL_un hi] at b
  simp only [Bool.and_eq_true, decide_eq_true_eq] at b
  have e1 := own_row hk h1 hi a
  have e2 := own_row ho h2 (by omega) b.1.2
  omega
theorem coF_f {s : Nat → Int32} {ab : Nat → Bool} {k : Nat} : ∀ n, (coF s ab k n = false ↔ ∀ o, o < n → ab o = true → tCov (pOwn (fl s o)) &&& pOwn (fl s k) = 0)
  | 0 => ⟨fun _ o ho => absurd ho (by omega), fun _ => rfl⟩
  | n + 1 => by
    have ih := coF_f (s := s) (ab := ab) (k := k) n
    unfold coF
    rw [Bool.or_eq_false_iff, ih]
    constructor
    · rintro ⟨h1, h2⟩ o ho hab
      by_cases e : o = n
      · subst e
        rw [hab, Bool.true_and] at h2
        exact of_decide_eq_true (by simpa using h2)
      · exact h1 o (by omega) hab
    · intro h1
      refine ⟨fun o ho => h1 o (by omega), ?_⟩
      cases h : ab n
      · rfl
      · rw [decide_eq_true (h1 n (by omega) h)]; rfl
theorem row_of {s : Nat → Int32} {k kk : Nat} (hk : tl_ok (fl s k) kk) (h : ¬ fl s k 6 = -1) : ∃ r, r < 6 ∧ rwB s k r = true := by
  rcases own_rng hk with e | ⟨c, hc, e⟩
  · exact absurd e h
  · exact ⟨c / 8, by omega, by rw [rw_at e hc]; exact decide_eq_true rfl⟩
theorem LB_mono {s : Nat → Int32} {n : Nat} {wk : Nat → Bool} {k r : Nat} (h : LB s n wk r k = true) : ∀ m, LB s n wk (r + m) k = true
  | 0 => h
  | m + 1 => by
    show (LB s n wk (r + m) k || _) = true
    rw [LB_mono h m]; rfl
/-- none is lifted just where all of U are fast -/
theorem fast_iff {s : Nat → Int32} {n : Nat} {lw : Option (List Tk)} {g : Int32} {fast : Nat → Bool} (hR : RS s n) : (∀ k, LB s n (wkM (fun k => pHold s lw k g) g fast) 6 k = false) ↔ ∀ k, uB s n lw g k = true → fast k = true := by
  constructor
  · intro h k hu
    unfold uB at hu
    simp only [Bool.and_eq_true, Bool.not_eq_true', decide_eq_false_iff_not, decide_eq_true_eq] at hu
    obtain ⟨hk, hl, hs, hw⟩ := hu
    obtain ⟨r, hr, hrw⟩ := row_of (hR.2.2 k hk) hl
    refine tn_t (fun hf => ?_)
    have hlb : ∀ q, q ≤ 6 → ∀ o, LB s n (wkM (fun k => pHold s lw k g) g fast) q o = false := fun q hq o => tn_f (fun z => by
      have := LB_mono z (6 - q)
      rw [show q + (6 - q) = 6 by omega, h o] at this
      cases this)
    have h1 := hlb (r + 1) (by omega) k
    rw [LB_s, hlb r (by omega) k, Bool.false_or] at h1
    have hco : coF s (abF s (LB s n (wkM (fun k => pHold s lw k g) g fast) r) r) k n = false := by
      rw [coF_f]
      intro o ho hab
      cases r with
      | zero => exact absurd hab Bool.false_ne_true
      | succ r =>
        have hab2 : (rwB s o r && !LB s n (wkM (fun k => pHold s lw k g) g fast) (r + 1) o) = true := hab
        simp only [Bool.and_eq_true] at hab2
        unfold tCov
        rw [or_and_z]
        refine ⟨own_apart (hR.2.2 k hk) (hR.2.2 o ho) hrw hab2.1 (by omega), ?_⟩
        rw [Int64.and_comm]
        exact (orU n).mp hs o ho rfl
    have hwk : wkM (fun k => pHold s lw k g) g fast k = true := by
      unfold wkM
      unfold wkH at hw
      rw [hf]
      simpa using hw
    unfold nwF at h1
    rw [hco, hwk, hrw, decide_eq_true hk] at h1
    cases h1
  · intro h
    have main : ∀ r, ∀ k, LB s n (wkM (fun k => pHold s lw k g) g fast) r k = false := by
      intro r
      induction r with
      | zero => intro k; rfl
      | succ r ih =>
        intro k
        rw [LB_s, ih k, Bool.false_or]
        refine tn_f (fun z => ?_)
        unfold nwF at z
        simp only [Bool.and_eq_true, decide_eq_true_eq, Bool.not_eq_true'] at z
        obtain ⟨hk, ⟨hrw, hwk⟩, hco⟩ := z
        unfold wkM at hwk
        simp only [Bool.and_eq_true, decide_eq_true_eq, Bool.not_eq_true'] at hwk
        have hl : ¬ fl s k 6 = -1 := by
          intro e
          rw [rw_no e] at hrw; cases hrw
        have hu : uB s n lw g k = true := by
          unfold uB wkH
          rw [decide_eq_true hk, decide_eq_false hl, decide_eq_true hwk.1]
          have hz : pOwn (fl s k) &&& tUn (orF s (fun _ => true) n) = 0 := by
            rw [orU]
            intro o ho _
            by_cases hlo : fl s o 6 = -1
            · rw [(own_z (hR.2.2 o ho)).mpr hlo, un_0, Int64.and_zero]
            · obtain ⟨q, hq, hqw⟩ := row_of (hR.2.2 o ho) hlo
              by_cases e : r = q + 1
              · subst e
                have := (coF_f n).mp hco o ho (by
                  show (rwB s o q && !LB s n (wkM (fun k => pHold s lw k g) g fast) (q + 1) o) = true
                  rw [hqw, ih o]; rfl)
                unfold tCov at this
                rw [or_and_z] at this
                rw [Int64.and_comm]; exact this.2
              · exact un_row (hR.2.2 k hk) (hR.2.2 o ho) hrw hqw e
          rw [decide_eq_true hz]; rfl
        have := h k hu
        rw [this] at hwk
        cases hwk.2
    exact main 6
theorem pLift_0 {s : Nat → Int32} {n : Nat} {wk : Nat → Bool} (hn : n ≤ 10) : pLift s n wk = 0 ↔ ∀ k, LB s n wk 6 k = false := by
  have h := pLift_is (s := s) (n := n) (wk := wk) hn
  constructor
  · intro e k
    rcases Nat.lt_or_ge k 32 with h1 | h1
    · rw [← h k h1, e, b_0]
    · exact LB_lt (by omega)
  · intro e
    exact h.eq (isS_0.cg (fun i _ => (e i).symm))
theorem nI_bt (w i : Nat) (hi : i < 32) : bt (nI w) i = w.testBit i := by
  show (BitVec.ofNat 32 w).getLsbD i = _
  rw [BitVec.getLsbD_ofNat]
  simp [hi]
theorem isS_nI (w : Nat) : isS (nI w) (fun k => w.testBit k) := fun i hi => nI_bt w i hi
theorem isS_num {v : Int32} {B : Nat → Bool} {n : Nat} (h : isS v B) (hn : n ≤ 10) (hb : ∀ o, n ≤ o → B o = false) : ∃ u, u < 2 ^ n ∧ v = nI u ∧ ∀ i, u.testBit i = B i := by
  refine ⟨v.toBitVec.toNat, ?_, ?_, fun i => ?_⟩
  · refine Nat.lt_pow_two_of_testBit _ (fun i hi => ?_)
    rcases Nat.lt_or_ge i 32 with h1 | h1
    · have := h i h1
      rw [hb i hi] at this
      exact this
    · exact Nat.testBit_lt_two_pow (Nat.lt_of_lt_of_le v.toBitVec.isLt (Nat.pow_le_pow_right (by omega) h1))
  · apply Int32.toBitVec_inj.mp
    apply BitVec.eq_of_toNat_eq
    show _ = (BitVec.ofNat 32 v.toBitVec.toNat).toNat
    rw [BitVec.toNat_ofNat, Nat.mod_eq_of_lt v.toBitVec.isLt]
  · rcases Nat.lt_or_ge i 32 with h1 | h1
    · exact h i h1
    · rw [hb i (by omega)]
      exact Nat.testBit_lt_two_pow (Nat.lt_of_lt_of_le v.toBitVec.isLt (Nat.pow_le_pow_right (by omega) h1))
theorem pop_10 {w : Nat} (h : w < 1024) : pop (Int32.toInt64 (nI w)) = pop10 w := by
  rw [nI_l (by omega), pop_n]
  have e : (lN w).toBitVec.toNat = w := by
    show (BitVec.ofNat 64 w).toNat = w
    rw [BitVec.toNat_ofNat, Nat.mod_eq_of_lt (by omega)]
  rw [e]
  have hz : ∀ k, 10 ≤ k → w.testBit k = false := fun k hk => Nat.testBit_lt_two_pow (Nat.lt_of_lt_of_le h (Nat.pow_le_pow_right (n := 2) (i := 10) (j := k) (by omega) hk))
  have main : ∀ m, fb_ct (fun j => w.testBit j) (10 + m) = fb_ct (fun j => w.testBit j) 10 := by
    intro m
    induction m with
    | zero => rfl
    | succ m ih =>
      show fb_ct (fun j => w.testBit j) (10 + m + 1) = _
      rw [fb_ct_succ, ih, hz (10 + m) (by omega)]; rfl
  exact main 54
theorem pop_sub {u w : Nat} (h : ∀ i, u.testBit i = true → w.testBit i = true) : pop10 u ≤ pop10 w := by
  unfold pop10
  have main : ∀ m, fb_ct (fun j => u.testBit j) m ≤ fb_ct (fun j => w.testBit j) m := by
    intro m
    induction m with
    | zero => exact Nat.le_refl _
    | succ m ih =>
      rw [fb_ct_succ, fb_ct_succ]
      have h3 := h m
      cases h4 : u.testBit m with
      | true =>
        rw [h3 h4]; omega
      | false =>
        cases w.testBit m
        · simp only [Bool.false_eq_true, if_false]; omega
        · simp only [Bool.false_eq_true, if_false, if_true]; omega
  exact main 10
theorem sub_le {u w : Nat} (h : ∀ i, u.testBit i = true → w.testBit i = true) : u ≤ w := by
  have e : u &&& w = u := by
    apply Nat.eq_of_testBit_eq
    intro i
    rw [Nat.testBit_and]
    have := h i
    cases h1 : u.testBit i <;> cases h2 : w.testBit i <;> simp_all
  rw [← e]; exact Nat.and_le_right
theorem sh_1 : ∀ n, n ≤ 10 → (1 : Int32) <<< (nI n &&& 31) = nI (2 ^ n) := by decide +kernel
theorem lt_1024 {u n : Nat} (h : u < 2 ^ n) (hn : n ≤ 10) : u < 1024 := Nat.lt_of_lt_of_le h (Nat.pow_le_pow_right (n := 2) (by omega) hn)
section
variable {d : Nat} {τ σ : sk_T} {K : sk_K} {s : Nat → Int32} {n : Nat} {lw : Option (List Tk)} {g : Int32}
theorem lX3_must42 {x : Int64} (hx : x = tUn (orF s (fun _ => true) n)) (hd : 3 < d) (hG0 : RG τ s n lw) (h : ∀ τ2 v, scC τ τ2 → isS v (uB s n lw g) → K (some (.int v)) τ2) : ∀ m i, i + m = n → ∀ τ2 v, scC τ τ2 → isS v (fun k => false || (decide (k < i) && uB s n lw g k)) →
    sk_G sk_Sc d mX3_mustBeFast 42 [(0, .ref 1), (1, .int g), (2, .long x), (4, .int v), (5, .int (nI i))] [] τ2 K := by
  have hn := hG0.1.1
  intro m
  induction m with
  | zero =>
    intro i hi τ2 v hsc hv
    have : i = n := by omega
    subst this
    have hG := hG0.sc hsc
    refine bX3_mustBeFast_42 (by omega) (br_t ?_ (h τ2 v hsc (hv.cg (fun j _ => ?_))))
    · rw [hG.1.n0]; exact (nI_leI (by omega) (by omega)).mpr (Nat.le_refl _)
    · show (false || (decide (j < i) && uB s i lw g j)) = uB s i lw g j
      unfold uB
      cases decide (j < i) <;> simp
  | succ m ih =>
    intro i hi τ2 v hsc hv
    have hin : i < n := by omega
    have hG := hG0.sc hsc
    refine bX3_mustBeFast_42 (by omega) (br_f ?_ ⟨vp_in_nI (by omega) (by omega), ?_⟩)
    · rw [hG.1.n0]; exact fun z => absurd ((nI_leI (by omega) (by omega)).mp z) (by omega)
    rw [nI_1, nI_clamp (show i < 2 ^ 31 by omega)]
    have skip : ∀ τ3, scC τ τ3 → uB s n lw g i = false → sk_G sk_Sc d mX3_mustBeFast 42 [(0, .ref 1), (1, .int g), (2, .long x), (4, .int v), (5, .int (nI (i + 1)))] [] τ3 K := fun τ3 h3 hN => ih (i + 1) (by omega) τ3 v h3 (step_no hv hN)
    refine pX5_isLaid (sk_tileF i (by omega)) (hG.1.t0 hin) (hG.1.ok hin) (fun c hc e6 => ex_i (br_f i1_0 ⟨vp_in_nI (by omega) (by omega), pX5_own (sk_tileF i (by omega)) (by omega) (hG.1.t0 hin) (hG.1.ok hin) (ex_l ⟨fun e => ?_, fun e => pX3_holdOf hin hG (by omega) (fun τ3 h3 => ex_i ⟨fun e2 => ?_, fun e2 => ?_⟩)⟩)⟩)) (fun e6 => ex_i (br_t rfl (skip τ2 hsc ?_)))
    · refine skip τ2 hsc ?_
      unfold uB
      rw [← hx, decide_eq_false (fun z => e (lc_0.mpr z))]; simp
    · refine skip τ3 (hsc.tr h3) ?_
      unfold uB wkH
      rw [decide_eq_false (Int32.not_lt.mpr e2)]; simp
    · refine ih (i + 1) (by omega) τ3 _ (hsc.tr h3) (step_yes hv ?_ (by omega))
      unfold uB wkH
      rw [← hx, decide_eq_true hin, decide_eq_true (lc_0.mp e), decide_eq_true (Int32.not_le.mp e2), decide_eq_false (by rw [e6]; exact nI_nm1 (by omega))]; rfl
    · unfold uB
      rw [decide_eq_true e6]; simp
theorem lX3_must5 (hd : 3 < d) (hG : RG τ s n lw) (h : ∀ τ2 v, scC τ τ2 → isS v (uB s n lw g) → K (some (.int v)) τ2) : ∀ m i, i + m = n → ∀ x, x = tUn (orF s (fun _ => true) i) →
    sk_G sk_Sc d mX3_mustBeFast 5 [(0, .ref 1), (1, .int g), (2, .long x), (4, .int (nI i))] [] τ K := by
  have hn := hG.1.1
  intro m
  induction m with
  | zero =>
    intro i hi x hx
    have : i = n := by omega
    subst this
    refine bX3_mustBeFast_5 (by omega) (br_t ?_ ?_)
    · rw [hG.1.n0]; exact (nI_leI (by omega) (by omega)).mpr (Nat.le_refl _)
    · exact lX3_must42 hx hd hG h i 0 (by omega) τ 0 scC.rf (isS_0.cg (fun _ _ => by simp))
  | succ m ih =>
    intro i hi x hx
    have hin : i < n := by omega
    refine bX3_mustBeFast_5 (by omega) (br_f ?_ ⟨vp_in_nI (by omega) (by omega), ?_⟩)
    · rw [hG.1.n0]; exact fun z => absurd ((nI_leI (by omega) (by omega)).mp z) (by omega)
    rw [nI_1, nI_clamp (show i < 2 ^ 31 by omega)]
    refine pX5_own (sk_tileF i (by omega)) (by omega) (hG.1.t0 hin) (hG.1.ok hin) (ex_l (pX3_rightUnder (ex_l ?_)))
    refine ih (i + 1) (by omega) _ ?_
    rw [hx, ← un_or]
    rfl
theorem pX3_mustBeFast (hd : 3 < d) (hG : RG τ s n lw) (h : ∀ τ2 v, scC τ τ2 → isS v (uB s n lw g) → K (some (.int v)) τ2) : sk_C sk_Sc d mX3_mustBeFast [.ref 1, .int g] τ K :=
  wX3_mustBeFast (lX3_must5 hd hG h n 0 (by omega) 0 un_0.symm)
theorem lX7_fast {what : Int32} {u : Nat} (hd : 6 < d) (hR : RS (σ 1) n) (hh : ∀ k, k < n → σ 7 k = pHold (σ 1) lw k g) (hu : u < 2 ^ n) (hub : ∀ i, u.testBit i = uB (σ 1) n lw g i)
    (h0 : what = 0 → K (some (.int (nI (pop10 u)))) σ) (h1 : ¬ what = 0 → K (some (.int (nI u))) σ) : ∀ m w, w + m = 2 ^ n → sk_G sk_Sm d mX7_fast 32 [(0, .ref 0), (1, .int g), (2, .int what), (3, .int (if w ≤ u then -1 else nI u)), (4, .int (nI w))] [] σ K := by
  have hn := hR.1
  have h2n : 2 ^ n ≤ 1024 := Nat.pow_le_pow_right (n := 2) (j := 10) (by omega) hn
  intro m
  induction m with
  | zero =>
    intro w hw
    refine bX7_fast_32 (by omega) (br_t ?_ ?_)
    · rw [hR.2.1, sh_1 n hn]; exact (nI_leI (by omega) (by omega)).mpr (by omega)
    rw [if_neg (by omega)]
    refine ⟨fun e => h1 e, fun e => pX7_bitsOf ?_⟩
    rw [pop_10 (by omega)]
    exact ex_i (h0 e)
  | succ m ih =>
    intro w hw
    have ih2 := ih (w + 1) (by omega)
    refine bX7_fast_32 (by omega) (br_f ?_ ?_)
    · rw [hR.2.1, sh_1 n hn]; exact fun z => absurd ((nI_leI (by omega) (by omega)).mp z) (by omega)
    rw [nI_1]
    -- whether this set will do
    have hit : ∀ {K2 : sk_K}, (pLift (σ 1) n (wkM (fun k => pHold (σ 1) lw k g) g (fun k => w.testBit k)) = 0 → (∀ i, u.testBit i = true → w.testBit i = true)) ∧ ((∀ i, u.testBit i = true → w.testBit i = true) → pLift (σ 1) n (wkM (fun k => pHold (σ 1) lw k g) g (fun k => w.testBit k)) = 0) := by
      intro K2
      rw [pLift_0 hn, fast_iff hR]
      exact ⟨fun z i hi => z i (by rw [← hub]; exact hi), fun z i hi => z i (by rw [hub]; exact hi)⟩
    have lift : ∀ {K2 : sk_K}, K2 (some (.int (pLift (σ 1) n (wkM (fun k => pHold (σ 1) lw k g) g (fun k => w.testBit k))))) σ → sk_C sk_Sm (d - 1) mX7_liftedBy [.ref 0, .int g, .int (nI w)] σ K2 := fun z => pX7_liftedBy (n := n) (f := fun k => pHold (σ 1) lw k g) (fast := fun k => w.testBit k) (by omega) hR hh (isS_nI w) z
    by_cases hwu : w ≤ u
    · rw [if_pos hwu]
      refine br_t rfl (br_f i1_0 (lift (ex_i ⟨fun e => ?_, fun e => ?_⟩)))
      · have : w ≠ u := fun z => e ((hit (K2 := K)).2 (fun i hi => by rw [z]; exact hi))
        rw [if_pos (by omega)] at ih2
        exact ih2
      · have := sub_le ((hit (K2 := K)).1 e)
        have e2 : w = u := by omega
        rw [if_neg (by omega)] at ih2
        rw [e2]
        rw [e2] at ih2
        exact ih2
    · rw [if_neg hwu]
      rw [if_neg (by omega)] at ih2
      refine br_f (nI_nm1 (by omega)) (pX7_bitsOf (ex_i (pX7_bitsOf (ex_i ?_))))
      rw [pop_10 (by omega), pop_10 (by omega)]
      have hp1 : pop10 w ≤ 10 := fb_ct_le _ _
      have hp2 : pop10 u ≤ 10 := fb_ct_le _ _
      rw [nI_leI (by omega) (by omega)]
      refine ⟨fun _ => br_t rfl ih2, fun e => br_f i1_0 (lift (ex_i ⟨fun _ => ih2, fun e2 => ?_⟩))⟩
      have := pop_sub ((hit (K2 := K)).1 e2)
      exact absurd this e
end
