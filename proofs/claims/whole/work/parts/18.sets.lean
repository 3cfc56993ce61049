/-! ===== sets of slates; what a gale lifts ===== -/
def isS (v : Int32) (B : Nat → Bool) : Prop := ∀ i, i < 32 → bt v i = B i
def setI (b : Nat → Bool) : Nat → Int32
  | 0 => 0
  | n + 1 => if b n = true then setI b n ||| (1 <<< (nI n &&& 31)) else setI b n
theorem setI_bt (b : Nat → Bool) : ∀ n, n ≤ 32 → isS (setI b n) (fun i => decide (i < n) && b i)
  | 0, _ => fun i _ => by
    show bt 0 i = (decide (i < 0) && b i)
    rw [b_0]; simp
  | n + 1, h => fun i hi => by
    have ih : bt (setI b n) i = (decide (i < n) && b i) := setI_bt b n (by omega) i hi
    show bt (if b n = true then setI b n ||| (1 <<< (nI n &&& 31)) else setI b n) i = (decide (i < n + 1) && b i)
    by_cases hb : b n = true
    · rw [if_pos hb, b_or, ih, b_one n (by omega) hi]
      by_cases e : i = n
      · subst e; simp [hb]
      · have : decide (i < n + 1) = decide (i < n) := by simp only [decide_eq_decide]; omega
        rw [this, decide_eq_false e, Bool.or_false]
    · rw [if_neg hb, ih]
      by_cases e : i = n
      · subst e
        have : b i = false := by cases h2 : b i <;> simp_all
        rw [this]; simp
      · have : decide (i < n + 1) = decide (i < n) := by simp only [decide_eq_decide]; omega
        rw [this]
theorem isS.eq {v w : Int32} {B : Nat → Bool} (h : isS v B) (h2 : isS w B) : v = w := b_ext (fun i hi => (h i hi).trans (h2 i hi).symm)
theorem isS.set {v : Int32} {b : Nat → Bool} {n : Nat} (hn : n ≤ 32) (h : isS v (fun i => decide (i < n) && b i)) : v = setI b n := h.eq (setI_bt b n hn)
theorem isS.cg {v : Int32} {B C : Nat → Bool} (h : isS v B) (e : ∀ i, i < 32 → B i = C i) : isS v C := fun i hi => (h i hi).trans (e i hi)
theorem isS.or {v w : Int32} {B C : Nat → Bool} (h : isS v B) (h2 : isS w C) : isS (v ||| w) (fun i => B i || C i) := fun i hi => by rw [b_or, h i hi, h2 i hi]
theorem isS.add {v : Int32} {B : Nat → Bool} (h : isS v B) {k : Nat} (hk : k < 32) : isS (v ||| (1 <<< (nI k &&& 31))) (fun i => B i || decide (i = k)) := fun i hi => by rw [b_or, h i hi, b_one k hk hi]
theorem isS.not {v : Int32} {B : Nat → Bool} (h : isS v B) : isS (v ^^^ (-1)) (fun i => !B i) := fun i hi => by rw [b_xor, h i hi, b_m1 i hi, Bool.xor_true]
theorem isS_0 : isS 0 (fun _ => false) := fun i _ => b_0 i
theorem or_0 (v : Int32) : v ||| 0 = v := Int32.or_zero
/-- slate k is LAID in row r -/
def rwB (s : Nat → Int32) (k r : Nat) : Bool := !decide (fl s k 6 = -1) && decide ((fl s k 6).toNatClampNeg / 8 = r)
/-- one of those of ab below i covers an OWN CELL of k -/
def coF (s : Nat → Int32) (ab : Nat → Bool) (k : Nat) : Nat → Bool
  | 0 => false
  | i + 1 => coF s ab k i || (ab i && !decide (tCov (pOwn (fl s i)) &&& pOwn (fl s k) = 0))
def abF (s : Nat → Int32) (L : Nat → Bool) (r : Nat) (o : Nat) : Bool := match r with
  | 0 => false
  | r + 1 => rwB s o r && !L o
/-- lifted in the rows below r -/
def LB (s : Nat → Int32) (n : Nat) (wk : Nat → Bool) : Nat → Nat → Bool
  | 0, _ => false
  | r + 1, k => LB s n wk r k || (decide (k < n) && (rwB s k r && wk k && !coF s (abF s (LB s n wk r) r) k n))
def orF (s : Nat → Int32) (ab : Nat → Bool) : Nat → Int64
  | 0 => 0
  | i + 1 => if ab i = true then orF s ab i ||| pOwn (fl s i) else orF s ab i
theorem LB_lt {s : Nat → Int32} {n : Nat} {wk : Nat → Bool} : ∀ {r k : Nat}, n ≤ k → LB s n wk r k = false
  | 0, _, _ => rfl
  | r + 1, k, h => by
    unfold LB
    rw [LB_lt h, decide_eq_false (by omega)]; rfl
theorem or_and_z {a b x : Int64} : (a ||| b) &&& x = 0 ↔ (a &&& x = 0 ∧ b &&& x = 0) := by
  rw [and_z, and_z, and_z]
  constructor
  · intro h
    exact ⟨fun i hi z => h i hi ⟨by rw [bL_or, z.1]; rfl, z.2⟩, fun i hi z => h i hi ⟨by rw [bL_or, z.1, Bool.or_true], z.2⟩⟩
  · rintro ⟨h1, h2⟩ i hi ⟨z1, z2⟩
    rw [bL_or] at z1
    cases h3 : btL a i
    · rw [h3, Bool.false_or] at z1; exact h2 i hi ⟨z1, z2⟩
    · exact h1 i hi ⟨h3, z2⟩
theorem own_rows : tb3 (fun b c => (List.range 64).all (fun i => !btL (tOwn b (nI c)) i || decide (i / 8 = c / 8))) = true := by decide +kernel
theorem own_row {s : Nat → Int32} {k kk r i : Nat} (ht : tl_ok (fl s k) kk) (hr : rwB s k r = true) (hi : i < 64) (hb : btL (pOwn (fl s k)) i = true) : i / 8 = r := by
  unfold rwB at hr
  simp only [Bool.and_eq_true, Bool.not_eq_true', decide_eq_false_iff_not, decide_eq_true_eq] at hr
  rcases own_rng ht with e | ⟨c, hc, e⟩
  · exact absurd e hr.1
  · have h2 := hr.2
    rw [e, nI_clamp (by omega)] at h2
    unfold pOwn at hb
    rw [e, if_neg (nI_nm1 (by omega))] at hb
    have h3 := List.all_eq_true.mp (tb3_of own_rows (br_rng ht) hc) i (List.mem_range.mpr hi)
    unfold pAt at hb
    rw [hb] at h3
    have h4 : i / 8 = c / 8 := by simpa using h3
    omega
theorem own_apart {s : Nat → Int32} {k o kk oo r q : Nat} (hk : tl_ok (fl s k) kk) (ho : tl_ok (fl s o) oo) (h1 : rwB s k r = true) (h2 : rwB s o q = true) (hne : r ≠ q) : pOwn (fl s o) &&& pOwn (fl s k) = 0 := by
  rw [and_z]
  rintro i hi ⟨a, b⟩
  exact hne ((own_row hk h1 hi b).symm.trans (own_row ho h2 hi a))
/-- sheltered, as the class asks it, is covered by one above -/
theorem sh_co {s : Nat → Int32} {n k r : Nat} {L : Nat → Bool} (hR : RS s n) (hk : k < n) (hr : rwB s k r = true) : ∀ i, i ≤ n → (pOwn (fl s k) &&& tUn (orF s (abF s L r) i) = 0 ↔ coF s (abF s L r) k i = false)
  | 0, _ => by
    show pOwn (fl s k) &&& tUn 0 = 0 ↔ _
    rw [un_0, Int64.and_zero]
    exact ⟨fun _ => rfl, fun _ => rfl⟩
  | i + 1, hi => by
    have ih := sh_co (L := L) hR hk hr i (by omega)
    unfold orF coF
    by_cases h : abF s L r i = true
    · rw [if_pos h, un_or, Int64.and_comm, or_and_z, Int64.and_comm, ih, h, Bool.true_and]
      have e : tCov (pOwn (fl s i)) &&& pOwn (fl s k) = 0 ↔ tUn (pOwn (fl s i)) &&& pOwn (fl s k) = 0 := by
        unfold tCov
        rw [or_and_z]
        constructor
        · exact fun z => z.2
        · intro z
          refine ⟨?_, z⟩
          cases r with
          | zero => exact absurd h Bool.false_ne_true
          | succ r =>
            have h2 : rwB s i r = true := by
              unfold abF at h
              simp only [Bool.and_eq_true] at h
              exact h.1
            exact own_apart (hR.2.2 k hk) (hR.2.2 i (by omega)) hr h2 (by omega)
      rw [← e]
      cases coF s (abF s L r) k i
      · simp
      · simp
    · have h2 : abF s L r i = false := by cases h3 : abF s L r i <;> simp_all
      rw [if_neg h, h2, Bool.false_and, Bool.or_false]; exact ih
/-- the class's numbers, but for the stacks of its laws -/
def scC (τ τ2 : sk_T) : Prop := ∀ c, (c < 31 ∨ 34 < c) → τ2 c = τ c
theorem scC.rf {τ : sk_T} : scC τ τ := fun _ _ => rfl
theorem scC.tr {a b c : sk_T} (h : scC a b) (h2 : scC b c) : scC a c := fun q hq => (h2 q hq).trans (h q hq)
theorem scC.w {τ : sk_T} {q : Nat} {f : Nat → Int32} (h : 31 ≤ q ∧ q ≤ 34) : scC τ (sk_w τ q f) := fun c hc => sw_c (by omega)
theorem RT.sc {τ τ2 : sk_T} {s : Nat → Int32} {n : Nat} (h : RT τ 0 s n) (h2 : scC τ τ2) : RT τ2 0 s n := by
  refine ⟨h.1, h.2.1, (congrFun (h2 1 (by omega)) 1).trans h.2.2.1, fun k hk => ⟨fun j hj => ?_, (h.2.2.2 k hk).2⟩⟩
  have hn := h.1
  rw [show τ2 (3 + 10 * 0 + k) = τ (3 + 10 * 0 + k) from h2 _ (by omega)]
  exact (h.2.2.2 k hk).1 j hj
theorem RY.sc {τ τ2 : sk_T} {s : Nat → Int32} (h : RY τ 0 s) (h2 : scC τ τ2) : RY τ2 0 s := by
  obtain ⟨⟨y, h1, h3, h4⟩, h5, h6⟩ := h
  exact ⟨⟨y, h1, h3, (congrFun (h2 1 (by omega)) 2).trans h4⟩, h5, (congrFun (h2 1 (by omega)) 3).trans h6⟩
theorem RLw.sc {τ τ2 : sk_T} {q qc : Nat} {s : Nat → Int32} {u : Nat} {lw : Option (List Tk)} (h : RLw τ q qc s u lw) (h2 : scC τ τ2) (hq : q < 31) (hqc : qc < 31) : RLw τ2 q qc s u lw := by
  have e1 : τ2 q = τ q := h2 q (by omega)
  have e2 : τ2 qc = τ qc := h2 qc (by omega)
  unfold RLw at h ⊢
  rw [e1, e2]
  exact h
/-- what of the class's roof a gale needs -/
def RG (τ : sk_T) (s : Nat → Int32) (n : Nat) (lw : Option (List Tk)) : Prop := RT τ 0 s n ∧ RY τ 0 s ∧ RLw τ 23 27 s 0 lw
theorem RG.sc {τ τ2 : sk_T} {s : Nat → Int32} {n : Nat} {lw : Option (List Tk)} (h : RG τ s n lw) (h2 : scC τ τ2) : RG τ2 s n lw := ⟨h.1.sc h2, h.2.1.sc h2, h.2.2.sc h2 (by omega) (by omega)⟩
section
variable {d : Nat} {τ σ : sk_T} {K : sk_K} {s : Nat → Int32} {n : Nat} {lw : Option (List Tk)}
theorem pX3_holdOf {k : Nat} {g : Int32} (hk : k < n) (hG : RG τ s n lw) (hd : 2 < d) (h : ∀ τ2, scC τ τ2 → K (some (.int (pHold s lw k g))) τ2) : sk_C sk_Sc d mX3_holdOf [.ref 1, .int (nI k), .int g] τ K := by
  obtain ⟨hR, ⟨⟨y, hy, ey, ey2⟩, hs, es⟩, hL⟩ := hG
  have hn := hR.1
  refine wX3_holdOf (by omega) ⟨vp_in_nI (by omega) (by omega), ?_⟩
  rw [nI_clamp (show k < 2 ^ 31 by omega)]
  refine pX5_holds (sk_tileF k (by omega)) (hR.t0 hk) (ex_i ?_)
  rw [hR.t0 hk 3 (by omega)]
  refine pX1_give (u := 0) (qc := 27) (qs := 31) sc_23 sc_27 sc_31 (by omega) (by omega) (by omega) (by omega) hL (fun g2 => ex_i ?_)
  have e1 : τ 1 2 = s 0 := ey2.trans ey.symm
  have e2 : τ 1 3 = s 1 := es
  rw [e1, e2]
  exact h _ (scC.w (by omega))
theorem rw_iff {k r : Nat} (ht : tl_ok (fl s k) k) (hr : r < 100) {A B : Prop} (hy : rwB s k r = true → B) (hn : rwB s k r = false → A) :
    (∀ c, c < 48 → fl s k 6 = nI c → (¬ nI (c / 8) = nI r → A) ∧ (nI (c / 8) = nI r → B)) ∧ (fl s k 6 = -1 → (¬ (-1 : Int32) = nI r → A) ∧ ((-1 : Int32) = nI r → B)) := by
  constructor
  · intro c hc e
    rw [nI_eq (by omega) (by omega)]
    have e2 : rwB s k r = decide (c / 8 = r) := by
      unfold rwB
      rw [e, nI_clamp (by omega), decide_eq_false (nI_nm1 (by omega))]; rfl
    exact ⟨fun z => hn (by rw [e2, decide_eq_false z]), fun z => hy (by rw [e2, decide_eq_true z])⟩
  · intro e
    have e2 : rwB s k r = false := by
      unfold rwB
      rw [e]; rfl
    exact ⟨fun _ => hn e2, fun z => absurd z.symm (nI_nm1 (by omega))⟩
theorem lX3_ownOf {v : Int32} {B : Nat → Bool} {r : Nat} (hr : r < 100) (hB : isS v B) (hR : RT τ 0 s n) (hd : 3 < d) (h : K (some (.long (orF s (fun o => rwB s o r && B o) n))) τ) : ∀ m i, i + m = n → sk_G sk_Sc d mX3_ownOf 5 [(0, .ref 1), (1, .int v), (2, .int (nI r)), (3, .long (orF s (fun o => rwB s o r && B o) i)), (5, .int (nI i))] [] τ K := by
  have hn := hR.1
  intro m
  induction m with
  | zero =>
    intro i hi
    have : i = n := by omega
    subst this
    refine bX3_ownOf_5 (by omega) (br_t ?_ h)
    rw [hR.n0]; exact (nI_leI (by omega) (by omega)).mpr (Nat.le_refl _)
  | succ m ih =>
    intro i hi
    refine bX3_ownOf_5 (by omega) (br_f ?_ ?_)
    · rw [hR.n0]; exact fun z => absurd ((nI_leI (by omega) (by omega)).mp z) (by omega)
    rw [nI_1, nI_clamp (show i < 2 ^ 31 by omega), b_t1 (by omega), hB i (by omega)]
    have ih2 := ih (i + 1) (by omega)
    unfold orF at ih2
    refine ⟨fun e => ?_, fun e => ⟨vp_in_nI (by omega) (by omega), ?_⟩⟩
    · have hb : B i = false := by cases h3 : B i <;> simp_all
      rw [hb, Bool.and_false, if_neg (by decide)] at ih2
      exact ih2
    · rw [e, Bool.and_true] at ih2
      have hc := rw_iff (s := s) (hR.ok (show i < n by omega)) hr (A := sk_G sk_Sc d mX3_ownOf 5 [(0, .ref 1), (1, .int v), (2, .int (nI r)), (3, .long (orF s (fun o => rwB s o r && B o) i)), (5, .int (nI (i + 1)))] [] τ K) (B := vp_in (nI i) 10 ∧ sk_C sk_Sc (d - 1) mX5_own [.ref (3 + i)] τ (fun w t46 => ∃ r46 : Int64, w = some (.long r46) ∧ sk_G sk_Sc d mX3_ownOf 5 [(0, .ref 1), (1, .int v), (2, .int (nI r)), (3, .long (orF s (fun o => rwB s o r && B o) i ||| r46)), (5, .int (nI (i + 1)))] [] t46 K)) ?_ ?_
      · exact pX5_row (sk_tileF i (by omega)) (by omega) (hR.t0 (by omega)) (hR.ok (by omega)) (fun c hc2 e2 => ex_i (hc.1 c hc2 e2)) (fun e2 => ex_i (hc.2 e2))
      · intro hy
        rw [if_pos hy] at ih2
        exact ⟨vp_in_nI (by omega) (by omega), pX5_own (sk_tileF i (by omega)) (by omega) (hR.t0 (by omega)) (hR.ok (by omega)) (ex_l ih2)⟩
      · intro hy
        rw [if_neg (by rw [hy]; decide)] at ih2
        exact ih2
theorem pX3_ownOf {v : Int32} {B : Nat → Bool} {r : Nat} (hr : r < 100) (hB : isS v B) (hR : RT τ 0 s n) (hd : 3 < d) (h : K (some (.long (orF s (fun o => rwB s o r && B o) n))) τ) : sk_C sk_Sc d mX3_ownOf [.ref 1, .int v, .int (nI r)] τ K :=
  wX3_ownOf (lX3_ownOf hr hB hR hd h n 0 (by omega))
end
