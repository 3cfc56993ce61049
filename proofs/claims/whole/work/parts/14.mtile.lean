/-! ===== the reference: its row, a slate, laws ===== -/
def RS (s : Nat → Int32) (n : Nat) : Prop := n ≤ 10 ∧ s 6 = nI n ∧ ∀ k, k < n → tl_ok (fl s k) k
theorem RT.rs {τ : sk_T} {r : Nat} {s : Nat → Int32} {n : Nat} (h : RT τ r s n) : RS s n := ⟨h.1, h.2.1, fun k hk => (h.2.2.2 k hk).2⟩
/-- a law in the reference's row alone -/
def RLm (s : Nat → Int32) (u : Nat) (lw : Option (List Tk)) : Prop := match lw with
  | none => s (78 + 125 * u) = 0
  | some L => 0 < L.length ∧ L.length ≤ 60 ∧ wfd 0 L = some 1 ∧ s (78 + 125 * u) = nI L.length ∧
    ∀ i t, L[i]? = some t → okT t ∧ s (78 + 125 * u + 1 + 2 * i) = wT t ∧ s (78 + 125 * u + 2 + 2 * i) = vT u t
theorem RLw.m {τ : sk_T} {q qc : Nat} {s : Nat → Int32} {u : Nat} {lw : Option (List Tk)} (h : RLw τ q qc s u lw) : RLm s u lw := by
  obtain ⟨-, h⟩ := h
  cases lw with
  | none => exact h.2
  | some L => exact ⟨h.2.2.1, h.2.2.2.1, h.2.2.2.2.1, h.2.2.2.2.2.1, fun i t ht => ⟨(h.2.2.2.2.2.2 i t ht).1, (h.2.2.2.2.2.2 i t ht).2.2.1, (h.2.2.2.2.2.2 i t ht).2.2.2⟩⟩
/-- the reference's numbers, but for what is worked out aside (named, pile) -/
def scM (σ σ2 : sk_T) : Prop := ∀ c, c ≠ 5 → c ≠ 6 → σ2 c = σ c
theorem scM.rf {σ : sk_T} : scM σ σ := fun _ _ _ => rfl
theorem scM.tr {a b c : sk_T} (h : scM a b) (h2 : scM b c) : scM a c := fun q h5 h6 => (h2 q h5 h6).trans (h q h5 h6)
theorem scM.s1 {σ σ2 : sk_T} (h : scM σ σ2) : σ2 1 = σ 1 := h 1 (by omega) (by omega)
theorem scM.u5 {σ σ2 : sk_T} {j : Nat} {x : Int32} (h : scM σ σ2) : scM σ (sk_u σ2 5 j x) := fun q h5 h6 => (su_c h5).trans (h q h5 h6)
theorem scM.w6 {σ σ2 : sk_T} {f : Nat → Int32} (h : scM σ σ2) : scM σ (sk_w σ2 6 f) := fun q h5 h6 => (sw_c h6).trans (h q h5 h6)
/-- .. and hold -/
def scN (σ σ2 : sk_T) : Prop := ∀ c, c ≠ 5 → c ≠ 6 → c ≠ 7 → σ2 c = σ c
theorem scN.rf {σ : sk_T} : scN σ σ := fun _ _ _ _ => rfl
theorem scN.tr {a b c : sk_T} (h : scN a b) (h2 : scN b c) : scN a c := fun q h5 h6 h7 => (h2 q h5 h6 h7).trans (h q h5 h6 h7)
theorem scN.s1 {σ σ2 : sk_T} (h : scN σ σ2) : σ2 1 = σ 1 := h 1 (by omega) (by omega) (by omega)
theorem scM.n {σ σ2 : sk_T} (h : scM σ σ2) : scN σ σ2 := fun q h5 h6 _ => h q h5 h6
theorem scN.u7 {σ σ2 : sk_T} {j : Nat} {x : Int32} (h : scN σ σ2) : scN σ (sk_u σ2 7 j x) := fun q h5 h6 h7 => (su_c h7).trans (h q h5 h6 h7)
section
variable {d : Nat} {τ σ : sk_T} {K : sk_K}
theorem rg_n {v : Int32} {A B : Prop} (n : Nat) (hn0 : n ≤ 1000) (hy : ∀ c, c < n → v = nI c → A) (hn : (¬ ∃ c, c < n ∧ v = nI c) → B) : (v < 0 → B) ∧ (¬ v < 0 → ((nI n - 1 < v → B) ∧ (¬ nI n - 1 < v → A))) := by
  cases n with
  | zero =>
    have hb : B := hn (fun ⟨c, hc, _⟩ => absurd hc (by omega))
    refine ⟨fun _ => hb, fun h => ⟨fun _ => hb, fun h2 => ?_⟩⟩
    obtain ⟨j, hj, rfl⟩ := nI_of h
    refine absurd ?_ h2
    rw [Int32.lt_iff_toInt_lt, nI_toInt hj]
    have : (nI 0 - 1 : Int32).toInt = -1 := by decide
    rw [this]; omega
  | succ m =>
    rw [nI_m1]
    exact rg_c m (by omega) hy (fun _ => hn)
theorem pX7_inN {v : Int32} {n : Nat} (hn0 : n ≤ 1000) (hy : ∀ c, c < n → v = nI c → K (some (.int 1)) τ) (hn : (¬ ∃ c, c < n ∧ v = nI c) → K (some (.int 0)) τ) : sk_C sk_Sm d mX7_in [.int v, .int 0, .int (nI n - 1)] τ K := wX7_in (rg_n n hn0 hy hn)
theorem pX7_inC {v : Int32} (N : Nat) (hN : N < 2 ^ 31 - 1) (hy : ∀ c, c < N + 1 → v = nI c → K (some (.int 1)) τ) (hn : (¬ ∃ c, c < N + 1 ∧ v = nI c) → K (some (.int 0)) τ) : sk_C sk_Sm d mX7_in [.int v, .int 0, .int (nI N)] τ K := wX7_in (rg_c N hN hy (fun _ => hn))
theorem pX7_isSlate {v : Int32} {n : Nat} (hS : σ 1 6 = nI n) (hn0 : n ≤ 1000) (hd : 0 < d) (hy : ∀ c, c < n → v = nI c → K (some (.int 1)) σ) (hn : (¬ ∃ c, c < n ∧ v = nI c) → K (some (.int 0)) σ) : sk_C sk_Sm d mX7_isSlate [.ref 0, .int v] σ K := by
  refine wX7_isSlate hd ?_
  rw [hS]
  exact pX7_inN hn0 (fun c hc e => ex_i ⟨by decide, hy c hc e⟩) (fun z => ex_i ⟨by decide, hn z⟩)
theorem ix_its (k j : Nat) : (8 + 7 * nI k) + nI j = nI (8 + 7 * k + j) := by
  rw [show (8 : Int32) = nI 8 from rfl, show (7 : Int32) = nI 7 from rfl, pk_mul, nI_add, nI_add]
theorem pX7_its {k : Nat} (j : Nat) (hk : k < 10) (hj : j < 7) (h : K (some (.int (fl (σ 1) k j))) σ) : sk_C sk_Sm d mX7_its [.ref 0, .int (nI k), .int (nI j)] σ K := by
  refine wX7_its ?_
  rw [ix_its, nI_clamp (by omega)]
  exact ⟨vp_in_nI (by omega) (by omega), h⟩
theorem pX7_lays1 {k : Nat} {x : Int32} (j : Nat) (hk : k < 10) (hj : j < 7) (h : K none (sk_u σ 1 (8 + 7 * k + j) x)) : sk_C sk_Sm d mX7_lays1 [.ref 0, .int (nI k), .int (nI j), .int x] σ K := by
  refine wX7_lays1 ?_
  rw [ix_its, nI_clamp (by omega)]
  exact ⟨vp_in_nI (by omega) (by omega), h⟩
theorem pX7_broad {k kk : Nat} (hk : k < 10) (hd : 0 < d) (ht : tl_ok (fl (σ 1) k) kk) (h : K (some (.int (pBr (fl (σ 1) k)))) σ) : sk_C sk_Sm d mX7_broad [.ref 0, .int (nI k)] σ K := by
  refine wX7_broad hd (pX7_its 2 hk (by omega) (ex_i (pX7_its 0 hk (by omega) (ex_i ?_))))
  generalize fl (σ 1) k = t at ht h ⊢
  unfold pBr at h
  refine ⟨fun e => ?_, fun e => ?_, fun e => ?_, fun e => ?_, fun e => ?_, fun e => ?_⟩
  · rw [e, if_pos (Or.inl rfl)] at h; exact h
  · rw [e, if_neg (by decide), if_neg (by decide)] at h; exact h
  · rw [e, if_neg (by decide), if_neg (by decide)] at h; exact h
  · rw [e, if_pos (Or.inr rfl)] at h; exact h
  · rw [e, if_neg (by decide), if_pos rfl] at h
    rcases ht.2.2.1 with e2 | e2
    · rw [e2] at h ⊢; exact br_t (by decide) h
    · rw [e2] at h ⊢; exact br_f (by decide) h
  · rw [if_neg (fun z => z.elim e.1 e.2.2.2.1), if_neg e.2.2.2.2] at h; exact h
theorem pX7_holdsOf {k : Nat} (hk : k < 10) (hd : 0 < d) (h : K (some (.int (pHo (fl (σ 1) k) (σ 1 0) (σ 1 1)))) σ) : sk_C sk_Sm d mX7_holdsOf [.ref 0, .int (nI k)] σ K := by
  refine wX7_holdsOf hd (pX7_its 3 hk (by omega) (ex_i (pX7_its 1 hk (by omega) (ex_i (pX7_its 0 hk (by omega) (ex_i ?_))))))
  have h5 : ∀ {K2 : sk_K}, K2 (some (.int (fl (σ 1) k 5))) σ → sk_C sk_Sm (d - 1) mX7_its [.ref 0, .int (nI k), .int 5] σ K2 := fun z => pX7_its 5 hk (by omega) z
  generalize fl (σ 1) k = t at h h5 ⊢
  unfold pHo at h
  refine ⟨fun e => ?_, fun e => ?_, fun e => ?_, fun e => ?_, fun e => ?_, fun e => ⟨fun e2 => ?_, fun e2 => ?_⟩, fun e => ?_⟩
  · rw [e, if_pos rfl] at h; exact h
  · rw [e, if_neg (by decide), if_pos rfl] at h; exact h5 (ex_i h)
  · rw [e, if_neg (by decide), if_neg (by decide), if_pos rfl] at h; exact h
  · rw [e, if_neg (by decide), if_neg (by decide), if_neg (by decide), if_pos rfl] at h; exact h
  · rw [e, if_neg (by decide), if_neg (by decide), if_neg (by decide), if_neg (by decide), if_pos rfl] at h; exact h5 (ex_i h)
  · rw [e, if_neg (by decide), if_neg (by decide), if_neg (by decide), if_neg (by decide), if_neg (by decide), if_pos rfl, if_neg e2] at h; exact h
  · rw [e, if_neg (by decide), if_neg (by decide), if_neg (by decide), if_neg (by decide), if_neg (by decide), if_pos rfl, if_pos e2] at h; exact h
  · rw [if_neg e.1, if_neg e.2.1, if_neg e.2.2.1, if_neg e.2.2.2.1, if_neg e.2.2.2.2.1, if_neg e.2.2.2.2.2] at h; exact h
theorem pX7_held {x lo hi : Int32} (h : K (some (.int (if lo ≤ x then (if x ≤ hi then x else hi) else lo))) σ) : sk_C sk_Sm d mX7_held [.int x, .int lo, .int hi] σ K := by
  refine wX7_held ⟨fun e => ⟨fun e2 => ?_, fun e2 => ?_⟩, fun e => ?_⟩
  · rw [if_pos e, if_pos e2] at h; exact h
  · rw [if_pos e, if_neg e2] at h; exact h
  · rw [if_neg e] at h; exact h
theorem clamp_h (x : Int32) : (if (0 : Int32) ≤ x then (if x ≤ 99 then x else 99) else 0) = clampL x := by
  unfold clampL sk_max sk_min
  by_cases h1 : (0 : Int32) ≤ x
  · rw [if_pos h1]
    by_cases h2 : x ≤ 99
    · rw [if_pos h2]
      have : ¬ (99 : Int32) < x → (if x < 99 then x else 99) = x := fun z => by
        by_cases h3 : x < 99
        · rw [if_pos h3]
        · rw [if_neg h3]; exact Int32.le_antisymm (Int32.not_lt.mp h3) h2
      rw [this (Int32.not_lt.mpr h2)]
      by_cases h4 : (0 : Int32) < x
      · rw [if_pos h4]
      · rw [if_neg h4]; exact Int32.le_antisymm (Int32.not_lt.mp h4) h1
    · rw [if_neg h2]
      have h3 : ¬ x < 99 := fun z => h2 (Int32.le_of_lt z)
      rw [if_neg h3]; decide
  · rw [if_neg h1]
    have h2 : x < 0 := Int32.not_le.mp h1
    have h3 : x < 99 := Int32.lt_of_lt_of_le h2 (by decide)
    rw [if_pos h3, if_neg (Int32.not_lt.mpr (Int32.le_of_lt h2))]
theorem pX7_hasText {u : Nat} {lw : Option (List Tk)} (hu : u < 2) (hL : RLm (σ 1) u lw) (h1 : ∀ L, lw = some L → K (some (.int 1)) σ) (h0 : lw = none → K (some (.int 0)) σ) : sk_C sk_Sm d mX7_hasText [.ref 0, .int (nI u)] σ K := by
  refine wX7_hasText ?_
  rw [show (78 : Int32) = nI 78 from rfl, show (125 : Int32) = nI 125 from rfl, pk_mul, nI_add, nI_clamp (by omega)]
  refine ⟨vp_in_nI (by omega) (by omega), ?_⟩
  cases lw with
  | none =>
    have e : σ 1 (78 + 125 * u) = 0 := hL
    rw [e]; exact br_t (by decide) (h0 rfl)
  | some L =>
    obtain ⟨hp, hl, -, e, -⟩ := hL
    rw [e]
    exact br_f (nI_nle hp (by omega)) (h1 L rfl)
set_option maxHeartbeats 4000000 in
set_option maxRecDepth 100000 in
theorem lX7_worked {a b c : Int32} {u : Nat} (hu : u < 2) {L : List Tk} (hd : 0 < d) (hnm : ∀ j, j < 3 → σ 5 (nmT u j).toNatClampNeg = nmv j a b c)
    (hsz : σ 1 (78 + 125 * u) = nI L.length) (hlen : L.length ≤ 60) (htok : ∀ i t, L[i]? = some t → okT t ∧ σ 1 (78 + 125 * u + 1 + 2 * i) = wT t ∧ σ 1 (78 + 125 * u + 2 + 2 * i) = vT u t) :
    ∀ (L2 : List Tk) (i : Nat) (st : List Int32) (f : Nat → Int32), L.drop i = L2 → i + L2.length = L.length → st.length ≤ i → wfd st.length L2 = some 1 → SA f st → (∀ g, K (some (.int ((ev a b c st L2).headD 0))) (sk_w σ 6 g)) →
    sk_G sk_Sm d mX7_worked 13 [(0, .ref 0), (2, .int (nI (78 + 125 * u))), (3, .int (nI st.length)), (4, .int (nI i))] [] (sk_w σ 6 f) K := by
  intro L2
  induction L2 with
  | nil =>
    intro i st f hdr hi hst hw hS hK
    have hi2 : i = L.length := by simpa using hi
    refine bX7_worked_13 hd ⟨vp_in_nI (by omega) (by omega), ?_⟩
    rw [nI_clamp (by omega), sw_c (by omega), hsz]
    refine br_t ((nI_leI (by omega) (by omega)).mpr (by omega)) ?_
    rw [sw_s]
    have h1 : st.length = 1 := by simpa [wfd] using hw
    match st, h1 with
    | [x], _ =>
      have := SA_top hS
      have e : f 0 = x := by simpa using this
      rw [e]; exact hK f
  | cons t L2 ih =>
    intro i st f hdr hi hst hw hS hK
    obtain ⟨ht, hdr2⟩ := dr_at hdr
    obtain ⟨ok, hw1, hv1⟩ := htok i t ht
    have hil : i < L.length := (List.getElem?_eq_some_iff.mp ht).1
    have hi2 : i + 1 + L2.length = L.length := by simp only [List.length_cons] at hi; omega
    have ea : ((nI (78 + 125 * u) + 1) + (2 * nI i)) = nI (78 + 125 * u + 1 + 2 * i) := by
      rw [nI_1, show (2 : Int32) = nI 2 from rfl, pk_mul, nI_add]
    have eb : ((nI (78 + 125 * u) + 2) + (2 * nI i)) = nI (78 + 125 * u + 2 + 2 * i) := by
      rw [show (2 : Int32) = nI 2 from rfl, pk_mul, nI_add, nI_add]
    refine bX7_worked_13 hd ⟨vp_in_nI (by omega) (by omega), ?_⟩
    rw [ea, eb, nI_clamp (show 78 + 125 * u < 2 ^ 31 by omega), nI_clamp (show 78 + 125 * u + 1 + 2 * i < 2 ^ 31 by omega), nI_clamp (show 78 + 125 * u + 2 + 2 * i < 2 ^ 31 by omega), sw_c (show (1 : Nat) ≠ 6 by omega), sw_c (show (5 : Nat) ≠ 6 by omega), hsz, hw1, hv1, nI_1 i]
    refine br_f (fun z => absurd ((nI_leI (by omega) (by omega)).mp z) (by omega)) ⟨vp_in_nI (by omega) (by omega), vp_in_nI (by omega) (by omega), ?_⟩
    have hvp : vp_in (nI st.length) 64 := vp_in_nI (by omega) (by omega)
    rcases okT_k ok with ⟨v, rfl, ok⟩ | ⟨j, rfl, ok⟩ | ⟨n, rfl⟩ | ⟨p, rfl, ok⟩
    · refine br_t (show nI 0 = 0 from rfl) (ns_f (show nI 0 = 0 from rfl) ⟨hvp, ?_⟩)
      rw [nI_clamp (show st.length < 2 ^ 31 by omega), su_w, nI_1]
      exact ih (i + 1) (nI v :: st) _ hdr2 hi2 (by simp only [List.length_cons]; omega) hw (SA_push hS _) hK
    · have hj := hnm j ok
      have hj2 : ∀ u, u < 2 → ∀ j, j < 3 → vp_in (nmT u j) 128 := by unfold vp_in; decide
      refine br_f (show ¬ nI 1 = 0 by decide) (ns_f (show nI 1 = 1 from rfl) (ns_t (show ¬ nI 1 = 0 by decide) ⟨hj2 u hu j ok, hvp, ?_⟩))
      show sk_G sk_Sm d mX7_worked 13 _ [] (sk_u (sk_w σ 6 f) 6 _ (σ 5 (nmT u j).toNatClampNeg)) K
      rw [hj, nI_clamp (show st.length < 2 ^ 31 by omega), su_w, nI_1]
      exact ih (i + 1) (nmv j a b c :: st) _ hdr2 hi2 (by simp only [List.length_cons]; omega) hw (SA_push hS _) hK
    · match st, hst, hw, hS, hK with
      | [], _, hw, _, _ => exact absurd hw (by simp [wfd])
      | x :: st, hst, hw, hS, hK =>
        simp only [List.length_cons] at hst
        have hw2 : wfd (st.length + 1) L2 = some 1 := by simpa [wfd] using hw
        have hx := SA_top hS
        have hv : vp_in (nI st.length) 64 := vp_in_nI (by omega) (by omega)
        refine br_f (show ¬ nI 2 = 0 by decide) (ns_t (show ¬ nI 2 = 1 by decide) (ns_f (show nI 2 = 2 from rfl) ?_))
        show vp_in (nI (st.length + 1) - 1) 64 ∧ _
        simp only [List.length_cons, nI_m1]
        rw [nI_clamp (show st.length < 2 ^ 31 by omega), sw_s, hx, su_w, su_w]
        have hK2 : ∀ g, K (some (.int ((ev a b c ((if x = 0 then 1 else 0) :: st) L2).headD 0))) (sk_w σ 6 g) := hK
        refine ⟨hv, fun z => ⟨hv, ?_⟩, fun z => ⟨hv, ?_⟩⟩
        · rw [if_neg z] at hK2
          exact ih (i + 1) (0 :: st) _ hdr2 hi2 (by simp only [List.length_cons]; omega) hw2 (SA_push (SA_tl hS) _) hK2
        · rw [if_pos z] at hK2
          exact ih (i + 1) (1 :: st) _ hdr2 hi2 (by simp only [List.length_cons]; omega) hw2 (SA_push (SA_tl hS) _) hK2
    · match st, hst, hw, hS, hK with
      | [], _, hw, _, _ => exact absurd hw (by simp [wfd])
      | [x], _, hw, _, _ => exact absurd hw (by simp [wfd])
      | y :: x :: st, hst, hw, hS, hK =>
        simp only [List.length_cons] at hst
        have hw2 : wfd (st.length + 1) L2 = some 1 := by simpa [wfd] using hw
        have hy := SA_top hS
        have hx := SA_snd hS
        simp only [List.length_cons] at hy
        have hv : vp_in (nI st.length) 64 := vp_in_nI (by omega) (by omega)
        have hv1 : vp_in (nI (st.length + 1)) 64 := vp_in_nI (by omega) (by omega)
        refine br_f (show ¬ nI 3 = 0 by decide) (ns_t (show ¬ nI 3 = 1 by decide) (ns_t (show ¬ nI 3 = 2 by decide) ?_))
        simp only [List.length_cons, pk_m1, nI_m1]
        rw [nI_clamp (show st.length < 2 ^ 31 by omega), nI_clamp (show st.length + 1 < 2 ^ 31 by omega), sw_s, hx, hy]
        refine ⟨hv, hv1, pX7_joined ok (ex_i ⟨hv, ?_⟩)⟩
        rw [su_w]
        exact ih (i + 1) (jn p x y :: st) _ hdr2 hi2 (by simp only [List.length_cons]; omega) hw2 (SA_push (SA_tl (SA_tl hS)) _) hK
theorem pX7_worked {a b c : Int32} {u : Nat} (hu : u < 2) {L : List Tk} (hd : 0 < d) (hnm : ∀ j, j < 3 → σ 5 (nmT u j).toNatClampNeg = nmv j a b c) (hL : RLm (σ 1) u (some L))
    (h : ∀ g, K (some (.int ((ev a b c [] L).headD 0))) (sk_w σ 6 g)) : sk_C sk_Sm d mX7_worked [.ref 0, .int (nI u)] σ K := by
  refine wX7_worked ?_
  obtain ⟨-, hlen, hwf, hsz, htok⟩ := hL
  rw [show (78 : Int32) = nI 78 from rfl, show (125 : Int32) = nI 125 from rfl, pk_mul, nI_add]
  have := lX7_worked (K := K) hu hd hnm hsz hlen htok L 0 [] (σ 6) rfl (by omega) (by simp) hwf (SA_nil _) h
  rw [sw_id] at this
  exact this
theorem pX7_holdTold {a b c : Int32} {lw : Option (List Tk)} (hd : 1 < d) (hL : RLm (σ 1) 0 lw) (h : ∀ σ2, scM σ σ2 → K (some (.int (pGive 0 lw a b c))) σ2) : sk_C sk_Sm d mX7_holdTold [.ref 0, .int a, .int b, .int c] σ K := by
  refine wX7_holdTold (by omega) ?_
  have hsc : scM σ (sk_u (sk_u (sk_u σ 5 104 a) 5 110 b) 5 103 c) := scM.u5 (scM.u5 (scM.u5 scM.rf))
  refine pX7_hasText (u := 0) (lw := lw) (by omega) (by rw [hsc.s1]; exact hL) (fun L e => ex_i (br_f i1_0 ?_)) (fun e => ex_i (br_t rfl ?_))
  · subst e
    refine pX7_worked (u := 0) (a := a) (b := b) (c := c) (by omega) (by omega) ?_ (by rw [hsc.s1]; exact hL) (fun g => ex_i (pX7_held (ex_i ?_)))
    · intro j hj
      rcases (show j = 0 ∨ j = 1 ∨ j = 2 by omega) with rfl | rfl | rfl
      · show sk_u (sk_u (sk_u σ 5 104 a) 5 110 b) 5 103 c 5 104 = a
        rw [su_n (by omega), su_n (by omega), su_e]
      · show sk_u (sk_u (sk_u σ 5 104 a) 5 110 b) 5 103 c 5 110 = b
        rw [su_n (by omega), su_e]
      · show sk_u (sk_u (sk_u σ 5 104 a) 5 110 b) 5 103 c 5 103 = c
        rw [su_e]
    · rw [clamp_h]; exact h _ (scM.w6 hsc)
  · subst e
    refine pX7_held (ex_i ?_)
    rw [clamp_h]; exact h _ hsc
theorem pX7_dropTold {a b c : Int32} {lw : Option (List Tk)} (hd : 1 < d) (hL : RLm (σ 1) 1 lw) (h : ∀ σ2, scM σ σ2 → K (some (.int (pGive 1 lw a b c))) σ2) : sk_C sk_Sm d mX7_dropTold [.ref 0, .int a, .int b, .int c] σ K := by
  refine wX7_dropTold (by omega) ?_
  have hsc : scM σ (sk_u (sk_u (sk_u σ 5 114 a) 5 99 b) 5 121 c) := scM.u5 (scM.u5 (scM.u5 scM.rf))
  refine pX7_hasText (u := 1) (lw := lw) (by omega) (by rw [hsc.s1]; exact hL) (fun L e => ex_i (br_f i1_0 ?_)) (fun e => ex_i (br_t rfl ?_))
  · subst e
    refine pX7_worked (u := 1) (a := a) (b := b) (c := c) (by omega) (by omega) ?_ (by rw [hsc.s1]; exact hL) (fun g => ex_i (pX7_held (ex_i ?_)))
    · intro j hj
      rcases (show j = 0 ∨ j = 1 ∨ j = 2 by omega) with rfl | rfl | rfl
      · show sk_u (sk_u (sk_u σ 5 114 a) 5 99 b) 5 121 c 5 114 = a
        rw [su_n (by omega), su_n (by omega), su_e]
      · show sk_u (sk_u (sk_u σ 5 114 a) 5 99 b) 5 121 c 5 99 = b
        rw [su_n (by omega), su_e]
      · show sk_u (sk_u (sk_u σ 5 114 a) 5 99 b) 5 121 c 5 121 = c
        rw [su_e]
    · rw [clamp_h]; exact h _ (scM.w6 hsc)
  · subst e
    refine pX7_held (ex_i ?_)
    rw [clamp_h]; exact h _ hsc
/-- what a slate holds for a gale -/
def pHold (s : Nat → Int32) (lw : Option (List Tk)) (k : Nat) (g : Int32) : Int32 := pGive 0 lw (pHo (fl s k) (s 0) (s 1)) (fl s k 3) g
theorem pX7_holdOf {k : Nat} {g : Int32} {lw : Option (List Tk)} (hk : k < 10) (hd : 2 < d) (hL : RLm (σ 1) 0 lw) (h : ∀ σ2, scM σ σ2 → K (some (.int (pHold (σ 1) lw k g))) σ2) : sk_C sk_Sm d mX7_holdOf [.ref 0, .int (nI k), .int g] σ K :=
  wX7_holdOf (by omega) (pX7_holdsOf hk (by omega) (ex_i (pX7_its 3 hk (by omega) (ex_i (pX7_holdTold (by omega) hL (fun σ2 h2 => ex_i (h σ2 h2)))))))
end
