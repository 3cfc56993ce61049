/-! ===== what is related, whole ===== -/
/-- the kept roof's numbers, laid where the roof now has its own -/
def kpT (τ : sk_T) : sk_T := fun c =>
  if c = 1 then τ 2 else if 3 ≤ c ∧ c < 13 then τ (c + 10) else if c = 23 ∨ c = 24 ∨ c = 27 ∨ c = 28 then τ (c + 2) else if c = 39 ∨ c = 41 then τ (c + 1) else fun _ => 0
def RSh (τ σ : sk_T) : Prop := ∀ j, j < 4 → τ (49 + j) 0 = σ 9 j ∧ (σ 9 j = 0 ∨ σ 9 j = 8 ∨ σ 9 j = 16 ∨ σ 9 j = 32) ∧ (∃ a, a ≤ 24 ∧ τ (49 + j) 1 = nI a ∧ σ 10 j = nI a) ∧ ∀ i, i < 24 → τ (53 + j) i = σ 11 (24 * j + i)
def RTr (τ σ : sk_T) : Prop := ∃ t, t ≤ 30 ∧ τ 46 1 = nI t ∧ σ 0 12 = nI t ∧ ∀ i, i < t → τ 47 i = σ 8 i
def R (τ σ : sk_T) : Prop :=
  (∃ n l0 l1, RN τ (σ 1) n l0 l1) ∧ (¬ σ 0 2 = 0 → ∃ n l0 l1, RN (kpT τ) (σ 2) n l0 l1) ∧ (τ 25 0 = 0 ∧ τ 26 0 = 1) ∧ τ 0 2 = σ 0 2 ∧ (∀ k, k < 7 → τ 57 k = σ 3 k) ∧ RSh τ σ ∧ RTr τ σ
/-- what is done between the two: the class's operation, then the reference's, with the same answer -/
def jK (e : Nat) (M : sk_M) (args : List Value) (σ : sk_T) : sk_K := fun v τ' => ∃ r : Int32, v = some (.int r) ∧ sk_C sk_Sm e M args σ (fun w σ' => w = some (.int r) ∧ R τ' σ')
theorem kp_fr {τ τ2 : sk_T} (h : frC τ τ2) : kpT τ2 = kpT τ := by
  funext c
  unfold kpT
  by_cases h1 : c = 1
  · rw [if_pos h1, if_pos h1]; exact h 2 (by omega)
  rw [if_neg h1, if_neg h1]
  by_cases h2 : 3 ≤ c ∧ c < 13
  · rw [if_pos h2, if_pos h2]; exact h _ (by omega)
  rw [if_neg h2, if_neg h2]
  by_cases h3 : c = 23 ∨ c = 24 ∨ c = 27 ∨ c = 28
  · rw [if_pos h3, if_pos h3]; exact h _ (by omega)
  rw [if_neg h3, if_neg h3]
  by_cases h4 : c = 39 ∨ c = 41
  · rw [if_pos h4, if_pos h4]; exact h _ (by omega)
  rw [if_neg h4, if_neg h4]
theorem R.now {τ τ2 σ σ2 : sk_T} {n : Nat} {l0 l1 : Option (List Tk)} (h : R τ σ) (hf : frC τ τ2) (hm : frM σ σ2) (hN : RN τ2 (σ2 1) n l0 l1) : R τ2 σ2 := by
  obtain ⟨-, h2, h3, h4, h5, h6, h7⟩ := h
  refine ⟨⟨n, l0, l1, hN⟩, ?_, ?_, ?_, ?_, ?_, ?_⟩
  · rw [hm 0 (by omega) (by omega) (by omega) (by omega), hm 2 (by omega) (by omega) (by omega) (by omega), kp_fr hf]; exact h2
  · rw [hf 25 (by omega), hf 26 (by omega)]; exact h3
  · rw [hf 0 (by omega), hm 0 (by omega) (by omega) (by omega) (by omega)]; exact h4
  · rw [hf 57 (by omega), hm 3 (by omega) (by omega) (by omega) (by omega)]; exact h5
  · intro j hj
    rw [hf (49 + j) (by omega), hf (53 + j) (by omega), hm 9 (by omega) (by omega) (by omega) (by omega), hm 10 (by omega) (by omega) (by omega) (by omega), hm 11 (by omega) (by omega) (by omega) (by omega)]
    exact h6 j hj
  · unfold RTr
    rw [hf 46 (by omega), hf 47 (by omega), hm 0 (by omega) (by omega) (by omega) (by omega), hm 8 (by omega) (by omega) (by omega) (by omega)]
    exact h7
/-- scratch alone -/
theorem R.sc {τ τ2 σ σ2 : sk_T} (h : R τ σ) (hf : scC τ τ2) (hm : scN σ σ2) : R τ2 σ2 := by
  obtain ⟨n, l0, l1, hN⟩ := h.1
  exact h.now hf.fr hm.fr (by rw [hm.s1]; exact hN.sc hf)
theorem R.err {τ σ : sk_T} {j : Nat} (h : R τ σ) (hj : j < 7) : R (sk_u τ 57 j (τ 57 j + 1)) (sk_u σ 3 j (σ 3 j + 1)) := by
  have hc : ∀ c, c ≠ 57 → sk_u τ 57 j (τ 57 j + 1) c = τ c := fun c hc => su_c hc
  have hm : ∀ c, c ≠ 3 → sk_u σ 3 j (σ 3 j + 1) c = σ c := fun c hc => su_c hc
  have hkp : kpT (sk_u τ 57 j (τ 57 j + 1)) = kpT τ := by
    funext c
    unfold kpT
    rw [hc 2 (by omega)]
    by_cases h1 : c = 1
    · rw [if_pos h1, if_pos h1]
    rw [if_neg h1, if_neg h1]
    by_cases h2 : 3 ≤ c ∧ c < 13
    · rw [if_pos h2, if_pos h2]; exact hc _ (by omega)
    rw [if_neg h2, if_neg h2]
    by_cases h3 : c = 23 ∨ c = 24 ∨ c = 27 ∨ c = 28
    · rw [if_pos h3, if_pos h3]; exact hc _ (by omega)
    rw [if_neg h3, if_neg h3]
    by_cases h4 : c = 39 ∨ c = 41
    · rw [if_pos h4, if_pos h4]; exact hc _ (by omega)
    rw [if_neg h4, if_neg h4]
  obtain ⟨⟨n, l0, l1, hN⟩, h2, h3, h4, h5, h6, h7⟩ := h
  refine ⟨⟨n, l0, l1, ?_⟩, ?_, ?_, ?_, ?_, ?_, ?_⟩
  · rw [hm 1 (by omega)]
    have hn := hN.1.1
    unfold RN RTp RTl at hN ⊢
    rw [hc 1 (by omega), hc 39 (by omega), hc 41 (by omega)]
    refine ⟨hN.1, fun k hk => ?_, hN.2.2.1.cg (hc _ (by omega)) (hc _ (by omega)) (fun _ _ _ => rfl) (by omega), hN.2.2.2.1.cg (hc _ (by omega)) (hc _ (by omega)) (fun _ _ _ => rfl) (by omega), hN.2.2.2.2⟩
    rw [hc (3 + k) (by omega)]
    exact hN.2.1 k hk
  · rw [hm 0 (by omega), hm 2 (by omega), hkp]; exact h2
  · rw [hc 25 (by omega), hc 26 (by omega)]; exact h3
  · rw [hc 0 (by omega), hm 0 (by omega)]; exact h4
  · intro k hk
    by_cases e : k = j
    · subst e; rw [su_e, su_e, h5 k hk]
    · rw [su_n e, su_n e]; exact h5 k hk
  · intro q hq
    rw [hc (49 + q) (by omega), hc (53 + q) (by omega), hm 9 (by omega), hm 10 (by omega), hm 11 (by omega)]
    exact h6 q hq
  · unfold RTr
    rw [hc 46 (by omega), hc 47 (by omega), hm 0 (by omega), hm 8 (by omega)]
    exact h7
section
variable {d e : Nat} {τ σ : sk_T} {K : sk_K} {s : Nat → Int32} {n : Nat} {v : Int32}
/-- an error, the class's side: the reference goes on -/
theorem cE {M : sk_M} {args : List Value} {σ0 : sk_T} (j : Nat) (hj : j < 7) (h : sk_C sk_Sm e M args σ0 (fun w σ' => w = some (.int (-1000000000 - nI j)) ∧ R (sk_u τ 57 j (τ 57 j + 1)) σ')) : sk_C sk_Sc d mX6_error [.ref 0, .int (nI j)] τ (fun w t => ∃ r : Int32, w = some (.int r) ∧ jK e M args σ0 (some (.int r)) t) := by
  refine wX6_error ⟨vp_in_nI hj (by omega), vp_in_nI hj (by omega), ex_i ⟨_, rfl, ?_⟩⟩
  rw [nI_clamp (show j < 2 ^ 31 by omega)]
  exact h
/-- and the reference's own -/
theorem mE (j : Nat) (hj : j < 7) (hR : R τ σ) : sk_C sk_Sm d mX7_error [.ref 0, .int (nI j)] σ (fun w t => ∃ r : Int32, w = some (.int r) ∧ (some (Value.int r) = some (.int (-1000000000 - nI j)) ∧ R (sk_u τ 57 j (τ 57 j + 1)) t)) := by
  refine wX7_error ⟨vp_in_nI hj (by omega), vp_in_nI hj (by omega), ex_i ⟨rfl, ?_⟩⟩
  rw [nI_clamp (show j < 2 ^ 31 by omega)]
  exact hR.err hj
/-- the range tests, each with its outcome known -/
theorem cSl_t {k : Nat} (hR : τ 1 1 = nI n) (hn : n ≤ 10) (hk : k < n) (h : K (some (.int 1)) τ) : sk_C sk_Sc d mX6_isSlate [.ref 0, .int (nI k)] τ K :=
  wX6_isSlate (br_f (nI_pos (by omega)) (by rw [hR]; exact br_f (fun z => absurd ((nI_leI (by omega) (by omega)).mp z) (by omega)) h))
theorem cSl_f (hR : τ 1 1 = nI n) (hn : n ≤ 10) (hk : ¬ ∃ c, c < n ∧ v = nI c) (h : K (some (.int 0)) τ) : sk_C sk_Sc d mX6_isSlate [.ref 0, .int v] τ K := by
  refine wX6_isSlate ?_
  rw [hR]
  exact rg_b n (by omega) (fun c hc e => absurd ⟨c, hc, e⟩ hk) (fun _ _ => h)
theorem mSl_t {k : Nat} (hR : σ 1 6 = nI n) (hn : n ≤ 10) (hd : 0 < d) (hk : k < n) (h : K (some (.int 1)) σ) : sk_C sk_Sm d mX7_isSlate [.ref 0, .int (nI k)] σ K :=
  pX7_isSlate hR (by omega) hd (fun _ _ _ => h) (fun z => absurd ⟨k, hk, rfl⟩ z)
theorem mSl_f (hR : σ 1 6 = nI n) (hn : n ≤ 10) (hd : 0 < d) (hk : ¬ ∃ c, c < n ∧ v = nI c) (h : K (some (.int 0)) σ) : sk_C sk_Sm d mX7_isSlate [.ref 0, .int v] σ K :=
  pX7_isSlate hR (by omega) hd (fun c hc e => absurd ⟨c, hc, e⟩ hk) (fun _ => h)
theorem mIn_t {N k : Nat} (hN : N < 2 ^ 31 - 1) (hk : k < N + 1) (h : K (some (.int 1)) σ) : sk_C sk_Sm d mX7_in [.int (nI k), .int 0, .int (nI N)] σ K :=
  pX7_inC N hN (fun _ _ _ => h) (fun z => absurd ⟨k, hk, rfl⟩ z)
theorem mIn_f {N : Nat} (hN : N < 2 ^ 31 - 1) (hk : ¬ ∃ c, c < N + 1 ∧ v = nI c) (h : K (some (.int 0)) σ) : sk_C sk_Sm d mX7_in [.int v, .int 0, .int (nI N)] σ K :=
  pX7_inC N hN (fun c hc e => absurd ⟨c, hc, e⟩ hk) (fun _ => h)
theorem cDg_t {k : Nat} (hk : k < 10) (h : K (some (.int 1)) τ) : sk_C sk_Sc d mX6_isDigit [.int (nI k)] τ K :=
  wX6_isDigit (rg_c 9 (by omega) (fun _ _ _ => h) (fun _ z => absurd ⟨k, hk, rfl⟩ z))
theorem cDg_f (hk : ¬ ∃ c, c < 10 ∧ v = nI c) (h : K (some (.int 0)) τ) : sk_C sk_Sc d mX6_isDigit [.int v] τ K :=
  wX6_isDigit (rg_c 9 (by omega) (fun c hc e => absurd ⟨c, hc, e⟩ hk) (fun _ _ => h))
theorem cGa_t {k : Nat} (hk : k < 41) (h : K (some (.int 1)) τ) : sk_C sk_Sc d mX6_isGale [.int (nI k)] τ K :=
  wX6_isGale (rg_c 40 (by omega) (fun _ _ _ => h) (fun _ z => absurd ⟨k, hk, rfl⟩ z))
theorem cGa_f (hk : ¬ ∃ c, c < 41 ∧ v = nI c) (h : K (some (.int 0)) τ) : sk_C sk_Sc d mX6_isGale [.int v] τ K :=
  wX6_isGale (rg_c 40 (by omega) (fun c hc e => absurd ⟨c, hc, e⟩ hk) (fun _ _ => h))
theorem mGa_t {k : Nat} (hd : 0 < d) (hk : k < 41) (h : K (some (.int 1)) σ) : sk_C sk_Sm d mX7_isGale [.int (nI k)] σ K :=
  wX7_isGale hd (mIn_t (N := 40) (by omega) hk (ex_i ⟨rfl, h⟩))
theorem mGa_f (hd : 0 < d) (hk : ¬ ∃ c, c < 41 ∧ v = nI c) (h : K (some (.int 0)) σ) : sk_C sk_Sm d mX7_isGale [.int v] σ K :=
  wX7_isGale hd (mIn_f (N := 40) (by omega) hk (ex_i ⟨rfl, h⟩))
theorem cBt_t {k : Nat} (hk : k < 2) (h : K (some (.int 1)) τ) : sk_C sk_Sc d mX6_isBit [.int (nI k)] τ K := by
  refine wX6_isBit ⟨fun _ => h, fun e => ns_f ?_ h⟩
  match k, hk with
  | 0, _ => exact absurd rfl e
  | 1, _ => rfl
theorem cBt_f (hk : ¬ ∃ c, c < 2 ∧ v = nI c) (h : K (some (.int 0)) τ) : sk_C sk_Sc d mX6_isBit [.int v] τ K :=
  wX6_isBit (br_f (fun e => hk ⟨0, by omega, e⟩) (ns_t (fun e => hk ⟨1, by omega, e⟩) h))
end
