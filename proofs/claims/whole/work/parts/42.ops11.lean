/-! ===== image, restore ===== -/
theorem a11 (x : Int32) : x &&& 1 &&& 1 = x &&& 1 := b_ext (fun i _ => by rw [b_and, b_and, Bool.and_assoc, Bool.and_self])
theorem kp_1 {τ : sk_T} : kpT τ 1 = τ 2 := by unfold kpT; rw [if_pos rfl]
theorem kp_t {τ : sk_T} {k : Nat} (hk : k < 10) : kpT τ (3 + k) = τ (13 + k) := by
  unfold kpT
  rw [if_neg (by omega), if_pos (by omega)]
  exact congrArg τ (by omega)
theorem kp_l {τ : sk_T} {u : Nat} (hu : u < 2) : kpT τ (23 + u) = τ (25 + u) := by
  unfold kpT
  rw [if_neg (by omega), if_neg (by omega), if_pos (by omega)]
  exact congrArg τ (by omega)
theorem kp_c {τ : sk_T} {u : Nat} (hu : u < 2) : kpT τ (27 + u) = τ (29 + u) := by
  unfold kpT
  rw [if_neg (by omega), if_neg (by omega), if_pos (by omega)]
  exact congrArg τ (by omega)
theorem kp_39 {τ : sk_T} : kpT τ 39 = τ 40 := by
  unfold kpT
  rw [if_neg (by omega), if_neg (by omega), if_neg (by omega), if_pos (by omega)]
theorem kp_41 {τ : sk_T} : kpT τ 41 = τ 42 := by
  unfold kpT
  rw [if_neg (by omega), if_neg (by omega), if_neg (by omega), if_pos (by omega)]
def hdJ (j : Nat) : Prop := j = 1 ∨ j = 2 ∨ j = 3 ∨ j = 4 ∨ j = 5 ∨ j = 7 ∨ j = 10
theorem RN.ext {τ τ2 : sk_T} {s s2 : Nat → Int32} {n : Nat} {l0 l1 : Option (List Tk)} (h : RN τ s n l0 l1) (hh : ∀ j, hdJ j → τ2 1 j = τ 1 j) (ht : ∀ k, k < 10 → ∀ j, j < 7 → τ2 (3 + k) j = τ (3 + k) j)
    (hl : ∀ u, u < 2 → τ2 (23 + u) 0 = τ (23 + u) 0 ∧ τ2 (23 + u) 1 &&& 1 = τ (23 + u) 1 &&& 1 ∧ τ2 (23 + u) 3 = τ (23 + u) 3 ∧ ∀ i, i < 60 → τ2 (27 + u) i = τ (27 + u) i)
    (ha : ∀ i, i < 60 → τ2 39 i = τ 39 i) (hw : ∀ i, i < 24 → τ2 41 i = τ 41 i) (hs : ∀ i, i < 412 → s2 i = s i) : RN τ2 s2 n l0 l1 := by
  obtain ⟨k1, k2, k3, k4, ⟨f, f1, f2, f3, f4⟩, w, w1, w2, w3, w4⟩ := h
  have hn := k1.1
  have cgl : ∀ {u : Nat} {lw : Option (List Tk)}, u < 2 → RLw τ (23 + u) (27 + u) s u lw → RLw τ2 (23 + u) (27 + u) s2 u lw := fun {u lw} hu h => by
    obtain ⟨a0, a1, a3, ac⟩ := hl u hu
    unfold RLw at h ⊢
    rw [a0, a1, a3, hs (78 + 125 * u) (by omega)]
    refine ⟨h.1, ?_⟩
    have h2 := h.2
    cases lw with
    | none => exact h2
    | some L =>
      obtain ⟨a, b, c, d, e, f, g⟩ := h2
      refine ⟨a, b, c, d, e, f, fun i t hi => ?_⟩
      have hl : i < L.length := (List.getElem?_eq_some_iff.mp hi).1
      obtain ⟨g1, g2, g3, g4⟩ := g i t hi
      exact ⟨g1, (ac i (by omega)).trans g2, (hs _ (by omega)).trans g3, (hs _ (by omega)).trans g4⟩
  refine ⟨?_, fun k hk => ?_, cgl (u := 0) (by omega) k3, cgl (u := 1) (by omega) k4, ⟨f, f1, (hs 4 (by omega)).trans f2, (hh 7 (by unfold hdJ; omega)).trans f3, fun i hi => ?_⟩, w, w1, (hs 5 (by omega)).trans w2, (hh 10 (by unfold hdJ; omega)).trans w3, fun i hi => ?_⟩
  · unfold RHd at k1 ⊢
    rw [hh 1 (by unfold hdJ; omega), hh 2 (by unfold hdJ; omega), hh 3 (by unfold hdJ; omega), hh 4 (by unfold hdJ; omega), hh 5 (by unfold hdJ; omega), hs 6 (by omega), hs 0 (by omega), hs 1 (by omega), hs 2 (by omega), hs 3 (by omega)]
    exact k1
  · have e2 : ∀ j, j < 7 → fl s2 k j = fl s k j := fun j hj => hs _ (by omega)
    refine ⟨fun j hj => (ht k (by omega) j hj).trans (((k2 k hk).1 j hj).trans (e2 j hj).symm), ?_⟩
    have := (k2 k hk).2
    unfold tl_ok at this ⊢
    rw [e2 0 (by omega), e2 1 (by omega), e2 2 (by omega), e2 3 (by omega), e2 4 (by omega), e2 5 (by omega), e2 6 (by omega)]
    exact this
  · rw [ha i (by omega), hs _ (by omega)]; exact f4 i hi
  · rw [hw i (by omega), hs _ (by omega)]; exact w4 i hi
section
variable {d e : Nat} {τ σ : sk_T} {K : sk_K} {q o qc qs oc os : Nat}
theorem pX5_copy (hq : sk_Sc[q]? = some (0, 5, [0, 0, 0, 0, 0, 0, 0])) (ho : sk_Sc[o]? = some (0, 5, [0, 0, 0, 0, 0, 0, 0])) (hne : o ≠ q) (h : ∀ τ2, (∀ c, c ≠ q → τ2 c = τ c) → (∀ j, j < 7 → τ2 q j = τ o j) → K none τ2) : sk_C sk_Sc d mX5_copy [.ref q, .ref o] τ K := by
  refine wX5_copy hq ho ?_
  simp only [su_c hne]
  refine h _ (fun c hc => ?_) (fun j hj => ?_)
  · rw [su_c hc, su_c hc, su_c hc, su_c hc, su_c hc, su_c hc, su_c hc]
  · match j, hj with
    | 0, _ => rw [su_n (by omega), su_n (by omega), su_n (by omega), su_n (by omega), su_n (by omega), su_n (by omega), su_e]
    | 1, _ => rw [su_n (by omega), su_n (by omega), su_n (by omega), su_n (by omega), su_n (by omega), su_e]
    | 2, _ => rw [su_n (by omega), su_n (by omega), su_n (by omega), su_n (by omega), su_e]
    | 3, _ => rw [su_n (by omega), su_n (by omega), su_n (by omega), su_e]
    | 4, _ => rw [su_n (by omega), su_n (by omega), su_e]
    | 5, _ => rw [su_n (by omega), su_e]
    | 6, _ => rw [su_e]
theorem cp_0 {f g : Nat → Int32} {N i : Nat} (h : i < N) : va_cpy f g 0 0 N i = f i := by
  unfold va_cpy
  rw [if_pos (by omega)]
  exact congrArg f (by omega)
theorem pX1_copy (hq : sk_Sc[q]? = some (0, 1, [0, 1, qc + 2, 0, qs + 2])) (hqc : sk_Sc[qc]? = some (1, 60, [])) (hqs : sk_Sc[qs]? = some (1, 60, [])) (ho : sk_Sc[o]? = some (0, 1, [0, 1, oc + 2, 0, os + 2])) (hoc : sk_Sc[oc]? = some (1, 60, [])) (hos : sk_Sc[os]? = some (1, 60, [])) (hd : 0 < d) (n1 : o ≠ q) (n2 : o ≠ qc) (n3 : q ≠ qc)
    (h : ∀ τ2, (∀ c, c ≠ q → c ≠ qc → τ2 c = τ c) → (∀ i, i < 60 → τ2 qc i = τ oc i) → τ2 q 0 = τ q 0 → τ2 q 1 = τ o 1 &&& 1 → τ2 q 3 = τ o 3 → K none τ2) : sk_C sk_Sc d mX1_copy [.ref q, .ref o] τ K := by
  refine wX1_copy hq hqc hqs ho hoc hos hd ⟨a11 _, ?_⟩
  rw [su_c n1, sw_c n2]
  refine h _ (fun c hc hc2 => ?_) (fun i hi => ?_) ?_ ?_ ?_
  · rw [su_c hc, su_c hc, sw_c hc2]
  · rw [su_c (fun z => n3 z.symm), su_c (fun z => n3 z.symm), sw_s]
    exact cp_0 hi
  · rw [su_n (by omega), su_n (by omega), sw_c n3]
  · rw [su_e]
  · rw [su_n (by omega), su_e]
/-- the roof 2 becomes a copy of the roof 1 -/
def cpK (τ τ2 : sk_T) : Prop :=
  (∀ c, c ≠ 2 → (c < 13 ∨ 13 + 10 ≤ c) → (c < 25 ∨ 25 + 2 ≤ c) → (c < 29 ∨ 29 + 2 ≤ c) → c ≠ 40 → c ≠ 42 → τ2 c = τ c) ∧
  (∀ k, k < 10 → ∀ j, j < 7 → τ2 (13 + k) j = τ (3 + k) j) ∧
  (∀ u, u < 2 → τ2 (25 + u) 0 = τ (25 + u) 0 ∧ τ2 (25 + u) 1 = τ (23 + u) 1 &&& 1 ∧ τ2 (25 + u) 3 = τ (23 + u) 3 ∧ ∀ i, i < 60 → τ2 (29 + u) i = τ (27 + u) i) ∧
  (∀ i, i < 60 → τ2 40 i = τ 39 i) ∧ (∀ i, i < 24 → τ2 42 i = τ 41 i) ∧ ∀ j, hdJ j → τ2 2 j = τ 1 j
theorem lX3_copyK31 (hd : 1 < d) (τ0 : sk_T) (hT : ∀ k, k < 10 → ∀ j, j < 7 → τ (13 + k) j = τ0 (3 + k) j) (hO : ∀ c, (c < 13 ∨ 13 + 10 ≤ c) → τ c = τ0 c) (h : ∀ τ2, cpK τ0 τ2 → K none τ2) : ∀ m u, u + m = 2 → ∀ τ2, (∀ c, (c < 25 ∨ 25 + 2 ≤ c) → (c < 29 ∨ 29 + 2 ≤ c) → τ2 c = τ c) → (∀ v, v < u → τ2 (25 + v) 0 = τ0 (25 + v) 0 ∧ τ2 (25 + v) 1 = τ0 (23 + v) 1 &&& 1 ∧ τ2 (25 + v) 3 = τ0 (23 + v) 3 ∧ ∀ i, i < 60 → τ2 (29 + v) i = τ0 (27 + v) i) → (∀ v, u ≤ v → v < 2 → τ2 (25 + v) = τ0 (25 + v) ∧ τ2 (29 + v) = τ0 (29 + v)) →
    sk_G sk_Sc d mX3_copy 31 [(0, .ref 2), (1, .ref 1), (2, .int (nI u))] [] τ2 K := by
  intro m
  induction m with
  | zero =>
    intro u hu τ2 h1 h2 h3
    obtain rfl : u = 2 := hu
    refine bX3_copyK_31 (by omega) (br_t (by decide) ?_)
    simp only [su_c (show 1 ≠ 2 by decide), sw_c (show 1 ≠ 40 by decide), sw_c (show 1 ≠ 42 by decide), sw_c (show 41 ≠ 40 by decide), sw_c (show 42 ≠ 40 by decide)]
    refine h _ ⟨fun c c1 c2 c3 c4 c5 c6 => ?_, fun k hk j hj => ?_, fun v hv => ?_, fun i hi => ?_, fun i hi => ?_, fun j hj => ?_⟩
    · rw [su_c c1, su_c c1, su_c c1, su_c c1, su_c c1, su_c c1, su_c c1, sw_c c6, sw_c c5, h1 c c3 c4, hO c c2]
    · rw [su_c (by omega), su_c (by omega), su_c (by omega), su_c (by omega), su_c (by omega), su_c (by omega), su_c (by omega), sw_c (by omega), sw_c (by omega), h1 _ (by omega) (by omega)]
      exact hT k hk j hj
    · rw [su_c (show 25 + v ≠ 2 by omega), su_c (show 25 + v ≠ 2 by omega), su_c (show 25 + v ≠ 2 by omega), su_c (show 25 + v ≠ 2 by omega), su_c (show 25 + v ≠ 2 by omega), su_c (show 25 + v ≠ 2 by omega), su_c (show 25 + v ≠ 2 by omega), sw_c (show 25 + v ≠ 42 by omega), sw_c (show 25 + v ≠ 40 by omega)]
      rw [su_c (show 29 + v ≠ 2 by omega), su_c (show 29 + v ≠ 2 by omega), su_c (show 29 + v ≠ 2 by omega), su_c (show 29 + v ≠ 2 by omega), su_c (show 29 + v ≠ 2 by omega), su_c (show 29 + v ≠ 2 by omega), su_c (show 29 + v ≠ 2 by omega), sw_c (show 29 + v ≠ 42 by omega), sw_c (show 29 + v ≠ 40 by omega)]
      exact h2 v hv
    · rw [su_c (by omega), su_c (by omega), su_c (by omega), su_c (by omega), su_c (by omega), su_c (by omega), su_c (by omega), sw_c (by omega), sw_s]
      refine (cp_0 (N := 60) hi).trans ?_
      rw [h1 _ (by omega) (by omega), hO _ (by omega)]
    · rw [su_c (by omega), su_c (by omega), su_c (by omega), su_c (by omega), su_c (by omega), su_c (by omega), su_c (by omega), sw_s]
      refine (cp_0 (N := 24) hi).trans ?_
      rw [h1 _ (by omega) (by omega), hO _ (by omega)]
    · have eo : τ2 1 = τ0 1 := (h1 _ (by omega) (by omega)).trans (hO _ (by omega))
      rw [eo]
      unfold hdJ at hj
      rcases hj with rfl | rfl | rfl | rfl | rfl | rfl | rfl
      · rw [su_n (by omega), su_n (by omega), su_n (by omega), su_n (by omega), su_n (by omega), su_n (by omega), su_e]
      · rw [su_n (by omega), su_n (by omega), su_n (by omega), su_n (by omega), su_n (by omega), su_e]
      · rw [su_n (by omega), su_n (by omega), su_n (by omega), su_n (by omega), su_e]
      · rw [su_n (by omega), su_n (by omega), su_n (by omega), su_e]
      · rw [su_n (by omega), su_n (by omega), su_e]
      · rw [su_n (by omega), su_e]
      · rw [su_e]
  | succ m ih =>
    intro u hu τ2 h1 h2 h3
    refine bX3_copyK_31 (by omega) (br_f (fun z => absurd ((nI_leI (a := 2) (by omega) (by omega)).mp z) (by omega)) ⟨vp_in_nI (by omega) (by omega), vp_in_nI (by omega) (by omega), ?_⟩)
    rw [nI_clamp (show u < 2 ^ 31 by omega), nI_1]
    obtain ⟨q1, q2, q3, -⟩ := sk_lawFK u (by omega)
    obtain ⟨o1, o2, o3, -⟩ := sk_lawF u (by omega)
    refine pX1_copy q1 q2 q3 o1 o2 o3 (by omega) (by omega) (by omega) (by omega) (fun τ3 g1 g2 g3 g4 g5 => ⟨rfl, ih (u + 1) (by omega) τ3 (fun c c1 c2 => (g1 c (by omega) (by omega)).trans (h1 c c1 c2)) (fun v hv => ?_) (fun v hv hv2 => ?_)⟩)
    · have eL : τ2 (23 + u) = τ0 (23 + u) := (h1 _ (by omega) (by omega)).trans (hO _ (by omega))
      have eC : τ2 (27 + u) = τ0 (27 + u) := (h1 _ (by omega) (by omega)).trans (hO _ (by omega))
      by_cases z : v = u
      · subst z
        refine ⟨?_, ?_, ?_, fun i hi => ?_⟩
        · rw [g3, (h3 v (by omega) (by omega)).1]
        · rw [g4, eL]
        · rw [g5, eL]
        · rw [g2 i hi, eC]
      · rw [g1 (25 + v) (by omega) (by omega), g1 (29 + v) (by omega) (by omega)]
        exact h2 v (by omega)
    · rw [g1 (25 + v) (by omega) (by omega), g1 (29 + v) (by omega) (by omega)]
      exact h3 v (by omega) hv2
theorem lX3_copyK2 (hd : 1 < d) (h : ∀ τ2, cpK τ τ2 → K none τ2) : ∀ m i, i + m = 10 → ∀ τ2, (∀ c, (c < 13 ∨ 13 + 10 ≤ c) → τ2 c = τ c) → (∀ k, k < i → ∀ j, j < 7 → τ2 (13 + k) j = τ (3 + k) j) →
    sk_G sk_Sc d mX3_copy 2 [(0, .ref 2), (1, .ref 1), (2, .int (nI i))] [] τ2 K := by
  intro m
  induction m with
  | zero =>
    intro i hi τ2 h1 h2
    obtain rfl : i = 10 := hi
    exact bX3_copyK_2 (by omega) (br_t (by decide) (lX3_copyK31 (τ := τ2) hd τ h2 h1 h 2 0 rfl τ2 (fun _ _ _ => rfl) (fun v hv => absurd hv (by omega)) (fun v _ _ => ⟨h1 _ (by omega), h1 _ (by omega)⟩)))
  | succ m ih =>
    intro i hi τ2 h1 h2
    refine bX3_copyK_2 (by omega) (br_f (fun z => absurd ((nI_leI (a := 10) (by omega) (by omega)).mp z) (by omega)) ⟨vp_in_nI (by omega) (by omega), vp_in_nI (by omega) (by omega), ?_⟩)
    rw [nI_clamp (show i < 2 ^ 31 by omega), nI_1]
    refine pX5_copy (sk_tileFK i (by omega)) (sk_tileF i (by omega)) (by omega) (fun τ3 g1 g2 => ⟨rfl, ih (i + 1) (by omega) τ3 (fun c hc => (g1 c (by omega)).trans (h1 c hc)) (fun k hk j hj => ?_)⟩)
    by_cases z : k = i
    · subst z
      rw [g2 j hj, h1 _ (by omega)]
    · rw [g1 _ (by omega)]; exact h2 k (by omega) j hj
theorem pX3_copyK (hd : 1 < d) (h : ∀ τ2, cpK τ τ2 → K none τ2) : sk_C sk_Sc d mX3_copy [.ref 2, .ref 1] τ K :=
  wX3_copyK (lX3_copyK2 hd h 10 0 rfl τ (fun _ _ => rfl) (fun k hk => absurd hk (by omega)))
/-- the roof 1 becomes a copy of the roof 2 -/
def cpN (τ τ2 : sk_T) : Prop :=
  (∀ c, c ≠ 1 → (c < 3 ∨ 3 + 10 ≤ c) → (c < 23 ∨ 23 + 2 ≤ c) → (c < 27 ∨ 27 + 2 ≤ c) → c ≠ 39 → c ≠ 41 → τ2 c = τ c) ∧
  (∀ k, k < 10 → ∀ j, j < 7 → τ2 (3 + k) j = τ (13 + k) j) ∧
  (∀ u, u < 2 → τ2 (23 + u) 0 = τ (23 + u) 0 ∧ τ2 (23 + u) 1 = τ (25 + u) 1 &&& 1 ∧ τ2 (23 + u) 3 = τ (25 + u) 3 ∧ ∀ i, i < 60 → τ2 (27 + u) i = τ (29 + u) i) ∧
  (∀ i, i < 60 → τ2 39 i = τ 40 i) ∧ (∀ i, i < 24 → τ2 41 i = τ 42 i) ∧ ∀ j, hdJ j → τ2 1 j = τ 2 j
theorem lX3_copyN31 (hd : 1 < d) (τ0 : sk_T) (hT : ∀ k, k < 10 → ∀ j, j < 7 → τ (3 + k) j = τ0 (13 + k) j) (hO : ∀ c, (c < 3 ∨ 3 + 10 ≤ c) → τ c = τ0 c) (h : ∀ τ2, cpN τ0 τ2 → K none τ2) : ∀ m u, u + m = 2 → ∀ τ2, (∀ c, (c < 23 ∨ 23 + 2 ≤ c) → (c < 27 ∨ 27 + 2 ≤ c) → τ2 c = τ c) → (∀ v, v < u → τ2 (23 + v) 0 = τ0 (23 + v) 0 ∧ τ2 (23 + v) 1 = τ0 (25 + v) 1 &&& 1 ∧ τ2 (23 + v) 3 = τ0 (25 + v) 3 ∧ ∀ i, i < 60 → τ2 (27 + v) i = τ0 (29 + v) i) → (∀ v, u ≤ v → v < 2 → τ2 (23 + v) = τ0 (23 + v) ∧ τ2 (27 + v) = τ0 (27 + v)) →
    sk_G sk_Sc d mX3_copy 31 [(0, .ref 1), (1, .ref 2), (2, .int (nI u))] [] τ2 K := by
  intro m
  induction m with
  | zero =>
    intro u hu τ2 h1 h2 h3
    obtain rfl : u = 2 := hu
    refine bX3_copyN_31 (by omega) (br_t (by decide) ?_)
    simp only [su_c (show 2 ≠ 1 by decide), sw_c (show 2 ≠ 39 by decide), sw_c (show 2 ≠ 41 by decide), sw_c (show 42 ≠ 39 by decide), sw_c (show 41 ≠ 39 by decide)]
    refine h _ ⟨fun c c1 c2 c3 c4 c5 c6 => ?_, fun k hk j hj => ?_, fun v hv => ?_, fun i hi => ?_, fun i hi => ?_, fun j hj => ?_⟩
    · rw [su_c c1, su_c c1, su_c c1, su_c c1, su_c c1, su_c c1, su_c c1, sw_c c6, sw_c c5, h1 c c3 c4, hO c c2]
    · rw [su_c (by omega), su_c (by omega), su_c (by omega), su_c (by omega), su_c (by omega), su_c (by omega), su_c (by omega), sw_c (by omega), sw_c (by omega), h1 _ (by omega) (by omega)]
      exact hT k hk j hj
    · rw [su_c (show 23 + v ≠ 1 by omega), su_c (show 23 + v ≠ 1 by omega), su_c (show 23 + v ≠ 1 by omega), su_c (show 23 + v ≠ 1 by omega), su_c (show 23 + v ≠ 1 by omega), su_c (show 23 + v ≠ 1 by omega), su_c (show 23 + v ≠ 1 by omega), sw_c (show 23 + v ≠ 41 by omega), sw_c (show 23 + v ≠ 39 by omega)]
      rw [su_c (show 27 + v ≠ 1 by omega), su_c (show 27 + v ≠ 1 by omega), su_c (show 27 + v ≠ 1 by omega), su_c (show 27 + v ≠ 1 by omega), su_c (show 27 + v ≠ 1 by omega), su_c (show 27 + v ≠ 1 by omega), su_c (show 27 + v ≠ 1 by omega), sw_c (show 27 + v ≠ 41 by omega), sw_c (show 27 + v ≠ 39 by omega)]
      exact h2 v hv
    · rw [su_c (by omega), su_c (by omega), su_c (by omega), su_c (by omega), su_c (by omega), su_c (by omega), su_c (by omega), sw_c (by omega), sw_s]
      refine (cp_0 (N := 60) hi).trans ?_
      rw [h1 _ (by omega) (by omega), hO _ (by omega)]
    · rw [su_c (by omega), su_c (by omega), su_c (by omega), su_c (by omega), su_c (by omega), su_c (by omega), su_c (by omega), sw_s]
      refine (cp_0 (N := 24) hi).trans ?_
      rw [h1 _ (by omega) (by omega), hO _ (by omega)]
    · have eo : τ2 2 = τ0 2 := (h1 _ (by omega) (by omega)).trans (hO _ (by omega))
      rw [eo]
      unfold hdJ at hj
      rcases hj with rfl | rfl | rfl | rfl | rfl | rfl | rfl
      · rw [su_n (by omega), su_n (by omega), su_n (by omega), su_n (by omega), su_n (by omega), su_n (by omega), su_e]
      · rw [su_n (by omega), su_n (by omega), su_n (by omega), su_n (by omega), su_n (by omega), su_e]
      · rw [su_n (by omega), su_n (by omega), su_n (by omega), su_n (by omega), su_e]
      · rw [su_n (by omega), su_n (by omega), su_n (by omega), su_e]
      · rw [su_n (by omega), su_n (by omega), su_e]
      · rw [su_n (by omega), su_e]
      · rw [su_e]
  | succ m ih =>
    intro u hu τ2 h1 h2 h3
    refine bX3_copyN_31 (by omega) (br_f (fun z => absurd ((nI_leI (a := 2) (by omega) (by omega)).mp z) (by omega)) ⟨vp_in_nI (by omega) (by omega), vp_in_nI (by omega) (by omega), ?_⟩)
    rw [nI_clamp (show u < 2 ^ 31 by omega), nI_1]
    obtain ⟨q1, q2, q3, -⟩ := sk_lawF u (by omega)
    obtain ⟨o1, o2, o3, -⟩ := sk_lawFK u (by omega)
    refine pX1_copy q1 q2 q3 o1 o2 o3 (by omega) (by omega) (by omega) (by omega) (fun τ3 g1 g2 g3 g4 g5 => ⟨rfl, ih (u + 1) (by omega) τ3 (fun c c1 c2 => (g1 c (by omega) (by omega)).trans (h1 c c1 c2)) (fun v hv => ?_) (fun v hv hv2 => ?_)⟩)
    · have eL : τ2 (25 + u) = τ0 (25 + u) := (h1 _ (by omega) (by omega)).trans (hO _ (by omega))
      have eC : τ2 (29 + u) = τ0 (29 + u) := (h1 _ (by omega) (by omega)).trans (hO _ (by omega))
      by_cases z : v = u
      · subst z
        refine ⟨?_, ?_, ?_, fun i hi => ?_⟩
        · rw [g3, (h3 v (by omega) (by omega)).1]
        · rw [g4, eL]
        · rw [g5, eL]
        · rw [g2 i hi, eC]
      · rw [g1 (23 + v) (by omega) (by omega), g1 (27 + v) (by omega) (by omega)]
        exact h2 v (by omega)
    · rw [g1 (23 + v) (by omega) (by omega), g1 (27 + v) (by omega) (by omega)]
      exact h3 v (by omega) hv2
theorem lX3_copyN2 (hd : 1 < d) (h : ∀ τ2, cpN τ τ2 → K none τ2) : ∀ m i, i + m = 10 → ∀ τ2, (∀ c, (c < 3 ∨ 3 + 10 ≤ c) → τ2 c = τ c) → (∀ k, k < i → ∀ j, j < 7 → τ2 (3 + k) j = τ (13 + k) j) →
    sk_G sk_Sc d mX3_copy 2 [(0, .ref 1), (1, .ref 2), (2, .int (nI i))] [] τ2 K := by
  intro m
  induction m with
  | zero =>
    intro i hi τ2 h1 h2
    obtain rfl : i = 10 := hi
    exact bX3_copyN_2 (by omega) (br_t (by decide) (lX3_copyN31 (τ := τ2) hd τ h2 h1 h 2 0 rfl τ2 (fun _ _ _ => rfl) (fun v hv => absurd hv (by omega)) (fun v _ _ => ⟨h1 _ (by omega), h1 _ (by omega)⟩)))
  | succ m ih =>
    intro i hi τ2 h1 h2
    refine bX3_copyN_2 (by omega) (br_f (fun z => absurd ((nI_leI (a := 10) (by omega) (by omega)).mp z) (by omega)) ⟨vp_in_nI (by omega) (by omega), vp_in_nI (by omega) (by omega), ?_⟩)
    rw [nI_clamp (show i < 2 ^ 31 by omega), nI_1]
    refine pX5_copy (sk_tileF i (by omega)) (sk_tileFK i (by omega)) (by omega) (fun τ3 g1 g2 => ⟨rfl, ih (i + 1) (by omega) τ3 (fun c hc => (g1 c (by omega)).trans (h1 c hc)) (fun k hk j hj => ?_)⟩)
    by_cases z : k = i
    · subst z
      rw [g2 j hj, h1 _ (by omega)]
    · rw [g1 _ (by omega)]; exact h2 k (by omega) j hj
theorem pX3_copyN (hd : 1 < d) (h : ∀ τ2, cpN τ τ2 → K none τ2) : sk_C sk_Sc d mX3_copy [.ref 1, .ref 2] τ K :=
  wX3_copyN (lX3_copyN2 hd h 10 0 rfl τ (fun _ _ => rfl) (fun k hk => absurd hk (by omega)))
theorem lX7_copyK (h : ∀ σ2, (∀ c, c ≠ 2 → σ2 c = σ c) → (∀ i, i < 412 → σ2 2 i = σ 1 i) → K none σ2) : ∀ m i, i + m = 412 → ∀ σ2, (∀ c, c ≠ 2 → σ2 c = σ c) → (∀ k, k < i → σ2 2 k = σ 1 k) → sk_G sk_Sm d mX7_copyAll 2 [(0, .ref 1), (1, .ref 2), (2, .int (nI i))] [] σ2 K := by
  intro m
  induction m with
  | zero =>
    intro i hi σ2 h1 h2
    obtain rfl : i = 412 := hi
    exact bX7_copyAllK_2 (br_t (Int32.le_refl _) (h σ2 h1 h2))
  | succ m ih =>
    intro i hi σ2 h1 h2
    refine bX7_copyAllK_2 (br_f (fun z => absurd ((nI_leI (a := 412) (by omega) (by omega)).mp z) (by omega)) ⟨vp_in_nI (by omega) (by omega), vp_in_nI (by omega) (by omega), ?_⟩)
    rw [nI_clamp (show i < 2 ^ 31 by omega), nI_1]
    refine ih (i + 1) (by omega) _ (fun c hc => (su_c hc).trans (h1 c hc)) (fun k hk => ?_)
    by_cases z : k = i
    · subst z; rw [su_e, h1 _ (by omega)]
    · rw [su_n z]; exact h2 k (by omega)
theorem pX7_copyK (h : ∀ σ2, (∀ c, c ≠ 2 → σ2 c = σ c) → (∀ i, i < 412 → σ2 2 i = σ 1 i) → K none σ2) : sk_C sk_Sm d mX7_copyAll [.ref 1, .ref 2] σ K :=
  wX7_copyAllK (lX7_copyK h 412 0 rfl σ (fun _ _ => rfl) (fun k hk => absurd hk (by omega)))
theorem lX7_copyR (h : ∀ σ2, (∀ c, c ≠ 1 → σ2 c = σ c) → (∀ i, i < 412 → σ2 1 i = σ 2 i) → K none σ2) : ∀ m i, i + m = 412 → ∀ σ2, (∀ c, c ≠ 1 → σ2 c = σ c) → (∀ k, k < i → σ2 1 k = σ 2 k) → sk_G sk_Sm d mX7_copyAll 2 [(0, .ref 2), (1, .ref 1), (2, .int (nI i))] [] σ2 K := by
  intro m
  induction m with
  | zero =>
    intro i hi σ2 h1 h2
    obtain rfl : i = 412 := hi
    exact bX7_copyAllR_2 (br_t (Int32.le_refl _) (h σ2 h1 h2))
  | succ m ih =>
    intro i hi σ2 h1 h2
    refine bX7_copyAllR_2 (br_f (fun z => absurd ((nI_leI (a := 412) (by omega) (by omega)).mp z) (by omega)) ⟨vp_in_nI (by omega) (by omega), vp_in_nI (by omega) (by omega), ?_⟩)
    rw [nI_clamp (show i < 2 ^ 31 by omega), nI_1]
    refine ih (i + 1) (by omega) _ (fun c hc => (su_c hc).trans (h1 c hc)) (fun k hk => ?_)
    by_cases z : k = i
    · subst z; rw [su_e, h1 _ (by omega)]
    · rw [su_n z]; exact h2 k (by omega)
theorem pX7_copyR (h : ∀ σ2, (∀ c, c ≠ 1 → σ2 c = σ c) → (∀ i, i < 412 → σ2 1 i = σ 2 i) → K none σ2) : sk_C sk_Sm d mX7_copyAll [.ref 2, .ref 1] σ K :=
  wX7_copyAllR (lX7_copyR h 412 0 rfl σ (fun _ _ => rfl) (fun k hk => absurd hk (by omega)))
theorem jImage (hd : 20 < d) (he : 20 < e) (hR : R τ σ) : sk_C sk_Sc d mX6_image [.ref 0] τ (jK e mX7_image [.ref 0] σ) := by
  obtain ⟨⟨n, l0, l1, hN⟩, h2, h3, h4, h5, h6, h7⟩ := hR
  refine wX6_image (by omega) (pX3_copyK (by omega) (fun τ2 hc => ⟨rfl, ?_⟩))
  obtain ⟨c1, c2, c3, c4, c5, c6⟩ := hc
  rw [su_e]
  have e0 : τ2 0 2 = τ 0 2 := by rw [c1 0 (by omega) (by omega) (by omega) (by omega) (by omega) (by omega)]
  refine ⟨_, rfl, wX7_image (by omega) (pX7_copyK (fun σ2 s1 s2 => ⟨rfl, ?_, ?_⟩))⟩
  · rw [su_e, e0, s1 0 (by omega), h4]
  have fr : ∀ c, c ≠ 0 → c ≠ 2 → (c < 13 ∨ 23 ≤ c) → (c < 25 ∨ 27 ≤ c) → (c < 29 ∨ 31 ≤ c) → c ≠ 40 → c ≠ 42 → sk_u τ2 0 2 (τ2 0 2 + 1) c = τ c := fun c z0 z1 z2 z3 z4 z5 z6 => (su_c z0).trans (c1 c z1 (by omega) (by omega) (by omega) z5 z6)
  have fk : ∀ c, c ≠ 0 → sk_u τ2 0 2 (τ2 0 2 + 1) c = τ2 c := fun c z => su_c z
  have gs : ∀ c, c ≠ 0 → sk_u σ2 0 2 (σ2 0 2 + 1) c = σ2 c := fun c z => su_c z
  refine ⟨⟨n, l0, l1, ?_⟩, fun _ => ⟨n, l0, l1, ?_⟩, ?_, ?_, ?_, ?_, ?_⟩
  · rw [gs 1 (by omega), s1 1 (by omega)]
    refine hN.ext (fun j _ => ?_) (fun k hk j hj => ?_) (fun u hu => ?_) (fun i hi => ?_) (fun i hi => ?_) (fun _ _ => rfl)
    · rw [fr 1 (by omega) (by omega) (by omega) (by omega) (by omega) (by omega) (by omega)]
    · rw [fr (3 + k) (by omega) (by omega) (by omega) (by omega) (by omega) (by omega) (by omega)]
    · rw [fr (23 + u) (by omega) (by omega) (by omega) (by omega) (by omega) (by omega) (by omega), fr (27 + u) (by omega) (by omega) (by omega) (by omega) (by omega) (by omega) (by omega)]
      exact ⟨rfl, rfl, rfl, fun _ _ => rfl⟩
    · rw [fr 39 (by omega) (by omega) (by omega) (by omega) (by omega) (by omega) (by omega)]
    · rw [fr 41 (by omega) (by omega) (by omega) (by omega) (by omega) (by omega) (by omega)]
  · rw [gs 2 (by omega)]
    refine hN.ext (fun j hj => ?_) (fun k hk j hj => ?_) (fun u hu => ?_) (fun i hi => ?_) (fun i hi => ?_) (fun i hi => ?_)
    · rw [kp_1, fk 2 (by omega)]; exact c6 j hj
    · rw [kp_t hk, fk _ (by omega)]; exact c2 k hk j hj
    · obtain ⟨a0, a1, a3, ac⟩ := c3 u hu
      rw [kp_l hu, kp_c hu, fk _ (by omega), fk _ (by omega)]
      refine ⟨?_, by rw [a1, a11], a3, ac⟩
      rw [a0]
      match u, hu with
      | 0, _ => exact h3.1.trans hN.2.2.1.1.symm
      | 1, _ => exact h3.2.trans hN.2.2.2.1.1.symm
    · rw [kp_39, fk _ (by omega)]; exact c4 i hi
    · rw [kp_41, fk _ (by omega)]; exact c5 i hi
    · exact s2 i hi
  · rw [fk 25 (by omega), fk 26 (by omega)]
    exact ⟨(c3 0 (by omega)).1.trans h3.1, (c3 1 (by omega)).1.trans h3.2⟩
  · rw [su_e, su_e, e0, s1 0 (by omega), h4]
  · rw [fr 57 (by omega) (by omega) (by omega) (by omega) (by omega) (by omega) (by omega), gs 3 (by omega), s1 3 (by omega)]; exact h5
  · intro j hj
    rw [fr (49 + j) (by omega) (by omega) (by omega) (by omega) (by omega) (by omega) (by omega), fr (53 + j) (by omega) (by omega) (by omega) (by omega) (by omega) (by omega) (by omega), gs 9 (by omega), gs 10 (by omega), gs 11 (by omega), s1 9 (by omega), s1 10 (by omega), s1 11 (by omega)]
    exact h6 j hj
  · unfold RTr
    rw [fr 46 (by omega) (by omega) (by omega) (by omega) (by omega) (by omega) (by omega), fr 47 (by omega) (by omega) (by omega) (by omega) (by omega) (by omega) (by omega), su_n (show (12 : Nat) ≠ 2 by omega), gs 8 (by omega), s1 0 (by omega), s1 8 (by omega)]
    exact h7
theorem jRestore (hd : 20 < d) (he : 20 < e) (hR : R τ σ) : sk_C sk_Sc d mX6_restore [.ref 0] τ (jK e mX7_restore [.ref 0] σ) := by
  by_cases hz : σ 0 2 = 0
  · have hz' : τ 0 2 = 0 := hR.2.2.2.1.trans hz
    exact wX6_restore (by omega) (ns_f hz' (cE 2 (by omega) (wX7_restore (by omega) (ns_f hz (mE 2 (by omega) hR)))))
  obtain ⟨⟨n0, m0, m1, hN0⟩, h2, h3, h4, h5, h6, h7⟩ := hR
  have hz' : ¬ τ 0 2 = 0 := by rw [h4]; exact hz
  obtain ⟨n, l0, l1, hN⟩ := h2 hz
  refine wX6_restore (by omega) (ns_t hz' (pX3_copyN (by omega) (fun τ2 hc => ⟨rfl, _, rfl, wX7_restore (by omega) (ns_t hz (pX7_copyR (fun σ2 s1 s2 => ⟨rfl, ?_, ?_⟩)))⟩)))
  · obtain ⟨c1, c2, c3, c4, c5, c6⟩ := hc
    rw [c6 2 (by unfold hdJ; omega), s2 0 (by omega)]
    obtain ⟨y, -, y1, y2⟩ := hN.1.2.2.2.1
    rw [kp_1] at y2
    rw [y1, y2]
  obtain ⟨c1, c2, c3, c4, c5, c6⟩ := hc
  have fr : ∀ c, c ≠ 1 → (c < 3 ∨ 13 ≤ c) → (c < 23 ∨ 25 ≤ c) → (c < 27 ∨ 29 ≤ c) → c ≠ 39 → c ≠ 41 → τ2 c = τ c := fun c z1 z2 z3 z4 z5 z6 => c1 c z1 (by omega) (by omega) (by omega) z5 z6
  have hkp : kpT τ2 = kpT τ := by
    funext c
    unfold kpT
    by_cases p1 : c = 1
    · rw [if_pos p1, if_pos p1]; exact fr 2 (by omega) (by omega) (by omega) (by omega) (by omega) (by omega)
    rw [if_neg p1, if_neg p1]
    by_cases p2 : 3 ≤ c ∧ c < 13
    · rw [if_pos p2, if_pos p2]; exact fr _ (by omega) (by omega) (by omega) (by omega) (by omega) (by omega)
    rw [if_neg p2, if_neg p2]
    by_cases p3 : c = 23 ∨ c = 24 ∨ c = 27 ∨ c = 28
    · rw [if_pos p3, if_pos p3]; exact fr _ (by omega) (by omega) (by omega) (by omega) (by omega) (by omega)
    rw [if_neg p3, if_neg p3]
    by_cases p4 : c = 39 ∨ c = 41
    · rw [if_pos p4, if_pos p4]; exact fr _ (by omega) (by omega) (by omega) (by omega) (by omega) (by omega)
    rw [if_neg p4, if_neg p4]
  refine ⟨⟨n, l0, l1, ?_⟩, fun _ => ⟨n, l0, l1, ?_⟩, ?_, ?_, ?_, ?_, ?_⟩
  · refine hN.ext (fun j hj => ?_) (fun k hk j hj => ?_) (fun u hu => ?_) (fun i hi => ?_) (fun i hi => ?_) (fun i hi => s2 i hi)
    · rw [kp_1]; exact c6 j hj
    · rw [kp_t hk]; exact c2 k hk j hj
    · obtain ⟨a0, a1, a3, ac⟩ := c3 u hu
      rw [kp_l hu, kp_c hu]
      refine ⟨?_, by rw [a1, a11], a3, ac⟩
      rw [a0]
      match u, hu with
      | 0, _ => exact hN0.2.2.1.1.trans h3.1.symm
      | 1, _ => exact hN0.2.2.2.1.1.trans h3.2.symm
    · rw [kp_39]; exact c4 i hi
    · rw [kp_41]; exact c5 i hi
  · rw [hkp, s1 2 (by omega)]; exact hN
  · rw [fr 25 (by omega) (by omega) (by omega) (by omega) (by omega) (by omega), fr 26 (by omega) (by omega) (by omega) (by omega) (by omega) (by omega)]; exact h3
  · rw [fr 0 (by omega) (by omega) (by omega) (by omega) (by omega) (by omega), s1 0 (by omega)]; exact h4
  · rw [fr 57 (by omega) (by omega) (by omega) (by omega) (by omega) (by omega), s1 3 (by omega)]; exact h5
  · intro j hj
    rw [fr (49 + j) (by omega) (by omega) (by omega) (by omega) (by omega) (by omega), fr (53 + j) (by omega) (by omega) (by omega) (by omega) (by omega) (by omega), s1 9 (by omega), s1 10 (by omega), s1 11 (by omega)]
    exact h6 j hj
  · unfold RTr
    rw [fr 46 (by omega) (by omega) (by omega) (by omega) (by omega) (by omega), fr 47 (by omega) (by omega) (by omega) (by omega) (by omega) (by omega), s1 0 (by omega), s1 8 (by omega)]
    exact h7
end
