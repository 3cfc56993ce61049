/-! ===== wider frames; the operations: feed, untell, law, tell, check, body ===== -/
/-- what an operation of the roof now, its tape and its laws may change -/
def frD (τ τ2 : sk_T) : Prop := ∀ c, (c = 0 ∨ c = 2 ∨ (12 < c ∧ c < 23) ∨ c = 25 ∨ c = 26 ∨ c = 29 ∨ c = 30 ∨ c = 40 ∨ c = 42 ∨ 45 < c) → τ2 c = τ c
def frN (σ σ2 : sk_T) : Prop := (∀ c, c ≠ 0 → c ≠ 1 → c ≠ 4 → c ≠ 5 → c ≠ 6 → c ≠ 7 → σ2 c = σ c) ∧ σ2 0 2 = σ 0 2 ∧ σ2 0 12 = σ 0 12
theorem frD.rf {τ : sk_T} : frD τ τ := fun _ _ => rfl
theorem frD.tr {a b c : sk_T} (h : frD a b) (h2 : frD b c) : frD a c := fun q hq => (h2 q hq).trans (h q hq)
theorem frC.d {τ τ2 : sk_T} (h : frC τ τ2) : frD τ τ2 := fun c hc => h c (by omega)
theorem frD.u {τ : sk_T} {c j : Nat} {x : Int32} (h : c = 1 ∨ (3 ≤ c ∧ c ≤ 12) ∨ c = 23 ∨ c = 24 ∨ c = 27 ∨ c = 28 ∨ (31 ≤ c ∧ c ≤ 39) ∨ c = 41 ∨ (43 ≤ c ∧ c ≤ 45)) : frD τ (sk_u τ c j x) := fun b hb => su_c (by omega)
theorem frN.rf {σ : sk_T} : frN σ σ := ⟨fun _ _ _ _ _ _ _ => rfl, rfl, rfl⟩
theorem frN.tr {a b c : sk_T} (h : frN a b) (h2 : frN b c) : frN a c := ⟨fun q q0 q1 q4 q5 q6 q7 => (h2.1 q q0 q1 q4 q5 q6 q7).trans (h.1 q q0 q1 q4 q5 q6 q7), h2.2.1.trans h.2.1, h2.2.2.trans h.2.2⟩
theorem frM.n {σ σ2 : sk_T} (h : frM σ σ2) : frN σ σ2 := ⟨fun q q0 q1 q4 q5 q6 q7 => h q q1 q5 q6 q7, congrFun (h 0 (by omega) (by omega) (by omega) (by omega)) 2, congrFun (h 0 (by omega) (by omega) (by omega) (by omega)) 12⟩
theorem kp_frD {τ τ2 : sk_T} (h : frD τ τ2) : kpT τ2 = kpT τ := by
  funext c
  unfold kpT
  by_cases h1 : c = 1
  · rw [if_pos h1, if_pos h1]; exact h 2 (by omega)
  rw [if_neg h1, if_neg h1]
  by_cases h2 : 3 ≤ c ∧ c < 13
  · rw [if_pos h2, if_pos h2]; exact h _ (by omega)
  rw [if_neg h2, if_neg h2]
  by_cases h3 : c = 23 ∨ c = 24 ∨ c = 27 ∨ c = 28
  · rw [if_pos h3, if_pos h3]; exact h _ (by omega)
  rw [if_neg h3, if_neg h3]
  by_cases h4 : c = 39 ∨ c = 41
  · rw [if_pos h4, if_pos h4]; exact h _ (by omega)
  rw [if_neg h4, if_neg h4]
theorem R.nowD {τ τ2 σ σ2 : sk_T} {n : Nat} {l0 l1 : Option (List Tk)} (h : R τ σ) (hf : frD τ τ2) (hm : frN σ σ2) (hN : RN τ2 (σ2 1) n l0 l1) : R τ2 σ2 := by
  obtain ⟨-, h2, h3, h4, h5, h6, h7⟩ := h
  obtain ⟨m1, m2, m3⟩ := hm
  refine ⟨⟨n, l0, l1, hN⟩, ?_, ?_, ?_, ?_, ?_, ?_⟩
  · rw [m2, m1 2 (by omega) (by omega) (by omega) (by omega) (by omega) (by omega), kp_frD hf]; exact h2
  · rw [hf 25 (by omega), hf 26 (by omega)]; exact h3
  · rw [hf 0 (by omega), m2]; exact h4
  · rw [hf 57 (by omega), m1 3 (by omega) (by omega) (by omega) (by omega) (by omega) (by omega)]; exact h5
  · intro j hj
    rw [hf (49 + j) (by omega), hf (53 + j) (by omega), m1 9 (by omega) (by omega) (by omega) (by omega) (by omega) (by omega), m1 10 (by omega) (by omega) (by omega) (by omega) (by omega) (by omega), m1 11 (by omega) (by omega) (by omega) (by omega) (by omega) (by omega)]
    exact h6 j hj
  · unfold RTr
    rw [hf 46 (by omega), hf 47 (by omega), m3, m1 8 (by omega) (by omega) (by omega) (by omega) (by omega) (by omega)]
    exact h7
/-- tape and waiting numbers change -/
theorem RN.tp {τ τ2 : sk_T} {s s2 : Nat → Int32} {n : Nat} {l0 l1 : Option (List Tk)} (h : RN τ s n l0 l1) (hτ : ∀ c, c < 31 → c ≠ 1 → τ2 c = τ c) (h1 : ∀ j, j ≠ 7 → j ≠ 10 → τ2 1 j = τ 1 j) (hs : ∀ j, j < 328 → j ≠ 4 → j ≠ 5 → s2 j = s j) (hT : RTp τ2 s2) : RN τ2 s2 n l0 l1 := by
  obtain ⟨k1, k2, k3, k4, -⟩ := h
  have hn := k1.1
  refine ⟨?_, fun k hk => ?_, k3.cg (hτ _ (by omega) (by omega)) (hτ _ (by omega) (by omega)) (fun j hj hj2 => hs j (by omega) (by omega) (by omega)) (by omega), k4.cg (hτ _ (by omega) (by omega)) (hτ _ (by omega) (by omega)) (fun j hj hj2 => hs j (by omega) (by omega) (by omega)) (by omega), hT⟩
  · unfold RHd at k1 ⊢
    rw [h1 1 (by omega) (by omega), h1 2 (by omega) (by omega), h1 3 (by omega) (by omega), h1 4 (by omega) (by omega), h1 5 (by omega) (by omega), hs 6 (by omega) (by omega) (by omega), hs 0 (by omega) (by omega) (by omega), hs 1 (by omega) (by omega) (by omega), hs 2 (by omega) (by omega) (by omega), hs 3 (by omega) (by omega) (by omega)]
    exact k1
  · have e2 : ∀ j, j < 7 → fl s2 k j = fl s k j := fun j hj => hs _ (by omega) (by omega) (by omega)
    rw [hτ (3 + k) (by omega) (by omega)]
    refine ⟨fun j hj => ((k2 k hk).1 j hj).trans (e2 j hj).symm, ?_⟩
    have := (k2 k hk).2
    unfold tl_ok at this ⊢
    rw [e2 0 (by omega), e2 1 (by omega), e2 2 (by omega), e2 3 (by omega), e2 4 (by omega), e2 5 (by omega), e2 6 (by omega)]
    exact this
/-! bytes of a word -/
theorem bp_b (x : Int32) : x.toInt8.toInt32 &&& 255 = x &&& 255 := by
  apply Int32.toBitVec_inj.mp
  rw [Int32.toBitVec_and, Int32.toBitVec_and, Int8.toBitVec_toInt32, Int32.toBitVec_toInt8]
  apply BitVec.eq_of_getLsbD_eq
  intro i hi
  rw [BitVec.getLsbD_and, BitVec.getLsbD_and]
  have hm : ∀ i < 32, 8 ≤ i → (255 : Int32).toBitVec.getLsbD i = false := by decide
  rcases Nat.lt_or_ge i 8 with z | z
  · rw [BitVec.getLsbD_signExtend, BitVec.getLsbD_signExtend, if_pos z, if_pos hi]
    simp only [z, hi, decide_true, Bool.true_and]
  · rw [hm i hi z]; simp
theorem bL_sshr (n : Nat) (hn : n < 64) (x : Int64) {i : Nat} (hi : i < 64) : btL (x >>> (Int32.toInt64 (nI n) &&& 63)) i = if n + i < 64 then btL x (n + i) else btL x 63 := by
  unfold btL
  rw [Int64.toBitVec_shiftRight]
  show (x.toBitVec.sshiftRight ((Int32.toInt64 (nI n) &&& 63).toBitVec.smod 64).toNat).getLsbD i = _
  rw [sL_l n hn, BitVec.getLsbD_sshiftRight, BitVec.msb_eq_getLsbD_last]
  simp [hi]
theorem bL_255 (i : Nat) : btL 255 i = decide (i < 8) := by
  rcases Nat.lt_or_ge i 64 with h | h
  · have : ∀ i, i < 64 → btL 255 i = decide (i < 8) := by decide +kernel
    exact this i h
  · rw [bL_big h, decide_eq_false (by omega)]
def cBy (v : Int64) (q : Nat) : Int32 := (Int64.toInt32 (sk_lush v (8 * nI q))).toInt8.toInt32
def mBy (v : Int64) (q : Nat) : Int32 := Int64.toInt32 ((v >>> (Int32.toInt64 (8 * nI q) &&& 63)) &&& 255)
theorem by_eq (v : Int64) {q : Nat} (hq : q < 8) : vp_nar .byte (cBy v q) &&& 255 = mBy v q := by
  unfold cBy mBy
  rw [pk_vb, bp_b, show (8 : Int32) * nI q = nI (8 * q) from pk_mul 8 q]
  apply b_ext
  intro i hi
  rw [b_and, b_255, i32_bt _ hi, i32_bt _ hi, bL_and, bL_255, bL_ush _ (by omega), bL_sshr _ (by omega) v (by omega)]
  by_cases z : i < 8
  · rw [if_pos (by omega)]
  · rw [decide_eq_false z, Bool.and_false, Bool.and_false]
section
variable {d e : Nat} {τ σ : sk_T} {K : sk_K} {s : Nat → Int32} {n f k : Nat} {w : Int64} {v v1 v2 v3 v4 : Int32} {l0 l1 : Option (List Tk)}
/-- the tape of the class, i bytes of k fed -/
def fdC (τ τ2 : sk_T) (f i : Nat) (w : Int64) : Prop := (∀ c, c ≠ 1 → c ≠ 39 → τ2 c = τ c) ∧ (∀ j, j ≠ 7 → τ2 1 j = τ 1 j) ∧ τ2 1 7 = nI (f + i) ∧ (∀ q, q < f → τ2 39 q = τ 39 q) ∧ ∀ q, q < i → τ2 39 (f + q) = cBy w q
def fdM (σ σ2 : sk_T) (f i : Nat) (w : Int64) : Prop := (∀ c, c ≠ 1 → σ2 c = σ c) ∧ (∀ j, j ≠ 4 → (j < 328 + f ∨ 388 ≤ j) → σ2 1 j = σ 1 j) ∧ σ2 1 4 = nI (f + i) ∧ ∀ q, q < i → σ2 1 (328 + f + q) = mBy w q
theorem lX6_feed (hk : f + k ≤ 60) (h : ∀ τ2, fdC τ τ2 f k w → K (some (.int (nI (f + k)))) τ2) : ∀ m i, i + m = k → ∀ τ2, fdC τ τ2 f i w → sk_G sk_Sc d mX6_feed 40 [(0, .ref 0), (1, .long w), (3, .int (nI k)), (4, .int (nI i))] [] τ2 K := by
  intro m
  induction m with
  | zero =>
    intro i hi τ2 hf
    obtain rfl : i = k := hi
    refine bX6_feed_40 (br_t (Int32.le_refl _) ?_)
    rw [hf.2.2.1]
    exact h τ2 hf
  | succ m ih =>
    intro i hi τ2 hf
    obtain ⟨a1, a2, a3, a4, a5⟩ := hf
    refine bX6_feed_40 (br_f (fun z => absurd ((nI_leI (by omega) (by omega)).mp z) (by omega)) ⟨by rw [a3]; exact vp_in_nI (by omega) (by omega), ?_⟩)
    rw [nI_1, a3, nI_clamp (show f + i < 2 ^ 31 by omega), su_c (show (1 : Nat) ≠ 39 by omega), a3, nI_1]
    refine ih (i + 1) (by omega) _ ⟨fun c h1 h39 => ?_, fun j hj => ?_, su_e, fun q hq => ?_, fun q hq => ?_⟩
    · rw [su_c h1, su_c h39]; exact a1 c h1 h39
    · rw [su_n hj, su_c (by omega)]; exact a2 j hj
    · rw [su_c (by omega), su_n (by omega)]; exact a4 q hq
    · rw [su_c (by omega)]
      by_cases z : q = i
      · subst z; rw [su_e]; rfl
      · rw [su_n (by omega)]; exact a5 q (by omega)
theorem lX7_feed (hk : f + k ≤ 60) (h : ∀ σ2, fdM σ σ2 f k w → K (some (.int (nI (f + k)))) σ2) : ∀ m i, i + m = k → ∀ σ2, fdM σ σ2 f i w → sk_G sk_Sm d mX7_feed 38 [(0, .ref 0), (1, .long w), (3, .int (nI k)), (4, .int (nI i))] [] σ2 K := by
  intro m
  induction m with
  | zero =>
    intro i hi σ2 hf
    obtain rfl : i = k := hi
    refine bX7_feed_38 (br_t (Int32.le_refl _) ?_)
    rw [hf.2.2.1]
    exact h σ2 hf
  | succ m ih =>
    intro i hi σ2 hf
    obtain ⟨a1, a2, a3, a4⟩ := hf
    have e328 : (328 : Int32) + nI (f + i) = nI (328 + f + i) := by rw [show (328 : Int32) = nI 328 from rfl, nI_add]; congr 1; omega
    refine bX7_feed_38 (br_f (fun z => absurd ((nI_leI (by omega) (by omega)).mp z) (by omega)) ⟨by rw [a3, e328]; exact vp_in_nI (by omega) (by omega), ?_⟩)
    rw [nI_1, a3, e328, nI_clamp (show 328 + f + i < 2 ^ 31 by omega), su_n (show (4 : Nat) ≠ 328 + f + i by omega), a3, nI_1]
    refine ih (i + 1) (by omega) _ ⟨fun c h1 => ?_, fun j h4 hj => ?_, su_e, fun q hq => ?_⟩
    · rw [su_c h1, su_c h1]; exact a1 c h1
    · rw [su_n h4, su_n (by omega)]; exact a2 j h4 hj
    · rw [su_n (by omega)]
      by_cases z : q = i
      · subst z; rw [su_e]; rfl
      · rw [su_n (by omega)]; exact a4 q (by omega)
theorem jFeed (hd : 20 < d) (he : 20 < e) (hR : R τ σ) : sk_C sk_Sc d mX6_feed [.ref 0, .long w, .int v1] τ (jK e mX7_feed [.ref 0, .long w, .int v1] σ) := by
  obtain ⟨n, l0, l1, hN⟩ := hR.1
  obtain ⟨⟨f, f1, f2, f3, f4⟩, wt⟩ := hN.2.2.2.2
  by_cases h1 : v1 < 1
  · exact wX6_feed (by omega) (br_t h1 (cE 1 (by omega) (wX7_feed (by omega) (wX7_in (br_t h1 (ex_i (ns_f rfl (mE 1 (by omega) hR))))))))
  by_cases h2 : v1 ≤ 8
  rotate_left
  · exact wX6_feed (by omega) (br_f h1 (br_f h2 (cE 1 (by omega) (wX7_feed (by omega) (wX7_in (br_f h1 (br_t (Int32.not_le.mp h2) (ex_i (ns_f rfl (mE 1 (by omega) hR))))))))))
  obtain ⟨k, hk1, hk, rfl⟩ := rg_1 8 (by omega) h1 h2
  have e60 : (60 : Int32) - τ 1 7 = nI (60 - f) := by rw [f3]; exact pk_sub (a := 60) f1
  have ef : σ 1 4 + nI k = nI (f + k) := by rw [f2, nI_add]
  by_cases h3 : f + k ≤ 60
  · have hfin : ∀ τ2, fdC τ τ2 f k w → jK e mX7_feed [.ref 0, .long w, .int (nI k)] σ (some (.int (nI (f + k)))) τ2 := fun τ2 a => by
      refine ⟨_, rfl, wX7_feed (by omega) (wX7_in (br_f h1 (br_f (Int32.not_lt.mpr h2) (ex_i (ns_t i1_0 (br_t (by rw [ef]; exact (nI_leI (b := 60) (by omega) (by omega)).mpr h3) ?_))))))⟩
      refine lX7_feed (f := f) h3 (fun σ2 b => ⟨rfl, ?_⟩) k 0 (by omega) σ ⟨fun _ _ => rfl, fun _ _ _ => rfl, f2, fun q hq => absurd hq (by omega)⟩
      obtain ⟨a1, a2, a3, a4, a5⟩ := a
      obtain ⟨b1, b2, b3, b4⟩ := b
      obtain ⟨w, w1, w2, w3, w4⟩ := wt
      refine hR.nowD (n := n) (l0 := l0) (l1 := l1) (fun c hc => a1 c (by omega) (by omega)) ⟨fun c _ c1 _ _ _ _ => b1 c c1, congrFun (b1 0 (by omega)) 2, congrFun (b1 0 (by omega)) 12⟩ ?_
      refine hN.tp (fun c h31 c1 => a1 c c1 (by omega)) (fun j h7 _ => a2 j h7) (fun j hj h4 _ => b2 j h4 (by omega)) ⟨⟨f + k, h3, b3, a3, fun q hq => ?_⟩, w, w1, ?_, ?_, fun q hq => ?_⟩
      · by_cases z : q < f
        · rw [a4 q z, b2 _ (by omega) (by omega)]; exact f4 q z
        · have e1 := a5 (q - f) (by omega)
          have e2 := b4 (q - f) (by omega)
          rw [show f + (q - f) = q by omega] at e1
          rw [show 328 + f + (q - f) = 328 + q by omega] at e2
          rw [e1, e2]
          exact by_eq _ (by omega)
      · rw [b2 5 (by omega) (by omega)]; exact w2
      · rw [a2 10 (by omega)]; exact w3
      · rw [a1 41 (by omega) (by omega), b2 _ (by omega) (by omega)]; exact w4 q hq
    exact wX6_feed (by omega) (br_f h1 (br_t h2 (br_t (by rw [e60]; exact (nI_leI (by omega) (by omega)).mpr (by omega)) (lX6_feed (f := f) h3 hfin k 0 (by omega) τ ⟨fun _ _ _ => rfl, fun _ _ => rfl, f3, fun _ _ => rfl, fun q hq => absurd hq (by omega)⟩))))
  · exact wX6_feed (by omega) (br_f h1 (br_t h2 (br_f (by rw [e60]; exact fun z => absurd ((nI_leI (by omega) (by omega)).mp z) (by omega)) (cE 4 (by omega) (wX7_feed (by omega) (wX7_in (br_f h1 (br_f (Int32.not_lt.mpr h2) (ex_i (ns_t i1_0 (br_f (by rw [ef]; exact fun z => absurd ((nI_leI (b := 60) (by omega) (by omega)).mp z) (by omega)) (mE 4 (by omega) hR))))))))))))
/-! untell, law -/
theorem cUs_t {u : Nat} (hu : u < 2) (h : K (some (.int 1)) τ) : sk_C sk_Sc d mX6_isUse [.int (nI u)] τ K :=
  wX6_isUse (rg_b 2 (by omega) (fun _ _ _ => h) (fun _ z => absurd ⟨u, hu, rfl⟩ z))
theorem cUs_f (hu : ¬ ∃ c, c < 2 ∧ v = nI c) (h : K (some (.int 0)) τ) : sk_C sk_Sc d mX6_isUse [.int v] τ K :=
  wX6_isUse (rg_b 2 (by omega) (fun c hc e => absurd ⟨c, hc, e⟩ hu) (fun _ _ => h))
/-- the law of a use, in the roof now -/
theorem RN.lw (h : RN τ s n l0 l1) {u : Nat} (hu : u < 2) : ∃ lw, RLw τ (23 + u) (27 + u) s u lw := by
  match u, hu with
  | 0, _ => exact ⟨l0, h.2.2.1⟩
  | 1, _ => exact ⟨l1, h.2.2.2.1⟩
theorem e78 (u : Nat) : (78 : Int32) + 125 * nI u = nI (78 + 125 * u) := by rw [show (78 : Int32) = nI 78 from rfl, show (125 : Int32) = nI 125 from rfl, pk_mul, nI_add]
/-- a law is told anew, or untold -/
theorem RN.ul {τ2 : sk_T} {s2 : Nat → Int32} {u : Nat} {lw : Option (List Tk)} (h : RN τ s n l0 l1) (hu : u < 2) (hτ : ∀ c, c ≠ 1 → c ≠ 23 + u → c ≠ 27 + u → c < 43 → τ2 c = τ c) (h1 : ∀ j, j ≠ 7 → τ2 1 j = τ 1 j) (hs : ∀ j, j ≠ 4 → (j < 78 + 125 * u ∨ 203 + 125 * u ≤ j) → s2 j = s j) (h2 : RLw τ2 (23 + u) (27 + u) s2 u lw) (hT : ∃ f, f ≤ 60 ∧ s2 4 = nI f ∧ τ2 1 7 = nI f ∧ ∀ i, i < f → vp_nar .byte (τ2 39 i) &&& 255 = s2 (328 + i)) : ∃ l0 l1, RN τ2 s2 n l0 l1 := by
  obtain ⟨k1, k2, k3, k4, -, w, w1, w2, w3, w4⟩ := h
  have hn := k1.1
  have hA : RHd (τ2 1) s2 n := by
    unfold RHd at k1 ⊢
    rw [h1 1 (by omega), h1 2 (by omega), h1 3 (by omega), h1 4 (by omega), h1 5 (by omega), hs 6 (by omega) (by omega), hs 0 (by omega) (by omega), hs 1 (by omega) (by omega), hs 2 (by omega) (by omega), hs 3 (by omega) (by omega)]
    exact k1
  have hB : RTl τ2 s2 n := fun k hk => by
    have e2 : ∀ j, j < 7 → fl s2 k j = fl s k j := fun j hj => hs _ (by omega) (by omega)
    rw [hτ (3 + k) (by omega) (by omega) (by omega) (by omega)]
    refine ⟨fun j hj => ((k2 k hk).1 j hj).trans (e2 j hj).symm, ?_⟩
    have := (k2 k hk).2
    unfold tl_ok at this ⊢
    rw [e2 0 (by omega), e2 1 (by omega), e2 2 (by omega), e2 3 (by omega), e2 4 (by omega), e2 5 (by omega), e2 6 (by omega)]
    exact this
  have hC : RTp τ2 s2 := ⟨hT, w, w1, by rw [hs 5 (by omega) (by omega)]; exact w2, by rw [h1 10 (by omega)]; exact w3, fun q hq => by rw [hτ 41 (by omega) (by omega) (by omega) (by omega), hs _ (by omega) (by omega)]; exact w4 q hq⟩
  have cgl : ∀ {v2 : Nat} {lw2 : Option (List Tk)}, v2 < 2 → v2 ≠ u → RLw τ (23 + v2) (27 + v2) s v2 lw2 → RLw τ2 (23 + v2) (27 + v2) s2 v2 lw2 := fun {v2 lw2} hv hne h => by
    unfold RLw at h ⊢
    rw [hτ (23 + v2) (by omega) (by omega) (by omega) (by omega), hτ (27 + v2) (by omega) (by omega) (by omega) (by omega), hs (78 + 125 * v2) (by omega) (by omega)]
    refine ⟨h.1, ?_⟩
    have h2 := h.2
    cases lw2 with
    | none => exact h2
    | some L =>
      obtain ⟨a, b, c, d, e, f, g⟩ := h2
      refine ⟨a, b, c, d, e, f, fun i t hi => ?_⟩
      have hl : i < L.length := (List.getElem?_eq_some_iff.mp hi).1
      obtain ⟨g1, g2, g3, g4⟩ := g i t hi
      exact ⟨g1, g2, (hs _ (by omega) (by omega)).trans g3, (hs _ (by omega) (by omega)).trans g4⟩
  rcases (show u = 0 ∨ u = 1 by omega) with rfl | rfl
  · exact ⟨lw, l1, hA, hB, h2, cgl (v2 := 1) (by omega) (by omega) k4, hC⟩
  · exact ⟨l0, lw, hA, hB, cgl (v2 := 0) (by omega) (by omega) k3, h2, hC⟩
theorem jUntell (hd : 20 < d) (he : 20 < e) (hR : R τ σ) : sk_C sk_Sc d mX6_untell [.ref 0, .int v1] τ (jK e mX7_untell [.ref 0, .int v1] σ) := by
  obtain ⟨n, l0, l1, hN⟩ := hR.1
  by_cases hu : ∃ c, c < 2 ∧ v1 = nI c
  rotate_left
  · exact wX6_untell (by omega) (cUs_f hu (ex_i (ns_f rfl (cE 1 (by omega) (wX7_untell (by omega) (mIn_f (N := 1) (by omega) hu (ex_i (ns_f rfl (mE 1 (by omega) hR)))))))))
  obtain ⟨u, hu, rfl⟩ := hu
  have vu := vp_in_nI hu (by omega)
  have hc := nI_clamp (show u < 2 ^ 31 by omega)
  have v78 : vp_in (78 + 125 * nI u) 412 := by rw [e78]; exact vp_in_nI (by omega) (by omega)
  have c78 : (78 + 125 * nI u).toNatClampNeg = 78 + 125 * u := by rw [e78]; exact nI_clamp (by omega)
  obtain ⟨lw, hl⟩ := hN.lw hu
  have hend : R (sk_u τ (23 + u) 1 0) (sk_u σ 1 (78 + 125 * u) 0) := by
    obtain ⟨f, f1, f2, f3, f4⟩ := hN.2.2.2.2.1
    obtain ⟨m0, m1, hN2⟩ := hN.ul (τ2 := sk_u τ (23 + u) 1 0) (s2 := sk_u σ 1 (78 + 125 * u) 0 1) (lw := none) hu (fun c _ h2 _ _ => su_c h2) (fun j _ => by rw [su_c (by omega)]) (fun j _ hj => su_n (by omega)) ⟨by rw [su_n (by omega)]; exact hl.1, by rw [su_e]; decide, su_e⟩ ⟨f, f1, by rw [su_n (by omega)]; exact f2, by rw [su_c (by omega)]; exact f3, fun i hi => by rw [su_c (by omega), su_n (by omega)]; exact f4 i hi⟩
    exact hR.nowD (frD.u (by omega)) frM.u.n hN2
  refine wX6_untell (by omega) (cUs_t hu (ex_i (ns_t i1_0 ⟨vu, ?_⟩)))
  rw [hc]
  have hm : RLm (σ 1) u lw := hl.m
  cases lw with
  | none =>
    refine br_t hl.2.1 ⟨vu, _, rfl, wX7_untell (by omega) (mIn_t (N := 1) (by omega) hu (ex_i (ns_t i1_0 (pX7_hasText hu hm (fun L z => by cases z) (fun _ => ex_i (br_t rfl ⟨v78, rfl, ?_⟩))))))⟩
    rw [c78]; exact hend
  | some L =>
    refine br_f (by rw [hl.2.1]; decide) ⟨vu, _, rfl, wX7_untell (by omega) (mIn_t (N := 1) (by omega) hu (ex_i (ns_t i1_0 (pX7_hasText hu hm (fun L z => ex_i (br_f i1_0 ⟨v78, rfl, ?_⟩)) (fun z => by cases z)))))⟩
    rw [c78]; exact hend
theorem jLaw (hd : 20 < d) (he : 20 < e) (hR : R τ σ) : sk_C sk_Sc d mX6_law [.ref 0, .int v1, .int v2, .int v3, .int v4] τ (jK e mX7_law [.ref 0, .int v1, .int v2, .int v3, .int v4] σ) := by
  obtain ⟨n, l0, l1, hN⟩ := hR.1
  by_cases hu : ∃ c, c < 2 ∧ v1 = nI c
  rotate_left
  · exact wX6_law (by omega) (cUs_f hu (ex_i (br_t rfl (cE 1 (by omega) (wX7_law (by omega) (mIn_f (N := 1) (by omega) hu (ex_i (ns_f rfl (mE 1 (by omega) hR)))))))))
  obtain ⟨u, hu, rfl⟩ := hu
  have vu := vp_in_nI hu (by omega)
  refine wX6_law (by omega) (cUs_t hu (ex_i (br_f i1_0 ⟨vu, ?_⟩)))
  rw [nI_clamp (show u < 2 ^ 31 by omega)]
  match u, hu with
  | 0, _ => exact pX1_give (u := 0) (qc := 27) (qs := 31) sc_23 sc_27 sc_31 (by omega) (by omega) (by omega) (by omega) hN.2.2.1 (fun g => ex_i ⟨_, rfl, wX7_law (by omega) (mIn_t (N := 1) (by omega) (k := 0) (by omega) (ex_i (ns_t i1_0 (ns_f rfl (pX7_holdTold (by omega) hN.m0 (fun σ2 g2 => ex_i ⟨rfl, hR.sc (scC.w (by omega)) g2.n⟩))))))⟩)
  | 1, _ => exact pX1_give (u := 1) (qc := 28) (qs := 32) sc_24 sc_28 sc_32 (by omega) (by omega) (by omega) (by omega) hN.2.2.2.1 (fun g => ex_i ⟨_, rfl, wX7_law (by omega) (mIn_t (N := 1) (by omega) (k := 1) (by omega) (ex_i (ns_t i1_0 (ns_t (by decide) (pX7_dropTold (by omega) hN.m1 (fun σ2 g2 => ex_i ⟨rfl, hR.sc (scC.w (by omega)) g2.n⟩))))))⟩)
/-! tell, check -/
theorem jTell (hd : 20 < d) (he : 20 < e) (hR : R τ σ) : sk_C sk_Sc d mX6_tell [.ref 0, .int v1] τ (jK e mX7_tell [.ref 0, .int v1] σ) := by
  obtain ⟨n, l0, l1, hN⟩ := hR.1
  obtain ⟨⟨f, f1, f2, f3, f4⟩, w, w1, w2, w3, w4⟩ := hN.2.2.2.2
  by_cases hw : w < 24
  · have e388 : (388 : Int32) + σ 1 5 = nI (388 + w) := by rw [w2, show (388 : Int32) = nI 388 from rfl, nI_add]
    refine wX6_tell (by omega) (br_t (by rw [w3]; exact (nI_ltI (b := 24) (by omega) (by omega)).mpr hw) ⟨by rw [w3]; exact vp_in_nI hw (by omega), ?_⟩)
    rw [su_e, w3, nI_clamp (show w < 2 ^ 31 by omega), su_c (show (1 : Nat) ≠ 41 by omega), w3, nI_1]
    refine ⟨_, rfl, wX7_tell (by omega) (ns_t (by rw [w2]; exact fun z => absurd ((nI_iff (b := 24) (by omega) (by omega)).mp z) (by omega)) ⟨by rw [e388]; exact vp_in_nI (by omega) (by omega), ?_⟩)⟩
    rw [su_e, e388, nI_clamp (show 388 + w < 2 ^ 31 by omega), su_n (show (5 : Nat) ≠ 388 + w by omega), w2, nI_1]
    refine ⟨rfl, hR.nowD (n := n) (l0 := l0) (l1 := l1) ((frD.u (by omega)).tr (frD.u (by omega))) (frM.u.tr frM.u).n ?_⟩
    refine hN.tp (fun c h31 c1 => (su_c c1).trans (su_c (by omega))) (fun j _ h10 => (su_n h10).trans (by rw [su_c (by omega)])) (fun j hj _ h5 => (su_n h5).trans (su_n (by omega))) ⟨⟨f, f1, ?_, ?_, fun q hq => ?_⟩, w + 1, by omega, su_e, su_e, fun q hq => ?_⟩
    · rw [su_n (by omega), su_n (by omega)]; exact f2
    · rw [su_n (by omega), su_c (by omega)]; exact f3
    · rw [su_c (by omega), su_c (by omega), su_n (by omega), su_n (by omega)]; exact f4 q hq
    · rw [su_c (by omega), su_n (show 388 + q ≠ 5 by omega)]
      by_cases z : q = w
      · subst z; rw [su_e, su_e]
      · rw [su_n z, su_n (by omega)]; exact w4 q (by omega)
  · obtain rfl : w = 24 := by omega
    exact wX6_tell (by omega) (br_f (by rw [w3]; decide) (cE 4 (by omega) (wX7_tell (by omega) (ns_f (by rw [w2]; rfl) (mE 4 (by omega) hR)))))
theorem lX6_check {w : Nat} {g : Nat → Int32} (hw : w ≤ 24) (hN : RN τ s n l0 l1) (hg : ∀ q, q < w → τ 41 q = g q) (h0 : (∀ q, q < w → q < n ∧ g q = fl s q 5) → K (some (.int 0)) τ) (h1 : ∀ i, i < w → (∀ q, q < i → q < n ∧ g q = fl s q 5) → ¬ (i < n ∧ g i = fl s i 5) → K (some (.int (1 + nI i))) τ) : ∀ m i, i + m = w → (∀ q, q < i → q < n ∧ g q = fl s q 5) → sk_G sk_Sc d mX6_check 18 [(0, .ref 0), (1, .int (nI w)), (2, .int (nI i))] [] τ K := by
  have hn := hN.1.1
  intro m
  induction m with
  | zero =>
    intro i hi hq
    obtain rfl : i = w := hi
    exact bX6_check_18 (br_t (Int32.le_refl _) (h0 hq))
  | succ m ih =>
    intro i hi hq
    refine bX6_check_18 (br_f (fun z => absurd ((nI_leI (by omega) (by omega)).mp z) (by omega)) ?_)
    rw [hN.t.n0]
    by_cases hin : i < n
    · have c24 := vp_in_nI (show i < 24 by omega) (by omega)
      have c10 := vp_in_nI (show i < 10 by omega) (by omega)
      refine br_f (fun z => absurd ((nI_leI (by omega) (by omega)).mp z) (by omega)) ⟨c24, c10, ?_⟩
      rw [nI_clamp (show i < 2 ^ 31 by omega), hg i (by omega), hN.t.t0 hin 5 (by omega), nI_1]
      by_cases z : g i = fl s i 5
      · refine br_t z (ih (i + 1) (by omega) (fun q hq2 => ?_))
        by_cases e : q = i
        · subst e; exact ⟨hin, z⟩
        · exact hq q (by omega)
      · exact br_f z (h1 i (by omega) hq (fun y => z y.2))
    · exact br_t ((nI_leI (by omega) (by omega)).mpr (by omega)) (h1 i (by omega) hq (fun y => hin y.1))
theorem lX7_check {w : Nat} {g : Nat → Int32} (hd : 1 < d) (hw : w ≤ 24) (hS : RS (σ 1) n) (hg : ∀ q, q < w → σ 1 (388 + q) = g q) (h0 : (∀ q, q < w → q < n ∧ g q = fl (σ 1) q 5) → K (some (.int 0)) σ) (h1 : ∀ i, i < w → (∀ q, q < i → q < n ∧ g q = fl (σ 1) q 5) → ¬ (i < n ∧ g i = fl (σ 1) i 5) → K (some (.int (1 + nI i))) σ) : ∀ m i, i + m = w → (∀ q, q < i → q < n ∧ g q = fl (σ 1) q 5) → sk_G sk_Sm d mX7_check 16 [(0, .ref 0), (1, .int (nI w)), (2, .int (nI i))] [] σ K := by
  have hn := hS.1
  intro m
  induction m with
  | zero =>
    intro i hi hq
    obtain rfl : i = w := hi
    exact bX7_check_16 (by omega) (br_t (Int32.le_refl _) (h0 hq))
  | succ m ih =>
    intro i hi hq
    refine bX7_check_16 (by omega) (br_f (fun z => absurd ((nI_leI (by omega) (by omega)).mp z) (by omega)) ?_)
    have e388 : (388 : Int32) + nI i = nI (388 + i) := by rw [show (388 : Int32) = nI 388 from rfl, nI_add]
    by_cases hin : i < n
    · refine mSl_t hS.2.1 hn (by omega) hin (ex_i (br_f i1_0 ⟨by rw [e388]; exact vp_in_nI (by omega) (by omega), pX7_its 5 (by omega) (by omega) (ex_i ?_)⟩))
      rw [e388, nI_clamp (show 388 + i < 2 ^ 31 by omega), hg i (by omega), nI_1]
      by_cases z : g i = fl (σ 1) i 5
      · refine br_t z (ih (i + 1) (by omega) (fun q hq2 => ?_))
        by_cases e : q = i
        · subst e; exact ⟨hin, z⟩
        · exact hq q (by omega)
      · exact br_f z (h1 i (by omega) hq (fun y => z y.2))
    · refine mSl_f hS.2.1 hn (by omega) ?_ (ex_i (br_t rfl (h1 i (by omega) hq (fun y => hin y.1))))
      rintro ⟨c, hc, e⟩
      have := (nI_iff (by omega) (by omega)).mp e
      omega
theorem jCheck (hd : 20 < d) (he : 20 < e) (hR : R τ σ) : sk_C sk_Sc d mX6_check [.ref 0] τ (jK e mX7_check [.ref 0] σ) := by
  obtain ⟨n, l0, l1, hN⟩ := hR.1
  obtain ⟨⟨f, f1, f2, f3, f4⟩, w, w1, w2, w3, w4⟩ := hN.2.2.2.2
  have hN2 : RN (sk_u τ 1 10 0) (sk_u σ 1 5 0 1) n l0 l1 := by
    refine hN.tp (fun c h31 c1 => su_c c1) (fun j _ h10 => su_n h10) (fun j hj _ h5 => su_n h5) ⟨⟨f, f1, ?_, ?_, fun q hq => ?_⟩, 0, by omega, su_e, su_e, fun q hq => absurd hq (by omega)⟩
    · rw [su_n (by omega)]; exact f2
    · rw [su_n (by omega)]; exact f3
    · rw [su_c (by omega), su_n (by omega)]; exact f4 q hq
  have hR2 : R (sk_u τ 1 10 0) (sk_u σ 1 5 0) := hR.nowD (frD.u (by omega)) frM.u.n hN2
  have g6 : ∀ q, q < w → sk_u τ 1 10 0 41 q = σ 1 (388 + q) := fun q hq => by rw [su_c (by omega)]; exact w4 q hq
  have g7 : ∀ q, q < w → sk_u σ 1 5 0 1 (388 + q) = σ 1 (388 + q) := fun q hq => su_n (by omega)
  have ref : ∀ {K2 : sk_K}, ((∀ q, q < w → q < n ∧ σ 1 (388 + q) = fl (sk_u σ 1 5 0 1) q 5) → K2 (some (.int 0)) (sk_u σ 1 5 0)) → (∀ i, i < w → (∀ q, q < i → q < n ∧ σ 1 (388 + q) = fl (sk_u σ 1 5 0 1) q 5) → ¬ (i < n ∧ σ 1 (388 + i) = fl (sk_u σ 1 5 0 1) i 5) → K2 (some (.int (1 + nI i))) (sk_u σ 1 5 0)) → sk_C sk_Sm e mX7_check [.ref 0] σ K2 := fun {K2} h0 h1 => by
    refine wX7_check ?_
    rw [w2]
    exact lX7_check (σ := sk_u σ 1 5 0) (n := n) (g := fun q => σ 1 (388 + q)) (by omega) w1 hN2.s g7 h0 h1 w 0 (by omega) (fun q hq => absurd hq (by omega))
  refine wX6_check ?_
  rw [w3]
  refine lX6_check (s := sk_u σ 1 5 0 1) (n := n) (l0 := l0) (l1 := l1) (g := fun q => σ 1 (388 + q)) w1 hN2 g6 (fun h => ⟨_, rfl, ref (fun _ => ⟨rfl, hR2⟩) (fun i hi _ hx => absurd (h i hi) hx)⟩) (fun i hi hq hx => ⟨_, rfl, ref (fun h => absurd (h i hi) hx) (fun i2 hi2 hq2 hx2 => ?_)⟩) w 0 (by omega) (fun q hq => absurd hq (by omega))
  have : i2 = i := by
    rcases Nat.lt_trichotomy i2 i with z | z | z
    · exact absurd (hq i2 z) hx2
    · exact z
    · exact absurd (hq2 i z) hx
  rw [this]
  exact ⟨rfl, hR2⟩
theorem jBody (hd : 20 < d) (he : 20 < e) (hR : R τ σ) : sk_C sk_Sc d mX6_body [.ref 0, .int v1] τ (jK e mX7_body [.ref 0, .int v1] σ) := by
  obtain ⟨t, t1, t2, t3, t4⟩ := hR.2.2.2.2.2.2
  rcases ix_cases v1 t (by omega) with ⟨i, hi, rfl⟩ | ⟨h1, h2⟩
  · have vi := vp_in_nI (show i < 30 by omega) (by omega)
    refine wX6_body (by omega) (on2_t (nI_pos (by omega)) (by rw [t2]; exact (nI_ltI (by omega) (by omega)).mpr hi) ⟨vi, _, rfl, wX7_body (by omega) ?_⟩)
    rw [t3]
    refine pX7_inN (by omega) (fun c hc e => ex_i (br_f i1_0 ⟨vi, ?_, hR⟩)) (fun z => absurd ⟨i, hi, rfl⟩ z)
    rw [nI_clamp (show i < 2 ^ 31 by omega), t4 i hi]
  · refine wX6_body (by omega) (on2_f ?_ (cE 2 (by omega) (wX7_body (by omega) ?_)))
    · rw [t2]; exact h1.elim Or.inl (fun z => Or.inr (Int32.not_lt.mpr z))
    · rw [t3]
      exact pX7_inN (by omega) (fun c hc e => absurd ⟨c, hc, e⟩ h2) (fun _ => ex_i (br_t rfl (mE 2 (by omega) hR)))
end
