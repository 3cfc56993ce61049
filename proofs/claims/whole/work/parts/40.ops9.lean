/-! ===== move, nailed, judge ===== -/
theorem sb_t {s b : Nat} (hs : s ≤ 24) (hb : b < 2 ^ 31) : (nI s - nI b).toInt = (s : Int) - b := by
  rw [Int32.toInt_sub, nI_toInt (by omega), nI_toInt hb]
  exact Int.bmod_eq_of_le (by omega) (by omega)
theorem mvG {A E V1 V3 : Prop} {v2 v4 v5 : Int32} {s1 s2 : Nat} (h1 : s1 ≤ 24) (h2 : s2 ≤ 24) (w1 : V1) (w3 : V3) (hy : ∀ a c b, v2 = nI a → v4 = nI c → v5 = nI b → a + b ≤ s1 → c + b ≤ s2 → A) (hn : (¬ ((∃ a b, v2 = nI a ∧ v5 = nI b ∧ a + b ≤ s1) ∧ (∃ c b, v4 = nI c ∧ v5 = nI b ∧ c + b ≤ s2))) → E) :
    (v5 < 0 → E) ∧ (¬ v5 < 0 → ((v2 < 0 → E) ∧ (¬ v2 < 0 → ((v4 < 0 → E) ∧ (¬ v4 < 0 → V1 ∧ (((nI s1 - v5 < v2 → E) ∧ (¬ nI s1 - v5 < v2 → V3 ∧ ((v4 ≤ nI s2 - v5 → A) ∧ (¬ v4 ≤ nI s2 - v5 → E)))))))))) := by
  by_cases n5 : v5 < 0
  · exact br_t n5 (hn (fun ⟨⟨a, b, e1, e2, e3⟩, _⟩ => by rw [e2] at n5; exact nI_pos (by omega) n5))
  obtain ⟨b, hb, rfl⟩ := nI_of n5
  refine br_f n5 ?_
  by_cases n2 : v2 < 0
  · exact br_t n2 (hn (fun ⟨⟨a, b2, e1, e2, e3⟩, _⟩ => by rw [e1] at n2; exact nI_pos (by omega) n2))
  obtain ⟨a, ha, rfl⟩ := nI_of n2
  refine br_f n2 ?_
  by_cases n4 : v4 < 0
  · exact br_t n4 (hn (fun ⟨_, c, b2, e1, e2, e3⟩ => by rw [e1] at n4; exact nI_pos (by omega) n4))
  obtain ⟨c, hc, rfl⟩ := nI_of n4
  refine br_f n4 ⟨w1, ?_⟩
  by_cases n6 : nI s1 - nI b < nI a
  · refine br_t n6 (hn (fun ⟨⟨a2, b2, e1, e2, e3⟩, _⟩ => ?_))
    rw [Int32.lt_iff_toInt_lt, sb_t h1 hb, nI_toInt ha] at n6
    have q1 := (nI_iff ha (by omega)).mp e1
    have q2 := (nI_iff hb (by omega)).mp e2
    omega
  · refine br_f n6 ⟨w3, ?_⟩
    rw [Int32.lt_iff_toInt_lt, sb_t h1 hb, nI_toInt ha] at n6
    by_cases n7 : nI c ≤ nI s2 - nI b
    · refine br_t n7 (hy a c b rfl rfl rfl (by omega) ?_)
      rw [Int32.le_iff_toInt_le, sb_t h2 hb, nI_toInt hc] at n7
      omega
    · refine br_f n7 (hn (fun ⟨_, c2, b2, e1, e2, e3⟩ => ?_))
      rw [Int32.le_iff_toInt_le, sb_t h2 hb, nI_toInt hc] at n7
      have q1 := (nI_iff hc (by omega)).mp e1
      have q2 := (nI_iff hb (by omega)).mp e2
      omega
section
variable {d e : Nat} {τ σ : sk_T} {K : sk_K} {j q n a b c s : Nat} {v v1 v2 v3 v4 v5 : Int32}
theorem pX4_has (hj : j < 4) (hs : τ (49 + j) 1 = nI s) (h24 : s ≤ 24) (hy : ∀ a b, v1 = nI a → v2 = nI b → a + b ≤ s → K (some (.int 1)) τ) (hn : (¬ ∃ a b, v1 = nI a ∧ v2 = nI b ∧ a + b ≤ s) → K (some (.int 0)) τ) : sk_C sk_Sc d mX4_has [.ref (49 + j), .int v1, .int v2] τ K := by
  refine wX4_has (sk_sheetF j hj).1 (sk_sheetF j hj).2.1 ?_
  rw [hs]
  by_cases n2 : v2 < 0
  · exact br_t n2 (hn (fun ⟨a, b, e1, e2, e3⟩ => by rw [e2] at n2; exact nI_pos (by omega) n2))
  obtain ⟨b, hb, rfl⟩ := nI_of n2
  refine br_f n2 ?_
  by_cases n1 : v1 < 0
  · exact br_t n1 (hn (fun ⟨a, b2, e1, e2, e3⟩ => by rw [e1] at n1; exact nI_pos (by omega) n1))
  obtain ⟨a, ha, rfl⟩ := nI_of n1
  refine br_f n1 ?_
  by_cases n3 : nI s < nI b
  · refine br_t n3 (hn (fun ⟨a2, b2, e1, e2, e3⟩ => ?_))
    have q1 := (nI_ltI (by omega) hb).mp n3
    have q2 := (nI_iff hb (by omega)).mp e2
    omega
  · refine br_f n3 ?_
    have q1 : ¬ s < b := fun z => n3 ((nI_ltI (by omega) hb).mpr z)
    by_cases n6 : nI s - nI b < nI a
    · refine br_t n6 (hn (fun ⟨a2, b2, e1, e2, e3⟩ => ?_))
      rw [Int32.lt_iff_toInt_lt, sb_t h24 hb, nI_toInt ha] at n6
      have q1 := (nI_iff ha (by omega)).mp e1
      have q2 := (nI_iff hb (by omega)).mp e2
      omega
    · refine br_f n6 (hy a b rfl rfl ?_)
      rw [Int32.lt_iff_toInt_lt, sb_t h24 hb, nI_toInt ha] at n6
      omega
/-- the reference's two loops -/
theorem lX7_mv2 {g : Nat → Int32} (hq : q < 4) (hc : c + b ≤ 24) (hg : ∀ k, k < b → σ 12 k = g k) (h : ∀ σ2, (∀ p, p ≠ 11 → σ2 p = σ p) → (∀ k, k < b → σ2 11 (24 * q + c + k) = g k) → (∀ p, (p < 24 * q + c ∨ 24 * q + c + b ≤ p) → σ2 11 p = σ 11 p) → K (some (.int (nI b))) σ2) : ∀ m i, i + m = b → ∀ σ2, (∀ p, p ≠ 11 → σ2 p = σ p) → (∀ k, k < i → σ2 11 (24 * q + c + k) = g k) → (∀ p, (p < 24 * q + c ∨ 24 * q + c + b ≤ p) → σ2 11 p = σ 11 p) → sk_G sk_Sm d mX7_move 152 [(0, .ref 0), (3, .int (nI q)), (4, .int (nI c)), (5, .int (nI b)), (6, .int (nI i))] [] σ2 K := by
  intro m
  induction m with
  | zero =>
    intro i hi σ2 h1 h2 h3
    obtain rfl : i = b := hi
    exact bX7_move_152 (br_t (Int32.le_refl _) (h σ2 h1 h2 h3))
  | succ m ih =>
    intro i hi σ2 h1 h2 h3
    have ei : (24 : Int32) * nI q + nI c + nI i = nI (24 * q + c + i) := by rw [e24, nI_add]
    refine bX7_move_152 (br_f (fun z => absurd ((nI_leI (by omega) (by omega)).mp z) (by omega)) ⟨vp_in_nI (by omega) (by omega), by rw [ei]; exact vp_in_nI (by omega) (by omega), ?_⟩)
    rw [nI_1, ei, nI_clamp (show 24 * q + c + i < 2 ^ 31 by omega), nI_clamp (show i < 2 ^ 31 by omega), h1 12 (by omega), hg i (by omega)]
    refine ih (i + 1) (by omega) _ (fun p hp => (su_c hp).trans (h1 p hp)) (fun k hk => ?_) (fun p hp => (su_n (by omega)).trans (h3 p hp))
    by_cases z : k = i
    · subst z; exact su_e
    · rw [su_n (by omega)]; exact h2 k (by omega)
theorem lX7_mv1 (hj : j < 4) (ha : a + b ≤ 24) (h : ∀ σ2, (∀ p, p ≠ 12 → σ2 p = σ p) → (∀ k, k < b → σ2 12 k = σ 11 (24 * j + a + k)) → sk_G sk_Sm d mX7_move 152 [(0, .ref 0), (3, .int v3), (4, .int v4), (5, .int (nI b)), (6, .int 0)] [] σ2 K) : ∀ m i, i + m = b → ∀ σ2, (∀ p, p ≠ 12 → σ2 p = σ p) → (∀ k, k < i → σ2 12 k = σ 11 (24 * j + a + k)) → sk_G sk_Sm d mX7_move 115 [(0, .ref 0), (1, .int (nI j)), (2, .int (nI a)), (3, .int v3), (4, .int v4), (5, .int (nI b)), (6, .int (nI i))] [] σ2 K := by
  intro m
  induction m with
  | zero =>
    intro i hi σ2 h1 h2
    obtain rfl : i = b := hi
    exact bX7_move_115 (br_t (Int32.le_refl _) (h σ2 h1 h2))
  | succ m ih =>
    intro i hi σ2 h1 h2
    have ei : (24 : Int32) * nI j + nI a + nI i = nI (24 * j + a + i) := by rw [e24, nI_add]
    refine bX7_move_115 (br_f (fun z => absurd ((nI_leI (by omega) (by omega)).mp z) (by omega)) ⟨by rw [ei]; exact vp_in_nI (by omega) (by omega), vp_in_nI (by omega) (by omega), ?_⟩)
    rw [nI_1, ei, nI_clamp (show 24 * j + a + i < 2 ^ 31 by omega), nI_clamp (show i < 2 ^ 31 by omega), h1 11 (by omega)]
    refine ih (i + 1) (by omega) _ (fun p hp => (su_c hp).trans (h1 p hp)) (fun k hk => ?_)
    by_cases z : k = i
    · subst z; exact su_e
    · rw [su_n z]; exact h2 k (by omega)
theorem jMove (hd : 20 < d) (he : 20 < e) (hR : R τ σ) : sk_C sk_Sc d mX6_move [.ref 0, .int v1, .int v2, .int v3, .int v4, .int v5] τ (jK e mX7_move [.ref 0, .int v1, .int v2, .int v3, .int v4, .int v5] σ) := by
  have hS := hR.2.2.2.2.2.1
  by_cases hs : ∃ c, c < 4 ∧ v1 = nI c
  rotate_left
  · exact wX6_move (by omega) (cSh_f hs (ex_i (br_t rfl (cE 1 (by omega) (wX7_move (by omega) (mSh_f (by omega) hs (ex_i (br_t rfl (mE 1 (by omega) hR)))))))))
  obtain ⟨j, hj, rfl⟩ := hs
  by_cases hs : ∃ c, c < 4 ∧ v3 = nI c
  rotate_left
  · exact wX6_move (by omega) (cSh_t hj (ex_i (br_f i1_0 (cSh_f hs (ex_i (ns_f rfl (cE 1 (by omega) (wX7_move (by omega) (mSh_t (by omega) hj (ex_i (br_f i1_0 (mSh_f (by omega) hs (ex_i (ns_f rfl (mE 1 (by omega) hR)))))))))))))))
  obtain ⟨q, hq, rfl⟩ := hs
  have vj := vp_in_nI hj (by omega)
  have vq := vp_in_nI hq (by omega)
  have hcj := nI_clamp (show j < 2 ^ 31 by omega)
  have hcq := nI_clamp (show q < 2 ^ 31 by omega)
  obtain ⟨g1, g2, ⟨s1, hs1, g3, g4⟩, g5⟩ := hS j hj
  obtain ⟨k1, k2, ⟨s2, hs2, k3, k4⟩, k5⟩ := hS q hq
  by_cases m1 : τ (49 + j) 0 = 0
  · have m1' : σ 9 j = 0 := by rw [← g1]; exact m1
    refine wX6_move (by omega) (cSh_t hj (ex_i (br_f i1_0 (cSh_t hq (ex_i (ns_t i1_0 ⟨vj, vq, ?_⟩))))))
    rw [hcj]
    refine cMs_t hj m1 (ex_i (ns_t i1_0 (cE 2 (by omega) (wX7_move (by omega) (mSh_t (by omega) hj (ex_i (br_f i1_0 (mSh_t (by omega) hq (ex_i (ns_t i1_0 ⟨vj, ?_⟩))))))))))
    rw [hcj]
    exact br_t m1' (mE 2 (by omega) hR)
  have m1' : ¬ σ 9 j = 0 := by rw [← g1]; exact m1
  by_cases m2 : τ (49 + q) 0 = 0
  · have m2' : σ 9 q = 0 := by rw [← k1]; exact m2
    refine wX6_move (by omega) (cSh_t hj (ex_i (br_f i1_0 (cSh_t hq (ex_i (ns_t i1_0 ⟨vj, vq, ?_⟩))))))
    rw [hcj, hcq]
    refine cMs_f hj m1 (ex_i (ns_f rfl (cMs_t hq m2 (ex_i (br_f i1_0 (cE 2 (by omega) (wX7_move (by omega) (mSh_t (by omega) hj (ex_i (br_f i1_0 (mSh_t (by omega) hq (ex_i (ns_t i1_0 ⟨vj, ?_⟩)))))))))))))
    rw [hcj, hcq]
    exact br_f m1' ⟨vq, ns_f m2' (mE 2 (by omega) hR)⟩
  have m2' : ¬ σ 9 q = 0 := by rw [← k1]; exact m2
  by_cases m3 : τ (49 + j) 0 = τ (49 + q) 0
  rotate_left
  · have m3' : ¬ σ 9 j = σ 9 q := by rw [← k1, ← g1]; exact m3
    refine wX6_move (by omega) (cSh_t hj (ex_i (br_f i1_0 (cSh_t hq (ex_i (ns_t i1_0 ⟨vj, vq, ?_⟩))))))
    rw [hcj, hcq]
    refine cMs_f hj m1 (ex_i (ns_f rfl (cMs_f hq m2 (ex_i (br_t rfl (br_f m3 (cE 5 (by omega) (wX7_move (by omega) (mSh_t (by omega) hj (ex_i (br_f i1_0 (mSh_t (by omega) hq (ex_i (ns_t i1_0 ⟨vj, ?_⟩))))))))))))))
    rw [hcj, hcq]
    exact br_f m1' ⟨vq, ns_t m2' ⟨vj, vq, br_f m3' (mE 5 (by omega) hR)⟩⟩
  have m3' : σ 9 j = σ 9 q := by rw [← k1, ← g1]; exact m3
  have ref : ∀ {K2 : sk_K}, (∀ a c b, v2 = nI a → v4 = nI c → v5 = nI b → a + b ≤ s1 → c + b ≤ s2 → sk_G sk_Sm e mX7_move 115 [(0, .ref 0), (1, .int (nI j)), (2, .int v2), (3, .int (nI q)), (4, .int v4), (5, .int v5), (6, .int 0)] [] σ K2) → ((¬ ((∃ a b, v2 = nI a ∧ v5 = nI b ∧ a + b ≤ s1) ∧ (∃ c b, v4 = nI c ∧ v5 = nI b ∧ c + b ≤ s2))) → sk_C sk_Sm (e - 1) mX7_error [.ref 0, .int 1] σ (fun w t108 => ∃ r108 : Int32, w = some (.int r108) ∧ K2 (some (.int r108)) t108)) → sk_C sk_Sm e mX7_move [.ref 0, .int (nI j), .int v2, .int (nI q), .int v4, .int v5] σ K2 := fun {K2} hy hn => by
    refine wX7_move (by omega) (mSh_t (by omega) hj (ex_i (br_f i1_0 (mSh_t (by omega) hq (ex_i (ns_t i1_0 ⟨vj, ?_⟩))))))
    rw [hcj, hcq]
    refine br_f m1' ⟨vq, ns_t m2' ⟨vj, vq, br_t m3' ?_⟩⟩
    rw [g4, k4]
    exact mvG hs1 hs2 vj vq hy hn
  refine wX6_move (by omega) (cSh_t hj (ex_i (br_f i1_0 (cSh_t hq (ex_i (ns_t i1_0 ⟨vj, vq, ?_⟩))))))
  rw [hcj, hcq]
  refine cMs_f hj m1 (ex_i (ns_f rfl (cMs_f hq m2 (ex_i (br_t rfl (br_t m3 ?_))))))
  refine pX4_has hj g3 hs1 (fun a b ea eb hab => ex_i (br_f i1_0 ?_)) (fun hx => ex_i (br_t rfl (cE 1 (by omega) (ref (fun a c b ea ec eb h1 h2 => absurd ⟨a, b, ea, eb, h1⟩ hx) (fun _ => mE 1 (by omega) hR)))))
  refine pX4_has hq k3 hs2 (fun c b2 ec eb2 hcb => ex_i (ns_t i1_0 ?_)) (fun hx => ex_i (ns_f rfl (cE 1 (by omega) (ref (fun a c b ea ec eb h1 h2 => absurd ⟨c, b, ec, eb, h2⟩ hx) (fun _ => mE 1 (by omega) hR)))))
  have eb3 : b2 = b := (nI_iff (by omega) (by omega)).mp (eb2.symm.trans eb)
  subst eb3
  subst ea ec eb
  refine ⟨nI_pos (by omega), nI_pos (by omega), nI_pos (by omega), ?_, ?_, _, rfl, ?_⟩
  · rw [nI_clamp (by omega), nI_clamp (by omega)]; omega
  · rw [nI_clamp (by omega), nI_clamp (by omega)]; omega
  rw [nI_clamp (show a < 2 ^ 31 by omega), nI_clamp (show c < 2 ^ 31 by omega), nI_clamp (show b2 < 2 ^ 31 by omega)]
  refine ref (fun a9 c9 b9 ea9 ec9 eb9 _ _ => ?_) (fun z => absurd ⟨⟨a, b2, rfl, rfl, hab⟩, ⟨c, b2, rfl, rfl, hcb⟩⟩ z)
  refine lX7_mv1 hj (by omega) (fun σ2 p1 p2 => ?_) b2 0 (by omega) σ (fun _ _ => rfl) (fun k hk => absurd hk (by omega))
  refine lX7_mv2 (σ := σ2) (g := fun k => σ 11 (24 * j + a + k)) hq (by omega) p2 (fun σ3 r1 r2 r3 => ⟨rfl, ?_⟩) b2 0 (by omega) σ2 (fun _ _ => rfl) (fun k hk => absurd hk (by omega)) (fun _ _ => rfl)
  refine hR.sh (fun z hz => sw_c (by omega)) (fun z z9 z10 z11 z12 => (r1 z z11).trans (p1 z z12)) (fun r hr => ?_)
  obtain ⟨t1, t2, t3, t4⟩ := hS r hr
  rw [sw_c (show 49 + r ≠ 53 + q by omega), r1 9 (by omega), r1 10 (by omega), p1 9 (by omega), p1 10 (by omega)]
  refine ⟨t1, t2, t3, fun i hi => ?_⟩
  by_cases z : r = q
  · subst z
    rw [sw_s]
    unfold va_cpy
    by_cases y : c ≤ i ∧ i < c + b2
    · rw [if_pos y, g5 _ (by omega)]
      have := r2 (i - c) (by omega)
      rw [show 24 * r + c + (i - c) = 24 * r + i by omega] at this
      rw [this, Nat.add_assoc]
    · rw [if_neg y, r3 _ (by omega), p1 11 (by omega)]; exact t4 i hi
  · rw [sw_c (by omega), r3 _ (by omega), p1 11 (by omega)]; exact t4 i hi
/-! nailed, judge -/
theorem mLk {K : sk_K} (hd : 1 < d) (hj : j < 4) (h0 : σ 9 j = 0 → K (some (.int 2)) σ) (h1 : ¬ σ 9 j = 0 → K (some (.int 0)) σ) : sk_C sk_Sm d mX7_lacks [.ref 0, .int (nI j)] σ K := by
  refine wX7_lacks (by omega) (mSh_t (by omega) hj (ex_i (ns_t i1_0 ⟨vp_in_nI hj (by omega), ?_⟩)))
  rw [nI_clamp (show j < 2 ^ 31 by omega)]
  exact ⟨h1, h0⟩
theorem mLk_f {K : sk_K} (hd : 1 < d) (hj : ¬ ∃ c, c < 4 ∧ v = nI c) (h : K (some (.int 1)) σ) : sk_C sk_Sm d mX7_lacks [.ref 0, .int v] σ K :=
  wX7_lacks (by omega) (mSh_f (by omega) hj (ex_i (ns_f rfl h)))
def nlS (s g : Nat → Int32) : Nat → Nat → Int32
  | 0 => s
  | i + 1 => upd (nlS s g i) (8 + 7 * i + 3) (g i)
def dgP (n z : Nat) (g : Nat → Int32) (i : Nat) : Prop := i < z ∧ i < n ∧ ∃ c, c < 10 ∧ g i = nI c
theorem lX6_nailed {z : Nat} {s g : Nat → Int32} {l0 l1 : Option (List Tk)} (hd : 1 < d) (hj : j < 4) (hz : z ≤ 24) (hsz : τ (49 + j) 1 = nI z) (hg : ∀ i, i < 24 → τ (53 + j) i = g i) (h : ∀ i τ2, i ≤ 24 → frC τ τ2 → RN τ2 (nlS s g i) n l0 l1 → (∀ p, p < i → dgP n z g p) → ¬ dgP n z g i → K (some (.int (nI i))) τ2) : ∀ m i, i + m = z → ∀ τ2, frC τ τ2 → RN τ2 (nlS s g i) n l0 l1 → (∀ p, p < i → dgP n z g p) → sk_G sk_Sc d mX6_nailed 38 [(0, .ref 0), (2, .ref (49 + (nI j).toNatClampNeg)), (3, .int (nI i)), (4, .int (nI i))] [] τ2 K := by
  have hcj := nI_clamp (show j < 2 ^ 31 by omega)
  intro m
  induction m with
  | zero =>
    intro i hi τ2 hf hN hp
    obtain rfl : i = z := hi
    refine bX6_nailed_38 (vp_in_nI hj (by omega)) (by omega) ?_
    rw [hcj, hf (49 + j) (by omega), hsz]
    exact br_t (Int32.le_refl _) (h i τ2 hz hf hN hp (fun y => absurd y.1 (by omega)))
  | succ m ih =>
    intro i hi τ2 hf hN hp
    have hn := hN.1.1
    have hci := nI_clamp (show i < 2 ^ 31 by omega)
    refine bX6_nailed_38 (vp_in_nI hj (by omega)) (by omega) ?_
    rw [hcj, hf (49 + j) (by omega), hf (53 + j) (by omega), hsz, hN.t.n0, hci, hg i (by omega), nI_1]
    refine br_f (fun y => absurd ((nI_leI (by omega) (by omega)).mp y) (by omega)) ?_
    by_cases hin : i < n
    · refine br_f (fun y => absurd ((nI_leI (by omega) (by omega)).mp y) (by omega)) ⟨vp_in_nI (by omega) (by omega), ?_⟩
      by_cases hdg : ∃ c, c < 10 ∧ g i = nI c
      · obtain ⟨c, hc, ec⟩ := hdg
        rw [ec]
        refine cDg_t hc (ex_i (br_f i1_0 ⟨vp_in_nI (by omega) (by omega), vp_in_nI (by omega) (by omega), ?_⟩))
        rw [hf (53 + j) (by omega), hg i (by omega), ec]
        have := ih (i + 1) (by omega) (sk_u τ2 (3 + i) 3 (nI c)) (hf.tr (frC.u (by omega))) (by
          show RN _ (upd (nlS s g i) (8 + 7 * i + 3) (g i)) n l0 l1
          rw [ec]; exact hN.nails hin (by omega)) (fun p hp2 => by
          by_cases y : p = i
          · subst y; exact ⟨by omega, hin, c, hc, ec⟩
          · exact hp p (by omega))
        rw [hcj] at this
        exact this
      · exact cDg_f hdg (ex_i (br_t rfl (h i τ2 (by omega) hf hN hp (fun y => hdg y.2.2))))
    · exact br_t ((nI_leI (by omega) (by omega)).mpr (by omega)) (h i τ2 (by omega) hf hN hp (fun y => hin y.2.1))
theorem nlS_6 {s g : Nat → Int32} : ∀ i, nlS s g i 6 = s 6
  | 0 => rfl
  | i + 1 => (upd_n (by omega)).trans (nlS_6 i)
theorem lX7_nailed {z : Nat} {g : Nat → Int32} (hd : 1 < d) (hj : j < 4) (hz : z ≤ 24) (hn : n ≤ 10) (h6 : σ 1 6 = nI n) (hsz : σ 10 j = nI z) (hg : ∀ i, i < 24 → σ 11 (24 * j + i) = g i) (h : ∀ i σ2, i ≤ 24 → frM σ σ2 → σ2 1 = nlS (σ 1) g i → (∀ p, p < i → dgP n z g p) → ¬ dgP n z g i → K (some (.int (nI i))) σ2) : ∀ m i, i + m = z → ∀ σ2, frM σ σ2 → σ2 1 = nlS (σ 1) g i → (∀ p, p < i → dgP n z g p) → sk_G sk_Sm d mX7_nailed 18 [(0, .ref 0), (1, .int (nI j)), (3, .int (nI i))] [] σ2 K := by
  have hcj := nI_clamp (show j < 2 ^ 31 by omega)
  intro m
  induction m with
  | zero =>
    intro i hi σ2 hf hN hp
    obtain rfl : i = z := hi
    refine bX7_nailed_18 (by omega) ⟨vp_in_nI hj (by omega), ?_⟩
    rw [hcj, hf 10 (by omega) (by omega) (by omega) (by omega), hsz]
    exact br_t (Int32.le_refl _) (h i σ2 hz hf hN hp (fun y => absurd y.1 (by omega)))
  | succ m ih =>
    intro i hi σ2 hf hN hp
    have h6' : σ2 1 6 = nI n := by rw [hN, nlS_6, h6]
    refine bX7_nailed_18 (by omega) ⟨vp_in_nI hj (by omega), ?_⟩
    rw [hcj, hf 10 (by omega) (by omega) (by omega) (by omega), hsz, nI_1, e24, nI_clamp (show 24 * j + i < 2 ^ 31 by omega)]
    refine br_f (fun y => absurd ((nI_leI (by omega) (by omega)).mp y) (by omega)) ?_
    by_cases hin : i < n
    · refine mSl_t h6' hn (by omega) hin (ex_i (br_f i1_0 ⟨vp_in_nI (by omega) (by omega), ?_⟩))
      rw [hf 11 (by omega) (by omega) (by omega) (by omega), hg i (by omega)]
      by_cases hdg : ∃ c, c < 10 ∧ g i = nI c
      · obtain ⟨c, hc, ec⟩ := hdg
        rw [ec]
        refine mIn_t (N := 9) (by omega) hc (ex_i (br_f i1_0 ⟨vp_in_nI (by omega) (by omega), ?_⟩))
        rw [hf 11 (by omega) (by omega) (by omega) (by omega), hg i (by omega), ec]
        refine pX7_lays1 3 (by omega) (by omega) ⟨rfl, ih (i + 1) (by omega) _ (hf.tr frM.u) ?_ (fun p hp2 => ?_)⟩
        · rw [su_s, hN, ← ec]; rfl
        · by_cases y : p = i
          · subst y; exact ⟨by omega, hin, c, hc, ec⟩
          · exact hp p (by omega)
      · exact mIn_f (N := 9) (by omega) hdg (ex_i (br_t rfl (h i σ2 (by omega) hf hN hp (fun y => hdg y.2.2))))
    · refine mSl_f h6' hn (by omega) ?_ (ex_i (br_t rfl (h i σ2 (by omega) hf hN hp (fun y => hin y.2.1))))
      rintro ⟨c, hc, e⟩
      have := (nI_iff (by omega) (by omega)).mp e
      omega
theorem jNailed (hd : 20 < d) (he : 20 < e) (hR : R τ σ) : sk_C sk_Sc d mX6_nailed [.ref 0, .int v1] τ (jK e mX7_nailed [.ref 0, .int v1] σ) := by
  have hS := hR.2.2.2.2.2.1
  obtain ⟨n, l0, l1, hN⟩ := hR.1
  have hn := hN.1.1
  by_cases hs : ∃ c, c < 4 ∧ v1 = nI c
  rotate_left
  · exact wX6_nailed (by omega) (cSh_f hs (ex_i (ns_f rfl (cE 1 (by omega) (wX7_nailed (by omega) (mLk_f (by omega) hs (ex_i (br_f i1_0 (mE 1 (by omega) hR)))))))))
  obtain ⟨j, hj, rfl⟩ := hs
  have vj := vp_in_nI hj (by omega)
  have hcj := nI_clamp (show j < 2 ^ 31 by omega)
  obtain ⟨g1, g2, ⟨z, hz, g3, g4⟩, g5⟩ := hS j hj
  by_cases h0 : τ (49 + j) 0 = 0
  · have h0' : σ 9 j = 0 := by rw [← g1]; exact h0
    refine wX6_nailed (by omega) (cSh_t hj (ex_i (ns_t i1_0 ⟨vj, ?_⟩)))
    rw [hcj]
    exact cMs_t hj h0 (ex_i (br_f i1_0 (cE 2 (by omega) (wX7_nailed (by omega) (mLk (by omega) hj (fun _ => ex_i (br_f (by decide) (mE 2 (by omega) hR))) (fun y => absurd h0' y))))))
  have h0' : ¬ σ 9 j = 0 := by rw [← g1]; exact h0
  have ref : ∀ {K2 : sk_K}, (∀ i σ2, i ≤ 24 → frM σ σ2 → σ2 1 = nlS (σ 1) (fun i => σ 11 (24 * j + i)) i → (∀ p, p < i → dgP n z (fun i => σ 11 (24 * j + i)) p) → ¬ dgP n z (fun i => σ 11 (24 * j + i)) i → K2 (some (.int (nI i))) σ2) → sk_C sk_Sm e mX7_nailed [.ref 0, .int (nI j)] σ K2 := fun {K2} h => by
    refine wX7_nailed (by omega) (mLk (by omega) hj (fun y => absurd y h0') (fun _ => ex_i (br_t rfl ?_)))
    exact lX7_nailed (by omega) hj hz hn hN.s.2.1 g4 (fun i hi => rfl) h z 0 (by omega) σ frM.rf rfl (fun p hp => absurd hp (by omega))
  refine wX6_nailed (by omega) (cSh_t hj (ex_i (ns_t i1_0 ⟨vj, ?_⟩)))
  have hm : sk_C sk_Sc (d - 1) mX4_isMissing [.ref (49 + j)] τ (fun w t21 => ∃ r21 : Int32, w = some (.int r21) ∧ ((r21 = 0 → sk_G sk_Sc d mX6_nailed 38 [(0, .ref 0), (2, .ref (49 + (nI j).toNatClampNeg)), (3, .int 0), (4, .int 0)] [] t21 (jK e mX7_nailed [.ref 0, .int (nI j)] σ)) ∧ (¬ r21 = 0 → sk_C sk_Sc (d - 1) mX6_error [.ref 0, .int 2] t21 (fun w t29 => ∃ r29 : Int32, w = some (.int r29) ∧ jK e mX7_nailed [.ref 0, .int (nI j)] σ (some (.int r29)) t29)))) := by
    refine cMs_f hj h0 (ex_i (br_t rfl ?_))
    refine lX6_nailed (s := σ 1) (g := fun i => σ 11 (24 * j + i)) (n := n) (z := z) (l0 := l0) (l1 := l1) (by omega) hj hz g3 g5 (fun i τ2 hi f2 N2 p1 p2 => ⟨_, rfl, ref (fun i3 σ2 hi3 f3 e3 q1 q2 => ?_)⟩) z 0 (by omega) τ frC.rf hN (fun p hp => absurd hp (by omega))
    have : i3 = i := by
      rcases Nat.lt_trichotomy i3 i with y | y | y
      · exact absurd (p1 i3 y) q2
      · exact y
      · exact absurd (q1 i y) p2
    subst this
    exact ⟨rfl, hR.now f2 f3 (by rw [e3]; exact N2)⟩
  rw [hcj] at hm ⊢
  exact hm
def jdP (n z : Nat) (g : Nat → Int32) (s : Nat → Int32) (i : Nat) : Prop := i < z ∧ i < n ∧ g i = fl s i 6
theorem lX6_judge {z : Nat} {s g : Nat → Int32} {l0 l1 : Option (List Tk)} (hj : j < 4) (hz : z ≤ 24) (hN : RN τ s n l0 l1) (hsz : τ (49 + j) 1 = nI z) (hg : ∀ i, i < 24 → τ (53 + j) i = g i) (h : ∀ i, (∀ p, p < i → jdP n z g s p) → ¬ jdP n z g s i → K (some (.int (nI i))) τ) : ∀ m i, i + m = z → (∀ p, p < i → jdP n z g s p) → sk_G sk_Sc d mX6_judge 38 [(0, .ref 0), (2, .ref (49 + (nI j).toNatClampNeg)), (3, .int (nI i)), (4, .int (nI i))] [] τ K := by
  have hcj := nI_clamp (show j < 2 ^ 31 by omega)
  have hn := hN.1.1
  intro m
  induction m with
  | zero =>
    intro i hi hp
    obtain rfl : i = z := hi
    refine bX6_judge_38 (vp_in_nI hj (by omega)) ?_
    rw [hcj, hsz]
    exact br_t (Int32.le_refl _) (h i hp (fun y => absurd y.1 (by omega)))
  | succ m ih =>
    intro i hi hp
    have hci := nI_clamp (show i < 2 ^ 31 by omega)
    refine bX6_judge_38 (vp_in_nI hj (by omega)) ?_
    rw [hcj, hsz, hN.t.n0, hci, hg i (by omega), nI_1]
    refine br_f (fun y => absurd ((nI_leI (by omega) (by omega)).mp y) (by omega)) ?_
    by_cases hin : i < n
    · refine br_f (fun y => absurd ((nI_leI (by omega) (by omega)).mp y) (by omega)) ⟨vp_in_nI (by omega) (by omega), vp_in_nI (by omega) (by omega), ?_⟩
      rw [hN.t.t0 hin 6 (by omega)]
      by_cases he : g i = fl s i 6
      · have := ih (i + 1) (by omega) (fun p hp2 => by
          by_cases y : p = i
          · subst y; exact ⟨by omega, hin, he⟩
          · exact hp p (by omega))
        rw [hcj] at this
        exact ns_f he this
      · exact ns_t he (h i hp (fun y => he y.2.2))
    · exact br_t ((nI_leI (by omega) (by omega)).mpr (by omega)) (h i hp (fun y => hin y.2.1))
theorem lX7_judge {z : Nat} {g : Nat → Int32} (hd : 1 < d) (hj : j < 4) (hz : z ≤ 24) (hn : n ≤ 10) (h6 : σ 1 6 = nI n) (hsz : σ 10 j = nI z) (hg : ∀ i, i < 24 → σ 11 (24 * j + i) = g i) (h : ∀ i, (∀ p, p < i → jdP n z g (σ 1) p) → ¬ jdP n z g (σ 1) i → K (some (.int (nI i))) σ) : ∀ m i, i + m = z → (∀ p, p < i → jdP n z g (σ 1) p) → sk_G sk_Sm d mX7_judge 18 [(0, .ref 0), (1, .int (nI j)), (3, .int (nI i))] [] σ K := by
  have hcj := nI_clamp (show j < 2 ^ 31 by omega)
  intro m
  induction m with
  | zero =>
    intro i hi hp
    obtain rfl : i = z := hi
    refine bX7_judge_18 (by omega) ⟨vp_in_nI hj (by omega), ?_⟩
    rw [hcj, hsz]
    exact br_t (Int32.le_refl _) (h i hp (fun y => absurd y.1 (by omega)))
  | succ m ih =>
    intro i hi hp
    refine bX7_judge_18 (by omega) ⟨vp_in_nI hj (by omega), ?_⟩
    rw [hcj, hsz, nI_1, e24, nI_clamp (show 24 * j + i < 2 ^ 31 by omega)]
    refine br_f (fun y => absurd ((nI_leI (by omega) (by omega)).mp y) (by omega)) ?_
    by_cases hin : i < n
    · refine mSl_t h6 hn (by omega) hin (ex_i (br_f i1_0 (pX7_its 6 (by omega) (by omega) (ex_i ⟨vp_in_nI (by omega) (by omega), ?_⟩))))
      rw [hg i (by omega)]
      by_cases he : g i = fl (σ 1) i 6
      · refine ns_f he.symm (ih (i + 1) (by omega) (fun p hp2 => ?_))
        by_cases y : p = i
        · subst y; exact ⟨by omega, hin, he⟩
        · exact hp p (by omega)
      · exact ns_t (fun y => he y.symm) (h i hp (fun y => he y.2.2))
    · refine mSl_f h6 hn (by omega) ?_ (ex_i (br_t rfl (h i hp (fun y => hin y.2.1))))
      rintro ⟨c, hc, e⟩
      have := (nI_iff (by omega) (by omega)).mp e
      omega
theorem jJudge (hd : 20 < d) (he : 20 < e) (hR : R τ σ) : sk_C sk_Sc d mX6_judge [.ref 0, .int v1] τ (jK e mX7_judge [.ref 0, .int v1] σ) := by
  have hS := hR.2.2.2.2.2.1
  obtain ⟨n, l0, l1, hN⟩ := hR.1
  have hn := hN.1.1
  by_cases hs : ∃ c, c < 4 ∧ v1 = nI c
  rotate_left
  · exact wX6_judge (by omega) (cSh_f hs (ex_i (ns_f rfl (cE 1 (by omega) (wX7_judge (by omega) (mLk_f (by omega) hs (ex_i (br_f i1_0 (mE 1 (by omega) hR)))))))))
  obtain ⟨j, hj, rfl⟩ := hs
  have vj := vp_in_nI hj (by omega)
  have hcj := nI_clamp (show j < 2 ^ 31 by omega)
  obtain ⟨g1, g2, ⟨z, hz, g3, g4⟩, g5⟩ := hS j hj
  by_cases h0 : τ (49 + j) 0 = 0
  · have h0' : σ 9 j = 0 := by rw [← g1]; exact h0
    refine wX6_judge (by omega) (cSh_t hj (ex_i (ns_t i1_0 ⟨vj, ?_⟩)))
    rw [hcj]
    exact cMs_t hj h0 (ex_i (br_f i1_0 (cE 2 (by omega) (wX7_judge (by omega) (mLk (by omega) hj (fun _ => ex_i (br_f (by decide) (mE 2 (by omega) hR))) (fun y => absurd h0' y))))))
  have h0' : ¬ σ 9 j = 0 := by rw [← g1]; exact h0
  have ref : ∀ {K2 : sk_K}, (∀ i, (∀ p, p < i → jdP n z (fun i => σ 11 (24 * j + i)) (σ 1) p) → ¬ jdP n z (fun i => σ 11 (24 * j + i)) (σ 1) i → K2 (some (.int (nI i))) σ) → sk_C sk_Sm e mX7_judge [.ref 0, .int (nI j)] σ K2 := fun {K2} h => by
    refine wX7_judge (by omega) (mLk (by omega) hj (fun y => absurd y h0') (fun _ => ex_i (br_t rfl ?_)))
    exact lX7_judge (by omega) hj hz hn hN.s.2.1 g4 (fun i hi => rfl) h z 0 (by omega) (fun p hp => absurd hp (by omega))
  refine wX6_judge (by omega) (cSh_t hj (ex_i (ns_t i1_0 ⟨vj, ?_⟩)))
  have hm : sk_C sk_Sc (d - 1) mX4_isMissing [.ref (49 + j)] τ (fun w t21 => ∃ r21 : Int32, w = some (.int r21) ∧ ((r21 = 0 → sk_G sk_Sc d mX6_judge 38 [(0, .ref 0), (2, .ref (49 + (nI j).toNatClampNeg)), (3, .int 0), (4, .int 0)] [] t21 (jK e mX7_judge [.ref 0, .int (nI j)] σ)) ∧ (¬ r21 = 0 → sk_C sk_Sc (d - 1) mX6_error [.ref 0, .int 2] t21 (fun w t29 => ∃ r29 : Int32, w = some (.int r29) ∧ jK e mX7_judge [.ref 0, .int (nI j)] σ (some (.int r29)) t29)))) := by
    refine cMs_f hj h0 (ex_i (br_t rfl ?_))
    refine lX6_judge (s := σ 1) (g := fun i => σ 11 (24 * j + i)) (n := n) (z := z) (l0 := l0) (l1 := l1) hj hz hN g3 g5 (fun i p1 p2 => ⟨_, rfl, ref (fun i3 q1 q2 => ?_)⟩) z 0 (by omega) (fun p hp => absurd hp (by omega))
    have : i3 = i := by
      rcases Nat.lt_trichotomy i3 i with y | y | y
      · exact absurd (p1 i3 y) q2
      · exact y
      · exact absurd (q1 i y) p2
    subst this
    exact ⟨rfl, hR⟩
  rw [hcj] at hm ⊢
  exact hm
end
