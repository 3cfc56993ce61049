/-! ===== texts: a number, a name, what is opened; the whole reader ===== -/
theorem dig_n {x : Int32} (h1 : ¬ x < 48) (h2 : ¬ 57 < x) : ∃ c, c < 10 ∧ x = nI (48 + c) := by
  have h0 : ¬ x < 0 := fun z => h1 (Int32.lt_trans z (by decide))
  obtain ⟨j, hj, rfl⟩ := nI_of h0
  have q1 : ¬ j < 48 := fun z => h1 ((nI_ltI (b := 48) hj (by omega)).mpr z)
  have q2 : ¬ 57 < j := fun z => h2 ((nI_ltI (a := 57) (by omega) hj).mpr z)
  exact ⟨j - 48, by omega, congrArg nI (by omega)⟩
theorem dig_1 (v c : Nat) : nI v * 10 + nI (48 + c) - 48 = nI (10 * v + c) := by
  rw [show (10 : Int32) = nI 10 from rfl, pk_mul, nI_add, show (48 : Int32) = nI 48 from rfl, pk_sub (by omega)]
  exact congrArg nI (by omega)
theorem dig_2 (v c : Nat) : 10 * nI v + nI (48 + c) - 48 = nI (10 * v + c) := by
  rw [show (10 : Int32) = nI 10 from rfl, pk_mul, nI_add, show (48 : Int32) = nI 48 from rfl, pk_sub (by omega)]
  exact congrArg nI (by omega)
theorem nd_c {x : Int32} {A B : Prop} (h : x < 48 ∨ 57 < x) (a : A) : (x < 48 → A) ∧ (¬ x < 48 → ((57 < x → A) ∧ (¬ 57 < x → B))) := ⟨fun _ => a, fun h1 => ⟨fun _ => a, fun h2 => absurd h (fun z => z.elim h1 h2)⟩⟩
theorem nm_names : ∀ u, u < 2 → ∀ i, i < 3 → sk_names (u * 3 + i) = nmT u i := by decide
theorem nm_dis : ∀ u, u < 2 → ∀ j, j < 3 → ∀ i, i < j → ¬ nmT u j = nmT u i := by decide
theorem nm_out : ∀ u, u < 2 → ∀ j, j < 3 → (nmT u j < 48 ∨ 57 < nmT u j) ∧ ¬ nmT u j = 33 ∧ ¬ nmT u j = 40 ∧ ¬ (-1 : Int32) = nmT u j := by decide
theorem nm_c : ∀ j, j < 3 → (-3 : Int32) + nI j = cT (1, j) := by decide
section
variable {d e : Nat} {τ σ : sk_T} {K : sk_K} {u N a o : Nat} {bf : Nat → Int32} {l : List Tk} {x : Int32}
theorem NJ (hN : N ≤ 60) : ∀ m i a v l, i + m = 4 → v < 10 ^ i → a ≤ N → l.length < a → ∃ a2 v2, a ≤ a2 ∧ a2 ≤ N ∧ v2 ≤ 9999 ∧
    (∀ d τ K, 1 < d → cR u N bf τ a l → (∀ τ2, fpC τ τ2 → cR u N bf τ2 a2 (l ++ [(0, v2)]) → K none τ2) → sk_G sk_Sc d mX2_number 4 [(0, .ref 43), (1, .int (nI v)), (2, .int (nI i))] [] τ K) ∧
    (∀ e σ K, 1 < e → mR u N bf σ o a l → (∀ σ2, fpM σ σ2 → mR u N bf σ2 o a2 (l ++ [(0, v2)]) → K (some (.int 1)) σ2) → sk_G sk_Sm e mX7_one 46 [(0, .ref 0), (2, .int (nI v)), (3, .int (nI i))] [] σ K) := by
  intro m
  induction m with
  | zero =>
    intro i a v l hi hv ha hl
    obtain rfl : i = 4 := hi
    refine ⟨a, v, Nat.le_refl _, ha, by omega, fun d τ K hd hC hK => ?_, fun e σ K hd hM hK => ?_⟩
    · exact bX2_number_4 (by omega) (br_t (by decide) (pEm2 (t := (0, v)) rfl (by omega) hC (fun τ2 f2 r2 => ⟨rfl, hK τ2 f2 r2⟩)))
    · exact bX7_one_46 (by omega) (br_t (by decide) (mEm2 (t := (0, v)) rfl rfl (by omega) hM (fun σ2 f2 r2 => ⟨rfl, hK σ2 f2 r2⟩)))
  | succ m ih =>
    intro i a v l hi hv ha hl
    have h4 : ¬ (4 : Int32) ≤ nI i := fun y => absurd ((nI_leI (a := 4) (by omega) (by omega)).mp y) (by omega)
    have hv4 : v ≤ 9999 := by
      have : (10 : Nat) ^ i ≤ 10 ^ 4 := Nat.pow_le_pow_right (by omega) (by omega)
      omega
    by_cases h1 : sgn N bf a < 48
    · refine ⟨a, v, Nat.le_refl _, ha, hv4, fun d τ K hd hC hK => ?_, fun e σ K hd hM hK => ?_⟩
      · exact bX2_number_4 (by omega) (br_f h4 (pSg hN ha hC.1 (ex_i (br_t h1 (pEm2 (t := (0, v)) rfl (by omega) hC (fun τ2 f2 r2 => ⟨rfl, hK τ2 f2 r2⟩))))))
      · exact bX7_one_46 (by omega) (br_f h4 (mLo hN ha hM (ex_i (wX7_in (br_t h1 (ex_i (br_t rfl (mEm2 (t := (0, v)) rfl rfl (by omega) hM (fun σ2 f2 r2 => ⟨rfl, hK σ2 f2 r2⟩)))))))))
    by_cases h2 : 57 < sgn N bf a
    · refine ⟨a, v, Nat.le_refl _, ha, hv4, fun d τ K hd hC hK => ?_, fun e σ K hd hM hK => ?_⟩
      · exact bX2_number_4 (by omega) (br_f h4 (pSg hN ha hC.1 (ex_i (br_f h1 (pSg hN ha hC.1 (ex_i (br_t h2 (pEm2 (t := (0, v)) rfl (by omega) hC (fun τ2 f2 r2 => ⟨rfl, hK τ2 f2 r2⟩)))))))))
      · exact bX7_one_46 (by omega) (br_f h4 (mLo hN ha hM (ex_i (wX7_in (br_f h1 (br_t h2 (ex_i (br_t rfl (mEm2 (t := (0, v)) rfl rfl (by omega) hM (fun σ2 f2 r2 => ⟨rfl, hK σ2 f2 r2⟩))))))))))
    obtain ⟨c, hc, ec⟩ := dig_n h1 h2
    have haN : a < N := sgn_lt ec (fun z => nI_nm1 (by omega) z.symm)
    have hp : 10 * v + c < 10 ^ (i + 1) := by
      rw [Nat.pow_succ]; omega
    obtain ⟨a2, v2, k1, k2, k3, c2, m2⟩ := ih (i + 1) (a + 1) (10 * v + c) l (by omega) hp (by omega) (by omega)
    refine ⟨a2, v2, by omega, k2, k3, fun d τ K hd hC hK => ?_, fun e σ K hd hM hK => ?_⟩
    · refine bX2_number_4 (by omega) (br_f h4 (pSg hN ha hC.1 (ex_i (br_f h1 (pSg hN ha hC.1 (ex_i (br_f h2 (pSg hN ha hC.1 (ex_i ?_)))))))))
      rw [ec, dig_1, nI_1]
      exact c2 d _ K hd hC.adv (fun τ2 f2 r2 => hK τ2 (fpC.adv.tr f2) r2)
    · refine bX7_one_46 (by omega) (br_f h4 (mLo hN ha hM (ex_i (wX7_in (br_f h1 (br_f h2 (ex_i (br_f i1_0 (mLo hN ha hM (ex_i ?_))))))))))
      rw [ec, dig_2, nI_1]
      exact m2 e _ K hd hM.adv (fun σ2 f2 r2 => hK σ2 (fpM.adv.tr f2) r2)
/-! names -/
theorem lX2_name {j : Nat} (hd : 0 < d) (hu : u < 2) (hj : j < 3) (hx : x = nmT u j) (hl : l.length < 60) (hC : cR u N bf τ a l) (hK : ∀ τ2, fpC τ τ2 → cR u N bf τ2 (a + 1) (l ++ [(1, j)]) → K (some (.int 1)) τ2) : ∀ m i, i + m = j → sk_G sk_Sc d mX2_single 59 [(0, .ref 43), (2, .int x), (3, .int (nI i))] [] τ K := by
  have ei : ∀ i, τ 43 3 * 3 + nI i = nI (u * 3 + i) := fun i => by rw [hC.2.1, show (3 : Int32) = nI 3 from rfl, pk_mul, nI_add]
  intro m
  induction m with
  | zero =>
    intro i hi
    obtain rfl : i = j := hi
    refine bX2_single_59 (by omega) (br_f (fun y => absurd ((nI_leI (a := 3) (by omega) (by omega)).mp y) (by omega)) ⟨by rw [ei]; exact vp_in_nI (by omega) (by omega), ?_⟩)
    rw [ei, nI_clamp (by omega), nm_names u hu i hj]
    exact ns_f hx (pEm2 (t := (1, i)) (nm_c i hj).symm hl hC.adv (fun τ2 f2 r2 => ⟨rfl, hK τ2 (fpC.adv.tr f2) r2⟩))
  | succ m ih =>
    intro i hi
    refine bX2_single_59 (by omega) (br_f (fun y => absurd ((nI_leI (a := 3) (by omega) (by omega)).mp y) (by omega)) ⟨by rw [ei]; exact vp_in_nI (by omega) (by omega), ?_⟩)
    rw [ei, nI_clamp (by omega), nm_names u hu i (by omega), nI_1]
    exact ns_t (by rw [hx]; exact nm_dis u hu j hj i (by omega)) (ih (i + 1) (by omega))
theorem lX2_none (hd : 0 < d) (hu : u < 2) (hx : ∀ j, j < 3 → ¬ x = nmT u j) (hC : cR u N bf τ a l) (hK : K (some (.int 0)) τ) : ∀ m i, i + m = 3 → sk_G sk_Sc d mX2_single 59 [(0, .ref 43), (2, .int x), (3, .int (nI i))] [] τ K := by
  have ei : ∀ i, τ 43 3 * 3 + nI i = nI (u * 3 + i) := fun i => by rw [hC.2.1, show (3 : Int32) = nI 3 from rfl, pk_mul, nI_add]
  intro m
  induction m with
  | zero =>
    intro i hi
    obtain rfl : i = 3 := hi
    exact bX2_single_59 (by omega) (br_t (by decide) hK)
  | succ m ih =>
    intro i hi
    refine bX2_single_59 (by omega) (br_f (fun y => absurd ((nI_leI (a := 3) (by omega) (by omega)).mp y) (by omega)) ⟨by rw [ei]; exact vp_in_nI (by omega) (by omega), ?_⟩)
    rw [ei, nI_clamp (by omega), nm_names u hu i (by omega), nI_1]
    exact ns_t (hx i (by omega)) (ih (i + 1) (by omega))
theorem mNm_t {j : Nat} (hu : u < 2) (hj : j < 3) (e7 : σ 0 7 = nI u) (h : K (some (.int 1)) σ) : sk_C sk_Sm e mX7_isName [.ref 0, .int (nmT u j)] σ K := by
  refine wX7_isName ?_
  rw [e7]
  rcases (show u = 0 ∨ u = 1 by omega) with rfl | rfl
  · rcases (show j = 0 ∨ j = 1 ∨ j = 2 by omega) with rfl | rfl | rfl
    · exact ns_f rfl (ns_f (by decide) h)
    · exact ns_f rfl (ns_t (by decide) (ns_f rfl (br_t (by decide) h)))
    · exact ns_f rfl (ns_t (by decide) (ns_f rfl (br_f (by decide) (ns_f (by decide) h))))
  · rcases (show j = 0 ∨ j = 1 ∨ j = 2 by omega) with rfl | rfl | rfl
    · exact ns_t (by decide) (ns_f (by decide) h)
    · exact ns_t (by decide) (ns_t (by decide) (ns_t (by decide) (br_t (by decide) h)))
    · exact ns_t (by decide) (ns_t (by decide) (ns_t (by decide) (br_f (by decide) (ns_f (by decide) h))))
theorem mNm_f (hu : u < 2) (hx : ∀ j, j < 3 → ¬ x = nmT u j) (e7 : σ 0 7 = nI u) (h : K (some (.int 0)) σ) : sk_C sk_Sm e mX7_isName [.ref 0, .int x] σ K := by
  refine wX7_isName ?_
  rw [e7]
  have h0 := hx 0 (by omega)
  have h1 := hx 1 (by omega)
  have h2 := hx 2 (by omega)
  rcases (show u = 0 ∨ u = 1 by omega) with rfl | rfl
  · exact ns_f rfl (ns_t h0 (ns_f rfl (br_f h1 (ns_t h2 h))))
  · exact ns_t (by decide) (ns_t h0 (ns_t (by decide) (br_f h1 (ns_t h2 h))))
/-! what opens -/
theorem mOp (ho : o < 5) (hM : mR u N bf σ o a l) (h : ∀ σ2, fpM σ σ2 → mR u N bf σ2 (o + 1) (a + 1) l → K (some (.int 1)) σ2) : sk_C sk_Sm e mX7_opens [.ref 0] σ K := by
  have e5 := hM.2.2.1
  refine wX7_opens (ns_t (by rw [e5]; exact fun z => absurd ((nI_iff (b := 5) (by omega) (by omega)).mp z) (by omega)) ?_)
  exact h _ (fpM.opn.tr fpM.adv) (hM.opn (o2 := o + 1) (by rw [e5, nI_1])).adv
theorem mOp5 (hM : mR u N bf σ 5 a l) (h : K (some (.int 0)) σ) : sk_C sk_Sm e mX7_opens [.ref 0] σ K :=
  wX7_opens (ns_f (by rw [hM.2.2.1]; rfl) h)
theorem o5 (ho : o < 5) : ¬ (5 : Int32) ≤ nI o := fun z => absurd ((nI_leI (a := 5) (by omega) (by omega)).mp z) (by omega)
/-- a single piece, by those inside -/
theorem S_one {d0 d1 : Nat} (hu : u < 2) (hN : N ≤ 60) (ho : o ≤ 5) (h12 : 12 ≤ d0) (h9 : o < 5 → d1 + 2 ≤ d0 ∧ JT u N bf (o + 1) d1 mX2_single mX7_one ∧ JT u N bf (o + 1) d1 mX2_any mX7_whole) : JT u N bf o d0 mX2_single mX7_one := by
  intro a l ha hl
  by_cases hnm : ∃ j, j < 3 ∧ sgn N bf a = nmT u j
  · obtain ⟨j, hj, hx⟩ := hnm
    obtain ⟨n1, n2, n3, n4⟩ := nm_out u hu j hj
    have haN := sgn_lt hx n4
    refine ⟨true, a + 1, [(1, j)], ⟨by omega, haN, fun _ => ⟨isP_n j, okW_1 hj, by rw [List.length_singleton]; omega, by omega⟩⟩, fun d τ K hd hC hK => ?_, fun e σ K hd hM hK => ?_⟩
    · rw [← hx] at n1 n2 n3
      exact wX2_single (by omega) (pSg hN ha hC.1 (ex_i (nd_c n1 (br_f n2 (ns_t n3 (lX2_name (by omega) hu hj hx (by omega) hC (fun τ2 f2 r2 => hK τ2 f2 r2) j 0 (by omega)))))))
    · refine wX7_one (by omega) (mLo hN ha hM (ex_i ?_))
      rw [hx]
      exact mNm_t hu hj hM.2.2.2.2.1 (ex_i (br_f i1_0 (mEm2 (t := (1, j)) rfl rfl (by omega) hM.adv (fun σ2 f2 r2 => ⟨rfl, hK σ2 (fpM.adv.tr f2) r2⟩))))
  have hnm2 : ∀ j, j < 3 → ¬ sgn N bf a = nmT u j := fun j hj e => hnm ⟨j, hj, e⟩
  by_cases hdg : sgn N bf a < 48 ∨ 57 < sgn N bf a
  rotate_left
  · have h1 : ¬ sgn N bf a < 48 := fun z => hdg (Or.inl z)
    have h2 : ¬ 57 < sgn N bf a := fun z => hdg (Or.inr z)
    obtain ⟨c, hc, ec⟩ := dig_n h1 h2
    have haN : a < N := sgn_lt ec (fun z => nI_nm1 (by omega) z.symm)
    obtain ⟨a2, v2, k1, k2, k3, c2, m2⟩ := NJ (u := u) (o := o) (bf := bf) hN 3 1 (a + 1) c l (by omega) (by omega) (by omega) (by omega)
    refine ⟨true, a2, [(0, v2)], ⟨by omega, k2, fun _ => ⟨isP_v v2, okW_1 k3, by rw [List.length_singleton]; omega, by omega⟩⟩, fun d τ K hd hC hK => ?_, fun e σ K hd hM hK => ?_⟩
    · refine wX2_single (by omega) (pSg hN ha hC.1 (ex_i (br_f h1 (br_f h2 (wX2_number (bX2_number_4 (by omega) (br_f (by decide) (pSg hN ha hC.1 (ex_i (br_f h1 (pSg hN ha hC.1 (ex_i (br_f h2 (pSg hN ha hC.1 (ex_i ?_)))))))))))))))
      rw [ec, show (0 : Int32) * 10 + nI (48 + c) - 48 = nI c from by rw [show (0 : Int32) = nI 0 from rfl, dig_1]; exact congrArg nI (by omega)]
      exact c2 (d - 1) _ _ (by omega) hC.adv (fun τ2 f2 r2 => ⟨rfl, hK τ2 (fpC.adv.tr f2) r2⟩)
    · refine wX7_one (by omega) (mLo hN ha hM (ex_i (mNm_f hu hnm2 hM.2.2.2.2.1 (ex_i (br_t rfl (wX7_in (br_f h1 (br_f h2 (ex_i (br_f i1_0 (bX7_one_46 (by omega) (br_f (by decide) (mLo hN ha hM (ex_i (wX7_in (br_f h1 (br_f h2 (ex_i (br_f i1_0 (mLo hN ha hM (ex_i ?_)))))))))))))))))))))
      rw [ec, show (10 : Int32) * 0 + nI (48 + c) - 48 = nI c from by rw [show (0 : Int32) = nI 0 from rfl, dig_2]; exact congrArg nI (by omega)]
      exact m2 e _ _ (by omega) hM.adv (fun σ2 f2 r2 => hK σ2 (fpM.adv.tr f2) r2)
  -- the reference comes past names and digits
  have hin : ∀ {e : Nat} {σ : sk_T} {K2 : sk_K}, K2 (some (.int 0)) σ → sk_C sk_Sm e mX7_in [.int (sgn N bf a), .int 48, .int 57] σ K2 := fun {e σ K2} h => wX7_in (or2_f hdg h)
  by_cases h33 : sgn N bf a = 33
  · have haN := sgn_lt h33 (by decide)
    by_cases ho5 : o < 5
    · obtain ⟨hd1, hS, -⟩ := h9 ho5
      obtain ⟨b1, a1, w1, ⟨k1, k2, k3⟩, c1, m1⟩ := hS (a + 1) l (by omega) (by omega)
      cases b1 with
      | false =>
        refine ⟨false, a1, [], ⟨by omega, k2, fun z => absurd z Bool.false_ne_true⟩, fun d τ K hd hC hK => ?_, fun e σ K hd hM hK => ?_⟩
        · refine wX2_single (by omega) (pSg hN ha hC.1 (ex_i (nd_c hdg (br_t h33 (br_f (o5 ho5) (wX2_opened (by omega) (ns_f h33 ?_)))))))
          rw [nI_1]
          exact c1 (d - 1 - 1) _ _ (by omega) hC.adv (fun τ2 f2 r2 => ex_i (pEmF r2 (fun τ3 f3 r3 => ⟨rfl, rfl, ex_i (br_t rfl (hK τ3 ((fpC.adv.tr f2).tr f3) r3))⟩)))
        · exact wX7_one (by omega) (mLo hN ha hM (ex_i (mNm_f hu hnm2 hM.2.2.2.2.1 (ex_i (br_t rfl (hin (ex_i (br_t rfl (ns_f h33 (mOp ho5 hM (fun σ2 f2 r2 => ex_i (br_f i1_0 (m1 (e - 1) _ _ (by omega) r2 (fun σ3 f3 r3 => ex_i (ns_f rfl (hK σ3 (f2.tr f3) r3))))))))))))))))
      | true =>
        obtain ⟨y1, y2, y3, y4⟩ := k3 rfl
        have hlen : (l ++ w1).length = l.length + w1.length := List.length_append
        refine ⟨true, a1, w1 ++ [(2, 0)], ⟨by omega, k2, fun _ => ⟨isP_not y1, okW_a y2 (okW_1 trivial), by rw [ap_len]; omega, by omega⟩⟩, fun d τ K hd hC hK => ?_, fun e σ K hd hM hK => ?_⟩
        · refine wX2_single (by omega) (pSg hN ha hC.1 (ex_i (nd_c hdg (br_t h33 (br_f (o5 ho5) (wX2_opened (by omega) (ns_f h33 ?_)))))))
          rw [nI_1]
          exact c1 (d - 1 - 1) _ _ (by omega) hC.adv (fun τ2 f2 r2 => ex_i (pEm2 (t := (2, 0)) (by decide) (by rw [hlen]; omega) r2 (fun τ3 f3 r3 => ⟨rfl, rfl, ex_i (br_f i1_0 (hK τ3 ((fpC.adv.tr f2).tr f3) (by rw [List.append_assoc] at r3; exact r3)))⟩)))
        · refine wX7_one (by omega) (mLo hN ha hM (ex_i (mNm_f hu hnm2 hM.2.2.2.2.1 (ex_i (br_t rfl (hin (ex_i (br_t rfl (ns_f h33 (mOp ho5 hM (fun σ2 f2 r2 => ex_i (br_f i1_0 (m1 (e - 1) _ _ (by omega) r2 (fun σ3 f3 r3 => ex_i (ns_t i1_0 ?_)))))))))))))))
          have r3' : mR u N bf σ3 (o + 1) a1 (l ++ w1) := r3
          have r4 := r3'.opn (x := σ3 0 5 - 1) (o2 := o) (by rw [r3'.2.2.1, nI_m1])
          exact mEm2 (t := (2, 0)) rfl rfl (by rw [hlen]; omega) r4 (fun σ4 f4 r5 => ⟨rfl, hK σ4 (((f2.tr f3).tr fpM.opn).tr f4) (by rw [List.append_assoc] at r5; exact r5)⟩)
    · obtain rfl : o = 5 := by omega
      refine ⟨false, a, [], ⟨by omega, ha, fun z => absurd z Bool.false_ne_true⟩, fun d τ K hd hC hK => ?_, fun e σ K hd hM hK => ?_⟩
      · exact wX2_single (by omega) (pSg hN ha hC.1 (ex_i (nd_c hdg (br_t h33 (br_t (by decide) (hK τ fpC.rf (hC.f (by omega))))))))
      · exact wX7_one (by omega) (mLo hN ha hM (ex_i (mNm_f hu hnm2 hM.2.2.2.2.1 (ex_i (br_t rfl (hin (ex_i (br_t rfl (ns_f h33 (mOp5 hM (ex_i (br_t rfl (hK σ fpM.rf hM.2.1))))))))))))) 
  by_cases h40 : sgn N bf a = 40
  · have haN := sgn_lt h40 (by decide)
    by_cases ho5 : o < 5
    · obtain ⟨hd1, -, hA⟩ := h9 ho5
      obtain ⟨b1, a1, w1, ⟨k1, k2, k3⟩, c1, m1⟩ := hA (a + 1) l (by omega) (by omega)
      cases b1 with
      | false =>
        refine ⟨false, a1, [], ⟨by omega, k2, fun z => absurd z Bool.false_ne_true⟩, fun d τ K hd hC hK => ?_, fun e σ K hd hM hK => ?_⟩
        · refine wX2_single (by omega) (pSg hN ha hC.1 (ex_i (nd_c hdg (br_f h33 (ns_f h40 (br_f (o5 ho5) (wX2_opened (by omega) (ns_t h33 ?_))))))))
          rw [nI_1]
          exact c1 (d - 1 - 1) _ _ (by omega) hC.adv (fun τ2 f2 r2 => ex_i (br_t rfl (ex_i (br_t rfl (hK τ2 (fpC.adv.tr f2) r2)))))
        · exact wX7_one (by omega) (mLo hN ha hM (ex_i (mNm_f hu hnm2 hM.2.2.2.2.1 (ex_i (br_t rfl (hin (ex_i (br_t rfl (ns_t h33 (ns_f h40 (mOp ho5 hM (fun σ2 f2 r2 => ex_i (br_f i1_0 (m1 (e - 1) _ _ (by omega) r2 (fun σ3 f3 r3 => ex_i (br_t rfl (hK σ3 (f2.tr f3) r3)))))))))))))))))
      | true =>
        obtain ⟨y1, y2, y3, y4⟩ := k3 rfl
        have hlen : (l ++ w1).length = l.length + w1.length := List.length_append
        by_cases h41 : sgn N bf a1 = 41
        · have ha1N := sgn_lt h41 (by decide)
          refine ⟨true, a1 + 1, w1, ⟨by omega, ha1N, fun _ => ⟨y1, y2, by omega, by omega⟩⟩, fun d τ K hd hC hK => ?_, fun e σ K hd hM hK => ?_⟩
          · refine wX2_single (by omega) (pSg hN ha hC.1 (ex_i (nd_c hdg (br_f h33 (ns_f h40 (br_f (o5 ho5) (wX2_opened (by omega) (ns_t h33 ?_))))))))
            rw [nI_1]
            refine c1 (d - 1 - 1) _ _ (by omega) hC.adv (fun τ2 f2 r2 => ex_i (br_f i1_0 ?_))
            have r2 : cR u N bf τ2 a1 (l ++ w1) := r2
            exact pSg hN k2 r2.1 (ex_i (br_t h41 (ex_i (br_f i1_0 (hK _ ((fpC.adv.tr f2).tr fpC.adv) r2.adv)))))
          · refine wX7_one (by omega) (mLo hN ha hM (ex_i (mNm_f hu hnm2 hM.2.2.2.2.1 (ex_i (br_t rfl (hin (ex_i (br_t rfl (ns_t h33 (ns_f h40 (mOp ho5 hM (fun σ2 f2 r2 => ex_i (br_f i1_0 (m1 (e - 1) _ _ (by omega) r2 (fun σ3 f3 r3 => ex_i (br_f i1_0 ?_))))))))))))))))
            have r3 : mR u N bf σ3 (o + 1) a1 (l ++ w1) := r3
            refine mLo hN k2 r3 (ex_i (br_t h41 ?_))
            have r4 := r3.adv.opn (x := sk_u σ3 0 4 (σ3 0 4 + 1) 0 5 - 1) (o2 := o) (by rw [r3.adv.2.2.1, nI_m1])
            exact hK _ ((f2.tr f3).tr (fpM.adv.tr fpM.opn)) r4
        · refine ⟨false, a1, [], ⟨by omega, k2, fun z => absurd z Bool.false_ne_true⟩, fun d τ K hd hC hK => ?_, fun e σ K hd hM hK => ?_⟩
          · refine wX2_single (by omega) (pSg hN ha hC.1 (ex_i (nd_c hdg (br_f h33 (ns_f h40 (br_f (o5 ho5) (wX2_opened (by omega) (ns_t h33 ?_))))))))
            rw [nI_1]
            refine c1 (d - 1 - 1) _ _ (by omega) hC.adv (fun τ2 f2 r2 => ex_i (br_f i1_0 ?_))
            have r2 : cR u N bf τ2 a1 (l ++ w1) := r2
            exact pSg hN k2 r2.1 (ex_i (br_f h41 (ex_i (br_t rfl (hK _ (fpC.adv.tr f2) (r2.f (by rw [hlen]; omega)))))))
          · refine wX7_one (by omega) (mLo hN ha hM (ex_i (mNm_f hu hnm2 hM.2.2.2.2.1 (ex_i (br_t rfl (hin (ex_i (br_t rfl (ns_t h33 (ns_f h40 (mOp ho5 hM (fun σ2 f2 r2 => ex_i (br_f i1_0 (m1 (e - 1) _ _ (by omega) r2 (fun σ3 f3 r3 => ex_i (br_f i1_0 ?_))))))))))))))))
            have r3 : mR u N bf σ3 (o + 1) a1 (l ++ w1) := r3
            exact mLo hN k2 r3 (ex_i (br_f h41 (hK _ (f2.tr f3) r3.2.1)))
    · obtain rfl : o = 5 := by omega
      refine ⟨false, a, [], ⟨by omega, ha, fun z => absurd z Bool.false_ne_true⟩, fun d τ K hd hC hK => ?_, fun e σ K hd hM hK => ?_⟩
      · exact wX2_single (by omega) (pSg hN ha hC.1 (ex_i (nd_c hdg (br_f h33 (ns_f h40 (br_t (by decide) (hK τ fpC.rf (hC.f (by omega)))))))))
      · exact wX7_one (by omega) (mLo hN ha hM (ex_i (mNm_f hu hnm2 hM.2.2.2.2.1 (ex_i (br_t rfl (hin (ex_i (br_t rfl (ns_t h33 (ns_f h40 (mOp5 hM (ex_i (br_t rfl (hK σ fpM.rf hM.2.1))))))))))))))
  refine ⟨false, a, [], ⟨by omega, ha, fun z => absurd z Bool.false_ne_true⟩, fun d τ K hd hC hK => ?_, fun e σ K hd hM hK => ?_⟩
  · exact wX2_single (by omega) (pSg hN ha hC.1 (ex_i (nd_c hdg (br_f h33 (ns_t h40 (lX2_none (by omega) hu hnm2 hC (hK τ fpC.rf (hC.f (by omega))) 3 0 rfl))))))
  · exact wX7_one (by omega) (mLo hN ha hM (ex_i (mNm_f hu hnm2 hM.2.2.2.2.1 (ex_i (br_t rfl (hin (ex_i (br_t rfl (ns_t h33 (ns_t h40 (hK σ fpM.rf hM.2.1)))))))))))
theorem JT.mono {d0 d1 : Nat} {MC MM : sk_M} (h : JT u N bf o d0 MC MM) (hd : d0 ≤ d1) : JT u N bf o d1 MC MM := by
  intro a l ha hl
  obtain ⟨b, a2, w, k, c, m⟩ := h a l ha hl
  exact ⟨b, a2, w, k, fun d τ K hd2 => c d τ K (by omega), fun e σ K hd2 => m e σ K (by omega)⟩
theorem J_any5 {d0 : Nat} (hN : N ≤ 60) (h : JT u N bf o d0 mX2_single mX7_one) : JT u N bf o (d0 + 5) mX2_any mX7_whole :=
  J_any hN (J_all hN (J_cmp hN (J_sum hN (J_product hN h))))
theorem SJ_all (hu : u < 2) (hN : N ≤ 60) : ∀ q o, o + q = 5 → JT u N bf o (12 * q + 12) mX2_single mX7_one := by
  intro q
  induction q with
  | zero => exact fun o ho => S_one (d1 := 0) hu hN (by omega) (by omega) (fun z => absurd z (by omega))
  | succ q ih => exact fun o ho => S_one (d1 := 12 * q + 12 + 5) hu hN (by omega) (by omega) (fun z => ⟨by omega, (ih (o + 1) (by omega)).mono (by omega), J_any5 hN (ih (o + 1) (by omega))⟩)
theorem AJ (hu : u < 2) (hN : N ≤ 60) : JT u N bf 0 80 mX2_any mX7_whole := (J_any5 hN (SJ_all hu hN 5 0 rfl)).mono (by omega)
end
