/-! ===== texts: the levels, both readers ===== -/
section
variable {u N o d0 : Nat} {bf : Nat → Int32}
theorem ap3 {l w1 w2 : List Tk} {t : Tk} : (l ++ w1 ++ [t]) ++ w2 = l ++ (w1 ++ ([t] ++ w2)) := by rw [List.append_assoc, List.append_assoc]
theorem S_any (hN : N ≤ 60) (hJ : JT u N bf o d0 mX2_all mX7_both) (a : Nat) (l : List Tk) (i : Nat) (ha : a ≤ N) (hl : l.length ≤ a) (hi : i < a) (ih : ∀ a2 l2 i2, a < a2 → a2 ≤ N → l2.length ≤ a2 → i2 < a2 → LBj u N bf o (d0 + 1) mX2_any mX7_whole a2 l2 i2) : LBj u N bf o (d0 + 1) mX2_any mX7_whole a l i := by
  have h60 : ¬ (60 : Int32) ≤ nI i := fun y => absurd ((nI_leI (a := 60) (by omega) (by omega)).mp y) (by omega)
  by_cases hc : sgn N bf a = 124
  · have haN := sgn_lt hc (by decide)
    obtain ⟨b1, a1, w1, ok1, c1, m1⟩ := hJ (a + 1) l (by omega) (by omega)
    obtain ⟨k1, k2, k3⟩ := ok1
    cases b1 with
    | false =>
      refine ⟨false, a1, [], ⟨by omega, k2, fun z => absurd z Bool.false_ne_true⟩, fun d τ K hd hC hK => ?_, fun e σ K hd hM hK => ?_⟩
      · refine bX2_any_8 (by omega) (br_f h60 (br_f i1_0 (pSg hN ha hC.1 (ex_i (ns_f hc (c1 (d - 1) _ _ (by omega) hC.adv (fun τ2 f2 r2 => ex_i (pEmF r2 (fun τ3 f3 r3 => ⟨rfl, ?_⟩)))))))))
        have hfin := hK τ3 ((fpC.adv.tr f2).tr f3) r3
        exact bX2_any_8 (by omega) ⟨fun _ => ⟨rfl, hfin⟩, fun _ => br_t rfl ⟨rfl, hfin⟩⟩
      · exact bX7_whole_9 (by omega) (mLo hN ha hM (ex_i (ns_f hc (m1 (e - 1) _ _ (by omega) hM.adv (fun σ2 f2 r2 => ex_i (ns_f rfl (hK σ2 (fpM.adv.tr f2) r2)))))))
    | true =>
      obtain ⟨q1, q2, q3, q4⟩ := k3 rfl
      have hlen : (l ++ w1).length = l.length + w1.length := List.length_append
      obtain ⟨b2, a2, w2, ⟨ok1, ok2, ok3⟩, c2, m2⟩ := ih a1 (l ++ w1 ++ [(3, 0)]) (i + 1) (by omega) k2 (by rw [ap_len, hlen]; omega) (by omega)
      refine ⟨b2, a2, w1 ++ ([(3, 0)] ++ w2), ⟨by omega, ok2, fun z => ?_⟩, fun d τ K hd hC hK => ?_, fun e σ K hd hM hK => ?_⟩
      · obtain ⟨z1, z2, z3⟩ := ok3 z
        refine ⟨isT_op q1 z1, okW_a q2 (okW_a (okW_1 (show 0 < 10 by omega)) z2), ?_⟩
        rw [List.length_append, List.length_append, List.length_singleton]; omega
      · refine bX2_any_8 (by omega) (br_f h60 (br_f i1_0 (pSg hN ha hC.1 (ex_i (ns_f hc (c1 (d - 1) _ _ (by omega) hC.adv (fun τ2 f2 r2 => ex_i (pEm2 (t := (3, 0)) (by decide) (by rw [hlen]; omega) r2 (fun τ3 f3 r3 => ⟨rfl, ?_⟩)))))))))
        rw [nI_1]
        exact c2 d τ3 K hd r3 (fun τ4 f4 r4 => hK τ4 (((fpC.adv.tr f2).tr f3).tr f4) (by rw [ap3] at r4; exact r4))
      · refine bX7_whole_9 (by omega) (mLo hN ha hM (ex_i (ns_f hc (m1 (e - 1) _ _ (by omega) hM.adv (fun σ2 f2 r2 => ex_i (ns_t i1_0 (mEm2 (t := (3, 0)) (by decide) (show sgT 0 = 124 by decide) (by rw [hlen]; omega) r2 (fun σ3 f3 r3 => ⟨rfl, ?_⟩))))))))
        exact m2 e σ3 K hd r3 (fun σ4 f4 r4 => hK σ4 (((fpM.adv.tr f2).tr f3).tr f4) (by rw [ap3] at r4; exact r4))
  have h0 := hc
  clear hc
  exact ⟨true, a, [], ⟨Nat.le_refl _, ha, fun _ => ⟨isT_0, okW_0, by simp⟩⟩, fun d τ K hd hC hK => bX2_any_8 (by omega) (br_f h60 (br_f i1_0 (pSg hN ha hC.1 (ex_i (ns_t h0 ⟨rfl, hK τ fpC.rf (by rw [List.append_nil]; exact hC)⟩))))), fun e σ K hd hM hK => bX7_whole_9 (by omega) (mLo hN ha hM (ex_i (ns_t h0 (hK σ fpM.rf (by rw [List.append_nil]; exact hM)))))⟩
theorem L_any (hN : N ≤ 60) (hJ : JT u N bf o d0 mX2_all mX7_both) : ∀ m a l i, N - a ≤ m → a ≤ N → l.length ≤ a → i < a → LBj u N bf o (d0 + 1) mX2_any mX7_whole a l i := by
  intro m
  induction m with
  | zero => exact fun a l i hm ha hl hi => S_any hN hJ a l i ha hl hi (fun a2 l2 i2 h1 h2 _ _ => absurd h1 (by omega))
  | succ m ih => exact fun a l i hm ha hl hi => S_any hN hJ a l i ha hl hi (fun a2 l2 i2 h1 h2 h3 h4 => ih a2 l2 i2 (by omega) h2 h3 h4)
theorem J_any (hN : N ≤ 60) (hJ : JT u N bf o d0 mX2_all mX7_both) : JT u N bf o (d0 + 1) mX2_any mX7_whole := by
  intro a l ha hl
  obtain ⟨b0, a0, w0, ⟨k1, k2, k3⟩, c0, m0⟩ := hJ a l ha hl
  cases b0 with
  | false =>
    exact ⟨false, a0, [], ⟨k1, k2, fun z => absurd z Bool.false_ne_true⟩, fun d τ K hd hC hK => wX2_any (by omega) (c0 (d - 1) τ _ (by omega) hC (fun τ2 f2 r2 => ex_i (bX2_any_8 (by omega) (br_f (by decide) (br_t rfl ⟨rfl, hK τ2 f2 r2⟩))))), fun e σ K hd hM hK => wX7_whole (by omega) (m0 (e - 1) σ _ (by omega) hM (fun σ2 f2 r2 => ex_i (ns_f rfl (hK σ2 f2 r2))))⟩
  | true =>
    obtain ⟨q1, q2, q3, q4⟩ := k3 rfl
    have hlen : (l ++ w0).length = l.length + w0.length := List.length_append
    obtain ⟨b2, a2, w2, ⟨ok1, ok2, ok3⟩, c2, m2⟩ := L_any hN hJ N a0 (l ++ w0) 0 (by omega) k2 (by rw [hlen]; omega) (by omega)
    refine ⟨b2, a2, w0 ++ w2, ⟨by omega, ok2, fun z => ?_⟩, fun d τ K hd hC hK => ?_, fun e σ K hd hM hK => ?_⟩
    · obtain ⟨z1, z2, z3⟩ := ok3 z
      refine ⟨isP_t q1 z1, okW_a q2 z2, ?_, by omega⟩
      rw [List.length_append]; omega
    · exact wX2_any (by omega) (c0 (d - 1) τ _ (by omega) hC (fun τ2 f2 r2 => ex_i (c2 d τ2 K hd r2 (fun τ3 f3 r3 => hK τ3 (f2.tr f3) (by rw [List.append_assoc] at r3; exact r3)))))
    · exact wX7_whole (by omega) (m0 (e - 1) σ _ (by omega) hM (fun σ2 f2 r2 => ex_i (ns_t i1_0 (m2 e σ2 K hd r2 (fun σ3 f3 r3 => hK σ3 (f2.tr f3) (by rw [List.append_assoc] at r3; exact r3))))))
theorem S_all (hN : N ≤ 60) (hJ : JT u N bf o d0 mX2_comparison mX7_compared) (a : Nat) (l : List Tk) (i : Nat) (ha : a ≤ N) (hl : l.length ≤ a) (hi : i < a) (ih : ∀ a2 l2 i2, a < a2 → a2 ≤ N → l2.length ≤ a2 → i2 < a2 → LBj u N bf o (d0 + 1) mX2_all mX7_both a2 l2 i2) : LBj u N bf o (d0 + 1) mX2_all mX7_both a l i := by
  have h60 : ¬ (60 : Int32) ≤ nI i := fun y => absurd ((nI_leI (a := 60) (by omega) (by omega)).mp y) (by omega)
  by_cases hc : sgn N bf a = 38
  · have haN := sgn_lt hc (by decide)
    obtain ⟨b1, a1, w1, ok1, c1, m1⟩ := hJ (a + 1) l (by omega) (by omega)
    obtain ⟨k1, k2, k3⟩ := ok1
    cases b1 with
    | false =>
      refine ⟨false, a1, [], ⟨by omega, k2, fun z => absurd z Bool.false_ne_true⟩, fun d τ K hd hC hK => ?_, fun e σ K hd hM hK => ?_⟩
      · refine bX2_all_8 (by omega) (br_f h60 (br_f i1_0 (pSg hN ha hC.1 (ex_i (ns_f hc (c1 (d - 1) _ _ (by omega) hC.adv (fun τ2 f2 r2 => ex_i (pEmF r2 (fun τ3 f3 r3 => ⟨rfl, ?_⟩)))))))))
        have hfin := hK τ3 ((fpC.adv.tr f2).tr f3) r3
        exact bX2_all_8 (by omega) ⟨fun _ => ⟨rfl, hfin⟩, fun _ => br_t rfl ⟨rfl, hfin⟩⟩
      · exact bX7_both_9 (by omega) (mLo hN ha hM (ex_i (ns_f hc (m1 (e - 1) _ _ (by omega) hM.adv (fun σ2 f2 r2 => ex_i (ns_f rfl (hK σ2 (fpM.adv.tr f2) r2)))))))
    | true =>
      obtain ⟨q1, q2, q3, q4⟩ := k3 rfl
      have hlen : (l ++ w1).length = l.length + w1.length := List.length_append
      obtain ⟨b2, a2, w2, ⟨ok1, ok2, ok3⟩, c2, m2⟩ := ih a1 (l ++ w1 ++ [(3, 1)]) (i + 1) (by omega) k2 (by rw [ap_len, hlen]; omega) (by omega)
      refine ⟨b2, a2, w1 ++ ([(3, 1)] ++ w2), ⟨by omega, ok2, fun z => ?_⟩, fun d τ K hd hC hK => ?_, fun e σ K hd hM hK => ?_⟩
      · obtain ⟨z1, z2, z3⟩ := ok3 z
        refine ⟨isT_op q1 z1, okW_a q2 (okW_a (okW_1 (show 1 < 10 by omega)) z2), ?_⟩
        rw [List.length_append, List.length_append, List.length_singleton]; omega
      · refine bX2_all_8 (by omega) (br_f h60 (br_f i1_0 (pSg hN ha hC.1 (ex_i (ns_f hc (c1 (d - 1) _ _ (by omega) hC.adv (fun τ2 f2 r2 => ex_i (pEm2 (t := (3, 1)) (by decide) (by rw [hlen]; omega) r2 (fun τ3 f3 r3 => ⟨rfl, ?_⟩)))))))))
        rw [nI_1]
        exact c2 d τ3 K hd r3 (fun τ4 f4 r4 => hK τ4 (((fpC.adv.tr f2).tr f3).tr f4) (by rw [ap3] at r4; exact r4))
      · refine bX7_both_9 (by omega) (mLo hN ha hM (ex_i (ns_f hc (m1 (e - 1) _ _ (by omega) hM.adv (fun σ2 f2 r2 => ex_i (ns_t i1_0 (mEm2 (t := (3, 1)) (by decide) (show sgT 1 = 38 by decide) (by rw [hlen]; omega) r2 (fun σ3 f3 r3 => ⟨rfl, ?_⟩))))))))
        exact m2 e σ3 K hd r3 (fun σ4 f4 r4 => hK σ4 (((fpM.adv.tr f2).tr f3).tr f4) (by rw [ap3] at r4; exact r4))
  have h0 := hc
  clear hc
  exact ⟨true, a, [], ⟨Nat.le_refl _, ha, fun _ => ⟨isT_0, okW_0, by simp⟩⟩, fun d τ K hd hC hK => bX2_all_8 (by omega) (br_f h60 (br_f i1_0 (pSg hN ha hC.1 (ex_i (ns_t h0 ⟨rfl, hK τ fpC.rf (by rw [List.append_nil]; exact hC)⟩))))), fun e σ K hd hM hK => bX7_both_9 (by omega) (mLo hN ha hM (ex_i (ns_t h0 (hK σ fpM.rf (by rw [List.append_nil]; exact hM)))))⟩
theorem L_all (hN : N ≤ 60) (hJ : JT u N bf o d0 mX2_comparison mX7_compared) : ∀ m a l i, N - a ≤ m → a ≤ N → l.length ≤ a → i < a → LBj u N bf o (d0 + 1) mX2_all mX7_both a l i := by
  intro m
  induction m with
  | zero => exact fun a l i hm ha hl hi => S_all hN hJ a l i ha hl hi (fun a2 l2 i2 h1 h2 _ _ => absurd h1 (by omega))
  | succ m ih => exact fun a l i hm ha hl hi => S_all hN hJ a l i ha hl hi (fun a2 l2 i2 h1 h2 h3 h4 => ih a2 l2 i2 (by omega) h2 h3 h4)
theorem J_all (hN : N ≤ 60) (hJ : JT u N bf o d0 mX2_comparison mX7_compared) : JT u N bf o (d0 + 1) mX2_all mX7_both := by
  intro a l ha hl
  obtain ⟨b0, a0, w0, ⟨k1, k2, k3⟩, c0, m0⟩ := hJ a l ha hl
  cases b0 with
  | false =>
    exact ⟨false, a0, [], ⟨k1, k2, fun z => absurd z Bool.false_ne_true⟩, fun d τ K hd hC hK => wX2_all (by omega) (c0 (d - 1) τ _ (by omega) hC (fun τ2 f2 r2 => ex_i (bX2_all_8 (by omega) (br_f (by decide) (br_t rfl ⟨rfl, hK τ2 f2 r2⟩))))), fun e σ K hd hM hK => wX7_both (by omega) (m0 (e - 1) σ _ (by omega) hM (fun σ2 f2 r2 => ex_i (ns_f rfl (hK σ2 f2 r2))))⟩
  | true =>
    obtain ⟨q1, q2, q3, q4⟩ := k3 rfl
    have hlen : (l ++ w0).length = l.length + w0.length := List.length_append
    obtain ⟨b2, a2, w2, ⟨ok1, ok2, ok3⟩, c2, m2⟩ := L_all hN hJ N a0 (l ++ w0) 0 (by omega) k2 (by rw [hlen]; omega) (by omega)
    refine ⟨b2, a2, w0 ++ w2, ⟨by omega, ok2, fun z => ?_⟩, fun d τ K hd hC hK => ?_, fun e σ K hd hM hK => ?_⟩
    · obtain ⟨z1, z2, z3⟩ := ok3 z
      refine ⟨isP_t q1 z1, okW_a q2 z2, ?_, by omega⟩
      rw [List.length_append]; omega
    · exact wX2_all (by omega) (c0 (d - 1) τ _ (by omega) hC (fun τ2 f2 r2 => ex_i (c2 d τ2 K hd r2 (fun τ3 f3 r3 => hK τ3 (f2.tr f3) (by rw [List.append_assoc] at r3; exact r3)))))
    · exact wX7_both (by omega) (m0 (e - 1) σ _ (by omega) hM (fun σ2 f2 r2 => ex_i (ns_t i1_0 (m2 e σ2 K hd r2 (fun σ3 f3 r3 => hK σ3 (f2.tr f3) (by rw [List.append_assoc] at r3; exact r3))))))
theorem S_sum (hN : N ≤ 60) (hJ : JT u N bf o d0 mX2_product mX7_product) (a : Nat) (l : List Tk) (i : Nat) (ha : a ≤ N) (hl : l.length ≤ a) (hi : i < a) (ih : ∀ a2 l2 i2, a < a2 → a2 ≤ N → l2.length ≤ a2 → i2 < a2 → LBj u N bf o (d0 + 1) mX2_sum mX7_sum a2 l2 i2) : LBj u N bf o (d0 + 1) mX2_sum mX7_sum a l i := by
  have h60 : ¬ (60 : Int32) ≤ nI i := fun y => absurd ((nI_leI (a := 60) (by omega) (by omega)).mp y) (by omega)
  by_cases hc : sgn N bf a = 43
  · have haN := sgn_lt hc (by decide)
    obtain ⟨b1, a1, w1, ok1, c1, m1⟩ := hJ (a + 1) l (by omega) (by omega)
    obtain ⟨k1, k2, k3⟩ := ok1
    cases b1 with
    | false =>
      refine ⟨false, a1, [], ⟨by omega, k2, fun z => absurd z Bool.false_ne_true⟩, fun d τ K hd hC hK => ?_, fun e σ K hd hM hK => ?_⟩
      · refine bX2_sum_8 (by omega) (br_f h60 (br_f i1_0 (pSg hN ha hC.1 (ex_i (br_t hc (pSg hN ha hC.1 (ex_i (ns_f hc (c1 (d - 1) _ _ (by omega) hC.adv (fun τ2 f2 r2 => ex_i (pEmF r2 (fun τ3 f3 r3 => ⟨rfl, ?_⟩))))))))))))
        have hfin := hK τ3 ((fpC.adv.tr f2).tr f3) r3
        exact bX2_sum_8 (by omega) ⟨fun _ => ⟨rfl, hfin⟩, fun _ => br_t rfl ⟨rfl, hfin⟩⟩
      · exact bX7_sum_9 (by omega) (mLo hN ha hM (ex_i (br_t hc (mLo hN ha hM (ex_i ((m1 (e - 1) _ _ (by omega) hM.adv (fun σ2 f2 r2 => ex_i (ns_f rfl (hK σ2 (fpM.adv.tr f2) r2))))))))))
    | true =>
      obtain ⟨q1, q2, q3, q4⟩ := k3 rfl
      have hlen : (l ++ w1).length = l.length + w1.length := List.length_append
      obtain ⟨b2, a2, w2, ⟨ok1, ok2, ok3⟩, c2, m2⟩ := ih a1 (l ++ w1 ++ [(3, 5)]) (i + 1) (by omega) k2 (by rw [ap_len, hlen]; omega) (by omega)
      refine ⟨b2, a2, w1 ++ ([(3, 5)] ++ w2), ⟨by omega, ok2, fun z => ?_⟩, fun d τ K hd hC hK => ?_, fun e σ K hd hM hK => ?_⟩
      · obtain ⟨z1, z2, z3⟩ := ok3 z
        refine ⟨isT_op q1 z1, okW_a q2 (okW_a (okW_1 (show 5 < 10 by omega)) z2), ?_⟩
        rw [List.length_append, List.length_append, List.length_singleton]; omega
      · refine bX2_sum_8 (by omega) (br_f h60 (br_f i1_0 (pSg hN ha hC.1 (ex_i (br_t hc (pSg hN ha hC.1 (ex_i (ns_f hc (c1 (d - 1) _ _ (by omega) hC.adv (fun τ2 f2 r2 => ex_i (pEm2 (t := (3, 5)) (by decide) (by rw [hlen]; omega) r2 (fun τ3 f3 r3 => ⟨rfl, ?_⟩))))))))))))
        rw [nI_1]
        exact c2 d τ3 K hd r3 (fun τ4 f4 r4 => hK τ4 (((fpC.adv.tr f2).tr f3).tr f4) (by rw [ap3] at r4; exact r4))
      · refine bX7_sum_9 (by omega) (mLo hN ha hM (ex_i (br_t hc (mLo hN ha hM (ex_i ((m1 (e - 1) _ _ (by omega) hM.adv (fun σ2 f2 r2 => ex_i (ns_t i1_0 (mEm2 (t := (3, 5)) (by decide) ((show sgT 5 = 43 by decide).trans hc.symm) (by rw [hlen]; omega) r2 (fun σ3 f3 r3 => ⟨rfl, ?_⟩)))))))))))
        exact m2 e σ3 K hd r3 (fun σ4 f4 r4 => hK σ4 (((fpM.adv.tr f2).tr f3).tr f4) (by rw [ap3] at r4; exact r4))
  have h0 := hc
  clear hc
  by_cases hc : sgn N bf a = 45
  · have haN := sgn_lt hc (by decide)
    obtain ⟨b1, a1, w1, ok1, c1, m1⟩ := hJ (a + 1) l (by omega) (by omega)
    obtain ⟨k1, k2, k3⟩ := ok1
    cases b1 with
    | false =>
      refine ⟨false, a1, [], ⟨by omega, k2, fun z => absurd z Bool.false_ne_true⟩, fun d τ K hd hC hK => ?_, fun e σ K hd hM hK => ?_⟩
      · refine bX2_sum_8 (by omega) (br_f h60 (br_f i1_0 (pSg hN ha hC.1 (ex_i (br_f h0 (pSg hN ha hC.1 (ex_i (ns_f hc (pSg hN ha hC.1 (ex_i (ns_t h0 (c1 (d - 1) _ _ (by omega) hC.adv (fun τ2 f2 r2 => ex_i (pEmF r2 (fun τ3 f3 r3 => ⟨rfl, ?_⟩)))))))))))))))
        have hfin := hK τ3 ((fpC.adv.tr f2).tr f3) r3
        exact bX2_sum_8 (by omega) ⟨fun _ => ⟨rfl, hfin⟩, fun _ => br_t rfl ⟨rfl, hfin⟩⟩
      · exact bX7_sum_9 (by omega) (mLo hN ha hM (ex_i (br_f h0 (mLo hN ha hM (ex_i (ns_f hc (mLo hN ha hM (ex_i ((m1 (e - 1) _ _ (by omega) hM.adv (fun σ2 f2 r2 => ex_i (ns_f rfl (hK σ2 (fpM.adv.tr f2) r2)))))))))))))
    | true =>
      obtain ⟨q1, q2, q3, q4⟩ := k3 rfl
      have hlen : (l ++ w1).length = l.length + w1.length := List.length_append
      obtain ⟨b2, a2, w2, ⟨ok1, ok2, ok3⟩, c2, m2⟩ := ih a1 (l ++ w1 ++ [(3, 6)]) (i + 1) (by omega) k2 (by rw [ap_len, hlen]; omega) (by omega)
      refine ⟨b2, a2, w1 ++ ([(3, 6)] ++ w2), ⟨by omega, ok2, fun z => ?_⟩, fun d τ K hd hC hK => ?_, fun e σ K hd hM hK => ?_⟩
      · obtain ⟨z1, z2, z3⟩ := ok3 z
        refine ⟨isT_op q1 z1, okW_a q2 (okW_a (okW_1 (show 6 < 10 by omega)) z2), ?_⟩
        rw [List.length_append, List.length_append, List.length_singleton]; omega
      · refine bX2_sum_8 (by omega) (br_f h60 (br_f i1_0 (pSg hN ha hC.1 (ex_i (br_f h0 (pSg hN ha hC.1 (ex_i (ns_f hc (pSg hN ha hC.1 (ex_i (ns_t h0 (c1 (d - 1) _ _ (by omega) hC.adv (fun τ2 f2 r2 => ex_i (pEm2 (t := (3, 6)) (by decide) (by rw [hlen]; omega) r2 (fun τ3 f3 r3 => ⟨rfl, ?_⟩)))))))))))))))
        rw [nI_1]
        exact c2 d τ3 K hd r3 (fun τ4 f4 r4 => hK τ4 (((fpC.adv.tr f2).tr f3).tr f4) (by rw [ap3] at r4; exact r4))
      · refine bX7_sum_9 (by omega) (mLo hN ha hM (ex_i (br_f h0 (mLo hN ha hM (ex_i (ns_f hc (mLo hN ha hM (ex_i ((m1 (e - 1) _ _ (by omega) hM.adv (fun σ2 f2 r2 => ex_i (ns_t i1_0 (mEm2 (t := (3, 6)) (by decide) ((show sgT 6 = 45 by decide).trans hc.symm) (by rw [hlen]; omega) r2 (fun σ3 f3 r3 => ⟨rfl, ?_⟩))))))))))))))
        exact m2 e σ3 K hd r3 (fun σ4 f4 r4 => hK σ4 (((fpM.adv.tr f2).tr f3).tr f4) (by rw [ap3] at r4; exact r4))
  have h1 := hc
  clear hc
  exact ⟨true, a, [], ⟨Nat.le_refl _, ha, fun _ => ⟨isT_0, okW_0, by simp⟩⟩, fun d τ K hd hC hK => bX2_sum_8 (by omega) (br_f h60 (br_f i1_0 (pSg hN ha hC.1 (ex_i (br_f h0 (pSg hN ha hC.1 (ex_i (ns_t h1 ⟨rfl, hK τ fpC.rf (by rw [List.append_nil]; exact hC)⟩)))))))), fun e σ K hd hM hK => bX7_sum_9 (by omega) (mLo hN ha hM (ex_i (br_f h0 (mLo hN ha hM (ex_i (ns_t h1 (hK σ fpM.rf (by rw [List.append_nil]; exact hM))))))))⟩
theorem L_sum (hN : N ≤ 60) (hJ : JT u N bf o d0 mX2_product mX7_product) : ∀ m a l i, N - a ≤ m → a ≤ N → l.length ≤ a → i < a → LBj u N bf o (d0 + 1) mX2_sum mX7_sum a l i := by
  intro m
  induction m with
  | zero => exact fun a l i hm ha hl hi => S_sum hN hJ a l i ha hl hi (fun a2 l2 i2 h1 h2 _ _ => absurd h1 (by omega))
  | succ m ih => exact fun a l i hm ha hl hi => S_sum hN hJ a l i ha hl hi (fun a2 l2 i2 h1 h2 h3 h4 => ih a2 l2 i2 (by omega) h2 h3 h4)
theorem J_sum (hN : N ≤ 60) (hJ : JT u N bf o d0 mX2_product mX7_product) : JT u N bf o (d0 + 1) mX2_sum mX7_sum := by
  intro a l ha hl
  obtain ⟨b0, a0, w0, ⟨k1, k2, k3⟩, c0, m0⟩ := hJ a l ha hl
  cases b0 with
  | false =>
    exact ⟨false, a0, [], ⟨k1, k2, fun z => absurd z Bool.false_ne_true⟩, fun d τ K hd hC hK => wX2_sum (by omega) (c0 (d - 1) τ _ (by omega) hC (fun τ2 f2 r2 => ex_i (bX2_sum_8 (by omega) (br_f (by decide) (br_t rfl ⟨rfl, hK τ2 f2 r2⟩))))), fun e σ K hd hM hK => wX7_sum (by omega) (m0 (e - 1) σ _ (by omega) hM (fun σ2 f2 r2 => ex_i (ns_f rfl (hK σ2 f2 r2))))⟩
  | true =>
    obtain ⟨q1, q2, q3, q4⟩ := k3 rfl
    have hlen : (l ++ w0).length = l.length + w0.length := List.length_append
    obtain ⟨b2, a2, w2, ⟨ok1, ok2, ok3⟩, c2, m2⟩ := L_sum hN hJ N a0 (l ++ w0) 0 (by omega) k2 (by rw [hlen]; omega) (by omega)
    refine ⟨b2, a2, w0 ++ w2, ⟨by omega, ok2, fun z => ?_⟩, fun d τ K hd hC hK => ?_, fun e σ K hd hM hK => ?_⟩
    · obtain ⟨z1, z2, z3⟩ := ok3 z
      refine ⟨isP_t q1 z1, okW_a q2 z2, ?_, by omega⟩
      rw [List.length_append]; omega
    · exact wX2_sum (by omega) (c0 (d - 1) τ _ (by omega) hC (fun τ2 f2 r2 => ex_i (c2 d τ2 K hd r2 (fun τ3 f3 r3 => hK τ3 (f2.tr f3) (by rw [List.append_assoc] at r3; exact r3)))))
    · exact wX7_sum (by omega) (m0 (e - 1) σ _ (by omega) hM (fun σ2 f2 r2 => ex_i (ns_t i1_0 (m2 e σ2 K hd r2 (fun σ3 f3 r3 => hK σ3 (f2.tr f3) (by rw [List.append_assoc] at r3; exact r3))))))
theorem S_product (hN : N ≤ 60) (hJ : JT u N bf o d0 mX2_single mX7_one) (a : Nat) (l : List Tk) (i : Nat) (ha : a ≤ N) (hl : l.length ≤ a) (hi : i < a) (ih : ∀ a2 l2 i2, a < a2 → a2 ≤ N → l2.length ≤ a2 → i2 < a2 → LBj u N bf o (d0 + 1) mX2_product mX7_product a2 l2 i2) : LBj u N bf o (d0 + 1) mX2_product mX7_product a l i := by
  have h60 : ¬ (60 : Int32) ≤ nI i := fun y => absurd ((nI_leI (a := 60) (by omega) (by omega)).mp y) (by omega)
  by_cases hc : sgn N bf a = 42
  · have haN := sgn_lt hc (by decide)
    obtain ⟨b1, a1, w1, ok1, c1, m1⟩ := hJ (a + 1) l (by omega) (by omega)
    obtain ⟨k1, k2, k3⟩ := ok1
    cases b1 with
    | false =>
      refine ⟨false, a1, [], ⟨by omega, k2, fun z => absurd z Bool.false_ne_true⟩, fun d τ K hd hC hK => ?_, fun e σ K hd hM hK => ?_⟩
      · refine bX2_product_8 (by omega) (br_f h60 (br_f i1_0 (pSg hN ha hC.1 (ex_i (br_t hc (pSg hN ha hC.1 (ex_i (ns_f hc (c1 (d - 1) _ _ (by omega) hC.adv (fun τ2 f2 r2 => ex_i (pEmF r2 (fun τ3 f3 r3 => ⟨rfl, ?_⟩))))))))))))
        have hfin := hK τ3 ((fpC.adv.tr f2).tr f3) r3
        exact bX2_product_8 (by omega) ⟨fun _ => ⟨rfl, hfin⟩, fun _ => br_t rfl ⟨rfl, hfin⟩⟩
      · exact bX7_product_9 (by omega) (mLo hN ha hM (ex_i (br_t hc (mLo hN ha hM (ex_i ((m1 (e - 1) _ _ (by omega) hM.adv (fun σ2 f2 r2 => ex_i (ns_f rfl (hK σ2 (fpM.adv.tr f2) r2))))))))))
    | true =>
      obtain ⟨q1, q2, q3, q4⟩ := k3 rfl
      have hlen : (l ++ w1).length = l.length + w1.length := List.length_append
      obtain ⟨b2, a2, w2, ⟨ok1, ok2, ok3⟩, c2, m2⟩ := ih a1 (l ++ w1 ++ [(3, 7)]) (i + 1) (by omega) k2 (by rw [ap_len, hlen]; omega) (by omega)
      refine ⟨b2, a2, w1 ++ ([(3, 7)] ++ w2), ⟨by omega, ok2, fun z => ?_⟩, fun d τ K hd hC hK => ?_, fun e σ K hd hM hK => ?_⟩
      · obtain ⟨z1, z2, z3⟩ := ok3 z
        refine ⟨isT_op q1 z1, okW_a q2 (okW_a (okW_1 (show 7 < 10 by omega)) z2), ?_⟩
        rw [List.length_append, List.length_append, List.length_singleton]; omega
      · refine bX2_product_8 (by omega) (br_f h60 (br_f i1_0 (pSg hN ha hC.1 (ex_i (br_t hc (pSg hN ha hC.1 (ex_i (ns_f hc (c1 (d - 1) _ _ (by omega) hC.adv (fun τ2 f2 r2 => ex_i (pEm2 (t := (3, 7)) (by decide) (by rw [hlen]; omega) r2 (fun τ3 f3 r3 => ⟨rfl, ?_⟩))))))))))))
        rw [nI_1]
        exact c2 d τ3 K hd r3 (fun τ4 f4 r4 => hK τ4 (((fpC.adv.tr f2).tr f3).tr f4) (by rw [ap3] at r4; exact r4))
      · refine bX7_product_9 (by omega) (mLo hN ha hM (ex_i (br_t hc (mLo hN ha hM (ex_i ((m1 (e - 1) _ _ (by omega) hM.adv (fun σ2 f2 r2 => ex_i (ns_t i1_0 (mEm2 (t := (3, 7)) (by decide) ((show sgT 7 = 42 by decide).trans hc.symm) (by rw [hlen]; omega) r2 (fun σ3 f3 r3 => ⟨rfl, ?_⟩)))))))))))
        exact m2 e σ3 K hd r3 (fun σ4 f4 r4 => hK σ4 (((fpM.adv.tr f2).tr f3).tr f4) (by rw [ap3] at r4; exact r4))
  have h0 := hc
  clear hc
  by_cases hc : sgn N bf a = 47
  · have haN := sgn_lt hc (by decide)
    obtain ⟨b1, a1, w1, ok1, c1, m1⟩ := hJ (a + 1) l (by omega) (by omega)
    obtain ⟨k1, k2, k3⟩ := ok1
    cases b1 with
    | false =>
      refine ⟨false, a1, [], ⟨by omega, k2, fun z => absurd z Bool.false_ne_true⟩, fun d τ K hd hC hK => ?_, fun e σ K hd hM hK => ?_⟩
      · refine bX2_product_8 (by omega) (br_f h60 (br_f i1_0 (pSg hN ha hC.1 (ex_i (br_f h0 (pSg hN ha hC.1 (ex_i (br_t hc (pSg hN ha hC.1 (ex_i (ns_t h0 (pSg hN ha hC.1 (ex_i (ns_f hc (c1 (d - 1) _ _ (by omega) hC.adv (fun τ2 f2 r2 => ex_i (pEmF r2 (fun τ3 f3 r3 => ⟨rfl, ?_⟩))))))))))))))))))
        have hfin := hK τ3 ((fpC.adv.tr f2).tr f3) r3
        exact bX2_product_8 (by omega) ⟨fun _ => ⟨rfl, hfin⟩, fun _ => br_t rfl ⟨rfl, hfin⟩⟩
      · exact bX7_product_9 (by omega) (mLo hN ha hM (ex_i (br_f h0 (mLo hN ha hM (ex_i (br_t hc (mLo hN ha hM (ex_i ((m1 (e - 1) _ _ (by omega) hM.adv (fun σ2 f2 r2 => ex_i (ns_f rfl (hK σ2 (fpM.adv.tr f2) r2)))))))))))))
    | true =>
      obtain ⟨q1, q2, q3, q4⟩ := k3 rfl
      have hlen : (l ++ w1).length = l.length + w1.length := List.length_append
      obtain ⟨b2, a2, w2, ⟨ok1, ok2, ok3⟩, c2, m2⟩ := ih a1 (l ++ w1 ++ [(3, 8)]) (i + 1) (by omega) k2 (by rw [ap_len, hlen]; omega) (by omega)
      refine ⟨b2, a2, w1 ++ ([(3, 8)] ++ w2), ⟨by omega, ok2, fun z => ?_⟩, fun d τ K hd hC hK => ?_, fun e σ K hd hM hK => ?_⟩
      · obtain ⟨z1, z2, z3⟩ := ok3 z
        refine ⟨isT_op q1 z1, okW_a q2 (okW_a (okW_1 (show 8 < 10 by omega)) z2), ?_⟩
        rw [List.length_append, List.length_append, List.length_singleton]; omega
      · refine bX2_product_8 (by omega) (br_f h60 (br_f i1_0 (pSg hN ha hC.1 (ex_i (br_f h0 (pSg hN ha hC.1 (ex_i (br_t hc (pSg hN ha hC.1 (ex_i (ns_t h0 (pSg hN ha hC.1 (ex_i (ns_f hc (c1 (d - 1) _ _ (by omega) hC.adv (fun τ2 f2 r2 => ex_i (pEm2 (t := (3, 8)) (by decide) (by rw [hlen]; omega) r2 (fun τ3 f3 r3 => ⟨rfl, ?_⟩))))))))))))))))))
        rw [nI_1]
        exact c2 d τ3 K hd r3 (fun τ4 f4 r4 => hK τ4 (((fpC.adv.tr f2).tr f3).tr f4) (by rw [ap3] at r4; exact r4))
      · refine bX7_product_9 (by omega) (mLo hN ha hM (ex_i (br_f h0 (mLo hN ha hM (ex_i (br_t hc (mLo hN ha hM (ex_i ((m1 (e - 1) _ _ (by omega) hM.adv (fun σ2 f2 r2 => ex_i (ns_t i1_0 (mEm2 (t := (3, 8)) (by decide) ((show sgT 8 = 47 by decide).trans hc.symm) (by rw [hlen]; omega) r2 (fun σ3 f3 r3 => ⟨rfl, ?_⟩))))))))))))))
        exact m2 e σ3 K hd r3 (fun σ4 f4 r4 => hK σ4 (((fpM.adv.tr f2).tr f3).tr f4) (by rw [ap3] at r4; exact r4))
  have h1 := hc
  clear hc
  by_cases hc : sgn N bf a = 37
  · have haN := sgn_lt hc (by decide)
    obtain ⟨b1, a1, w1, ok1, c1, m1⟩ := hJ (a + 1) l (by omega) (by omega)
    obtain ⟨k1, k2, k3⟩ := ok1
    cases b1 with
    | false =>
      refine ⟨false, a1, [], ⟨by omega, k2, fun z => absurd z Bool.false_ne_true⟩, fun d τ K hd hC hK => ?_, fun e σ K hd hM hK => ?_⟩
      · refine bX2_product_8 (by omega) (br_f h60 (br_f i1_0 (pSg hN ha hC.1 (ex_i (br_f h0 (pSg hN ha hC.1 (ex_i (br_f h1 (pSg hN ha hC.1 (ex_i (ns_f hc (pSg hN ha hC.1 (ex_i (ns_t h0 (pSg hN ha hC.1 (ex_i (ns_t h1 (c1 (d - 1) _ _ (by omega) hC.adv (fun τ2 f2 r2 => ex_i (pEmF r2 (fun τ3 f3 r3 => ⟨rfl, ?_⟩)))))))))))))))))))))
        have hfin := hK τ3 ((fpC.adv.tr f2).tr f3) r3
        exact bX2_product_8 (by omega) ⟨fun _ => ⟨rfl, hfin⟩, fun _ => br_t rfl ⟨rfl, hfin⟩⟩
      · exact bX7_product_9 (by omega) (mLo hN ha hM (ex_i (br_f h0 (mLo hN ha hM (ex_i (br_f h1 (mLo hN ha hM (ex_i (ns_f hc (mLo hN ha hM (ex_i ((m1 (e - 1) _ _ (by omega) hM.adv (fun σ2 f2 r2 => ex_i (ns_f rfl (hK σ2 (fpM.adv.tr f2) r2))))))))))))))))
    | true =>
      obtain ⟨q1, q2, q3, q4⟩ := k3 rfl
      have hlen : (l ++ w1).length = l.length + w1.length := List.length_append
      obtain ⟨b2, a2, w2, ⟨ok1, ok2, ok3⟩, c2, m2⟩ := ih a1 (l ++ w1 ++ [(3, 9)]) (i + 1) (by omega) k2 (by rw [ap_len, hlen]; omega) (by omega)
      refine ⟨b2, a2, w1 ++ ([(3, 9)] ++ w2), ⟨by omega, ok2, fun z => ?_⟩, fun d τ K hd hC hK => ?_, fun e σ K hd hM hK => ?_⟩
      · obtain ⟨z1, z2, z3⟩ := ok3 z
        refine ⟨isT_op q1 z1, okW_a q2 (okW_a (okW_1 (show 9 < 10 by omega)) z2), ?_⟩
        rw [List.length_append, List.length_append, List.length_singleton]; omega
      · refine bX2_product_8 (by omega) (br_f h60 (br_f i1_0 (pSg hN ha hC.1 (ex_i (br_f h0 (pSg hN ha hC.1 (ex_i (br_f h1 (pSg hN ha hC.1 (ex_i (ns_f hc (pSg hN ha hC.1 (ex_i (ns_t h0 (pSg hN ha hC.1 (ex_i (ns_t h1 (c1 (d - 1) _ _ (by omega) hC.adv (fun τ2 f2 r2 => ex_i (pEm2 (t := (3, 9)) (by decide) (by rw [hlen]; omega) r2 (fun τ3 f3 r3 => ⟨rfl, ?_⟩)))))))))))))))))))))
        rw [nI_1]
        exact c2 d τ3 K hd r3 (fun τ4 f4 r4 => hK τ4 (((fpC.adv.tr f2).tr f3).tr f4) (by rw [ap3] at r4; exact r4))
      · refine bX7_product_9 (by omega) (mLo hN ha hM (ex_i (br_f h0 (mLo hN ha hM (ex_i (br_f h1 (mLo hN ha hM (ex_i (ns_f hc (mLo hN ha hM (ex_i ((m1 (e - 1) _ _ (by omega) hM.adv (fun σ2 f2 r2 => ex_i (ns_t i1_0 (mEm2 (t := (3, 9)) (by decide) ((show sgT 9 = 37 by decide).trans hc.symm) (by rw [hlen]; omega) r2 (fun σ3 f3 r3 => ⟨rfl, ?_⟩)))))))))))))))))
        exact m2 e σ3 K hd r3 (fun σ4 f4 r4 => hK σ4 (((fpM.adv.tr f2).tr f3).tr f4) (by rw [ap3] at r4; exact r4))
  have h2 := hc
  clear hc
  exact ⟨true, a, [], ⟨Nat.le_refl _, ha, fun _ => ⟨isT_0, okW_0, by simp⟩⟩, fun d τ K hd hC hK => bX2_product_8 (by omega) (br_f h60 (br_f i1_0 (pSg hN ha hC.1 (ex_i (br_f h0 (pSg hN ha hC.1 (ex_i (br_f h1 (pSg hN ha hC.1 (ex_i (ns_t h2 ⟨rfl, hK τ fpC.rf (by rw [List.append_nil]; exact hC)⟩))))))))))), fun e σ K hd hM hK => bX7_product_9 (by omega) (mLo hN ha hM (ex_i (br_f h0 (mLo hN ha hM (ex_i (br_f h1 (mLo hN ha hM (ex_i (ns_t h2 (hK σ fpM.rf (by rw [List.append_nil]; exact hM)))))))))))⟩
theorem L_product (hN : N ≤ 60) (hJ : JT u N bf o d0 mX2_single mX7_one) : ∀ m a l i, N - a ≤ m → a ≤ N → l.length ≤ a → i < a → LBj u N bf o (d0 + 1) mX2_product mX7_product a l i := by
  intro m
  induction m with
  | zero => exact fun a l i hm ha hl hi => S_product hN hJ a l i ha hl hi (fun a2 l2 i2 h1 h2 _ _ => absurd h1 (by omega))
  | succ m ih => exact fun a l i hm ha hl hi => S_product hN hJ a l i ha hl hi (fun a2 l2 i2 h1 h2 h3 h4 => ih a2 l2 i2 (by omega) h2 h3 h4)
theorem J_product (hN : N ≤ 60) (hJ : JT u N bf o d0 mX2_single mX7_one) : JT u N bf o (d0 + 1) mX2_product mX7_product := by
  intro a l ha hl
  obtain ⟨b0, a0, w0, ⟨k1, k2, k3⟩, c0, m0⟩ := hJ a l ha hl
  cases b0 with
  | false =>
    exact ⟨false, a0, [], ⟨k1, k2, fun z => absurd z Bool.false_ne_true⟩, fun d τ K hd hC hK => wX2_product (by omega) (c0 (d - 1) τ _ (by omega) hC (fun τ2 f2 r2 => ex_i (bX2_product_8 (by omega) (br_f (by decide) (br_t rfl ⟨rfl, hK τ2 f2 r2⟩))))), fun e σ K hd hM hK => wX7_product (by omega) (m0 (e - 1) σ _ (by omega) hM (fun σ2 f2 r2 => ex_i (ns_f rfl (hK σ2 f2 r2))))⟩
  | true =>
    obtain ⟨q1, q2, q3, q4⟩ := k3 rfl
    have hlen : (l ++ w0).length = l.length + w0.length := List.length_append
    obtain ⟨b2, a2, w2, ⟨ok1, ok2, ok3⟩, c2, m2⟩ := L_product hN hJ N a0 (l ++ w0) 0 (by omega) k2 (by rw [hlen]; omega) (by omega)
    refine ⟨b2, a2, w0 ++ w2, ⟨by omega, ok2, fun z => ?_⟩, fun d τ K hd hC hK => ?_, fun e σ K hd hM hK => ?_⟩
    · obtain ⟨z1, z2, z3⟩ := ok3 z
      refine ⟨isP_t q1 z1, okW_a q2 z2, ?_, by omega⟩
      rw [List.length_append]; omega
    · exact wX2_product (by omega) (c0 (d - 1) τ _ (by omega) hC (fun τ2 f2 r2 => ex_i (c2 d τ2 K hd r2 (fun τ3 f3 r3 => hK τ3 (f2.tr f3) (by rw [List.append_assoc] at r3; exact r3)))))
    · exact wX7_product (by omega) (m0 (e - 1) σ _ (by omega) hM (fun σ2 f2 r2 => ex_i (ns_t i1_0 (m2 e σ2 K hd r2 (fun σ3 f3 r3 => hK σ3 (f2.tr f3) (by rw [List.append_assoc] at r3; exact r3))))))
theorem J_cmp (hN : N ≤ 60) (hJ : JT u N bf o d0 mX2_sum mX7_sum) : JT u N bf o (d0 + 1) mX2_comparison mX7_compared := by
  intro a l ha hl
  obtain ⟨b0, a0, w0, ⟨k1, k2, k3⟩, c0, m0⟩ := hJ a l ha hl
  cases b0 with
  | false =>
    refine ⟨false, a0, [], ⟨k1, k2, fun z => absurd z Bool.false_ne_true⟩, fun d τ K hd hC hK => ?_, fun e σ K hd hM hK => wX7_compared (by omega) (m0 (e - 1) σ _ (by omega) hM (fun σ2 f2 r2 => ex_i (ns_f rfl (hK σ2 f2 r2))))⟩
    refine wX2_comparison (by omega) (c0 (d - 1) τ _ (by omega) hC (fun τ2 f2 r2 => ex_i ?_))
    have hk := hK τ2 f2 r2
    have r2 : cF u N bf τ2 a0 := r2
    exact pSg hN k2 r2.1 (ex_i ⟨fun _ => pSg hN k2 r2.1 (ex_i ⟨fun _ => pSg hN k2 r2.1 (ex_i ⟨fun _ => br_t rfl ⟨rfl, hk⟩, fun _ => br_t rfl ⟨rfl, hk⟩⟩), fun _ => br_t rfl ⟨rfl, hk⟩⟩), fun _ => br_t rfl ⟨rfl, hk⟩⟩)
  | true =>
    obtain ⟨q1, q2, q3, q4⟩ := k3 rfl
    have hlen : (l ++ w0).length = l.length + w0.length := List.length_append
    by_cases hc : sgn N bf a0 = 60
    · have haN := sgn_lt hc (by decide)
      obtain ⟨b1, a1, w1, ⟨x1, x2, x3⟩, c1, m1⟩ := hJ (a0 + 1) (l ++ w0) (by omega) (by rw [hlen]; omega)
      cases b1 with
      | false =>
        refine ⟨false, a1, [], ⟨by omega, x2, fun z => absurd z Bool.false_ne_true⟩, fun d τ K hd hC hK => ?_, fun e σ K hd hM hK => ?_⟩
        · refine wX2_comparison (by omega) (c0 (d - 1) τ _ (by omega) hC (fun τ2 f2 r2 => ex_i ?_))
          have r2 : cR u N bf τ2 a0 (l ++ w0) := r2
          exact (pSg hN k2 r2.1 (ex_i (ns_f hc (br_f i1_0 (br_f (by decide) (c1 (d - 1) _ _ (by omega) r2.adv (fun τ3 f3 r3 => ex_i (pEmF r3 (fun τ4 f4 r4 => ⟨rfl, rfl, hK τ4 (((f2.tr fpC.adv).tr f3).tr f4) r4⟩)))))))))
        · refine wX7_compared (by omega) (m0 (e - 1) σ _ (by omega) hM (fun σ2 f2 r2 => ex_i (ns_t i1_0 ?_)))
          have r2 : mR u N bf σ2 o a0 (l ++ w0) := r2
          exact (mLo hN k2 r2 (ex_i (br_t hc (m1 (e - 1) _ _ (by omega) r2.adv (fun σ3 f3 r3 => ex_i (ns_f rfl (hK σ3 ((f2.tr fpM.adv).tr f3) r3)))))))
      | true =>
        obtain ⟨y1, y2, y3, y4⟩ := x3 rfl
        have hlen2 : (l ++ w0 ++ w1).length = l.length + w0.length + w1.length := by rw [List.length_append, hlen]
        refine ⟨true, a1, w0 ++ (w1 ++ [(3, 2)]), ⟨by omega, x2, fun _ => ⟨isP_op q1 y1, okW_a q2 (okW_a y2 (okW_1 (show 2 < 10 by omega))), ?_, by omega⟩⟩, fun d τ K hd hC hK => ?_, fun e σ K hd hM hK => ?_⟩
        · rw [List.length_append, ap_len]; omega
        · refine wX2_comparison (by omega) (c0 (d - 1) τ _ (by omega) hC (fun τ2 f2 r2 => ex_i ?_))
          have r2 : cR u N bf τ2 a0 (l ++ w0) := r2
          exact (pSg hN k2 r2.1 (ex_i (ns_f hc (br_f i1_0 (br_f (by decide) (c1 (d - 1) _ _ (by omega) r2.adv (fun τ3 f3 r3 => ex_i (pEm2 (t := (3, 2)) (by decide) (by rw [hlen2]; omega) r3 (fun τ4 f4 r4 => ⟨rfl, rfl, hK τ4 (((f2.tr fpC.adv).tr f3).tr f4) (by rw [List.append_assoc, List.append_assoc] at r4; exact r4)⟩)))))))))
        · refine wX7_compared (by omega) (m0 (e - 1) σ _ (by omega) hM (fun σ2 f2 r2 => ex_i (ns_t i1_0 ?_)))
          have r2 : mR u N bf σ2 o a0 (l ++ w0) := r2
          exact (mLo hN k2 r2 (ex_i (br_t hc (m1 (e - 1) _ _ (by omega) r2.adv (fun σ3 f3 r3 => ex_i (ns_t i1_0 (mEm2 (t := (3, 2)) (by decide) ((show sgT 2 = 60 by decide).trans hc.symm) (by rw [hlen2]; omega) r3 (fun σ4 f4 r4 => ⟨rfl, hK σ4 (((f2.tr fpM.adv).tr f3).tr f4) (by rw [List.append_assoc, List.append_assoc] at r4; exact r4)⟩))))))))
    have h0 := hc
    clear hc
    by_cases hc : sgn N bf a0 = 61
    · have haN := sgn_lt hc (by decide)
      obtain ⟨b1, a1, w1, ⟨x1, x2, x3⟩, c1, m1⟩ := hJ (a0 + 1) (l ++ w0) (by omega) (by rw [hlen]; omega)
      cases b1 with
      | false =>
        refine ⟨false, a1, [], ⟨by omega, x2, fun z => absurd z Bool.false_ne_true⟩, fun d τ K hd hC hK => ?_, fun e σ K hd hM hK => ?_⟩
        · refine wX2_comparison (by omega) (c0 (d - 1) τ _ (by omega) hC (fun τ2 f2 r2 => ex_i ?_))
          have r2 : cR u N bf τ2 a0 (l ++ w0) := r2
          exact (pSg hN k2 r2.1 (ex_i (ns_t h0 (pSg hN k2 r2.1 (ex_i (ns_f hc (br_f i1_0 (br_f (by decide) (c1 (d - 1) _ _ (by omega) r2.adv (fun τ3 f3 r3 => ex_i (pEmF r3 (fun τ4 f4 r4 => ⟨rfl, rfl, hK τ4 (((f2.tr fpC.adv).tr f3).tr f4) r4⟩))))))))))))
        · refine wX7_compared (by omega) (m0 (e - 1) σ _ (by omega) hM (fun σ2 f2 r2 => ex_i (ns_t i1_0 ?_)))
          have r2 : mR u N bf σ2 o a0 (l ++ w0) := r2
          exact (mLo hN k2 r2 (ex_i (br_f h0 (br_t hc (m1 (e - 1) _ _ (by omega) r2.adv (fun σ3 f3 r3 => ex_i (ns_f rfl (hK σ3 ((f2.tr fpM.adv).tr f3) r3))))))))
      | true =>
        obtain ⟨y1, y2, y3, y4⟩ := x3 rfl
        have hlen2 : (l ++ w0 ++ w1).length = l.length + w0.length + w1.length := by rw [List.length_append, hlen]
        refine ⟨true, a1, w0 ++ (w1 ++ [(3, 3)]), ⟨by omega, x2, fun _ => ⟨isP_op q1 y1, okW_a q2 (okW_a y2 (okW_1 (show 3 < 10 by omega))), ?_, by omega⟩⟩, fun d τ K hd hC hK => ?_, fun e σ K hd hM hK => ?_⟩
        · rw [List.length_append, ap_len]; omega
        · refine wX2_comparison (by omega) (c0 (d - 1) τ _ (by omega) hC (fun τ2 f2 r2 => ex_i ?_))
          have r2 : cR u N bf τ2 a0 (l ++ w0) := r2
          exact (pSg hN k2 r2.1 (ex_i (ns_t h0 (pSg hN k2 r2.1 (ex_i (ns_f hc (br_f i1_0 (br_f (by decide) (c1 (d - 1) _ _ (by omega) r2.adv (fun τ3 f3 r3 => ex_i (pEm2 (t := (3, 3)) (by decide) (by rw [hlen2]; omega) r3 (fun τ4 f4 r4 => ⟨rfl, rfl, hK τ4 (((f2.tr fpC.adv).tr f3).tr f4) (by rw [List.append_assoc, List.append_assoc] at r4; exact r4)⟩))))))))))))
        · refine wX7_compared (by omega) (m0 (e - 1) σ _ (by omega) hM (fun σ2 f2 r2 => ex_i (ns_t i1_0 ?_)))
          have r2 : mR u N bf σ2 o a0 (l ++ w0) := r2
          exact (mLo hN k2 r2 (ex_i (br_f h0 (br_t hc (m1 (e - 1) _ _ (by omega) r2.adv (fun σ3 f3 r3 => ex_i (ns_t i1_0 (mEm2 (t := (3, 3)) (by decide) ((show sgT 3 = 61 by decide).trans hc.symm) (by rw [hlen2]; omega) r3 (fun σ4 f4 r4 => ⟨rfl, hK σ4 (((f2.tr fpM.adv).tr f3).tr f4) (by rw [List.append_assoc, List.append_assoc] at r4; exact r4)⟩)))))))))
    have h1 := hc
    clear hc
    by_cases hc : sgn N bf a0 = 62
    · have haN := sgn_lt hc (by decide)
      obtain ⟨b1, a1, w1, ⟨x1, x2, x3⟩, c1, m1⟩ := hJ (a0 + 1) (l ++ w0) (by omega) (by rw [hlen]; omega)
      cases b1 with
      | false =>
        refine ⟨false, a1, [], ⟨by omega, x2, fun z => absurd z Bool.false_ne_true⟩, fun d τ K hd hC hK => ?_, fun e σ K hd hM hK => ?_⟩
        · refine wX2_comparison (by omega) (c0 (d - 1) τ _ (by omega) hC (fun τ2 f2 r2 => ex_i ?_))
          have r2 : cR u N bf τ2 a0 (l ++ w0) := r2
          exact (pSg hN k2 r2.1 (ex_i (ns_t h0 (pSg hN k2 r2.1 (ex_i (ns_t h1 (pSg hN k2 r2.1 (ex_i (ns_f hc (br_f i1_0 (br_f (by decide) (c1 (d - 1) _ _ (by omega) r2.adv (fun τ3 f3 r3 => ex_i (pEmF r3 (fun τ4 f4 r4 => ⟨rfl, rfl, hK τ4 (((f2.tr fpC.adv).tr f3).tr f4) r4⟩)))))))))))))))
        · refine wX7_compared (by omega) (m0 (e - 1) σ _ (by omega) hM (fun σ2 f2 r2 => ex_i (ns_t i1_0 ?_)))
          have r2 : mR u N bf σ2 o a0 (l ++ w0) := r2
          exact (mLo hN k2 r2 (ex_i (br_f h0 (br_f h1 (br_t hc (m1 (e - 1) _ _ (by omega) r2.adv (fun σ3 f3 r3 => ex_i (ns_f rfl (hK σ3 ((f2.tr fpM.adv).tr f3) r3)))))))))
      | true =>
        obtain ⟨y1, y2, y3, y4⟩ := x3 rfl
        have hlen2 : (l ++ w0 ++ w1).length = l.length + w0.length + w1.length := by rw [List.length_append, hlen]
        refine ⟨true, a1, w0 ++ (w1 ++ [(3, 4)]), ⟨by omega, x2, fun _ => ⟨isP_op q1 y1, okW_a q2 (okW_a y2 (okW_1 (show 4 < 10 by omega))), ?_, by omega⟩⟩, fun d τ K hd hC hK => ?_, fun e σ K hd hM hK => ?_⟩
        · rw [List.length_append, ap_len]; omega
        · refine wX2_comparison (by omega) (c0 (d - 1) τ _ (by omega) hC (fun τ2 f2 r2 => ex_i ?_))
          have r2 : cR u N bf τ2 a0 (l ++ w0) := r2
          exact (pSg hN k2 r2.1 (ex_i (ns_t h0 (pSg hN k2 r2.1 (ex_i (ns_t h1 (pSg hN k2 r2.1 (ex_i (ns_f hc (br_f i1_0 (br_f (by decide) (c1 (d - 1) _ _ (by omega) r2.adv (fun τ3 f3 r3 => ex_i (pEm2 (t := (3, 4)) (by decide) (by rw [hlen2]; omega) r3 (fun τ4 f4 r4 => ⟨rfl, rfl, hK τ4 (((f2.tr fpC.adv).tr f3).tr f4) (by rw [List.append_assoc, List.append_assoc] at r4; exact r4)⟩)))))))))))))))
        · refine wX7_compared (by omega) (m0 (e - 1) σ _ (by omega) hM (fun σ2 f2 r2 => ex_i (ns_t i1_0 ?_)))
          have r2 : mR u N bf σ2 o a0 (l ++ w0) := r2
          exact (mLo hN k2 r2 (ex_i (br_f h0 (br_f h1 (br_t hc (m1 (e - 1) _ _ (by omega) r2.adv (fun σ3 f3 r3 => ex_i (ns_t i1_0 (mEm2 (t := (3, 4)) (by decide) ((show sgT 4 = 62 by decide).trans hc.symm) (by rw [hlen2]; omega) r3 (fun σ4 f4 r4 => ⟨rfl, hK σ4 (((f2.tr fpM.adv).tr f3).tr f4) (by rw [List.append_assoc, List.append_assoc] at r4; exact r4)⟩))))))))))
    have h2 := hc
    clear hc
    refine ⟨true, a0, w0, ⟨k1, k2, fun _ => ⟨q1, q2, q3, q4⟩⟩, fun d τ K hd hC hK => ?_, fun e σ K hd hM hK => ?_⟩
    · refine wX2_comparison (by omega) (c0 (d - 1) τ _ (by omega) hC (fun τ2 f2 r2 => ex_i ?_))
      have hk := hK τ2 f2 r2
      have r2 : cR u N bf τ2 a0 (l ++ w0) := r2
      exact pSg hN k2 r2.1 (ex_i (ns_t h0 (pSg hN k2 r2.1 (ex_i (ns_t h1 (pSg hN k2 r2.1 (ex_i (ns_t h2 (br_f i1_0 (br_t rfl ⟨rfl, hk⟩))))))))))
    · refine wX7_compared (by omega) (m0 (e - 1) σ _ (by omega) hM (fun σ2 f2 r2 => ex_i (ns_t i1_0 ?_)))
      have hk := hK σ2 f2 r2
      have r2 : mR u N bf σ2 o a0 (l ++ w0) := r2
      exact mLo hN k2 r2 (ex_i (br_f h0 (br_f h1 (br_f h2 hk))))
end
