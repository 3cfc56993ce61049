/-! ===== a year, the reference's side ===== -/
def frM (σ σ2 : sk_T) : Prop := ∀ c, c ≠ 1 → c ≠ 5 → c ≠ 6 → c ≠ 7 → σ2 c = σ c
theorem frM.rf {σ : sk_T} : frM σ σ := fun _ _ _ _ _ => rfl
theorem frM.tr {a b c : sk_T} (h : frM a b) (h2 : frM b c) : frM a c := fun q q1 q5 q6 q7 => (h2 q q1 q5 q6 q7).trans (h q q1 q5 q6 q7)
theorem frM.u {σ : sk_T} {j : Nat} {x : Int32} : frM σ (sk_u σ 1 j x) := fun _ h _ _ _ => su_c h
theorem scM.fr {σ σ2 : sk_T} (h : scM σ σ2) : frM σ σ2 := fun q _ h5 h6 _ => h q h5 h6
theorem scN.fr {σ σ2 : sk_T} (h : scN σ σ2) : frM σ σ2 := fun q _ h5 h6 h7 => h q h5 h6 h7
section
variable {d : Nat} {τ σ : sk_T} {K : sk_K} {s : Nat → Int32} {n y : Nat} {l0 l1 : Option (List Tk)}
theorem lX7_year82 {z : Bool} (hn : n ≤ 10) (hy : s 0 = nI y) (hy9 : y < 9999) (hn6 : s 6 = nI n) (hz : z = decide (nI y % 4 = 3)) (h : ∀ σ2, frM σ σ2 → σ2 1 = upd (agR s z n) 0 (nI (y + 1)) → K none σ2) : ∀ m i, i + m = n → ∀ σ2, frM σ σ2 → σ2 1 = agR s z i → (∀ k, k < n → tl_ok (fl (agR s z i) k) k) →
    sk_G sk_Sm (d + 1) mX7_aYear 82 [(0, .ref 0), (4, .int (nI i))] [] σ2 K := by
  intro m
  induction m with
  | zero =>
    intro i hi σ2 hf h1 hok
    have : i = n := by omega
    subst this
    refine bX7_aYear_82 (by omega) (br_t (by rw [h1, ag_lo (by omega), hn6]; exact Int32.le_refl _) (h _ (hf.tr frM.u) ?_))
    rw [su_s, h1, ag_lo (by omega), hy, nI_1]
  | succ m ih =>
    intro i hi σ2 hf h1 hok
    have hin : i < n := by omega
    refine bX7_aYear_82 (by omega) (br_f (by rw [h1, ag_lo (by omega), hn6]; exact fun z => absurd ((nI_leI (by omega) (by omega)).mp z) (by omega)) ?_)
    refine pX7_its 5 (by omega) (by omega) (ex_i (pX7_held (ex_i (pX7_lays1 5 (by omega) (by omega) ⟨rfl, pX7_its 3 (by omega) (by omega) (ex_i ?_)⟩))))
    rw [nI_1]
    obtain ⟨-, -, -, ⟨a3, h3, e3⟩, -, ⟨a5, h5, e5⟩, -⟩ := hok i hin
    have f5 : fl (σ2 1) i 5 = nI a5 := by rw [h1]; exact e5
    obtain ⟨b5, hb5, c5, m5⟩ := ag_t a5 h5
    obtain ⟨-, m3, m3b⟩ := nl_t a3 (by omega)
    have f3 : ∀ x, fl (sk_u σ2 1 (8 + 7 * i + 5) x 1) i 3 = nI a3 := fun x => by
      show sk_u σ2 1 (8 + 7 * i + 5) x 1 (8 + 7 * i + 3) = _
      rw [su_n (by omega), h1]; exact e3
    have f0 : ∀ x, sk_u σ2 1 (8 + 7 * i + 5) x 1 0 = nI y := fun x => by
      rw [su_n (by omega), h1, ag_lo (by omega), hy]
    rw [f5, m5, f3, f0]
    have nxt : ∀ v, v = (if z = true then sk_max 0 (nI a3 - 1) else nI a3) → sk_G sk_Sm (d + 1) mX7_aYear 82 [(0, .ref 0), (4, .int (nI (i + 1)))] [] (sk_u (sk_u σ2 1 (8 + 7 * i + 5) (nI b5)) 1 (8 + 7 * i + 3) v) K := fun v hv => by
      refine ih (i + 1) (by omega) _ ((hf.tr frM.u).tr frM.u) ?_ ?_
      · rw [su_s, su_s, h1, hv]
        show _ = upd (upd _ _ (sk_min 999 (fl (agR s z i) i 5 + 1))) _ (if z = true then sk_max 0 (fl (agR s z i) i 3 - 1) else fl (agR s z i) i 3)
        rw [e5, e3, c5]
      · intro k hk
        by_cases e : k = i
        · subst e; exact ag_ok (hok k hk)
        · have e2 : ∀ j, j < 7 → fl (agR s z (i + 1)) k j = fl (agR s z i) k j := fun j hj => by
            show upd (upd _ _ _) _ _ (8 + 7 * k + j) = _
            rw [upd_n (by omega), upd_n (by omega)]; rfl
          have := hok k hk
          unfold tl_ok at this ⊢
          rw [e2 0 (by omega), e2 1 (by omega), e2 2 (by omega), e2 3 (by omega), e2 4 (by omega), e2 5 (by omega), e2 6 (by omega)]
          exact this
    refine ⟨fun e => pX7_held (ex_i ?_), fun e => pX7_held (ex_i ?_)⟩
    · rw [m3b]
      exact pX7_lays1 3 (by omega) (by omega) ⟨rfl, nxt _ (by rw [hz, decide_eq_false e]; rfl)⟩
    · rw [m3]
      exact pX7_lays1 3 (by omega) (by omega) ⟨rfl, nxt _ (by rw [hz, decide_eq_true e]; rfl)⟩
theorem lX7_year15 {b : Nat} (hd : 2 < d) (hR : RS (σ 1) n) (hL : RLm (σ 1) 1 l1) (hy : σ 1 0 = nI y) (hy9 : y < 9999) (hb : b ≤ 99999) (eb : σ 1 2 = nI b) (h : ∀ σ2, frM σ σ2 → σ2 1 = yrS (σ 1) n l1 → K none σ2) : ∀ m i, i + m = 48 → ∀ σ2, scM σ σ2 →
    sk_G sk_Sm d mX7_aYear 15 [(0, .ref 0), (1, .long (dryF (σ 1) (fun _ => false) n)), (3, .int (nI b + dpI (dryF (σ 1) (fun _ => false) n) l1 (σ 1 0) i)), (4, .int (nI i))] [] σ2 K := by
  intro m
  induction m with
  | zero =>
    intro i hi σ2 hsc
    have : i = 48 := by omega
    subst this
    obtain ⟨g, hg, eg⟩ := dpI_n (x := dryF (σ 1) (fun _ => false) n) (l1 := l1) (y := σ 1 0) 48
    refine bX7_aYear_15 (by omega) (br_t (by decide) (pX7_held (ex_i ?_)))
    rw [eg, tb_m hb (by omega)]
    obtain ⟨d, rfl⟩ : ∃ d2, d = d2 + 1 := ⟨d - 1, by omega⟩
    refine lX7_year82 (σ := sk_u σ2 1 2 (nI (tbN b g))) (s := upd (σ 1) 2 (nI (tbN b g))) hR.1 (by rw [upd_n (by omega)]; exact hy) hy9 (by rw [upd_n (by omega)]; exact hR.2.1) rfl (fun σ3 h3 h4 => h σ3 ((hsc.fr.tr frM.u).tr h3) ?_) n 0 (by omega) _ frM.rf (by rw [su_s, hsc.s1]; rfl) (fun k hk => ?_)
    · rw [yrS_is hy eb hb (by omega) eg]
      exact h4
    · have := hR.2.2 k hk
      have e2 : ∀ j, fl (agR (upd (σ 1) 2 (nI (tbN b g))) (decide (nI y % 4 = 3)) 0) k j = fl (σ 1) k j := fun j => by
        show upd _ _ _ (8 + 7 * k + j) = _
        rw [upd_n (by omega)]; rfl
      unfold tl_ok at this ⊢
      rw [e2 0, e2 1, e2 2, e2 3, e2 4, e2 5, e2 6]
      exact this
  | succ m ih =>
    intro i hi σ2 hsc
    refine bX7_aYear_15 (by omega) (br_f (nlt48 (by omega)) ?_)
    rw [nI_1, lc_e, bL_t (by omega), hsc.s1, show (8 : Int32) = nI 8 from rfl, pk_div (by omega) (by omega) (by omega), nI_mod (by omega) (by omega) (by omega), Int32.add_zero]
    have ih2 := ih (i + 1) (by omega)
    unfold dpI at ih2
    cases hb : btL (dryF (σ 1) (fun _ => false) n) i with
    | true =>
      rw [hb] at ih2
      exact ns_f rfl (ih2 σ2 hsc)
    | false =>
      rw [hb, if_neg Bool.false_ne_true, ← Int32.add_assoc] at ih2
      exact ns_t (by decide) (pX7_dropTold (lw := l1) (by omega) (by rw [hsc.s1]; exact hL) (fun σ3 h3 => ex_i (ih2 σ3 (hsc.tr h3))))
theorem pX7_aYear {b : Nat} (hd : 5 < d) (hR : RS (σ 1) n) (hL : RLm (σ 1) 1 l1) (hy : σ 1 0 = nI y) (hy9 : y < 9999) (hb : b ≤ 99999) (eb : σ 1 2 = nI b) (h : ∀ σ2, frM σ σ2 → σ2 1 = yrS (σ 1) n l1 → K none σ2) : sk_C sk_Sm d mX7_aYear [.ref 0] σ K := by
  refine wX7_aYear (by omega) (pX7_drySet hR (by omega) (ex_l ?_))
  have := lX7_year15 (d := d) (K := K) (by omega) hR hL hy hy9 hb eb h 48 0 (by omega) σ scM.rf
  rw [show dpI (dryF (σ 1) (fun _ => false) n) l1 (σ 1 0) 0 = 0 from rfl, Int32.add_zero, ← eb] at this
  exact this
end
