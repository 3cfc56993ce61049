/-! ===== text ===== -/
theorem min60 {f : Nat} (hf : f ≤ 60) : sk_min (nI f) 60 = nI f := by
  rw [show (60 : Int32) = nI 60 from rfl, min_nI (by omega) (by omega)]
  by_cases h : 60 < f
  · omega
  · rw [if_neg h]
theorem isP_pos {w : List Tk} (h : isP w) : 0 < w.length ∧ wfd 0 w = some 1 := by
  have h1 := h 0 []
  rw [List.append_nil] at h1
  have h2 : wfd 0 w = some 1 := h1
  refine ⟨?_, h2⟩
  cases w with
  | nil => exact absurd h2 (by simp [wfd])
  | cons t w => simp
section
variable {d e : Nat} {τ σ : sk_T} {K : sk_K} {u n len : Nat} {v1 : Int32} {g : Nat → Int32}
theorem lX7_text (hu : u < 2) (hlen : len ≤ 60) (h6 : σ 0 6 = nI len) (hg : ∀ k, σ 4 k = g k) (h : ∀ σ2, (∀ c, c ≠ 1 → σ2 c = σ c) → (∀ k, k < 2 * len → σ2 1 (79 + 125 * u + k) = g k) → (∀ j, (j < 79 + 125 * u ∨ 79 + 125 * u + 2 * len ≤ j) → σ2 1 j = σ 1 j) → K (some (.int 1)) σ2) : ∀ m k, k + m = 2 * len → ∀ σ2, (∀ c, c ≠ 1 → σ2 c = σ c) → (∀ q, q < k → σ2 1 (79 + 125 * u + q) = g q) → (∀ j, (j < 79 + 125 * u ∨ 79 + 125 * u + 2 * len ≤ j) → σ2 1 j = σ 1 j) → sk_G sk_Sm e mX7_text 101 [(0, .ref 0), (3, .int (nI (78 + 125 * u))), (4, .int (nI k))] [] σ2 K := by
  have e2 : (2 : Int32) * nI len = nI (2 * len) := pk_mul 2 len
  intro m
  induction m with
  | zero =>
    intro k hk σ2 h1 h2 h3
    obtain rfl : k = 2 * len := hk
    refine bX7_text_101 (br_t ?_ (h σ2 h1 h2 h3))
    rw [h1 0 (by omega), h6, e2]
    exact Int32.le_refl _
  | succ m ih =>
    intro k hk σ2 h1 h2 h3
    have ei : nI (78 + 125 * u) + 1 + nI k = nI (79 + 125 * u + k) := by rw [nI_1, nI_add]; exact congrArg nI (by omega)
    refine bX7_text_101 (br_f ?_ ⟨vp_in_nI (by omega) (by omega), by rw [ei]; exact vp_in_nI (by omega) (by omega), ?_⟩)
    · rw [h1 0 (by omega), h6, e2]
      exact fun z => absurd ((nI_leI (by omega) (by omega)).mp z) (by omega)
    · rw [ei, nI_1, nI_clamp (show 79 + 125 * u + k < 2 ^ 31 by omega), nI_clamp (show k < 2 ^ 31 by omega), h1 4 (by omega), hg k]
      refine ih (k + 1) (by omega) _ (fun c hc => (su_c hc).trans (h1 c hc)) (fun q hq => ?_) (fun j hj => (su_n (by omega)).trans (h3 j hj))
      by_cases z : q = k
      · subst z; exact su_e
      · rw [su_n (by omega)]; exact h2 q (by omega)
set_option maxHeartbeats 1000000 in
theorem jText (hd : 100 < d) (he : 100 < e) (hR : R τ σ) : sk_C sk_Sc d mX6_text [.ref 0, .int v1] τ (jK e mX7_text [.ref 0, .int v1] σ) := by
  obtain ⟨n, l0, l1, hN⟩ := hR.1
  obtain ⟨⟨f, f1, f2, f3, f4⟩, wt, w1, w2, w3, w4⟩ := hN.2.2.2.2
  by_cases hu : ∃ c, c < 2 ∧ v1 = nI c
  rotate_left
  · exact wX6_text (by omega) (cUs_f hu (ex_i (ns_f rfl (cE 1 (by omega) (wX7_text (by omega) (mIn_f (N := 1) (by omega) hu (ex_i (ns_f rfl (mE 1 (by omega) hR)))))))))
  obtain ⟨u, hu, rfl⟩ := hu
  have vu := vp_in_nI hu (by omega)
  have hcu := nI_clamp (show u < 2 ^ 31 by omega)
  have v78 : vp_in (78 + 125 * nI u) 412 := by rw [e78]; exact vp_in_nI (by omega) (by omega)
  have c78 : (78 + 125 * nI u).toNatClampNeg = 78 + 125 * u := by rw [e78]; exact nI_clamp (by omega)
  obtain ⟨lw, hl⟩ := hN.lw hu
  obtain ⟨b, a2, w, ⟨k1, k2, k3⟩, cA, mA⟩ := AJ (u := u) (N := f) (bf := fun i => σ 1 (328 + i)) hu f1 0 [] (by omega) (by simp)
  -- where the two begin
  have hM0 : mR u f (fun i => σ 1 (328 + i)) (sk_u (sk_u (sk_u (sk_u σ 0 7 (nI u)) 0 4 0) 0 5 0) 0 6 0) 0 0 [] := by
    refine ⟨⟨?_, fun i hi => ?_⟩, ?_, ?_, su_e, ?_, fun i t ht => by simp at ht⟩
    · rw [su_c (by omega), su_c (by omega), su_c (by omega), su_c (by omega)]; exact f2
    · rw [su_c (by omega), su_c (by omega), su_c (by omega), su_c (by omega)]
    · rw [su_n (by omega), su_n (by omega), su_e]; rfl
    · rw [su_n (by omega), su_e]; rfl
    · rw [su_n (by omega), su_n (by omega), su_n (by omega), su_e]
  have fM0 : ∀ c, c ≠ 0 → (sk_u (sk_u (sk_u (sk_u σ 0 7 (nI u)) 0 4 0) 0 5 0) 0 6 0) c = σ c := fun c z => (su_c z).trans ((su_c z).trans ((su_c z).trans (su_c z)))
  have fM1 : ∀ j, j ≠ 4 → j ≠ 5 → j ≠ 6 → j ≠ 7 → (sk_u (sk_u (sk_u (sk_u σ 0 7 (nI u)) 0 4 0) 0 5 0) 0 6 0) 0 j = σ 0 j := fun j j4 j5 j6 j7 => (su_n j6).trans ((su_n j5).trans ((su_n j4).trans (su_n j7)))
  generalize hσs : (sk_u (sk_u (sk_u (sk_u σ 0 7 (nI u)) 0 4 0) 0 5 0) 0 6 0) = σs at hM0 fM0 fM1
  have hC0 : cR u f (fun i => σ 1 (328 + i)) (sk_u (sk_u (sk_u (sk_u (sk_w τ 44 (va_cpy (τ 39) (τ 44) 0 0 60)) 43 1 (nI f)) 43 2 0) 43 3 (nI u)) 43 5 0) 0 [] := by
    refine ⟨⟨?_, ?_, fun i hi => ?_⟩, ?_, su_e, fun i t ht => by simp at ht⟩
    · rw [su_n (by omega), su_n (by omega), su_n (by omega), su_e]
    · rw [su_n (by omega), su_n (by omega), su_e]; rfl
    · rw [su_c (by omega), su_c (by omega), su_c (by omega), su_c (by omega), sw_s, cp_0 (by omega)]
      exact f4 i hi
    · rw [su_n (by omega), su_e]
  have fC0 : ∀ c, c ≠ 43 → c ≠ 44 → (sk_u (sk_u (sk_u (sk_u (sk_w τ 44 (va_cpy (τ 39) (τ 44) 0 0 60)) 43 1 (nI f)) 43 2 0) 43 3 (nI u)) 43 5 0) c = τ c := fun c z z2 => (su_c z).trans ((su_c z).trans ((su_c z).trans ((su_c z).trans (sw_c z2))))
  -- a text that is refused
  have bad : ∀ {τ2 σ2 : sk_T}, fpC (sk_u (sk_u (sk_u (sk_u (sk_w τ 44 (va_cpy (τ 39) (τ 44) 0 0 60)) 43 1 (nI f)) 43 2 0) 43 3 (nI u)) 43 5 0) τ2 → fpM σs σ2 → R (sk_u τ2 1 7 0) (sk_u σ2 1 4 0) := fun {τ2 σ2} g1 g2 => by
    have t1 : ∀ c, c < 43 → τ2 c = τ c := fun c hc => (g1 c (by omega) (by omega)).trans (fC0 c (by omega) (by omega))
    have s1 : σ2 1 = σ 1 := (g2.1 1 (by omega) (by omega)).trans (fM0 1 (by omega))
    refine hR.nowD (n := n) (l0 := l0) (l1 := l1) (fun c hc => (su_c (by omega)).trans ((g1 c (by omega) (by omega)).trans (fC0 c (by omega) (by omega)))) ⟨fun c c0 c1 c4 _ _ _ => (su_c c1).trans ((g2.1 c c0 c4).trans (fM0 c c0)), ?_, ?_⟩ ?_
    · rw [su_c (by omega), g2.2 2 (by omega) (by omega) (by omega), fM1 2 (by omega) (by omega) (by omega) (by omega)]
    · rw [su_c (by omega), g2.2 12 (by omega) (by omega) (by omega), fM1 12 (by omega) (by omega) (by omega) (by omega)]
    refine hN.tp (fun c h31 c1 => (su_c c1).trans (t1 c (by omega))) (fun j h7 _ => (su_n h7).trans (by rw [t1 1 (by omega)])) (fun j hj h4 _ => (su_n h4).trans (by rw [s1])) ⟨⟨0, by omega, su_e, su_e, fun i hi => absurd hi (by omega)⟩, wt, w1, ?_, ?_, fun i hi => ?_⟩
    · rw [su_n (by omega), s1]; exact w2
    · rw [su_n (by omega), t1 1 (by omega)]; exact w3
    · rw [su_c (by omega), t1 41 (by omega), su_n (by omega), s1]; exact w4 i hi
  have neg : ¬ nI a2 < 0 := nI_pos (by omega)
  refine wX6_text (by omega) (cUs_t hu (ex_i (ns_t i1_0 ?_)))
  rw [f3]
  refine wX2_read (by omega) ?_
  rw [min60 f1]
  refine cA (d - 1 - 1) _ _ (by omega) hC0 (fun τ2 g1 r1 => ex_i ?_)
  have refu : ∀ {K2 : sk_K}, (∀ σ2, fpM σs σ2 → rsM u f (fun i => σ 1 (328 + i)) σ2 b 0 a2 ([] ++ w) → ((bI b = 0 → ((¬ (0 : Int32) = 0 → vp_in (78 + (125 * nI u)) 412 ∧ sk_G sk_Sm e mX7_text 101 [(0, .ref 0), (3, .int (78 + (125 * nI u))), (4, .int 0)] [] (sk_u (sk_u σ2 1 4 0) 1 ((78 + (125 * nI u))).toNatClampNeg ((sk_u σ2 1 4 0) 0 6)) K2) ∧ ((0 : Int32) = 0 → K2 (some (.int ((-10) - ((sk_u σ2 1 4 0) 0 4)))) (sk_u σ2 1 4 0)))) ∧ (¬ bI b = 0 → ((¬ (σ2 0 4) = (σ2 1 4) → ((¬ (0 : Int32) = 0 → vp_in (78 + (125 * nI u)) 412 ∧ sk_G sk_Sm e mX7_text 101 [(0, .ref 0), (3, .int (78 + (125 * nI u))), (4, .int 0)] [] (sk_u (sk_u σ2 1 4 0) 1 ((78 + (125 * nI u))).toNatClampNeg ((sk_u σ2 1 4 0) 0 6)) K2) ∧ ((0 : Int32) = 0 → K2 (some (.int ((-10) - ((sk_u σ2 1 4 0) 0 4)))) (sk_u σ2 1 4 0)))) ∧ ((σ2 0 4) = (σ2 1 4) → ((¬ (1 : Int32) = 0 → vp_in (78 + (125 * nI u)) 412 ∧ sk_G sk_Sm e mX7_text 101 [(0, .ref 0), (3, .int (78 + (125 * nI u))), (4, .int 0)] [] (sk_u (sk_u σ2 1 4 0) 1 ((78 + (125 * nI u))).toNatClampNeg ((sk_u σ2 1 4 0) 0 6)) K2) ∧ ((1 : Int32) = 0 → K2 (some (.int ((-10) - ((sk_u σ2 1 4 0) 0 4)))) (sk_u σ2 1 4 0)))))))) → sk_C sk_Sm e mX7_text [.ref 0, .int (nI u)] σ K2 := fun {K2} hh => by
    refine wX7_text (by omega) (mIn_t (N := 1) (by omega) hu (ex_i (ns_t i1_0 ?_)))
    rw [hσs]
    exact mA (e - 1) _ _ (by omega) hM0 (fun σ2 g2 r2 => ex_i (hh σ2 g2 r2))
  cases b with
  | false =>
    have r1 : cF u f (fun i => σ 1 (328 + i)) τ2 a2 := r1
    refine br_t rfl (ex_i ?_)
    rw [r1.1.2.1]
    refine br_f neg ⟨_, rfl, refu (fun σ2 g2 r2 => br_t rfl (ns_f rfl ⟨?_, bad g1 g2⟩))⟩
    have r2 : σ2 0 4 = nI a2 := r2
    rw [su_c (by omega), r2]
  | true =>
    have r1 : cR u f (fun i => σ 1 (328 + i)) τ2 a2 ([] ++ w) := r1
    rw [List.nil_append] at r1
    obtain ⟨q1, q2, q3, q4⟩ := k3 rfl
    obtain ⟨p1, p2⟩ := isP_pos q1
    refine br_f i1_0 ?_
    by_cases ea : a2 = f
    rotate_left
    · have ne : ¬ nI a2 = nI f := fun z => ea ((nI_iff (by omega) (by omega)).mp z)
      refine ns_t (by rw [r1.1.2.1, r1.1.1]; exact ne) (ex_i ?_)
      rw [r1.1.2.1]
      refine br_f neg ⟨_, rfl, refu (fun σ2 g2 r2 => br_f i1_0 (ns_t ?_ (ns_f rfl ⟨?_, bad g1 g2⟩)))⟩
      · have r2 : mR u f (fun i => σ 1 (328 + i)) σ2 0 a2 ([] ++ w) := r2
        rw [r2.2.1, r2.1.1]; exact ne
      · have r2 : mR u f (fun i => σ 1 (328 + i)) σ2 0 a2 ([] ++ w) := r2
        rw [su_c (by omega), r2.2.1]
    · subst ea
      refine ns_f (by rw [r1.1.2.1, r1.1.1]) (ex_i (br_t (by decide) ⟨vu, ?_⟩))
      rw [hcu]
      obtain ⟨z1, z2, z3, -⟩ := sk_lawF u hu
      refine wX1_adopt z1 z2 z3 (by omega) ⟨rfl, _, rfl, refu (fun σ2 g2 r2 => ?_)⟩
      have r2 : mR u a2 (fun i => σ 1 (328 + i)) σ2 0 a2 ([] ++ w) := r2
      rw [List.nil_append] at r2
      refine br_f i1_0 (ns_f ?_ ?_)
      · rw [r2.2.1, r2.1.1]
      refine ns_t i1_0 ⟨v78, ?_⟩
      rw [c78, e78]
      have s6 : (sk_u (sk_u σ2 1 4 0) 1 (78 + 125 * u) (sk_u σ2 1 4 0 0 6)) 0 6 = nI w.length := by rw [su_c (by omega), su_c (by omega)]; exact r2.2.2.2.1
      have s1 : σ2 1 = σ 1 := (g2.1 1 (by omega) (by omega)).trans (fM0 1 (by omega))
      have t1 : ∀ c, c < 43 → τ2 c = τ c := fun c hc => (g1 c (by omega) (by omega)).trans (fC0 c (by omega) (by omega))
      refine lX7_text (σ := sk_u (sk_u σ2 1 4 0) 1 (78 + 125 * u) (sk_u σ2 1 4 0 0 6)) (g := σ2 4) hu (by omega) s6 (fun k => by rw [su_c (by omega), su_c (by omega)]) (fun σ3 x1 x2 x3 => ⟨rfl, ?_⟩) (2 * w.length) 0 (by omega) _ (fun _ _ => rfl) (fun q hq => absurd hq (by omega)) (fun _ _ => rfl)
      have sO : ∀ j, j ≠ 4 → (j < 78 + 125 * u ∨ 203 + 125 * u ≤ j) → σ3 1 j = σ 1 j := fun j j4 hj => by
        rw [x3 j (by omega), su_n (by omega), su_n j4, s1]
      have htok : ∀ i t, w[i]? = some t → okT t ∧ (sk_u (sk_u (sk_w (sk_u τ2 1 7 0) (27 + u) (va_cpy ((sk_u τ2 1 7 0) 45) ((sk_u τ2 1 7 0) (27 + u)) 0 0 60)) (23 + u) 3 ((sk_u τ2 1 7 0) 43 5)) (23 + u) 1 1) (27 + u) i = cT t ∧ σ3 1 (78 + 125 * u + 1 + 2 * i) = wT t ∧ σ3 1 (78 + 125 * u + 2 + 2 * i) = vT u t := fun i t ht => by
        have hil : i < w.length := (List.getElem?_eq_some_iff.mp ht).1
        obtain ⟨y1, y2⟩ := r2.2.2.2.2.2 i t ht
        refine ⟨q2 t (List.mem_of_getElem? ht), ?_, ?_, ?_⟩
        · rw [su_c (by omega), su_c (by omega), sw_s, cp_0 (by omega), su_c (by omega)]
          exact r1.2.2.2 i t ht
        · have := x2 (2 * i) (by omega)
          rw [show 79 + 125 * u + 2 * i = 78 + 125 * u + 1 + 2 * i by omega] at this
          rw [this]; exact y1
        · have := x2 (2 * i + 1) (by omega)
          rw [show 79 + 125 * u + (2 * i + 1) = 78 + 125 * u + 2 + 2 * i by omega] at this
          rw [this]; exact y2
      obtain ⟨m0, m1, hN2⟩ := hN.ul (τ2 := sk_u (sk_u (sk_w (sk_u τ2 1 7 0) (27 + u) (va_cpy ((sk_u τ2 1 7 0) 45) ((sk_u τ2 1 7 0) (27 + u)) 0 0 60)) (23 + u) 3 ((sk_u τ2 1 7 0) 43 5)) (23 + u) 1 1) (s2 := σ3 1) (lw := some w) hu
        (fun c c1 c23 c27 c43 => by rw [su_c c23, su_c c23, sw_c c27, su_c c1, t1 c c43])
        (fun j j7 => by rw [su_c (by omega), su_c (by omega), sw_c (by omega), su_n j7, t1 1 (by omega)])
        sO
        ⟨by rw [su_n (by omega), su_n (by omega), sw_c (by omega), su_c (by omega), t1 _ (by omega)]; exact hl.1, by rw [su_e]; decide, by rw [su_n (by omega), su_e, su_c (by omega)]; exact r1.2.2.1, p1, by omega, p2, by rw [x3 _ (by omega), su_e, su_c (by omega)]; exact r2.2.2.2.1, htok⟩
        ⟨0, by omega, by rw [x3 4 (by omega), su_n (by omega), su_e]; rfl, by rw [su_c (by omega), su_c (by omega), sw_c (by omega), su_e]; rfl, fun i hi => absurd hi (by omega)⟩
      refine hR.nowD (fun c hc => ?_) ⟨fun c c0 c1 c4 _ _ _ => (x1 c c1).trans ((su_c c1).trans ((su_c c1).trans ((g2.1 c c0 c4).trans (fM0 c c0)))), ?_, ?_⟩ hN2
      · rw [su_c (by omega), su_c (by omega), sw_c (by omega), su_c (by omega)]
        exact (g1 c (by omega) (by omega)).trans (fC0 c (by omega) (by omega))
      · rw [x1 0 (by omega), su_c (by omega), su_c (by omega), g2.2 2 (by omega) (by omega) (by omega), fM1 2 (by omega) (by omega) (by omega) (by omega)]
      · rw [x1 0 (by omega), su_c (by omega), su_c (by omega), g2.2 12 (by omega) (by omega) (by omega), fM1 12 (by omega) (by omega) (by omega) (by omega)]
end
