/-! ===== voice ===== -/
theorem pLs_l : ∀ kd, kd < 7 → ∀ kk mm : Int32, ∀ c, c < 7 → (pLs kk mm kd c).length ≤ 8 := by
  intro kd hkd kk mm c hc
  have h1 : (pL1 kk mm kd).length ≤ 8 := by
    unfold pL1
    have := rLs_l kd hkd kd hkd
    by_cases e : mm - kk = 0
    · rw [if_pos e]; simp
    · rw [if_neg e]; simp only [List.length_cons]; omega
  match c, hc with
  | 0, _ => simp [pLs]
  | 1, _ => exact h1
  | 2, _ => simp [pLs]
  | 3, _ => simp [pLs]
  | 4, _ => exact h1
  | 5, _ => simp [pLs]
  | 6, _ => simp [pLs]
theorem R.tr {τ τ2 σ σ2 : sk_T} {l : List Nat} (h : R τ σ) (hf : ∀ c, c ≠ 46 → c ≠ 47 → τ2 c = τ c) (hm : ∀ c, c ≠ 0 → c ≠ 8 → σ2 c = σ c) (hi : σ2 0 2 = σ 0 2) (hl : l.length ≤ 30) (hz : isZ (τ2 46 1) (τ2 47) l) (hz2 : isZ (σ2 0 12) (σ2 8) l) : R τ2 σ2 := by
  obtain ⟨⟨n, l0, l1, hN⟩, h2, h3, h4, h5, h6, h7⟩ := h
  refine ⟨⟨n, l0, l1, ?_⟩, ?_, ?_, ?_, ?_, ?_, l.length, hl, hz.1, hz2.1, fun i hi2 => ?_⟩
  · rw [hm 1 (by omega) (by omega)]; exact hN.cc (fun c hc => hf c (by omega) (by omega))
  · rw [hi, hm 2 (by omega) (by omega), kp_cc (fun c hc => hf c (by omega) (by omega))]; exact h2
  · rw [hf 25 (by omega) (by omega), hf 26 (by omega) (by omega)]; exact h3
  · rw [hf 0 (by omega) (by omega), hi]; exact h4
  · rw [hf 57 (by omega) (by omega), hm 3 (by omega) (by omega)]; exact h5
  · intro j hj
    rw [hf (49 + j) (by omega) (by omega), hf (53 + j) (by omega) (by omega), hm 9 (by omega) (by omega), hm 10 (by omega) (by omega), hm 11 (by omega) (by omega)]
    exact h6 j hj
  · have hs : ∃ b, l[i]? = some b := ⟨l[i], List.getElem?_eq_getElem hi2⟩
    obtain ⟨b, hb⟩ := hs
    rw [hz.2 i b hb, hz2.2 i b hb]
def vTl (e : Nat) (K2 : sk_K) (M : sk_M) (c x : Int32) (t : sk_T) : Prop :=
  sk_C sk_Sm (e - 1) M [.ref 0, .int c, .int x] t (fun w t92 => ∃ r92 : Int32, w = some (.int r92) ∧ (((t92 0 15 &&& 1) = 0 → K2 (some (.int r92)) t92) ∧ (¬ (t92 0 15 &&& 1) = 0 → sk_C sk_Sm (e - 1) mX7_error [.ref 0, .int 6] t92 (fun w t107 => ∃ r107 : Int32, w = some (.int r107) ∧ K2 (some (.int r107)) t107))))
section
variable {d e : Nat} {τ σ : sk_T} {K : sk_K} {v1 v2 v3 : Int32}
set_option maxHeartbeats 1000000 in
theorem jVoice (hd : 40 < d) (he : 40 < e) (hR : R τ σ) : sk_C sk_Sc d mX6_voice [.ref 0, .int v1, .int v2, .int v3] τ (jK e mX7_voice [.ref 0, .int v1, .int v2, .int v3] σ) := by
  obtain ⟨n, l0, l1, hN⟩ := hR.1
  have hn := hN.1.1
  have h6 : σ 1 6 = nI n := hN.s.2.1
  have h11 : τ 1 1 = nI n := hN.t.n0
  by_cases hs : ∃ c, c < n ∧ v1 = nI c
  rotate_left
  · exact wX6_voice (by omega) (cSl_f h11 hn hs (ex_i (br_t rfl (cE 1 (by omega) (wX7_voice (by omega) (mSl_f h6 hn (by omega) hs (ex_i (br_t rfl (mE 1 (by omega) hR)))))))))
  obtain ⟨k, hk, rfl⟩ := hs
  have vk := vp_in_nI (show k < 10 by omega) (by omega)
  have hc := nI_clamp (show k < 2 ^ 31 by omega)
  by_cases hb : ∃ c, c < 4 ∧ v2 = nI c
  rotate_left
  · have ho : v2 < 0 ∨ ¬ v2 ≤ 3 := by
      rcases ix_cases v2 4 (by omega) with h | ⟨h1 | h1, -⟩
      · exact absurd h hb
      · exact Or.inl h1
      · exact Or.inr (fun z => absurd (Int32.le_trans h1 z) (by decide))
    exact wX6_voice (by omega) (cSl_t h11 hn hk (ex_i (br_f i1_0 (on2_f ho (cE 1 (by omega) (wX7_voice (by omega) (mSl_t h6 hn (by omega) hk (ex_i (br_f i1_0 (mIn_f (N := 3) (by omega) hb (ex_i (ns_f rfl (mE 1 (by omega) hR))))))))))))) 
  obtain ⟨v, hv, rfl⟩ := hb
  obtain ⟨⟨kd, hkd, ekd⟩, -⟩ := hN.t.ok hk
  -- where the two begin
  have hY : vY (sk_u (sk_u (sk_u σ 0 12 0) 0 14 (nI k)) 0 15 0) k kd (fl (σ 1) k 1) := by
    refine ⟨by omega, hkd, ?_, ?_, ?_⟩
    · rw [su_n (by omega), su_e]
    · rw [su_c (by omega), su_c (by omega), su_c (by omega)]; exact ekd
    · rw [su_c (by omega), su_c (by omega), su_c (by omega)]
  have hzM : isZ (sk_u (sk_u (sk_u σ 0 12 0) 0 14 (nI k)) 0 15 0 0 12) (sk_u (sk_u (sk_u σ 0 12 0) 0 14 (nI k)) 0 15 0 8) [] := by
    rw [su_n (by omega), su_n (by omega), su_e]; exact isZ_0
  have fM : ∀ c, c ≠ 0 → sk_u (sk_u (sk_u σ 0 12 0) 0 14 (nI k)) 0 15 0 c = σ c := fun c z => (su_c z).trans ((su_c z).trans (su_c z))
  have fM2 : sk_u (sk_u (sk_u σ 0 12 0) 0 14 (nI k)) 0 15 0 0 2 = σ 0 2 := (su_n (by omega)).trans ((su_n (by omega)).trans (su_n (by omega)))
  have fM15 : sk_u (sk_u (sk_u σ 0 12 0) 0 14 (nI k)) 0 15 0 0 15 = 0 := su_e
  generalize hσs : sk_u (sk_u (sk_u σ 0 12 0) 0 14 (nI k)) 0 15 0 = σs at hY hzM fM fM2 fM15
  refine wX6_voice (by omega) (cSl_t h11 hn hk (ex_i (br_f i1_0 (on2_t (nI_pos (by omega)) ((nI_leI (b := 3) (by omega) (by omega)).mpr (by omega)) ⟨vk, ?_⟩))))
  rw [hc]
  refine wX0_sing (sk_tileF k (by omega)) (by omega) ?_
  have hX : vX (sk_u (sk_u (sk_u (sk_u (sk_u τ 46 1 0) 46 2 0) 46 3 ((sk_u (sk_u τ 46 1 0) 46 2 0) (3 + k) 0)) 46 4 ((sk_u (sk_u (sk_u τ 46 1 0) 46 2 0) 46 3 ((sk_u (sk_u τ 46 1 0) 46 2 0) (3 + k) 0)) (3 + k) 1)) 46 5 (nI k)) kd (fl (σ 1) k 1) (nI k) := by
    refine ⟨hkd, ?_, ?_, su_e⟩
    · rw [su_n (by omega), su_n (by omega), su_e, su_c (by omega), su_c (by omega), hN.t.t0 hk 0 (by omega)]; exact ekd
    · rw [su_n (by omega), su_e, su_c (by omega), su_c (by omega), su_c (by omega), hN.t.t0 hk 1 (by omega)]
  have hzC : isZ (sk_u (sk_u (sk_u (sk_u (sk_u τ 46 1 0) 46 2 0) 46 3 ((sk_u (sk_u τ 46 1 0) 46 2 0) (3 + k) 0)) 46 4 ((sk_u (sk_u (sk_u τ 46 1 0) 46 2 0) 46 3 ((sk_u (sk_u τ 46 1 0) 46 2 0) (3 + k) 0)) (3 + k) 1)) 46 5 (nI k) 46 1) (sk_u (sk_u (sk_u (sk_u (sk_u τ 46 1 0) 46 2 0) 46 3 ((sk_u (sk_u τ 46 1 0) 46 2 0) (3 + k) 0)) 46 4 ((sk_u (sk_u (sk_u τ 46 1 0) 46 2 0) 46 3 ((sk_u (sk_u τ 46 1 0) 46 2 0) (3 + k) 0)) (3 + k) 1)) 46 5 (nI k) 47) [] := by
    rw [su_n (by omega), su_n (by omega), su_n (by omega), su_n (by omega), su_e]; exact isZ_0
  have fC : ∀ c, c ≠ 46 → sk_u (sk_u (sk_u (sk_u (sk_u τ 46 1 0) 46 2 0) 46 3 ((sk_u (sk_u τ 46 1 0) 46 2 0) (3 + k) 0)) 46 4 ((sk_u (sk_u (sk_u τ 46 1 0) 46 2 0) 46 3 ((sk_u (sk_u τ 46 1 0) 46 2 0) (3 + k) 0)) (3 + k) 1)) 46 5 (nI k) c = τ c := fun c z => by rw [su_c z, su_c z, su_c z, su_c z, su_c z]
  have fC2 : sk_u (sk_u (sk_u (sk_u (sk_u τ 46 1 0) 46 2 0) 46 3 ((sk_u (sk_u τ 46 1 0) 46 2 0) (3 + k) 0)) 46 4 ((sk_u (sk_u (sk_u τ 46 1 0) 46 2 0) 46 3 ((sk_u (sk_u τ 46 1 0) 46 2 0) (3 + k) 0)) (3 + k) 1)) 46 5 (nI k) 46 2 = 0 := by rw [su_n (by omega), su_n (by omega), su_n (by omega), su_e]
  generalize (sk_u (sk_u (sk_u (sk_u (sk_u τ 46 1 0) 46 2 0) 46 3 ((sk_u (sk_u τ 46 1 0) 46 2 0) (3 + k) 0)) 46 4 ((sk_u (sk_u (sk_u τ 46 1 0) 46 2 0) 46 3 ((sk_u (sk_u τ 46 1 0) 46 2 0) (3 + k) 0)) (3 + k) 1)) 46 5 (nI k)) = τs at hX hzC fC fC2 ⊢
  have ref : ∀ {K2 : sk_K}, sk_C sk_Sm (e - 1) mX7_kindNow [.ref 0] σs (fun w t39 => ∃ r39 : Int32, w = some (.int r39) ∧ ((¬ nI v = 0 → ((¬ nI v = 1 → ((¬ nI v = 2 → vTl e K2 mX7_partsAs r39 v3 t39) ∧ (nI v = 2 → vTl e K2 mX7_creaksAs r39 v3 t39))) ∧ (nI v = 1 → vTl e K2 mX7_ringsAs r39 v3 t39))) ∧ (nI v = 0 → vTl e K2 mX7_dripsAs r39 v3 t39))) → sk_C sk_Sm e mX7_voice [.ref 0, .int (nI k), .int (nI v), .int v3] σ K2 := fun {K2} hh => by
    refine wX7_voice (by omega) (mSl_t h6 hn (by omega) hk (ex_i (br_f i1_0 (mIn_t (N := 3) (by omega) hv (ex_i (ns_t i1_0 ?_))))))
    rw [hσs]
    exact hh
  have fin : ∀ {τ2 σ2 : sk_T} {l : List Nat}, l.length ≤ 30 → (∀ q, q ≠ 46 → q ≠ 47 → τ2 q = τs q) → (∀ q, q ≠ 0 → q ≠ 8 → σ2 q = σs q) → σ2 0 2 = σs 0 2 → isZ (τ2 46 1) (τ2 47) l → isZ (σ2 0 12) (σ2 8) l → R τ2 σ2 := fun {τ2 σ2 l} hl f1 f2 f3 z1 z2 =>
    hR.tr (fun c c1 c2 => (f1 c c1 c2).trans (fC c c1)) (fun c c1 c2 => (f2 c c1 c2).trans (fM c c1)) (f3.trans fM2) hl z1 z2
  rcases (show v = 0 ∨ v = 1 ∨ v = 2 ∨ v = 3 by omega) with rfl | rfl | rfl | rfl
  · refine cOw (by omega) hX (cDr (dep := 0) (by omega) hX hzC (by simp) (by omega) hkd (fun τ2 f2 z2 => ex_i (ex_i (ex_i (br_t ?_ ⟨_, rfl, ref (mKn (by omega) hY (ex_i (ns_f rfl (mDr (by omega) hY hzM (by simp) hkd (fun σ2 g2 y2 => ex_i (br_t ?_ ⟨rfl, fin ?_ f2.1 g2.1 (g2.2 2 (by omega)) z2 y2⟩))))))⟩)))))
    · rw [f2.2 2 (by omega), fC2]; decide
    · rw [g2.2 15 (by omega), fM15]; decide
    · have := dLs_l kd (by omega)
      rw [List.nil_append]; omega
  · refine cOw (by omega) hX (cRi (dep := 0) (by omega) hX hzC (by simp) (by omega) hkd (fun τ2 f2 z2 => ex_i (ex_i (ex_i (br_t ?_ ⟨_, rfl, ref (mKn (by omega) hY (ex_i (ns_t (by decide) (ns_f rfl (mRi (by omega) hY hzM (by simp) hkd (fun σ2 g2 y2 => ex_i (br_t ?_ ⟨rfl, fin ?_ f2.1 g2.1 (g2.2 2 (by omega)) z2 y2⟩)))))))⟩)))))
    · rw [f2.2 2 (by omega), fC2]; decide
    · rw [g2.2 15 (by omega), fM15]; decide
    · have := rLs_l kd (by omega) kd (by omega)
      rw [List.nil_append]; omega
  · refine cOw (by omega) hX (cCr (dep := 0) (by omega) hX hzC (by simp) (by omega) hkd (fun τ2 f2 z2 => ex_i (ex_i (ex_i (br_t ?_ ⟨_, rfl, ref (mKn (by omega) hY (ex_i (ns_t (by decide) (ns_t (by decide) (ns_f rfl (mCr (by omega) hY hzM (by simp) hkd (fun σ2 g2 y2 => ex_i (br_t ?_ ⟨rfl, fin ?_ f2.1 g2.1 (g2.2 2 (by omega)) z2 y2⟩))))))))⟩)))))
    · rw [f2.2 2 (by omega), fC2]; decide
    · rw [g2.2 15 (by omega), fM15]; decide
    · have := cLs_l kd (by omega) kd (by omega)
      rw [List.nil_append]; omega
  · have hlen : ([] ++ pLs (nI k) (fl (σ 1) k 1) kd kd).length ≤ 30 := by
      have := pLs_l kd (by omega) (nI k) (fl (σ 1) k 1) kd (by omega)
      rw [List.nil_append]; omega
    refine cOw (by omega) hX (cPa (dep := 0) (by omega) hX hzC (by simp) (by omega) hkd (fun τ2 f2 z2 p2 => ex_i (ex_i (ex_i ?_))))
    rw [p2]
    have rf : ∀ {K2 : sk_K}, (∀ σ2, vfQ σs σ2 → isZ (σ2 0 12) (σ2 8) ([] ++ pLs (nI k) (fl (σ 1) k 1) kd kd) → (((pPt (nI k) (fl (σ 1) k 1) &&& 1) = 0 → K2 (some (.int (pVl (nI k) (fl (σ 1) k 1) kd kd v3))) σ2) ∧ (¬ (pPt (nI k) (fl (σ 1) k 1) &&& 1) = 0 → sk_C sk_Sm (e - 1) mX7_error [.ref 0, .int 6] σ2 (fun w t107 => ∃ r107 : Int32, w = some (.int r107) ∧ K2 (some (.int r107)) t107)))) → sk_C sk_Sm e mX7_voice [.ref 0, .int (nI k), .int (nI 3), .int v3] σ K2 := fun {K2} hh =>
      ref (mKn (by omega) hY (ex_i (ns_t (by decide) (ns_t (by decide) (ns_t (by decide) (mPa (by omega) hY hzM (by simp) hkd (fun σ2 g2 y2 p2 => ex_i (by rw [p2]; exact hh σ2 g2 y2))))))))
    by_cases ep : (pPt (nI k) (fl (σ 1) k 1) &&& 1) = 0
    · exact br_t ep ⟨_, rfl, rf (fun σ2 g2 y2 => br_t ep ⟨rfl, fin hlen f2.1 g2.1 (g2.2 2 (by omega) (by omega)) z2 y2⟩)⟩
    · exact br_f ep (cE 6 (by omega) (rf (fun σ2 g2 y2 => br_f ep (mE 6 (by omega) (fin hlen f2.1 g2.1 (g2.2 2 (by omega) (by omega)) z2 y2)))))
end
