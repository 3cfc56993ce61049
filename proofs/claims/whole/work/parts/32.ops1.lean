/-! ===== the operations, one by one: the class, then the reference ===== -/
section
variable {d e : Nat} {τ σ : sk_T} {K : sk_K} {s : Nat → Int32} {n : Nat} {v v1 v2 v3 : Int32}
theorem pX7_change1 {x : Int32} (j : Nat) (hj : j < 412) (h : K (some (.int (σ 1 j))) (sk_u σ 1 j x)) : sk_C sk_Sm d mX7_change1 [.ref 0, .int (nI j), .int x] σ K := by
  refine wX7_change1 ⟨vp_in_nI (by omega) (by omega), vp_in_nI (by omega) (by omega), ?_⟩
  rw [nI_clamp (by omega)]
  exact h
theorem jSeed (hd : 20 < d) (he : 20 < e) (hR : R τ σ) : sk_C sk_Sc d mX6_seed [.ref 0, .int v1] τ (jK e mX7_seed [.ref 0, .int v1] σ) := by
  obtain ⟨n, l0, l1, hN⟩ := hR.1
  refine wX6_seed ⟨_, rfl, wX7_seed (by omega) (pX7_change1 3 (by omega) (ex_i ⟨?_, ?_⟩))⟩
  · rw [show τ 1 5 = σ 1 3 from hN.1.2.2.2.2.2.2.2]
  · exact hR.now (frC.u (by omega)) frM.u (by rw [su_s]; exact hN.seed)
theorem jSells (hd : 20 < d) (he : 20 < e) (hR : R τ σ) : sk_C sk_Sc d mX6_sells [.ref 0, .int v1] τ (jK e mX7_sells [.ref 0, .int v1] σ) := by
  obtain ⟨n, l0, l1, hN⟩ := hR.1
  by_cases hb : ∃ c, c < 2 ∧ v1 = nI c
  · obtain ⟨k, hk, rfl⟩ := hb
    refine wX6_sells (by omega) (cBt_t hk (ex_i (ns_t i1_0 ⟨_, rfl, wX7_sells (by omega) (mIn_t (N := 1) (by omega) hk (ex_i (br_f i1_0 (pX7_change1 1 (by omega) (ex_i ⟨?_, ?_⟩)))))⟩)))
    · rw [show τ 1 3 = σ 1 1 from hN.1.2.2.2.2.2.1]
    · refine hR.now (n := n) (l0 := l0) (l1 := l1) (frC.u (by omega)) frM.u ?_
      rw [su_s]
      refine hN.sold ?_
      match k, hk with
      | 0, _ => exact Or.inl rfl
      | 1, _ => exact Or.inr rfl
  · exact wX6_sells (by omega) (cBt_f hb (ex_i (ns_f rfl (cE 1 (by omega) (wX7_sells (by omega) (mIn_f (N := 1) (by omega) hb (ex_i (br_t rfl (mE 1 (by omega) hR)))))))))
theorem RN.nails {τ : sk_T} {s : Nat → Int32} {n k a : Nat} {l0 l1 : Option (List Tk)} (h : RN τ s n l0 l1) (hk : k < n) (ha : a ≤ 9) : RN (sk_u τ (3 + k) 3 (nI a)) (upd s (8 + 7 * k + 3) (nI a)) n l0 l1 := by
  have hn := h.1.1
  have eo : ∀ j, j < 7 → j ≠ 3 → fl (upd s (8 + 7 * k + 3) (nI a)) k j = fl s k j := fun j hj h3 => upd_n (show 8 + 7 * k + j ≠ 8 + 7 * k + 3 by omega)
  have e3 : fl (upd s (8 + 7 * k + 3) (nI a)) k 3 = nI a := upd_s
  refine h.tile hk (fun q hq => su_c hq) (fun j hj => upd_n (by omega)) (fun j hj => ?_) ?_
  · by_cases h3 : j = 3
    · subst h3; rw [su_e, e3]
    · rw [su_n h3, eo j hj h3]; exact h.t.t0 hk j hj
  · have := h.t.ok hk
    unfold tl_ok at this ⊢
    rw [eo 0 (by omega) (by omega), eo 1 (by omega) (by omega), eo 2 (by omega) (by omega), e3, eo 4 (by omega) (by omega), eo 5 (by omega) (by omega), eo 6 (by omega) (by omega)]
    exact ⟨this.1, this.2.1, this.2.2.1, ⟨a, ha, rfl⟩, this.2.2.2.2⟩
theorem jNail (hd : 20 < d) (he : 20 < e) (hR : R τ σ) : sk_C sk_Sc d mX6_nail [.ref 0, .int v1, .int v2] τ (jK e mX7_nail [.ref 0, .int v1, .int v2] σ) := by
  obtain ⟨n, l0, l1, hN⟩ := hR.1
  have hn := hN.1.1
  by_cases hs : ∃ c, c < n ∧ v1 = nI c
  · obtain ⟨k, hk, rfl⟩ := hs
    have vk := vp_in_nI (show k < 10 by omega) (by omega)
    by_cases hb : ∃ c, c < 10 ∧ v2 = nI c
    · obtain ⟨a, ha, rfl⟩ := hb
      refine wX6_nail (by omega) (cSl_t hN.t.n0 hn hk (ex_i (br_f i1_0 (cDg_t ha (ex_i (ns_t i1_0 ⟨vk, vk, _, rfl, wX7_nail (by omega) (mSl_t hN.s.2.1 hn (by omega) hk (ex_i (br_f i1_0 (mIn_t (N := 9) (by omega) ha (ex_i (br_f i1_0 ?_))))))⟩))))))
      rw [show (8 : Int32) + 7 * nI k + 3 = nI (8 + 7 * k + 3) from by rw [show (8 : Int32) = nI 8 from rfl, show (7 : Int32) = nI 7 from rfl, show (3 : Int32) = nI 3 from rfl, pk_mul, nI_add, nI_add]]
      refine pX7_change1 (8 + 7 * k + 3) (by omega) (ex_i ⟨?_, ?_⟩)
      · rw [nI_clamp (show k < 2 ^ 31 by omega), hN.t.t0 hk 3 (by omega)]; rfl
      · rw [nI_clamp (show k < 2 ^ 31 by omega)]
        exact hR.now (frC.u (by omega)) frM.u (by rw [su_s]; exact hN.nails hk (by omega))
    · exact wX6_nail (by omega) (cSl_t hN.t.n0 hn hk (ex_i (br_f i1_0 (cDg_f hb (ex_i (ns_f rfl (cE 1 (by omega) (wX7_nail (by omega) (mSl_t hN.s.2.1 hn (by omega) hk (ex_i (br_f i1_0 (mIn_f (N := 9) (by omega) hb (ex_i (br_t rfl (mE 1 (by omega) hR)))))))))))))))
  · exact wX6_nail (by omega) (cSl_f hN.t.n0 hn hs (ex_i (br_t rfl (cE 1 (by omega) (wX7_nail (by omega) (mSl_f hN.s.2.1 hn (by omega) hs (ex_i (br_t rfl (mE 1 (by omega) hR)))))))))
theorem RN.off {τ : sk_T} {s : Nat → Int32} {n k : Nat} {l0 l1 : Option (List Tk)} (h : RN τ s n l0 l1) (hk : k < n) : RN (sk_u τ (3 + k) 6 (-1)) (upd s (8 + 7 * k + 6) (-1)) n l0 l1 := by
  have hn := h.1.1
  have eo : ∀ j, j < 7 → j ≠ 6 → fl (upd s (8 + 7 * k + 6) (-1)) k j = fl s k j := fun j hj h3 => upd_n (show 8 + 7 * k + j ≠ 8 + 7 * k + 6 by omega)
  have e6 : fl (upd s (8 + 7 * k + 6) (-1)) k 6 = -1 := upd_s
  refine h.tile hk (fun q hq => su_c hq) (fun j hj => upd_n (by omega)) (fun j hj => ?_) ?_
  · by_cases h3 : j = 6
    · subst h3; rw [su_e, e6]
    · rw [su_n h3, eo j hj h3]; exact h.t.t0 hk j hj
  · have := h.t.ok hk
    unfold tl_ok at this ⊢
    rw [eo 0 (by omega) (by omega), eo 1 (by omega) (by omega), eo 2 (by omega) (by omega), eo 3 (by omega) (by omega), eo 4 (by omega) (by omega), eo 5 (by omega) (by omega), e6]
    exact ⟨this.1, this.2.1, this.2.2.1, this.2.2.2.1, this.2.2.2.2.1, this.2.2.2.2.2.1, Or.inl rfl⟩
theorem dry0 {s : Nat → Int32} {n : Nat} : dryF s (fun k => bt 0 k) n = dryF s (fun _ => false) n := dryF_g n (fun j _ => b_0 j)
theorem jLift (hd : 20 < d) (he : 20 < e) (hR : R τ σ) : sk_C sk_Sc d mX6_lift [.ref 0, .int v1] τ (jK e mX7_lift [.ref 0, .int v1] σ) := by
  obtain ⟨n, l0, l1, hN⟩ := hR.1
  have hn := hN.1.1
  by_cases hs : ∃ c, c < n ∧ v1 = nI c
  · obtain ⟨k, hk, rfl⟩ := hs
    have vk := vp_in_nI (show k < 10 by omega) (by omega)
    refine wX6_lift (by omega) (cSl_t hN.t.n0 hn hk (ex_i (ns_t i1_0 ⟨vk, ?_⟩)))
    rw [nI_clamp (show k < 2 ^ 31 by omega)]
    refine pX5_isLaid (sk_tileF k (by omega)) (hN.t.t0 hk) (hN.t.ok hk) (fun c hc e6 => ex_i (ns_t i1_0 ⟨vk, ?_⟩)) (fun e6 => ex_i (ns_f rfl (cE 3 (by omega) (wX7_lift (by omega) (mSl_t hN.s.2.1 hn (by omega) hk (ex_i (ns_t i1_0 (pX7_its 6 (by omega) (by omega) (ex_i (ns_f e6 (mE 3 (by omega) hR))))))))))) 
    have h2 := hN.off hk
    refine pX3_dryBut h2.t (by omega) (ex_l (pJ13_bitCount (ex_i ⟨_, rfl, wX7_lift (by omega) (mSl_t hN.s.2.1 hn (by omega) hk (ex_i (ns_t i1_0 (pX7_its 6 (by omega) (by omega) (ex_i (ns_t ?_ (pX7_lays1 6 (by omega) (by omega) ⟨rfl, pX7_drySet (n := n) ?_ (by omega) (ex_l (pX7_bitsOf (ex_i ⟨?_, ?_⟩)))⟩)))))))⟩)))
    · rw [e6]; exact nI_nm1 (by omega)
    · rw [su_s]; exact h2.s
    · rw [su_s, dry0]
    · exact hR.now (frC.u (by omega)) frM.u (by rw [su_s]; exact h2)
  · exact wX6_lift (by omega) (cSl_f hN.t.n0 hn hs (ex_i (ns_f rfl (cE 1 (by omega) (wX7_lift (by omega) (mSl_f hN.s.2.1 hn (by omega) hs (ex_i (ns_f rfl (mE 1 (by omega) hR)))))))))
end
