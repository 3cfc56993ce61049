/-! ===== the operations: gale, lifts, rings, best, odds, over, fast ===== -/
section
variable {d e : Nat} {τ σ : sk_T} {K : sk_K} {s : Nat → Int32} {n : Nat} {v v1 v2 v3 : Int32}
theorem jGale (hd : 20 < d) (he : 20 < e) (hR : R τ σ) : sk_C sk_Sc d mX6_gale [.ref 0, .int v1] τ (jK e mX7_gale [.ref 0, .int v1] σ) := by
  obtain ⟨n, l0, l1, hN⟩ := hR.1
  have hn := hN.1.1
  by_cases hg : ∃ c, c < 41 ∧ v1 = nI c
  · obtain ⟨k, hk, rfl⟩ := hg
    refine wX6_gale (by omega) (cGa_t hk (ex_i (ns_t i1_0 (pX3_blown (by omega) hN.g (fun τ3 f3 => ex_i ?_)))))
    refine pX3_takeOff hn (hN.sc f3).t.n0 (pLift_is hn) ⟨rfl, _, rfl, ?_⟩
    refine wX7_gale (by omega) (mGa_t (by omega) hk (ex_i (br_f i1_0 (pX7_galeNow (by omega) hN.s hN.m0 (fun σ2 f2 => ex_i ⟨rfl, ?_⟩)))))
    exact hR.now (f3.fr.tr (take_fr hn)) (f2.fr.tr frM.w) (by rw [sw_s]; exact (hN.sc f3).take n (Nat.le_refl _))
  · exact wX6_gale (by omega) (cGa_f hg (ex_i (ns_f rfl (cE 1 (by omega) (wX7_gale (by omega) (mGa_f (by omega) hg (ex_i (br_t rfl (mE 1 (by omega) hR)))))))))
theorem jLifts (hd : 20 < d) (he : 20 < e) (hR : R τ σ) : sk_C sk_Sc d mX6_lifts [.ref 0, .int v1, .int v2] τ (jK e mX7_lifts [.ref 0, .int v1, .int v2] σ) := by
  obtain ⟨n, l0, l1, hN⟩ := hR.1
  have hn := hN.1.1
  by_cases hg : ∃ c, c < 41 ∧ v1 = nI c
  · obtain ⟨k, hk, rfl⟩ := hg
    by_cases hb : ∃ c, c < 2 ∧ v2 = nI c
    · obtain ⟨b, hb, rfl⟩ := hb
      refine wX6_lifts (by omega) (cGa_t hk (ex_i (br_f i1_0 (cBt_t hb (ex_i (ns_t i1_0 (pX3_blown (by omega) hN.g (fun τ3 f3 => ex_i ?_))))))))
      have hN3 := hN.sc f3
      refine ⟨fun e2 => pX3_dryG (by omega) hN3.g (ex_l (pJ13_bitCount (ex_i ⟨_, rfl, ?_⟩))), fun e2 => ⟨_, rfl, ?_⟩⟩
      · refine wX7_lifts (by omega) (mGa_t (by omega) hk (ex_i (br_f i1_0 (mIn_t (N := 1) (by omega) hb (ex_i (ns_t i1_0 (pX7_findHolds (n := n) (by omega) hN.s hN.m0 (fun σ4 f4 h7 => ⟨rfl, ns_t e2 ?_⟩))))))))
        refine pX7_dryBehind (n := n) (lw := l0) (by omega) (by rw [f4.s1]; exact hN.s) (by rw [f4.s1]; exact hN.m0) (fun σ5 f5 => ex_l (pX7_bitsOf (ex_i ⟨?_, hR.sc f3 (f4.tr f5)⟩)))
        rw [f4.s1]; rfl
      · refine wX7_lifts (by omega) (mGa_t (by omega) hk (ex_i (br_f i1_0 (mIn_t (N := 1) (by omega) hb (ex_i (ns_t i1_0 (pX7_findHolds (n := n) (by omega) hN.s hN.m0 (fun σ4 f4 h7 => ⟨rfl, ns_f e2 ?_⟩))))))))
        refine pX7_liftedBy (n := n) (f := fun k2 => pHold (σ 1) l0 k2 (nI k)) (fast := fun _ => false) (by omega) (by rw [f4.s1]; exact hN.s) h7 isS_0 (ex_i ⟨?_, hR.sc f3 f4⟩)
        rw [f4.s1, pLift_cg (wk2 := wkH (σ 1) l0 (nI k)) (fun q hq => by unfold wkM wkH; simp)]
    · exact wX6_lifts (by omega) (cGa_t hk (ex_i (br_f i1_0 (cBt_f hb (ex_i (ns_f rfl (cE 1 (by omega) (wX7_lifts (by omega) (mGa_t (by omega) hk (ex_i (br_f i1_0 (mIn_f (N := 1) (by omega) hb (ex_i (ns_f rfl (mE 1 (by omega) hR)))))))))))))))
  · exact wX6_lifts (by omega) (cGa_f hg (ex_i (br_t rfl (cE 1 (by omega) (wX7_lifts (by omega) (mGa_f (by omega) hg (ex_i (br_t rfl (mE 1 (by omega) hR)))))))))
theorem jRings (hd : 20 < d) (he : 20 < e) (hR : R τ σ) : sk_C sk_Sc d mX6_rings [.ref 0] τ (jK e mX7_rings [.ref 0] σ) := by
  obtain ⟨n, l0, l1, hN⟩ := hR.1
  exact wX6_rings (by omega) (pX3_ringing hN.t (by omega) (ex_i ⟨_, rfl, pX7_rings hN.s (by omega) ⟨rfl, hR⟩⟩))
theorem jBest (hd : 20 < d) (he : 20 < e) (hR : R τ σ) : sk_C sk_Sc d mX6_best [.ref 0, .int v1, .int v2] τ (jK e mX7_best [.ref 0, .int v1, .int v2] σ) := by
  obtain ⟨n, l0, l1, hN⟩ := hR.1
  have hn := hN.1.1
  by_cases hg : ∃ c, c < n ∧ v1 = nI c
  · obtain ⟨k, hk, rfl⟩ := hg
    by_cases hb : ∃ c, c < 2 ∧ v2 = nI c
    · obtain ⟨b, hb, rfl⟩ := hb
      refine wX6_best (by omega) (cSl_t hN.t.n0 hn hk (ex_i (br_f i1_0 (cBt_t hb (ex_i (ns_t i1_0 (pX3_bestCell hk hN.t (by omega) (ex_i ?_))))))))
      have ref : ∀ {K2 : sk_K}, (bsF (σ 1) n k 48 = none → sk_C sk_Sm (e - 1) mX7_error [.ref 0, .int 2] σ (fun w t => ∃ r, w = some (.int r) ∧ K2 (some (.int r)) t)) → (∀ c w, bsF (σ 1) n k 48 = some (c, w) → K2 (some (.int (if nI b = 0 then nI c else nI w))) σ) → sk_C sk_Sm e mX7_best [.ref 0, .int (nI k), .int (nI b)] σ K2 := fun hN0 hS0 => by
        refine wX7_best (by omega) (mSl_t hN.s.2.1 hn (by omega) hk (ex_i (br_f i1_0 (mIn_t (N := 1) (by omega) hb (ex_i (ns_t i1_0 (pX7_its 6 (by omega) (by omega) (ex_i ?_))))))))
        have := lX7_best (what := nI b) hk hN.s (by omega) hN0 hS0 48 0 rfl (fl (σ 1) k 6)
        rw [show sk_u σ 1 (8 + 7 * k + 6) (fl (σ 1) k 6) = σ from su_id] at this
        exact this
      cases hbs : bsF (σ 1) n k 48 with
      | none => exact br_f (by decide) (cE 2 (by omega) (ref (fun _ => mE 2 (by omega) hR) (fun c w z => absurd (hbs.symm.trans z) (by simp))))
      | some p =>
        obtain ⟨h1, h2, h3, h4⟩ := bs_ok 48 p.1 p.2 hbs
        refine br_t (nI_pos' (by omega)) ⟨fun e2 => pX3_dryWith hk h1 hN.t (by omega) (ex_i ⟨_, rfl, ref (fun z => absurd (hbs.symm.trans z) (by simp)) (fun c w z => ?_)⟩), fun e2 => ⟨_, rfl, ref (fun z => absurd (hbs.symm.trans z) (by simp)) (fun c w z => ?_)⟩⟩
        · have z2 := hbs.symm.trans z
          cases z2
          rw [if_neg e2]
          exact ⟨congrArg (fun x => some (Value.int (nI x))) h3, hR⟩
        · have z2 := hbs.symm.trans z
          cases z2
          rw [if_pos e2]
          exact ⟨rfl, hR⟩
    · exact wX6_best (by omega) (cSl_t hN.t.n0 hn hk (ex_i (br_f i1_0 (cBt_f hb (ex_i (ns_f rfl (cE 1 (by omega) (wX7_best (by omega) (mSl_t hN.s.2.1 hn (by omega) hk (ex_i (br_f i1_0 (mIn_f (N := 1) (by omega) hb (ex_i (ns_f rfl (mE 1 (by omega) hR)))))))))))))))
  · exact wX6_best (by omega) (cSl_f hN.t.n0 hn hg (ex_i (br_t rfl (cE 1 (by omega) (wX7_best (by omega) (mSl_f hN.s.2.1 hn (by omega) hg (ex_i (br_t rfl (mE 1 (by omega) hR)))))))))
theorem cCl_t {k : Nat} (hk : k < 48) (h : K (some (.int 1)) τ) : sk_C sk_Sc d mX6_isCell [.int (nI k)] τ K := pX6_isCell (fun _ _ _ => h) (fun z => absurd ⟨k, hk, rfl⟩ z)
theorem cCl_f (hk : ¬ ∃ c, c < 48 ∧ v = nI c) (h : K (some (.int 0)) τ) : sk_C sk_Sc d mX6_isCell [.int v] τ K := pX6_isCell (fun c hc e => absurd ⟨c, hc, e⟩ hk) (fun _ => h)
theorem jOdds (hd : 20 < d) (he : 20 < e) (hR : R τ σ) : sk_C sk_Sc d mX6_odds [.ref 0, .int v1, .int v2] τ (jK e mX7_odds [.ref 0, .int v1, .int v2] σ) := by
  obtain ⟨n, l0, l1, hN⟩ := hR.1
  have hn := hN.1.1
  by_cases hg : ∃ c, c < 48 ∧ v1 = nI c
  · obtain ⟨k, hk, rfl⟩ := hg
    by_cases hb : ∃ c, c < 2 ∧ v2 = nI c
    · obtain ⟨b, hb, rfl⟩ := hb
      refine wX6_odds (by omega) (cCl_t hk (ex_i (br_f i1_0 (cBt_t hb (ex_i (ns_t i1_0 (lX6_odds hk (by omega) hN.g (fun τ2 f2 => ⟨_, rfl, ?_⟩) 40 0 rfl τ scC.rf)))))))
      exact wX7_odds (by omega) (mIn_t (N := 47) (by omega) hk (ex_i (br_f i1_0 (mIn_t (N := 1) (by omega) hb (ex_i (ns_t i1_0 (lX7_odds hk (by omega) hN.s hN.m0 (fun σ2 f3 => ⟨rfl, hR.sc f2 f3⟩) 40 0 rfl σ scN.rf)))))))
    · exact wX6_odds (by omega) (cCl_t hk (ex_i (br_f i1_0 (cBt_f hb (ex_i (ns_f rfl (cE 1 (by omega) (wX7_odds (by omega) (mIn_t (N := 47) (by omega) hk (ex_i (br_f i1_0 (mIn_f (N := 1) (by omega) hb (ex_i (ns_f rfl (mE 1 (by omega) hR)))))))))))))))
  · exact wX6_odds (by omega) (cCl_f hg (ex_i (br_t rfl (cE 1 (by omega) (wX7_odds (by omega) (mIn_f (N := 47) (by omega) hg (ex_i (br_t rfl (mE 1 (by omega) hR)))))))))
theorem jFast (hd : 20 < d) (he : 20 < e) (hR : R τ σ) : sk_C sk_Sc d mX6_fast [.ref 0, .int v1, .int v2] τ (jK e mX7_fast [.ref 0, .int v1, .int v2] σ) := by
  obtain ⟨n, l0, l1, hN⟩ := hR.1
  have hn := hN.1.1
  by_cases hg : ∃ c, c < 41 ∧ v1 = nI c
  · obtain ⟨k, hk, rfl⟩ := hg
    by_cases hb : ∃ c, c < 2 ∧ v2 = nI c
    · obtain ⟨b, hb, rfl⟩ := hb
      refine wX6_fast (by omega) (cGa_t hk (ex_i (br_f i1_0 (cBt_t hb (ex_i (ns_t i1_0 (pX3_mustBeFast (by omega) hN.g (fun τ3 v f3 hv => ex_i ?_))))))))
      obtain ⟨u, hu, rfl, hub⟩ := isS_num hv hn (fun o ho => by unfold uB; rw [decide_eq_false (by omega)]; rfl)
      have ref : ∀ {K2 : sk_K}, (nI b = 0 → ∀ σ2, scN σ σ2 → K2 (some (.int (nI (pop10 u)))) σ2) → (¬ nI b = 0 → ∀ σ2, scN σ σ2 → K2 (some (.int (nI u))) σ2) → sk_C sk_Sm e mX7_fast [.ref 0, .int (nI k), .int (nI b)] σ K2 := fun {K2} h0 h1 => by
        refine wX7_fast (by omega) (mGa_t (by omega) hk (ex_i (br_f i1_0 (mIn_t (N := 1) (by omega) hb (ex_i (ns_t i1_0 (pX7_findHolds (n := n) (by omega) hN.s hN.m0 (fun σ4 f4 h7 => ⟨rfl, ?_⟩))))))))
        have := lX7_fast (d := e) (σ := σ4) (K := K2) (n := n) (lw := l0) (g := nI k) (what := nI b) (u := u) (by omega) (by rw [f4.s1]; exact hN.s) (by rw [f4.s1]; exact h7) hu (by rw [f4.s1]; exact hub) (fun z => h0 z σ4 f4) (fun z => h1 z σ4 f4) (2 ^ n) 0 (by omega)
        rw [if_pos (Nat.zero_le _)] at this
        exact this
      refine ⟨fun e2 => ⟨_, rfl, ref (fun z => absurd z e2) (fun _ σ4 f4 => ⟨rfl, hR.sc f3 f4⟩)⟩, fun e2 => pJ6_bitCount (lt_1024 hu hn) (ex_i ⟨_, rfl, ref (fun _ σ4 f4 => ⟨rfl, hR.sc f3 f4⟩) (fun z => absurd e2 z)⟩)⟩
    · exact wX6_fast (by omega) (cGa_t hk (ex_i (br_f i1_0 (cBt_f hb (ex_i (ns_f rfl (cE 1 (by omega) (wX7_fast (by omega) (mGa_t (by omega) hk (ex_i (br_f i1_0 (mIn_f (N := 1) (by omega) hb (ex_i (ns_f rfl (mE 1 (by omega) hR)))))))))))))))
  · exact wX6_fast (by omega) (cGa_f hg (ex_i (br_t rfl (cE 1 (by omega) (wX7_fast (by omega) (mGa_f (by omega) hg (ex_i (br_t rfl (mE 1 (by omega) hR)))))))))
theorem jOver (hd : 20 < d) (he : 20 < e) (hR : R τ σ) : sk_C sk_Sc d mX6_over [.ref 0, .int v1, .int v2] τ (jK e mX7_over [.ref 0, .int v1, .int v2] σ) := by
  obtain ⟨n, l0, l1, hN⟩ := hR.1
  have hn := hN.1.1
  by_cases hg : ∃ c, c < 48 ∧ v1 = nI c
  · obtain ⟨c, hc, rfl⟩ := hg
    by_cases hb : ∃ c, c < 2 ∧ v2 = nI c
    · obtain ⟨b, hb, rfl⟩ := hb
      refine wX6_over (by omega) (cCl_t hc (ex_i (br_f i1_0 (cBt_t hb (ex_i (ns_t i1_0 (pX3_lyingOver hc hN.t (by omega) (fun v hv => ex_i ?_))))))))
      have hT : ∀ o, cvB (σ 1) n (1 <<< (Int32.toInt64 (nI c) &&& 63)) (kdB (σ 1) none) o = (decide (o < n) && btL (tCov (pOwn (fl (σ 1) o))) c) := fun o => by
        rw [cvB_none hN.s]
        have := cov_bit (o := pOwn (fl (σ 1) o)) (c := c) (by omega)
        cases hq : btL (tCov (pOwn (fl (σ 1) o))) c
        · rw [decide_eq_true (this.mpr hq)]; rfl
        · have hne : ¬ (tCov (pOwn (fl (σ 1) o)) &&& (1 <<< (Int32.toInt64 (nI c) &&& 63)) = 0) := fun z => by
            rw [this.mp z] at hq; cases hq
          rw [decide_eq_false hne]; rfl
      have hTb : ∀ o, n ≤ o → (decide (o < n) && btL (tCov (pOwn (fl (σ 1) o))) c) = false := fun o ho => by rw [decide_eq_false (by omega)]; rfl
      refine ⟨fun e2 => pX3_toComeTo hN.t (by omega) hv hTb (fun v4 R4 h4 c4 => ex_i ⟨_, rfl, ?_⟩), fun e2 => ⟨_, rfl, ?_⟩⟩
      · refine wX7_over (by omega) (mIn_t (N := 47) (by omega) hc (ex_i (br_f i1_0 (mIn_t (N := 1) (by omega) hb (ex_i (ns_t i1_0 (pX7_coveredBy (rr := none) (fun r z => by cases z) hN.s (by omega) (fun v5 h5 => ex_i ?_))))))))
        have hb1 : nI b = 1 := by
          match b, hb, e2 with
          | 0, _, e2 => exact absurd rfl e2
          | 1, _, _ => rfl
        rw [hb1]
        have h5 := h5.cg (fun o _ => hT o)
        have hfin : ∀ v6 R6, isS v6 R6 → isCl (σ 1) n (fun o => decide (o < n) && btL (tCov (pOwn (fl (σ 1) o))) c) R6 → (some (Value.int v6) = some (Value.int v4) ∧ R τ σ) := fun v6 R6 h6 c6 =>
          ⟨congrArg (fun x => some (Value.int x)) (h6.eq (h4.cg (fun o _ => c4.eq c6 o))), hR⟩
        refine lX7_over37 (T := fun o => decide (o < n) && btL (tCov (pOwn (fl (σ 1) o))) c) hN.s (by omega) hfin _ v5 _ 0 (fun _ => false) rfl h5 isS_0 hTb (fun _ z => z) (fun C _ z => z) ?_
        intro z o k ho hk hS
        exact absurd ((z k hk).trans hS) Bool.false_ne_true
      · refine wX7_over (by omega) (mIn_t (N := 47) (by omega) hc (ex_i (br_f i1_0 (mIn_t (N := 1) (by omega) hb (ex_i (ns_t i1_0 (pX7_coveredBy (rr := none) (fun r z => by cases z) hN.s (by omega) (fun v5 h5 => ex_i ?_))))))))
        refine bX7_over_37 (ns_t (by rw [e2]; decide) ⟨?_, hR⟩)
        rw [(h5.cg (fun o _ => hT o)).eq hv]
    · exact wX6_over (by omega) (cCl_t hc (ex_i (br_f i1_0 (cBt_f hb (ex_i (ns_f rfl (cE 1 (by omega) (wX7_over (by omega) (mIn_t (N := 47) (by omega) hc (ex_i (br_f i1_0 (mIn_f (N := 1) (by omega) hb (ex_i (ns_f rfl (mE 1 (by omega) hR)))))))))))))))
  · exact wX6_over (by omega) (cCl_f hg (ex_i (br_t rfl (cE 1 (by omega) (wX7_over (by omega) (mIn_f (N := 47) (by omega) hg (ex_i (br_t rfl (mE 1 (by omega) hR)))))))))
end
