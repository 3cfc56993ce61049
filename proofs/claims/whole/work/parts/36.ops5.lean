/-! ===== the operations: slate, slateIs, become, as ===== -/
theorem or2_f {c1 c2 A B : Prop} (h : c1 ∨ c2) (b : B) : (c1 → B) ∧ (¬ c1 → ((c2 → B) ∧ (¬ c2 → A))) := ⟨fun _ => b, fun h1 => ⟨fun _ => b, fun h2 => absurd h (fun z => z.elim h1 h2)⟩⟩
theorem or2_t {c1 c2 A B : Prop} (h1 : ¬ c1) (h2 : ¬ c2) (a : A) : (c1 → B) ∧ (¬ c1 → ((c2 → B) ∧ (¬ c2 → A))) := ⟨fun z => absurd z h1, fun _ => ⟨fun z => absurd z h2, fun _ => a⟩⟩
theorem on2_f {c1 c2 A B : Prop} (h : c1 ∨ ¬ c2) (b : B) : (c1 → B) ∧ (¬ c1 → ((c2 → A) ∧ (¬ c2 → B))) := ⟨fun _ => b, fun h1 => ⟨fun h2 => absurd h (fun z => z.elim h1 (fun z => z h2)), fun _ => b⟩⟩
theorem on2_t {c1 c2 A B : Prop} (h1 : ¬ c1) (h2 : c2) (a : A) : (c1 → B) ∧ (¬ c1 → ((c2 → A) ∧ (¬ c2 → B))) := ⟨fun z => absurd z h1, fun _ => ⟨fun _ => a, fun z => absurd h2 z⟩⟩
theorem rng_12 (v : Int32) : ((¬ v < 1 ∧ ¬ 2 < v) ∧ (v = 1 ∨ v = 2)) ∨ (v < 1 ∨ 2 < v) := by
  by_cases h1 : v < 1
  · exact Or.inr (Or.inl h1)
  · by_cases h2 : 2 < v
    · exact Or.inr (Or.inr h2)
    · obtain ⟨j, hj1, hj2, rfl⟩ := rg_1 2 (by omega) h1 (Int32.not_lt.mp h2)
      refine Or.inl ⟨⟨h1, h2⟩, ?_⟩
      rcases (show j = 1 ∨ j = 2 by omega) with rfl | rfl
      · exact Or.inl rfl
      · exact Or.inr rfl
theorem rng_ln (v : Int32) (n : Nat) (hn : n < 2 ^ 31) : v = -1 ∨ (∃ c, c < n ∧ v = nI c) ∨ ((v < -1 ∨ ¬ v < nI n) ∧ ¬ v = -1 ∧ ¬ ∃ c, c < n ∧ v = nI c) := by
  by_cases e : v = -1
  · exact Or.inl e
  · rcases ix_cases v n hn with h | ⟨h1, h2⟩
    · exact Or.inr (Or.inl h)
    · refine Or.inr (Or.inr ⟨?_, e, h2⟩)
      rcases h1 with h1 | h1
      · left
        rw [Int32.lt_iff_toInt_lt] at h1 ⊢
        have h0 : (0 : Int32).toInt = 0 := rfl
        have hm : (-1 : Int32).toInt = -1 := rfl
        have hne : v.toInt ≠ -1 := fun z => e (Int32.toInt_inj.mp (z.trans hm.symm))
        rw [h0] at h1
        rw [hm]
        omega
      · exact Or.inr (Int32.not_lt.mpr h1)
theorem RN.push {τ τ2 : sk_T} {s s2 : Nat → Int32} {n : Nat} {l0 l1 : Option (List Tk)} (h : RN τ s n l0 l1) (hn : n < 10) (hτ : ∀ c, c ≠ 1 → c ≠ 3 + n → τ2 c = τ c) (h1 : ∀ j, j ≠ 1 → τ2 1 j = τ 1 j) (h11 : τ2 1 1 = nI (n + 1)) (hs : ∀ j, j ≠ 6 → (j < 8 + 7 * n ∨ 8 + 7 * n + 7 ≤ j) → s2 j = s j) (h6 : s2 6 = nI (n + 1)) (ht : ∀ j, j < 7 → τ2 (3 + n) j = fl s2 n j) (hok : tl_ok (fl s2 n) n) : RN τ2 s2 (n + 1) l0 l1 := by
  obtain ⟨k1, k2, k3, k4, ⟨f, f1, f2, f3, f4⟩, w, w1, w2, w3, w4⟩ := h
  obtain ⟨a1, a2, a3, a4, a5, a6, a7, a8⟩ := k1
  refine ⟨⟨by omega, h6, h11, ?_, ?_, ?_, ?_, ?_⟩, fun k hk => ?_, k3.cg (hτ _ (by omega) (by omega)) (hτ _ (by omega) (by omega)) (fun j hj _ => hs j (by omega) (by omega)) (by omega), k4.cg (hτ _ (by omega) (by omega)) (hτ _ (by omega) (by omega)) (fun j hj _ => hs j (by omega) (by omega)) (by omega), ?_, ?_⟩
  · rw [hs 0 (by omega) (by omega), h1 2 (by omega)]; exact a4
  · rw [hs 1 (by omega) (by omega)]; exact a5
  · rw [hs 1 (by omega) (by omega), h1 3 (by omega)]; exact a6
  · rw [hs 2 (by omega) (by omega), h1 4 (by omega)]; exact a7
  · rw [hs 3 (by omega) (by omega), h1 5 (by omega)]; exact a8
  · by_cases e : k = n
    · subst e; exact ⟨ht, hok⟩
    · have e2 : ∀ j, j < 7 → fl s2 k j = fl s k j := fun j hj => hs _ (by omega) (by omega)
      rw [hτ (3 + k) (by omega) (by omega)]
      refine ⟨fun j hj => ((k2 k (by omega)).1 j hj).trans (e2 j hj).symm, ?_⟩
      have := (k2 k (by omega)).2
      unfold tl_ok at this ⊢
      rw [e2 0 (by omega), e2 1 (by omega), e2 2 (by omega), e2 3 (by omega), e2 4 (by omega), e2 5 (by omega), e2 6 (by omega)]
      exact this
  · exact ⟨f, f1, (hs 4 (by omega) (by omega)).trans f2, (h1 7 (by omega)).trans f3, fun q hq => by rw [hτ 39 (by omega) (by omega), hs _ (by omega) (by omega)]; exact f4 q hq⟩
  · exact ⟨w, w1, (hs 5 (by omega) (by omega)).trans w2, (h1 10 (by omega)).trans w3, fun q hq => by rw [hτ 41 (by omega) (by omega), hs _ (by omega) (by omega)]; exact w4 q hq⟩
section
variable {d e : Nat} {τ σ : sk_T} {K : sk_K} {s : Nat → Int32} {n : Nat} {v v1 v2 v3 v4 : Int32} {l0 l1 : Option (List Tk)}
theorem cKm_t {k : Nat} (hk : k < 70) (h : K (some (.int 1)) τ) : sk_C sk_Sc d mX6_isKindAndM [.int (nI k)] τ K :=
  wX6_isKindAndM (rg_b 70 (by omega) (fun _ _ _ => h) (fun _ z => absurd ⟨k, hk, rfl⟩ z))
theorem cKm_f (hk : ¬ ∃ c, c < 70 ∧ v = nI c) (h : K (some (.int 0)) τ) : sk_C sk_Sc d mX6_isKindAndM [.int v] τ K :=
  wX6_isKindAndM (rg_b 70 (by omega) (fun c hc e => absurd ⟨c, hc, e⟩ hk) (fun _ _ => h))
theorem mKd_t {k : Nat} (hd : 0 < d) (hk : k < 70) (h : K (some (.int 1)) σ) : sk_C sk_Sm d mX7_isKind [.int (nI k)] σ K :=
  wX7_isKind hd (mIn_t (N := 69) (by omega) hk (ex_i ⟨rfl, h⟩))
theorem mKd_f (hd : 0 < d) (hk : ¬ ∃ c, c < 70 ∧ v = nI c) (h : K (some (.int 0)) σ) : sk_C sk_Sm d mX7_isKind [.int v] σ K :=
  wX7_isKind hd (mIn_f (N := 69) (by omega) hk (ex_i ⟨rfl, h⟩))
theorem km_q {k : Nat} (hk : k < 70) : nI k / 10 = nI (k / 10) ∧ nI k % 10 = nI (k % 10) :=
  ⟨pk_div (d := 10) (by omega) (by omega) (by omega), nI_mod (b := 10) (by omega) (by omega) (by omega)⟩
/-- the row with one slate more -/
def nwV (a b w q l : Int32) : Nat → Int32
  | 0 => a
  | 1 => b
  | 2 => w
  | 3 => q
  | 4 => l
  | 5 => 0
  | _ => -1
def nwS (s : Nat → Int32) (n : Nat) (a b w q l : Int32) : Nat → Int32 :=
  upd (upd (upd (upd (upd (upd (upd (upd s (8 + 7 * n + 0) a) (8 + 7 * n + 1) b) (8 + 7 * n + 2) w) (8 + 7 * n + 3) q) (8 + 7 * n + 4) l) (8 + 7 * n + 5) 0) (8 + 7 * n + 6) (-1)) 6 (nI (n + 1))
theorem nw_o {a b w q l : Int32} {j : Nat} (h6 : j ≠ 6) (h : j < 8 + 7 * n ∨ 8 + 7 * n + 7 ≤ j) : nwS s n a b w q l j = s j := by
  unfold nwS
  rw [upd_n h6, upd_n (by omega), upd_n (by omega), upd_n (by omega), upd_n (by omega), upd_n (by omega), upd_n (by omega), upd_n (by omega)]
theorem nw_f {a b w q l : Int32} : ∀ j, j < 7 → fl (nwS s n a b w q l) n j = nwV a b w q l j := by
  intro j hj
  unfold fl nwS
  rw [upd_n (by omega)]
  match j, hj with
  | 0, _ => rw [upd_n (by omega), upd_n (by omega), upd_n (by omega), upd_n (by omega), upd_n (by omega), upd_n (by omega), upd_s]; rfl
  | 1, _ => rw [upd_n (by omega), upd_n (by omega), upd_n (by omega), upd_n (by omega), upd_n (by omega), upd_s]; rfl
  | 2, _ => rw [upd_n (by omega), upd_n (by omega), upd_n (by omega), upd_n (by omega), upd_s]; rfl
  | 3, _ => rw [upd_n (by omega), upd_n (by omega), upd_n (by omega), upd_s]; rfl
  | 4, _ => rw [upd_n (by omega), upd_n (by omega), upd_s]; rfl
  | 5, _ => rw [upd_n (by omega), upd_s]; rfl
  | 6, _ => rw [upd_s]; rfl
theorem mNew {a b w q l : Int32} (hn : n < 10) (h6 : σ 1 6 = nI n) (h : K (some (.int (nI n))) (sk_w σ 1 (nwS (σ 1) n a b w q l))) :
    sk_C sk_Sm d mX7_lays1 [.ref 0, .int (nI n), .int 0, .int a] σ (fun w1 t82 => w1 = none ∧ sk_C sk_Sm d mX7_lays1 [.ref 0, .int (nI n), .int 1, .int b] t82 (fun w2 t93 => w2 = none ∧ sk_C sk_Sm d mX7_lays1 [.ref 0, .int (nI n), .int 2, .int w] t93 (fun w3 t101 => w3 = none ∧ sk_C sk_Sm d mX7_lays1 [.ref 0, .int (nI n), .int 3, .int q] t101 (fun w4 t109 => w4 = none ∧ sk_C sk_Sm d mX7_lays1 [.ref 0, .int (nI n), .int 4, .int l] t109 (fun w5 t118 => w5 = none ∧ sk_C sk_Sm d mX7_lays1 [.ref 0, .int (nI n), .int 5, .int 0] t118 (fun w6 t126 => w6 = none ∧ sk_C sk_Sm d mX7_lays1 [.ref 0, .int (nI n), .int 6, .int (-1)] t126 (fun w7 t135 => w7 = none ∧ K (some (.int (nI n))) (sk_u t135 1 6 ((t135 1 6) + 1))))))))) := by
  refine pX7_lays1 0 hn (by omega) ⟨rfl, pX7_lays1 1 hn (by omega) ⟨rfl, pX7_lays1 2 hn (by omega) ⟨rfl, pX7_lays1 3 hn (by omega) ⟨rfl, pX7_lays1 4 hn (by omega) ⟨rfl, pX7_lays1 5 hn (by omega) ⟨rfl, pX7_lays1 6 hn (by omega) ⟨rfl, ?_⟩⟩⟩⟩⟩⟩⟩
  rw [su_n (by omega), su_n (by omega), su_n (by omega), su_n (by omega), su_n (by omega), su_n (by omega), su_n (by omega), h6, nI_1]
  rw [show sk_u σ 1 (8 + 7 * n + 0) a = sk_w σ 1 (upd (σ 1) (8 + 7 * n + 0) a) from rfl, su_w, su_w, su_w, su_w, su_w, su_w, su_w]
  exact h
theorem cNew {km : Nat} {w l q : Int32} (hd : 1 < d) (hn : n < 10) (hkm : km < 70) (h : ∀ τ2, (∀ c, c ≠ 3 + n → τ2 c = τ c) → (∀ j, j < 7 → τ2 (3 + n) j = nwV (nI (km / 10)) (nI (km % 10)) w q l j) → K none τ2) : sk_C sk_Sc d mX5_begin [.ref (3 + n), .int (nI km), .int w, .int q, .int l] τ K := by
  refine wX5_begin (sk_tileF n hn) (by omega) (wX5_turn (sk_tileF n hn) ⟨rfl, ?_⟩)
  rw [(km_q hkm).1, (km_q hkm).2]
  refine h _ (fun c hc => ?_) (fun j hj => ?_)
  · rw [su_c hc, su_c hc, su_c hc, su_c hc, su_c hc, su_c hc, su_c hc]
  · match j, hj with
    | 0, _ => rw [su_n (by omega), su_n (by omega), su_n (by omega), su_n (by omega), su_n (by omega), su_n (by omega), su_e]; rfl
    | 1, _ => rw [su_n (by omega), su_n (by omega), su_n (by omega), su_n (by omega), su_n (by omega), su_e]; rfl
    | 2, _ => rw [su_n (by omega), su_n (by omega), su_n (by omega), su_n (by omega), su_e]; rfl
    | 3, _ => rw [su_n (by omega), su_n (by omega), su_n (by omega), su_e]; rfl
    | 4, _ => rw [su_n (by omega), su_n (by omega), su_e]; rfl
    | 5, _ => rw [su_n (by omega), su_e]; rfl
    | 6, _ => rw [su_e]; rfl
theorem nw_ok {a b q : Nat} {w l : Int32} (ha : a ≤ 6) (hb : b ≤ 9) (hw : w = 1 ∨ w = 2) (hq : q ≤ 9) (hl : l = -1 ∨ ∃ j, j < n ∧ l = nI j) : tl_ok (fl (nwS s n (nI a) (nI b) w (nI q) l) n) n := by
  unfold tl_ok
  rw [nw_f 0 (by omega), nw_f 1 (by omega), nw_f 2 (by omega), nw_f 3 (by omega), nw_f 4 (by omega), nw_f 5 (by omega), nw_f 6 (by omega)]
  exact ⟨⟨a, ha, rfl⟩, ⟨b, hb, rfl⟩, hw, ⟨q, hq, rfl⟩, hl, ⟨0, by omega, rfl⟩, Or.inl rfl⟩
/-- the class's new slate and the reference's -/
theorem jNew {km q : Nat} {w l : Int32} (hd : 2 < d) (hR : R τ σ) (hN : RN τ (σ 1) n l0 l1) (hn : n < 10) (hkm : km < 70) (hw : w = 1 ∨ w = 2) (hq : q ≤ 9) (hl : l = -1 ∨ ∃ j, j < n ∧ l = nI j)
    (h : ∀ τ2, R τ2 (sk_w σ 1 (nwS (σ 1) n (nI (km / 10)) (nI (km % 10)) w (nI q) l)) → K (some (.int (nI n))) τ2) :
    sk_C sk_Sc d mX5_begin [.ref (3 + n), .int (nI km), .int w, .int (nI q), .int l] τ (fun w t86 => w = none ∧ K (some (.int (((sk_u t86 1 1 ((t86 1 1) + 1)) 1 1) - 1))) (sk_u t86 1 1 ((t86 1 1) + 1))) := by
  refine cNew (by omega) hn hkm (fun τ2 f2 g2 => ⟨rfl, ?_⟩)
  have h11 : τ2 1 1 = nI n := by rw [f2 1 (by omega)]; exact hN.t.n0
  rw [su_e, h11, nI_1, nI_m1]
  refine h _ (hR.now (n := n + 1) (l0 := l0) (l1 := l1) (fun c hc => (su_c (by omega)).trans (f2 c (by omega))) frM.w ?_)
  rw [sw_s]
  refine hN.push hn (fun c h1 h3 => (su_c h1).trans (f2 c h3)) (fun j hj => (su_n hj).trans (congrFun (f2 1 (by omega)) j)) su_e (fun j h6 hj => nw_o h6 hj) ?_ (fun j hj => ?_) (nw_ok (by omega) (by omega) hw hq hl)
  · unfold nwS; exact upd_s
  · rw [su_c (by omega), nw_f j hj]; exact g2 j hj
theorem jSlate (hd : 20 < d) (he : 20 < e) (hR : R τ σ) : sk_C sk_Sc d mX6_slate [.ref 0, .int v1, .int v2, .int v3, .int v4] τ (jK e mX7_slate [.ref 0, .int v1, .int v2, .int v3, .int v4] σ) := by
  obtain ⟨n, l0, l1, hN⟩ := hR.1
  have hn := hN.1.1
  have h6 : σ 1 6 = nI n := hN.s.2.1
  have h11 : τ 1 1 = nI n := hN.t.n0
  by_cases hb : ∃ c, c < 70 ∧ v1 = nI c
  rotate_left
  · exact wX6_slate (by omega) (cKm_f hb (ex_i (br_t rfl (cE 1 (by omega) (wX7_slate (by omega) (mKd_f (by omega) hb (ex_i (br_t rfl (mE 1 (by omega) hR)))))))))
  obtain ⟨km, hkm, rfl⟩ := hb
  rcases rng_12 v2 with ⟨⟨w1, w2⟩, hw⟩ | hw
  rotate_left
  · exact wX6_slate (by omega) (cKm_t hkm (ex_i (br_f i1_0 (or2_f hw (cE 1 (by omega) (wX7_slate (by omega) (mKd_t (by omega) hkm (ex_i (br_f i1_0 (wX7_in (or2_f hw (ex_i (br_t rfl (mE 1 (by omega) hR))))))))))))))
  by_cases hq : ∃ c, c < 10 ∧ v3 = nI c
  rotate_left
  · exact wX6_slate (by omega) (cKm_t hkm (ex_i (br_f i1_0 (or2_t w1 w2 (cDg_f hq (ex_i (br_t rfl (cE 1 (by omega) (wX7_slate (by omega) (mKd_t (by omega) hkm (ex_i (br_f i1_0 (wX7_in (or2_t w1 w2 (ex_i (br_f i1_0 (mIn_f (N := 9) (by omega) hq (ex_i (br_t rfl (mE 1 (by omega) hR))))))))))))))))))))
  obtain ⟨q, hq, rfl⟩ := hq
  have h10 : n < 10 → (τ 1 1 < 10 ∧ ¬ σ 1 6 = 10) := fun z => by
    rw [h6, h11]
    exact ⟨(nI_ltI (b := 10) (by omega) (by omega)).mpr z, fun y => absurd ((nI_iff (b := 10) (by omega) (by omega)).mp y) (by omega)⟩
  have h10' : ¬ n < 10 → (¬ τ 1 1 < 10 ∧ σ 1 6 = 10) := fun z => by
    obtain rfl : n = 10 := by omega
    rw [h6, h11]
    exact ⟨by decide, rfl⟩
  have vn : n < 10 → vp_in (τ 1 1) 10 := fun z => by rw [h11]; exact vp_in_nI z (by omega)
  have ecl : (τ 1 1).toNatClampNeg = n := by rw [h11]; exact nI_clamp (by omega)
  rcases rng_ln v4 n (by omega) with hv | hv | ⟨hv, hv1, hv2⟩
  · subst hv
    have ln : (-1 : Int32) < τ 1 1 := by
      rw [h11, Int32.lt_iff_toInt_lt, nI_toInt (by omega), show (-1 : Int32).toInt = -1 from rfl]; omega
    by_cases z : n < 10
    · refine wX6_slate (by omega) (cKm_t hkm (ex_i (br_f i1_0 (or2_t w1 w2 (cDg_t hq (ex_i (br_f i1_0 (on2_t (by decide) ln (br_t (h10 z).1 ⟨vn z, ?_⟩)))))))))
      rw [ecl]
      refine jNew (n := n) (by omega) hR hN z hkm hw (by omega) (Or.inl rfl) (fun τ2 R2 => ⟨_, rfl, ?_⟩)
      refine wX7_slate (by omega) (mKd_t (by omega) hkm (ex_i (br_f i1_0 (wX7_in (or2_t w1 w2 (ex_i (br_f i1_0 (mIn_t (N := 9) (by omega) hq (ex_i (br_f i1_0 (br_t rfl (ns_t (h10 z).2 ?_))))))))))))
      rw [h6, (km_q hkm).1, (km_q hkm).2]
      exact mNew (K := fun w σ' => w = some (.int (nI n)) ∧ R τ2 σ') z h6 ⟨rfl, R2⟩
    · exact wX6_slate (by omega) (cKm_t hkm (ex_i (br_f i1_0 (or2_t w1 w2 (cDg_t hq (ex_i (br_f i1_0 (on2_t (by decide) ln (br_f (h10' z).1 (cE 4 (by omega) (wX7_slate (by omega) (mKd_t (by omega) hkm (ex_i (br_f i1_0 (wX7_in (or2_t w1 w2 (ex_i (br_f i1_0 (mIn_t (N := 9) (by omega) hq (ex_i (br_f i1_0 (br_t rfl (ns_f (h10' z).2 (mE 4 (by omega) hR))))))))))))))))))))))))
  · obtain ⟨p, hp, rfl⟩ := hv
    have ln : nI p < τ 1 1 := by rw [h11]; exact (nI_ltI (by omega) (by omega)).mpr hp
    have ln1 : ¬ nI p < -1 := fun y => by
      rw [Int32.lt_iff_toInt_lt, nI_toInt (by omega), show (-1 : Int32).toInt = -1 from rfl] at y; omega
    by_cases z : n < 10
    · refine wX6_slate (by omega) (cKm_t hkm (ex_i (br_f i1_0 (or2_t w1 w2 (cDg_t hq (ex_i (br_f i1_0 (on2_t ln1 ln (br_t (h10 z).1 ⟨vn z, ?_⟩)))))))))
      rw [ecl]
      refine jNew (n := n) (by omega) hR hN z hkm hw (by omega) (Or.inr ⟨p, hp, rfl⟩) (fun τ2 R2 => ⟨_, rfl, ?_⟩)
      refine wX7_slate (by omega) (mKd_t (by omega) hkm (ex_i (br_f i1_0 (wX7_in (or2_t w1 w2 (ex_i (br_f i1_0 (mIn_t (N := 9) (by omega) hq (ex_i (br_f i1_0 (br_f (nI_nm1 (by omega)) (mSl_t h6 hn (by omega) hp (ex_i (ns_t i1_0 (ns_t (h10 z).2 ?_)))))))))))))))
      rw [h6, (km_q hkm).1, (km_q hkm).2]
      exact mNew (K := fun w σ' => w = some (.int (nI n)) ∧ R τ2 σ') z h6 ⟨rfl, R2⟩
    · exact wX6_slate (by omega) (cKm_t hkm (ex_i (br_f i1_0 (or2_t w1 w2 (cDg_t hq (ex_i (br_f i1_0 (on2_t ln1 ln (br_f (h10' z).1 (cE 4 (by omega) (wX7_slate (by omega) (mKd_t (by omega) hkm (ex_i (br_f i1_0 (wX7_in (or2_t w1 w2 (ex_i (br_f i1_0 (mIn_t (N := 9) (by omega) hq (ex_i (br_f i1_0 (br_f (nI_nm1 (by omega)) (mSl_t h6 hn (by omega) hp (ex_i (ns_t i1_0 (ns_f (h10' z).2 (mE 4 (by omega) hR)))))))))))))))))))))))))))
  · have hv' : v4 < -1 ∨ ¬ v4 < τ 1 1 := by rw [h11]; exact hv
    exact wX6_slate (by omega) (cKm_t hkm (ex_i (br_f i1_0 (or2_t w1 w2 (cDg_t hq (ex_i (br_f i1_0 (on2_f hv' (cE 1 (by omega) (wX7_slate (by omega) (mKd_t (by omega) hkm (ex_i (br_f i1_0 (wX7_in (or2_t w1 w2 (ex_i (br_f i1_0 (mIn_t (N := 9) (by omega) hq (ex_i (br_f i1_0 (br_f hv1 (mSl_f h6 hn (by omega) hv2 (ex_i (ns_f rfl (mE 1 (by omega) hR)))))))))))))))))))))))))
theorem jSlateIs (hd : 20 < d) (he : 20 < e) (hR : R τ σ) : sk_C sk_Sc d mX6_slateIs [.ref 0, .int v1, .int v2] τ (jK e mX7_slateIs [.ref 0, .int v1, .int v2] σ) := by
  obtain ⟨n, l0, l1, hN⟩ := hR.1
  have hn := hN.1.1
  have h6 : σ 1 6 = nI n := hN.s.2.1
  have h11 : τ 1 1 = nI n := hN.t.n0
  by_cases hs : ∃ c, c < n ∧ v1 = nI c
  rotate_left
  · exact wX6_slateIs (by omega) (cSl_f h11 hn hs (ex_i (ns_f rfl (cE 1 (by omega) (wX7_slateIs (by omega) (mSl_f h6 hn (by omega) hs (ex_i (br_t rfl (mE 1 (by omega) hR)))))))))
  obtain ⟨k, hk, rfl⟩ := hs
  have vk := vp_in_nI (show k < 10 by omega) (by omega)
  have hc := nI_clamp (show k < 2 ^ 31 by omega)
  by_cases hb : ∃ c, c < 10 ∧ v2 = nI c
  rotate_left
  · have hx : ∀ c, c < 10 → ¬ v2 = nI c := fun c h1 h2 => hb ⟨c, h1, h2⟩
    exact wX6_slateIs (by omega) (cSl_t h11 hn hk (ex_i (ns_t i1_0 ⟨vk, fun z => absurd z (hx 0 (by omega)), fun z => absurd z (hx 1 (by omega)), fun z => absurd z (hx 2 (by omega)), fun z => absurd z (hx 3 (by omega)), fun z => absurd z (hx 4 (by omega)), fun z => absurd z (hx 5 (by omega)), fun z => absurd z (hx 6 (by omega)), fun z => absurd z (hx 7 (by omega)), fun z => absurd z (hx 8 (by omega)), fun z => absurd z (hx 9 (by omega)), fun _ => cE 1 (by omega) (wX7_slateIs (by omega) (mSl_t h6 hn (by omega) hk (ex_i (br_f i1_0 (mIn_f (N := 9) (by omega) hb (ex_i (ns_f rfl (mE 1 (by omega) hR)))))))) ⟩)))
  obtain ⟨j, hj, rfl⟩ := hb
  match j, hj with
  | 0, _ =>
    refine wX6_slateIs (by omega) (cSl_t h11 hn hk (ex_i (ns_t i1_0 ⟨vk, ⟨fun _ => ⟨_, rfl, ?_⟩, fun z => absurd z (by decide), fun z => absurd z (by decide), fun z => absurd z (by decide), fun z => absurd z (by decide), fun z => absurd z (by decide), fun z => absurd z (by decide), fun z => absurd z (by decide), fun z => absurd z (by decide), fun z => absurd z (by decide), fun z => absurd rfl (z.1)⟩⟩)))
    rw [hc, hN.t.t0 hk 0 (by omega)]
    exact wX7_slateIs (by omega) (mSl_t h6 hn (by omega) hk (ex_i (br_f i1_0 (mIn_t (N := 9) (by omega) (k := 0) (by omega) (ex_i (ns_t i1_0 (pX7_its 6 (by omega) (by omega) (ex_i ⟨fun z => absurd z (by decide), fun z => absurd z (by decide), fun z => absurd z (by decide), fun z => absurd z (by decide), fun z => absurd z (by decide), fun _ => (pX7_its 0 (by omega) (by omega) (ex_i ⟨rfl, hR⟩))⟩))))))))
  | 1, _ =>
    refine wX6_slateIs (by omega) (cSl_t h11 hn hk (ex_i (ns_t i1_0 ⟨vk, ⟨fun z => absurd z (by decide), fun _ => ⟨_, rfl, ?_⟩, fun z => absurd z (by decide), fun z => absurd z (by decide), fun z => absurd z (by decide), fun z => absurd z (by decide), fun z => absurd z (by decide), fun z => absurd z (by decide), fun z => absurd z (by decide), fun z => absurd z (by decide), fun z => absurd rfl (z.2.1)⟩⟩)))
    rw [hc, hN.t.t0 hk 1 (by omega)]
    exact wX7_slateIs (by omega) (mSl_t h6 hn (by omega) hk (ex_i (br_f i1_0 (mIn_t (N := 9) (by omega) (k := 1) (by omega) (ex_i (ns_t i1_0 (pX7_its 6 (by omega) (by omega) (ex_i ⟨fun z => absurd z (by decide), fun z => absurd z (by decide), fun z => absurd z (by decide), fun z => absurd z (by decide), fun z => absurd z (by decide), fun _ => (pX7_its 1 (by omega) (by omega) (ex_i ⟨rfl, hR⟩))⟩))))))))
  | 2, _ =>
    refine wX6_slateIs (by omega) (cSl_t h11 hn hk (ex_i (ns_t i1_0 ⟨vk, ⟨fun z => absurd z (by decide), fun z => absurd z (by decide), fun _ => ⟨_, rfl, ?_⟩, fun z => absurd z (by decide), fun z => absurd z (by decide), fun z => absurd z (by decide), fun z => absurd z (by decide), fun z => absurd z (by decide), fun z => absurd z (by decide), fun z => absurd z (by decide), fun z => absurd rfl (z.2.2.1)⟩⟩)))
    rw [hc, hN.t.t0 hk 2 (by omega)]
    exact wX7_slateIs (by omega) (mSl_t h6 hn (by omega) hk (ex_i (br_f i1_0 (mIn_t (N := 9) (by omega) (k := 2) (by omega) (ex_i (ns_t i1_0 (pX7_its 6 (by omega) (by omega) (ex_i ⟨fun z => absurd z (by decide), fun z => absurd z (by decide), fun z => absurd z (by decide), fun z => absurd z (by decide), fun z => absurd z (by decide), fun _ => (pX7_its 2 (by omega) (by omega) (ex_i ⟨rfl, hR⟩))⟩))))))))
  | 3, _ =>
    refine wX6_slateIs (by omega) (cSl_t h11 hn hk (ex_i (ns_t i1_0 ⟨vk, ⟨fun z => absurd z (by decide), fun z => absurd z (by decide), fun z => absurd z (by decide), fun _ => ⟨_, rfl, ?_⟩, fun z => absurd z (by decide), fun z => absurd z (by decide), fun z => absurd z (by decide), fun z => absurd z (by decide), fun z => absurd z (by decide), fun z => absurd z (by decide), fun z => absurd rfl (z.2.2.2.1)⟩⟩)))
    rw [hc, hN.t.t0 hk 3 (by omega)]
    exact wX7_slateIs (by omega) (mSl_t h6 hn (by omega) hk (ex_i (br_f i1_0 (mIn_t (N := 9) (by omega) (k := 3) (by omega) (ex_i (ns_t i1_0 (pX7_its 6 (by omega) (by omega) (ex_i ⟨fun z => absurd z (by decide), fun z => absurd z (by decide), fun z => absurd z (by decide), fun z => absurd z (by decide), fun z => absurd z (by decide), fun _ => (pX7_its 3 (by omega) (by omega) (ex_i ⟨rfl, hR⟩))⟩))))))))
  | 4, _ =>
    refine wX6_slateIs (by omega) (cSl_t h11 hn hk (ex_i (ns_t i1_0 ⟨vk, ⟨fun z => absurd z (by decide), fun z => absurd z (by decide), fun z => absurd z (by decide), fun z => absurd z (by decide), fun _ => ⟨_, rfl, ?_⟩, fun z => absurd z (by decide), fun z => absurd z (by decide), fun z => absurd z (by decide), fun z => absurd z (by decide), fun z => absurd z (by decide), fun z => absurd rfl (z.2.2.2.2.1)⟩⟩)))
    rw [hc, hN.t.t0 hk 4 (by omega)]
    exact wX7_slateIs (by omega) (mSl_t h6 hn (by omega) hk (ex_i (br_f i1_0 (mIn_t (N := 9) (by omega) (k := 4) (by omega) (ex_i (ns_t i1_0 (pX7_its 6 (by omega) (by omega) (ex_i ⟨fun z => absurd z (by decide), fun z => absurd z (by decide), fun z => absurd z (by decide), fun z => absurd z (by decide), fun z => absurd z (by decide), fun _ => (pX7_its 4 (by omega) (by omega) (ex_i ⟨rfl, hR⟩))⟩))))))))
  | 5, _ =>
    refine wX6_slateIs (by omega) (cSl_t h11 hn hk (ex_i (ns_t i1_0 ⟨vk, ⟨fun z => absurd z (by decide), fun z => absurd z (by decide), fun z => absurd z (by decide), fun z => absurd z (by decide), fun z => absurd z (by decide), fun _ => ?_, fun z => absurd z (by decide), fun z => absurd z (by decide), fun z => absurd z (by decide), fun z => absurd z (by decide), fun z => absurd rfl (z.2.2.2.2.2.1)⟩⟩)))
    rw [hc]
    refine pX5_row (sk_tileF k (by omega)) (by omega) (hN.t.t0 hk) (hN.t.ok hk) (fun c h48 e6 => ex_i ⟨_, rfl, ?_⟩) (fun e6 => ex_i ⟨_, rfl, ?_⟩)
    · exact wX7_slateIs (by omega) (mSl_t h6 hn (by omega) hk (ex_i (br_f i1_0 (mIn_t (N := 9) (by omega) (k := 5) (by omega) (ex_i (ns_t i1_0 (pX7_its 6 (by omega) (by omega) (ex_i ⟨fun _ => (ns_t (by rw [e6]; exact nI_nm1 (by omega)) ⟨by rw [e6]; exact congrArg (fun x => some (Value.int x)) (pk_div (d := 8) (by omega) (by omega) (by omega)), hR⟩), fun z => absurd z (by decide), fun z => absurd z (by decide), fun z => absurd z (by decide), fun z => absurd z (by decide), fun z => absurd rfl (z.1)⟩))))))))
    · exact wX7_slateIs (by omega) (mSl_t h6 hn (by omega) hk (ex_i (br_f i1_0 (mIn_t (N := 9) (by omega) (k := 5) (by omega) (ex_i (ns_t i1_0 (pX7_its 6 (by omega) (by omega) (ex_i ⟨fun _ => (ns_f e6 ⟨rfl, hR⟩), fun z => absurd z (by decide), fun z => absurd z (by decide), fun z => absurd z (by decide), fun z => absurd z (by decide), fun z => absurd rfl (z.1)⟩))))))))
  | 6, _ =>
    refine wX6_slateIs (by omega) (cSl_t h11 hn hk (ex_i (ns_t i1_0 ⟨vk, ⟨fun z => absurd z (by decide), fun z => absurd z (by decide), fun z => absurd z (by decide), fun z => absurd z (by decide), fun z => absurd z (by decide), fun z => absurd z (by decide), fun _ => ?_, fun z => absurd z (by decide), fun z => absurd z (by decide), fun z => absurd z (by decide), fun z => absurd rfl (z.2.2.2.2.2.2.1)⟩⟩)))
    rw [hc]
    refine pX5_place (sk_tileF k (by omega)) (by omega) (hN.t.t0 hk) (hN.t.ok hk) (fun c h48 e6 => ex_i ⟨_, rfl, ?_⟩) (fun e6 => ex_i ⟨_, rfl, ?_⟩)
    · exact wX7_slateIs (by omega) (mSl_t h6 hn (by omega) hk (ex_i (br_f i1_0 (mIn_t (N := 9) (by omega) (k := 6) (by omega) (ex_i (ns_t i1_0 (pX7_its 6 (by omega) (by omega) (ex_i ⟨fun z => absurd z (by decide), fun _ => (ns_t (by rw [e6]; exact nI_nm1 (by omega)) ⟨by rw [e6]; exact congrArg (fun x => some (Value.int x)) (nI_mod (b := 8) (by omega) (by omega) (by omega)), hR⟩), fun z => absurd z (by decide), fun z => absurd z (by decide), fun z => absurd z (by decide), fun z => absurd rfl (z.2.1)⟩))))))))
    · exact wX7_slateIs (by omega) (mSl_t h6 hn (by omega) hk (ex_i (br_f i1_0 (mIn_t (N := 9) (by omega) (k := 6) (by omega) (ex_i (ns_t i1_0 (pX7_its 6 (by omega) (by omega) (ex_i ⟨fun z => absurd z (by decide), fun _ => (ns_f e6 ⟨rfl, hR⟩), fun z => absurd z (by decide), fun z => absurd z (by decide), fun z => absurd z (by decide), fun z => absurd rfl (z.2.1)⟩))))))))
  | 7, _ =>
    refine wX6_slateIs (by omega) (cSl_t h11 hn hk (ex_i (ns_t i1_0 ⟨vk, ⟨fun z => absurd z (by decide), fun z => absurd z (by decide), fun z => absurd z (by decide), fun z => absurd z (by decide), fun z => absurd z (by decide), fun z => absurd z (by decide), fun z => absurd z (by decide), fun _ => ⟨_, rfl, ?_⟩, fun z => absurd z (by decide), fun z => absurd z (by decide), fun z => absurd rfl (z.2.2.2.2.2.2.2.1)⟩⟩)))
    rw [hc, hN.t.t0 hk 5 (by omega)]
    exact wX7_slateIs (by omega) (mSl_t h6 hn (by omega) hk (ex_i (br_f i1_0 (mIn_t (N := 9) (by omega) (k := 7) (by omega) (ex_i (ns_t i1_0 (pX7_its 6 (by omega) (by omega) (ex_i ⟨fun z => absurd z (by decide), fun z => absurd z (by decide), fun _ => (pX7_its 5 (by omega) (by omega) (ex_i ⟨rfl, hR⟩)), fun z => absurd z (by decide), fun z => absurd z (by decide), fun z => absurd rfl (z.2.2.1)⟩))))))))
  | 8, _ =>
    refine wX6_slateIs (by omega) (cSl_t h11 hn hk (ex_i (ns_t i1_0 ⟨vk, ⟨fun z => absurd z (by decide), fun z => absurd z (by decide), fun z => absurd z (by decide), fun z => absurd z (by decide), fun z => absurd z (by decide), fun z => absurd z (by decide), fun z => absurd z (by decide), fun z => absurd z (by decide), fun _ => ?_, fun z => absurd z (by decide), fun z => absurd rfl (z.2.2.2.2.2.2.2.2.1)⟩⟩)))
    rw [hc]
    refine pX5_broad (sk_tileF k (by omega)) (by omega) (hN.t.t0 hk) (hN.t.ok hk) (ex_i ⟨_, rfl, ?_⟩)
    exact wX7_slateIs (by omega) (mSl_t h6 hn (by omega) hk (ex_i (br_f i1_0 (mIn_t (N := 9) (by omega) (k := 8) (by omega) (ex_i (ns_t i1_0 (pX7_its 6 (by omega) (by omega) (ex_i ⟨fun z => absurd z (by decide), fun z => absurd z (by decide), fun z => absurd z (by decide), fun _ => (pX7_broad (by omega) (by omega) (hN.t.ok hk) (ex_i ⟨rfl, hR⟩)), fun z => absurd z (by decide), fun z => absurd rfl (z.2.2.2.1)⟩))))))))
  | 9, _ =>
    refine wX6_slateIs (by omega) (cSl_t h11 hn hk (ex_i (ns_t i1_0 ⟨vk, ⟨fun z => absurd z (by decide), fun z => absurd z (by decide), fun z => absurd z (by decide), fun z => absurd z (by decide), fun z => absurd z (by decide), fun z => absurd z (by decide), fun z => absurd z (by decide), fun z => absurd z (by decide), fun z => absurd z (by decide), fun _ => (pX3_holdOf hk hN.g (by omega) (fun τ2 f2 => ex_i ⟨_, rfl, ?_⟩)), fun z => absurd rfl (z.2.2.2.2.2.2.2.2.2)⟩⟩)))
    exact wX7_slateIs (by omega) (mSl_t h6 hn (by omega) hk (ex_i (br_f i1_0 (mIn_t (N := 9) (by omega) (k := 9) (by omega) (ex_i (ns_t i1_0 (pX7_its 6 (by omega) (by omega) (ex_i ⟨fun z => absurd z (by decide), fun z => absurd z (by decide), fun z => absurd z (by decide), fun z => absurd z (by decide), fun _ => (pX7_holdOf (by omega) (by omega) hN.m0 (fun σ2 g2 => ex_i ⟨rfl, hR.sc f2 g2.n⟩)), fun z => absurd rfl (z.2.2.2.2)⟩))))))))
theorem jBecome (hd : 20 < d) (he : 20 < e) (hR : R τ σ) : sk_C sk_Sc d mX6_become [.ref 0, .int v1, .int v2] τ (jK e mX7_become [.ref 0, .int v1, .int v2] σ) := by
  obtain ⟨n, l0, l1, hN⟩ := hR.1
  have hn := hN.1.1
  have h6 : σ 1 6 = nI n := hN.s.2.1
  have h11 : τ 1 1 = nI n := hN.t.n0
  by_cases hs : ∃ c, c < n ∧ v1 = nI c
  rotate_left
  · exact wX6_become (by omega) (cSl_f h11 hn hs (ex_i (br_t rfl (cE 1 (by omega) (wX7_become (by omega) (mSl_f h6 hn (by omega) hs (ex_i (br_t rfl (mE 1 (by omega) hR)))))))))
  obtain ⟨k, hk, rfl⟩ := hs
  by_cases hb : ∃ c, c < 70 ∧ v2 = nI c
  rotate_left
  · exact wX6_become (by omega) (cSl_t h11 hn hk (ex_i (br_f i1_0 (cKm_f hb (ex_i (ns_f rfl (cE 1 (by omega) (wX7_become (by omega) (mSl_t h6 hn (by omega) hk (ex_i (br_f i1_0 (mKd_f (by omega) hb (ex_i (ns_f rfl (mE 1 (by omega) hR)))))))))))))))
  obtain ⟨km, hkm, rfl⟩ := hb
  have vk := vp_in_nI (show k < 10 by omega) (by omega)
  refine wX6_become (by omega) (cSl_t h11 hn hk (ex_i (br_f i1_0 (cKm_t hkm (ex_i (ns_t i1_0 ⟨vk, vk, ?_⟩))))))
  rw [nI_clamp (show k < 2 ^ 31 by omega)]
  refine wX5_turn (sk_tileF k (by omega)) ⟨rfl, _, rfl, ?_⟩
  refine wX7_become (by omega) (mSl_t h6 hn (by omega) hk (ex_i (br_f i1_0 (mKd_t (by omega) hkm (ex_i (ns_t i1_0 (pX7_lays1 1 (by omega) (by omega) ⟨rfl, ?_⟩)))))))
  rw [show (8 : Int32) + 7 * nI k + 0 = nI (8 + 7 * k + 0) from ix_its k 0]
  refine pX7_change1 (8 + 7 * k + 0) (by omega) (ex_i ⟨?_, ?_⟩)
  · rw [su_n (by omega), hN.t.t0 hk 0 (by omega)]; rfl
  · rw [(km_q hkm).1, (km_q hkm).2]
    refine hR.now (n := n) (l0 := l0) (l1 := l1) ((frC.u (by omega)).tr (frC.u (by omega))) (frM.u.tr frM.u) ?_
    rw [su_s, su_s]
    have e0 : fl (upd (upd (σ 1) (8 + 7 * k + 1) (nI (km % 10))) (8 + 7 * k + 0) (nI (km / 10))) k 0 = nI (km / 10) := upd_s
    have e1 : fl (upd (upd (σ 1) (8 + 7 * k + 1) (nI (km % 10))) (8 + 7 * k + 0) (nI (km / 10))) k 1 = nI (km % 10) := (upd_n (by omega)).trans upd_s
    have eo : ∀ j, j < 7 → j ≠ 0 → j ≠ 1 → fl (upd (upd (σ 1) (8 + 7 * k + 1) (nI (km % 10))) (8 + 7 * k + 0) (nI (km / 10))) k j = fl (σ 1) k j := fun j _ h0 h1 => (upd_n (by omega)).trans (upd_n (by omega))
    refine hN.tile hk (fun q hq => (su_c hq).trans (su_c hq)) (fun j hj => (upd_n (by omega)).trans (upd_n (by omega))) (fun j hj => ?_) ?_
    · by_cases z1 : j = 1
      · subst z1; rw [su_e, e1]
      · rw [su_n z1]
        by_cases z0 : j = 0
        · subst z0; rw [su_e, e0]
        · rw [su_n z0, eo j hj z0 z1]; exact hN.t.t0 hk j hj
    · have := hN.t.ok hk
      unfold tl_ok at this ⊢
      rw [e0, e1, eo 2 (by omega) (by omega) (by omega), eo 3 (by omega) (by omega) (by omega), eo 4 (by omega) (by omega) (by omega), eo 5 (by omega) (by omega) (by omega), eo 6 (by omega) (by omega) (by omega)]
      exact ⟨⟨km / 10, by omega, rfl⟩, ⟨km % 10, by omega, rfl⟩, this.2.2⟩
/-! under a kind -/
def abv (a : Nat) : Nat := if a = 4 then 1 else if a = 5 then 2 else 0
def unF : Nat → Nat → Nat → Bool
  | 0, a, b => decide (a = b)
  | f + 1, a, b => decide (a = b) || (!decide (a = 0) && unF f (abv a) b)
theorem ab_c : ∀ a, a < 7 → sk_above a = if a = 0 then -1 else nI (abv a) := by decide
theorem ab_lt : ∀ a, a < 7 → ¬ a = 0 → abv a < a := by decide
theorem un_st : ∀ f a b, unF f a b = (decide (a = b) || (!decide (a = 0) && decide (0 < f) && unF (f - 1) (abv a) b))
  | 0, a, b => by simp [unF]
  | f + 1, a, b => by simp [unF]
theorem lX5_un {q b : Nat} (hd : 0 < d) (hq : sk_Sc[q]? = some (0, 5, [0, 0, 0, 0, 0, 0, 0])) (hb : b ≤ 6) : ∀ f a i, a ≤ f → i + f ≤ 6 → K (some (.int (bI (unF f a b)))) τ → sk_G sk_Sc d mX5_isUnder 7 [(1, .int (nI b)), (2, .int (nI a)), (3, .int (nI i))] [] τ K := by
  intro f
  induction f with
  | zero =>
    intro a i ha hi h
    obtain rfl : a = 0 := by omega
    refine bX5_isUnder_7 hq hd (br_f (fun z => absurd ((nI_ltI (a := 6) (by omega) (by omega)).mp z) (by omega)) (br_f (by decide) ?_))
    by_cases z : 0 = b
    · subst z
      exact ns_f rfl h
    · refine ns_t (fun y => z ((nI_iff (by omega) (by omega)).mp y)) (wX5_kindAbove (br_f (by decide) (br_t (by decide) ⟨by unfold vp_in; decide, ex_i ?_⟩)))
      have h2 : K (some (.int 0)) τ := by
        unfold unF at h
        rw [decide_eq_false z] at h
        exact h
      rw [nI_1]
      refine bX5_isUnder_7 hq hd ⟨fun _ => h2, fun _ => br_t (by decide) h2⟩
  | succ f ih =>
    intro a i ha hi h
    refine bX5_isUnder_7 hq hd (br_f (fun z => absurd ((nI_ltI (a := 6) (by omega) (by omega)).mp z) (by omega)) (br_f (nI_pos (by omega)) ?_))
    unfold unF at h
    by_cases z : a = b
    · subst z
      rw [decide_eq_true rfl, Bool.true_or] at h
      exact ns_f rfl h
    · rw [decide_eq_false z, Bool.false_or] at h
      refine ns_t (fun y => z ((nI_iff (by omega) (by omega)).mp y)) (wX5_kindAbove (br_f (nI_pos (by omega)) (br_t ((nI_ltI (b := 7) (by omega) (by omega)).mpr (by omega)) ⟨vp_in_nI (by omega) (by omega), ex_i ?_⟩)))
      rw [nI_clamp (by omega), ab_c a (by omega), nI_1]
      by_cases z0 : a = 0
      · rw [decide_eq_true z0] at h
        rw [if_pos z0]
        exact bX5_isUnder_7 hq hd ⟨fun _ => h, fun _ => br_t (by decide) h⟩
      · rw [decide_eq_false z0] at h
        rw [if_neg z0]
        have := ab_lt a (by omega) z0
        exact ih (abv a) (i + 1) (by omega) (by omega) h
theorem lX7_as {k b : Nat} (hd : 1 < d) (hk : k < 10) (hb : b ≤ 6) : ∀ f a, a ≤ f → f ≤ 6 → (unF f a b = true → K (some (.int (fl (σ 1) k 1))) σ) → (unF f a b = false → sk_C sk_Sm (d - 1) mX7_error [.ref 0, .int 5] σ (fun w t64 => ∃ r64 : Int32, w = some (.int r64) ∧ K (some (.int r64)) t64)) → sk_G sk_Sm d mX7_as 31 [(0, .ref 0), (1, .int (nI k)), (2, .int (nI b)), (3, .int (nI a))] [] σ K := by
  intro f
  induction f with
  | zero =>
    intro a ha hf hy hn
    obtain rfl : a = 0 := by omega
    by_cases z : 0 = b
    · subst z
      exact bX7_as_31 (by omega) (br_t rfl (ns_f rfl (pX7_its 1 hk (by omega) (ex_i (hy rfl)))))
    · have zn : ¬ nI 0 = nI b := fun y => z ((nI_iff (by omega) (by omega)).mp y)
      exact bX7_as_31 (by omega) (br_f zn (br_t rfl (ns_t zn (hn (decide_eq_false z)))))
  | succ f ih =>
    intro a ha hf hy hn
    unfold unF at hy hn
    by_cases z : a = b
    · subst z
      exact bX7_as_31 (by omega) (br_t rfl (ns_f rfl (pX7_its 1 hk (by omega) (ex_i (hy (by rw [decide_eq_true rfl]; rfl))))))
    · rw [decide_eq_false z, Bool.false_or] at hy hn
      have zn : ¬ nI a = nI b := fun y => z ((nI_iff (by omega) (by omega)).mp y)
      by_cases z0 : a = 0
      · refine bX7_as_31 (by omega) (br_f zn (br_t (by rw [z0]; rfl) (ns_t zn (hn (by rw [decide_eq_true z0]; rfl)))))
      · have z0n : ¬ nI a = 0 := fun y => z0 ((nI_iff (b := 0) (by omega) (by omega)).mp y)
        rw [decide_eq_false z0] at hy hn
        have hlt := ab_lt a (by omega) z0
        have ih2 := ih (abv a) (by omega) (by omega) hy hn
        refine bX7_as_31 (by omega) (br_f zn (br_f z0n (wX7_above ?_)))
        unfold abv at ih2
        by_cases e4 : a = 4
        · subst e4
          exact ns_f rfl (ex_i ih2)
        · refine ns_t (fun y => e4 ((nI_iff (b := 4) (by omega) (by omega)).mp y)) ?_
          by_cases e5 : a = 5
          · subst e5
            exact ns_f rfl (ex_i ih2)
          · rw [if_neg e4, if_neg e5] at ih2
            exact ns_t (fun y => e5 ((nI_iff (b := 5) (by omega) (by omega)).mp y)) (ex_i ih2)
theorem jAs (hd : 20 < d) (he : 20 < e) (hR : R τ σ) : sk_C sk_Sc d mX6_as [.ref 0, .int v1, .int v2] τ (jK e mX7_as [.ref 0, .int v1, .int v2] σ) := by
  obtain ⟨n, l0, l1, hN⟩ := hR.1
  have hn := hN.1.1
  have h6 : σ 1 6 = nI n := hN.s.2.1
  have h11 : τ 1 1 = nI n := hN.t.n0
  by_cases hs : ∃ c, c < n ∧ v1 = nI c
  rotate_left
  · exact wX6_as (by omega) (cSl_f h11 hn hs (ex_i (br_t rfl (cE 1 (by omega) (wX7_as (by omega) (mSl_f h6 hn (by omega) hs (ex_i (br_t rfl (mE 1 (by omega) hR)))))))))
  obtain ⟨k, hk, rfl⟩ := hs
  have vk := vp_in_nI (show k < 10 by omega) (by omega)
  have hg : ∀ {A B : Prop}, (∀ c, c < 7 → v2 = nI c → A) → ((¬ ∃ c, c < 7 ∧ v2 = nI c) → B) → (v2 < 0 → B) ∧ (¬ v2 < 0 → ((v2 ≤ 6 → A) ∧ (¬ v2 ≤ 6 → B))) := fun {A B} ha hb => by
    rcases ix_cases v2 7 (by omega) with ⟨c, hc, rfl⟩ | ⟨h1, h2⟩
    · exact on2_t (nI_pos (by omega)) ((nI_leI (b := 6) (by omega) (by omega)).mpr (by omega)) (ha c hc rfl)
    · refine on2_f ?_ (hb h2)
      rcases h1 with h1 | h1
      · exact Or.inl h1
      · exact Or.inr (fun z => absurd (Int32.le_trans h1 z) (by decide))
  refine wX6_as (by omega) (cSl_t h11 hn hk (ex_i (br_f i1_0 (hg (fun b hb e2 => ⟨vk, ?_⟩) (fun hb => cE 1 (by omega) (wX7_as (by omega) (mSl_t h6 hn (by omega) hk (ex_i (br_f i1_0 (mIn_f (N := 6) (by omega) hb (ex_i (ns_f rfl (mE 1 (by omega) hR)))))))))))))
  subst e2
  rw [nI_clamp (show k < 2 ^ 31 by omega)]
  refine wX5_isUnder (sk_tileF k (by omega)) ?_
  obtain ⟨a, ha, ea⟩ := (hN.t.ok hk).1
  rw [hN.t.t0 hk 0 (by omega), ea]
  have ref : ∀ {K2 : sk_K}, (unF 6 a b = true → K2 (some (.int (fl (σ 1) k 1))) σ) → (unF 6 a b = false → sk_C sk_Sm (e - 1) mX7_error [.ref 0, .int 5] σ (fun w t64 => ∃ r64 : Int32, w = some (.int r64) ∧ K2 (some (.int r64)) t64)) → sk_C sk_Sm e mX7_as [.ref 0, .int (nI k), .int (nI b)] σ K2 := fun {K2} hy hn2 => by
    refine wX7_as (by omega) (mSl_t h6 hn (by omega) hk (ex_i (br_f i1_0 (mIn_t (N := 6) (by omega) hb (ex_i (ns_t i1_0 (pX7_its 0 (by omega) (by omega) (ex_i ?_))))))))
    rw [ea]
    exact lX7_as (by omega) (by omega) (by omega) 6 a ha (by omega) hy hn2
  refine lX5_un (b := b) (by omega) (sk_tileF k (by omega)) (by omega) 6 a 0 ha (by omega) (ex_i ?_)
  cases hu : unF 6 a b with
  | true =>
    refine br_f i1_0 ⟨vk, _, rfl, ?_⟩
    rw [hN.t.t0 hk 1 (by omega)]
    exact ref (fun _ => ⟨rfl, hR⟩) (fun z => absurd (hu.symm.trans z) (by decide))
  | false =>
    exact br_t rfl (cE 5 (by omega) (ref (fun z => absurd (hu.symm.trans z) (by decide)) (fun _ => mE 5 (by omega) hR)))
end
