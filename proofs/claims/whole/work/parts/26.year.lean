/-! ===== the roof now: all that is related; a year ===== -/
/-- the head of a roof: how many slates, year, sold, tub, seed, how many fed and waiting -/
def RHd (t s : Nat → Int32) (n : Nat) : Prop :=
  n ≤ 10 ∧ s 6 = nI n ∧ t 1 = nI n ∧ (∃ y, y ≤ 9999 ∧ s 0 = nI y ∧ t 2 = nI y) ∧ (s 1 = 0 ∨ s 1 = 1) ∧ t 3 = s 1 ∧ (∃ b, b ≤ 99999 ∧ s 2 = nI b ∧ t 4 = nI b) ∧ t 5 = s 3
def RTl (τ : sk_T) (s : Nat → Int32) (n : Nat) : Prop := ∀ k, k < n → (∀ j, j < 7 → τ (3 + k) j = fl s k j) ∧ tl_ok (fl s k) k
def RTp (τ : sk_T) (s : Nat → Int32) : Prop :=
  (∃ f, f ≤ 60 ∧ s 4 = nI f ∧ τ 1 7 = nI f ∧ ∀ i, i < f → vp_nar .byte (τ 39 i) &&& 255 = s (328 + i)) ∧
  ∃ w, w ≤ 24 ∧ s 5 = nI w ∧ τ 1 10 = nI w ∧ ∀ i, i < w → τ 41 i = s (388 + i)
def RN (τ : sk_T) (s : Nat → Int32) (n : Nat) (l0 l1 : Option (List Tk)) : Prop :=
  RHd (τ 1) s n ∧ RTl τ s n ∧ RLw τ 23 27 s 0 l0 ∧ RLw τ 24 28 s 1 l1 ∧ RTp τ s
theorem RN.t {τ : sk_T} {s : Nat → Int32} {n : Nat} {l0 l1 : Option (List Tk)} (h : RN τ s n l0 l1) : RT τ 0 s n := ⟨h.1.1, h.1.2.1, h.1.2.2.1, fun k hk => by rw [show 3 + 10 * 0 + k = 3 + k by omega]; exact h.2.1 k hk⟩
theorem RN.s {τ : sk_T} {s : Nat → Int32} {n : Nat} {l0 l1 : Option (List Tk)} (h : RN τ s n l0 l1) : RS s n := ⟨h.1.1, h.1.2.1, fun k hk => (h.2.1 k hk).2⟩
theorem RN.g {τ : sk_T} {s : Nat → Int32} {n : Nat} {l0 l1 : Option (List Tk)} (h : RN τ s n l0 l1) : RG τ s n l0 := ⟨h.t, ⟨h.1.2.2.2.1, h.1.2.2.2.2.1, h.1.2.2.2.2.2.1⟩, h.2.2.1⟩
theorem RN.m0 {τ : sk_T} {s : Nat → Int32} {n : Nat} {l0 l1 : Option (List Tk)} (h : RN τ s n l0 l1) : RLm s 0 l0 := h.2.2.1.m
theorem RN.m1 {τ : sk_T} {s : Nat → Int32} {n : Nat} {l0 l1 : Option (List Tk)} (h : RN τ s n l0 l1) : RLm s 1 l1 := h.2.2.2.1.m
theorem RLw.cg {τ τ2 : sk_T} {q qc : Nat} {s s2 : Nat → Int32} {u : Nat} {lw : Option (List Tk)} (h : RLw τ q qc s u lw) (e1 : τ2 q = τ q) (e2 : τ2 qc = τ qc) (hs : ∀ j, 78 ≤ j → j < 328 → s2 j = s j) (hu : u < 2) : RLw τ2 q qc s2 u lw := by
  unfold RLw at h ⊢
  rw [e1, e2, hs (78 + 125 * u) (by omega) (by omega)]
  refine ⟨h.1, ?_⟩
  have h2 := h.2
  cases lw with
  | none => exact h2
  | some L =>
    obtain ⟨a, b, c, d, e, f, g⟩ := h2
    refine ⟨a, b, c, d, e, f, fun i t hi => ?_⟩
    have hl : i < L.length := (List.getElem?_eq_some_iff.mp hi).1
    obtain ⟨g1, g2, g3, g4⟩ := g i t hi
    exact ⟨g1, g2, (hs _ (by omega) (by omega)).trans g3, (hs _ (by omega) (by omega)).trans g4⟩
/-- what a step of the roof now may change: its head, its slates, the stacks -/
def frC (τ τ2 : sk_T) : Prop := ∀ c, (c = 0 ∨ c = 2 ∨ (12 < c ∧ c < 31) ∨ 34 < c) → τ2 c = τ c
theorem frC.rf {τ : sk_T} : frC τ τ := fun _ _ => rfl
theorem frC.tr {a b c : sk_T} (h : frC a b) (h2 : frC b c) : frC a c := fun q hq => (h2 q hq).trans (h q hq)
theorem scC.fr {τ τ2 : sk_T} (h : scC τ τ2) : frC τ τ2 := fun c hc => h c (by omega)
theorem frC.u {τ : sk_T} {c j : Nat} {x : Int32} (h : c = 1 ∨ (3 ≤ c ∧ c ≤ 12)) : frC τ (sk_u τ c j x) := fun b hb => su_c (by omega)
theorem RN.sc {τ τ2 : sk_T} {s : Nat → Int32} {n : Nat} {l0 l1 : Option (List Tk)} (h : RN τ s n l0 l1) (h2 : scC τ τ2) : RN τ2 s n l0 l1 := by
  have hn := h.1.1
  unfold RN RTp RTl
  rw [show τ2 1 = τ 1 from h2 1 (by omega), show τ2 39 = τ 39 from h2 39 (by omega), show τ2 41 = τ 41 from h2 41 (by omega)]
  refine ⟨h.1, fun k hk => ⟨fun j hj => ?_, (h.2.1 k hk).2⟩, h.2.2.1.sc h2 (by omega) (by omega), h.2.2.2.1.sc h2 (by omega) (by omega), h.2.2.2.2⟩
  rw [show τ2 (3 + k) = τ (3 + k) from h2 _ (by omega)]
  exact (h.2.1 k hk).1 j hj
/-- a slate changes -/
theorem RN.tile {τ τ2 : sk_T} {s s2 : Nat → Int32} {n i : Nat} {l0 l1 : Option (List Tk)} (h : RN τ s n l0 l1) (hi : i < n) (hτ : ∀ c, c ≠ 3 + i → τ2 c = τ c) (hs : ∀ j, (j < 8 + 7 * i ∨ 8 + 7 * i + 7 ≤ j) → s2 j = s j) (ht : ∀ j, j < 7 → τ2 (3 + i) j = fl s2 i j) (hok : tl_ok (fl s2 i) i) : RN τ2 s2 n l0 l1 := by
  have hn := h.1.1
  obtain ⟨h1, h2, h3, h4, ⟨f, f1, f2, f3, f4⟩, w, w1, w2, w3, w4⟩ := h
  refine ⟨?_, fun k hk => ?_, h3.cg (hτ _ (by omega)) (hτ _ (by omega)) (fun j hj _ => hs j (by omega)) (by omega), h4.cg (hτ _ (by omega)) (hτ _ (by omega)) (fun j hj _ => hs j (by omega)) (by omega), ?_, ?_⟩
  · unfold RHd at h1 ⊢
    rw [hτ 1 (by omega), hs 6 (by omega), hs 0 (by omega), hs 1 (by omega), hs 2 (by omega), hs 3 (by omega)]
    exact h1
  · by_cases e : k = i
    · subst e; exact ⟨ht, hok⟩
    · have e2 : ∀ j, j < 7 → fl s2 k j = fl s k j := fun j hj => hs _ (by omega)
      rw [hτ (3 + k) (by omega)]
      refine ⟨fun j hj => ((h2 k hk).1 j hj).trans (e2 j hj).symm, ?_⟩
      have := (h2 k hk).2
      unfold tl_ok at this ⊢
      rw [e2 0 (by omega), e2 1 (by omega), e2 2 (by omega), e2 3 (by omega), e2 4 (by omega), e2 5 (by omega), e2 6 (by omega)]
      exact this
  · exact ⟨f, f1, (hs 4 (by omega)).trans f2, (congrFun (hτ 1 (by omega)) 7).trans f3, fun q hq => by rw [hτ 39 (by omega), hs _ (by omega)]; exact f4 q hq⟩
  · exact ⟨w, w1, (hs 5 (by omega)).trans w2, (congrFun (hτ 1 (by omega)) 10).trans w3, fun q hq => by rw [hτ 41 (by omega), hs _ (by omega)]; exact w4 q hq⟩
/-- year, sold, tub or seed change -/
theorem RN.hd {τ τ2 : sk_T} {s s2 : Nat → Int32} {n : Nat} {l0 l1 : Option (List Tk)} (h : RN τ s n l0 l1) (hτ : ∀ c, c ≠ 1 → τ2 c = τ c) (hs : ∀ j, 4 ≤ j → s2 j = s j) (h7 : τ2 1 7 = τ 1 7) (h10 : τ2 1 10 = τ 1 10) (hH : RHd (τ2 1) s2 n) : RN τ2 s2 n l0 l1 := by
  have hn := h.1.1
  obtain ⟨h1, h2, h3, h4, ⟨f, f1, f2, f3, f4⟩, w, w1, w2, w3, w4⟩ := h
  refine ⟨hH, fun k hk => ?_, h3.cg (hτ _ (by omega)) (hτ _ (by omega)) (fun j hj _ => hs j (by omega)) (by omega), h4.cg (hτ _ (by omega)) (hτ _ (by omega)) (fun j hj _ => hs j (by omega)) (by omega), ?_, ?_⟩
  · have e2 : ∀ j, fl s2 k j = fl s k j := fun j => hs _ (by omega)
    rw [hτ (3 + k) (by omega)]
    refine ⟨fun j hj => ((h2 k hk).1 j hj).trans (e2 j).symm, ?_⟩
    have := (h2 k hk).2
    unfold tl_ok at this ⊢
    rw [e2 0, e2 1, e2 2, e2 3, e2 4, e2 5, e2 6]
    exact this
  · exact ⟨f, f1, (hs 4 (by omega)).trans f2, h7.trans f3, fun q hq => by rw [hτ 39 (by omega), hs _ (by omega)]; exact f4 q hq⟩
  · exact ⟨w, w1, (hs 5 (by omega)).trans w2, h10.trans w3, fun q hq => by rw [hτ 41 (by omega), hs _ (by omega)]; exact w4 q hq⟩
theorem upd_s {f : Nat → Int32} {j : Nat} {x : Int32} : upd f j x j = x := by unfold upd; rw [if_pos rfl]
theorem upd_n {f : Nat → Int32} {i j : Nat} {x : Int32} (h : i ≠ j) : upd f j x i = f i := by unfold upd; rw [if_neg h]
theorem RN.year {τ : sk_T} {s : Nat → Int32} {n y : Nat} {l0 l1 : Option (List Tk)} (h : RN τ s n l0 l1) (hy : y ≤ 9999) : RN (sk_u τ 1 2 (nI y)) (upd s 0 (nI y)) n l0 l1 := by
  refine h.hd (fun c hc => su_c hc) (fun j hj => upd_n (by omega)) (su_n (by omega)) (su_n (by omega)) ?_
  obtain ⟨h1, -⟩ := h
  unfold RHd at h1 ⊢
  rw [su_n (by omega), su_e, su_n (by omega), su_n (by omega), su_n (by omega), upd_n (by omega), upd_s, upd_n (by omega), upd_n (by omega), upd_n (by omega)]
  exact ⟨h1.1, h1.2.1, h1.2.2.1, ⟨y, hy, rfl, rfl⟩, h1.2.2.2.2⟩
theorem RN.tub {τ : sk_T} {s : Nat → Int32} {n b : Nat} {l0 l1 : Option (List Tk)} (h : RN τ s n l0 l1) (hb : b ≤ 99999) : RN (sk_u τ 1 4 (nI b)) (upd s 2 (nI b)) n l0 l1 := by
  refine h.hd (fun c hc => su_c hc) (fun j hj => upd_n (by omega)) (su_n (by omega)) (su_n (by omega)) ?_
  obtain ⟨h1, -⟩ := h
  unfold RHd at h1 ⊢
  rw [su_e, su_n (by omega), su_n (by omega), su_n (by omega), su_n (by omega), upd_n (by omega), upd_s, upd_n (by omega), upd_n (by omega), upd_n (by omega)]
  exact ⟨h1.1, h1.2.1, h1.2.2.1, h1.2.2.2.1, h1.2.2.2.2.1, h1.2.2.2.2.2.1, ⟨b, hb, rfl, rfl⟩, h1.2.2.2.2.2.2.2⟩
theorem RN.seed {τ : sk_T} {s : Nat → Int32} {n : Nat} {x : Int32} {l0 l1 : Option (List Tk)} (h : RN τ s n l0 l1) : RN (sk_u τ 1 5 x) (upd s 3 x) n l0 l1 := by
  refine h.hd (fun c hc => su_c hc) (fun j hj => upd_n (by omega)) (su_n (by omega)) (su_n (by omega)) ?_
  obtain ⟨h1, -⟩ := h
  unfold RHd at h1 ⊢
  rw [su_e, su_n (by omega), su_n (by omega), su_n (by omega), su_n (by omega), upd_n (by omega), upd_s, upd_n (by omega), upd_n (by omega), upd_n (by omega)]
  exact ⟨h1.1, h1.2.1, h1.2.2.1, h1.2.2.2.1, h1.2.2.2.2.1, h1.2.2.2.2.2.1, h1.2.2.2.2.2.2.1, rfl⟩
theorem RN.sold {τ : sk_T} {s : Nat → Int32} {n : Nat} {x : Int32} {l0 l1 : Option (List Tk)} (h : RN τ s n l0 l1) (hx : x = 0 ∨ x = 1) : RN (sk_u τ 1 3 x) (upd s 1 x) n l0 l1 := by
  refine h.hd (fun c hc => su_c hc) (fun j hj => upd_n (by omega)) (su_n (by omega)) (su_n (by omega)) ?_
  obtain ⟨h1, -⟩ := h
  unfold RHd at h1 ⊢
  rw [su_e, su_n (by omega), su_n (by omega), su_n (by omega), su_n (by omega), upd_n (by omega), upd_s, upd_n (by omega), upd_n (by omega), upd_n (by omega)]
  exact ⟨h1.1, h1.2.1, h1.2.2.1, h1.2.2.2.1, hx, rfl, h1.2.2.2.2.2.2⟩
/-! the drops of a year -/
theorem clampL_n (x : Int32) : ∃ g, g ≤ 99 ∧ clampL x = nI g := by
  unfold clampL sk_max sk_min
  by_cases h9 : x < 99
  · rw [if_pos h9]
    by_cases h0 : 0 < x
    · rw [if_pos h0]
      obtain ⟨j, hj, e⟩ := nI_of2 (M := 99) (n := 99) rfl (Int32.not_lt.mpr (Int32.le_of_lt h0)) (Int32.le_of_lt h9)
      exact ⟨j, hj, e⟩
    · rw [if_neg h0]
      exact ⟨0, by omega, rfl⟩
  · rw [if_neg h9, if_pos (by decide)]
    exact ⟨99, by omega, rfl⟩
theorem give_n {u : Nat} {l : Option (List Tk)} {a b c : Int32} : ∃ g, g ≤ 99 ∧ pGive u l a b c = nI g := clampL_n _
def dpI (x : Int64) (l1 : Option (List Tk)) (y : Int32) : Nat → Int32
  | 0 => 0
  | i + 1 => if btL x i = true then dpI x l1 y i else dpI x l1 y i + pGive 1 l1 (nI (i / 8)) (nI (i % 8)) y
theorem dpI_n {x : Int64} {l1 : Option (List Tk)} {y : Int32} : ∀ i, ∃ g, g ≤ 99 * i ∧ dpI x l1 y i = nI g
  | 0 => ⟨0, by omega, rfl⟩
  | i + 1 => by
    obtain ⟨g, h1, h2⟩ := dpI_n (x := x) (l1 := l1) (y := y) i
    unfold dpI
    split
    · exact ⟨g, by omega, h2⟩
    · obtain ⟨g2, h3, h4⟩ := give_n (u := 1) (l := l1) (a := nI (i / 8)) (b := nI (i % 8)) (c := y)
      refine ⟨g + g2, by omega, ?_⟩
      rw [h2, ← nI_add, h4]
theorem min_nI {a b : Nat} (ha : a < 2 ^ 31) (hb : b < 2 ^ 31) : sk_min (nI b) (nI a) = nI (if a < b then a else b) := by
  unfold sk_min
  by_cases h : a < b
  · rw [if_pos ((nI_ltI ha hb).mpr h), if_pos h]
  · rw [if_neg (fun z => h ((nI_ltI ha hb).mp z)), if_neg h]
theorem held_nI {a b : Nat} (ha : a < 2 ^ 31) (hb : b < 2 ^ 31) : (if (0 : Int32) ≤ nI a then (if nI a ≤ nI b then nI a else nI b) else 0) = nI (if a < b then a else b) := by
  rw [if_pos (nI_pos' ha)]
  by_cases h : a < b
  · rw [if_pos ((nI_leI ha hb).mpr (by omega)), if_pos h]
  · rw [if_neg h]
    by_cases h2 : a ≤ b
    · rw [if_pos ((nI_leI ha hb).mpr h2), show a = b by omega]
    · rw [if_neg (fun z => h2 ((nI_leI ha hb).mp z))]
/-- what is in the tub after a year -/
def tbN (b g : Nat) : Nat := if b + g < 99999 then b + g else 99999
theorem tb_c {b g : Nat} (hb : b ≤ 99999) (hg : g ≤ 4752) : sk_min 99999 (nI b + nI g) = nI (tbN b g) := by
  rw [nI_add]; exact min_nI (b := 99999) (by omega) (by omega)
theorem tb_m {b g : Nat} (hb : b ≤ 99999) (hg : g ≤ 4752) : (if (0 : Int32) ≤ nI b + nI g then (if nI b + nI g ≤ 99999 then nI b + nI g else 99999) else 0) = nI (tbN b g) := by
  rw [nI_add]; exact held_nI (b := 99999) (by omega) (by omega)
/-! a slate grows older -/
def agS (s : Nat → Int32) (z : Bool) (k : Nat) : Nat → Int32 := upd (upd s (8 + 7 * k + 5) (sk_min 999 (fl s k 5 + 1))) (8 + 7 * k + 3) (if z = true then sk_max 0 (fl s k 3 - 1) else fl s k 3)
def agR (s : Nat → Int32) (z : Bool) : Nat → Nat → Int32
  | 0 => s
  | i + 1 => agS (agR s z i) z i
theorem ag_lo {s : Nat → Int32} {z : Bool} {j : Nat} (h : j < 8) : ∀ i, agR s z i j = s j
  | 0 => rfl
  | i + 1 => by
    show upd (upd _ _ _) _ _ j = _
    rw [upd_n (by omega), upd_n (by omega)]
    exact ag_lo h i
theorem ag_t : ∀ a, a ≤ 999 → ∃ b, b ≤ 999 ∧ sk_min 999 (nI a + 1) = nI b ∧ (if (0 : Int32) ≤ nI a + 1 then (if nI a + 1 ≤ 999 then nI a + 1 else 999) else 0) = nI b := by
  intro a ha
  have e : nI a + 1 = nI (a + 1) := by rw [show (1 : Int32) = nI 1 from rfl, nI_add]
  rw [e]
  exact ⟨if a + 1 < 999 then a + 1 else 999, by split <;> omega, min_nI (b := 999) (by omega) (by omega), held_nI (b := 999) (by omega) (by omega)⟩
theorem nl_t : ∀ a, a < 10 → (∃ b, b ≤ 9 ∧ sk_max 0 (nI a - 1) = nI b) ∧ (if (0 : Int32) ≤ nI a - 1 then (if nI a - 1 ≤ 9 then nI a - 1 else 9) else 0) = sk_max 0 (nI a - 1) ∧ (if (0 : Int32) ≤ nI a - 0 then (if nI a - 0 ≤ 9 then nI a - 0 else 9) else 0) = nI a := by
  have h1 : ∀ a, a < 10 → (∃ b, b < 10 ∧ sk_max 0 (nI a - 1) = nI b) := by decide +kernel
  have h2 : ∀ a, a < 10 → (if (0 : Int32) ≤ nI a - 1 then (if nI a - 1 ≤ 9 then nI a - 1 else 9) else 0) = sk_max 0 (nI a - 1) := by decide +kernel
  have h3 : ∀ a, a < 10 → (if (0 : Int32) ≤ nI a - 0 then (if nI a - 0 ≤ 9 then nI a - 0 else 9) else 0) = nI a := by decide +kernel
  intro a ha
  obtain ⟨b, hb, e⟩ := h1 a ha
  exact ⟨⟨b, by omega, e⟩, h2 a ha, h3 a ha⟩
theorem ag_ok {s : Nat → Int32} {z : Bool} {k : Nat} (h : tl_ok (fl s k) k) : tl_ok (fl (agS s z k) k) k := by
  have e : ∀ j, j < 7 → j ≠ 3 → j ≠ 5 → fl (agS s z k) k j = fl s k j := fun j h1 h2 h3 => by
    show upd (upd _ _ _) _ _ (8 + 7 * k + j) = _
    rw [upd_n (by omega), upd_n (by omega)]; rfl
  have e5 : fl (agS s z k) k 5 = sk_min 999 (fl s k 5 + 1) := by
    show upd (upd _ _ _) _ _ (8 + 7 * k + 5) = _
    rw [upd_n (by omega), upd_s]
  have e3 : fl (agS s z k) k 3 = (if z = true then sk_max 0 (fl s k 3 - 1) else fl s k 3) := by
    show upd (upd _ _ _) _ _ (8 + 7 * k + 3) = _
    rw [upd_s]
  unfold tl_ok at h ⊢
  rw [e 0 (by omega) (by omega) (by omega), e 1 (by omega) (by omega) (by omega), e 2 (by omega) (by omega) (by omega), e 4 (by omega) (by omega) (by omega), e 6 (by omega) (by omega) (by omega), e3, e5]
  obtain ⟨h0, h1, h2, ⟨a3, h3, h3e⟩, h4, ⟨a5, h5, h5e⟩, h6⟩ := h
  refine ⟨h0, h1, h2, ?_, h4, ?_, h6⟩
  · rw [h3e]
    obtain ⟨⟨b, hb, eb⟩, -⟩ := nl_t a3 (by omega)
    cases z
    · exact ⟨a3, h3, rfl⟩
    · exact ⟨b, hb, eb⟩
  · rw [h5e]
    obtain ⟨b, hb, eb, -⟩ := ag_t a5 h5
    exact ⟨b, hb, eb⟩
/-- the row after a year -/
def yrS (s : Nat → Int32) (n : Nat) (l1 : Option (List Tk)) : Nat → Int32 :=
  let s1 := upd s 2 (sk_min 99999 (s 2 + dpI (dryF s (fun _ => false) n) l1 (s 0) 48))
  let s2 := agR s1 (decide (s 0 % 4 = 3)) n
  upd s2 0 (s 0 + 1)
section
variable {d : Nat} {τ σ : sk_T} {K : sk_K} {s : Nat → Int32} {n y : Nat} {l0 l1 : Option (List Tk)}
theorem lX3_year79 {z : Bool} (hd : 0 < d) (hy : s 0 = nI y) (hy9 : y < 9999) (hz : z = decide (nI y % 4 = 3)) (h : ∀ τ2, frC τ τ2 → RN τ2 (upd (agR s z n) 0 (nI (y + 1))) n l0 l1 → K none τ2) : ∀ m i, i + m = n → ∀ τ2, frC τ τ2 → RN τ2 (agR s z i) n l0 l1 →
    sk_G sk_Sc d mX3_passYear 79 [(0, .ref 1), (4, .int (nI i))] [] τ2 K := by
  intro m
  induction m with
  | zero =>
    intro i hi τ2 hf hR
    have hn := hR.1.1
    have : i = n := by omega
    subst this
    have hy2 : τ2 1 2 = nI y := by
      obtain ⟨y2, -, e1, e2⟩ := hR.1.2.2.2.1
      rw [ag_lo (by omega)] at e1
      rw [e2, ← e1, hy]
    refine bX3_passYear_79 (by omega) (br_t (by rw [hR.t.n0]; exact Int32.le_refl _) ?_)
    rw [hy2, nI_1]
    exact h _ (hf.tr (frC.u (by omega))) (hR.year (by omega))
  | succ m ih =>
    intro i hi τ2 hf hR
    have hn := hR.1.1
    have hin : i < n := by omega
    have hy2 : τ2 1 2 = nI y := by
      obtain ⟨y2, -, e1, e2⟩ := hR.1.2.2.2.1
      rw [ag_lo (by omega)] at e1
      rw [e2, ← e1, hy]
    have vi := vp_in_nI (show i < 10 by omega) (by omega)
    refine bX3_passYear_79 (by omega) (br_f (by rw [hR.t.n0]; exact fun z => absurd ((nI_leI (by omega) (by omega)).mp z) (by omega)) ⟨vi, vi, ?_⟩)
    rw [nI_1, nI_clamp (show i < 2 ^ 31 by omega), su_c (show (1 : Nat) ≠ 3 + i by omega), hy2, hR.t.t0 hin 5 (by omega), su_n (show (3 : Nat) ≠ 5 by omega), hR.t.t0 hin 3 (by omega)]
    have hok := hR.t.ok hin
    have e5 : fl (agS (agR s z i) z i) i 5 = sk_min 999 (fl (agR s z i) i 5 + 1) := by
      show upd (upd _ _ _) _ _ (8 + 7 * i + 5) = _
      rw [upd_n (by omega), upd_s]
    have e3 : fl (agS (agR s z i) z i) i 3 = (if z = true then sk_max 0 (fl (agR s z i) i 3 - 1) else fl (agR s z i) i 3) := by
      show upd (upd _ _ _) _ _ (8 + 7 * i + 3) = _
      rw [upd_s]
    have eo : ∀ j, j < 7 → j ≠ 3 → j ≠ 5 → fl (agS (agR s z i) z i) i j = fl (agR s z i) i j := fun j h1 h2 h3 => by
      show upd (upd _ _ _) _ _ (8 + 7 * i + j) = _
      rw [upd_n (by omega), upd_n (by omega)]; rfl
    have hs : ∀ j, (j < 8 + 7 * i ∨ 8 + 7 * i + 7 ≤ j) → agS (agR s z i) z i j = agR s z i j := fun j hj => by
      show upd (upd _ _ _) _ _ j = _
      rw [upd_n (by omega), upd_n (by omega)]
    refine ⟨fun e => ih (i + 1) (by omega) _ (hf.tr (frC.u (by omega))) (hR.tile hin (fun c hc => su_c hc) hs (fun j hj => ?_) (ag_ok hok)), fun e => ⟨vi, vi, ih (i + 1) (by omega) _ (hf.tr ((frC.u (by omega)).tr (frC.u (by omega)))) (hR.tile hin (fun c hc => (su_c hc).trans (su_c hc)) hs (fun j hj => ?_) (ag_ok hok))⟩⟩
    · have hz2 : z = false := by rw [hz]; exact decide_eq_false e
      show _ = fl (agS (agR s z i) z i) i j
      by_cases h5 : j = 5
      · subst h5; rw [su_e]; exact e5.symm
      · rw [su_n h5, hR.t.t0 hin j hj]
        by_cases h3 : j = 3
        · subst h3; rw [e3, hz2, if_neg Bool.false_ne_true]
        · exact (eo j hj h3 h5).symm
    · have hz2 : z = true := by rw [hz]; exact decide_eq_true e
      show _ = fl (agS (agR s z i) z i) i j
      by_cases h3 : j = 3
      · subst h3; rw [su_e, e3, hz2, if_pos rfl]
      · rw [su_n h3]
        by_cases h5 : j = 5
        · subst h5; rw [su_e]; exact e5.symm
        · rw [su_n h5, hR.t.t0 hin j hj]
          exact (eo j hj h3 h5).symm
end
section
variable {d : Nat} {τ σ : sk_T} {K : sk_K} {s : Nat → Int32} {n y : Nat} {l0 l1 : Option (List Tk)}
theorem yrS_is {b g : Nat} (e0 : s 0 = nI y) (e2 : s 2 = nI b) (hb : b ≤ 99999) (hg : g ≤ 4752) (eg : dpI (dryF s (fun _ => false) n) l1 (s 0) 48 = nI g) : yrS s n l1 = upd (agR (upd s 2 (nI (tbN b g))) (decide (nI y % 4 = 3)) n) 0 (nI (y + 1)) := by
  unfold yrS
  rw [eg, e2, tb_c hb hg, e0, show nI y + 1 = nI (y + 1) from by rw [show (1 : Int32) = nI 1 from rfl, nI_add]]
theorem lX3_year11 (hd : 2 < d) (hR0 : RN τ s n l0 l1) (hy : s 0 = nI y) (hy9 : y < 9999) (h : ∀ τ2, frC τ τ2 → RN τ2 (yrS s n l1) n l0 l1 → K none τ2) : ∀ m i, i + m = 48 → ∀ τ2, scC τ τ2 →
    sk_G sk_Sc d mX3_passYear 11 [(0, .ref 1), (1, .long (dryF s (fun _ => false) n)), (3, .int (dpI (dryF s (fun _ => false) n) l1 (s 0) i)), (4, .int (nI i))] [] τ2 K := by
  intro m
  induction m with
  | zero =>
    intro i hi τ2 hsc
    have hR := hR0.sc hsc
    have : i = 48 := by omega
    subst this
    obtain ⟨b, hb, e1, e2⟩ := hR.1.2.2.2.2.2.2.1
    obtain ⟨g, hg, eg⟩ := dpI_n (x := dryF s (fun _ => false) n) (l1 := l1) (y := s 0) 48
    refine bX3_passYear_11 (by omega) (br_t (by decide) ?_)
    rw [e2, eg, tb_c hb (by omega)]
    refine lX3_year79 (τ := sk_u τ2 1 4 (nI (tbN b g))) (s := upd s 2 (nI (tbN b g))) (by omega) (by rw [upd_n (by omega)]; exact hy) hy9 rfl (fun τ3 h3 hR3 => h τ3 ((hsc.fr.tr (frC.u (by omega))).tr h3) ?_) n 0 (by omega) _ frC.rf (hR.tub (by unfold tbN; split <;> omega))
    rw [yrS_is hy e1 hb (by omega) eg]
    exact hR3
  | succ m ih =>
    intro i hi τ2 hsc
    have hR := hR0.sc hsc
    obtain ⟨y2, -, e1, e2⟩ := hR.1.2.2.2.1
    have ey : τ2 1 2 = s 0 := e2.trans e1.symm
    refine bX3_passYear_11 (by omega) (br_f (nlt48 (by omega)) ?_)
    rw [nI_1, lc_0, bL_t (by omega), ey, show (8 : Int32) = nI 8 from rfl, pk_div (by omega) (by omega) (by omega), nI_mod (by omega) (by omega) (by omega)]
    have ih2 := ih (i + 1) (by omega)
    unfold dpI at ih2
    cases hb : btL (dryF s (fun _ => false) n) i with
    | true =>
      rw [hb] at ih2
      exact ns_t (by decide) (ih2 τ2 hsc)
    | false =>
      rw [hb] at ih2
      exact ns_f rfl (pX1_give (u := 1) (qc := 28) (qs := 32) sc_24 sc_28 sc_32 (by omega) (by omega) (by omega) (by omega) hR.2.2.2.1 (fun g2 => ex_i (ih2 _ (hsc.tr (scC.w (by omega))))))
theorem pX3_passYear (hd : 4 < d) (hR : RN τ s n l0 l1) (hy : s 0 = nI y) (hy9 : y < 9999) (h : ∀ τ2, frC τ τ2 → RN τ2 (yrS s n l1) n l0 l1 → K none τ2) : sk_C sk_Sc d mX3_passYear [.ref 1] τ K := by
  refine wX3_passYear (by omega) (pX3_dryBut hR.t (by omega) (ex_l ?_))
  rw [dryF_g (g2 := fun _ => false) n (fun j hj => b_0 j)]
  exact lX3_year11 (by omega) hR hy hy9 h 48 0 (by omega) τ scC.rf
end
