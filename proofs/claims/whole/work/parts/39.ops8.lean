/-! ===== sheets: sheet, put, move ===== -/
theorem RN.cc {τ τ2 : sk_T} {s : Nat → Int32} {n : Nat} {l0 l1 : Option (List Tk)} (h : RN τ s n l0 l1) (hτ : ∀ c, c < 46 → τ2 c = τ c) : RN τ2 s n l0 l1 := by
  refine h.tp (fun c h31 _ => hτ c (by omega)) (fun j _ _ => by rw [hτ 1 (by omega)]) (fun _ _ _ _ => rfl) ?_
  have := h.2.2.2.2
  unfold RTp at this ⊢
  rw [hτ 1 (by omega), hτ 39 (by omega), hτ 41 (by omega)]
  exact this
theorem kp_cc {τ τ2 : sk_T} (h : ∀ c, c < 46 → τ2 c = τ c) : kpT τ2 = kpT τ := by
  funext c
  unfold kpT
  by_cases h1 : c = 1
  · rw [if_pos h1, if_pos h1]; exact h 2 (by omega)
  rw [if_neg h1, if_neg h1]
  by_cases h2 : 3 ≤ c ∧ c < 13
  · rw [if_pos h2, if_pos h2]; exact h _ (by omega)
  rw [if_neg h2, if_neg h2]
  by_cases h3 : c = 23 ∨ c = 24 ∨ c = 27 ∨ c = 28
  · rw [if_pos h3, if_pos h3]; exact h _ (by omega)
  rw [if_neg h3, if_neg h3]
  by_cases h4 : c = 39 ∨ c = 41
  · rw [if_pos h4, if_pos h4]; exact h _ (by omega)
  rw [if_neg h4, if_neg h4]
/-- sheets change -/
theorem R.sh {τ τ2 σ σ2 : sk_T} (h : R τ σ) (hf : ∀ c, c < 49 ∨ 56 < c → τ2 c = τ c) (hm : ∀ c, c ≠ 9 → c ≠ 10 → c ≠ 11 → c ≠ 12 → σ2 c = σ c) (hS : RSh τ2 σ2) : R τ2 σ2 := by
  obtain ⟨⟨n, l0, l1, hN⟩, h2, h3, h4, h5, h6, h7⟩ := h
  refine ⟨⟨n, l0, l1, ?_⟩, ?_, ?_, ?_, ?_, hS, ?_⟩
  · rw [hm 1 (by omega) (by omega) (by omega) (by omega)]; exact hN.cc (fun c hc => hf c (by omega))
  · rw [hm 0 (by omega) (by omega) (by omega) (by omega), hm 2 (by omega) (by omega) (by omega) (by omega), kp_cc (fun c hc => hf c (by omega))]; exact h2
  · rw [hf 25 (by omega), hf 26 (by omega)]; exact h3
  · rw [hf 0 (by omega), hm 0 (by omega) (by omega) (by omega) (by omega)]; exact h4
  · rw [hf 57 (by omega), hm 3 (by omega) (by omega) (by omega) (by omega)]; exact h5
  · unfold RTr
    rw [hf 46 (by omega), hf 47 (by omega), hm 0 (by omega) (by omega) (by omega) (by omega), hm 8 (by omega) (by omega) (by omega) (by omega)]
    exact h7
theorem sh_n {v2 : Int32} {A B E : Prop} (h : v2 = 8 ∨ v2 = 16 ∨ v2 = 32) (b : B) : (v2 = 0 → A) ∧ (¬ v2 = 0 → ((v2 = 8 → B) ∧ (¬ v2 = 8 → ((v2 = 16 → B) ∧ (¬ v2 = 16 → ((v2 = 32 → B) ∧ (¬ v2 = 32 → E))))))) := by
  refine ⟨fun z => ?_, fun _ => ⟨fun _ => b, fun z8 => ⟨fun _ => b, fun z16 => ⟨fun _ => b, fun z32 => ?_⟩⟩⟩⟩
  · rw [z] at h
    rcases h with h | h | h <;> exact absurd h (by decide)
  · rcases h with h | h | h
    · exact absurd h z8
    · exact absurd h z16
    · exact absurd h z32
theorem sh_x {v2 : Int32} {A B E : Prop} (h0 : ¬ v2 = 0) (h8 : ¬ v2 = 8) (h16 : ¬ v2 = 16) (h32 : ¬ v2 = 32) (e : E) : (v2 = 0 → A) ∧ (¬ v2 = 0 → ((v2 = 8 → B) ∧ (¬ v2 = 8 → ((v2 = 16 → B) ∧ (¬ v2 = 16 → ((v2 = 32 → B) ∧ (¬ v2 = 32 → E))))))) :=
  br_f h0 (br_f h8 (br_f h16 (br_f h32 e)))
section
variable {d e : Nat} {τ σ : sk_T} {K : sk_K} {j n f k : Nat} {b x v v1 v2 v3 v4 v5 : Int32}
theorem cSh_t {k : Nat} (hk : k < 4) (h : K (some (.int 1)) τ) : sk_C sk_Sc d mX6_isSheet [.int (nI k)] τ K :=
  wX6_isSheet (rg_b 4 (by omega) (fun _ _ _ => h) (fun _ z => absurd ⟨k, hk, rfl⟩ z))
theorem cSh_f (hk : ¬ ∃ c, c < 4 ∧ v = nI c) (h : K (some (.int 0)) τ) : sk_C sk_Sc d mX6_isSheet [.int v] τ K :=
  wX6_isSheet (rg_b 4 (by omega) (fun c hc e => absurd ⟨c, hc, e⟩ hk) (fun _ _ => h))
theorem mSh_t {k : Nat} (hd : 0 < d) (hk : k < 4) (h : K (some (.int 1)) σ) : sk_C sk_Sm d mX7_isSheet [.int (nI k)] σ K :=
  wX7_isSheet hd (mIn_t (N := 3) (by omega) hk (ex_i ⟨rfl, h⟩))
theorem mSh_f (hd : 0 < d) (hk : ¬ ∃ c, c < 4 ∧ v = nI c) (h : K (some (.int 0)) σ) : sk_C sk_Sm d mX7_isSheet [.int v] σ K :=
  wX7_isSheet hd (mIn_f (N := 3) (by omega) hk (ex_i ⟨rfl, h⟩))
theorem lX4_begin (hj : j < 4) (h : ∀ τ2, (∀ c, c ≠ 53 + j → τ2 c = τ c) → (∀ i, i < 24 → τ2 (53 + j) i = 0) → K none τ2) : ∀ m i, i + m = 24 → ∀ τ2, (∀ c, c ≠ 53 + j → τ2 c = τ c) → (∀ q, q < i → τ2 (53 + j) q = 0) → sk_G sk_Sc d mX4_begin 12 [(0, .ref (49 + j)), (3, .int (nI i))] [] τ2 K := by
  intro m
  induction m with
  | zero =>
    intro i hi τ2 h1 h2
    obtain rfl : i = 24 := hi
    exact bX4_begin_12 (sk_sheetF j hj).1 (sk_sheetF j hj).2.1 (br_t (by decide) (h τ2 h1 h2))
  | succ m ih =>
    intro i hi τ2 h1 h2
    refine bX4_begin_12 (sk_sheetF j hj).1 (sk_sheetF j hj).2.1 (br_f (fun z => absurd ((nI_leI (a := 24) (by omega) (by omega)).mp z) (by omega)) ⟨vp_in_nI (by omega) (by omega), ?_⟩)
    rw [nI_1, nI_clamp (show i < 2 ^ 31 by omega)]
    refine ih (i + 1) (by omega) _ (fun c hc => (su_c hc).trans (h1 c hc)) (fun q hq => ?_)
    by_cases z : q = i
    · subst z; exact su_e
    · rw [su_n z]; exact h2 q (by omega)
theorem pX4_begin (hj : j < 4) (h : ∀ τ2, (∀ c, c ≠ 49 + j → c ≠ 53 + j → τ2 c = τ c) → τ2 (49 + j) 0 = b → τ2 (49 + j) 1 = x → (∀ i, i < 24 → τ2 (53 + j) i = 0) → K none τ2) : sk_C sk_Sc d mX4_begin [.ref (49 + j), .int b, .int x] τ K := by
  refine wX4_begin (sk_sheetF j hj).1 (sk_sheetF j hj).2.1 (lX4_begin (τ := sk_u (sk_u τ (49 + j) 0 b) (49 + j) 1 x) hj (fun τ2 h1 h2 => h τ2 (fun c c1 c2 => (h1 c c2).trans ((su_c c1).trans (su_c c1))) ?_ ?_ h2) 24 0 rfl _ (fun _ _ => rfl) (fun q hq => absurd hq (by omega)))
  · rw [h1 _ (by omega), su_n (by omega), su_e]
  · rw [h1 _ (by omega), su_e]
theorem e24 (j i : Nat) : (24 : Int32) * nI j + nI i = nI (24 * j + i) := by rw [show (24 : Int32) = nI 24 from rfl, pk_mul, nI_add]
theorem lX7_sheet (hj : j < 4) (h : ∀ σ2, (∀ c, c ≠ 11 → σ2 c = σ c) → (∀ i, i < 24 → σ2 11 (24 * j + i) = 0) → (∀ i, (i < 24 * j ∨ 24 * j + 24 ≤ i) → σ2 11 i = σ 11 i) → K (some (.int 1)) σ2) : ∀ m i, i + m = 24 → ∀ σ2, (∀ c, c ≠ 11 → σ2 c = σ c) → (∀ q, q < i → σ2 11 (24 * j + q) = 0) → (∀ i, (i < 24 * j ∨ 24 * j + 24 ≤ i) → σ2 11 i = σ 11 i) → sk_G sk_Sm d mX7_sheet 90 [(0, .ref 0), (1, .int (nI j)), (4, .int (nI i))] [] σ2 K := by
  intro m
  induction m with
  | zero =>
    intro i hi σ2 h1 h2 h3
    obtain rfl : i = 24 := hi
    exact bX7_sheet_90 (br_t (by decide) (h σ2 h1 h2 h3))
  | succ m ih =>
    intro i hi σ2 h1 h2 h3
    refine bX7_sheet_90 (br_f (fun z => absurd ((nI_leI (a := 24) (by omega) (by omega)).mp z) (by omega)) ⟨by rw [e24]; exact vp_in_nI (by omega) (by omega), ?_⟩)
    rw [nI_1, e24, nI_clamp (show 24 * j + i < 2 ^ 31 by omega)]
    refine ih (i + 1) (by omega) _ (fun c hc => (su_c hc).trans (h1 c hc)) (fun q hq => ?_) (fun q hq => (su_n (by omega)).trans (h3 q hq))
    by_cases z : q = i
    · subst z; exact su_e
    · rw [su_n (by omega)]; exact h2 q (by omega)
theorem jSheet (hd : 20 < d) (he : 20 < e) (hR : R τ σ) : sk_C sk_Sc d mX6_sheet [.ref 0, .int v1, .int v2, .int v3] τ (jK e mX7_sheet [.ref 0, .int v1, .int v2, .int v3] σ) := by
  have hS := hR.2.2.2.2.2.1
  by_cases hs : ∃ c, c < 4 ∧ v1 = nI c
  rotate_left
  · exact wX6_sheet (by omega) (cSh_f hs (ex_i (br_t rfl (cE 1 (by omega) (wX7_sheet (by omega) (mSh_f (by omega) hs (ex_i (br_t rfl (mE 1 (by omega) hR)))))))))
  obtain ⟨j, hj, rfl⟩ := hs
  have vj := vp_in_nI hj (by omega)
  have hc := nI_clamp (show j < 2 ^ 31 by omega)
  -- both sides begin
  have main : ∀ {K2 : sk_K} {x : Int32}, (∀ σ2, (∀ c, c ≠ 9 → c ≠ 10 → c ≠ 11 → σ2 c = σ c) → (∀ q, q ≠ j → σ2 9 q = σ 9 q ∧ σ2 10 q = σ 10 q) → σ2 9 j = v2 → σ2 10 j = x → (∀ i, i < 24 → σ2 11 (24 * j + i) = 0) → (∀ i, (i < 24 * j ∨ 24 * j + 24 ≤ i) → σ2 11 i = σ 11 i) → K2 (some (.int 1)) σ2) → sk_G sk_Sm e mX7_sheet 90 [(0, .ref 0), (1, .int (nI j)), (4, .int 0)] [] (sk_u (sk_u σ 9 j v2) 10 j x) K2 := fun {K2 x} hk => by
    refine lX7_sheet (σ := sk_u (sk_u σ 9 j v2) 10 j x) hj (fun σ2 h1 h2 h3 => hk σ2 (fun c c9 c10 c11 => ?_) (fun q hq => ⟨?_, ?_⟩) ?_ ?_ h2 (fun i hi => ?_)) 24 0 rfl _ (fun _ _ => rfl) (fun q hq => absurd hq (by omega)) (fun _ _ => rfl)
    · rw [h1 c c11, su_c c10, su_c c9]
    · rw [h1 9 (by omega), su_c (by omega), su_n hq]
    · rw [h1 10 (by omega), su_n hq, su_c (by omega)]
    · rw [h1 9 (by omega), su_c (by omega), su_e]
    · rw [h1 10 (by omega), su_e]
    · rw [h3 i hi, su_c (by omega), su_c (by omega)]
  have join : ∀ {x : Int32} {a : Nat} {τ2 σ2 : sk_T}, (v2 = 0 ∨ v2 = 8 ∨ v2 = 16 ∨ v2 = 32) → x = nI a → a ≤ 24 → (∀ c, c ≠ 49 + j → c ≠ 53 + j → τ2 c = τ c) → τ2 (49 + j) 0 = v2 → τ2 (49 + j) 1 = x → (∀ i, i < 24 → τ2 (53 + j) i = 0) → (∀ c, c ≠ 9 → c ≠ 10 → c ≠ 11 → σ2 c = σ c) → (∀ q, q ≠ j → σ2 9 q = σ 9 q ∧ σ2 10 q = σ 10 q) → σ2 9 j = v2 → σ2 10 j = x → (∀ i, i < 24 → σ2 11 (24 * j + i) = 0) → (∀ i, (i < 24 * j ∨ 24 * j + 24 ≤ i) → σ2 11 i = σ 11 i) → R τ2 σ2 := fun {x a τ2 σ2} hb hx ha t1 t2 t3 t4 s1 s2 s3 s4 s5 s6 => by
    refine hR.sh (fun c hc => t1 c (by omega) (by omega)) (fun c c9 c10 c11 _ => s1 c c9 c10 c11) (fun q hq => ?_)
    by_cases z : q = j
    · subst z
      refine ⟨by rw [t2, s3], by rw [s3]; exact hb, ⟨a, ha, by rw [t3, hx], by rw [s4, hx]⟩, fun i hi => by rw [t4 i hi, s5 i hi]⟩
    · obtain ⟨g1, g2, ⟨g3, g4, g5, g6⟩, g7⟩ := hS q hq
      rw [t1 (49 + q) (by omega) (by omega), t1 (53 + q) (by omega) (by omega), (s2 q z).1, (s2 q z).2]
      exact ⟨g1, g2, ⟨g3, g4, g5, g6⟩, fun i hi => by rw [s6 _ (by omega)]; exact g7 i hi⟩
  by_cases h0 : v2 = 0
  · refine wX6_sheet (by omega) (cSh_t hj (ex_i (br_f i1_0 (br_t h0 (br_t h0 (br_t h0 ⟨vj, ns_f h0 ?_⟩))))))
    rw [hc]
    refine pX4_begin hj (fun τ2 t1 t2 t3 t4 => ⟨rfl, _, rfl, wX7_sheet (by omega) (mSh_t (by omega) hj (ex_i (br_f i1_0 (br_t h0 (br_t h0 (br_t h0 ⟨vj, ns_f h0 ⟨vj, ?_⟩⟩))))))⟩)
    rw [hc]
    exact main (fun σ2 s1 s2 s3 s4 s5 s6 => ⟨rfl, join (a := 0) (Or.inl h0) rfl (by omega) t1 t2 t3 t4 s1 s2 s3 s4 s5 s6⟩)
  by_cases hb : v2 = 8 ∨ v2 = 16 ∨ v2 = 32
  · by_cases h3 : 0 ≤ v3
    · by_cases h24 : v3 ≤ 24
      · obtain ⟨a, ha, rfl⟩ := nI_of2 (M := 24) (n := 24) rfl (Int32.not_lt.mpr h3) h24
        refine wX6_sheet (by omega) (cSh_t hj (ex_i (br_f i1_0 (sh_n hb (br_f h0 (br_t h3 (br_f h0 (br_t h24 ⟨vj, ns_t h0 ?_⟩))))))))
        rw [hc]
        refine pX4_begin hj (fun τ2 t1 t2 t3 t4 => ⟨rfl, _, rfl, wX7_sheet (by omega) (mSh_t (by omega) hj (ex_i (br_f i1_0 (sh_n hb (br_f h0 (br_t h3 (br_f h0 (br_t h24 ⟨vj, ns_t h0 ⟨vj, ?_⟩⟩))))))))⟩)
        rw [hc]
        exact main (fun σ2 s1 s2 s3 s4 s5 s6 => ⟨rfl, join (a := a) (Or.inr hb) rfl ha t1 t2 t3 t4 s1 s2 s3 s4 s5 s6⟩)
      · exact wX6_sheet (by omega) (cSh_t hj (ex_i (br_f i1_0 (sh_n hb (br_f h0 (br_t h3 (br_f h0 (br_f h24 (cE 1 (by omega) (wX7_sheet (by omega) (mSh_t (by omega) hj (ex_i (br_f i1_0 (sh_n hb (br_f h0 (br_t h3 (br_f h0 (br_f h24 (mE 1 (by omega) hR)))))))))))))))))))
    · exact wX6_sheet (by omega) (cSh_t hj (ex_i (br_f i1_0 (sh_n hb (br_f h0 (br_f h3 (cE 3 (by omega) (wX7_sheet (by omega) (mSh_t (by omega) hj (ex_i (br_f i1_0 (sh_n hb (br_f h0 (br_f h3 (mE 3 (by omega) hR)))))))))))))))
  · have n8 : ¬ v2 = 8 := fun z => hb (Or.inl z)
    have n16 : ¬ v2 = 16 := fun z => hb (Or.inr (Or.inl z))
    have n32 : ¬ v2 = 32 := fun z => hb (Or.inr (Or.inr z))
    exact wX6_sheet (by omega) (cSh_t hj (ex_i (br_f i1_0 (sh_x h0 n8 n16 n32 (cE 1 (by omega) (wX7_sheet (by omega) (mSh_t (by omega) hj (ex_i (br_f i1_0 (sh_x h0 n8 n16 n32 (mE 1 (by omega) hR)))))))))))
/-! put -/
theorem bt_i8 (x : Int32) {i : Nat} (hi : i < 32) : bt x.toInt8.toInt32 i = if i < 8 then bt x i else bt x 7 := by
  unfold bt
  rw [Int8.toBitVec_toInt32, Int32.toBitVec_toInt8, BitVec.getLsbD_signExtend, BitVec.msb_eq_getLsbD_last, BitVec.getLsbD_signExtend, BitVec.getLsbD_signExtend]
  by_cases z : i < 8
  · rw [if_pos z, if_pos z, if_pos hi]
    simp [hi, z]
  · rw [if_neg z, if_neg z]
    simp [hi]
theorem bt_i16 (x : Int32) {i : Nat} (hi : i < 32) : bt x.toInt16.toInt32 i = if i < 16 then bt x i else bt x 15 := by
  unfold bt
  rw [Int16.toBitVec_toInt32, Int32.toBitVec_toInt16, BitVec.getLsbD_signExtend, BitVec.msb_eq_getLsbD_last, BitVec.getLsbD_signExtend, BitVec.getLsbD_signExtend]
  by_cases z : i < 16
  · rw [if_pos z, if_pos z, if_pos hi]
    simp [hi, z]
  · rw [if_neg z, if_neg z]
    simp [hi]
theorem sh_24 (x : Int32) : (x <<< ((32 - 8) &&& 31)) >>> ((32 - 8) &&& 31) = x.toInt8.toInt32 := by
  rw [show (32 : Int32) - 8 = nI 24 from rfl]
  apply b_ext
  intro i hi
  rw [b_sshr 24 (by omega) _ hi, bt_i8 x hi, b_shl 24 (by omega) x (show 31 < 32 by omega)]
  by_cases z : i < 8
  · rw [if_pos (by omega), if_pos z, b_shl 24 (by omega) x (by omega), decide_eq_true (by omega), Bool.true_and]; congr 1; omega
  · rw [if_neg (by omega), if_neg z, decide_eq_true (by omega), Bool.true_and]
theorem sh_16 (x : Int32) : (x <<< ((32 - 16) &&& 31)) >>> ((32 - 16) &&& 31) = x.toInt16.toInt32 := by
  rw [show (32 : Int32) - 16 = nI 16 from rfl]
  apply b_ext
  intro i hi
  rw [b_sshr 16 (by omega) _ hi, bt_i16 x hi, b_shl 16 (by omega) x (show 31 < 32 by omega)]
  by_cases z : i < 16
  · rw [if_pos (by omega), if_pos z, b_shl 16 (by omega) x (by omega), decide_eq_true (by omega), Bool.true_and]; congr 1; omega
  · rw [if_neg (by omega), if_neg z, decide_eq_true (by omega), Bool.true_and]
theorem sh_0 (x : Int32) : (x <<< ((32 - 32) &&& 31)) >>> ((32 - 32) &&& 31) = x := by
  rw [show (32 : Int32) - 32 = nI 0 from rfl]
  apply b_ext
  intro i hi
  rw [b_sshr 0 (by omega) _ hi, if_pos (by omega), b_shl 0 (by omega) x (by omega), decide_eq_true (by omega), Bool.true_and]; congr 1; omega
/-- whether a sheet is missing, both sides -/
theorem cMs_t {j : Nat} (hj : j < 4) (h0 : τ (49 + j) 0 = 0) (h : K (some (.int 1)) τ) : sk_C sk_Sc d mX4_isMissing [.ref (49 + j)] τ K :=
  wX4_isMissing (sk_sheetF j hj).1 (sk_sheetF j hj).2.1 (ns_f h0 h)
theorem cMs_f {j : Nat} (hj : j < 4) (h0 : ¬ τ (49 + j) 0 = 0) (h : K (some (.int 0)) τ) : sk_C sk_Sc d mX4_isMissing [.ref (49 + j)] τ K :=
  wX4_isMissing (sk_sheetF j hj).1 (sk_sheetF j hj).2.1 (ns_t h0 h)
theorem jPut (hd : 20 < d) (he : 20 < e) (hR : R τ σ) : sk_C sk_Sc d mX6_put [.ref 0, .int v1, .int v2, .int v3] τ (jK e mX7_put [.ref 0, .int v1, .int v2, .int v3] σ) := by
  have hS := hR.2.2.2.2.2.1
  by_cases hs : ∃ c, c < 4 ∧ v1 = nI c
  rotate_left
  · exact wX6_put (by omega) (cSh_f hs (ex_i (ns_f rfl (cE 1 (by omega) (wX7_put (by omega) (mSh_f (by omega) hs (ex_i (ns_f rfl (mE 1 (by omega) hR)))))))))
  obtain ⟨j, hj, rfl⟩ := hs
  have vj := vp_in_nI hj (by omega)
  have hc := nI_clamp (show j < 2 ^ 31 by omega)
  obtain ⟨g1, g2, ⟨a, ha, g3, g4⟩, g5⟩ := hS j hj
  by_cases h0 : τ (49 + j) 0 = 0
  · have h0' : σ 9 j = 0 := by rw [← g1]; exact h0
    refine wX6_put (by omega) (cSh_t hj (ex_i (ns_t i1_0 ⟨vj, ?_⟩)))
    rw [hc]
    refine cMs_t hj h0 (ex_i (br_f i1_0 (cE 2 (by omega) (wX7_put (by omega) (mSh_t (by omega) hj (ex_i (ns_t i1_0 ⟨vj, ?_⟩)))))))
    rw [hc]
    exact ns_f h0' (mE 2 (by omega) hR)
  have h0' : ¬ σ 9 j = 0 := by rw [← g1]; exact h0
  by_cases hi : ∃ c, c < a ∧ v2 = nI c
  rotate_left
  · refine wX6_put (by omega) (cSh_t hj (ex_i (ns_t i1_0 ⟨vj, ?_⟩)))
    rw [hc]
    have ref : sk_C sk_Sm e mX7_put [.ref 0, .int (nI j), .int v2, .int v3] σ (fun w σ' => w = some (.int (-1000000000 - nI 1)) ∧ R (sk_u τ 57 1 (τ 57 1 + 1)) σ') := by
      refine wX7_put (by omega) (mSh_t (by omega) hj (ex_i (ns_t i1_0 ⟨vj, ?_⟩)))
      rw [hc]
      refine ns_t h0' ⟨vj, ?_⟩
      rw [g4]
      exact pX7_inN (by omega) (fun c hc e => absurd ⟨c, hc, e⟩ hi) (fun _ => ex_i (ns_f rfl (mE 1 (by omega) hR)))
    refine cMs_f hj h0 (ex_i (br_t rfl ?_))
    rcases ix_cases v2 a (by omega) with h | ⟨h1 | h1, -⟩
    · exact absurd h hi
    · exact br_t h1 (cE 1 (by omega) ref)
    · refine ⟨fun _ => cE 1 (by omega) ref, fun _ => ⟨vj, br_f ?_ (cE 1 (by omega) ref)⟩⟩
      rw [g3]; exact Int32.not_lt.mpr h1
  obtain ⟨i, hi, rfl⟩ := hi
  have vi := vp_in_nI (show i < 24 by omega) (by omega)
  have hci := nI_clamp (show i < 2 ^ 31 by omega)
  have refg : ∀ y, y = (v3 <<< ((32 - σ 9 j) &&& 31)) >>> ((32 - σ 9 j) &&& 31) → jK e mX7_put [.ref 0, .int (nI j), .int (nI i), .int v3] σ (some (.int 1)) (sk_u τ (53 + j) i y) := fun y hy => by
    refine ⟨_, rfl, wX7_put (by omega) (mSh_t (by omega) hj (ex_i (ns_t i1_0 ⟨vj, ?_⟩)))⟩
    rw [hc]
    refine ns_t h0' ⟨vj, ?_⟩
    rw [g4]
    refine pX7_inN (by omega) (fun c hc2 e => ex_i (ns_t i1_0 ⟨vj, by rw [e24]; exact vp_in_nI (by omega) (by omega), rfl, ?_⟩)) (fun z => absurd ⟨i, hi, rfl⟩ z)
    rw [e24, nI_clamp (show 24 * j + i < 2 ^ 31 by omega), ← hy]
    refine hR.sh (fun c hc => su_c (by omega)) (fun c _ _ c11 _ => su_c c11) (fun q hq => ?_)
    obtain ⟨k1, k2, ⟨k3, k4, k5, k6⟩, k7⟩ := hS q hq
    rw [su_c (show 49 + q ≠ 53 + j by omega), su_c (show (9 : Nat) ≠ 11 by omega), su_c (show (10 : Nat) ≠ 11 by omega)]
    refine ⟨k1, k2, ⟨k3, k4, k5, k6⟩, fun p hp => ?_⟩
    by_cases z : q = j
    · subst z
      by_cases z2 : p = i
      · subst z2; rw [su_e, su_e]
      · rw [su_n z2, su_n (by omega)]; exact k7 p hp
    · rw [su_c (by omega), su_n (by omega)]; exact k7 p hp
  refine wX6_put (by omega) (cSh_t hj (ex_i (ns_t i1_0 ⟨vj, ?_⟩)))
  rw [hc]
  refine cMs_f hj h0 (ex_i (br_t rfl (br_f (nI_pos (by omega)) ⟨vj, ?_⟩)))
  rw [g3]
  refine br_t ((nI_ltI (by omega) (by omega)).mpr hi) ⟨vj, wX4_write (sk_sheetF j hj).1 (sk_sheetF j hj).2.1 ?_⟩
  rw [hci]
  rw [g1] at h0
  rcases g2 with z | z | z | z
  · exact absurd z h0
  · exact ns_f (g1.trans z) ⟨vi, rfl, refg _ (by rw [z, sh_24])⟩
  · exact ns_t (by rw [g1, z]; decide) (ns_f (g1.trans z) ⟨vi, rfl, refg _ (by rw [z, sh_16])⟩)
  · exact ns_t (by rw [g1, z]; decide) (ns_t (by rw [g1, z]; decide) ⟨vi, rfl, refg _ (by rw [z, sh_0])⟩)
end
