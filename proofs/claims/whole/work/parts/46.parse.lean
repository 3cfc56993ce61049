/-! ===== texts: the two readers, relations and small steps ===== -/
def sgn (N : Nat) (bf : Nat → Int32) (a : Nat) : Int32 := if a < N then bf a else -1
theorem sgn_lt {N a : Nat} {bf : Nat → Int32} {c : Int32} (h : sgn N bf a = c) (hc : ¬ (-1 : Int32) = c) : a < N := by
  unfold sgn at h
  by_cases z : a < N
  · exact z
  · rw [if_neg z] at h
    exact absurd h hc
/-- the class's reader: its bytes and its place -/
def bR (N : Nat) (bf : Nat → Int32) (τ : sk_T) (a : Nat) : Prop := τ 43 1 = nI N ∧ τ 43 2 = nI a ∧ ∀ i, i < N → vp_nar .byte (τ 44 i) &&& 255 = bf i
def cR (u N : Nat) (bf : Nat → Int32) (τ : sk_T) (a : Nat) (l : List Tk) : Prop := bR N bf τ a ∧ τ 43 3 = nI u ∧ τ 43 5 = nI l.length ∧ ∀ i t, l[i]? = some t → τ 45 i = cT t
/-- .. when it has failed -/
def cF (u N : Nat) (bf : Nat → Int32) (τ : sk_T) (a : Nat) : Prop := bR N bf τ a ∧ τ 43 3 = nI u ∧ ∃ s, s ≤ 60 ∧ τ 43 5 = nI s
def fpC (τ τ2 : sk_T) : Prop := ∀ c, c ≠ 43 → c ≠ 45 → τ2 c = τ c
theorem fpC.rf {τ : sk_T} : fpC τ τ := fun _ _ _ => rfl
theorem fpC.tr {a b c : sk_T} (h : fpC a b) (h2 : fpC b c) : fpC a c := fun q h0 h8 => (h2 q h0 h8).trans (h q h0 h8)
/-- the reference's reader -/
def mR (u N : Nat) (bf : Nat → Int32) (σ : sk_T) (o a : Nat) (l : List Tk) : Prop :=
  (σ 1 4 = nI N ∧ ∀ i, i < N → σ 1 (328 + i) = bf i) ∧ σ 0 4 = nI a ∧ σ 0 5 = nI o ∧ σ 0 6 = nI l.length ∧ σ 0 7 = nI u ∧ ∀ i t, l[i]? = some t → σ 4 (2 * i) = wT t ∧ σ 4 (2 * i + 1) = vT u t
def fpM (σ σ2 : sk_T) : Prop := (∀ c, c ≠ 0 → c ≠ 4 → σ2 c = σ c) ∧ ∀ j, j ≠ 4 → j ≠ 5 → j ≠ 6 → σ2 0 j = σ 0 j
theorem fpM.rf {σ : sk_T} : fpM σ σ := ⟨fun _ _ _ => rfl, fun _ _ _ _ => rfl⟩
theorem fpM.tr {a b c : sk_T} (h : fpM a b) (h2 : fpM b c) : fpM a c := ⟨fun q h0 h8 => (h2.1 q h0 h8).trans (h.1 q h0 h8), fun j h4 h5 h6 => (h2.2 j h4 h5 h6).trans (h.2 j h4 h5 h6)⟩
def rsC (u N : Nat) (bf : Nat → Int32) (τ : sk_T) (b : Bool) (a : Nat) (l : List Tk) : Prop := match b with
  | true => cR u N bf τ a l
  | false => cF u N bf τ a
def rsM (u N : Nat) (bf : Nat → Int32) (σ : sk_T) (b : Bool) (o a : Nat) (l : List Tk) : Prop := match b with
  | true => mR u N bf σ o a l
  | false => σ 0 4 = nI a
theorem cR.f {u N a : Nat} {bf : Nat → Int32} {τ : sk_T} {l : List Tk} (h : cR u N bf τ a l) (hl : l.length ≤ 60) : cF u N bf τ a := ⟨h.1, h.2.1, l.length, hl, h.2.2.1⟩
theorem ap_at {l : List Tk} {t t2 : Tk} {i : Nat} (h : (l ++ [t])[i]? = some t2) : (i = l.length ∧ t2 = t) ∨ (i < l.length ∧ l[i]? = some t2) := by
  by_cases z : i = l.length
  · subst z
    rw [List.getElem?_append_right (Nat.le_refl _), Nat.sub_self] at h
    cases h
    exact Or.inl ⟨rfl, rfl⟩
  · by_cases y : i < l.length
    · rw [List.getElem?_append_left y] at h
      exact Or.inr ⟨y, h⟩
    · rw [List.getElem?_append_right (by omega)] at h
      have := (List.getElem?_eq_some_iff.mp h).1
      simp only [List.length_cons, List.length_nil] at this
      omega
theorem ap_len {l : List Tk} {t : Tk} : (l ++ [t]).length = l.length + 1 := by rw [List.length_append]; rfl
section
variable {d e : Nat} {τ σ : sk_T} {K : sk_K} {u N a o : Nat} {bf : Nat → Int32} {l : List Tk}
theorem pSg (hN : N ≤ 60) (ha : a ≤ N) (hb : bR N bf τ a) (h : K (some (.int (sgn N bf a))) τ) : sk_C sk_Sc d mX2_sign [.ref 43] τ K := by
  refine wX2_sign ?_
  rw [hb.1, hb.2.1]
  unfold sgn at h
  by_cases z : a < N
  · rw [if_pos z] at h
    refine br_f (fun y => absurd ((nI_leI (by omega) (by omega)).mp y) (by omega)) ⟨vp_in_nI (by omega) (by omega), ?_⟩
    rw [nI_clamp (by omega), hb.2.2 a z]
    exact h
  · rw [if_neg z] at h
    exact br_t ((nI_leI (by omega) (by omega)).mpr (by omega)) h
theorem mLo (hN : N ≤ 60) (ha : a ≤ N) (hm : mR u N bf σ o a l) (h : K (some (.int (sgn N bf a))) σ) : sk_C sk_Sm e mX7_look [.ref 0] σ K := by
  refine wX7_look ?_
  rw [hm.1.1, hm.2.1]
  unfold sgn at h
  have e328 : (328 : Int32) + nI a = nI (328 + a) := by rw [show (328 : Int32) = nI 328 from rfl, nI_add]
  by_cases z : a < N
  · rw [if_pos z] at h
    refine br_f (fun y => absurd ((nI_leI (by omega) (by omega)).mp y) (by omega)) ⟨by rw [e328]; exact vp_in_nI (by omega) (by omega), ?_⟩
    rw [e328, nI_clamp (by omega), hm.1.2 a z]
    exact h
  · rw [if_neg z] at h
    exact br_t ((nI_leI (by omega) (by omega)).mpr (by omega)) h
theorem bR.adv (h : bR N bf τ a) : bR N bf (sk_u τ 43 2 (τ 43 2 + 1)) (a + 1) := ⟨(su_n (by omega)).trans h.1, by rw [su_e, h.2.1, nI_1], fun i hi => by rw [su_c (by omega)]; exact h.2.2 i hi⟩
theorem cR.adv (h : cR u N bf τ a l) : cR u N bf (sk_u τ 43 2 (τ 43 2 + 1)) (a + 1) l :=
  ⟨h.1.adv, (su_n (by omega)).trans h.2.1, (su_n (by omega)).trans h.2.2.1, fun i t ht => by rw [su_c (by omega)]; exact h.2.2.2 i t ht⟩
theorem fpC.adv {x : Int32} {j : Nat} : fpC τ (sk_u τ 43 j x) := fun c h _ => su_c h
theorem mR.adv (h : mR u N bf σ o a l) : mR u N bf (sk_u σ 0 4 (σ 0 4 + 1)) o (a + 1) l := by
  obtain ⟨⟨h1, h2⟩, h3, h4, h5, h6, h7⟩ := h
  refine ⟨⟨?_, fun i hi => ?_⟩, ?_, ?_, ?_, ?_, fun i t ht => ?_⟩
  · rw [su_c (by omega)]; exact h1
  · rw [su_c (by omega)]; exact h2 i hi
  · rw [su_e, h3, nI_1]
  · rw [su_n (by omega)]; exact h4
  · rw [su_n (by omega)]; exact h5
  · rw [su_n (by omega)]; exact h6
  · rw [su_c (by omega)]; exact h7 i t ht
theorem fpM.adv {x : Int32} : fpM σ (sk_u σ 0 4 x) := ⟨fun c h _ => su_c h, fun j h4 _ _ => su_n h4⟩
theorem fpM.opn {x : Int32} : fpM σ (sk_u σ 0 5 x) := ⟨fun c h _ => su_c h, fun j _ h5 _ => su_n h5⟩
/-- the open ones become more, or fewer -/
theorem mR.opn {x : Int32} {o2 : Nat} (h : mR u N bf σ o a l) (hx : x = nI o2) : mR u N bf (sk_u σ 0 5 x) o2 a l := by
  obtain ⟨⟨h1, h2⟩, h3, h4, h5, h6, h7⟩ := h
  refine ⟨⟨?_, fun i hi => ?_⟩, ?_, ?_, ?_, ?_, fun i t ht => ?_⟩
  · rw [su_c (by omega)]; exact h1
  · rw [su_c (by omega)]; exact h2 i hi
  · rw [su_n (by omega)]; exact h3
  · rw [su_e]; exact hx
  · rw [su_n (by omega)]; exact h5
  · rw [su_n (by omega)]; exact h6
  · rw [su_c (by omega)]; exact h7 i t ht
theorem pEm {t : Tk} (hl : l.length < 60) (hc : cR u N bf τ a l) (h : ∀ τ2, fpC τ τ2 → cR u N bf τ2 a (l ++ [t]) → K none τ2) : sk_C sk_Sc d mX2_emit [.ref 43, .int (cT t)] τ K := by
  obtain ⟨⟨b1, b2, b3⟩, c1, c2, c3⟩ := hc
  refine wX2_emit (br_f (by rw [c2]; exact fun y => absurd ((nI_leI (a := 60) (by omega) (by omega)).mp y) (by omega)) ⟨by rw [c2]; exact vp_in_nI hl (by omega), ?_⟩)
  refine h _ (fun c h43 h45 => (su_c h43).trans (su_c h45)) ⟨⟨?_, ?_, fun i hi => ?_⟩, ?_, ?_, fun i t2 ht => ?_⟩
  · rw [su_n (by omega), su_c (by omega)]; exact b1
  · rw [su_n (by omega), su_c (by omega)]; exact b2
  · rw [su_c (by omega), su_c (by omega)]; exact b3 i hi
  · rw [su_n (by omega), su_c (by omega)]; exact c1
  · rw [su_e, su_c (by omega), c2, nI_1, ap_len]
  · rw [su_c (by omega), c2, nI_clamp (by omega)]
    rcases ap_at ht with ⟨rfl, rfl⟩ | ⟨hi, ht⟩
    · rw [su_e]
    · rw [su_n (by omega)]; exact c3 i t2 ht
theorem pEmF {x : Int32} (hc : cF u N bf τ a) (h : ∀ τ2, fpC τ τ2 → cF u N bf τ2 a → K none τ2) : sk_C sk_Sc d mX2_emit [.ref 43, .int x] τ K := by
  obtain ⟨⟨b1, b2, b3⟩, c1, s, hs, c2⟩ := hc
  by_cases z : s = 60
  · exact wX2_emit (br_t (by rw [c2, z]; decide) (h τ fpC.rf ⟨⟨b1, b2, b3⟩, c1, s, hs, c2⟩))
  · refine wX2_emit (br_f (by rw [c2]; exact fun y => absurd ((nI_leI (a := 60) (by omega) (by omega)).mp y) (by omega)) ⟨by rw [c2]; exact vp_in_nI (by omega) (by omega), ?_⟩)
    refine h _ (fun c h43 h45 => (su_c h43).trans (su_c h45)) ⟨⟨?_, ?_, fun i hi => ?_⟩, ?_, s + 1, by omega, ?_⟩
    · rw [su_n (by omega), su_c (by omega)]; exact b1
    · rw [su_n (by omega), su_c (by omega)]; exact b2
    · rw [su_c (by omega), su_c (by omega)]; exact b3 i hi
    · rw [su_n (by omega), su_c (by omega)]; exact c1
    · rw [su_e, su_c (by omega), c2, nI_1]
theorem mEm {t : Tk} (hl : l.length < 60) (hm : mR u N bf σ o a l) (h : ∀ σ2, fpM σ σ2 → mR u N bf σ2 o a (l ++ [t]) → K none σ2) : sk_C sk_Sm e mX7_step1 [.ref 0, .int (wT t), .int (vT u t)] σ K := by
  obtain ⟨⟨h1, h2⟩, h3, h4, h5, h6, h7⟩ := hm
  have e2 : (2 : Int32) * σ 0 6 = nI (2 * l.length) := by rw [h5]; exact pk_mul 2 l.length
  have c2 : (2 * σ 0 6).toNatClampNeg = 2 * l.length := by rw [e2]; exact nI_clamp (by omega)
  have s6 : ∀ x j, sk_u σ 4 j x 0 6 = σ 0 6 := fun x j => by rw [su_c (by omega)]
  have e3 : 2 * σ 0 6 + 1 = nI (2 * l.length + 1) := by rw [e2, nI_1]
  refine wX7_step1 ⟨by rw [e2]; exact vp_in_nI (by omega) (by omega), by rw [s6, e3]; exact vp_in_nI (by omega) (by omega), ?_⟩
  rw [s6, c2, e3, nI_clamp (show 2 * l.length + 1 < 2 ^ 31 by omega)]
  refine h _ ⟨fun c c0 c4 => (su_c c0).trans ((su_c c4).trans (su_c c4)), fun j j4 j5 j6 => ?_⟩ ⟨⟨?_, fun i hi => ?_⟩, ?_, ?_, ?_, ?_, fun i t2 ht => ?_⟩
  · rw [su_n j6, su_c (by omega), su_c (by omega)]
  · rw [su_c (by omega), su_c (by omega), su_c (by omega)]; exact h1
  · rw [su_c (by omega), su_c (by omega), su_c (by omega)]; exact h2 i hi
  · rw [su_n (by omega), su_c (by omega), su_c (by omega)]; exact h3
  · rw [su_n (by omega), su_c (by omega), su_c (by omega)]; exact h4
  · rw [su_e, su_c (by omega), su_c (by omega), h5, nI_1, ap_len]
  · rw [su_n (by omega), su_c (by omega), su_c (by omega)]; exact h6
  · rw [su_c (by omega)]
    rcases ap_at ht with ⟨rfl, rfl⟩ | ⟨hi, ht⟩
    · exact ⟨by rw [su_n (by omega), su_e], su_e⟩
    · rw [su_n (by omega), su_n (by omega), su_n (by omega), su_n (by omega)]; exact h7 i t2 ht
end
/-! what a text's piece does to the stack -/
def isP (w : List Tk) : Prop := ∀ d r, wfd d (w ++ r) = wfd (d + 1) r
def isT (w : List Tk) : Prop := ∀ d r, wfd (d + 1) (w ++ r) = wfd (d + 1) r
theorem isT_0 : isT [] := fun _ _ => rfl
theorem isP_v (v : Nat) : isP [(0, v)] := fun _ _ => rfl
theorem isP_n (v : Nat) : isP [(1, v)] := fun _ _ => rfl
theorem isP_t {w w2 : List Tk} (h : isP w) (h2 : isT w2) : isP (w ++ w2) := fun d r => by rw [List.append_assoc, h d, h2 d r]
theorem isP_not {w : List Tk} (h : isP w) : isP (w ++ [(2, 0)]) := fun d r => by
  rw [List.append_assoc, h d]
  show (if 1 ≤ d + 1 then wfd (d + 1) r else none) = _
  rw [if_pos (by omega)]
theorem isT_op {w w2 : List Tk} {p : Nat} (h : isP w) (h2 : isT w2) : isT (w ++ ([(3, p)] ++ w2)) := fun d r => by
  rw [List.append_assoc, h (d + 1), List.append_assoc]
  show (if 2 ≤ d + 1 + 1 then wfd (d + 1 + 1 - 1) (w2 ++ r) else none) = _
  rw [if_pos (by omega), show d + 1 + 1 - 1 = d + 1 by omega, h2 d r]
theorem isP_op {w w2 : List Tk} {p : Nat} (h : isP w) (h2 : isP w2) : isP (w ++ (w2 ++ [(3, p)])) := fun d r => by
  rw [List.append_assoc, h d, List.append_assoc, h2 (d + 1)]
  show (if 2 ≤ d + 1 + 1 then wfd (d + 1 + 1 - 1) r else none) = _
  rw [if_pos (by omega), show d + 1 + 1 - 1 = d + 1 by omega]
def okW (w : List Tk) : Prop := ∀ t, t ∈ w → okT t
theorem okW_0 : okW [] := fun t h => by simp at h
theorem okW_1 {t : Tk} (h : okT t) : okW [t] := fun t2 h2 => by
  rw [List.mem_singleton] at h2
  rw [h2]; exact h
theorem okW_a {w w2 : List Tk} (h : okW w) (h2 : okW w2) : okW (w ++ w2) := fun t ht => by
  rcases List.mem_append.mp ht with z | z
  · exact h t z
  · exact h2 t z
def okO (N a : Nat) (b : Bool) (a2 : Nat) (w : List Tk) : Prop := a ≤ a2 ∧ a2 ≤ N ∧ (b = true → isP w ∧ okW w ∧ w.length + a ≤ a2 ∧ a < a2)
def okL (N a : Nat) (b : Bool) (a2 : Nat) (w : List Tk) : Prop := a ≤ a2 ∧ a2 ≤ N ∧ (b = true → isT w ∧ okW w ∧ w.length + a ≤ a2)
/-- both readers read a piece alike: MC and MM, at most o open -/
def JT (u N : Nat) (bf : Nat → Int32) (o d0 : Nat) (MC MM : sk_M) : Prop := ∀ a l, a ≤ N → l.length ≤ a → ∃ b a2 w, okO N a b a2 w ∧
  (∀ d τ K, d0 < d → cR u N bf τ a l → (∀ τ2, fpC τ τ2 → rsC u N bf τ2 b a2 (l ++ w) → K (some (.int (bI b))) τ2) → sk_C sk_Sc d MC [.ref 43, .int (nI o)] τ K) ∧
  (∀ e σ K, d0 < e → mR u N bf σ o a l → (∀ σ2, fpM σ σ2 → rsM u N bf σ2 b o a2 (l ++ w) → K (some (.int (bI b))) σ2) → sk_C sk_Sm e MM [.ref 0] σ K)
def LBj (u N : Nat) (bf : Nat → Int32) (o d0 : Nat) (MC MM : sk_M) (a : Nat) (l : List Tk) (i : Nat) : Prop := ∃ b a2 w, okL N a b a2 w ∧
  (∀ d τ K, d0 < d → cR u N bf τ a l → (∀ τ2, fpC τ τ2 → rsC u N bf τ2 b a2 (l ++ w) → K (some (.int (bI b))) τ2) → sk_G sk_Sc d MC 8 [(0, .ref 43), (1, .int (nI o)), (2, .int 1), (3, .int (nI i))] [] τ K) ∧
  (∀ e σ K, d0 < e → mR u N bf σ o a l → (∀ σ2, fpM σ σ2 → rsM u N bf σ2 b o a2 (l ++ w) → K (some (.int (bI b))) σ2) → sk_G sk_Sm e MM 9 [(0, .ref 0)] [] σ K)
theorem pEm2 {d : Nat} {τ : sk_T} {K : sk_K} {u N a : Nat} {bf : Nat → Int32} {l : List Tk} {t : Tk} {x : Int32} (hx : cT t = x) (hl : l.length < 60) (hc : cR u N bf τ a l) (h : ∀ τ2, fpC τ τ2 → cR u N bf τ2 a (l ++ [t]) → K none τ2) : sk_C sk_Sc d mX2_emit [.ref 43, .int x] τ K := by
  subst hx
  exact pEm hl hc h
theorem mEm2 {e : Nat} {σ : sk_T} {K : sk_K} {u N a o : Nat} {bf : Nat → Int32} {l : List Tk} {t : Tk} {x y : Int32} (hx : wT t = x) (hy : vT u t = y) (hl : l.length < 60) (hm : mR u N bf σ o a l) (h : ∀ σ2, fpM σ σ2 → mR u N bf σ2 o a (l ++ [t]) → K none σ2) : sk_C sk_Sm e mX7_step1 [.ref 0, .int x, .int y] σ K := by
  subst hx
  subst hy
  exact mEm hl hm h
