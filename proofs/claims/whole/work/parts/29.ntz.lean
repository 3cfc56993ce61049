/-! ===== the lowest bit: Integer's and Long's numberOfTrailingZeros; the first cell that is not dry ===== -/
theorem odd_part : ∀ n : Nat, 0 < n → ∃ t m, n = 2 ^ t * (2 * m + 1) := by
  intro n
  induction n using Nat.strongRecOn with
  | ind n ih =>
    intro hn
    rcases Nat.mod_two_eq_zero_or_one n with h | h
    · obtain ⟨t, m, e⟩ := ih (n / 2) (by omega) (by omega)
      refine ⟨t + 1, m, ?_⟩
      rw [Nat.pow_succ, Nat.mul_comm (2 ^ t) 2, Nat.mul_assoc, ← e]
      omega
    · exact ⟨0, n / 2, by omega⟩
theorem op_bit {t m j : Nat} : (2 ^ t * (2 * m + 1)).testBit j = (decide (t ≤ j) && (2 * m + 1).testBit (j - t)) := Nat.testBit_two_pow_mul
theorem op_pred {t m j : Nat} : (2 ^ t * (2 * m + 1) - 1).testBit j = if j < t then true else (2 * m).testBit (j - t) := by
  have e : 2 ^ t * (2 * m + 1) - 1 = 2 ^ t * (2 * m) + (2 ^ t - 1) := by
    have := Nat.two_pow_pos t
    rw [Nat.mul_add]; omega
  rw [e, Nat.testBit_two_pow_mul_add _ (by have := Nat.two_pow_pos t; omega), Nat.testBit_two_pow_sub_one]
  split
  · rename_i h; exact decide_eq_true h
  · rfl
theorem b_n1 : ∀ i, i < 32 → bt (-1) i = true := by decide +kernel
theorem bL_m1 : ∀ i, i < 64 → btL (-1) i = true := by decide +kernel
theorem bL_not (x : Int64) {i : Nat} (h : i < 64) : btL (x ^^^ (-1)) i = !btL x i := by
  have := bL_m1 i h
  unfold btL at this ⊢
  rw [Int64.toBitVec_xor, BitVec.getLsbD_xor, this, Bool.xor_true]
theorem nt_w {v : Int32} {t : Nat} (ht : t < 32) (h1 : bt v t = true) (h2 : ∀ j, j < t → bt v j = false) : (v ^^^ (-1)) &&& (v - 1) = nI (2 ^ t - 1) := by
  obtain ⟨n, hn, e⟩ : ∃ n, n < 2 ^ 32 ∧ v = nI n := by
    refine ⟨v.toBitVec.toNat, v.toBitVec.isLt, ?_⟩
    apply Int32.toBitVec_inj.mp
    apply BitVec.eq_of_toNat_eq
    show _ = (BitVec.ofNat 32 v.toBitVec.toNat).toNat
    rw [BitVec.toNat_ofNat, Nat.mod_eq_of_lt v.toBitVec.isLt]
  subst e
  have h0 : 0 < n := by
    rcases Nat.eq_zero_or_pos n with z | z
    · subst z
      rw [nI_bt _ _ ht, Nat.zero_testBit] at h1
      cases h1
    · exact z
  obtain ⟨q, m, e⟩ := odd_part n h0
  have hq : q = t := by
    rcases Nat.lt_trichotomy q t with z | z | z
    · have := h2 q z
      rw [nI_bt _ _ (by omega), e, op_bit, Nat.sub_self, Nat.testBit_zero, decide_eq_true (Nat.le_refl q)] at this
      simp [Nat.add_mod] at this
    · exact z
    · rw [nI_bt _ _ ht, e, op_bit, decide_eq_false (by omega)] at h1
      cases h1
  subst hq
  have e1 : nI n - 1 = nI (n - 1) := by
    obtain ⟨k, rfl⟩ : ∃ k, n = k + 1 := ⟨n - 1, by omega⟩
    exact nI_m1 k
  apply b_ext
  intro j hj
  rw [b_and, b_xor, b_n1 j hj, e1, nI_bt _ _ hj, nI_bt _ _ hj, nI_bt _ _ hj, Nat.testBit_two_pow_sub_one, e, op_bit, op_pred]
  by_cases z : j < q
  · rw [if_pos z, decide_eq_false (by omega), decide_eq_true z]; rfl
  · rw [if_neg z, decide_eq_true (by omega), decide_eq_false z]
    cases h : j - q with
    | zero =>
      rw [Nat.testBit_zero]
      simp [Nat.add_mod]
    | succ k =>
      rw [Nat.testBit_succ, Nat.testBit_succ, show (2 * m + 1) / 2 = m by omega, show 2 * m / 2 = m by omega]
      cases m.testBit k <;> rfl
def ntF (w : Int32) : Int32 :=
  if 0 < w then
    if w ≤ 65536 then
      if w ≤ 256 then
        if w ≤ 16 then
          if w ≤ 4 then 1 + sk_ush w 1 else (1 + 2) + sk_ush (sk_ush w 2) 1
        else if sk_ush w 4 ≤ 4 then (1 + 4) + sk_ush (sk_ush w 4) 1 else ((1 + 4) + 2) + sk_ush (sk_ush (sk_ush w 4) 2) 1
      else if sk_ush w 8 ≤ 16 then
          if sk_ush w 8 ≤ 4 then (1 + 8) + sk_ush (sk_ush w 8) 1 else ((1 + 8) + 2) + sk_ush (sk_ush (sk_ush w 8) 2) 1
        else if sk_ush (sk_ush w 8) 4 ≤ 4 then ((1 + 8) + 4) + sk_ush (sk_ush (sk_ush w 8) 4) 1 else (((1 + 8) + 4) + 2) + sk_ush (sk_ush (sk_ush (sk_ush w 8) 4) 2) 1
    else
      if sk_ush w 16 ≤ 256 then
        if sk_ush w 16 ≤ 16 then
          if sk_ush w 16 ≤ 4 then (1 + 16) + sk_ush (sk_ush w 16) 1 else ((1 + 16) + 2) + sk_ush (sk_ush (sk_ush w 16) 2) 1
        else if sk_ush (sk_ush w 16) 4 ≤ 4 then ((1 + 16) + 4) + sk_ush (sk_ush (sk_ush w 16) 4) 1 else (((1 + 16) + 4) + 2) + sk_ush (sk_ush (sk_ush (sk_ush w 16) 4) 2) 1
      else if sk_ush (sk_ush w 16) 8 ≤ 16 then
          if sk_ush (sk_ush w 16) 8 ≤ 4 then ((1 + 16) + 8) + sk_ush (sk_ush (sk_ush w 16) 8) 1 else (((1 + 16) + 8) + 2) + sk_ush (sk_ush (sk_ush (sk_ush w 16) 8) 2) 1
        else if sk_ush (sk_ush (sk_ush w 16) 8) 4 ≤ 4 then (((1 + 16) + 8) + 4) + sk_ush (sk_ush (sk_ush (sk_ush w 16) 8) 4) 1 else ((((1 + 16) + 8) + 4) + 2) + sk_ush (sk_ush (sk_ush (sk_ush (sk_ush w 16) 8) 4) 2) 1
  else w &&& 32
theorem nt_t : ∀ t, t < 32 → ntF (nI (2 ^ t - 1)) = nI t := by decide +kernel
theorem ip_2 {P : Int32 → Prop} {c A B : Prop} [Decidable c] {a b : Int32} (h1 : P a → A) (h2 : P b → B) : P (if c then a else b) → (c → A) ∧ (¬ c → B) := fun h => by
  by_cases z : c
  · rw [if_pos z] at h; exact ⟨fun _ => h1 h, fun y => absurd z y⟩
  · rw [if_neg z] at h; exact ⟨fun y => absurd y z, fun _ => h2 h⟩
section
variable {d : Nat} {τ σ : sk_T} {K : sk_K} {s : Nat → Int32} {n : Nat}
theorem pJ6_ntz {v : Int32} {t : Nat} (ht : t < 32) (h1 : bt v t = true) (h2 : ∀ j, j < t → bt v j = false) (h : K (some (.int (nI t))) τ) : sk_C sk_Sc d mJ6_numberOfTrailingZeros_0f7a4 [.int v] τ K := by
  have hw := nt_w ht h1 h2
  have h3 : K (some (.int (ntF (nI (2 ^ t - 1))))) τ := by rw [nt_t t ht]; exact h
  refine wJ6_numberOfTrailingZeros_0f7a4 ?_
  rw [hw]
  revert h3
  unfold ntF
  repeat' (first | exact id | refine ip_2 (P := fun x => K (some (.int x)) τ) ?_ ?_)
end
theorem i32_bt (x : Int64) {j : Nat} (hj : j < 32) : bt x.toInt32 j = btL x j := by
  rw [i64_i32, nI_bt _ _ hj]; rfl
theorem i32_z {x : Int64} : (¬ x.toInt32 = 0 → ∃ j, j < 32 ∧ btL x j = true) ∧ (x.toInt32 = 0 → ∀ j, j < 32 → btL x j = false) := by
  constructor
  · intro h
    refine Classical.byContradiction (fun z => h (b_ext (fun i hi => ?_)))
    rw [i32_bt x hi, b_0]
    exact tn_f (fun y => z ⟨i, hi, y⟩)
  · intro h j hj
    rw [← i32_bt x hj, h, b_0]
/-- the first bit that is not set -/
theorem fz_or (B : Nat → Bool) : ∀ n, (∀ j, j < n → B j = true) ∨ ∃ t, t < n ∧ B t = false ∧ ∀ j, j < t → B j = true
  | 0 => Or.inl (fun j hj => absurd hj (by omega))
  | n + 1 => by
    rcases fz_or B n with h | ⟨t, h1, h2, h3⟩
    · cases e : B n with
      | false => exact Or.inr ⟨n, by omega, e, h⟩
      | true => exact Or.inl (fun j hj => by
          by_cases z : j = n
          · rw [z]; exact e
          · exact h j (by omega))
    · exact Or.inr ⟨t, by omega, h2, h3⟩
theorem dry_48 {s : Nat → Int32} {g : Nat → Bool} {n : Nat} (hk : ∀ k, k < n → tl_ok (fl s k) k) : ∀ m, m ≤ n → ∀ i, 48 ≤ i → btL (dryF s g m) i = false
  | 0, _, i, _ => bL_0 i
  | m + 1, hm, i, hi => by
    have ih := dry_48 (g := g) hk m (by omega) i hi
    unfold dryF
    split
    · exact ih
    · rw [bL_or, ih, ← own_cov (hk m (by omega)), bL_and, bL_all, decide_eq_false (show ¬ i < 48 by omega), Bool.and_false]; rfl
section
variable {d : Nat} {τ σ : sk_T} {K : sk_K} {s : Nat → Int32} {n : Nat}
theorem pJ13_ntz {x : Int64} {t : Nat} (hd : 0 < d) (ht : t < 64) (h1 : btL x t = true) (h2 : ∀ j, j < t → btL x j = false) (h : K (some (.int (nI t))) τ) : sk_C sk_Sc d mJ13_numberOfTrailingZeros_95d88 [.long x] τ K := by
  refine wJ13_numberOfTrailingZeros_95d88 hd ⟨fun e => ?_, fun e => ?_⟩
  · obtain ⟨j, hj, hb⟩ := i32_z.1 e
    have ht : t < 32 := by
      rcases Nat.lt_or_ge t 32 with z | z
      · exact z
      · rw [h2 j (by omega)] at hb; cases hb
    exact pJ6_ntz ht (by rw [i32_bt x ht]; exact h1) (fun j hj => by rw [i32_bt x (by omega)]; exact h2 j hj) (ex_i h)
  · have z := i32_z.2 e
    have ht2 : 32 ≤ t := by
      rcases Nat.lt_or_ge t 32 with y | y
      · rw [z t y] at h1; cases h1
      · exact y
    have hb : ∀ j, j < 32 → bt (sk_lush x 32).toInt32 j = btL x (32 + j) := fun j hj => by
      rw [i32_bt _ hj]; exact bL_ush 32 (by omega) x j
    refine pJ6_ntz (t := t - 32) (by omega) (by rw [hb _ (by omega), show 32 + (t - 32) = t by omega]; exact h1) (fun j hj => by rw [hb j (by omega)]; exact h2 _ (by omega)) (ex_i ?_)
    rw [show (32 : Int32) = nI 32 from rfl, nI_add, show 32 + (t - 32) = t by omega]
    exact h
/-- the first cell not dry, the class's side -/
theorem dry_full {D : Int64} (h48 : ∀ i, 48 ≤ i → btL D i = false) : D = 281474976710655 ↔ ∀ j, j < 48 → btL D j = true := by
  constructor
  · intro h j hj
    rw [h, bL_all, decide_eq_true hj]
  · intro h
    apply bL_ext
    intro i hi
    rw [bL_all]
    by_cases z : i < 48
    · rw [h i z, decide_eq_true z]
    · rw [h48 i (by omega), decide_eq_false z]
theorem cls_fz {D : Int64} {t : Nat} (hd : 0 < d) (ht : t < 48) (h1 : btL D t = false) (h2 : ∀ j, j < t → btL D j = true) (h : K (some (.int (nI t))) τ) : sk_C sk_Sc d mJ13_numberOfTrailingZeros_95d88 [.long (D ^^^ (-1))] τ K :=
  pJ13_ntz hd (t := t) (by omega) (by rw [bL_not D (by omega), h1]; rfl) (fun j hj => by rw [bL_not D (by omega), h2 j hj]; rfl) h
theorem lX7_dry43 {D : Int64} (hd : 0 < d) (hN : (∀ j, j < 48 → btL D j = true) → sk_C sk_Sm (d - 1) mX7_error [.ref 0, .int 2] σ (fun w t82 => ∃ r82 : Int32, w = some (.int r82) ∧ K (some (.long (Int32.toInt64 r82))) t82))
    (hS : ∀ t, t < 48 → btL D t = false → (∀ j, j < t → btL D j = true) → K (some (.long (Int32.toInt64 (nI t)))) σ) : ∀ m i, i + m = 48 → (∀ j, j < i → btL D j = true) → sk_G sk_Sm d mX7_dry 43 [(0, .ref 0), (2, .long D), (4, .int (nI i))] [] σ K := by
  intro m
  induction m with
  | zero =>
    intro i hi hj
    have : i = 48 := by omega
    subst this
    exact bX7_dry_43 (by omega) (br_t (by decide) (br_t (by decide) (hN hj)))
  | succ m ih =>
    intro i hi hj
    refine bX7_dry_43 (by omega) (br_f (nlt48 (by omega)) ?_)
    rw [nI_1, lc_e, bL_t (by omega)]
    cases hb : btL D i with
    | true =>
      exact ns_f rfl (ih (i + 1) (by omega) (fun j h2 => by
        by_cases z : j = i
        · rw [z]; exact hb
        · exact hj j (by omega)))
    | false =>
      exact ns_t (by decide) (br_f (nlt48 (by omega)) (hS i (by omega) hb hj))
end
