/-! ===== the pure part: helpers ===== -/
theorem ns_t {c A B : Prop} (h : ¬ c) (a : A) : (¬ c → A) ∧ (c → B) := ⟨fun _ => a, fun z => absurd z h⟩
theorem ns_f {c A B : Prop} (h : c) (b : B) : (¬ c → A) ∧ (c → B) := ⟨fun z => absurd h z, fun _ => b⟩
theorem ex_i {x : Int32} {P : Int32 → Prop} (h : P x) : ∃ r : Int32, some (Value.int x) = some (.int r) ∧ P r := ⟨x, rfl, h⟩
theorem ex_l {x : Int64} {P : Int64 → Prop} (h : P x) : ∃ r : Int64, some (Value.long x) = some (.long r) ∧ P r := ⟨x, rfl, h⟩
theorem ex_v {P : Prop} (h : P) : (none : Option Value) = none ∧ P := ⟨rfl, h⟩
theorem i1_0 : ¬ (1 : Int32) = 0 := by decide
theorem su_c {τ : sk_T} {a j b : Nat} {x : Int32} (h : b ≠ a) : sk_u τ a j x b = τ b := by
  unfold sk_u sk_w
  rw [if_neg h]
theorem su_s {τ : sk_T} {a j : Nat} {x : Int32} : sk_u τ a j x a = upd (τ a) j x := by
  unfold sk_u sk_w
  rw [if_pos rfl]
theorem su_e {τ : sk_T} {a j : Nat} {x : Int32} : sk_u τ a j x a j = x := by rw [su_s]; unfold upd; rw [if_pos rfl]
theorem su_n {τ : sk_T} {a j i : Nat} {x : Int32} (h : i ≠ j) : sk_u τ a j x a i = τ a i := by rw [su_s]; unfold upd; rw [if_neg h]
theorem sw_s {τ : sk_T} {a : Nat} {f : Nat → Int32} : sk_w τ a f a = f := by unfold sk_w; rw [if_pos rfl]
theorem sw_c {τ : sk_T} {a b : Nat} {f : Nat → Int32} (h : b ≠ a) : sk_w τ a f b = τ b := by unfold sk_w; rw [if_neg h]
theorem lc_0 {x : Int64} : lg_cmp x 0 = 0 ↔ x = 0 := by
  unfold lg_cmp
  constructor
  · intro h
    by_cases h1 : x > 0
    · rw [if_pos h1] at h; exact absurd h (by decide)
    · rw [if_neg h1] at h
      by_cases h2 : x = 0
      · exact h2
      · rw [if_neg h2] at h; exact absurd h (by decide)
  · intro h; subst h; decide
theorem lc_e {x y : Int64} : lg_cmp x y = 0 ↔ x = y := by
  unfold lg_cmp
  constructor
  · intro h
    by_cases h1 : x > y
    · rw [if_pos h1] at h; exact absurd h (by decide)
    · rw [if_neg h1] at h
      by_cases h2 : x = y
      · exact h2
      · rw [if_neg h2] at h; exact absurd h (by decide)
  · intro h; subst h
    rw [if_neg (by exact Int64.lt_irrefl), if_pos rfl]
theorem nI_m1 (n : Nat) : nI (n + 1) - 1 = nI n := nI_pred n
theorem nI_nm1 {k : Nat} (h : k < 2 ^ 31) : ¬ nI k = -1 := by
  intro e
  have h1 := nI_toInt h
  rw [e] at h1
  have h2 : (-1 : Int32).toInt = -1 := rfl
  rw [h2] at h1
  omega
theorem nI_not_lt0 {k : Nat} (h : k < 2 ^ 31) : ¬ nI k < 0 := nI_pos h
/-- an index of a slate, or none -/
theorem ix_cases (x : Int32) (n : Nat) (hn : n < 2 ^ 31) : (∃ k, k < n ∧ x = nI k) ∨ ((x < 0 ∨ nI n ≤ x) ∧ ¬ ∃ k, k < n ∧ x = nI k) := by
  rcases pk_ix x hn with h | h | ⟨j, h1, h2⟩
  · refine Or.inr ⟨Or.inl h, ?_⟩
    rintro ⟨k, hk, rfl⟩
    exact nI_pos (by omega) h
  · refine Or.inr ⟨Or.inr h, ?_⟩
    rintro ⟨k, hk, rfl⟩
    exact absurd ((nI_leI hn (by omega)).mp h) (by omega)
  · exact Or.inl ⟨j, h1, h2⟩
/-! ===== what is related: the class's numbers τ, the reference's σ ===== -/
/-- a slate's numbers are in their ranges -/
def tl_ok (t : Nat → Int32) (k : Nat) : Prop :=
  (∃ a, a ≤ 6 ∧ t 0 = nI a) ∧ (∃ a, a ≤ 9 ∧ t 1 = nI a) ∧ (t 2 = 1 ∨ t 2 = 2) ∧ (∃ a, a ≤ 9 ∧ t 3 = nI a) ∧ (t 4 = -1 ∨ ∃ j, j < k ∧ t 4 = nI j) ∧ (∃ a, a ≤ 999 ∧ t 5 = nI a) ∧ (t 6 = -1 ∨ ∃ c, c < 48 ∧ t 6 = nI c)
/-- number j of slate k in the reference's row s -/
def fl (s : Nat → Int32) (k j : Nat) : Int32 := s (8 + 7 * k + j)
def RT (τ : sk_T) (r : Nat) (s : Nat → Int32) (n : Nat) : Prop :=
  n ≤ 10 ∧ s 6 = nI n ∧ τ (1 + r) 1 = nI n ∧ ∀ k, k < n → (∀ j, j < 7 → τ (3 + 10 * r + k) j = fl s k j) ∧ tl_ok (fl s k) k
/-- year, whether sold -/
def RY (τ : sk_T) (r : Nat) (s : Nat → Int32) : Prop :=
  (∃ y, y ≤ 9999 ∧ s 0 = nI y ∧ τ (1 + r) 2 = nI y) ∧ (s 1 = 0 ∨ s 1 = 1) ∧ τ (1 + r) 3 = s 1
/-- what is LAID, how broad, what it holds -/
def pBr (t : Nat → Int32) : Int32 := if t 0 = 1 ∨ t 0 = 4 then t 2 + 1 else if t 0 = 5 then (if 1 < t 2 then t 2 - 1 else 1) else t 2
def pHo (t : Nat → Int32) (year sold : Int32) : Int32 :=
  if t 0 = 1 then 3 * t 3 + t 1 - 2 else if t 0 = 2 then 3 * t 3 + t 1 + t 5 / 5 else if t 0 = 3 then 3 * t 3 + t 1 + year % 3
  else if t 0 = 4 then 3 * t 3 + t 1 - 2 + t 3 else if t 0 = 5 then 2 * (3 * t 3 + t 1 + t 5 / 5) - t 1 else if t 0 = 6 then (if sold = 1 then 0 else 3 * t 3 + t 1) else 3 * t 3 + t 1
def tOwn (b c : Int32) : Int64 := (((1 <<< (Int32.toInt64 b &&& 63)) - 1) <<< (Int32.toInt64 (c % 8) &&& 63) &&& 255) <<< (Int32.toInt64 (c - c % 8) &&& 63)
/-- the OWN CELLS at a cell -/
def pAt (t : Nat → Int32) (c : Int32) : Int64 := tOwn (pBr t) c
def pOwn (t : Nat → Int32) : Int64 := if t 6 = -1 then 0 else pAt t (t 6)
def tUn (o : Int64) : Int64 := (o <<< (Int32.toInt64 (8 : Int32) &&& 63)) &&& 281474976710655
def tAb (o : Int64) : Int64 := sk_lush o 8
def tCov (o : Int64) : Int64 := o ||| tUn o
theorem br_rng {t : Nat → Int32} {k : Nat} (h : tl_ok t k) : pBr t = 1 ∨ pBr t = 2 ∨ pBr t = 3 := by
  obtain ⟨⟨a, ha, e0⟩, -, h2, -⟩ := h
  unfold pBr
  rcases h2 with h2 | h2 <;> rw [h2] <;> (split; · decide) <;> (split; · decide) <;> decide
theorem own_rng {t : Nat → Int32} {k : Nat} (h : tl_ok t k) : t 6 = -1 ∨ ∃ c, c < 48 ∧ t 6 = nI c := h.2.2.2.2.2.2
/-! tables: b in 1, 2, 3, c in 0 .. 47 -/
def tb3 (p : Int32 → Nat → Bool) : Bool := (List.range 48).all (fun c => p 1 c && p 2 c && p 3 c)
theorem tb3_of {p : Int32 → Nat → Bool} (h : tb3 p = true) {b : Int32} (hb : b = 1 ∨ b = 2 ∨ b = 3) {c : Nat} (hc : c < 48) : p b c = true := by
  have h1 := List.all_eq_true.mp h c (List.mem_range.mpr hc)
  simp only [Bool.and_eq_true] at h1
  rcases hb with rfl | rfl | rfl
  · exact h1.1.1
  · exact h1.1.2
  · exact h1.2
/-- the loop of the reference's ownAt -/
def oLp (br cell place : Int32) : Nat → Int32 → Int64 → Int64
  | 0, _, set => set
  | n + 1, b, set => if br ≤ b then set else if 8 ≤ place + b then set else oLp br cell place n (b + 1) (set ||| (1 <<< (Int32.toInt64 (cell + b) &&& 63)))
theorem own_tab : tb3 (fun b c => decide (oLp b (nI c) (nI c % 8) 4 0 0 = tOwn b (nI c))) = true := by decide +kernel
theorem own_ne : tb3 (fun b c => decide (¬ tOwn b (nI c) = 0)) = true := by decide +kernel
theorem cov_tab : tb3 (fun b c => decide ((tOwn b (nI c) ||| (tOwn b (nI c) <<< (Int32.toInt64 (8 : Int32) &&& 63))) &&& 281474976710655 = tCov (tOwn b (nI c)))) = true := by decide +kernel
theorem own_all : tb3 (fun b c => decide (tOwn b (nI c) &&& 281474976710655 = tOwn b (nI c))) = true := by decide +kernel
