/-! ===== bits: the family 'Int32 by its bits' of the kit's BITS, pasted; the same for longs ===== -/
def bt (x : Int32) (i : Nat) : Bool := x.toBitVec.getLsbD i
theorem b_ext {x y : Int32} (h : ∀ i, i < 32 → bt x i = bt y i) : x = y := Int32.toBitVec_inj.mp (BitVec.eq_of_getLsbD_eq (fun i hi => h i hi))
theorem b_or (x y : Int32) (i : Nat) : bt (x ||| y) i = (bt x i || bt y i) := by unfold bt; rw [Int32.toBitVec_or, BitVec.getLsbD_or]
theorem b_and (x y : Int32) (i : Nat) : bt (x &&& y) i = (bt x i && bt y i) := by unfold bt; rw [Int32.toBitVec_and, BitVec.getLsbD_and]
theorem b_xor (x y : Int32) (i : Nat) : bt (x ^^^ y) i = (bt x i ^^ bt y i) := by unfold bt; rw [Int32.toBitVec_xor, BitVec.getLsbD_xor]
theorem b_big {x : Int32} {i : Nat} (h : 32 ≤ i) : bt x i = false := BitVec.getLsbD_of_ge _ _ h
theorem b_255 (i : Nat) : bt 255 i = decide (i < 8) := by
  rcases Nat.lt_or_ge i 32 with h | h
  · exact (by decide +kernel : ∀ i, i < 32 → bt 255 i = decide (i < 8)) i h
  · rw [b_big h, decide_eq_false (by omega)]
theorem b_65535 (i : Nat) : bt 65535 i = decide (i < 16) := by
  rcases Nat.lt_or_ge i 32 with h | h
  · exact (by decide +kernel : ∀ i, i < 32 → bt 65535 i = decide (i < 16)) i h
  · rw [b_big h, decide_eq_false (by omega)]
theorem b_m1 : ∀ i, i < 32 → bt (-1) i = true := by decide +kernel
theorem b_0 (i : Nat) : bt 0 i = false := BitVec.getLsbD_zero
theorem s_l : ∀ n, n < 32 → ((nI n &&& 31).toBitVec.smod 32).toNat = n := by decide +kernel
theorem s_u : ∀ n, n < 32 → (((nI n).toUInt32 &&& Int32.toUInt32 31).toBitVec % 32).toNat = n := by decide +kernel
theorem b_shl (n : Nat) (hn : n < 32) (x : Int32) {i : Nat} (hi : i < 32) : bt (x <<< (nI n &&& 31)) i = (decide (n ≤ i) && bt x (i - n)) := by
  unfold bt
  rw [Int32.toBitVec_shiftLeft]
  show (x.toBitVec <<< ((nI n &&& 31).toBitVec.smod 32).toNat).getLsbD i = _
  rw [s_l n hn, BitVec.getLsbD_shiftLeft]
  rcases Nat.lt_or_ge i n with h | h
  · simp [h, Nat.not_le.mpr h]
  · simp [hi, h, Nat.not_lt.mpr h]
theorem b_ushr (n : Nat) (hn : n < 32) (x : Int32) (i : Nat) : bt ((x.toUInt32 >>> ((nI n).toUInt32 &&& Int32.toUInt32 31)).toInt32) i = bt x (n + i) := by
  show (x.toUInt32 >>> ((nI n).toUInt32 &&& Int32.toUInt32 31)).toBitVec.getLsbD i = x.toUInt32.toBitVec.getLsbD (n + i)
  rw [UInt32.toBitVec_shiftRight]
  show (x.toUInt32.toBitVec >>> (((nI n).toUInt32 &&& Int32.toUInt32 31).toBitVec % 32).toNat).getLsbD i = _
  rw [s_u n hn, BitVec.getLsbD_ushiftRight]
theorem b_sshr (n : Nat) (hn : n < 32) (x : Int32) {i : Nat} (hi : i < 32) : bt (x >>> (nI n &&& 31)) i = if n + i < 32 then bt x (n + i) else bt x 31 := by
  unfold bt
  rw [Int32.toBitVec_shiftRight]
  show (x.toBitVec.sshiftRight ((nI n &&& 31).toBitVec.smod 32).toNat).getLsbD i = _
  rw [s_l n hn, BitVec.getLsbD_sshiftRight, BitVec.msb_eq_getLsbD_last]
  simp [hi]
theorem b_shl8 (x : Int32) {i : Nat} (hi : i < 32) : bt (x <<< ((8 : Int32) &&& 31)) i = (decide (8 ≤ i) && bt x (i - 8)) := b_shl 8 (by omega) x hi
theorem b_shl16 (x : Int32) {i : Nat} (hi : i < 32) : bt (x <<< ((16 : Int32) &&& 31)) i = (decide (16 ≤ i) && bt x (i - 16)) := b_shl 16 (by omega) x hi
theorem b_shl24 (x : Int32) {i : Nat} (hi : i < 32) : bt (x <<< ((24 : Int32) &&& 31)) i = (decide (24 ≤ i) && bt x (i - 24)) := b_shl 24 (by omega) x hi
theorem b_sshr8 (x : Int32) {i : Nat} (hi : i < 32) : bt (x >>> ((8 : Int32) &&& 31)) i = if 8 + i < 32 then bt x (8 + i) else bt x 31 := b_sshr 8 (by omega) x hi
/-- one bit of an int, as the code asks for it -/
theorem b_1 (i : Nat) : bt 1 i = decide (i = 0) := by
  rcases Nat.lt_or_ge i 32 with h | h
  · exact (by decide +kernel : ∀ i, i < 32 → bt 1 i = decide (i = 0)) i h
  · rw [b_big h, decide_eq_false (by omega)]
theorem b_t {x : Int32} {k : Nat} (hk : k < 31) : ((x >>> (nI k &&& 31)) &&& 1) = (if bt x k = true then 1 else 0) := by
  apply b_ext
  intro i hi
  rw [b_and, b_1]
  by_cases h : i = 0
  · subst h
    rw [b_sshr k (by omega) x hi, if_pos (by omega)]
    cases hx : bt x (k + 0) <;> rw [Nat.add_zero] at hx <;> simp [hx, b_1, b_0]
  · have e : decide (i = 0) = false := decide_eq_false h
    rw [e, Bool.and_false]
    split
    · rw [b_1, e]
    · rw [b_0]
theorem b_t0 {x : Int32} {k : Nat} (hk : k < 31) : ((x >>> (nI k &&& 31)) &&& 1) = 0 ↔ bt x k = false := by
  rw [b_t hk]
  cases bt x k <;> simp
theorem b_t1 {x : Int32} {k : Nat} (hk : k < 31) : ((x >>> (nI k &&& 31)) &&& 1) = 1 ↔ bt x k = true := by
  rw [b_t hk]
  cases bt x k <;> simp
theorem b_one (k : Nat) (hk : k < 32) {i : Nat} (hi : i < 32) : bt ((1 : Int32) <<< (nI k &&& 31)) i = decide (i = k) := by
  rw [b_shl k hk 1 hi, b_1]
  by_cases h : i = k
  · subst h; simp
  · rw [decide_eq_false h]
    rcases Nat.lt_or_ge i k with h2 | h2
    · simp [Nat.not_le.mpr h2]
    · rw [decide_eq_false (show ¬ i - k = 0 by omega), Bool.and_false]
/-- a set of slates, from its members below 10 -/
theorem b_set {x y : Int32} {n : Nat} (hx : ∀ i, n ≤ i → i < 32 → bt x i = false) (hy : ∀ i, n ≤ i → i < 32 → bt y i = false) (h : ∀ i, i < n → bt x i = bt y i) : x = y := by
  apply b_ext
  intro i hi
  rcases Nat.lt_or_ge i n with h2 | h2
  · exact h i h2
  · rw [hx i h2 hi, hy i h2 hi]
def btL (x : Int64) (i : Nat) : Bool := x.toBitVec.getLsbD i
theorem bL_ext {x y : Int64} (h : ∀ i, i < 64 → btL x i = btL y i) : x = y := Int64.toBitVec_inj.mp (BitVec.eq_of_getLsbD_eq (fun i hi => h i hi))
theorem bL_or (x y : Int64) (i : Nat) : btL (x ||| y) i = (btL x i || btL y i) := by unfold btL; rw [Int64.toBitVec_or, BitVec.getLsbD_or]
theorem bL_and (x y : Int64) (i : Nat) : btL (x &&& y) i = (btL x i && btL y i) := by unfold btL; rw [Int64.toBitVec_and, BitVec.getLsbD_and]
theorem bL_0 (i : Nat) : btL 0 i = false := BitVec.getLsbD_zero
theorem bL_big {x : Int64} {i : Nat} (h : 64 ≤ i) : btL x i = false := BitVec.getLsbD_of_ge _ _ h
theorem bL_z {x : Int64} : x = 0 ↔ ∀ i, i < 64 → btL x i = false := by
  constructor
  · intro h i _; subst h; exact bL_0 i
  · intro h; exact bL_ext (fun i hi => by rw [h i hi, bL_0])
theorem bL_1 (i : Nat) : btL 1 i = decide (i = 0) := by
  rcases Nat.lt_or_ge i 64 with h | h
  · exact (by decide +kernel : ∀ i, i < 64 → btL 1 i = decide (i = 0)) i h
  · rw [bL_big h, decide_eq_false (by omega)]
theorem sL_l : ∀ n, n < 64 → ((Int32.toInt64 (nI n) &&& 63).toBitVec.smod 64).toNat = n := by decide +kernel
theorem sL_u : ∀ n, n < 64 → (((nI n).toInt64.toUInt64 &&& Int64.toUInt64 63).toBitVec % 64).toNat = n := by decide +kernel
theorem bL_shl (n : Nat) (hn : n < 64) (x : Int64) {i : Nat} (hi : i < 64) : btL (x <<< (Int32.toInt64 (nI n) &&& 63)) i = (decide (n ≤ i) && btL x (i - n)) := by
  unfold btL
  rw [Int64.toBitVec_shiftLeft]
  show (x.toBitVec <<< ((Int32.toInt64 (nI n) &&& 63).toBitVec.smod 64).toNat).getLsbD i = _
  rw [sL_l n hn, BitVec.getLsbD_shiftLeft]
  rcases Nat.lt_or_ge i n with h | h
  · simp [h, Nat.not_le.mpr h]
  · simp [hi, h, Nat.not_lt.mpr h]
theorem bL_ush (n : Nat) (hn : n < 64) (x : Int64) (i : Nat) : btL (sk_lush x (nI n)) i = btL x (n + i) := by
  show (x.toUInt64 >>> ((nI n).toInt64.toUInt64 &&& Int64.toUInt64 63)).toBitVec.getLsbD i = x.toUInt64.toBitVec.getLsbD (n + i)
  rw [UInt64.toBitVec_shiftRight]
  show (x.toUInt64.toBitVec >>> (((nI n).toInt64.toUInt64 &&& Int64.toUInt64 63).toBitVec % 64).toNat).getLsbD i = _
  rw [sL_u n hn, BitVec.getLsbD_ushiftRight]
theorem bL_t {x : Int64} {k : Nat} (hk : k < 64) : ((sk_lush x (nI k)) &&& 1) = (if btL x k = true then 1 else 0) := by
  apply bL_ext
  intro i hi
  rw [bL_and, bL_1, bL_ush k hk]
  by_cases h : i = 0
  · subst h
    cases hx : btL x (k + 0) <;> rw [Nat.add_zero] at hx <;> simp [hx, bL_1, bL_0]
  · have e : decide (i = 0) = false := decide_eq_false h
    rw [e, Bool.and_false]
    split
    · rw [bL_1, e]
    · rw [bL_0]
theorem bL_one (k : Nat) (hk : k < 64) {i : Nat} (hi : i < 64) : btL ((1 : Int64) <<< (Int32.toInt64 (nI k) &&& 63)) i = decide (i = k) := by
  rw [bL_shl k hk 1 hi, bL_1]
  by_cases h : i = k
  · subst h; simp
  · rw [decide_eq_false h]
    rcases Nat.lt_or_ge i k with h2 | h2
    · simp [Nat.not_le.mpr h2]
    · rw [decide_eq_false (show ¬ i - k = 0 by omega), Bool.and_false]
theorem bL_all (i : Nat) : btL 281474976710655 i = decide (i < 48) := by
  rcases Nat.lt_or_ge i 64 with h | h
  · exact (by decide +kernel : ∀ i, i < 64 → btL 281474976710655 i = decide (i < 48)) i h
  · rw [bL_big h, decide_eq_false (by omega)]
theorem bL_un {x : Int64} {i : Nat} (hi : i < 64) : btL (tUn x) i = (decide (8 ≤ i) && btL x (i - 8) && decide (i < 48)) := by
  unfold tUn
  rw [bL_and, bL_all, show (8 : Int32) = nI 8 from rfl, bL_shl 8 (by omega) x hi]
theorem bL_ab {x : Int64} (i : Nat) : btL (tAb x) i = btL x (8 + i) := bL_ush 8 (by omega) x i
theorem and_z {x y : Int64} : x &&& y = 0 ↔ ∀ i, i < 64 → ¬ (btL x i = true ∧ btL y i = true) := by
  rw [bL_z]
  constructor
  · intro h i hi ⟨h1, h2⟩
    have := h i hi
    rw [bL_and, h1, h2] at this
    exact absurd this (by decide)
  · intro h i hi
    rw [bL_and]
    have := h i hi
    cases h1 : btL x i <;> cases h2 : btL y i <;> simp_all
theorem un_or (x y : Int64) : tUn (x ||| y) = tUn x ||| tUn y := by
  apply bL_ext
  intro i hi
  rw [bL_or, bL_un hi, bL_un hi, bL_un hi, bL_or]
  cases decide (8 ≤ i) <;> cases btL x (i - 8) <;> cases btL y (i - 8) <;> cases decide (i < 48) <;> rfl
theorem un_0 : tUn 0 = 0 := by decide
theorem cov_or (x y : Int64) : tCov (x ||| y) = tCov x ||| tCov y := by
  unfold tCov
  rw [un_or]
  apply bL_ext
  intro i hi
  simp only [bL_or]
  cases btL x i <;> cases btL y i <;> cases btL (tUn x) i <;> cases btL (tUn y) i <;> rfl
