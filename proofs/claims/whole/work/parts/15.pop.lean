/-! ===== how many bits: the family 'how many places have a property' of the kit's COUNTS, pasted ===== -/
def fb_ct (p : Nat → Bool) : Nat → Nat
  | 0 => 0
  | n + 1 => fb_ct p n + (if p n then 1 else 0)
theorem fb_ct_succ (p : Nat → Bool) (n : Nat) : fb_ct p (n + 1) = fb_ct p n + (if p n then 1 else 0) := rfl
theorem fb_ct_le (p : Nat → Bool) : ∀ n, fb_ct p n ≤ n
  | 0 => Nat.le_refl _
  | n + 1 => by
    have h := fb_ct_le p n
    rw [fb_ct_succ]
    split <;> omega
theorem fb_ct_step (p : Nat → Bool) (m : Nat) : ∀ n, fb_ct p m ≤ fb_ct p (m + n)
  | 0 => Nat.le_refl _
  | n + 1 => by
    have h := fb_ct_step p m n
    show fb_ct p m ≤ fb_ct p (m + n + 1)
    rw [fb_ct_succ]
    omega
theorem fb_ct_mono (p : Nat → Bool) {m n : Nat} (h : m ≤ n) : fb_ct p m ≤ fb_ct p n := by
  have := fb_ct_step p m (n - m)
  rwa [Nat.add_sub_cancel' h] at this
theorem fb_ct_cong {p q : Nat → Bool} : ∀ {n : Nat}, (∀ k, k < n → p k = q k) → fb_ct p n = fb_ct q n
  | 0, _ => rfl
  | n + 1, h => by
    rw [fb_ct_succ, fb_ct_succ, fb_ct_cong (fun k hk => h k (by omega)), h n (by omega)]
theorem fb_ct_out (p : Nat → Bool) (b : Bool) {i n : Nat} (h : n ≤ i) : fb_ct (fun k => if k = i then b else p k) n = fb_ct p n :=
  fb_ct_cong fun k hk => if_neg (by omega)
theorem fb_ct_upd (p : Nat → Bool) (b : Bool) {i : Nat} : ∀ {n : Nat}, i < n → fb_ct (fun k => if k = i then b else p k) n + (if p i then 1 else 0) = fb_ct p n + (if b then 1 else 0)
  | 0, h => absurd h (Nat.not_lt_zero i)
  | n + 1, h => by
    rw [fb_ct_succ, fb_ct_succ]
    rcases Nat.lt_or_ge i n with q | q
    · have := fb_ct_upd p b q
      have e : (if n = i then b else p n) = p n := if_neg (by omega)
      rw [e]
      omega
    · have e : i = n := by omega
      subst e
      rw [fb_ct_out p b (Nat.le_refl _)]
      simp only [if_true]
      omega
theorem fb_ct_split (p : Nat → Bool) (m : Nat) : ∀ n, fb_ct p (m + n) = fb_ct p m + fb_ct (fun k => p (m + k)) n
  | 0 => rfl
  | n + 1 => by
    have h := fb_ct_split p m n
    show fb_ct p (m + n + 1) = _
    rw [fb_ct_succ, fb_ct_succ, h, Nat.add_assoc]
theorem fb_ct_zero {p : Nat → Bool} : ∀ {n : Nat}, fb_ct p n = 0 ↔ ∀ k, k < n → p k = false
  | 0 => ⟨fun _ k hk => absurd hk (Nat.not_lt_zero k), fun _ => rfl⟩
  | n + 1 => by
    have h := fb_ct_zero (p := p) (n := n)
    rw [fb_ct_succ]
    constructor
    · intro e k hk
      have e1 : fb_ct p n = 0 := by omega
      rcases Nat.lt_or_ge k n with q | q
      · exact h.mp e1 k q
      · have ek : k = n := by omega
        subst ek
        cases hp : p k
        · rfl
        · simp [hp] at e
    · intro a
      rw [h.mpr (fun k hk => a k (by omega)), a n (by omega)]
      rfl
theorem an_split {a c p q : Nat} (ha : a < 256) (hc : c < 256) : (a + 256 * p) &&& (c + 256 * q) = (a &&& c) + 256 * (p &&& q) := by
  apply Nat.eq_of_testBit_eq
  intro j
  have hac : a &&& c < 2 ^ 8 := Nat.lt_of_le_of_lt Nat.and_le_left ha
  rw [show a + 256 * p = 2 ^ 8 * p + a by omega, show c + 256 * q = 2 ^ 8 * q + c by omega, show (a &&& c) + 256 * (p &&& q) = 2 ^ 8 * (p &&& q) + (a &&& c) by omega, Nat.testBit_and,
    Nat.testBit_two_pow_mul_add p (show a < 2 ^ 8 from ha), Nat.testBit_two_pow_mul_add q (show c < 2 ^ 8 from hc), Nat.testBit_two_pow_mul_add (p &&& q) hac]
  by_cases h : j < 8
  · rw [if_pos h, if_pos h, if_pos h, Nat.testBit_and]
  · rw [if_neg h, if_neg h, if_neg h, Nat.testBit_and]
def dg : List Nat → Nat
  | [] => 0
  | b :: l => b + 256 * dg l
def sm : List Nat → Nat
  | [] => 0
  | b :: l => b + sm l
theorem dg_add (f g : Nat → Nat) : ∀ l : List Nat, dg (l.map f) + dg (l.map g) = dg (l.map (fun b => f b + g b))
  | [] => rfl
  | b :: l => by
    have ih := dg_add f g l
    simp only [List.map_cons, dg]
    omega
theorem dg_sub (f : Nat → Nat) : ∀ l : List Nat, (∀ b ∈ l, f b ≤ b) → dg (l.map f) ≤ dg l ∧ dg l - dg (l.map f) = dg (l.map (fun b => b - f b))
  | [], _ => ⟨Nat.le_refl _, rfl⟩
  | b :: l, h => by
    have ih := dg_sub f l (fun c hc => h c (List.mem_cons_of_mem _ hc))
    have hb := h b List.mem_cons_self
    simp only [List.map_cons, dg]
    omega
theorem tb_85 : ∀ b, b < 256 → ∀ r, r < 2 → (b / 2 + 128 * r) &&& 85 = b / 2 &&& 85 := by decide +kernel
theorem tb_51 : ∀ b, b < 256 → ∀ r, r < 4 → (b / 4 + 64 * r) &&& 51 = b / 4 &&& 51 := by decide +kernel
theorem tb_15 : ∀ b, b < 69 → ∀ r, r < 5 → (b + b / 16 + 16 * r) &&& 15 = (b + b / 16) &&& 15 := by decide +kernel
theorem tb_le : ∀ b, b < 256 → b / 2 &&& 85 ≤ b := by decide +kernel
def p1 (b : Nat) : Nat := b - (b / 2 &&& 85)
def p2 (b : Nat) : Nat := (b &&& 51) + (b / 4 &&& 51)
def p3 (b : Nat) : Nat := (b + b / 16) &&& 15
theorem tb_p1 : ∀ b, b < 256 → p1 b < 256 := by decide +kernel
theorem tb_p2 : ∀ b, b < 256 → p2 (p1 b) < 69 ∧ p2 (p1 b) % 16 ≤ 4 := by decide +kernel
theorem tb_p3 : ∀ b, b < 256 → p3 (p2 (p1 b)) = fb_ct (fun j => b.testBit j) 8 := by decide +kernel
theorem st_1 : ∀ l : List Nat, (∀ b ∈ l, b < 256) → dg l / 2 &&& dg (l.map (fun _ => 85)) = dg (l.map (fun b => b / 2 &&& 85))
  | [], _ => rfl
  | b :: l, h => by
    have ih := st_1 l (fun c hc => h c (List.mem_cons_of_mem _ hc))
    have hb := h b List.mem_cons_self
    simp only [List.map_cons, dg]
    rw [show (b + 256 * dg l) / 2 = (b / 2 + 128 * (dg l % 2)) + 256 * (dg l / 2) by omega, an_split (by omega) (by omega), ih, tb_85 b hb _ (by omega)]
theorem st_2a : ∀ l : List Nat, (∀ b ∈ l, b < 256) → dg l &&& dg (l.map (fun _ => 51)) = dg (l.map (fun b => b &&& 51))
  | [], _ => rfl
  | b :: l, h => by
    have ih := st_2a l (fun c hc => h c (List.mem_cons_of_mem _ hc))
    have hb := h b List.mem_cons_self
    simp only [List.map_cons, dg]
    rw [an_split hb (by omega), ih]
theorem st_2b : ∀ l : List Nat, (∀ b ∈ l, b < 256) → dg l / 4 &&& dg (l.map (fun _ => 51)) = dg (l.map (fun b => b / 4 &&& 51))
  | [], _ => rfl
  | b :: l, h => by
    have ih := st_2b l (fun c hc => h c (List.mem_cons_of_mem _ hc))
    have hb := h b List.mem_cons_self
    simp only [List.map_cons, dg]
    rw [show (b + 256 * dg l) / 4 = (b / 4 + 64 * (dg l % 4)) + 256 * (dg l / 4) by omega, an_split (by omega) (by omega), ih, tb_51 b hb _ (by omega)]
theorem dg_16 : ∀ l : List Nat, (∀ b ∈ l, b < 69 ∧ b % 16 ≤ 4) → dg l % 16 ≤ 4
  | [], _ => by show 0 % 16 ≤ 4; omega
  | b :: l, h => by
    have hb := h b List.mem_cons_self
    simp only [dg]
    omega
theorem st_3 : ∀ l : List Nat, (∀ b ∈ l, b < 69 ∧ b % 16 ≤ 4) → (dg l + dg l / 16) &&& dg (l.map (fun _ => 15)) = dg (l.map p3)
  | [], _ => rfl
  | b :: l, h => by
    have ih := st_3 l (fun c hc => h c (List.mem_cons_of_mem _ hc))
    have hb := h b List.mem_cons_self
    have h16 := dg_16 l (fun c hc => h c (List.mem_cons_of_mem _ hc))
    simp only [List.map_cons, dg]
    rw [show b + 256 * dg l + (b + 256 * dg l) / 16 = (b + b / 16 + 16 * (dg l % 16)) + 256 * (dg l + dg l / 16) by omega, an_split (by omega) (by omega), ih, tb_15 b hb.1 _ (by omega)]
    rfl
/-- the eight bytes of a number -/
def by8 (x : Nat) : List Nat := [x % 256, x / 256 % 256, x / 65536 % 256, x / 16777216 % 256, x / 4294967296 % 256, x / 1099511627776 % 256, x / 281474976710656 % 256, x / 72057594037927936 % 256]
theorem by8_lt (x : Nat) : ∀ b ∈ by8 x, b < 256 := by
  intro b hb
  simp only [by8, List.mem_cons, List.not_mem_nil, or_false] at hb
  omega
theorem by8_dg {x : Nat} (h : x < 2 ^ 64) : dg (by8 x) = x := by
  simp only [by8, dg]
  omega
theorem tb_div (x i j : Nat) (h : j < 8) : (x / 2 ^ i % 256).testBit j = x.testBit (i + j) := by
  rw [show (256 : Nat) = 2 ^ 8 from rfl, Nat.testBit_mod_two_pow, Nat.testBit_div_two_pow]
  simp [h, Nat.add_comm]
theorem ct_8 (x : Nat) : fb_ct (fun j => x.testBit j) 64 = sm ((by8 x).map (fun b => fb_ct (fun j => b.testBit j) 8)) := by
  have e : ∀ i, fb_ct (fun j => (x / 2 ^ i % 256).testBit j) 8 = fb_ct (fun j => x.testBit (i + j)) 8 := fun i => fb_ct_cong (fun j hj => tb_div x i j hj)
  have e0 := e 0
  have e1 := e 8
  have e2 := e 16
  have e3 := e 24
  have e4 := e 32
  have e5 := e 40
  have e6 := e 48
  have e7 := e 56
  simp only [Nat.reducePow, Nat.div_one, Nat.zero_add] at e0 e1 e2 e3 e4 e5 e6 e7
  simp only [by8, List.map_cons, List.map_nil, sm]
  rw [e0, e1, e2, e3, e4, e5, e6, e7]
  have s1 := fb_ct_split (fun j => x.testBit j) 8 56
  have s2 := fb_ct_split (fun k => x.testBit (8 + k)) 8 48
  have s3 := fb_ct_split (fun k => x.testBit (16 + k)) 8 40
  have s4 := fb_ct_split (fun k => x.testBit (24 + k)) 8 32
  have s5 := fb_ct_split (fun k => x.testBit (32 + k)) 8 24
  have s6 := fb_ct_split (fun k => x.testBit (40 + k)) 8 16
  have s7 := fb_ct_split (fun k => x.testBit (48 + k)) 8 8
  simp only [← Nat.add_assoc] at s1 s2 s3 s4 s5 s6 s7
  simp only [Nat.reduceAdd] at s1 s2 s3 s4 s5 s6 s7
  omega
def pop (x : Int64) : Nat := fb_ct (fun j => btL x j) 64
theorem pop_le (x : Int64) : pop x ≤ 64 := fb_ct_le _ _
theorem pop_n (x : Int64) : pop x = fb_ct (fun j => x.toBitVec.toNat.testBit j) 64 := fb_ct_cong (fun j _ => rfl)
def uN (x : Int64) : Nat := x.toBitVec.toNat
theorem uN_lt (x : Int64) : uN x < 2 ^ 64 := x.toBitVec.isLt
theorem uN_and (x y : Int64) : uN (x &&& y) = uN x &&& uN y := by unfold uN; rw [Int64.toBitVec_and, BitVec.toNat_and]
theorem uN_add {x y : Int64} (h : uN x + uN y < 2 ^ 64) : uN (x + y) = uN x + uN y := by
  unfold uN at *
  show (x.toBitVec + y.toBitVec).toNat = _
  rw [BitVec.toNat_add, Nat.mod_eq_of_lt h]
theorem uN_sub {x y : Int64} (h : uN y ≤ uN x) : uN (x - y) = uN x - uN y := by
  unfold uN at *
  show (x.toBitVec - y.toBitVec).toNat = _
  rw [BitVec.toNat_sub_of_le h]
theorem uN_ush (x : Int64) (k : Nat) (hk : k < 64) : uN (sk_lush x (nI k)) = uN x / 2 ^ k := by
  unfold uN
  show (x.toUInt64 >>> ((nI k).toInt64.toUInt64 &&& Int64.toUInt64 63)).toBitVec.toNat = _
  rw [UInt64.toBitVec_shiftRight]
  show (x.toUInt64.toBitVec >>> (((nI k).toInt64.toUInt64 &&& Int64.toUInt64 63).toBitVec % 64).toNat).toNat = _
  rw [sL_u k hk, BitVec.toNat_ushiftRight, Nat.shiftRight_eq_div_pow]
  rfl
theorem m_85 (x : Nat) : dg ((by8 x).map (fun _ => 85)) = 6148914691236517205 := by simp only [by8, List.map_cons, List.map_nil, dg]
theorem m_51 (x : Nat) : dg ((by8 x).map (fun _ => 51)) = 3689348814741910323 := by simp only [by8, List.map_cons, List.map_nil, dg]
theorem m_15 (x : Nat) : dg ((by8 x).map (fun _ => 15)) = 1085102592571150095 := by simp only [by8, List.map_cons, List.map_nil, dg]
theorem jk_n (x : Nat) (h : x < 2 ^ 64) : x / 2 &&& 6148914691236517205 ≤ x ∧ x - (x / 2 &&& 6148914691236517205) = dg ((by8 x).map p1) := by
  have hl := by8_lt x
  have e := st_1 (by8 x) hl
  rw [by8_dg h, m_85] at e
  have s := dg_sub (fun b => b / 2 &&& 85) (by8 x) (fun b hb => tb_le b (hl b hb))
  rw [by8_dg h, ← e] at s
  exact s
theorem jk_2 (l : List Nat) (hl : ∀ b ∈ l, b < 256) (m : dg (l.map (fun _ => 51)) = 3689348814741910323) : (dg l &&& 3689348814741910323) + (dg l / 4 &&& 3689348814741910323) = dg (l.map p2) := by
  rw [← m, st_2a l hl, st_2b l hl, dg_add]; rfl
theorem jk_4 {c0 c1 c2 c3 c4 c5 c6 c7 y y0 y1 : Nat} (h0 : c0 ≤ 8) (h1 : c1 ≤ 8) (h2 : c2 ≤ 8) (h3 : c3 ≤ 8) (h4 : c4 ≤ 8) (h5 : c5 ≤ 8) (h6 : c6 ≤ 8) (h7 : c7 ≤ 8)
    (e : y = c0 + 256 * (c1 + 256 * (c2 + 256 * (c3 + 256 * (c4 + 256 * (c5 + 256 * (c6 + 256 * c7))))))) (ey0 : y0 = y + y / 256) (ey1 : y1 = y0 + y0 / 65536) :
    y0 < 2 ^ 63 ∧ y1 < 2 ^ 63 ∧ y1 + y1 / 4294967296 < 2 ^ 63 ∧ (y1 + y1 / 4294967296) % 128 = c0 + c1 + c2 + c3 + c4 + c5 + c6 + c7 := by
  have b0 : y ≤ 8 * 72340172838076673 := by omega
  have b1 : y0 ≤ 2 * y := by omega
  have b2 : y1 ≤ 2 * y0 := by omega
  have d1 : y / 256 = c1 + 256 * (c2 + 256 * (c3 + 256 * (c4 + 256 * (c5 + 256 * (c6 + 256 * c7))))) := by omega
  have e1 : y0 = (c0 + c1) + 256 * ((c1 + c2) + 256 * ((c2 + c3) + 256 * ((c3 + c4) + 256 * ((c4 + c5) + 256 * ((c5 + c6) + 256 * ((c6 + c7) + 256 * c7)))))) := by omega
  have hb : y0 < 2 ^ 63 ∧ y1 < 2 ^ 63 ∧ y1 + y1 / 4294967296 < 2 ^ 63 := by omega
  refine ⟨hb.1, hb.2.1, hb.2.2, ?_⟩
  clear hb b0 b1 b2 d1 e ey0
  have d2 : y0 / 65536 = (c2 + c3) + 256 * ((c3 + c4) + 256 * ((c4 + c5) + 256 * ((c5 + c6) + 256 * ((c6 + c7) + 256 * c7)))) := by omega
  have e2 : y1 = (c0 + c1 + c2 + c3) + 256 * ((c1 + c2 + c3 + c4) + 256 * ((c2 + c3 + c4 + c5) + 256 * ((c3 + c4 + c5 + c6) + 256 * ((c4 + c5 + c6 + c7) + 256 * ((c5 + c6 + c7) + 256 * ((c6 + c7) + 256 * c7)))))) := by omega
  clear d2 e1 ey1
  have d3 : y1 / 4294967296 = (c4 + c5 + c6 + c7) + 256 * ((c5 + c6 + c7) + 256 * ((c6 + c7) + 256 * c7)) := by omega
  rw [d3]
  generalize (c5 + c6 + c7) + 256 * ((c6 + c7) + 256 * c7) = z at *
  generalize (c1 + c2 + c3 + c4) + 256 * ((c2 + c3 + c4 + c5) + 256 * ((c3 + c4 + c5 + c6) + 256 * ((c4 + c5 + c6 + c7) + 256 * z))) = w at *
  omega
