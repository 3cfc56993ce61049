/-! ===== Long.bitCount, Integer.bitCount, the reference's bitsOf, Long.numberOfTrailingZeros ===== -/
theorem by8_ct {x : Nat} : sm ((by8 x).map (fun b => p3 (p2 (p1 b)))) = fb_ct (fun j => x.testBit j) 64 := by
  rw [ct_8]
  congr 1
  apply List.map_congr_left
  intro b hb
  exact tb_p3 b (by8_lt x b hb)
theorem i64_lN (x : Int64) : lN (uN x) = x := by
  apply Int64.toBitVec_inj.mp
  apply BitVec.eq_of_toNat_eq
  show (BitVec.ofNat 64 (uN x)).toNat = uN x
  rw [BitVec.toNat_ofNat, Nat.mod_eq_of_lt (uN_lt x)]
theorem i64_i32 (x : Int64) : x.toInt32 = nI (uN x) := by
  have := lN_i (uN x)
  rw [i64_lN] at this
  exact this
theorem nI_and127 (n : Nat) : nI n &&& 127 = nI (n % 128) := by
  rw [pk_and (nI n) (m := 127) 7 rfl]
  congr 1
  show (BitVec.ofNat 32 n).toNat % 2 ^ 7 = n % 128
  rw [BitVec.toNat_ofNat]
  omega
theorem uN_1 : uN 6148914691236517205 = 6148914691236517205 := rfl
theorem uN_3 : uN 3689348814741910323 = 3689348814741910323 := rfl
theorem uN_F : uN 1085102592571150095 = 1085102592571150095 := rfl
set_option maxHeartbeats 4000000 in
theorem jk_A (x : Int64) : uN (x - ((sk_lush x 1) &&& 6148914691236517205)) = dg ((by8 (uN x)).map p1) := by
  have h1 : uN (sk_lush x 1) = uN x / 2 := uN_ush x 1 (by omega)
  have h2 := jk_n (uN x) (uN_lt x)
  rw [uN_sub (by rw [uN_and, h1, uN_1]; exact h2.1), uN_and, h1, uN_1]
  exact h2.2
set_option maxHeartbeats 4000000 in
theorem jk_B {A : Int64} {l : List Nat} (hA : uN A = dg l) (hl : ∀ b ∈ l, b < 256) (m : dg (l.map (fun _ => 51)) = 3689348814741910323) :
    uN ((A &&& 3689348814741910323) + ((sk_lush A 2) &&& 3689348814741910323)) = dg (l.map p2) ∧ dg (l.map p2) ≤ 7378697629483820646 := by
  have h1 : uN (sk_lush A 2) = uN A / 4 := uN_ush A 2 (by omega)
  have e1 : uN (A &&& 3689348814741910323) = dg l &&& 3689348814741910323 := by rw [uN_and, uN_3, hA]
  have e2 : uN ((sk_lush A 2) &&& 3689348814741910323) = dg l / 4 &&& 3689348814741910323 := by rw [uN_and, uN_3, h1, hA]
  have b1 : dg l &&& 3689348814741910323 ≤ 3689348814741910323 := Nat.and_le_right
  have b2 : dg l / 4 &&& 3689348814741910323 ≤ 3689348814741910323 := Nat.and_le_right
  have h2 := jk_2 l hl m
  rw [uN_add (by rw [e1, e2]; omega), e1, e2, h2]
  exact ⟨rfl, by omega⟩
set_option maxHeartbeats 4000000 in
theorem jk_C {B : Int64} {l : List Nat} (hB : uN B = dg l) (hb : dg l ≤ 7378697629483820646) (hl : ∀ b ∈ l, b < 69 ∧ b % 16 ≤ 4) (m : dg (l.map (fun _ => 15)) = 1085102592571150095) :
    uN ((B + (sk_lush B 4)) &&& 1085102592571150095) = dg (l.map p3) := by
  have h1 : uN (sk_lush B 4) = uN B / 16 := uN_ush B 4 (by omega)
  have h2 := st_3 l hl
  rw [m] at h2
  rw [uN_and, uN_F, uN_add (by rw [h1, hB]; omega), h1, hB]
  exact h2
set_option maxHeartbeats 4000000 in
theorem jk_D {C : Int64} {c0 c1 c2 c3 c4 c5 c6 c7 : Nat} (h0 : c0 ≤ 8) (h1 : c1 ≤ 8) (h2 : c2 ≤ 8) (h3 : c3 ≤ 8) (h4 : c4 ≤ 8) (h5 : c5 ≤ 8) (h6 : c6 ≤ 8) (h7 : c7 ≤ 8) (hC : uN C = dg [c0, c1, c2, c3, c4, c5, c6, c7]) :
    (Int64.toInt32 (((C + (sk_lush C 8)) + (sk_lush (C + (sk_lush C 8)) 16)) + (sk_lush ((C + (sk_lush C 8)) + (sk_lush (C + (sk_lush C 8)) 16)) 32))) &&& 127 = nI (sm [c0, c1, c2, c3, c4, c5, c6, c7]) := by
  have e8 : uN (sk_lush C 8) = uN C / 256 := uN_ush C 8 (by omega)
  obtain ⟨b0, b1, b2, hm⟩ := jk_4 (y := uN C) (y0 := uN C + uN C / 256) (y1 := (uN C + uN C / 256) + (uN C + uN C / 256) / 65536) h0 h1 h2 h3 h4 h5 h6 h7 (by rw [hC]; simp only [dg]; omega) rfl rfl
  have eD : uN (C + (sk_lush C 8)) = uN C + uN C / 256 := by rw [uN_add (by rw [e8]; omega), e8]
  generalize C + (sk_lush C 8) = D at eD ⊢
  rw [← eD] at b1 b2 hm
  have e16 : uN (sk_lush D 16) = uN D / 65536 := uN_ush D 16 (by omega)
  have eE : uN (D + (sk_lush D 16)) = uN D + uN D / 65536 := by rw [uN_add (by rw [e16]; omega), e16]
  generalize D + (sk_lush D 16) = E at eE ⊢
  rw [← eE] at b2 hm
  have e32 : uN (sk_lush E 32) = uN E / 4294967296 := uN_ush E 32 (by omega)
  have eF : uN (E + (sk_lush E 32)) = uN E + uN E / 4294967296 := by rw [uN_add (by rw [e32]; omega), e32]
  rw [i64_i32, nI_and127, eF, hm]
  congr 1
  simp only [sm]; omega
section
variable {d : Nat} {τ σ : sk_T} {K : sk_K}
set_option maxHeartbeats 4000000 in
theorem pJ13_bitCount {x : Int64} (h : K (some (.int (nI (pop x)))) τ) : sk_C sk_Sc d mJ13_bitCount_95d88 [.long x] τ K := by
  refine wJ13_bitCount_95d88 ?_
  have hl := by8_lt (uN x)
  have hl1 : ∀ b ∈ (by8 (uN x)).map p1, b < 256 := by
    intro b hb
    obtain ⟨c, hc, rfl⟩ := List.mem_map.mp hb
    exact tb_p1 c (hl c hc)
  have hl2 : ∀ b ∈ ((by8 (uN x)).map p1).map p2, b < 69 ∧ b % 16 ≤ 4 := by
    intro b hb
    obtain ⟨c, hc, rfl⟩ := List.mem_map.mp hb
    obtain ⟨c2, hc2, rfl⟩ := List.mem_map.mp hc
    exact tb_p2 c2 (hl c2 hc2)
  have eA := jk_A x
  generalize x - ((sk_lush x 1) &&& 6148914691236517205) = A at eA ⊢
  obtain ⟨eB, bB⟩ := jk_B eA hl1 (by simp only [by8, List.map_cons, List.map_nil, dg])
  generalize (A &&& 3689348814741910323) + ((sk_lush A 2) &&& 3689348814741910323) = B at eB ⊢
  have eC := jk_C eB bB hl2 (by simp only [by8, List.map_cons, List.map_nil, dg])
  generalize (B + (sk_lush B 4)) &&& 1085102592571150095 = C at eC ⊢
  have hp : ∀ b, b < 256 → p3 (p2 (p1 b)) ≤ 8 := fun b hb => by rw [tb_p3 b hb]; exact fb_ct_le _ 8
  have hc := by8_ct (x := uN x)
  rw [pop_n] at h
  have hc2 : sm ((by8 (uN x)).map (fun b => p3 (p2 (p1 b)))) = fb_ct (fun j => x.toBitVec.toNat.testBit j) 64 := hc
  rw [← hc2] at h
  simp only [by8, List.map_cons, List.map_nil] at eC h hl
  have hD := jk_D (C := C) (hp _ (hl _ (by simp))) (hp _ (hl _ (by simp))) (hp _ (hl _ (by simp))) (hp _ (hl _ (by simp))) (hp _ (hl _ (by simp))) (hp _ (hl _ (by simp))) (hp _ (hl _ (by simp))) (hp _ (hl _ (by simp))) eC
  rw [hD]
  exact h
theorem low_bit : ∀ n : Nat, 0 < n → ∃ i, n.testBit i = true ∧ (∀ j, j < i → n.testBit j = false) ∧ ∀ j, (n &&& (n - 1)).testBit j = (if j = i then false else n.testBit j) := by
  intro n
  induction n using Nat.strongRecOn with
  | ind n ih =>
    intro hn
    rcases Nat.mod_two_eq_zero_or_one n with h | h
    · obtain ⟨i, h1, h3, h2⟩ := ih (n / 2) (by omega) (by omega)
      refine ⟨i + 1, ?_, fun j hj => ?_, fun j => ?_⟩
      · rw [Nat.testBit_succ]; exact h1
      · cases j with
        | zero => rw [Nat.testBit_zero]; simp [h]
        | succ j => rw [Nat.testBit_succ]; exact h3 j (by omega)
      · cases j with
        | zero =>
          rw [Nat.testBit_and, Nat.testBit_zero, Nat.testBit_zero, if_neg (by omega)]
          simp [h]
        | succ j =>
          have e : (n - 1) / 2 = n / 2 - 1 := by omega
          rw [Nat.testBit_and, Nat.testBit_succ, Nat.testBit_succ, e, ← Nat.testBit_and, h2 j]
          by_cases hj : j = i
          · rw [if_pos hj, if_pos (by omega)]
          · rw [if_neg hj, if_neg (by omega)]
    · refine ⟨0, ?_, fun j hj => absurd hj (by omega), fun j => ?_⟩
      · rw [Nat.testBit_zero]; simp [h]
      · cases j with
        | zero =>
          rw [Nat.testBit_and, Nat.testBit_zero, Nat.testBit_zero, if_pos rfl]
          have : (n - 1) % 2 = 0 := by omega
          simp [this]
        | succ j =>
          have e : (n - 1) / 2 = n / 2 := by omega
          rw [Nat.testBit_and, Nat.testBit_succ, Nat.testBit_succ, e, if_neg (by omega), Bool.and_self]
theorem uN_0 {x : Int64} : x = 0 ↔ uN x = 0 := by
  constructor
  · intro h; subst h; rfl
  · intro h
    apply Int64.toBitVec_inj.mp
    apply BitVec.eq_of_toNat_eq
    exact h
theorem pop_dec {x : Int64} (hx : ¬ x = 0) : pop (x &&& (x - 1)) + 1 = pop x := by
  have hp : 0 < uN x := by
    rcases Nat.eq_zero_or_pos (uN x) with h | h
    · exact absurd (uN_0.mpr h) hx
    · exact h
  obtain ⟨i, h1, -, h2⟩ := low_bit (uN x) hp
  have hi : i < 64 := by
    rcases Nat.lt_or_ge i 64 with h | h
    · exact h
    · have : (uN x).testBit i = false := Nat.testBit_lt_two_pow (Nat.lt_of_lt_of_le (uN_lt x) (Nat.pow_le_pow_right (by omega) h))
      rw [this] at h1; cases h1
  have e : uN (x &&& (x - 1)) = uN x &&& (uN x - 1) := by
    rw [uN_and, uN_sub (x := x) (y := 1) hp]; rfl
  rw [pop_n, pop_n]
  have e2 : (x &&& (x - 1)).toBitVec.toNat = uN x &&& (uN x - 1) := e
  rw [e2]
  have e3 : fb_ct (fun j => (uN x &&& (uN x - 1)).testBit j) 64 = fb_ct (fun j => if j = i then false else (uN x).testBit j) 64 := fb_ct_cong (fun j _ => h2 j)
  rw [e3]
  have := fb_ct_upd (fun j => (uN x).testBit j) false (i := i) (n := 64) hi
  simp only [h1, if_true, Bool.false_eq_true, if_false] at this
  exact this
theorem lX7_bitsOf : ∀ (m : Nat) (x : Int64) (c : Nat), pop x = m → K (some (.int (nI (c + m)))) σ → sk_G sk_Sm d mX7_bitsOf 4 [(2, .int (nI c)), (3, .long x)] [] σ K := by
  intro m
  induction m with
  | zero =>
    intro x c hp hK
    have hx : x = 0 := by
      rcases Classical.em (x = 0) with h | h
      · exact h
      · have := pop_dec h; omega
    exact bX7_bitsOf_4 (br_t (lc_0.mpr hx) hK)
  | succ m ih =>
    intro x c hp hK
    have hx : ¬ x = 0 := by
      intro h; subst h
      have : pop 0 = 0 := by decide
      omega
    have := pop_dec hx
    refine bX7_bitsOf_4 (br_f (fun z => hx (lc_0.mp z)) ?_)
    rw [nI_1]
    exact ih _ (c + 1) (by omega) (by rw [show c + 1 + m = c + (m + 1) by omega]; exact hK)
theorem pX7_bitsOf {x : Int64} (h : K (some (.int (nI (pop x)))) σ) : sk_C sk_Sm d mX7_bitsOf [.long x] σ K :=
  wX7_bitsOf (lX7_bitsOf (pop x) x 0 rfl (by rw [Nat.zero_add]; exact h))
/-- how many of ten bits -/
def pop10 (n : Nat) : Nat := fb_ct (fun j => n.testBit j) 10
theorem tb_ib : ∀ n, n < 1024 → (((((((nI n - ((sk_ush (nI n) 1) &&& 1431655765)) &&& 858993459) + ((sk_ush (nI n - ((sk_ush (nI n) 1) &&& 1431655765)) 2) &&& 858993459)) + (sk_ush (((nI n - ((sk_ush (nI n) 1) &&& 1431655765)) &&& 858993459) + ((sk_ush (nI n - ((sk_ush (nI n) 1) &&& 1431655765)) 2) &&& 858993459)) 4)) &&& 252645135) + (sk_ush (((((nI n - ((sk_ush (nI n) 1) &&& 1431655765)) &&& 858993459) + ((sk_ush (nI n - ((sk_ush (nI n) 1) &&& 1431655765)) 2) &&& 858993459)) + (sk_ush (((nI n - ((sk_ush (nI n) 1) &&& 1431655765)) &&& 858993459) + ((sk_ush (nI n - ((sk_ush (nI n) 1) &&& 1431655765)) 2) &&& 858993459)) 4)) &&& 252645135) 8)) + (sk_ush ((((((nI n - ((sk_ush (nI n) 1) &&& 1431655765)) &&& 858993459) + ((sk_ush (nI n - ((sk_ush (nI n) 1) &&& 1431655765)) 2) &&& 858993459)) + (sk_ush (((nI n - ((sk_ush (nI n) 1) &&& 1431655765)) &&& 858993459) + ((sk_ush (nI n - ((sk_ush (nI n) 1) &&& 1431655765)) 2) &&& 858993459)) 4)) &&& 252645135) + (sk_ush (((((nI n - ((sk_ush (nI n) 1) &&& 1431655765)) &&& 858993459) + ((sk_ush (nI n - ((sk_ush (nI n) 1) &&& 1431655765)) 2) &&& 858993459)) + (sk_ush (((nI n - ((sk_ush (nI n) 1) &&& 1431655765)) &&& 858993459) + ((sk_ush (nI n - ((sk_ush (nI n) 1) &&& 1431655765)) 2) &&& 858993459)) 4)) &&& 252645135) 8)) 16)) &&& 63 = nI (pop10 n) := by decide +kernel
theorem pJ6_bitCount {n : Nat} (hn : n < 1024) (h : K (some (.int (nI (pop10 n)))) τ) : sk_C sk_Sc d mJ6_bitCount_0f7a4 [.int (nI n)] τ K := by
  refine wJ6_bitCount_0f7a4 ?_
  rw [tb_ib n hn]
  exact h
end
