/-! ===== the odds: how many gales leave a cell dry, over 40 ===== -/
def drG (s : Nat → Int32) (n : Nat) (lw : Option (List Tk)) (g : Int32) : Int64 := dryF s (LB s n (wkH s lw g) 6) n
def odF (s : Nat → Int32) (n : Nat) (lw : Option (List Tk)) (c : Nat) : Nat → Nat
  | 0 => 0
  | i + 1 => if btL (drG s n lw (nI i)) c = true then odF s n lw c i + 1 else odF s n lw c i
theorem odF_le {s : Nat → Int32} {n c : Nat} {lw : Option (List Tk)} : ∀ i, odF s n lw c i ≤ i
  | 0 => Nat.le_refl _
  | i + 1 => by
    have := odF_le (s := s) (n := n) (c := c) (lw := lw) i
    unfold odF
    split <;> omega
theorem gcd_st (a b : Nat) : Nat.gcd b (a % b) = Nat.gcd a b := by
  rw [Nat.gcd_comm a b, Nat.gcd_rec b a, Nat.gcd_comm]
theorem bit_i (x : Int64) {c : Nat} (hc : c < 64) : Int64.toInt32 ((sk_lush x (nI c)) &&& 1) = if btL x c = true then 1 else 0 := by
  rw [bL_t hc]
  cases btL x c <;> rfl
section
variable {d : Nat} {τ σ : sk_T} {K : sk_K} {s : Nat → Int32} {n : Nat} {lw : Option (List Tk)}
theorem pX6_cd {g : Nat} (hg : g ≤ 40) (h : K (some (.int (nI (Nat.gcd 40 g)))) τ) : sk_C sk_Sc d mX6_commonDivisor [.int 40, .int (nI g)] τ K := by
  have main : ∀ m i a b, i + m = 40 → b ≤ m → a ≤ 40 → Nat.gcd a b = Nat.gcd 40 g → sk_G sk_Sc d mX6_commonDivisor 7 [(2, .int (nI a)), (3, .int (nI b)), (4, .int (nI i))] [] τ K := by
    intro m
    induction m with
    | zero =>
      intro i a b hi hb ha e
      obtain rfl : b = 0 := Nat.le_zero.mp hb
      rw [Nat.gcd_zero_right] at e
      obtain rfl : i = 40 := hi
      refine bX6_commonDivisor_7 (br_t (by decide) ?_)
      rw [e]; exact h
    | succ m ih =>
      intro i a b hi hb ha e
      refine bX6_commonDivisor_7 (br_f (fun z => absurd ((nI_leI (a := 40) (by omega) (by omega)).mp z) (by omega)) ?_)
      by_cases hb0 : b = 0
      · subst hb0
        rw [Nat.gcd_zero_right] at e
        refine br_t rfl ?_
        rw [e]; exact h
      · have hne : ¬ nI b = 0 := fun z => hb0 ((nI_iff (b := 0) (by omega) (by omega)).mp z)
        refine br_f hne ⟨hne, ?_⟩
        rw [nI_mod (by omega) (by omega) (by omega), nI_1]
        have := Nat.mod_lt a (show 0 < b by omega)
        exact ih (i + 1) b (a % b) (by omega) (by omega) (by omega) ((gcd_st a b).trans e)
  exact wX6_commonDivisor (main 40 0 40 g rfl hg (Nat.le_refl _) rfl)
theorem pX7_divisor {g : Nat} (hg : g ≤ 40) (h : K (some (.int (nI (Nat.gcd 40 g)))) τ) : sk_C sk_Sm d mX7_divisor [.int (nI g), .int 40] τ K := by
  have main : ∀ m a b, b < m → b ≤ 40 → a ≤ 40 → Nat.gcd a b = Nat.gcd 40 g → sk_G sk_Sm d mX7_divisor 4 [(2, .int (nI a)), (3, .int (nI b))] [] τ K := by
    intro m
    induction m with
    | zero => intro a b hb; exact absurd hb (Nat.not_lt_zero b)
    | succ m ih =>
      intro a b hb hm ha e
      refine bX7_divisor_4 ?_
      by_cases hb0 : b = 0
      · subst hb0
        rw [Nat.gcd_zero_right] at e
        refine br_t rfl ?_
        rw [e]; exact h
      · have hne : ¬ nI b = 0 := fun z => hb0 ((nI_iff (b := 0) (by omega) (by omega)).mp z)
        refine br_f hne ⟨hne, ?_⟩
        rw [nI_mod (by omega) (by omega) (by omega)]
        have := Nat.mod_lt a (show 0 < b by omega)
        exact ih b (a % b) (by omega) (by omega) hm ((gcd_st a b).trans e)
  exact wX7_divisor (main 41 g 40 (by omega) (by omega) hg (Nat.gcd_comm _ _))
theorem pX3_dryG {g : Int32} (hd : 3 < d) (hG : RG τ s n lw) (h : K (some (.long (drG s n lw g))) τ) : sk_C sk_Sc d mX3_dryBut [.ref 1, .int (pLift s n (wkH s lw g))] τ K := by
  refine pX3_dryBut hG.1 hd ?_
  have hn := hG.1.1
  rw [dryF_g (g2 := LB s n (wkH s lw g) 6) n (fun k hk => pLift_is hn k (by omega))]
  exact h
/-- the end of both -/
def oddV (w : Int32) (a : Nat) : Int32 := if w = 0 then nI a / nI (Nat.gcd 40 a) else 40 / nI (Nat.gcd 40 a)
theorem gcd_p {a : Nat} : 0 < Nat.gcd 40 a ∧ Nat.gcd 40 a ≤ 40 := ⟨Nat.gcd_pos_of_pos_left a (by omega), Nat.le_of_dvd (by omega) (Nat.gcd_dvd_left 40 a)⟩
theorem lX6_odds {c : Nat} {w : Int32} (hc : c < 48) (hd : 6 < d) (hG0 : RG τ s n lw) (h : ∀ τ2, scC τ τ2 → K (some (.int (oddV w (odF s n lw c 40)))) τ2) : ∀ m i, i + m = 40 → ∀ τ2, scC τ τ2 →
    sk_G sk_Sc d mX6_odds 25 [(0, .ref 0), (1, .int (nI c)), (2, .int w), (3, .int (nI (odF s n lw c i))), (4, .int (nI i))] [] τ2 K := by
  intro m
  induction m with
  | zero =>
    intro i hi τ2 hsc
    have : i = 40 := by omega
    subst this
    have ho := odF_le (s := s) (n := n) (c := c) (lw := lw) 40
    refine bX6_odds_25 (by omega) (br_t (by decide) (pX6_cd ho (ex_i ?_)))
    have h2 := h τ2 hsc
    obtain ⟨g1, g2⟩ := gcd_p (a := odF s n lw c 40)
    have hne : ¬ nI (Nat.gcd 40 (odF s n lw c 40)) = 0 := fun z => absurd ((nI_iff (b := 0) (by omega) (by omega)).mp z) (by omega)
    unfold oddV at h2
    refine br_t ((nI_ltI (a := 0) (by omega) (by omega)).mpr g1) ⟨fun e => ⟨hne, ?_⟩, fun e => ⟨hne, ?_⟩⟩
    · rw [if_neg e] at h2; exact h2
    · rw [if_pos e] at h2; exact h2
  | succ m ih =>
    intro i hi τ2 hsc
    have ho := odF_le (s := s) (n := n) (c := c) (lw := lw) i
    refine bX6_odds_25 (by omega) (br_f (fun z => absurd ((nI_leI (a := 40) (by omega) (by omega)).mp z) (by omega)) (pX3_blown (by omega) (hG0.sc hsc) (fun τ3 f3 => ex_i (pX3_dryG (by omega) (hG0.sc (hsc.tr f3)) (ex_l ?_)))))
    rw [bit_i _ (by omega), nI_1]
    have ih2 := ih (i + 1) (by omega) τ3 (hsc.tr f3)
    unfold odF at ih2
    cases hb : btL (drG s n lw (nI i)) c with
    | true =>
      rw [hb, if_pos rfl] at ih2
      rw [if_pos rfl, nI_1]; exact ih2
    | false =>
      rw [hb, if_neg Bool.false_ne_true] at ih2
      rw [if_neg Bool.false_ne_true, Int32.add_zero]; exact ih2
theorem lX7_odds {c : Nat} {w : Int32} (hc : c < 48) (hd : 7 < d) (hR : RS (σ 1) n) (hL : RLm (σ 1) 0 lw) (h : ∀ σ2, scN σ σ2 → K (some (.int (oddV w (odF (σ 1) n lw c 40)))) σ2) : ∀ m i, i + m = 40 → ∀ σ2, scN σ σ2 →
    sk_G sk_Sm d mX7_odds 30 [(0, .ref 0), (1, .int (nI c)), (2, .int w), (3, .int (nI (odF (σ 1) n lw c i))), (4, .int (nI i))] [] σ2 K := by
  intro m
  induction m with
  | zero =>
    intro i hi σ2 hsc
    have : i = 40 := by omega
    subst this
    have ho := odF_le (s := σ 1) (n := n) (c := c) (lw := lw) 40
    refine bX7_odds_30 (by omega) (br_t (by decide) (pX7_divisor ho (ex_i ?_)))
    have h2 := h σ2 hsc
    obtain ⟨g1, g2⟩ := gcd_p (a := odF (σ 1) n lw c 40)
    have hne : ¬ nI (Nat.gcd 40 (odF (σ 1) n lw c 40)) = 0 := fun z => absurd ((nI_iff (b := 0) (by omega) (by omega)).mp z) (by omega)
    unfold oddV at h2
    refine ⟨fun e => ⟨hne, ?_⟩, fun e => ⟨hne, ?_⟩⟩
    · rw [if_neg e] at h2; exact h2
    · rw [if_pos e] at h2; exact h2
  | succ m ih =>
    intro i hi σ2 hsc
    have ho := odF_le (s := σ 1) (n := n) (c := c) (lw := lw) i
    refine bX7_odds_30 (by omega) (br_f (fun z => absurd ((nI_leI (a := 40) (by omega) (by omega)).mp z) (by omega)) (pX7_dryBehind (n := n) (lw := lw) (by omega) (by rw [hsc.s1]; exact hR) (by rw [hsc.s1]; exact hL) (fun σ3 f3 => ex_l ?_)))
    rw [hsc.s1, lc_e, bL_t (by omega), nI_1]
    have ih2 := ih (i + 1) (by omega) σ3 (hsc.tr f3)
    unfold odF drG at ih2
    cases hb : btL (dryF (σ 1) (LB (σ 1) n (wkH (σ 1) lw (nI i)) 6) n) c with
    | true =>
      rw [hb, if_pos rfl] at ih2
      refine ns_f rfl ?_
      rw [nI_1]; exact ih2
    | false =>
      rw [hb, if_neg Bool.false_ne_true] at ih2
      refine ns_t (by decide) ?_
      rw [Int32.add_zero]; exact ih2
end
