/-! ===== the best cell for a slate ===== -/
theorem nI_nle1 {k : Nat} (h : k ≤ 64) : ¬ nI k ≤ -1 := by
  have : ∀ k, k < 65 → ¬ nI k ≤ -1 := by decide +kernel
  exact this k (by omega)
theorem nlt48 {i : Nat} (h : i < 48) : ¬ (48 : Int32) ≤ nI i := by
  have : ∀ i, i < 48 → ¬ (48 : Int32) ≤ nI i := by decide +kernel
  exact this i h
/-- slate k moved to a cell -/
def mvT (s : Nat → Int32) (k : Nat) (x : Int32) : Nat → Int32 := upd s (8 + 7 * k + 6) x
theorem mv_s {s : Nat → Int32} {k : Nat} {x : Int32} : fl (mvT s k x) k 6 = x := by unfold fl mvT upd; rw [if_pos rfl]
theorem mv_j {s : Nat → Int32} {k o j : Nat} {x : Int32} (hj : j < 7) (h : o ≠ k ∨ j ≠ 6) : fl (mvT s k x) o j = fl s o j := by
  unfold fl mvT upd
  rw [if_neg (by omega)]
theorem mv_lo {s : Nat → Int32} {k i : Nat} {x : Int32} (h : i < 8) : mvT s k x i = s i := by
  unfold mvT upd
  rw [if_neg (by omega)]
theorem mv_br {s : Nat → Int32} {k : Nat} {x c : Int32} : pAt (fl (mvT s k x) k) c = pAt (fl s k) c := by
  unfold pAt pBr
  rw [mv_j (by omega) (by omega), mv_j (by omega) (by omega)]
theorem mv_own {s : Nat → Int32} {k c : Nat} (hc : c < 48) : pOwn (fl (mvT s k (nI c)) k) = pAt (fl s k) (nI c) := by
  show (if fl (mvT s k (nI c)) k 6 = -1 then 0 else pAt (fl (mvT s k (nI c)) k) (fl (mvT s k (nI c)) k 6)) = _
  rw [mv_s, if_neg (nI_nm1 (by omega)), mv_br]
theorem mv_o {s : Nat → Int32} {k o : Nat} {x : Int32} (h : o ≠ k) : pOwn (fl (mvT s k x) o) = pOwn (fl s o) := by
  unfold pOwn pAt pBr
  rw [mv_j (by omega) (Or.inl h), mv_j (by omega) (Or.inl h), mv_j (by omega) (Or.inl h)]
theorem mv_ok {s : Nat → Int32} {n k c : Nat} (hc : c < 48) (h : RS s n) : RS (mvT s k (nI c)) n := by
  refine ⟨h.1, (mv_lo (by omega)).trans h.2.1, fun o ho => ?_⟩
  have h1 := h.2.2 o ho
  unfold tl_ok at h1 ⊢
  rw [mv_j (by omega) (by omega), mv_j (by omega) (by omega), mv_j (by omega) (by omega), mv_j (by omega) (by omega), mv_j (by omega) (by omega), mv_j (by omega) (by omega)]
  refine ⟨h1.1, h1.2.1, h1.2.2.1, h1.2.2.2.1, h1.2.2.2.2.1, h1.2.2.2.2.2.1, ?_⟩
  by_cases e : o = k
  · subst e
    rw [mv_s]; exact Or.inr ⟨c, hc, rfl⟩
  · rw [mv_j (by omega) (Or.inl e)]; exact h1.2.2.2.2.2.2
theorem or3 (a b c : Int64) : a ||| b ||| c = a ||| c ||| b := by rw [Int64.or_assoc, Int64.or_comm b c, ← Int64.or_assoc]
theorem mv_dry {s : Nat → Int32} {k c : Nat} (hc : c < 48) : ∀ n, dryF (mvT s k (nI c)) (fun _ => false) n = if k < n then dryF s (fun j => decide (j = k)) n ||| tCov (pAt (fl s k) (nI c)) else dryF s (fun j => decide (j = k)) n
  | 0 => by
    rw [if_neg (by omega)]; rfl
  | n + 1 => by
    have ih := mv_dry (s := s) (k := k) hc n
    unfold dryF
    rw [if_neg Bool.false_ne_true, ih]
    by_cases e : n = k
    · subst e
      rw [if_neg (by omega), if_pos (by omega), if_pos (decide_eq_true rfl), mv_own hc]
    · rw [mv_o e, if_neg (fun z => e (of_decide_eq_true z))]
      by_cases e2 : k < n
      · rw [if_pos e2, if_pos (by omega), or3]
      · rw [if_neg e2, if_neg (by omega)]
theorem dryF_g {s : Nat → Int32} {g g2 : Nat → Bool} : ∀ n, (∀ j, j < n → g j = g2 j) → dryF s g n = dryF s g2 n
  | 0, _ => rfl
  | n + 1, h => by
    unfold dryF
    rw [h n (by omega), dryF_g n (fun j hj => h j (by omega))]
/-- how many stay dry with slate k at cell c -/
def dwF (s : Nat → Int32) (n k c : Nat) : Nat := pop (dryF s (fun j => decide (j = k)) n ||| tCov (pAt (fl s k) (nI c)))
def bsT (o : Option (Nat × Nat)) (w : Nat) : Bool := match o with | none => true | some p => decide (p.2 < w)
def bsF (s : Nat → Int32) (n k : Nat) : Nat → Option (Nat × Nat)
  | 0 => none
  | i + 1 => if (mayF s n k (nI i) && bsT (bsF s n k i) (dwF s n k i)) = true then some (i, dwF s n k i) else bsF s n k i
def bsC (o : Option (Nat × Nat)) : Int32 := match o with | none => -1 | some p => nI p.1
def bsW (o : Option (Nat × Nat)) (z : Int32) : Int32 := match o with | none => z | some p => nI p.2
theorem bs_ok {s : Nat → Int32} {n k : Nat} : ∀ i c w, bsF s n k i = some (c, w) → c < i ∧ w ≤ 64 ∧ w = dwF s n k c ∧ mayF s n k (nI c) = true
  | 0, c, w, h => by cases h
  | i + 1, c, w, h => by
    unfold bsF at h
    split at h
    · rename_i h2
      cases h
      exact ⟨Nat.lt_succ_self _, pop_le _, rfl, (Bool.and_eq_true_iff.mp h2).1⟩
    · have := bs_ok i c w h
      exact ⟨by omega, this.2⟩
section
variable {d : Nat} {τ σ : sk_T} {K : sk_K} {s : Nat → Int32} {n : Nat}
theorem pX3_dryWith {k c : Nat} (hk : k < n) (hc : c < 48) (hR : RT τ 0 s n) (hd : 4 < d) (h : K (some (.int (nI (dwF s n k c)))) τ) : sk_C sk_Sc d mX3_dryWith [.ref 1, .int (nI k), .int (nI c)] τ K := by
  have hn := hR.1
  refine wX3_dryWith (by omega) (pX3_dryBut hR (by omega) (ex_l ⟨vp_in_nI (by omega) (by omega), ?_⟩))
  rw [nI_clamp (by omega)]
  refine pX5_ownAt hc (sk_tileF k (by omega)) (by omega) (hR.t0 hk) (hR.ok hk) (ex_l (pX3_covered (by omega) (ex_l (pJ13_bitCount (ex_i ?_)))))
  rw [dryF_g (g2 := fun j => decide (j = k)) n (fun j hj => b_one k (by omega) (by omega))]
  exact h
theorem lX3_bestCell {k : Nat} (hk : k < n) (hR : RT τ 0 s n) (hd : 5 < d) (h : K (some (.int (bsC (bsF s n k 48)))) τ) : ∀ m i, i + m = 48 → sk_G sk_Sc d mX3_bestCell 7 [(0, .ref 1), (1, .int (nI k)), (2, .int (bsC (bsF s n k i))), (3, .int (bsW (bsF s n k i) (-1))), (4, .int (nI i))] [] τ K := by
  intro m
  induction m with
  | zero =>
    intro i hi
    have : i = 48 := by omega
    subst this
    exact bX3_bestCell_7 (by omega) (br_t (by decide) h)
  | succ m ih =>
    intro i hi
    have ih2 := ih (i + 1) (by omega)
    refine bX3_bestCell_7 (by omega) (br_f (nlt48 (by omega)) (pX3_mayLie hk (by omega) hR (by omega) (ex_i ?_)))
    rw [nI_1]
    unfold bsF at ih2
    cases hm : mayF s n k (nI i) with
    | false =>
      rw [hm, if_neg (by simp)] at ih2
      exact br_t rfl ih2
    | true =>
      rw [hm] at ih2
      refine br_f i1_0 (pX3_dryWith hk (by omega) hR (by omega) (ex_i ?_))
      cases hb : bsF s n k i with
      | none =>
        rw [hb, if_pos (show (true && bsT none _) = true from rfl)] at ih2
        exact br_f (nI_nle1 (pop_le _)) (pX3_dryWith hk (by omega) hR (by omega) (ex_i ih2))
      | some p =>
        have hw := bs_ok i p.1 p.2 hb
        rw [hb] at ih2
        have hdw : dwF s n k i ≤ 64 := pop_le _
        by_cases e : p.2 < dwF s n k i
        · rw [if_pos (by unfold bsT; simpa using e)] at ih2
          exact br_f (fun z => absurd ((nI_leI (by omega) (by omega)).mp z) (by omega)) (pX3_dryWith hk (by omega) hR (by omega) (ex_i ih2))
        · rw [if_neg (by unfold bsT; simpa using e)] at ih2
          exact br_t ((nI_leI (by omega) (by omega)).mpr (by omega)) ih2
theorem pX3_bestCell {k : Nat} (hk : k < n) (hR : RT τ 0 s n) (hd : 5 < d) (h : K (some (.int (bsC (bsF s n k 48)))) τ) : sk_C sk_Sc d mX3_bestCell [.ref 1, .int (nI k)] τ K :=
  wX3_bestCell (lX3_bestCell hk hR hd h 48 0 rfl)
theorem su_2 {a j : Nat} {x y : Int32} : sk_u (sk_u σ a j x) a j y = sk_u σ a j y := by
  have : ∀ f : Nat → Int32, upd (upd f j x) j y = upd f j y := fun f => funext fun i => by
    unfold upd
    by_cases e : i = j
    · rw [if_pos e, if_pos e]
    · rw [if_neg e, if_neg e, if_neg e]
  funext b
  by_cases e : b = a
  · subst e
    rw [su_s, su_s, su_s, this]
  · rw [su_c e, su_c e, su_c e]
theorem mv_u {k : Nat} {x : Int32} : sk_u σ 1 (8 + 7 * k + 6) x 1 = mvT (σ 1) k x := su_s
theorem lX7_best {k : Nat} {what : Int32} (hk : k < n) (hR : RS (σ 1) n) (hd : 6 < d) (hN : bsF (σ 1) n k 48 = none → sk_C sk_Sm (d - 1) mX7_error [.ref 0, .int 2] σ (fun w t => ∃ r, w = some (.int r) ∧ K (some (.int r)) t))
    (hS : ∀ c w, bsF (σ 1) n k 48 = some (c, w) → K (some (.int (if what = 0 then nI c else nI w))) σ) : ∀ m i, i + m = 48 → ∀ x, sk_G sk_Sm d mX7_best 40 [(0, .ref 0), (1, .int (nI k)), (2, .int what), (3, .int (fl (σ 1) k 6)), (4, .int (bsC (bsF (σ 1) n k i))), (5, .int (bsW (bsF (σ 1) n k i) 0)), (6, .int (nI i))] [] (sk_u σ 1 (8 + 7 * k + 6) x) K := by
  have hn := hR.1
  have back : ∀ x, sk_u (sk_u σ 1 (8 + 7 * k + 6) x) 1 (8 + 7 * k + 6) (fl (σ 1) k 6) = σ := fun x => by rw [su_2]; exact su_id
  intro m
  induction m with
  | zero =>
    intro i hi x
    have : i = 48 := by omega
    subst this
    refine bX7_best_40 (by omega) (br_t (by decide) (pX7_lays1 6 (by omega) (by omega) ⟨rfl, ?_⟩))
    rw [back]
    cases hb : bsF (σ 1) n k 48 with
    | none =>
      refine ⟨fun z => absurd rfl z, fun _ => hN hb⟩
    | some p =>
      have hw := bs_ok 48 p.1 p.2 hb
      have h3 := hS p.1 p.2 hb
      refine ⟨fun _ => ⟨fun e => ?_, fun e => ?_⟩, fun z => absurd z (nI_nm1 (by omega))⟩
      · rw [if_neg e] at h3; exact h3
      · rw [if_pos e] at h3; exact h3
  | succ m ih =>
    intro i hi x
    have ih2 := ih (i + 1) (by omega)
    refine bX7_best_40 (by omega) (br_f (nlt48 (by omega)) (pX7_lays1 6 (by omega) (by omega) ⟨rfl, ?_⟩))
    rw [back]
    refine pX7_mayLie hk (by omega) hR (by omega) (ex_i ?_)
    rw [nI_1]
    unfold bsF at ih2
    cases hm : mayF (σ 1) n k (nI i) with
    | false =>
      rw [hm, if_neg (by simp)] at ih2
      have := ih2 (fl (σ 1) k 6)
      rw [show sk_u σ 1 (8 + 7 * k + 6) (fl (σ 1) k 6) = σ from su_id] at this
      exact br_t rfl this
    | true =>
      rw [hm] at ih2
      refine br_f i1_0 (pX7_lays1 6 (by omega) (by omega) ⟨rfl, ?_⟩)
      have hR2 : RS (sk_u σ 1 (8 + 7 * k + 6) (nI i) 1) n := by rw [mv_u]; exact mv_ok (by omega) hR
      refine pX7_drySet hR2 (by omega) (ex_l (pX7_bitsOf (ex_i ?_)))
      rw [mv_u, mv_dry (by omega), if_pos hk]
      cases hb : bsF (σ 1) n k i with
      | none =>
        rw [hb, if_pos (show (true && bsT none _) = true from rfl)] at ih2
        exact br_t rfl (ih2 _)
      | some p =>
        have hw := bs_ok i p.1 p.2 hb
        rw [hb] at ih2
        have hdw : dwF (σ 1) n k i ≤ 64 := pop_le _
        refine br_f (nI_nm1 (by omega)) ?_
        by_cases e : p.2 < dwF (σ 1) n k i
        · rw [if_pos (by unfold bsT; simpa using e)] at ih2
          exact br_f (fun z => absurd ((nI_leI (by unfold dwF at hdw; omega) (by omega)).mp z) (by unfold dwF at e; omega)) (ih2 _)
        · rw [if_neg (by unfold bsT; simpa using e)] at ih2
          exact br_t ((nI_leI (by unfold dwF at hdw; omega) (by omega)).mpr (by unfold dwF at e; omega)) (ih2 _)
end
