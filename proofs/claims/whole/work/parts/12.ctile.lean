/-! ===== the class: ranges, a tile ===== -/
section
variable {d : Nat} {τ : sk_T} {K : sk_K}
theorem rg_b {v : Int32} {A B : Prop} (N : Nat) (hN : N < 2 ^ 31) (hy : ∀ c, c < N → v = nI c → A) (hn : (v < 0 ∨ nI N ≤ v) → (¬ ∃ c, c < N ∧ v = nI c) → B) : (v < 0 → B) ∧ (¬ v < 0 → ((nI N ≤ v → B) ∧ (¬ nI N ≤ v → A))) := by
  rcases ix_cases v N hN with ⟨k, hk, rfl⟩ | ⟨h1, h2⟩
  · exact br_f (nI_pos (by omega)) (br_f (fun z => absurd ((nI_leI hN (by omega)).mp z) (by omega)) (hy k hk rfl))
  · refine ⟨fun _ => hn h1 h2, fun h3 => ⟨fun _ => hn h1 h2, fun h4 => ?_⟩⟩
    rcases h1 with h1 | h1
    · exact absurd h1 h3
    · exact absurd h1 h4
theorem rg_c {v : Int32} {A B : Prop} (N : Nat) (hN : N < 2 ^ 31 - 1) (hy : ∀ c, c < N + 1 → v = nI c → A) (hn : (v < 0 ∨ nI (N + 1) ≤ v) → (¬ ∃ c, c < N + 1 ∧ v = nI c) → B) : (v < 0 → B) ∧ (¬ v < 0 → ((nI N < v → B) ∧ (¬ nI N < v → A))) := by
  rcases ix_cases v (N + 1) (by omega) with ⟨k, hk, rfl⟩ | ⟨h1, h2⟩
  · exact br_f (nI_pos (by omega)) (br_f (fun z => absurd ((nI_ltI (by omega) (by omega)).mp z) (by omega)) (hy k hk rfl))
  · refine ⟨fun _ => hn h1 h2, fun h3 => ⟨fun _ => hn h1 h2, fun h4 => ?_⟩⟩
    obtain ⟨j, hj, rfl⟩ := nI_of h3
    have h5 : ¬ N < j := fun z => h4 ((nI_ltI (by omega) hj).mpr z)
    exact absurd ⟨j, by omega, rfl⟩ h2
theorem pX6_isCell {v : Int32} (hy : ∀ c, c < 48 → v = nI c → K (some (.int 1)) τ) (hn : (¬ ∃ c, c < 48 ∧ v = nI c) → K (some (.int 0)) τ) : sk_C sk_Sc d mX6_isCell [.int v] τ K :=
  wX6_isCell (rg_b 48 (by omega) hy (fun _ => hn))
variable {q : Nat} {t : Nat → Int32} {kk : Nat}
theorem pX5_isLaid (hq : sk_Sc[q]? = some (0, 5, [0, 0, 0, 0, 0, 0, 0])) (ht : ∀ j, j < 7 → τ q j = t j) (hk : tl_ok t kk) (hy : ∀ c, c < 48 → t 6 = nI c → K (some (.int 1)) τ) (hn : t 6 = -1 → K (some (.int 0)) τ) : sk_C sk_Sc d mX5_isLaid [.ref q] τ K := by
  refine wX5_isLaid hq ?_
  rw [ht 6 (by omega)]
  rcases own_rng hk with h | ⟨c, hc, h⟩
  · rw [h]; exact br_t (by decide) (hn h)
  · rw [h]; exact br_f (nI_pos (by omega)) (hy c hc h)
theorem pX5_row (hq : sk_Sc[q]? = some (0, 5, [0, 0, 0, 0, 0, 0, 0])) (hd : 0 < d) (ht : ∀ j, j < 7 → τ q j = t j) (hk : tl_ok t kk) (hy : ∀ c, c < 48 → t 6 = nI c → K (some (.int (nI (c / 8)))) τ) (hn : t 6 = -1 → K (some (.int (-1))) τ) : sk_C sk_Sc d mX5_row [.ref q] τ K := by
  refine wX5_row hq hd ?_
  refine pX5_isLaid hq ht hk (fun c hc h => ex_i (br_f i1_0 ?_)) (fun h => ex_i (br_t rfl (hn h)))
  rw [ht 6 (by omega), h, show (8 : Int32) = nI 8 from rfl, pk_div (by omega) (by omega) (by omega)]
  exact hy c hc h
theorem nI_mod {a b : Nat} (ha : a < 2 ^ 31) (h0 : 0 < b) (hb : b < 2 ^ 31) : nI a % nI b = nI (a % b) := by
  rw [← irem_eq_mod]; exact pk_rem ha h0 hb
theorem pX5_place (hq : sk_Sc[q]? = some (0, 5, [0, 0, 0, 0, 0, 0, 0])) (hd : 0 < d) (ht : ∀ j, j < 7 → τ q j = t j) (hk : tl_ok t kk) (hy : ∀ c, c < 48 → t 6 = nI c → K (some (.int (nI (c % 8)))) τ) (hn : t 6 = -1 → K (some (.int (-1))) τ) : sk_C sk_Sc d mX5_place [.ref q] τ K := by
  refine wX5_place hq hd ?_
  refine pX5_isLaid hq ht hk (fun c hc h => ex_i (br_f i1_0 ?_)) (fun h => ex_i (br_t rfl (hn h)))
  rw [ht 6 (by omega), h, show (8 : Int32) = nI 8 from rfl, nI_mod (by omega) (by omega) (by omega)]
  exact hy c hc h
theorem pX5_broad (hq : sk_Sc[q]? = some (0, 5, [0, 0, 0, 0, 0, 0, 0])) (hd : 0 < d) (ht : ∀ j, j < 7 → τ q j = t j) (hk : tl_ok t kk) (h : K (some (.int (pBr t))) τ) : sk_C sk_Sc d mX5_broad [.ref q] τ K := by
  refine wX5_broad hq hd ?_
  rw [ht 0 (by omega), ht 2 (by omega)]
  unfold pBr at h
  refine ⟨fun e => ?_, fun e => ?_, fun e => ?_, fun e => ?_, fun e => ?_, fun e => ?_⟩
  · rw [e, if_pos (Or.inl rfl)] at h; exact h
  · rw [e, if_neg (by decide), if_neg (by decide)] at h; exact h
  · rw [e, if_neg (by decide), if_neg (by decide)] at h; exact h
  · rw [e, if_pos (Or.inr rfl)] at h; exact h
  · rw [e, if_neg (by decide), if_pos rfl] at h
    rcases hk.2.2.1 with e2 | e2 <;> rw [e2] at h ⊢ <;> exact h
  · rw [if_neg (fun z => z.elim e.1 e.2.2.2.1), if_neg e.2.2.2.2] at h; exact h
theorem pX5_holds {y s : Int32} (hq : sk_Sc[q]? = some (0, 5, [0, 0, 0, 0, 0, 0, 0])) (ht : ∀ j, j < 7 → τ q j = t j) (h : K (some (.int (pHo t y s))) τ) : sk_C sk_Sc d mX5_holds [.ref q, .int y, .int s] τ K := by
  refine wX5_holds hq ?_
  rw [ht 0 (by omega), ht 1 (by omega), ht 3 (by omega), ht 5 (by omega)]
  unfold pHo at h
  refine ⟨fun e => ?_, fun e => ?_, fun e => ?_, fun e => ?_, fun e => ?_, fun e => ⟨fun e2 => ?_, fun e2 => ?_⟩, fun e => ?_⟩
  · rw [e, if_pos rfl] at h; exact h
  · rw [e, if_neg (by decide), if_pos rfl] at h; exact h
  · rw [e, if_neg (by decide), if_neg (by decide), if_pos rfl] at h; exact h
  · rw [e, if_neg (by decide), if_neg (by decide), if_neg (by decide), if_pos rfl] at h; exact h
  · rw [e, if_neg (by decide), if_neg (by decide), if_neg (by decide), if_neg (by decide), if_pos rfl] at h; exact h
  · rw [e, if_neg (by decide), if_neg (by decide), if_neg (by decide), if_neg (by decide), if_neg (by decide), if_pos rfl, if_neg e2] at h; exact h
  · rw [e, if_neg (by decide), if_neg (by decide), if_neg (by decide), if_neg (by decide), if_neg (by decide), if_pos rfl, if_pos e2] at h; exact h
  · rw [if_neg e.1, if_neg e.2.1, if_neg e.2.2.1, if_neg e.2.2.2.1, if_neg e.2.2.2.2.1, if_neg e.2.2.2.2.2] at h; exact h
theorem pX5_ownAt {c : Nat} (hc : c < 48) (hq : sk_Sc[q]? = some (0, 5, [0, 0, 0, 0, 0, 0, 0])) (hd : 1 < d) (ht : ∀ j, j < 7 → τ q j = t j) (hk : tl_ok t kk) (h : K (some (.long (pAt t (nI c)))) τ) : sk_C sk_Sc d mX5_ownAt [.ref q, .int (nI c)] τ K := by
  refine wX5_ownAt hq (by omega) (pX6_isCell (fun _ _ _ => ex_i (ns_t i1_0 ?_)) (fun z => absurd ⟨c, hc, rfl⟩ z))
  exact pX5_broad hq (by omega) ht hk (ex_i h)
theorem pX5_own (hq : sk_Sc[q]? = some (0, 5, [0, 0, 0, 0, 0, 0, 0])) (hd : 2 < d) (ht : ∀ j, j < 7 → τ q j = t j) (hk : tl_ok t kk) (h : K (some (.long (pOwn t))) τ) : sk_C sk_Sc d mX5_own [.ref q] τ K := by
  refine wX5_own hq (by omega) ?_
  rw [ht 6 (by omega)]
  unfold pOwn at h
  rcases own_rng hk with e | ⟨c, hc, e⟩
  · rw [if_pos e] at h
    rw [e]
    refine wX5_ownAt hq (by omega) (pX6_isCell (fun c hc e2 => absurd e2.symm (nI_nm1 (by omega))) (fun _ => ex_i (ns_f rfl (ex_l h))))
  · rw [e, if_neg (nI_nm1 (by omega))] at h
    rw [e]
    exact pX5_ownAt hc hq (by omega) ht hk (ex_l h)
theorem pX3_rightUnder {o : Int64} (h : K (some (.long (tUn o))) τ) : sk_C sk_Sc d mX3_rightUnder [.long o] τ K := wX3_rightUnder h
theorem pX3_rightAbove {o : Int64} (h : K (some (.long (tAb o))) τ) : sk_C sk_Sc d mX3_rightAbove [.long o] τ K := wX3_rightAbove h
theorem pX3_covered {o : Int64} (hd : 0 < d) (h : K (some (.long (tCov o))) τ) : sk_C sk_Sc d mX3_covered [.long o] τ K := wX3_covered hd (pX3_rightUnder (ex_l h))
end
