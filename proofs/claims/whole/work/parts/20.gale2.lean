/-! ===== gales, on ===== -/
theorem su_id {τ : sk_T} {a j : Nat} : sk_u τ a j (τ a j) = τ := by
  funext b
  unfold sk_u sk_w
  by_cases h : b = a
  · subst h
    rw [if_pos rfl]
    funext i
    unfold upd
    by_cases h2 : i = j
    · rw [if_pos h2, h2]
    · rw [if_neg h2]
  · rw [if_neg h]
/-- the reference's row, those of L lifted -/
def liftS (s : Nat → Int32) (L : Nat → Bool) : Nat → Nat → Int32
  | 0 => s
  | k + 1 => if L k = true then upd (liftS s L k) (8 + 7 * k + 6) (-1) else liftS s L k
/-- the class's numbers, those of L taken off -/
def takeT (τ : sk_T) (L : Nat → Bool) : Nat → sk_T
  | 0 => τ
  | k + 1 => if L k = true then sk_u (takeT τ L k) (3 + k) 6 (-1) else takeT τ L k
theorem liftS_o {s : Nat → Int32} {L : Nat → Bool} {i : Nat} : ∀ n, (∀ k, k < n → i ≠ 8 + 7 * k + 6) → liftS s L n i = s i
  | 0, _ => rfl
  | n + 1, h => by
    unfold liftS
    split
    · unfold upd
      rw [if_neg (h n (by omega))]
      exact liftS_o n (fun k hk => h k (by omega))
    · exact liftS_o n (fun k hk => h k (by omega))
theorem liftS_c {s : Nat → Int32} {L : Nat → Bool} {k : Nat} : ∀ n, k < n → liftS s L n (8 + 7 * k + 6) = if L k = true then -1 else s (8 + 7 * k + 6)
  | 0, h => absurd h (by omega)
  | n + 1, h => by
    unfold liftS
    by_cases e : k = n
    · subst e
      by_cases hL : L k = true
      · rw [if_pos hL, if_pos hL]; unfold upd; rw [if_pos rfl]
      · rw [if_neg hL, if_neg hL]
        exact liftS_o k (fun j hj => by omega)
    · split
      · unfold upd
        rw [if_neg (by omega)]
        exact liftS_c n (by omega)
      · exact liftS_c n (by omega)
theorem liftS_f {s : Nat → Int32} {L : Nat → Bool} {n k j : Nat} (hk : k < n) (hj : j < 7) : fl (liftS s L n) k j = if j = 6 ∧ L k = true then -1 else fl s k j := by
  unfold fl
  by_cases e : j = 6
  · subst e
    rw [liftS_c n hk]
    by_cases h : L k = true
    · rw [if_pos h, if_pos ⟨rfl, h⟩]
    · rw [if_neg h, if_neg (fun z => h z.2)]
  · rw [if_neg (fun z => e z.1)]
    exact liftS_o n (fun q _ => by omega)
theorem takeT_o {τ : sk_T} {L : Nat → Bool} {c : Nat} : ∀ n, (∀ k, k < n → c ≠ 3 + k) → takeT τ L n c = τ c
  | 0, _ => rfl
  | n + 1, h => by
    unfold takeT
    split
    · rw [su_c (h n (by omega))]
      exact takeT_o n (fun k hk => h k (by omega))
    · exact takeT_o n (fun k hk => h k (by omega))
theorem takeT_t {τ : sk_T} {L : Nat → Bool} {k j : Nat} : ∀ n, k < n → takeT τ L n (3 + k) j = if j = 6 ∧ L k = true then -1 else τ (3 + k) j
  | 0, h => absurd h (by omega)
  | n + 1, h => by
    unfold takeT
    by_cases e : k = n
    · subst e
      have ho : takeT τ L k (3 + k) = τ (3 + k) := takeT_o k (fun q _ => by omega)
      by_cases hL : L k = true
      · rw [if_pos hL]
        by_cases hj : j = 6
        · subst hj; rw [su_e, if_pos ⟨rfl, hL⟩]
        · rw [su_n hj, if_neg (fun z => hj z.1), ho]
      · rw [if_neg hL, if_neg (fun z => hL z.2), ho]
    · split
      · rw [su_c (by omega)]
        exact takeT_t n (by omega)
      · exact takeT_t n (by omega)
section
variable {d : Nat} {τ σ : sk_T} {K : sk_K} {s : Nat → Int32} {n : Nat} {lw : Option (List Tk)} {g : Int32}
theorem lX3_takeOff {v : Int32} {L : Nat → Bool} (hn : n ≤ 10) (hn1 : τ 1 1 = nI n) (hv : isS v L) (h : K none (takeT τ L n)) : ∀ m i, i + m = n → sk_G sk_Sc d mX3_takeOff 2 [(0, .ref 1), (1, .int v), (2, .int (nI i))] [] (takeT τ L i) K := by
  intro m
  induction m with
  | zero =>
    intro i hi
    have : i = n := by omega
    subst this
    refine bX3_takeOff_2 (br_t ?_ h)
    rw [takeT_o i (fun k _ => by omega), hn1]; exact (nI_leI (by omega) (by omega)).mpr (Nat.le_refl _)
  | succ m ih =>
    intro i hi
    refine bX3_takeOff_2 (br_f ?_ ?_)
    · rw [takeT_o i (fun k _ => by omega), hn1]; exact fun z => absurd ((nI_leI (by omega) (by omega)).mp z) (by omega)
    rw [nI_1, nI_clamp (show i < 2 ^ 31 by omega), b_t1 (by omega), hv i (by omega)]
    have ih2 := ih (i + 1) (by omega)
    unfold takeT at ih2
    refine ⟨fun e => ?_, fun e => ⟨vp_in_nI (by omega) (by omega), ?_⟩⟩
    · rw [if_neg e] at ih2; exact ih2
    · rw [if_pos e] at ih2; exact ih2
theorem pX3_takeOff {v : Int32} {L : Nat → Bool} (hn : n ≤ 10) (hn1 : τ 1 1 = nI n) (hv : isS v L) (h : K none (takeT τ L n)) : sk_C sk_Sc d mX3_takeOff [.ref 1, .int v] τ K :=
  wX3_takeOff (lX3_takeOff hn hn1 hv h n 0 (by omega))
set_option maxHeartbeats 4000000 in
theorem lX7_lifted {f : Nat → Int32} {fv : Int32} {fast : Nat → Bool} (hd : 5 < d) (hR : RS (σ 1) n) (hh : ∀ k, k < n → σ 7 k = f k) (hfv : isS fv fast) (h : K (some (.int (pLift (σ 1) n (wkM f g fast)))) σ) :
    ∀ m r, r + m = 6 → ∀ lv, isS lv (LB (σ 1) n (wkM f g fast) r) → sk_G sk_Sm d mX7_liftedBy 5 [(0, .ref 0), (1, .int g), (2, .int fv), (3, .int lv), (4, .int (nI r))] [] σ K := by
  have hn := hR.1
  intro m
  induction m with
  | zero =>
    intro r hr lv hlv
    have : r = 6 := by omega
    subst this
    refine bX7_liftedBy_5 (br_t ((nI_leI (a := 6) (by omega) (by omega)).mpr (Nat.le_refl _)) ?_)
    rw [hlv.eq (pLift_is hn)]
    exact h
  | succ m ih =>
    intro r hr lv hlv
    refine bX7_liftedBy_5 (br_f (fun z => absurd ((nI_leI (a := 6) (by omega) (by omega)).mp z) (by omega)) ?_)
    have inner : ∀ m2 i, i + m2 = n → ∀ nv, isS nv (fun j => false || (decide (j < i) && nwF (σ 1) n (wkM f g fast) r j)) →
        sk_G sk_Sm d mX7_liftedBy 18 [(0, .ref 0), (1, .int g), (2, .int fv), (3, .int lv), (4, .int (nI r)), (5, .int nv), (6, .int (nI i))] [] σ K := by
      intro m2
      induction m2 with
      | zero =>
        intro i hi nv hnv
        have : i = n := by omega
        subst this
        refine bX7_liftedBy_18 (by omega) (br_t ?_ ?_)
        · rw [hR.2.1]; exact (nI_leI (by omega) (by omega)).mpr (Nat.le_refl _)
        rw [nI_1]
        refine ih (r + 1) (by omega) _ ((hlv.or hnv).cg (fun j _ => ?_))
        show (LB (σ 1) i _ r j || (false || (decide (j < i) && nwF (σ 1) i _ r j))) = _
        rw [LB_s]
        unfold nwF
        cases decide (j < i) <;> simp
      | succ m2 ih2 =>
        intro i hi nv hnv
        have hin : i < n := by omega
        refine bX7_liftedBy_18 (by omega) (br_f ?_ ?_)
        · rw [hR.2.1]; exact fun z => absurd ((nI_leI (by omega) (by omega)).mp z) (by omega)
        have go : ∀ c : Bool, c = (rwB (σ 1) i r && wkM f g fast i) → sk_G sk_Sm d mX7_liftedBy 88 [(0, .ref 0), (1, .int g), (2, .int fv), (3, .int lv), (4, .int (nI r)), (5, .int nv), (6, .int (nI i)), (7, .int (bI c)), (8, .int 0)] [] σ K := by
          intro c hc
          have := lX7_lifted88 (K := K) (g := g) (fv := fv) (nv := nv) (k := i) (c := c) (wk := wkM f g fast) (by omega) hR hin (show r < 6 by omega) (fun z => by rw [hc] at z; simp only [Bool.and_eq_true] at z; exact z.1) hlv
            (fun z => ih2 (i + 1) (by omega) _ (step_yes hnv (by unfold nwF; rw [decide_eq_true hin, Bool.true_and, ← hc]; exact z) (by omega)))
            (fun z => ih2 (i + 1) (by omega) _ (step_no hnv (by unfold nwF; rw [decide_eq_true hin, Bool.true_and, ← hc]; exact z))) n 0 (by omega)
          have e0 : (c && !coF (σ 1) (abF (σ 1) (LB (σ 1) n (wkM f g fast) r) r) i 0) = c := by cases c <;> rfl
          rw [e0] at this
          exact this
        refine pX7_its 6 (by omega) (by omega) (ex_i ?_)
        rcases own_rng (hR.2.2 i hin) with e5 | ⟨cc, hcc, e5⟩
        · exact br_t e5 (go false (by rw [rw_no e5]; rfl))
        · refine br_f (by rw [e5]; exact nI_nm1 (by omega)) (pX7_its 6 (by omega) (by omega) (ex_i ?_))
          rw [e5, show (8 : Int32) = nI 8 from rfl, pk_div (by omega) (by omega) (by omega), nI_eq (by omega) (by omega)]
          have hrw := rw_at e5 hcc r
          refine ⟨fun e6 => go false (by rw [hrw, decide_eq_false e6]; rfl), fun e6 => ?_⟩
          rw [b_t0 (by omega), hfv i (by omega), nI_clamp (show i < 2 ^ 31 by omega), hh i hin]
          rw [decide_eq_true e6] at hrw
          refine ⟨fun e7 => go false (by rw [hrw]; unfold wkM; rw [tn_t e7]; simp), fun e7 => ⟨vp_in_nI (by omega) (by omega), fun e8 => go false ?_, fun e8 => go true ?_⟩⟩
          · rw [hrw]; unfold wkM; rw [decide_eq_false (Int32.not_lt.mpr e8)]; rfl
          · rw [hrw]; unfold wkM; rw [decide_eq_true (Int32.not_le.mp e8), e7]; rfl
    exact inner n 0 (by omega) 0 (isS_0.cg (fun j _ => by simp))
theorem pX7_liftedBy {f : Nat → Int32} {fv : Int32} {fast : Nat → Bool} (hd : 5 < d) (hR : RS (σ 1) n) (hh : ∀ k, k < n → σ 7 k = f k) (hfv : isS fv fast) (h : K (some (.int (pLift (σ 1) n (wkM f g fast)))) σ) : sk_C sk_Sm d mX7_liftedBy [.ref 0, .int g, .int fv] σ K :=
  wX7_liftedBy (lX7_lifted hd hR hh hfv h 6 0 (by omega) 0 (isS_0.cg (fun _ _ => rfl)))
theorem LB_cg {s : Nat → Int32} {n : Nat} {wk wk2 : Nat → Bool} (h : ∀ k, k < n → wk k = wk2 k) : ∀ r, LB s n wk r = LB s n wk2 r
  | 0 => rfl
  | r + 1 => by
    funext k
    show (LB s n wk r k || (decide (k < n) && (rwB s k r && wk k && !coF s (abF s (LB s n wk r) r) k n))) = (LB s n wk2 r k || (decide (k < n) && (rwB s k r && wk2 k && !coF s (abF s (LB s n wk2 r) r) k n)))
    rw [LB_cg h r]
    by_cases hk : k < n
    · rw [h k hk]
    · rw [decide_eq_false hk]; rfl
theorem wk_cg (s : Nat → Int32) (lw : Option (List Tk)) (g : Int32) (k : Nat) : wkM (fun k => pHold s lw k g) g (fun _ => false) k = wkH s lw g k := by
  unfold wkM wkH
  simp
theorem pLift_cg {s : Nat → Int32} {n : Nat} {wk wk2 : Nat → Bool} (h : ∀ k, k < n → wk k = wk2 k) : pLift s n wk = pLift s n wk2 := by
  unfold pLift
  rw [LB_cg h 6]
theorem lX7_galeNow {v : Int32} {L : Nat → Bool} (hd : 0 < d) (hn : n ≤ 10) (hn1 : σ 1 6 = nI n) (hv : isS v L) (h : K (some (.int v)) (sk_w σ 1 (liftS (σ 1) L n))) : ∀ m i, i + m = n → sk_G sk_Sm d mX7_galeNow 14 [(0, .ref 0), (2, .int v), (3, .int (nI i))] [] (sk_w σ 1 (liftS (σ 1) L i)) K := by
  intro m
  induction m with
  | zero =>
    intro i hi
    have : i = n := by omega
    subst this
    refine bX7_galeNow_14 (by omega) (br_t ?_ h)
    rw [sw_s, liftS_o i (fun k _ => by omega), hn1]; exact (nI_leI (by omega) (by omega)).mpr (Nat.le_refl _)
  | succ m ih =>
    intro i hi
    refine bX7_galeNow_14 (by omega) (br_f ?_ ?_)
    · rw [sw_s, liftS_o i (fun k _ => by omega), hn1]; exact fun z => absurd ((nI_leI (by omega) (by omega)).mp z) (by omega)
    rw [nI_1, b_t1 (by omega), hv i (by omega)]
    have ih2 := ih (i + 1) (by omega)
    unfold liftS at ih2
    refine ⟨fun e => pX7_its 6 (by omega) (by omega) (ex_i (pX7_lays1 6 (by omega) (by omega) (ex_v ?_))), fun e => pX7_lays1 6 (by omega) (by omega) (ex_v ?_)⟩
    · rw [if_neg e] at ih2
      unfold fl
      rw [su_id]
      exact ih2
    · rw [if_pos e] at ih2
      rw [su_w]
      exact ih2
theorem pX7_galeNow (hd : 6 < d) (hR : RS (σ 1) n) (hL : RLm (σ 1) 0 lw) (h : ∀ σ2, scN σ σ2 → K (some (.int (pLift (σ 1) n (wkH (σ 1) lw g)))) (sk_w σ2 1 (liftS (σ 1) (LB (σ 1) n (wkH (σ 1) lw g) 6) n))) : sk_C sk_Sm d mX7_galeNow [.ref 0, .int g] σ K := by
  have hn := hR.1
  refine wX7_galeNow (by omega) (pX7_findHolds (by omega) hR hL (fun σ2 h2 hh => ex_v ?_))
  refine pX7_liftedBy (n := n) (f := fun k => pHold (σ 1) lw k g) (fast := fun _ => false) (by omega) (by rw [h2.s1]; exact hR) hh isS_0 (ex_i ?_)
  rw [h2.s1, pLift_cg (fun k _ => wk_cg (σ 1) lw g k)]
  have h3 := h σ2 h2
  have := lX7_galeNow (K := K) (σ := σ2) (v := pLift (σ 1) n (wkH (σ 1) lw g)) (d := d) (by omega) hn (by rw [h2.s1]; exact hR.2.1) (pLift_is hn) (by rw [h2.s1]; exact h3) n 0 (by omega)
  have e : sk_w σ2 1 (liftS (σ2 1) (LB (σ 1) n (wkH (σ 1) lw g) 6) 0) = σ2 := sw_id
  rw [e] at this
  exact this
theorem lX7_dryBehind {v : Int32} {L : Nat → Bool} (hd : 4 < d) (hR : RS (σ 1) n) (hv : isS v L) (h : K (some (.long (dryF (σ 1) L n))) σ) : ∀ m i, i + m = n → sk_G sk_Sm d mX7_dryBehind 17 [(0, .ref 0), (2, .int v), (3, .long (dryF (σ 1) L i)), (5, .int (nI i))] [] σ K := by
  have hn := hR.1
  intro m
  induction m with
  | zero =>
    intro i hi
    have : i = n := by omega
    subst this
    refine bX7_dryBehind_17 (by omega) (br_t ?_ h)
    rw [hR.2.1]; exact (nI_leI (by omega) (by omega)).mpr (Nat.le_refl _)
  | succ m ih =>
    intro i hi
    refine bX7_dryBehind_17 (by omega) (br_f ?_ ?_)
    · rw [hR.2.1]; exact fun z => absurd ((nI_leI (by omega) (by omega)).mp z) (by omega)
    rw [nI_1, b_t1 (by omega), hv i (by omega), Int64.or_zero]
    have ih2 := ih (i + 1) (by omega)
    unfold dryF at ih2
    refine ⟨fun e => pX7_covers (by omega) (by omega) (hR.2.2 i (by omega)) (ex_l ?_), fun e => ?_⟩
    · rw [if_neg e] at ih2; exact ih2
    · rw [if_pos e] at ih2; exact ih2
theorem pX7_dryBehind (hd : 6 < d) (hR : RS (σ 1) n) (hL : RLm (σ 1) 0 lw) (h : ∀ σ2, scN σ σ2 → K (some (.long (dryF (σ 1) (LB (σ 1) n (wkH (σ 1) lw g) 6) n))) σ2) : sk_C sk_Sm d mX7_dryBehind [.ref 0, .int g] σ K := by
  have hn := hR.1
  refine wX7_dryBehind (by omega) (pX7_findHolds (by omega) hR hL (fun σ2 h2 hh => ex_v ?_))
  refine pX7_liftedBy (n := n) (f := fun k => pHold (σ 1) lw k g) (fast := fun _ => false) (by omega) (by rw [h2.s1]; exact hR) hh isS_0 (ex_i ?_)
  rw [h2.s1, pLift_cg (fun k _ => wk_cg (σ 1) lw g k)]
  have h3 := h σ2 h2
  exact lX7_dryBehind (L := LB (σ 1) n (wkH (σ 1) lw g) 6) (by omega) (by rw [h2.s1]; exact hR) (pLift_is hn) (by rw [h2.s1]; exact h3) n 0 (by omega)
theorem dryF_cg {s : Nat → Int32} {L L2 : Nat → Bool} : ∀ n, (∀ k, k < n → L k = L2 k) → dryF s L n = dryF s L2 n
  | 0, _ => rfl
  | n + 1, h => by
    unfold dryF
    rw [h n (by omega), dryF_cg n (fun k hk => h k (by omega))]
end
