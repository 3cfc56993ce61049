/-! ===== the voices ===== -/
def dLs : Nat → List Nat
  | 1 => [20, 10]
  | 4 => [50, 20, 10]
  | 6 => [70]
  | _ => [10]
def dVl (kk : Int32) : Nat → Int32 → Int32
  | 1, x => x + kk - 4
  | 4, x => (x + kk - 4) * 3
  | 6, _ => 9
  | _, x => x + kk
def rLs (kd : Nat) : Nat → List Nat
  | 2 => 30 :: 11 :: dLs kd
  | 5 => 60 :: 30 :: 11 :: dLs kd
  | 6 => 71 :: 11 :: dLs kd
  | _ => 11 :: dLs kd
def rVl (kk mm : Int32) (kd : Nat) : Nat → Int32 → Int32
  | 2, x => 0 - dVl kk kd x * 2
  | 5, x => 0 - dVl kk kd (x + 1) * 2
  | 6, x => dVl kk kd x * 2 + mm
  | _, x => dVl kk kd x * 2
def cLs (kd : Nat) : Nat → List Nat
  | 3 => 40 :: 12 :: rLs kd kd
  | 4 => 51 :: 12 :: rLs kd kd
  | _ => 12 :: rLs kd kd
def cVl (kk mm : Int32) (kd : Nat) : Nat → Int32 → Int32
  | 3, x => rVl kk mm kd kd (x / 2) - mm
  | 4, x => (rVl kk mm kd kd x - mm) ^^^ kk
  | _, x => rVl kk mm kd kd x - mm
def pQ (kk mm x : Int32) : Int32 := if mm - kk = 0 then 0 else x / (mm - kk)
def pPt (kk mm : Int32) : Int32 := if mm - kk = 0 then 1 else 0
def pL1 (kk mm : Int32) (kd : Nat) : List Nat := 21 :: 13 :: (if mm - kk = 0 then [] else rLs kd kd)
def pV1 (kk mm : Int32) (kd : Nat) (x : Int32) : Int32 := if mm - kk = 0 then 0 else pQ kk mm x + rVl kk mm kd kd 1
def pLs (kk mm : Int32) (kd : Nat) : Nat → List Nat
  | 1 => pL1 kk mm kd
  | 4 => pL1 kk mm kd
  | _ => [13]
def pVl (kk mm : Int32) (kd : Nat) : Nat → Int32 → Int32
  | 1, x => pV1 kk mm kd x
  | 4, x => pV1 kk mm kd x
  | _, x => pQ kk mm x
theorem dLs_l : ∀ c, c < 7 → (dLs c).length ≤ 3 := by decide
theorem rLs_l : ∀ kd, kd < 7 → ∀ c, c < 7 → (rLs kd c).length ≤ 6 := by decide
theorem cLs_l : ∀ kd, kd < 7 → ∀ c, c < 7 → (cLs kd c).length ≤ 8 := by decide
/-- the trace: its bodies in order -/
def isZ (n : Int32) (g : Nat → Int32) (l : List Nat) : Prop := n = nI l.length ∧ ∀ i b, l[i]? = some b → g i = nI b
theorem isZ_0 {g : Nat → Int32} : isZ 0 g [] := ⟨rfl, fun i b h => by simp at h⟩
theorem isZ_add {n : Int32} {g : Nat → Int32} {l : List Nat} {b : Nat} (h : isZ n g l) : isZ (n + 1) (upd g l.length (nI b)) (l ++ [b]) := by
  obtain ⟨h1, h2⟩ := h
  refine ⟨by rw [h1, nI_1, List.length_append]; rfl, fun i c hc => ?_⟩
  unfold upd
  by_cases z : i = l.length
  · subst z
    rw [List.getElem?_append_right (Nat.le_refl _), Nat.sub_self] at hc
    rw [if_pos rfl]
    cases hc
    rfl
  · rw [if_neg z]
    by_cases y : i < l.length
    · rw [List.getElem?_append_left y] at hc
      exact h2 i c hc
    · rw [List.getElem?_append_right (by omega)] at hc
      have := (List.getElem?_eq_some_iff.mp hc).1
      simp only [List.length_cons, List.length_nil] at this
      omega
/-! the reference's side -/
def vfM (σ σ2 : sk_T) : Prop := (∀ q, q ≠ 0 → q ≠ 8 → σ2 q = σ q) ∧ ∀ j, j ≠ 12 → σ2 0 j = σ 0 j
theorem vfM.rf {σ : sk_T} : vfM σ σ := ⟨fun _ _ _ => rfl, fun _ _ => rfl⟩
theorem vfM.tr {a b c : sk_T} (h : vfM a b) (h2 : vfM b c) : vfM a c := ⟨fun q h0 h8 => (h2.1 q h0 h8).trans (h.1 q h0 h8), fun j hj => (h2.2 j hj).trans (h.2 j hj)⟩
def vY (σ : sk_T) (k kd : Nat) (mm : Int32) : Prop := k < 10 ∧ kd ≤ 6 ∧ σ 0 14 = nI k ∧ fl (σ 1) k 0 = nI kd ∧ fl (σ 1) k 1 = mm
theorem vY.fr {σ σ2 : sk_T} {k kd : Nat} {mm : Int32} (h : vY σ k kd mm) (hf : vfM σ σ2) : vY σ2 k kd mm := by
  unfold vY at h ⊢
  rw [hf.2 14 (by omega), hf.1 1 (by omega) (by omega)]
  exact h
section
variable {d : Nat} {τ σ : sk_T} {K : sk_K} {k kd : Nat} {mm x : Int32} {l : List Nat}
theorem mAb {a : Nat} (ha : a ≤ 6) (h : K (some (.int (nI (abv a)))) σ) : sk_C sk_Sm d mX7_above [.int (nI a)] σ K := by
  refine wX7_above ?_
  unfold abv at h
  by_cases e4 : a = 4
  · subst e4
    exact ns_f rfl h
  · refine ns_t (fun y => e4 ((nI_iff (b := 4) (by omega) (by omega)).mp y)) ?_
    by_cases e5 : a = 5
    · subst e5
      exact ns_f rfl h
    · rw [if_neg e4, if_neg e5] at h
      exact ns_t (fun y => e5 ((nI_iff (b := 5) (by omega) (by omega)).mp y)) h
theorem mSt {b : Nat} (hz : isZ (σ 0 12) (σ 8) l) (hl : l.length < 30) (h : ∀ σ2, vfM σ σ2 → isZ (σ2 0 12) (σ2 8) (l ++ [b]) → K none σ2) : sk_C sk_Sm d mX7_starts [.ref 0, .int (nI b)] σ K := by
  have e := hz.1
  refine wX7_starts (br_f (by rw [e]; exact fun z => absurd ((nI_leI (a := 30) (by omega) (by omega)).mp z) (by omega)) ⟨by rw [e]; exact vp_in_nI hl (by omega), ?_⟩)
  refine h _ ⟨fun q h0 h8 => (su_c h0).trans (su_c h8), fun j hj => (su_n hj).trans (by rw [su_c (by omega)])⟩ ?_
  rw [su_e, su_c (show (8 : Nat) ≠ 0 by omega), su_c (show (0 : Nat) ≠ 8 by omega), su_s, show (σ 0 12).toNatClampNeg = l.length from by rw [e]; exact nI_clamp (by omega)]
  exact isZ_add hz
theorem mKn (hd : 0 < d) (hY : vY σ k kd mm) (h : K (some (.int (nI kd))) σ) : sk_C sk_Sm d mX7_kindNow [.ref 0] σ K := by
  refine wX7_kindNow hd ?_
  rw [hY.2.2.1]
  refine pX7_its 0 hY.1 (by omega) (ex_i ?_)
  rw [hY.2.2.2.1]; exact h
theorem mMn (hd : 0 < d) (hY : vY σ k kd mm) (h : K (some (.int mm)) σ) : sk_C sk_Sm d mX7_mNow [.ref 0] σ K := by
  refine wX7_mNow hd ?_
  rw [hY.2.2.1]
  refine pX7_its 1 hY.1 (by omega) (ex_i ?_)
  rw [hY.2.2.2.2]; exact h
theorem mDr0 (hd : 2 < d) (hY : vY σ k kd mm) (hz : isZ (σ 0 12) (σ 8) l) (hl : l.length ≤ 24) (h : ∀ σ2, vfM σ σ2 → isZ (σ2 0 12) (σ2 8) (l ++ dLs 0) → K (some (.int (dVl (nI k) 0 x))) σ2) : sk_C sk_Sm d mX7_dripsAs [.ref 0, .int (nI 0), .int x] σ K := by
  refine wX7_dripsAs (by omega) ⟨fun _ => (mSt (b := 10) hz (by omega) (fun σ2 f2 z2 => ⟨rfl, ?_⟩)), fun z => absurd z (by decide), fun z => absurd z (by decide), fun z => absurd z (by decide), fun z => absurd z (by decide), fun z => absurd z (by decide), fun z => absurd z (by decide), fun z => absurd rfl (z.1)⟩
  rw [f2.2 14 (by omega), hY.2.2.1]
  exact h σ2 f2 z2
theorem mDr1 (hd : 4 < d) (hY : vY σ k kd mm) (hz : isZ (σ 0 12) (σ 8) l) (hl : l.length ≤ 22) (h : ∀ σ2, vfM σ σ2 → isZ (σ2 0 12) (σ2 8) (l ++ dLs 1) → K (some (.int (dVl (nI k) 1 x))) σ2) : sk_C sk_Sm d mX7_dripsAs [.ref 0, .int (nI 1), .int x] σ K := by
  refine wX7_dripsAs (by omega) ⟨fun z => absurd z (by decide), fun _ => (mSt (b := 20) hz (by omega) (fun σ2 f2 z2 => ⟨rfl, (mAb (a := 1) (by omega) (ex_i ?_))⟩)), fun z => absurd z (by decide), fun z => absurd z (by decide), fun z => absurd z (by decide), fun z => absurd z (by decide), fun z => absurd z (by decide), fun z => absurd rfl (z.2.1)⟩
  have hl2 : (l ++ [20]).length = l.length + 1 := by rw [List.length_append]; rfl
  refine mDr0 (by omega) (hY.fr f2) z2 (by omega) (fun σ3 f3 z3 => ex_i ?_)
  rw [List.append_assoc] at z3
  exact h σ3 (f2.tr f3) z3
theorem mDr4 (hd : 6 < d) (hY : vY σ k kd mm) (hz : isZ (σ 0 12) (σ 8) l) (hl : l.length ≤ 20) (h : ∀ σ2, vfM σ σ2 → isZ (σ2 0 12) (σ2 8) (l ++ dLs 4) → K (some (.int (dVl (nI k) 4 x))) σ2) : sk_C sk_Sm d mX7_dripsAs [.ref 0, .int (nI 4), .int x] σ K := by
  refine wX7_dripsAs (by omega) ⟨fun z => absurd z (by decide), fun z => absurd z (by decide), fun z => absurd z (by decide), fun z => absurd z (by decide), fun _ => (mSt (b := 50) hz (by omega) (fun σ2 f2 z2 => ⟨rfl, (mAb (a := 4) (by omega) (ex_i ?_))⟩)), fun z => absurd z (by decide), fun z => absurd z (by decide), fun z => absurd rfl (z.2.2.2.2.1)⟩
  have hl2 : (l ++ [50]).length = l.length + 1 := by rw [List.length_append]; rfl
  refine mDr1 (by omega) (hY.fr f2) z2 (by omega) (fun σ3 f3 z3 => ex_i ?_)
  rw [List.append_assoc] at z3
  exact h σ3 (f2.tr f3) z3
theorem mDr6 (hd : 2 < d) (hY : vY σ k kd mm) (hz : isZ (σ 0 12) (σ 8) l) (hl : l.length ≤ 20) (h : ∀ σ2, vfM σ σ2 → isZ (σ2 0 12) (σ2 8) (l ++ dLs 6) → K (some (.int (dVl (nI k) 6 x))) σ2) : sk_C sk_Sm d mX7_dripsAs [.ref 0, .int (nI 6), .int x] σ K := by
  exact wX7_dripsAs (by omega) ⟨fun z => absurd z (by decide), fun z => absurd z (by decide), fun z => absurd z (by decide), fun z => absurd z (by decide), fun z => absurd z (by decide), fun z => absurd z (by decide), fun _ => (mSt (b := 70) hz (by omega) (fun σ2 f2 z2 => ⟨rfl, h σ2 f2 z2⟩)), fun z => absurd rfl (z.2.2.2.2.2.2)⟩
theorem mDr2 (hd : 4 < d) (hY : vY σ k kd mm) (hz : isZ (σ 0 12) (σ 8) l) (hl : l.length ≤ 20) (h : ∀ σ2, vfM σ σ2 → isZ (σ2 0 12) (σ2 8) (l ++ dLs 2) → K (some (.int (dVl (nI k) 2 x))) σ2) : sk_C sk_Sm d mX7_dripsAs [.ref 0, .int (nI 2), .int x] σ K := by
  refine wX7_dripsAs (by omega) ⟨fun z => absurd z (by decide), fun z => absurd z (by decide), fun _ => (mAb (a := 2) (by omega) (ex_i ?_)), fun z => absurd z (by decide), fun z => absurd z (by decide), fun z => absurd z (by decide), fun z => absurd z (by decide), fun z => absurd rfl (z.2.2.1)⟩
  exact mDr0 (by omega) hY hz (by omega) (fun σ3 f3 z3 => ex_i (h σ3 f3 z3))
theorem mDr3 (hd : 4 < d) (hY : vY σ k kd mm) (hz : isZ (σ 0 12) (σ 8) l) (hl : l.length ≤ 20) (h : ∀ σ2, vfM σ σ2 → isZ (σ2 0 12) (σ2 8) (l ++ dLs 3) → K (some (.int (dVl (nI k) 3 x))) σ2) : sk_C sk_Sm d mX7_dripsAs [.ref 0, .int (nI 3), .int x] σ K := by
  refine wX7_dripsAs (by omega) ⟨fun z => absurd z (by decide), fun z => absurd z (by decide), fun z => absurd z (by decide), fun _ => (mAb (a := 3) (by omega) (ex_i ?_)), fun z => absurd z (by decide), fun z => absurd z (by decide), fun z => absurd z (by decide), fun z => absurd rfl (z.2.2.2.1)⟩
  exact mDr0 (by omega) hY hz (by omega) (fun σ3 f3 z3 => ex_i (h σ3 f3 z3))
theorem mDr5 (hd : 6 < d) (hY : vY σ k kd mm) (hz : isZ (σ 0 12) (σ 8) l) (hl : l.length ≤ 20) (h : ∀ σ2, vfM σ σ2 → isZ (σ2 0 12) (σ2 8) (l ++ dLs 5) → K (some (.int (dVl (nI k) 5 x))) σ2) : sk_C sk_Sm d mX7_dripsAs [.ref 0, .int (nI 5), .int x] σ K := by
  refine wX7_dripsAs (by omega) ⟨fun z => absurd z (by decide), fun z => absurd z (by decide), fun z => absurd z (by decide), fun z => absurd z (by decide), fun z => absurd z (by decide), fun _ => (mAb (a := 5) (by omega) (ex_i ?_)), fun z => absurd z (by decide), fun z => absurd rfl (z.2.2.2.2.2.1)⟩
  exact mDr2 (by omega) hY hz (by omega) (fun σ3 f3 z3 => ex_i (h σ3 f3 z3))
theorem mDr (hd : 8 < d) (hY : vY σ k kd mm) (hz : isZ (σ 0 12) (σ 8) l) (hl : l.length ≤ 20) {c : Nat} (hc : c ≤ 6) (h : ∀ σ2, vfM σ σ2 → isZ (σ2 0 12) (σ2 8) (l ++ dLs c) → K (some (.int (dVl (nI k) c x))) σ2) : sk_C sk_Sm d mX7_dripsAs [.ref 0, .int (nI c), .int x] σ K := by
  match c, hc, h with
  | 0, _, h => exact mDr0 (by omega) hY hz (by omega) h
  | 1, _, h => exact mDr1 (by omega) hY hz (by omega) h
  | 2, _, h => exact mDr2 (by omega) hY hz (by omega) h
  | 3, _, h => exact mDr3 (by omega) hY hz (by omega) h
  | 4, _, h => exact mDr4 (by omega) hY hz (by omega) h
  | 5, _, h => exact mDr5 (by omega) hY hz (by omega) h
  | 6, _, h => exact mDr6 (by omega) hY hz (by omega) h
theorem mRi0 (hd : 10 < d) (hY : vY σ k kd mm) (hz : isZ (σ 0 12) (σ 8) l) (hl : l.length ≤ 19) (h : ∀ σ2, vfM σ σ2 → isZ (σ2 0 12) (σ2 8) (l ++ rLs kd 0) → K (some (.int (rVl (nI k) mm kd 0 x))) σ2) : sk_C sk_Sm d mX7_ringsAs [.ref 0, .int (nI 0), .int x] σ K := by
  refine wX7_ringsAs (by omega) ⟨fun _ => (mSt (b := 11) hz (by omega) (fun σ2 f2 z2 => ⟨rfl, ?_⟩)), fun z => absurd z (by decide), fun z => absurd z (by decide), fun z => absurd z (by decide), fun z => absurd z (by decide), fun z => absurd z (by decide), fun z => absurd z (by decide), fun z => absurd rfl (z.1)⟩
  have hl2 : (l ++ [11]).length = l.length + 1 := by rw [List.length_append]; rfl
  refine mKn (by omega) (hY.fr f2) (ex_i (mDr (by omega) (hY.fr f2) z2 (by omega) hY.2.1 (fun σ3 f3 z3 => ex_i ?_)))
  rw [List.append_assoc] at z3
  exact h σ3 (f2.tr f3) z3
theorem mRi1 (hd : 12 < d) (hY : vY σ k kd mm) (hz : isZ (σ 0 12) (σ 8) l) (hl : l.length ≤ 18) (h : ∀ σ2, vfM σ σ2 → isZ (σ2 0 12) (σ2 8) (l ++ rLs kd 1) → K (some (.int (rVl (nI k) mm kd 1 x))) σ2) : sk_C sk_Sm d mX7_ringsAs [.ref 0, .int (nI 1), .int x] σ K := by
  refine wX7_ringsAs (by omega) ⟨fun z => absurd z (by decide), fun _ => (mAb (a := 1) (by omega) (ex_i ?_)), fun z => absurd z (by decide), fun z => absurd z (by decide), fun z => absurd z (by decide), fun z => absurd z (by decide), fun z => absurd z (by decide), fun z => absurd rfl (z.2.1)⟩
  exact mRi0 (by omega) hY hz (by omega) (fun σ3 f3 z3 => ex_i (h σ3 f3 z3))
theorem mRi3 (hd : 12 < d) (hY : vY σ k kd mm) (hz : isZ (σ 0 12) (σ 8) l) (hl : l.length ≤ 18) (h : ∀ σ2, vfM σ σ2 → isZ (σ2 0 12) (σ2 8) (l ++ rLs kd 3) → K (some (.int (rVl (nI k) mm kd 3 x))) σ2) : sk_C sk_Sm d mX7_ringsAs [.ref 0, .int (nI 3), .int x] σ K := by
  refine wX7_ringsAs (by omega) ⟨fun z => absurd z (by decide), fun z => absurd z (by decide), fun z => absurd z (by decide), fun _ => (mAb (a := 3) (by omega) (ex_i ?_)), fun z => absurd z (by decide), fun z => absurd z (by decide), fun z => absurd z (by decide), fun z => absurd rfl (z.2.2.2.1)⟩
  exact mRi0 (by omega) hY hz (by omega) (fun σ3 f3 z3 => ex_i (h σ3 f3 z3))
theorem mRi4 (hd : 14 < d) (hY : vY σ k kd mm) (hz : isZ (σ 0 12) (σ 8) l) (hl : l.length ≤ 18) (h : ∀ σ2, vfM σ σ2 → isZ (σ2 0 12) (σ2 8) (l ++ rLs kd 4) → K (some (.int (rVl (nI k) mm kd 4 x))) σ2) : sk_C sk_Sm d mX7_ringsAs [.ref 0, .int (nI 4), .int x] σ K := by
  refine wX7_ringsAs (by omega) ⟨fun z => absurd z (by decide), fun z => absurd z (by decide), fun z => absurd z (by decide), fun z => absurd z (by decide), fun _ => (mAb (a := 4) (by omega) (ex_i ?_)), fun z => absurd z (by decide), fun z => absurd z (by decide), fun z => absurd rfl (z.2.2.2.2.1)⟩
  exact mRi1 (by omega) hY hz (by omega) (fun σ3 f3 z3 => ex_i (h σ3 f3 z3))
theorem mRi2 (hd : 12 < d) (hY : vY σ k kd mm) (hz : isZ (σ 0 12) (σ 8) l) (hl : l.length ≤ 18) (h : ∀ σ2, vfM σ σ2 → isZ (σ2 0 12) (σ2 8) (l ++ rLs kd 2) → K (some (.int (rVl (nI k) mm kd 2 x))) σ2) : sk_C sk_Sm d mX7_ringsAs [.ref 0, .int (nI 2), .int x] σ K := by
  refine wX7_ringsAs (by omega) ⟨fun z => absurd z (by decide), fun z => absurd z (by decide), fun _ => (mSt (b := 30) hz (by omega) (fun σ2 f2 z2 => ⟨rfl, (mAb (a := 2) (by omega) (ex_i ?_))⟩)), fun z => absurd z (by decide), fun z => absurd z (by decide), fun z => absurd z (by decide), fun z => absurd z (by decide), fun z => absurd rfl (z.2.2.1)⟩
  have hl2 : (l ++ [30]).length = l.length + 1 := by rw [List.length_append]; rfl
  refine mRi0 (by omega) (hY.fr f2) z2 (by omega) (fun σ3 f3 z3 => ex_i ?_)
  rw [List.append_assoc] at z3
  exact h σ3 (f2.tr f3) z3
theorem mRi5 (hd : 14 < d) (hY : vY σ k kd mm) (hz : isZ (σ 0 12) (σ 8) l) (hl : l.length ≤ 17) (h : ∀ σ2, vfM σ σ2 → isZ (σ2 0 12) (σ2 8) (l ++ rLs kd 5) → K (some (.int (rVl (nI k) mm kd 5 x))) σ2) : sk_C sk_Sm d mX7_ringsAs [.ref 0, .int (nI 5), .int x] σ K := by
  refine wX7_ringsAs (by omega) ⟨fun z => absurd z (by decide), fun z => absurd z (by decide), fun z => absurd z (by decide), fun z => absurd z (by decide), fun z => absurd z (by decide), fun _ => (mSt (b := 60) hz (by omega) (fun σ2 f2 z2 => ⟨rfl, (mAb (a := 5) (by omega) (ex_i ?_))⟩)), fun z => absurd z (by decide), fun z => absurd rfl (z.2.2.2.2.2.1)⟩
  have hl2 : (l ++ [60]).length = l.length + 1 := by rw [List.length_append]; rfl
  refine mRi2 (by omega) (hY.fr f2) z2 (by omega) (fun σ3 f3 z3 => ex_i ?_)
  rw [List.append_assoc] at z3
  exact h σ3 (f2.tr f3) z3
theorem mRi6 (hd : 12 < d) (hY : vY σ k kd mm) (hz : isZ (σ 0 12) (σ 8) l) (hl : l.length ≤ 18) (h : ∀ σ2, vfM σ σ2 → isZ (σ2 0 12) (σ2 8) (l ++ rLs kd 6) → K (some (.int (rVl (nI k) mm kd 6 x))) σ2) : sk_C sk_Sm d mX7_ringsAs [.ref 0, .int (nI 6), .int x] σ K := by
  refine wX7_ringsAs (by omega) ⟨fun z => absurd z (by decide), fun z => absurd z (by decide), fun z => absurd z (by decide), fun z => absurd z (by decide), fun z => absurd z (by decide), fun z => absurd z (by decide), fun _ => (mSt (b := 71) hz (by omega) (fun σ2 f2 z2 => ⟨rfl, (mAb (a := 6) (by omega) (ex_i ?_))⟩)), fun z => absurd rfl (z.2.2.2.2.2.2)⟩
  have hl2 : (l ++ [71]).length = l.length + 1 := by rw [List.length_append]; rfl
  refine mRi0 (by omega) (hY.fr f2) z2 (by omega) (fun σ3 f3 z3 => ex_i (mMn (by omega) (hY.fr (f2.tr f3)) (ex_i ?_)))
  rw [List.append_assoc] at z3
  exact h σ3 (f2.tr f3) z3
theorem mRi (hd : 16 < d) (hY : vY σ k kd mm) (hz : isZ (σ 0 12) (σ 8) l) (hl : l.length ≤ 17) {c : Nat} (hc : c ≤ 6) (h : ∀ σ2, vfM σ σ2 → isZ (σ2 0 12) (σ2 8) (l ++ rLs kd c) → K (some (.int (rVl (nI k) mm kd c x))) σ2) : sk_C sk_Sm d mX7_ringsAs [.ref 0, .int (nI c), .int x] σ K := by
  match c, hc, h with
  | 0, _, h => exact mRi0 (by omega) hY hz (by omega) h
  | 1, _, h => exact mRi1 (by omega) hY hz (by omega) h
  | 2, _, h => exact mRi2 (by omega) hY hz (by omega) h
  | 3, _, h => exact mRi3 (by omega) hY hz (by omega) h
  | 4, _, h => exact mRi4 (by omega) hY hz (by omega) h
  | 5, _, h => exact mRi5 (by omega) hY hz (by omega) h
  | 6, _, h => exact mRi6 (by omega) hY hz (by omega) h
theorem mCr0 (hd : 18 < d) (hY : vY σ k kd mm) (hz : isZ (σ 0 12) (σ 8) l) (hl : l.length ≤ 16) (h : ∀ σ2, vfM σ σ2 → isZ (σ2 0 12) (σ2 8) (l ++ cLs kd 0) → K (some (.int (cVl (nI k) mm kd 0 x))) σ2) : sk_C sk_Sm d mX7_creaksAs [.ref 0, .int (nI 0), .int x] σ K := by
  refine wX7_creaksAs (by omega) ⟨fun _ => (mSt (b := 12) hz (by omega) (fun σ2 f2 z2 => ⟨rfl, ?_⟩)), fun z => absurd z (by decide), fun z => absurd z (by decide), fun z => absurd z (by decide), fun z => absurd z (by decide), fun z => absurd rfl (z.1)⟩
  have hl2 : (l ++ [12]).length = l.length + 1 := by rw [List.length_append]; rfl
  refine mKn (by omega) (hY.fr f2) (ex_i (mRi (by omega) (hY.fr f2) z2 (by omega) hY.2.1 (fun σ3 f3 z3 => ex_i (mMn (by omega) (hY.fr (f2.tr f3)) (ex_i ?_)))))
  rw [List.append_assoc] at z3
  exact h σ3 (f2.tr f3) z3
theorem mCr1 (hd : 20 < d) (hY : vY σ k kd mm) (hz : isZ (σ 0 12) (σ 8) l) (hl : l.length ≤ 15) (h : ∀ σ2, vfM σ σ2 → isZ (σ2 0 12) (σ2 8) (l ++ cLs kd 1) → K (some (.int (cVl (nI k) mm kd 1 x))) σ2) : sk_C sk_Sm d mX7_creaksAs [.ref 0, .int (nI 1), .int x] σ K := by
  refine wX7_creaksAs (by omega) ⟨fun z => absurd z (by decide), fun _ => (mAb (a := 1) (by omega) (ex_i ?_)), fun z => absurd z (by decide), fun z => absurd z (by decide), fun z => absurd z (by decide), fun z => absurd rfl (z.2.1)⟩
  exact mCr0 (by omega) hY hz (by omega) (fun σ3 f3 z3 => ex_i (h σ3 f3 z3))
theorem mCr2 (hd : 20 < d) (hY : vY σ k kd mm) (hz : isZ (σ 0 12) (σ 8) l) (hl : l.length ≤ 15) (h : ∀ σ2, vfM σ σ2 → isZ (σ2 0 12) (σ2 8) (l ++ cLs kd 2) → K (some (.int (cVl (nI k) mm kd 2 x))) σ2) : sk_C sk_Sm d mX7_creaksAs [.ref 0, .int (nI 2), .int x] σ K := by
  refine wX7_creaksAs (by omega) ⟨fun z => absurd z (by decide), fun z => absurd z (by decide), fun _ => (mAb (a := 2) (by omega) (ex_i ?_)), fun z => absurd z (by decide), fun z => absurd z (by decide), fun z => absurd rfl (z.2.2.1)⟩
  exact mCr0 (by omega) hY hz (by omega) (fun σ3 f3 z3 => ex_i (h σ3 f3 z3))
theorem mCr5 (hd : 22 < d) (hY : vY σ k kd mm) (hz : isZ (σ 0 12) (σ 8) l) (hl : l.length ≤ 15) (h : ∀ σ2, vfM σ σ2 → isZ (σ2 0 12) (σ2 8) (l ++ cLs kd 5) → K (some (.int (cVl (nI k) mm kd 5 x))) σ2) : sk_C sk_Sm d mX7_creaksAs [.ref 0, .int (nI 5), .int x] σ K := by
  refine wX7_creaksAs (by omega) ⟨fun z => absurd z (by decide), fun z => absurd z (by decide), fun z => absurd z (by decide), fun z => absurd z (by decide), fun z => absurd z (by decide), fun _ => (mAb (a := 5) (by omega) (ex_i ?_))⟩
  exact mCr2 (by omega) hY hz (by omega) (fun σ3 f3 z3 => ex_i (h σ3 f3 z3))
theorem mCr6 (hd : 20 < d) (hY : vY σ k kd mm) (hz : isZ (σ 0 12) (σ 8) l) (hl : l.length ≤ 15) (h : ∀ σ2, vfM σ σ2 → isZ (σ2 0 12) (σ2 8) (l ++ cLs kd 6) → K (some (.int (cVl (nI k) mm kd 6 x))) σ2) : sk_C sk_Sm d mX7_creaksAs [.ref 0, .int (nI 6), .int x] σ K := by
  refine wX7_creaksAs (by omega) ⟨fun z => absurd z (by decide), fun z => absurd z (by decide), fun z => absurd z (by decide), fun z => absurd z (by decide), fun z => absurd z (by decide), fun _ => (mAb (a := 6) (by omega) (ex_i ?_))⟩
  exact mCr0 (by omega) hY hz (by omega) (fun σ3 f3 z3 => ex_i (h σ3 f3 z3))
theorem mCr3 (hd : 20 < d) (hY : vY σ k kd mm) (hz : isZ (σ 0 12) (σ 8) l) (hl : l.length ≤ 15) (h : ∀ σ2, vfM σ σ2 → isZ (σ2 0 12) (σ2 8) (l ++ cLs kd 3) → K (some (.int (cVl (nI k) mm kd 3 x))) σ2) : sk_C sk_Sm d mX7_creaksAs [.ref 0, .int (nI 3), .int x] σ K := by
  refine wX7_creaksAs (by omega) ⟨fun z => absurd z (by decide), fun z => absurd z (by decide), fun z => absurd z (by decide), fun _ => (mSt (b := 40) hz (by omega) (fun σ2 f2 z2 => ⟨rfl, (mAb (a := 3) (by omega) (ex_i ?_))⟩)), fun z => absurd z (by decide), fun z => absurd rfl (z.2.2.2.1)⟩
  have hl2 : (l ++ [40]).length = l.length + 1 := by rw [List.length_append]; rfl
  refine mCr0 (by omega) (hY.fr f2) z2 (by omega) (fun σ3 f3 z3 => ex_i ?_)
  rw [List.append_assoc] at z3
  exact h σ3 (f2.tr f3) z3
theorem mCr4 (hd : 22 < d) (hY : vY σ k kd mm) (hz : isZ (σ 0 12) (σ 8) l) (hl : l.length ≤ 15) (h : ∀ σ2, vfM σ σ2 → isZ (σ2 0 12) (σ2 8) (l ++ cLs kd 4) → K (some (.int (cVl (nI k) mm kd 4 x))) σ2) : sk_C sk_Sm d mX7_creaksAs [.ref 0, .int (nI 4), .int x] σ K := by
  refine wX7_creaksAs (by omega) ⟨fun z => absurd z (by decide), fun z => absurd z (by decide), fun z => absurd z (by decide), fun z => absurd z (by decide), fun _ => (mSt (b := 51) hz (by omega) (fun σ2 f2 z2 => ⟨rfl, (mAb (a := 4) (by omega) (ex_i ?_))⟩)), fun z => absurd rfl (z.2.2.2.2)⟩
  have hl2 : (l ++ [51]).length = l.length + 1 := by rw [List.length_append]; rfl
  have hlow : ∀ {K2 : sk_K}, (∀ σ3, vfM σ2 σ3 → isZ (σ3 0 12) (σ3 8) ((l ++ [51]) ++ cLs kd 0) → K2 (some (.int (cVl (nI k) mm kd 0 x))) σ3) → sk_C sk_Sm (d - 1) mX7_creaksAs [.ref 0, .int (nI 1), .int x] σ2 K2 := fun {K2} h2 => by
    refine wX7_creaksAs (by omega) ⟨fun z => absurd z (by decide), fun _ => (mAb (a := 1) (by omega) (ex_i ?_)), fun z => absurd z (by decide), fun z => absurd z (by decide), fun z => absurd z (by decide), fun z => absurd rfl (z.2.1)⟩
    exact mCr0 (by omega) (hY.fr f2) z2 (by omega) (fun σ3 f3 z3 => ex_i (h2 σ3 f3 z3))
  refine hlow (fun σ3 f3 z3 => ex_i ?_)
  rw [List.append_assoc] at z3
  rw [(f2.tr f3).2 14 (by omega), hY.2.2.1]
  exact h σ3 (f2.tr f3) z3
theorem mCr (hd : 24 < d) (hY : vY σ k kd mm) (hz : isZ (σ 0 12) (σ 8) l) (hl : l.length ≤ 15) {c : Nat} (hc : c ≤ 6) (h : ∀ σ2, vfM σ σ2 → isZ (σ2 0 12) (σ2 8) (l ++ cLs kd c) → K (some (.int (cVl (nI k) mm kd c x))) σ2) : sk_C sk_Sm d mX7_creaksAs [.ref 0, .int (nI c), .int x] σ K := by
  match c, hc, h with
  | 0, _, h => exact mCr0 (by omega) hY hz (by omega) h
  | 1, _, h => exact mCr1 (by omega) hY hz (by omega) h
  | 2, _, h => exact mCr2 (by omega) hY hz (by omega) h
  | 3, _, h => exact mCr3 (by omega) hY hz (by omega) h
  | 4, _, h => exact mCr4 (by omega) hY hz (by omega) h
  | 5, _, h => exact mCr5 (by omega) hY hz (by omega) h
  | 6, _, h => exact mCr6 (by omega) hY hz (by omega) h
def vfQ (σ σ2 : sk_T) : Prop := (∀ q, q ≠ 0 → q ≠ 8 → σ2 q = σ q) ∧ ∀ j, j ≠ 12 → j ≠ 15 → σ2 0 j = σ 0 j
theorem vfM.q {σ σ2 : sk_T} (h : vfM σ σ2) : vfQ σ σ2 := ⟨h.1, fun j hj _ => h.2 j hj⟩
theorem vfQ.tr {a b c : sk_T} (h : vfQ a b) (h2 : vfQ b c) : vfQ a c := ⟨fun q h0 h8 => (h2.1 q h0 h8).trans (h.1 q h0 h8), fun j hj h5 => (h2.2 j hj h5).trans (h.2 j hj h5)⟩
theorem vY.fq {σ σ2 : sk_T} {k kd : Nat} {mm : Int32} (h : vY σ k kd mm) (hf : vfQ σ σ2) : vY σ2 k kd mm := by
  unfold vY at h ⊢
  rw [hf.2 14 (by omega) (by omega), hf.1 1 (by omega) (by omega)]
  exact h
theorem mPa0 (hd : 4 < d) (hY : vY σ k kd mm) (hz : isZ (σ 0 12) (σ 8) l) (hl : l.length ≤ 20) (h : ∀ σ2, vfQ σ σ2 → isZ (σ2 0 12) (σ2 8) (l ++ [13]) → σ2 0 15 = pPt (nI k) mm → K (some (.int (pQ (nI k) mm x))) σ2) : sk_C sk_Sm d mX7_partsAs [.ref 0, .int (nI 0), .int x] σ K := by
  refine wX7_partsAs (by omega) ⟨fun _ => (mSt (b := 13) hz (by omega) (fun σ2 f2 z2 => ⟨rfl, ?_⟩)), fun z => absurd z (by decide), fun z => absurd rfl (z.1)⟩
  refine mMn (by omega) (hY.fr f2) (ex_i ?_)
  rw [f2.2 14 (by omega), hY.2.2.1]
  have fin : ∀ v, vfQ σ (sk_u σ2 0 15 v) := fun v => ⟨fun q h0 h8 => (su_c h0).trans (f2.1 q h0 h8), fun j hj h5 => (su_n h5).trans (f2.2 j hj)⟩
  have zin : ∀ v, isZ (sk_u σ2 0 15 v 0 12) (sk_u σ2 0 15 v 8) (l ++ [13]) := fun v => by rw [su_n (by omega), su_c (by omega)]; exact z2
  unfold pQ pPt at h
  by_cases e : mm - nI k = 0
  · rw [if_pos e, if_pos e] at h
    exact ns_f e (ns_f e (h _ (fin 1) (zin 1) su_e))
  · rw [if_neg e, if_neg e] at h
    have h2 := h _ (fin 0) (zin 0) su_e
    refine ns_t e (ns_t e ⟨fun e1 => ⟨e, h2⟩, fun e1 => ?_⟩)
    rw [e1, div_m1] at h2
    exact h2
theorem mPa1 (hd : 20 < d) (hY : vY σ k kd mm) (hz : isZ (σ 0 12) (σ 8) l) (hl : l.length ≤ 12) (h : ∀ σ2, vfQ σ σ2 → isZ (σ2 0 12) (σ2 8) (l ++ pL1 (nI k) mm kd) → σ2 0 15 = pPt (nI k) mm → K (some (.int (pV1 (nI k) mm kd x))) σ2) : sk_C sk_Sm d mX7_partsAs [.ref 0, .int (nI 1), .int x] σ K := by
  refine wX7_partsAs (by omega) ⟨fun z => absurd z (by decide), fun _ => (mSt (b := 21) hz (by omega) (fun σ2 f2 z2 => ⟨rfl, (mAb (a := 1) (by omega) (ex_i ?_))⟩)), fun z => absurd rfl (z.2)⟩
  have hl2 : (l ++ [21]).length = l.length + 1 := by rw [List.length_append]; rfl
  refine mPa0 (by omega) (hY.fr f2) z2 (by omega) (fun σ3 f3 z3 p3 => ex_i ?_)
  rw [List.append_assoc] at z3
  unfold pL1 pV1 at h
  rw [p3]
  unfold pPt at p3 ⊢
  have f23 := f2.q.tr f3
  by_cases e : mm - nI k = 0
  · rw [if_pos e] at p3 ⊢
    rw [if_pos e, if_pos e] at h
    exact br_f (by decide) (h σ3 f23 z3 (by unfold pPt; rw [if_pos e]; exact p3))
  · rw [if_neg e] at p3 ⊢
    rw [if_neg e, if_neg e] at h
    have hl3 : (l ++ ([21] ++ [13])).length = l.length + 2 := by rw [List.length_append]; rfl
    refine br_t (by decide) (mKn (by omega) (hY.fq f23) (ex_i (mRi (by omega) (hY.fq f23) z3 (by omega) hY.2.1 (fun σ4 f4 z4 => ex_i ?_))))
    rw [List.append_assoc] at z4
    exact h σ4 (f23.tr f4.q) z4 (by unfold pPt; rw [if_neg e, f4.2 15 (by omega)]; exact p3)
theorem mPa2 (hd : 6 < d) (hY : vY σ k kd mm) (hz : isZ (σ 0 12) (σ 8) l) (hl : l.length ≤ 12) (h : ∀ σ2, vfQ σ σ2 → isZ (σ2 0 12) (σ2 8) (l ++ [13]) → σ2 0 15 = pPt (nI k) mm → K (some (.int (pQ (nI k) mm x))) σ2) : sk_C sk_Sm d mX7_partsAs [.ref 0, .int (nI 2), .int x] σ K := by
  refine wX7_partsAs (by omega) ⟨fun z => absurd z (by decide), fun z => absurd z (by decide), fun _ => (mAb (a := 2) (by omega) (ex_i ?_))⟩
  exact mPa0 (by omega) hY hz (by omega) (fun σ3 f3 z3 p3 => ex_i (h σ3 f3 z3 p3))
theorem mPa3 (hd : 6 < d) (hY : vY σ k kd mm) (hz : isZ (σ 0 12) (σ 8) l) (hl : l.length ≤ 12) (h : ∀ σ2, vfQ σ σ2 → isZ (σ2 0 12) (σ2 8) (l ++ [13]) → σ2 0 15 = pPt (nI k) mm → K (some (.int (pQ (nI k) mm x))) σ2) : sk_C sk_Sm d mX7_partsAs [.ref 0, .int (nI 3), .int x] σ K := by
  refine wX7_partsAs (by omega) ⟨fun z => absurd z (by decide), fun z => absurd z (by decide), fun _ => (mAb (a := 3) (by omega) (ex_i ?_))⟩
  exact mPa0 (by omega) hY hz (by omega) (fun σ3 f3 z3 p3 => ex_i (h σ3 f3 z3 p3))
theorem mPa6 (hd : 6 < d) (hY : vY σ k kd mm) (hz : isZ (σ 0 12) (σ 8) l) (hl : l.length ≤ 12) (h : ∀ σ2, vfQ σ σ2 → isZ (σ2 0 12) (σ2 8) (l ++ [13]) → σ2 0 15 = pPt (nI k) mm → K (some (.int (pQ (nI k) mm x))) σ2) : sk_C sk_Sm d mX7_partsAs [.ref 0, .int (nI 6), .int x] σ K := by
  refine wX7_partsAs (by omega) ⟨fun z => absurd z (by decide), fun z => absurd z (by decide), fun _ => (mAb (a := 6) (by omega) (ex_i ?_))⟩
  exact mPa0 (by omega) hY hz (by omega) (fun σ3 f3 z3 p3 => ex_i (h σ3 f3 z3 p3))
theorem mPa4 (hd : 22 < d) (hY : vY σ k kd mm) (hz : isZ (σ 0 12) (σ 8) l) (hl : l.length ≤ 12) (h : ∀ σ2, vfQ σ σ2 → isZ (σ2 0 12) (σ2 8) (l ++ pL1 (nI k) mm kd) → σ2 0 15 = pPt (nI k) mm → K (some (.int (pV1 (nI k) mm kd x))) σ2) : sk_C sk_Sm d mX7_partsAs [.ref 0, .int (nI 4), .int x] σ K := by
  refine wX7_partsAs (by omega) ⟨fun z => absurd z (by decide), fun z => absurd z (by decide), fun _ => (mAb (a := 4) (by omega) (ex_i ?_))⟩
  exact mPa1 (by omega) hY hz (by omega) (fun σ3 f3 z3 p3 => ex_i (h σ3 f3 z3 p3))
theorem mPa5 (hd : 8 < d) (hY : vY σ k kd mm) (hz : isZ (σ 0 12) (σ 8) l) (hl : l.length ≤ 12) (h : ∀ σ2, vfQ σ σ2 → isZ (σ2 0 12) (σ2 8) (l ++ [13]) → σ2 0 15 = pPt (nI k) mm → K (some (.int (pQ (nI k) mm x))) σ2) : sk_C sk_Sm d mX7_partsAs [.ref 0, .int (nI 5), .int x] σ K := by
  refine wX7_partsAs (by omega) ⟨fun z => absurd z (by decide), fun z => absurd z (by decide), fun _ => (mAb (a := 5) (by omega) (ex_i ?_))⟩
  exact mPa2 (by omega) hY hz (by omega) (fun σ3 f3 z3 p3 => ex_i (h σ3 f3 z3 p3))
theorem mPa (hd : 24 < d) (hY : vY σ k kd mm) (hz : isZ (σ 0 12) (σ 8) l) (hl : l.length ≤ 12) {c : Nat} (hc : c ≤ 6) (h : ∀ σ2, vfQ σ σ2 → isZ (σ2 0 12) (σ2 8) (l ++ pLs (nI k) mm kd c) → σ2 0 15 = pPt (nI k) mm → K (some (.int (pVl (nI k) mm kd c x))) σ2) : sk_C sk_Sm d mX7_partsAs [.ref 0, .int (nI c), .int x] σ K := by
  match c, hc, h with
  | 0, _, h => exact mPa0 (by omega) hY hz (by omega) h
  | 1, _, h => exact mPa1 (by omega) hY hz (by omega) h
  | 2, _, h => exact mPa2 (by omega) hY hz (by omega) h
  | 3, _, h => exact mPa3 (by omega) hY hz (by omega) h
  | 4, _, h => exact mPa4 (by omega) hY hz (by omega) h
  | 5, _, h => exact mPa5 (by omega) hY hz (by omega) h
  | 6, _, h => exact mPa6 (by omega) hY hz (by omega) h
end
