/-! ===== the class's voices; voice ===== -/
def vfC (τ τ2 : sk_T) : Prop := (∀ q, q ≠ 46 → q ≠ 47 → τ2 q = τ q) ∧ ∀ j, j ≠ 1 → τ2 46 j = τ 46 j
theorem vfC.rf {τ : sk_T} : vfC τ τ := ⟨fun _ _ _ => rfl, fun _ _ => rfl⟩
theorem vfC.tr {a b c : sk_T} (h : vfC a b) (h2 : vfC b c) : vfC a c := ⟨fun q h0 h8 => (h2.1 q h0 h8).trans (h.1 q h0 h8), fun j hj => (h2.2 j hj).trans (h.2 j hj)⟩
def vfD (τ τ2 : sk_T) : Prop := (∀ q, q ≠ 46 → q ≠ 47 → τ2 q = τ q) ∧ ∀ j, j ≠ 1 → j ≠ 2 → τ2 46 j = τ 46 j
theorem vfC.q {τ τ2 : sk_T} (h : vfC τ τ2) : vfD τ τ2 := ⟨h.1, fun j hj _ => h.2 j hj⟩
theorem vfD.tr {a b c : sk_T} (h : vfD a b) (h2 : vfD b c) : vfD a c := ⟨fun q h0 h8 => (h2.1 q h0 h8).trans (h.1 q h0 h8), fun j hj h5 => (h2.2 j hj h5).trans (h.2 j hj h5)⟩
def vX (τ : sk_T) (kd : Nat) (mm kk : Int32) : Prop := kd ≤ 6 ∧ τ 46 3 = nI kd ∧ τ 46 4 = mm ∧ τ 46 5 = kk
theorem vX.fd {τ τ2 : sk_T} {kd : Nat} {mm kk : Int32} (h : vX τ kd mm kk) (hf : vfD τ τ2) : vX τ2 kd mm kk := by
  unfold vX at h ⊢
  rw [hf.2 3 (by omega) (by omega), hf.2 4 (by omega) (by omega), hf.2 5 (by omega) (by omega)]
  exact h
theorem vX.fr {τ τ2 : sk_T} {kd : Nat} {mm kk : Int32} (h : vX τ kd mm kk) (hf : vfC τ τ2) : vX τ2 kd mm kk := h.fd hf.q
def SWb (d : Nat) (v1 v2 v3 v4 : Int32) (τ : sk_T) (K : sk_K) : Prop :=
  (v1 = 10 → K (some (.int (v3 + (τ 46 5)))) τ) ∧
  (v1 = 11 → sk_C sk_Sc (d - 1) mX0_own [.ref 46, .int 0, .int v3, .int v4] τ (fun w t => ∃ r : Int32, w = some (.int r) ∧ K (some (.int (r * 2))) t)) ∧
  (v1 = 12 → sk_C sk_Sc (d - 1) mX0_own [.ref 46, .int 1, .int v3, .int v4] τ (fun w t => ∃ r : Int32, w = some (.int r) ∧ K (some (.int (r - (t 46 4)))) t)) ∧
  (v1 = 13 → sk_C sk_Sc (d - 1) mX0_shared [.ref 46, .int v3] τ (fun w t => ∃ r : Int32, w = some (.int r) ∧ K (some (.int r)) t)) ∧
  (v1 = 20 → sk_C sk_Sc (d - 1) mX0_from [.ref 46, .int v2, .int 0, .int v3, .int v4] τ (fun w t => ∃ r : Int32, w = some (.int r) ∧ K (some (.int (r - 4))) t)) ∧
  (v1 = 21 → sk_C sk_Sc (d - 1) mX0_partsAndRings [.ref 46, .int v2, .int v3, .int v4] τ (fun w t => ∃ r : Int32, w = some (.int r) ∧ K (some (.int r)) t)) ∧
  (v1 = 30 → sk_C sk_Sc (d - 1) mX0_from [.ref 46, .int v2, .int 1, .int v3, .int v4] τ (fun w t => ∃ r : Int32, w = some (.int r) ∧ K (some (.int (0 - r))) t)) ∧
  (v1 = 40 → sk_C sk_Sc (d - 1) mX0_from [.ref 46, .int v2, .int 2, .int (v3 / 2), .int v4] τ (fun w t => ∃ r : Int32, w = some (.int r) ∧ K (some (.int r)) t)) ∧
  (v1 = 50 → sk_C sk_Sc (d - 1) mX0_from [.ref 46, .int v2, .int 0, .int v3, .int v4] τ (fun w t => ∃ r : Int32, w = some (.int r) ∧ K (some (.int (r * 3))) t)) ∧
  (v1 = 51 → sk_C sk_Sc (d - 1) mX0_from [.ref 46, .int v2, .int 2, .int v3, .int v4] τ (fun w t => ∃ r : Int32, w = some (.int r) ∧ K (some (.int (r ^^^ (t 46 5)))) t)) ∧
  (v1 = 60 → sk_C sk_Sc (d - 1) mX0_from [.ref 46, .int v2, .int 1, .int (v3 + 1), .int v4] τ (fun w t => ∃ r : Int32, w = some (.int r) ∧ K (some (.int r)) t)) ∧
  (v1 = 70 → K (some (.int 9)) τ) ∧
  (v1 = 71 → sk_C sk_Sc (d - 1) mX0_from [.ref 46, .int v2, .int 1, .int v3, .int v4] τ (fun w t => ∃ r : Int32, w = some (.int r) ∧ K (some (.int (r + (t 46 4)))) t)) ∧
  ((¬ v1 = 10 ∧ ¬ v1 = 11 ∧ ¬ v1 = 12 ∧ ¬ v1 = 13 ∧ ¬ v1 = 20 ∧ ¬ v1 = 21 ∧ ¬ v1 = 30 ∧ ¬ v1 = 40 ∧ ¬ v1 = 50 ∧ ¬ v1 = 51 ∧ ¬ v1 = 60 ∧ ¬ v1 = 70 ∧ ¬ v1 = 71) → K (some (.int 0)) τ)
/-- where the body of a voice is found -/
def rsv : Nat → Nat → Nat → Nat
  | 0, _, c => c
  | f + 1, v, c => if c = 0 then c else if sk_bodies (c * 4 + v) = 0 then rsv f v (abv c) else c
section
variable {d : Nat} {τ σ : sk_T} {K : sk_K} {kd dep : Nat} {mm kk x a : Int32} {l : List Nat}
theorem pBeg {b : Nat} {v4 : Int32} (hd : 0 < d) (hz : isZ (τ 46 1) (τ 47) l) (hl : l.length < 30) (h : ∀ τ2, vfC τ τ2 → isZ (τ2 46 1) (τ2 47) (l ++ [b]) → SWb d (nI b) a x v4 τ2 K) : sk_C sk_Sc d mX0_begin [.ref 46, .int (nI b), .int a, .int x, .int v4] τ K := by
  have e := hz.1
  have h2 := h (sk_u (sk_u τ 47 (τ 46 1).toNatClampNeg (nI b)) 46 1 ((sk_u τ 47 (τ 46 1).toNatClampNeg (nI b)) 46 1 + 1)) ⟨fun q h0 h8 => (su_c h0).trans (su_c h8), fun j hj => (su_n hj).trans (by rw [su_c (by omega)])⟩ (by
    rw [su_e, su_c (show (47 : Nat) ≠ 46 by omega), su_c (show (46 : Nat) ≠ 47 by omega), su_s, show (τ 46 1).toNatClampNeg = l.length from by rw [e]; exact nI_clamp (by omega)]
    exact isZ_add hz)
  exact wX0_begin hd (br_f (by rw [e]; exact fun z => absurd ((nI_leI (a := 30) (by omega) (by omega)).mp z) (by omega)) ⟨by rw [e]; exact vp_in_nI hl (by omega), h2⟩)
theorem cKa {c : Nat} (hc : c ≤ 6) (h : K (some (.int (sk_above c))) τ) : sk_C sk_Sc d mX5_kindAbove [.int (nI c)] τ K := by
  refine wX5_kindAbove (br_f (nI_pos (by omega)) (br_t ((nI_ltI (b := 7) (by omega) (by omega)).mpr (by omega)) ⟨vp_in_nI (by omega) (by omega), ?_⟩))
  rw [nI_clamp (by omega)]
  exact h
theorem lX0_from {v : Nat} (hd : 0 < d) (hv : v ≤ 3) (hdep : dep ≤ 29) : ∀ f c i, c ≤ f → f ≤ 6 → i + f ≤ 6 → sk_C sk_Sc (d - 1) mX0_begin [.ref 46, .int (sk_bodies (rsv f v c * 4 + v)), .int (sk_above (rsv f v c)), .int x, .int (nI (dep + 1))] τ (fun w t79 => ∃ r79 : Int32, w = some (.int r79) ∧ K (some (.int r79)) t79) →
    sk_G sk_Sc d mX0_from 6 [(0, .ref 46), (2, .int (nI v)), (3, .int x), (4, .int (nI dep)), (5, .int (nI c)), (6, .int (nI i))] [] τ K := by
  have hit : ∀ c i, c ≤ 6 → i ≤ 6 → (c = 0 ∨ ¬ sk_bodies (c * 4 + v) = 0) → sk_C sk_Sc (d - 1) mX0_begin [.ref 46, .int (sk_bodies (c * 4 + v)), .int (sk_above c), .int x, .int (nI (dep + 1))] τ (fun w t79 => ∃ r79 : Int32, w = some (.int r79) ∧ K (some (.int r79)) t79) →
      sk_G sk_Sc d mX0_from 6 [(0, .ref 46), (2, .int (nI v)), (3, .int x), (4, .int (nI dep)), (5, .int (nI c)), (6, .int (nI i))] [] τ K := fun c i hc hi hcb h => by
    have e4 : nI c * 4 + nI v = nI (c * 4 + v) := by rw [show (4 : Int32) = nI 4 from rfl, pk_mul, nI_add]
    have hvp : vp_in (nI c * 4 + nI v) 28 := by rw [e4]; exact vp_in_nI (by omega) (by omega)
    have hcl : (nI c * 4 + nI v).toNatClampNeg = c * 4 + v := by rw [e4]; exact nI_clamp (by omega)
    refine bX0_from_6 hd (br_f (fun z => absurd ((nI_ltI (a := 6) (by omega) (by omega)).mp z) (by omega)) ?_)
    rw [hcl]
    have tail : vp_in (nI c * 4 + nI v) 28 ∧ sk_C sk_Sc (d - 1) mX5_kindAbove [.int (nI c)] τ (fun w t71 => ∃ r71 : Int32, w = some (.int r71) ∧ sk_C sk_Sc (d - 1) mX0_begin [.ref 46, .int (sk_bodies (c * 4 + v)), .int r71, .int x, .int (nI dep + 1)] t71 (fun w t79 => ∃ r79 : Int32, w = some (.int r79) ∧ K (some (.int r79)) t79)) := by
      refine ⟨hvp, cKa hc (ex_i ?_)⟩
      rw [nI_1]
      exact h
    have t30 : nI dep ≤ 30 := (nI_leI (b := 30) (by omega) (by omega)).mpr (by omega)
    by_cases z : c = 0
    · exact br_t (by rw [z]; decide) (br_f (nI_pos (by omega)) (br_t t30 tail))
    · refine br_f (fun y => absurd ((nI_leI (b := 0) (by omega) (by omega)).mp y) (by omega)) ⟨hvp, ns_t ?_ (br_f (nI_pos (by omega)) (br_t t30 tail))⟩
      exact hcb.resolve_left z
  intro f
  induction f with
  | zero =>
    intro c i hc hf hi h
    exact hit c i (by omega) (by omega) (Or.inl (by omega)) h
  | succ f ih =>
    intro c i hc hf hi h
    unfold rsv at h
    by_cases z : c = 0
    · rw [if_pos z] at h
      exact hit c i (by omega) (by omega) (Or.inl z) h
    · rw [if_neg z] at h
      by_cases y : sk_bodies (c * 4 + v) = 0
      · rw [if_pos y] at h
        have e4 : nI c * 4 + nI v = nI (c * 4 + v) := by rw [show (4 : Int32) = nI 4 from rfl, pk_mul, nI_add]
        have hvp : vp_in (nI c * 4 + nI v) 28 := by rw [e4]; exact vp_in_nI (by omega) (by omega)
        have hcl : (nI c * 4 + nI v).toNatClampNeg = c * 4 + v := by rw [e4]; exact nI_clamp (by omega)
        have hlt := ab_lt c (by omega) z
        refine bX0_from_6 hd (br_f (fun z => absurd ((nI_ltI (a := 6) (by omega) (by omega)).mp z) (by omega)) ?_)
        rw [hcl]
        refine br_f (fun y => absurd ((nI_leI (b := 0) (by omega) (by omega)).mp y) (by omega)) ⟨hvp, ns_f y (cKa (by omega) (ex_i ?_))⟩
        rw [ab_c c (by omega), if_neg z, nI_1]
        exact ih (abv c) (i + 1) (by omega) (by omega) (by omega) h
      · rw [if_neg y] at h
        exact hit c i (by omega) (by omega) (Or.inr y) h
theorem cFr {v c b : Nat} (hd : 0 < d) (hv : v ≤ 3) (hdep : dep ≤ 29) (hc : c ≤ 6) (hb : sk_bodies (rsv 6 v c * 4 + v) = nI b) (ha : sk_above (rsv 6 v c) = a) (h : sk_C sk_Sc (d - 1) mX0_begin [.ref 46, .int (nI b), .int a, .int x, .int (nI (dep + 1))] τ (fun w t79 => ∃ r79 : Int32, w = some (.int r79) ∧ K (some (.int r79)) t79)) : sk_C sk_Sc d mX0_from [.ref 46, .int (nI c), .int (nI v), .int x, .int (nI dep)] τ K := by
  refine wX0_from (lX0_from hd hv hdep 6 c 0 hc (by omega) (by omega) ?_)
  rw [hb, ha]
  exact h
theorem cOw {v4 v1 : Int32} (hd : 0 < d) (hX : vX τ kd mm kk) (h : sk_C sk_Sc (d - 1) mX0_from [.ref 46, .int (nI kd), .int v1, .int x, .int v4] τ (fun w t => ∃ r : Int32, w = some (.int r) ∧ K (some (.int r)) t)) : sk_C sk_Sc d mX0_own [.ref 46, .int v1, .int x, .int v4] τ K := by
  refine wX0_own hd ?_
  rw [hX.2.1]
  exact h
theorem cDr0 (hd : 4 < d) (hX : vX τ kd mm kk) (hz : isZ (τ 46 1) (τ 47) l) (hl : l.length ≤ 24) (hdep : dep ≤ 25) (h : ∀ τ2, vfC τ τ2 → isZ (τ2 46 1) (τ2 47) (l ++ dLs 0) → K (some (.int (dVl kk 0 x))) τ2) : sk_C sk_Sc d mX0_from [.ref 46, .int (nI 0), .int (nI 0), .int x, .int (nI dep)] τ K := by
  refine cFr (a := -1) (b := 10) (by omega) (by omega) (by omega) (by omega) (by decide) (by decide) (pBeg (by omega) hz (by omega) (fun τ2 f2 z2 => ?_))
  have hl2 : (l ++ [10]).length = l.length + 1 := by rw [List.length_append]; rfl
  unfold SWb
  refine ⟨fun _ => (ex_i ?_), fun z => absurd z (by decide), fun z => absurd z (by decide), fun z => absurd z (by decide), fun z => absurd z (by decide), fun z => absurd z (by decide), fun z => absurd z (by decide), fun z => absurd z (by decide), fun z => absurd z (by decide), fun z => absurd z (by decide), fun z => absurd z (by decide), fun z => absurd z (by decide), fun z => absurd z (by decide), fun z => absurd rfl (z.1)⟩
  rw [(hX.fr f2).2.2.2]
  exact h τ2 f2 z2
theorem cDr2 (hd : 4 < d) (hX : vX τ kd mm kk) (hz : isZ (τ 46 1) (τ 47) l) (hl : l.length ≤ 24) (hdep : dep ≤ 25) (h : ∀ τ2, vfC τ τ2 → isZ (τ2 46 1) (τ2 47) (l ++ dLs 2) → K (some (.int (dVl kk 2 x))) τ2) : sk_C sk_Sc d mX0_from [.ref 46, .int (nI 2), .int (nI 0), .int x, .int (nI dep)] τ K := by
  refine cFr (a := -1) (b := 10) (by omega) (by omega) (by omega) (by omega) (by decide) (by decide) (pBeg (by omega) hz (by omega) (fun τ2 f2 z2 => ?_))
  have hl2 : (l ++ [10]).length = l.length + 1 := by rw [List.length_append]; rfl
  unfold SWb
  refine ⟨fun _ => (ex_i ?_), fun z => absurd z (by decide), fun z => absurd z (by decide), fun z => absurd z (by decide), fun z => absurd z (by decide), fun z => absurd z (by decide), fun z => absurd z (by decide), fun z => absurd z (by decide), fun z => absurd z (by decide), fun z => absurd z (by decide), fun z => absurd z (by decide), fun z => absurd z (by decide), fun z => absurd z (by decide), fun z => absurd rfl (z.1)⟩
  rw [(hX.fr f2).2.2.2]
  exact h τ2 f2 z2
theorem cDr3 (hd : 4 < d) (hX : vX τ kd mm kk) (hz : isZ (τ 46 1) (τ 47) l) (hl : l.length ≤ 24) (hdep : dep ≤ 25) (h : ∀ τ2, vfC τ τ2 → isZ (τ2 46 1) (τ2 47) (l ++ dLs 3) → K (some (.int (dVl kk 3 x))) τ2) : sk_C sk_Sc d mX0_from [.ref 46, .int (nI 3), .int (nI 0), .int x, .int (nI dep)] τ K := by
  refine cFr (a := -1) (b := 10) (by omega) (by omega) (by omega) (by omega) (by decide) (by decide) (pBeg (by omega) hz (by omega) (fun τ2 f2 z2 => ?_))
  have hl2 : (l ++ [10]).length = l.length + 1 := by rw [List.length_append]; rfl
  unfold SWb
  refine ⟨fun _ => (ex_i ?_), fun z => absurd z (by decide), fun z => absurd z (by decide), fun z => absurd z (by decide), fun z => absurd z (by decide), fun z => absurd z (by decide), fun z => absurd z (by decide), fun z => absurd z (by decide), fun z => absurd z (by decide), fun z => absurd z (by decide), fun z => absurd z (by decide), fun z => absurd z (by decide), fun z => absurd z (by decide), fun z => absurd rfl (z.1)⟩
  rw [(hX.fr f2).2.2.2]
  exact h τ2 f2 z2
theorem cDr5 (hd : 4 < d) (hX : vX τ kd mm kk) (hz : isZ (τ 46 1) (τ 47) l) (hl : l.length ≤ 24) (hdep : dep ≤ 25) (h : ∀ τ2, vfC τ τ2 → isZ (τ2 46 1) (τ2 47) (l ++ dLs 5) → K (some (.int (dVl kk 5 x))) τ2) : sk_C sk_Sc d mX0_from [.ref 46, .int (nI 5), .int (nI 0), .int x, .int (nI dep)] τ K := by
  refine cFr (a := -1) (b := 10) (by omega) (by omega) (by omega) (by omega) (by decide) (by decide) (pBeg (by omega) hz (by omega) (fun τ2 f2 z2 => ?_))
  have hl2 : (l ++ [10]).length = l.length + 1 := by rw [List.length_append]; rfl
  unfold SWb
  refine ⟨fun _ => (ex_i ?_), fun z => absurd z (by decide), fun z => absurd z (by decide), fun z => absurd z (by decide), fun z => absurd z (by decide), fun z => absurd z (by decide), fun z => absurd z (by decide), fun z => absurd z (by decide), fun z => absurd z (by decide), fun z => absurd z (by decide), fun z => absurd z (by decide), fun z => absurd z (by decide), fun z => absurd z (by decide), fun z => absurd rfl (z.1)⟩
  rw [(hX.fr f2).2.2.2]
  exact h τ2 f2 z2
theorem cDr6 (hd : 4 < d) (hX : vX τ kd mm kk) (hz : isZ (τ 46 1) (τ 47) l) (hl : l.length ≤ 24) (hdep : dep ≤ 25) (h : ∀ τ2, vfC τ τ2 → isZ (τ2 46 1) (τ2 47) (l ++ dLs 6) → K (some (.int (dVl kk 6 x))) τ2) : sk_C sk_Sc d mX0_from [.ref 46, .int (nI 6), .int (nI 0), .int x, .int (nI dep)] τ K := by
  refine cFr (a := nI 0) (b := 70) (by omega) (by omega) (by omega) (by omega) (by decide) (by decide) (pBeg (by omega) hz (by omega) (fun τ2 f2 z2 => ?_))
  have hl2 : (l ++ [70]).length = l.length + 1 := by rw [List.length_append]; rfl
  unfold SWb
  refine ⟨fun z => absurd z (by decide), fun z => absurd z (by decide), fun z => absurd z (by decide), fun z => absurd z (by decide), fun z => absurd z (by decide), fun z => absurd z (by decide), fun z => absurd z (by decide), fun z => absurd z (by decide), fun z => absurd z (by decide), fun z => absurd z (by decide), fun z => absurd z (by decide), fun _ => (ex_i (h τ2 f2 z2)), fun z => absurd z (by decide), fun z => absurd rfl (z.2.2.2.2.2.2.2.2.2.2.2.1)⟩
theorem cDr1 (hd : 6 < d) (hX : vX τ kd mm kk) (hz : isZ (τ 46 1) (τ 47) l) (hl : l.length ≤ 23) (hdep : dep ≤ 24) (h : ∀ τ2, vfC τ τ2 → isZ (τ2 46 1) (τ2 47) (l ++ dLs 1) → K (some (.int (dVl kk 1 x))) τ2) : sk_C sk_Sc d mX0_from [.ref 46, .int (nI 1), .int (nI 0), .int x, .int (nI dep)] τ K := by
  refine cFr (a := nI 0) (b := 20) (by omega) (by omega) (by omega) (by omega) (by decide) (by decide) (pBeg (by omega) hz (by omega) (fun τ2 f2 z2 => ?_))
  have hl2 : (l ++ [20]).length = l.length + 1 := by rw [List.length_append]; rfl
  unfold SWb
  refine ⟨fun z => absurd z (by decide), fun z => absurd z (by decide), fun z => absurd z (by decide), fun z => absurd z (by decide), fun _ => (cDr0 (by omega) (hX.fr f2) z2 (by omega) (by omega) (fun τ3 f3 z3 => ex_i (ex_i ?_))), fun z => absurd z (by decide), fun z => absurd z (by decide), fun z => absurd z (by decide), fun z => absurd z (by decide), fun z => absurd z (by decide), fun z => absurd z (by decide), fun z => absurd z (by decide), fun z => absurd z (by decide), fun z => absurd rfl (z.2.2.2.2.1)⟩
  rw [List.append_assoc] at z3
  exact h τ3 (f2.tr f3) z3
theorem cDr4 (hd : 8 < d) (hX : vX τ kd mm kk) (hz : isZ (τ 46 1) (τ 47) l) (hl : l.length ≤ 22) (hdep : dep ≤ 23) (h : ∀ τ2, vfC τ τ2 → isZ (τ2 46 1) (τ2 47) (l ++ dLs 4) → K (some (.int (dVl kk 4 x))) τ2) : sk_C sk_Sc d mX0_from [.ref 46, .int (nI 4), .int (nI 0), .int x, .int (nI dep)] τ K := by
  refine cFr (a := nI 1) (b := 50) (by omega) (by omega) (by omega) (by omega) (by decide) (by decide) (pBeg (by omega) hz (by omega) (fun τ2 f2 z2 => ?_))
  have hl2 : (l ++ [50]).length = l.length + 1 := by rw [List.length_append]; rfl
  unfold SWb
  refine ⟨fun z => absurd z (by decide), fun z => absurd z (by decide), fun z => absurd z (by decide), fun z => absurd z (by decide), fun z => absurd z (by decide), fun z => absurd z (by decide), fun z => absurd z (by decide), fun z => absurd z (by decide), fun _ => (cDr1 (by omega) (hX.fr f2) z2 (by omega) (by omega) (fun τ3 f3 z3 => ex_i (ex_i ?_))), fun z => absurd z (by decide), fun z => absurd z (by decide), fun z => absurd z (by decide), fun z => absurd z (by decide), fun z => absurd rfl (z.2.2.2.2.2.2.2.2.1)⟩
  rw [List.append_assoc] at z3
  exact h τ3 (f2.tr f3) z3
theorem cDr (hd : 8 < d) (hX : vX τ kd mm kk) (hz : isZ (τ 46 1) (τ 47) l) (hl : l.length ≤ 20) (hdep : dep ≤ 20) {c : Nat} (hc : c ≤ 6) (h : ∀ τ2, vfC τ τ2 → isZ (τ2 46 1) (τ2 47) (l ++ dLs c) → K (some (.int (dVl kk c x))) τ2) : sk_C sk_Sc d mX0_from [.ref 46, .int (nI c), .int (nI 0), .int x, .int (nI dep)] τ K := by
  match c, hc, h with
  | 0, _, h => exact cDr0 (by omega) hX hz (by omega) (by omega) h
  | 1, _, h => exact cDr1 (by omega) hX hz (by omega) (by omega) h
  | 2, _, h => exact cDr2 (by omega) hX hz (by omega) (by omega) h
  | 3, _, h => exact cDr3 (by omega) hX hz (by omega) (by omega) h
  | 4, _, h => exact cDr4 (by omega) hX hz (by omega) (by omega) h
  | 5, _, h => exact cDr5 (by omega) hX hz (by omega) (by omega) h
  | 6, _, h => exact cDr6 (by omega) hX hz (by omega) (by omega) h
theorem cRi0 (hd : 12 < d) (hX : vX τ kd mm kk) (hz : isZ (τ 46 1) (τ 47) l) (hl : l.length ≤ 19) (hdep : dep ≤ 18) (h : ∀ τ2, vfC τ τ2 → isZ (τ2 46 1) (τ2 47) (l ++ rLs kd 0) → K (some (.int (rVl kk mm kd 0 x))) τ2) : sk_C sk_Sc d mX0_from [.ref 46, .int (nI 0), .int (nI 1), .int x, .int (nI dep)] τ K := by
  refine cFr (a := -1) (b := 11) (by omega) (by omega) (by omega) (by omega) (by decide) (by decide) (pBeg (by omega) hz (by omega) (fun τ2 f2 z2 => ?_))
  have hl2 : (l ++ [11]).length = l.length + 1 := by rw [List.length_append]; rfl
  unfold SWb
  refine ⟨fun z => absurd z (by decide), fun _ => (cOw (by omega) (hX.fr f2) (cDr (by omega) (hX.fr f2) z2 (by omega) (by omega) hX.1 (fun τ3 f3 z3 => ex_i (ex_i (ex_i ?_))))), fun z => absurd z (by decide), fun z => absurd z (by decide), fun z => absurd z (by decide), fun z => absurd z (by decide), fun z => absurd z (by decide), fun z => absurd z (by decide), fun z => absurd z (by decide), fun z => absurd z (by decide), fun z => absurd z (by decide), fun z => absurd z (by decide), fun z => absurd z (by decide), fun z => absurd rfl (z.2.1)⟩
  rw [List.append_assoc] at z3
  exact h τ3 (f2.tr f3) z3
theorem cRi1 (hd : 12 < d) (hX : vX τ kd mm kk) (hz : isZ (τ 46 1) (τ 47) l) (hl : l.length ≤ 19) (hdep : dep ≤ 18) (h : ∀ τ2, vfC τ τ2 → isZ (τ2 46 1) (τ2 47) (l ++ rLs kd 1) → K (some (.int (rVl kk mm kd 1 x))) τ2) : sk_C sk_Sc d mX0_from [.ref 46, .int (nI 1), .int (nI 1), .int x, .int (nI dep)] τ K := by
  refine cFr (a := -1) (b := 11) (by omega) (by omega) (by omega) (by omega) (by decide) (by decide) (pBeg (by omega) hz (by omega) (fun τ2 f2 z2 => ?_))
  have hl2 : (l ++ [11]).length = l.length + 1 := by rw [List.length_append]; rfl
  unfold SWb
  refine ⟨fun z => absurd z (by decide), fun _ => (cOw (by omega) (hX.fr f2) (cDr (by omega) (hX.fr f2) z2 (by omega) (by omega) hX.1 (fun τ3 f3 z3 => ex_i (ex_i (ex_i ?_))))), fun z => absurd z (by decide), fun z => absurd z (by decide), fun z => absurd z (by decide), fun z => absurd z (by decide), fun z => absurd z (by decide), fun z => absurd z (by decide), fun z => absurd z (by decide), fun z => absurd z (by decide), fun z => absurd z (by decide), fun z => absurd z (by decide), fun z => absurd z (by decide), fun z => absurd rfl (z.2.1)⟩
  rw [List.append_assoc] at z3
  exact h τ3 (f2.tr f3) z3
theorem cRi3 (hd : 12 < d) (hX : vX τ kd mm kk) (hz : isZ (τ 46 1) (τ 47) l) (hl : l.length ≤ 19) (hdep : dep ≤ 18) (h : ∀ τ2, vfC τ τ2 → isZ (τ2 46 1) (τ2 47) (l ++ rLs kd 3) → K (some (.int (rVl kk mm kd 3 x))) τ2) : sk_C sk_Sc d mX0_from [.ref 46, .int (nI 3), .int (nI 1), .int x, .int (nI dep)] τ K := by
  refine cFr (a := -1) (b := 11) (by omega) (by omega) (by omega) (by omega) (by decide) (by decide) (pBeg (by omega) hz (by omega) (fun τ2 f2 z2 => ?_))
  have hl2 : (l ++ [11]).length = l.length + 1 := by rw [List.length_append]; rfl
  unfold SWb
  refine ⟨fun z => absurd z (by decide), fun _ => (cOw (by omega) (hX.fr f2) (cDr (by omega) (hX.fr f2) z2 (by omega) (by omega) hX.1 (fun τ3 f3 z3 => ex_i (ex_i (ex_i ?_))))), fun z => absurd z (by decide), fun z => absurd z (by decide), fun z => absurd z (by decide), fun z => absurd z (by decide), fun z => absurd z (by decide), fun z => absurd z (by decide), fun z => absurd z (by decide), fun z => absurd z (by decide), fun z => absurd z (by decide), fun z => absurd z (by decide), fun z => absurd z (by decide), fun z => absurd rfl (z.2.1)⟩
  rw [List.append_assoc] at z3
  exact h τ3 (f2.tr f3) z3
theorem cRi4 (hd : 12 < d) (hX : vX τ kd mm kk) (hz : isZ (τ 46 1) (τ 47) l) (hl : l.length ≤ 19) (hdep : dep ≤ 18) (h : ∀ τ2, vfC τ τ2 → isZ (τ2 46 1) (τ2 47) (l ++ rLs kd 4) → K (some (.int (rVl kk mm kd 4 x))) τ2) : sk_C sk_Sc d mX0_from [.ref 46, .int (nI 4), .int (nI 1), .int x, .int (nI dep)] τ K := by
  refine cFr (a := -1) (b := 11) (by omega) (by omega) (by omega) (by omega) (by decide) (by decide) (pBeg (by omega) hz (by omega) (fun τ2 f2 z2 => ?_))
  have hl2 : (l ++ [11]).length = l.length + 1 := by rw [List.length_append]; rfl
  unfold SWb
  refine ⟨fun z => absurd z (by decide), fun _ => (cOw (by omega) (hX.fr f2) (cDr (by omega) (hX.fr f2) z2 (by omega) (by omega) hX.1 (fun τ3 f3 z3 => ex_i (ex_i (ex_i ?_))))), fun z => absurd z (by decide), fun z => absurd z (by decide), fun z => absurd z (by decide), fun z => absurd z (by decide), fun z => absurd z (by decide), fun z => absurd z (by decide), fun z => absurd z (by decide), fun z => absurd z (by decide), fun z => absurd z (by decide), fun z => absurd z (by decide), fun z => absurd z (by decide), fun z => absurd rfl (z.2.1)⟩
  rw [List.append_assoc] at z3
  exact h τ3 (f2.tr f3) z3
theorem cRi2 (hd : 14 < d) (hX : vX τ kd mm kk) (hz : isZ (τ 46 1) (τ 47) l) (hl : l.length ≤ 18) (hdep : dep ≤ 17) (h : ∀ τ2, vfC τ τ2 → isZ (τ2 46 1) (τ2 47) (l ++ rLs kd 2) → K (some (.int (rVl kk mm kd 2 x))) τ2) : sk_C sk_Sc d mX0_from [.ref 46, .int (nI 2), .int (nI 1), .int x, .int (nI dep)] τ K := by
  refine cFr (a := nI 0) (b := 30) (by omega) (by omega) (by omega) (by omega) (by decide) (by decide) (pBeg (by omega) hz (by omega) (fun τ2 f2 z2 => ?_))
  have hl2 : (l ++ [30]).length = l.length + 1 := by rw [List.length_append]; rfl
  unfold SWb
  refine ⟨fun z => absurd z (by decide), fun z => absurd z (by decide), fun z => absurd z (by decide), fun z => absurd z (by decide), fun z => absurd z (by decide), fun z => absurd z (by decide), fun _ => (cRi0 (by omega) (hX.fr f2) z2 (by omega) (by omega) (fun τ3 f3 z3 => ex_i (ex_i ?_))), fun z => absurd z (by decide), fun z => absurd z (by decide), fun z => absurd z (by decide), fun z => absurd z (by decide), fun z => absurd z (by decide), fun z => absurd z (by decide), fun z => absurd rfl (z.2.2.2.2.2.2.1)⟩
  rw [List.append_assoc] at z3
  exact h τ3 (f2.tr f3) z3
theorem cRi5 (hd : 16 < d) (hX : vX τ kd mm kk) (hz : isZ (τ 46 1) (τ 47) l) (hl : l.length ≤ 17) (hdep : dep ≤ 16) (h : ∀ τ2, vfC τ τ2 → isZ (τ2 46 1) (τ2 47) (l ++ rLs kd 5) → K (some (.int (rVl kk mm kd 5 x))) τ2) : sk_C sk_Sc d mX0_from [.ref 46, .int (nI 5), .int (nI 1), .int x, .int (nI dep)] τ K := by
  refine cFr (a := nI 2) (b := 60) (by omega) (by omega) (by omega) (by omega) (by decide) (by decide) (pBeg (by omega) hz (by omega) (fun τ2 f2 z2 => ?_))
  have hl2 : (l ++ [60]).length = l.length + 1 := by rw [List.length_append]; rfl
  unfold SWb
  refine ⟨fun z => absurd z (by decide), fun z => absurd z (by decide), fun z => absurd z (by decide), fun z => absurd z (by decide), fun z => absurd z (by decide), fun z => absurd z (by decide), fun z => absurd z (by decide), fun z => absurd z (by decide), fun z => absurd z (by decide), fun z => absurd z (by decide), fun _ => (cRi2 (by omega) (hX.fr f2) z2 (by omega) (by omega) (fun τ3 f3 z3 => ex_i (ex_i ?_))), fun z => absurd z (by decide), fun z => absurd z (by decide), fun z => absurd rfl (z.2.2.2.2.2.2.2.2.2.2.1)⟩
  rw [List.append_assoc] at z3
  exact h τ3 (f2.tr f3) z3
theorem cRi6 (hd : 14 < d) (hX : vX τ kd mm kk) (hz : isZ (τ 46 1) (τ 47) l) (hl : l.length ≤ 18) (hdep : dep ≤ 17) (h : ∀ τ2, vfC τ τ2 → isZ (τ2 46 1) (τ2 47) (l ++ rLs kd 6) → K (some (.int (rVl kk mm kd 6 x))) τ2) : sk_C sk_Sc d mX0_from [.ref 46, .int (nI 6), .int (nI 1), .int x, .int (nI dep)] τ K := by
  refine cFr (a := nI 0) (b := 71) (by omega) (by omega) (by omega) (by omega) (by decide) (by decide) (pBeg (by omega) hz (by omega) (fun τ2 f2 z2 => ?_))
  have hl2 : (l ++ [71]).length = l.length + 1 := by rw [List.length_append]; rfl
  unfold SWb
  refine ⟨fun z => absurd z (by decide), fun z => absurd z (by decide), fun z => absurd z (by decide), fun z => absurd z (by decide), fun z => absurd z (by decide), fun z => absurd z (by decide), fun z => absurd z (by decide), fun z => absurd z (by decide), fun z => absurd z (by decide), fun z => absurd z (by decide), fun z => absurd z (by decide), fun z => absurd z (by decide), fun _ => (cRi0 (by omega) (hX.fr f2) z2 (by omega) (by omega) (fun τ3 f3 z3 => ex_i (ex_i ?_))), fun z => absurd rfl (z.2.2.2.2.2.2.2.2.2.2.2.2)⟩
  rw [(hX.fr (f2.tr f3)).2.2.1]
  rw [List.append_assoc] at z3
  exact h τ3 (f2.tr f3) z3
theorem cRi (hd : 16 < d) (hX : vX τ kd mm kk) (hz : isZ (τ 46 1) (τ 47) l) (hl : l.length ≤ 17) (hdep : dep ≤ 16) {c : Nat} (hc : c ≤ 6) (h : ∀ τ2, vfC τ τ2 → isZ (τ2 46 1) (τ2 47) (l ++ rLs kd c) → K (some (.int (rVl kk mm kd c x))) τ2) : sk_C sk_Sc d mX0_from [.ref 46, .int (nI c), .int (nI 1), .int x, .int (nI dep)] τ K := by
  match c, hc, h with
  | 0, _, h => exact cRi0 (by omega) hX hz (by omega) (by omega) h
  | 1, _, h => exact cRi1 (by omega) hX hz (by omega) (by omega) h
  | 2, _, h => exact cRi2 (by omega) hX hz (by omega) (by omega) h
  | 3, _, h => exact cRi3 (by omega) hX hz (by omega) (by omega) h
  | 4, _, h => exact cRi4 (by omega) hX hz (by omega) (by omega) h
  | 5, _, h => exact cRi5 (by omega) hX hz (by omega) (by omega) h
  | 6, _, h => exact cRi6 (by omega) hX hz (by omega) (by omega) h
theorem cCr0 (hd : 20 < d) (hX : vX τ kd mm kk) (hz : isZ (τ 46 1) (τ 47) l) (hl : l.length ≤ 16) (hdep : dep ≤ 14) (h : ∀ τ2, vfC τ τ2 → isZ (τ2 46 1) (τ2 47) (l ++ cLs kd 0) → K (some (.int (cVl kk mm kd 0 x))) τ2) : sk_C sk_Sc d mX0_from [.ref 46, .int (nI 0), .int (nI 2), .int x, .int (nI dep)] τ K := by
  refine cFr (a := -1) (b := 12) (by omega) (by omega) (by omega) (by omega) (by decide) (by decide) (pBeg (by omega) hz (by omega) (fun τ2 f2 z2 => ?_))
  have hl2 : (l ++ [12]).length = l.length + 1 := by rw [List.length_append]; rfl
  unfold SWb
  refine ⟨fun z => absurd z (by decide), fun z => absurd z (by decide), fun _ => (cOw (by omega) (hX.fr f2) (cRi (by omega) (hX.fr f2) z2 (by omega) (by omega) hX.1 (fun τ3 f3 z3 => ex_i (ex_i (ex_i ?_))))), fun z => absurd z (by decide), fun z => absurd z (by decide), fun z => absurd z (by decide), fun z => absurd z (by decide), fun z => absurd z (by decide), fun z => absurd z (by decide), fun z => absurd z (by decide), fun z => absurd z (by decide), fun z => absurd z (by decide), fun z => absurd z (by decide), fun z => absurd rfl (z.2.2.1)⟩
  rw [(hX.fr (f2.tr f3)).2.2.1]
  rw [List.append_assoc] at z3
  exact h τ3 (f2.tr f3) z3
theorem cCr1 (hd : 20 < d) (hX : vX τ kd mm kk) (hz : isZ (τ 46 1) (τ 47) l) (hl : l.length ≤ 16) (hdep : dep ≤ 14) (h : ∀ τ2, vfC τ τ2 → isZ (τ2 46 1) (τ2 47) (l ++ cLs kd 1) → K (some (.int (cVl kk mm kd 1 x))) τ2) : sk_C sk_Sc d mX0_from [.ref 46, .int (nI 1), .int (nI 2), .int x, .int (nI dep)] τ K := by
  refine cFr (a := -1) (b := 12) (by omega) (by omega) (by omega) (by omega) (by decide) (by decide) (pBeg (by omega) hz (by omega) (fun τ2 f2 z2 => ?_))
  have hl2 : (l ++ [12]).length = l.length + 1 := by rw [List.length_append]; rfl
  unfold SWb
  refine ⟨fun z => absurd z (by decide), fun z => absurd z (by decide), fun _ => (cOw (by omega) (hX.fr f2) (cRi (by omega) (hX.fr f2) z2 (by omega) (by omega) hX.1 (fun τ3 f3 z3 => ex_i (ex_i (ex_i ?_))))), fun z => absurd z (by decide), fun z => absurd z (by decide), fun z => absurd z (by decide), fun z => absurd z (by decide), fun z => absurd z (by decide), fun z => absurd z (by decide), fun z => absurd z (by decide), fun z => absurd z (by decide), fun z => absurd z (by decide), fun z => absurd z (by decide), fun z => absurd rfl (z.2.2.1)⟩
  rw [(hX.fr (f2.tr f3)).2.2.1]
  rw [List.append_assoc] at z3
  exact h τ3 (f2.tr f3) z3
theorem cCr2 (hd : 20 < d) (hX : vX τ kd mm kk) (hz : isZ (τ 46 1) (τ 47) l) (hl : l.length ≤ 16) (hdep : dep ≤ 14) (h : ∀ τ2, vfC τ τ2 → isZ (τ2 46 1) (τ2 47) (l ++ cLs kd 2) → K (some (.int (cVl kk mm kd 2 x))) τ2) : sk_C sk_Sc d mX0_from [.ref 46, .int (nI 2), .int (nI 2), .int x, .int (nI dep)] τ K := by
  refine cFr (a := -1) (b := 12) (by omega) (by omega) (by omega) (by omega) (by decide) (by decide) (pBeg (by omega) hz (by omega) (fun τ2 f2 z2 => ?_))
  have hl2 : (l ++ [12]).length = l.length + 1 := by rw [List.length_append]; rfl
  unfold SWb
  refine ⟨fun z => absurd z (by decide), fun z => absurd z (by decide), fun _ => (cOw (by omega) (hX.fr f2) (cRi (by omega) (hX.fr f2) z2 (by omega) (by omega) hX.1 (fun τ3 f3 z3 => ex_i (ex_i (ex_i ?_))))), fun z => absurd z (by decide), fun z => absurd z (by decide), fun z => absurd z (by decide), fun z => absurd z (by decide), fun z => absurd z (by decide), fun z => absurd z (by decide), fun z => absurd z (by decide), fun z => absurd z (by decide), fun z => absurd z (by decide), fun z => absurd z (by decide), fun z => absurd rfl (z.2.2.1)⟩
  rw [(hX.fr (f2.tr f3)).2.2.1]
  rw [List.append_assoc] at z3
  exact h τ3 (f2.tr f3) z3
theorem cCr5 (hd : 20 < d) (hX : vX τ kd mm kk) (hz : isZ (τ 46 1) (τ 47) l) (hl : l.length ≤ 16) (hdep : dep ≤ 14) (h : ∀ τ2, vfC τ τ2 → isZ (τ2 46 1) (τ2 47) (l ++ cLs kd 5) → K (some (.int (cVl kk mm kd 5 x))) τ2) : sk_C sk_Sc d mX0_from [.ref 46, .int (nI 5), .int (nI 2), .int x, .int (nI dep)] τ K := by
  refine cFr (a := -1) (b := 12) (by omega) (by omega) (by omega) (by omega) (by decide) (by decide) (pBeg (by omega) hz (by omega) (fun τ2 f2 z2 => ?_))
  have hl2 : (l ++ [12]).length = l.length + 1 := by rw [List.length_append]; rfl
  unfold SWb
  refine ⟨fun z => absurd z (by decide), fun z => absurd z (by decide), fun _ => (cOw (by omega) (hX.fr f2) (cRi (by omega) (hX.fr f2) z2 (by omega) (by omega) hX.1 (fun τ3 f3 z3 => ex_i (ex_i (ex_i ?_))))), fun z => absurd z (by decide), fun z => absurd z (by decide), fun z => absurd z (by decide), fun z => absurd z (by decide), fun z => absurd z (by decide), fun z => absurd z (by decide), fun z => absurd z (by decide), fun z => absurd z (by decide), fun z => absurd z (by decide), fun z => absurd z (by decide), fun z => absurd rfl (z.2.2.1)⟩
  rw [(hX.fr (f2.tr f3)).2.2.1]
  rw [List.append_assoc] at z3
  exact h τ3 (f2.tr f3) z3
theorem cCr6 (hd : 20 < d) (hX : vX τ kd mm kk) (hz : isZ (τ 46 1) (τ 47) l) (hl : l.length ≤ 16) (hdep : dep ≤ 14) (h : ∀ τ2, vfC τ τ2 → isZ (τ2 46 1) (τ2 47) (l ++ cLs kd 6) → K (some (.int (cVl kk mm kd 6 x))) τ2) : sk_C sk_Sc d mX0_from [.ref 46, .int (nI 6), .int (nI 2), .int x, .int (nI dep)] τ K := by
  refine cFr (a := -1) (b := 12) (by omega) (by omega) (by omega) (by omega) (by decide) (by decide) (pBeg (by omega) hz (by omega) (fun τ2 f2 z2 => ?_))
  have hl2 : (l ++ [12]).length = l.length + 1 := by rw [List.length_append]; rfl
  unfold SWb
  refine ⟨fun z => absurd z (by decide), fun z => absurd z (by decide), fun _ => (cOw (by omega) (hX.fr f2) (cRi (by omega) (hX.fr f2) z2 (by omega) (by omega) hX.1 (fun τ3 f3 z3 => ex_i (ex_i (ex_i ?_))))), fun z => absurd z (by decide), fun z => absurd z (by decide), fun z => absurd z (by decide), fun z => absurd z (by decide), fun z => absurd z (by decide), fun z => absurd z (by decide), fun z => absurd z (by decide), fun z => absurd z (by decide), fun z => absurd z (by decide), fun z => absurd z (by decide), fun z => absurd rfl (z.2.2.1)⟩
  rw [(hX.fr (f2.tr f3)).2.2.1]
  rw [List.append_assoc] at z3
  exact h τ3 (f2.tr f3) z3
theorem cCr3 (hd : 22 < d) (hX : vX τ kd mm kk) (hz : isZ (τ 46 1) (τ 47) l) (hl : l.length ≤ 15) (hdep : dep ≤ 13) (h : ∀ τ2, vfC τ τ2 → isZ (τ2 46 1) (τ2 47) (l ++ cLs kd 3) → K (some (.int (cVl kk mm kd 3 x))) τ2) : sk_C sk_Sc d mX0_from [.ref 46, .int (nI 3), .int (nI 2), .int x, .int (nI dep)] τ K := by
  refine cFr (a := nI 0) (b := 40) (by omega) (by omega) (by omega) (by omega) (by decide) (by decide) (pBeg (by omega) hz (by omega) (fun τ2 f2 z2 => ?_))
  have hl2 : (l ++ [40]).length = l.length + 1 := by rw [List.length_append]; rfl
  unfold SWb
  refine ⟨fun z => absurd z (by decide), fun z => absurd z (by decide), fun z => absurd z (by decide), fun z => absurd z (by decide), fun z => absurd z (by decide), fun z => absurd z (by decide), fun z => absurd z (by decide), fun _ => (cCr0 (by omega) (hX.fr f2) z2 (by omega) (by omega) (fun τ3 f3 z3 => ex_i (ex_i ?_))), fun z => absurd z (by decide), fun z => absurd z (by decide), fun z => absurd z (by decide), fun z => absurd z (by decide), fun z => absurd z (by decide), fun z => absurd rfl (z.2.2.2.2.2.2.2.1)⟩
  rw [List.append_assoc] at z3
  exact h τ3 (f2.tr f3) z3
theorem cCr4 (hd : 22 < d) (hX : vX τ kd mm kk) (hz : isZ (τ 46 1) (τ 47) l) (hl : l.length ≤ 15) (hdep : dep ≤ 13) (h : ∀ τ2, vfC τ τ2 → isZ (τ2 46 1) (τ2 47) (l ++ cLs kd 4) → K (some (.int (cVl kk mm kd 4 x))) τ2) : sk_C sk_Sc d mX0_from [.ref 46, .int (nI 4), .int (nI 2), .int x, .int (nI dep)] τ K := by
  refine cFr (a := nI 1) (b := 51) (by omega) (by omega) (by omega) (by omega) (by decide) (by decide) (pBeg (by omega) hz (by omega) (fun τ2 f2 z2 => ?_))
  have hl2 : (l ++ [51]).length = l.length + 1 := by rw [List.length_append]; rfl
  unfold SWb
  refine ⟨fun z => absurd z (by decide), fun z => absurd z (by decide), fun z => absurd z (by decide), fun z => absurd z (by decide), fun z => absurd z (by decide), fun z => absurd z (by decide), fun z => absurd z (by decide), fun z => absurd z (by decide), fun z => absurd z (by decide), fun _ => (cCr1 (by omega) (hX.fr f2) z2 (by omega) (by omega) (fun τ3 f3 z3 => ex_i (ex_i ?_))), fun z => absurd z (by decide), fun z => absurd z (by decide), fun z => absurd z (by decide), fun z => absurd rfl (z.2.2.2.2.2.2.2.2.2.1)⟩
  rw [(hX.fr (f2.tr f3)).2.2.2]
  rw [List.append_assoc] at z3
  exact h τ3 (f2.tr f3) z3
theorem cCr (hd : 22 < d) (hX : vX τ kd mm kk) (hz : isZ (τ 46 1) (τ 47) l) (hl : l.length ≤ 15) (hdep : dep ≤ 13) {c : Nat} (hc : c ≤ 6) (h : ∀ τ2, vfC τ τ2 → isZ (τ2 46 1) (τ2 47) (l ++ cLs kd c) → K (some (.int (cVl kk mm kd c x))) τ2) : sk_C sk_Sc d mX0_from [.ref 46, .int (nI c), .int (nI 2), .int x, .int (nI dep)] τ K := by
  match c, hc, h with
  | 0, _, h => exact cCr0 (by omega) hX hz (by omega) (by omega) h
  | 1, _, h => exact cCr1 (by omega) hX hz (by omega) (by omega) h
  | 2, _, h => exact cCr2 (by omega) hX hz (by omega) (by omega) h
  | 3, _, h => exact cCr3 (by omega) hX hz (by omega) (by omega) h
  | 4, _, h => exact cCr4 (by omega) hX hz (by omega) (by omega) h
  | 5, _, h => exact cCr5 (by omega) hX hz (by omega) (by omega) h
  | 6, _, h => exact cCr6 (by omega) hX hz (by omega) (by omega) h
theorem cPa0 (hd : 6 < d) (hX : vX τ kd mm kk) (hz : isZ (τ 46 1) (τ 47) l) (hl : l.length ≤ 20) (hdep : dep ≤ 20) (h : ∀ τ2, vfD τ τ2 → isZ (τ2 46 1) (τ2 47) (l ++ [13]) → τ2 46 2 = pPt kk mm → K (some (.int (pQ kk mm x))) τ2) : sk_C sk_Sc d mX0_from [.ref 46, .int (nI 0), .int (nI 3), .int x, .int (nI dep)] τ K := by
  refine cFr (a := -1) (b := 13) (by omega) (by omega) (by omega) (by omega) (by decide) (by decide) (pBeg (by omega) hz (by omega) (fun τ2 f2 z2 => ?_))
  have hl2 : (l ++ [13]).length = l.length + 1 := by rw [List.length_append]; rfl
  unfold SWb
  refine ⟨fun z => absurd z (by decide), fun z => absurd z (by decide), fun z => absurd z (by decide), fun _ => (wX0_shared ?_), fun z => absurd z (by decide), fun z => absurd z (by decide), fun z => absurd z (by decide), fun z => absurd z (by decide), fun z => absurd z (by decide), fun z => absurd z (by decide), fun z => absurd z (by decide), fun z => absurd z (by decide), fun z => absurd z (by decide), fun z => absurd rfl (z.2.2.2.1)⟩
  rw [(hX.fr f2).2.2.1, (hX.fr f2).2.2.2]
  have fin : ∀ v, vfD τ (sk_u τ2 46 2 v) := fun v => ⟨fun q h0 h8 => (su_c h0).trans (f2.1 q h0 h8), fun j hj h5 => (su_n h5).trans (f2.2 j hj)⟩
  have zin : ∀ v, isZ (sk_u τ2 46 2 v 46 1) (sk_u τ2 46 2 v 47) (l ++ [13]) := fun v => by rw [su_n (by omega), su_c (by omega)]; exact z2
  unfold pQ pPt at h
  by_cases e : mm - kk = 0
  · rw [if_pos e, if_pos e] at h
    exact ns_f e (ns_f e (ex_i (ex_i (h _ (fin 1) (zin 1) su_e))))
  · rw [if_neg e, if_neg e] at h
    exact ns_t e (ns_t e ⟨e, ex_i (ex_i (h _ (fin 0) (zin 0) su_e))⟩)
theorem cPa2 (hd : 6 < d) (hX : vX τ kd mm kk) (hz : isZ (τ 46 1) (τ 47) l) (hl : l.length ≤ 20) (hdep : dep ≤ 20) (h : ∀ τ2, vfD τ τ2 → isZ (τ2 46 1) (τ2 47) (l ++ [13]) → τ2 46 2 = pPt kk mm → K (some (.int (pQ kk mm x))) τ2) : sk_C sk_Sc d mX0_from [.ref 46, .int (nI 2), .int (nI 3), .int x, .int (nI dep)] τ K := by
  refine cFr (a := -1) (b := 13) (by omega) (by omega) (by omega) (by omega) (by decide) (by decide) (pBeg (by omega) hz (by omega) (fun τ2 f2 z2 => ?_))
  have hl2 : (l ++ [13]).length = l.length + 1 := by rw [List.length_append]; rfl
  unfold SWb
  refine ⟨fun z => absurd z (by decide), fun z => absurd z (by decide), fun z => absurd z (by decide), fun _ => (wX0_shared ?_), fun z => absurd z (by decide), fun z => absurd z (by decide), fun z => absurd z (by decide), fun z => absurd z (by decide), fun z => absurd z (by decide), fun z => absurd z (by decide), fun z => absurd z (by decide), fun z => absurd z (by decide), fun z => absurd z (by decide), fun z => absurd rfl (z.2.2.2.1)⟩
  rw [(hX.fr f2).2.2.1, (hX.fr f2).2.2.2]
  have fin : ∀ v, vfD τ (sk_u τ2 46 2 v) := fun v => ⟨fun q h0 h8 => (su_c h0).trans (f2.1 q h0 h8), fun j hj h5 => (su_n h5).trans (f2.2 j hj)⟩
  have zin : ∀ v, isZ (sk_u τ2 46 2 v 46 1) (sk_u τ2 46 2 v 47) (l ++ [13]) := fun v => by rw [su_n (by omega), su_c (by omega)]; exact z2
  unfold pQ pPt at h
  by_cases e : mm - kk = 0
  · rw [if_pos e, if_pos e] at h
    exact ns_f e (ns_f e (ex_i (ex_i (h _ (fin 1) (zin 1) su_e))))
  · rw [if_neg e, if_neg e] at h
    exact ns_t e (ns_t e ⟨e, ex_i (ex_i (h _ (fin 0) (zin 0) su_e))⟩)
theorem cPa3 (hd : 6 < d) (hX : vX τ kd mm kk) (hz : isZ (τ 46 1) (τ 47) l) (hl : l.length ≤ 20) (hdep : dep ≤ 20) (h : ∀ τ2, vfD τ τ2 → isZ (τ2 46 1) (τ2 47) (l ++ [13]) → τ2 46 2 = pPt kk mm → K (some (.int (pQ kk mm x))) τ2) : sk_C sk_Sc d mX0_from [.ref 46, .int (nI 3), .int (nI 3), .int x, .int (nI dep)] τ K := by
  refine cFr (a := -1) (b := 13) (by omega) (by omega) (by omega) (by omega) (by decide) (by decide) (pBeg (by omega) hz (by omega) (fun τ2 f2 z2 => ?_))
  have hl2 : (l ++ [13]).length = l.length + 1 := by rw [List.length_append]; rfl
  unfold SWb
  refine ⟨fun z => absurd z (by decide), fun z => absurd z (by decide), fun z => absurd z (by decide), fun _ => (wX0_shared ?_), fun z => absurd z (by decide), fun z => absurd z (by decide), fun z => absurd z (by decide), fun z => absurd z (by decide), fun z => absurd z (by decide), fun z => absurd z (by decide), fun z => absurd z (by decide), fun z => absurd z (by decide), fun z => absurd z (by decide), fun z => absurd rfl (z.2.2.2.1)⟩
  rw [(hX.fr f2).2.2.1, (hX.fr f2).2.2.2]
  have fin : ∀ v, vfD τ (sk_u τ2 46 2 v) := fun v => ⟨fun q h0 h8 => (su_c h0).trans (f2.1 q h0 h8), fun j hj h5 => (su_n h5).trans (f2.2 j hj)⟩
  have zin : ∀ v, isZ (sk_u τ2 46 2 v 46 1) (sk_u τ2 46 2 v 47) (l ++ [13]) := fun v => by rw [su_n (by omega), su_c (by omega)]; exact z2
  unfold pQ pPt at h
  by_cases e : mm - kk = 0
  · rw [if_pos e, if_pos e] at h
    exact ns_f e (ns_f e (ex_i (ex_i (h _ (fin 1) (zin 1) su_e))))
  · rw [if_neg e, if_neg e] at h
    exact ns_t e (ns_t e ⟨e, ex_i (ex_i (h _ (fin 0) (zin 0) su_e))⟩)
theorem cPa5 (hd : 6 < d) (hX : vX τ kd mm kk) (hz : isZ (τ 46 1) (τ 47) l) (hl : l.length ≤ 20) (hdep : dep ≤ 20) (h : ∀ τ2, vfD τ τ2 → isZ (τ2 46 1) (τ2 47) (l ++ [13]) → τ2 46 2 = pPt kk mm → K (some (.int (pQ kk mm x))) τ2) : sk_C sk_Sc d mX0_from [.ref 46, .int (nI 5), .int (nI 3), .int x, .int (nI dep)] τ K := by
  refine cFr (a := -1) (b := 13) (by omega) (by omega) (by omega) (by omega) (by decide) (by decide) (pBeg (by omega) hz (by omega) (fun τ2 f2 z2 => ?_))
  have hl2 : (l ++ [13]).length = l.length + 1 := by rw [List.length_append]; rfl
  unfold SWb
  refine ⟨fun z => absurd z (by decide), fun z => absurd z (by decide), fun z => absurd z (by decide), fun _ => (wX0_shared ?_), fun z => absurd z (by decide), fun z => absurd z (by decide), fun z => absurd z (by decide), fun z => absurd z (by decide), fun z => absurd z (by decide), fun z => absurd z (by decide), fun z => absurd z (by decide), fun z => absurd z (by decide), fun z => absurd z (by decide), fun z => absurd rfl (z.2.2.2.1)⟩
  rw [(hX.fr f2).2.2.1, (hX.fr f2).2.2.2]
  have fin : ∀ v, vfD τ (sk_u τ2 46 2 v) := fun v => ⟨fun q h0 h8 => (su_c h0).trans (f2.1 q h0 h8), fun j hj h5 => (su_n h5).trans (f2.2 j hj)⟩
  have zin : ∀ v, isZ (sk_u τ2 46 2 v 46 1) (sk_u τ2 46 2 v 47) (l ++ [13]) := fun v => by rw [su_n (by omega), su_c (by omega)]; exact z2
  unfold pQ pPt at h
  by_cases e : mm - kk = 0
  · rw [if_pos e, if_pos e] at h
    exact ns_f e (ns_f e (ex_i (ex_i (h _ (fin 1) (zin 1) su_e))))
  · rw [if_neg e, if_neg e] at h
    exact ns_t e (ns_t e ⟨e, ex_i (ex_i (h _ (fin 0) (zin 0) su_e))⟩)
theorem cPa6 (hd : 6 < d) (hX : vX τ kd mm kk) (hz : isZ (τ 46 1) (τ 47) l) (hl : l.length ≤ 20) (hdep : dep ≤ 20) (h : ∀ τ2, vfD τ τ2 → isZ (τ2 46 1) (τ2 47) (l ++ [13]) → τ2 46 2 = pPt kk mm → K (some (.int (pQ kk mm x))) τ2) : sk_C sk_Sc d mX0_from [.ref 46, .int (nI 6), .int (nI 3), .int x, .int (nI dep)] τ K := by
  refine cFr (a := -1) (b := 13) (by omega) (by omega) (by omega) (by omega) (by decide) (by decide) (pBeg (by omega) hz (by omega) (fun τ2 f2 z2 => ?_))
  have hl2 : (l ++ [13]).length = l.length + 1 := by rw [List.length_append]; rfl
  unfold SWb
  refine ⟨fun z => absurd z (by decide), fun z => absurd z (by decide), fun z => absurd z (by decide), fun _ => (wX0_shared ?_), fun z => absurd z (by decide), fun z => absurd z (by decide), fun z => absurd z (by decide), fun z => absurd z (by decide), fun z => absurd z (by decide), fun z => absurd z (by decide), fun z => absurd z (by decide), fun z => absurd z (by decide), fun z => absurd z (by decide), fun z => absurd rfl (z.2.2.2.1)⟩
  rw [(hX.fr f2).2.2.1, (hX.fr f2).2.2.2]
  have fin : ∀ v, vfD τ (sk_u τ2 46 2 v) := fun v => ⟨fun q h0 h8 => (su_c h0).trans (f2.1 q h0 h8), fun j hj h5 => (su_n h5).trans (f2.2 j hj)⟩
  have zin : ∀ v, isZ (sk_u τ2 46 2 v 46 1) (sk_u τ2 46 2 v 47) (l ++ [13]) := fun v => by rw [su_n (by omega), su_c (by omega)]; exact z2
  unfold pQ pPt at h
  by_cases e : mm - kk = 0
  · rw [if_pos e, if_pos e] at h
    exact ns_f e (ns_f e (ex_i (ex_i (h _ (fin 1) (zin 1) su_e))))
  · rw [if_neg e, if_neg e] at h
    exact ns_t e (ns_t e ⟨e, ex_i (ex_i (h _ (fin 0) (zin 0) su_e))⟩)
theorem cPa1 (hd : 22 < d) (hX : vX τ kd mm kk) (hz : isZ (τ 46 1) (τ 47) l) (hl : l.length ≤ 12) (hdep : dep ≤ 10) (h : ∀ τ2, vfD τ τ2 → isZ (τ2 46 1) (τ2 47) (l ++ pL1 kk mm kd) → τ2 46 2 = pPt kk mm → K (some (.int (pV1 kk mm kd x))) τ2) : sk_C sk_Sc d mX0_from [.ref 46, .int (nI 1), .int (nI 3), .int x, .int (nI dep)] τ K := by
  refine cFr (a := nI 0) (b := 21) (by omega) (by omega) (by omega) (by omega) (by decide) (by decide) (pBeg (by omega) hz (by omega) (fun τ2 f2 z2 => ?_))
  have hl2 : (l ++ [21]).length = l.length + 1 := by rw [List.length_append]; rfl
  unfold SWb
  refine ⟨fun z => absurd z (by decide), fun z => absurd z (by decide), fun z => absurd z (by decide), fun z => absurd z (by decide), fun z => absurd z (by decide), fun _ => (wX0_partsAndRings (by omega) (cPa0 (by omega) (hX.fr f2) z2 (by omega) (by omega) (fun τ3 f3 z3 p3 => ex_i ?_))), fun z => absurd z (by decide), fun z => absurd z (by decide), fun z => absurd z (by decide), fun z => absurd z (by decide), fun z => absurd z (by decide), fun z => absurd z (by decide), fun z => absurd z (by decide), fun z => absurd rfl (z.2.2.2.2.2.1)⟩
  rw [List.append_assoc] at z3
  unfold pL1 pV1 at h
  rw [p3]
  unfold pPt at p3 ⊢
  have f23 := f2.q.tr f3
  by_cases e : mm - kk = 0
  · rw [if_pos e] at p3 ⊢
    rw [if_pos e, if_pos e] at h
    exact br_f (by decide) (ex_i (ex_i (h τ3 f23 z3 (by unfold pPt; rw [if_pos e]; exact p3))))
  · rw [if_neg e] at p3 ⊢
    rw [if_neg e, if_neg e] at h
    have hl3 : (l ++ ([21] ++ [13])).length = l.length + 2 := by rw [List.length_append]; rfl
    refine br_t (by decide) (cOw (by omega) (hX.fd f23) (cRi (by omega) (hX.fd f23) z3 (by omega) (by omega) hX.1 (fun τ4 f4 z4 => ex_i (ex_i (ex_i (ex_i ?_))))))
    rw [List.append_assoc] at z4
    exact h τ4 (f23.tr f4.q) z4 (by unfold pPt; rw [if_neg e, f4.2 2 (by omega)]; exact p3)
theorem cPa4 (hd : 22 < d) (hX : vX τ kd mm kk) (hz : isZ (τ 46 1) (τ 47) l) (hl : l.length ≤ 12) (hdep : dep ≤ 10) (h : ∀ τ2, vfD τ τ2 → isZ (τ2 46 1) (τ2 47) (l ++ pL1 kk mm kd) → τ2 46 2 = pPt kk mm → K (some (.int (pV1 kk mm kd x))) τ2) : sk_C sk_Sc d mX0_from [.ref 46, .int (nI 4), .int (nI 3), .int x, .int (nI dep)] τ K := by
  refine cFr (a := nI 0) (b := 21) (by omega) (by omega) (by omega) (by omega) (by decide) (by decide) (pBeg (by omega) hz (by omega) (fun τ2 f2 z2 => ?_))
  have hl2 : (l ++ [21]).length = l.length + 1 := by rw [List.length_append]; rfl
  unfold SWb
  refine ⟨fun z => absurd z (by decide), fun z => absurd z (by decide), fun z => absurd z (by decide), fun z => absurd z (by decide), fun z => absurd z (by decide), fun _ => (wX0_partsAndRings (by omega) (cPa0 (by omega) (hX.fr f2) z2 (by omega) (by omega) (fun τ3 f3 z3 p3 => ex_i ?_))), fun z => absurd z (by decide), fun z => absurd z (by decide), fun z => absurd z (by decide), fun z => absurd z (by decide), fun z => absurd z (by decide), fun z => absurd z (by decide), fun z => absurd z (by decide), fun z => absurd rfl (z.2.2.2.2.2.1)⟩
  rw [List.append_assoc] at z3
  unfold pL1 pV1 at h
  rw [p3]
  unfold pPt at p3 ⊢
  have f23 := f2.q.tr f3
  by_cases e : mm - kk = 0
  · rw [if_pos e] at p3 ⊢
    rw [if_pos e, if_pos e] at h
    exact br_f (by decide) (ex_i (ex_i (h τ3 f23 z3 (by unfold pPt; rw [if_pos e]; exact p3))))
  · rw [if_neg e] at p3 ⊢
    rw [if_neg e, if_neg e] at h
    have hl3 : (l ++ ([21] ++ [13])).length = l.length + 2 := by rw [List.length_append]; rfl
    refine br_t (by decide) (cOw (by omega) (hX.fd f23) (cRi (by omega) (hX.fd f23) z3 (by omega) (by omega) hX.1 (fun τ4 f4 z4 => ex_i (ex_i (ex_i (ex_i ?_))))))
    rw [List.append_assoc] at z4
    exact h τ4 (f23.tr f4.q) z4 (by unfold pPt; rw [if_neg e, f4.2 2 (by omega)]; exact p3)
theorem cPa (hd : 22 < d) (hX : vX τ kd mm kk) (hz : isZ (τ 46 1) (τ 47) l) (hl : l.length ≤ 12) (hdep : dep ≤ 10) {c : Nat} (hc : c ≤ 6) (h : ∀ τ2, vfD τ τ2 → isZ (τ2 46 1) (τ2 47) (l ++ pLs kk mm kd c) → τ2 46 2 = pPt kk mm → K (some (.int (pVl kk mm kd c x))) τ2) : sk_C sk_Sc d mX0_from [.ref 46, .int (nI c), .int (nI 3), .int x, .int (nI dep)] τ K := by
  match c, hc, h with
  | 0, _, h => exact cPa0 (by omega) hX hz (by omega) (by omega) h
  | 1, _, h => exact cPa1 (by omega) hX hz (by omega) (by omega) h
  | 2, _, h => exact cPa2 (by omega) hX hz (by omega) (by omega) h
  | 3, _, h => exact cPa3 (by omega) hX hz (by omega) (by omega) h
  | 4, _, h => exact cPa4 (by omega) hX hz (by omega) (by omega) h
  | 5, _, h => exact cPa5 (by omega) hX hz (by omega) (by omega) h
  | 6, _, h => exact cPa6 (by omega) hX hz (by omega) (by omega) h
end
