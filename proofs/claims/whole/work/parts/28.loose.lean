/-! ===== a year by draws ===== -/
def zN (z : Int32) : Int32 := z * 1103515245 + 12345
theorem ush_n (x : Int32) : ∃ j, j < 16777216 ∧ sk_ush x 8 = nI j := by
  refine ⟨x.toUInt32.toNat / 256, ?_, ?_⟩
  · have := x.toUInt32.toNat_lt
    omega
  · unfold sk_ush
    rw [show (8 : Int32).toUInt32 &&& Int32.toUInt32 31 = 8 from by decide]
    apply Int32.toBitVec_inj.mp
    apply BitVec.eq_of_toNat_eq
    show (x.toUInt32 >>> 8).toNat = (BitVec.ofNat 32 (x.toUInt32.toNat / 256)).toNat
    rw [UInt32.toNat_shiftRight, BitVec.toNat_ofNat]
    show x.toUInt32.toNat >>> 8 = _
    have h := x.toUInt32.toNat_lt
    rw [Nat.shiftRight_eq_div_pow, Nat.mod_eq_of_lt (show x.toUInt32.toNat / 256 < 2 ^ 32 by omega)]
theorem RN.take {τ : sk_T} {s : Nat → Int32} {n : Nat} {l0 l1 : Option (List Tk)} {L : Nat → Bool} (h : RN τ s n l0 l1) : ∀ m, m ≤ n → RN (takeT τ L m) (liftS s L m) n l0 l1
  | 0, _ => h
  | m + 1, hm => by
    have ih := RN.take (L := L) h m (by omega)
    have hn := h.1.1
    unfold takeT liftS
    by_cases hL : L m = true
    · rw [if_pos hL, if_pos hL]
      refine ih.tile (i := m) (by omega) (fun c hc => su_c hc) (fun j hj => upd_n (by omega)) (fun j hj => ?_) ?_
      · by_cases e : j = 6
        · subst e; rw [su_e]; exact upd_s.symm
        · rw [su_n e, ih.t.t0 (show m < n by omega) j hj]
          exact (upd_n (show 8 + 7 * m + j ≠ 8 + 7 * m + 6 by omega)).symm
      · have hk := ih.t.ok (show m < n by omega)
        have eo : ∀ j, j < 6 → fl (upd (liftS s L m) (8 + 7 * m + 6) (-1)) m j = fl (liftS s L m) m j := fun j hj => upd_n (by omega)
        have e6 : fl (upd (liftS s L m) (8 + 7 * m + 6) (-1)) m 6 = -1 := upd_s
        unfold tl_ok at hk ⊢
        rw [eo 0 (by omega), eo 1 (by omega), eo 2 (by omega), eo 3 (by omega), eo 4 (by omega), eo 5 (by omega), e6]
        exact ⟨hk.1, hk.2.1, hk.2.2.1, hk.2.2.2.1, hk.2.2.2.2.1, hk.2.2.2.2.2.1, Or.inl rfl⟩
    · rw [if_neg hL, if_neg hL]
      exact ih
theorem take_fr {τ : sk_T} {L : Nat → Bool} {n : Nat} (hn : n ≤ 10) : frC τ (takeT τ L n) := fun c hc => takeT_o n (fun k hk => by omega)
/-- a slate laid at a cell -/
theorem RN.lay {τ : sk_T} {s : Nat → Int32} {n k c : Nat} {l0 l1 : Option (List Tk)} (h : RN τ s n l0 l1) (hk : k < n) (hc : c < 48) : RN (sk_u τ (3 + k) 6 (nI c)) (mvT s k (nI c)) n l0 l1 := by
  have hn := h.1.1
  refine h.tile hk (fun q hq => su_c hq) (fun j hj => upd_n (by omega)) (fun j hj => ?_) ((mv_ok hc h.s).2.2 k hk)
  by_cases e : j = 6
  · subst e; rw [su_e]; exact mv_s.symm
  · rw [su_n e, h.t.t0 hk j hj]
    exact (mv_j hj (Or.inr e)).symm
/-! what a year by draws makes of the row -/
def dw1 (s : Nat → Int32) : Nat → Int32 := upd s 3 (zN (s 3))
def dwV (s : Nat → Int32) : Int32 := sk_ush (zN (s 3)) 8
/-- after the gale -/
def loG (s : Nat → Int32) (n : Nat) (l0 : Option (List Tk)) : Nat → Int32 := liftS (dw1 s) (LB (dw1 s) n (wkH (dw1 s) l0 (dwV s % 40)) 6) n
def loV (s : Nat → Int32) (n : Nat) (l0 : Option (List Tk)) : Int32 := pLift (dw1 s) n (wkH (dw1 s) l0 (dwV s % 40))
/-- after the laying -/
def loL (s : Nat → Int32) (n : Nat) : Nat → Int32 :=
  if n = 0 then s else
    let k := (dwV s % nI n).toNatClampNeg
    let c := dwV (dw1 s) % 48
    let s2 := dw1 (dw1 s)
    if fl s k 6 = -1 ∧ mayF s2 n k c = true then mvT s2 k c else s2
def loS (s : Nat → Int32) (n : Nat) (l0 l1 : Option (List Tk)) : Nat → Int32 := yrS (loL (loG s n l0) n) n l1
theorem dw_0 {s : Nat → Int32} : dw1 s 0 = s 0 := upd_n (by omega)
theorem dw_2 {s : Nat → Int32} : dw1 s 2 = s 2 := upd_n (by omega)
theorem dw_fl {s : Nat → Int32} {k j : Nat} : fl (dw1 s) k j = fl s k j := upd_n (by omega)
theorem dw_mod (s : Nat → Int32) {m : Nat} (h0 : 0 < m) (hm : m < 2 ^ 31) : ∃ k, k < m ∧ dwV s % nI m = nI k := by
  obtain ⟨j, hj, e⟩ := ush_n (zN (s 3))
  refine ⟨j % m, Nat.mod_lt _ h0, ?_⟩
  unfold dwV
  rw [e, nI_mod (by omega) h0 hm]
theorem loL_0 {s : Nat → Int32} {n : Nat} : loL s n 0 = s 0 := by
  unfold loL
  split
  · rfl
  · dsimp only
    split
    · rw [mv_lo (by omega), dw_0, dw_0]
    · rw [dw_0, dw_0]
theorem loG_lo {s : Nat → Int32} {n j : Nat} {l0 : Option (List Tk)} (h : j < 8) : loG s n l0 j = dw1 s j := liftS_o n (fun k _ => by omega)
section
variable {d : Nat} {τ σ : sk_T} {K : sk_K} {s : Nat → Int32} {n y : Nat} {l0 l1 : Option (List Tk)}
theorem pX3_draw (hR : RN τ s n l0 l1) (h : ∀ τ2, frC τ τ2 → RN τ2 (dw1 s) n l0 l1 → K (some (.int (dwV s))) τ2) : sk_C sk_Sc d mX3_draw [.ref 1] τ K := by
  refine wX3_draw ?_
  have e : τ 1 5 = s 3 := hR.1.2.2.2.2.2.2.2
  rw [su_e, e]
  exact h _ (frC.u (by omega)) hR.seed
theorem pX3_yearByDraws (hd : 6 < d) (hR : RN τ s n l0 l1) (hy : s 0 = nI y) (hy9 : y < 9999) (h : ∀ τ2, frC τ τ2 → RN τ2 (loS s n l0 l1) n l0 l1 → K (some (.int (loV s n l0))) τ2) : sk_C sk_Sc d mX3_yearByDraws [.ref 1] τ K := by
  have hn := hR.1.1
  refine wX3_yearByDraws (by omega) (pX3_draw hR (fun τ2 f2 R2 => ex_i (pX3_blown (by omega) R2.g (fun τ3 f3 => ex_i ?_))))
  have R3 := R2.sc f3
  refine pX3_takeOff hn R3.t.n0 (pLift_is hn) ⟨rfl, ?_⟩
  have R4 := RN.take (L := LB (dw1 s) n (wkH (dw1 s) l0 (dwV s % 40)) 6) R3 n (Nat.le_refl _)
  have f4 : frC τ (takeT τ3 (LB (dw1 s) n (wkH (dw1 s) l0 (dwV s % 40)) 6) n) := (f2.tr f3.fr).tr (take_fr hn)
  revert R4 f4
  generalize takeT τ3 (LB (dw1 s) n (wkH (dw1 s) l0 (dwV s % 40)) 6) n = τ4
  intro R4 f4
  have R4 : RN τ4 (loG s n l0) n l0 l1 := R4
  have y4 : loG s n l0 0 = nI y := by rw [loG_lo (by omega), dw_0]; exact hy
  have fin : ∀ τ5, frC τ τ5 → RN τ5 (loL (loG s n l0) n) n l0 l1 → sk_C sk_Sc (d - 1) mX3_passYear [.ref 1] τ5 (fun w t74 => w = none ∧ K (some (.int (loV s n l0))) t74) := fun τ5 f5 R5 =>
    pX3_passYear (by omega) R5 (by rw [loL_0]; exact y4) hy9 (fun τ6 f6 R6 => ⟨rfl, h τ6 (f5.tr f6) R6⟩)
  refine ⟨fun e => fin τ4 f4 ?_, fun e => ?_⟩
  · have : n = 0 := by
      rw [R4.t.n0] at e
      by_cases z : n = 0
      · exact z
      · exact absurd e (nI_nle (by omega) (by omega))
    unfold loL
    rw [if_pos this]; exact R4
  · have hn0 : n ≠ 0 := by
      rintro rfl
      rw [R4.t.n0] at e
      exact e (by decide)
    refine pX3_draw R4 (fun τ5 f5 R5 => ex_i ⟨?_, pX3_draw R5 (fun τ6 f6 R6 => ex_i ?_)⟩)
    · rw [R5.t.n0]
      exact fun z => hn0 ((nI_iff (b := 0) (by omega) (by omega)).mp z)
    obtain ⟨k, hk, ek⟩ := dw_mod (loG s n l0) (m := n) (by omega) (by omega)
    obtain ⟨c, hc, ec⟩ := dw_mod (dw1 (loG s n l0)) (m := 48) (by omega) (by omega)
    have ec : dwV (dw1 (loG s n l0)) % 48 = nI c := ec
    have R7 := fin τ6 ((f4.tr f5).tr f6)
    unfold loL at R7
    rw [if_neg hn0] at R7
    dsimp only at R7
    rw [ek, ec, nI_clamp (show k < 2 ^ 31 by omega)] at R7
    rw [R5.t.n0, ek, ec, nI_clamp (show k < 2 ^ 31 by omega)]
    have vk := vp_in_nI (show k < 10 by omega) (by omega)
    have e6 : fl (dw1 (dw1 (loG s n l0))) k 6 = fl (loG s n l0) k 6 := by rw [dw_fl, dw_fl]
    refine ⟨vk, pX5_isLaid (sk_tileF k (by omega)) (R6.t.t0 hk) (R6.t.ok hk) (fun c2 hc2 e2 => ex_i (ns_t i1_0 ?_)) (fun e2 => ex_i (ns_f rfl (pX3_mayLie hk hc R6.t (by omega) (ex_i ?_))))⟩
    · rw [if_neg (fun z => absurd (e2.symm.trans (e6.trans z.1)) (nI_nm1 (by omega)))] at R7
      exact R7 R6
    · cases hm : mayF (dw1 (dw1 (loG s n l0))) n k (nI c) with
      | false =>
        rw [if_neg (fun z => absurd (hm.symm.trans z.2) Bool.false_ne_true)] at R7
        exact br_t rfl (R7 R6)
      | true =>
        have h8 := fin (sk_u τ6 (3 + k) 6 (nI c)) (((f4.tr f5).tr f6).tr (frC.u (by omega)))
        unfold loL at h8
        rw [if_neg hn0] at h8
        dsimp only at h8
        rw [ek, ec, nI_clamp (show k < 2 ^ 31 by omega), if_pos ⟨e6.symm.trans e2, hm⟩] at h8
        exact br_f i1_0 ⟨vk, h8 (R6.lay hk hc)⟩
end
/-! the reference's side -/
section
variable {d : Nat} {τ σ : sk_T} {K : sk_K} {s : Nat → Int32} {n y : Nat} {l0 l1 : Option (List Tk)}
theorem RLm.cg {s s2 : Nat → Int32} {u : Nat} {lw : Option (List Tk)} (h : RLm s u lw) (hu : u < 2) (hs : ∀ j, 78 ≤ j → s2 j = s j) : RLm s2 u lw := by
  unfold RLm at h ⊢
  rw [hs _ (by omega)]
  cases lw with
  | none => exact h
  | some L =>
    obtain ⟨a, b, c, e, f⟩ := h
    refine ⟨a, b, c, e, fun i t hi => ?_⟩
    rw [hs _ (by omega), hs _ (by omega)]
    exact f i t hi
theorem RS.cg {s s2 : Nat → Int32} {n : Nat} (h : RS s n) (hs : ∀ j, 6 ≤ j → s2 j = s j) : RS s2 n := by
  refine ⟨h.1, (hs 6 (by omega)).trans h.2.1, fun k hk => ?_⟩
  have e2 : ∀ j, fl s2 k j = fl s k j := fun j => hs _ (by omega)
  have := h.2.2 k hk
  unfold tl_ok at this ⊢
  rw [e2 0, e2 1, e2 2, e2 3, e2 4, e2 5, e2 6]
  exact this
theorem pX7_draw (h : K (some (.int (dwV (σ 1)))) (sk_w σ 1 (dw1 (σ 1)))) : sk_C sk_Sm d mX7_draw [.ref 0] σ K := by
  refine wX7_draw ?_
  rw [su_e]
  exact h
/-- what the reference's row must keep to -/
def RP (s : Nat → Int32) (n : Nat) (l0 l1 : Option (List Tk)) : Prop := RS s n ∧ RLm s 0 l0 ∧ RLm s 1 l1 ∧ (∃ y, y ≤ 9999 ∧ s 0 = nI y) ∧ ∃ b, b ≤ 99999 ∧ s 2 = nI b
theorem RN.p {τ : sk_T} {s : Nat → Int32} {n : Nat} {l0 l1 : Option (List Tk)} (h : RN τ s n l0 l1) : RP s n l0 l1 := by
  obtain ⟨y, a, b, -⟩ := h.1.2.2.2.1
  obtain ⟨t, c, e, -⟩ := h.1.2.2.2.2.2.2.1
  exact ⟨h.s, h.m0, h.m1, ⟨y, a, b⟩, t, c, e⟩
theorem RP.year (h : RP (σ 1) n l0 l1) (hy : σ 1 0 = nI y) (hy9 : y < 9999) (hd : 5 < d) (hK : ∀ σ2, frM σ σ2 → σ2 1 = yrS (σ 1) n l1 → K none σ2) : sk_C sk_Sm d mX7_aYear [.ref 0] σ K := by
  obtain ⟨hs, h0, h1, -, b, hb, eb⟩ := h
  exact pX7_aYear hd hs h1 hy hy9 hb eb hK
theorem frM.w {σ : sk_T} {f : Nat → Int32} : frM σ (sk_w σ 1 f) := fun _ h _ _ _ => sw_c h
theorem liftS_hi {s : Nat → Int32} {L : Nat → Bool} {n j : Nat} (hn : n ≤ 10) (h : j < 8 ∨ 78 ≤ j) : liftS s L n j = s j := liftS_o n (fun k _ => by omega)
theorem liftS_rs {s : Nat → Int32} {L : Nat → Bool} {n : Nat} (h : RS s n) : RS (liftS s L n) n := by
  refine ⟨h.1, (liftS_hi h.1 (by omega)).trans h.2.1, fun k hk => ?_⟩
  have := h.2.2 k hk
  unfold tl_ok at this ⊢
  rw [liftS_f hk (by omega), liftS_f hk (by omega), liftS_f hk (by omega), liftS_f hk (by omega), liftS_f hk (by omega), liftS_f hk (by omega), liftS_f hk (by omega)]
  refine ⟨this.1, this.2.1, this.2.2.1, this.2.2.2.1, this.2.2.2.2.1, this.2.2.2.2.2.1, ?_⟩
  split
  · exact Or.inl rfl
  · exact this.2.2.2.2.2.2
theorem RP.cg1 {s s2 : Nat → Int32} {n : Nat} {l0 l1 : Option (List Tk)} (h : RP s n l0 l1) (hn : n ≤ 10) (hs : RS s2 n) (h0 : s2 0 = s 0) (h2 : s2 2 = s 2) (h7 : ∀ j, 78 ≤ j → s2 j = s j) : RP s2 n l0 l1 := by
  refine ⟨hs, h.2.1.cg (by omega) h7, h.2.2.1.cg (by omega) h7, ?_, ?_⟩
  · rw [h0]; exact h.2.2.2.1
  · rw [h2]; exact h.2.2.2.2
theorem RP.dw {s : Nat → Int32} {n : Nat} {l0 l1 : Option (List Tk)} (h : RP s n l0 l1) : RP (dw1 s) n l0 l1 := h.cg1 h.1.1 (h.1.cg (fun j hj => upd_n (by omega))) dw_0 dw_2 (fun j hj => upd_n (by omega))
theorem RP.loG {s : Nat → Int32} {n : Nat} {l0 l1 : Option (List Tk)} (h : RP s n l0 l1) : RP (loG s n l0) n l0 l1 :=
  have h2 := h.dw
  h2.cg1 h.1.1 (liftS_rs h2.1) (liftS_hi h.1.1 (by omega)) (liftS_hi h.1.1 (by omega)) (fun j hj => liftS_hi h.1.1 (by omega))
theorem RP.mv {s : Nat → Int32} {n k c : Nat} {l0 l1 : Option (List Tk)} (h : RP s n l0 l1) (hk : k < n) (hc : c < 48) : RP (mvT s k (nI c)) n l0 l1 :=
  have hn := h.1.1
  h.cg1 h.1.1 (mv_ok hc h.1) (mv_lo (by omega)) (mv_lo (by omega)) (fun j hj => upd_n (by omega))
theorem pX7_loose {v1 v3 v4 : Int32} (hd : 7 < d) (hP : RP (σ 1) n l0 l1) (hy : σ 1 0 = nI y) (hy9 : y < 9999) (hv : ¬ v1 ≤ v4) (h : ∀ σ2, frM σ σ2 → σ2 1 = loS (σ 1) n l0 l1 → sk_G sk_Sm d mX7_loose 23 [(0, .ref 0), (1, .int v1), (3, .int (v3 ||| loV (σ 1) n l0)), (4, .int (v4 + 1))] [] σ2 K) :
    sk_G sk_Sm d mX7_loose 23 [(0, .ref 0), (1, .int v1), (3, .int v3), (4, .int v4)] [] σ K := by
  have hn := hP.1.1
  refine bX7_loose_23 (by omega) (br_f hv (pX7_draw (ex_i ?_)))
  have w1 : sk_w σ 1 (dw1 (σ 1)) 1 = dw1 (σ 1) := sw_s
  refine pX7_galeNow (n := n) (lw := l0) (by omega) (by rw [w1]; exact hP.dw.1) (by rw [w1]; exact hP.dw.2.1) (fun σ3 f3 => ex_i ?_)
  rw [w1]
  have f4 : frM σ (sk_w σ3 1 (liftS (dw1 (σ 1)) (LB (dw1 (σ 1)) n (wkH (dw1 (σ 1)) l0 (dwV (σ 1) % 40)) 6) n)) := (frM.w.tr f3.fr).tr frM.w
  have e4 : sk_w σ3 1 (liftS (dw1 (σ 1)) (LB (dw1 (σ 1)) n (wkH (dw1 (σ 1)) l0 (dwV (σ 1) % 40)) 6) n) 1 = loG (σ 1) n l0 := sw_s
  revert f4 e4
  generalize sk_w σ3 1 (liftS (dw1 (σ 1)) (LB (dw1 (σ 1)) n (wkH (dw1 (σ 1)) l0 (dwV (σ 1) % 40)) 6) n) = σ4
  intro f4 e4
  have y4 : loG (σ 1) n l0 0 = nI y := by rw [loG_lo (by omega), dw_0]; exact hy
  have P4 := hP.loG
  have fin : ∀ σ5, frM σ σ5 → RP (σ5 1) n l0 l1 → σ5 1 = loL (loG (σ 1) n l0) n → sk_C sk_Sm (d - 1) mX7_aYear [.ref 0] σ5 (fun w t110 => w = none ∧ sk_G sk_Sm d mX7_loose 23 [(0, .ref 0), (1, .int v1), (3, .int (v3 ||| loV (σ 1) n l0)), (4, .int (v4 + 1))] [] t110 K) := fun σ5 f5 P5 e5 =>
    P5.year (by rw [e5, loL_0]; exact y4) hy9 (by omega) (fun σ6 f6 e6 => ⟨rfl, h σ6 (f5.tr f6) (by rw [e6, e5]; rfl)⟩)
  refine ⟨fun e => fin σ4 f4 (by rw [e4]; exact P4) ?_, fun e => ?_⟩
  · rw [e4] at e ⊢
    have : n = 0 := by
      rw [P4.1.2.1] at e
      by_cases z : n = 0
      · exact z
      · exact absurd e (nI_nle (by omega) (by omega))
    unfold loL
    rw [if_pos this]
  · rw [e4, P4.1.2.1] at e
    have hn0 : n ≠ 0 := by
      rintro rfl
      exact e (by decide)
    refine pX7_draw (ex_i ?_)
    have e5 : sk_w σ4 1 (dw1 (σ4 1)) 1 = dw1 (loG (σ 1) n l0) := by rw [sw_s, e4]
    have f5 : frM σ (sk_w σ4 1 (dw1 (σ4 1))) := f4.tr frM.w
    revert e5 f5
    generalize sk_w σ4 1 (dw1 (σ4 1)) = σ5
    intro e5 f5
    rw [e5, e4, P4.dw.1.2.1]
    refine ⟨fun z => hn0 ((nI_iff (b := 0) (by omega) (by omega)).mp z), pX7_draw (ex_i ?_)⟩
    have e6 : sk_w σ5 1 (dw1 (σ5 1)) 1 = dw1 (dw1 (loG (σ 1) n l0)) := by rw [sw_s, e5]
    have f6 : frM σ (sk_w σ5 1 (dw1 (σ5 1))) := f5.tr frM.w
    revert e6 f6
    generalize sk_w σ5 1 (dw1 (σ5 1)) = σ6
    intro e6 f6
    obtain ⟨k, hk, ek⟩ := dw_mod (loG (σ 1) n l0) (m := n) (by omega) (by omega)
    obtain ⟨c, hc, ec⟩ := dw_mod (dw1 (loG (σ 1) n l0)) (m := 48) (by omega) (by omega)
    have ec : dwV (dw1 (loG (σ 1) n l0)) % 48 = nI c := ec
    rw [e5, ek, ec]
    have g6 : fl (σ6 1) k 6 = fl (loG (σ 1) n l0) k 6 := by rw [e6, dw_fl, dw_fl]
    have R7 := fin σ6 f6 (by rw [e6]; exact P4.dw.dw)
    unfold loL at R7
    rw [if_neg hn0] at R7
    dsimp only at R7
    rw [ek, ec, nI_clamp (show k < 2 ^ 31 by omega)] at R7
    refine pX7_its 6 (by omega) (by omega) (ex_i ⟨fun e2 => ?_, fun e2 => pX7_mayLie hk hc (by rw [e6]; exact P4.dw.dw.1) (by omega) (ex_i ?_)⟩)
    · rw [g6] at e2
      rw [if_neg (fun z => e2 z.1)] at R7
      exact R7 e6
    · rw [g6] at e2
      rw [e6]
      cases hm : mayF (dw1 (dw1 (loG (σ 1) n l0))) n k (nI c) with
      | false =>
        rw [if_neg (fun z => absurd (hm.symm.trans z.2) Bool.false_ne_true)] at R7
        exact br_t rfl (R7 e6)
      | true =>
        refine br_f i1_0 (pX7_lays1 6 (by omega) (by omega) ⟨rfl, ?_⟩)
        have h8 := fin (sk_u σ6 1 (8 + 7 * k + 6) (nI c)) (f6.tr frM.u) (by rw [mv_u, e6]; exact P4.dw.dw.mv hk hc)
        unfold loL at h8
        rw [if_neg hn0] at h8
        dsimp only at h8
        rw [ek, ec, nI_clamp (show k < 2 ^ 31 by omega), if_pos ⟨e2, hm⟩] at h8
        exact h8 (by rw [mv_u, e6])
end
