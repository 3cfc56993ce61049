def sk_max (x y : Int32) : Int32 := if x < y then y else x
def sk_min (x y : Int32) : Int32 := if y < x then y else x
section
variable {S : List sk_Sh} {d : Nat} {M : sk_M} {pc : Nat} {lv : sk_L} {st : List Value} {τ : sk_T} {K : sk_K}
theorem sk_get {q ci j c idx : Nat} {cs : List Nat} {v : Value} (pc2 : Nat) (hd : decode M.2.1 pc = .ok (.getfield idx, 3)) (hp : pc + 3 = pc2) (lf : sk_LF M.1.cls idx ci j) (hs : S[q]? = some (0, ci, cs)) (hc : cs[j]? = some c) (hv : ∀ ad : Nat → Nat, sk_v ad (τ q j) c = sk_vm ad v) (k : sk_G S d M pc2 lv (v :: st) τ K) : sk_G S d M pc lv (.ref q :: st) τ K := by
  subst hp
  intro p l e s m args below meth c H locs ls ad cA D A X
  obtain ⟨hx, hb, hml, hr, hlk, hown, hts, hP, hK, hD, hS, hR, hl⟩ := id X
  have k := k p l e s m args below meth c H locs ls ad cA D A X
  obtain ⟨C, T, N, h1, h2, h3, h4⟩ := lf
  have he := sk_wl_at (S := S) (ad := ad) (cA := cA) (τ := τ) hs
  have hf : (sk_fs ad (τ q) cs 0)[j]? = some (sk_vm ad v) := by rw [sk_fs_at hc, Nat.zero_add, hv]
  rcases h4 with h4 | ⟨host, h4⟩
  · exact va_get hx hb hts h3 hown hK hP q he h1 j h2 (hts _ h4) (fun _ z => z) hf hd k
  · exact va_getN (host := host) hx hb hts h3 hown hK hP q he h1 j h2 ((hR.2 _ h4).use rfl) (fun _ z => z) hf hd k
theorem sk_getI {q ci j idx : Nat} {cs : List Nat} (pc2 : Nat) (hd : decode M.2.1 pc = .ok (.getfield idx, 3)) (hp : pc + 3 = pc2) (lf : sk_LF M.1.cls idx ci j) (hs : S[q]? = some (0, ci, cs)) (hc : cs[j]? = some 0) (k : sk_G S d M pc2 lv (.int (τ q j) :: st) τ K) : sk_G S d M pc lv (.ref q :: st) τ K :=
  sk_get (v := .int (τ q j)) pc2 hd hp lf hs hc (fun _ => rfl) k
theorem sk_getB {q ci j idx : Nat} {cs : List Nat} (pc2 : Nat) (hd : decode M.2.1 pc = .ok (.getfield idx, 3)) (hp : pc + 3 = pc2) (lf : sk_LF M.1.cls idx ci j) (hs : S[q]? = some (0, ci, cs)) (hc : cs[j]? = some 1) (k : sk_G S d M pc2 lv (.int (τ q j &&& 1) :: st) τ K) : sk_G S d M pc lv (.ref q :: st) τ K :=
  sk_get (v := .int (τ q j &&& 1)) pc2 hd hp lf hs hc (fun _ => rfl) k
theorem sk_getR {q ci j r idx : Nat} {cs : List Nat} (pc2 : Nat) (hd : decode M.2.1 pc = .ok (.getfield idx, 3)) (hp : pc + 3 = pc2) (lf : sk_LF M.1.cls idx ci j) (hs : S[q]? = some (0, ci, cs)) (hc : cs[j]? = some (r + 2)) (k : sk_G S d M pc2 lv (.ref r :: st) τ K) : sk_G S d M pc lv (.ref q :: st) τ K :=
  sk_get (v := .ref r) pc2 hd hp lf hs hc (fun _ => rfl) k
theorem sk_put {q ci j c idx : Nat} {cs : List Nat} {x : Int32} {ty : FieldType} (pc2 : Nat) (hd : decode M.2.1 pc = .ok (.putfield idx, 3)) (hp : pc + 3 = pc2) (lp : sk_LP M.1.cls idx ci j ty) (hs : S[q]? = some (0, ci, cs)) (hc : cs[j]? = some c) (hv : ∀ ad : Nat → Nat, sk_v ad x c = .int x) (hn : narrow ty (.int x) = .int x) (hft : Jvm.fits ty (.int x) = true) (k : sk_G S d M pc2 lv st (sk_u τ q j x) K) : sk_G S d M pc lv (.int x :: .ref q :: st) τ K := by
  subst hp
  intro p l e s m args below meth c H locs ls ad cA D A X
  obtain ⟨hx, hb, hml, hr, hlk, hown, hts, hP, hK, hD, hS, hR, hl⟩ := id X
  obtain ⟨C, T, N, h1, h2, h3, h4, ⟨ty0, h5⟩, h6, h7, h8⟩ := lp
  have he := sk_wl_at (S := S) (ad := ad) (cA := cA) (τ := τ) hs
  have hlen : j < (sk_fs ad (τ q) cs 0).length := by rw [sk_fs_len]; exact (List.getElem?_eq_some_iff.mp hc).1
  have hset : (sk_wl S ad cA τ).set q (ad q, .inr (ci, (sk_fs ad (τ q) cs 0).set j (.int x))) = sk_wl S ad cA (sk_u τ q j x) := by
    rw [sk_fs_set hc (hv ad), Nat.zero_add]
    exact sk_wl_set hs _
  rcases h4 with h4 | ⟨host, h4⟩
  · refine va_put hx hb hts h3 ty0 h5 h6 hown hK hP hD hS q he h1 j h2 (hts _ h4) (fun _ z => z) h7 h8 hn hft hlen hd (fun H1 locs1 hP1 hD1 hS1 => ?_)
    rw [show sk_vm ad (Value.int x) = .int x from rfl, hset] at hP1 hD1
    exact k p l e s m args below meth c H1 locs1 ls ad cA D A ⟨hx, hb, hml, hr, hlk, hown, hts, hP1, hK, hD1, hS1, hR, hl⟩
  · refine va_putN (host := host) hx hb hts h3 ty0 h5 h6 hown hK hP hD hS q he h1 j h2 ((hR.2 _ h4).use rfl) (fun _ z => z) h7 h8 hn hft hlen hd (fun H1 locs1 hP1 hD1 hS1 => ?_)
    rw [show sk_vm ad (Value.int x) = .int x from rfl, hset] at hP1 hD1
    exact k p l e s m args below meth c H1 locs1 ls ad cA D A ⟨hx, hb, hml, hr, hlk, hown, hts, hP1, hK, hD1, hS1, hR, hl⟩
theorem sk_putI {q ci j idx : Nat} {cs : List Nat} {x : Int32} (pc2 : Nat) (hd : decode M.2.1 pc = .ok (.putfield idx, 3)) (hp : pc + 3 = pc2) (lp : sk_LP M.1.cls idx ci j .int) (hs : S[q]? = some (0, ci, cs)) (hc : cs[j]? = some 0) (k : sk_G S d M pc2 lv st (sk_u τ q j x) K) : sk_G S d M pc lv (.int x :: .ref q :: st) τ K :=
  sk_put pc2 hd hp lp hs hc (fun _ => rfl) rfl rfl k
theorem sk_bit {x : Int32} (h : x &&& 1 = x) : x = 0 ∨ x = 1 := by
  have h1 : (x &&& 1).toBitVec.toNat = x.toBitVec.toNat := by rw [h]
  have h2 : (x &&& 1).toBitVec.toNat = x.toBitVec.toNat % 2 := by
    show (x.toBitVec &&& 1#32).toNat = _
    rw [BitVec.toNat_and]
    exact Nat.and_one_is_mod _
  rcases (show x.toBitVec.toNat = 0 ∨ x.toBitVec.toNat = 1 by omega) with h3 | h3
  · exact Or.inl (Int32.toBitVec_inj.mp (BitVec.eq_of_toNat_eq h3))
  · exact Or.inr (Int32.toBitVec_inj.mp (BitVec.eq_of_toNat_eq h3))
theorem sk_putB {q ci j idx : Nat} {cs : List Nat} {x : Int32} (pc2 : Nat) (hd : decode M.2.1 pc = .ok (.putfield idx, 3)) (hp : pc + 3 = pc2) (lp : sk_LP M.1.cls idx ci j .boolean) (hs : S[q]? = some (0, ci, cs)) (hc : cs[j]? = some 1) (hx1 : x &&& 1 = x) (k : sk_G S d M pc2 lv st (sk_u τ q j x) K) : sk_G S d M pc lv (.int x :: .ref q :: st) τ K :=
  sk_put pc2 hd hp lp hs hc (fun _ => by show Value.int (x &&& 1) = _; rw [hx1]) (by show Value.int (x &&& 1) = _; rw [hx1]) (by rcases sk_bit hx1 with h | h <;> rw [h] <;> rfl) k
theorem sk_iald {q n : Nat} {rs : List Nat} {i : Int32} (pc2 : Nat) (hd : decode M.2.1 pc = .ok (.iaload, 1)) (hp : pc + 1 = pc2) (hs : S[q]? = some (1, n, rs)) (hi : vp_in i n) (j : Nat) (hj : i.toNatClampNeg = j) (k : sk_G S d M pc2 lv (.int (τ q j) :: st) τ K) : sk_G S d M pc lv (.int i :: .ref q :: st) τ K := by
  subst hp
  subst hj
  intro p l e s m args below meth c H locs ls ad cA D A X
  obtain ⟨hx, hb, hml, hr, hlk, hown, hts, hP, hK, hD, hS, hR, hl⟩ := id X
  exact va_iald hx hb hK hP q 0 (sk_wl_at (S := S) (ad := ad) (cA := cA) (τ := τ) hs) rfl hi hd (k p l e s m args below meth c H locs ls ad cA D A X)
theorem sk_bald {q n : Nat} {rs : List Nat} {i : Int32} (pc2 : Nat) (hd : decode M.2.1 pc = .ok (.baload, 1)) (hp : pc + 1 = pc2) (hs : S[q]? = some (2, n, rs)) (hi : vp_in i n) (j : Nat) (hj : i.toNatClampNeg = j) (k : sk_G S d M pc2 lv (.int (vp_nar .byte (τ q j)) :: st) τ K) : sk_G S d M pc lv (.int i :: .ref q :: st) τ K := by
  subst hp
  subst hj
  intro p l e s m args below meth c H locs ls ad cA D A X
  obtain ⟨hx, hb, hml, hr, hlk, hown, hts, hP, hK, hD, hS, hR, hl⟩ := id X
  exact va_bald hx hb hK hP q 1 (sk_wl_at (S := S) (ad := ad) (cA := cA) (τ := τ) hs) rfl hi hd (k p l e s m args below meth c H locs ls ad cA D A X)
theorem sk_aald {q n t r : Nat} {rs : List Nat} {i : Int32} (pc2 : Nat) (hd : decode M.2.1 pc = .ok (.aaload, 1)) (hp : pc + 1 = pc2) (hs : S[q]? = some (t + 3, n, rs)) (ht : t < 3) (hi : vp_in i n) (j : Nat) (hj : i.toNatClampNeg = j) (hr2 : rs[j]? = some r) (k : sk_G S d M pc2 lv (.ref r :: st) τ K) : sk_G S d M pc lv (.int i :: .ref q :: st) τ K := by
  subst hp
  subst hj
  intro p l e s m args below meth c H locs ls ad cA D A X
  obtain ⟨hx, hb, hml, hr, hlk, hown, hts, hP, hK, hD, hS, hR, hl⟩ := id X
  have k := k p l e s m args below meth c H locs ls ad cA D A X
  have he := sk_wl_at (S := S) (ad := ad) (cA := cA) (τ := τ) hs
  have e1 : va_rf ((fun j => (rs[j]?).map ad) i.toNatClampNeg) = .ref (ad r) := by
    show va_rf ((rs[i.toNatClampNeg]?).map ad) = _
    rw [hr2]; rfl
  match t, ht, he with
  | 0, _, he => exact va_aldq (C := "SlateKin$Tile") hx hb hK hP q 2 he rfl hi hd (by rw [e1]; exact k)
  | 1, _, he => exact va_aldq (C := "SlateKin$Law") hx hb hK hP q 3 he rfl hi hd (by rw [e1]; exact k)
  | 2, _, he => exact va_aldq (C := "SlateKin$Sheet") hx hb hK hP q 4 he rfl hi hd (by rw [e1]; exact k)
theorem sk_iast {q n : Nat} {rs : List Nat} {i x : Int32} (pc2 : Nat) (hd : decode M.2.1 pc = .ok (.iastore, 1)) (hp : pc + 1 = pc2) (hs : S[q]? = some (1, n, rs)) (hi : vp_in i n) (j : Nat) (hj : i.toNatClampNeg = j) (k : sk_G S d M pc2 lv st (sk_u τ q j x) K) : sk_G S d M pc lv (.int x :: .int i :: .ref q :: st) τ K := by
  subst hp
  subst hj
  intro p l e s m args below meth c H locs ls ad cA D A X
  obtain ⟨hx, hb, hml, hr, hlk, hown, hts, hP, hK, hD, hS, hR, hl⟩ := id X
  refine va_iast hx hb hK hP hD hS q 0 (sk_wl_at (S := S) (ad := ad) (cA := cA) (τ := τ) hs) rfl hi hd (fun H1 locs1 hP1 hD1 hS1 => ?_)
  have hset : (sk_wl S ad cA τ).set q (ad q, .inl (cA 0, n, .inl (upd (τ q) i.toNatClampNeg x))) = sk_wl S ad cA (sk_u τ q i.toNatClampNeg x) := sk_wl_set hs _
  rw [hset] at hP1 hD1
  exact k p l e s m args below meth c H1 locs1 ls ad cA D A ⟨hx, hb, hml, hr, hlk, hown, hts, hP1, hK, hD1, hS1, hR, hl⟩
theorem sk_bast {q n : Nat} {rs : List Nat} {i x : Int32} (pc2 : Nat) (hd : decode M.2.1 pc = .ok (.bastore, 1)) (hp : pc + 1 = pc2) (hs : S[q]? = some (2, n, rs)) (hi : vp_in i n) (j : Nat) (hj : i.toNatClampNeg = j) (k : sk_G S d M pc2 lv st (sk_u τ q j x) K) : sk_G S d M pc lv (.int x :: .int i :: .ref q :: st) τ K := by
  subst hp
  subst hj
  intro p l e s m args below meth c H locs ls ad cA D A X
  obtain ⟨hx, hb, hml, hr, hlk, hown, hts, hP, hK, hD, hS, hR, hl⟩ := id X
  refine va_bast hx hb hK hP hD hS q 1 (sk_wl_at (S := S) (ad := ad) (cA := cA) (τ := τ) hs) rfl hi hd (fun H1 locs1 hP1 hD1 hS1 => ?_)
  have hset : (sk_wl S ad cA τ).set q (ad q, .inl (cA 1, n, .inl (upd (fun j => vp_nar .byte (τ q j)) i.toNatClampNeg (vp_nar .byte x)))) = sk_wl S ad cA (sk_u τ q i.toNatClampNeg x) := by
    have e2 : upd (fun j => vp_nar .byte (τ q j)) i.toNatClampNeg (vp_nar .byte x) = fun j => vp_nar .byte (upd (τ q) i.toNatClampNeg x j) := by
      funext j
      unfold upd
      split <;> rfl
    rw [e2]
    exact sk_wl_set hs _
  rw [hset] at hP1 hD1
  exact k p l e s m args below meth c H1 locs1 ls ad cA D A ⟨hx, hb, hml, hr, hlk, hown, hts, hP1, hK, hD1, hS1, hR, hl⟩
theorem sk_alenI {q n : Nat} {rs : List Nat} {v : Int32} (pc2 : Nat) (hd : decode M.2.1 pc = .ok (.arraylength, 1)) (hp : pc + 1 = pc2) (hs : S[q]? = some (1, n, rs)) (hv : Int32.ofNat n = v) (k : sk_G S d M pc2 lv (.int v :: st) τ K) : sk_G S d M pc lv (.ref q :: st) τ K := by
  subst hp
  intro p l e s m args below meth c H locs ls ad cA D A X
  obtain ⟨hx, hb, hml, hr, hlk, hown, hts, hP, hK, hD, hS, hR, hl⟩ := id X
  exact va_alen hx hb hK hP q 0 (sk_wl_at (S := S) (ad := ad) (cA := cA) (τ := τ) hs) rfl hv hd (k p l e s m args below meth c H locs ls ad cA D A X)
theorem sk_dup {v : Value} (pc2 : Nat) (hd : decode M.2.1 pc = .ok (.dup, 1)) (hp : pc + 1 = pc2) (hv : v.category = 1) (k : sk_G S d M pc2 lv (v :: v :: st) τ K) : sk_G S d M pc lv (v :: st) τ K := by
  subst hp
  intro p l e s m args below meth c H locs ls ad cA D A X
  obtain ⟨hx, hb, hml, hr, hlk, hown, hts, hP, hK, hD, hS, hR, hl⟩ := id X
  exact lv_dup hx hb hd (by rw [sk_vm_cat]; exact hv) (k p l e s m args below meth c H locs ls ad cA D A X)
theorem sk_dup2 {v w : Value} (pc2 : Nat) (hd : decode M.2.1 pc = .ok (.dup2, 1)) (hp : pc + 1 = pc2) (hv : v.category = 1) (hw : w.category = 1) (k : sk_G S d M pc2 lv (v :: w :: v :: w :: st) τ K) : sk_G S d M pc lv (v :: w :: st) τ K := by
  subst hp
  intro p l e s m args below meth c H locs ls ad cA D A X
  obtain ⟨hx, hb, hml, hr, hlk, hown, hts, hP, hK, hD, hS, hR, hl⟩ := id X
  exact lv_dup2_11 hx hb hd (by rw [sk_vm_cat]; exact hv) (by rw [sk_vm_cat]; exact hw) (k p l e s m args below meth c H locs ls ad cA D A X)
theorem sk_nm {x : Int32} (k : ∀ y : Int32, y = x → sk_G S d M pc lv (.int y :: st) τ K) : sk_G S d M pc lv (.int x :: st) τ K := k x rfl
theorem sk_nmL {x : Int64} (k : ∀ y : Int64, y = x → sk_G S d M pc lv (.long y :: st) τ K) : sk_G S d M pc lv (.long x :: st) τ K := k x rfl
theorem sk_gsA {idx : Nat} (pc2 : Nat) (hd : decode M.2.1 pc = .ok (.getstatic idx, 3)) (hp : pc + 3 = pc2) (hc : Cond.fieldLink M.1.cls idx "SlateKin$Tile" "ABOVE" "[I" ∈ sk_ALL) (k : sk_G S d M pc2 lv (.ref 1000 :: st) τ K) : sk_G S d M pc lv st τ K := by
  subst hp
  intro p l e s m args below meth c H locs ls ad cA D A X
  obtain ⟨hx, hb, hml, hr, hlk, hown, hts, hP, hK, hD, hS, hR, hl⟩ := id X
  exact va_gets hx hb hR.1.1.1 hS hown (hts _ hc) (fun _ z => z) hd (k p l e s m args below meth c H locs ls ad cA D A X)
theorem sk_gsN {idx : Nat} (pc2 : Nat) (hd : decode M.2.1 pc = .ok (.getstatic idx, 3)) (hp : pc + 3 = pc2) (hc : Cond.fieldLink M.1.cls idx "SlateKin$Reader" "NAMES" "[C" ∈ sk_ALL) (k : sk_G S d M pc2 lv (.ref 1001 :: st) τ K) : sk_G S d M pc lv st τ K := by
  subst hp
  intro p l e s m args below meth c H locs ls ad cA D A X
  obtain ⟨hx, hb, hml, hr, hlk, hown, hts, hP, hK, hD, hS, hR, hl⟩ := id X
  exact va_gets hx hb hR.1.2.1.1 hS hown (hts _ hc) (fun _ z => z) hd (k p l e s m args below meth c H locs ls ad cA D A X)
theorem sk_gsB {idx : Nat} (pc2 : Nat) (hd : decode M.2.1 pc = .ok (.getstatic idx, 3)) (hp : pc + 3 = pc2) (hc : Cond.fieldLink M.1.cls idx "SlateKin$Choir" "BODIES" "[I" ∈ sk_ALL) (k : sk_G S d M pc2 lv (.ref 1002 :: st) τ K) : sk_G S d M pc lv st τ K := by
  subst hp
  intro p l e s m args below meth c H locs ls ad cA D A X
  obtain ⟨hx, hb, hml, hr, hlk, hown, hts, hP, hK, hD, hS, hR, hl⟩ := id X
  exact va_gets hx hb hR.1.2.2.1 hS hown (hts _ hc) (fun _ z => z) hd (k p l e s m args below meth c H locs ls ad cA D A X)
theorem sk_ldA {i : Int32} (pc2 : Nat) (hd : decode M.2.1 pc = .ok (.iaload, 1)) (hp : pc + 1 = pc2) (hi : vp_in i 7) (j : Nat) (hj : i.toNatClampNeg = j) (k : sk_G S d M pc2 lv (.int (sk_above j) :: st) τ K) : sk_G S d M pc lv (.int i :: .ref 1000 :: st) τ K := by
  subst hp
  subst hj
  intro p l e s m args below meth c H locs ls ad cA D A X
  obtain ⟨hx, hb, hml, hr, hlk, hown, hts, hP, hK, hD, hS, hR, hl⟩ := id X
  exact va_ti hx hb hR.1.1.2 hS hi rfl hd (k p l e s m args below meth c H locs ls ad cA D A X)
theorem sk_lenA {v : Int32} (pc2 : Nat) (hd : decode M.2.1 pc = .ok (.arraylength, 1)) (hp : pc + 1 = pc2) (hv : 7 = v) (k : sk_G S d M pc2 lv (.int v :: st) τ K) : sk_G S d M pc lv (.ref 1000 :: st) τ K := by
  subst hp
  subst hv
  intro p l e s m args below meth c H locs ls ad cA D A X
  obtain ⟨hx, hb, hml, hr, hlk, hown, hts, hP, hK, hD, hS, hR, hl⟩ := id X
  exact va_tlen hx hb hR.1.1.2 hS rfl hd (k p l e s m args below meth c H locs ls ad cA D A X)
theorem sk_ldN {i : Int32} (pc2 : Nat) (hd : decode M.2.1 pc = .ok (.caload, 1)) (hp : pc + 1 = pc2) (hi : vp_in i 6) (j : Nat) (hj : i.toNatClampNeg = j) (k : sk_G S d M pc2 lv (.int (sk_names j) :: st) τ K) : sk_G S d M pc lv (.int i :: .ref 1001 :: st) τ K := by
  subst hp
  subst hj
  intro p l e s m args below meth c H locs ls ad cA D A X
  obtain ⟨hx, hb, hml, hr, hlk, hown, hts, hP, hK, hD, hS, hR, hl⟩ := id X
  exact va_tc hx hb hR.1.2.1.2 hS hi rfl hd (k p l e s m args below meth c H locs ls ad cA D A X)
theorem sk_ldB {i : Int32} (pc2 : Nat) (hd : decode M.2.1 pc = .ok (.iaload, 1)) (hp : pc + 1 = pc2) (hi : vp_in i 28) (j : Nat) (hj : i.toNatClampNeg = j) (k : sk_G S d M pc2 lv (.int (sk_bodies j) :: st) τ K) : sk_G S d M pc lv (.int i :: .ref 1002 :: st) τ K := by
  subst hp
  subst hj
  intro p l e s m args below meth c H locs ls ad cA D A X
  obtain ⟨hx, hb, hml, hr, hlk, hown, hts, hP, hK, hD, hS, hR, hl⟩ := id X
  exact va_ti hx hb hR.1.2.2.2 hS hi rfl hd (k p l e s m args below meth c H locs ls ad cA D A X)
def sk_sw (G : Nat → Prop) (x : Int32) : Int → List Nat → Prop
  | _, [] => True
  | n, t :: ts => (x = Int32.ofInt n → G t) ∧ sk_sw G x (n + 1) ts
theorem sk_sw_at {G : Nat → Prop} {x : Int32} : ∀ {ts : List Nat} {n : Int} {k t : Nat}, sk_sw G x n ts → ts[k]? = some t → x = Int32.ofInt (n + k) → G t
  | [], n, k, t, _, h, _ => by simp at h
  | t0 :: ts, n, 0, t, hs, h, hx => by simp at h; subst h; exact hs.1 (by simpa using hx)
  | t0 :: ts, n, k + 1, t, hs, h, hx => sk_sw_at (n := n + 1) (k := k) hs.2 (by simpa using h) (by rw [hx]; congr 1; omega)
theorem sk_table {x : Int32} {dflt lo hi : Int} {offs : Array Int} {len : Nat} (tg : List Nat) (td : Nat) (hd : decode M.2.1 pc = .ok (.tableswitch dflt lo hi offs, len)) (h1 : hi = lo + tg.length - 1) (h2 : -100000 ≤ lo ∧ hi ≤ 100000) (h3 : offs.toList = tg.map (fun t : Nat => (t : Int) - (pc : Int))) (h4 : (pc : Int) + dflt = (td : Int))
    (k : sk_sw (fun t => sk_G S d M t lv st τ K) x lo tg) (kd : (∀ i : Nat, i < tg.length → ¬ x = Int32.ofInt (lo + i)) → sk_G S d M td lv st τ K) : sk_G S d M pc lv (.int x :: st) τ K := by
  intro p l e s m args below meth c H locs ls ad cA D A X
  obtain ⟨hx, hb, hml, hr, hlk, hown, hts, hP, hK, hD, hS, hR, hl⟩ := id X
  by_cases hlo : x.toInt < lo
  · exact lv_tableOut hx hb hd (Or.inl hlo) h4 (kd (fun i hi e => by
      rw [e, Int32.toInt_ofInt_of_le (by omega) (by omega)] at hlo; omega) p l e s m args below meth c H locs ls ad cA D A X)
  · by_cases hhi : hi < x.toInt
    · exact lv_tableOut hx hb hd (Or.inr hhi) h4 (kd (fun i hi e => by
        rw [e, Int32.toInt_ofInt_of_le (by omega) (by omega)] at hhi; omega) p l e s m args below meth c H locs ls ad cA D A X)
    · have hk : (x.toInt - lo).toNat < tg.length := by omega
      obtain ⟨t, ht⟩ : ∃ t, tg[(x.toInt - lo).toNat]? = some t := ⟨_, List.getElem?_eq_getElem hk⟩
      have ho : offs[(x.toInt - lo).toNat]? = some ((t : Int) - pc) := by
        rw [← Array.getElem?_toList, h3, List.getElem?_map, ht]; rfl
      refine lv_tableIn hx hb hd hlo hhi ho (tgt := t) (by omega) (sk_sw_at k ht ?_ p l e s m args below meth c H locs ls ad cA D A X)
      have : lo + ((x.toInt - lo).toNat : Int) = x.toInt := by omega
      rw [this]; exact (Int32.ofInt_toInt x).symm
def sk_lk (G : Nat → Prop) (x : Int32) : List (Int × Nat) → Prop
  | [] => True
  | (n, t) :: ts => (x = Int32.ofInt n → G t) ∧ sk_lk G x ts
theorem sk_lk_go {G : Nat → Prop} {x : Int32} {pc : Nat} {dflt : Int} {td : Nat} (h4 : (pc : Int) + dflt = (td : Int)) : ∀ (tg : List (Int × Nat)), (∀ q ∈ tg, (Int32.ofInt q.1).toInt = q.1) → sk_lk G x tg → ((∀ q ∈ tg, ¬ x = Int32.ofInt q.1) → G td) → ∃ t : Nat, (pc : Int) + Op.lookupswitch.offset (tg.map (fun q : Int × Nat => (q.1, (q.2 : Int) - (pc : Int)))) dflt x.toInt = (t : Int) ∧ G t
  | [], _, _, hd => ⟨td, h4, hd (fun q h => by cases h)⟩
  | (n, t) :: ts, hN, h, hd => by
    by_cases e : x.toInt = n
    · refine ⟨t, ?_, h.1 (by rw [← e, Int32.ofInt_toInt])⟩
      simp [Op.lookupswitch.offset, e]; omega
    · obtain ⟨t2, h1, h2⟩ := sk_lk_go h4 ts (fun q hm => hN q (List.mem_cons_of_mem _ hm)) h.2 (fun hq => hd (fun q hm => by
        rcases List.mem_cons.mp hm with rfl | hm
        · exact fun e2 => e (by rw [e2]; exact hN _ List.mem_cons_self)
        · exact hq q hm))
      refine ⟨t2, ?_, h2⟩
      rw [← h1]
      have e3 : ¬ n = x.toInt := fun z => e z.symm
      simp [Op.lookupswitch.offset, e, e3]
theorem sk_look {x : Int32} {dflt : Int} {ps : Array (Int × Int)} {len : Nat} (tg : List (Int × Nat)) (td : Nat) (hd : decode M.2.1 pc = .ok (.lookupswitch dflt ps, len)) (h1 : (ps.toList.zip (ps.toList.drop 1)).all (fun (a, next) => a.1 < next.1) = true) (h2 : ∀ q ∈ tg, (Int32.ofInt q.1).toInt = q.1) (h3 : ps.toList = tg.map (fun q : Int × Nat => (q.1, (q.2 : Int) - (pc : Int)))) (h4 : (pc : Int) + dflt = (td : Int))
    (k : sk_lk (fun t => sk_G S d M t lv st τ K) x tg) (kd : (∀ q ∈ tg, ¬ x = Int32.ofInt q.1) → sk_G S d M td lv st τ K) : sk_G S d M pc lv (.int x :: st) τ K := by
  intro p l e s m args below meth c H locs ls ad cA D A X
  obtain ⟨hx, hb, hml, hr, hlk, hown, hts, hP, hK, hD, hS, hR, hl⟩ := id X
  obtain ⟨t, ht, hG⟩ := sk_lk_go h4 tg h2 k kd
  rw [← h3] at ht
  exact lv_lookup hx hb hd h1 rfl ht (hG p l e s m args below meth c H locs ls ad cA D A X)
theorem sk_iret {x : Int32} {ty : FieldType} (hd : decode M.2.1 pc = .ok (.ireturn, 1)) (hrt : M.2.2.2 = some ty) (hn : narrow ty (.int x) = .int x) (k : K (some (.int x)) τ) : sk_G S d M pc lv [.int x] τ K := by
  intro p l e s m args below meth c H locs ls ad cA D A X
  obtain ⟨hx, hb, hml, hr, hlk, hown, hts, hP, hK, hD, hS, hR, hl⟩ := id X
  exact W.zret hx hb (hr.trans hrt) hn (fun t ht hW => ⟨some (.int x), τ, rfl, k, ⟨by rw [ht]; exact hP, va_K.moved hW.alike hK, hD, (hR.1.moved hW.alike).kept (fun a h1 h2 => by rw [ht]; exact hS.2.1 a h1 h2)⟩, hS.F ht⟩) hS.2.2 hd hlk
theorem sk_lret {x : Int64} (hd : decode M.2.1 pc = .ok (.lreturn, 1)) (hrt : M.2.2.2 = some .long) (k : K (some (.long x)) τ) : sk_G S d M pc lv [.long x] τ K := by
  intro p l e s m args below meth c H locs ls ad cA D A X
  obtain ⟨hx, hb, hml, hr, hlk, hown, hts, hP, hK, hD, hS, hR, hl⟩ := id X
  exact W.lret hx hb (hr.trans hrt) (fun t ht hW => ⟨some (.long x), τ, rfl, k, ⟨by rw [ht]; exact hP, va_K.moved hW.alike hK, hD, (hR.1.moved hW.alike).kept (fun a h1 h2 => by rw [ht]; exact hS.2.1 a h1 h2)⟩, hS.F ht⟩) hS.2.2 hd hlk
theorem sk_vret (hd : decode M.2.1 pc = .ok (.return_, 1)) (hrt : M.2.2.2 = none) (k : K none τ) : sk_G S d M pc lv [] τ K := by
  intro p l e s m args below meth c H locs ls ad cA D A X
  obtain ⟨hx, hb, hml, hr, hlk, hown, hts, hP, hK, hD, hS, hR, hl⟩ := id X
  exact W.vret hx hb (hr.trans hrt) (fun t ht hW => ⟨none, τ, rfl, k, ⟨by rw [ht]; exact hP, va_K.moved hW.alike hK, hD, (hR.1.moved hW.alike).kept (fun a h1 h2 => by rw [ht]; exact hS.2.1 a h1 h2)⟩, hS.F ht⟩) hS.2.2 hd hlk
end
/-- what a call says, to the caller's own walk -/
theorem sk_run {p : Program} {l : Launch} {e : Env} {R : Room} {s : State} {m : MethodId} {args : Array Value} {below : List Frame} {meth : Method} {c : Code} {H : Heap} {locs : List Loc} {cells slots : Nat} {Q : State → Prop} {pc : Nat} {ls : Array Slot} {rest st0 : List Value} {a : Array Value} {A : Nat → Prop} {S : List sk_Sh} {ad : Nat → Nat} {cA : Nat → ClassId} {D : va_G} {K : sk_K} {H0 : Heap} {A0 : Nat → Prop}
    (hr : va_Run p l e R s m args below meth c H locs cells slots 0 0 (F0 m pc ls st0) rest (sk_Qc S ad cA D A K a) A) (hS : va_S A0 H0 H locs) (hA : ∀ q, A q → A0 q)
    (kk : ∀ (v : Option Value) (τ2 : sk_T) (t : State) (H1 : Heap) (locs1 : List Loc), t.heap = H1 → s.vm.Alike t.vm → K v τ2 → sk_Wd S ad cA D A τ2 t → (∀ q : Nat, q < H.size → ¬ A q → H1[q]? = H[q]?) → va_S A0 H0 H1 locs1 → W p l e R s m args below meth c H1 locs1 cells slots Q (F0 m (pc + 3) ls ((v.map (sk_vm ad)).toList ++ rest))) : W p l e R s m args below meth c H locs cells slots Q (F0 m pc ls st0) := by
  intro T hT X
  obtain ⟨v, st₀, t, T', L, h0, X', hL, e1, e2, ⟨v2, τ2, hv, hk, hw, hz, hq⟩, st⟩ := hr T hT X
  cases hv
  rw [h0] at hz hq
  obtain ⟨t2, a1, b1⟩ := kk v2 τ2 t T'.heap (locs ++ L) e1.symm (by rw [← e2]; exact X'.warmed.alike) hk hw (fun q h1 h2 => by rw [e1]; exact hq q h1 h2)
    ⟨Nat.le_trans hS.1 (by rw [e1]; exact hz), fun q h1 h2 => by rw [e1, hq q (Nat.lt_of_lt_of_le h1 hS.1) (fun z => h2 (hA q z))]; exact hS.2.1 q h1 h2, fun q hq => by
      rcases List.mem_append.mp hq with h | h
      · exact hS.2.2 q h
      · exact hA _ (hL q h)⟩ T' rfl X'
  exact ⟨t2, st t2 a1, b1⟩
theorem sk_pre {S : List sk_Sh} {ad : Nat → Nat} {cA : Nat → ClassId} {D : va_G} {A : Nat → Prop} {τ : sk_T} {vs : List Value} {s : State} {H : Heap} {locs : List Loc} (hP : va_P D vwCl (sk_wl S ad cA τ) H) (hK : va_K D vwCl (sk_tys cA) s) (hD : va_D A (sk_wl S ad cA τ)) (hq : ∀ q : Nat, q < s.heap.size → ¬ A q → H[q]? = s.heap[q]?) (hR : sk_Ro ad A s s.heap) (hN : sk_NW s) :
    FrameBlind (va_Pc (vs.map (sk_vm ad)) (fun U => sk_Wd S ad cA D A τ U ∧ sk_NW U)) ∧ ∀ U : State, U.heap = H → s.WarmedH U.vm → va_Pc (vs.map (sk_vm ad)) (fun U => sk_Wd S ad cA D A τ U ∧ sk_NW U) (vs.map (sk_vm ad)).toArray U := by
  refine ⟨fun a U g mk q => ?_, fun U hU hW => ?_⟩
  · obtain ⟨q0, ⟨qP, qK, qD, qR⟩, qN⟩ := q
    exact ⟨q0, ⟨qP, va_K.moved (u := U) (U := U.calling g mk a) (Vm.Alike.refl U.vm) qK, qD, sk_Ro.moved (u := U) (U := U.calling g mk a) (Vm.Alike.refl U.vm) qR⟩, sk_NW.same (u := U) (U := U.calling g mk a) rfl qN⟩
  · exact ⟨rfl, ⟨by rw [hU]; exact hP, va_K.moved hW.alike hK, hD, (hR.moved hW.alike).kept (fun a h1 h2 => by rw [hU]; exact hq a h1 h2)⟩, hN.warm hW⟩
theorem sk_goodM {M : sk_M} {n : Nat} (mf : sk_MF M n) : GoodIn sk_ALL (sk_ws M) := by
  intro w h
  rcases List.mem_cons.mp h with rfl | h
  · exact ⟨mf.1, good_of_word (sk_good _ mf.1)⟩
  · exact sk_goodIn w h
theorem sk_rmL {d n : Nat} (h0 : 0 < d) (h : n ≤ 21) : (sk_rm (d - 1)).frames + 1 ≤ (sk_rm d).frames ∧ 8 + (n + 11) + (sk_rm (d - 1)).locals ≤ (sk_rm d).locals := by
  refine ⟨?_, ?_⟩
  · show d - 1 + 1 ≤ d
    omega
  · show 8 + (n + 11) + 40 * (d - 1) ≤ 40 * d
    omega
def sk_LV (own : String) (idx : Nat) (y : MethodName) : Prop := Cond.methodLink own idx y ∈ sk_ALL ∨ ∃ host, Cond.methodLinkNest own idx y host ∈ sk_NL
section
variable {S : List sk_Sh} {d : Nat} {M : sk_M} {pc : Nat} {lv : sk_L} {st : List Value} {τ : sk_T} {K : sk_K}
theorem sk_callV {M2 : sk_M} {n idx q ci : Nat} {cs : List Nat} {r : vw_C} (As rest : List Value) (pc2 : Nat) (hd : decode M.2.1 pc = .ok (.invokevirtual idx, 3)) (hp : pc + 3 = pc2) (mf : sk_MF M2 n) (hl : sk_LV M.1.cls idx M2.1) (hi : Cond.instanceMethod M2.1 ∈ sk_ALL) (hse : Cond.selects M2.1.cls M2.1 M2.1 ∈ sk_ALL)
    (hs : S[q]? = some (0, ci, cs)) (hci : vwCl[ci]? = some r) (hrc : r.1 = M2.1.cls) (hn : As.length = n) (hst : st = As.reverse ++ .ref q :: rest) (hcat : (rest.map fun v => v.category).sum ≤ 8) (h0 : 0 < d)
    (k : sk_C S (d - 1) M2 (.ref q :: As) τ (fun v τ2 => sk_G S d M pc2 lv (v.toList ++ rest) τ2 K)) : sk_G S d M pc lv st τ K := by
  subst hp
  subst hst
  intro p l e s m args below meth c H locs ls ad cA D A X
  obtain ⟨hx, hb, hml, hr, hlk, hown, hts, hP, hK, hD, hS, hR, hl9⟩ := id X
  have hfr := sk_rmL (d := d) (n := M2.2.2.1) h0 mf.2.2.2.2.2.2
  have hpre := sk_pre (vs := .ref q :: As) (locs := locs) hP hK hD hS.2.1 hR.1 hR.2
  have hst2 : List.map (sk_vm ad) (As.reverse ++ Value.ref q :: rest) = (As.map (sk_vm ad)).reverse ++ .ref (ad q) :: rest.map (sk_vm ad) := by rw [List.map_append, List.map_reverse]; rfl
  have hrun : va_Run p l e (sk_rm d) s m args below meth c H locs 0 0 0 0 (F0 m pc ls ((As.reverse ++ Value.ref q :: rest).map (sk_vm ad))) (rest.map (sk_vm ad)) (sk_Qc S ad cA D A (fun v τ2 => sk_G S d M (pc + 3) lv (v.toList ++ rest) τ2 K) (Value.ref (ad q) :: As.map (sk_vm ad)).toArray) A := by
    rcases hl with hl | ⟨host, hl⟩
    · exact va_runV (C := M2.1.cls) (As := As.map (sk_vm ad)) ⟨hx, hb, hml, hown, hts⟩ (k l ad cA D A) ⟨callB_of (index := idx) n hts (sk_goodM mf) rfl rfl rfl (hts _ mf.2.1) (hts _ hl) ⟨mf.2.2.2.1, mf.2.2.2.2.1, mf.2.2.2.2.2.1⟩ hfr, hts _ hi, hts _ hse⟩ ⟨hpre.1, hrc ▸ va_recv hK hP hci (sk_wl_at (S := S) (ad := ad) (cA := cA) (τ := τ) hs), hpre.2⟩ rfl (by rw [List.length_map]; exact hn) hl9.1 hst2 (lv_room (by rw [sk_cat_m]; exact hcat)) hd ⟨Nat.le_refl _, Nat.le_refl _⟩
    · exact va_runVN (C := M2.1.cls) (host := host) (As := As.map (sk_vm ad)) ⟨hx, hb, hml, hown, hts⟩ (k l ad cA D A) ⟨va_cnB (index := idx) n hts (sk_goodM mf) rfl rfl rfl (hR.2 _ hl) (hts _ mf.2.1) ⟨mf.2.2.2.1, mf.2.2.2.2.1, mf.2.2.2.2.2.1⟩ hfr, hts _ hi, hts _ hse⟩ ⟨hpre.1, hrc ▸ va_recv hK hP hci (sk_wl_at (S := S) (ad := ad) (cA := cA) (τ := τ) hs), hpre.2⟩ rfl (by rw [List.length_map]; exact hn) hl9.1 hst2 (lv_room (by rw [sk_cat_m]; exact hcat)) hd ⟨Nat.le_refl _, Nat.le_refl _⟩
  refine sk_run hrun hS (fun _ h => h) (fun v τ2 t H1 locs1 ht hvm hk hw hq hS1 => ?_)
  obtain ⟨hP1, hK1, hD1, hR1⟩ := hw
  rw [ht] at hP1
  have hkk := hk p l e s m args below meth c H1 locs1 ls ad cA D A ⟨hx, hb, hml, hr, hlk, hown, hts, hP1, hK, hD1, hS1, hR, hl9⟩
  have e5 : (v.toList ++ rest).map (sk_vm ad) = (v.map (sk_vm ad)).toList ++ rest.map (sk_vm ad) := by cases v <;> simp
  rw [e5] at hkk
  exact hkk
theorem sk_callS {M2 : sk_M} {n idx : Nat} (As rest : List Value) (pc2 : Nat) (hd : decode M.2.1 pc = .ok (.invokestatic idx, 3)) (hp : pc + 3 = pc2) (mf : sk_MF M2 n) (hl : sk_LV M.1.cls idx M2.1) (hi : Cond.static M2.1 ∈ sk_ALL)
    (hn : As.length = n) (hst : st = As.reverse ++ rest) (hcat : (rest.map fun v => v.category).sum ≤ 8) (h0 : 0 < d)
    (k : sk_C S (d - 1) M2 As τ (fun v τ2 => sk_G S d M pc2 lv (v.toList ++ rest) τ2 K)) : sk_G S d M pc lv st τ K := by
  subst hp
  subst hst
  intro p l e s m args below meth c H locs ls ad cA D A X
  obtain ⟨hx, hb, hml, hr, hlk, hown, hts, hP, hK, hD, hS, hR, hl9⟩ := id X
  have hfr := sk_rmL (d := d) (n := M2.2.2.1) h0 mf.2.2.2.2.2.2
  have hpre := sk_pre (vs := As) (locs := locs) hP hK hD hS.2.1 hR.1 hR.2
  have hst2 : List.map (sk_vm ad) (As.reverse ++ rest) = (As.map (sk_vm ad)).reverse ++ rest.map (sk_vm ad) := by rw [List.map_append, List.map_reverse]
  have hrun : va_Run p l e (sk_rm d) s m args below meth c H locs 0 0 0 0 (F0 m pc ls ((As.reverse ++ rest).map (sk_vm ad))) (rest.map (sk_vm ad)) (sk_Qc S ad cA D A (fun v τ2 => sk_G S d M (pc + 3) lv (v.toList ++ rest) τ2 K) (As.map (sk_vm ad)).toArray) A := by
    rcases hl with hl | ⟨host, hl⟩
    · exact va_runS (As := As.map (sk_vm ad)) ⟨hx, hb, hml, hown, hts⟩ (k l ad cA D A) ⟨callB_of (index := idx) n hts (sk_goodM mf) rfl rfl rfl (hts _ mf.2.1) (hts _ hl) ⟨mf.2.2.2.1, mf.2.2.2.2.1, mf.2.2.2.2.2.1⟩ hfr, hts _ hi⟩ ⟨hpre.1, hpre.2⟩ rfl (by rw [List.length_map]; exact hn) hl9.1 hst2 (lv_room (by rw [sk_cat_m]; exact hcat)) hd ⟨Nat.le_refl _, Nat.le_refl _⟩
    · exact va_runSN (host := host) (As := As.map (sk_vm ad)) ⟨hx, hb, hml, hown, hts⟩ (k l ad cA D A) ⟨va_cnB (index := idx) n hts (sk_goodM mf) rfl rfl rfl (hR.2 _ hl) (hts _ mf.2.1) ⟨mf.2.2.2.1, mf.2.2.2.2.1, mf.2.2.2.2.2.1⟩ hfr, hts _ hi, trivial⟩ ⟨hpre.1, hpre.2⟩ rfl (by rw [List.length_map]; exact hn) hl9.1 hst2 (lv_room (by rw [sk_cat_m]; exact hcat)) hd ⟨Nat.le_refl _, Nat.le_refl _⟩
  refine sk_run hrun hS (fun _ h => h) (fun v τ2 t H1 locs1 ht hvm hk hw hq hS1 => ?_)
  obtain ⟨hP1, hK1, hD1, hR1⟩ := hw
  rw [ht] at hP1
  have hkk := hk p l e s m args below meth c H1 locs1 ls ad cA D A ⟨hx, hb, hml, hr, hlk, hown, hts, hP1, hK, hD1, hS1, hR, hl9⟩
  have e5 : (v.toList ++ rest).map (sk_vm ad) = (v.map (sk_vm ad)).toList ++ rest.map (sk_vm ad) := by cases v <;> simp
  rw [e5] at hkk
  exact hkk
theorem sk_copyI {idx q0 q1 n0 n1 : Nat} {r0 r1 : List Nat} {sp dp n : Int32} (pc2 : Nat) (hd : decode M.2.1 pc = .ok (.invokestatic idx, 3)) (hp : pc + 3 = pc2) (hl : Cond.methodLink M.1.cls idx arraycopyName ∈ sk_ALL) (hw : Cond.native arraycopyName ∈ sk_ALL ∧ Cond.static arraycopyName ∈ sk_ALL ∧ Cond.initialized "java/lang/System" ∈ sk_ALL)
    (hs0 : S[q0]? = some (1, n0, r0)) (hs1 : S[q1]? = some (1, n1, r1)) (h1 : ¬ sp < 0) (h2 : ¬ dp < 0) (h3 : ¬ n < 0) (h4 : sp.toNatClampNeg + n.toNatClampNeg ≤ n0) (h5 : dp.toNatClampNeg + n.toNatClampNeg ≤ n1) (hcat : (st.map fun v => v.category).sum ≤ 8) (h0 : 0 < d)
    (k : sk_G S d M pc2 lv st (sk_w τ q1 (va_cpy (τ q0) (τ q1) sp.toNatClampNeg dp.toNatClampNeg n.toNatClampNeg)) K) : sk_G S d M pc lv (.int n :: .int dp :: .ref q1 :: .int sp :: .ref q0 :: st) τ K := by
  subst hp
  intro p l e s m args below meth c H locs ls ad cA D A X
  obtain ⟨hx, hb, hml, hr, hlk, hown, hts, hP, hK, hD, hS, hR, hl9⟩ := id X
  refine va_copyi hx hb (hml.trans hl9.1.symm) hown (hts _ hl) (hts _ hw.1) (hts _ hw.2.1) (hts _ hw.2.2) hK hP hD hS q0 q1 0 0 (sk_wl_at (S := S) (ad := ad) (cA := cA) (τ := τ) hs0) (sk_wl_at (S := S) (ad := ad) (cA := cA) (τ := τ) hs1) rfl rfl rfl h1 h2 h3 h4 h5 (fun i hi => rfl) (show 1 ≤ d from h0) (by rw [sk_cat_m]; show _ + (7 + 11) ≤ 40 * d; omega) hd (fun H1 locs1 hP1 hD1 hS1 => ?_)
  have hset : (sk_wl S ad cA τ).set q1 (ad q1, .inl (cA 0, n1, .inl (va_cpy (τ q0) (τ q1) sp.toNatClampNeg dp.toNatClampNeg n.toNatClampNeg))) = sk_wl S ad cA (sk_w τ q1 (va_cpy (τ q0) (τ q1) sp.toNatClampNeg dp.toNatClampNeg n.toNatClampNeg)) := sk_wl_set hs1 _
  rw [hset] at hP1 hD1
  exact k p l e s m args below meth c H1 locs1 ls ad cA D A ⟨hx, hb, hml, hr, hlk, hown, hts, hP1, hK, hD1, hS1, hR, hl9⟩
theorem sk_copyB {idx q0 q1 n0 n1 : Nat} {r0 r1 : List Nat} {sp dp n : Int32} (pc2 : Nat) (hd : decode M.2.1 pc = .ok (.invokestatic idx, 3)) (hp : pc + 3 = pc2) (hl : Cond.methodLink M.1.cls idx arraycopyName ∈ sk_ALL) (hw : Cond.native arraycopyName ∈ sk_ALL ∧ Cond.static arraycopyName ∈ sk_ALL ∧ Cond.initialized "java/lang/System" ∈ sk_ALL)
    (hs0 : S[q0]? = some (2, n0, r0)) (hs1 : S[q1]? = some (2, n1, r1)) (h1 : ¬ sp < 0) (h2 : ¬ dp < 0) (h3 : ¬ n < 0) (h4 : sp.toNatClampNeg + n.toNatClampNeg ≤ n0) (h5 : dp.toNatClampNeg + n.toNatClampNeg ≤ n1) (hcat : (st.map fun v => v.category).sum ≤ 8) (h0 : 0 < d)
    (k : sk_G S d M pc2 lv st (sk_w τ q1 (va_cpy (τ q0) (τ q1) sp.toNatClampNeg dp.toNatClampNeg n.toNatClampNeg)) K) : sk_G S d M pc lv (.int n :: .int dp :: .ref q1 :: .int sp :: .ref q0 :: st) τ K := by
  subst hp
  intro p l e s m args below meth c H locs ls ad cA D A X
  obtain ⟨hx, hb, hml, hr, hlk, hown, hts, hP, hK, hD, hS, hR, hl9⟩ := id X
  refine va_copyi hx hb (hml.trans hl9.1.symm) hown (hts _ hl) (hts _ hw.1) (hts _ hw.2.1) (hts _ hw.2.2) hK hP hD hS q0 q1 1 1 (sk_wl_at (S := S) (ad := ad) (cA := cA) (τ := τ) hs0) (sk_wl_at (S := S) (ad := ad) (cA := cA) (τ := τ) hs1) rfl rfl rfl h1 h2 h3 h4 h5 (fun i hi => pk_fb _) (show 1 ≤ d from h0) (by rw [sk_cat_m]; show _ + (7 + 11) ≤ 40 * d; omega) hd (fun H1 locs1 hP1 hD1 hS1 => ?_)
  have hset : (sk_wl S ad cA τ).set q1 (ad q1, .inl (cA 1, n1, .inl (va_cpy (fun j => vp_nar .byte (τ q0 j)) (fun j => vp_nar .byte (τ q1 j)) sp.toNatClampNeg dp.toNatClampNeg n.toNatClampNeg))) = sk_wl S ad cA (sk_w τ q1 (va_cpy (τ q0) (τ q1) sp.toNatClampNeg dp.toNatClampNeg n.toNatClampNeg)) := by
    have e2 : va_cpy (fun j => vp_nar .byte (τ q0 j)) (fun j => vp_nar .byte (τ q1 j)) sp.toNatClampNeg dp.toNatClampNeg n.toNatClampNeg = fun j => vp_nar .byte (va_cpy (τ q0) (τ q1) sp.toNatClampNeg dp.toNatClampNeg n.toNatClampNeg j) := by
      funext j
      unfold va_cpy
      split <;> rfl
    rw [e2]
    exact sk_wl_set hs1 _
  rw [hset] at hP1 hD1
  exact k p l e s m args below meth c H1 locs1 ls ad cA D A ⟨hx, hb, hml, hr, hlk, hown, hts, hP1, hK, hD1, hS1, hR, hl9⟩
theorem sk_mmax {idx : Nat} {x y : Int32} (pc2 : Nat) (hd : decode M.2.1 pc = .ok (.invokestatic idx, 3)) (hp : pc + 3 = pc2) (hl : Cond.methodLink M.1.cls idx Lib.Math.max.name ∈ sk_ALL) (hw : Cond.static Lib.Math.max.name ∈ sk_ALL ∧ Cond.initialized "java/lang/Math" ∈ sk_ALL ∧ Cond.code Lib.Math.max.name Lib.Math.max.code 2 (some .int) ∈ sk_ALL) (hcat : (st.map fun v => v.category).sum ≤ 8) (h0 : 0 < d)
    (k : sk_G S d M pc2 lv (.int (sk_max x y) :: st) τ K) : sk_G S d M pc lv (.int y :: .int x :: st) τ K := by
  subst hp
  intro p l e s m args below meth c H locs ls ad cA D A X
  obtain ⟨hx, hb, hml, hr, hlk, hown, hts, hP, hK, hD, hS, hR, hl9⟩ := id X
  exact va_mmax hx hb (hml.trans hl9.1.symm) hown (hts _ hl) (hts _ hw.1) (hts _ hw.2.1) (hts _ hw.2.2) (show 1 ≤ d from h0) (by rw [sk_cat_m]; show _ + 13 ≤ 40 * d; omega) (Nat.le_refl _) (Nat.le_refl _) hd (k p l e s m args below meth c H locs ls ad cA D A X)
theorem sk_mmin {idx : Nat} {x y : Int32} (pc2 : Nat) (hd : decode M.2.1 pc = .ok (.invokestatic idx, 3)) (hp : pc + 3 = pc2) (hl : Cond.methodLink M.1.cls idx Lib.Math.min.name ∈ sk_ALL) (hw : Cond.static Lib.Math.min.name ∈ sk_ALL ∧ Cond.initialized "java/lang/Math" ∈ sk_ALL ∧ Cond.code Lib.Math.min.name Lib.Math.min.code 2 (some .int) ∈ sk_ALL) (hcat : (st.map fun v => v.category).sum ≤ 8) (h0 : 0 < d)
    (k : sk_G S d M pc2 lv (.int (sk_min x y) :: st) τ K) : sk_G S d M pc lv (.int y :: .int x :: st) τ K := by
  subst hp
  intro p l e s m args below meth c H locs ls ad cA D A X
  obtain ⟨hx, hb, hml, hr, hlk, hown, hts, hP, hK, hD, hS, hR, hl9⟩ := id X
  exact va_mmin hx hb (hml.trans hl9.1.symm) hown (hts _ hl) (hts _ hw.1) (hts _ hw.2.1) (hts _ hw.2.2) (show 1 ≤ d from h0) (by rw [sk_cat_m]; show _ + 13 ≤ 40 * d; omega) (Nat.le_refl _) (Nat.le_refl _) hd (k p l e s m args below meth c H locs ls ad cA D A X)
theorem sk_enter {n : Nat} {vs : List Value} (mf : sk_MF M n) (hlen : (lg_sl vs).length ≤ M.2.2.1) (k : sk_G S d M 0 (lv_args 0 vs) [] τ K) : sk_C S d M vs τ K := by
  intro l ad cA D A
  refine Met.ofW (cc := M.2.1) (maxL := M.2.2.1) (ret := M.2.2.2) mf.2.2.1 rfl ?_
  intro p e s m args below meth c s₁ B hml hv
  obtain ⟨rfl, ⟨hP, hK, hD, hR⟩, hN⟩ := hv
  have hts := atoms_spec (ws := sk_ws M) B.pre
  rw [lg_entry_eq, sk_sl_len]
  have hl := lv_entry (vs.map (sk_vm ad)) (n := M.2.2.1) (by rw [sk_sl_len]; exact hlen)
  rw [sk_args_m, sk_sl_len] at hl
  exact k p l e s m _ below meth c s.heap [] _ ad cA D A ⟨B.exec, B.bytes, hml, B.returns, B.notSynchronized, findClass_of_methodNamed B.named, fun w hw => hts w (List.mem_cons_of_mem _ hw), hP, hK, hD, va_S.rf, ⟨hR, hN⟩, hl⟩
theorem sk_Cm {M2 : sk_M} {vs : List Value} {K2 : sk_K} (h : sk_C S d M2 vs τ K) (hk : ∀ v τ2, K v τ2 → K2 v τ2) : sk_C S d M2 vs τ K2 := by
  intro l ad cA D A
  have h1 := h l ad cA D A
  intro p e ha hc hk2 s m args below hf hpre hP hcalls
  obtain ⟨t, o, a1, a2, a3, ⟨⟨v, τ2, b1, b2, b3⟩, b4⟩⟩ := h1 p e ha hc hk2 s m args below hf hpre hP hcalls
  exact ⟨t, o, a1, a2, a3, ⟨⟨v, τ2, b1, hk v τ2 b2, b3⟩, b4⟩⟩
theorem sk_callVi {M2 : sk_M} {n idx q ci : Nat} {cs : List Nat} {r : vw_C} (As rest : List Value) (pc2 : Nat) (hd : decode M.2.1 pc = .ok (.invokevirtual idx, 3)) (hp : pc + 3 = pc2) (mf : sk_MF M2 n) (hl : sk_LV M.1.cls idx M2.1) (hi : Cond.instanceMethod M2.1 ∈ sk_ALL) (hse : Cond.selects M2.1.cls M2.1 M2.1 ∈ sk_ALL) (hs : S[q]? = some (0, ci, cs)) (hci : vwCl[ci]? = some r) (hrc : r.1 = M2.1.cls) (hn : As.length = n) (hst : st = As.reverse ++ .ref q :: rest) (hcat : (rest.map fun v => v.category).sum ≤ 8) (h0 : 0 < d) (k : sk_C S (d - 1) M2 (.ref q :: As) τ (fun v τ2 => ∃ r : Int32, v = some (.int r) ∧ sk_G S d M pc2 lv (.int r :: rest) τ2 K)) : sk_G S d M pc lv st τ K :=
  sk_callV As rest pc2 hd hp mf hl hi hse hs hci hrc hn hst hcat h0 (sk_Cm k (fun v τ2 hk => by obtain ⟨r, rfl, hk⟩ := hk; exact hk))
theorem sk_callVl {M2 : sk_M} {n idx q ci : Nat} {cs : List Nat} {r : vw_C} (As rest : List Value) (pc2 : Nat) (hd : decode M.2.1 pc = .ok (.invokevirtual idx, 3)) (hp : pc + 3 = pc2) (mf : sk_MF M2 n) (hl : sk_LV M.1.cls idx M2.1) (hi : Cond.instanceMethod M2.1 ∈ sk_ALL) (hse : Cond.selects M2.1.cls M2.1 M2.1 ∈ sk_ALL) (hs : S[q]? = some (0, ci, cs)) (hci : vwCl[ci]? = some r) (hrc : r.1 = M2.1.cls) (hn : As.length = n) (hst : st = As.reverse ++ .ref q :: rest) (hcat : (rest.map fun v => v.category).sum ≤ 8) (h0 : 0 < d) (k : sk_C S (d - 1) M2 (.ref q :: As) τ (fun v τ2 => ∃ r : Int64, v = some (.long r) ∧ sk_G S d M pc2 lv (.long r :: rest) τ2 K)) : sk_G S d M pc lv st τ K :=
  sk_callV As rest pc2 hd hp mf hl hi hse hs hci hrc hn hst hcat h0 (sk_Cm k (fun v τ2 hk => by obtain ⟨r, rfl, hk⟩ := hk; exact hk))
theorem sk_callVv {M2 : sk_M} {n idx q ci : Nat} {cs : List Nat} {r : vw_C} (As rest : List Value) (pc2 : Nat) (hd : decode M.2.1 pc = .ok (.invokevirtual idx, 3)) (hp : pc + 3 = pc2) (mf : sk_MF M2 n) (hl : sk_LV M.1.cls idx M2.1) (hi : Cond.instanceMethod M2.1 ∈ sk_ALL) (hse : Cond.selects M2.1.cls M2.1 M2.1 ∈ sk_ALL) (hs : S[q]? = some (0, ci, cs)) (hci : vwCl[ci]? = some r) (hrc : r.1 = M2.1.cls) (hn : As.length = n) (hst : st = As.reverse ++ .ref q :: rest) (hcat : (rest.map fun v => v.category).sum ≤ 8) (h0 : 0 < d) (k : sk_C S (d - 1) M2 (.ref q :: As) τ (fun v τ2 => v = none ∧ sk_G S d M pc2 lv rest τ2 K)) : sk_G S d M pc lv st τ K :=
  sk_callV As rest pc2 hd hp mf hl hi hse hs hci hrc hn hst hcat h0 (sk_Cm k (fun v τ2 hk => by obtain ⟨rfl, hk⟩ := hk; exact hk))
theorem sk_callSi {M2 : sk_M} {n idx : Nat} (As rest : List Value) (pc2 : Nat) (hd : decode M.2.1 pc = .ok (.invokestatic idx, 3)) (hp : pc + 3 = pc2) (mf : sk_MF M2 n) (hl : sk_LV M.1.cls idx M2.1) (hi : Cond.static M2.1 ∈ sk_ALL) (hn : As.length = n) (hst : st = As.reverse ++ rest) (hcat : (rest.map fun v => v.category).sum ≤ 8) (h0 : 0 < d) (k : sk_C S (d - 1) M2 As τ (fun v τ2 => ∃ r : Int32, v = some (.int r) ∧ sk_G S d M pc2 lv (.int r :: rest) τ2 K)) : sk_G S d M pc lv st τ K :=
  sk_callS As rest pc2 hd hp mf hl hi hn hst hcat h0 (sk_Cm k (fun v τ2 hk => by obtain ⟨r, rfl, hk⟩ := hk; exact hk))
theorem sk_callSl {M2 : sk_M} {n idx : Nat} (As rest : List Value) (pc2 : Nat) (hd : decode M.2.1 pc = .ok (.invokestatic idx, 3)) (hp : pc + 3 = pc2) (mf : sk_MF M2 n) (hl : sk_LV M.1.cls idx M2.1) (hi : Cond.static M2.1 ∈ sk_ALL) (hn : As.length = n) (hst : st = As.reverse ++ rest) (hcat : (rest.map fun v => v.category).sum ≤ 8) (h0 : 0 < d) (k : sk_C S (d - 1) M2 As τ (fun v τ2 => ∃ r : Int64, v = some (.long r) ∧ sk_G S d M pc2 lv (.long r :: rest) τ2 K)) : sk_G S d M pc lv st τ K :=
  sk_callS As rest pc2 hd hp mf hl hi hn hst hcat h0 (sk_Cm k (fun v τ2 hk => by obtain ⟨r, rfl, hk⟩ := hk; exact hk))
theorem sk_callSv {M2 : sk_M} {n idx : Nat} (As rest : List Value) (pc2 : Nat) (hd : decode M.2.1 pc = .ok (.invokestatic idx, 3)) (hp : pc + 3 = pc2) (mf : sk_MF M2 n) (hl : sk_LV M.1.cls idx M2.1) (hi : Cond.static M2.1 ∈ sk_ALL) (hn : As.length = n) (hst : st = As.reverse ++ rest) (hcat : (rest.map fun v => v.category).sum ≤ 8) (h0 : 0 < d) (k : sk_C S (d - 1) M2 As τ (fun v τ2 => v = none ∧ sk_G S d M pc2 lv rest τ2 K)) : sk_G S d M pc lv st τ K :=
  sk_callS As rest pc2 hd hp mf hl hi hn hst hcat h0 (sk_Cm k (fun v τ2 hk => by obtain ⟨rfl, hk⟩ := hk; exact hk))
end

