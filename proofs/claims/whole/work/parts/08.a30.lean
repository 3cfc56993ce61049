theorem wX3_copyK {d : Nat} {τ : sk_T} {K : sk_K}
  (h : sk_G sk_Sc d mX3_copy 2 [(0, .ref 2), (1, .ref 1), (2, .int 0)] [] τ K) :
  sk_C sk_Sc d mX3_copy [.ref 2, .ref 1] τ K := by
  refine sk_enter mfX3_copy (Nat.le_of_ble_eq_true rfl) ?_
  show sk_G sk_Sc d mX3_copy 0 [(0, .ref 2), (1, .ref 1)] [] τ K
  refine sk_iconst (v := 0) 1 dX3_copy_0 rfl (by decide) ?_
  refine sk_istore_n (lv2 := [(2, .int 0), (0, .ref 2), (1, .ref 1)]) 2 dX3_copy_1 rfl rfl (by decide) rfl ?_
  refine sk_perm (lv2 := [(0, .ref 2), (1, .ref 1), (2, .int 0)]) [1, 2, 0] rfl ?_
  exact h

theorem bX3_copyK_2 {d : Nat} {τ : sk_T} {K : sk_K} {v2 : Int32} (hd0 : 0 < d)
  (h : ((10 ≤ v2 →
      sk_G sk_Sc d mX3_copy 31 [(0, .ref 2), (1, .ref 1), (2, .int 0)] [] τ K
    ) ∧
    (¬ 10 ≤ v2 →
      vp_in v2 10 ∧
      vp_in v2 10 ∧
      sk_C sk_Sc (d - 1) mX5_copy [.ref (13 + v2.toNatClampNeg), .ref (3 + v2.toNatClampNeg)] τ (fun w t20 => w = none ∧
        sk_G sk_Sc d mX3_copy 2 [(0, .ref 2), (1, .ref 1), (2, .int (v2 + 1))] [] t20 K
      )
    ))) :
  sk_G sk_Sc d mX3_copy 2 [(0, .ref 2), (1, .ref 1), (2, .int v2)] [] τ K := by
  refine sk_iload_n 2 3 dX3_copy_2 rfl rfl rfl ?_
  refine sk_bipush (v := 10) 5 dX3_copy_3 rfl (by decide) ?_
  refine sk_icmp_ge 29 8 dX3_copy_5 (by decide) rfl (fun hc => ?_) (fun hc => ?_)
  · have h := h.1 hc
    refine sk_iconst (v := 0) 30 dX3_copy_29 rfl (by decide) ?_
    refine sk_istore_n (lv2 := [(2, .int 0), (0, .ref 2), (1, .ref 1)]) 31 dX3_copy_30 rfl rfl (by decide) rfl ?_
    refine sk_perm (lv2 := [(0, .ref 2), (1, .ref 1), (2, .int 0)]) [1, 2, 0] rfl ?_
    exact h
  · have h := h.2 hc
    refine sk_aload_n 0 9 dX3_copy_8 rfl rfl rfl ?_
    refine sk_getR (r := 36) 12 dX3_copy_9 rfl lfX3_11 sc_2 rfl ?_
    refine sk_iload_n 2 13 dX3_copy_12 rfl rfl rfl ?_
    have hb13 := h.1
    have h := h.2
    refine sk_aald 14 dX3_copy_13 rfl sc_36 (by decide) hb13 _ rfl (r := (13 + v2.toNatClampNeg)) (sk_tl0K hb13) ?_
    refine sk_aload_n 1 15 dX3_copy_14 rfl rfl rfl ?_
    refine sk_getR (r := 35) 18 dX3_copy_15 rfl lfX3_11 sc_1 rfl ?_
    refine sk_iload_n 2 19 dX3_copy_18 rfl rfl rfl ?_
    have hb19 := h.1
    have h := h.2
    refine sk_aald 20 dX3_copy_19 rfl sc_35 (by decide) hb19 _ rfl (r := (3 + v2.toNatClampNeg)) (sk_tl0 hb19) ?_
    refine sk_callVv [.ref (3 + v2.toNatClampNeg)] [] 23 dX3_copy_20 rfl mfX5_copy lkX3_57 miX5_copy msX5_copy (sk_tileAtK hb13) rfl rfl rfl rfl (by simp [Value.category]) hd0 (sk_Cm h ?_)
    rintro w t20 ⟨hw, h⟩
    refine ⟨hw, ?_⟩
    refine sk_iinc (v := (v2 + 1)) (lv2 := [(2, .int (v2 + 1)), (0, .ref 2), (1, .ref 1)]) 2 26 dX3_copy_23 rfl rfl rfl (by decide) rfl ?_
    refine sk_goto 2 dX3_copy_26 (by decide) ?_
    refine sk_perm (lv2 := [(0, .ref 2), (1, .ref 1), (2, .int (v2 + 1))]) [1, 2, 0] rfl ?_
    exact h

theorem bX3_copyK_31 {d : Nat} {τ : sk_T} {K : sk_K} {v2 : Int32} (hd0 : 0 < d)
  (h : ((2 ≤ v2 →
      K none (sk_u (sk_u (sk_u (sk_u (sk_u (sk_u (sk_u (sk_w (sk_w τ 40 (va_cpy (τ 39) (τ 40) 0 0 60)) 42 (va_cpy ((sk_w τ 40 (va_cpy (τ 39) (τ 40) 0 0 60)) 41) ((sk_w τ 40 (va_cpy (τ 39) (τ 40) 0 0 60)) 42) 0 0 24)) 2 1 ((sk_w (sk_w τ 40 (va_cpy (τ 39) (τ 40) 0 0 60)) 42 (va_cpy ((sk_w τ 40 (va_cpy (τ 39) (τ 40) 0 0 60)) 41) ((sk_w τ 40 (va_cpy (τ 39) (τ 40) 0 0 60)) 42) 0 0 24)) 1 1)) 2 2 ((sk_u (sk_w (sk_w τ 40 (va_cpy (τ 39) (τ 40) 0 0 60)) 42 (va_cpy ((sk_w τ 40 (va_cpy (τ 39) (τ 40) 0 0 60)) 41) ((sk_w τ 40 (va_cpy (τ 39) (τ 40) 0 0 60)) 42) 0 0 24)) 2 1 ((sk_w (sk_w τ 40 (va_cpy (τ 39) (τ 40) 0 0 60)) 42 (va_cpy ((sk_w τ 40 (va_cpy (τ 39) (τ 40) 0 0 60)) 41) ((sk_w τ 40 (va_cpy (τ 39) (τ 40) 0 0 60)) 42) 0 0 24)) 1 1)) 1 2)) 2 3 ((sk_u (sk_u (sk_w (sk_w τ 40 (va_cpy (τ 39) (τ 40) 0 0 60)) 42 (va_cpy ((sk_w τ 40 (va_cpy (τ 39) (τ 40) 0 0 60)) 41) ((sk_w τ 40 (va_cpy (τ 39) (τ 40) 0 0 60)) 42) 0 0 24)) 2 1 ((sk_w (sk_w τ 40 (va_cpy (τ 39) (τ 40) 0 0 60)) 42 (va_cpy ((sk_w τ 40 (va_cpy (τ 39) (τ 40) 0 0 60)) 41) ((sk_w τ 40 (va_cpy (τ 39) (τ 40) 0 0 60)) 42) 0 0 24)) 1 1)) 2 2 ((sk_u (sk_w (sk_w τ 40 (va_cpy (τ 39) (τ 40) 0 0 60)) 42 (va_cpy ((sk_w τ 40 (va_cpy (τ 39) (τ 40) 0 0 60)) 41) ((sk_w τ 40 (va_cpy (τ 39) (τ 40) 0 0 60)) 42) 0 0 24)) 2 1 ((sk_w (sk_w τ 40 (va_cpy (τ 39) (τ 40) 0 0 60)) 42 (va_cpy ((sk_w τ 40 (va_cpy (τ 39) (τ 40) 0 0 60)) 41) ((sk_w τ 40 (va_cpy (τ 39) (τ 40) 0 0 60)) 42) 0 0 24)) 1 1)) 1 2)) 1 3)) 2 4 ((sk_u (sk_u (sk_u (sk_w (sk_w τ 40 (va_cpy (τ 39) (τ 40) 0 0 60)) 42 (va_cpy ((sk_w τ 40 (va_cpy (τ 39) (τ 40) 0 0 60)) 41) ((sk_w τ 40 (va_cpy (τ 39) (τ 40) 0 0 60)) 42) 0 0 24)) 2 1 ((sk_w (sk_w τ 40 (va_cpy (τ 39) (τ 40) 0 0 60)) 42 (va_cpy ((sk_w τ 40 (va_cpy (τ 39) (τ 40) 0 0 60)) 41) ((sk_w τ 40 (va_cpy (τ 39) (τ 40) 0 0 60)) 42) 0 0 24)) 1 1)) 2 2 ((sk_u (sk_w (sk_w τ 40 (va_cpy (τ 39) (τ 40) 0 0 60)) 42 (va_cpy ((sk_w τ 40 (va_cpy (τ 39) (τ 40) 0 0 60)) 41) ((sk_w τ 40 (va_cpy (τ 39) (τ 40) 0 0 60)) 42) 0 0 24)) 2 1 ((sk_w (sk_w τ 40 (va_cpy (τ 39) (τ 40) 0 0 60)) 42 (va_cpy ((sk_w τ 40 (va_cpy (τ 39) (τ 40) 0 0 60)) 41) ((sk_w τ 40 (va_cpy (τ 39) (τ 40) 0 0 60)) 42) 0 0 24)) 1 1)) 1 2)) 2 3 ((sk_u (sk_u (sk_w (sk_w τ 40 (va_cpy (τ 39) (τ 40) 0 0 60)) 42 (va_cpy ((sk_w τ 40 (va_cpy (τ 39) (τ 40) 0 0 60)) 41) ((sk_w τ 40 (va_cpy (τ 39) (τ 40) 0 0 60)) 42) 0 0 24)) 2 1 ((sk_w (sk_w τ 40 (va_cpy (τ 39) (τ 40) 0 0 60)) 42 (va_cpy ((sk_w τ 40 (va_cpy (τ 39) (τ 40) 0 0 60)) 41) ((sk_w τ 40 (va_cpy (τ 39) (τ 40) 0 0 60)) 42) 0 0 24)) 1 1)) 2 2 ((sk_u (sk_w (sk_w τ 40 (va_cpy (τ 39) (τ 40) 0 0 60)) 42 (va_cpy ((sk_w τ 40 (va_cpy (τ 39) (τ 40) 0 0 60)) 41) ((sk_w τ 40 (va_cpy (τ 39) (τ 40) 0 0 60)) 42) 0 0 24)) 2 1 ((sk_w (sk_w τ 40 (va_cpy (τ 39) (τ 40) 0 0 60)) 42 (va_cpy ((sk_w τ 40 (va_cpy (τ 39) (τ 40) 0 0 60)) 41) ((sk_w τ 40 (va_cpy (τ 39) (τ 40) 0 0 60)) 42) 0 0 24)) 1 1)) 1 2)) 1 3)) 1 4)) 2 5 ((sk_u (sk_u (sk_u (sk_u (sk_w (sk_w τ 40 (va_cpy (τ 39) (τ 40) 0 0 60)) 42 (va_cpy ((sk_w τ 40 (va_cpy (τ 39) (τ 40) 0 0 60)) 41) ((sk_w τ 40 (va_cpy (τ 39) (τ 40) 0 0 60)) 42) 0 0 24)) 2 1 ((sk_w (sk_w τ 40 (va_cpy (τ 39) (τ 40) 0 0 60)) 42 (va_cpy ((sk_w τ 40 (va_cpy (τ 39) (τ 40) 0 0 60)) 41) ((sk_w τ 40 (va_cpy (τ 39) (τ 40) 0 0 60)) 42) 0 0 24)) 1 1)) 2 2 ((sk_u (sk_w (sk_w τ 40 (va_cpy (τ 39) (τ 40) 0 0 60)) 42 (va_cpy ((sk_w τ 40 (va_cpy (τ 39) (τ 40) 0 0 60)) 41) ((sk_w τ 40 (va_cpy (τ 39) (τ 40) 0 0 60)) 42) 0 0 24)) 2 1 ((sk_w (sk_w τ 40 (va_cpy (τ 39) (τ 40) 0 0 60)) 42 (va_cpy ((sk_w τ 40 (va_cpy (τ 39) (τ 40) 0 0 60)) 41) ((sk_w τ 40 (va_cpy (τ 39) (τ 40) 0 0 60)) 42) 0 0 24)) 1 1)) 1 2)) 2 3 ((sk_u (sk_u (sk_w (sk_w τ 40 (va_cpy (τ 39) (τ 40) 0 0 60)) 42 (va_cpy ((sk_w τ 40 (va_cpy (τ 39) (τ 40) 0 0 60)) 41) ((sk_w τ 40 (va_cpy (τ 39) (τ 40) 0 0 60)) 42) 0 0 24)) 2 1 ((sk_w (sk_w τ 40 (va_cpy (τ 39) (τ 40) 0 0 60)) 42 (va_cpy ((sk_w τ 40 (va_cpy (τ 39) (τ 40) 0 0 60)) 41) ((sk_w τ 40 (va_cpy (τ 39) (τ 40) 0 0 60)) 42) 0 0 24)) 1 1)) 2 2 ((sk_u (sk_w (sk_w τ 40 (va_cpy (τ 39) (τ 40) 0 0 60)) 42 (va_cpy ((sk_w τ 40 (va_cpy (τ 39) (τ 40) 0 0 60)) 41) ((sk_w τ 40 (va_cpy (τ 39) (τ 40) 0 0 60)) 42) 0 0 24)) 2 1 ((sk_w (sk_w τ 40 (va_cpy (τ 39) (τ 40) 0 0 60)) 42 (va_cpy ((sk_w τ 40 (va_cpy (τ 39) (τ 40) 0 0 60)) 41) ((sk_w τ 40 (va_cpy (τ 39) (τ 40) 0 0 60)) 42) 0 0 24)) 1 1)) 1 2)) 1 3)) 2 4 ((sk_u (sk_u (sk_u (sk_w (sk_w τ 40 (va_cpy (τ 39) (τ 40) 0 0 60)) 42 (va_cpy ((sk_w τ 40 (va_cpy (τ 39) (τ 40) 0 0 60)) 41) ((sk_w τ 40 (va_cpy (τ 39) (τ 40) 0 0 60)) 42) 0 0 24)) 2 1 ((sk_w (sk_w τ 40 (va_cpy (τ 39) (τ 40) 0 0 60)) 42 (va_cpy ((sk_w τ 40 (va_cpy (τ 39) (τ 40) 0 0 60)) 41) ((sk_w τ 40 (va_cpy (τ 39) (τ 40) 0 0 60)) 42) 0 0 24)) 1 1)) 2 2 ((sk_u (sk_w (sk_w τ 40 (va_cpy (τ 39) (τ 40) 0 0 60)) 42 (va_cpy ((sk_w τ 40 (va_cpy (τ 39) (τ 40) 0 0 60)) 41) ((sk_w τ 40 (va_cpy (τ 39) (τ 40) 0 0 60)) 42) 0 0 24)) 2 1 ((sk_w (sk_w τ 40 (va_cpy (τ 39) (τ 40) 0 0 60)) 42 (va_cpy ((sk_w τ 40 (va_cpy (τ 39) (τ 40) 0 0 60)) 41) ((sk_w τ 40 (va_cpy (τ 39) (τ 40) 0 0 60)) 42) 0 0 24)) 1 1)) 1 2)) 2 3 ((sk_u (sk_u (sk_w (sk_w τ 40 (va_cpy (τ 39) (τ 40) 0 0 60)) 42 (va_cpy ((sk_w τ 40 (va_cpy (τ 39) (τ 40) 0 0 60)) 41) ((sk_w τ 40 (va_cpy (τ 39) (τ 40) 0 0 60)) 42) 0 0 24)) 2 1 ((sk_w (sk_w τ 40 (va_cpy (τ 39) (τ 40) 0 0 60)) 42 (va_cpy ((sk_w τ 40 (va_cpy (τ 39) (τ 40) 0 0 60)) 41) ((sk_w τ 40 (va_cpy (τ 39) (τ 40) 0 0 60)) 42) 0 0 24)) 1 1)) 2 2 ((sk_u (sk_w (sk_w τ 40 (va_cpy (τ 39) (τ 40) 0 0 60)) 42 (va_cpy ((sk_w τ 40 (va_cpy (τ 39) (τ 40) 0 0 60)) 41) ((sk_w τ 40 (va_cpy (τ 39) (τ 40) 0 0 60)) 42) 0 0 24)) 2 1 ((sk_w (sk_w τ 40 (va_cpy (τ 39) (τ 40) 0 0 60)) 42 (va_cpy ((sk_w τ 40 (va_cpy (τ 39) (τ 40) 0 0 60)) 41) ((sk_w τ 40 (va_cpy (τ 39) (τ 40) 0 0 60)) 42) 0 0 24)) 1 1)) 1 2)) 1 3)) 1 4)) 1 5)) 2 7 ((sk_u (sk_u (sk_u (sk_u (sk_u (sk_w (sk_w τ 40 (va_cpy (τ 39) (τ 40) 0 0 60)) 42 (va_cpy ((sk_w τ 40 (va_cpy (τ 39) (τ 40) 0 0 60)) 41) ((sk_w τ 40 (va_cpy (τ 39) (τ 40) 0 0 60)) 42) 0 0 24)) 2 1 ((sk_w (sk_w τ 40 (va_cpy (τ 39) (τ 40) 0 0 60)) 42 (va_cpy ((sk_w τ 40 (va_cpy (τ 39) (τ 40) 0 0 60)) 41) ((sk_w τ 40 (va_cpy (τ 39) (τ 40) 0 0 60)) 42) 0 0 24)) 1 1)) 2 2 ((sk_u (sk_w (sk_w τ 40 (va_cpy (τ 39) (τ 40) 0 0 60)) 42 (va_cpy ((sk_w τ 40 (va_cpy (τ 39) (τ 40) 0 0 60)) 41) ((sk_w τ 40 (va_cpy (τ 39) (τ 40) 0 0 60)) 42) 0 0 24)) 2 1 ((sk_w (sk_w τ 40 (va_cpy (τ 39) (τ 40) 0 0 60)) 42 (va_cpy ((sk_w τ 40 (va_cpy (τ 39) (τ 40) 0 0 60)) 41) ((sk_w τ 40 (va_cpy (τ 39) (τ 40) 0 0 60)) 42) 0 0 24)) 1 1)) 1 2)) 2 3 ((sk_u (sk_u (sk_w (sk_w τ 40 (va_cpy (τ 39) (τ 40) 0 0 60)) 42 (va_cpy ((sk_w τ 40 (va_cpy (τ 39) (τ 40) 0 0 60)) 41) ((sk_w τ 40 (va_cpy (τ 39) (τ 40) 0 0 60)) 42) 0 0 24)) 2 1 ((sk_w (sk_w τ 40 (va_cpy (τ 39) (τ 40) 0 0 60)) 42 (va_cpy ((sk_w τ 40 (va_cpy (τ 39) (τ 40) 0 0 60)) 41) ((sk_w τ 40 (va_cpy (τ 39) (τ 40) 0 0 60)) 42) 0 0 24)) 1 1)) 2 2 ((sk_u (sk_w (sk_w τ 40 (va_cpy (τ 39) (τ 40) 0 0 60)) 42 (va_cpy ((sk_w τ 40 (va_cpy (τ 39) (τ 40) 0 0 60)) 41) ((sk_w τ 40 (va_cpy (τ 39) (τ 40) 0 0 60)) 42) 0 0 24)) 2 1 ((sk_w (sk_w τ 40 (va_cpy (τ 39) (τ 40) 0 0 60)) 42 (va_cpy ((sk_w τ 40 (va_cpy (τ 39) (τ 40) 0 0 60)) 41) ((sk_w τ 40 (va_cpy (τ 39) (τ 40) 0 0 60)) 42) 0 0 24)) 1 1)) 1 2)) 1 3)) 2 4 ((sk_u (sk_u (sk_u (sk_w (sk_w τ 40 (va_cpy (τ 39) (τ 40) 0 0 60)) 42 (va_cpy ((sk_w τ 40 (va_cpy (τ 39) (τ 40) 0 0 60)) 41) ((sk_w τ 40 (va_cpy (τ 39) (τ 40) 0 0 60)) 42) 0 0 24)) 2 1 ((sk_w (sk_w τ 40 (va_cpy (τ 39) (τ 40) 0 0 60)) 42 (va_cpy ((sk_w τ 40 (va_cpy (τ 39) (τ 40) 0 0 60)) 41) ((sk_w τ 40 (va_cpy (τ 39) (τ 40) 0 0 60)) 42) 0 0 24)) 1 1)) 2 2 ((sk_u (sk_w (sk_w τ 40 (va_cpy (τ 39) (τ 40) 0 0 60)) 42 (va_cpy ((sk_w τ 40 (va_cpy (τ 39) (τ 40) 0 0 60)) 41) ((sk_w τ 40 (va_cpy (τ 39) (τ 40) 0 0 60)) 42) 0 0 24)) 2 1 ((sk_w (sk_w τ 40 (va_cpy (τ 39) (τ 40) 0 0 60)) 42 (va_cpy ((sk_w τ 40 (va_cpy (τ 39) (τ 40) 0 0 60)) 41) ((sk_w τ 40 (va_cpy (τ 39) (τ 40) 0 0 60)) 42) 0 0 24)) 1 1)) 1 2)) 2 3 ((sk_u (sk_u (sk_w (sk_w τ 40 (va_cpy (τ 39) (τ 40) 0 0 60)) 42 (va_cpy ((sk_w τ 40 (va_cpy (τ 39) (τ 40) 0 0 60)) 41) ((sk_w τ 40 (va_cpy (τ 39) (τ 40) 0 0 60)) 42) 0 0 24)) 2 1 ((sk_w (sk_w τ 40 (va_cpy (τ 39) (τ 40) 0 0 60)) 42 (va_cpy ((sk_w τ 40 (va_cpy (τ 39) (τ 40) 0 0 60)) 41) ((sk_w τ 40 (va_cpy (τ 39) (τ 40) 0 0 60)) 42) 0 0 24)) 1 1)) 2 2 ((sk_u (sk_w (sk_w τ 40 (va_cpy (τ 39) (τ 40) 0 0 60)) 42 (va_cpy ((sk_w τ 40 (va_cpy (τ 39) (τ 40) 0 0 60)) 41) ((sk_w τ 40 (va_cpy (τ 39) (τ 40) 0 0 60)) 42) 0 0 24)) 2 1 ((sk_w (sk_w τ 40 (va_cpy (τ 39) (τ 40) 0 0 60)) 42 (va_cpy ((sk_w τ 40 (va_cpy (τ 39) (τ 40) 0 0 60)) 41) ((sk_w τ 40 (va_cpy (τ 39) (τ 40) 0 0 60)) 42) 0 0 24)) 1 1)) 1 2)) 1 3)) 1 4)) 2 5 ((sk_u (sk_u (sk_u (sk_u (sk_w (sk_w τ 40 (va_cpy (τ 39) (τ 40) 0 0 60)) 42 (va_cpy ((sk_w τ 40 (va_cpy (τ 39) (τ 40) 0 0 60)) 41) ((sk_w τ 40 (va_cpy (τ 39) (τ 40) 0 0 60)) 42) 0 0 24)) 2 1 ((sk_w (sk_w τ 40 (va_cpy (τ 39) (τ 40) 0 0 60)) 42 (va_cpy ((sk_w τ 40 (va_cpy (τ 39) (τ 40) 0 0 60)) 41) ((sk_w τ 40 (va_cpy (τ 39) (τ 40) 0 0 60)) 42) 0 0 24)) 1 1)) 2 2 ((sk_u (sk_w (sk_w τ 40 (va_cpy (τ 39) (τ 40) 0 0 60)) 42 (va_cpy ((sk_w τ 40 (va_cpy (τ 39) (τ 40) 0 0 60)) 41) ((sk_w τ 40 (va_cpy (τ 39) (τ 40) 0 0 60)) 42) 0 0 24)) 2 1 ((sk_w (sk_w τ 40 (va_cpy (τ 39) (τ 40) 0 0 60)) 42 (va_cpy ((sk_w τ 40 (va_cpy (τ 39) (τ 40) 0 0 60)) 41) ((sk_w τ 40 (va_cpy (τ 39) (τ 40) 0 0 60)) 42) 0 0 24)) 1 1)) 1 2)) 2 3 ((sk_u (sk_u (sk_w (sk_w τ 40 (va_cpy (τ 39) (τ 40) 0 0 60)) 42 (va_cpy ((sk_w τ 40 (va_cpy (τ 39) (τ 40) 0 0 60)) 41) ((sk_w τ 40 (va_cpy (τ 39) (τ 40) 0 0 60)) 42) 0 0 24)) 2 1 ((sk_w (sk_w τ 40 (va_cpy (τ 39) (τ 40) 0 0 60)) 42 (va_cpy ((sk_w τ 40 (va_cpy (τ 39) (τ 40) 0 0 60)) 41) ((sk_w τ 40 (va_cpy (τ 39) (τ 40) 0 0 60)) 42) 0 0 24)) 1 1)) 2 2 ((sk_u (sk_w (sk_w τ 40 (va_cpy (τ 39) (τ 40) 0 0 60)) 42 (va_cpy ((sk_w τ 40 (va_cpy (τ 39) (τ 40) 0 0 60)) 41) ((sk_w τ 40 (va_cpy (τ 39) (τ 40) 0 0 60)) 42) 0 0 24)) 2 1 ((sk_w (sk_w τ 40 (va_cpy (τ 39) (τ 40) 0 0 60)) 42 (va_cpy ((sk_w τ 40 (va_cpy (τ 39) (τ 40) 0 0 60)) 41) ((sk_w τ 40 (va_cpy (τ 39) (τ 40) 0 0 60)) 42) 0 0 24)) 1 1)) 1 2)) 1 3)) 2 4 ((sk_u (sk_u (sk_u (sk_w (sk_w τ 40 (va_cpy (τ 39) (τ 40) 0 0 60)) 42 (va_cpy ((sk_w τ 40 (va_cpy (τ 39) (τ 40) 0 0 60)) 41) ((sk_w τ 40 (va_cpy (τ 39) (τ 40) 0 0 60)) 42) 0 0 24)) 2 1 ((sk_w (sk_w τ 40 (va_cpy (τ 39) (τ 40) 0 0 60)) 42 (va_cpy ((sk_w τ 40 (va_cpy (τ 39) (τ 40) 0 0 60)) 41) ((sk_w τ 40 (va_cpy (τ 39) (τ 40) 0 0 60)) 42) 0 0 24)) 1 1)) 2 2 ((sk_u (sk_w (sk_w τ 40 (va_cpy (τ 39) (τ 40) 0 0 60)) 42 (va_cpy ((sk_w τ 40 (va_cpy (τ 39) (τ 40) 0 0 60)) 41) ((sk_w τ 40 (va_cpy (τ 39) (τ 40) 0 0 60)) 42) 0 0 24)) 2 1 ((sk_w (sk_w τ 40 (va_cpy (τ 39) (τ 40) 0 0 60)) 42 (va_cpy ((sk_w τ 40 (va_cpy (τ 39) (τ 40) 0 0 60)) 41) ((sk_w τ 40 (va_cpy (τ 39) (τ 40) 0 0 60)) 42) 0 0 24)) 1 1)) 1 2)) 2 3 ((sk_u (sk_u (sk_w (sk_w τ 40 (va_cpy (τ 39) (τ 40) 0 0 60)) 42 (va_cpy ((sk_w τ 40 (va_cpy (τ 39) (τ 40) 0 0 60)) 41) ((sk_w τ 40 (va_cpy (τ 39) (τ 40) 0 0 60)) 42) 0 0 24)) 2 1 ((sk_w (sk_w τ 40 (va_cpy (τ 39) (τ 40) 0 0 60)) 42 (va_cpy ((sk_w τ 40 (va_cpy (τ 39) (τ 40) 0 0 60)) 41) ((sk_w τ 40 (va_cpy (τ 39) (τ 40) 0 0 60)) 42) 0 0 24)) 1 1)) 2 2 ((sk_u (sk_w (sk_w τ 40 (va_cpy (τ 39) (τ 40) 0 0 60)) 42 (va_cpy ((sk_w τ 40 (va_cpy (τ 39) (τ 40) 0 0 60)) 41) ((sk_w τ 40 (va_cpy (τ 39) (τ 40) 0 0 60)) 42) 0 0 24)) 2 1 ((sk_w (sk_w τ 40 (va_cpy (τ 39) (τ 40) 0 0 60)) 42 (va_cpy ((sk_w τ 40 (va_cpy (τ 39) (τ 40) 0 0 60)) 41) ((sk_w τ 40 (va_cpy (τ 39) (τ 40) 0 0 60)) 42) 0 0 24)) 1 1)) 1 2)) 1 3)) 1 4)) 1 5)) 1 7)) 2 10 ((sk_u (sk_u (sk_u (sk_u (sk_u (sk_u (sk_w (sk_w τ 40 (va_cpy (τ 39) (τ 40) 0 0 60)) 42 (va_cpy ((sk_w τ 40 (va_cpy (τ 39) (τ 40) 0 0 60)) 41) ((sk_w τ 40 (va_cpy (τ 39) (τ 40) 0 0 60)) 42) 0 0 24)) 2 1 ((sk_w (sk_w τ 40 (va_cpy (τ 39) (τ 40) 0 0 60)) 42 (va_cpy ((sk_w τ 40 (va_cpy (τ 39) (τ 40) 0 0 60)) 41) ((sk_w τ 40 (va_cpy (τ 39) (τ 40) 0 0 60)) 42) 0 0 24)) 1 1)) 2 2 ((sk_u (sk_w (sk_w τ 40 (va_cpy (τ 39) (τ 40) 0 0 60)) 42 (va_cpy ((sk_w τ 40 (va_cpy (τ 39) (τ 40) 0 0 60)) 41) ((sk_w τ 40 (va_cpy (τ 39) (τ 40) 0 0 60)) 42) 0 0 24)) 2 1 ((sk_w (sk_w τ 40 (va_cpy (τ 39) (τ 40) 0 0 60)) 42 (va_cpy ((sk_w τ 40 (va_cpy (τ 39) (τ 40) 0 0 60)) 41) ((sk_w τ 40 (va_cpy (τ 39) (τ 40) 0 0 60)) 42) 0 0 24)) 1 1)) 1 2)) 2 3 ((sk_u (sk_u (sk_w (sk_w τ 40 (va_cpy (τ 39) (τ 40) 0 0 60)) 42 (va_cpy ((sk_w τ 40 (va_cpy (τ 39) (τ 40) 0 0 60)) 41) ((sk_w τ 40 (va_cpy (τ 39) (τ 40) 0 0 60)) 42) 0 0 24)) 2 1 ((sk_w (sk_w τ 40 (va_cpy (τ 39) (τ 40) 0 0 60)) 42 (va_cpy ((sk_w τ 40 (va_cpy (τ 39) (τ 40) 0 0 60)) 41) ((sk_w τ 40 (va_cpy (τ 39) (τ 40) 0 0 60)) 42) 0 0 24)) 1 1)) 2 2 ((sk_u (sk_w (sk_w τ 40 (va_cpy (τ 39) (τ 40) 0 0 60)) 42 (va_cpy ((sk_w τ 40 (va_cpy (τ 39) (τ 40) 0 0 60)) 41) ((sk_w τ 40 (va_cpy (τ 39) (τ 40) 0 0 60)) 42) 0 0 24)) 2 1 ((sk_w (sk_w τ 40 (va_cpy (τ 39) (τ 40) 0 0 60)) 42 (va_cpy ((sk_w τ 40 (va_cpy (τ 39) (τ 40) 0 0 60)) 41) ((sk_w τ 40 (va_cpy (τ 39) (τ 40) 0 0 60)) 42) 0 0 24)) 1 1)) 1 2)) 1 3)) 2 4 ((sk_u (sk_u (sk_u (sk_w (sk_w τ 40 (va_cpy (τ 39) (τ 40) 0 0 60)) 42 (va_cpy ((sk_w τ 40 (va_cpy (τ 39) (τ 40) 0 0 60)) 41) ((sk_w τ 40 (va_cpy (τ 39) (τ 40) 0 0 60)) 42) 0 0 24)) 2 1 ((sk_w (sk_w τ 40 (va_cpy (τ 39) (τ 40) 0 0 60)) 42 (va_cpy ((sk_w τ 40 (va_cpy (τ 39) (τ 40) 0 0 60)) 41) ((sk_w τ 40 (va_cpy (τ 39) (τ 40) 0 0 60)) 42) 0 0 24)) 1 1)) 2 2 ((sk_u (sk_w (sk_w τ 40 (va_cpy (τ 39) (τ 40) 0 0 60)) 42 (va_cpy ((sk_w τ 40 (va_cpy (τ 39) (τ 40) 0 0 60)) 41) ((sk_w τ 40 (va_cpy (τ 39) (τ 40) 0 0 60)) 42) 0 0 24)) 2 1 ((sk_w (sk_w τ 40 (va_cpy (τ 39) (τ 40) 0 0 60)) 42 (va_cpy ((sk_w τ 40 (va_cpy (τ 39) (τ 40) 0 0 60)) 41) ((sk_w τ 40 (va_cpy (τ 39) (τ 40) 0 0 60)) 42) 0 0 24)) 1 1)) 1 2)) 2 3 ((sk_u (sk_u (sk_w (sk_w τ 40 (va_cpy (τ 39) (τ 40) 0 0 60)) 42 (va_cpy ((sk_w τ 40 (va_cpy (τ 39) (τ 40) 0 0 60)) 41) ((sk_w τ 40 (va_cpy (τ 39) (τ 40) 0 0 60)) 42) 0 0 24)) 2 1 ((sk_w (sk_w τ 40 (va_cpy (τ 39) (τ 40) 0 0 60)) 42 (va_cpy ((sk_w τ 40 (va_cpy (τ 39) (τ 40) 0 0 60)) 41) ((sk_w τ 40 (va_cpy (τ 39) (τ 40) 0 0 60)) 42) 0 0 24)) 1 1)) 2 2 ((sk_u (sk_w (sk_w τ 40 (va_cpy (τ 39) (τ 40) 0 0 60)) 42 (va_cpy ((sk_w τ 40 (va_cpy (τ 39) (τ 40) 0 0 60)) 41) ((sk_w τ 40 (va_cpy (τ 39) (τ 40) 0 0 60)) 42) 0 0 24)) 2 1 ((sk_w (sk_w τ 40 (va_cpy (τ 39) (τ 40) 0 0 60)) 42 (va_cpy ((sk_w τ 40 (va_cpy (τ 39) (τ 40) 0 0 60)) 41) ((sk_w τ 40 (va_cpy (τ 39) (τ 40) 0 0 60)) 42) 0 0 24)) 1 1)) 1 2)) 1 3)) 1 4)) 2 5 ((sk_u (sk_u (sk_u (sk_u (sk_w (sk_w τ 40 (va_cpy (τ 39) (τ 40) 0 0 60)) 42 (va_cpy ((sk_w τ 40 (va_cpy (τ 39) (τ 40) 0 0 60)) 41) ((sk_w τ 40 (va_cpy (τ 39) (τ 40) 0 0 60)) 42) 0 0 24)) 2 1 ((sk_w (sk_w τ 40 (va_cpy (τ 39) (τ 40) 0 0 60)) 42 (va_cpy ((sk_w τ 40 (va_cpy (τ 39) (τ 40) 0 0 60)) 41) ((sk_w τ 40 (va_cpy (τ 39) (τ 40) 0 0 60)) 42) 0 0 24)) 1 1)) 2 2 ((sk_u (sk_w (sk_w τ 40 (va_cpy (τ 39) (τ 40) 0 0 60)) 42 (va_cpy ((sk_w τ 40 (va_cpy (τ 39) (τ 40) 0 0 60)) 41) ((sk_w τ 40 (va_cpy (τ 39) (τ 40) 0 0 60)) 42) 0 0 24)) 2 1 ((sk_w (sk_w τ 40 (va_cpy (τ 39) (τ 40) 0 0 60)) 42 (va_cpy ((sk_w τ 40 (va_cpy (τ 39) (τ 40) 0 0 60)) 41) ((sk_w τ 40 (va_cpy (τ 39) (τ 40) 0 0 60)) 42) 0 0 24)) 1 1)) 1 2)) 2 3 ((sk_u (sk_u (sk_w (sk_w τ 40 (va_cpy (τ 39) (τ 40) 0 0 60)) 42 (va_cpy ((sk_w τ 40 (va_cpy (τ 39) (τ 40) 0 0 60)) 41) ((sk_w τ 40 (va_cpy (τ 39) (τ 40) 0 0 60)) 42) 0 0 24)) 2 1 ((sk_w (sk_w τ 40 (va_cpy (τ 39) (τ 40) 0 0 60)) 42 (va_cpy ((sk_w τ 40 (va_cpy (τ 39) (τ 40) 0 0 60)) 41) ((sk_w τ 40 (va_cpy (τ 39) (τ 40) 0 0 60)) 42) 0 0 24)) 1 1)) 2 2 ((sk_u (sk_w (sk_w τ 40 (va_cpy (τ 39) (τ 40) 0 0 60)) 42 (va_cpy ((sk_w τ 40 (va_cpy (τ 39) (τ 40) 0 0 60)) 41) ((sk_w τ 40 (va_cpy (τ 39) (τ 40) 0 0 60)) 42) 0 0 24)) 2 1 ((sk_w (sk_w τ 40 (va_cpy (τ 39) (τ 40) 0 0 60)) 42 (va_cpy ((sk_w τ 40 (va_cpy (τ 39) (τ 40) 0 0 60)) 41) ((sk_w τ 40 (va_cpy (τ 39) (τ 40) 0 0 60)) 42) 0 0 24)) 1 1)) 1 2)) 1 3)) 2 4 ((sk_u (sk_u (sk_u (sk_w (sk_w τ 40 (va_cpy (τ 39) (τ 40) 0 0 60)) 42 (va_cpy ((sk_w τ 40 (va_cpy (τ 39) (τ 40) 0 0 60)) 41) ((sk_w τ 40 (va_cpy (τ 39) (τ 40) 0 0 60)) 42) 0 0 24)) 2 1 ((sk_w (sk_w τ 40 (va_cpy (τ 39) (τ 40) 0 0 60)) 42 (va_cpy ((sk_w τ 40 (va_cpy (τ 39) (τ 40) 0 0 60)) 41) ((sk_w τ 40 (va_cpy (τ 39) (τ 40) 0 0 60)) 42) 0 0 24)) 1 1)) 2 2 ((sk_u (sk_w (sk_w τ 40 (va_cpy (τ 39) (τ 40) 0 0 60)) 42 (va_cpy ((sk_w τ 40 (va_cpy (τ 39) (τ 40) 0 0 60)) 41) ((sk_w τ 40 (va_cpy (τ 39) (τ 40) 0 0 60)) 42) 0 0 24)) 2 1 ((sk_w (sk_w τ 40 (va_cpy (τ 39) (τ 40) 0 0 60)) 42 (va_cpy ((sk_w τ 40 (va_cpy (τ 39) (τ 40) 0 0 60)) 41) ((sk_w τ 40 (va_cpy (τ 39) (τ 40) 0 0 60)) 42) 0 0 24)) 1 1)) 1 2)) 2 3 ((sk_u (sk_u (sk_w (sk_w τ 40 (va_cpy (τ 39) (τ 40) 0 0 60)) 42 (va_cpy ((sk_w τ 40 (va_cpy (τ 39) (τ 40) 0 0 60)) 41) ((sk_w τ 40 (va_cpy (τ 39) (τ 40) 0 0 60)) 42) 0 0 24)) 2 1 ((sk_w (sk_w τ 40 (va_cpy (τ 39) (τ 40) 0 0 60)) 42 (va_cpy ((sk_w τ 40 (va_cpy (τ 39) (τ 40) 0 0 60)) 41) ((sk_w τ 40 (va_cpy (τ 39) (τ 40) 0 0 60)) 42) 0 0 24)) 1 1)) 2 2 ((sk_u (sk_w (sk_w τ 40 (va_cpy (τ 39) (τ 40) 0 0 60)) 42 (va_cpy ((sk_w τ 40 (va_cpy (τ 39) (τ 40) 0 0 60)) 41) ((sk_w τ 40 (va_cpy (τ 39) (τ 40) 0 0 60)) 42) 0 0 24)) 2 1 ((sk_w (sk_w τ 40 (va_cpy (τ 39) (τ 40) 0 0 60)) 42 (va_cpy ((sk_w τ 40 (va_cpy (τ 39) (τ 40) 0 0 60)) 41) ((sk_w τ 40 (va_cpy (τ 39) (τ 40) 0 0 60)) 42) 0 0 24)) 1 1)) 1 2)) 1 3)) 1 4)) 1 5)) 2 7 ((sk_u (sk_u (sk_u (sk_u (sk_u (sk_w (sk_w τ 40 (va_cpy (τ 39) (τ 40) 0 0 60)) 42 (va_cpy ((sk_w τ 40 (va_cpy (τ 39) (τ 40) 0 0 60)) 41) ((sk_w τ 40 (va_cpy (τ 39) (τ 40) 0 0 60)) 42) 0 0 24)) 2 1 ((sk_w (sk_w τ 40 (va_cpy (τ 39) (τ 40) 0 0 60)) 42 (va_cpy ((sk_w τ 40 (va_cpy (τ 39) (τ 40) 0 0 60)) 41) ((sk_w τ 40 (va_cpy (τ 39) (τ 40) 0 0 60)) 42) 0 0 24)) 1 1)) 2 2 ((sk_u (sk_w (sk_w τ 40 (va_cpy (τ 39) (τ 40) 0 0 60)) 42 (va_cpy ((sk_w τ 40 (va_cpy (τ 39) (τ 40) 0 0 60)) 41) ((sk_w τ 40 (va_cpy (τ 39) (τ 40) 0 0 60)) 42) 0 0 24)) 2 1 ((sk_w (sk_w τ 40 (va_cpy (τ 39) (τ 40) 0 0 60)) 42 (va_cpy ((sk_w τ 40 (va_cpy (τ 39) (τ 40) 0 0 60)) 41) ((sk_w τ 40 (va_cpy (τ 39) (τ 40) 0 0 60)) 42) 0 0 24)) 1 1)) 1 2)) 2 3 ((sk_u (sk_u (sk_w (sk_w τ 40 (va_cpy (τ 39) (τ 40) 0 0 60)) 42 (va_cpy ((sk_w τ 40 (va_cpy (τ 39) (τ 40) 0 0 60)) 41) ((sk_w τ 40 (va_cpy (τ 39) (τ 40) 0 0 60)) 42) 0 0 24)) 2 1 ((sk_w (sk_w τ 40 (va_cpy (τ 39) (τ 40) 0 0 60)) 42 (va_cpy ((sk_w τ 40 (va_cpy (τ 39) (τ 40) 0 0 60)) 41) ((sk_w τ 40 (va_cpy (τ 39) (τ 40) 0 0 60)) 42) 0 0 24)) 1 1)) 2 2 ((sk_u (sk_w (sk_w τ 40 (va_cpy (τ 39) (τ 40) 0 0 60)) 42 (va_cpy ((sk_w τ 40 (va_cpy (τ 39) (τ 40) 0 0 60)) 41) ((sk_w τ 40 (va_cpy (τ 39) (τ 40) 0 0 60)) 42) 0 0 24)) 2 1 ((sk_w (sk_w τ 40 (va_cpy (τ 39) (τ 40) 0 0 60)) 42 (va_cpy ((sk_w τ 40 (va_cpy (τ 39) (τ 40) 0 0 60)) 41) ((sk_w τ 40 (va_cpy (τ 39) (τ 40) 0 0 60)) 42) 0 0 24)) 1 1)) 1 2)) 1 3)) 2 4 ((sk_u (sk_u (sk_u (sk_w (sk_w τ 40 (va_cpy (τ 39) (τ 40) 0 0 60)) 42 (va_cpy ((sk_w τ 40 (va_cpy (τ 39) (τ 40) 0 0 60)) 41) ((sk_w τ 40 (va_cpy (τ 39) (τ 40) 0 0 60)) 42) 0 0 24)) 2 1 ((sk_w (sk_w τ 40 (va_cpy (τ 39) (τ 40) 0 0 60)) 42 (va_cpy ((sk_w τ 40 (va_cpy (τ 39) (τ 40) 0 0 60)) 41) ((sk_w τ 40 (va_cpy (τ 39) (τ 40) 0 0 60)) 42) 0 0 24)) 1 1)) 2 2 ((sk_u (sk_w (sk_w τ 40 (va_cpy (τ 39) (τ 40) 0 0 60)) 42 (va_cpy ((sk_w τ 40 (va_cpy (τ 39) (τ 40) 0 0 60)) 41) ((sk_w τ 40 (va_cpy (τ 39) (τ 40) 0 0 60)) 42) 0 0 24)) 2 1 ((sk_w (sk_w τ 40 (va_cpy (τ 39) (τ 40) 0 0 60)) 42 (va_cpy ((sk_w τ 40 (va_cpy (τ 39) (τ 40) 0 0 60)) 41) ((sk_w τ 40 (va_cpy (τ 39) (τ 40) 0 0 60)) 42) 0 0 24)) 1 1)) 1 2)) 2 3 ((sk_u (sk_u (sk_w (sk_w τ 40 (va_cpy (τ 39) (τ 40) 0 0 60)) 42 (va_cpy ((sk_w τ 40 (va_cpy (τ 39) (τ 40) 0 0 60)) 41) ((sk_w τ 40 (va_cpy (τ 39) (τ 40) 0 0 60)) 42) 0 0 24)) 2 1 ((sk_w (sk_w τ 40 (va_cpy (τ 39) (τ 40) 0 0 60)) 42 (va_cpy ((sk_w τ 40 (va_cpy (τ 39) (τ 40) 0 0 60)) 41) ((sk_w τ 40 (va_cpy (τ 39) (τ 40) 0 0 60)) 42) 0 0 24)) 1 1)) 2 2 ((sk_u (sk_w (sk_w τ 40 (va_cpy (τ 39) (τ 40) 0 0 60)) 42 (va_cpy ((sk_w τ 40 (va_cpy (τ 39) (τ 40) 0 0 60)) 41) ((sk_w τ 40 (va_cpy (τ 39) (τ 40) 0 0 60)) 42) 0 0 24)) 2 1 ((sk_w (sk_w τ 40 (va_cpy (τ 39) (τ 40) 0 0 60)) 42 (va_cpy ((sk_w τ 40 (va_cpy (τ 39) (τ 40) 0 0 60)) 41) ((sk_w τ 40 (va_cpy (τ 39) (τ 40) 0 0 60)) 42) 0 0 24)) 1 1)) 1 2)) 1 3)) 1 4)) 2 5 ((sk_u (sk_u (sk_u (sk_u (sk_w (sk_w τ 40 (va_cpy (τ 39) (τ 40) 0 0 60)) 42 (va_cpy ((sk_w τ 40 (va_cpy (τ 39) (τ 40) 0 0 60)) 41) ((sk_w τ 40 (va_cpy (τ 39) (τ 40) 0 0 60)) 42) 0 0 24)) 2 1 ((sk_w (sk_w τ 40 (va_cpy (τ 39) (τ 40) 0 0 60)) 42 (va_cpy ((sk_w τ 40 (va_cpy (τ 39) (τ 40) 0 0 60)) 41) ((sk_w τ 40 (va_cpy (τ 39) (τ 40) 0 0 60)) 42) 0 0 24)) 1 1)) 2 2 ((sk_u (sk_w (sk_w τ 40 (va_cpy (τ 39) (τ 40) 0 0 60)) 42 (va_cpy ((sk_w τ 40 (va_cpy (τ 39) (τ 40) 0 0 60)) 41) ((sk_w τ 40 (va_cpy (τ 39) (τ 40) 0 0 60)) 42) 0 0 24)) 2 1 ((sk_w (sk_w τ 40 (va_cpy (τ 39) (τ 40) 0 0 60)) 42 (va_cpy ((sk_w τ 40 (va_cpy (τ 39) (τ 40) 0 0 60)) 41) ((sk_w τ 40 (va_cpy (τ 39) (τ 40) 0 0 60)) 42) 0 0 24)) 1 1)) 1 2)) 2 3 ((sk_u (sk_u (sk_w (sk_w τ 40 (va_cpy (τ 39) (τ 40) 0 0 60)) 42 (va_cpy ((sk_w τ 40 (va_cpy (τ 39) (τ 40) 0 0 60)) 41) ((sk_w τ 40 (va_cpy (τ 39) (τ 40) 0 0 60)) 42) 0 0 24)) 2 1 ((sk_w (sk_w τ 40 (va_cpy (τ 39) (τ 40) 0 0 60)) 42 (va_cpy ((sk_w τ 40 (va_cpy (τ 39) (τ 40) 0 0 60)) 41) ((sk_w τ 40 (va_cpy (τ 39) (τ 40) 0 0 60)) 42) 0 0 24)) 1 1)) 2 2 ((sk_u (sk_w (sk_w τ 40 (va_cpy (τ 39) (τ 40) 0 0 60)) 42 (va_cpy ((sk_w τ 40 (va_cpy (τ 39) (τ 40) 0 0 60)) 41) ((sk_w τ 40 (va_cpy (τ 39) (τ 40) 0 0 60)) 42) 0 0 24)) 2 1 ((sk_w (sk_w τ 40 (va_cpy (τ 39) (τ 40) 0 0 60)) 42 (va_cpy ((sk_w τ 40 (va_cpy (τ 39) (τ 40) 0 0 60)) 41) ((sk_w τ 40 (va_cpy (τ 39) (τ 40) 0 0 60)) 42) 0 0 24)) 1 1)) 1 2)) 1 3)) 2 4 ((sk_u (sk_u (sk_u (sk_w (sk_w τ 40 (va_cpy (τ 39) (τ 40) 0 0 60)) 42 (va_cpy ((sk_w τ 40 (va_cpy (τ 39) (τ 40) 0 0 60)) 41) ((sk_w τ 40 (va_cpy (τ 39) (τ 40) 0 0 60)) 42) 0 0 24)) 2 1 ((sk_w (sk_w τ 40 (va_cpy (τ 39) (τ 40) 0 0 60)) 42 (va_cpy ((sk_w τ 40 (va_cpy (τ 39) (τ 40) 0 0 60)) 41) ((sk_w τ 40 (va_cpy (τ 39) (τ 40) 0 0 60)) 42) 0 0 24)) 1 1)) 2 2 ((sk_u (sk_w (sk_w τ 40 (va_cpy (τ 39) (τ 40) 0 0 60)) 42 (va_cpy ((sk_w τ 40 (va_cpy (τ 39) (τ 40) 0 0 60)) 41) ((sk_w τ 40 (va_cpy (τ 39) (τ 40) 0 0 60)) 42) 0 0 24)) 2 1 ((sk_w (sk_w τ 40 (va_cpy (τ 39) (τ 40) 0 0 60)) 42 (va_cpy ((sk_w τ 40 (va_cpy (τ 39) (τ 40) 0 0 60)) 41) ((sk_w τ 40 (va_cpy (τ 39) (τ 40) 0 0 60)) 42) 0 0 24)) 1 1)) 1 2)) 2 3 ((sk_u (sk_u (sk_w (sk_w τ 40 (va_cpy (τ 39) (τ 40) 0 0 60)) 42 (va_cpy ((sk_w τ 40 (va_cpy (τ 39) (τ 40) 0 0 60)) 41) ((sk_w τ 40 (va_cpy (τ 39) (τ 40) 0 0 60)) 42) 0 0 24)) 2 1 ((sk_w (sk_w τ 40 (va_cpy (τ 39) (τ 40) 0 0 60)) 42 (va_cpy ((sk_w τ 40 (va_cpy (τ 39) (τ 40) 0 0 60)) 41) ((sk_w τ 40 (va_cpy (τ 39) (τ 40) 0 0 60)) 42) 0 0 24)) 1 1)) 2 2 ((sk_u (sk_w (sk_w τ 40 (va_cpy (τ 39) (τ 40) 0 0 60)) 42 (va_cpy ((sk_w τ 40 (va_cpy (τ 39) (τ 40) 0 0 60)) 41) ((sk_w τ 40 (va_cpy (τ 39) (τ 40) 0 0 60)) 42) 0 0 24)) 2 1 ((sk_w (sk_w τ 40 (va_cpy (τ 39) (τ 40) 0 0 60)) 42 (va_cpy ((sk_w τ 40 (va_cpy (τ 39) (τ 40) 0 0 60)) 41) ((sk_w τ 40 (va_cpy (τ 39) (τ 40) 0 0 60)) 42) 0 0 24)) 1 1)) 1 2)) 1 3)) 1 4)) 1 5)) 1 7)) 1 10))
    ) ∧
    (¬ 2 ≤ v2 →
      vp_in v2 2 ∧
      vp_in v2 2 ∧
      sk_C sk_Sc (d - 1) mX1_copy [.ref (25 + v2.toNatClampNeg), .ref (23 + v2.toNatClampNeg)] τ (fun w t48 => w = none ∧
        sk_G sk_Sc d mX3_copy 31 [(0, .ref 2), (1, .ref 1), (2, .int (v2 + 1))] [] t48 K
      )
    ))) :
  sk_G sk_Sc d mX3_copy 31 [(0, .ref 2), (1, .ref 1), (2, .int v2)] [] τ K := by
  refine sk_iload_n 2 32 dX3_copy_31 rfl rfl rfl ?_
  refine sk_iconst (v := 2) 33 dX3_copy_32 rfl (by decide) ?_
  refine sk_icmp_ge 57 36 dX3_copy_33 (by decide) rfl (fun hc => ?_) (fun hc => ?_)
  · have h := h.1 hc
    refine sk_aload_n 1 58 dX3_copy_57 rfl rfl rfl ?_
    refine sk_getR (r := 39) 61 dX3_copy_58 rfl lfX3_33 sc_1 rfl ?_
    refine sk_iconst (v := 0) 62 dX3_copy_61 rfl (by decide) ?_
    refine sk_aload_n 0 63 dX3_copy_62 rfl rfl rfl ?_
    refine sk_getR (r := 40) 66 dX3_copy_63 rfl lfX3_33 sc_2 rfl ?_
    refine sk_iconst (v := 0) 67 dX3_copy_66 rfl (by decide) ?_
    refine sk_bipush (v := 60) 69 dX3_copy_67 rfl (by decide) ?_
    refine sk_copyB 72 dX3_copy_69 rfl lkX3_64 lk_ac sc_39 sc_40 (by decide) (by decide) (by decide) (by decide) (by decide) (by simp [Value.category]) hd0 ?_
    refine sk_aload_n 1 73 dX3_copy_72 rfl rfl rfl ?_
    refine sk_getR (r := 41) 76 dX3_copy_73 rfl lfX3_46 sc_1 rfl ?_
    refine sk_iconst (v := 0) 77 dX3_copy_76 rfl (by decide) ?_
    refine sk_aload_n 0 78 dX3_copy_77 rfl rfl rfl ?_
    refine sk_getR (r := 42) 81 dX3_copy_78 rfl lfX3_46 sc_2 rfl ?_
    refine sk_iconst (v := 0) 82 dX3_copy_81 rfl (by decide) ?_
    refine sk_bipush (v := 24) 84 dX3_copy_82 rfl (by decide) ?_
    refine sk_copyI 87 dX3_copy_84 rfl lkX3_64 lk_ac sc_41 sc_42 (by decide) (by decide) (by decide) (by decide) (by decide) (by simp [Value.category]) hd0 ?_
    refine sk_aload_n 0 88 dX3_copy_87 rfl rfl rfl ?_
    refine sk_aload_n 1 89 dX3_copy_88 rfl rfl rfl ?_
    refine sk_getI 92 dX3_copy_89 rfl lfX3_17 sc_1 rfl ?_
    refine sk_putI 95 dX3_copy_92 rfl lpX3_17 sc_2 rfl ?_
    refine sk_aload_n 0 96 dX3_copy_95 rfl rfl rfl ?_
    refine sk_aload_n 1 97 dX3_copy_96 rfl rfl rfl ?_
    refine sk_getI 100 dX3_copy_97 rfl lfX3_21 sc_1 rfl ?_
    refine sk_putI 103 dX3_copy_100 rfl lpX3_21 sc_2 rfl ?_
    refine sk_aload_n 0 104 dX3_copy_103 rfl rfl rfl ?_
    refine sk_aload_n 1 105 dX3_copy_104 rfl rfl rfl ?_
    refine sk_getI 108 dX3_copy_105 rfl lfX3_24 sc_1 rfl ?_
    refine sk_putI 111 dX3_copy_108 rfl lpX3_24 sc_2 rfl ?_
    refine sk_aload_n 0 112 dX3_copy_111 rfl rfl rfl ?_
    refine sk_aload_n 1 113 dX3_copy_112 rfl rfl rfl ?_
    refine sk_getI 116 dX3_copy_113 rfl lfX3_27 sc_1 rfl ?_
    refine sk_putI 119 dX3_copy_116 rfl lpX3_27 sc_2 rfl ?_
    refine sk_aload_n 0 120 dX3_copy_119 rfl rfl rfl ?_
    refine sk_aload_n 1 121 dX3_copy_120 rfl rfl rfl ?_
    refine sk_getI 124 dX3_copy_121 rfl lfX3_30 sc_1 rfl ?_
    refine sk_putI 127 dX3_copy_124 rfl lpX3_30 sc_2 rfl ?_
    refine sk_aload_n 0 128 dX3_copy_127 rfl rfl rfl ?_
    refine sk_aload_n 1 129 dX3_copy_128 rfl rfl rfl ?_
    refine sk_getI 132 dX3_copy_129 rfl lfX3_37 sc_1 rfl ?_
    refine sk_putI 135 dX3_copy_132 rfl lpX3_37 sc_2 rfl ?_
    refine sk_aload_n 0 136 dX3_copy_135 rfl rfl rfl ?_
    refine sk_aload_n 1 137 dX3_copy_136 rfl rfl rfl ?_
    refine sk_getI 140 dX3_copy_137 rfl lfX3_50 sc_1 rfl ?_
    refine sk_putI 143 dX3_copy_140 rfl lpX3_50 sc_2 rfl ?_
    exact sk_vret dX3_copy_143 rfl h
  · have h := h.2 hc
    refine sk_aload_n 0 37 dX3_copy_36 rfl rfl rfl ?_
    refine sk_getR (r := 38) 40 dX3_copy_37 rfl lfX3_42 sc_2 rfl ?_
    refine sk_iload_n 2 41 dX3_copy_40 rfl rfl rfl ?_
    have hb41 := h.1
    have h := h.2
    refine sk_aald 42 dX3_copy_41 rfl sc_38 (by decide) hb41 _ rfl (r := (25 + v2.toNatClampNeg)) (sk_ll0K hb41) ?_
    refine sk_aload_n 1 43 dX3_copy_42 rfl rfl rfl ?_
    refine sk_getR (r := 37) 46 dX3_copy_43 rfl lfX3_42 sc_1 rfl ?_
    refine sk_iload_n 2 47 dX3_copy_46 rfl rfl rfl ?_
    have hb47 := h.1
    have h := h.2
    refine sk_aald 48 dX3_copy_47 rfl sc_37 (by decide) hb47 _ rfl (r := (23 + v2.toNatClampNeg)) (sk_ll0 hb47) ?_
    refine sk_callVv [.ref (23 + v2.toNatClampNeg)] [] 51 dX3_copy_48 rfl mfX1_copy lkX3_61 miX1_copy msX1_copy (sk_lawAtK hb41) rfl rfl rfl rfl (by simp [Value.category]) hd0 (sk_Cm h ?_)
    rintro w t48 ⟨hw, h⟩
    refine ⟨hw, ?_⟩
    refine sk_iinc (v := (v2 + 1)) (lv2 := [(2, .int (v2 + 1)), (0, .ref 2), (1, .ref 1)]) 2 54 dX3_copy_51 rfl rfl rfl (by decide) rfl ?_
    refine sk_goto 31 dX3_copy_54 (by decide) ?_
    refine sk_perm (lv2 := [(0, .ref 2), (1, .ref 1), (2, .int (v2 + 1))]) [1, 2, 0] rfl ?_
    exact h

theorem wX3_copyN {d : Nat} {τ : sk_T} {K : sk_K}
  (h : sk_G sk_Sc d mX3_copy 2 [(0, .ref 1), (1, .ref 2), (2, .int 0)] [] τ K) :
  sk_C sk_Sc d mX3_copy [.ref 1, .ref 2] τ K := by
  refine sk_enter mfX3_copy (Nat.le_of_ble_eq_true rfl) ?_
  show sk_G sk_Sc d mX3_copy 0 [(0, .ref 1), (1, .ref 2)] [] τ K
  refine sk_iconst (v := 0) 1 dX3_copy_0 rfl (by decide) ?_
  refine sk_istore_n (lv2 := [(2, .int 0), (0, .ref 1), (1, .ref 2)]) 2 dX3_copy_1 rfl rfl (by decide) rfl ?_
  refine sk_perm (lv2 := [(0, .ref 1), (1, .ref 2), (2, .int 0)]) [1, 2, 0] rfl ?_
  exact h

theorem bX3_copyN_2 {d : Nat} {τ : sk_T} {K : sk_K} {v2 : Int32} (hd0 : 0 < d)
  (h : ((10 ≤ v2 →
      sk_G sk_Sc d mX3_copy 31 [(0, .ref 1), (1, .ref 2), (2, .int 0)] [] τ K
    ) ∧
    (¬ 10 ≤ v2 →
      vp_in v2 10 ∧
      vp_in v2 10 ∧
      sk_C sk_Sc (d - 1) mX5_copy [.ref (3 + v2.toNatClampNeg), .ref (13 + v2.toNatClampNeg)] τ (fun w t20 => w = none ∧
        sk_G sk_Sc d mX3_copy 2 [(0, .ref 1), (1, .ref 2), (2, .int (v2 + 1))] [] t20 K
      )
    ))) :
  sk_G sk_Sc d mX3_copy 2 [(0, .ref 1), (1, .ref 2), (2, .int v2)] [] τ K := by
  refine sk_iload_n 2 3 dX3_copy_2 rfl rfl rfl ?_
  refine sk_bipush (v := 10) 5 dX3_copy_3 rfl (by decide) ?_
  refine sk_icmp_ge 29 8 dX3_copy_5 (by decide) rfl (fun hc => ?_) (fun hc => ?_)
  · have h := h.1 hc
    refine sk_iconst (v := 0) 30 dX3_copy_29 rfl (by decide) ?_
    refine sk_istore_n (lv2 := [(2, .int 0), (0, .ref 1), (1, .ref 2)]) 31 dX3_copy_30 rfl rfl (by decide) rfl ?_
    refine sk_perm (lv2 := [(0, .ref 1), (1, .ref 2), (2, .int 0)]) [1, 2, 0] rfl ?_
    exact h
  · have h := h.2 hc
    refine sk_aload_n 0 9 dX3_copy_8 rfl rfl rfl ?_
    refine sk_getR (r := 35) 12 dX3_copy_9 rfl lfX3_11 sc_1 rfl ?_
    refine sk_iload_n 2 13 dX3_copy_12 rfl rfl rfl ?_
    have hb13 := h.1
    have h := h.2
    refine sk_aald 14 dX3_copy_13 rfl sc_35 (by decide) hb13 _ rfl (r := (3 + v2.toNatClampNeg)) (sk_tl0 hb13) ?_
    refine sk_aload_n 1 15 dX3_copy_14 rfl rfl rfl ?_
    refine sk_getR (r := 36) 18 dX3_copy_15 rfl lfX3_11 sc_2 rfl ?_
    refine sk_iload_n 2 19 dX3_copy_18 rfl rfl rfl ?_
    have hb19 := h.1
    have h := h.2
    refine sk_aald 20 dX3_copy_19 rfl sc_36 (by decide) hb19 _ rfl (r := (13 + v2.toNatClampNeg)) (sk_tl0K hb19) ?_
    refine sk_callVv [.ref (13 + v2.toNatClampNeg)] [] 23 dX3_copy_20 rfl mfX5_copy lkX3_57 miX5_copy msX5_copy (sk_tileAt hb13) rfl rfl rfl rfl (by simp [Value.category]) hd0 (sk_Cm h ?_)
    rintro w t20 ⟨hw, h⟩
    refine ⟨hw, ?_⟩
    refine sk_iinc (v := (v2 + 1)) (lv2 := [(2, .int (v2 + 1)), (0, .ref 1), (1, .ref 2)]) 2 26 dX3_copy_23 rfl rfl rfl (by decide) rfl ?_
    refine sk_goto 2 dX3_copy_26 (by decide) ?_
    refine sk_perm (lv2 := [(0, .ref 1), (1, .ref 2), (2, .int (v2 + 1))]) [1, 2, 0] rfl ?_
    exact h

theorem bX3_copyN_31 {d : Nat} {τ : sk_T} {K : sk_K} {v2 : Int32} (hd0 : 0 < d)
  (h : ((2 ≤ v2 →
      K none (sk_u (sk_u (sk_u (sk_u (sk_u (sk_u (sk_u (sk_w (sk_w τ 39 (va_cpy (τ 40) (τ 39) 0 0 60)) 41 (va_cpy ((sk_w τ 39 (va_cpy (τ 40) (τ 39) 0 0 60)) 42) ((sk_w τ 39 (va_cpy (τ 40) (τ 39) 0 0 60)) 41) 0 0 24)) 1 1 ((sk_w (sk_w τ 39 (va_cpy (τ 40) (τ 39) 0 0 60)) 41 (va_cpy ((sk_w τ 39 (va_cpy (τ 40) (τ 39) 0 0 60)) 42) ((sk_w τ 39 (va_cpy (τ 40) (τ 39) 0 0 60)) 41) 0 0 24)) 2 1)) 1 2 ((sk_u (sk_w (sk_w τ 39 (va_cpy (τ 40) (τ 39) 0 0 60)) 41 (va_cpy ((sk_w τ 39 (va_cpy (τ 40) (τ 39) 0 0 60)) 42) ((sk_w τ 39 (va_cpy (τ 40) (τ 39) 0 0 60)) 41) 0 0 24)) 1 1 ((sk_w (sk_w τ 39 (va_cpy (τ 40) (τ 39) 0 0 60)) 41 (va_cpy ((sk_w τ 39 (va_cpy (τ 40) (τ 39) 0 0 60)) 42) ((sk_w τ 39 (va_cpy (τ 40) (τ 39) 0 0 60)) 41) 0 0 24)) 2 1)) 2 2)) 1 3 ((sk_u (sk_u (sk_w (sk_w τ 39 (va_cpy (τ 40) (τ 39) 0 0 60)) 41 (va_cpy ((sk_w τ 39 (va_cpy (τ 40) (τ 39) 0 0 60)) 42) ((sk_w τ 39 (va_cpy (τ 40) (τ 39) 0 0 60)) 41) 0 0 24)) 1 1 ((sk_w (sk_w τ 39 (va_cpy (τ 40) (τ 39) 0 0 60)) 41 (va_cpy ((sk_w τ 39 (va_cpy (τ 40) (τ 39) 0 0 60)) 42) ((sk_w τ 39 (va_cpy (τ 40) (τ 39) 0 0 60)) 41) 0 0 24)) 2 1)) 1 2 ((sk_u (sk_w (sk_w τ 39 (va_cpy (τ 40) (τ 39) 0 0 60)) 41 (va_cpy ((sk_w τ 39 (va_cpy (τ 40) (τ 39) 0 0 60)) 42) ((sk_w τ 39 (va_cpy (τ 40) (τ 39) 0 0 60)) 41) 0 0 24)) 1 1 ((sk_w (sk_w τ 39 (va_cpy (τ 40) (τ 39) 0 0 60)) 41 (va_cpy ((sk_w τ 39 (va_cpy (τ 40) (τ 39) 0 0 60)) 42) ((sk_w τ 39 (va_cpy (τ 40) (τ 39) 0 0 60)) 41) 0 0 24)) 2 1)) 2 2)) 2 3)) 1 4 ((sk_u (sk_u (sk_u (sk_w (sk_w τ 39 (va_cpy (τ 40) (τ 39) 0 0 60)) 41 (va_cpy ((sk_w τ 39 (va_cpy (τ 40) (τ 39) 0 0 60)) 42) ((sk_w τ 39 (va_cpy (τ 40) (τ 39) 0 0 60)) 41) 0 0 24)) 1 1 ((sk_w (sk_w τ 39 (va_cpy (τ 40) (τ 39) 0 0 60)) 41 (va_cpy ((sk_w τ 39 (va_cpy (τ 40) (τ 39) 0 0 60)) 42) ((sk_w τ 39 (va_cpy (τ 40) (τ 39) 0 0 60)) 41) 0 0 24)) 2 1)) 1 2 ((sk_u (sk_w (sk_w τ 39 (va_cpy (τ 40) (τ 39) 0 0 60)) 41 (va_cpy ((sk_w τ 39 (va_cpy (τ 40) (τ 39) 0 0 60)) 42) ((sk_w τ 39 (va_cpy (τ 40) (τ 39) 0 0 60)) 41) 0 0 24)) 1 1 ((sk_w (sk_w τ 39 (va_cpy (τ 40) (τ 39) 0 0 60)) 41 (va_cpy ((sk_w τ 39 (va_cpy (τ 40) (τ 39) 0 0 60)) 42) ((sk_w τ 39 (va_cpy (τ 40) (τ 39) 0 0 60)) 41) 0 0 24)) 2 1)) 2 2)) 1 3 ((sk_u (sk_u (sk_w (sk_w τ 39 (va_cpy (τ 40) (τ 39) 0 0 60)) 41 (va_cpy ((sk_w τ 39 (va_cpy (τ 40) (τ 39) 0 0 60)) 42) ((sk_w τ 39 (va_cpy (τ 40) (τ 39) 0 0 60)) 41) 0 0 24)) 1 1 ((sk_w (sk_w τ 39 (va_cpy (τ 40) (τ 39) 0 0 60)) 41 (va_cpy ((sk_w τ 39 (va_cpy (τ 40) (τ 39) 0 0 60)) 42) ((sk_w τ 39 (va_cpy (τ 40) (τ 39) 0 0 60)) 41) 0 0 24)) 2 1)) 1 2 ((sk_u (sk_w (sk_w τ 39 (va_cpy (τ 40) (τ 39) 0 0 60)) 41 (va_cpy ((sk_w τ 39 (va_cpy (τ 40) (τ 39) 0 0 60)) 42) ((sk_w τ 39 (va_cpy (τ 40) (τ 39) 0 0 60)) 41) 0 0 24)) 1 1 ((sk_w (sk_w τ 39 (va_cpy (τ 40) (τ 39) 0 0 60)) 41 (va_cpy ((sk_w τ 39 (va_cpy (τ 40) (τ 39) 0 0 60)) 42) ((sk_w τ 39 (va_cpy (τ 40) (τ 39) 0 0 60)) 41) 0 0 24)) 2 1)) 2 2)) 2 3)) 2 4)) 1 5 ((sk_u (sk_u (sk_u (sk_u (sk_w (sk_w τ 39 (va_cpy (τ 40) (τ 39) 0 0 60)) 41 (va_cpy ((sk_w τ 39 (va_cpy (τ 40) (τ 39) 0 0 60)) 42) ((sk_w τ 39 (va_cpy (τ 40) (τ 39) 0 0 60)) 41) 0 0 24)) 1 1 ((sk_w (sk_w τ 39 (va_cpy (τ 40) (τ 39) 0 0 60)) 41 (va_cpy ((sk_w τ 39 (va_cpy (τ 40) (τ 39) 0 0 60)) 42) ((sk_w τ 39 (va_cpy (τ 40) (τ 39) 0 0 60)) 41) 0 0 24)) 2 1)) 1 2 ((sk_u (sk_w (sk_w τ 39 (va_cpy (τ 40) (τ 39) 0 0 60)) 41 (va_cpy ((sk_w τ 39 (va_cpy (τ 40) (τ 39) 0 0 60)) 42) ((sk_w τ 39 (va_cpy (τ 40) (τ 39) 0 0 60)) 41) 0 0 24)) 1 1 ((sk_w (sk_w τ 39 (va_cpy (τ 40) (τ 39) 0 0 60)) 41 (va_cpy ((sk_w τ 39 (va_cpy (τ 40) (τ 39) 0 0 60)) 42) ((sk_w τ 39 (va_cpy (τ 40) (τ 39) 0 0 60)) 41) 0 0 24)) 2 1)) 2 2)) 1 3 ((sk_u (sk_u (sk_w (sk_w τ 39 (va_cpy (τ 40) (τ 39) 0 0 60)) 41 (va_cpy ((sk_w τ 39 (va_cpy (τ 40) (τ 39) 0 0 60)) 42) ((sk_w τ 39 (va_cpy (τ 40) (τ 39) 0 0 60)) 41) 0 0 24)) 1 1 ((sk_w (sk_w τ 39 (va_cpy (τ 40) (τ 39) 0 0 60)) 41 (va_cpy ((sk_w τ 39 (va_cpy (τ 40) (τ 39) 0 0 60)) 42) ((sk_w τ 39 (va_cpy (τ 40) (τ 39) 0 0 60)) 41) 0 0 24)) 2 1)) 1 2 ((sk_u (sk_w (sk_w τ 39 (va_cpy (τ 40) (τ 39) 0 0 60)) 41 (va_cpy ((sk_w τ 39 (va_cpy (τ 40) (τ 39) 0 0 60)) 42) ((sk_w τ 39 (va_cpy (τ 40) (τ 39) 0 0 60)) 41) 0 0 24)) 1 1 ((sk_w (sk_w τ 39 (va_cpy (τ 40) (τ 39) 0 0 60)) 41 (va_cpy ((sk_w τ 39 (va_cpy (τ 40) (τ 39) 0 0 60)) 42) ((sk_w τ 39 (va_cpy (τ 40) (τ 39) 0 0 60)) 41) 0 0 24)) 2 1)) 2 2)) 2 3)) 1 4 ((sk_u (sk_u (sk_u (sk_w (sk_w τ 39 (va_cpy (τ 40) (τ 39) 0 0 60)) 41 (va_cpy ((sk_w τ 39 (va_cpy (τ 40) (τ 39) 0 0 60)) 42) ((sk_w τ 39 (va_cpy (τ 40) (τ 39) 0 0 60)) 41) 0 0 24)) 1 1 ((sk_w (sk_w τ 39 (va_cpy (τ 40) (τ 39) 0 0 60)) 41 (va_cpy ((sk_w τ 39 (va_cpy (τ 40) (τ 39) 0 0 60)) 42) ((sk_w τ 39 (va_cpy (τ 40) (τ 39) 0 0 60)) 41) 0 0 24)) 2 1)) 1 2 ((sk_u (sk_w (sk_w τ 39 (va_cpy (τ 40) (τ 39) 0 0 60)) 41 (va_cpy ((sk_w τ 39 (va_cpy (τ 40) (τ 39) 0 0 60)) 42) ((sk_w τ 39 (va_cpy (τ 40) (τ 39) 0 0 60)) 41) 0 0 24)) 1 1 ((sk_w (sk_w τ 39 (va_cpy (τ 40) (τ 39) 0 0 60)) 41 (va_cpy ((sk_w τ 39 (va_cpy (τ 40) (τ 39) 0 0 60)) 42) ((sk_w τ 39 (va_cpy (τ 40) (τ 39) 0 0 60)) 41) 0 0 24)) 2 1)) 2 2)) 1 3 ((sk_u (sk_u (sk_w (sk_w τ 39 (va_cpy (τ 40) (τ 39) 0 0 60)) 41 (va_cpy ((sk_w τ 39 (va_cpy (τ 40) (τ 39) 0 0 60)) 42) ((sk_w τ 39 (va_cpy (τ 40) (τ 39) 0 0 60)) 41) 0 0 24)) 1 1 ((sk_w (sk_w τ 39 (va_cpy (τ 40) (τ 39) 0 0 60)) 41 (va_cpy ((sk_w τ 39 (va_cpy (τ 40) (τ 39) 0 0 60)) 42) ((sk_w τ 39 (va_cpy (τ 40) (τ 39) 0 0 60)) 41) 0 0 24)) 2 1)) 1 2 ((sk_u (sk_w (sk_w τ 39 (va_cpy (τ 40) (τ 39) 0 0 60)) 41 (va_cpy ((sk_w τ 39 (va_cpy (τ 40) (τ 39) 0 0 60)) 42) ((sk_w τ 39 (va_cpy (τ 40) (τ 39) 0 0 60)) 41) 0 0 24)) 1 1 ((sk_w (sk_w τ 39 (va_cpy (τ 40) (τ 39) 0 0 60)) 41 (va_cpy ((sk_w τ 39 (va_cpy (τ 40) (τ 39) 0 0 60)) 42) ((sk_w τ 39 (va_cpy (τ 40) (τ 39) 0 0 60)) 41) 0 0 24)) 2 1)) 2 2)) 2 3)) 2 4)) 2 5)) 1 7 ((sk_u (sk_u (sk_u (sk_u (sk_u (sk_w (sk_w τ 39 (va_cpy (τ 40) (τ 39) 0 0 60)) 41 (va_cpy ((sk_w τ 39 (va_cpy (τ 40) (τ 39) 0 0 60)) 42) ((sk_w τ 39 (va_cpy (τ 40) (τ 39) 0 0 60)) 41) 0 0 24)) 1 1 ((sk_w (sk_w τ 39 (va_cpy (τ 40) (τ 39) 0 0 60)) 41 (va_cpy ((sk_w τ 39 (va_cpy (τ 40) (τ 39) 0 0 60)) 42) ((sk_w τ 39 (va_cpy (τ 40) (τ 39) 0 0 60)) 41) 0 0 24)) 2 1)) 1 2 ((sk_u (sk_w (sk_w τ 39 (va_cpy (τ 40) (τ 39) 0 0 60)) 41 (va_cpy ((sk_w τ 39 (va_cpy (τ 40) (τ 39) 0 0 60)) 42) ((sk_w τ 39 (va_cpy (τ 40) (τ 39) 0 0 60)) 41) 0 0 24)) 1 1 ((sk_w (sk_w τ 39 (va_cpy (τ 40) (τ 39) 0 0 60)) 41 (va_cpy ((sk_w τ 39 (va_cpy (τ 40) (τ 39) 0 0 60)) 42) ((sk_w τ 39 (va_cpy (τ 40) (τ 39) 0 0 60)) 41) 0 0 24)) 2 1)) 2 2)) 1 3 ((sk_u (sk_u (sk_w (sk_w τ 39 (va_cpy (τ 40) (τ 39) 0 0 60)) 41 (va_cpy ((sk_w τ 39 (va_cpy (τ 40) (τ 39) 0 0 60)) 42) ((sk_w τ 39 (va_cpy (τ 40) (τ 39) 0 0 60)) 41) 0 0 24)) 1 1 ((sk_w (sk_w τ 39 (va_cpy (τ 40) (τ 39) 0 0 60)) 41 (va_cpy ((sk_w τ 39 (va_cpy (τ 40) (τ 39) 0 0 60)) 42) ((sk_w τ 39 (va_cpy (τ 40) (τ 39) 0 0 60)) 41) 0 0 24)) 2 1)) 1 2 ((sk_u (sk_w (sk_w τ 39 (va_cpy (τ 40) (τ 39) 0 0 60)) 41 (va_cpy ((sk_w τ 39 (va_cpy (τ 40) (τ 39) 0 0 60)) 42) ((sk_w τ 39 (va_cpy (τ 40) (τ 39) 0 0 60)) 41) 0 0 24)) 1 1 ((sk_w (sk_w τ 39 (va_cpy (τ 40) (τ 39) 0 0 60)) 41 (va_cpy ((sk_w τ 39 (va_cpy (τ 40) (τ 39) 0 0 60)) 42) ((sk_w τ 39 (va_cpy (τ 40) (τ 39) 0 0 60)) 41) 0 0 24)) 2 1)) 2 2)) 2 3)) 1 4 ((sk_u (sk_u (sk_u (sk_w (sk_w τ 39 (va_cpy (τ 40) (τ 39) 0 0 60)) 41 (va_cpy ((sk_w τ 39 (va_cpy (τ 40) (τ 39) 0 0 60)) 42) ((sk_w τ 39 (va_cpy (τ 40) (τ 39) 0 0 60)) 41) 0 0 24)) 1 1 ((sk_w (sk_w τ 39 (va_cpy (τ 40) (τ 39) 0 0 60)) 41 (va_cpy ((sk_w τ 39 (va_cpy (τ 40) (τ 39) 0 0 60)) 42) ((sk_w τ 39 (va_cpy (τ 40) (τ 39) 0 0 60)) 41) 0 0 24)) 2 1)) 1 2 ((sk_u (sk_w (sk_w τ 39 (va_cpy (τ 40) (τ 39) 0 0 60)) 41 (va_cpy ((sk_w τ 39 (va_cpy (τ 40) (τ 39) 0 0 60)) 42) ((sk_w τ 39 (va_cpy (τ 40) (τ 39) 0 0 60)) 41) 0 0 24)) 1 1 ((sk_w (sk_w τ 39 (va_cpy (τ 40) (τ 39) 0 0 60)) 41 (va_cpy ((sk_w τ 39 (va_cpy (τ 40) (τ 39) 0 0 60)) 42) ((sk_w τ 39 (va_cpy (τ 40) (τ 39) 0 0 60)) 41) 0 0 24)) 2 1)) 2 2)) 1 3 ((sk_u (sk_u (sk_w (sk_w τ 39 (va_cpy (τ 40) (τ 39) 0 0 60)) 41 (va_cpy ((sk_w τ 39 (va_cpy (τ 40) (τ 39) 0 0 60)) 42) ((sk_w τ 39 (va_cpy (τ 40) (τ 39) 0 0 60)) 41) 0 0 24)) 1 1 ((sk_w (sk_w τ 39 (va_cpy (τ 40) (τ 39) 0 0 60)) 41 (va_cpy ((sk_w τ 39 (va_cpy (τ 40) (τ 39) 0 0 60)) 42) ((sk_w τ 39 (va_cpy (τ 40) (τ 39) 0 0 60)) 41) 0 0 24)) 2 1)) 1 2 ((sk_u (sk_w (sk_w τ 39 (va_cpy (τ 40) (τ 39) 0 0 60)) 41 (va_cpy ((sk_w τ 39 (va_cpy (τ 40) (τ 39) 0 0 60)) 42) ((sk_w τ 39 (va_cpy (τ 40) (τ 39) 0 0 60)) 41) 0 0 24)) 1 1 ((sk_w (sk_w τ 39 (va_cpy (τ 40) (τ 39) 0 0 60)) 41 (va_cpy ((sk_w τ 39 (va_cpy (τ 40) (τ 39) 0 0 60)) 42) ((sk_w τ 39 (va_cpy (τ 40) (τ 39) 0 0 60)) 41) 0 0 24)) 2 1)) 2 2)) 2 3)) 2 4)) 1 5 ((sk_u (sk_u (sk_u (sk_u (sk_w (sk_w τ 39 (va_cpy (τ 40) (τ 39) 0 0 60)) 41 (va_cpy ((sk_w τ 39 (va_cpy (τ 40) (τ 39) 0 0 60)) 42) ((sk_w τ 39 (va_cpy (τ 40) (τ 39) 0 0 60)) 41) 0 0 24)) 1 1 ((sk_w (sk_w τ 39 (va_cpy (τ 40) (τ 39) 0 0 60)) 41 (va_cpy ((sk_w τ 39 (va_cpy (τ 40) (τ 39) 0 0 60)) 42) ((sk_w τ 39 (va_cpy (τ 40) (τ 39) 0 0 60)) 41) 0 0 24)) 2 1)) 1 2 ((sk_u (sk_w (sk_w τ 39 (va_cpy (τ 40) (τ 39) 0 0 60)) 41 (va_cpy ((sk_w τ 39 (va_cpy (τ 40) (τ 39) 0 0 60)) 42) ((sk_w τ 39 (va_cpy (τ 40) (τ 39) 0 0 60)) 41) 0 0 24)) 1 1 ((sk_w (sk_w τ 39 (va_cpy (τ 40) (τ 39) 0 0 60)) 41 (va_cpy ((sk_w τ 39 (va_cpy (τ 40) (τ 39) 0 0 60)) 42) ((sk_w τ 39 (va_cpy (τ 40) (τ 39) 0 0 60)) 41) 0 0 24)) 2 1)) 2 2)) 1 3 ((sk_u (sk_u (sk_w (sk_w τ 39 (va_cpy (τ 40) (τ 39) 0 0 60)) 41 (va_cpy ((sk_w τ 39 (va_cpy (τ 40) (τ 39) 0 0 60)) 42) ((sk_w τ 39 (va_cpy (τ 40) (τ 39) 0 0 60)) 41) 0 0 24)) 1 1 ((sk_w (sk_w τ 39 (va_cpy (τ 40) (τ 39) 0 0 60)) 41 (va_cpy ((sk_w τ 39 (va_cpy (τ 40) (τ 39) 0 0 60)) 42) ((sk_w τ 39 (va_cpy (τ 40) (τ 39) 0 0 60)) 41) 0 0 24)) 2 1)) 1 2 ((sk_u (sk_w (sk_w τ 39 (va_cpy (τ 40) (τ 39) 0 0 60)) 41 (va_cpy ((sk_w τ 39 (va_cpy (τ 40) (τ 39) 0 0 60)) 42) ((sk_w τ 39 (va_cpy (τ 40) (τ 39) 0 0 60)) 41) 0 0 24)) 1 1 ((sk_w (sk_w τ 39 (va_cpy (τ 40) (τ 39) 0 0 60)) 41 (va_cpy ((sk_w τ 39 (va_cpy (τ 40) (τ 39) 0 0 60)) 42) ((sk_w τ 39 (va_cpy (τ 40) (τ 39) 0 0 60)) 41) 0 0 24)) 2 1)) 2 2)) 2 3)) 1 4 ((sk_u (sk_u (sk_u (sk_w (sk_w τ 39 (va_cpy (τ 40) (τ 39) 0 0 60)) 41 (va_cpy ((sk_w τ 39 (va_cpy (τ 40) (τ 39) 0 0 60)) 42) ((sk_w τ 39 (va_cpy (τ 40) (τ 39) 0 0 60)) 41) 0 0 24)) 1 1 ((sk_w (sk_w τ 39 (va_cpy (τ 40) (τ 39) 0 0 60)) 41 (va_cpy ((sk_w τ 39 (va_cpy (τ 40) (τ 39) 0 0 60)) 42) ((sk_w τ 39 (va_cpy (τ 40) (τ 39) 0 0 60)) 41) 0 0 24)) 2 1)) 1 2 ((sk_u (sk_w (sk_w τ 39 (va_cpy (τ 40) (τ 39) 0 0 60)) 41 (va_cpy ((sk_w τ 39 (va_cpy (τ 40) (τ 39) 0 0 60)) 42) ((sk_w τ 39 (va_cpy (τ 40) (τ 39) 0 0 60)) 41) 0 0 24)) 1 1 ((sk_w (sk_w τ 39 (va_cpy (τ 40) (τ 39) 0 0 60)) 41 (va_cpy ((sk_w τ 39 (va_cpy (τ 40) (τ 39) 0 0 60)) 42) ((sk_w τ 39 (va_cpy (τ 40) (τ 39) 0 0 60)) 41) 0 0 24)) 2 1)) 2 2)) 1 3 ((sk_u (sk_u (sk_w (sk_w τ 39 (va_cpy (τ 40) (τ 39) 0 0 60)) 41 (va_cpy ((sk_w τ 39 (va_cpy (τ 40) (τ 39) 0 0 60)) 42) ((sk_w τ 39 (va_cpy (τ 40) (τ 39) 0 0 60)) 41) 0 0 24)) 1 1 ((sk_w (sk_w τ 39 (va_cpy (τ 40) (τ 39) 0 0 60)) 41 (va_cpy ((sk_w τ 39 (va_cpy (τ 40) (τ 39) 0 0 60)) 42) ((sk_w τ 39 (va_cpy (τ 40) (τ 39) 0 0 60)) 41) 0 0 24)) 2 1)) 1 2 ((sk_u (sk_w (sk_w τ 39 (va_cpy (τ 40) (τ 39) 0 0 60)) 41 (va_cpy ((sk_w τ 39 (va_cpy (τ 40) (τ 39) 0 0 60)) 42) ((sk_w τ 39 (va_cpy (τ 40) (τ 39) 0 0 60)) 41) 0 0 24)) 1 1 ((sk_w (sk_w τ 39 (va_cpy (τ 40) (τ 39) 0 0 60)) 41 (va_cpy ((sk_w τ 39 (va_cpy (τ 40) (τ 39) 0 0 60)) 42) ((sk_w τ 39 (va_cpy (τ 40) (τ 39) 0 0 60)) 41) 0 0 24)) 2 1)) 2 2)) 2 3)) 2 4)) 2 5)) 2 7)) 1 10 ((sk_u (sk_u (sk_u (sk_u (sk_u (sk_u (sk_w (sk_w τ 39 (va_cpy (τ 40) (τ 39) 0 0 60)) 41 (va_cpy ((sk_w τ 39 (va_cpy (τ 40) (τ 39) 0 0 60)) 42) ((sk_w τ 39 (va_cpy (τ 40) (τ 39) 0 0 60)) 41) 0 0 24)) 1 1 ((sk_w (sk_w τ 39 (va_cpy (τ 40) (τ 39) 0 0 60)) 41 (va_cpy ((sk_w τ 39 (va_cpy (τ 40) (τ 39) 0 0 60)) 42) ((sk_w τ 39 (va_cpy (τ 40) (τ 39) 0 0 60)) 41) 0 0 24)) 2 1)) 1 2 ((sk_u (sk_w (sk_w τ 39 (va_cpy (τ 40) (τ 39) 0 0 60)) 41 (va_cpy ((sk_w τ 39 (va_cpy (τ 40) (τ 39) 0 0 60)) 42) ((sk_w τ 39 (va_cpy (τ 40) (τ 39) 0 0 60)) 41) 0 0 24)) 1 1 ((sk_w (sk_w τ 39 (va_cpy (τ 40) (τ 39) 0 0 60)) 41 (va_cpy ((sk_w τ 39 (va_cpy (τ 40) (τ 39) 0 0 60)) 42) ((sk_w τ 39 (va_cpy (τ 40) (τ 39) 0 0 60)) 41) 0 0 24)) 2 1)) 2 2)) 1 3 ((sk_u (sk_u (sk_w (sk_w τ 39 (va_cpy (τ 40) (τ 39) 0 0 60)) 41 (va_cpy ((sk_w τ 39 (va_cpy (τ 40) (τ 39) 0 0 60)) 42) ((sk_w τ 39 (va_cpy (τ 40) (τ 39) 0 0 60)) 41) 0 0 24)) 1 1 ((sk_w (sk_w τ 39 (va_cpy (τ 40) (τ 39) 0 0 60)) 41 (va_cpy ((sk_w τ 39 (va_cpy (τ 40) (τ 39) 0 0 60)) 42) ((sk_w τ 39 (va_cpy (τ 40) (τ 39) 0 0 60)) 41) 0 0 24)) 2 1)) 1 2 ((sk_u (sk_w (sk_w τ 39 (va_cpy (τ 40) (τ 39) 0 0 60)) 41 (va_cpy ((sk_w τ 39 (va_cpy (τ 40) (τ 39) 0 0 60)) 42) ((sk_w τ 39 (va_cpy (τ 40) (τ 39) 0 0 60)) 41) 0 0 24)) 1 1 ((sk_w (sk_w τ 39 (va_cpy (τ 40) (τ 39) 0 0 60)) 41 (va_cpy ((sk_w τ 39 (va_cpy (τ 40) (τ 39) 0 0 60)) 42) ((sk_w τ 39 (va_cpy (τ 40) (τ 39) 0 0 60)) 41) 0 0 24)) 2 1)) 2 2)) 2 3)) 1 4 ((sk_u (sk_u (sk_u (sk_w (sk_w τ 39 (va_cpy (τ 40) (τ 39) 0 0 60)) 41 (va_cpy ((sk_w τ 39 (va_cpy (τ 40) (τ 39) 0 0 60)) 42) ((sk_w τ 39 (va_cpy (τ 40) (τ 39) 0 0 60)) 41) 0 0 24)) 1 1 ((sk_w (sk_w τ 39 (va_cpy (τ 40) (τ 39) 0 0 60)) 41 (va_cpy ((sk_w τ 39 (va_cpy (τ 40) (τ 39) 0 0 60)) 42) ((sk_w τ 39 (va_cpy (τ 40) (τ 39) 0 0 60)) 41) 0 0 24)) 2 1)) 1 2 ((sk_u (sk_w (sk_w τ 39 (va_cpy (τ 40) (τ 39) 0 0 60)) 41 (va_cpy ((sk_w τ 39 (va_cpy (τ 40) (τ 39) 0 0 60)) 42) ((sk_w τ 39 (va_cpy (τ 40) (τ 39) 0 0 60)) 41) 0 0 24)) 1 1 ((sk_w (sk_w τ 39 (va_cpy (τ 40) (τ 39) 0 0 60)) 41 (va_cpy ((sk_w τ 39 (va_cpy (τ 40) (τ 39) 0 0 60)) 42) ((sk_w τ 39 (va_cpy (τ 40) (τ 39) 0 0 60)) 41) 0 0 24)) 2 1)) 2 2)) 1 3 ((sk_u (sk_u (sk_w (sk_w τ 39 (va_cpy (τ 40) (τ 39) 0 0 60)) 41 (va_cpy ((sk_w τ 39 (va_cpy (τ 40) (τ 39) 0 0 60)) 42) ((sk_w τ 39 (va_cpy (τ 40) (τ 39) 0 0 60)) 41) 0 0 24)) 1 1 ((sk_w (sk_w τ 39 (va_cpy (τ 40) (τ 39) 0 0 60)) 41 (va_cpy ((sk_w τ 39 (va_cpy (τ 40) (τ 39) 0 0 60)) 42) ((sk_w τ 39 (va_cpy (τ 40) (τ 39) 0 0 60)) 41) 0 0 24)) 2 1)) 1 2 ((sk_u (sk_w (sk_w τ 39 (va_cpy (τ 40) (τ 39) 0 0 60)) 41 (va_cpy ((sk_w τ 39 (va_cpy (τ 40) (τ 39) 0 0 60)) 42) ((sk_w τ 39 (va_cpy (τ 40) (τ 39) 0 0 60)) 41) 0 0 24)) 1 1 ((sk_w (sk_w τ 39 (va_cpy (τ 40) (τ 39) 0 0 60)) 41 (va_cpy ((sk_w τ 39 (va_cpy (τ 40) (τ 39) 0 0 60)) 42) ((sk_w τ 39 (va_cpy (τ 40) (τ 39) 0 0 60)) 41) 0 0 24)) 2 1)) 2 2)) 2 3)) 2 4)) 1 5 ((sk_u (sk_u (sk_u (sk_u (sk_w (sk_w τ 39 (va_cpy (τ 40) (τ 39) 0 0 60)) 41 (va_cpy ((sk_w τ 39 (va_cpy (τ 40) (τ 39) 0 0 60)) 42) ((sk_w τ 39 (va_cpy (τ 40) (τ 39) 0 0 60)) 41) 0 0 24)) 1 1 ((sk_w (sk_w τ 39 (va_cpy (τ 40) (τ 39) 0 0 60)) 41 (va_cpy ((sk_w τ 39 (va_cpy (τ 40) (τ 39) 0 0 60)) 42) ((sk_w τ 39 (va_cpy (τ 40) (τ 39) 0 0 60)) 41) 0 0 24)) 2 1)) 1 2 ((sk_u (sk_w (sk_w τ 39 (va_cpy (τ 40) (τ 39) 0 0 60)) 41 (va_cpy ((sk_w τ 39 (va_cpy (τ 40) (τ 39) 0 0 60)) 42) ((sk_w τ 39 (va_cpy (τ 40) (τ 39) 0 0 60)) 41) 0 0 24)) 1 1 ((sk_w (sk_w τ 39 (va_cpy (τ 40) (τ 39) 0 0 60)) 41 (va_cpy ((sk_w τ 39 (va_cpy (τ 40) (τ 39) 0 0 60)) 42) ((sk_w τ 39 (va_cpy (τ 40) (τ 39) 0 0 60)) 41) 0 0 24)) 2 1)) 2 2)) 1 3 ((sk_u (sk_u (sk_w (sk_w τ 39 (va_cpy (τ 40) (τ 39) 0 0 60)) 41 (va_cpy ((sk_w τ 39 (va_cpy (τ 40) (τ 39) 0 0 60)) 42) ((sk_w τ 39 (va_cpy (τ 40) (τ 39) 0 0 60)) 41) 0 0 24)) 1 1 ((sk_w (sk_w τ 39 (va_cpy (τ 40) (τ 39) 0 0 60)) 41 (va_cpy ((sk_w τ 39 (va_cpy (τ 40) (τ 39) 0 0 60)) 42) ((sk_w τ 39 (va_cpy (τ 40) (τ 39) 0 0 60)) 41) 0 0 24)) 2 1)) 1 2 ((sk_u (sk_w (sk_w τ 39 (va_cpy (τ 40) (τ 39) 0 0 60)) 41 (va_cpy ((sk_w τ 39 (va_cpy (τ 40) (τ 39) 0 0 60)) 42) ((sk_w τ 39 (va_cpy (τ 40) (τ 39) 0 0 60)) 41) 0 0 24)) 1 1 ((sk_w (sk_w τ 39 (va_cpy (τ 40) (τ 39) 0 0 60)) 41 (va_cpy ((sk_w τ 39 (va_cpy (τ 40) (τ 39) 0 0 60)) 42) ((sk_w τ 39 (va_cpy (τ 40) (τ 39) 0 0 60)) 41) 0 0 24)) 2 1)) 2 2)) 2 3)) 1 4 ((sk_u (sk_u (sk_u (sk_w (sk_w τ 39 (va_cpy (τ 40) (τ 39) 0 0 60)) 41 (va_cpy ((sk_w τ 39 (va_cpy (τ 40) (τ 39) 0 0 60)) 42) ((sk_w τ 39 (va_cpy (τ 40) (τ 39) 0 0 60)) 41) 0 0 24)) 1 1 ((sk_w (sk_w τ 39 (va_cpy (τ 40) (τ 39) 0 0 60)) 41 (va_cpy ((sk_w τ 39 (va_cpy (τ 40) (τ 39) 0 0 60)) 42) ((sk_w τ 39 (va_cpy (τ 40) (τ 39) 0 0 60)) 41) 0 0 24)) 2 1)) 1 2 ((sk_u (sk_w (sk_w τ 39 (va_cpy (τ 40) (τ 39) 0 0 60)) 41 (va_cpy ((sk_w τ 39 (va_cpy (τ 40) (τ 39) 0 0 60)) 42) ((sk_w τ 39 (va_cpy (τ 40) (τ 39) 0 0 60)) 41) 0 0 24)) 1 1 ((sk_w (sk_w τ 39 (va_cpy (τ 40) (τ 39) 0 0 60)) 41 (va_cpy ((sk_w τ 39 (va_cpy (τ 40) (τ 39) 0 0 60)) 42) ((sk_w τ 39 (va_cpy (τ 40) (τ 39) 0 0 60)) 41) 0 0 24)) 2 1)) 2 2)) 1 3 ((sk_u (sk_u (sk_w (sk_w τ 39 (va_cpy (τ 40) (τ 39) 0 0 60)) 41 (va_cpy ((sk_w τ 39 (va_cpy (τ 40) (τ 39) 0 0 60)) 42) ((sk_w τ 39 (va_cpy (τ 40) (τ 39) 0 0 60)) 41) 0 0 24)) 1 1 ((sk_w (sk_w τ 39 (va_cpy (τ 40) (τ 39) 0 0 60)) 41 (va_cpy ((sk_w τ 39 (va_cpy (τ 40) (τ 39) 0 0 60)) 42) ((sk_w τ 39 (va_cpy (τ 40) (τ 39) 0 0 60)) 41) 0 0 24)) 2 1)) 1 2 ((sk_u (sk_w (sk_w τ 39 (va_cpy (τ 40) (τ 39) 0 0 60)) 41 (va_cpy ((sk_w τ 39 (va_cpy (τ 40) (τ 39) 0 0 60)) 42) ((sk_w τ 39 (va_cpy (τ 40) (τ 39) 0 0 60)) 41) 0 0 24)) 1 1 ((sk_w (sk_w τ 39 (va_cpy (τ 40) (τ 39) 0 0 60)) 41 (va_cpy ((sk_w τ 39 (va_cpy (τ 40) (τ 39) 0 0 60)) 42) ((sk_w τ 39 (va_cpy (τ 40) (τ 39) 0 0 60)) 41) 0 0 24)) 2 1)) 2 2)) 2 3)) 2 4)) 2 5)) 1 7 ((sk_u (sk_u (sk_u (sk_u (sk_u (sk_w (sk_w τ 39 (va_cpy (τ 40) (τ 39) 0 0 60)) 41 (va_cpy ((sk_w τ 39 (va_cpy (τ 40) (τ 39) 0 0 60)) 42) ((sk_w τ 39 (va_cpy (τ 40) (τ 39) 0 0 60)) 41) 0 0 24)) 1 1 ((sk_w (sk_w τ 39 (va_cpy (τ 40) (τ 39) 0 0 60)) 41 (va_cpy ((sk_w τ 39 (va_cpy (τ 40) (τ 39) 0 0 60)) 42) ((sk_w τ 39 (va_cpy (τ 40) (τ 39) 0 0 60)) 41) 0 0 24)) 2 1)) 1 2 ((sk_u (sk_w (sk_w τ 39 (va_cpy (τ 40) (τ 39) 0 0 60)) 41 (va_cpy ((sk_w τ 39 (va_cpy (τ 40) (τ 39) 0 0 60)) 42) ((sk_w τ 39 (va_cpy (τ 40) (τ 39) 0 0 60)) 41) 0 0 24)) 1 1 ((sk_w (sk_w τ 39 (va_cpy (τ 40) (τ 39) 0 0 60)) 41 (va_cpy ((sk_w τ 39 (va_cpy (τ 40) (τ 39) 0 0 60)) 42) ((sk_w τ 39 (va_cpy (τ 40) (τ 39) 0 0 60)) 41) 0 0 24)) 2 1)) 2 2)) 1 3 ((sk_u (sk_u (sk_w (sk_w τ 39 (va_cpy (τ 40) (τ 39) 0 0 60)) 41 (va_cpy ((sk_w τ 39 (va_cpy (τ 40) (τ 39) 0 0 60)) 42) ((sk_w τ 39 (va_cpy (τ 40) (τ 39) 0 0 60)) 41) 0 0 24)) 1 1 ((sk_w (sk_w τ 39 (va_cpy (τ 40) (τ 39) 0 0 60)) 41 (va_cpy ((sk_w τ 39 (va_cpy (τ 40) (τ 39) 0 0 60)) 42) ((sk_w τ 39 (va_cpy (τ 40) (τ 39) 0 0 60)) 41) 0 0 24)) 2 1)) 1 2 ((sk_u (sk_w (sk_w τ 39 (va_cpy (τ 40) (τ 39) 0 0 60)) 41 (va_cpy ((sk_w τ 39 (va_cpy (τ 40) (τ 39) 0 0 60)) 42) ((sk_w τ 39 (va_cpy (τ 40) (τ 39) 0 0 60)) 41) 0 0 24)) 1 1 ((sk_w (sk_w τ 39 (va_cpy (τ 40) (τ 39) 0 0 60)) 41 (va_cpy ((sk_w τ 39 (va_cpy (τ 40) (τ 39) 0 0 60)) 42) ((sk_w τ 39 (va_cpy (τ 40) (τ 39) 0 0 60)) 41) 0 0 24)) 2 1)) 2 2)) 2 3)) 1 4 ((sk_u (sk_u (sk_u (sk_w (sk_w τ 39 (va_cpy (τ 40) (τ 39) 0 0 60)) 41 (va_cpy ((sk_w τ 39 (va_cpy (τ 40) (τ 39) 0 0 60)) 42) ((sk_w τ 39 (va_cpy (τ 40) (τ 39) 0 0 60)) 41) 0 0 24)) 1 1 ((sk_w (sk_w τ 39 (va_cpy (τ 40) (τ 39) 0 0 60)) 41 (va_cpy ((sk_w τ 39 (va_cpy (τ 40) (τ 39) 0 0 60)) 42) ((sk_w τ 39 (va_cpy (τ 40) (τ 39) 0 0 60)) 41) 0 0 24)) 2 1)) 1 2 ((sk_u (sk_w (sk_w τ 39 (va_cpy (τ 40) (τ 39) 0 0 60)) 41 (va_cpy ((sk_w τ 39 (va_cpy (τ 40) (τ 39) 0 0 60)) 42) ((sk_w τ 39 (va_cpy (τ 40) (τ 39) 0 0 60)) 41) 0 0 24)) 1 1 ((sk_w (sk_w τ 39 (va_cpy (τ 40) (τ 39) 0 0 60)) 41 (va_cpy ((sk_w τ 39 (va_cpy (τ 40) (τ 39) 0 0 60)) 42) ((sk_w τ 39 (va_cpy (τ 40) (τ 39) 0 0 60)) 41) 0 0 24)) 2 1)) 2 2)) 1 3 ((sk_u (sk_u (sk_w (sk_w τ 39 (va_cpy (τ 40) (τ 39) 0 0 60)) 41 (va_cpy ((sk_w τ 39 (va_cpy (τ 40) (τ 39) 0 0 60)) 42) ((sk_w τ 39 (va_cpy (τ 40) (τ 39) 0 0 60)) 41) 0 0 24)) 1 1 ((sk_w (sk_w τ 39 (va_cpy (τ 40) (τ 39) 0 0 60)) 41 (va_cpy ((sk_w τ 39 (va_cpy (τ 40) (τ 39) 0 0 60)) 42) ((sk_w τ 39 (va_cpy (τ 40) (τ 39) 0 0 60)) 41) 0 0 24)) 2 1)) 1 2 ((sk_u (sk_w (sk_w τ 39 (va_cpy (τ 40) (τ 39) 0 0 60)) 41 (va_cpy ((sk_w τ 39 (va_cpy (τ 40) (τ 39) 0 0 60)) 42) ((sk_w τ 39 (va_cpy (τ 40) (τ 39) 0 0 60)) 41) 0 0 24)) 1 1 ((sk_w (sk_w τ 39 (va_cpy (τ 40) (τ 39) 0 0 60)) 41 (va_cpy ((sk_w τ 39 (va_cpy (τ 40) (τ 39) 0 0 60)) 42) ((sk_w τ 39 (va_cpy (τ 40) (τ 39) 0 0 60)) 41) 0 0 24)) 2 1)) 2 2)) 2 3)) 2 4)) 1 5 ((sk_u (sk_u (sk_u (sk_u (sk_w (sk_w τ 39 (va_cpy (τ 40) (τ 39) 0 0 60)) 41 (va_cpy ((sk_w τ 39 (va_cpy (τ 40) (τ 39) 0 0 60)) 42) ((sk_w τ 39 (va_cpy (τ 40) (τ 39) 0 0 60)) 41) 0 0 24)) 1 1 ((sk_w (sk_w τ 39 (va_cpy (τ 40) (τ 39) 0 0 60)) 41 (va_cpy ((sk_w τ 39 (va_cpy (τ 40) (τ 39) 0 0 60)) 42) ((sk_w τ 39 (va_cpy (τ 40) (τ 39) 0 0 60)) 41) 0 0 24)) 2 1)) 1 2 ((sk_u (sk_w (sk_w τ 39 (va_cpy (τ 40) (τ 39) 0 0 60)) 41 (va_cpy ((sk_w τ 39 (va_cpy (τ 40) (τ 39) 0 0 60)) 42) ((sk_w τ 39 (va_cpy (τ 40) (τ 39) 0 0 60)) 41) 0 0 24)) 1 1 ((sk_w (sk_w τ 39 (va_cpy (τ 40) (τ 39) 0 0 60)) 41 (va_cpy ((sk_w τ 39 (va_cpy (τ 40) (τ 39) 0 0 60)) 42) ((sk_w τ 39 (va_cpy (τ 40) (τ 39) 0 0 60)) 41) 0 0 24)) 2 1)) 2 2)) 1 3 ((sk_u (sk_u (sk_w (sk_w τ 39 (va_cpy (τ 40) (τ 39) 0 0 60)) 41 (va_cpy ((sk_w τ 39 (va_cpy (τ 40) (τ 39) 0 0 60)) 42) ((sk_w τ 39 (va_cpy (τ 40) (τ 39) 0 0 60)) 41) 0 0 24)) 1 1 ((sk_w (sk_w τ 39 (va_cpy (τ 40) (τ 39) 0 0 60)) 41 (va_cpy ((sk_w τ 39 (va_cpy (τ 40) (τ 39) 0 0 60)) 42) ((sk_w τ 39 (va_cpy (τ 40) (τ 39) 0 0 60)) 41) 0 0 24)) 2 1)) 1 2 ((sk_u (sk_w (sk_w τ 39 (va_cpy (τ 40) (τ 39) 0 0 60)) 41 (va_cpy ((sk_w τ 39 (va_cpy (τ 40) (τ 39) 0 0 60)) 42) ((sk_w τ 39 (va_cpy (τ 40) (τ 39) 0 0 60)) 41) 0 0 24)) 1 1 ((sk_w (sk_w τ 39 (va_cpy (τ 40) (τ 39) 0 0 60)) 41 (va_cpy ((sk_w τ 39 (va_cpy (τ 40) (τ 39) 0 0 60)) 42) ((sk_w τ 39 (va_cpy (τ 40) (τ 39) 0 0 60)) 41) 0 0 24)) 2 1)) 2 2)) 2 3)) 1 4 ((sk_u (sk_u (sk_u (sk_w (sk_w τ 39 (va_cpy (τ 40) (τ 39) 0 0 60)) 41 (va_cpy ((sk_w τ 39 (va_cpy (τ 40) (τ 39) 0 0 60)) 42) ((sk_w τ 39 (va_cpy (τ 40) (τ 39) 0 0 60)) 41) 0 0 24)) 1 1 ((sk_w (sk_w τ 39 (va_cpy (τ 40) (τ 39) 0 0 60)) 41 (va_cpy ((sk_w τ 39 (va_cpy (τ 40) (τ 39) 0 0 60)) 42) ((sk_w τ 39 (va_cpy (τ 40) (τ 39) 0 0 60)) 41) 0 0 24)) 2 1)) 1 2 ((sk_u (sk_w (sk_w τ 39 (va_cpy (τ 40) (τ 39) 0 0 60)) 41 (va_cpy ((sk_w τ 39 (va_cpy (τ 40) (τ 39) 0 0 60)) 42) ((sk_w τ 39 (va_cpy (τ 40) (τ 39) 0 0 60)) 41) 0 0 24)) 1 1 ((sk_w (sk_w τ 39 (va_cpy (τ 40) (τ 39) 0 0 60)) 41 (va_cpy ((sk_w τ 39 (va_cpy (τ 40) (τ 39) 0 0 60)) 42) ((sk_w τ 39 (va_cpy (τ 40) (τ 39) 0 0 60)) 41) 0 0 24)) 2 1)) 2 2)) 1 3 ((sk_u (sk_u (sk_w (sk_w τ 39 (va_cpy (τ 40) (τ 39) 0 0 60)) 41 (va_cpy ((sk_w τ 39 (va_cpy (τ 40) (τ 39) 0 0 60)) 42) ((sk_w τ 39 (va_cpy (τ 40) (τ 39) 0 0 60)) 41) 0 0 24)) 1 1 ((sk_w (sk_w τ 39 (va_cpy (τ 40) (τ 39) 0 0 60)) 41 (va_cpy ((sk_w τ 39 (va_cpy (τ 40) (τ 39) 0 0 60)) 42) ((sk_w τ 39 (va_cpy (τ 40) (τ 39) 0 0 60)) 41) 0 0 24)) 2 1)) 1 2 ((sk_u (sk_w (sk_w τ 39 (va_cpy (τ 40) (τ 39) 0 0 60)) 41 (va_cpy ((sk_w τ 39 (va_cpy (τ 40) (τ 39) 0 0 60)) 42) ((sk_w τ 39 (va_cpy (τ 40) (τ 39) 0 0 60)) 41) 0 0 24)) 1 1 ((sk_w (sk_w τ 39 (va_cpy (τ 40) (τ 39) 0 0 60)) 41 (va_cpy ((sk_w τ 39 (va_cpy (τ 40) (τ 39) 0 0 60)) 42) ((sk_w τ 39 (va_cpy (τ 40) (τ 39) 0 0 60)) 41) 0 0 24)) 2 1)) 2 2)) 2 3)) 2 4)) 2 5)) 2 7)) 2 10))
    ) ∧
    (¬ 2 ≤ v2 →
      vp_in v2 2 ∧
      vp_in v2 2 ∧
      sk_C sk_Sc (d - 1) mX1_copy [.ref (23 + v2.toNatClampNeg), .ref (25 + v2.toNatClampNeg)] τ (fun w t48 => w = none ∧
        sk_G sk_Sc d mX3_copy 31 [(0, .ref 1), (1, .ref 2), (2, .int (v2 + 1))] [] t48 K
      )
    ))) :
  sk_G sk_Sc d mX3_copy 31 [(0, .ref 1), (1, .ref 2), (2, .int v2)] [] τ K := by
  refine sk_iload_n 2 32 dX3_copy_31 rfl rfl rfl ?_
  refine sk_iconst (v := 2) 33 dX3_copy_32 rfl (by decide) ?_
  refine sk_icmp_ge 57 36 dX3_copy_33 (by decide) rfl (fun hc => ?_) (fun hc => ?_)
  · have h := h.1 hc
    refine sk_aload_n 1 58 dX3_copy_57 rfl rfl rfl ?_
    refine sk_getR (r := 40) 61 dX3_copy_58 rfl lfX3_33 sc_2 rfl ?_
    refine sk_iconst (v := 0) 62 dX3_copy_61 rfl (by decide) ?_
    refine sk_aload_n 0 63 dX3_copy_62 rfl rfl rfl ?_
    refine sk_getR (r := 39) 66 dX3_copy_63 rfl lfX3_33 sc_1 rfl ?_
    refine sk_iconst (v := 0) 67 dX3_copy_66 rfl (by decide) ?_
    refine sk_bipush (v := 60) 69 dX3_copy_67 rfl (by decide) ?_
    refine sk_copyB 72 dX3_copy_69 rfl lkX3_64 lk_ac sc_40 sc_39 (by decide) (by decide) (by decide) (by decide) (by decide) (by simp [Value.category]) hd0 ?_
    refine sk_aload_n 1 73 dX3_copy_72 rfl rfl rfl ?_
    refine sk_getR (r := 42) 76 dX3_copy_73 rfl lfX3_46 sc_2 rfl ?_
    refine sk_iconst (v := 0) 77 dX3_copy_76 rfl (by decide) ?_
    refine sk_aload_n 0 78 dX3_copy_77 rfl rfl rfl ?_
    refine sk_getR (r := 41) 81 dX3_copy_78 rfl lfX3_46 sc_1 rfl ?_
    refine sk_iconst (v := 0) 82 dX3_copy_81 rfl (by decide) ?_
    refine sk_bipush (v := 24) 84 dX3_copy_82 rfl (by decide) ?_
    refine sk_copyI 87 dX3_copy_84 rfl lkX3_64 lk_ac sc_42 sc_41 (by decide) (by decide) (by decide) (by decide) (by decide) (by simp [Value.category]) hd0 ?_
    refine sk_aload_n 0 88 dX3_copy_87 rfl rfl rfl ?_
    refine sk_aload_n 1 89 dX3_copy_88 rfl rfl rfl ?_
    refine sk_getI 92 dX3_copy_89 rfl lfX3_17 sc_2 rfl ?_
    refine sk_putI 95 dX3_copy_92 rfl lpX3_17 sc_1 rfl ?_
    refine sk_aload_n 0 96 dX3_copy_95 rfl rfl rfl ?_
    refine sk_aload_n 1 97 dX3_copy_96 rfl rfl rfl ?_
    refine sk_getI 100 dX3_copy_97 rfl lfX3_21 sc_2 rfl ?_
    refine sk_putI 103 dX3_copy_100 rfl lpX3_21 sc_1 rfl ?_
    refine sk_aload_n 0 104 dX3_copy_103 rfl rfl rfl ?_
    refine sk_aload_n 1 105 dX3_copy_104 rfl rfl rfl ?_
    refine sk_getI 108 dX3_copy_105 rfl lfX3_24 sc_2 rfl ?_
    refine sk_putI 111 dX3_copy_108 rfl lpX3_24 sc_1 rfl ?_
    refine sk_aload_n 0 112 dX3_copy_111 rfl rfl rfl ?_
    refine sk_aload_n 1 113 dX3_copy_112 rfl rfl rfl ?_
    refine sk_getI 116 dX3_copy_113 rfl lfX3_27 sc_2 rfl ?_
    refine sk_putI 119 dX3_copy_116 rfl lpX3_27 sc_1 rfl ?_
    refine sk_aload_n 0 120 dX3_copy_119 rfl rfl rfl ?_
    refine sk_aload_n 1 121 dX3_copy_120 rfl rfl rfl ?_
    refine sk_getI 124 dX3_copy_121 rfl lfX3_30 sc_2 rfl ?_
    refine sk_putI 127 dX3_copy_124 rfl lpX3_30 sc_1 rfl ?_
    refine sk_aload_n 0 128 dX3_copy_127 rfl rfl rfl ?_
    refine sk_aload_n 1 129 dX3_copy_128 rfl rfl rfl ?_
    refine sk_getI 132 dX3_copy_129 rfl lfX3_37 sc_2 rfl ?_
    refine sk_putI 135 dX3_copy_132 rfl lpX3_37 sc_1 rfl ?_
    refine sk_aload_n 0 136 dX3_copy_135 rfl rfl rfl ?_
    refine sk_aload_n 1 137 dX3_copy_136 rfl rfl rfl ?_
    refine sk_getI 140 dX3_copy_137 rfl lfX3_50 sc_2 rfl ?_
    refine sk_putI 143 dX3_copy_140 rfl lpX3_50 sc_1 rfl ?_
    exact sk_vret dX3_copy_143 rfl h
  · have h := h.2 hc
    refine sk_aload_n 0 37 dX3_copy_36 rfl rfl rfl ?_
    refine sk_getR (r := 37) 40 dX3_copy_37 rfl lfX3_42 sc_1 rfl ?_
    refine sk_iload_n 2 41 dX3_copy_40 rfl rfl rfl ?_
    have hb41 := h.1
    have h := h.2
    refine sk_aald 42 dX3_copy_41 rfl sc_37 (by decide) hb41 _ rfl (r := (23 + v2.toNatClampNeg)) (sk_ll0 hb41) ?_
    refine sk_aload_n 1 43 dX3_copy_42 rfl rfl rfl ?_
    refine sk_getR (r := 38) 46 dX3_copy_43 rfl lfX3_42 sc_2 rfl ?_
    refine sk_iload_n 2 47 dX3_copy_46 rfl rfl rfl ?_
    have hb47 := h.1
    have h := h.2
    refine sk_aald 48 dX3_copy_47 rfl sc_38 (by decide) hb47 _ rfl (r := (25 + v2.toNatClampNeg)) (sk_ll0K hb47) ?_
    refine sk_callVv [.ref (25 + v2.toNatClampNeg)] [] 51 dX3_copy_48 rfl mfX1_copy lkX3_61 miX1_copy msX1_copy (sk_lawAt hb41) rfl rfl rfl rfl (by simp [Value.category]) hd0 (sk_Cm h ?_)
    rintro w t48 ⟨hw, h⟩
    refine ⟨hw, ?_⟩
    refine sk_iinc (v := (v2 + 1)) (lv2 := [(2, .int (v2 + 1)), (0, .ref 1), (1, .ref 2)]) 2 54 dX3_copy_51 rfl rfl rfl (by decide) rfl ?_
    refine sk_goto 31 dX3_copy_54 (by decide) ?_
    refine sk_perm (lv2 := [(0, .ref 1), (1, .ref 2), (2, .int (v2 + 1))]) [1, 2, 0] rfl ?_
    exact h

theorem wX3_holdOf {d : Nat} {τ : sk_T} {K : sk_K} {v1 : Int32} {v2 : Int32} (hd0 : 0 < d)
  (h : vp_in v1 10 ∧
    sk_C sk_Sc (d - 1) mX5_holds [.ref (3 + v1.toNatClampNeg), .int (τ 1 2), .int (τ 1 3)] τ (fun w t22 => ∃ r22 : Int32, w = some (.int r22) ∧
      sk_C sk_Sc (d - 1) mX1_give [.ref 23, .int r22, .int (t22 (3 + v1.toNatClampNeg) 3), .int v2] t22 (fun w t30 => ∃ r30 : Int32, w = some (.int r30) ∧
        K (some (.int r30)) t30
      )
    )) :
  sk_C sk_Sc d mX3_holdOf [.ref 1, .int v1, .int v2] τ K := by
  refine sk_enter mfX3_holdOf (Nat.le_of_ble_eq_true rfl) ?_
  show sk_G sk_Sc d mX3_holdOf 0 [(0, .ref 1), (1, .int v1), (2, .int v2)] [] τ K
  refine sk_aload_n 0 1 dX3_holdOf_0 rfl rfl rfl ?_
  refine sk_getR (r := 35) 4 dX3_holdOf_1 rfl lfX3_11 sc_1 rfl ?_
  refine sk_iload_n 1 5 dX3_holdOf_4 rfl rfl rfl ?_
  have hb5 := h.1
  have h := h.2
  refine sk_aald 6 dX3_holdOf_5 rfl sc_35 (by decide) hb5 _ rfl (r := (3 + v1.toNatClampNeg)) (sk_tl0 hb5) ?_
  refine sk_astore_n (lv2 := [(3, .ref (3 + v1.toNatClampNeg)), (0, .ref 1), (1, .int v1), (2, .int v2)]) 7 dX3_holdOf_6 rfl rfl (by decide) rfl ?_
  refine sk_aload_n 1 8 dX3_holdOf_7 rfl rfl rfl ?_
  refine sk_getR (r := 37) 11 dX3_holdOf_8 rfl lfX3_42 sc_1 rfl ?_
  refine sk_iconst (v := 0) 12 dX3_holdOf_11 rfl (by decide) ?_
  refine sk_aald 13 dX3_holdOf_12 rfl sc_37 (by decide) (by unfold vp_in; decide) 0 rfl (r := 23) rfl ?_
  refine sk_aload_n 0 14 dX3_holdOf_13 rfl rfl rfl ?_
  refine sk_aload_n 1 15 dX3_holdOf_14 rfl rfl rfl ?_
  refine sk_getI 18 dX3_holdOf_15 rfl lfX3_21 sc_1 rfl ?_
  refine sk_aload_n 1 19 dX3_holdOf_18 rfl rfl rfl ?_
  refine sk_getI 22 dX3_holdOf_19 rfl lfX3_24 sc_1 rfl ?_
  refine sk_callVi [.int (τ 1 2), .int (τ 1 3)] [.ref 23] 25 dX3_holdOf_22 rfl mfX5_holds lkX3_70 miX5_holds msX5_holds (sk_tileAt hb5) rfl rfl rfl rfl (by simp [Value.category]) hd0 (sk_Cm h ?_)
  rintro w t22 ⟨r22, hw, h⟩
  refine ⟨r22, hw, ?_⟩
  refine sk_aload_n 0 26 dX3_holdOf_25 rfl rfl rfl ?_
  refine sk_getI 29 dX3_holdOf_26 rfl lfX3_74 (sk_tileAt hb5) rfl ?_
  refine sk_iload_n 3 30 dX3_holdOf_29 rfl rfl rfl ?_
  refine sk_callVi [.int r22, .int (t22 (3 + v1.toNatClampNeg) 3), .int v2] [] 33 dX3_holdOf_30 rfl mfX1_give lkX3_77 miX1_give msX1_give sc_23 rfl rfl rfl rfl (by simp [Value.category]) hd0 (sk_Cm h ?_)
  rintro w t30 ⟨r30, hw, h⟩
  refine ⟨r30, hw, ?_⟩
  exact sk_iret dX3_holdOf_33 rfl rfl h

theorem wX3_rightUnder {d : Nat} {τ : sk_T} {K : sk_K} {v0 : Int64}
  (h : K (some (.long ((v0 <<< (Int32.toInt64 (8 : Int32) &&& 63)) &&& 281474976710655))) τ) :
  sk_C sk_Sc d mX3_rightUnder [.long v0] τ K := by
  refine sk_enter mfX3_rightUnder (Nat.le_of_ble_eq_true rfl) ?_
  show sk_G sk_Sc d mX3_rightUnder 0 [(0, .long v0)] [] τ K
  refine sk_lload_n 0 1 dX3_rightUnder_0 rfl rfl rfl ?_
  refine sk_bipush (v := 8) 3 dX3_rightUnder_1 rfl (by decide) ?_
  refine sk_lshl 4 dX3_rightUnder_3 rfl ?_
  refine sk_ldc2 7 dX3_rightUnder_4 rfl klX3_81 ?_
  refine sk_land 8 dX3_rightUnder_7 rfl ?_
  exact sk_lret dX3_rightUnder_8 rfl h

theorem wX3_rightAbove {d : Nat} {τ : sk_T} {K : sk_K} {v0 : Int64}
  (h : K (some (.long (sk_lush v0 8))) τ) :
  sk_C sk_Sc d mX3_rightAbove [.long v0] τ K := by
  refine sk_enter mfX3_rightAbove (Nat.le_of_ble_eq_true rfl) ?_
  show sk_G sk_Sc d mX3_rightAbove 0 [(0, .long v0)] [] τ K
  refine sk_lload_n 0 1 dX3_rightAbove_0 rfl rfl rfl ?_
  refine sk_bipush (v := 8) 3 dX3_rightAbove_1 rfl (by decide) ?_
  refine sk_lushr 4 dX3_rightAbove_3 rfl ?_
  exact sk_lret dX3_rightAbove_4 rfl h

theorem wX3_covered {d : Nat} {τ : sk_T} {K : sk_K} {v0 : Int64} (hd0 : 0 < d)
  (h : sk_C sk_Sc (d - 1) mX3_rightUnder [.long v0] τ (fun w t2 => ∃ r2 : Int64, w = some (.long r2) ∧
      K (some (.long (v0 ||| r2))) t2
    )) :
  sk_C sk_Sc d mX3_covered [.long v0] τ K := by
  refine sk_enter mfX3_covered (Nat.le_of_ble_eq_true rfl) ?_
  show sk_G sk_Sc d mX3_covered 0 [(0, .long v0)] [] τ K
  refine sk_lload_n 0 1 dX3_covered_0 rfl rfl rfl ?_
  refine sk_lload_n 0 2 dX3_covered_1 rfl rfl rfl ?_
  refine sk_callSl [.long v0] [.long v0] 5 dX3_covered_2 rfl mfX3_rightUnder lkX3_83 miX3_rightUnder rfl rfl (by simp [Value.category]) hd0 (sk_Cm h ?_)
  rintro w t2 ⟨r2, hw, h⟩
  refine ⟨r2, hw, ?_⟩
  refine sk_lor 6 dX3_covered_5 rfl ?_
  exact sk_lret dX3_covered_6 rfl h

theorem wX3_mayLie {d : Nat} {τ : sk_T} {K : sk_K} {v1 : Int32} {v2 : Int32} (hd0 : 0 < d)
  (h : vp_in v1 10 ∧
    sk_C sk_Sc (d - 1) mX5_ownAt [.ref (3 + v1.toNatClampNeg), .int v2] τ (fun w t7 => ∃ r7 : Int64, w = some (.long r7) ∧
      sk_G sk_Sc d mX3_mayLie 14 [(0, .ref 1), (1, .int v1), (3, .long r7), (5, .int 0)] [] t7 K
    )) :
  sk_C sk_Sc d mX3_mayLie [.ref 1, .int v1, .int v2] τ K := by
  refine sk_enter mfX3_mayLie (Nat.le_of_ble_eq_true rfl) ?_
  show sk_G sk_Sc d mX3_mayLie 0 [(0, .ref 1), (1, .int v1), (2, .int v2)] [] τ K
  refine sk_aload_n 0 1 dX3_mayLie_0 rfl rfl rfl ?_
  refine sk_getR (r := 35) 4 dX3_mayLie_1 rfl lfX3_11 sc_1 rfl ?_
  refine sk_iload_n 1 5 dX3_mayLie_4 rfl rfl rfl ?_
  have hb5 := h.1
  have h := h.2
  refine sk_aald 6 dX3_mayLie_5 rfl sc_35 (by decide) hb5 _ rfl (r := (3 + v1.toNatClampNeg)) (sk_tl0 hb5) ?_
  refine sk_iload_n 2 7 dX3_mayLie_6 rfl rfl rfl ?_
  refine sk_callVl [.int v2] [] 10 dX3_mayLie_7 rfl mfX5_ownAt lkX3_87 miX5_ownAt msX5_ownAt (sk_tileAt hb5) rfl rfl rfl rfl (by simp [Value.category]) hd0 (sk_Cm h ?_)
  rintro w t7 ⟨r7, hw, h⟩
  refine ⟨r7, hw, ?_⟩
  refine sk_lstore_n (lv2 := [(3, .long r7), (0, .ref 1), (1, .int v1), (2, .int v2)]) 11 dX3_mayLie_10 rfl rfl (by decide) rfl ?_
  refine sk_iconst (v := 0) 12 dX3_mayLie_11 rfl (by decide) ?_
  refine sk_istore (lv2 := [(5, .int 0), (3, .long r7), (0, .ref 1), (1, .int v1), (2, .int v2)]) 14 dX3_mayLie_12 rfl (by decide) rfl ?_
  refine sk_perm (lv2 := [(0, .ref 1), (1, .int v1), (3, .long r7), (5, .int 0)]) [2, 3, 1, 0] rfl ?_
  exact h

theorem bX3_mayLie_14 {d : Nat} {τ : sk_T} {K : sk_K} {v1 : Int32} {v3 : Int64} {v5 : Int32} (hd0 : 0 < d)
  (h : (((τ 1 1) ≤ v5 →
      vp_in v1 10 ∧
      (((τ (3 + v1.toNatClampNeg) 4) < 0 →
        K (some (.int 1)) τ
      ) ∧
      (¬ (τ (3 + v1.toNatClampNeg) 4) < 0 →
        (((τ 1 1) ≤ (τ (3 + v1.toNatClampNeg) 4) →
          K (some (.int 1)) τ
        ) ∧
        (¬ (τ 1 1) ≤ (τ (3 + v1.toNatClampNeg) 4) →
          vp_in (τ (3 + v1.toNatClampNeg) 4) 10 ∧
          sk_C sk_Sc (d - 1) mX5_isLaid [.ref (3 + ((τ (3 + v1.toNatClampNeg) 4)).toNatClampNeg)] τ (fun w t86 => ∃ r86 : Int32, w = some (.int r86) ∧
            ((¬ r86 = 0 →
              sk_C sk_Sc (d - 1) mX3_rightAbove [.long v3] t86 (fun w t95 => ∃ r95 : Int64, w = some (.long r95) ∧
                sk_C sk_Sc (d - 1) mX3_rightUnder [.long v3] t95 (fun w t99 => ∃ r99 : Int64, w = some (.long r99) ∧
                  vp_in (τ (3 + v1.toNatClampNeg) 4) 10 ∧
                  sk_C sk_Sc (d - 1) mX5_own [.ref (3 + ((τ (3 + v1.toNatClampNeg) 4)).toNatClampNeg)] t99 (fun w t110 => ∃ r110 : Int64, w = some (.long r110) ∧
                    (((lg_cmp ((r95 ||| r99) &&& r110) 0) = 0 →
                      K (some (.int 0)) t110
                    ) ∧
                    (¬ (lg_cmp ((r95 ||| r99) &&& r110) 0) = 0 →
                      K (some (.int 1)) t110
                    ))
                  )
                )
              )
            ) ∧
            (r86 = 0 →
              K (some (.int 1)) t86
            ))
          )
        ))
      ))
    ) ∧
    (¬ (τ 1 1) ≤ v5 →
      ((v5 = v1 →
        sk_G sk_Sc d mX3_mayLie 14 [(0, .ref 1), (1, .int v1), (3, .long v3), (5, .int (v5 + 1))] [] τ K
      ) ∧
      (¬ v5 = v1 →
        vp_in v5 10 ∧
        sk_C sk_Sc (d - 1) mX5_own [.ref (3 + v5.toNatClampNeg)] τ (fun w t37 => ∃ r37 : Int64, w = some (.long r37) ∧
          (((lg_cmp (v3 &&& r37) 0) = 0 →
            sk_G sk_Sc d mX3_mayLie 14 [(0, .ref 1), (1, .int v1), (3, .long v3), (5, .int (v5 + 1))] [] t37 K
          ) ∧
          (¬ (lg_cmp (v3 &&& r37) 0) = 0 →
            K (some (.int 0)) t37
          ))
        )
      ))
    ))) :
  sk_G sk_Sc d mX3_mayLie 14 [(0, .ref 1), (1, .int v1), (3, .long v3), (5, .int v5)] [] τ K := by
  refine sk_iload 3 16 dX3_mayLie_14 rfl rfl ?_
  refine sk_aload_n 0 17 dX3_mayLie_16 rfl rfl rfl ?_
  refine sk_getI 20 dX3_mayLie_17 rfl lfX3_17 sc_1 rfl ?_
  refine sk_icmp_ge 54 23 dX3_mayLie_20 (by decide) rfl (fun hc => ?_) (fun hc => ?_)
  · have h := h.1 hc
    refine sk_aload_n 0 55 dX3_mayLie_54 rfl rfl rfl ?_
    refine sk_getR (r := 35) 58 dX3_mayLie_55 rfl lfX3_11 sc_1 rfl ?_
    refine sk_iload_n 1 59 dX3_mayLie_58 rfl rfl rfl ?_
    have hb59 := h.1
    have h := h.2
    refine sk_aald 60 dX3_mayLie_59 rfl sc_35 (by decide) hb59 _ rfl (r := (3 + v1.toNatClampNeg)) (sk_tl0 hb59) ?_
    refine sk_getI 63 dX3_mayLie_60 rfl lfX3_95 (sk_tileAt hb59) rfl ?_
    refine sk_istore (lv2 := [(5, .int (τ (3 + v1.toNatClampNeg) 4)), (0, .ref 1), (1, .int v1), (3, .long v3)]) 65 dX3_mayLie_63 rfl (by decide) rfl ?_
    refine sk_iload 0 67 dX3_mayLie_65 rfl rfl ?_
    refine sk_if_lt 92 70 dX3_mayLie_67 (by decide) rfl (fun hc => ?_) (fun hc => ?_)
    · have h := h.1 hc
      refine sk_iconst (v := 1) 93 dX3_mayLie_92 rfl (by decide) ?_
      exact sk_iret dX3_mayLie_93 rfl rfl h
    · have h := h.2 hc
      refine sk_iload 0 72 dX3_mayLie_70 rfl rfl ?_
      refine sk_aload_n 1 73 dX3_mayLie_72 rfl rfl rfl ?_
      refine sk_getI 76 dX3_mayLie_73 rfl lfX3_17 sc_1 rfl ?_
      refine sk_icmp_ge 92 79 dX3_mayLie_76 (by decide) rfl (fun hc => ?_) (fun hc => ?_)
      · have h := h.1 hc
        refine sk_iconst (v := 1) 93 dX3_mayLie_92 rfl (by decide) ?_
        exact sk_iret dX3_mayLie_93 rfl rfl h
      · have h := h.2 hc
        refine sk_aload_n 1 80 dX3_mayLie_79 rfl rfl rfl ?_
        refine sk_getR (r := 35) 83 dX3_mayLie_80 rfl lfX3_11 sc_1 rfl ?_
        refine sk_iload 0 85 dX3_mayLie_83 rfl rfl ?_
        have hb85 := h.1
        have h := h.2
        refine sk_aald 86 dX3_mayLie_85 rfl sc_35 (by decide) hb85 _ rfl (r := (3 + ((τ (3 + v1.toNatClampNeg) 4)).toNatClampNeg)) (sk_tl0 hb85) ?_
        refine sk_callVi [] [] 89 dX3_mayLie_86 rfl mfX5_isLaid lkX3_98 miX5_isLaid msX5_isLaid (sk_tileAt hb85) rfl rfl rfl rfl (by simp [Value.category]) hd0 (sk_Cm h ?_)
        rintro w t86 ⟨r86, hw, h⟩
        refine ⟨r86, hw, ?_⟩
        refine sk_if_ne 94 92 dX3_mayLie_89 (by decide) rfl (fun hc => ?_) (fun hc => ?_)
        · have h := h.1 hc
          refine sk_lload_n 3 95 dX3_mayLie_94 rfl rfl rfl ?_
          refine sk_callSl [.long v3] [] 98 dX3_mayLie_95 rfl mfX3_rightAbove lkX3_102 miX3_rightAbove rfl rfl (by simp [Value.category]) hd0 (sk_Cm h ?_)
          rintro w t95 ⟨r95, hw, h⟩
          refine ⟨r95, hw, ?_⟩
          refine sk_lload_n 3 99 dX3_mayLie_98 rfl rfl rfl ?_
          refine sk_callSl [.long v3] [.long r95] 102 dX3_mayLie_99 rfl mfX3_rightUnder lkX3_83 miX3_rightUnder rfl rfl (by simp [Value.category]) hd0 (sk_Cm h ?_)
          rintro w t99 ⟨r99, hw, h⟩
          refine ⟨r99, hw, ?_⟩
          refine sk_lor 103 dX3_mayLie_102 rfl ?_
          refine sk_aload_n 1 104 dX3_mayLie_103 rfl rfl rfl ?_
          refine sk_getR (r := 35) 107 dX3_mayLie_104 rfl lfX3_11 sc_1 rfl ?_
          refine sk_iload 0 109 dX3_mayLie_107 rfl rfl ?_
          have hb109 := h.1
          have h := h.2
          refine sk_aald 110 dX3_mayLie_109 rfl sc_35 (by decide) hb109 _ rfl (r := (3 + ((τ (3 + v1.toNatClampNeg) 4)).toNatClampNeg)) (sk_tl0 hb109) ?_
          refine sk_callVl [] [.long (r95 ||| r99)] 113 dX3_mayLie_110 rfl mfX5_own lkX3_91 miX5_own msX5_own (sk_tileAt hb109) rfl rfl rfl rfl (by simp [Value.category]) hd0 (sk_Cm h ?_)
          rintro w t110 ⟨r110, hw, h⟩
          refine ⟨r110, hw, ?_⟩
          refine sk_land 114 dX3_mayLie_113 rfl ?_
          refine sk_lconst (v := 0) 115 dX3_mayLie_114 rfl (by decide) ?_
          refine sk_lcmp 116 dX3_mayLie_115 rfl ?_
          refine sk_if_eq 123 119 dX3_mayLie_116 (by decide) rfl (fun hc => ?_) (fun hc => ?_)
          · have h := h.1 hc
            refine sk_iconst (v := 0) 124 dX3_mayLie_123 rfl (by decide) ?_
            exact sk_iret dX3_mayLie_124 rfl rfl h
          · have h := h.2 hc
            refine sk_iconst (v := 1) 120 dX3_mayLie_119 rfl (by decide) ?_
            refine sk_goto 124 dX3_mayLie_120 (by decide) ?_
            exact sk_iret dX3_mayLie_124 rfl rfl h
        · have h := h.2 hc
          refine sk_iconst (v := 1) 93 dX3_mayLie_92 rfl (by decide) ?_
          exact sk_iret dX3_mayLie_93 rfl rfl h
  · have h := h.2 hc
    refine sk_iload 3 25 dX3_mayLie_23 rfl rfl ?_
    refine sk_iload_n 1 26 dX3_mayLie_25 rfl rfl rfl ?_
    refine sk_icmp_eq 48 29 dX3_mayLie_26 (by decide) rfl (fun hc => ?_) (fun hc => ?_)
    · have h := h.1 hc
      refine sk_iinc (v := (v5 + 1)) (lv2 := [(5, .int (v5 + 1)), (0, .ref 1), (1, .int v1), (3, .long v3)]) 3 51 dX3_mayLie_48 rfl rfl rfl (by decide) rfl ?_
      refine sk_goto 14 dX3_mayLie_51 (by decide) ?_
      refine sk_perm (lv2 := [(0, .ref 1), (1, .int v1), (3, .long v3), (5, .int (v5 + 1))]) [1, 2, 3, 0] rfl ?_
      exact h
    · have h := h.2 hc
      refine sk_lload_n 2 30 dX3_mayLie_29 rfl rfl rfl ?_
      refine sk_aload_n 0 31 dX3_mayLie_30 rfl rfl rfl ?_
      refine sk_getR (r := 35) 34 dX3_mayLie_31 rfl lfX3_11 sc_1 rfl ?_
      refine sk_iload 3 36 dX3_mayLie_34 rfl rfl ?_
      have hb36 := h.1
      have h := h.2
      refine sk_aald 37 dX3_mayLie_36 rfl sc_35 (by decide) hb36 _ rfl (r := (3 + v5.toNatClampNeg)) (sk_tl0 hb36) ?_
      refine sk_callVl [] [.long v3] 40 dX3_mayLie_37 rfl mfX5_own lkX3_91 miX5_own msX5_own (sk_tileAt hb36) rfl rfl rfl rfl (by simp [Value.category]) hd0 (sk_Cm h ?_)
      rintro w t37 ⟨r37, hw, h⟩
      refine ⟨r37, hw, ?_⟩
      refine sk_land 41 dX3_mayLie_40 rfl ?_
      refine sk_lconst (v := 0) 42 dX3_mayLie_41 rfl (by decide) ?_
      refine sk_lcmp 43 dX3_mayLie_42 rfl ?_
      refine sk_if_eq 48 46 dX3_mayLie_43 (by decide) rfl (fun hc => ?_) (fun hc => ?_)
      · have h := h.1 hc
        refine sk_iinc (v := (v5 + 1)) (lv2 := [(5, .int (v5 + 1)), (0, .ref 1), (1, .int v1), (3, .long v3)]) 3 51 dX3_mayLie_48 rfl rfl rfl (by decide) rfl ?_
        refine sk_goto 14 dX3_mayLie_51 (by decide) ?_
        refine sk_perm (lv2 := [(0, .ref 1), (1, .int v1), (3, .long v3), (5, .int (v5 + 1))]) [1, 2, 3, 0] rfl ?_
        exact h
      · have h := h.2 hc
        refine sk_iconst (v := 0) 47 dX3_mayLie_46 rfl (by decide) ?_
        exact sk_iret dX3_mayLie_47 rfl rfl h

theorem wX3_dryBut {d : Nat} {τ : sk_T} {K : sk_K} {v1 : Int32}
  (h : sk_G sk_Sc d mX3_dryBut 5 [(0, .ref 1), (1, .int v1), (2, .long 0), (4, .int 0)] [] τ K) :
  sk_C sk_Sc d mX3_dryBut [.ref 1, .int v1] τ K := by
  refine sk_enter mfX3_dryBut (Nat.le_of_ble_eq_true rfl) ?_
  show sk_G sk_Sc d mX3_dryBut 0 [(0, .ref 1), (1, .int v1)] [] τ K
  refine sk_lconst (v := 0) 1 dX3_dryBut_0 rfl (by decide) ?_
  refine sk_lstore_n (lv2 := [(2, .long 0), (0, .ref 1), (1, .int v1)]) 2 dX3_dryBut_1 rfl rfl (by decide) rfl ?_
  refine sk_iconst (v := 0) 3 dX3_dryBut_2 rfl (by decide) ?_
  refine sk_istore (lv2 := [(4, .int 0), (2, .long 0), (0, .ref 1), (1, .int v1)]) 5 dX3_dryBut_3 rfl (by decide) rfl ?_
  refine sk_perm (lv2 := [(0, .ref 1), (1, .int v1), (2, .long 0), (4, .int 0)]) [2, 3, 1, 0] rfl ?_
  exact h

theorem bX3_dryBut_5 {d : Nat} {τ : sk_T} {K : sk_K} {v1 : Int32} {v2 : Int64} {v4 : Int32} (hd0 : 0 < d)
  (h : (((τ 1 1) ≤ v4 →
      K (some (.long v2)) τ
    ) ∧
    (¬ (τ 1 1) ≤ v4 →
      ((¬ ((v1 >>> (v4 &&& 31)) &&& 1) = 0 →
        sk_G sk_Sc d mX3_dryBut 5 [(0, .ref 1), (1, .int v1), (2, .long v2), (4, .int (v4 + 1))] [] τ K
      ) ∧
      (((v1 >>> (v4 &&& 31)) &&& 1) = 0 →
        vp_in v4 10 ∧
        sk_C sk_Sc (d - 1) mX5_own [.ref (3 + v4.toNatClampNeg)] τ (fun w t31 => ∃ r31 : Int64, w = some (.long r31) ∧
          sk_C sk_Sc (d - 1) mX3_covered [.long r31] t31 (fun w t34 => ∃ r34 : Int64, w = some (.long r34) ∧
            sk_G sk_Sc d mX3_dryBut 5 [(0, .ref 1), (1, .int v1), (2, .long (v2 ||| r34)), (4, .int (v4 + 1))] [] t34 K
          )
        )
      ))
    ))) :
  sk_G sk_Sc d mX3_dryBut 5 [(0, .ref 1), (1, .int v1), (2, .long v2), (4, .int v4)] [] τ K := by
  refine sk_iload 3 7 dX3_dryBut_5 rfl rfl ?_
  refine sk_aload_n 0 8 dX3_dryBut_7 rfl rfl rfl ?_
  refine sk_getI 11 dX3_dryBut_8 rfl lfX3_17 sc_1 rfl ?_
  refine sk_icmp_ge 45 14 dX3_dryBut_11 (by decide) rfl (fun hc => ?_) (fun hc => ?_)
  · have h := h.1 hc
    refine sk_lload_n 2 46 dX3_dryBut_45 rfl rfl rfl ?_
    exact sk_lret dX3_dryBut_46 rfl h
  · have h := h.2 hc
    refine sk_iload_n 1 15 dX3_dryBut_14 rfl rfl rfl ?_
    refine sk_iload 3 17 dX3_dryBut_15 rfl rfl ?_
    refine sk_ishr 18 dX3_dryBut_17 rfl ?_
    refine sk_iconst (v := 1) 19 dX3_dryBut_18 rfl (by decide) ?_
    refine sk_iand 20 dX3_dryBut_19 rfl ?_
    refine sk_if_ne 39 23 dX3_dryBut_20 (by decide) rfl (fun hc => ?_) (fun hc => ?_)
    · have h := h.1 hc
      refine sk_iinc (v := (v4 + 1)) (lv2 := [(4, .int (v4 + 1)), (0, .ref 1), (1, .int v1), (2, .long v2)]) 3 42 dX3_dryBut_39 rfl rfl rfl (by decide) rfl ?_
      refine sk_goto 5 dX3_dryBut_42 (by decide) ?_
      refine sk_perm (lv2 := [(0, .ref 1), (1, .int v1), (2, .long v2), (4, .int (v4 + 1))]) [1, 2, 3, 0] rfl ?_
      exact h
    · have h := h.2 hc
      refine sk_lload_n 2 24 dX3_dryBut_23 rfl rfl rfl ?_
      refine sk_aload_n 0 25 dX3_dryBut_24 rfl rfl rfl ?_
      refine sk_getR (r := 35) 28 dX3_dryBut_25 rfl lfX3_11 sc_1 rfl ?_
      refine sk_iload 3 30 dX3_dryBut_28 rfl rfl ?_
      have hb30 := h.1
      have h := h.2
      refine sk_aald 31 dX3_dryBut_30 rfl sc_35 (by decide) hb30 _ rfl (r := (3 + v4.toNatClampNeg)) (sk_tl0 hb30) ?_
      refine sk_callVl [] [.long v2] 34 dX3_dryBut_31 rfl mfX5_own lkX3_91 miX5_own msX5_own (sk_tileAt hb30) rfl rfl rfl rfl (by simp [Value.category]) hd0 (sk_Cm h ?_)
      rintro w t31 ⟨r31, hw, h⟩
      refine ⟨r31, hw, ?_⟩
      refine sk_callSl [.long r31] [.long v2] 37 dX3_dryBut_34 rfl mfX3_covered lkX3_105 miX3_covered rfl rfl (by simp [Value.category]) hd0 (sk_Cm h ?_)
      rintro w t34 ⟨r34, hw, h⟩
      refine ⟨r34, hw, ?_⟩
      refine sk_lor 38 dX3_dryBut_37 rfl ?_
      refine sk_lstore_n (lv2 := [(2, .long (v2 ||| r34)), (0, .ref 1), (1, .int v1), (4, .int v4)]) 39 dX3_dryBut_38 rfl rfl (by decide) rfl ?_
      refine sk_iinc (v := (v4 + 1)) (lv2 := [(4, .int (v4 + 1)), (2, .long (v2 ||| r34)), (0, .ref 1), (1, .int v1)]) 3 42 dX3_dryBut_39 rfl rfl rfl (by decide) rfl ?_
      refine sk_goto 5 dX3_dryBut_42 (by decide) ?_
      refine sk_perm (lv2 := [(0, .ref 1), (1, .int v1), (2, .long (v2 ||| r34)), (4, .int (v4 + 1))]) [2, 3, 1, 0] rfl ?_
      exact h

theorem wX3_dryWith {d : Nat} {τ : sk_T} {K : sk_K} {v1 : Int32} {v2 : Int32} (hd0 : 0 < d)
  (h : sk_C sk_Sc (d - 1) mX3_dryBut [.ref 1, .int (1 <<< (v1 &&& 31))] τ (fun w t4 => ∃ r4 : Int64, w = some (.long r4) ∧
      vp_in v1 10 ∧
      sk_C sk_Sc (d - 1) mX5_ownAt [.ref (3 + v1.toNatClampNeg), .int v2] t4 (fun w t14 => ∃ r14 : Int64, w = some (.long r14) ∧
        sk_C sk_Sc (d - 1) mX3_covered [.long r14] t14 (fun w t17 => ∃ r17 : Int64, w = some (.long r17) ∧
          sk_C sk_Sc (d - 1) mJ13_bitCount_95d88 [.long (r4 ||| r17)] t17 (fun w t21 => ∃ r21 : Int32, w = some (.int r21) ∧
            K (some (.int r21)) t21
          )
        )
      )
    )) :
  sk_C sk_Sc d mX3_dryWith [.ref 1, .int v1, .int v2] τ K := by
  refine sk_enter mfX3_dryWith (Nat.le_of_ble_eq_true rfl) ?_
  show sk_G sk_Sc d mX3_dryWith 0 [(0, .ref 1), (1, .int v1), (2, .int v2)] [] τ K
  refine sk_aload_n 0 1 dX3_dryWith_0 rfl rfl rfl ?_
  refine sk_iconst (v := 1) 2 dX3_dryWith_1 rfl (by decide) ?_
  refine sk_iload_n 1 3 dX3_dryWith_2 rfl rfl rfl ?_
  refine sk_ishl 4 dX3_dryWith_3 rfl ?_
  refine sk_callVl [.int (1 <<< (v1 &&& 31))] [] 7 dX3_dryWith_4 rfl mfX3_dryBut lkX3_108 miX3_dryBut msX3_dryBut sc_1 rfl rfl rfl rfl (by simp [Value.category]) hd0 (sk_Cm h ?_)
  rintro w t4 ⟨r4, hw, h⟩
  refine ⟨r4, hw, ?_⟩
  refine sk_aload_n 0 8 dX3_dryWith_7 rfl rfl rfl ?_
  refine sk_getR (r := 35) 11 dX3_dryWith_8 rfl lfX3_11 sc_1 rfl ?_
  refine sk_iload_n 1 12 dX3_dryWith_11 rfl rfl rfl ?_
  have hb12 := h.1
  have h := h.2
  refine sk_aald 13 dX3_dryWith_12 rfl sc_35 (by decide) hb12 _ rfl (r := (3 + v1.toNatClampNeg)) (sk_tl0 hb12) ?_
  refine sk_iload_n 2 14 dX3_dryWith_13 rfl rfl rfl ?_
  refine sk_callVl [.int v2] [.long r4] 17 dX3_dryWith_14 rfl mfX5_ownAt lkX3_87 miX5_ownAt msX5_ownAt (sk_tileAt hb12) rfl rfl rfl rfl (by simp [Value.category]) hd0 (sk_Cm h ?_)
  rintro w t14 ⟨r14, hw, h⟩
  refine ⟨r14, hw, ?_⟩
  refine sk_callSl [.long r14] [.long r4] 20 dX3_dryWith_17 rfl mfX3_covered lkX3_105 miX3_covered rfl rfl (by simp [Value.category]) hd0 (sk_Cm h ?_)
  rintro w t17 ⟨r17, hw, h⟩
  refine ⟨r17, hw, ?_⟩
  refine sk_lor 21 dX3_dryWith_20 rfl ?_
  refine sk_callSi [.long (r4 ||| r17)] [] 24 dX3_dryWith_21 rfl mfJ13_bitCount_95d88 lkX3_111 miJ13_bitCount_95d88 rfl rfl (by simp [Value.category]) hd0 (sk_Cm h ?_)
  rintro w t21 ⟨r21, hw, h⟩
  refine ⟨r21, hw, ?_⟩
  exact sk_iret dX3_dryWith_24 rfl rfl h

theorem wX3_bestCell {d : Nat} {τ : sk_T} {K : sk_K} {v1 : Int32}
  (h : sk_G sk_Sc d mX3_bestCell 7 [(0, .ref 1), (1, .int v1), (2, .int (-1)), (3, .int (-1)), (4, .int 0)] [] τ K) :
  sk_C sk_Sc d mX3_bestCell [.ref 1, .int v1] τ K := by
  refine sk_enter mfX3_bestCell (Nat.le_of_ble_eq_true rfl) ?_
  show sk_G sk_Sc d mX3_bestCell 0 [(0, .ref 1), (1, .int v1)] [] τ K
  refine sk_iconst (v := (-1)) 1 dX3_bestCell_0 rfl (by decide) ?_
  refine sk_istore_n (lv2 := [(2, .int (-1)), (0, .ref 1), (1, .int v1)]) 2 dX3_bestCell_1 rfl rfl (by decide) rfl ?_
  refine sk_iconst (v := (-1)) 3 dX3_bestCell_2 rfl (by decide) ?_
  refine sk_istore_n (lv2 := [(3, .int (-1)), (2, .int (-1)), (0, .ref 1), (1, .int v1)]) 4 dX3_bestCell_3 rfl rfl (by decide) rfl ?_
  refine sk_iconst (v := 0) 5 dX3_bestCell_4 rfl (by decide) ?_
  refine sk_istore (lv2 := [(4, .int 0), (3, .int (-1)), (2, .int (-1)), (0, .ref 1), (1, .int v1)]) 7 dX3_bestCell_5 rfl (by decide) rfl ?_
  refine sk_perm (lv2 := [(0, .ref 1), (1, .int v1), (2, .int (-1)), (3, .int (-1)), (4, .int 0)]) [3, 4, 2, 1, 0] rfl ?_
  exact h

theorem bX3_bestCell_7 {d : Nat} {τ : sk_T} {K : sk_K} {v1 : Int32} {v2 : Int32} {v3 : Int32} {v4 : Int32} (hd0 : 0 < d)
  (h : ((48 ≤ v4 →
      K (some (.int v2)) τ
    ) ∧
    (¬ 48 ≤ v4 →
      sk_C sk_Sc (d - 1) mX3_mayLie [.ref 1, .int v1, .int v4] τ (fun w t18 => ∃ r18 : Int32, w = some (.int r18) ∧
        ((r18 = 0 →
          sk_G sk_Sc d mX3_bestCell 7 [(0, .ref 1), (1, .int v1), (2, .int v2), (3, .int v3), (4, .int (v4 + 1))] [] t18 K
        ) ∧
        (¬ r18 = 0 →
          sk_C sk_Sc (d - 1) mX3_dryWith [.ref 1, .int v1, .int v4] t18 (fun w t28 => ∃ r28 : Int32, w = some (.int r28) ∧
            ((r28 ≤ v3 →
              sk_G sk_Sc d mX3_bestCell 7 [(0, .ref 1), (1, .int v1), (2, .int v2), (3, .int v3), (4, .int (v4 + 1))] [] t28 K
            ) ∧
            (¬ r28 ≤ v3 →
              sk_C sk_Sc (d - 1) mX3_dryWith [.ref 1, .int v1, .int v4] t28 (fun w t42 => ∃ r42 : Int32, w = some (.int r42) ∧
                sk_G sk_Sc d mX3_bestCell 7 [(0, .ref 1), (1, .int v1), (2, .int v4), (3, .int r42), (4, .int (v4 + 1))] [] t42 K
              )
            ))
          )
        ))
      )
    ))) :
  sk_G sk_Sc d mX3_bestCell 7 [(0, .ref 1), (1, .int v1), (2, .int v2), (3, .int v3), (4, .int v4)] [] τ K := by
  refine sk_iload 4 9 dX3_bestCell_7 rfl rfl ?_
  refine sk_bipush (v := 48) 11 dX3_bestCell_9 rfl (by decide) ?_
  refine sk_icmp_ge 52 14 dX3_bestCell_11 (by decide) rfl (fun hc => ?_) (fun hc => ?_)
  · have h := h.1 hc
    refine sk_iload_n 2 53 dX3_bestCell_52 rfl rfl rfl ?_
    exact sk_iret dX3_bestCell_53 rfl rfl h
  · have h := h.2 hc
    refine sk_aload_n 0 15 dX3_bestCell_14 rfl rfl rfl ?_
    refine sk_iload_n 1 16 dX3_bestCell_15 rfl rfl rfl ?_
    refine sk_iload 4 18 dX3_bestCell_16 rfl rfl ?_
    refine sk_callVi [.int v1, .int v4] [] 21 dX3_bestCell_18 rfl mfX3_mayLie lkX3_117 miX3_mayLie msX3_mayLie sc_1 rfl rfl rfl rfl (by simp [Value.category]) hd0 (sk_Cm h ?_)
    rintro w t18 ⟨r18, hw, h⟩
    refine ⟨r18, hw, ?_⟩
    refine sk_if_eq 46 24 dX3_bestCell_21 (by decide) rfl (fun hc => ?_) (fun hc => ?_)
    · have h := h.1 hc
      refine sk_iinc (v := (v4 + 1)) (lv2 := [(4, .int (v4 + 1)), (0, .ref 1), (1, .int v1), (2, .int v2), (3, .int v3)]) 4 49 dX3_bestCell_46 rfl rfl rfl (by decide) rfl ?_
      refine sk_goto 7 dX3_bestCell_49 (by decide) ?_
      refine sk_perm (lv2 := [(0, .ref 1), (1, .int v1), (2, .int v2), (3, .int v3), (4, .int (v4 + 1))]) [1, 2, 3, 4, 0] rfl ?_
      exact h
    · have h := h.2 hc
      refine sk_aload_n 0 25 dX3_bestCell_24 rfl rfl rfl ?_
      refine sk_iload_n 1 26 dX3_bestCell_25 rfl rfl rfl ?_
      refine sk_iload 4 28 dX3_bestCell_26 rfl rfl ?_
      refine sk_callVi [.int v1, .int v4] [] 31 dX3_bestCell_28 rfl mfX3_dryWith lkX3_121 miX3_dryWith msX3_dryWith sc_1 rfl rfl rfl rfl (by simp [Value.category]) hd0 (sk_Cm h ?_)
      rintro w t28 ⟨r28, hw, h⟩
      refine ⟨r28, hw, ?_⟩
      refine sk_iload_n 3 32 dX3_bestCell_31 rfl rfl rfl ?_
      refine sk_icmp_le 46 35 dX3_bestCell_32 (by decide) rfl (fun hc => ?_) (fun hc => ?_)
      · have h := h.1 hc
        refine sk_iinc (v := (v4 + 1)) (lv2 := [(4, .int (v4 + 1)), (0, .ref 1), (1, .int v1), (2, .int v2), (3, .int v3)]) 4 49 dX3_bestCell_46 rfl rfl rfl (by decide) rfl ?_
        refine sk_goto 7 dX3_bestCell_49 (by decide) ?_
        refine sk_perm (lv2 := [(0, .ref 1), (1, .int v1), (2, .int v2), (3, .int v3), (4, .int (v4 + 1))]) [1, 2, 3, 4, 0] rfl ?_
        exact h
      · have h := h.2 hc
        refine sk_iload 4 37 dX3_bestCell_35 rfl rfl ?_
        refine sk_istore_n (lv2 := [(2, .int v4), (0, .ref 1), (1, .int v1), (3, .int v3), (4, .int v4)]) 38 dX3_bestCell_37 rfl rfl (by decide) rfl ?_
        refine sk_aload_n 1 39 dX3_bestCell_38 rfl rfl rfl ?_
        refine sk_iload_n 2 40 dX3_bestCell_39 rfl rfl rfl ?_
        refine sk_iload 4 42 dX3_bestCell_40 rfl rfl ?_
        refine sk_callVi [.int v1, .int v4] [] 45 dX3_bestCell_42 rfl mfX3_dryWith lkX3_121 miX3_dryWith msX3_dryWith sc_1 rfl rfl rfl rfl (by simp [Value.category]) hd0 (sk_Cm h ?_)
        rintro w t42 ⟨r42, hw, h⟩
        refine ⟨r42, hw, ?_⟩
        refine sk_istore_n (lv2 := [(3, .int r42), (2, .int v4), (0, .ref 1), (1, .int v1), (4, .int v4)]) 46 dX3_bestCell_45 rfl rfl (by decide) rfl ?_
        refine sk_iinc (v := (v4 + 1)) (lv2 := [(4, .int (v4 + 1)), (3, .int r42), (2, .int v4), (0, .ref 1), (1, .int v1)]) 4 49 dX3_bestCell_46 rfl rfl rfl (by decide) rfl ?_
        refine sk_goto 7 dX3_bestCell_49 (by decide) ?_
        refine sk_perm (lv2 := [(0, .ref 1), (1, .int v1), (2, .int v4), (3, .int r42), (4, .int (v4 + 1))]) [3, 4, 2, 1, 0] rfl ?_
        exact h

theorem wX3_lyingOver {d : Nat} {τ : sk_T} {K : sk_K} {v1 : Int32}
  (h : sk_G sk_Sc d mX3_lyingOver 4 [(0, .ref 1), (1, .int v1), (2, .int 0), (3, .int 0)] [] τ K) :
  sk_C sk_Sc d mX3_lyingOver [.ref 1, .int v1] τ K := by
  refine sk_enter mfX3_lyingOver (Nat.le_of_ble_eq_true rfl) ?_
  show sk_G sk_Sc d mX3_lyingOver 0 [(0, .ref 1), (1, .int v1)] [] τ K
  refine sk_iconst (v := 0) 1 dX3_lyingOver_0 rfl (by decide) ?_
  refine sk_istore_n (lv2 := [(2, .int 0), (0, .ref 1), (1, .int v1)]) 2 dX3_lyingOver_1 rfl rfl (by decide) rfl ?_
  refine sk_iconst (v := 0) 3 dX3_lyingOver_2 rfl (by decide) ?_
  refine sk_istore_n (lv2 := [(3, .int 0), (2, .int 0), (0, .ref 1), (1, .int v1)]) 4 dX3_lyingOver_3 rfl rfl (by decide) rfl ?_
  refine sk_perm (lv2 := [(0, .ref 1), (1, .int v1), (2, .int 0), (3, .int 0)]) [2, 3, 1, 0] rfl ?_
  exact h

theorem bX3_lyingOver_4 {d : Nat} {τ : sk_T} {K : sk_K} {v1 : Int32} {v2 : Int32} {v3 : Int32} (hd0 : 0 < d)
  (h : (((τ 1 1) ≤ v3 →
      K (some (.int v2)) τ
    ) ∧
    (¬ (τ 1 1) ≤ v3 →
      vp_in v3 10 ∧
      sk_C sk_Sc (d - 1) mX5_own [.ref (3 + v3.toNatClampNeg)] τ (fun w t19 => ∃ r19 : Int64, w = some (.long r19) ∧
        sk_C sk_Sc (d - 1) mX3_covered [.long r19] t19 (fun w t22 => ∃ r22 : Int64, w = some (.long r22) ∧
          sk_G sk_Sc d mX3_lyingOver 4 [(0, .ref 1), (1, .int v1), (2, .int (v2 ||| ((Int64.toInt32 ((sk_lush r22 v1) &&& 1)) <<< (v3 &&& 31)))), (3, .int (v3 + 1))] [] t22 K
        )
      )
    ))) :
  sk_G sk_Sc d mX3_lyingOver 4 [(0, .ref 1), (1, .int v1), (2, .int v2), (3, .int v3)] [] τ K := by
  refine sk_iload_n 3 5 dX3_lyingOver_4 rfl rfl rfl ?_
  refine sk_aload_n 0 6 dX3_lyingOver_5 rfl rfl rfl ?_
  refine sk_getI 9 dX3_lyingOver_6 rfl lfX3_17 sc_1 rfl ?_
  refine sk_icmp_ge 40 12 dX3_lyingOver_9 (by decide) rfl (fun hc => ?_) (fun hc => ?_)
  · have h := h.1 hc
    refine sk_iload_n 2 41 dX3_lyingOver_40 rfl rfl rfl ?_
    exact sk_iret dX3_lyingOver_41 rfl rfl h
  · have h := h.2 hc
    refine sk_iload_n 2 13 dX3_lyingOver_12 rfl rfl rfl ?_
    refine sk_aload_n 0 14 dX3_lyingOver_13 rfl rfl rfl ?_
    refine sk_getR (r := 35) 17 dX3_lyingOver_14 rfl lfX3_11 sc_1 rfl ?_
    refine sk_iload_n 3 18 dX3_lyingOver_17 rfl rfl rfl ?_
    have hb18 := h.1
    have h := h.2
    refine sk_aald 19 dX3_lyingOver_18 rfl sc_35 (by decide) hb18 _ rfl (r := (3 + v3.toNatClampNeg)) (sk_tl0 hb18) ?_
    refine sk_callVl [] [.int v2] 22 dX3_lyingOver_19 rfl mfX5_own lkX3_91 miX5_own msX5_own (sk_tileAt hb18) rfl rfl rfl rfl (by simp [Value.category]) hd0 (sk_Cm h ?_)
    rintro w t19 ⟨r19, hw, h⟩
    refine ⟨r19, hw, ?_⟩
    refine sk_callSl [.long r19] [.int v2] 25 dX3_lyingOver_22 rfl mfX3_covered lkX3_105 miX3_covered rfl rfl (by simp [Value.category]) hd0 (sk_Cm h ?_)
    rintro w t22 ⟨r22, hw, h⟩
    refine ⟨r22, hw, ?_⟩
    refine sk_iload_n 1 26 dX3_lyingOver_25 rfl rfl rfl ?_
    refine sk_lushr 27 dX3_lyingOver_26 rfl ?_
    refine sk_lconst (v := 1) 28 dX3_lyingOver_27 rfl (by decide) ?_
    refine sk_land 29 dX3_lyingOver_28 rfl ?_
    refine sk_l2i 30 dX3_lyingOver_29 rfl ?_
    refine sk_iload_n 3 31 dX3_lyingOver_30 rfl rfl rfl ?_
    refine sk_ishl 32 dX3_lyingOver_31 rfl ?_
    refine sk_ior 33 dX3_lyingOver_32 rfl ?_
    refine sk_istore_n (lv2 := [(2, .int (v2 ||| ((Int64.toInt32 ((sk_lush r22 v1) &&& 1)) <<< (v3 &&& 31)))), (0, .ref 1), (1, .int v1), (3, .int v3)]) 34 dX3_lyingOver_33 rfl rfl (by decide) rfl ?_
    refine sk_iinc (v := (v3 + 1)) (lv2 := [(3, .int (v3 + 1)), (2, .int (v2 ||| ((Int64.toInt32 ((sk_lush r22 v1) &&& 1)) <<< (v3 &&& 31)))), (0, .ref 1), (1, .int v1)]) 3 37 dX3_lyingOver_34 rfl rfl rfl (by decide) rfl ?_
    refine sk_goto 4 dX3_lyingOver_37 (by decide) ?_
    refine sk_perm (lv2 := [(0, .ref 1), (1, .int v1), (2, .int (v2 ||| ((Int64.toInt32 ((sk_lush r22 v1) &&& 1)) <<< (v3 &&& 31)))), (3, .int (v3 + 1))]) [2, 3, 1, 0] rfl ?_
    exact h

theorem wX3_toComeTo {d : Nat} {τ : sk_T} {K : sk_K} {v1 : Int32}
  (h : sk_G sk_Sc d mX3_toComeTo 4 [(0, .ref 1), (2, .int v1), (3, .int 5)] [] τ K) :
  sk_C sk_Sc d mX3_toComeTo [.ref 1, .int v1] τ K := by
  refine sk_enter mfX3_toComeTo (Nat.le_of_ble_eq_true rfl) ?_
  show sk_G sk_Sc d mX3_toComeTo 0 [(0, .ref 1), (1, .int v1)] [] τ K
  refine sk_iload_n 1 1 dX3_toComeTo_0 rfl rfl rfl ?_
  refine sk_istore_n (lv2 := [(2, .int v1), (0, .ref 1), (1, .int v1)]) 2 dX3_toComeTo_1 rfl rfl (by decide) rfl ?_
  refine sk_iconst (v := 5) 3 dX3_toComeTo_2 rfl (by decide) ?_
  refine sk_istore_n (lv2 := [(3, .int 5), (2, .int v1), (0, .ref 1), (1, .int v1)]) 4 dX3_toComeTo_3 rfl rfl (by decide) rfl ?_
  refine sk_perm (lv2 := [(0, .ref 1), (2, .int v1), (3, .int 5)]) [2, 1, 0] rfl ?_
  exact h

theorem bX3_toComeTo_4 {d : Nat} {τ : sk_T} {K : sk_K} {v2 : Int32} {v3 : Int32} (hd0 : 0 < d)
  (h : ((v3 ≤ 0 →
      K (some (.int v2)) τ
    ) ∧
    (¬ v3 ≤ 0 →
      sk_C sk_Sc (d - 1) mX3_ownOf [.ref 1, .int v2, .int v3] τ (fun w t11 => ∃ r11 : Int64, w = some (.long r11) ∧
        sk_G sk_Sc d mX3_toComeTo 19 [(0, .ref 1), (2, .int v2), (3, .int v3), (4, .long r11), (6, .int 0)] [] t11 K
      )
    ))) :
  sk_G sk_Sc d mX3_toComeTo 4 [(0, .ref 1), (2, .int v2), (3, .int v3)] [] τ K := by
  refine sk_iload_n 2 5 dX3_toComeTo_4 rfl rfl rfl ?_
  refine sk_if_le 84 8 dX3_toComeTo_5 (by decide) rfl (fun hc => ?_) (fun hc => ?_)
  · have h := h.1 hc
    refine sk_iload_n 1 85 dX3_toComeTo_84 rfl rfl rfl ?_
    exact sk_iret dX3_toComeTo_85 rfl rfl h
  · have h := h.2 hc
    refine sk_aload_n 0 9 dX3_toComeTo_8 rfl rfl rfl ?_
    refine sk_iload_n 1 10 dX3_toComeTo_9 rfl rfl rfl ?_
    refine sk_iload_n 2 11 dX3_toComeTo_10 rfl rfl rfl ?_
    refine sk_callVl [.int v2, .int v3] [] 14 dX3_toComeTo_11 rfl mfX3_ownOf lkX3_124 miX3_ownOf msX3_ownOf sc_1 rfl rfl rfl rfl (by simp [Value.category]) hd0 (sk_Cm h ?_)
    rintro w t11 ⟨r11, hw, h⟩
    refine ⟨r11, hw, ?_⟩
    refine sk_lstore (lv2 := [(4, .long r11), (0, .ref 1), (2, .int v2), (3, .int v3)]) 16 dX3_toComeTo_14 rfl (by decide) rfl ?_
    refine sk_iconst (v := 0) 17 dX3_toComeTo_16 rfl (by decide) ?_
    refine sk_istore (lv2 := [(6, .int 0), (4, .long r11), (0, .ref 1), (2, .int v2), (3, .int v3)]) 19 dX3_toComeTo_17 rfl (by decide) rfl ?_
    refine sk_perm (lv2 := [(0, .ref 1), (2, .int v2), (3, .int v3), (4, .long r11), (6, .int 0)]) [2, 3, 4, 1, 0] rfl ?_
    exact h

theorem bX3_toComeTo_19 {d : Nat} {τ : sk_T} {K : sk_K} {v2 : Int32} {v3 : Int32} {v4 : Int64} {v6 : Int32} (hd0 : 0 < d)
  (h : (((τ 1 1) ≤ v6 →
      sk_G sk_Sc d mX3_toComeTo 4 [(0, .ref 1), (2, .int v2), (3, .int (v3 + (-1)))] [] τ K
    ) ∧
    (¬ (τ 1 1) ≤ v6 →
      vp_in v6 10 ∧
      sk_C sk_Sc (d - 1) mX5_row [.ref (3 + v6.toNatClampNeg)] τ (fun w t35 => ∃ r35 : Int32, w = some (.int r35) ∧
        ((¬ r35 = (v3 - 1) →
          sk_G sk_Sc d mX3_toComeTo 19 [(0, .ref 1), (2, .int v2), (3, .int v3), (4, .long v4), (6, .int (v6 + 1))] [] t35 K
        ) ∧
        (r35 = (v3 - 1) →
          vp_in v6 10 ∧
          sk_C sk_Sc (d - 1) mX5_own [.ref (3 + v6.toNatClampNeg)] t35 (fun w t51 => ∃ r51 : Int64, w = some (.long r51) ∧
            sk_C sk_Sc (d - 1) mX3_rightUnder [.long r51] t51 (fun w t54 => ∃ r54 : Int64, w = some (.long r54) ∧
              (((lg_cmp (r54 &&& v4) 0) = 0 →
                sk_G sk_Sc d mX3_toComeTo 19 [(0, .ref 1), (2, .int v2), (3, .int v3), (4, .long v4), (6, .int (v6 + 1))] [] t54 K
              ) ∧
              (¬ (lg_cmp (r54 &&& v4) 0) = 0 →
                sk_G sk_Sc d mX3_toComeTo 19 [(0, .ref 1), (2, .int (v2 ||| (1 <<< (v6 &&& 31)))), (3, .int v3), (4, .long v4), (6, .int (v6 + 1))] [] t54 K
              ))
            )
          )
        ))
      )
    ))) :
  sk_G sk_Sc d mX3_toComeTo 19 [(0, .ref 1), (2, .int v2), (3, .int v3), (4, .long v4), (6, .int v6)] [] τ K := by
  refine sk_iload 4 21 dX3_toComeTo_19 rfl rfl ?_
  refine sk_aload_n 0 22 dX3_toComeTo_21 rfl rfl rfl ?_
  refine sk_getI 25 dX3_toComeTo_22 rfl lfX3_17 sc_1 rfl ?_
  refine sk_icmp_ge 78 28 dX3_toComeTo_25 (by decide) rfl (fun hc => ?_) (fun hc => ?_)
  · have h := h.1 hc
    refine sk_iinc (v := (v3 + (-1))) (lv2 := [(3, .int (v3 + (-1))), (0, .ref 1), (2, .int v2), (4, .long v4), (6, .int v6)]) 2 81 dX3_toComeTo_78 rfl rfl rfl (by decide) rfl ?_
    refine sk_goto 4 dX3_toComeTo_81 (by decide) ?_
    refine sk_perm (lv2 := [(0, .ref 1), (2, .int v2), (3, .int (v3 + (-1)))]) [1, 2, 0] rfl ?_
    exact h
  · have h := h.2 hc
    refine sk_aload_n 0 29 dX3_toComeTo_28 rfl rfl rfl ?_
    refine sk_getR (r := 35) 32 dX3_toComeTo_29 rfl lfX3_11 sc_1 rfl ?_
    refine sk_iload 4 34 dX3_toComeTo_32 rfl rfl ?_
    have hb34 := h.1
    have h := h.2
    refine sk_aald 35 dX3_toComeTo_34 rfl sc_35 (by decide) hb34 _ rfl (r := (3 + v6.toNatClampNeg)) (sk_tl0 hb34) ?_
    refine sk_callVi [] [] 38 dX3_toComeTo_35 rfl mfX5_row lkX3_128 miX5_row msX5_row (sk_tileAt hb34) rfl rfl rfl rfl (by simp [Value.category]) hd0 (sk_Cm h ?_)
    rintro w t35 ⟨r35, hw, h⟩
    refine ⟨r35, hw, ?_⟩
    refine sk_iload_n 2 39 dX3_toComeTo_38 rfl rfl rfl ?_
    refine sk_iconst (v := 1) 40 dX3_toComeTo_39 rfl (by decide) ?_
    refine sk_isub 41 dX3_toComeTo_40 rfl ?_
    refine sk_icmp_ne 72 44 dX3_toComeTo_41 (by decide) rfl (fun hc => ?_) (fun hc => ?_)
    · have h := h.1 hc
      refine sk_iinc (v := (v6 + 1)) (lv2 := [(6, .int (v6 + 1)), (0, .ref 1), (2, .int v2), (3, .int v3), (4, .long v4)]) 4 75 dX3_toComeTo_72 rfl rfl rfl (by decide) rfl ?_
      refine sk_goto 19 dX3_toComeTo_75 (by decide) ?_
      refine sk_perm (lv2 := [(0, .ref 1), (2, .int v2), (3, .int v3), (4, .long v4), (6, .int (v6 + 1))]) [1, 2, 3, 4, 0] rfl ?_
      exact h
    · have h := h.2 hc
      refine sk_aload_n 0 45 dX3_toComeTo_44 rfl rfl rfl ?_
      refine sk_getR (r := 35) 48 dX3_toComeTo_45 rfl lfX3_11 sc_1 rfl ?_
      refine sk_iload 4 50 dX3_toComeTo_48 rfl rfl ?_
      have hb50 := h.1
      have h := h.2
      refine sk_aald 51 dX3_toComeTo_50 rfl sc_35 (by decide) hb50 _ rfl (r := (3 + v6.toNatClampNeg)) (sk_tl0 hb50) ?_
      refine sk_callVl [] [] 54 dX3_toComeTo_51 rfl mfX5_own lkX3_91 miX5_own msX5_own (sk_tileAt hb50) rfl rfl rfl rfl (by simp [Value.category]) hd0 (sk_Cm h ?_)
      rintro w t51 ⟨r51, hw, h⟩
      refine ⟨r51, hw, ?_⟩
      refine sk_callSl [.long r51] [] 57 dX3_toComeTo_54 rfl mfX3_rightUnder lkX3_83 miX3_rightUnder rfl rfl (by simp [Value.category]) hd0 (sk_Cm h ?_)
      rintro w t54 ⟨r54, hw, h⟩
      refine ⟨r54, hw, ?_⟩
      refine sk_lload 3 59 dX3_toComeTo_57 rfl rfl ?_
      refine sk_land 60 dX3_toComeTo_59 rfl ?_
      refine sk_lconst (v := 0) 61 dX3_toComeTo_60 rfl (by decide) ?_
      refine sk_lcmp 62 dX3_toComeTo_61 rfl ?_
      refine sk_if_eq 72 65 dX3_toComeTo_62 (by decide) rfl (fun hc => ?_) (fun hc => ?_)
      · have h := h.1 hc
        refine sk_iinc (v := (v6 + 1)) (lv2 := [(6, .int (v6 + 1)), (0, .ref 1), (2, .int v2), (3, .int v3), (4, .long v4)]) 4 75 dX3_toComeTo_72 rfl rfl rfl (by decide) rfl ?_
        refine sk_goto 19 dX3_toComeTo_75 (by decide) ?_
        refine sk_perm (lv2 := [(0, .ref 1), (2, .int v2), (3, .int v3), (4, .long v4), (6, .int (v6 + 1))]) [1, 2, 3, 4, 0] rfl ?_
        exact h
      · have h := h.2 hc
        refine sk_iload_n 1 66 dX3_toComeTo_65 rfl rfl rfl ?_
        refine sk_iconst (v := 1) 67 dX3_toComeTo_66 rfl (by decide) ?_
        refine sk_iload 4 69 dX3_toComeTo_67 rfl rfl ?_
        refine sk_ishl 70 dX3_toComeTo_69 rfl ?_
        refine sk_ior 71 dX3_toComeTo_70 rfl ?_
        refine sk_istore_n (lv2 := [(2, .int (v2 ||| (1 <<< (v6 &&& 31)))), (0, .ref 1), (3, .int v3), (4, .long v4), (6, .int v6)]) 72 dX3_toComeTo_71 rfl rfl (by decide) rfl ?_
        refine sk_iinc (v := (v6 + 1)) (lv2 := [(6, .int (v6 + 1)), (2, .int (v2 ||| (1 <<< (v6 &&& 31)))), (0, .ref 1), (3, .int v3), (4, .long v4)]) 4 75 dX3_toComeTo_72 rfl rfl rfl (by decide) rfl ?_
        refine sk_goto 19 dX3_toComeTo_75 (by decide) ?_
        refine sk_perm (lv2 := [(0, .ref 1), (2, .int (v2 ||| (1 <<< (v6 &&& 31)))), (3, .int v3), (4, .long v4), (6, .int (v6 + 1))]) [2, 1, 3, 4, 0] rfl ?_
        exact h

theorem wX3_ownOf {d : Nat} {τ : sk_T} {K : sk_K} {v1 : Int32} {v2 : Int32}
  (h : sk_G sk_Sc d mX3_ownOf 5 [(0, .ref 1), (1, .int v1), (2, .int v2), (3, .long 0), (5, .int 0)] [] τ K) :
  sk_C sk_Sc d mX3_ownOf [.ref 1, .int v1, .int v2] τ K := by
  refine sk_enter mfX3_ownOf (Nat.le_of_ble_eq_true rfl) ?_
  show sk_G sk_Sc d mX3_ownOf 0 [(0, .ref 1), (1, .int v1), (2, .int v2)] [] τ K
  refine sk_lconst (v := 0) 1 dX3_ownOf_0 rfl (by decide) ?_
  refine sk_lstore_n (lv2 := [(3, .long 0), (0, .ref 1), (1, .int v1), (2, .int v2)]) 2 dX3_ownOf_1 rfl rfl (by decide) rfl ?_
  refine sk_iconst (v := 0) 3 dX3_ownOf_2 rfl (by decide) ?_
  refine sk_istore (lv2 := [(5, .int 0), (3, .long 0), (0, .ref 1), (1, .int v1), (2, .int v2)]) 5 dX3_ownOf_3 rfl (by decide) rfl ?_
  refine sk_perm (lv2 := [(0, .ref 1), (1, .int v1), (2, .int v2), (3, .long 0), (5, .int 0)]) [2, 3, 4, 1, 0] rfl ?_
  exact h

theorem bX3_ownOf_5 {d : Nat} {τ : sk_T} {K : sk_K} {v1 : Int32} {v2 : Int32} {v3 : Int64} {v5 : Int32} (hd0 : 0 < d)
  (h : (((τ 1 1) ≤ v5 →
      K (some (.long v3)) τ
    ) ∧
    (¬ (τ 1 1) ≤ v5 →
      ((¬ ((v1 >>> (v5 &&& 31)) &&& 1) = 1 →
        sk_G sk_Sc d mX3_ownOf 5 [(0, .ref 1), (1, .int v1), (2, .int v2), (3, .long v3), (5, .int (v5 + 1))] [] τ K
      ) ∧
      (((v1 >>> (v5 &&& 31)) &&& 1) = 1 →
        vp_in v5 10 ∧
        sk_C sk_Sc (d - 1) mX5_row [.ref (3 + v5.toNatClampNeg)] τ (fun w t31 => ∃ r31 : Int32, w = some (.int r31) ∧
          ((¬ r31 = v2 →
            sk_G sk_Sc d mX3_ownOf 5 [(0, .ref 1), (1, .int v1), (2, .int v2), (3, .long v3), (5, .int (v5 + 1))] [] t31 K
          ) ∧
          (r31 = v2 →
            vp_in v5 10 ∧
            sk_C sk_Sc (d - 1) mX5_own [.ref (3 + v5.toNatClampNeg)] t31 (fun w t46 => ∃ r46 : Int64, w = some (.long r46) ∧
              sk_G sk_Sc d mX3_ownOf 5 [(0, .ref 1), (1, .int v1), (2, .int v2), (3, .long (v3 ||| r46)), (5, .int (v5 + 1))] [] t46 K
            )
          ))
        )
      ))
    ))) :
  sk_G sk_Sc d mX3_ownOf 5 [(0, .ref 1), (1, .int v1), (2, .int v2), (3, .long v3), (5, .int v5)] [] τ K := by
  refine sk_iload 4 7 dX3_ownOf_5 rfl rfl ?_
  refine sk_aload_n 0 8 dX3_ownOf_7 rfl rfl rfl ?_
  refine sk_getI 11 dX3_ownOf_8 rfl lfX3_17 sc_1 rfl ?_
  refine sk_icmp_ge 57 14 dX3_ownOf_11 (by decide) rfl (fun hc => ?_) (fun hc => ?_)
  · have h := h.1 hc
    refine sk_lload_n 3 58 dX3_ownOf_57 rfl rfl rfl ?_
    exact sk_lret dX3_ownOf_58 rfl h
  · have h := h.2 hc
    refine sk_iload_n 1 15 dX3_ownOf_14 rfl rfl rfl ?_
    refine sk_iload 4 17 dX3_ownOf_15 rfl rfl ?_
    refine sk_ishr 18 dX3_ownOf_17 rfl ?_
    refine sk_iconst (v := 1) 19 dX3_ownOf_18 rfl (by decide) ?_
    refine sk_iand 20 dX3_ownOf_19 rfl ?_
    refine sk_iconst (v := 1) 21 dX3_ownOf_20 rfl (by decide) ?_
    refine sk_icmp_ne 51 24 dX3_ownOf_21 (by decide) rfl (fun hc => ?_) (fun hc => ?_)
    · have h := h.1 hc
      refine sk_iinc (v := (v5 + 1)) (lv2 := [(5, .int (v5 + 1)), (0, .ref 1), (1, .int v1), (2, .int v2), (3, .long v3)]) 4 54 dX3_ownOf_51 rfl rfl rfl (by decide) rfl ?_
      refine sk_goto 5 dX3_ownOf_54 (by decide) ?_
      refine sk_perm (lv2 := [(0, .ref 1), (1, .int v1), (2, .int v2), (3, .long v3), (5, .int (v5 + 1))]) [1, 2, 3, 4, 0] rfl ?_
      exact h
    · have h := h.2 hc
      refine sk_aload_n 0 25 dX3_ownOf_24 rfl rfl rfl ?_
      refine sk_getR (r := 35) 28 dX3_ownOf_25 rfl lfX3_11 sc_1 rfl ?_
      refine sk_iload 4 30 dX3_ownOf_28 rfl rfl ?_
      have hb30 := h.1
      have h := h.2
      refine sk_aald 31 dX3_ownOf_30 rfl sc_35 (by decide) hb30 _ rfl (r := (3 + v5.toNatClampNeg)) (sk_tl0 hb30) ?_
      refine sk_callVi [] [] 34 dX3_ownOf_31 rfl mfX5_row lkX3_128 miX5_row msX5_row (sk_tileAt hb30) rfl rfl rfl rfl (by simp [Value.category]) hd0 (sk_Cm h ?_)
      rintro w t31 ⟨r31, hw, h⟩
      refine ⟨r31, hw, ?_⟩
      refine sk_iload_n 2 35 dX3_ownOf_34 rfl rfl rfl ?_
      refine sk_icmp_ne 51 38 dX3_ownOf_35 (by decide) rfl (fun hc => ?_) (fun hc => ?_)
      · have h := h.1 hc
        refine sk_iinc (v := (v5 + 1)) (lv2 := [(5, .int (v5 + 1)), (0, .ref 1), (1, .int v1), (2, .int v2), (3, .long v3)]) 4 54 dX3_ownOf_51 rfl rfl rfl (by decide) rfl ?_
        refine sk_goto 5 dX3_ownOf_54 (by decide) ?_
        refine sk_perm (lv2 := [(0, .ref 1), (1, .int v1), (2, .int v2), (3, .long v3), (5, .int (v5 + 1))]) [1, 2, 3, 4, 0] rfl ?_
        exact h
      · have h := h.2 hc
        refine sk_lload_n 3 39 dX3_ownOf_38 rfl rfl rfl ?_
        refine sk_aload_n 0 40 dX3_ownOf_39 rfl rfl rfl ?_
        refine sk_getR (r := 35) 43 dX3_ownOf_40 rfl lfX3_11 sc_1 rfl ?_
        refine sk_iload 4 45 dX3_ownOf_43 rfl rfl ?_
        have hb45 := h.1
        have h := h.2
        refine sk_aald 46 dX3_ownOf_45 rfl sc_35 (by decide) hb45 _ rfl (r := (3 + v5.toNatClampNeg)) (sk_tl0 hb45) ?_
        refine sk_callVl [] [.long v3] 49 dX3_ownOf_46 rfl mfX5_own lkX3_91 miX5_own msX5_own (sk_tileAt hb45) rfl rfl rfl rfl (by simp [Value.category]) hd0 (sk_Cm h ?_)
        rintro w t46 ⟨r46, hw, h⟩
        refine ⟨r46, hw, ?_⟩
        refine sk_lor 50 dX3_ownOf_49 rfl ?_
        refine sk_lstore_n (lv2 := [(3, .long (v3 ||| r46)), (0, .ref 1), (1, .int v1), (2, .int v2), (5, .int v5)]) 51 dX3_ownOf_50 rfl rfl (by decide) rfl ?_
        refine sk_iinc (v := (v5 + 1)) (lv2 := [(5, .int (v5 + 1)), (3, .long (v3 ||| r46)), (0, .ref 1), (1, .int v1), (2, .int v2)]) 4 54 dX3_ownOf_51 rfl rfl rfl (by decide) rfl ?_
        refine sk_goto 5 dX3_ownOf_54 (by decide) ?_
        refine sk_perm (lv2 := [(0, .ref 1), (1, .int v1), (2, .int v2), (3, .long (v3 ||| r46)), (5, .int (v5 + 1))]) [2, 3, 4, 1, 0] rfl ?_
        exact h

theorem wX3_blown {d : Nat} {τ : sk_T} {K : sk_K} {v1 : Int32}
  (h : sk_G sk_Sc d mX3_blown 7 [(0, .ref 1), (1, .int v1), (2, .int 0), (3, .long 0), (5, .int 0)] [] τ K) :
  sk_C sk_Sc d mX3_blown [.ref 1, .int v1] τ K := by
  refine sk_enter mfX3_blown (Nat.le_of_ble_eq_true rfl) ?_
  show sk_G sk_Sc d mX3_blown 0 [(0, .ref 1), (1, .int v1)] [] τ K
  refine sk_iconst (v := 0) 1 dX3_blown_0 rfl (by decide) ?_
  refine sk_istore_n (lv2 := [(2, .int 0), (0, .ref 1), (1, .int v1)]) 2 dX3_blown_1 rfl rfl (by decide) rfl ?_
  refine sk_lconst (v := 0) 3 dX3_blown_2 rfl (by decide) ?_
  refine sk_lstore_n (lv2 := [(3, .long 0), (2, .int 0), (0, .ref 1), (1, .int v1)]) 4 dX3_blown_3 rfl rfl (by decide) rfl ?_
  refine sk_iconst (v := 0) 5 dX3_blown_4 rfl (by decide) ?_
  refine sk_istore (lv2 := [(5, .int 0), (3, .long 0), (2, .int 0), (0, .ref 1), (1, .int v1)]) 7 dX3_blown_5 rfl (by decide) rfl ?_
  refine sk_perm (lv2 := [(0, .ref 1), (1, .int v1), (2, .int 0), (3, .long 0), (5, .int 0)]) [3, 4, 2, 1, 0] rfl ?_
  exact h

theorem bX3_blown_7 {d : Nat} {τ : sk_T} {K : sk_K} {v1 : Int32} {v2 : Int32} {v3 : Int64} {v5 : Int32}
  (h : ((6 ≤ v5 →
      K (some (.int v2)) τ
    ) ∧
    (¬ 6 ≤ v5 →
      sk_G sk_Sc d mX3_blown 17 [(0, .ref 1), (1, .int v1), (2, .int v2), (3, .long v3), (5, .int v5), (6, .int 0)] [] τ K
    ))) :
  sk_G sk_Sc d mX3_blown 7 [(0, .ref 1), (1, .int v1), (2, .int v2), (3, .long v3), (5, .int v5)] [] τ K := by
  refine sk_iload 4 9 dX3_blown_7 rfl rfl ?_
  refine sk_bipush (v := 6) 11 dX3_blown_9 rfl (by decide) ?_
  refine sk_icmp_ge 101 14 dX3_blown_11 (by decide) rfl (fun hc => ?_) (fun hc => ?_)
  · have h := h.1 hc
    refine sk_iload_n 2 102 dX3_blown_101 rfl rfl rfl ?_
    exact sk_iret dX3_blown_102 rfl rfl h
  · have h := h.2 hc
    refine sk_iconst (v := 0) 15 dX3_blown_14 rfl (by decide) ?_
    refine sk_istore (lv2 := [(6, .int 0), (0, .ref 1), (1, .int v1), (2, .int v2), (3, .long v3), (5, .int v5)]) 17 dX3_blown_15 rfl (by decide) rfl ?_
    refine sk_perm (lv2 := [(0, .ref 1), (1, .int v1), (2, .int v2), (3, .long v3), (5, .int v5), (6, .int 0)]) [1, 2, 3, 4, 5, 0] rfl ?_
    exact h

theorem bX3_blown_17 {d : Nat} {τ : sk_T} {K : sk_K} {v1 : Int32} {v2 : Int32} {v3 : Int64} {v5 : Int32} {v6 : Int32} (hd0 : 0 < d)
  (h : (((τ 1 1) ≤ v6 →
      sk_C sk_Sc (d - 1) mX3_ownOf [.ref 1, .int (v2 ^^^ (-1)), .int v5] τ (fun w t88 => ∃ r88 : Int64, w = some (.long r88) ∧
        sk_C sk_Sc (d - 1) mX3_rightUnder [.long r88] t88 (fun w t91 => ∃ r91 : Int64, w = some (.long r91) ∧
          sk_G sk_Sc d mX3_blown 7 [(0, .ref 1), (1, .int v1), (2, .int v2), (3, .long r91), (5, .int (v5 + 1))] [] t91 K
        )
      )
    ) ∧
    (¬ (τ 1 1) ≤ v6 →
      vp_in v6 10 ∧
      sk_C sk_Sc (d - 1) mX5_row [.ref (3 + v6.toNatClampNeg)] τ (fun w t33 => ∃ r33 : Int32, w = some (.int r33) ∧
        ((¬ r33 = v5 →
          sk_G sk_Sc d mX3_blown 17 [(0, .ref 1), (1, .int v1), (2, .int v2), (3, .long v3), (5, .int v5), (6, .int (v6 + 1))] [] t33 K
        ) ∧
        (r33 = v5 →
          vp_in v6 10 ∧
          sk_C sk_Sc (d - 1) mX5_own [.ref (3 + v6.toNatClampNeg)] t33 (fun w t48 => ∃ r48 : Int64, w = some (.long r48) ∧
            ((¬ (lg_cmp (r48 &&& v3) 0) = 0 →
              sk_G sk_Sc d mX3_blown 17 [(0, .ref 1), (1, .int v1), (2, .int v2), (3, .long v3), (5, .int v5), (6, .int (v6 + 1))] [] t48 K
            ) ∧
            ((lg_cmp (r48 &&& v3) 0) = 0 →
              sk_C sk_Sc (d - 1) mX3_holdOf [.ref 1, .int v6, .int v1] t48 (fun w t62 => ∃ r62 : Int32, w = some (.int r62) ∧
                ((v1 ≤ r62 →
                  sk_G sk_Sc d mX3_blown 17 [(0, .ref 1), (1, .int v1), (2, .int v2), (3, .long v3), (5, .int v5), (6, .int (v6 + 1))] [] t62 K
                ) ∧
                (¬ v1 ≤ r62 →
                  sk_G sk_Sc d mX3_blown 17 [(0, .ref 1), (1, .int v1), (2, .int (v2 ||| (1 <<< (v6 &&& 31)))), (3, .long v3), (5, .int v5), (6, .int (v6 + 1))] [] t62 K
                ))
              )
            ))
          )
        ))
      )
    ))) :
  sk_G sk_Sc d mX3_blown 17 [(0, .ref 1), (1, .int v1), (2, .int v2), (3, .long v3), (5, .int v5), (6, .int v6)] [] τ K := by
  refine sk_iload 5 19 dX3_blown_17 rfl rfl ?_
  refine sk_aload_n 0 20 dX3_blown_19 rfl rfl rfl ?_
  refine sk_getI 23 dX3_blown_20 rfl lfX3_17 sc_1 rfl ?_
  refine sk_icmp_ge 82 26 dX3_blown_23 (by decide) rfl (fun hc => ?_) (fun hc => ?_)
  · have h := h.1 hc
    refine sk_aload_n 0 83 dX3_blown_82 rfl rfl rfl ?_
    refine sk_iload_n 2 84 dX3_blown_83 rfl rfl rfl ?_
    refine sk_iconst (v := (-1)) 85 dX3_blown_84 rfl (by decide) ?_
    refine sk_ixor 86 dX3_blown_85 rfl ?_
    refine sk_iload 4 88 dX3_blown_86 rfl rfl ?_
    refine sk_callVl [.int (v2 ^^^ (-1)), .int v5] [] 91 dX3_blown_88 rfl mfX3_ownOf lkX3_124 miX3_ownOf msX3_ownOf sc_1 rfl rfl rfl rfl (by simp [Value.category]) hd0 (sk_Cm h ?_)
    rintro w t88 ⟨r88, hw, h⟩
    refine ⟨r88, hw, ?_⟩
    refine sk_callSl [.long r88] [] 94 dX3_blown_91 rfl mfX3_rightUnder lkX3_83 miX3_rightUnder rfl rfl (by simp [Value.category]) hd0 (sk_Cm h ?_)
    rintro w t91 ⟨r91, hw, h⟩
    refine ⟨r91, hw, ?_⟩
    refine sk_lstore_n (lv2 := [(3, .long r91), (0, .ref 1), (1, .int v1), (2, .int v2), (5, .int v5), (6, .int v6)]) 95 dX3_blown_94 rfl rfl (by decide) rfl ?_
    refine sk_iinc (v := (v5 + 1)) (lv2 := [(5, .int (v5 + 1)), (3, .long r91), (0, .ref 1), (1, .int v1), (2, .int v2), (6, .int v6)]) 4 98 dX3_blown_95 rfl rfl rfl (by decide) rfl ?_
    refine sk_goto 7 dX3_blown_98 (by decide) ?_
    refine sk_perm (lv2 := [(0, .ref 1), (1, .int v1), (2, .int v2), (3, .long r91), (5, .int (v5 + 1))]) [2, 3, 4, 1, 0] rfl ?_
    exact h
  · have h := h.2 hc
    refine sk_aload_n 0 27 dX3_blown_26 rfl rfl rfl ?_
    refine sk_getR (r := 35) 30 dX3_blown_27 rfl lfX3_11 sc_1 rfl ?_
    refine sk_iload 5 32 dX3_blown_30 rfl rfl ?_
    have hb32 := h.1
    have h := h.2
    refine sk_aald 33 dX3_blown_32 rfl sc_35 (by decide) hb32 _ rfl (r := (3 + v6.toNatClampNeg)) (sk_tl0 hb32) ?_
    refine sk_callVi [] [] 36 dX3_blown_33 rfl mfX5_row lkX3_128 miX5_row msX5_row (sk_tileAt hb32) rfl rfl rfl rfl (by simp [Value.category]) hd0 (sk_Cm h ?_)
    rintro w t33 ⟨r33, hw, h⟩
    refine ⟨r33, hw, ?_⟩
    refine sk_iload 4 38 dX3_blown_36 rfl rfl ?_
    refine sk_icmp_ne 76 41 dX3_blown_38 (by decide) rfl (fun hc => ?_) (fun hc => ?_)
    · have h := h.1 hc
      refine sk_iinc (v := (v6 + 1)) (lv2 := [(6, .int (v6 + 1)), (0, .ref 1), (1, .int v1), (2, .int v2), (3, .long v3), (5, .int v5)]) 5 79 dX3_blown_76 rfl rfl rfl (by decide) rfl ?_
      refine sk_goto 17 dX3_blown_79 (by decide) ?_
      refine sk_perm (lv2 := [(0, .ref 1), (1, .int v1), (2, .int v2), (3, .long v3), (5, .int v5), (6, .int (v6 + 1))]) [1, 2, 3, 4, 5, 0] rfl ?_
      exact h
    · have h := h.2 hc
      refine sk_aload_n 0 42 dX3_blown_41 rfl rfl rfl ?_
      refine sk_getR (r := 35) 45 dX3_blown_42 rfl lfX3_11 sc_1 rfl ?_
      refine sk_iload 5 47 dX3_blown_45 rfl rfl ?_
      have hb47 := h.1
      have h := h.2
      refine sk_aald 48 dX3_blown_47 rfl sc_35 (by decide) hb47 _ rfl (r := (3 + v6.toNatClampNeg)) (sk_tl0 hb47) ?_
      refine sk_callVl [] [] 51 dX3_blown_48 rfl mfX5_own lkX3_91 miX5_own msX5_own (sk_tileAt hb47) rfl rfl rfl rfl (by simp [Value.category]) hd0 (sk_Cm h ?_)
      rintro w t48 ⟨r48, hw, h⟩
      refine ⟨r48, hw, ?_⟩
      refine sk_lload_n 3 52 dX3_blown_51 rfl rfl rfl ?_
      refine sk_land 53 dX3_blown_52 rfl ?_
      refine sk_lconst (v := 0) 54 dX3_blown_53 rfl (by decide) ?_
      refine sk_lcmp 55 dX3_blown_54 rfl ?_
      refine sk_if_ne 76 58 dX3_blown_55 (by decide) rfl (fun hc => ?_) (fun hc => ?_)
      · have h := h.1 hc
        refine sk_iinc (v := (v6 + 1)) (lv2 := [(6, .int (v6 + 1)), (0, .ref 1), (1, .int v1), (2, .int v2), (3, .long v3), (5, .int v5)]) 5 79 dX3_blown_76 rfl rfl rfl (by decide) rfl ?_
        refine sk_goto 17 dX3_blown_79 (by decide) ?_
        refine sk_perm (lv2 := [(0, .ref 1), (1, .int v1), (2, .int v2), (3, .long v3), (5, .int v5), (6, .int (v6 + 1))]) [1, 2, 3, 4, 5, 0] rfl ?_
        exact h
      · have h := h.2 hc
        refine sk_aload_n 0 59 dX3_blown_58 rfl rfl rfl ?_
        refine sk_iload 5 61 dX3_blown_59 rfl rfl ?_
        refine sk_iload_n 1 62 dX3_blown_61 rfl rfl rfl ?_
        refine sk_callVi [.int v6, .int v1] [] 65 dX3_blown_62 rfl mfX3_holdOf lkX3_132 miX3_holdOf msX3_holdOf sc_1 rfl rfl rfl rfl (by simp [Value.category]) hd0 (sk_Cm h ?_)
        rintro w t62 ⟨r62, hw, h⟩
        refine ⟨r62, hw, ?_⟩
        refine sk_iload_n 1 66 dX3_blown_65 rfl rfl rfl ?_
        refine sk_icmp_ge 76 69 dX3_blown_66 (by decide) rfl (fun hc => ?_) (fun hc => ?_)
        · have h := h.1 hc
          refine sk_iinc (v := (v6 + 1)) (lv2 := [(6, .int (v6 + 1)), (0, .ref 1), (1, .int v1), (2, .int v2), (3, .long v3), (5, .int v5)]) 5 79 dX3_blown_76 rfl rfl rfl (by decide) rfl ?_
          refine sk_goto 17 dX3_blown_79 (by decide) ?_
          refine sk_perm (lv2 := [(0, .ref 1), (1, .int v1), (2, .int v2), (3, .long v3), (5, .int v5), (6, .int (v6 + 1))]) [1, 2, 3, 4, 5, 0] rfl ?_
          exact h
        · have h := h.2 hc
          refine sk_iload_n 2 70 dX3_blown_69 rfl rfl rfl ?_
          refine sk_iconst (v := 1) 71 dX3_blown_70 rfl (by decide) ?_
          refine sk_iload 5 73 dX3_blown_71 rfl rfl ?_
          refine sk_ishl 74 dX3_blown_73 rfl ?_
          refine sk_ior 75 dX3_blown_74 rfl ?_
          refine sk_istore_n (lv2 := [(2, .int (v2 ||| (1 <<< (v6 &&& 31)))), (0, .ref 1), (1, .int v1), (3, .long v3), (5, .int v5), (6, .int v6)]) 76 dX3_blown_75 rfl rfl (by decide) rfl ?_
          refine sk_iinc (v := (v6 + 1)) (lv2 := [(6, .int (v6 + 1)), (2, .int (v2 ||| (1 <<< (v6 &&& 31)))), (0, .ref 1), (1, .int v1), (3, .long v3), (5, .int v5)]) 5 79 dX3_blown_76 rfl rfl rfl (by decide) rfl ?_
          refine sk_goto 17 dX3_blown_79 (by decide) ?_
          refine sk_perm (lv2 := [(0, .ref 1), (1, .int v1), (2, .int (v2 ||| (1 <<< (v6 &&& 31)))), (3, .long v3), (5, .int v5), (6, .int (v6 + 1))]) [2, 3, 1, 4, 5, 0] rfl ?_
          exact h

theorem wX3_takeOff {d : Nat} {τ : sk_T} {K : sk_K} {v1 : Int32}
  (h : sk_G sk_Sc d mX3_takeOff 2 [(0, .ref 1), (1, .int v1), (2, .int 0)] [] τ K) :
  sk_C sk_Sc d mX3_takeOff [.ref 1, .int v1] τ K := by
  refine sk_enter mfX3_takeOff (Nat.le_of_ble_eq_true rfl) ?_
  show sk_G sk_Sc d mX3_takeOff 0 [(0, .ref 1), (1, .int v1)] [] τ K
  refine sk_iconst (v := 0) 1 dX3_takeOff_0 rfl (by decide) ?_
  refine sk_istore_n (lv2 := [(2, .int 0), (0, .ref 1), (1, .int v1)]) 2 dX3_takeOff_1 rfl rfl (by decide) rfl ?_
  refine sk_perm (lv2 := [(0, .ref 1), (1, .int v1), (2, .int 0)]) [1, 2, 0] rfl ?_
  exact h

theorem bX3_takeOff_2 {d : Nat} {τ : sk_T} {K : sk_K} {v1 : Int32} {v2 : Int32}
  (h : (((τ 1 1) ≤ v2 →
      K none τ
    ) ∧
    (¬ (τ 1 1) ≤ v2 →
      ((¬ ((v1 >>> (v2 &&& 31)) &&& 1) = 1 →
        sk_G sk_Sc d mX3_takeOff 2 [(0, .ref 1), (1, .int v1), (2, .int (v2 + 1))] [] τ K
      ) ∧
      (((v1 >>> (v2 &&& 31)) &&& 1) = 1 →
        vp_in v2 10 ∧
        sk_G sk_Sc d mX3_takeOff 2 [(0, .ref 1), (1, .int v1), (2, .int (v2 + 1))] [] (sk_u τ (3 + v2.toNatClampNeg) 6 (-1)) K
      ))
    ))) :
  sk_G sk_Sc d mX3_takeOff 2 [(0, .ref 1), (1, .int v1), (2, .int v2)] [] τ K := by
  refine sk_iload_n 2 3 dX3_takeOff_2 rfl rfl rfl ?_
  refine sk_aload_n 0 4 dX3_takeOff_3 rfl rfl rfl ?_
  refine sk_getI 7 dX3_takeOff_4 rfl lfX3_17 sc_1 rfl ?_
  refine sk_icmp_ge 35 10 dX3_takeOff_7 (by decide) rfl (fun hc => ?_) (fun hc => ?_)
  · have h := h.1 hc
    exact sk_vret dX3_takeOff_35 rfl h
  · have h := h.2 hc
    refine sk_iload_n 1 11 dX3_takeOff_10 rfl rfl rfl ?_
    refine sk_iload_n 2 12 dX3_takeOff_11 rfl rfl rfl ?_
    refine sk_ishr 13 dX3_takeOff_12 rfl ?_
    refine sk_iconst (v := 1) 14 dX3_takeOff_13 rfl (by decide) ?_
    refine sk_iand 15 dX3_takeOff_14 rfl ?_
    refine sk_iconst (v := 1) 16 dX3_takeOff_15 rfl (by decide) ?_
    refine sk_icmp_ne 29 19 dX3_takeOff_16 (by decide) rfl (fun hc => ?_) (fun hc => ?_)
    · have h := h.1 hc
      refine sk_iinc (v := (v2 + 1)) (lv2 := [(2, .int (v2 + 1)), (0, .ref 1), (1, .int v1)]) 2 32 dX3_takeOff_29 rfl rfl rfl (by decide) rfl ?_
      refine sk_goto 2 dX3_takeOff_32 (by decide) ?_
      refine sk_perm (lv2 := [(0, .ref 1), (1, .int v1), (2, .int (v2 + 1))]) [1, 2, 0] rfl ?_
      exact h
    · have h := h.2 hc
      refine sk_aload_n 0 20 dX3_takeOff_19 rfl rfl rfl ?_
      refine sk_getR (r := 35) 23 dX3_takeOff_20 rfl lfX3_11 sc_1 rfl ?_
      refine sk_iload_n 2 24 dX3_takeOff_23 rfl rfl rfl ?_
      have hb24 := h.1
      have h := h.2
      refine sk_aald 25 dX3_takeOff_24 rfl sc_35 (by decide) hb24 _ rfl (r := (3 + v2.toNatClampNeg)) (sk_tl0 hb24) ?_
      refine sk_iconst (v := (-1)) 26 dX3_takeOff_25 rfl (by decide) ?_
      refine sk_putI 29 dX3_takeOff_26 rfl lpX3_135 (sk_tileAt hb24) rfl ?_
      refine sk_iinc (v := (v2 + 1)) (lv2 := [(2, .int (v2 + 1)), (0, .ref 1), (1, .int v1)]) 2 32 dX3_takeOff_29 rfl rfl rfl (by decide) rfl ?_
      refine sk_goto 2 dX3_takeOff_32 (by decide) ?_
      refine sk_perm (lv2 := [(0, .ref 1), (1, .int v1), (2, .int (v2 + 1))]) [1, 2, 0] rfl ?_
      exact h

theorem wX3_mustBeFast {d : Nat} {τ : sk_T} {K : sk_K} {v1 : Int32}
  (h : sk_G sk_Sc d mX3_mustBeFast 5 [(0, .ref 1), (1, .int v1), (2, .long 0), (4, .int 0)] [] τ K) :
  sk_C sk_Sc d mX3_mustBeFast [.ref 1, .int v1] τ K := by
  refine sk_enter mfX3_mustBeFast (Nat.le_of_ble_eq_true rfl) ?_
  show sk_G sk_Sc d mX3_mustBeFast 0 [(0, .ref 1), (1, .int v1)] [] τ K
  refine sk_lconst (v := 0) 1 dX3_mustBeFast_0 rfl (by decide) ?_
  refine sk_lstore_n (lv2 := [(2, .long 0), (0, .ref 1), (1, .int v1)]) 2 dX3_mustBeFast_1 rfl rfl (by decide) rfl ?_
  refine sk_iconst (v := 0) 3 dX3_mustBeFast_2 rfl (by decide) ?_
  refine sk_istore (lv2 := [(4, .int 0), (2, .long 0), (0, .ref 1), (1, .int v1)]) 5 dX3_mustBeFast_3 rfl (by decide) rfl ?_
  refine sk_perm (lv2 := [(0, .ref 1), (1, .int v1), (2, .long 0), (4, .int 0)]) [2, 3, 1, 0] rfl ?_
  exact h

theorem bX3_mustBeFast_5 {d : Nat} {τ : sk_T} {K : sk_K} {v1 : Int32} {v2 : Int64} {v4 : Int32} (hd0 : 0 < d)
  (h : (((τ 1 1) ≤ v4 →
      sk_G sk_Sc d mX3_mustBeFast 42 [(0, .ref 1), (1, .int v1), (2, .long v2), (4, .int 0), (5, .int 0)] [] τ K
    ) ∧
    (¬ (τ 1 1) ≤ v4 →
      vp_in v4 10 ∧
      sk_C sk_Sc (d - 1) mX5_own [.ref (3 + v4.toNatClampNeg)] τ (fun w t22 => ∃ r22 : Int64, w = some (.long r22) ∧
        sk_C sk_Sc (d - 1) mX3_rightUnder [.long r22] t22 (fun w t25 => ∃ r25 : Int64, w = some (.long r25) ∧
          sk_G sk_Sc d mX3_mustBeFast 5 [(0, .ref 1), (1, .int v1), (2, .long (v2 ||| r25)), (4, .int (v4 + 1))] [] t25 K
        )
      )
    ))) :
  sk_G sk_Sc d mX3_mustBeFast 5 [(0, .ref 1), (1, .int v1), (2, .long v2), (4, .int v4)] [] τ K := by
  refine sk_iload 3 7 dX3_mustBeFast_5 rfl rfl ?_
  refine sk_aload_n 0 8 dX3_mustBeFast_7 rfl rfl rfl ?_
  refine sk_getI 11 dX3_mustBeFast_8 rfl lfX3_17 sc_1 rfl ?_
  refine sk_icmp_ge 36 14 dX3_mustBeFast_11 (by decide) rfl (fun hc => ?_) (fun hc => ?_)
  · have h := h.1 hc
    refine sk_iconst (v := 0) 37 dX3_mustBeFast_36 rfl (by decide) ?_
    refine sk_istore (lv2 := [(4, .int 0), (0, .ref 1), (1, .int v1), (2, .long v2)]) 39 dX3_mustBeFast_37 rfl (by decide) rfl ?_
    refine sk_iconst (v := 0) 40 dX3_mustBeFast_39 rfl (by decide) ?_
    refine sk_istore (lv2 := [(5, .int 0), (4, .int 0), (0, .ref 1), (1, .int v1), (2, .long v2)]) 42 dX3_mustBeFast_40 rfl (by decide) rfl ?_
    refine sk_perm (lv2 := [(0, .ref 1), (1, .int v1), (2, .long v2), (4, .int 0), (5, .int 0)]) [2, 3, 4, 1, 0] rfl ?_
    exact h
  · have h := h.2 hc
    refine sk_lload_n 2 15 dX3_mustBeFast_14 rfl rfl rfl ?_
    refine sk_aload_n 0 16 dX3_mustBeFast_15 rfl rfl rfl ?_
    refine sk_getR (r := 35) 19 dX3_mustBeFast_16 rfl lfX3_11 sc_1 rfl ?_
    refine sk_iload 3 21 dX3_mustBeFast_19 rfl rfl ?_
    have hb21 := h.1
    have h := h.2
    refine sk_aald 22 dX3_mustBeFast_21 rfl sc_35 (by decide) hb21 _ rfl (r := (3 + v4.toNatClampNeg)) (sk_tl0 hb21) ?_
    refine sk_callVl [] [.long v2] 25 dX3_mustBeFast_22 rfl mfX5_own lkX3_91 miX5_own msX5_own (sk_tileAt hb21) rfl rfl rfl rfl (by simp [Value.category]) hd0 (sk_Cm h ?_)
    rintro w t22 ⟨r22, hw, h⟩
    refine ⟨r22, hw, ?_⟩
    refine sk_callSl [.long r22] [.long v2] 28 dX3_mustBeFast_25 rfl mfX3_rightUnder lkX3_83 miX3_rightUnder rfl rfl (by simp [Value.category]) hd0 (sk_Cm h ?_)
    rintro w t25 ⟨r25, hw, h⟩
    refine ⟨r25, hw, ?_⟩
    refine sk_lor 29 dX3_mustBeFast_28 rfl ?_
    refine sk_lstore_n (lv2 := [(2, .long (v2 ||| r25)), (0, .ref 1), (1, .int v1), (4, .int v4)]) 30 dX3_mustBeFast_29 rfl rfl (by decide) rfl ?_
    refine sk_iinc (v := (v4 + 1)) (lv2 := [(4, .int (v4 + 1)), (2, .long (v2 ||| r25)), (0, .ref 1), (1, .int v1)]) 3 33 dX3_mustBeFast_30 rfl rfl rfl (by decide) rfl ?_
    refine sk_goto 5 dX3_mustBeFast_33 (by decide) ?_
    refine sk_perm (lv2 := [(0, .ref 1), (1, .int v1), (2, .long (v2 ||| r25)), (4, .int (v4 + 1))]) [2, 3, 1, 0] rfl ?_
    exact h

theorem bX3_mustBeFast_42 {d : Nat} {τ : sk_T} {K : sk_K} {v1 : Int32} {v2 : Int64} {v4 : Int32} {v5 : Int32} (hd0 : 0 < d)
  (h : (((τ 1 1) ≤ v5 →
      K (some (.int v4)) τ
    ) ∧
    (¬ (τ 1 1) ≤ v5 →
      vp_in v5 10 ∧
      sk_C sk_Sc (d - 1) mX5_isLaid [.ref (3 + v5.toNatClampNeg)] τ (fun w t58 => ∃ r58 : Int32, w = some (.int r58) ∧
        ((r58 = 0 →
          sk_G sk_Sc d mX3_mustBeFast 42 [(0, .ref 1), (1, .int v1), (2, .long v2), (4, .int v4), (5, .int (v5 + 1))] [] t58 K
        ) ∧
        (¬ r58 = 0 →
          vp_in v5 10 ∧
          sk_C sk_Sc (d - 1) mX5_own [.ref (3 + v5.toNatClampNeg)] t58 (fun w t71 => ∃ r71 : Int64, w = some (.long r71) ∧
            ((¬ (lg_cmp (r71 &&& v2) 0) = 0 →
              sk_G sk_Sc d mX3_mustBeFast 42 [(0, .ref 1), (1, .int v1), (2, .long v2), (4, .int v4), (5, .int (v5 + 1))] [] t71 K
            ) ∧
            ((lg_cmp (r71 &&& v2) 0) = 0 →
              sk_C sk_Sc (d - 1) mX3_holdOf [.ref 1, .int v5, .int v1] t71 (fun w t85 => ∃ r85 : Int32, w = some (.int r85) ∧
                ((v1 ≤ r85 →
                  sk_G sk_Sc d mX3_mustBeFast 42 [(0, .ref 1), (1, .int v1), (2, .long v2), (4, .int v4), (5, .int (v5 + 1))] [] t85 K
                ) ∧
                (¬ v1 ≤ r85 →
                  sk_G sk_Sc d mX3_mustBeFast 42 [(0, .ref 1), (1, .int v1), (2, .long v2), (4, .int (v4 ||| (1 <<< (v5 &&& 31)))), (5, .int (v5 + 1))] [] t85 K
                ))
              )
            ))
          )
        ))
      )
    ))) :
  sk_G sk_Sc d mX3_mustBeFast 42 [(0, .ref 1), (1, .int v1), (2, .long v2), (4, .int v4), (5, .int v5)] [] τ K := by
  refine sk_iload 4 44 dX3_mustBeFast_42 rfl rfl ?_
  refine sk_aload_n 0 45 dX3_mustBeFast_44 rfl rfl rfl ?_
  refine sk_getI 48 dX3_mustBeFast_45 rfl lfX3_17 sc_1 rfl ?_
  refine sk_icmp_ge 107 51 dX3_mustBeFast_48 (by decide) rfl (fun hc => ?_) (fun hc => ?_)
  · have h := h.1 hc
    refine sk_iload 3 109 dX3_mustBeFast_107 rfl rfl ?_
    exact sk_iret dX3_mustBeFast_109 rfl rfl h
  · have h := h.2 hc
    refine sk_aload_n 0 52 dX3_mustBeFast_51 rfl rfl rfl ?_
    refine sk_getR (r := 35) 55 dX3_mustBeFast_52 rfl lfX3_11 sc_1 rfl ?_
    refine sk_iload 4 57 dX3_mustBeFast_55 rfl rfl ?_
    have hb57 := h.1
    have h := h.2
    refine sk_aald 58 dX3_mustBeFast_57 rfl sc_35 (by decide) hb57 _ rfl (r := (3 + v5.toNatClampNeg)) (sk_tl0 hb57) ?_
    refine sk_callVi [] [] 61 dX3_mustBeFast_58 rfl mfX5_isLaid lkX3_98 miX5_isLaid msX5_isLaid (sk_tileAt hb57) rfl rfl rfl rfl (by simp [Value.category]) hd0 (sk_Cm h ?_)
    rintro w t58 ⟨r58, hw, h⟩
    refine ⟨r58, hw, ?_⟩
    refine sk_if_eq 101 64 dX3_mustBeFast_61 (by decide) rfl (fun hc => ?_) (fun hc => ?_)
    · have h := h.1 hc
      refine sk_iinc (v := (v5 + 1)) (lv2 := [(5, .int (v5 + 1)), (0, .ref 1), (1, .int v1), (2, .long v2), (4, .int v4)]) 4 104 dX3_mustBeFast_101 rfl rfl rfl (by decide) rfl ?_
      refine sk_goto 42 dX3_mustBeFast_104 (by decide) ?_
      refine sk_perm (lv2 := [(0, .ref 1), (1, .int v1), (2, .long v2), (4, .int v4), (5, .int (v5 + 1))]) [1, 2, 3, 4, 0] rfl ?_
      exact h
    · have h := h.2 hc
      refine sk_aload_n 0 65 dX3_mustBeFast_64 rfl rfl rfl ?_
      refine sk_getR (r := 35) 68 dX3_mustBeFast_65 rfl lfX3_11 sc_1 rfl ?_
      refine sk_iload 4 70 dX3_mustBeFast_68 rfl rfl ?_
      have hb70 := h.1
      have h := h.2
      refine sk_aald 71 dX3_mustBeFast_70 rfl sc_35 (by decide) hb70 _ rfl (r := (3 + v5.toNatClampNeg)) (sk_tl0 hb70) ?_
      refine sk_callVl [] [] 74 dX3_mustBeFast_71 rfl mfX5_own lkX3_91 miX5_own msX5_own (sk_tileAt hb70) rfl rfl rfl rfl (by simp [Value.category]) hd0 (sk_Cm h ?_)
      rintro w t71 ⟨r71, hw, h⟩
      refine ⟨r71, hw, ?_⟩
      refine sk_lload_n 2 75 dX3_mustBeFast_74 rfl rfl rfl ?_
      refine sk_land 76 dX3_mustBeFast_75 rfl ?_
      refine sk_lconst (v := 0) 77 dX3_mustBeFast_76 rfl (by decide) ?_
      refine sk_lcmp 78 dX3_mustBeFast_77 rfl ?_
      refine sk_if_ne 101 81 dX3_mustBeFast_78 (by decide) rfl (fun hc => ?_) (fun hc => ?_)
      · have h := h.1 hc
        refine sk_iinc (v := (v5 + 1)) (lv2 := [(5, .int (v5 + 1)), (0, .ref 1), (1, .int v1), (2, .long v2), (4, .int v4)]) 4 104 dX3_mustBeFast_101 rfl rfl rfl (by decide) rfl ?_
        refine sk_goto 42 dX3_mustBeFast_104 (by decide) ?_
        refine sk_perm (lv2 := [(0, .ref 1), (1, .int v1), (2, .long v2), (4, .int v4), (5, .int (v5 + 1))]) [1, 2, 3, 4, 0] rfl ?_
        exact h
      · have h := h.2 hc
        refine sk_aload_n 0 82 dX3_mustBeFast_81 rfl rfl rfl ?_
        refine sk_iload 4 84 dX3_mustBeFast_82 rfl rfl ?_
        refine sk_iload_n 1 85 dX3_mustBeFast_84 rfl rfl rfl ?_
        refine sk_callVi [.int v5, .int v1] [] 88 dX3_mustBeFast_85 rfl mfX3_holdOf lkX3_132 miX3_holdOf msX3_holdOf sc_1 rfl rfl rfl rfl (by simp [Value.category]) hd0 (sk_Cm h ?_)
        rintro w t85 ⟨r85, hw, h⟩
        refine ⟨r85, hw, ?_⟩
        refine sk_iload_n 1 89 dX3_mustBeFast_88 rfl rfl rfl ?_
        refine sk_icmp_ge 101 92 dX3_mustBeFast_89 (by decide) rfl (fun hc => ?_) (fun hc => ?_)
        · have h := h.1 hc
          refine sk_iinc (v := (v5 + 1)) (lv2 := [(5, .int (v5 + 1)), (0, .ref 1), (1, .int v1), (2, .long v2), (4, .int v4)]) 4 104 dX3_mustBeFast_101 rfl rfl rfl (by decide) rfl ?_
          refine sk_goto 42 dX3_mustBeFast_104 (by decide) ?_
          refine sk_perm (lv2 := [(0, .ref 1), (1, .int v1), (2, .long v2), (4, .int v4), (5, .int (v5 + 1))]) [1, 2, 3, 4, 0] rfl ?_
          exact h
        · have h := h.2 hc
          refine sk_iload 3 94 dX3_mustBeFast_92 rfl rfl ?_
          refine sk_iconst (v := 1) 95 dX3_mustBeFast_94 rfl (by decide) ?_
          refine sk_iload 4 97 dX3_mustBeFast_95 rfl rfl ?_
          refine sk_ishl 98 dX3_mustBeFast_97 rfl ?_
          refine sk_ior 99 dX3_mustBeFast_98 rfl ?_
          refine sk_istore (lv2 := [(4, .int (v4 ||| (1 <<< (v5 &&& 31)))), (0, .ref 1), (1, .int v1), (2, .long v2), (5, .int v5)]) 101 dX3_mustBeFast_99 rfl (by decide) rfl ?_
          refine sk_iinc (v := (v5 + 1)) (lv2 := [(5, .int (v5 + 1)), (4, .int (v4 ||| (1 <<< (v5 &&& 31)))), (0, .ref 1), (1, .int v1), (2, .long v2)]) 4 104 dX3_mustBeFast_101 rfl rfl rfl (by decide) rfl ?_
          refine sk_goto 42 dX3_mustBeFast_104 (by decide) ?_
          refine sk_perm (lv2 := [(0, .ref 1), (1, .int v1), (2, .long v2), (4, .int (v4 ||| (1 <<< (v5 &&& 31)))), (5, .int (v5 + 1))]) [2, 3, 4, 1, 0] rfl ?_
          exact h

theorem wX3_ringing {d : Nat} {τ : sk_T} {K : sk_K}
  (h : sk_G sk_Sc d mX3_ringing 4 [(0, .ref 1), (1, .int 0), (2, .int 0)] [] τ K) :
  sk_C sk_Sc d mX3_ringing [.ref 1] τ K := by
  refine sk_enter mfX3_ringing (Nat.le_of_ble_eq_true rfl) ?_
  show sk_G sk_Sc d mX3_ringing 0 [(0, .ref 1)] [] τ K
  refine sk_iconst (v := 0) 1 dX3_ringing_0 rfl (by decide) ?_
  refine sk_istore_n (lv2 := [(1, .int 0), (0, .ref 1)]) 2 dX3_ringing_1 rfl rfl (by decide) rfl ?_
  refine sk_iconst (v := 0) 3 dX3_ringing_2 rfl (by decide) ?_
  refine sk_istore_n (lv2 := [(2, .int 0), (1, .int 0), (0, .ref 1)]) 4 dX3_ringing_3 rfl rfl (by decide) rfl ?_
  refine sk_perm (lv2 := [(0, .ref 1), (1, .int 0), (2, .int 0)]) [2, 1, 0] rfl ?_
  exact h

theorem bX3_ringing_4 {d : Nat} {τ : sk_T} {K : sk_K} {v1 : Int32} {v2 : Int32}
  (h : (((τ 1 1) ≤ v2 →
      K (some (.int v1)) τ
    ) ∧
    (¬ (τ 1 1) ≤ v2 →
      sk_G sk_Sc d mX3_ringing 14 [(0, .ref 1), (1, .int v1), (2, .int v2), (3, .int 0)] [] τ K
    ))) :
  sk_G sk_Sc d mX3_ringing 4 [(0, .ref 1), (1, .int v1), (2, .int v2)] [] τ K := by
  refine sk_iload_n 2 5 dX3_ringing_4 rfl rfl rfl ?_
  refine sk_aload_n 0 6 dX3_ringing_5 rfl rfl rfl ?_
  refine sk_getI 9 dX3_ringing_6 rfl lfX3_17 sc_1 rfl ?_
  refine sk_icmp_ge 78 12 dX3_ringing_9 (by decide) rfl (fun hc => ?_) (fun hc => ?_)
  · have h := h.1 hc
    refine sk_iload_n 1 79 dX3_ringing_78 rfl rfl rfl ?_
    exact sk_iret dX3_ringing_79 rfl rfl h
  · have h := h.2 hc
    refine sk_iconst (v := 0) 13 dX3_ringing_12 rfl (by decide) ?_
    refine sk_istore_n (lv2 := [(3, .int 0), (0, .ref 1), (1, .int v1), (2, .int v2)]) 14 dX3_ringing_13 rfl rfl (by decide) rfl ?_
    refine sk_perm (lv2 := [(0, .ref 1), (1, .int v1), (2, .int v2), (3, .int 0)]) [1, 2, 3, 0] rfl ?_
    exact h

theorem bX3_ringing_14 {d : Nat} {τ : sk_T} {K : sk_K} {v1 : Int32} {v2 : Int32} {v3 : Int32} (hd0 : 0 < d)
  (h : ((v2 ≤ v3 →
      sk_G sk_Sc d mX3_ringing 4 [(0, .ref 1), (1, .int v1), (2, .int (v2 + 1))] [] τ K
    ) ∧
    (¬ v2 ≤ v3 →
      sk_C sk_Sc (d - 1) mX3_follows [.ref 1, .int v2, .int v3] τ (fun w t22 => ∃ r22 : Int32, w = some (.int r22) ∧
        ((¬ r22 = 0 →
          vp_in v2 10 ∧
          (((t22 (3 + v2.toNatClampNeg) 4) = v3 →
            sk_G sk_Sc d mX3_ringing 14 [(0, .ref 1), (1, .int v1), (2, .int v2), (3, .int (v3 + 1))] [] t22 K
          ) ∧
          (¬ (t22 (3 + v2.toNatClampNeg) 4) = v3 →
            vp_in v3 10 ∧
            (((t22 (3 + v3.toNatClampNeg) 4) = v2 →
              sk_G sk_Sc d mX3_ringing 14 [(0, .ref 1), (1, .int v1), (2, .int v2), (3, .int (v3 + 1))] [] t22 K
            ) ∧
            (¬ (t22 (3 + v3.toNatClampNeg) 4) = v2 →
              sk_G sk_Sc d mX3_ringing 14 [(0, .ref 1), (1, .int (v1 + 1)), (2, .int v2), (3, .int (v3 + 1))] [] t22 K
            ))
          ))
        ) ∧
        (r22 = 0 →
          sk_C sk_Sc (d - 1) mX3_follows [.ref 1, .int v3, .int v2] t22 (fun w t31 => ∃ r31 : Int32, w = some (.int r31) ∧
            ((r31 = 0 →
              sk_G sk_Sc d mX3_ringing 14 [(0, .ref 1), (1, .int v1), (2, .int v2), (3, .int (v3 + 1))] [] t31 K
            ) ∧
            (¬ r31 = 0 →
              vp_in v2 10 ∧
              (((t31 (3 + v2.toNatClampNeg) 4) = v3 →
                sk_G sk_Sc d mX3_ringing 14 [(0, .ref 1), (1, .int v1), (2, .int v2), (3, .int (v3 + 1))] [] t31 K
              ) ∧
              (¬ (t31 (3 + v2.toNatClampNeg) 4) = v3 →
                vp_in v3 10 ∧
                (((t31 (3 + v3.toNatClampNeg) 4) = v2 →
                  sk_G sk_Sc d mX3_ringing 14 [(0, .ref 1), (1, .int v1), (2, .int v2), (3, .int (v3 + 1))] [] t31 K
                ) ∧
                (¬ (t31 (3 + v3.toNatClampNeg) 4) = v2 →
                  sk_G sk_Sc d mX3_ringing 14 [(0, .ref 1), (1, .int (v1 + 1)), (2, .int v2), (3, .int (v3 + 1))] [] t31 K
                ))
              ))
            ))
          )
        ))
      )
    ))) :
  sk_G sk_Sc d mX3_ringing 14 [(0, .ref 1), (1, .int v1), (2, .int v2), (3, .int v3)] [] τ K := by
  refine sk_iload_n 3 15 dX3_ringing_14 rfl rfl rfl ?_
  refine sk_iload_n 2 16 dX3_ringing_15 rfl rfl rfl ?_
  refine sk_icmp_ge 72 19 dX3_ringing_16 (by decide) rfl (fun hc => ?_) (fun hc => ?_)
  · have h := h.1 hc
    refine sk_iinc (v := (v2 + 1)) (lv2 := [(2, .int (v2 + 1)), (0, .ref 1), (1, .int v1), (3, .int v3)]) 2 75 dX3_ringing_72 rfl rfl rfl (by decide) rfl ?_
    refine sk_goto 4 dX3_ringing_75 (by decide) ?_
    refine sk_perm (lv2 := [(0, .ref 1), (1, .int v1), (2, .int (v2 + 1))]) [1, 2, 0] rfl ?_
    exact h
  · have h := h.2 hc
    refine sk_aload_n 0 20 dX3_ringing_19 rfl rfl rfl ?_
    refine sk_iload_n 2 21 dX3_ringing_20 rfl rfl rfl ?_
    refine sk_iload_n 3 22 dX3_ringing_21 rfl rfl rfl ?_
    refine sk_callVi [.int v2, .int v3] [] 25 dX3_ringing_22 rfl mfX3_follows lkX3_138 miX3_follows msX3_follows sc_1 rfl rfl rfl rfl (by simp [Value.category]) hd0 (sk_Cm h ?_)
    rintro w t22 ⟨r22, hw, h⟩
    refine ⟨r22, hw, ?_⟩
    refine sk_if_ne 37 28 dX3_ringing_25 (by decide) rfl (fun hc => ?_) (fun hc => ?_)
    · have h := h.1 hc
      refine sk_aload_n 0 38 dX3_ringing_37 rfl rfl rfl ?_
      refine sk_getR (r := 35) 41 dX3_ringing_38 rfl lfX3_11 sc_1 rfl ?_
      refine sk_iload_n 2 42 dX3_ringing_41 rfl rfl rfl ?_
      have hb42 := h.1
      have h := h.2
      refine sk_aald 43 dX3_ringing_42 rfl sc_35 (by decide) hb42 _ rfl (r := (3 + v2.toNatClampNeg)) (sk_tl0 hb42) ?_
      refine sk_getI 46 dX3_ringing_43 rfl lfX3_95 (sk_tileAt hb42) rfl ?_
      refine sk_iload_n 3 47 dX3_ringing_46 rfl rfl rfl ?_
      refine sk_icmp_eq 66 50 dX3_ringing_47 (by decide) rfl (fun hc => ?_) (fun hc => ?_)
      · have h := h.1 hc
        refine sk_iinc (v := (v3 + 1)) (lv2 := [(3, .int (v3 + 1)), (0, .ref 1), (1, .int v1), (2, .int v2)]) 3 69 dX3_ringing_66 rfl rfl rfl (by decide) rfl ?_
        refine sk_goto 14 dX3_ringing_69 (by decide) ?_
        refine sk_perm (lv2 := [(0, .ref 1), (1, .int v1), (2, .int v2), (3, .int (v3 + 1))]) [1, 2, 3, 0] rfl ?_
        exact h
      · have h := h.2 hc
        refine sk_aload_n 0 51 dX3_ringing_50 rfl rfl rfl ?_
        refine sk_getR (r := 35) 54 dX3_ringing_51 rfl lfX3_11 sc_1 rfl ?_
        refine sk_iload_n 3 55 dX3_ringing_54 rfl rfl rfl ?_
        have hb55 := h.1
        have h := h.2
        refine sk_aald 56 dX3_ringing_55 rfl sc_35 (by decide) hb55 _ rfl (r := (3 + v3.toNatClampNeg)) (sk_tl0 hb55) ?_
        refine sk_getI 59 dX3_ringing_56 rfl lfX3_95 (sk_tileAt hb55) rfl ?_
        refine sk_iload_n 2 60 dX3_ringing_59 rfl rfl rfl ?_
        refine sk_icmp_eq 66 63 dX3_ringing_60 (by decide) rfl (fun hc => ?_) (fun hc => ?_)
        · have h := h.1 hc
          refine sk_iinc (v := (v3 + 1)) (lv2 := [(3, .int (v3 + 1)), (0, .ref 1), (1, .int v1), (2, .int v2)]) 3 69 dX3_ringing_66 rfl rfl rfl (by decide) rfl ?_
          refine sk_goto 14 dX3_ringing_69 (by decide) ?_
          refine sk_perm (lv2 := [(0, .ref 1), (1, .int v1), (2, .int v2), (3, .int (v3 + 1))]) [1, 2, 3, 0] rfl ?_
          exact h
        · have h := h.2 hc
          refine sk_iinc (v := (v1 + 1)) (lv2 := [(1, .int (v1 + 1)), (0, .ref 1), (2, .int v2), (3, .int v3)]) 1 66 dX3_ringing_63 rfl rfl rfl (by decide) rfl ?_
          refine sk_iinc (v := (v3 + 1)) (lv2 := [(3, .int (v3 + 1)), (1, .int (v1 + 1)), (0, .ref 1), (2, .int v2)]) 3 69 dX3_ringing_66 rfl rfl rfl (by decide) rfl ?_
          refine sk_goto 14 dX3_ringing_69 (by decide) ?_
          refine sk_perm (lv2 := [(0, .ref 1), (1, .int (v1 + 1)), (2, .int v2), (3, .int (v3 + 1))]) [2, 1, 3, 0] rfl ?_
          exact h
    · have h := h.2 hc
      refine sk_aload_n 0 29 dX3_ringing_28 rfl rfl rfl ?_
      refine sk_iload_n 3 30 dX3_ringing_29 rfl rfl rfl ?_
      refine sk_iload_n 2 31 dX3_ringing_30 rfl rfl rfl ?_
      refine sk_callVi [.int v3, .int v2] [] 34 dX3_ringing_31 rfl mfX3_follows lkX3_138 miX3_follows msX3_follows sc_1 rfl rfl rfl rfl (by simp [Value.category]) hd0 (sk_Cm h ?_)
      rintro w t31 ⟨r31, hw, h⟩
      refine ⟨r31, hw, ?_⟩
      refine sk_if_eq 66 37 dX3_ringing_34 (by decide) rfl (fun hc => ?_) (fun hc => ?_)
      · have h := h.1 hc
        refine sk_iinc (v := (v3 + 1)) (lv2 := [(3, .int (v3 + 1)), (0, .ref 1), (1, .int v1), (2, .int v2)]) 3 69 dX3_ringing_66 rfl rfl rfl (by decide) rfl ?_
        refine sk_goto 14 dX3_ringing_69 (by decide) ?_
        refine sk_perm (lv2 := [(0, .ref 1), (1, .int v1), (2, .int v2), (3, .int (v3 + 1))]) [1, 2, 3, 0] rfl ?_
        exact h
      · have h := h.2 hc
        refine sk_aload_n 0 38 dX3_ringing_37 rfl rfl rfl ?_
        refine sk_getR (r := 35) 41 dX3_ringing_38 rfl lfX3_11 sc_1 rfl ?_
        refine sk_iload_n 2 42 dX3_ringing_41 rfl rfl rfl ?_
        have hb42 := h.1
        have h := h.2
        refine sk_aald 43 dX3_ringing_42 rfl sc_35 (by decide) hb42 _ rfl (r := (3 + v2.toNatClampNeg)) (sk_tl0 hb42) ?_
        refine sk_getI 46 dX3_ringing_43 rfl lfX3_95 (sk_tileAt hb42) rfl ?_
        refine sk_iload_n 3 47 dX3_ringing_46 rfl rfl rfl ?_
        refine sk_icmp_eq 66 50 dX3_ringing_47 (by decide) rfl (fun hc => ?_) (fun hc => ?_)
        · have h := h.1 hc
          refine sk_iinc (v := (v3 + 1)) (lv2 := [(3, .int (v3 + 1)), (0, .ref 1), (1, .int v1), (2, .int v2)]) 3 69 dX3_ringing_66 rfl rfl rfl (by decide) rfl ?_
          refine sk_goto 14 dX3_ringing_69 (by decide) ?_
          refine sk_perm (lv2 := [(0, .ref 1), (1, .int v1), (2, .int v2), (3, .int (v3 + 1))]) [1, 2, 3, 0] rfl ?_
          exact h
        · have h := h.2 hc
          refine sk_aload_n 0 51 dX3_ringing_50 rfl rfl rfl ?_
          refine sk_getR (r := 35) 54 dX3_ringing_51 rfl lfX3_11 sc_1 rfl ?_
          refine sk_iload_n 3 55 dX3_ringing_54 rfl rfl rfl ?_
          have hb55 := h.1
          have h := h.2
          refine sk_aald 56 dX3_ringing_55 rfl sc_35 (by decide) hb55 _ rfl (r := (3 + v3.toNatClampNeg)) (sk_tl0 hb55) ?_
          refine sk_getI 59 dX3_ringing_56 rfl lfX3_95 (sk_tileAt hb55) rfl ?_
          refine sk_iload_n 2 60 dX3_ringing_59 rfl rfl rfl ?_
          refine sk_icmp_eq 66 63 dX3_ringing_60 (by decide) rfl (fun hc => ?_) (fun hc => ?_)
          · have h := h.1 hc
            refine sk_iinc (v := (v3 + 1)) (lv2 := [(3, .int (v3 + 1)), (0, .ref 1), (1, .int v1), (2, .int v2)]) 3 69 dX3_ringing_66 rfl rfl rfl (by decide) rfl ?_
            refine sk_goto 14 dX3_ringing_69 (by decide) ?_
            refine sk_perm (lv2 := [(0, .ref 1), (1, .int v1), (2, .int v2), (3, .int (v3 + 1))]) [1, 2, 3, 0] rfl ?_
            exact h
          · have h := h.2 hc
            refine sk_iinc (v := (v1 + 1)) (lv2 := [(1, .int (v1 + 1)), (0, .ref 1), (2, .int v2), (3, .int v3)]) 1 66 dX3_ringing_63 rfl rfl rfl (by decide) rfl ?_
            refine sk_iinc (v := (v3 + 1)) (lv2 := [(3, .int (v3 + 1)), (1, .int (v1 + 1)), (0, .ref 1), (2, .int v2)]) 3 69 dX3_ringing_66 rfl rfl rfl (by decide) rfl ?_
            refine sk_goto 14 dX3_ringing_69 (by decide) ?_
            refine sk_perm (lv2 := [(0, .ref 1), (1, .int (v1 + 1)), (2, .int v2), (3, .int (v3 + 1))]) [2, 1, 3, 0] rfl ?_
            exact h

theorem wX3_follows {d : Nat} {τ : sk_T} {K : sk_K} {v1 : Int32} {v2 : Int32} (hd0 : 0 < d)
  (h : vp_in v1 10 ∧
    sk_C sk_Sc (d - 1) mX5_isLaid [.ref (3 + v1.toNatClampNeg)] τ (fun w t6 => ∃ r6 : Int32, w = some (.int r6) ∧
      ((r6 = 0 →
        K (some (.int 0)) t6
      ) ∧
      (¬ r6 = 0 →
        vp_in v1 10 ∧
        sk_C sk_Sc (d - 1) mX5_row [.ref (3 + v1.toNatClampNeg)] t6 (fun w t18 => ∃ r18 : Int32, w = some (.int r18) ∧
          vp_in v2 10 ∧
          sk_C sk_Sc (d - 1) mX5_row [.ref (3 + v2.toNatClampNeg)] t18 (fun w t27 => ∃ r27 : Int32, w = some (.int r27) ∧
            ((¬ r18 = r27 →
              K (some (.int 0)) t27
            ) ∧
            (r18 = r27 →
              vp_in v1 10 ∧
              sk_C sk_Sc (d - 1) mX5_place [.ref (3 + v1.toNatClampNeg)] t27 (fun w t39 => ∃ r39 : Int32, w = some (.int r39) ∧
                vp_in v2 10 ∧
                sk_C sk_Sc (d - 1) mX5_place [.ref (3 + v2.toNatClampNeg)] t39 (fun w t48 => ∃ r48 : Int32, w = some (.int r48) ∧
                  vp_in v2 10 ∧
                  sk_C sk_Sc (d - 1) mX5_broad [.ref (3 + v2.toNatClampNeg)] t48 (fun w t57 => ∃ r57 : Int32, w = some (.int r57) ∧
                    ((¬ r39 = (r48 + r57) →
                      K (some (.int 0)) t57
                    ) ∧
                    (r39 = (r48 + r57) →
                      K (some (.int 1)) t57
                    ))
                  )
                )
              )
            ))
          )
        )
      ))
    )) :
  sk_C sk_Sc d mX3_follows [.ref 1, .int v1, .int v2] τ K := by
  refine sk_enter mfX3_follows (Nat.le_of_ble_eq_true rfl) ?_
  show sk_G sk_Sc d mX3_follows 0 [(0, .ref 1), (1, .int v1), (2, .int v2)] [] τ K
  refine sk_aload_n 0 1 dX3_follows_0 rfl rfl rfl ?_
  refine sk_getR (r := 35) 4 dX3_follows_1 rfl lfX3_11 sc_1 rfl ?_
  refine sk_iload_n 1 5 dX3_follows_4 rfl rfl rfl ?_
  have hb5 := h.1
  have h := h.2
  refine sk_aald 6 dX3_follows_5 rfl sc_35 (by decide) hb5 _ rfl (r := (3 + v1.toNatClampNeg)) (sk_tl0 hb5) ?_
  refine sk_callVi [] [] 9 dX3_follows_6 rfl mfX5_isLaid lkX3_98 miX5_isLaid msX5_isLaid (sk_tileAt hb5) rfl rfl rfl rfl (by simp [Value.category]) hd0 (sk_Cm h ?_)
  rintro w t6 ⟨r6, hw, h⟩
  refine ⟨r6, hw, ?_⟩
  refine sk_if_eq 68 12 dX3_follows_9 (by decide) rfl (fun hc => ?_) (fun hc => ?_)
  · have h := h.1 hc
    refine sk_iconst (v := 0) 69 dX3_follows_68 rfl (by decide) ?_
    exact sk_iret dX3_follows_69 rfl rfl h
  · have h := h.2 hc
    refine sk_aload_n 0 13 dX3_follows_12 rfl rfl rfl ?_
    refine sk_getR (r := 35) 16 dX3_follows_13 rfl lfX3_11 sc_1 rfl ?_
    refine sk_iload_n 1 17 dX3_follows_16 rfl rfl rfl ?_
    have hb17 := h.1
    have h := h.2
    refine sk_aald 18 dX3_follows_17 rfl sc_35 (by decide) hb17 _ rfl (r := (3 + v1.toNatClampNeg)) (sk_tl0 hb17) ?_
    refine sk_callVi [] [] 21 dX3_follows_18 rfl mfX5_row lkX3_128 miX5_row msX5_row (sk_tileAt hb17) rfl rfl rfl rfl (by simp [Value.category]) hd0 (sk_Cm h ?_)
    rintro w t18 ⟨r18, hw, h⟩
    refine ⟨r18, hw, ?_⟩
    refine sk_aload_n 0 22 dX3_follows_21 rfl rfl rfl ?_
    refine sk_getR (r := 35) 25 dX3_follows_22 rfl lfX3_11 sc_1 rfl ?_
    refine sk_iload_n 2 26 dX3_follows_25 rfl rfl rfl ?_
    have hb26 := h.1
    have h := h.2
    refine sk_aald 27 dX3_follows_26 rfl sc_35 (by decide) hb26 _ rfl (r := (3 + v2.toNatClampNeg)) (sk_tl0 hb26) ?_
    refine sk_callVi [] [.int r18] 30 dX3_follows_27 rfl mfX5_row lkX3_128 miX5_row msX5_row (sk_tileAt hb26) rfl rfl rfl rfl (by simp [Value.category]) hd0 (sk_Cm h ?_)
    rintro w t27 ⟨r27, hw, h⟩
    refine ⟨r27, hw, ?_⟩
    refine sk_icmp_ne 68 33 dX3_follows_30 (by decide) rfl (fun hc => ?_) (fun hc => ?_)
    · have h := h.1 hc
      refine sk_iconst (v := 0) 69 dX3_follows_68 rfl (by decide) ?_
      exact sk_iret dX3_follows_69 rfl rfl h
    · have h := h.2 hc
      refine sk_aload_n 0 34 dX3_follows_33 rfl rfl rfl ?_
      refine sk_getR (r := 35) 37 dX3_follows_34 rfl lfX3_11 sc_1 rfl ?_
      refine sk_iload_n 1 38 dX3_follows_37 rfl rfl rfl ?_
      have hb38 := h.1
      have h := h.2
      refine sk_aald 39 dX3_follows_38 rfl sc_35 (by decide) hb38 _ rfl (r := (3 + v1.toNatClampNeg)) (sk_tl0 hb38) ?_
      refine sk_callVi [] [] 42 dX3_follows_39 rfl mfX5_place lkX3_141 miX5_place msX5_place (sk_tileAt hb38) rfl rfl rfl rfl (by simp [Value.category]) hd0 (sk_Cm h ?_)
      rintro w t39 ⟨r39, hw, h⟩
      refine ⟨r39, hw, ?_⟩
      refine sk_aload_n 0 43 dX3_follows_42 rfl rfl rfl ?_
      refine sk_getR (r := 35) 46 dX3_follows_43 rfl lfX3_11 sc_1 rfl ?_
      refine sk_iload_n 2 47 dX3_follows_46 rfl rfl rfl ?_
      have hb47 := h.1
      have h := h.2
      refine sk_aald 48 dX3_follows_47 rfl sc_35 (by decide) hb47 _ rfl (r := (3 + v2.toNatClampNeg)) (sk_tl0 hb47) ?_
      refine sk_callVi [] [.int r39] 51 dX3_follows_48 rfl mfX5_place lkX3_141 miX5_place msX5_place (sk_tileAt hb47) rfl rfl rfl rfl (by simp [Value.category]) hd0 (sk_Cm h ?_)
      rintro w t48 ⟨r48, hw, h⟩
      refine ⟨r48, hw, ?_⟩
      refine sk_aload_n 0 52 dX3_follows_51 rfl rfl rfl ?_
      refine sk_getR (r := 35) 55 dX3_follows_52 rfl lfX3_11 sc_1 rfl ?_
      refine sk_iload_n 2 56 dX3_follows_55 rfl rfl rfl ?_
      have hb56 := h.1
      have h := h.2
      refine sk_aald 57 dX3_follows_56 rfl sc_35 (by decide) hb56 _ rfl (r := (3 + v2.toNatClampNeg)) (sk_tl0 hb56) ?_
      refine sk_callVi [] [.int r48, .int r39] 60 dX3_follows_57 rfl mfX5_broad lkX3_144 miX5_broad msX5_broad (sk_tileAt hb56) rfl rfl rfl rfl (by simp [Value.category]) hd0 (sk_Cm h ?_)
      rintro w t57 ⟨r57, hw, h⟩
      refine ⟨r57, hw, ?_⟩
      refine sk_iadd 61 dX3_follows_60 rfl ?_
      refine sk_icmp_ne 68 64 dX3_follows_61 (by decide) rfl (fun hc => ?_) (fun hc => ?_)
      · have h := h.1 hc
        refine sk_iconst (v := 0) 69 dX3_follows_68 rfl (by decide) ?_
        exact sk_iret dX3_follows_69 rfl rfl h
      · have h := h.2 hc
        refine sk_iconst (v := 1) 65 dX3_follows_64 rfl (by decide) ?_
        refine sk_goto 69 dX3_follows_65 (by decide) ?_
        exact sk_iret dX3_follows_69 rfl rfl h

theorem wX3_passYear {d : Nat} {τ : sk_T} {K : sk_K} (hd0 : 0 < d)
  (h : sk_C sk_Sc (d - 1) mX3_dryBut [.ref 1, .int 0] τ (fun w t2 => ∃ r2 : Int64, w = some (.long r2) ∧
      sk_G sk_Sc d mX3_passYear 11 [(0, .ref 1), (1, .long r2), (3, .int 0), (4, .int 0)] [] t2 K
    )) :
  sk_C sk_Sc d mX3_passYear [.ref 1] τ K := by
  refine sk_enter mfX3_passYear (Nat.le_of_ble_eq_true rfl) ?_
  show sk_G sk_Sc d mX3_passYear 0 [(0, .ref 1)] [] τ K
  refine sk_aload_n 0 1 dX3_passYear_0 rfl rfl rfl ?_
  refine sk_iconst (v := 0) 2 dX3_passYear_1 rfl (by decide) ?_
  refine sk_callVl [.int 0] [] 5 dX3_passYear_2 rfl mfX3_dryBut lkX3_108 miX3_dryBut msX3_dryBut sc_1 rfl rfl rfl rfl (by simp [Value.category]) hd0 (sk_Cm h ?_)
  rintro w t2 ⟨r2, hw, h⟩
  refine ⟨r2, hw, ?_⟩
  refine sk_lstore_n (lv2 := [(1, .long r2), (0, .ref 1)]) 6 dX3_passYear_5 rfl rfl (by decide) rfl ?_
  refine sk_iconst (v := 0) 7 dX3_passYear_6 rfl (by decide) ?_
  refine sk_istore_n (lv2 := [(3, .int 0), (1, .long r2), (0, .ref 1)]) 8 dX3_passYear_7 rfl rfl (by decide) rfl ?_
  refine sk_iconst (v := 0) 9 dX3_passYear_8 rfl (by decide) ?_
  refine sk_istore (lv2 := [(4, .int 0), (3, .int 0), (1, .long r2), (0, .ref 1)]) 11 dX3_passYear_9 rfl (by decide) rfl ?_
  refine sk_perm (lv2 := [(0, .ref 1), (1, .long r2), (3, .int 0), (4, .int 0)]) [3, 2, 1, 0] rfl ?_
  exact h

theorem bX3_passYear_11 {d : Nat} {τ : sk_T} {K : sk_K} {v1 : Int64} {v3 : Int32} {v4 : Int32} (hd0 : 0 < d)
  (h : ((48 ≤ v4 →
      sk_G sk_Sc d mX3_passYear 79 [(0, .ref 1), (4, .int 0)] [] (sk_u τ 1 4 (sk_min 99999 ((τ 1 4) + v3))) K
    ) ∧
    (¬ 48 ≤ v4 →
      ((¬ (lg_cmp ((sk_lush v1 v4) &&& 1) 0) = 0 →
        sk_G sk_Sc d mX3_passYear 11 [(0, .ref 1), (1, .long v1), (3, .int v3), (4, .int (v4 + 1))] [] τ K
      ) ∧
      ((lg_cmp ((sk_lush v1 v4) &&& 1) 0) = 0 →
        sk_C sk_Sc (d - 1) mX1_give [.ref 24, .int (v4 / 8), .int (v4 % 8), .int (τ 1 2)] τ (fun w t50 => ∃ r50 : Int32, w = some (.int r50) ∧
          sk_G sk_Sc d mX3_passYear 11 [(0, .ref 1), (1, .long v1), (3, .int (v3 + r50)), (4, .int (v4 + 1))] [] t50 K
        )
      ))
    ))) :
  sk_G sk_Sc d mX3_passYear 11 [(0, .ref 1), (1, .long v1), (3, .int v3), (4, .int v4)] [] τ K := by
  refine sk_iload 3 13 dX3_passYear_11 rfl rfl ?_
  refine sk_bipush (v := 48) 15 dX3_passYear_13 rfl (by decide) ?_
  refine sk_icmp_ge 61 18 dX3_passYear_15 (by decide) rfl (fun hc => ?_) (fun hc => ?_)
  · have h := h.1 hc
    refine sk_aload_n 0 62 dX3_passYear_61 rfl rfl rfl ?_
    refine sk_ldc 64 dX3_passYear_62 rfl kcX3_147 ?_
    refine sk_aload_n 0 65 dX3_passYear_64 rfl rfl rfl ?_
    refine sk_getI 68 dX3_passYear_65 rfl lfX3_27 sc_1 rfl ?_
    refine sk_iload_n 2 69 dX3_passYear_68 rfl rfl rfl ?_
    refine sk_iadd 70 dX3_passYear_69 rfl ?_
    refine sk_mmin 73 dX3_passYear_70 rfl lkX3_148 lw_min (by simp [Value.category]) hd0 ?_
    refine sk_putI 76 dX3_passYear_73 rfl lpX3_27 sc_1 rfl ?_
    refine sk_iconst (v := 0) 77 dX3_passYear_76 rfl (by decide) ?_
    refine sk_istore (lv2 := [(4, .int 0), (0, .ref 1), (1, .long v1), (3, .int v3)]) 79 dX3_passYear_77 rfl (by decide) rfl ?_
    refine sk_perm (lv2 := [(0, .ref 1), (4, .int 0)]) [1, 0] rfl ?_
    exact h
  · have h := h.2 hc
    refine sk_lload_n 1 19 dX3_passYear_18 rfl rfl rfl ?_
    refine sk_iload 3 21 dX3_passYear_19 rfl rfl ?_
    refine sk_lushr 22 dX3_passYear_21 rfl ?_
    refine sk_lconst (v := 1) 23 dX3_passYear_22 rfl (by decide) ?_
    refine sk_land 24 dX3_passYear_23 rfl ?_
    refine sk_lconst (v := 0) 25 dX3_passYear_24 rfl (by decide) ?_
    refine sk_lcmp 26 dX3_passYear_25 rfl ?_
    refine sk_if_ne 55 29 dX3_passYear_26 (by decide) rfl (fun hc => ?_) (fun hc => ?_)
    · have h := h.1 hc
      refine sk_iinc (v := (v4 + 1)) (lv2 := [(4, .int (v4 + 1)), (0, .ref 1), (1, .long v1), (3, .int v3)]) 3 58 dX3_passYear_55 rfl rfl rfl (by decide) rfl ?_
      refine sk_goto 11 dX3_passYear_58 (by decide) ?_
      refine sk_perm (lv2 := [(0, .ref 1), (1, .long v1), (3, .int v3), (4, .int (v4 + 1))]) [1, 2, 3, 0] rfl ?_
      exact h
    · have h := h.2 hc
      refine sk_iload_n 2 30 dX3_passYear_29 rfl rfl rfl ?_
      refine sk_aload_n 0 31 dX3_passYear_30 rfl rfl rfl ?_
      refine sk_getR (r := 37) 34 dX3_passYear_31 rfl lfX3_42 sc_1 rfl ?_
      refine sk_iconst (v := 1) 35 dX3_passYear_34 rfl (by decide) ?_
      refine sk_aald 36 dX3_passYear_35 rfl sc_37 (by decide) (by unfold vp_in; decide) 1 rfl (r := 24) rfl ?_
      refine sk_iload 3 38 dX3_passYear_36 rfl rfl ?_
      refine sk_bipush (v := 8) 40 dX3_passYear_38 rfl (by decide) ?_
      refine sk_idiv 41 dX3_passYear_40 rfl (by decide) ?_
      refine sk_iload 3 43 dX3_passYear_41 rfl rfl ?_
      refine sk_bipush (v := 8) 45 dX3_passYear_43 rfl (by decide) ?_
      refine sk_irem 46 dX3_passYear_45 rfl (by decide) ?_
      refine sk_aload_n 0 47 dX3_passYear_46 rfl rfl rfl ?_
      refine sk_getI 50 dX3_passYear_47 rfl lfX3_21 sc_1 rfl ?_
      refine sk_callVi [.int (v4 / 8), .int (v4 % 8), .int (τ 1 2)] [.int v3] 53 dX3_passYear_50 rfl mfX1_give lkX3_77 miX1_give msX1_give sc_24 rfl rfl rfl rfl (by simp [Value.category]) hd0 (sk_Cm h ?_)
      rintro w t50 ⟨r50, hw, h⟩
      refine ⟨r50, hw, ?_⟩
      refine sk_iadd 54 dX3_passYear_53 rfl ?_
      refine sk_istore_n (lv2 := [(3, .int (v3 + r50)), (0, .ref 1), (1, .long v1), (4, .int v4)]) 55 dX3_passYear_54 rfl rfl (by decide) rfl ?_
      refine sk_iinc (v := (v4 + 1)) (lv2 := [(4, .int (v4 + 1)), (3, .int (v3 + r50)), (0, .ref 1), (1, .long v1)]) 3 58 dX3_passYear_55 rfl rfl rfl (by decide) rfl ?_
      refine sk_goto 11 dX3_passYear_58 (by decide) ?_
      refine sk_perm (lv2 := [(0, .ref 1), (1, .long v1), (3, .int (v3 + r50)), (4, .int (v4 + 1))]) [2, 3, 1, 0] rfl ?_
      exact h

theorem bX3_passYear_79 {d : Nat} {τ : sk_T} {K : sk_K} {v4 : Int32} (hd0 : 0 < d)
  (h : (((τ 1 1) ≤ v4 →
      K none (sk_u τ 1 2 ((τ 1 2) + 1))
    ) ∧
    (¬ (τ 1 1) ≤ v4 →
      vp_in v4 10 ∧
      vp_in v4 10 ∧
      ((¬ (((sk_u τ (3 + v4.toNatClampNeg) 5 (sk_min 999 ((τ (3 + v4.toNatClampNeg) 5) + 1))) 1 2) % 4) = 3 →
        sk_G sk_Sc d mX3_passYear 79 [(0, .ref 1), (4, .int (v4 + 1))] [] (sk_u τ (3 + v4.toNatClampNeg) 5 (sk_min 999 ((τ (3 + v4.toNatClampNeg) 5) + 1))) K
      ) ∧
      ((((sk_u τ (3 + v4.toNatClampNeg) 5 (sk_min 999 ((τ (3 + v4.toNatClampNeg) 5) + 1))) 1 2) % 4) = 3 →
        vp_in v4 10 ∧
        vp_in v4 10 ∧
        sk_G sk_Sc d mX3_passYear 79 [(0, .ref 1), (4, .int (v4 + 1))] [] (sk_u (sk_u τ (3 + v4.toNatClampNeg) 5 (sk_min 999 ((τ (3 + v4.toNatClampNeg) 5) + 1))) (3 + v4.toNatClampNeg) 3 (sk_max 0 (((sk_u τ (3 + v4.toNatClampNeg) 5 (sk_min 999 ((τ (3 + v4.toNatClampNeg) 5) + 1))) (3 + v4.toNatClampNeg) 3) - 1))) K
      ))
    ))) :
  sk_G sk_Sc d mX3_passYear 79 [(0, .ref 1), (4, .int v4)] [] τ K := by
  refine sk_iload 1 81 dX3_passYear_79 rfl rfl ?_
  refine sk_aload_n 0 82 dX3_passYear_81 rfl rfl rfl ?_
  refine sk_getI 85 dX3_passYear_82 rfl lfX3_17 sc_1 rfl ?_
  refine sk_icmp_ge 158 88 dX3_passYear_85 (by decide) rfl (fun hc => ?_) (fun hc => ?_)
  · have h := h.1 hc
    refine sk_aload_n 0 159 dX3_passYear_158 rfl rfl rfl ?_
    refine sk_dup 160 dX3_passYear_159 rfl rfl ?_
    refine sk_getI 163 dX3_passYear_160 rfl lfX3_21 sc_1 rfl ?_
    refine sk_iconst (v := 1) 164 dX3_passYear_163 rfl (by decide) ?_
    refine sk_iadd 165 dX3_passYear_164 rfl ?_
    refine sk_putI 168 dX3_passYear_165 rfl lpX3_21 sc_1 rfl ?_
    exact sk_vret dX3_passYear_168 rfl h
  · have h := h.2 hc
    refine sk_aload_n 0 89 dX3_passYear_88 rfl rfl rfl ?_
    refine sk_getR (r := 35) 92 dX3_passYear_89 rfl lfX3_11 sc_1 rfl ?_
    refine sk_iload 1 94 dX3_passYear_92 rfl rfl ?_
    have hb94 := h.1
    have h := h.2
    refine sk_aald 95 dX3_passYear_94 rfl sc_35 (by decide) hb94 _ rfl (r := (3 + v4.toNatClampNeg)) (sk_tl0 hb94) ?_
    refine sk_sipush (v := 999) 98 dX3_passYear_95 rfl (by decide) ?_
    refine sk_aload_n 0 99 dX3_passYear_98 rfl rfl rfl ?_
    refine sk_getR (r := 35) 102 dX3_passYear_99 rfl lfX3_11 sc_1 rfl ?_
    refine sk_iload 1 104 dX3_passYear_102 rfl rfl ?_
    have hb104 := h.1
    have h := h.2
    refine sk_aald 105 dX3_passYear_104 rfl sc_35 (by decide) hb104 _ rfl (r := (3 + v4.toNatClampNeg)) (sk_tl0 hb104) ?_
    refine sk_getI 108 dX3_passYear_105 rfl lfX3_153 (sk_tileAt hb104) rfl ?_
    refine sk_iconst (v := 1) 109 dX3_passYear_108 rfl (by decide) ?_
    refine sk_iadd 110 dX3_passYear_109 rfl ?_
    refine sk_mmin 113 dX3_passYear_110 rfl lkX3_148 lw_min (by simp [Value.category]) hd0 ?_
    refine sk_putI 116 dX3_passYear_113 rfl lpX3_153 (sk_tileAt hb94) rfl ?_
    refine sk_aload_n 0 117 dX3_passYear_116 rfl rfl rfl ?_
    refine sk_getI 120 dX3_passYear_117 rfl lfX3_21 sc_1 rfl ?_
    refine sk_iconst (v := 4) 121 dX3_passYear_120 rfl (by decide) ?_
    refine sk_irem 122 dX3_passYear_121 rfl (by decide) ?_
    refine sk_iconst (v := 3) 123 dX3_passYear_122 rfl (by decide) ?_
    refine sk_icmp_ne 152 126 dX3_passYear_123 (by decide) rfl (fun hc => ?_) (fun hc => ?_)
    · have h := h.1 hc
      refine sk_iinc (v := (v4 + 1)) (lv2 := [(4, .int (v4 + 1)), (0, .ref 1)]) 1 155 dX3_passYear_152 rfl rfl rfl (by decide) rfl ?_
      refine sk_goto 79 dX3_passYear_155 (by decide) ?_
      refine sk_perm (lv2 := [(0, .ref 1), (4, .int (v4 + 1))]) [1, 0] rfl ?_
      exact h
    · have h := h.2 hc
      refine sk_aload_n 0 127 dX3_passYear_126 rfl rfl rfl ?_
      refine sk_getR (r := 35) 130 dX3_passYear_127 rfl lfX3_11 sc_1 rfl ?_
      refine sk_iload 1 132 dX3_passYear_130 rfl rfl ?_
      have hb132 := h.1
      have h := h.2
      refine sk_aald 133 dX3_passYear_132 rfl sc_35 (by decide) hb132 _ rfl (r := (3 + v4.toNatClampNeg)) (sk_tl0 hb132) ?_
      refine sk_iconst (v := 0) 134 dX3_passYear_133 rfl (by decide) ?_
      refine sk_aload_n 0 135 dX3_passYear_134 rfl rfl rfl ?_
      refine sk_getR (r := 35) 138 dX3_passYear_135 rfl lfX3_11 sc_1 rfl ?_
      refine sk_iload 1 140 dX3_passYear_138 rfl rfl ?_
      have hb140 := h.1
      have h := h.2
      refine sk_aald 141 dX3_passYear_140 rfl sc_35 (by decide) hb140 _ rfl (r := (3 + v4.toNatClampNeg)) (sk_tl0 hb140) ?_
      refine sk_getI 144 dX3_passYear_141 rfl lfX3_74 (sk_tileAt hb140) rfl ?_
      refine sk_iconst (v := 1) 145 dX3_passYear_144 rfl (by decide) ?_
      refine sk_isub 146 dX3_passYear_145 rfl ?_
      refine sk_mmax 149 dX3_passYear_146 rfl lkX3_156 lw_max (by simp [Value.category]) hd0 ?_
      refine sk_putI 152 dX3_passYear_149 rfl lpX3_74 (sk_tileAt hb132) rfl ?_
      refine sk_iinc (v := (v4 + 1)) (lv2 := [(4, .int (v4 + 1)), (0, .ref 1)]) 1 155 dX3_passYear_152 rfl rfl rfl (by decide) rfl ?_
      refine sk_goto 79 dX3_passYear_155 (by decide) ?_
      refine sk_perm (lv2 := [(0, .ref 1), (4, .int (v4 + 1))]) [1, 0] rfl ?_
      exact h

theorem wX3_draw {d : Nat} {τ : sk_T} {K : sk_K}
  (h : K (some (.int (sk_ush ((sk_u τ 1 5 (((τ 1 5) * 1103515245) + 12345)) 1 5) 8))) (sk_u τ 1 5 (((τ 1 5) * 1103515245) + 12345))) :
  sk_C sk_Sc d mX3_draw [.ref 1] τ K := by
  refine sk_enter mfX3_draw (Nat.le_of_ble_eq_true rfl) ?_
  show sk_G sk_Sc d mX3_draw 0 [(0, .ref 1)] [] τ K
  refine sk_aload_n 0 1 dX3_draw_0 rfl rfl rfl ?_
  refine sk_aload_n 0 2 dX3_draw_1 rfl rfl rfl ?_
  refine sk_getI 5 dX3_draw_2 rfl lfX3_30 sc_1 rfl ?_
  refine sk_ldc 7 dX3_draw_5 rfl kcX3_159 ?_
  refine sk_imul 8 dX3_draw_7 rfl ?_
  refine sk_sipush (v := 12345) 11 dX3_draw_8 rfl (by decide) ?_
  refine sk_iadd 12 dX3_draw_11 rfl ?_
  refine sk_putI 15 dX3_draw_12 rfl lpX3_30 sc_1 rfl ?_
  refine sk_aload_n 0 16 dX3_draw_15 rfl rfl rfl ?_
  refine sk_getI 19 dX3_draw_16 rfl lfX3_30 sc_1 rfl ?_
  refine sk_bipush (v := 8) 21 dX3_draw_19 rfl (by decide) ?_
  refine sk_iushr 22 dX3_draw_21 rfl ?_
  exact sk_iret dX3_draw_22 rfl rfl h

theorem wX3_yearByDraws {d : Nat} {τ : sk_T} {K : sk_K} (hd0 : 0 < d)
  (h : sk_C sk_Sc (d - 1) mX3_draw [.ref 1] τ (fun w t2 => ∃ r2 : Int32, w = some (.int r2) ∧
      sk_C sk_Sc (d - 1) mX3_blown [.ref 1, .int (r2 % 40)] t2 (fun w t8 => ∃ r8 : Int32, w = some (.int r8) ∧
        sk_C sk_Sc (d - 1) mX3_takeOff [.ref 1, .int r8] t8 (fun w t14 => w = none ∧
          (((t14 1 1) ≤ 0 →
            sk_C sk_Sc (d - 1) mX3_passYear [.ref 1] t14 (fun w t74 => w = none ∧
              K (some (.int r8)) t74
            )
          ) ∧
          (¬ (t14 1 1) ≤ 0 →
            sk_C sk_Sc (d - 1) mX3_draw [.ref 1] t14 (fun w t25 => ∃ r25 : Int32, w = some (.int r25) ∧
              ¬ (t25 1 1) = 0 ∧
              sk_C sk_Sc (d - 1) mX3_draw [.ref 1] t25 (fun w t35 => ∃ r35 : Int32, w = some (.int r35) ∧
                vp_in (r25 % (t25 1 1)) 10 ∧
                sk_C sk_Sc (d - 1) mX5_isLaid [.ref (3 + ((r25 % (t25 1 1))).toNatClampNeg)] t35 (fun w t48 => ∃ r48 : Int32, w = some (.int r48) ∧
                  ((¬ r48 = 0 →
                    sk_C sk_Sc (d - 1) mX3_passYear [.ref 1] t48 (fun w t74 => w = none ∧
                      K (some (.int r8)) t74
                    )
                  ) ∧
                  (r48 = 0 →
                    sk_C sk_Sc (d - 1) mX3_mayLie [.ref 1, .int (r25 % (t25 1 1)), .int (r35 % 48)] t48 (fun w t57 => ∃ r57 : Int32, w = some (.int r57) ∧
                      ((r57 = 0 →
                        sk_C sk_Sc (d - 1) mX3_passYear [.ref 1] t57 (fun w t74 => w = none ∧
                          K (some (.int r8)) t74
                        )
                      ) ∧
                      (¬ r57 = 0 →
                        vp_in (r25 % (t25 1 1)) 10 ∧
                        sk_C sk_Sc (d - 1) mX3_passYear [.ref 1] (sk_u t57 (3 + ((r25 % (t25 1 1))).toNatClampNeg) 6 (r35 % 48)) (fun w t74 => w = none ∧
                          K (some (.int r8)) t74
                        )
                      ))
                    )
                  ))
                )
              )
            )
          ))
        )
      )
    )) :
  sk_C sk_Sc d mX3_yearByDraws [.ref 1] τ K := by
  refine sk_enter mfX3_yearByDraws (Nat.le_of_ble_eq_true rfl) ?_
  show sk_G sk_Sc d mX3_yearByDraws 0 [(0, .ref 1)] [] τ K
  refine sk_aload_n 0 1 dX3_yearByDraws_0 rfl rfl rfl ?_
  refine sk_aload_n 0 2 dX3_yearByDraws_1 rfl rfl rfl ?_
  refine sk_callVi [] [.ref 1] 5 dX3_yearByDraws_2 rfl mfX3_draw lkX3_160 miX3_draw msX3_draw sc_1 rfl rfl rfl rfl (by simp [Value.category]) hd0 (sk_Cm h ?_)
  rintro w t2 ⟨r2, hw, h⟩
  refine ⟨r2, hw, ?_⟩
  refine sk_bipush (v := 40) 7 dX3_yearByDraws_5 rfl (by decide) ?_
  refine sk_irem 8 dX3_yearByDraws_7 rfl (by decide) ?_
  refine sk_callVi [.int (r2 % 40)] [] 11 dX3_yearByDraws_8 rfl mfX3_blown lkX3_163 miX3_blown msX3_blown sc_1 rfl rfl rfl rfl (by simp [Value.category]) hd0 (sk_Cm h ?_)
  rintro w t8 ⟨r8, hw, h⟩
  refine ⟨r8, hw, ?_⟩
  refine sk_istore_n (lv2 := [(1, .int r8), (0, .ref 1)]) 12 dX3_yearByDraws_11 rfl rfl (by decide) rfl ?_
  refine sk_aload_n 1 13 dX3_yearByDraws_12 rfl rfl rfl ?_
  refine sk_iload_n 0 14 dX3_yearByDraws_13 rfl rfl rfl ?_
  refine sk_callVv [.int r8] [] 17 dX3_yearByDraws_14 rfl mfX3_takeOff lkX3_167 miX3_takeOff msX3_takeOff sc_1 rfl rfl rfl rfl (by simp [Value.category]) hd0 (sk_Cm h ?_)
  rintro w t14 ⟨hw, h⟩
  refine ⟨hw, ?_⟩
  refine sk_aload_n 1 18 dX3_yearByDraws_17 rfl rfl rfl ?_
  refine sk_getI 21 dX3_yearByDraws_18 rfl lfX3_17 sc_1 rfl ?_
  refine sk_if_le 73 24 dX3_yearByDraws_21 (by decide) rfl (fun hc => ?_) (fun hc => ?_)
  · have h := h.1 hc
    refine sk_aload_n 1 74 dX3_yearByDraws_73 rfl rfl rfl ?_
    refine sk_callVv [] [] 77 dX3_yearByDraws_74 rfl mfX3_passYear lkX3_170 miX3_passYear msX3_passYear sc_1 rfl rfl rfl rfl (by simp [Value.category]) hd0 (sk_Cm h ?_)
    rintro w t74 ⟨hw, h⟩
    refine ⟨hw, ?_⟩
    refine sk_iload_n 0 78 dX3_yearByDraws_77 rfl rfl rfl ?_
    exact sk_iret dX3_yearByDraws_78 rfl rfl h
  · have h := h.2 hc
    refine sk_aload_n 1 25 dX3_yearByDraws_24 rfl rfl rfl ?_
    refine sk_callVi [] [] 28 dX3_yearByDraws_25 rfl mfX3_draw lkX3_160 miX3_draw msX3_draw sc_1 rfl rfl rfl rfl (by simp [Value.category]) hd0 (sk_Cm h ?_)
    rintro w t25 ⟨r25, hw, h⟩
    refine ⟨r25, hw, ?_⟩
    refine sk_aload_n 1 29 dX3_yearByDraws_28 rfl rfl rfl ?_
    refine sk_getI 32 dX3_yearByDraws_29 rfl lfX3_17 sc_1 rfl ?_
    have hz32 := h.1
    have h := h.2
    refine sk_irem 33 dX3_yearByDraws_32 rfl hz32 ?_
    refine sk_istore_n (lv2 := [(2, .int (r25 % (t25 1 1))), (1, .int r8), (0, .ref 1)]) 34 dX3_yearByDraws_33 rfl rfl (by decide) rfl ?_
    refine sk_aload_n 2 35 dX3_yearByDraws_34 rfl rfl rfl ?_
    refine sk_callVi [] [] 38 dX3_yearByDraws_35 rfl mfX3_draw lkX3_160 miX3_draw msX3_draw sc_1 rfl rfl rfl rfl (by simp [Value.category]) hd0 (sk_Cm h ?_)
    rintro w t35 ⟨r35, hw, h⟩
    refine ⟨r35, hw, ?_⟩
    refine sk_bipush (v := 48) 40 dX3_yearByDraws_38 rfl (by decide) ?_
    refine sk_irem 41 dX3_yearByDraws_40 rfl (by decide) ?_
    refine sk_istore_n (lv2 := [(3, .int (r35 % 48)), (2, .int (r25 % (t25 1 1))), (1, .int r8), (0, .ref 1)]) 42 dX3_yearByDraws_41 rfl rfl (by decide) rfl ?_
    refine sk_aload_n 3 43 dX3_yearByDraws_42 rfl rfl rfl ?_
    refine sk_getR (r := 35) 46 dX3_yearByDraws_43 rfl lfX3_11 sc_1 rfl ?_
    refine sk_iload_n 1 47 dX3_yearByDraws_46 rfl rfl rfl ?_
    have hb47 := h.1
    have h := h.2
    refine sk_aald 48 dX3_yearByDraws_47 rfl sc_35 (by decide) hb47 _ rfl (r := (3 + ((r25 % (t25 1 1))).toNatClampNeg)) (sk_tl0 hb47) ?_
    refine sk_callVi [] [] 51 dX3_yearByDraws_48 rfl mfX5_isLaid lkX3_98 miX5_isLaid msX5_isLaid (sk_tileAt hb47) rfl rfl rfl rfl (by simp [Value.category]) hd0 (sk_Cm h ?_)
    rintro w t48 ⟨r48, hw, h⟩
    refine ⟨r48, hw, ?_⟩
    refine sk_if_ne 73 54 dX3_yearByDraws_51 (by decide) rfl (fun hc => ?_) (fun hc => ?_)
    · have h := h.1 hc
      refine sk_aload_n 3 74 dX3_yearByDraws_73 rfl rfl rfl ?_
      refine sk_callVv [] [] 77 dX3_yearByDraws_74 rfl mfX3_passYear lkX3_170 miX3_passYear msX3_passYear sc_1 rfl rfl rfl rfl (by simp [Value.category]) hd0 (sk_Cm h ?_)
      rintro w t74 ⟨hw, h⟩
      refine ⟨hw, ?_⟩
      refine sk_iload_n 2 78 dX3_yearByDraws_77 rfl rfl rfl ?_
      exact sk_iret dX3_yearByDraws_78 rfl rfl h
    · have h := h.2 hc
      refine sk_aload_n 3 55 dX3_yearByDraws_54 rfl rfl rfl ?_
      refine sk_iload_n 1 56 dX3_yearByDraws_55 rfl rfl rfl ?_
      refine sk_iload_n 0 57 dX3_yearByDraws_56 rfl rfl rfl ?_
      refine sk_callVi [.int (r25 % (t25 1 1)), .int (r35 % 48)] [] 60 dX3_yearByDraws_57 rfl mfX3_mayLie lkX3_117 miX3_mayLie msX3_mayLie sc_1 rfl rfl rfl rfl (by simp [Value.category]) hd0 (sk_Cm h ?_)
      rintro w t57 ⟨r57, hw, h⟩
      refine ⟨r57, hw, ?_⟩
      refine sk_if_eq 73 63 dX3_yearByDraws_60 (by decide) rfl (fun hc => ?_) (fun hc => ?_)
      · have h := h.1 hc
        refine sk_aload_n 3 74 dX3_yearByDraws_73 rfl rfl rfl ?_
        refine sk_callVv [] [] 77 dX3_yearByDraws_74 rfl mfX3_passYear lkX3_170 miX3_passYear msX3_passYear sc_1 rfl rfl rfl rfl (by simp [Value.category]) hd0 (sk_Cm h ?_)
        rintro w t74 ⟨hw, h⟩
        refine ⟨hw, ?_⟩
        refine sk_iload_n 2 78 dX3_yearByDraws_77 rfl rfl rfl ?_
        exact sk_iret dX3_yearByDraws_78 rfl rfl h
      · have h := h.2 hc
        refine sk_aload_n 3 64 dX3_yearByDraws_63 rfl rfl rfl ?_
        refine sk_getR (r := 35) 67 dX3_yearByDraws_64 rfl lfX3_11 sc_1 rfl ?_
        refine sk_iload_n 1 68 dX3_yearByDraws_67 rfl rfl rfl ?_
        have hb68 := h.1
        have h := h.2
        refine sk_aald 69 dX3_yearByDraws_68 rfl sc_35 (by decide) hb68 _ rfl (r := (3 + ((r25 % (t25 1 1))).toNatClampNeg)) (sk_tl0 hb68) ?_
        refine sk_iload_n 0 70 dX3_yearByDraws_69 rfl rfl rfl ?_
        refine sk_putI 73 dX3_yearByDraws_70 rfl lpX3_135 (sk_tileAt hb68) rfl ?_
        refine sk_aload_n 3 74 dX3_yearByDraws_73 rfl rfl rfl ?_
        refine sk_callVv [] [] 77 dX3_yearByDraws_74 rfl mfX3_passYear lkX3_170 miX3_passYear msX3_passYear sc_1 rfl rfl rfl rfl (by simp [Value.category]) hd0 (sk_Cm h ?_)
        rintro w t74 ⟨hw, h⟩
        refine ⟨hw, ?_⟩
        refine sk_iload_n 2 78 dX3_yearByDraws_77 rfl rfl rfl ?_
        exact sk_iret dX3_yearByDraws_78 rfl rfl h

