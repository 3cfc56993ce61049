theorem wX2_read {d : Nat} {τ : sk_T} {K : sk_K} {v2 : Int32} {v3 : Int32} (hd0 : 0 < d)
  (h : sk_C sk_Sc (d - 1) mX2_any [.ref 43, .int 0] (sk_u (sk_u (sk_u (sk_u (sk_w τ 44 (va_cpy (τ 39) (τ 44) 0 0 60)) 43 1 (sk_min v2 60)) 43 2 0) 43 3 v3) 43 5 0) (fun w t39 => ∃ r39 : Int32, w = some (.int r39) ∧
      ((r39 = 0 →
        K (some (.int (t39 43 2))) t39
      ) ∧
      (¬ r39 = 0 →
        ((¬ (t39 43 2) = (t39 43 1) →
          K (some (.int (t39 43 2))) t39
        ) ∧
        ((t39 43 2) = (t39 43 1) →
          K (some (.int (-1))) t39
        ))
      ))
    )) :
  sk_C sk_Sc d mX2_read [.ref 43, .ref 39, .int v2, .int v3] τ K := by
  refine sk_enter mfX2_read (Nat.le_of_ble_eq_true rfl) ?_
  show sk_G sk_Sc d mX2_read 0 [(0, .ref 43), (1, .ref 39), (2, .int v2), (3, .int v3)] [] τ K
  refine sk_aload_n 1 1 dX2_read_0 rfl rfl rfl ?_
  refine sk_iconst (v := 0) 2 dX2_read_1 rfl (by decide) ?_
  refine sk_aload_n 0 3 dX2_read_2 rfl rfl rfl ?_
  refine sk_getR (r := 44) 6 dX2_read_3 rfl lfX2_9 sc_43 rfl ?_
  refine sk_iconst (v := 0) 7 dX2_read_6 rfl (by decide) ?_
  refine sk_bipush (v := 60) 9 dX2_read_7 rfl (by decide) ?_
  refine sk_copyB 12 dX2_read_9 rfl lkX2_32 lk_ac sc_39 sc_44 (by decide) (by decide) (by decide) (by decide) (by decide) (by simp [Value.category]) hd0 ?_
  refine sk_aload_n 0 13 dX2_read_12 rfl rfl rfl ?_
  refine sk_iload_n 2 14 dX2_read_13 rfl rfl rfl ?_
  refine sk_bipush (v := 60) 16 dX2_read_14 rfl (by decide) ?_
  refine sk_mmin 19 dX2_read_16 rfl lkX2_38 lw_min (by simp [Value.category]) hd0 ?_
  refine sk_putI 22 dX2_read_19 rfl lpX2_15 sc_43 rfl ?_
  refine sk_aload_n 0 23 dX2_read_22 rfl rfl rfl ?_
  refine sk_iconst (v := 0) 24 dX2_read_23 rfl (by decide) ?_
  refine sk_putI 27 dX2_read_24 rfl lpX2_19 sc_43 rfl ?_
  refine sk_aload_n 0 28 dX2_read_27 rfl rfl rfl ?_
  refine sk_iload_n 3 29 dX2_read_28 rfl rfl rfl ?_
  refine sk_putI 32 dX2_read_29 rfl lpX2_22 sc_43 rfl ?_
  refine sk_aload_n 0 33 dX2_read_32 rfl rfl rfl ?_
  refine sk_iconst (v := 0) 34 dX2_read_33 rfl (by decide) ?_
  refine sk_putI 37 dX2_read_34 rfl lpX2_29 sc_43 rfl ?_
  refine sk_aload_n 0 38 dX2_read_37 rfl rfl rfl ?_
  refine sk_iconst (v := 0) 39 dX2_read_38 rfl (by decide) ?_
  refine sk_callVi [.int 0] [] 42 dX2_read_39 rfl mfX2_any lkX2_44 miX2_any msX2_any sc_43 rfl rfl rfl rfl (by simp [Value.category]) hd0 (sk_Cm h ?_)
  rintro w t39 ⟨r39, hw, h⟩
  refine ⟨r39, hw, ?_⟩
  refine sk_if_eq 60 45 dX2_read_42 (by decide) rfl (fun hc => ?_) (fun hc => ?_)
  · have h := h.1 hc
    refine sk_aload_n 0 61 dX2_read_60 rfl rfl rfl ?_
    refine sk_getI 64 dX2_read_61 rfl lfX2_19 sc_43 rfl ?_
    exact sk_iret dX2_read_64 rfl rfl h
  · have h := h.2 hc
    refine sk_aload_n 0 46 dX2_read_45 rfl rfl rfl ?_
    refine sk_getI 49 dX2_read_46 rfl lfX2_19 sc_43 rfl ?_
    refine sk_aload_n 0 50 dX2_read_49 rfl rfl rfl ?_
    refine sk_getI 53 dX2_read_50 rfl lfX2_15 sc_43 rfl ?_
    refine sk_icmp_ne 60 56 dX2_read_53 (by decide) rfl (fun hc => ?_) (fun hc => ?_)
    · have h := h.1 hc
      refine sk_aload_n 0 61 dX2_read_60 rfl rfl rfl ?_
      refine sk_getI 64 dX2_read_61 rfl lfX2_19 sc_43 rfl ?_
      exact sk_iret dX2_read_64 rfl rfl h
    · have h := h.2 hc
      refine sk_iconst (v := (-1)) 57 dX2_read_56 rfl (by decide) ?_
      refine sk_goto 64 dX2_read_57 (by decide) ?_
      exact sk_iret dX2_read_64 rfl rfl h

theorem wX2_sign {d : Nat} {τ : sk_T} {K : sk_K}
  (h : (((τ 43 1) ≤ (τ 43 2) →
      K (some (.int (-1))) τ
    ) ∧
    (¬ (τ 43 1) ≤ (τ 43 2) →
      vp_in (τ 43 2) 60 ∧
      K (some (.int ((vp_nar .byte (τ 44 ((τ 43 2)).toNatClampNeg)) &&& 255))) τ
    ))) :
  sk_C sk_Sc d mX2_sign [.ref 43] τ K := by
  refine sk_enter mfX2_sign (Nat.le_of_ble_eq_true rfl) ?_
  show sk_G sk_Sc d mX2_sign 0 [(0, .ref 43)] [] τ K
  refine sk_aload_n 0 1 dX2_sign_0 rfl rfl rfl ?_
  refine sk_getI 4 dX2_sign_1 rfl lfX2_19 sc_43 rfl ?_
  refine sk_aload_n 0 5 dX2_sign_4 rfl rfl rfl ?_
  refine sk_getI 8 dX2_sign_5 rfl lfX2_15 sc_43 rfl ?_
  refine sk_icmp_ge 27 11 dX2_sign_8 (by decide) rfl (fun hc => ?_) (fun hc => ?_)
  · have h := h.1 hc
    refine sk_iconst (v := (-1)) 28 dX2_sign_27 rfl (by decide) ?_
    exact sk_iret dX2_sign_28 rfl rfl h
  · have h := h.2 hc
    refine sk_aload_n 0 12 dX2_sign_11 rfl rfl rfl ?_
    refine sk_getR (r := 44) 15 dX2_sign_12 rfl lfX2_9 sc_43 rfl ?_
    refine sk_aload_n 0 16 dX2_sign_15 rfl rfl rfl ?_
    refine sk_getI 19 dX2_sign_16 rfl lfX2_19 sc_43 rfl ?_
    have hb19 := h.1
    have h := h.2
    refine sk_bald 20 dX2_sign_19 rfl sc_44 hb19 _ rfl ?_
    refine sk_sipush (v := 255) 23 dX2_sign_20 rfl (by decide) ?_
    refine sk_iand 24 dX2_sign_23 rfl ?_
    refine sk_goto 28 dX2_sign_24 (by decide) ?_
    exact sk_iret dX2_sign_28 rfl rfl h

theorem wX2_emit {d : Nat} {τ : sk_T} {K : sk_K} {v1 : Int32}
  (h : ((60 ≤ (τ 43 5) →
      K none τ
    ) ∧
    (¬ 60 ≤ (τ 43 5) →
      vp_in (τ 43 5) 60 ∧
      K none (sk_u (sk_u τ 45 ((τ 43 5)).toNatClampNeg v1) 43 5 (((sk_u τ 45 ((τ 43 5)).toNatClampNeg v1) 43 5) + 1))
    ))) :
  sk_C sk_Sc d mX2_emit [.ref 43, .int v1] τ K := by
  refine sk_enter mfX2_emit (Nat.le_of_ble_eq_true rfl) ?_
  show sk_G sk_Sc d mX2_emit 0 [(0, .ref 43), (1, .int v1)] [] τ K
  refine sk_aload_n 0 1 dX2_emit_0 rfl rfl rfl ?_
  refine sk_getI 4 dX2_emit_1 rfl lfX2_29 sc_43 rfl ?_
  refine sk_bipush (v := 60) 6 dX2_emit_4 rfl (by decide) ?_
  refine sk_icmp_ge 29 9 dX2_emit_6 (by decide) rfl (fun hc => ?_) (fun hc => ?_)
  · have h := h.1 hc
    exact sk_vret dX2_emit_29 rfl h
  · have h := h.2 hc
    refine sk_aload_n 0 10 dX2_emit_9 rfl rfl rfl ?_
    refine sk_getR (r := 45) 13 dX2_emit_10 rfl lfX2_25 sc_43 rfl ?_
    refine sk_aload_n 0 14 dX2_emit_13 rfl rfl rfl ?_
    refine sk_getI 17 dX2_emit_14 rfl lfX2_29 sc_43 rfl ?_
    refine sk_iload_n 1 18 dX2_emit_17 rfl rfl rfl ?_
    have hb18 := h.1
    have h := h.2
    refine sk_iast 19 dX2_emit_18 rfl sc_45 hb18 _ rfl ?_
    refine sk_aload_n 0 20 dX2_emit_19 rfl rfl rfl ?_
    refine sk_dup 21 dX2_emit_20 rfl rfl ?_
    refine sk_getI 24 dX2_emit_21 rfl lfX2_29 sc_43 rfl ?_
    refine sk_iconst (v := 1) 25 dX2_emit_24 rfl (by decide) ?_
    refine sk_iadd 26 dX2_emit_25 rfl ?_
    refine sk_putI 29 dX2_emit_26 rfl lpX2_29 sc_43 rfl ?_
    exact sk_vret dX2_emit_29 rfl h

theorem wX2_any {d : Nat} {τ : sk_T} {K : sk_K} {v1 : Int32} (hd0 : 0 < d)
  (h : sk_C sk_Sc (d - 1) mX2_all [.ref 43, .int v1] τ (fun w t2 => ∃ r2 : Int32, w = some (.int r2) ∧
      sk_G sk_Sc d mX2_any 8 [(0, .ref 43), (1, .int v1), (2, .int r2), (3, .int 0)] [] t2 K
    )) :
  sk_C sk_Sc d mX2_any [.ref 43, .int v1] τ K := by
  refine sk_enter mfX2_any (Nat.le_of_ble_eq_true rfl) ?_
  show sk_G sk_Sc d mX2_any 0 [(0, .ref 43), (1, .int v1)] [] τ K
  refine sk_aload_n 0 1 dX2_any_0 rfl rfl rfl ?_
  refine sk_iload_n 1 2 dX2_any_1 rfl rfl rfl ?_
  refine sk_callVi [.int v1] [] 5 dX2_any_2 rfl mfX2_all lkX2_48 miX2_all msX2_all sc_43 rfl rfl rfl rfl (by simp [Value.category]) hd0 (sk_Cm h ?_)
  rintro w t2 ⟨r2, hw, h⟩
  refine ⟨r2, hw, ?_⟩
  refine sk_istore_n (lv2 := [(2, .int r2), (0, .ref 43), (1, .int v1)]) 6 dX2_any_5 rfl rfl (by decide) rfl ?_
  refine sk_iconst (v := 0) 7 dX2_any_6 rfl (by decide) ?_
  refine sk_istore_n (lv2 := [(3, .int 0), (2, .int r2), (0, .ref 43), (1, .int v1)]) 8 dX2_any_7 rfl rfl (by decide) rfl ?_
  refine sk_perm (lv2 := [(0, .ref 43), (1, .int v1), (2, .int r2), (3, .int 0)]) [2, 3, 1, 0] rfl ?_
  exact h

theorem bX2_any_8 {d : Nat} {τ : sk_T} {K : sk_K} {v1 : Int32} {v2 : Int32} {v3 : Int32} (hd0 : 0 < d)
  (h : ((60 ≤ v3 →
      v2 &&& 1 = v2 ∧
      K (some (.int v2)) τ
    ) ∧
    (¬ 60 ≤ v3 →
      ((v2 = 0 →
        v2 &&& 1 = v2 ∧
        K (some (.int v2)) τ
      ) ∧
      (¬ v2 = 0 →
        sk_C sk_Sc (d - 1) mX2_sign [.ref 43] τ (fun w t19 => ∃ r19 : Int32, w = some (.int r19) ∧
          ((¬ r19 = 124 →
            v2 &&& 1 = v2 ∧
            K (some (.int v2)) t19
          ) ∧
          (r19 = 124 →
            sk_C sk_Sc (d - 1) mX2_all [.ref 43, .int v1] (sk_u t19 43 2 ((t19 43 2) + 1)) (fun w t39 => ∃ r39 : Int32, w = some (.int r39) ∧
              sk_C sk_Sc (d - 1) mX2_emit [.ref 43, .int (-5)] t39 (fun w t46 => w = none ∧
                sk_G sk_Sc d mX2_any 8 [(0, .ref 43), (1, .int v1), (2, .int r39), (3, .int (v3 + 1))] [] t46 K
              )
            )
          ))
        )
      ))
    ))) :
  sk_G sk_Sc d mX2_any 8 [(0, .ref 43), (1, .int v1), (2, .int v2), (3, .int v3)] [] τ K := by
  refine sk_iload_n 3 9 dX2_any_8 rfl rfl rfl ?_
  refine sk_bipush (v := 60) 11 dX2_any_9 rfl (by decide) ?_
  refine sk_icmp_ge 55 14 dX2_any_11 (by decide) rfl (fun hc => ?_) (fun hc => ?_)
  · have h := h.1 hc
    refine sk_iload_n 2 56 dX2_any_55 rfl rfl rfl ?_
    exact sk_iret dX2_any_56 rfl (congrArg Value.int h.1) h.2
  · have h := h.2 hc
    refine sk_iload_n 2 15 dX2_any_14 rfl rfl rfl ?_
    refine sk_if_eq 55 18 dX2_any_15 (by decide) rfl (fun hc => ?_) (fun hc => ?_)
    · have h := h.1 hc
      refine sk_iload_n 2 56 dX2_any_55 rfl rfl rfl ?_
      exact sk_iret dX2_any_56 rfl (congrArg Value.int h.1) h.2
    · have h := h.2 hc
      refine sk_aload_n 0 19 dX2_any_18 rfl rfl rfl ?_
      refine sk_callVi [] [] 22 dX2_any_19 rfl mfX2_sign lkX2_51 miX2_sign msX2_sign sc_43 rfl rfl rfl rfl (by simp [Value.category]) hd0 (sk_Cm h ?_)
      rintro w t19 ⟨r19, hw, h⟩
      refine ⟨r19, hw, ?_⟩
      refine sk_bipush (v := 124) 24 dX2_any_22 rfl (by decide) ?_
      refine sk_icmp_ne 55 27 dX2_any_24 (by decide) rfl (fun hc => ?_) (fun hc => ?_)
      · have h := h.1 hc
        refine sk_iload_n 2 56 dX2_any_55 rfl rfl rfl ?_
        exact sk_iret dX2_any_56 rfl (congrArg Value.int h.1) h.2
      · have h := h.2 hc
        refine sk_aload_n 0 28 dX2_any_27 rfl rfl rfl ?_
        refine sk_dup 29 dX2_any_28 rfl rfl ?_
        refine sk_getI 32 dX2_any_29 rfl lfX2_19 sc_43 rfl ?_
        refine sk_iconst (v := 1) 33 dX2_any_32 rfl (by decide) ?_
        refine sk_iadd 34 dX2_any_33 rfl ?_
        refine sk_putI 37 dX2_any_34 rfl lpX2_19 sc_43 rfl ?_
        refine sk_aload_n 0 38 dX2_any_37 rfl rfl rfl ?_
        refine sk_iload_n 1 39 dX2_any_38 rfl rfl rfl ?_
        refine sk_callVi [.int v1] [] 42 dX2_any_39 rfl mfX2_all lkX2_48 miX2_all msX2_all sc_43 rfl rfl rfl rfl (by simp [Value.category]) hd0 (sk_Cm h ?_)
        rintro w t39 ⟨r39, hw, h⟩
        refine ⟨r39, hw, ?_⟩
        refine sk_istore_n (lv2 := [(2, .int r39), (0, .ref 43), (1, .int v1), (3, .int v3)]) 43 dX2_any_42 rfl rfl (by decide) rfl ?_
        refine sk_aload_n 1 44 dX2_any_43 rfl rfl rfl ?_
        refine sk_bipush (v := (-5)) 46 dX2_any_44 rfl (by decide) ?_
        refine sk_callVv [.int (-5)] [] 49 dX2_any_46 rfl mfX2_emit lkX2_57 miX2_emit msX2_emit sc_43 rfl rfl rfl rfl (by simp [Value.category]) hd0 (sk_Cm h ?_)
        rintro w t46 ⟨hw, h⟩
        refine ⟨hw, ?_⟩
        refine sk_iinc (v := (v3 + 1)) (lv2 := [(3, .int (v3 + 1)), (2, .int r39), (0, .ref 43), (1, .int v1)]) 3 52 dX2_any_49 rfl rfl rfl (by decide) rfl ?_
        refine sk_goto 8 dX2_any_52 (by decide) ?_
        refine sk_perm (lv2 := [(0, .ref 43), (1, .int v1), (2, .int r39), (3, .int (v3 + 1))]) [2, 3, 1, 0] rfl ?_
        exact h

theorem wX2_all {d : Nat} {τ : sk_T} {K : sk_K} {v1 : Int32} (hd0 : 0 < d)
  (h : sk_C sk_Sc (d - 1) mX2_comparison [.ref 43, .int v1] τ (fun w t2 => ∃ r2 : Int32, w = some (.int r2) ∧
      sk_G sk_Sc d mX2_all 8 [(0, .ref 43), (1, .int v1), (2, .int r2), (3, .int 0)] [] t2 K
    )) :
  sk_C sk_Sc d mX2_all [.ref 43, .int v1] τ K := by
  refine sk_enter mfX2_all (Nat.le_of_ble_eq_true rfl) ?_
  show sk_G sk_Sc d mX2_all 0 [(0, .ref 43), (1, .int v1)] [] τ K
  refine sk_aload_n 0 1 dX2_all_0 rfl rfl rfl ?_
  refine sk_iload_n 1 2 dX2_all_1 rfl rfl rfl ?_
  refine sk_callVi [.int v1] [] 5 dX2_all_2 rfl mfX2_comparison lkX2_61 miX2_comparison msX2_comparison sc_43 rfl rfl rfl rfl (by simp [Value.category]) hd0 (sk_Cm h ?_)
  rintro w t2 ⟨r2, hw, h⟩
  refine ⟨r2, hw, ?_⟩
  refine sk_istore_n (lv2 := [(2, .int r2), (0, .ref 43), (1, .int v1)]) 6 dX2_all_5 rfl rfl (by decide) rfl ?_
  refine sk_iconst (v := 0) 7 dX2_all_6 rfl (by decide) ?_
  refine sk_istore_n (lv2 := [(3, .int 0), (2, .int r2), (0, .ref 43), (1, .int v1)]) 8 dX2_all_7 rfl rfl (by decide) rfl ?_
  refine sk_perm (lv2 := [(0, .ref 43), (1, .int v1), (2, .int r2), (3, .int 0)]) [2, 3, 1, 0] rfl ?_
  exact h

theorem bX2_all_8 {d : Nat} {τ : sk_T} {K : sk_K} {v1 : Int32} {v2 : Int32} {v3 : Int32} (hd0 : 0 < d)
  (h : ((60 ≤ v3 →
      v2 &&& 1 = v2 ∧
      K (some (.int v2)) τ
    ) ∧
    (¬ 60 ≤ v3 →
      ((v2 = 0 →
        v2 &&& 1 = v2 ∧
        K (some (.int v2)) τ
      ) ∧
      (¬ v2 = 0 →
        sk_C sk_Sc (d - 1) mX2_sign [.ref 43] τ (fun w t19 => ∃ r19 : Int32, w = some (.int r19) ∧
          ((¬ r19 = 38 →
            v2 &&& 1 = v2 ∧
            K (some (.int v2)) t19
          ) ∧
          (r19 = 38 →
            sk_C sk_Sc (d - 1) mX2_comparison [.ref 43, .int v1] (sk_u t19 43 2 ((t19 43 2) + 1)) (fun w t39 => ∃ r39 : Int32, w = some (.int r39) ∧
              sk_C sk_Sc (d - 1) mX2_emit [.ref 43, .int (-6)] t39 (fun w t46 => w = none ∧
                sk_G sk_Sc d mX2_all 8 [(0, .ref 43), (1, .int v1), (2, .int r39), (3, .int (v3 + 1))] [] t46 K
              )
            )
          ))
        )
      ))
    ))) :
  sk_G sk_Sc d mX2_all 8 [(0, .ref 43), (1, .int v1), (2, .int v2), (3, .int v3)] [] τ K := by
  refine sk_iload_n 3 9 dX2_all_8 rfl rfl rfl ?_
  refine sk_bipush (v := 60) 11 dX2_all_9 rfl (by decide) ?_
  refine sk_icmp_ge 55 14 dX2_all_11 (by decide) rfl (fun hc => ?_) (fun hc => ?_)
  · have h := h.1 hc
    refine sk_iload_n 2 56 dX2_all_55 rfl rfl rfl ?_
    exact sk_iret dX2_all_56 rfl (congrArg Value.int h.1) h.2
  · have h := h.2 hc
    refine sk_iload_n 2 15 dX2_all_14 rfl rfl rfl ?_
    refine sk_if_eq 55 18 dX2_all_15 (by decide) rfl (fun hc => ?_) (fun hc => ?_)
    · have h := h.1 hc
      refine sk_iload_n 2 56 dX2_all_55 rfl rfl rfl ?_
      exact sk_iret dX2_all_56 rfl (congrArg Value.int h.1) h.2
    · have h := h.2 hc
      refine sk_aload_n 0 19 dX2_all_18 rfl rfl rfl ?_
      refine sk_callVi [] [] 22 dX2_all_19 rfl mfX2_sign lkX2_51 miX2_sign msX2_sign sc_43 rfl rfl rfl rfl (by simp [Value.category]) hd0 (sk_Cm h ?_)
      rintro w t19 ⟨r19, hw, h⟩
      refine ⟨r19, hw, ?_⟩
      refine sk_bipush (v := 38) 24 dX2_all_22 rfl (by decide) ?_
      refine sk_icmp_ne 55 27 dX2_all_24 (by decide) rfl (fun hc => ?_) (fun hc => ?_)
      · have h := h.1 hc
        refine sk_iload_n 2 56 dX2_all_55 rfl rfl rfl ?_
        exact sk_iret dX2_all_56 rfl (congrArg Value.int h.1) h.2
      · have h := h.2 hc
        refine sk_aload_n 0 28 dX2_all_27 rfl rfl rfl ?_
        refine sk_dup 29 dX2_all_28 rfl rfl ?_
        refine sk_getI 32 dX2_all_29 rfl lfX2_19 sc_43 rfl ?_
        refine sk_iconst (v := 1) 33 dX2_all_32 rfl (by decide) ?_
        refine sk_iadd 34 dX2_all_33 rfl ?_
        refine sk_putI 37 dX2_all_34 rfl lpX2_19 sc_43 rfl ?_
        refine sk_aload_n 0 38 dX2_all_37 rfl rfl rfl ?_
        refine sk_iload_n 1 39 dX2_all_38 rfl rfl rfl ?_
        refine sk_callVi [.int v1] [] 42 dX2_all_39 rfl mfX2_comparison lkX2_61 miX2_comparison msX2_comparison sc_43 rfl rfl rfl rfl (by simp [Value.category]) hd0 (sk_Cm h ?_)
        rintro w t39 ⟨r39, hw, h⟩
        refine ⟨r39, hw, ?_⟩
        refine sk_istore_n (lv2 := [(2, .int r39), (0, .ref 43), (1, .int v1), (3, .int v3)]) 43 dX2_all_42 rfl rfl (by decide) rfl ?_
        refine sk_aload_n 1 44 dX2_all_43 rfl rfl rfl ?_
        refine sk_bipush (v := (-6)) 46 dX2_all_44 rfl (by decide) ?_
        refine sk_callVv [.int (-6)] [] 49 dX2_all_46 rfl mfX2_emit lkX2_57 miX2_emit msX2_emit sc_43 rfl rfl rfl rfl (by simp [Value.category]) hd0 (sk_Cm h ?_)
        rintro w t46 ⟨hw, h⟩
        refine ⟨hw, ?_⟩
        refine sk_iinc (v := (v3 + 1)) (lv2 := [(3, .int (v3 + 1)), (2, .int r39), (0, .ref 43), (1, .int v1)]) 3 52 dX2_all_49 rfl rfl rfl (by decide) rfl ?_
        refine sk_goto 8 dX2_all_52 (by decide) ?_
        refine sk_perm (lv2 := [(0, .ref 43), (1, .int v1), (2, .int r39), (3, .int (v3 + 1))]) [2, 3, 1, 0] rfl ?_
        exact h

theorem wX2_comparison {d : Nat} {τ : sk_T} {K : sk_K} {v1 : Int32} (hd0 : 0 < d)
  (h : sk_C sk_Sc (d - 1) mX2_sum [.ref 43, .int v1] τ (fun w t2 => ∃ r2 : Int32, w = some (.int r2) ∧
      sk_C sk_Sc (d - 1) mX2_sign [.ref 43] t2 (fun w t7 => ∃ r7 : Int32, w = some (.int r7) ∧
        ((¬ r7 = 60 →
          sk_C sk_Sc (d - 1) mX2_sign [.ref 43] t7 (fun w t21 => ∃ r21 : Int32, w = some (.int r21) ∧
            ((¬ r21 = 61 →
              sk_C sk_Sc (d - 1) mX2_sign [.ref 43] t21 (fun w t35 => ∃ r35 : Int32, w = some (.int r35) ∧
                ((¬ r35 = 62 →
                  ((r2 = 0 →
                    r2 &&& 1 = r2 ∧
                    K (some (.int r2)) t35
                  ) ∧
                  (¬ r2 = 0 →
                    (((0 : Int32) = 0 →
                      r2 &&& 1 = r2 ∧
                      K (some (.int r2)) t35
                    ) ∧
                    (¬ (0 : Int32) = 0 →
                      sk_C sk_Sc (d - 1) mX2_sum [.ref 43, .int v1] (sk_u t35 43 2 ((t35 43 2) + 1)) (fun w t70 => ∃ r70 : Int32, w = some (.int r70) ∧
                        sk_C sk_Sc (d - 1) mX2_emit [.ref 43, .int 0] t70 (fun w t76 => w = none ∧
                          r70 &&& 1 = r70 ∧
                          K (some (.int r70)) t76
                        )
                      )
                    ))
                  ))
                ) ∧
                (r35 = 62 →
                  ((r2 = 0 →
                    r2 &&& 1 = r2 ∧
                    K (some (.int r2)) t35
                  ) ∧
                  (¬ r2 = 0 →
                    (((-9 : Int32) = 0 →
                      r2 &&& 1 = r2 ∧
                      K (some (.int r2)) t35
                    ) ∧
                    (¬ (-9 : Int32) = 0 →
                      sk_C sk_Sc (d - 1) mX2_sum [.ref 43, .int v1] (sk_u t35 43 2 ((t35 43 2) + 1)) (fun w t70 => ∃ r70 : Int32, w = some (.int r70) ∧
                        sk_C sk_Sc (d - 1) mX2_emit [.ref 43, .int (-9)] t70 (fun w t76 => w = none ∧
                          r70 &&& 1 = r70 ∧
                          K (some (.int r70)) t76
                        )
                      )
                    ))
                  ))
                ))
              )
            ) ∧
            (r21 = 61 →
              ((r2 = 0 →
                r2 &&& 1 = r2 ∧
                K (some (.int r2)) t21
              ) ∧
              (¬ r2 = 0 →
                (((-8 : Int32) = 0 →
                  r2 &&& 1 = r2 ∧
                  K (some (.int r2)) t21
                ) ∧
                (¬ (-8 : Int32) = 0 →
                  sk_C sk_Sc (d - 1) mX2_sum [.ref 43, .int v1] (sk_u t21 43 2 ((t21 43 2) + 1)) (fun w t70 => ∃ r70 : Int32, w = some (.int r70) ∧
                    sk_C sk_Sc (d - 1) mX2_emit [.ref 43, .int (-8)] t70 (fun w t76 => w = none ∧
                      r70 &&& 1 = r70 ∧
                      K (some (.int r70)) t76
                    )
                  )
                ))
              ))
            ))
          )
        ) ∧
        (r7 = 60 →
          ((r2 = 0 →
            r2 &&& 1 = r2 ∧
            K (some (.int r2)) t7
          ) ∧
          (¬ r2 = 0 →
            (((-7 : Int32) = 0 →
              r2 &&& 1 = r2 ∧
              K (some (.int r2)) t7
            ) ∧
            (¬ (-7 : Int32) = 0 →
              sk_C sk_Sc (d - 1) mX2_sum [.ref 43, .int v1] (sk_u t7 43 2 ((t7 43 2) + 1)) (fun w t70 => ∃ r70 : Int32, w = some (.int r70) ∧
                sk_C sk_Sc (d - 1) mX2_emit [.ref 43, .int (-7)] t70 (fun w t76 => w = none ∧
                  r70 &&& 1 = r70 ∧
                  K (some (.int r70)) t76
                )
              )
            ))
          ))
        ))
      )
    )) :
  sk_C sk_Sc d mX2_comparison [.ref 43, .int v1] τ K := by
  refine sk_enter mfX2_comparison (Nat.le_of_ble_eq_true rfl) ?_
  show sk_G sk_Sc d mX2_comparison 0 [(0, .ref 43), (1, .int v1)] [] τ K
  refine sk_aload_n 0 1 dX2_comparison_0 rfl rfl rfl ?_
  refine sk_iload_n 1 2 dX2_comparison_1 rfl rfl rfl ?_
  refine sk_callVi [.int v1] [] 5 dX2_comparison_2 rfl mfX2_sum lkX2_64 miX2_sum msX2_sum sc_43 rfl rfl rfl rfl (by simp [Value.category]) hd0 (sk_Cm h ?_)
  rintro w t2 ⟨r2, hw, h⟩
  refine ⟨r2, hw, ?_⟩
  refine sk_istore_n (lv2 := [(2, .int r2), (0, .ref 43), (1, .int v1)]) 6 dX2_comparison_5 rfl rfl (by decide) rfl ?_
  refine sk_aload_n 1 7 dX2_comparison_6 rfl rfl rfl ?_
  refine sk_callVi [] [] 10 dX2_comparison_7 rfl mfX2_sign lkX2_51 miX2_sign msX2_sign sc_43 rfl rfl rfl rfl (by simp [Value.category]) hd0 (sk_Cm h ?_)
  rintro w t7 ⟨r7, hw, h⟩
  refine ⟨r7, hw, ?_⟩
  refine sk_bipush (v := 60) 12 dX2_comparison_10 rfl (by decide) ?_
  refine sk_icmp_ne 20 15 dX2_comparison_12 (by decide) rfl (fun hc => ?_) (fun hc => ?_)
  · have h := h.1 hc
    refine sk_aload_n 1 21 dX2_comparison_20 rfl rfl rfl ?_
    refine sk_callVi [] [] 24 dX2_comparison_21 rfl mfX2_sign lkX2_51 miX2_sign msX2_sign sc_43 rfl rfl rfl rfl (by simp [Value.category]) hd0 (sk_Cm h ?_)
    rintro w t21 ⟨r21, hw, h⟩
    refine ⟨r21, hw, ?_⟩
    refine sk_bipush (v := 61) 26 dX2_comparison_24 rfl (by decide) ?_
    refine sk_icmp_ne 34 29 dX2_comparison_26 (by decide) rfl (fun hc => ?_) (fun hc => ?_)
    · have h := h.1 hc
      refine sk_aload_n 1 35 dX2_comparison_34 rfl rfl rfl ?_
      refine sk_callVi [] [] 38 dX2_comparison_35 rfl mfX2_sign lkX2_51 miX2_sign msX2_sign sc_43 rfl rfl rfl rfl (by simp [Value.category]) hd0 (sk_Cm h ?_)
      rintro w t35 ⟨r35, hw, h⟩
      refine ⟨r35, hw, ?_⟩
      refine sk_bipush (v := 62) 40 dX2_comparison_38 rfl (by decide) ?_
      refine sk_icmp_ne 48 43 dX2_comparison_40 (by decide) rfl (fun hc => ?_) (fun hc => ?_)
      · have h := h.1 hc
        refine sk_iconst (v := 0) 49 dX2_comparison_48 rfl (by decide) ?_
        refine sk_istore_n (lv2 := [(3, .int 0), (2, .int r2), (0, .ref 43), (1, .int v1)]) 50 dX2_comparison_49 rfl rfl (by decide) rfl ?_
        refine sk_iload_n 1 51 dX2_comparison_50 rfl rfl rfl ?_
        refine sk_if_eq 79 54 dX2_comparison_51 (by decide) rfl (fun hc => ?_) (fun hc => ?_)
        · have h := h.1 hc
          refine sk_iload_n 1 80 dX2_comparison_79 rfl rfl rfl ?_
          exact sk_iret dX2_comparison_80 rfl (congrArg Value.int h.1) h.2
        · have h := h.2 hc
          refine sk_iload_n 0 55 dX2_comparison_54 rfl rfl rfl ?_
          refine sk_if_eq 79 58 dX2_comparison_55 (by decide) rfl (fun hc => ?_) (fun hc => ?_)
          · have h := h.1 hc
            refine sk_iload_n 1 80 dX2_comparison_79 rfl rfl rfl ?_
            exact sk_iret dX2_comparison_80 rfl (congrArg Value.int h.1) h.2
          · have h := h.2 hc
            refine sk_aload_n 2 59 dX2_comparison_58 rfl rfl rfl ?_
            refine sk_dup 60 dX2_comparison_59 rfl rfl ?_
            refine sk_getI 63 dX2_comparison_60 rfl lfX2_19 sc_43 rfl ?_
            refine sk_iconst (v := 1) 64 dX2_comparison_63 rfl (by decide) ?_
            refine sk_iadd 65 dX2_comparison_64 rfl ?_
            refine sk_putI 68 dX2_comparison_65 rfl lpX2_19 sc_43 rfl ?_
            refine sk_aload_n 2 69 dX2_comparison_68 rfl rfl rfl ?_
            refine sk_iload_n 3 70 dX2_comparison_69 rfl rfl rfl ?_
            refine sk_callVi [.int v1] [] 73 dX2_comparison_70 rfl mfX2_sum lkX2_64 miX2_sum msX2_sum sc_43 rfl rfl rfl rfl (by simp [Value.category]) hd0 (sk_Cm h ?_)
            rintro w t70 ⟨r70, hw, h⟩
            refine ⟨r70, hw, ?_⟩
            refine sk_istore_n (lv2 := [(2, .int r70), (3, .int 0), (0, .ref 43), (1, .int v1)]) 74 dX2_comparison_73 rfl rfl (by decide) rfl ?_
            refine sk_aload_n 2 75 dX2_comparison_74 rfl rfl rfl ?_
            refine sk_iload_n 1 76 dX2_comparison_75 rfl rfl rfl ?_
            refine sk_callVv [.int 0] [] 79 dX2_comparison_76 rfl mfX2_emit lkX2_57 miX2_emit msX2_emit sc_43 rfl rfl rfl rfl (by simp [Value.category]) hd0 (sk_Cm h ?_)
            rintro w t76 ⟨hw, h⟩
            refine ⟨hw, ?_⟩
            refine sk_iload_n 0 80 dX2_comparison_79 rfl rfl rfl ?_
            exact sk_iret dX2_comparison_80 rfl (congrArg Value.int h.1) h.2
      · have h := h.2 hc
        refine sk_bipush (v := (-9)) 45 dX2_comparison_43 rfl (by decide) ?_
        refine sk_goto 49 dX2_comparison_45 (by decide) ?_
        refine sk_istore_n (lv2 := [(3, .int (-9)), (2, .int r2), (0, .ref 43), (1, .int v1)]) 50 dX2_comparison_49 rfl rfl (by decide) rfl ?_
        refine sk_iload_n 1 51 dX2_comparison_50 rfl rfl rfl ?_
        refine sk_if_eq 79 54 dX2_comparison_51 (by decide) rfl (fun hc => ?_) (fun hc => ?_)
        · have h := h.1 hc
          refine sk_iload_n 1 80 dX2_comparison_79 rfl rfl rfl ?_
          exact sk_iret dX2_comparison_80 rfl (congrArg Value.int h.1) h.2
        · have h := h.2 hc
          refine sk_iload_n 0 55 dX2_comparison_54 rfl rfl rfl ?_
          refine sk_if_eq 79 58 dX2_comparison_55 (by decide) rfl (fun hc => ?_) (fun hc => ?_)
          · have h := h.1 hc
            refine sk_iload_n 1 80 dX2_comparison_79 rfl rfl rfl ?_
            exact sk_iret dX2_comparison_80 rfl (congrArg Value.int h.1) h.2
          · have h := h.2 hc
            refine sk_aload_n 2 59 dX2_comparison_58 rfl rfl rfl ?_
            refine sk_dup 60 dX2_comparison_59 rfl rfl ?_
            refine sk_getI 63 dX2_comparison_60 rfl lfX2_19 sc_43 rfl ?_
            refine sk_iconst (v := 1) 64 dX2_comparison_63 rfl (by decide) ?_
            refine sk_iadd 65 dX2_comparison_64 rfl ?_
            refine sk_putI 68 dX2_comparison_65 rfl lpX2_19 sc_43 rfl ?_
            refine sk_aload_n 2 69 dX2_comparison_68 rfl rfl rfl ?_
            refine sk_iload_n 3 70 dX2_comparison_69 rfl rfl rfl ?_
            refine sk_callVi [.int v1] [] 73 dX2_comparison_70 rfl mfX2_sum lkX2_64 miX2_sum msX2_sum sc_43 rfl rfl rfl rfl (by simp [Value.category]) hd0 (sk_Cm h ?_)
            rintro w t70 ⟨r70, hw, h⟩
            refine ⟨r70, hw, ?_⟩
            refine sk_istore_n (lv2 := [(2, .int r70), (3, .int (-9)), (0, .ref 43), (1, .int v1)]) 74 dX2_comparison_73 rfl rfl (by decide) rfl ?_
            refine sk_aload_n 2 75 dX2_comparison_74 rfl rfl rfl ?_
            refine sk_iload_n 1 76 dX2_comparison_75 rfl rfl rfl ?_
            refine sk_callVv [.int (-9)] [] 79 dX2_comparison_76 rfl mfX2_emit lkX2_57 miX2_emit msX2_emit sc_43 rfl rfl rfl rfl (by simp [Value.category]) hd0 (sk_Cm h ?_)
            rintro w t76 ⟨hw, h⟩
            refine ⟨hw, ?_⟩
            refine sk_iload_n 0 80 dX2_comparison_79 rfl rfl rfl ?_
            exact sk_iret dX2_comparison_80 rfl (congrArg Value.int h.1) h.2
    · have h := h.2 hc
      refine sk_bipush (v := (-8)) 31 dX2_comparison_29 rfl (by decide) ?_
      refine sk_goto 49 dX2_comparison_31 (by decide) ?_
      refine sk_istore_n (lv2 := [(3, .int (-8)), (2, .int r2), (0, .ref 43), (1, .int v1)]) 50 dX2_comparison_49 rfl rfl (by decide) rfl ?_
      refine sk_iload_n 1 51 dX2_comparison_50 rfl rfl rfl ?_
      refine sk_if_eq 79 54 dX2_comparison_51 (by decide) rfl (fun hc => ?_) (fun hc => ?_)
      · have h := h.1 hc
        refine sk_iload_n 1 80 dX2_comparison_79 rfl rfl rfl ?_
        exact sk_iret dX2_comparison_80 rfl (congrArg Value.int h.1) h.2
      · have h := h.2 hc
        refine sk_iload_n 0 55 dX2_comparison_54 rfl rfl rfl ?_
        refine sk_if_eq 79 58 dX2_comparison_55 (by decide) rfl (fun hc => ?_) (fun hc => ?_)
        · have h := h.1 hc
          refine sk_iload_n 1 80 dX2_comparison_79 rfl rfl rfl ?_
          exact sk_iret dX2_comparison_80 rfl (congrArg Value.int h.1) h.2
        · have h := h.2 hc
          refine sk_aload_n 2 59 dX2_comparison_58 rfl rfl rfl ?_
          refine sk_dup 60 dX2_comparison_59 rfl rfl ?_
          refine sk_getI 63 dX2_comparison_60 rfl lfX2_19 sc_43 rfl ?_
          refine sk_iconst (v := 1) 64 dX2_comparison_63 rfl (by decide) ?_
          refine sk_iadd 65 dX2_comparison_64 rfl ?_
          refine sk_putI 68 dX2_comparison_65 rfl lpX2_19 sc_43 rfl ?_
          refine sk_aload_n 2 69 dX2_comparison_68 rfl rfl rfl ?_
          refine sk_iload_n 3 70 dX2_comparison_69 rfl rfl rfl ?_
          refine sk_callVi [.int v1] [] 73 dX2_comparison_70 rfl mfX2_sum lkX2_64 miX2_sum msX2_sum sc_43 rfl rfl rfl rfl (by simp [Value.category]) hd0 (sk_Cm h ?_)
          rintro w t70 ⟨r70, hw, h⟩
          refine ⟨r70, hw, ?_⟩
          refine sk_istore_n (lv2 := [(2, .int r70), (3, .int (-8)), (0, .ref 43), (1, .int v1)]) 74 dX2_comparison_73 rfl rfl (by decide) rfl ?_
          refine sk_aload_n 2 75 dX2_comparison_74 rfl rfl rfl ?_
          refine sk_iload_n 1 76 dX2_comparison_75 rfl rfl rfl ?_
          refine sk_callVv [.int (-8)] [] 79 dX2_comparison_76 rfl mfX2_emit lkX2_57 miX2_emit msX2_emit sc_43 rfl rfl rfl rfl (by simp [Value.category]) hd0 (sk_Cm h ?_)
          rintro w t76 ⟨hw, h⟩
          refine ⟨hw, ?_⟩
          refine sk_iload_n 0 80 dX2_comparison_79 rfl rfl rfl ?_
          exact sk_iret dX2_comparison_80 rfl (congrArg Value.int h.1) h.2
  · have h := h.2 hc
    refine sk_bipush (v := (-7)) 17 dX2_comparison_15 rfl (by decide) ?_
    refine sk_goto 49 dX2_comparison_17 (by decide) ?_
    refine sk_istore_n (lv2 := [(3, .int (-7)), (2, .int r2), (0, .ref 43), (1, .int v1)]) 50 dX2_comparison_49 rfl rfl (by decide) rfl ?_
    refine sk_iload_n 1 51 dX2_comparison_50 rfl rfl rfl ?_
    refine sk_if_eq 79 54 dX2_comparison_51 (by decide) rfl (fun hc => ?_) (fun hc => ?_)
    · have h := h.1 hc
      refine sk_iload_n 1 80 dX2_comparison_79 rfl rfl rfl ?_
      exact sk_iret dX2_comparison_80 rfl (congrArg Value.int h.1) h.2
    · have h := h.2 hc
      refine sk_iload_n 0 55 dX2_comparison_54 rfl rfl rfl ?_
      refine sk_if_eq 79 58 dX2_comparison_55 (by decide) rfl (fun hc => ?_) (fun hc => ?_)
      · have h := h.1 hc
        refine sk_iload_n 1 80 dX2_comparison_79 rfl rfl rfl ?_
        exact sk_iret dX2_comparison_80 rfl (congrArg Value.int h.1) h.2
      · have h := h.2 hc
        refine sk_aload_n 2 59 dX2_comparison_58 rfl rfl rfl ?_
        refine sk_dup 60 dX2_comparison_59 rfl rfl ?_
        refine sk_getI 63 dX2_comparison_60 rfl lfX2_19 sc_43 rfl ?_
        refine sk_iconst (v := 1) 64 dX2_comparison_63 rfl (by decide) ?_
        refine sk_iadd 65 dX2_comparison_64 rfl ?_
        refine sk_putI 68 dX2_comparison_65 rfl lpX2_19 sc_43 rfl ?_
        refine sk_aload_n 2 69 dX2_comparison_68 rfl rfl rfl ?_
        refine sk_iload_n 3 70 dX2_comparison_69 rfl rfl rfl ?_
        refine sk_callVi [.int v1] [] 73 dX2_comparison_70 rfl mfX2_sum lkX2_64 miX2_sum msX2_sum sc_43 rfl rfl rfl rfl (by simp [Value.category]) hd0 (sk_Cm h ?_)
        rintro w t70 ⟨r70, hw, h⟩
        refine ⟨r70, hw, ?_⟩
        refine sk_istore_n (lv2 := [(2, .int r70), (3, .int (-7)), (0, .ref 43), (1, .int v1)]) 74 dX2_comparison_73 rfl rfl (by decide) rfl ?_
        refine sk_aload_n 2 75 dX2_comparison_74 rfl rfl rfl ?_
        refine sk_iload_n 1 76 dX2_comparison_75 rfl rfl rfl ?_
        refine sk_callVv [.int (-7)] [] 79 dX2_comparison_76 rfl mfX2_emit lkX2_57 miX2_emit msX2_emit sc_43 rfl rfl rfl rfl (by simp [Value.category]) hd0 (sk_Cm h ?_)
        rintro w t76 ⟨hw, h⟩
        refine ⟨hw, ?_⟩
        refine sk_iload_n 0 80 dX2_comparison_79 rfl rfl rfl ?_
        exact sk_iret dX2_comparison_80 rfl (congrArg Value.int h.1) h.2

theorem wX2_sum {d : Nat} {τ : sk_T} {K : sk_K} {v1 : Int32} (hd0 : 0 < d)
  (h : sk_C sk_Sc (d - 1) mX2_product [.ref 43, .int v1] τ (fun w t2 => ∃ r2 : Int32, w = some (.int r2) ∧
      sk_G sk_Sc d mX2_sum 8 [(0, .ref 43), (1, .int v1), (2, .int r2), (3, .int 0)] [] t2 K
    )) :
  sk_C sk_Sc d mX2_sum [.ref 43, .int v1] τ K := by
  refine sk_enter mfX2_sum (Nat.le_of_ble_eq_true rfl) ?_
  show sk_G sk_Sc d mX2_sum 0 [(0, .ref 43), (1, .int v1)] [] τ K
  refine sk_aload_n 0 1 dX2_sum_0 rfl rfl rfl ?_
  refine sk_iload_n 1 2 dX2_sum_1 rfl rfl rfl ?_
  refine sk_callVi [.int v1] [] 5 dX2_sum_2 rfl mfX2_product lkX2_67 miX2_product msX2_product sc_43 rfl rfl rfl rfl (by simp [Value.category]) hd0 (sk_Cm h ?_)
  rintro w t2 ⟨r2, hw, h⟩
  refine ⟨r2, hw, ?_⟩
  refine sk_istore_n (lv2 := [(2, .int r2), (0, .ref 43), (1, .int v1)]) 6 dX2_sum_5 rfl rfl (by decide) rfl ?_
  refine sk_iconst (v := 0) 7 dX2_sum_6 rfl (by decide) ?_
  refine sk_istore_n (lv2 := [(3, .int 0), (2, .int r2), (0, .ref 43), (1, .int v1)]) 8 dX2_sum_7 rfl rfl (by decide) rfl ?_
  refine sk_perm (lv2 := [(0, .ref 43), (1, .int v1), (2, .int r2), (3, .int 0)]) [2, 3, 1, 0] rfl ?_
  exact h

theorem bX2_sum_8 {d : Nat} {τ : sk_T} {K : sk_K} {v1 : Int32} {v2 : Int32} {v3 : Int32} (hd0 : 0 < d)
  (h : ((60 ≤ v3 →
      v2 &&& 1 = v2 ∧
      K (some (.int v2)) τ
    ) ∧
    (¬ 60 ≤ v3 →
      ((v2 = 0 →
        v2 &&& 1 = v2 ∧
        K (some (.int v2)) τ
      ) ∧
      (¬ v2 = 0 →
        sk_C sk_Sc (d - 1) mX2_sign [.ref 43] τ (fun w t19 => ∃ r19 : Int32, w = some (.int r19) ∧
          ((r19 = 43 →
            sk_C sk_Sc (d - 1) mX2_sign [.ref 43] t19 (fun w t37 => ∃ r37 : Int32, w = some (.int r37) ∧
              ((¬ r37 = 43 →
                sk_C sk_Sc (d - 1) mX2_product [.ref 43, .int v1] (sk_u t37 43 2 ((t37 43 2) + 1)) (fun w t66 => ∃ r66 : Int32, w = some (.int r66) ∧
                  sk_C sk_Sc (d - 1) mX2_emit [.ref 43, .int (-11)] t66 (fun w t73 => w = none ∧
                    sk_G sk_Sc d mX2_sum 8 [(0, .ref 43), (1, .int v1), (2, .int r66), (3, .int (v3 + 1))] [] t73 K
                  )
                )
              ) ∧
              (r37 = 43 →
                sk_C sk_Sc (d - 1) mX2_product [.ref 43, .int v1] (sk_u t37 43 2 ((t37 43 2) + 1)) (fun w t66 => ∃ r66 : Int32, w = some (.int r66) ∧
                  sk_C sk_Sc (d - 1) mX2_emit [.ref 43, .int (-10)] t66 (fun w t73 => w = none ∧
                    sk_G sk_Sc d mX2_sum 8 [(0, .ref 43), (1, .int v1), (2, .int r66), (3, .int (v3 + 1))] [] t73 K
                  )
                )
              ))
            )
          ) ∧
          (¬ r19 = 43 →
            sk_C sk_Sc (d - 1) mX2_sign [.ref 43] t19 (fun w t28 => ∃ r28 : Int32, w = some (.int r28) ∧
              ((¬ r28 = 45 →
                v2 &&& 1 = v2 ∧
                K (some (.int v2)) t28
              ) ∧
              (r28 = 45 →
                sk_C sk_Sc (d - 1) mX2_sign [.ref 43] t28 (fun w t37 => ∃ r37 : Int32, w = some (.int r37) ∧
                  ((¬ r37 = 43 →
                    sk_C sk_Sc (d - 1) mX2_product [.ref 43, .int v1] (sk_u t37 43 2 ((t37 43 2) + 1)) (fun w t66 => ∃ r66 : Int32, w = some (.int r66) ∧
                      sk_C sk_Sc (d - 1) mX2_emit [.ref 43, .int (-11)] t66 (fun w t73 => w = none ∧
                        sk_G sk_Sc d mX2_sum 8 [(0, .ref 43), (1, .int v1), (2, .int r66), (3, .int (v3 + 1))] [] t73 K
                      )
                    )
                  ) ∧
                  (r37 = 43 →
                    sk_C sk_Sc (d - 1) mX2_product [.ref 43, .int v1] (sk_u t37 43 2 ((t37 43 2) + 1)) (fun w t66 => ∃ r66 : Int32, w = some (.int r66) ∧
                      sk_C sk_Sc (d - 1) mX2_emit [.ref 43, .int (-10)] t66 (fun w t73 => w = none ∧
                        sk_G sk_Sc d mX2_sum 8 [(0, .ref 43), (1, .int v1), (2, .int r66), (3, .int (v3 + 1))] [] t73 K
                      )
                    )
                  ))
                )
              ))
            )
          ))
        )
      ))
    ))) :
  sk_G sk_Sc d mX2_sum 8 [(0, .ref 43), (1, .int v1), (2, .int v2), (3, .int v3)] [] τ K := by
  refine sk_iload_n 3 9 dX2_sum_8 rfl rfl rfl ?_
  refine sk_bipush (v := 60) 11 dX2_sum_9 rfl (by decide) ?_
  refine sk_icmp_ge 82 14 dX2_sum_11 (by decide) rfl (fun hc => ?_) (fun hc => ?_)
  · have h := h.1 hc
    refine sk_iload_n 2 83 dX2_sum_82 rfl rfl rfl ?_
    exact sk_iret dX2_sum_83 rfl (congrArg Value.int h.1) h.2
  · have h := h.2 hc
    refine sk_iload_n 2 15 dX2_sum_14 rfl rfl rfl ?_
    refine sk_if_eq 82 18 dX2_sum_15 (by decide) rfl (fun hc => ?_) (fun hc => ?_)
    · have h := h.1 hc
      refine sk_iload_n 2 83 dX2_sum_82 rfl rfl rfl ?_
      exact sk_iret dX2_sum_83 rfl (congrArg Value.int h.1) h.2
    · have h := h.2 hc
      refine sk_aload_n 0 19 dX2_sum_18 rfl rfl rfl ?_
      refine sk_callVi [] [] 22 dX2_sum_19 rfl mfX2_sign lkX2_51 miX2_sign msX2_sign sc_43 rfl rfl rfl rfl (by simp [Value.category]) hd0 (sk_Cm h ?_)
      rintro w t19 ⟨r19, hw, h⟩
      refine ⟨r19, hw, ?_⟩
      refine sk_bipush (v := 43) 24 dX2_sum_22 rfl (by decide) ?_
      refine sk_icmp_eq 36 27 dX2_sum_24 (by decide) rfl (fun hc => ?_) (fun hc => ?_)
      · have h := h.1 hc
        refine sk_aload_n 0 37 dX2_sum_36 rfl rfl rfl ?_
        refine sk_callVi [] [] 40 dX2_sum_37 rfl mfX2_sign lkX2_51 miX2_sign msX2_sign sc_43 rfl rfl rfl rfl (by simp [Value.category]) hd0 (sk_Cm h ?_)
        rintro w t37 ⟨r37, hw, h⟩
        refine ⟨r37, hw, ?_⟩
        refine sk_bipush (v := 43) 42 dX2_sum_40 rfl (by decide) ?_
        refine sk_icmp_ne 50 45 dX2_sum_42 (by decide) rfl (fun hc => ?_) (fun hc => ?_)
        · have h := h.1 hc
          refine sk_bipush (v := (-11)) 52 dX2_sum_50 rfl (by decide) ?_
          refine sk_istore (lv2 := [(4, .int (-11)), (0, .ref 43), (1, .int v1), (2, .int v2), (3, .int v3)]) 54 dX2_sum_52 rfl (by decide) rfl ?_
          refine sk_aload_n 1 55 dX2_sum_54 rfl rfl rfl ?_
          refine sk_dup 56 dX2_sum_55 rfl rfl ?_
          refine sk_getI 59 dX2_sum_56 rfl lfX2_19 sc_43 rfl ?_
          refine sk_iconst (v := 1) 60 dX2_sum_59 rfl (by decide) ?_
          refine sk_iadd 61 dX2_sum_60 rfl ?_
          refine sk_putI 64 dX2_sum_61 rfl lpX2_19 sc_43 rfl ?_
          refine sk_aload_n 1 65 dX2_sum_64 rfl rfl rfl ?_
          refine sk_iload_n 2 66 dX2_sum_65 rfl rfl rfl ?_
          refine sk_callVi [.int v1] [] 69 dX2_sum_66 rfl mfX2_product lkX2_67 miX2_product msX2_product sc_43 rfl rfl rfl rfl (by simp [Value.category]) hd0 (sk_Cm h ?_)
          rintro w t66 ⟨r66, hw, h⟩
          refine ⟨r66, hw, ?_⟩
          refine sk_istore_n (lv2 := [(2, .int r66), (4, .int (-11)), (0, .ref 43), (1, .int v1), (3, .int v3)]) 70 dX2_sum_69 rfl rfl (by decide) rfl ?_
          refine sk_aload_n 2 71 dX2_sum_70 rfl rfl rfl ?_
          refine sk_iload 1 73 dX2_sum_71 rfl rfl ?_
          refine sk_callVv [.int (-11)] [] 76 dX2_sum_73 rfl mfX2_emit lkX2_57 miX2_emit msX2_emit sc_43 rfl rfl rfl rfl (by simp [Value.category]) hd0 (sk_Cm h ?_)
          rintro w t73 ⟨hw, h⟩
          refine ⟨hw, ?_⟩
          refine sk_iinc (v := (v3 + 1)) (lv2 := [(3, .int (v3 + 1)), (2, .int r66), (4, .int (-11)), (0, .ref 43), (1, .int v1)]) 4 79 dX2_sum_76 rfl rfl rfl (by decide) rfl ?_
          refine sk_goto 8 dX2_sum_79 (by decide) ?_
          refine sk_perm (lv2 := [(0, .ref 43), (1, .int v1), (2, .int r66), (3, .int (v3 + 1))]) [3, 4, 1, 0] rfl ?_
          exact h
        · have h := h.2 hc
          refine sk_bipush (v := (-10)) 47 dX2_sum_45 rfl (by decide) ?_
          refine sk_goto 52 dX2_sum_47 (by decide) ?_
          refine sk_istore (lv2 := [(4, .int (-10)), (0, .ref 43), (1, .int v1), (2, .int v2), (3, .int v3)]) 54 dX2_sum_52 rfl (by decide) rfl ?_
          refine sk_aload_n 1 55 dX2_sum_54 rfl rfl rfl ?_
          refine sk_dup 56 dX2_sum_55 rfl rfl ?_
          refine sk_getI 59 dX2_sum_56 rfl lfX2_19 sc_43 rfl ?_
          refine sk_iconst (v := 1) 60 dX2_sum_59 rfl (by decide) ?_
          refine sk_iadd 61 dX2_sum_60 rfl ?_
          refine sk_putI 64 dX2_sum_61 rfl lpX2_19 sc_43 rfl ?_
          refine sk_aload_n 1 65 dX2_sum_64 rfl rfl rfl ?_
          refine sk_iload_n 2 66 dX2_sum_65 rfl rfl rfl ?_
          refine sk_callVi [.int v1] [] 69 dX2_sum_66 rfl mfX2_product lkX2_67 miX2_product msX2_product sc_43 rfl rfl rfl rfl (by simp [Value.category]) hd0 (sk_Cm h ?_)
          rintro w t66 ⟨r66, hw, h⟩
          refine ⟨r66, hw, ?_⟩
          refine sk_istore_n (lv2 := [(2, .int r66), (4, .int (-10)), (0, .ref 43), (1, .int v1), (3, .int v3)]) 70 dX2_sum_69 rfl rfl (by decide) rfl ?_
          refine sk_aload_n 2 71 dX2_sum_70 rfl rfl rfl ?_
          refine sk_iload 1 73 dX2_sum_71 rfl rfl ?_
          refine sk_callVv [.int (-10)] [] 76 dX2_sum_73 rfl mfX2_emit lkX2_57 miX2_emit msX2_emit sc_43 rfl rfl rfl rfl (by simp [Value.category]) hd0 (sk_Cm h ?_)
          rintro w t73 ⟨hw, h⟩
          refine ⟨hw, ?_⟩
          refine sk_iinc (v := (v3 + 1)) (lv2 := [(3, .int (v3 + 1)), (2, .int r66), (4, .int (-10)), (0, .ref 43), (1, .int v1)]) 4 79 dX2_sum_76 rfl rfl rfl (by decide) rfl ?_
          refine sk_goto 8 dX2_sum_79 (by decide) ?_
          refine sk_perm (lv2 := [(0, .ref 43), (1, .int v1), (2, .int r66), (3, .int (v3 + 1))]) [3, 4, 1, 0] rfl ?_
          exact h
      · have h := h.2 hc
        refine sk_aload_n 0 28 dX2_sum_27 rfl rfl rfl ?_
        refine sk_callVi [] [] 31 dX2_sum_28 rfl mfX2_sign lkX2_51 miX2_sign msX2_sign sc_43 rfl rfl rfl rfl (by simp [Value.category]) hd0 (sk_Cm h ?_)
        rintro w t28 ⟨r28, hw, h⟩
        refine ⟨r28, hw, ?_⟩
        refine sk_bipush (v := 45) 33 dX2_sum_31 rfl (by decide) ?_
        refine sk_icmp_ne 82 36 dX2_sum_33 (by decide) rfl (fun hc => ?_) (fun hc => ?_)
        · have h := h.1 hc
          refine sk_iload_n 2 83 dX2_sum_82 rfl rfl rfl ?_
          exact sk_iret dX2_sum_83 rfl (congrArg Value.int h.1) h.2
        · have h := h.2 hc
          refine sk_aload_n 0 37 dX2_sum_36 rfl rfl rfl ?_
          refine sk_callVi [] [] 40 dX2_sum_37 rfl mfX2_sign lkX2_51 miX2_sign msX2_sign sc_43 rfl rfl rfl rfl (by simp [Value.category]) hd0 (sk_Cm h ?_)
          rintro w t37 ⟨r37, hw, h⟩
          refine ⟨r37, hw, ?_⟩
          refine sk_bipush (v := 43) 42 dX2_sum_40 rfl (by decide) ?_
          refine sk_icmp_ne 50 45 dX2_sum_42 (by decide) rfl (fun hc => ?_) (fun hc => ?_)
          · have h := h.1 hc
            refine sk_bipush (v := (-11)) 52 dX2_sum_50 rfl (by decide) ?_
            refine sk_istore (lv2 := [(4, .int (-11)), (0, .ref 43), (1, .int v1), (2, .int v2), (3, .int v3)]) 54 dX2_sum_52 rfl (by decide) rfl ?_
            refine sk_aload_n 1 55 dX2_sum_54 rfl rfl rfl ?_
            refine sk_dup 56 dX2_sum_55 rfl rfl ?_
            refine sk_getI 59 dX2_sum_56 rfl lfX2_19 sc_43 rfl ?_
            refine sk_iconst (v := 1) 60 dX2_sum_59 rfl (by decide) ?_
            refine sk_iadd 61 dX2_sum_60 rfl ?_
            refine sk_putI 64 dX2_sum_61 rfl lpX2_19 sc_43 rfl ?_
            refine sk_aload_n 1 65 dX2_sum_64 rfl rfl rfl ?_
            refine sk_iload_n 2 66 dX2_sum_65 rfl rfl rfl ?_
            refine sk_callVi [.int v1] [] 69 dX2_sum_66 rfl mfX2_product lkX2_67 miX2_product msX2_product sc_43 rfl rfl rfl rfl (by simp [Value.category]) hd0 (sk_Cm h ?_)
            rintro w t66 ⟨r66, hw, h⟩
            refine ⟨r66, hw, ?_⟩
            refine sk_istore_n (lv2 := [(2, .int r66), (4, .int (-11)), (0, .ref 43), (1, .int v1), (3, .int v3)]) 70 dX2_sum_69 rfl rfl (by decide) rfl ?_
            refine sk_aload_n 2 71 dX2_sum_70 rfl rfl rfl ?_
            refine sk_iload 1 73 dX2_sum_71 rfl rfl ?_
            refine sk_callVv [.int (-11)] [] 76 dX2_sum_73 rfl mfX2_emit lkX2_57 miX2_emit msX2_emit sc_43 rfl rfl rfl rfl (by simp [Value.category]) hd0 (sk_Cm h ?_)
            rintro w t73 ⟨hw, h⟩
            refine ⟨hw, ?_⟩
            refine sk_iinc (v := (v3 + 1)) (lv2 := [(3, .int (v3 + 1)), (2, .int r66), (4, .int (-11)), (0, .ref 43), (1, .int v1)]) 4 79 dX2_sum_76 rfl rfl rfl (by decide) rfl ?_
            refine sk_goto 8 dX2_sum_79 (by decide) ?_
            refine sk_perm (lv2 := [(0, .ref 43), (1, .int v1), (2, .int r66), (3, .int (v3 + 1))]) [3, 4, 1, 0] rfl ?_
            exact h
          · have h := h.2 hc
            refine sk_bipush (v := (-10)) 47 dX2_sum_45 rfl (by decide) ?_
            refine sk_goto 52 dX2_sum_47 (by decide) ?_
            refine sk_istore (lv2 := [(4, .int (-10)), (0, .ref 43), (1, .int v1), (2, .int v2), (3, .int v3)]) 54 dX2_sum_52 rfl (by decide) rfl ?_
            refine sk_aload_n 1 55 dX2_sum_54 rfl rfl rfl ?_
            refine sk_dup 56 dX2_sum_55 rfl rfl ?_
            refine sk_getI 59 dX2_sum_56 rfl lfX2_19 sc_43 rfl ?_
            refine sk_iconst (v := 1) 60 dX2_sum_59 rfl (by decide) ?_
            refine sk_iadd 61 dX2_sum_60 rfl ?_
            refine sk_putI 64 dX2_sum_61 rfl lpX2_19 sc_43 rfl ?_
            refine sk_aload_n 1 65 dX2_sum_64 rfl rfl rfl ?_
            refine sk_iload_n 2 66 dX2_sum_65 rfl rfl rfl ?_
            refine sk_callVi [.int v1] [] 69 dX2_sum_66 rfl mfX2_product lkX2_67 miX2_product msX2_product sc_43 rfl rfl rfl rfl (by simp [Value.category]) hd0 (sk_Cm h ?_)
            rintro w t66 ⟨r66, hw, h⟩
            refine ⟨r66, hw, ?_⟩
            refine sk_istore_n (lv2 := [(2, .int r66), (4, .int (-10)), (0, .ref 43), (1, .int v1), (3, .int v3)]) 70 dX2_sum_69 rfl rfl (by decide) rfl ?_
            refine sk_aload_n 2 71 dX2_sum_70 rfl rfl rfl ?_
            refine sk_iload 1 73 dX2_sum_71 rfl rfl ?_
            refine sk_callVv [.int (-10)] [] 76 dX2_sum_73 rfl mfX2_emit lkX2_57 miX2_emit msX2_emit sc_43 rfl rfl rfl rfl (by simp [Value.category]) hd0 (sk_Cm h ?_)
            rintro w t73 ⟨hw, h⟩
            refine ⟨hw, ?_⟩
            refine sk_iinc (v := (v3 + 1)) (lv2 := [(3, .int (v3 + 1)), (2, .int r66), (4, .int (-10)), (0, .ref 43), (1, .int v1)]) 4 79 dX2_sum_76 rfl rfl rfl (by decide) rfl ?_
            refine sk_goto 8 dX2_sum_79 (by decide) ?_
            refine sk_perm (lv2 := [(0, .ref 43), (1, .int v1), (2, .int r66), (3, .int (v3 + 1))]) [3, 4, 1, 0] rfl ?_
            exact h

theorem wX2_product {d : Nat} {τ : sk_T} {K : sk_K} {v1 : Int32} (hd0 : 0 < d)
  (h : sk_C sk_Sc (d - 1) mX2_single [.ref 43, .int v1] τ (fun w t2 => ∃ r2 : Int32, w = some (.int r2) ∧
      sk_G sk_Sc d mX2_product 8 [(0, .ref 43), (1, .int v1), (2, .int r2), (3, .int 0)] [] t2 K
    )) :
  sk_C sk_Sc d mX2_product [.ref 43, .int v1] τ K := by
  refine sk_enter mfX2_product (Nat.le_of_ble_eq_true rfl) ?_
  show sk_G sk_Sc d mX2_product 0 [(0, .ref 43), (1, .int v1)] [] τ K
  refine sk_aload_n 0 1 dX2_product_0 rfl rfl rfl ?_
  refine sk_iload_n 1 2 dX2_product_1 rfl rfl rfl ?_
  refine sk_callVi [.int v1] [] 5 dX2_product_2 rfl mfX2_single lkX2_70 miX2_single msX2_single sc_43 rfl rfl rfl rfl (by simp [Value.category]) hd0 (sk_Cm h ?_)
  rintro w t2 ⟨r2, hw, h⟩
  refine ⟨r2, hw, ?_⟩
  refine sk_istore_n (lv2 := [(2, .int r2), (0, .ref 43), (1, .int v1)]) 6 dX2_product_5 rfl rfl (by decide) rfl ?_
  refine sk_iconst (v := 0) 7 dX2_product_6 rfl (by decide) ?_
  refine sk_istore_n (lv2 := [(3, .int 0), (2, .int r2), (0, .ref 43), (1, .int v1)]) 8 dX2_product_7 rfl rfl (by decide) rfl ?_
  refine sk_perm (lv2 := [(0, .ref 43), (1, .int v1), (2, .int r2), (3, .int 0)]) [2, 3, 1, 0] rfl ?_
  exact h

theorem bX2_product_8 {d : Nat} {τ : sk_T} {K : sk_K} {v1 : Int32} {v2 : Int32} {v3 : Int32} (hd0 : 0 < d)
  (h : ((60 ≤ v3 →
      v2 &&& 1 = v2 ∧
      K (some (.int v2)) τ
    ) ∧
    (¬ 60 ≤ v3 →
      ((v2 = 0 →
        v2 &&& 1 = v2 ∧
        K (some (.int v2)) τ
      ) ∧
      (¬ v2 = 0 →
        sk_C sk_Sc (d - 1) mX2_sign [.ref 43] τ (fun w t19 => ∃ r19 : Int32, w = some (.int r19) ∧
          ((r19 = 42 →
            sk_C sk_Sc (d - 1) mX2_sign [.ref 43] t19 (fun w t46 => ∃ r46 : Int32, w = some (.int r46) ∧
              ((¬ r46 = 42 →
                sk_C sk_Sc (d - 1) mX2_sign [.ref 43] t46 (fun w t60 => ∃ r60 : Int32, w = some (.int r60) ∧
                  ((¬ r60 = 47 →
                    sk_C sk_Sc (d - 1) mX2_single [.ref 43, .int v1] (sk_u t60 43 2 ((t60 43 2) + 1)) (fun w t89 => ∃ r89 : Int32, w = some (.int r89) ∧
                      sk_C sk_Sc (d - 1) mX2_emit [.ref 43, .int (-14)] t89 (fun w t96 => w = none ∧
                        sk_G sk_Sc d mX2_product 8 [(0, .ref 43), (1, .int v1), (2, .int r89), (3, .int (v3 + 1))] [] t96 K
                      )
                    )
                  ) ∧
                  (r60 = 47 →
                    sk_C sk_Sc (d - 1) mX2_single [.ref 43, .int v1] (sk_u t60 43 2 ((t60 43 2) + 1)) (fun w t89 => ∃ r89 : Int32, w = some (.int r89) ∧
                      sk_C sk_Sc (d - 1) mX2_emit [.ref 43, .int (-13)] t89 (fun w t96 => w = none ∧
                        sk_G sk_Sc d mX2_product 8 [(0, .ref 43), (1, .int v1), (2, .int r89), (3, .int (v3 + 1))] [] t96 K
                      )
                    )
                  ))
                )
              ) ∧
              (r46 = 42 →
                sk_C sk_Sc (d - 1) mX2_single [.ref 43, .int v1] (sk_u t46 43 2 ((t46 43 2) + 1)) (fun w t89 => ∃ r89 : Int32, w = some (.int r89) ∧
                  sk_C sk_Sc (d - 1) mX2_emit [.ref 43, .int (-12)] t89 (fun w t96 => w = none ∧
                    sk_G sk_Sc d mX2_product 8 [(0, .ref 43), (1, .int v1), (2, .int r89), (3, .int (v3 + 1))] [] t96 K
                  )
                )
              ))
            )
          ) ∧
          (¬ r19 = 42 →
            sk_C sk_Sc (d - 1) mX2_sign [.ref 43] t19 (fun w t28 => ∃ r28 : Int32, w = some (.int r28) ∧
              ((r28 = 47 →
                sk_C sk_Sc (d - 1) mX2_sign [.ref 43] t28 (fun w t46 => ∃ r46 : Int32, w = some (.int r46) ∧
                  ((¬ r46 = 42 →
                    sk_C sk_Sc (d - 1) mX2_sign [.ref 43] t46 (fun w t60 => ∃ r60 : Int32, w = some (.int r60) ∧
                      ((¬ r60 = 47 →
                        sk_C sk_Sc (d - 1) mX2_single [.ref 43, .int v1] (sk_u t60 43 2 ((t60 43 2) + 1)) (fun w t89 => ∃ r89 : Int32, w = some (.int r89) ∧
                          sk_C sk_Sc (d - 1) mX2_emit [.ref 43, .int (-14)] t89 (fun w t96 => w = none ∧
                            sk_G sk_Sc d mX2_product 8 [(0, .ref 43), (1, .int v1), (2, .int r89), (3, .int (v3 + 1))] [] t96 K
                          )
                        )
                      ) ∧
                      (r60 = 47 →
                        sk_C sk_Sc (d - 1) mX2_single [.ref 43, .int v1] (sk_u t60 43 2 ((t60 43 2) + 1)) (fun w t89 => ∃ r89 : Int32, w = some (.int r89) ∧
                          sk_C sk_Sc (d - 1) mX2_emit [.ref 43, .int (-13)] t89 (fun w t96 => w = none ∧
                            sk_G sk_Sc d mX2_product 8 [(0, .ref 43), (1, .int v1), (2, .int r89), (3, .int (v3 + 1))] [] t96 K
                          )
                        )
                      ))
                    )
                  ) ∧
                  (r46 = 42 →
                    sk_C sk_Sc (d - 1) mX2_single [.ref 43, .int v1] (sk_u t46 43 2 ((t46 43 2) + 1)) (fun w t89 => ∃ r89 : Int32, w = some (.int r89) ∧
                      sk_C sk_Sc (d - 1) mX2_emit [.ref 43, .int (-12)] t89 (fun w t96 => w = none ∧
                        sk_G sk_Sc d mX2_product 8 [(0, .ref 43), (1, .int v1), (2, .int r89), (3, .int (v3 + 1))] [] t96 K
                      )
                    )
                  ))
                )
              ) ∧
              (¬ r28 = 47 →
                sk_C sk_Sc (d - 1) mX2_sign [.ref 43] t28 (fun w t37 => ∃ r37 : Int32, w = some (.int r37) ∧
                  ((¬ r37 = 37 →
                    v2 &&& 1 = v2 ∧
                    K (some (.int v2)) t37
                  ) ∧
                  (r37 = 37 →
                    sk_C sk_Sc (d - 1) mX2_sign [.ref 43] t37 (fun w t46 => ∃ r46 : Int32, w = some (.int r46) ∧
                      ((¬ r46 = 42 →
                        sk_C sk_Sc (d - 1) mX2_sign [.ref 43] t46 (fun w t60 => ∃ r60 : Int32, w = some (.int r60) ∧
                          ((¬ r60 = 47 →
                            sk_C sk_Sc (d - 1) mX2_single [.ref 43, .int v1] (sk_u t60 43 2 ((t60 43 2) + 1)) (fun w t89 => ∃ r89 : Int32, w = some (.int r89) ∧
                              sk_C sk_Sc (d - 1) mX2_emit [.ref 43, .int (-14)] t89 (fun w t96 => w = none ∧
                                sk_G sk_Sc d mX2_product 8 [(0, .ref 43), (1, .int v1), (2, .int r89), (3, .int (v3 + 1))] [] t96 K
                              )
                            )
                          ) ∧
                          (r60 = 47 →
                            sk_C sk_Sc (d - 1) mX2_single [.ref 43, .int v1] (sk_u t60 43 2 ((t60 43 2) + 1)) (fun w t89 => ∃ r89 : Int32, w = some (.int r89) ∧
                              sk_C sk_Sc (d - 1) mX2_emit [.ref 43, .int (-13)] t89 (fun w t96 => w = none ∧
                                sk_G sk_Sc d mX2_product 8 [(0, .ref 43), (1, .int v1), (2, .int r89), (3, .int (v3 + 1))] [] t96 K
                              )
                            )
                          ))
                        )
                      ) ∧
                      (r46 = 42 →
                        sk_C sk_Sc (d - 1) mX2_single [.ref 43, .int v1] (sk_u t46 43 2 ((t46 43 2) + 1)) (fun w t89 => ∃ r89 : Int32, w = some (.int r89) ∧
                          sk_C sk_Sc (d - 1) mX2_emit [.ref 43, .int (-12)] t89 (fun w t96 => w = none ∧
                            sk_G sk_Sc d mX2_product 8 [(0, .ref 43), (1, .int v1), (2, .int r89), (3, .int (v3 + 1))] [] t96 K
                          )
                        )
                      ))
                    )
                  ))
                )
              ))
            )
          ))
        )
      ))
    ))) :
  sk_G sk_Sc d mX2_product 8 [(0, .ref 43), (1, .int v1), (2, .int v2), (3, .int v3)] [] τ K := by
  refine sk_iload_n 3 9 dX2_product_8 rfl rfl rfl ?_
  refine sk_bipush (v := 60) 11 dX2_product_9 rfl (by decide) ?_
  refine sk_icmp_ge 105 14 dX2_product_11 (by decide) rfl (fun hc => ?_) (fun hc => ?_)
  · have h := h.1 hc
    refine sk_iload_n 2 106 dX2_product_105 rfl rfl rfl ?_
    exact sk_iret dX2_product_106 rfl (congrArg Value.int h.1) h.2
  · have h := h.2 hc
    refine sk_iload_n 2 15 dX2_product_14 rfl rfl rfl ?_
    refine sk_if_eq 105 18 dX2_product_15 (by decide) rfl (fun hc => ?_) (fun hc => ?_)
    · have h := h.1 hc
      refine sk_iload_n 2 106 dX2_product_105 rfl rfl rfl ?_
      exact sk_iret dX2_product_106 rfl (congrArg Value.int h.1) h.2
    · have h := h.2 hc
      refine sk_aload_n 0 19 dX2_product_18 rfl rfl rfl ?_
      refine sk_callVi [] [] 22 dX2_product_19 rfl mfX2_sign lkX2_51 miX2_sign msX2_sign sc_43 rfl rfl rfl rfl (by simp [Value.category]) hd0 (sk_Cm h ?_)
      rintro w t19 ⟨r19, hw, h⟩
      refine ⟨r19, hw, ?_⟩
      refine sk_bipush (v := 42) 24 dX2_product_22 rfl (by decide) ?_
      refine sk_icmp_eq 45 27 dX2_product_24 (by decide) rfl (fun hc => ?_) (fun hc => ?_)
      · have h := h.1 hc
        refine sk_aload_n 0 46 dX2_product_45 rfl rfl rfl ?_
        refine sk_callVi [] [] 49 dX2_product_46 rfl mfX2_sign lkX2_51 miX2_sign msX2_sign sc_43 rfl rfl rfl rfl (by simp [Value.category]) hd0 (sk_Cm h ?_)
        rintro w t46 ⟨r46, hw, h⟩
        refine ⟨r46, hw, ?_⟩
        refine sk_bipush (v := 42) 51 dX2_product_49 rfl (by decide) ?_
        refine sk_icmp_ne 59 54 dX2_product_51 (by decide) rfl (fun hc => ?_) (fun hc => ?_)
        · have h := h.1 hc
          refine sk_aload_n 0 60 dX2_product_59 rfl rfl rfl ?_
          refine sk_callVi [] [] 63 dX2_product_60 rfl mfX2_sign lkX2_51 miX2_sign msX2_sign sc_43 rfl rfl rfl rfl (by simp [Value.category]) hd0 (sk_Cm h ?_)
          rintro w t60 ⟨r60, hw, h⟩
          refine ⟨r60, hw, ?_⟩
          refine sk_bipush (v := 47) 65 dX2_product_63 rfl (by decide) ?_
          refine sk_icmp_ne 73 68 dX2_product_65 (by decide) rfl (fun hc => ?_) (fun hc => ?_)
          · have h := h.1 hc
            refine sk_bipush (v := (-14)) 75 dX2_product_73 rfl (by decide) ?_
            refine sk_istore (lv2 := [(4, .int (-14)), (0, .ref 43), (1, .int v1), (2, .int v2), (3, .int v3)]) 77 dX2_product_75 rfl (by decide) rfl ?_
            refine sk_aload_n 1 78 dX2_product_77 rfl rfl rfl ?_
            refine sk_dup 79 dX2_product_78 rfl rfl ?_
            refine sk_getI 82 dX2_product_79 rfl lfX2_19 sc_43 rfl ?_
            refine sk_iconst (v := 1) 83 dX2_product_82 rfl (by decide) ?_
            refine sk_iadd 84 dX2_product_83 rfl ?_
            refine sk_putI 87 dX2_product_84 rfl lpX2_19 sc_43 rfl ?_
            refine sk_aload_n 1 88 dX2_product_87 rfl rfl rfl ?_
            refine sk_iload_n 2 89 dX2_product_88 rfl rfl rfl ?_
            refine sk_callVi [.int v1] [] 92 dX2_product_89 rfl mfX2_single lkX2_70 miX2_single msX2_single sc_43 rfl rfl rfl rfl (by simp [Value.category]) hd0 (sk_Cm h ?_)
            rintro w t89 ⟨r89, hw, h⟩
            refine ⟨r89, hw, ?_⟩
            refine sk_istore_n (lv2 := [(2, .int r89), (4, .int (-14)), (0, .ref 43), (1, .int v1), (3, .int v3)]) 93 dX2_product_92 rfl rfl (by decide) rfl ?_
            refine sk_aload_n 2 94 dX2_product_93 rfl rfl rfl ?_
            refine sk_iload 1 96 dX2_product_94 rfl rfl ?_
            refine sk_callVv [.int (-14)] [] 99 dX2_product_96 rfl mfX2_emit lkX2_57 miX2_emit msX2_emit sc_43 rfl rfl rfl rfl (by simp [Value.category]) hd0 (sk_Cm h ?_)
            rintro w t96 ⟨hw, h⟩
            refine ⟨hw, ?_⟩
            refine sk_iinc (v := (v3 + 1)) (lv2 := [(3, .int (v3 + 1)), (2, .int r89), (4, .int (-14)), (0, .ref 43), (1, .int v1)]) 4 102 dX2_product_99 rfl rfl rfl (by decide) rfl ?_
            refine sk_goto 8 dX2_product_102 (by decide) ?_
            refine sk_perm (lv2 := [(0, .ref 43), (1, .int v1), (2, .int r89), (3, .int (v3 + 1))]) [3, 4, 1, 0] rfl ?_
            exact h
          · have h := h.2 hc
            refine sk_bipush (v := (-13)) 70 dX2_product_68 rfl (by decide) ?_
            refine sk_goto 75 dX2_product_70 (by decide) ?_
            refine sk_istore (lv2 := [(4, .int (-13)), (0, .ref 43), (1, .int v1), (2, .int v2), (3, .int v3)]) 77 dX2_product_75 rfl (by decide) rfl ?_
            refine sk_aload_n 1 78 dX2_product_77 rfl rfl rfl ?_
            refine sk_dup 79 dX2_product_78 rfl rfl ?_
            refine sk_getI 82 dX2_product_79 rfl lfX2_19 sc_43 rfl ?_
            refine sk_iconst (v := 1) 83 dX2_product_82 rfl (by decide) ?_
            refine sk_iadd 84 dX2_product_83 rfl ?_
            refine sk_putI 87 dX2_product_84 rfl lpX2_19 sc_43 rfl ?_
            refine sk_aload_n 1 88 dX2_product_87 rfl rfl rfl ?_
            refine sk_iload_n 2 89 dX2_product_88 rfl rfl rfl ?_
            refine sk_callVi [.int v1] [] 92 dX2_product_89 rfl mfX2_single lkX2_70 miX2_single msX2_single sc_43 rfl rfl rfl rfl (by simp [Value.category]) hd0 (sk_Cm h ?_)
            rintro w t89 ⟨r89, hw, h⟩
            refine ⟨r89, hw, ?_⟩
            refine sk_istore_n (lv2 := [(2, .int r89), (4, .int (-13)), (0, .ref 43), (1, .int v1), (3, .int v3)]) 93 dX2_product_92 rfl rfl (by decide) rfl ?_
            refine sk_aload_n 2 94 dX2_product_93 rfl rfl rfl ?_
            refine sk_iload 1 96 dX2_product_94 rfl rfl ?_
            refine sk_callVv [.int (-13)] [] 99 dX2_product_96 rfl mfX2_emit lkX2_57 miX2_emit msX2_emit sc_43 rfl rfl rfl rfl (by simp [Value.category]) hd0 (sk_Cm h ?_)
            rintro w t96 ⟨hw, h⟩
            refine ⟨hw, ?_⟩
            refine sk_iinc (v := (v3 + 1)) (lv2 := [(3, .int (v3 + 1)), (2, .int r89), (4, .int (-13)), (0, .ref 43), (1, .int v1)]) 4 102 dX2_product_99 rfl rfl rfl (by decide) rfl ?_
            refine sk_goto 8 dX2_product_102 (by decide) ?_
            refine sk_perm (lv2 := [(0, .ref 43), (1, .int v1), (2, .int r89), (3, .int (v3 + 1))]) [3, 4, 1, 0] rfl ?_
            exact h
        · have h := h.2 hc
          refine sk_bipush (v := (-12)) 56 dX2_product_54 rfl (by decide) ?_
          refine sk_goto 75 dX2_product_56 (by decide) ?_
          refine sk_istore (lv2 := [(4, .int (-12)), (0, .ref 43), (1, .int v1), (2, .int v2), (3, .int v3)]) 77 dX2_product_75 rfl (by decide) rfl ?_
          refine sk_aload_n 1 78 dX2_product_77 rfl rfl rfl ?_
          refine sk_dup 79 dX2_product_78 rfl rfl ?_
          refine sk_getI 82 dX2_product_79 rfl lfX2_19 sc_43 rfl ?_
          refine sk_iconst (v := 1) 83 dX2_product_82 rfl (by decide) ?_
          refine sk_iadd 84 dX2_product_83 rfl ?_
          refine sk_putI 87 dX2_product_84 rfl lpX2_19 sc_43 rfl ?_
          refine sk_aload_n 1 88 dX2_product_87 rfl rfl rfl ?_
          refine sk_iload_n 2 89 dX2_product_88 rfl rfl rfl ?_
          refine sk_callVi [.int v1] [] 92 dX2_product_89 rfl mfX2_single lkX2_70 miX2_single msX2_single sc_43 rfl rfl rfl rfl (by simp [Value.category]) hd0 (sk_Cm h ?_)
          rintro w t89 ⟨r89, hw, h⟩
          refine ⟨r89, hw, ?_⟩
          refine sk_istore_n (lv2 := [(2, .int r89), (4, .int (-12)), (0, .ref 43), (1, .int v1), (3, .int v3)]) 93 dX2_product_92 rfl rfl (by decide) rfl ?_
          refine sk_aload_n 2 94 dX2_product_93 rfl rfl rfl ?_
          refine sk_iload 1 96 dX2_product_94 rfl rfl ?_
          refine sk_callVv [.int (-12)] [] 99 dX2_product_96 rfl mfX2_emit lkX2_57 miX2_emit msX2_emit sc_43 rfl rfl rfl rfl (by simp [Value.category]) hd0 (sk_Cm h ?_)
          rintro w t96 ⟨hw, h⟩
          refine ⟨hw, ?_⟩
          refine sk_iinc (v := (v3 + 1)) (lv2 := [(3, .int (v3 + 1)), (2, .int r89), (4, .int (-12)), (0, .ref 43), (1, .int v1)]) 4 102 dX2_product_99 rfl rfl rfl (by decide) rfl ?_
          refine sk_goto 8 dX2_product_102 (by decide) ?_
          refine sk_perm (lv2 := [(0, .ref 43), (1, .int v1), (2, .int r89), (3, .int (v3 + 1))]) [3, 4, 1, 0] rfl ?_
          exact h
      · have h := h.2 hc
        refine sk_aload_n 0 28 dX2_product_27 rfl rfl rfl ?_
        refine sk_callVi [] [] 31 dX2_product_28 rfl mfX2_sign lkX2_51 miX2_sign msX2_sign sc_43 rfl rfl rfl rfl (by simp [Value.category]) hd0 (sk_Cm h ?_)
        rintro w t28 ⟨r28, hw, h⟩
        refine ⟨r28, hw, ?_⟩
        refine sk_bipush (v := 47) 33 dX2_product_31 rfl (by decide) ?_
        refine sk_icmp_eq 45 36 dX2_product_33 (by decide) rfl (fun hc => ?_) (fun hc => ?_)
        · have h := h.1 hc
          refine sk_aload_n 0 46 dX2_product_45 rfl rfl rfl ?_
          refine sk_callVi [] [] 49 dX2_product_46 rfl mfX2_sign lkX2_51 miX2_sign msX2_sign sc_43 rfl rfl rfl rfl (by simp [Value.category]) hd0 (sk_Cm h ?_)
          rintro w t46 ⟨r46, hw, h⟩
          refine ⟨r46, hw, ?_⟩
          refine sk_bipush (v := 42) 51 dX2_product_49 rfl (by decide) ?_
          refine sk_icmp_ne 59 54 dX2_product_51 (by decide) rfl (fun hc => ?_) (fun hc => ?_)
          · have h := h.1 hc
            refine sk_aload_n 0 60 dX2_product_59 rfl rfl rfl ?_
            refine sk_callVi [] [] 63 dX2_product_60 rfl mfX2_sign lkX2_51 miX2_sign msX2_sign sc_43 rfl rfl rfl rfl (by simp [Value.category]) hd0 (sk_Cm h ?_)
            rintro w t60 ⟨r60, hw, h⟩
            refine ⟨r60, hw, ?_⟩
            refine sk_bipush (v := 47) 65 dX2_product_63 rfl (by decide) ?_
            refine sk_icmp_ne 73 68 dX2_product_65 (by decide) rfl (fun hc => ?_) (fun hc => ?_)
            · have h := h.1 hc
              refine sk_bipush (v := (-14)) 75 dX2_product_73 rfl (by decide) ?_
              refine sk_istore (lv2 := [(4, .int (-14)), (0, .ref 43), (1, .int v1), (2, .int v2), (3, .int v3)]) 77 dX2_product_75 rfl (by decide) rfl ?_
              refine sk_aload_n 1 78 dX2_product_77 rfl rfl rfl ?_
              refine sk_dup 79 dX2_product_78 rfl rfl ?_
              refine sk_getI 82 dX2_product_79 rfl lfX2_19 sc_43 rfl ?_
              refine sk_iconst (v := 1) 83 dX2_product_82 rfl (by decide) ?_
              refine sk_iadd 84 dX2_product_83 rfl ?_
              refine sk_putI 87 dX2_product_84 rfl lpX2_19 sc_43 rfl ?_
              refine sk_aload_n 1 88 dX2_product_87 rfl rfl rfl ?_
              refine sk_iload_n 2 89 dX2_product_88 rfl rfl rfl ?_
              refine sk_callVi [.int v1] [] 92 dX2_product_89 rfl mfX2_single lkX2_70 miX2_single msX2_single sc_43 rfl rfl rfl rfl (by simp [Value.category]) hd0 (sk_Cm h ?_)
              rintro w t89 ⟨r89, hw, h⟩
              refine ⟨r89, hw, ?_⟩
              refine sk_istore_n (lv2 := [(2, .int r89), (4, .int (-14)), (0, .ref 43), (1, .int v1), (3, .int v3)]) 93 dX2_product_92 rfl rfl (by decide) rfl ?_
              refine sk_aload_n 2 94 dX2_product_93 rfl rfl rfl ?_
              refine sk_iload 1 96 dX2_product_94 rfl rfl ?_
              refine sk_callVv [.int (-14)] [] 99 dX2_product_96 rfl mfX2_emit lkX2_57 miX2_emit msX2_emit sc_43 rfl rfl rfl rfl (by simp [Value.category]) hd0 (sk_Cm h ?_)
              rintro w t96 ⟨hw, h⟩
              refine ⟨hw, ?_⟩
              refine sk_iinc (v := (v3 + 1)) (lv2 := [(3, .int (v3 + 1)), (2, .int r89), (4, .int (-14)), (0, .ref 43), (1, .int v1)]) 4 102 dX2_product_99 rfl rfl rfl (by decide) rfl ?_
              refine sk_goto 8 dX2_product_102 (by decide) ?_
              refine sk_perm (lv2 := [(0, .ref 43), (1, .int v1), (2, .int r89), (3, .int (v3 + 1))]) [3, 4, 1, 0] rfl ?_
              exact h
            · have h := h.2 hc
              refine sk_bipush (v := (-13)) 70 dX2_product_68 rfl (by decide) ?_
              refine sk_goto 75 dX2_product_70 (by decide) ?_
              refine sk_istore (lv2 := [(4, .int (-13)), (0, .ref 43), (1, .int v1), (2, .int v2), (3, .int v3)]) 77 dX2_product_75 rfl (by decide) rfl ?_
              refine sk_aload_n 1 78 dX2_product_77 rfl rfl rfl ?_
              refine sk_dup 79 dX2_product_78 rfl rfl ?_
              refine sk_getI 82 dX2_product_79 rfl lfX2_19 sc_43 rfl ?_
              refine sk_iconst (v := 1) 83 dX2_product_82 rfl (by decide) ?_
              refine sk_iadd 84 dX2_product_83 rfl ?_
              refine sk_putI 87 dX2_product_84 rfl lpX2_19 sc_43 rfl ?_
              refine sk_aload_n 1 88 dX2_product_87 rfl rfl rfl ?_
              refine sk_iload_n 2 89 dX2_product_88 rfl rfl rfl ?_
              refine sk_callVi [.int v1] [] 92 dX2_product_89 rfl mfX2_single lkX2_70 miX2_single msX2_single sc_43 rfl rfl rfl rfl (by simp [Value.category]) hd0 (sk_Cm h ?_)
              rintro w t89 ⟨r89, hw, h⟩
              refine ⟨r89, hw, ?_⟩
              refine sk_istore_n (lv2 := [(2, .int r89), (4, .int (-13)), (0, .ref 43), (1, .int v1), (3, .int v3)]) 93 dX2_product_92 rfl rfl (by decide) rfl ?_
              refine sk_aload_n 2 94 dX2_product_93 rfl rfl rfl ?_
              refine sk_iload 1 96 dX2_product_94 rfl rfl ?_
              refine sk_callVv [.int (-13)] [] 99 dX2_product_96 rfl mfX2_emit lkX2_57 miX2_emit msX2_emit sc_43 rfl rfl rfl rfl (by simp [Value.category]) hd0 (sk_Cm h ?_)
              rintro w t96 ⟨hw, h⟩
              refine ⟨hw, ?_⟩
              refine sk_iinc (v := (v3 + 1)) (lv2 := [(3, .int (v3 + 1)), (2, .int r89), (4, .int (-13)), (0, .ref 43), (1, .int v1)]) 4 102 dX2_product_99 rfl rfl rfl (by decide) rfl ?_
              refine sk_goto 8 dX2_product_102 (by decide) ?_
              refine sk_perm (lv2 := [(0, .ref 43), (1, .int v1), (2, .int r89), (3, .int (v3 + 1))]) [3, 4, 1, 0] rfl ?_
              exact h
          · have h := h.2 hc
            refine sk_bipush (v := (-12)) 56 dX2_product_54 rfl (by decide) ?_
            refine sk_goto 75 dX2_product_56 (by decide) ?_
            refine sk_istore (lv2 := [(4, .int (-12)), (0, .ref 43), (1, .int v1), (2, .int v2), (3, .int v3)]) 77 dX2_product_75 rfl (by decide) rfl ?_
            refine sk_aload_n 1 78 dX2_product_77 rfl rfl rfl ?_
            refine sk_dup 79 dX2_product_78 rfl rfl ?_
            refine sk_getI 82 dX2_product_79 rfl lfX2_19 sc_43 rfl ?_
            refine sk_iconst (v := 1) 83 dX2_product_82 rfl (by decide) ?_
            refine sk_iadd 84 dX2_product_83 rfl ?_
            refine sk_putI 87 dX2_product_84 rfl lpX2_19 sc_43 rfl ?_
            refine sk_aload_n 1 88 dX2_product_87 rfl rfl rfl ?_
            refine sk_iload_n 2 89 dX2_product_88 rfl rfl rfl ?_
            refine sk_callVi [.int v1] [] 92 dX2_product_89 rfl mfX2_single lkX2_70 miX2_single msX2_single sc_43 rfl rfl rfl rfl (by simp [Value.category]) hd0 (sk_Cm h ?_)
            rintro w t89 ⟨r89, hw, h⟩
            refine ⟨r89, hw, ?_⟩
            refine sk_istore_n (lv2 := [(2, .int r89), (4, .int (-12)), (0, .ref 43), (1, .int v1), (3, .int v3)]) 93 dX2_product_92 rfl rfl (by decide) rfl ?_
            refine sk_aload_n 2 94 dX2_product_93 rfl rfl rfl ?_
            refine sk_iload 1 96 dX2_product_94 rfl rfl ?_
            refine sk_callVv [.int (-12)] [] 99 dX2_product_96 rfl mfX2_emit lkX2_57 miX2_emit msX2_emit sc_43 rfl rfl rfl rfl (by simp [Value.category]) hd0 (sk_Cm h ?_)
            rintro w t96 ⟨hw, h⟩
            refine ⟨hw, ?_⟩
            refine sk_iinc (v := (v3 + 1)) (lv2 := [(3, .int (v3 + 1)), (2, .int r89), (4, .int (-12)), (0, .ref 43), (1, .int v1)]) 4 102 dX2_product_99 rfl rfl rfl (by decide) rfl ?_
            refine sk_goto 8 dX2_product_102 (by decide) ?_
            refine sk_perm (lv2 := [(0, .ref 43), (1, .int v1), (2, .int r89), (3, .int (v3 + 1))]) [3, 4, 1, 0] rfl ?_
            exact h
        · have h := h.2 hc
          refine sk_aload_n 0 37 dX2_product_36 rfl rfl rfl ?_
          refine sk_callVi [] [] 40 dX2_product_37 rfl mfX2_sign lkX2_51 miX2_sign msX2_sign sc_43 rfl rfl rfl rfl (by simp [Value.category]) hd0 (sk_Cm h ?_)
          rintro w t37 ⟨r37, hw, h⟩
          refine ⟨r37, hw, ?_⟩
          refine sk_bipush (v := 37) 42 dX2_product_40 rfl (by decide) ?_
          refine sk_icmp_ne 105 45 dX2_product_42 (by decide) rfl (fun hc => ?_) (fun hc => ?_)
          · have h := h.1 hc
            refine sk_iload_n 2 106 dX2_product_105 rfl rfl rfl ?_
            exact sk_iret dX2_product_106 rfl (congrArg Value.int h.1) h.2
          · have h := h.2 hc
            refine sk_aload_n 0 46 dX2_product_45 rfl rfl rfl ?_
            refine sk_callVi [] [] 49 dX2_product_46 rfl mfX2_sign lkX2_51 miX2_sign msX2_sign sc_43 rfl rfl rfl rfl (by simp [Value.category]) hd0 (sk_Cm h ?_)
            rintro w t46 ⟨r46, hw, h⟩
            refine ⟨r46, hw, ?_⟩
            refine sk_bipush (v := 42) 51 dX2_product_49 rfl (by decide) ?_
            refine sk_icmp_ne 59 54 dX2_product_51 (by decide) rfl (fun hc => ?_) (fun hc => ?_)
            · have h := h.1 hc
              refine sk_aload_n 0 60 dX2_product_59 rfl rfl rfl ?_
              refine sk_callVi [] [] 63 dX2_product_60 rfl mfX2_sign lkX2_51 miX2_sign msX2_sign sc_43 rfl rfl rfl rfl (by simp [Value.category]) hd0 (sk_Cm h ?_)
              rintro w t60 ⟨r60, hw, h⟩
              refine ⟨r60, hw, ?_⟩
              refine sk_bipush (v := 47) 65 dX2_product_63 rfl (by decide) ?_
              refine sk_icmp_ne 73 68 dX2_product_65 (by decide) rfl (fun hc => ?_) (fun hc => ?_)
              · have h := h.1 hc
                refine sk_bipush (v := (-14)) 75 dX2_product_73 rfl (by decide) ?_
                refine sk_istore (lv2 := [(4, .int (-14)), (0, .ref 43), (1, .int v1), (2, .int v2), (3, .int v3)]) 77 dX2_product_75 rfl (by decide) rfl ?_
                refine sk_aload_n 1 78 dX2_product_77 rfl rfl rfl ?_
                refine sk_dup 79 dX2_product_78 rfl rfl ?_
                refine sk_getI 82 dX2_product_79 rfl lfX2_19 sc_43 rfl ?_
                refine sk_iconst (v := 1) 83 dX2_product_82 rfl (by decide) ?_
                refine sk_iadd 84 dX2_product_83 rfl ?_
                refine sk_putI 87 dX2_product_84 rfl lpX2_19 sc_43 rfl ?_
                refine sk_aload_n 1 88 dX2_product_87 rfl rfl rfl ?_
                refine sk_iload_n 2 89 dX2_product_88 rfl rfl rfl ?_
                refine sk_callVi [.int v1] [] 92 dX2_product_89 rfl mfX2_single lkX2_70 miX2_single msX2_single sc_43 rfl rfl rfl rfl (by simp [Value.category]) hd0 (sk_Cm h ?_)
                rintro w t89 ⟨r89, hw, h⟩
                refine ⟨r89, hw, ?_⟩
                refine sk_istore_n (lv2 := [(2, .int r89), (4, .int (-14)), (0, .ref 43), (1, .int v1), (3, .int v3)]) 93 dX2_product_92 rfl rfl (by decide) rfl ?_
                refine sk_aload_n 2 94 dX2_product_93 rfl rfl rfl ?_
                refine sk_iload 1 96 dX2_product_94 rfl rfl ?_
                refine sk_callVv [.int (-14)] [] 99 dX2_product_96 rfl mfX2_emit lkX2_57 miX2_emit msX2_emit sc_43 rfl rfl rfl rfl (by simp [Value.category]) hd0 (sk_Cm h ?_)
                rintro w t96 ⟨hw, h⟩
                refine ⟨hw, ?_⟩
                refine sk_iinc (v := (v3 + 1)) (lv2 := [(3, .int (v3 + 1)), (2, .int r89), (4, .int (-14)), (0, .ref 43), (1, .int v1)]) 4 102 dX2_product_99 rfl rfl rfl (by decide) rfl ?_
                refine sk_goto 8 dX2_product_102 (by decide) ?_
                refine sk_perm (lv2 := [(0, .ref 43), (1, .int v1), (2, .int r89), (3, .int (v3 + 1))]) [3, 4, 1, 0] rfl ?_
                exact h
              · have h := h.2 hc
                refine sk_bipush (v := (-13)) 70 dX2_product_68 rfl (by decide) ?_
                refine sk_goto 75 dX2_product_70 (by decide) ?_
                refine sk_istore (lv2 := [(4, .int (-13)), (0, .ref 43), (1, .int v1), (2, .int v2), (3, .int v3)]) 77 dX2_product_75 rfl (by decide) rfl ?_
                refine sk_aload_n 1 78 dX2_product_77 rfl rfl rfl ?_
                refine sk_dup 79 dX2_product_78 rfl rfl ?_
                refine sk_getI 82 dX2_product_79 rfl lfX2_19 sc_43 rfl ?_
                refine sk_iconst (v := 1) 83 dX2_product_82 rfl (by decide) ?_
                refine sk_iadd 84 dX2_product_83 rfl ?_
                refine sk_putI 87 dX2_product_84 rfl lpX2_19 sc_43 rfl ?_
                refine sk_aload_n 1 88 dX2_product_87 rfl rfl rfl ?_
                refine sk_iload_n 2 89 dX2_product_88 rfl rfl rfl ?_
                refine sk_callVi [.int v1] [] 92 dX2_product_89 rfl mfX2_single lkX2_70 miX2_single msX2_single sc_43 rfl rfl rfl rfl (by simp [Value.category]) hd0 (sk_Cm h ?_)
                rintro w t89 ⟨r89, hw, h⟩
                refine ⟨r89, hw, ?_⟩
                refine sk_istore_n (lv2 := [(2, .int r89), (4, .int (-13)), (0, .ref 43), (1, .int v1), (3, .int v3)]) 93 dX2_product_92 rfl rfl (by decide) rfl ?_
                refine sk_aload_n 2 94 dX2_product_93 rfl rfl rfl ?_
                refine sk_iload 1 96 dX2_product_94 rfl rfl ?_
                refine sk_callVv [.int (-13)] [] 99 dX2_product_96 rfl mfX2_emit lkX2_57 miX2_emit msX2_emit sc_43 rfl rfl rfl rfl (by simp [Value.category]) hd0 (sk_Cm h ?_)
                rintro w t96 ⟨hw, h⟩
                refine ⟨hw, ?_⟩
                refine sk_iinc (v := (v3 + 1)) (lv2 := [(3, .int (v3 + 1)), (2, .int r89), (4, .int (-13)), (0, .ref 43), (1, .int v1)]) 4 102 dX2_product_99 rfl rfl rfl (by decide) rfl ?_
                refine sk_goto 8 dX2_product_102 (by decide) ?_
                refine sk_perm (lv2 := [(0, .ref 43), (1, .int v1), (2, .int r89), (3, .int (v3 + 1))]) [3, 4, 1, 0] rfl ?_
                exact h
            · have h := h.2 hc
              refine sk_bipush (v := (-12)) 56 dX2_product_54 rfl (by decide) ?_
              refine sk_goto 75 dX2_product_56 (by decide) ?_
              refine sk_istore (lv2 := [(4, .int (-12)), (0, .ref 43), (1, .int v1), (2, .int v2), (3, .int v3)]) 77 dX2_product_75 rfl (by decide) rfl ?_
              refine sk_aload_n 1 78 dX2_product_77 rfl rfl rfl ?_
              refine sk_dup 79 dX2_product_78 rfl rfl ?_
              refine sk_getI 82 dX2_product_79 rfl lfX2_19 sc_43 rfl ?_
              refine sk_iconst (v := 1) 83 dX2_product_82 rfl (by decide) ?_
              refine sk_iadd 84 dX2_product_83 rfl ?_
              refine sk_putI 87 dX2_product_84 rfl lpX2_19 sc_43 rfl ?_
              refine sk_aload_n 1 88 dX2_product_87 rfl rfl rfl ?_
              refine sk_iload_n 2 89 dX2_product_88 rfl rfl rfl ?_
              refine sk_callVi [.int v1] [] 92 dX2_product_89 rfl mfX2_single lkX2_70 miX2_single msX2_single sc_43 rfl rfl rfl rfl (by simp [Value.category]) hd0 (sk_Cm h ?_)
              rintro w t89 ⟨r89, hw, h⟩
              refine ⟨r89, hw, ?_⟩
              refine sk_istore_n (lv2 := [(2, .int r89), (4, .int (-12)), (0, .ref 43), (1, .int v1), (3, .int v3)]) 93 dX2_product_92 rfl rfl (by decide) rfl ?_
              refine sk_aload_n 2 94 dX2_product_93 rfl rfl rfl ?_
              refine sk_iload 1 96 dX2_product_94 rfl rfl ?_
              refine sk_callVv [.int (-12)] [] 99 dX2_product_96 rfl mfX2_emit lkX2_57 miX2_emit msX2_emit sc_43 rfl rfl rfl rfl (by simp [Value.category]) hd0 (sk_Cm h ?_)
              rintro w t96 ⟨hw, h⟩
              refine ⟨hw, ?_⟩
              refine sk_iinc (v := (v3 + 1)) (lv2 := [(3, .int (v3 + 1)), (2, .int r89), (4, .int (-12)), (0, .ref 43), (1, .int v1)]) 4 102 dX2_product_99 rfl rfl rfl (by decide) rfl ?_
              refine sk_goto 8 dX2_product_102 (by decide) ?_
              refine sk_perm (lv2 := [(0, .ref 43), (1, .int v1), (2, .int r89), (3, .int (v3 + 1))]) [3, 4, 1, 0] rfl ?_
              exact h

theorem wX2_single {d : Nat} {τ : sk_T} {K : sk_K} {v1 : Int32} (hd0 : 0 < d)
  (h : sk_C sk_Sc (d - 1) mX2_sign [.ref 43] τ (fun w t1 => ∃ r1 : Int32, w = some (.int r1) ∧
      ((r1 < 48 →
        ((r1 = 33 →
          ((5 ≤ v1 →
            K (some (.int 0)) t1
          ) ∧
          (¬ 5 ≤ v1 →
            sk_C sk_Sc (d - 1) mX2_opened [.ref 43, .int r1, .int (v1 + 1)] t1 (fun w t45 => ∃ r45 : Int32, w = some (.int r45) ∧
              ((r45 = 0 →
                K (some (.int 0)) t45
              ) ∧
              (¬ r45 = 0 →
                K (some (.int 1)) t45
              ))
            )
          ))
        ) ∧
        (¬ r1 = 33 →
          ((¬ r1 = 40 →
            sk_G sk_Sc d mX2_single 59 [(0, .ref 43), (2, .int r1), (3, .int 0)] [] t1 K
          ) ∧
          (r1 = 40 →
            ((5 ≤ v1 →
              K (some (.int 0)) t1
            ) ∧
            (¬ 5 ≤ v1 →
              sk_C sk_Sc (d - 1) mX2_opened [.ref 43, .int r1, .int (v1 + 1)] t1 (fun w t45 => ∃ r45 : Int32, w = some (.int r45) ∧
                ((r45 = 0 →
                  K (some (.int 0)) t45
                ) ∧
                (¬ r45 = 0 →
                  K (some (.int 1)) t45
                ))
              )
            ))
          ))
        ))
      ) ∧
      (¬ r1 < 48 →
        ((57 < r1 →
          ((r1 = 33 →
            ((5 ≤ v1 →
              K (some (.int 0)) t1
            ) ∧
            (¬ 5 ≤ v1 →
              sk_C sk_Sc (d - 1) mX2_opened [.ref 43, .int r1, .int (v1 + 1)] t1 (fun w t45 => ∃ r45 : Int32, w = some (.int r45) ∧
                ((r45 = 0 →
                  K (some (.int 0)) t45
                ) ∧
                (¬ r45 = 0 →
                  K (some (.int 1)) t45
                ))
              )
            ))
          ) ∧
          (¬ r1 = 33 →
            ((¬ r1 = 40 →
              sk_G sk_Sc d mX2_single 59 [(0, .ref 43), (2, .int r1), (3, .int 0)] [] t1 K
            ) ∧
            (r1 = 40 →
              ((5 ≤ v1 →
                K (some (.int 0)) t1
              ) ∧
              (¬ 5 ≤ v1 →
                sk_C sk_Sc (d - 1) mX2_opened [.ref 43, .int r1, .int (v1 + 1)] t1 (fun w t45 => ∃ r45 : Int32, w = some (.int r45) ∧
                  ((r45 = 0 →
                    K (some (.int 0)) t45
                  ) ∧
                  (¬ r45 = 0 →
                    K (some (.int 1)) t45
                  ))
                )
              ))
            ))
          ))
        ) ∧
        (¬ 57 < r1 →
          sk_C sk_Sc (d - 1) mX2_number [.ref 43] t1 (fun w t18 => w = none ∧
            K (some (.int 1)) t18
          )
        ))
      ))
    )) :
  sk_C sk_Sc d mX2_single [.ref 43, .int v1] τ K := by
  refine sk_enter mfX2_single (Nat.le_of_ble_eq_true rfl) ?_
  show sk_G sk_Sc d mX2_single 0 [(0, .ref 43), (1, .int v1)] [] τ K
  refine sk_aload_n 0 1 dX2_single_0 rfl rfl rfl ?_
  refine sk_callVi [] [] 4 dX2_single_1 rfl mfX2_sign lkX2_51 miX2_sign msX2_sign sc_43 rfl rfl rfl rfl (by simp [Value.category]) hd0 (sk_Cm h ?_)
  rintro w t1 ⟨r1, hw, h⟩
  refine ⟨r1, hw, ?_⟩
  refine sk_istore_n (lv2 := [(2, .int r1), (0, .ref 43), (1, .int v1)]) 5 dX2_single_4 rfl rfl (by decide) rfl ?_
  refine sk_iload_n 0 6 dX2_single_5 rfl rfl rfl ?_
  refine sk_bipush (v := 48) 8 dX2_single_6 rfl (by decide) ?_
  refine sk_icmp_lt 23 11 dX2_single_8 (by decide) rfl (fun hc => ?_) (fun hc => ?_)
  · have h := h.1 hc
    refine sk_iload_n 0 24 dX2_single_23 rfl rfl rfl ?_
    refine sk_bipush (v := 33) 26 dX2_single_24 rfl (by decide) ?_
    refine sk_icmp_eq 35 29 dX2_single_26 (by decide) rfl (fun hc => ?_) (fun hc => ?_)
    · have h := h.1 hc
      refine sk_iload_n 2 36 dX2_single_35 rfl rfl rfl ?_
      refine sk_iconst (v := 5) 37 dX2_single_36 rfl (by decide) ?_
      refine sk_icmp_ge 55 40 dX2_single_37 (by decide) rfl (fun hc => ?_) (fun hc => ?_)
      · have h := h.1 hc
        refine sk_iconst (v := 0) 56 dX2_single_55 rfl (by decide) ?_
        exact sk_iret dX2_single_56 rfl rfl h
      · have h := h.2 hc
        refine sk_aload_n 1 41 dX2_single_40 rfl rfl rfl ?_
        refine sk_iload_n 0 42 dX2_single_41 rfl rfl rfl ?_
        refine sk_iload_n 2 43 dX2_single_42 rfl rfl rfl ?_
        refine sk_iconst (v := 1) 44 dX2_single_43 rfl (by decide) ?_
        refine sk_iadd 45 dX2_single_44 rfl ?_
        refine sk_callVi [.int r1, .int (v1 + 1)] [] 48 dX2_single_45 rfl mfX2_opened lkX2_76 miX2_opened msX2_opened sc_43 rfl rfl rfl rfl (by simp [Value.category]) hd0 (sk_Cm h ?_)
        rintro w t45 ⟨r45, hw, h⟩
        refine ⟨r45, hw, ?_⟩
        refine sk_if_eq 55 51 dX2_single_48 (by decide) rfl (fun hc => ?_) (fun hc => ?_)
        · have h := h.1 hc
          refine sk_iconst (v := 0) 56 dX2_single_55 rfl (by decide) ?_
          exact sk_iret dX2_single_56 rfl rfl h
        · have h := h.2 hc
          refine sk_iconst (v := 1) 52 dX2_single_51 rfl (by decide) ?_
          refine sk_goto 56 dX2_single_52 (by decide) ?_
          exact sk_iret dX2_single_56 rfl rfl h
    · have h := h.2 hc
      refine sk_iload_n 0 30 dX2_single_29 rfl rfl rfl ?_
      refine sk_bipush (v := 40) 32 dX2_single_30 rfl (by decide) ?_
      refine sk_icmp_ne 57 35 dX2_single_32 (by decide) rfl (fun hc => ?_) (fun hc => ?_)
      · have h := h.1 hc
        refine sk_iconst (v := 0) 58 dX2_single_57 rfl (by decide) ?_
        refine sk_istore_n (lv2 := [(3, .int 0), (2, .int r1), (0, .ref 43), (1, .int v1)]) 59 dX2_single_58 rfl rfl (by decide) rfl ?_
        refine sk_perm (lv2 := [(0, .ref 43), (2, .int r1), (3, .int 0)]) [2, 1, 0] rfl ?_
        exact h
      · have h := h.2 hc
        refine sk_iload_n 2 36 dX2_single_35 rfl rfl rfl ?_
        refine sk_iconst (v := 5) 37 dX2_single_36 rfl (by decide) ?_
        refine sk_icmp_ge 55 40 dX2_single_37 (by decide) rfl (fun hc => ?_) (fun hc => ?_)
        · have h := h.1 hc
          refine sk_iconst (v := 0) 56 dX2_single_55 rfl (by decide) ?_
          exact sk_iret dX2_single_56 rfl rfl h
        · have h := h.2 hc
          refine sk_aload_n 1 41 dX2_single_40 rfl rfl rfl ?_
          refine sk_iload_n 0 42 dX2_single_41 rfl rfl rfl ?_
          refine sk_iload_n 2 43 dX2_single_42 rfl rfl rfl ?_
          refine sk_iconst (v := 1) 44 dX2_single_43 rfl (by decide) ?_
          refine sk_iadd 45 dX2_single_44 rfl ?_
          refine sk_callVi [.int r1, .int (v1 + 1)] [] 48 dX2_single_45 rfl mfX2_opened lkX2_76 miX2_opened msX2_opened sc_43 rfl rfl rfl rfl (by simp [Value.category]) hd0 (sk_Cm h ?_)
          rintro w t45 ⟨r45, hw, h⟩
          refine ⟨r45, hw, ?_⟩
          refine sk_if_eq 55 51 dX2_single_48 (by decide) rfl (fun hc => ?_) (fun hc => ?_)
          · have h := h.1 hc
            refine sk_iconst (v := 0) 56 dX2_single_55 rfl (by decide) ?_
            exact sk_iret dX2_single_56 rfl rfl h
          · have h := h.2 hc
            refine sk_iconst (v := 1) 52 dX2_single_51 rfl (by decide) ?_
            refine sk_goto 56 dX2_single_52 (by decide) ?_
            exact sk_iret dX2_single_56 rfl rfl h
  · have h := h.2 hc
    refine sk_iload_n 0 12 dX2_single_11 rfl rfl rfl ?_
    refine sk_bipush (v := 57) 14 dX2_single_12 rfl (by decide) ?_
    refine sk_icmp_gt 23 17 dX2_single_14 (by decide) rfl (fun hc => ?_) (fun hc => ?_)
    · have h := h.1 hc
      refine sk_iload_n 0 24 dX2_single_23 rfl rfl rfl ?_
      refine sk_bipush (v := 33) 26 dX2_single_24 rfl (by decide) ?_
      refine sk_icmp_eq 35 29 dX2_single_26 (by decide) rfl (fun hc => ?_) (fun hc => ?_)
      · have h := h.1 hc
        refine sk_iload_n 2 36 dX2_single_35 rfl rfl rfl ?_
        refine sk_iconst (v := 5) 37 dX2_single_36 rfl (by decide) ?_
        refine sk_icmp_ge 55 40 dX2_single_37 (by decide) rfl (fun hc => ?_) (fun hc => ?_)
        · have h := h.1 hc
          refine sk_iconst (v := 0) 56 dX2_single_55 rfl (by decide) ?_
          exact sk_iret dX2_single_56 rfl rfl h
        · have h := h.2 hc
          refine sk_aload_n 1 41 dX2_single_40 rfl rfl rfl ?_
          refine sk_iload_n 0 42 dX2_single_41 rfl rfl rfl ?_
          refine sk_iload_n 2 43 dX2_single_42 rfl rfl rfl ?_
          refine sk_iconst (v := 1) 44 dX2_single_43 rfl (by decide) ?_
          refine sk_iadd 45 dX2_single_44 rfl ?_
          refine sk_callVi [.int r1, .int (v1 + 1)] [] 48 dX2_single_45 rfl mfX2_opened lkX2_76 miX2_opened msX2_opened sc_43 rfl rfl rfl rfl (by simp [Value.category]) hd0 (sk_Cm h ?_)
          rintro w t45 ⟨r45, hw, h⟩
          refine ⟨r45, hw, ?_⟩
          refine sk_if_eq 55 51 dX2_single_48 (by decide) rfl (fun hc => ?_) (fun hc => ?_)
          · have h := h.1 hc
            refine sk_iconst (v := 0) 56 dX2_single_55 rfl (by decide) ?_
            exact sk_iret dX2_single_56 rfl rfl h
          · have h := h.2 hc
            refine sk_iconst (v := 1) 52 dX2_single_51 rfl (by decide) ?_
            refine sk_goto 56 dX2_single_52 (by decide) ?_
            exact sk_iret dX2_single_56 rfl rfl h
      · have h := h.2 hc
        refine sk_iload_n 0 30 dX2_single_29 rfl rfl rfl ?_
        refine sk_bipush (v := 40) 32 dX2_single_30 rfl (by decide) ?_
        refine sk_icmp_ne 57 35 dX2_single_32 (by decide) rfl (fun hc => ?_) (fun hc => ?_)
        · have h := h.1 hc
          refine sk_iconst (v := 0) 58 dX2_single_57 rfl (by decide) ?_
          refine sk_istore_n (lv2 := [(3, .int 0), (2, .int r1), (0, .ref 43), (1, .int v1)]) 59 dX2_single_58 rfl rfl (by decide) rfl ?_
          refine sk_perm (lv2 := [(0, .ref 43), (2, .int r1), (3, .int 0)]) [2, 1, 0] rfl ?_
          exact h
        · have h := h.2 hc
          refine sk_iload_n 2 36 dX2_single_35 rfl rfl rfl ?_
          refine sk_iconst (v := 5) 37 dX2_single_36 rfl (by decide) ?_
          refine sk_icmp_ge 55 40 dX2_single_37 (by decide) rfl (fun hc => ?_) (fun hc => ?_)
          · have h := h.1 hc
            refine sk_iconst (v := 0) 56 dX2_single_55 rfl (by decide) ?_
            exact sk_iret dX2_single_56 rfl rfl h
          · have h := h.2 hc
            refine sk_aload_n 1 41 dX2_single_40 rfl rfl rfl ?_
            refine sk_iload_n 0 42 dX2_single_41 rfl rfl rfl ?_
            refine sk_iload_n 2 43 dX2_single_42 rfl rfl rfl ?_
            refine sk_iconst (v := 1) 44 dX2_single_43 rfl (by decide) ?_
            refine sk_iadd 45 dX2_single_44 rfl ?_
            refine sk_callVi [.int r1, .int (v1 + 1)] [] 48 dX2_single_45 rfl mfX2_opened lkX2_76 miX2_opened msX2_opened sc_43 rfl rfl rfl rfl (by simp [Value.category]) hd0 (sk_Cm h ?_)
            rintro w t45 ⟨r45, hw, h⟩
            refine ⟨r45, hw, ?_⟩
            refine sk_if_eq 55 51 dX2_single_48 (by decide) rfl (fun hc => ?_) (fun hc => ?_)
            · have h := h.1 hc
              refine sk_iconst (v := 0) 56 dX2_single_55 rfl (by decide) ?_
              exact sk_iret dX2_single_56 rfl rfl h
            · have h := h.2 hc
              refine sk_iconst (v := 1) 52 dX2_single_51 rfl (by decide) ?_
              refine sk_goto 56 dX2_single_52 (by decide) ?_
              exact sk_iret dX2_single_56 rfl rfl h
    · have h := h.2 hc
      refine sk_aload_n 1 18 dX2_single_17 rfl rfl rfl ?_
      refine sk_callVv [] [] 21 dX2_single_18 rfl mfX2_number lkX2_73 miX2_number msX2_number sc_43 rfl rfl rfl rfl (by simp [Value.category]) hd0 (sk_Cm h ?_)
      rintro w t18 ⟨hw, h⟩
      refine ⟨hw, ?_⟩
      refine sk_iconst (v := 1) 22 dX2_single_21 rfl (by decide) ?_
      exact sk_iret dX2_single_22 rfl rfl h

theorem bX2_single_59 {d : Nat} {τ : sk_T} {K : sk_K} {v2 : Int32} {v3 : Int32} (hd0 : 0 < d)
  (h : ((3 ≤ v3 →
      K (some (.int 0)) τ
    ) ∧
    (¬ 3 ≤ v3 →
      vp_in (((τ 43 3) * 3) + v3) 6 ∧
      ((¬ v2 = (sk_names ((((τ 43 3) * 3) + v3)).toNatClampNeg) →
        sk_G sk_Sc d mX2_single 59 [(0, .ref 43), (2, .int v2), (3, .int (v3 + 1))] [] τ K
      ) ∧
      (v2 = (sk_names ((((τ 43 3) * 3) + v3)).toNatClampNeg) →
        sk_C sk_Sc (d - 1) mX2_emit [.ref 43, .int ((-3) + v3)] (sk_u τ 43 2 ((τ 43 2) + 1)) (fun w t95 => w = none ∧
          K (some (.int 1)) t95
        )
      ))
    ))) :
  sk_G sk_Sc d mX2_single 59 [(0, .ref 43), (2, .int v2), (3, .int v3)] [] τ K := by
  refine sk_iload_n 2 60 dX2_single_59 rfl rfl rfl ?_
  refine sk_iconst (v := 3) 61 dX2_single_60 rfl (by decide) ?_
  refine sk_icmp_ge 106 64 dX2_single_61 (by decide) rfl (fun hc => ?_) (fun hc => ?_)
  · have h := h.1 hc
    refine sk_iconst (v := 0) 107 dX2_single_106 rfl (by decide) ?_
    exact sk_iret dX2_single_107 rfl rfl h
  · have h := h.2 hc
    refine sk_iload_n 1 65 dX2_single_64 rfl rfl rfl ?_
    refine sk_gsN 68 dX2_single_65 rfl flX2_80 ?_
    refine sk_aload_n 0 69 dX2_single_68 rfl rfl rfl ?_
    refine sk_getI 72 dX2_single_69 rfl lfX2_22 sc_43 rfl ?_
    refine sk_iconst (v := 3) 73 dX2_single_72 rfl (by decide) ?_
    refine sk_imul 74 dX2_single_73 rfl ?_
    refine sk_iload_n 2 75 dX2_single_74 rfl rfl rfl ?_
    refine sk_iadd 76 dX2_single_75 rfl ?_
    have hb76 := h.1
    have h := h.2
    refine sk_ldN 77 dX2_single_76 rfl hb76 _ rfl ?_
    refine sk_icmp_ne 100 80 dX2_single_77 (by decide) rfl (fun hc => ?_) (fun hc => ?_)
    · have h := h.1 hc
      refine sk_iinc (v := (v3 + 1)) (lv2 := [(3, .int (v3 + 1)), (0, .ref 43), (2, .int v2)]) 2 103 dX2_single_100 rfl rfl rfl (by decide) rfl ?_
      refine sk_goto 59 dX2_single_103 (by decide) ?_
      refine sk_perm (lv2 := [(0, .ref 43), (2, .int v2), (3, .int (v3 + 1))]) [1, 2, 0] rfl ?_
      exact h
    · have h := h.2 hc
      refine sk_aload_n 0 81 dX2_single_80 rfl rfl rfl ?_
      refine sk_dup 82 dX2_single_81 rfl rfl ?_
      refine sk_getI 85 dX2_single_82 rfl lfX2_19 sc_43 rfl ?_
      refine sk_iconst (v := 1) 86 dX2_single_85 rfl (by decide) ?_
      refine sk_iadd 87 dX2_single_86 rfl ?_
      refine sk_putI 90 dX2_single_87 rfl lpX2_19 sc_43 rfl ?_
      refine sk_aload_n 0 91 dX2_single_90 rfl rfl rfl ?_
      refine sk_bipush (v := (-3)) 93 dX2_single_91 rfl (by decide) ?_
      refine sk_iload_n 2 94 dX2_single_93 rfl rfl rfl ?_
      refine sk_iadd 95 dX2_single_94 rfl ?_
      refine sk_callVv [.int ((-3) + v3)] [] 98 dX2_single_95 rfl mfX2_emit lkX2_57 miX2_emit msX2_emit sc_43 rfl rfl rfl rfl (by simp [Value.category]) hd0 (sk_Cm h ?_)
      rintro w t95 ⟨hw, h⟩
      refine ⟨hw, ?_⟩
      refine sk_iconst (v := 1) 99 dX2_single_98 rfl (by decide) ?_
      exact sk_iret dX2_single_99 rfl rfl h

theorem wX2_opened {d : Nat} {τ : sk_T} {K : sk_K} {v1 : Int32} {v2 : Int32} (hd0 : 0 < d)
  (h : ((¬ v1 = 33 →
      sk_C sk_Sc (d - 1) mX2_any [.ref 43, .int v2] (sk_u τ 43 2 ((τ 43 2) + 1)) (fun w t32 => ∃ r32 : Int32, w = some (.int r32) ∧
        ((r32 = 0 →
          K (some (.int 0)) t32
        ) ∧
        (¬ r32 = 0 →
          sk_C sk_Sc (d - 1) mX2_sign [.ref 43] t32 (fun w t39 => ∃ r39 : Int32, w = some (.int r39) ∧
            ((r39 = 41 →
              K (some (.int 1)) (sk_u t39 43 2 ((t39 43 2) + 1))
            ) ∧
            (¬ r39 = 41 →
              K (some (.int 0)) t39
            ))
          )
        ))
      )
    ) ∧
    (v1 = 33 →
      sk_C sk_Sc (d - 1) mX2_single [.ref 43, .int v2] (sk_u τ 43 2 ((τ 43 2) + 1)) (fun w t18 => ∃ r18 : Int32, w = some (.int r18) ∧
        sk_C sk_Sc (d - 1) mX2_emit [.ref 43, .int (-4)] t18 (fun w t25 => w = none ∧
          r18 &&& 1 = r18 ∧
          K (some (.int r18)) t25
        )
      )
    ))) :
  sk_C sk_Sc d mX2_opened [.ref 43, .int v1, .int v2] τ K := by
  refine sk_enter mfX2_opened (Nat.le_of_ble_eq_true rfl) ?_
  show sk_G sk_Sc d mX2_opened 0 [(0, .ref 43), (1, .int v1), (2, .int v2)] [] τ K
  refine sk_aload_n 0 1 dX2_opened_0 rfl rfl rfl ?_
  refine sk_dup 2 dX2_opened_1 rfl rfl ?_
  refine sk_getI 5 dX2_opened_2 rfl lfX2_19 sc_43 rfl ?_
  refine sk_iconst (v := 1) 6 dX2_opened_5 rfl (by decide) ?_
  refine sk_iadd 7 dX2_opened_6 rfl ?_
  refine sk_putI 10 dX2_opened_7 rfl lpX2_19 sc_43 rfl ?_
  refine sk_iload_n 1 11 dX2_opened_10 rfl rfl rfl ?_
  refine sk_bipush (v := 33) 13 dX2_opened_11 rfl (by decide) ?_
  refine sk_icmp_ne 30 16 dX2_opened_13 (by decide) rfl (fun hc => ?_) (fun hc => ?_)
  · have h := h.1 hc
    refine sk_aload_n 0 31 dX2_opened_30 rfl rfl rfl ?_
    refine sk_iload_n 2 32 dX2_opened_31 rfl rfl rfl ?_
    refine sk_callVi [.int v2] [] 35 dX2_opened_32 rfl mfX2_any lkX2_44 miX2_any msX2_any sc_43 rfl rfl rfl rfl (by simp [Value.category]) hd0 (sk_Cm h ?_)
    rintro w t32 ⟨r32, hw, h⟩
    refine ⟨r32, hw, ?_⟩
    refine sk_if_eq 47 38 dX2_opened_35 (by decide) rfl (fun hc => ?_) (fun hc => ?_)
    · have h := h.1 hc
      refine sk_iconst (v := 0) 48 dX2_opened_47 rfl (by decide) ?_
      exact sk_iret dX2_opened_48 rfl rfl h
    · have h := h.2 hc
      refine sk_aload_n 0 39 dX2_opened_38 rfl rfl rfl ?_
      refine sk_callVi [] [] 42 dX2_opened_39 rfl mfX2_sign lkX2_51 miX2_sign msX2_sign sc_43 rfl rfl rfl rfl (by simp [Value.category]) hd0 (sk_Cm h ?_)
      rintro w t39 ⟨r39, hw, h⟩
      refine ⟨r39, hw, ?_⟩
      refine sk_bipush (v := 41) 44 dX2_opened_42 rfl (by decide) ?_
      refine sk_icmp_eq 49 47 dX2_opened_44 (by decide) rfl (fun hc => ?_) (fun hc => ?_)
      · have h := h.1 hc
        refine sk_aload_n 0 50 dX2_opened_49 rfl rfl rfl ?_
        refine sk_dup 51 dX2_opened_50 rfl rfl ?_
        refine sk_getI 54 dX2_opened_51 rfl lfX2_19 sc_43 rfl ?_
        refine sk_iconst (v := 1) 55 dX2_opened_54 rfl (by decide) ?_
        refine sk_iadd 56 dX2_opened_55 rfl ?_
        refine sk_putI 59 dX2_opened_56 rfl lpX2_19 sc_43 rfl ?_
        refine sk_iconst (v := 1) 60 dX2_opened_59 rfl (by decide) ?_
        exact sk_iret dX2_opened_60 rfl rfl h
      · have h := h.2 hc
        refine sk_iconst (v := 0) 48 dX2_opened_47 rfl (by decide) ?_
        exact sk_iret dX2_opened_48 rfl rfl h
  · have h := h.2 hc
    refine sk_aload_n 0 17 dX2_opened_16 rfl rfl rfl ?_
    refine sk_iload_n 2 18 dX2_opened_17 rfl rfl rfl ?_
    refine sk_callVi [.int v2] [] 21 dX2_opened_18 rfl mfX2_single lkX2_70 miX2_single msX2_single sc_43 rfl rfl rfl rfl (by simp [Value.category]) hd0 (sk_Cm h ?_)
    rintro w t18 ⟨r18, hw, h⟩
    refine ⟨r18, hw, ?_⟩
    refine sk_istore_n (lv2 := [(3, .int r18), (0, .ref 43), (1, .int v1), (2, .int v2)]) 22 dX2_opened_21 rfl rfl (by decide) rfl ?_
    refine sk_aload_n 1 23 dX2_opened_22 rfl rfl rfl ?_
    refine sk_bipush (v := (-4)) 25 dX2_opened_23 rfl (by decide) ?_
    refine sk_callVv [.int (-4)] [] 28 dX2_opened_25 rfl mfX2_emit lkX2_57 miX2_emit msX2_emit sc_43 rfl rfl rfl rfl (by simp [Value.category]) hd0 (sk_Cm h ?_)
    rintro w t25 ⟨hw, h⟩
    refine ⟨hw, ?_⟩
    refine sk_iload_n 0 29 dX2_opened_28 rfl rfl rfl ?_
    exact sk_iret dX2_opened_29 rfl (congrArg Value.int h.1) h.2

theorem wX2_number {d : Nat} {τ : sk_T} {K : sk_K}
  (h : sk_G sk_Sc d mX2_number 4 [(0, .ref 43), (1, .int 0), (2, .int 0)] [] τ K) :
  sk_C sk_Sc d mX2_number [.ref 43] τ K := by
  refine sk_enter mfX2_number (Nat.le_of_ble_eq_true rfl) ?_
  show sk_G sk_Sc d mX2_number 0 [(0, .ref 43)] [] τ K
  refine sk_iconst (v := 0) 1 dX2_number_0 rfl (by decide) ?_
  refine sk_istore_n (lv2 := [(1, .int 0), (0, .ref 43)]) 2 dX2_number_1 rfl rfl (by decide) rfl ?_
  refine sk_iconst (v := 0) 3 dX2_number_2 rfl (by decide) ?_
  refine sk_istore_n (lv2 := [(2, .int 0), (1, .int 0), (0, .ref 43)]) 4 dX2_number_3 rfl rfl (by decide) rfl ?_
  refine sk_perm (lv2 := [(0, .ref 43), (1, .int 0), (2, .int 0)]) [2, 1, 0] rfl ?_
  exact h

theorem bX2_number_4 {d : Nat} {τ : sk_T} {K : sk_K} {v1 : Int32} {v2 : Int32} (hd0 : 0 < d)
  (h : ((4 ≤ v2 →
      sk_C sk_Sc (d - 1) mX2_emit [.ref 43, .int v1] τ (fun w t58 => w = none ∧
        K none t58
      )
    ) ∧
    (¬ 4 ≤ v2 →
      sk_C sk_Sc (d - 1) mX2_sign [.ref 43] τ (fun w t10 => ∃ r10 : Int32, w = some (.int r10) ∧
        ((r10 < 48 →
          sk_C sk_Sc (d - 1) mX2_emit [.ref 43, .int v1] t10 (fun w t58 => w = none ∧
            K none t58
          )
        ) ∧
        (¬ r10 < 48 →
          sk_C sk_Sc (d - 1) mX2_sign [.ref 43] t10 (fun w t19 => ∃ r19 : Int32, w = some (.int r19) ∧
            ((57 < r19 →
              sk_C sk_Sc (d - 1) mX2_emit [.ref 43, .int v1] t19 (fun w t58 => w = none ∧
                K none t58
              )
            ) ∧
            (¬ 57 < r19 →
              sk_C sk_Sc (d - 1) mX2_sign [.ref 43] t19 (fun w t32 => ∃ r32 : Int32, w = some (.int r32) ∧
                sk_G sk_Sc d mX2_number 4 [(0, .ref 43), (1, .int (((v1 * 10) + r32) - 48)), (2, .int (v2 + 1))] [] (sk_u t32 43 2 ((t32 43 2) + 1)) K
              )
            ))
          )
        ))
      )
    ))) :
  sk_G sk_Sc d mX2_number 4 [(0, .ref 43), (1, .int v1), (2, .int v2)] [] τ K := by
  refine sk_iload_n 2 5 dX2_number_4 rfl rfl rfl ?_
  refine sk_iconst (v := 4) 6 dX2_number_5 rfl (by decide) ?_
  refine sk_icmp_ge 56 9 dX2_number_6 (by decide) rfl (fun hc => ?_) (fun hc => ?_)
  · have h := h.1 hc
    refine sk_aload_n 0 57 dX2_number_56 rfl rfl rfl ?_
    refine sk_iload_n 1 58 dX2_number_57 rfl rfl rfl ?_
    refine sk_callVv [.int v1] [] 61 dX2_number_58 rfl mfX2_emit lkX2_57 miX2_emit msX2_emit sc_43 rfl rfl rfl rfl (by simp [Value.category]) hd0 (sk_Cm h ?_)
    rintro w t58 ⟨hw, h⟩
    refine ⟨hw, ?_⟩
    exact sk_vret dX2_number_61 rfl h
  · have h := h.2 hc
    refine sk_aload_n 0 10 dX2_number_9 rfl rfl rfl ?_
    refine sk_callVi [] [] 13 dX2_number_10 rfl mfX2_sign lkX2_51 miX2_sign msX2_sign sc_43 rfl rfl rfl rfl (by simp [Value.category]) hd0 (sk_Cm h ?_)
    rintro w t10 ⟨r10, hw, h⟩
    refine ⟨r10, hw, ?_⟩
    refine sk_bipush (v := 48) 15 dX2_number_13 rfl (by decide) ?_
    refine sk_icmp_lt 56 18 dX2_number_15 (by decide) rfl (fun hc => ?_) (fun hc => ?_)
    · have h := h.1 hc
      refine sk_aload_n 0 57 dX2_number_56 rfl rfl rfl ?_
      refine sk_iload_n 1 58 dX2_number_57 rfl rfl rfl ?_
      refine sk_callVv [.int v1] [] 61 dX2_number_58 rfl mfX2_emit lkX2_57 miX2_emit msX2_emit sc_43 rfl rfl rfl rfl (by simp [Value.category]) hd0 (sk_Cm h ?_)
      rintro w t58 ⟨hw, h⟩
      refine ⟨hw, ?_⟩
      exact sk_vret dX2_number_61 rfl h
    · have h := h.2 hc
      refine sk_aload_n 0 19 dX2_number_18 rfl rfl rfl ?_
      refine sk_callVi [] [] 22 dX2_number_19 rfl mfX2_sign lkX2_51 miX2_sign msX2_sign sc_43 rfl rfl rfl rfl (by simp [Value.category]) hd0 (sk_Cm h ?_)
      rintro w t19 ⟨r19, hw, h⟩
      refine ⟨r19, hw, ?_⟩
      refine sk_bipush (v := 57) 24 dX2_number_22 rfl (by decide) ?_
      refine sk_icmp_gt 56 27 dX2_number_24 (by decide) rfl (fun hc => ?_) (fun hc => ?_)
      · have h := h.1 hc
        refine sk_aload_n 0 57 dX2_number_56 rfl rfl rfl ?_
        refine sk_iload_n 1 58 dX2_number_57 rfl rfl rfl ?_
        refine sk_callVv [.int v1] [] 61 dX2_number_58 rfl mfX2_emit lkX2_57 miX2_emit msX2_emit sc_43 rfl rfl rfl rfl (by simp [Value.category]) hd0 (sk_Cm h ?_)
        rintro w t58 ⟨hw, h⟩
        refine ⟨hw, ?_⟩
        exact sk_vret dX2_number_61 rfl h
      · have h := h.2 hc
        refine sk_iload_n 1 28 dX2_number_27 rfl rfl rfl ?_
        refine sk_bipush (v := 10) 30 dX2_number_28 rfl (by decide) ?_
        refine sk_imul 31 dX2_number_30 rfl ?_
        refine sk_aload_n 0 32 dX2_number_31 rfl rfl rfl ?_
        refine sk_callVi [] [.int (v1 * 10)] 35 dX2_number_32 rfl mfX2_sign lkX2_51 miX2_sign msX2_sign sc_43 rfl rfl rfl rfl (by simp [Value.category]) hd0 (sk_Cm h ?_)
        rintro w t32 ⟨r32, hw, h⟩
        refine ⟨r32, hw, ?_⟩
        refine sk_iadd 36 dX2_number_35 rfl ?_
        refine sk_bipush (v := 48) 38 dX2_number_36 rfl (by decide) ?_
        refine sk_isub 39 dX2_number_38 rfl ?_
        refine sk_istore_n (lv2 := [(1, .int (((v1 * 10) + r32) - 48)), (0, .ref 43), (2, .int v2)]) 40 dX2_number_39 rfl rfl (by decide) rfl ?_
        refine sk_aload_n 1 41 dX2_number_40 rfl rfl rfl ?_
        refine sk_dup 42 dX2_number_41 rfl rfl ?_
        refine sk_getI 45 dX2_number_42 rfl lfX2_19 sc_43 rfl ?_
        refine sk_iconst (v := 1) 46 dX2_number_45 rfl (by decide) ?_
        refine sk_iadd 47 dX2_number_46 rfl ?_
        refine sk_putI 50 dX2_number_47 rfl lpX2_19 sc_43 rfl ?_
        refine sk_iinc (v := (v2 + 1)) (lv2 := [(2, .int (v2 + 1)), (1, .int (((v1 * 10) + r32) - 48)), (0, .ref 43)]) 2 53 dX2_number_50 rfl rfl rfl (by decide) rfl ?_
        refine sk_goto 4 dX2_number_53 (by decide) ?_
        refine sk_perm (lv2 := [(0, .ref 43), (1, .int (((v1 * 10) + r32) - 48)), (2, .int (v2 + 1))]) [2, 1, 0] rfl ?_
        exact h

