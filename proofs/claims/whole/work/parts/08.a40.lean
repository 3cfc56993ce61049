theorem wX4_isMissing {d : Nat} {τ : sk_T} {K : sk_K} {q qn : Nat} (hq : sk_Sc[q]? = some (0, 4, [0, 0, qn + 2])) (hqn : sk_Sc[qn]? = some (1, 24, []))
  (h : ((¬ (τ q 0) = 0 →
      K (some (.int 0)) τ
    ) ∧
    ((τ q 0) = 0 →
      K (some (.int 1)) τ
    ))) :
  sk_C sk_Sc d mX4_isMissing [.ref q] τ K := by
  refine sk_enter mfX4_isMissing (Nat.le_of_ble_eq_true rfl) ?_
  show sk_G sk_Sc d mX4_isMissing 0 [(0, .ref q)] [] τ K
  refine sk_aload_n 0 1 dX4_isMissing_0 rfl rfl rfl ?_
  refine sk_getI 4 dX4_isMissing_1 rfl lfX4_9 hq rfl ?_
  refine sk_if_ne 11 7 dX4_isMissing_4 (by decide) rfl (fun hc => ?_) (fun hc => ?_)
  · have h := h.1 hc
    refine sk_iconst (v := 0) 12 dX4_isMissing_11 rfl (by decide) ?_
    exact sk_iret dX4_isMissing_12 rfl rfl h
  · have h := h.2 hc
    refine sk_iconst (v := 1) 8 dX4_isMissing_7 rfl (by decide) ?_
    refine sk_goto 12 dX4_isMissing_8 (by decide) ?_
    exact sk_iret dX4_isMissing_12 rfl rfl h

theorem wX4_begin {d : Nat} {τ : sk_T} {K : sk_K} {q qn : Nat} (hq : sk_Sc[q]? = some (0, 4, [0, 0, qn + 2])) (hqn : sk_Sc[qn]? = some (1, 24, [])) {v1 : Int32} {v2 : Int32}
  (h : sk_G sk_Sc d mX4_begin 12 [(0, .ref q), (3, .int 0)] [] (sk_u (sk_u τ q 0 v1) q 1 v2) K) :
  sk_C sk_Sc d mX4_begin [.ref q, .int v1, .int v2] τ K := by
  refine sk_enter mfX4_begin (Nat.le_of_ble_eq_true rfl) ?_
  show sk_G sk_Sc d mX4_begin 0 [(0, .ref q), (1, .int v1), (2, .int v2)] [] τ K
  refine sk_aload_n 0 1 dX4_begin_0 rfl rfl rfl ?_
  refine sk_iload_n 1 2 dX4_begin_1 rfl rfl rfl ?_
  refine sk_putI 5 dX4_begin_2 rfl lpX4_9 hq rfl ?_
  refine sk_aload_n 0 6 dX4_begin_5 rfl rfl rfl ?_
  refine sk_iload_n 2 7 dX4_begin_6 rfl rfl rfl ?_
  refine sk_putI 10 dX4_begin_7 rfl lpX4_15 hq rfl ?_
  refine sk_iconst (v := 0) 11 dX4_begin_10 rfl (by decide) ?_
  refine sk_istore_n (lv2 := [(3, .int 0), (0, .ref q), (1, .int v1), (2, .int v2)]) 12 dX4_begin_11 rfl rfl (by decide) rfl ?_
  refine sk_perm (lv2 := [(0, .ref q), (3, .int 0)]) [1, 0] rfl ?_
  exact h

theorem bX4_begin_12 {d : Nat} {τ : sk_T} {K : sk_K} {q qn : Nat} (hq : sk_Sc[q]? = some (0, 4, [0, 0, qn + 2])) (hqn : sk_Sc[qn]? = some (1, 24, [])) {v3 : Int32}
  (h : ((24 ≤ v3 →
      K none τ
    ) ∧
    (¬ 24 ≤ v3 →
      vp_in v3 24 ∧
      sk_G sk_Sc d mX4_begin 12 [(0, .ref q), (3, .int (v3 + 1))] [] (sk_u τ qn (v3).toNatClampNeg 0) K
    ))) :
  sk_G sk_Sc d mX4_begin 12 [(0, .ref q), (3, .int v3)] [] τ K := by
  refine sk_iload_n 1 13 dX4_begin_12 rfl rfl rfl ?_
  refine sk_bipush (v := 24) 15 dX4_begin_13 rfl (by decide) ?_
  refine sk_icmp_ge 31 18 dX4_begin_15 (by decide) rfl (fun hc => ?_) (fun hc => ?_)
  · have h := h.1 hc
    exact sk_vret dX4_begin_31 rfl h
  · have h := h.2 hc
    refine sk_aload_n 0 19 dX4_begin_18 rfl rfl rfl ?_
    refine sk_getR (r := qn) 22 dX4_begin_19 rfl lfX4_18 hq rfl ?_
    refine sk_iload_n 1 23 dX4_begin_22 rfl rfl rfl ?_
    refine sk_iconst (v := 0) 24 dX4_begin_23 rfl (by decide) ?_
    have hb24 := h.1
    have h := h.2
    refine sk_iast 25 dX4_begin_24 rfl hqn hb24 _ rfl ?_
    refine sk_iinc (v := (v3 + 1)) (lv2 := [(3, .int (v3 + 1)), (0, .ref q)]) 1 28 dX4_begin_25 rfl rfl rfl (by decide) rfl ?_
    refine sk_goto 12 dX4_begin_28 (by decide) ?_
    refine sk_perm (lv2 := [(0, .ref q), (3, .int (v3 + 1))]) [1, 0] rfl ?_
    exact h

theorem wX4_write {d : Nat} {τ : sk_T} {K : sk_K} {q qn : Nat} (hq : sk_Sc[q]? = some (0, 4, [0, 0, qn + 2])) (hqn : sk_Sc[qn]? = some (1, 24, [])) {v1 : Int32} {v2 : Int32}
  (h : ((¬ (τ q 0) = 8 →
      ((¬ (τ q 0) = 16 →
        vp_in v1 24 ∧
        K none (sk_u τ qn (v1).toNatClampNeg v2)
      ) ∧
      ((τ q 0) = 16 →
        vp_in v1 24 ∧
        K none (sk_u τ qn (v1).toNatClampNeg (v2).toInt16.toInt32)
      ))
    ) ∧
    ((τ q 0) = 8 →
      vp_in v1 24 ∧
      K none (sk_u τ qn (v1).toNatClampNeg (v2).toInt8.toInt32)
    ))) :
  sk_C sk_Sc d mX4_write [.ref q, .int v1, .int v2] τ K := by
  refine sk_enter mfX4_write (Nat.le_of_ble_eq_true rfl) ?_
  show sk_G sk_Sc d mX4_write 0 [(0, .ref q), (1, .int v1), (2, .int v2)] [] τ K
  refine sk_aload_n 0 1 dX4_write_0 rfl rfl rfl ?_
  refine sk_getR (r := qn) 4 dX4_write_1 rfl lfX4_18 hq rfl ?_
  refine sk_iload_n 1 5 dX4_write_4 rfl rfl rfl ?_
  refine sk_aload_n 0 6 dX4_write_5 rfl rfl rfl ?_
  refine sk_getI 9 dX4_write_6 rfl lfX4_9 hq rfl ?_
  refine sk_bipush (v := 8) 11 dX4_write_9 rfl (by decide) ?_
  refine sk_icmp_ne 19 14 dX4_write_11 (by decide) rfl (fun hc => ?_) (fun hc => ?_)
  · have h := h.1 hc
    refine sk_aload_n 0 20 dX4_write_19 rfl rfl rfl ?_
    refine sk_getI 23 dX4_write_20 rfl lfX4_9 hq rfl ?_
    refine sk_bipush (v := 16) 25 dX4_write_23 rfl (by decide) ?_
    refine sk_icmp_ne 33 28 dX4_write_25 (by decide) rfl (fun hc => ?_) (fun hc => ?_)
    · have h := h.1 hc
      refine sk_iload_n 2 34 dX4_write_33 rfl rfl rfl ?_
      have hb34 := h.1
      have h := h.2
      refine sk_iast 35 dX4_write_34 rfl hqn hb34 _ rfl ?_
      exact sk_vret dX4_write_35 rfl h
    · have h := h.2 hc
      refine sk_iload_n 2 29 dX4_write_28 rfl rfl rfl ?_
      refine sk_i2s 30 dX4_write_29 rfl ?_
      refine sk_goto 34 dX4_write_30 (by decide) ?_
      have hb34 := h.1
      have h := h.2
      refine sk_iast 35 dX4_write_34 rfl hqn hb34 _ rfl ?_
      exact sk_vret dX4_write_35 rfl h
  · have h := h.2 hc
    refine sk_iload_n 2 15 dX4_write_14 rfl rfl rfl ?_
    refine sk_i2b 16 dX4_write_15 rfl ?_
    refine sk_goto 34 dX4_write_16 (by decide) ?_
    have hb34 := h.1
    have h := h.2
    refine sk_iast 35 dX4_write_34 rfl hqn hb34 _ rfl ?_
    exact sk_vret dX4_write_35 rfl h

theorem wX4_has {d : Nat} {τ : sk_T} {K : sk_K} {q qn : Nat} (hq : sk_Sc[q]? = some (0, 4, [0, 0, qn + 2])) (hqn : sk_Sc[qn]? = some (1, 24, [])) {v1 : Int32} {v2 : Int32}
  (h : ((v2 < 0 →
      K (some (.int 0)) τ
    ) ∧
    (¬ v2 < 0 →
      ((v1 < 0 →
        K (some (.int 0)) τ
      ) ∧
      (¬ v1 < 0 →
        (((τ q 1) < v2 →
          K (some (.int 0)) τ
        ) ∧
        (¬ (τ q 1) < v2 →
          ((((τ q 1) - v2) < v1 →
            K (some (.int 0)) τ
          ) ∧
          (¬ ((τ q 1) - v2) < v1 →
            K (some (.int 1)) τ
          ))
        ))
      ))
    ))) :
  sk_C sk_Sc d mX4_has [.ref q, .int v1, .int v2] τ K := by
  refine sk_enter mfX4_has (Nat.le_of_ble_eq_true rfl) ?_
  show sk_G sk_Sc d mX4_has 0 [(0, .ref q), (1, .int v1), (2, .int v2)] [] τ K
  refine sk_iload_n 2 1 dX4_has_0 rfl rfl rfl ?_
  refine sk_if_lt 30 4 dX4_has_1 (by decide) rfl (fun hc => ?_) (fun hc => ?_)
  · have h := h.1 hc
    refine sk_iconst (v := 0) 31 dX4_has_30 rfl (by decide) ?_
    exact sk_iret dX4_has_31 rfl rfl h
  · have h := h.2 hc
    refine sk_iload_n 1 5 dX4_has_4 rfl rfl rfl ?_
    refine sk_if_lt 30 8 dX4_has_5 (by decide) rfl (fun hc => ?_) (fun hc => ?_)
    · have h := h.1 hc
      refine sk_iconst (v := 0) 31 dX4_has_30 rfl (by decide) ?_
      exact sk_iret dX4_has_31 rfl rfl h
    · have h := h.2 hc
      refine sk_iload_n 2 9 dX4_has_8 rfl rfl rfl ?_
      refine sk_aload_n 0 10 dX4_has_9 rfl rfl rfl ?_
      refine sk_getI 13 dX4_has_10 rfl lfX4_15 hq rfl ?_
      refine sk_icmp_gt 30 16 dX4_has_13 (by decide) rfl (fun hc => ?_) (fun hc => ?_)
      · have h := h.1 hc
        refine sk_iconst (v := 0) 31 dX4_has_30 rfl (by decide) ?_
        exact sk_iret dX4_has_31 rfl rfl h
      · have h := h.2 hc
        refine sk_iload_n 1 17 dX4_has_16 rfl rfl rfl ?_
        refine sk_aload_n 0 18 dX4_has_17 rfl rfl rfl ?_
        refine sk_getI 21 dX4_has_18 rfl lfX4_15 hq rfl ?_
        refine sk_iload_n 2 22 dX4_has_21 rfl rfl rfl ?_
        refine sk_isub 23 dX4_has_22 rfl ?_
        refine sk_icmp_gt 30 26 dX4_has_23 (by decide) rfl (fun hc => ?_) (fun hc => ?_)
        · have h := h.1 hc
          refine sk_iconst (v := 0) 31 dX4_has_30 rfl (by decide) ?_
          exact sk_iret dX4_has_31 rfl rfl h
        · have h := h.2 hc
          refine sk_iconst (v := 1) 27 dX4_has_26 rfl (by decide) ?_
          refine sk_goto 31 dX4_has_27 (by decide) ?_
          exact sk_iret dX4_has_31 rfl rfl h

theorem wX4_tellsRows {d : Nat} {τ : sk_T} {K : sk_K} {q qn : Nat} (hq : sk_Sc[q]? = some (0, 4, [0, 0, qn + 2])) (hqn : sk_Sc[qn]? = some (1, 24, [])) {v1 : Int64}
  (h : sk_G sk_Sc d mX4_tellsRows 2 [(0, .ref q), (1, .long v1), (3, .int 0)] [] τ K) :
  sk_C sk_Sc d mX4_tellsRows [.ref q, .long v1] τ K := by
  refine sk_enter mfX4_tellsRows (Nat.le_of_ble_eq_true rfl) ?_
  show sk_G sk_Sc d mX4_tellsRows 0 [(0, .ref q), (1, .long v1)] [] τ K
  refine sk_iconst (v := 0) 1 dX4_tellsRows_0 rfl (by decide) ?_
  refine sk_istore_n (lv2 := [(3, .int 0), (0, .ref q), (1, .long v1)]) 2 dX4_tellsRows_1 rfl rfl (by decide) rfl ?_
  refine sk_perm (lv2 := [(0, .ref q), (1, .long v1), (3, .int 0)]) [1, 2, 0] rfl ?_
  exact h

theorem bX4_tellsRows_2 {d : Nat} {τ : sk_T} {K : sk_K} {q qn : Nat} (hq : sk_Sc[q]? = some (0, 4, [0, 0, qn + 2])) (hqn : sk_Sc[qn]? = some (1, 24, [])) {v1 : Int64} {v3 : Int32} (hd0 : 0 < d)
  (h : (((τ q 1) ≤ v3 →
      K (some (.int 1)) τ
    ) ∧
    (¬ (τ q 1) ≤ v3 →
      ((6 ≤ v3 →
        K (some (.int 0)) τ
      ) ∧
      (¬ 6 ≤ v3 →
        vp_in v3 24 ∧
        sk_C sk_Sc (d - 1) mJ13_bitCount_95d88 [.long ((sk_lush v1 (v3 * 8)) &&& 255)] τ (fun w t32 => ∃ r32 : Int32, w = some (.int r32) ∧
          (((τ qn (v3).toNatClampNeg) = r32 →
            sk_G sk_Sc d mX4_tellsRows 2 [(0, .ref q), (1, .long v1), (3, .int (v3 + 1))] [] t32 K
          ) ∧
          (¬ (τ qn (v3).toNatClampNeg) = r32 →
            K (some (.int 0)) t32
          ))
        )
      ))
    ))) :
  sk_G sk_Sc d mX4_tellsRows 2 [(0, .ref q), (1, .long v1), (3, .int v3)] [] τ K := by
  refine sk_iload_n 2 3 dX4_tellsRows_2 rfl rfl rfl ?_
  refine sk_aload_n 0 4 dX4_tellsRows_3 rfl rfl rfl ?_
  refine sk_getI 7 dX4_tellsRows_4 rfl lfX4_15 hq rfl ?_
  refine sk_icmp_ge 46 10 dX4_tellsRows_7 (by decide) rfl (fun hc => ?_) (fun hc => ?_)
  · have h := h.1 hc
    refine sk_iconst (v := 1) 47 dX4_tellsRows_46 rfl (by decide) ?_
    exact sk_iret dX4_tellsRows_47 rfl rfl h
  · have h := h.2 hc
    refine sk_iload_n 2 11 dX4_tellsRows_10 rfl rfl rfl ?_
    refine sk_bipush (v := 6) 13 dX4_tellsRows_11 rfl (by decide) ?_
    refine sk_icmp_ge 38 16 dX4_tellsRows_13 (by decide) rfl (fun hc => ?_) (fun hc => ?_)
    · have h := h.1 hc
      refine sk_iconst (v := 0) 39 dX4_tellsRows_38 rfl (by decide) ?_
      exact sk_iret dX4_tellsRows_39 rfl rfl h
    · have h := h.2 hc
      refine sk_aload_n 0 17 dX4_tellsRows_16 rfl rfl rfl ?_
      refine sk_getR (r := qn) 20 dX4_tellsRows_17 rfl lfX4_18 hq rfl ?_
      refine sk_iload_n 2 21 dX4_tellsRows_20 rfl rfl rfl ?_
      have hb21 := h.1
      have h := h.2
      refine sk_iald 22 dX4_tellsRows_21 rfl hqn hb21 _ rfl ?_
      refine sk_lload_n 1 23 dX4_tellsRows_22 rfl rfl rfl ?_
      refine sk_iload_n 2 24 dX4_tellsRows_23 rfl rfl rfl ?_
      refine sk_bipush (v := 8) 26 dX4_tellsRows_24 rfl (by decide) ?_
      refine sk_imul 27 dX4_tellsRows_26 rfl ?_
      refine sk_lushr 28 dX4_tellsRows_27 rfl ?_
      refine sk_ldc2 31 dX4_tellsRows_28 rfl klX4_22 ?_
      refine sk_land 32 dX4_tellsRows_31 rfl ?_
      refine sk_callSi [.long ((sk_lush v1 (v3 * 8)) &&& 255)] [.int (τ qn (v3).toNatClampNeg)] 35 dX4_tellsRows_32 rfl mfJ13_bitCount_95d88 lkX4_24 miJ13_bitCount_95d88 rfl rfl (by simp [Value.category]) hd0 (sk_Cm h ?_)
      rintro w t32 ⟨r32, hw, h⟩
      refine ⟨r32, hw, ?_⟩
      refine sk_icmp_eq 40 38 dX4_tellsRows_35 (by decide) rfl (fun hc => ?_) (fun hc => ?_)
      · have h := h.1 hc
        refine sk_iinc (v := (v3 + 1)) (lv2 := [(3, .int (v3 + 1)), (0, .ref q), (1, .long v1)]) 2 43 dX4_tellsRows_40 rfl rfl rfl (by decide) rfl ?_
        refine sk_goto 2 dX4_tellsRows_43 (by decide) ?_
        refine sk_perm (lv2 := [(0, .ref q), (1, .long v1), (3, .int (v3 + 1))]) [1, 2, 0] rfl ?_
        exact h
      · have h := h.2 hc
        refine sk_iconst (v := 0) 39 dX4_tellsRows_38 rfl (by decide) ?_
        exact sk_iret dX4_tellsRows_39 rfl rfl h

theorem wX5_kindAbove {d : Nat} {τ : sk_T} {K : sk_K} {v0 : Int32}
  (h : ((v0 < 0 →
      K (some (.int (-1))) τ
    ) ∧
    (¬ v0 < 0 →
      ((v0 < 7 →
        vp_in v0 7 ∧
        K (some (.int (sk_above (v0).toNatClampNeg))) τ
      ) ∧
      (¬ v0 < 7 →
        K (some (.int (-1))) τ
      ))
    ))) :
  sk_C sk_Sc d mX5_kindAbove [.int v0] τ K := by
  refine sk_enter mfX5_kindAbove (Nat.le_of_ble_eq_true rfl) ?_
  show sk_G sk_Sc d mX5_kindAbove 0 [(0, .int v0)] [] τ K
  refine sk_iload_n 0 1 dX5_kindAbove_0 rfl rfl rfl ?_
  refine sk_if_lt 12 4 dX5_kindAbove_1 (by decide) rfl (fun hc => ?_) (fun hc => ?_)
  · have h := h.1 hc
    refine sk_iconst (v := (-1)) 13 dX5_kindAbove_12 rfl (by decide) ?_
    refine sk_goto 21 dX5_kindAbove_13 (by decide) ?_
    exact sk_iret dX5_kindAbove_21 rfl rfl h
  · have h := h.2 hc
    refine sk_iload_n 0 5 dX5_kindAbove_4 rfl rfl rfl ?_
    refine sk_gsA 8 dX5_kindAbove_5 rfl flX5_33 ?_
    refine sk_lenA (v := 7) 9 dX5_kindAbove_8 rfl rfl ?_
    refine sk_icmp_lt 16 12 dX5_kindAbove_9 (by decide) rfl (fun hc => ?_) (fun hc => ?_)
    · have h := h.1 hc
      refine sk_gsA 19 dX5_kindAbove_16 rfl flX5_33 ?_
      refine sk_iload_n 0 20 dX5_kindAbove_19 rfl rfl rfl ?_
      have hb20 := h.1
      have h := h.2
      refine sk_ldA 21 dX5_kindAbove_20 rfl hb20 _ rfl ?_
      exact sk_iret dX5_kindAbove_21 rfl rfl h
    · have h := h.2 hc
      refine sk_iconst (v := (-1)) 13 dX5_kindAbove_12 rfl (by decide) ?_
      refine sk_goto 21 dX5_kindAbove_13 (by decide) ?_
      exact sk_iret dX5_kindAbove_21 rfl rfl h

theorem wX5_begin {d : Nat} {τ : sk_T} {K : sk_K} {q : Nat} (hq : sk_Sc[q]? = some (0, 5, [0, 0, 0, 0, 0, 0, 0])) {v1 : Int32} {v2 : Int32} {v3 : Int32} {v4 : Int32} (hd0 : 0 < d)
  (h : sk_C sk_Sc (d - 1) mX5_turn [.ref q, .int v1] τ (fun w t2 => w = none ∧
      K none (sk_u (sk_u (sk_u (sk_u (sk_u t2 q 2 v2) q 3 v3) q 4 v4) q 5 0) q 6 (-1))
    )) :
  sk_C sk_Sc d mX5_begin [.ref q, .int v1, .int v2, .int v3, .int v4] τ K := by
  refine sk_enter mfX5_begin (Nat.le_of_ble_eq_true rfl) ?_
  show sk_G sk_Sc d mX5_begin 0 [(0, .ref q), (1, .int v1), (2, .int v2), (3, .int v3), (4, .int v4)] [] τ K
  refine sk_aload_n 0 1 dX5_begin_0 rfl rfl rfl ?_
  refine sk_iload_n 1 2 dX5_begin_1 rfl rfl rfl ?_
  refine sk_callVv [.int v1] [] 5 dX5_begin_2 rfl mfX5_turn lkX5_37 miX5_turn msX5_turn hq rfl rfl rfl rfl (by simp [Value.category]) hd0 (sk_Cm h ?_)
  rintro w t2 ⟨hw, h⟩
  refine ⟨hw, ?_⟩
  refine sk_aload_n 0 6 dX5_begin_5 rfl rfl rfl ?_
  refine sk_iload_n 2 7 dX5_begin_6 rfl rfl rfl ?_
  refine sk_putI 10 dX5_begin_7 rfl lpX5_18 hq rfl ?_
  refine sk_aload_n 0 11 dX5_begin_10 rfl rfl rfl ?_
  refine sk_iload_n 3 12 dX5_begin_11 rfl rfl rfl ?_
  refine sk_putI 15 dX5_begin_12 rfl lpX5_21 hq rfl ?_
  refine sk_aload_n 0 16 dX5_begin_15 rfl rfl rfl ?_
  refine sk_iload 4 18 dX5_begin_16 rfl rfl ?_
  refine sk_putI 21 dX5_begin_18 rfl lpX5_24 hq rfl ?_
  refine sk_aload_n 0 22 dX5_begin_21 rfl rfl rfl ?_
  refine sk_iconst (v := 0) 23 dX5_begin_22 rfl (by decide) ?_
  refine sk_putI 26 dX5_begin_23 rfl lpX5_27 hq rfl ?_
  refine sk_aload_n 0 27 dX5_begin_26 rfl rfl rfl ?_
  refine sk_iconst (v := (-1)) 28 dX5_begin_27 rfl (by decide) ?_
  refine sk_putI 31 dX5_begin_28 rfl lpX5_30 hq rfl ?_
  exact sk_vret dX5_begin_31 rfl h

theorem wX5_turn {d : Nat} {τ : sk_T} {K : sk_K} {q : Nat} (hq : sk_Sc[q]? = some (0, 5, [0, 0, 0, 0, 0, 0, 0])) {v1 : Int32}
  (h : K none (sk_u (sk_u τ q 0 (v1 / 10)) q 1 (v1 % 10))) :
  sk_C sk_Sc d mX5_turn [.ref q, .int v1] τ K := by
  refine sk_enter mfX5_turn (Nat.le_of_ble_eq_true rfl) ?_
  show sk_G sk_Sc d mX5_turn 0 [(0, .ref q), (1, .int v1)] [] τ K
  refine sk_aload_n 0 1 dX5_turn_0 rfl rfl rfl ?_
  refine sk_iload_n 1 2 dX5_turn_1 rfl rfl rfl ?_
  refine sk_bipush (v := 10) 4 dX5_turn_2 rfl (by decide) ?_
  refine sk_idiv 5 dX5_turn_4 rfl (by decide) ?_
  refine sk_putI 8 dX5_turn_5 rfl lpX5_9 hq rfl ?_
  refine sk_aload_n 0 9 dX5_turn_8 rfl rfl rfl ?_
  refine sk_iload_n 1 10 dX5_turn_9 rfl rfl rfl ?_
  refine sk_bipush (v := 10) 12 dX5_turn_10 rfl (by decide) ?_
  refine sk_irem 13 dX5_turn_12 rfl (by decide) ?_
  refine sk_putI 16 dX5_turn_13 rfl lpX5_15 hq rfl ?_
  exact sk_vret dX5_turn_16 rfl h

theorem wX5_copy {d : Nat} {τ : sk_T} {K : sk_K} {q : Nat} (hq : sk_Sc[q]? = some (0, 5, [0, 0, 0, 0, 0, 0, 0])) {o : Nat} (ho : sk_Sc[o]? = some (0, 5, [0, 0, 0, 0, 0, 0, 0]))
  (h : K none (sk_u (sk_u (sk_u (sk_u (sk_u (sk_u (sk_u τ q 0 (τ o 0)) q 1 ((sk_u τ q 0 (τ o 0)) o 1)) q 2 ((sk_u (sk_u τ q 0 (τ o 0)) q 1 ((sk_u τ q 0 (τ o 0)) o 1)) o 2)) q 3 ((sk_u (sk_u (sk_u τ q 0 (τ o 0)) q 1 ((sk_u τ q 0 (τ o 0)) o 1)) q 2 ((sk_u (sk_u τ q 0 (τ o 0)) q 1 ((sk_u τ q 0 (τ o 0)) o 1)) o 2)) o 3)) q 4 ((sk_u (sk_u (sk_u (sk_u τ q 0 (τ o 0)) q 1 ((sk_u τ q 0 (τ o 0)) o 1)) q 2 ((sk_u (sk_u τ q 0 (τ o 0)) q 1 ((sk_u τ q 0 (τ o 0)) o 1)) o 2)) q 3 ((sk_u (sk_u (sk_u τ q 0 (τ o 0)) q 1 ((sk_u τ q 0 (τ o 0)) o 1)) q 2 ((sk_u (sk_u τ q 0 (τ o 0)) q 1 ((sk_u τ q 0 (τ o 0)) o 1)) o 2)) o 3)) o 4)) q 5 ((sk_u (sk_u (sk_u (sk_u (sk_u τ q 0 (τ o 0)) q 1 ((sk_u τ q 0 (τ o 0)) o 1)) q 2 ((sk_u (sk_u τ q 0 (τ o 0)) q 1 ((sk_u τ q 0 (τ o 0)) o 1)) o 2)) q 3 ((sk_u (sk_u (sk_u τ q 0 (τ o 0)) q 1 ((sk_u τ q 0 (τ o 0)) o 1)) q 2 ((sk_u (sk_u τ q 0 (τ o 0)) q 1 ((sk_u τ q 0 (τ o 0)) o 1)) o 2)) o 3)) q 4 ((sk_u (sk_u (sk_u (sk_u τ q 0 (τ o 0)) q 1 ((sk_u τ q 0 (τ o 0)) o 1)) q 2 ((sk_u (sk_u τ q 0 (τ o 0)) q 1 ((sk_u τ q 0 (τ o 0)) o 1)) o 2)) q 3 ((sk_u (sk_u (sk_u τ q 0 (τ o 0)) q 1 ((sk_u τ q 0 (τ o 0)) o 1)) q 2 ((sk_u (sk_u τ q 0 (τ o 0)) q 1 ((sk_u τ q 0 (τ o 0)) o 1)) o 2)) o 3)) o 4)) o 5)) q 6 ((sk_u (sk_u (sk_u (sk_u (sk_u (sk_u τ q 0 (τ o 0)) q 1 ((sk_u τ q 0 (τ o 0)) o 1)) q 2 ((sk_u (sk_u τ q 0 (τ o 0)) q 1 ((sk_u τ q 0 (τ o 0)) o 1)) o 2)) q 3 ((sk_u (sk_u (sk_u τ q 0 (τ o 0)) q 1 ((sk_u τ q 0 (τ o 0)) o 1)) q 2 ((sk_u (sk_u τ q 0 (τ o 0)) q 1 ((sk_u τ q 0 (τ o 0)) o 1)) o 2)) o 3)) q 4 ((sk_u (sk_u (sk_u (sk_u τ q 0 (τ o 0)) q 1 ((sk_u τ q 0 (τ o 0)) o 1)) q 2 ((sk_u (sk_u τ q 0 (τ o 0)) q 1 ((sk_u τ q 0 (τ o 0)) o 1)) o 2)) q 3 ((sk_u (sk_u (sk_u τ q 0 (τ o 0)) q 1 ((sk_u τ q 0 (τ o 0)) o 1)) q 2 ((sk_u (sk_u τ q 0 (τ o 0)) q 1 ((sk_u τ q 0 (τ o 0)) o 1)) o 2)) o 3)) o 4)) q 5 ((sk_u (sk_u (sk_u (sk_u (sk_u τ q 0 (τ o 0)) q 1 ((sk_u τ q 0 (τ o 0)) o 1)) q 2 ((sk_u (sk_u τ q 0 (τ o 0)) q 1 ((sk_u τ q 0 (τ o 0)) o 1)) o 2)) q 3 ((sk_u (sk_u (sk_u τ q 0 (τ o 0)) q 1 ((sk_u τ q 0 (τ o 0)) o 1)) q 2 ((sk_u (sk_u τ q 0 (τ o 0)) q 1 ((sk_u τ q 0 (τ o 0)) o 1)) o 2)) o 3)) q 4 ((sk_u (sk_u (sk_u (sk_u τ q 0 (τ o 0)) q 1 ((sk_u τ q 0 (τ o 0)) o 1)) q 2 ((sk_u (sk_u τ q 0 (τ o 0)) q 1 ((sk_u τ q 0 (τ o 0)) o 1)) o 2)) q 3 ((sk_u (sk_u (sk_u τ q 0 (τ o 0)) q 1 ((sk_u τ q 0 (τ o 0)) o 1)) q 2 ((sk_u (sk_u τ q 0 (τ o 0)) q 1 ((sk_u τ q 0 (τ o 0)) o 1)) o 2)) o 3)) o 4)) o 5)) o 6))) :
  sk_C sk_Sc d mX5_copy [.ref q, .ref o] τ K := by
  refine sk_enter mfX5_copy (Nat.le_of_ble_eq_true rfl) ?_
  show sk_G sk_Sc d mX5_copy 0 [(0, .ref q), (1, .ref o)] [] τ K
  refine sk_aload_n 0 1 dX5_copy_0 rfl rfl rfl ?_
  refine sk_aload_n 1 2 dX5_copy_1 rfl rfl rfl ?_
  refine sk_getI 5 dX5_copy_2 rfl lfX5_9 ho rfl ?_
  refine sk_putI 8 dX5_copy_5 rfl lpX5_9 hq rfl ?_
  refine sk_aload_n 0 9 dX5_copy_8 rfl rfl rfl ?_
  refine sk_aload_n 1 10 dX5_copy_9 rfl rfl rfl ?_
  refine sk_getI 13 dX5_copy_10 rfl lfX5_15 ho rfl ?_
  refine sk_putI 16 dX5_copy_13 rfl lpX5_15 hq rfl ?_
  refine sk_aload_n 0 17 dX5_copy_16 rfl rfl rfl ?_
  refine sk_aload_n 1 18 dX5_copy_17 rfl rfl rfl ?_
  refine sk_getI 21 dX5_copy_18 rfl lfX5_18 ho rfl ?_
  refine sk_putI 24 dX5_copy_21 rfl lpX5_18 hq rfl ?_
  refine sk_aload_n 0 25 dX5_copy_24 rfl rfl rfl ?_
  refine sk_aload_n 1 26 dX5_copy_25 rfl rfl rfl ?_
  refine sk_getI 29 dX5_copy_26 rfl lfX5_21 ho rfl ?_
  refine sk_putI 32 dX5_copy_29 rfl lpX5_21 hq rfl ?_
  refine sk_aload_n 0 33 dX5_copy_32 rfl rfl rfl ?_
  refine sk_aload_n 1 34 dX5_copy_33 rfl rfl rfl ?_
  refine sk_getI 37 dX5_copy_34 rfl lfX5_24 ho rfl ?_
  refine sk_putI 40 dX5_copy_37 rfl lpX5_24 hq rfl ?_
  refine sk_aload_n 0 41 dX5_copy_40 rfl rfl rfl ?_
  refine sk_aload_n 1 42 dX5_copy_41 rfl rfl rfl ?_
  refine sk_getI 45 dX5_copy_42 rfl lfX5_27 ho rfl ?_
  refine sk_putI 48 dX5_copy_45 rfl lpX5_27 hq rfl ?_
  refine sk_aload_n 0 49 dX5_copy_48 rfl rfl rfl ?_
  refine sk_aload_n 1 50 dX5_copy_49 rfl rfl rfl ?_
  refine sk_getI 53 dX5_copy_50 rfl lfX5_30 ho rfl ?_
  refine sk_putI 56 dX5_copy_53 rfl lpX5_30 hq rfl ?_
  exact sk_vret dX5_copy_56 rfl h

theorem wX5_isUnder {d : Nat} {τ : sk_T} {K : sk_K} {q : Nat} (hq : sk_Sc[q]? = some (0, 5, [0, 0, 0, 0, 0, 0, 0])) {v1 : Int32}
  (h : sk_G sk_Sc d mX5_isUnder 7 [(1, .int v1), (2, .int (τ q 0)), (3, .int 0)] [] τ K) :
  sk_C sk_Sc d mX5_isUnder [.ref q, .int v1] τ K := by
  refine sk_enter mfX5_isUnder (Nat.le_of_ble_eq_true rfl) ?_
  show sk_G sk_Sc d mX5_isUnder 0 [(0, .ref q), (1, .int v1)] [] τ K
  refine sk_aload_n 0 1 dX5_isUnder_0 rfl rfl rfl ?_
  refine sk_getI 4 dX5_isUnder_1 rfl lfX5_9 hq rfl ?_
  refine sk_istore_n (lv2 := [(2, .int (τ q 0)), (0, .ref q), (1, .int v1)]) 5 dX5_isUnder_4 rfl rfl (by decide) rfl ?_
  refine sk_iconst (v := 0) 6 dX5_isUnder_5 rfl (by decide) ?_
  refine sk_istore_n (lv2 := [(3, .int 0), (2, .int (τ q 0)), (0, .ref q), (1, .int v1)]) 7 dX5_isUnder_6 rfl rfl (by decide) rfl ?_
  refine sk_perm (lv2 := [(1, .int v1), (2, .int (τ q 0)), (3, .int 0)]) [3, 1, 0] rfl ?_
  exact h

theorem bX5_isUnder_7 {d : Nat} {τ : sk_T} {K : sk_K} {q : Nat} (hq : sk_Sc[q]? = some (0, 5, [0, 0, 0, 0, 0, 0, 0])) {v1 : Int32} {v2 : Int32} {v3 : Int32} (hd0 : 0 < d)
  (h : ((6 < v3 →
      K (some (.int 0)) τ
    ) ∧
    (¬ 6 < v3 →
      ((v2 < 0 →
        K (some (.int 0)) τ
      ) ∧
      (¬ v2 < 0 →
        ((¬ v2 = v1 →
          sk_C sk_Sc (d - 1) mX5_kindAbove [.int v2] τ (fun w t25 => ∃ r25 : Int32, w = some (.int r25) ∧
            sk_G sk_Sc d mX5_isUnder 7 [(1, .int v1), (2, .int r25), (3, .int (v3 + 1))] [] t25 K
          )
        ) ∧
        (v2 = v1 →
          K (some (.int 1)) τ
        ))
      ))
    ))) :
  sk_G sk_Sc d mX5_isUnder 7 [(1, .int v1), (2, .int v2), (3, .int v3)] [] τ K := by
  refine sk_iload_n 2 8 dX5_isUnder_7 rfl rfl rfl ?_
  refine sk_bipush (v := 6) 10 dX5_isUnder_8 rfl (by decide) ?_
  refine sk_icmp_gt 35 13 dX5_isUnder_10 (by decide) rfl (fun hc => ?_) (fun hc => ?_)
  · have h := h.1 hc
    refine sk_iconst (v := 0) 36 dX5_isUnder_35 rfl (by decide) ?_
    exact sk_iret dX5_isUnder_36 rfl rfl h
  · have h := h.2 hc
    refine sk_iload_n 1 14 dX5_isUnder_13 rfl rfl rfl ?_
    refine sk_if_lt 35 17 dX5_isUnder_14 (by decide) rfl (fun hc => ?_) (fun hc => ?_)
    · have h := h.1 hc
      refine sk_iconst (v := 0) 36 dX5_isUnder_35 rfl (by decide) ?_
      exact sk_iret dX5_isUnder_36 rfl rfl h
    · have h := h.2 hc
      refine sk_iload_n 1 18 dX5_isUnder_17 rfl rfl rfl ?_
      refine sk_iload_n 0 19 dX5_isUnder_18 rfl rfl rfl ?_
      refine sk_icmp_ne 24 22 dX5_isUnder_19 (by decide) rfl (fun hc => ?_) (fun hc => ?_)
      · have h := h.1 hc
        refine sk_iload_n 1 25 dX5_isUnder_24 rfl rfl rfl ?_
        refine sk_callSi [.int v2] [] 28 dX5_isUnder_25 rfl mfX5_kindAbove lkX5_41 miX5_kindAbove rfl rfl (by simp [Value.category]) hd0 (sk_Cm h ?_)
        rintro w t25 ⟨r25, hw, h⟩
        refine ⟨r25, hw, ?_⟩
        refine sk_istore_n (lv2 := [(2, .int r25), (1, .int v1), (3, .int v3)]) 29 dX5_isUnder_28 rfl rfl (by decide) rfl ?_
        refine sk_iinc (v := (v3 + 1)) (lv2 := [(3, .int (v3 + 1)), (2, .int r25), (1, .int v1)]) 2 32 dX5_isUnder_29 rfl rfl rfl (by decide) rfl ?_
        refine sk_goto 7 dX5_isUnder_32 (by decide) ?_
        refine sk_perm (lv2 := [(1, .int v1), (2, .int r25), (3, .int (v3 + 1))]) [2, 1, 0] rfl ?_
        exact h
      · have h := h.2 hc
        refine sk_iconst (v := 1) 23 dX5_isUnder_22 rfl (by decide) ?_
        exact sk_iret dX5_isUnder_23 rfl rfl h

theorem wX5_isLaid {d : Nat} {τ : sk_T} {K : sk_K} {q : Nat} (hq : sk_Sc[q]? = some (0, 5, [0, 0, 0, 0, 0, 0, 0]))
  (h : (((τ q 6) < 0 →
      K (some (.int 0)) τ
    ) ∧
    (¬ (τ q 6) < 0 →
      K (some (.int 1)) τ
    ))) :
  sk_C sk_Sc d mX5_isLaid [.ref q] τ K := by
  refine sk_enter mfX5_isLaid (Nat.le_of_ble_eq_true rfl) ?_
  show sk_G sk_Sc d mX5_isLaid 0 [(0, .ref q)] [] τ K
  refine sk_aload_n 0 1 dX5_isLaid_0 rfl rfl rfl ?_
  refine sk_getI 4 dX5_isLaid_1 rfl lfX5_30 hq rfl ?_
  refine sk_if_lt 11 7 dX5_isLaid_4 (by decide) rfl (fun hc => ?_) (fun hc => ?_)
  · have h := h.1 hc
    refine sk_iconst (v := 0) 12 dX5_isLaid_11 rfl (by decide) ?_
    exact sk_iret dX5_isLaid_12 rfl rfl h
  · have h := h.2 hc
    refine sk_iconst (v := 1) 8 dX5_isLaid_7 rfl (by decide) ?_
    refine sk_goto 12 dX5_isLaid_8 (by decide) ?_
    exact sk_iret dX5_isLaid_12 rfl rfl h

theorem wX5_row {d : Nat} {τ : sk_T} {K : sk_K} {q : Nat} (hq : sk_Sc[q]? = some (0, 5, [0, 0, 0, 0, 0, 0, 0])) (hd0 : 0 < d)
  (h : sk_C sk_Sc (d - 1) mX5_isLaid [.ref q] τ (fun w t1 => ∃ r1 : Int32, w = some (.int r1) ∧
      ((r1 = 0 →
        K (some (.int (-1))) t1
      ) ∧
      (¬ r1 = 0 →
        K (some (.int ((t1 q 6) / 8))) t1
      ))
    )) :
  sk_C sk_Sc d mX5_row [.ref q] τ K := by
  refine sk_enter mfX5_row (Nat.le_of_ble_eq_true rfl) ?_
  show sk_G sk_Sc d mX5_row 0 [(0, .ref q)] [] τ K
  refine sk_aload_n 0 1 dX5_row_0 rfl rfl rfl ?_
  refine sk_callVi [] [] 4 dX5_row_1 rfl mfX5_isLaid lkX5_45 miX5_isLaid msX5_isLaid hq rfl rfl rfl rfl (by simp [Value.category]) hd0 (sk_Cm h ?_)
  rintro w t1 ⟨r1, hw, h⟩
  refine ⟨r1, hw, ?_⟩
  refine sk_if_eq 17 7 dX5_row_4 (by decide) rfl (fun hc => ?_) (fun hc => ?_)
  · have h := h.1 hc
    refine sk_iconst (v := (-1)) 18 dX5_row_17 rfl (by decide) ?_
    exact sk_iret dX5_row_18 rfl rfl h
  · have h := h.2 hc
    refine sk_aload_n 0 8 dX5_row_7 rfl rfl rfl ?_
    refine sk_getI 11 dX5_row_8 rfl lfX5_30 hq rfl ?_
    refine sk_bipush (v := 8) 13 dX5_row_11 rfl (by decide) ?_
    refine sk_idiv 14 dX5_row_13 rfl (by decide) ?_
    refine sk_goto 18 dX5_row_14 (by decide) ?_
    exact sk_iret dX5_row_18 rfl rfl h

theorem wX5_place {d : Nat} {τ : sk_T} {K : sk_K} {q : Nat} (hq : sk_Sc[q]? = some (0, 5, [0, 0, 0, 0, 0, 0, 0])) (hd0 : 0 < d)
  (h : sk_C sk_Sc (d - 1) mX5_isLaid [.ref q] τ (fun w t1 => ∃ r1 : Int32, w = some (.int r1) ∧
      ((r1 = 0 →
        K (some (.int (-1))) t1
      ) ∧
      (¬ r1 = 0 →
        K (some (.int ((t1 q 6) % 8))) t1
      ))
    )) :
  sk_C sk_Sc d mX5_place [.ref q] τ K := by
  refine sk_enter mfX5_place (Nat.le_of_ble_eq_true rfl) ?_
  show sk_G sk_Sc d mX5_place 0 [(0, .ref q)] [] τ K
  refine sk_aload_n 0 1 dX5_place_0 rfl rfl rfl ?_
  refine sk_callVi [] [] 4 dX5_place_1 rfl mfX5_isLaid lkX5_45 miX5_isLaid msX5_isLaid hq rfl rfl rfl rfl (by simp [Value.category]) hd0 (sk_Cm h ?_)
  rintro w t1 ⟨r1, hw, h⟩
  refine ⟨r1, hw, ?_⟩
  refine sk_if_eq 17 7 dX5_place_4 (by decide) rfl (fun hc => ?_) (fun hc => ?_)
  · have h := h.1 hc
    refine sk_iconst (v := (-1)) 18 dX5_place_17 rfl (by decide) ?_
    exact sk_iret dX5_place_18 rfl rfl h
  · have h := h.2 hc
    refine sk_aload_n 0 8 dX5_place_7 rfl rfl rfl ?_
    refine sk_getI 11 dX5_place_8 rfl lfX5_30 hq rfl ?_
    refine sk_bipush (v := 8) 13 dX5_place_11 rfl (by decide) ?_
    refine sk_irem 14 dX5_place_13 rfl (by decide) ?_
    refine sk_goto 18 dX5_place_14 (by decide) ?_
    exact sk_iret dX5_place_18 rfl rfl h

theorem wX5_broad {d : Nat} {τ : sk_T} {K : sk_K} {q : Nat} (hq : sk_Sc[q]? = some (0, 5, [0, 0, 0, 0, 0, 0, 0])) (hd0 : 0 < d)
  (h : (
    ((τ q 0) = 1 →
      K (some (.int ((τ q 2) + 1))) τ
    ) ∧
    ((τ q 0) = 2 →
      K (some (.int (τ q 2))) τ
    ) ∧
    ((τ q 0) = 3 →
      K (some (.int (τ q 2))) τ
    ) ∧
    ((τ q 0) = 4 →
      K (some (.int ((τ q 2) + 1))) τ
    ) ∧
    ((τ q 0) = 5 →
      K (some (.int (sk_max 1 ((τ q 2) - 1)))) τ
    ) ∧
    ((¬ (τ q 0) = 1 ∧ ¬ (τ q 0) = 2 ∧ ¬ (τ q 0) = 3 ∧ ¬ (τ q 0) = 4 ∧ ¬ (τ q 0) = 5) →
      K (some (.int (τ q 2))) τ
    ))) :
  sk_C sk_Sc d mX5_broad [.ref q] τ K := by
  refine sk_enter mfX5_broad (Nat.le_of_ble_eq_true rfl) ?_
  show sk_G sk_Sc d mX5_broad 0 [(0, .ref q)] [] τ K
  refine sk_aload_n 0 1 dX5_broad_0 rfl rfl rfl ?_
  refine sk_getI 4 dX5_broad_1 rfl lfX5_9 hq rfl ?_
  refine sk_table [40, 58, 58, 40, 47] 58 dX5_broad_4 (by decide) (by decide) (by decide) (by decide) ⟨fun e => ?_, fun e => ?_, fun e => ?_, fun e => ?_, fun e => ?_, trivial⟩ (fun e => ?_)
  · have h := h.1 e
    refine sk_aload_n 0 41 dX5_broad_40 rfl rfl rfl ?_
    refine sk_getI 44 dX5_broad_41 rfl lfX5_18 hq rfl ?_
    refine sk_iconst (v := 1) 45 dX5_broad_44 rfl (by decide) ?_
    refine sk_iadd 46 dX5_broad_45 rfl ?_
    exact sk_iret dX5_broad_46 rfl rfl h
  · have h := h.2.1 e
    refine sk_aload_n 0 59 dX5_broad_58 rfl rfl rfl ?_
    refine sk_getI 62 dX5_broad_59 rfl lfX5_18 hq rfl ?_
    exact sk_iret dX5_broad_62 rfl rfl h
  · have h := h.2.2.1 e
    refine sk_aload_n 0 59 dX5_broad_58 rfl rfl rfl ?_
    refine sk_getI 62 dX5_broad_59 rfl lfX5_18 hq rfl ?_
    exact sk_iret dX5_broad_62 rfl rfl h
  · have h := h.2.2.2.1 e
    refine sk_aload_n 0 41 dX5_broad_40 rfl rfl rfl ?_
    refine sk_getI 44 dX5_broad_41 rfl lfX5_18 hq rfl ?_
    refine sk_iconst (v := 1) 45 dX5_broad_44 rfl (by decide) ?_
    refine sk_iadd 46 dX5_broad_45 rfl ?_
    exact sk_iret dX5_broad_46 rfl rfl h
  · have h := h.2.2.2.2.1 e
    refine sk_iconst (v := 1) 48 dX5_broad_47 rfl (by decide) ?_
    refine sk_aload_n 0 49 dX5_broad_48 rfl rfl rfl ?_
    refine sk_getI 52 dX5_broad_49 rfl lfX5_18 hq rfl ?_
    refine sk_iconst (v := 1) 53 dX5_broad_52 rfl (by decide) ?_
    refine sk_isub 54 dX5_broad_53 rfl ?_
    refine sk_mmax 57 dX5_broad_54 rfl lkX5_49 lw_max (by simp [Value.category]) hd0 ?_
    exact sk_iret dX5_broad_57 rfl rfl h
  · have h := h.2.2.2.2.2 ⟨e 0 (by decide), e 1 (by decide), e 2 (by decide), e 3 (by decide), e 4 (by decide)⟩
    refine sk_aload_n 0 59 dX5_broad_58 rfl rfl rfl ?_
    refine sk_getI 62 dX5_broad_59 rfl lfX5_18 hq rfl ?_
    exact sk_iret dX5_broad_62 rfl rfl h

theorem wX5_holds {d : Nat} {τ : sk_T} {K : sk_K} {q : Nat} (hq : sk_Sc[q]? = some (0, 5, [0, 0, 0, 0, 0, 0, 0])) {v1 : Int32} {v2 : Int32}
  (h : (
    ((τ q 0) = 1 →
      K (some (.int (((3 * (τ q 3)) + (τ q 1)) - 2))) τ
    ) ∧
    ((τ q 0) = 2 →
      K (some (.int (((3 * (τ q 3)) + (τ q 1)) + ((τ q 5) / 5)))) τ
    ) ∧
    ((τ q 0) = 3 →
      K (some (.int (((3 * (τ q 3)) + (τ q 1)) + (v1 % 3)))) τ
    ) ∧
    ((τ q 0) = 4 →
      K (some (.int ((((3 * (τ q 3)) + (τ q 1)) - 2) + (τ q 3)))) τ
    ) ∧
    ((τ q 0) = 5 →
      K (some (.int ((2 * (((3 * (τ q 3)) + (τ q 1)) + ((τ q 5) / 5))) - (τ q 1)))) τ
    ) ∧
    ((τ q 0) = 6 →
      ((¬ v2 = 1 →
        K (some (.int ((3 * (τ q 3)) + (τ q 1)))) τ
      ) ∧
      (v2 = 1 →
        K (some (.int 0)) τ
      ))
    ) ∧
    ((¬ (τ q 0) = 1 ∧ ¬ (τ q 0) = 2 ∧ ¬ (τ q 0) = 3 ∧ ¬ (τ q 0) = 4 ∧ ¬ (τ q 0) = 5 ∧ ¬ (τ q 0) = 6) →
      K (some (.int ((3 * (τ q 3)) + (τ q 1)))) τ
    ))) :
  sk_C sk_Sc d mX5_holds [.ref q, .int v1, .int v2] τ K := by
  refine sk_enter mfX5_holds (Nat.le_of_ble_eq_true rfl) ?_
  show sk_G sk_Sc d mX5_holds 0 [(0, .ref q), (1, .int v1), (2, .int v2)] [] τ K
  refine sk_iconst (v := 3) 1 dX5_holds_0 rfl (by decide) ?_
  refine sk_aload_n 0 2 dX5_holds_1 rfl rfl rfl ?_
  refine sk_getI 5 dX5_holds_2 rfl lfX5_21 hq rfl ?_
  refine sk_imul 6 dX5_holds_5 rfl ?_
  refine sk_aload_n 0 7 dX5_holds_6 rfl rfl rfl ?_
  refine sk_getI 10 dX5_holds_7 rfl lfX5_15 hq rfl ?_
  refine sk_iadd 11 dX5_holds_10 rfl ?_
  refine sk_istore_n (lv2 := [(3, .int ((3 * (τ q 3)) + (τ q 1))), (0, .ref q), (1, .int v1), (2, .int v2)]) 12 dX5_holds_11 rfl rfl (by decide) rfl ?_
  refine sk_aload_n 1 13 dX5_holds_12 rfl rfl rfl ?_
  refine sk_getI 16 dX5_holds_13 rfl lfX5_9 hq rfl ?_
  refine sk_table [56, 60, 69, 75, 84, 100] 111 dX5_holds_16 (by decide) (by decide) (by decide) (by decide) ⟨fun e => ?_, fun e => ?_, fun e => ?_, fun e => ?_, fun e => ?_, fun e => ?_, trivial⟩ (fun e => ?_)
  · have h := h.1 e
    refine sk_iload_n 0 57 dX5_holds_56 rfl rfl rfl ?_
    refine sk_iconst (v := 2) 58 dX5_holds_57 rfl (by decide) ?_
    refine sk_isub 59 dX5_holds_58 rfl ?_
    exact sk_iret dX5_holds_59 rfl rfl h
  · have h := h.2.1 e
    refine sk_iload_n 0 61 dX5_holds_60 rfl rfl rfl ?_
    refine sk_aload_n 1 62 dX5_holds_61 rfl rfl rfl ?_
    refine sk_getI 65 dX5_holds_62 rfl lfX5_27 hq rfl ?_
    refine sk_iconst (v := 5) 66 dX5_holds_65 rfl (by decide) ?_
    refine sk_idiv 67 dX5_holds_66 rfl (by decide) ?_
    refine sk_iadd 68 dX5_holds_67 rfl ?_
    exact sk_iret dX5_holds_68 rfl rfl h
  · have h := h.2.2.1 e
    refine sk_iload_n 0 70 dX5_holds_69 rfl rfl rfl ?_
    refine sk_iload_n 2 71 dX5_holds_70 rfl rfl rfl ?_
    refine sk_iconst (v := 3) 72 dX5_holds_71 rfl (by decide) ?_
    refine sk_irem 73 dX5_holds_72 rfl (by decide) ?_
    refine sk_iadd 74 dX5_holds_73 rfl ?_
    exact sk_iret dX5_holds_74 rfl rfl h
  · have h := h.2.2.2.1 e
    refine sk_iload_n 0 76 dX5_holds_75 rfl rfl rfl ?_
    refine sk_iconst (v := 2) 77 dX5_holds_76 rfl (by decide) ?_
    refine sk_isub 78 dX5_holds_77 rfl ?_
    refine sk_aload_n 1 79 dX5_holds_78 rfl rfl rfl ?_
    refine sk_getI 82 dX5_holds_79 rfl lfX5_21 hq rfl ?_
    refine sk_iadd 83 dX5_holds_82 rfl ?_
    exact sk_iret dX5_holds_83 rfl rfl h
  · have h := h.2.2.2.2.1 e
    refine sk_iconst (v := 2) 85 dX5_holds_84 rfl (by decide) ?_
    refine sk_iload_n 0 86 dX5_holds_85 rfl rfl rfl ?_
    refine sk_aload_n 1 87 dX5_holds_86 rfl rfl rfl ?_
    refine sk_getI 90 dX5_holds_87 rfl lfX5_27 hq rfl ?_
    refine sk_iconst (v := 5) 91 dX5_holds_90 rfl (by decide) ?_
    refine sk_idiv 92 dX5_holds_91 rfl (by decide) ?_
    refine sk_iadd 93 dX5_holds_92 rfl ?_
    refine sk_imul 94 dX5_holds_93 rfl ?_
    refine sk_aload_n 1 95 dX5_holds_94 rfl rfl rfl ?_
    refine sk_getI 98 dX5_holds_95 rfl lfX5_15 hq rfl ?_
    refine sk_isub 99 dX5_holds_98 rfl ?_
    exact sk_iret dX5_holds_99 rfl rfl h
  · have h := h.2.2.2.2.2.1 e
    refine sk_iload_n 3 101 dX5_holds_100 rfl rfl rfl ?_
    refine sk_iconst (v := 1) 102 dX5_holds_101 rfl (by decide) ?_
    refine sk_icmp_ne 109 105 dX5_holds_102 (by decide) rfl (fun hc => ?_) (fun hc => ?_)
    · have h := h.1 hc
      refine sk_iload_n 0 110 dX5_holds_109 rfl rfl rfl ?_
      exact sk_iret dX5_holds_110 rfl rfl h
    · have h := h.2 hc
      refine sk_iconst (v := 0) 106 dX5_holds_105 rfl (by decide) ?_
      refine sk_goto 110 dX5_holds_106 (by decide) ?_
      exact sk_iret dX5_holds_110 rfl rfl h
  · have h := h.2.2.2.2.2.2 ⟨e 0 (by decide), e 1 (by decide), e 2 (by decide), e 3 (by decide), e 4 (by decide), e 5 (by decide)⟩
    refine sk_iload_n 0 112 dX5_holds_111 rfl rfl rfl ?_
    exact sk_iret dX5_holds_112 rfl rfl h

theorem wX5_ownAt {d : Nat} {τ : sk_T} {K : sk_K} {q : Nat} (hq : sk_Sc[q]? = some (0, 5, [0, 0, 0, 0, 0, 0, 0])) {v1 : Int32} (hd0 : 0 < d)
  (h : sk_C sk_Sc (d - 1) mX6_isCell [.int v1] τ (fun w t1 => ∃ r1 : Int32, w = some (.int r1) ∧
      ((¬ r1 = 0 →
        sk_C sk_Sc (d - 1) mX5_broad [.ref q] t1 (fun w t16 => ∃ r16 : Int32, w = some (.int r16) ∧
          K (some (.long (((((1 <<< (Int32.toInt64 r16 &&& 63)) - 1) <<< (Int32.toInt64 (v1 % 8) &&& 63)) &&& 255) <<< (Int32.toInt64 (v1 - (v1 % 8)) &&& 63)))) t16
        )
      ) ∧
      (r1 = 0 →
        K (some (.long 0)) t1
      ))
    )) :
  sk_C sk_Sc d mX5_ownAt [.ref q, .int v1] τ K := by
  refine sk_enter mfX5_ownAt (Nat.le_of_ble_eq_true rfl) ?_
  show sk_G sk_Sc d mX5_ownAt 0 [(0, .ref q), (1, .int v1)] [] τ K
  refine sk_iload_n 1 1 dX5_ownAt_0 rfl rfl rfl ?_
  refine sk_callSi [.int v1] [] 4 dX5_ownAt_1 rfl mfX6_isCell lkX5_55 miX6_isCell rfl rfl (by simp [Value.category]) hd0 (sk_Cm h ?_)
  rintro w t1 ⟨r1, hw, h⟩
  refine ⟨r1, hw, ?_⟩
  refine sk_if_ne 9 7 dX5_ownAt_4 (by decide) rfl (fun hc => ?_) (fun hc => ?_)
  · have h := h.1 hc
    refine sk_iload_n 1 10 dX5_ownAt_9 rfl rfl rfl ?_
    refine sk_bipush (v := 8) 12 dX5_ownAt_10 rfl (by decide) ?_
    refine sk_irem 13 dX5_ownAt_12 rfl (by decide) ?_
    refine sk_istore_n (lv2 := [(2, .int (v1 % 8)), (0, .ref q), (1, .int v1)]) 14 dX5_ownAt_13 rfl rfl (by decide) rfl ?_
    refine sk_lconst (v := 1) 15 dX5_ownAt_14 rfl (by decide) ?_
    refine sk_aload_n 1 16 dX5_ownAt_15 rfl rfl rfl ?_
    refine sk_callVi [] [.long 1] 19 dX5_ownAt_16 rfl mfX5_broad lkX5_59 miX5_broad msX5_broad hq rfl rfl rfl rfl (by simp [Value.category]) hd0 (sk_Cm h ?_)
    rintro w t16 ⟨r16, hw, h⟩
    refine ⟨r16, hw, ?_⟩
    refine sk_lshl 20 dX5_ownAt_19 rfl ?_
    refine sk_lconst (v := 1) 21 dX5_ownAt_20 rfl (by decide) ?_
    refine sk_lsub 22 dX5_ownAt_21 rfl ?_
    refine sk_iload_n 0 23 dX5_ownAt_22 rfl rfl rfl ?_
    refine sk_lshl 24 dX5_ownAt_23 rfl ?_
    refine sk_ldc2 27 dX5_ownAt_24 rfl klX5_63 ?_
    refine sk_land 28 dX5_ownAt_27 rfl ?_
    refine sk_lstore_n (lv2 := [(3, .long ((((1 <<< (Int32.toInt64 r16 &&& 63)) - 1) <<< (Int32.toInt64 (v1 % 8) &&& 63)) &&& 255)), (2, .int (v1 % 8)), (0, .ref q), (1, .int v1)]) 29 dX5_ownAt_28 rfl rfl (by decide) rfl ?_
    refine sk_lload_n 0 30 dX5_ownAt_29 rfl rfl rfl ?_
    refine sk_iload_n 3 31 dX5_ownAt_30 rfl rfl rfl ?_
    refine sk_iload_n 1 32 dX5_ownAt_31 rfl rfl rfl ?_
    refine sk_isub 33 dX5_ownAt_32 rfl ?_
    refine sk_lshl 34 dX5_ownAt_33 rfl ?_
    exact sk_lret dX5_ownAt_34 rfl h
  · have h := h.2 hc
    refine sk_lconst (v := 0) 8 dX5_ownAt_7 rfl (by decide) ?_
    exact sk_lret dX5_ownAt_8 rfl h

theorem wX5_own {d : Nat} {τ : sk_T} {K : sk_K} {q : Nat} (hq : sk_Sc[q]? = some (0, 5, [0, 0, 0, 0, 0, 0, 0])) (hd0 : 0 < d)
  (h : sk_C sk_Sc (d - 1) mX5_ownAt [.ref q, .int (τ q 6)] τ (fun w t5 => ∃ r5 : Int64, w = some (.long r5) ∧
      K (some (.long r5)) t5
    )) :
  sk_C sk_Sc d mX5_own [.ref q] τ K := by
  refine sk_enter mfX5_own (Nat.le_of_ble_eq_true rfl) ?_
  show sk_G sk_Sc d mX5_own 0 [(0, .ref q)] [] τ K
  refine sk_aload_n 0 1 dX5_own_0 rfl rfl rfl ?_
  refine sk_aload_n 0 2 dX5_own_1 rfl rfl rfl ?_
  refine sk_getI 5 dX5_own_2 rfl lfX5_30 hq rfl ?_
  refine sk_callVl [.int (τ q 6)] [] 8 dX5_own_5 rfl mfX5_ownAt lkX5_65 miX5_ownAt msX5_ownAt hq rfl rfl rfl rfl (by simp [Value.category]) hd0 (sk_Cm h ?_)
  rintro w t5 ⟨r5, hw, h⟩
  refine ⟨r5, hw, ?_⟩
  exact sk_lret dX5_own_8 rfl h

theorem wJ6_numberOfTrailingZeros_0f7a4 {d : Nat} {τ : sk_T} {K : sk_K} {v0 : Int32}
  (h : ((0 < ((v0 ^^^ (-1)) &&& (v0 - 1)) →
      ((((v0 ^^^ (-1)) &&& (v0 - 1)) ≤ 65536 →
        ((((v0 ^^^ (-1)) &&& (v0 - 1)) ≤ 256 →
          ((((v0 ^^^ (-1)) &&& (v0 - 1)) ≤ 16 →
            ((((v0 ^^^ (-1)) &&& (v0 - 1)) ≤ 4 →
              K (some (.int (1 + (sk_ush ((v0 ^^^ (-1)) &&& (v0 - 1)) 1)))) τ
            ) ∧
            (¬ ((v0 ^^^ (-1)) &&& (v0 - 1)) ≤ 4 →
              K (some (.int ((1 + 2) + (sk_ush (sk_ush ((v0 ^^^ (-1)) &&& (v0 - 1)) 2) 1)))) τ
            ))
          ) ∧
          (¬ ((v0 ^^^ (-1)) &&& (v0 - 1)) ≤ 16 →
            (((sk_ush ((v0 ^^^ (-1)) &&& (v0 - 1)) 4) ≤ 4 →
              K (some (.int ((1 + 4) + (sk_ush (sk_ush ((v0 ^^^ (-1)) &&& (v0 - 1)) 4) 1)))) τ
            ) ∧
            (¬ (sk_ush ((v0 ^^^ (-1)) &&& (v0 - 1)) 4) ≤ 4 →
              K (some (.int (((1 + 4) + 2) + (sk_ush (sk_ush (sk_ush ((v0 ^^^ (-1)) &&& (v0 - 1)) 4) 2) 1)))) τ
            ))
          ))
        ) ∧
        (¬ ((v0 ^^^ (-1)) &&& (v0 - 1)) ≤ 256 →
          (((sk_ush ((v0 ^^^ (-1)) &&& (v0 - 1)) 8) ≤ 16 →
            (((sk_ush ((v0 ^^^ (-1)) &&& (v0 - 1)) 8) ≤ 4 →
              K (some (.int ((1 + 8) + (sk_ush (sk_ush ((v0 ^^^ (-1)) &&& (v0 - 1)) 8) 1)))) τ
            ) ∧
            (¬ (sk_ush ((v0 ^^^ (-1)) &&& (v0 - 1)) 8) ≤ 4 →
              K (some (.int (((1 + 8) + 2) + (sk_ush (sk_ush (sk_ush ((v0 ^^^ (-1)) &&& (v0 - 1)) 8) 2) 1)))) τ
            ))
          ) ∧
          (¬ (sk_ush ((v0 ^^^ (-1)) &&& (v0 - 1)) 8) ≤ 16 →
            (((sk_ush (sk_ush ((v0 ^^^ (-1)) &&& (v0 - 1)) 8) 4) ≤ 4 →
              K (some (.int (((1 + 8) + 4) + (sk_ush (sk_ush (sk_ush ((v0 ^^^ (-1)) &&& (v0 - 1)) 8) 4) 1)))) τ
            ) ∧
            (¬ (sk_ush (sk_ush ((v0 ^^^ (-1)) &&& (v0 - 1)) 8) 4) ≤ 4 →
              K (some (.int ((((1 + 8) + 4) + 2) + (sk_ush (sk_ush (sk_ush (sk_ush ((v0 ^^^ (-1)) &&& (v0 - 1)) 8) 4) 2) 1)))) τ
            ))
          ))
        ))
      ) ∧
      (¬ ((v0 ^^^ (-1)) &&& (v0 - 1)) ≤ 65536 →
        (((sk_ush ((v0 ^^^ (-1)) &&& (v0 - 1)) 16) ≤ 256 →
          (((sk_ush ((v0 ^^^ (-1)) &&& (v0 - 1)) 16) ≤ 16 →
            (((sk_ush ((v0 ^^^ (-1)) &&& (v0 - 1)) 16) ≤ 4 →
              K (some (.int ((1 + 16) + (sk_ush (sk_ush ((v0 ^^^ (-1)) &&& (v0 - 1)) 16) 1)))) τ
            ) ∧
            (¬ (sk_ush ((v0 ^^^ (-1)) &&& (v0 - 1)) 16) ≤ 4 →
              K (some (.int (((1 + 16) + 2) + (sk_ush (sk_ush (sk_ush ((v0 ^^^ (-1)) &&& (v0 - 1)) 16) 2) 1)))) τ
            ))
          ) ∧
          (¬ (sk_ush ((v0 ^^^ (-1)) &&& (v0 - 1)) 16) ≤ 16 →
            (((sk_ush (sk_ush ((v0 ^^^ (-1)) &&& (v0 - 1)) 16) 4) ≤ 4 →
              K (some (.int (((1 + 16) + 4) + (sk_ush (sk_ush (sk_ush ((v0 ^^^ (-1)) &&& (v0 - 1)) 16) 4) 1)))) τ
            ) ∧
            (¬ (sk_ush (sk_ush ((v0 ^^^ (-1)) &&& (v0 - 1)) 16) 4) ≤ 4 →
              K (some (.int ((((1 + 16) + 4) + 2) + (sk_ush (sk_ush (sk_ush (sk_ush ((v0 ^^^ (-1)) &&& (v0 - 1)) 16) 4) 2) 1)))) τ
            ))
          ))
        ) ∧
        (¬ (sk_ush ((v0 ^^^ (-1)) &&& (v0 - 1)) 16) ≤ 256 →
          (((sk_ush (sk_ush ((v0 ^^^ (-1)) &&& (v0 - 1)) 16) 8) ≤ 16 →
            (((sk_ush (sk_ush ((v0 ^^^ (-1)) &&& (v0 - 1)) 16) 8) ≤ 4 →
              K (some (.int (((1 + 16) + 8) + (sk_ush (sk_ush (sk_ush ((v0 ^^^ (-1)) &&& (v0 - 1)) 16) 8) 1)))) τ
            ) ∧
            (¬ (sk_ush (sk_ush ((v0 ^^^ (-1)) &&& (v0 - 1)) 16) 8) ≤ 4 →
              K (some (.int ((((1 + 16) + 8) + 2) + (sk_ush (sk_ush (sk_ush (sk_ush ((v0 ^^^ (-1)) &&& (v0 - 1)) 16) 8) 2) 1)))) τ
            ))
          ) ∧
          (¬ (sk_ush (sk_ush ((v0 ^^^ (-1)) &&& (v0 - 1)) 16) 8) ≤ 16 →
            (((sk_ush (sk_ush (sk_ush ((v0 ^^^ (-1)) &&& (v0 - 1)) 16) 8) 4) ≤ 4 →
              K (some (.int ((((1 + 16) + 8) + 4) + (sk_ush (sk_ush (sk_ush (sk_ush ((v0 ^^^ (-1)) &&& (v0 - 1)) 16) 8) 4) 1)))) τ
            ) ∧
            (¬ (sk_ush (sk_ush (sk_ush ((v0 ^^^ (-1)) &&& (v0 - 1)) 16) 8) 4) ≤ 4 →
              K (some (.int (((((1 + 16) + 8) + 4) + 2) + (sk_ush (sk_ush (sk_ush (sk_ush (sk_ush ((v0 ^^^ (-1)) &&& (v0 - 1)) 16) 8) 4) 2) 1)))) τ
            ))
          ))
        ))
      ))
    ) ∧
    (¬ 0 < ((v0 ^^^ (-1)) &&& (v0 - 1)) →
      K (some (.int (((v0 ^^^ (-1)) &&& (v0 - 1)) &&& 32))) τ
    ))) :
  sk_C sk_Sc d mJ6_numberOfTrailingZeros_0f7a4 [.int v0] τ K := by
  refine sk_enter mfJ6_numberOfTrailingZeros_0f7a4 (Nat.le_of_ble_eq_true rfl) ?_
  show sk_G sk_Sc d mJ6_numberOfTrailingZeros_0f7a4 0 [(0, .int v0)] [] τ K
  refine sk_iload_n 0 1 dJ6_numberOfTrailingZeros_0f7a4_0 rfl rfl rfl ?_
  refine sk_iconst (v := (-1)) 2 dJ6_numberOfTrailingZeros_0f7a4_1 rfl (by decide) ?_
  refine sk_ixor 3 dJ6_numberOfTrailingZeros_0f7a4_2 rfl ?_
  refine sk_iload_n 0 4 dJ6_numberOfTrailingZeros_0f7a4_3 rfl rfl rfl ?_
  refine sk_iconst (v := 1) 5 dJ6_numberOfTrailingZeros_0f7a4_4 rfl (by decide) ?_
  refine sk_isub 6 dJ6_numberOfTrailingZeros_0f7a4_5 rfl ?_
  refine sk_iand 7 dJ6_numberOfTrailingZeros_0f7a4_6 rfl ?_
  refine sk_istore_n (lv2 := [(0, .int ((v0 ^^^ (-1)) &&& (v0 - 1)))]) 8 dJ6_numberOfTrailingZeros_0f7a4_7 rfl rfl (by decide) rfl ?_
  refine sk_iload_n 0 9 dJ6_numberOfTrailingZeros_0f7a4_8 rfl rfl rfl ?_
  refine sk_if_gt 17 12 dJ6_numberOfTrailingZeros_0f7a4_9 (by decide) rfl (fun hc => ?_) (fun hc => ?_)
  · have h := h.1 hc
    refine sk_iconst (v := 1) 18 dJ6_numberOfTrailingZeros_0f7a4_17 rfl (by decide) ?_
    refine sk_istore_n (lv2 := [(1, .int 1), (0, .int ((v0 ^^^ (-1)) &&& (v0 - 1)))]) 19 dJ6_numberOfTrailingZeros_0f7a4_18 rfl rfl (by decide) rfl ?_
    refine sk_iload_n 1 20 dJ6_numberOfTrailingZeros_0f7a4_19 rfl rfl rfl ?_
    refine sk_ldcw 23 dJ6_numberOfTrailingZeros_0f7a4_20 rfl kcJ6_264 ?_
    refine sk_icmp_le 34 26 dJ6_numberOfTrailingZeros_0f7a4_23 (by decide) rfl (fun hc => ?_) (fun hc => ?_)
    · have h := h.1 hc
      refine sk_iload_n 1 35 dJ6_numberOfTrailingZeros_0f7a4_34 rfl rfl rfl ?_
      refine sk_sipush (v := 256) 38 dJ6_numberOfTrailingZeros_0f7a4_35 rfl (by decide) ?_
      refine sk_icmp_le 49 41 dJ6_numberOfTrailingZeros_0f7a4_38 (by decide) rfl (fun hc => ?_) (fun hc => ?_)
      · have h := h.1 hc
        refine sk_iload_n 1 50 dJ6_numberOfTrailingZeros_0f7a4_49 rfl rfl rfl ?_
        refine sk_bipush (v := 16) 52 dJ6_numberOfTrailingZeros_0f7a4_50 rfl (by decide) ?_
        refine sk_icmp_le 62 55 dJ6_numberOfTrailingZeros_0f7a4_52 (by decide) rfl (fun hc => ?_) (fun hc => ?_)
        · have h := h.1 hc
          refine sk_iload_n 1 63 dJ6_numberOfTrailingZeros_0f7a4_62 rfl rfl rfl ?_
          refine sk_iconst (v := 4) 64 dJ6_numberOfTrailingZeros_0f7a4_63 rfl (by decide) ?_
          refine sk_icmp_le 74 67 dJ6_numberOfTrailingZeros_0f7a4_64 (by decide) rfl (fun hc => ?_) (fun hc => ?_)
          · have h := h.1 hc
            refine sk_iload_n 0 75 dJ6_numberOfTrailingZeros_0f7a4_74 rfl rfl rfl ?_
            refine sk_iload_n 1 76 dJ6_numberOfTrailingZeros_0f7a4_75 rfl rfl rfl ?_
            refine sk_iconst (v := 1) 77 dJ6_numberOfTrailingZeros_0f7a4_76 rfl (by decide) ?_
            refine sk_iushr 78 dJ6_numberOfTrailingZeros_0f7a4_77 rfl ?_
            refine sk_iadd 79 dJ6_numberOfTrailingZeros_0f7a4_78 rfl ?_
            exact sk_iret dJ6_numberOfTrailingZeros_0f7a4_79 rfl rfl h
          · have h := h.2 hc
            refine sk_iinc (v := (1 + 2)) (lv2 := [(1, .int (1 + 2)), (0, .int ((v0 ^^^ (-1)) &&& (v0 - 1)))]) 0 70 dJ6_numberOfTrailingZeros_0f7a4_67 rfl rfl rfl (by decide) rfl ?_
            refine sk_iload_n 1 71 dJ6_numberOfTrailingZeros_0f7a4_70 rfl rfl rfl ?_
            refine sk_iconst (v := 2) 72 dJ6_numberOfTrailingZeros_0f7a4_71 rfl (by decide) ?_
            refine sk_iushr 73 dJ6_numberOfTrailingZeros_0f7a4_72 rfl ?_
            refine sk_istore_n (lv2 := [(0, .int (sk_ush ((v0 ^^^ (-1)) &&& (v0 - 1)) 2)), (1, .int (1 + 2))]) 74 dJ6_numberOfTrailingZeros_0f7a4_73 rfl rfl (by decide) rfl ?_
            refine sk_iload_n 1 75 dJ6_numberOfTrailingZeros_0f7a4_74 rfl rfl rfl ?_
            refine sk_iload_n 0 76 dJ6_numberOfTrailingZeros_0f7a4_75 rfl rfl rfl ?_
            refine sk_iconst (v := 1) 77 dJ6_numberOfTrailingZeros_0f7a4_76 rfl (by decide) ?_
            refine sk_iushr 78 dJ6_numberOfTrailingZeros_0f7a4_77 rfl ?_
            refine sk_iadd 79 dJ6_numberOfTrailingZeros_0f7a4_78 rfl ?_
            exact sk_iret dJ6_numberOfTrailingZeros_0f7a4_79 rfl rfl h
        · have h := h.2 hc
          refine sk_iinc (v := (1 + 4)) (lv2 := [(1, .int (1 + 4)), (0, .int ((v0 ^^^ (-1)) &&& (v0 - 1)))]) 0 58 dJ6_numberOfTrailingZeros_0f7a4_55 rfl rfl rfl (by decide) rfl ?_
          refine sk_iload_n 1 59 dJ6_numberOfTrailingZeros_0f7a4_58 rfl rfl rfl ?_
          refine sk_iconst (v := 4) 60 dJ6_numberOfTrailingZeros_0f7a4_59 rfl (by decide) ?_
          refine sk_iushr 61 dJ6_numberOfTrailingZeros_0f7a4_60 rfl ?_
          refine sk_istore_n (lv2 := [(0, .int (sk_ush ((v0 ^^^ (-1)) &&& (v0 - 1)) 4)), (1, .int (1 + 4))]) 62 dJ6_numberOfTrailingZeros_0f7a4_61 rfl rfl (by decide) rfl ?_
          refine sk_iload_n 0 63 dJ6_numberOfTrailingZeros_0f7a4_62 rfl rfl rfl ?_
          refine sk_iconst (v := 4) 64 dJ6_numberOfTrailingZeros_0f7a4_63 rfl (by decide) ?_
          refine sk_icmp_le 74 67 dJ6_numberOfTrailingZeros_0f7a4_64 (by decide) rfl (fun hc => ?_) (fun hc => ?_)
          · have h := h.1 hc
            refine sk_iload_n 1 75 dJ6_numberOfTrailingZeros_0f7a4_74 rfl rfl rfl ?_
            refine sk_iload_n 0 76 dJ6_numberOfTrailingZeros_0f7a4_75 rfl rfl rfl ?_
            refine sk_iconst (v := 1) 77 dJ6_numberOfTrailingZeros_0f7a4_76 rfl (by decide) ?_
            refine sk_iushr 78 dJ6_numberOfTrailingZeros_0f7a4_77 rfl ?_
            refine sk_iadd 79 dJ6_numberOfTrailingZeros_0f7a4_78 rfl ?_
            exact sk_iret dJ6_numberOfTrailingZeros_0f7a4_79 rfl rfl h
          · have h := h.2 hc
            refine sk_iinc (v := ((1 + 4) + 2)) (lv2 := [(1, .int ((1 + 4) + 2)), (0, .int (sk_ush ((v0 ^^^ (-1)) &&& (v0 - 1)) 4))]) 1 70 dJ6_numberOfTrailingZeros_0f7a4_67 rfl rfl rfl (by decide) rfl ?_
            refine sk_iload_n 1 71 dJ6_numberOfTrailingZeros_0f7a4_70 rfl rfl rfl ?_
            refine sk_iconst (v := 2) 72 dJ6_numberOfTrailingZeros_0f7a4_71 rfl (by decide) ?_
            refine sk_iushr 73 dJ6_numberOfTrailingZeros_0f7a4_72 rfl ?_
            refine sk_istore_n (lv2 := [(0, .int (sk_ush (sk_ush ((v0 ^^^ (-1)) &&& (v0 - 1)) 4) 2)), (1, .int ((1 + 4) + 2))]) 74 dJ6_numberOfTrailingZeros_0f7a4_73 rfl rfl (by decide) rfl ?_
            refine sk_iload_n 1 75 dJ6_numberOfTrailingZeros_0f7a4_74 rfl rfl rfl ?_
            refine sk_iload_n 0 76 dJ6_numberOfTrailingZeros_0f7a4_75 rfl rfl rfl ?_
            refine sk_iconst (v := 1) 77 dJ6_numberOfTrailingZeros_0f7a4_76 rfl (by decide) ?_
            refine sk_iushr 78 dJ6_numberOfTrailingZeros_0f7a4_77 rfl ?_
            refine sk_iadd 79 dJ6_numberOfTrailingZeros_0f7a4_78 rfl ?_
            exact sk_iret dJ6_numberOfTrailingZeros_0f7a4_79 rfl rfl h
      · have h := h.2 hc
        refine sk_iinc (v := (1 + 8)) (lv2 := [(1, .int (1 + 8)), (0, .int ((v0 ^^^ (-1)) &&& (v0 - 1)))]) 0 44 dJ6_numberOfTrailingZeros_0f7a4_41 rfl rfl rfl (by decide) rfl ?_
        refine sk_iload_n 1 45 dJ6_numberOfTrailingZeros_0f7a4_44 rfl rfl rfl ?_
        refine sk_bipush (v := 8) 47 dJ6_numberOfTrailingZeros_0f7a4_45 rfl (by decide) ?_
        refine sk_iushr 48 dJ6_numberOfTrailingZeros_0f7a4_47 rfl ?_
        refine sk_istore_n (lv2 := [(0, .int (sk_ush ((v0 ^^^ (-1)) &&& (v0 - 1)) 8)), (1, .int (1 + 8))]) 49 dJ6_numberOfTrailingZeros_0f7a4_48 rfl rfl (by decide) rfl ?_
        refine sk_iload_n 0 50 dJ6_numberOfTrailingZeros_0f7a4_49 rfl rfl rfl ?_
        refine sk_bipush (v := 16) 52 dJ6_numberOfTrailingZeros_0f7a4_50 rfl (by decide) ?_
        refine sk_icmp_le 62 55 dJ6_numberOfTrailingZeros_0f7a4_52 (by decide) rfl (fun hc => ?_) (fun hc => ?_)
        · have h := h.1 hc
          refine sk_iload_n 0 63 dJ6_numberOfTrailingZeros_0f7a4_62 rfl rfl rfl ?_
          refine sk_iconst (v := 4) 64 dJ6_numberOfTrailingZeros_0f7a4_63 rfl (by decide) ?_
          refine sk_icmp_le 74 67 dJ6_numberOfTrailingZeros_0f7a4_64 (by decide) rfl (fun hc => ?_) (fun hc => ?_)
          · have h := h.1 hc
            refine sk_iload_n 1 75 dJ6_numberOfTrailingZeros_0f7a4_74 rfl rfl rfl ?_
            refine sk_iload_n 0 76 dJ6_numberOfTrailingZeros_0f7a4_75 rfl rfl rfl ?_
            refine sk_iconst (v := 1) 77 dJ6_numberOfTrailingZeros_0f7a4_76 rfl (by decide) ?_
            refine sk_iushr 78 dJ6_numberOfTrailingZeros_0f7a4_77 rfl ?_
            refine sk_iadd 79 dJ6_numberOfTrailingZeros_0f7a4_78 rfl ?_
            exact sk_iret dJ6_numberOfTrailingZeros_0f7a4_79 rfl rfl h
          · have h := h.2 hc
            refine sk_iinc (v := ((1 + 8) + 2)) (lv2 := [(1, .int ((1 + 8) + 2)), (0, .int (sk_ush ((v0 ^^^ (-1)) &&& (v0 - 1)) 8))]) 1 70 dJ6_numberOfTrailingZeros_0f7a4_67 rfl rfl rfl (by decide) rfl ?_
            refine sk_iload_n 1 71 dJ6_numberOfTrailingZeros_0f7a4_70 rfl rfl rfl ?_
            refine sk_iconst (v := 2) 72 dJ6_numberOfTrailingZeros_0f7a4_71 rfl (by decide) ?_
            refine sk_iushr 73 dJ6_numberOfTrailingZeros_0f7a4_72 rfl ?_
            refine sk_istore_n (lv2 := [(0, .int (sk_ush (sk_ush ((v0 ^^^ (-1)) &&& (v0 - 1)) 8) 2)), (1, .int ((1 + 8) + 2))]) 74 dJ6_numberOfTrailingZeros_0f7a4_73 rfl rfl (by decide) rfl ?_
            refine sk_iload_n 1 75 dJ6_numberOfTrailingZeros_0f7a4_74 rfl rfl rfl ?_
            refine sk_iload_n 0 76 dJ6_numberOfTrailingZeros_0f7a4_75 rfl rfl rfl ?_
            refine sk_iconst (v := 1) 77 dJ6_numberOfTrailingZeros_0f7a4_76 rfl (by decide) ?_
            refine sk_iushr 78 dJ6_numberOfTrailingZeros_0f7a4_77 rfl ?_
            refine sk_iadd 79 dJ6_numberOfTrailingZeros_0f7a4_78 rfl ?_
            exact sk_iret dJ6_numberOfTrailingZeros_0f7a4_79 rfl rfl h
        · have h := h.2 hc
          refine sk_iinc (v := ((1 + 8) + 4)) (lv2 := [(1, .int ((1 + 8) + 4)), (0, .int (sk_ush ((v0 ^^^ (-1)) &&& (v0 - 1)) 8))]) 1 58 dJ6_numberOfTrailingZeros_0f7a4_55 rfl rfl rfl (by decide) rfl ?_
          refine sk_iload_n 1 59 dJ6_numberOfTrailingZeros_0f7a4_58 rfl rfl rfl ?_
          refine sk_iconst (v := 4) 60 dJ6_numberOfTrailingZeros_0f7a4_59 rfl (by decide) ?_
          refine sk_iushr 61 dJ6_numberOfTrailingZeros_0f7a4_60 rfl ?_
          refine sk_istore_n (lv2 := [(0, .int (sk_ush (sk_ush ((v0 ^^^ (-1)) &&& (v0 - 1)) 8) 4)), (1, .int ((1 + 8) + 4))]) 62 dJ6_numberOfTrailingZeros_0f7a4_61 rfl rfl (by decide) rfl ?_
          refine sk_iload_n 0 63 dJ6_numberOfTrailingZeros_0f7a4_62 rfl rfl rfl ?_
          refine sk_iconst (v := 4) 64 dJ6_numberOfTrailingZeros_0f7a4_63 rfl (by decide) ?_
          refine sk_icmp_le 74 67 dJ6_numberOfTrailingZeros_0f7a4_64 (by decide) rfl (fun hc => ?_) (fun hc => ?_)
          · have h := h.1 hc
            refine sk_iload_n 1 75 dJ6_numberOfTrailingZeros_0f7a4_74 rfl rfl rfl ?_
            refine sk_iload_n 0 76 dJ6_numberOfTrailingZeros_0f7a4_75 rfl rfl rfl ?_
            refine sk_iconst (v := 1) 77 dJ6_numberOfTrailingZeros_0f7a4_76 rfl (by decide) ?_
            refine sk_iushr 78 dJ6_numberOfTrailingZeros_0f7a4_77 rfl ?_
            refine sk_iadd 79 dJ6_numberOfTrailingZeros_0f7a4_78 rfl ?_
            exact sk_iret dJ6_numberOfTrailingZeros_0f7a4_79 rfl rfl h
          · have h := h.2 hc
            refine sk_iinc (v := (((1 + 8) + 4) + 2)) (lv2 := [(1, .int (((1 + 8) + 4) + 2)), (0, .int (sk_ush (sk_ush ((v0 ^^^ (-1)) &&& (v0 - 1)) 8) 4))]) 1 70 dJ6_numberOfTrailingZeros_0f7a4_67 rfl rfl rfl (by decide) rfl ?_
            refine sk_iload_n 1 71 dJ6_numberOfTrailingZeros_0f7a4_70 rfl rfl rfl ?_
            refine sk_iconst (v := 2) 72 dJ6_numberOfTrailingZeros_0f7a4_71 rfl (by decide) ?_
            refine sk_iushr 73 dJ6_numberOfTrailingZeros_0f7a4_72 rfl ?_
            refine sk_istore_n (lv2 := [(0, .int (sk_ush (sk_ush (sk_ush ((v0 ^^^ (-1)) &&& (v0 - 1)) 8) 4) 2)), (1, .int (((1 + 8) + 4) + 2))]) 74 dJ6_numberOfTrailingZeros_0f7a4_73 rfl rfl (by decide) rfl ?_
            refine sk_iload_n 1 75 dJ6_numberOfTrailingZeros_0f7a4_74 rfl rfl rfl ?_
            refine sk_iload_n 0 76 dJ6_numberOfTrailingZeros_0f7a4_75 rfl rfl rfl ?_
            refine sk_iconst (v := 1) 77 dJ6_numberOfTrailingZeros_0f7a4_76 rfl (by decide) ?_
            refine sk_iushr 78 dJ6_numberOfTrailingZeros_0f7a4_77 rfl ?_
            refine sk_iadd 79 dJ6_numberOfTrailingZeros_0f7a4_78 rfl ?_
            exact sk_iret dJ6_numberOfTrailingZeros_0f7a4_79 rfl rfl h
    · have h := h.2 hc
      refine sk_iinc (v := (1 + 16)) (lv2 := [(1, .int (1 + 16)), (0, .int ((v0 ^^^ (-1)) &&& (v0 - 1)))]) 0 29 dJ6_numberOfTrailingZeros_0f7a4_26 rfl rfl rfl (by decide) rfl ?_
      refine sk_iload_n 1 30 dJ6_numberOfTrailingZeros_0f7a4_29 rfl rfl rfl ?_
      refine sk_bipush (v := 16) 32 dJ6_numberOfTrailingZeros_0f7a4_30 rfl (by decide) ?_
      refine sk_iushr 33 dJ6_numberOfTrailingZeros_0f7a4_32 rfl ?_
      refine sk_istore_n (lv2 := [(0, .int (sk_ush ((v0 ^^^ (-1)) &&& (v0 - 1)) 16)), (1, .int (1 + 16))]) 34 dJ6_numberOfTrailingZeros_0f7a4_33 rfl rfl (by decide) rfl ?_
      refine sk_iload_n 0 35 dJ6_numberOfTrailingZeros_0f7a4_34 rfl rfl rfl ?_
      refine sk_sipush (v := 256) 38 dJ6_numberOfTrailingZeros_0f7a4_35 rfl (by decide) ?_
      refine sk_icmp_le 49 41 dJ6_numberOfTrailingZeros_0f7a4_38 (by decide) rfl (fun hc => ?_) (fun hc => ?_)
      · have h := h.1 hc
        refine sk_iload_n 0 50 dJ6_numberOfTrailingZeros_0f7a4_49 rfl rfl rfl ?_
        refine sk_bipush (v := 16) 52 dJ6_numberOfTrailingZeros_0f7a4_50 rfl (by decide) ?_
        refine sk_icmp_le 62 55 dJ6_numberOfTrailingZeros_0f7a4_52 (by decide) rfl (fun hc => ?_) (fun hc => ?_)
        · have h := h.1 hc
          refine sk_iload_n 0 63 dJ6_numberOfTrailingZeros_0f7a4_62 rfl rfl rfl ?_
          refine sk_iconst (v := 4) 64 dJ6_numberOfTrailingZeros_0f7a4_63 rfl (by decide) ?_
          refine sk_icmp_le 74 67 dJ6_numberOfTrailingZeros_0f7a4_64 (by decide) rfl (fun hc => ?_) (fun hc => ?_)
          · have h := h.1 hc
            refine sk_iload_n 1 75 dJ6_numberOfTrailingZeros_0f7a4_74 rfl rfl rfl ?_
            refine sk_iload_n 0 76 dJ6_numberOfTrailingZeros_0f7a4_75 rfl rfl rfl ?_
            refine sk_iconst (v := 1) 77 dJ6_numberOfTrailingZeros_0f7a4_76 rfl (by decide) ?_
            refine sk_iushr 78 dJ6_numberOfTrailingZeros_0f7a4_77 rfl ?_
            refine sk_iadd 79 dJ6_numberOfTrailingZeros_0f7a4_78 rfl ?_
            exact sk_iret dJ6_numberOfTrailingZeros_0f7a4_79 rfl rfl h
          · have h := h.2 hc
            refine sk_iinc (v := ((1 + 16) + 2)) (lv2 := [(1, .int ((1 + 16) + 2)), (0, .int (sk_ush ((v0 ^^^ (-1)) &&& (v0 - 1)) 16))]) 1 70 dJ6_numberOfTrailingZeros_0f7a4_67 rfl rfl rfl (by decide) rfl ?_
            refine sk_iload_n 1 71 dJ6_numberOfTrailingZeros_0f7a4_70 rfl rfl rfl ?_
            refine sk_iconst (v := 2) 72 dJ6_numberOfTrailingZeros_0f7a4_71 rfl (by decide) ?_
            refine sk_iushr 73 dJ6_numberOfTrailingZeros_0f7a4_72 rfl ?_
            refine sk_istore_n (lv2 := [(0, .int (sk_ush (sk_ush ((v0 ^^^ (-1)) &&& (v0 - 1)) 16) 2)), (1, .int ((1 + 16) + 2))]) 74 dJ6_numberOfTrailingZeros_0f7a4_73 rfl rfl (by decide) rfl ?_
            refine sk_iload_n 1 75 dJ6_numberOfTrailingZeros_0f7a4_74 rfl rfl rfl ?_
            refine sk_iload_n 0 76 dJ6_numberOfTrailingZeros_0f7a4_75 rfl rfl rfl ?_
            refine sk_iconst (v := 1) 77 dJ6_numberOfTrailingZeros_0f7a4_76 rfl (by decide) ?_
            refine sk_iushr 78 dJ6_numberOfTrailingZeros_0f7a4_77 rfl ?_
            refine sk_iadd 79 dJ6_numberOfTrailingZeros_0f7a4_78 rfl ?_
            exact sk_iret dJ6_numberOfTrailingZeros_0f7a4_79 rfl rfl h
        · have h := h.2 hc
          refine sk_iinc (v := ((1 + 16) + 4)) (lv2 := [(1, .int ((1 + 16) + 4)), (0, .int (sk_ush ((v0 ^^^ (-1)) &&& (v0 - 1)) 16))]) 1 58 dJ6_numberOfTrailingZeros_0f7a4_55 rfl rfl rfl (by decide) rfl ?_
          refine sk_iload_n 1 59 dJ6_numberOfTrailingZeros_0f7a4_58 rfl rfl rfl ?_
          refine sk_iconst (v := 4) 60 dJ6_numberOfTrailingZeros_0f7a4_59 rfl (by decide) ?_
          refine sk_iushr 61 dJ6_numberOfTrailingZeros_0f7a4_60 rfl ?_
          refine sk_istore_n (lv2 := [(0, .int (sk_ush (sk_ush ((v0 ^^^ (-1)) &&& (v0 - 1)) 16) 4)), (1, .int ((1 + 16) + 4))]) 62 dJ6_numberOfTrailingZeros_0f7a4_61 rfl rfl (by decide) rfl ?_
          refine sk_iload_n 0 63 dJ6_numberOfTrailingZeros_0f7a4_62 rfl rfl rfl ?_
          refine sk_iconst (v := 4) 64 dJ6_numberOfTrailingZeros_0f7a4_63 rfl (by decide) ?_
          refine sk_icmp_le 74 67 dJ6_numberOfTrailingZeros_0f7a4_64 (by decide) rfl (fun hc => ?_) (fun hc => ?_)
          · have h := h.1 hc
            refine sk_iload_n 1 75 dJ6_numberOfTrailingZeros_0f7a4_74 rfl rfl rfl ?_
            refine sk_iload_n 0 76 dJ6_numberOfTrailingZeros_0f7a4_75 rfl rfl rfl ?_
            refine sk_iconst (v := 1) 77 dJ6_numberOfTrailingZeros_0f7a4_76 rfl (by decide) ?_
            refine sk_iushr 78 dJ6_numberOfTrailingZeros_0f7a4_77 rfl ?_
            refine sk_iadd 79 dJ6_numberOfTrailingZeros_0f7a4_78 rfl ?_
            exact sk_iret dJ6_numberOfTrailingZeros_0f7a4_79 rfl rfl h
          · have h := h.2 hc
            refine sk_iinc (v := (((1 + 16) + 4) + 2)) (lv2 := [(1, .int (((1 + 16) + 4) + 2)), (0, .int (sk_ush (sk_ush ((v0 ^^^ (-1)) &&& (v0 - 1)) 16) 4))]) 1 70 dJ6_numberOfTrailingZeros_0f7a4_67 rfl rfl rfl (by decide) rfl ?_
            refine sk_iload_n 1 71 dJ6_numberOfTrailingZeros_0f7a4_70 rfl rfl rfl ?_
            refine sk_iconst (v := 2) 72 dJ6_numberOfTrailingZeros_0f7a4_71 rfl (by decide) ?_
            refine sk_iushr 73 dJ6_numberOfTrailingZeros_0f7a4_72 rfl ?_
            refine sk_istore_n (lv2 := [(0, .int (sk_ush (sk_ush (sk_ush ((v0 ^^^ (-1)) &&& (v0 - 1)) 16) 4) 2)), (1, .int (((1 + 16) + 4) + 2))]) 74 dJ6_numberOfTrailingZeros_0f7a4_73 rfl rfl (by decide) rfl ?_
            refine sk_iload_n 1 75 dJ6_numberOfTrailingZeros_0f7a4_74 rfl rfl rfl ?_
            refine sk_iload_n 0 76 dJ6_numberOfTrailingZeros_0f7a4_75 rfl rfl rfl ?_
            refine sk_iconst (v := 1) 77 dJ6_numberOfTrailingZeros_0f7a4_76 rfl (by decide) ?_
            refine sk_iushr 78 dJ6_numberOfTrailingZeros_0f7a4_77 rfl ?_
            refine sk_iadd 79 dJ6_numberOfTrailingZeros_0f7a4_78 rfl ?_
            exact sk_iret dJ6_numberOfTrailingZeros_0f7a4_79 rfl rfl h
      · have h := h.2 hc
        refine sk_iinc (v := ((1 + 16) + 8)) (lv2 := [(1, .int ((1 + 16) + 8)), (0, .int (sk_ush ((v0 ^^^ (-1)) &&& (v0 - 1)) 16))]) 1 44 dJ6_numberOfTrailingZeros_0f7a4_41 rfl rfl rfl (by decide) rfl ?_
        refine sk_iload_n 1 45 dJ6_numberOfTrailingZeros_0f7a4_44 rfl rfl rfl ?_
        refine sk_bipush (v := 8) 47 dJ6_numberOfTrailingZeros_0f7a4_45 rfl (by decide) ?_
        refine sk_iushr 48 dJ6_numberOfTrailingZeros_0f7a4_47 rfl ?_
        refine sk_istore_n (lv2 := [(0, .int (sk_ush (sk_ush ((v0 ^^^ (-1)) &&& (v0 - 1)) 16) 8)), (1, .int ((1 + 16) + 8))]) 49 dJ6_numberOfTrailingZeros_0f7a4_48 rfl rfl (by decide) rfl ?_
        refine sk_iload_n 0 50 dJ6_numberOfTrailingZeros_0f7a4_49 rfl rfl rfl ?_
        refine sk_bipush (v := 16) 52 dJ6_numberOfTrailingZeros_0f7a4_50 rfl (by decide) ?_
        refine sk_icmp_le 62 55 dJ6_numberOfTrailingZeros_0f7a4_52 (by decide) rfl (fun hc => ?_) (fun hc => ?_)
        · have h := h.1 hc
          refine sk_iload_n 0 63 dJ6_numberOfTrailingZeros_0f7a4_62 rfl rfl rfl ?_
          refine sk_iconst (v := 4) 64 dJ6_numberOfTrailingZeros_0f7a4_63 rfl (by decide) ?_
          refine sk_icmp_le 74 67 dJ6_numberOfTrailingZeros_0f7a4_64 (by decide) rfl (fun hc => ?_) (fun hc => ?_)
          · have h := h.1 hc
            refine sk_iload_n 1 75 dJ6_numberOfTrailingZeros_0f7a4_74 rfl rfl rfl ?_
            refine sk_iload_n 0 76 dJ6_numberOfTrailingZeros_0f7a4_75 rfl rfl rfl ?_
            refine sk_iconst (v := 1) 77 dJ6_numberOfTrailingZeros_0f7a4_76 rfl (by decide) ?_
            refine sk_iushr 78 dJ6_numberOfTrailingZeros_0f7a4_77 rfl ?_
            refine sk_iadd 79 dJ6_numberOfTrailingZeros_0f7a4_78 rfl ?_
            exact sk_iret dJ6_numberOfTrailingZeros_0f7a4_79 rfl rfl h
          · have h := h.2 hc
            refine sk_iinc (v := (((1 + 16) + 8) + 2)) (lv2 := [(1, .int (((1 + 16) + 8) + 2)), (0, .int (sk_ush (sk_ush ((v0 ^^^ (-1)) &&& (v0 - 1)) 16) 8))]) 1 70 dJ6_numberOfTrailingZeros_0f7a4_67 rfl rfl rfl (by decide) rfl ?_
            refine sk_iload_n 1 71 dJ6_numberOfTrailingZeros_0f7a4_70 rfl rfl rfl ?_
            refine sk_iconst (v := 2) 72 dJ6_numberOfTrailingZeros_0f7a4_71 rfl (by decide) ?_
            refine sk_iushr 73 dJ6_numberOfTrailingZeros_0f7a4_72 rfl ?_
            refine sk_istore_n (lv2 := [(0, .int (sk_ush (sk_ush (sk_ush ((v0 ^^^ (-1)) &&& (v0 - 1)) 16) 8) 2)), (1, .int (((1 + 16) + 8) + 2))]) 74 dJ6_numberOfTrailingZeros_0f7a4_73 rfl rfl (by decide) rfl ?_
            refine sk_iload_n 1 75 dJ6_numberOfTrailingZeros_0f7a4_74 rfl rfl rfl ?_
            refine sk_iload_n 0 76 dJ6_numberOfTrailingZeros_0f7a4_75 rfl rfl rfl ?_
            refine sk_iconst (v := 1) 77 dJ6_numberOfTrailingZeros_0f7a4_76 rfl (by decide) ?_
            refine sk_iushr 78 dJ6_numberOfTrailingZeros_0f7a4_77 rfl ?_
            refine sk_iadd 79 dJ6_numberOfTrailingZeros_0f7a4_78 rfl ?_
            exact sk_iret dJ6_numberOfTrailingZeros_0f7a4_79 rfl rfl h
        · have h := h.2 hc
          refine sk_iinc (v := (((1 + 16) + 8) + 4)) (lv2 := [(1, .int (((1 + 16) + 8) + 4)), (0, .int (sk_ush (sk_ush ((v0 ^^^ (-1)) &&& (v0 - 1)) 16) 8))]) 1 58 dJ6_numberOfTrailingZeros_0f7a4_55 rfl rfl rfl (by decide) rfl ?_
          refine sk_iload_n 1 59 dJ6_numberOfTrailingZeros_0f7a4_58 rfl rfl rfl ?_
          refine sk_iconst (v := 4) 60 dJ6_numberOfTrailingZeros_0f7a4_59 rfl (by decide) ?_
          refine sk_iushr 61 dJ6_numberOfTrailingZeros_0f7a4_60 rfl ?_
          refine sk_istore_n (lv2 := [(0, .int (sk_ush (sk_ush (sk_ush ((v0 ^^^ (-1)) &&& (v0 - 1)) 16) 8) 4)), (1, .int (((1 + 16) + 8) + 4))]) 62 dJ6_numberOfTrailingZeros_0f7a4_61 rfl rfl (by decide) rfl ?_
          refine sk_iload_n 0 63 dJ6_numberOfTrailingZeros_0f7a4_62 rfl rfl rfl ?_
          refine sk_iconst (v := 4) 64 dJ6_numberOfTrailingZeros_0f7a4_63 rfl (by decide) ?_
          refine sk_icmp_le 74 67 dJ6_numberOfTrailingZeros_0f7a4_64 (by decide) rfl (fun hc => ?_) (fun hc => ?_)
          · have h := h.1 hc
            refine sk_iload_n 1 75 dJ6_numberOfTrailingZeros_0f7a4_74 rfl rfl rfl ?_
            refine sk_iload_n 0 76 dJ6_numberOfTrailingZeros_0f7a4_75 rfl rfl rfl ?_
            refine sk_iconst (v := 1) 77 dJ6_numberOfTrailingZeros_0f7a4_76 rfl (by decide) ?_
            refine sk_iushr 78 dJ6_numberOfTrailingZeros_0f7a4_77 rfl ?_
            refine sk_iadd 79 dJ6_numberOfTrailingZeros_0f7a4_78 rfl ?_
            exact sk_iret dJ6_numberOfTrailingZeros_0f7a4_79 rfl rfl h
          · have h := h.2 hc
            refine sk_iinc (v := ((((1 + 16) + 8) + 4) + 2)) (lv2 := [(1, .int ((((1 + 16) + 8) + 4) + 2)), (0, .int (sk_ush (sk_ush (sk_ush ((v0 ^^^ (-1)) &&& (v0 - 1)) 16) 8) 4))]) 1 70 dJ6_numberOfTrailingZeros_0f7a4_67 rfl rfl rfl (by decide) rfl ?_
            refine sk_iload_n 1 71 dJ6_numberOfTrailingZeros_0f7a4_70 rfl rfl rfl ?_
            refine sk_iconst (v := 2) 72 dJ6_numberOfTrailingZeros_0f7a4_71 rfl (by decide) ?_
            refine sk_iushr 73 dJ6_numberOfTrailingZeros_0f7a4_72 rfl ?_
            refine sk_istore_n (lv2 := [(0, .int (sk_ush (sk_ush (sk_ush (sk_ush ((v0 ^^^ (-1)) &&& (v0 - 1)) 16) 8) 4) 2)), (1, .int ((((1 + 16) + 8) + 4) + 2))]) 74 dJ6_numberOfTrailingZeros_0f7a4_73 rfl rfl (by decide) rfl ?_
            refine sk_iload_n 1 75 dJ6_numberOfTrailingZeros_0f7a4_74 rfl rfl rfl ?_
            refine sk_iload_n 0 76 dJ6_numberOfTrailingZeros_0f7a4_75 rfl rfl rfl ?_
            refine sk_iconst (v := 1) 77 dJ6_numberOfTrailingZeros_0f7a4_76 rfl (by decide) ?_
            refine sk_iushr 78 dJ6_numberOfTrailingZeros_0f7a4_77 rfl ?_
            refine sk_iadd 79 dJ6_numberOfTrailingZeros_0f7a4_78 rfl ?_
            exact sk_iret dJ6_numberOfTrailingZeros_0f7a4_79 rfl rfl h
  · have h := h.2 hc
    refine sk_iload_n 0 13 dJ6_numberOfTrailingZeros_0f7a4_12 rfl rfl rfl ?_
    refine sk_bipush (v := 32) 15 dJ6_numberOfTrailingZeros_0f7a4_13 rfl (by decide) ?_
    refine sk_iand 16 dJ6_numberOfTrailingZeros_0f7a4_15 rfl ?_
    exact sk_iret dJ6_numberOfTrailingZeros_0f7a4_16 rfl rfl h

theorem wJ6_bitCount_0f7a4 {d : Nat} {τ : sk_T} {K : sk_K} {v0 : Int32}
  (h : K (some (.int ((((((((v0 - ((sk_ush v0 1) &&& 1431655765)) &&& 858993459) + ((sk_ush (v0 - ((sk_ush v0 1) &&& 1431655765)) 2) &&& 858993459)) + (sk_ush (((v0 - ((sk_ush v0 1) &&& 1431655765)) &&& 858993459) + ((sk_ush (v0 - ((sk_ush v0 1) &&& 1431655765)) 2) &&& 858993459)) 4)) &&& 252645135) + (sk_ush (((((v0 - ((sk_ush v0 1) &&& 1431655765)) &&& 858993459) + ((sk_ush (v0 - ((sk_ush v0 1) &&& 1431655765)) 2) &&& 858993459)) + (sk_ush (((v0 - ((sk_ush v0 1) &&& 1431655765)) &&& 858993459) + ((sk_ush (v0 - ((sk_ush v0 1) &&& 1431655765)) 2) &&& 858993459)) 4)) &&& 252645135) 8)) + (sk_ush ((((((v0 - ((sk_ush v0 1) &&& 1431655765)) &&& 858993459) + ((sk_ush (v0 - ((sk_ush v0 1) &&& 1431655765)) 2) &&& 858993459)) + (sk_ush (((v0 - ((sk_ush v0 1) &&& 1431655765)) &&& 858993459) + ((sk_ush (v0 - ((sk_ush v0 1) &&& 1431655765)) 2) &&& 858993459)) 4)) &&& 252645135) + (sk_ush (((((v0 - ((sk_ush v0 1) &&& 1431655765)) &&& 858993459) + ((sk_ush (v0 - ((sk_ush v0 1) &&& 1431655765)) 2) &&& 858993459)) + (sk_ush (((v0 - ((sk_ush v0 1) &&& 1431655765)) &&& 858993459) + ((sk_ush (v0 - ((sk_ush v0 1) &&& 1431655765)) 2) &&& 858993459)) 4)) &&& 252645135) 8)) 16)) &&& 63))) τ) :
  sk_C sk_Sc d mJ6_bitCount_0f7a4 [.int v0] τ K := by
  refine sk_enter mfJ6_bitCount_0f7a4 (Nat.le_of_ble_eq_true rfl) ?_
  show sk_G sk_Sc d mJ6_bitCount_0f7a4 0 [(0, .int v0)] [] τ K
  refine sk_iload_n 0 1 dJ6_bitCount_0f7a4_0 rfl rfl rfl ?_
  refine sk_iload_n 0 2 dJ6_bitCount_0f7a4_1 rfl rfl rfl ?_
  refine sk_iconst (v := 1) 3 dJ6_bitCount_0f7a4_2 rfl (by decide) ?_
  refine sk_iushr 4 dJ6_bitCount_0f7a4_3 rfl ?_
  refine sk_ldcw 7 dJ6_bitCount_0f7a4_4 rfl kcJ6_265 ?_
  refine sk_iand 8 dJ6_bitCount_0f7a4_7 rfl ?_
  refine sk_isub 9 dJ6_bitCount_0f7a4_8 rfl ?_
  refine sk_istore_n (lv2 := [(0, .int (v0 - ((sk_ush v0 1) &&& 1431655765)))]) 10 dJ6_bitCount_0f7a4_9 rfl rfl (by decide) rfl ?_
  refine sk_iload_n 0 11 dJ6_bitCount_0f7a4_10 rfl rfl rfl ?_
  refine sk_ldcw 14 dJ6_bitCount_0f7a4_11 rfl kcJ6_266 ?_
  refine sk_iand 15 dJ6_bitCount_0f7a4_14 rfl ?_
  refine sk_iload_n 0 16 dJ6_bitCount_0f7a4_15 rfl rfl rfl ?_
  refine sk_iconst (v := 2) 17 dJ6_bitCount_0f7a4_16 rfl (by decide) ?_
  refine sk_iushr 18 dJ6_bitCount_0f7a4_17 rfl ?_
  refine sk_ldcw 21 dJ6_bitCount_0f7a4_18 rfl kcJ6_266 ?_
  refine sk_iand 22 dJ6_bitCount_0f7a4_21 rfl ?_
  refine sk_iadd 23 dJ6_bitCount_0f7a4_22 rfl ?_
  refine sk_istore_n (lv2 := [(0, .int (((v0 - ((sk_ush v0 1) &&& 1431655765)) &&& 858993459) + ((sk_ush (v0 - ((sk_ush v0 1) &&& 1431655765)) 2) &&& 858993459)))]) 24 dJ6_bitCount_0f7a4_23 rfl rfl (by decide) rfl ?_
  refine sk_iload_n 0 25 dJ6_bitCount_0f7a4_24 rfl rfl rfl ?_
  refine sk_iload_n 0 26 dJ6_bitCount_0f7a4_25 rfl rfl rfl ?_
  refine sk_iconst (v := 4) 27 dJ6_bitCount_0f7a4_26 rfl (by decide) ?_
  refine sk_iushr 28 dJ6_bitCount_0f7a4_27 rfl ?_
  refine sk_iadd 29 dJ6_bitCount_0f7a4_28 rfl ?_
  refine sk_ldcw 32 dJ6_bitCount_0f7a4_29 rfl kcJ6_267 ?_
  refine sk_iand 33 dJ6_bitCount_0f7a4_32 rfl ?_
  refine sk_istore_n (lv2 := [(0, .int (((((v0 - ((sk_ush v0 1) &&& 1431655765)) &&& 858993459) + ((sk_ush (v0 - ((sk_ush v0 1) &&& 1431655765)) 2) &&& 858993459)) + (sk_ush (((v0 - ((sk_ush v0 1) &&& 1431655765)) &&& 858993459) + ((sk_ush (v0 - ((sk_ush v0 1) &&& 1431655765)) 2) &&& 858993459)) 4)) &&& 252645135))]) 34 dJ6_bitCount_0f7a4_33 rfl rfl (by decide) rfl ?_
  refine sk_iload_n 0 35 dJ6_bitCount_0f7a4_34 rfl rfl rfl ?_
  refine sk_iload_n 0 36 dJ6_bitCount_0f7a4_35 rfl rfl rfl ?_
  refine sk_bipush (v := 8) 38 dJ6_bitCount_0f7a4_36 rfl (by decide) ?_
  refine sk_iushr 39 dJ6_bitCount_0f7a4_38 rfl ?_
  refine sk_iadd 40 dJ6_bitCount_0f7a4_39 rfl ?_
  refine sk_istore_n (lv2 := [(0, .int ((((((v0 - ((sk_ush v0 1) &&& 1431655765)) &&& 858993459) + ((sk_ush (v0 - ((sk_ush v0 1) &&& 1431655765)) 2) &&& 858993459)) + (sk_ush (((v0 - ((sk_ush v0 1) &&& 1431655765)) &&& 858993459) + ((sk_ush (v0 - ((sk_ush v0 1) &&& 1431655765)) 2) &&& 858993459)) 4)) &&& 252645135) + (sk_ush (((((v0 - ((sk_ush v0 1) &&& 1431655765)) &&& 858993459) + ((sk_ush (v0 - ((sk_ush v0 1) &&& 1431655765)) 2) &&& 858993459)) + (sk_ush (((v0 - ((sk_ush v0 1) &&& 1431655765)) &&& 858993459) + ((sk_ush (v0 - ((sk_ush v0 1) &&& 1431655765)) 2) &&& 858993459)) 4)) &&& 252645135) 8)))]) 41 dJ6_bitCount_0f7a4_40 rfl rfl (by decide) rfl ?_
  refine sk_iload_n 0 42 dJ6_bitCount_0f7a4_41 rfl rfl rfl ?_
  refine sk_iload_n 0 43 dJ6_bitCount_0f7a4_42 rfl rfl rfl ?_
  refine sk_bipush (v := 16) 45 dJ6_bitCount_0f7a4_43 rfl (by decide) ?_
  refine sk_iushr 46 dJ6_bitCount_0f7a4_45 rfl ?_
  refine sk_iadd 47 dJ6_bitCount_0f7a4_46 rfl ?_
  refine sk_istore_n (lv2 := [(0, .int (((((((v0 - ((sk_ush v0 1) &&& 1431655765)) &&& 858993459) + ((sk_ush (v0 - ((sk_ush v0 1) &&& 1431655765)) 2) &&& 858993459)) + (sk_ush (((v0 - ((sk_ush v0 1) &&& 1431655765)) &&& 858993459) + ((sk_ush (v0 - ((sk_ush v0 1) &&& 1431655765)) 2) &&& 858993459)) 4)) &&& 252645135) + (sk_ush (((((v0 - ((sk_ush v0 1) &&& 1431655765)) &&& 858993459) + ((sk_ush (v0 - ((sk_ush v0 1) &&& 1431655765)) 2) &&& 858993459)) + (sk_ush (((v0 - ((sk_ush v0 1) &&& 1431655765)) &&& 858993459) + ((sk_ush (v0 - ((sk_ush v0 1) &&& 1431655765)) 2) &&& 858993459)) 4)) &&& 252645135) 8)) + (sk_ush ((((((v0 - ((sk_ush v0 1) &&& 1431655765)) &&& 858993459) + ((sk_ush (v0 - ((sk_ush v0 1) &&& 1431655765)) 2) &&& 858993459)) + (sk_ush (((v0 - ((sk_ush v0 1) &&& 1431655765)) &&& 858993459) + ((sk_ush (v0 - ((sk_ush v0 1) &&& 1431655765)) 2) &&& 858993459)) 4)) &&& 252645135) + (sk_ush (((((v0 - ((sk_ush v0 1) &&& 1431655765)) &&& 858993459) + ((sk_ush (v0 - ((sk_ush v0 1) &&& 1431655765)) 2) &&& 858993459)) + (sk_ush (((v0 - ((sk_ush v0 1) &&& 1431655765)) &&& 858993459) + ((sk_ush (v0 - ((sk_ush v0 1) &&& 1431655765)) 2) &&& 858993459)) 4)) &&& 252645135) 8)) 16)))]) 48 dJ6_bitCount_0f7a4_47 rfl rfl (by decide) rfl ?_
  refine sk_iload_n 0 49 dJ6_bitCount_0f7a4_48 rfl rfl rfl ?_
  refine sk_bipush (v := 63) 51 dJ6_bitCount_0f7a4_49 rfl (by decide) ?_
  refine sk_iand 52 dJ6_bitCount_0f7a4_51 rfl ?_
  exact sk_iret dJ6_bitCount_0f7a4_52 rfl rfl h

theorem wJ13_numberOfTrailingZeros_95d88 {d : Nat} {τ : sk_T} {K : sk_K} {v0 : Int64} (hd0 : 0 < d)
  (h : ((¬ (Int64.toInt32 v0) = 0 →
      sk_C sk_Sc (d - 1) mJ6_numberOfTrailingZeros_0f7a4 [.int (Int64.toInt32 v0)] τ (fun w t22 => ∃ r22 : Int32, w = some (.int r22) ∧
        K (some (.int r22)) t22
      )
    ) ∧
    ((Int64.toInt32 v0) = 0 →
      sk_C sk_Sc (d - 1) mJ6_numberOfTrailingZeros_0f7a4 [.int (Int64.toInt32 (sk_lush v0 32))] τ (fun w t14 => ∃ r14 : Int32, w = some (.int r14) ∧
        K (some (.int (32 + r14))) t14
      )
    ))) :
  sk_C sk_Sc d mJ13_numberOfTrailingZeros_95d88 [.long v0] τ K := by
  refine sk_enter mfJ13_numberOfTrailingZeros_95d88 (Nat.le_of_ble_eq_true rfl) ?_
  show sk_G sk_Sc d mJ13_numberOfTrailingZeros_95d88 0 [(0, .long v0)] [] τ K
  refine sk_lload_n 0 1 dJ13_numberOfTrailingZeros_95d88_0 rfl rfl rfl ?_
  refine sk_l2i 2 dJ13_numberOfTrailingZeros_95d88_1 rfl ?_
  refine sk_istore_n (lv2 := [(2, .int (Int64.toInt32 v0)), (0, .long v0)]) 3 dJ13_numberOfTrailingZeros_95d88_2 rfl rfl (by decide) rfl ?_
  refine sk_iload_n 0 4 dJ13_numberOfTrailingZeros_95d88_3 rfl rfl rfl ?_
  refine sk_if_ne 21 7 dJ13_numberOfTrailingZeros_95d88_4 (by decide) rfl (fun hc => ?_) (fun hc => ?_)
  · have h := h.1 hc
    refine sk_iload_n 0 22 dJ13_numberOfTrailingZeros_95d88_21 rfl rfl rfl ?_
    refine sk_callSi [.int (Int64.toInt32 v0)] [] 25 dJ13_numberOfTrailingZeros_95d88_22 rfl mfJ6_numberOfTrailingZeros_0f7a4 lkJ13_311 miJ6_numberOfTrailingZeros_0f7a4 rfl rfl (by simp [Value.category]) hd0 (sk_Cm h ?_)
    rintro w t22 ⟨r22, hw, h⟩
    refine ⟨r22, hw, ?_⟩
    exact sk_iret dJ13_numberOfTrailingZeros_95d88_25 rfl rfl h
  · have h := h.2 hc
    refine sk_bipush (v := 32) 9 dJ13_numberOfTrailingZeros_95d88_7 rfl (by decide) ?_
    refine sk_lload_n 1 10 dJ13_numberOfTrailingZeros_95d88_9 rfl rfl rfl ?_
    refine sk_bipush (v := 32) 12 dJ13_numberOfTrailingZeros_95d88_10 rfl (by decide) ?_
    refine sk_lushr 13 dJ13_numberOfTrailingZeros_95d88_12 rfl ?_
    refine sk_l2i 14 dJ13_numberOfTrailingZeros_95d88_13 rfl ?_
    refine sk_callSi [.int (Int64.toInt32 (sk_lush v0 32))] [.int 32] 17 dJ13_numberOfTrailingZeros_95d88_14 rfl mfJ6_numberOfTrailingZeros_0f7a4 lkJ13_311 miJ6_numberOfTrailingZeros_0f7a4 rfl rfl (by simp [Value.category]) hd0 (sk_Cm h ?_)
    rintro w t14 ⟨r14, hw, h⟩
    refine ⟨r14, hw, ?_⟩
    refine sk_iadd 18 dJ13_numberOfTrailingZeros_95d88_17 rfl ?_
    refine sk_goto 25 dJ13_numberOfTrailingZeros_95d88_18 (by decide) ?_
    exact sk_iret dJ13_numberOfTrailingZeros_95d88_25 rfl rfl h

theorem wJ13_bitCount_95d88 {d : Nat} {τ : sk_T} {K : sk_K} {v0 : Int64}
  (h : K (some (.int ((Int64.toInt32 ((((((((v0 - ((sk_lush v0 1) &&& 6148914691236517205)) &&& 3689348814741910323) + ((sk_lush (v0 - ((sk_lush v0 1) &&& 6148914691236517205)) 2) &&& 3689348814741910323)) + (sk_lush (((v0 - ((sk_lush v0 1) &&& 6148914691236517205)) &&& 3689348814741910323) + ((sk_lush (v0 - ((sk_lush v0 1) &&& 6148914691236517205)) 2) &&& 3689348814741910323)) 4)) &&& 1085102592571150095) + (sk_lush (((((v0 - ((sk_lush v0 1) &&& 6148914691236517205)) &&& 3689348814741910323) + ((sk_lush (v0 - ((sk_lush v0 1) &&& 6148914691236517205)) 2) &&& 3689348814741910323)) + (sk_lush (((v0 - ((sk_lush v0 1) &&& 6148914691236517205)) &&& 3689348814741910323) + ((sk_lush (v0 - ((sk_lush v0 1) &&& 6148914691236517205)) 2) &&& 3689348814741910323)) 4)) &&& 1085102592571150095) 8)) + (sk_lush ((((((v0 - ((sk_lush v0 1) &&& 6148914691236517205)) &&& 3689348814741910323) + ((sk_lush (v0 - ((sk_lush v0 1) &&& 6148914691236517205)) 2) &&& 3689348814741910323)) + (sk_lush (((v0 - ((sk_lush v0 1) &&& 6148914691236517205)) &&& 3689348814741910323) + ((sk_lush (v0 - ((sk_lush v0 1) &&& 6148914691236517205)) 2) &&& 3689348814741910323)) 4)) &&& 1085102592571150095) + (sk_lush (((((v0 - ((sk_lush v0 1) &&& 6148914691236517205)) &&& 3689348814741910323) + ((sk_lush (v0 - ((sk_lush v0 1) &&& 6148914691236517205)) 2) &&& 3689348814741910323)) + (sk_lush (((v0 - ((sk_lush v0 1) &&& 6148914691236517205)) &&& 3689348814741910323) + ((sk_lush (v0 - ((sk_lush v0 1) &&& 6148914691236517205)) 2) &&& 3689348814741910323)) 4)) &&& 1085102592571150095) 8)) 16)) + (sk_lush (((((((v0 - ((sk_lush v0 1) &&& 6148914691236517205)) &&& 3689348814741910323) + ((sk_lush (v0 - ((sk_lush v0 1) &&& 6148914691236517205)) 2) &&& 3689348814741910323)) + (sk_lush (((v0 - ((sk_lush v0 1) &&& 6148914691236517205)) &&& 3689348814741910323) + ((sk_lush (v0 - ((sk_lush v0 1) &&& 6148914691236517205)) 2) &&& 3689348814741910323)) 4)) &&& 1085102592571150095) + (sk_lush (((((v0 - ((sk_lush v0 1) &&& 6148914691236517205)) &&& 3689348814741910323) + ((sk_lush (v0 - ((sk_lush v0 1) &&& 6148914691236517205)) 2) &&& 3689348814741910323)) + (sk_lush (((v0 - ((sk_lush v0 1) &&& 6148914691236517205)) &&& 3689348814741910323) + ((sk_lush (v0 - ((sk_lush v0 1) &&& 6148914691236517205)) 2) &&& 3689348814741910323)) 4)) &&& 1085102592571150095) 8)) + (sk_lush ((((((v0 - ((sk_lush v0 1) &&& 6148914691236517205)) &&& 3689348814741910323) + ((sk_lush (v0 - ((sk_lush v0 1) &&& 6148914691236517205)) 2) &&& 3689348814741910323)) + (sk_lush (((v0 - ((sk_lush v0 1) &&& 6148914691236517205)) &&& 3689348814741910323) + ((sk_lush (v0 - ((sk_lush v0 1) &&& 6148914691236517205)) 2) &&& 3689348814741910323)) 4)) &&& 1085102592571150095) + (sk_lush (((((v0 - ((sk_lush v0 1) &&& 6148914691236517205)) &&& 3689348814741910323) + ((sk_lush (v0 - ((sk_lush v0 1) &&& 6148914691236517205)) 2) &&& 3689348814741910323)) + (sk_lush (((v0 - ((sk_lush v0 1) &&& 6148914691236517205)) &&& 3689348814741910323) + ((sk_lush (v0 - ((sk_lush v0 1) &&& 6148914691236517205)) 2) &&& 3689348814741910323)) 4)) &&& 1085102592571150095) 8)) 16)) 32))) &&& 127))) τ) :
  sk_C sk_Sc d mJ13_bitCount_95d88 [.long v0] τ K := by
  refine sk_enter mfJ13_bitCount_95d88 (Nat.le_of_ble_eq_true rfl) ?_
  show sk_G sk_Sc d mJ13_bitCount_95d88 0 [(0, .long v0)] [] τ K
  refine sk_lload_n 0 1 dJ13_bitCount_95d88_0 rfl rfl rfl ?_
  refine sk_lload_n 0 2 dJ13_bitCount_95d88_1 rfl rfl rfl ?_
  refine sk_iconst (v := 1) 3 dJ13_bitCount_95d88_2 rfl (by decide) ?_
  refine sk_lushr 4 dJ13_bitCount_95d88_3 rfl ?_
  refine sk_ldc2 7 dJ13_bitCount_95d88_4 rfl klJ13_314 ?_
  refine sk_land 8 dJ13_bitCount_95d88_7 rfl ?_
  refine sk_lsub 9 dJ13_bitCount_95d88_8 rfl ?_
  refine sk_lstore_n (lv2 := [(0, .long (v0 - ((sk_lush v0 1) &&& 6148914691236517205)))]) 10 dJ13_bitCount_95d88_9 rfl rfl (by decide) rfl ?_
  refine sk_lload_n 0 11 dJ13_bitCount_95d88_10 rfl rfl rfl ?_
  refine sk_ldc2 14 dJ13_bitCount_95d88_11 rfl klJ13_316 ?_
  refine sk_land 15 dJ13_bitCount_95d88_14 rfl ?_
  refine sk_lload_n 0 16 dJ13_bitCount_95d88_15 rfl rfl rfl ?_
  refine sk_iconst (v := 2) 17 dJ13_bitCount_95d88_16 rfl (by decide) ?_
  refine sk_lushr 18 dJ13_bitCount_95d88_17 rfl ?_
  refine sk_ldc2 21 dJ13_bitCount_95d88_18 rfl klJ13_316 ?_
  refine sk_land 22 dJ13_bitCount_95d88_21 rfl ?_
  refine sk_ladd 23 dJ13_bitCount_95d88_22 rfl ?_
  refine sk_lstore_n (lv2 := [(0, .long (((v0 - ((sk_lush v0 1) &&& 6148914691236517205)) &&& 3689348814741910323) + ((sk_lush (v0 - ((sk_lush v0 1) &&& 6148914691236517205)) 2) &&& 3689348814741910323)))]) 24 dJ13_bitCount_95d88_23 rfl rfl (by decide) rfl ?_
  refine sk_lload_n 0 25 dJ13_bitCount_95d88_24 rfl rfl rfl ?_
  refine sk_lload_n 0 26 dJ13_bitCount_95d88_25 rfl rfl rfl ?_
  refine sk_iconst (v := 4) 27 dJ13_bitCount_95d88_26 rfl (by decide) ?_
  refine sk_lushr 28 dJ13_bitCount_95d88_27 rfl ?_
  refine sk_ladd 29 dJ13_bitCount_95d88_28 rfl ?_
  refine sk_ldc2 32 dJ13_bitCount_95d88_29 rfl klJ13_318 ?_
  refine sk_land 33 dJ13_bitCount_95d88_32 rfl ?_
  refine sk_lstore_n (lv2 := [(0, .long (((((v0 - ((sk_lush v0 1) &&& 6148914691236517205)) &&& 3689348814741910323) + ((sk_lush (v0 - ((sk_lush v0 1) &&& 6148914691236517205)) 2) &&& 3689348814741910323)) + (sk_lush (((v0 - ((sk_lush v0 1) &&& 6148914691236517205)) &&& 3689348814741910323) + ((sk_lush (v0 - ((sk_lush v0 1) &&& 6148914691236517205)) 2) &&& 3689348814741910323)) 4)) &&& 1085102592571150095))]) 34 dJ13_bitCount_95d88_33 rfl rfl (by decide) rfl ?_
  refine sk_lload_n 0 35 dJ13_bitCount_95d88_34 rfl rfl rfl ?_
  refine sk_lload_n 0 36 dJ13_bitCount_95d88_35 rfl rfl rfl ?_
  refine sk_bipush (v := 8) 38 dJ13_bitCount_95d88_36 rfl (by decide) ?_
  refine sk_lushr 39 dJ13_bitCount_95d88_38 rfl ?_
  refine sk_ladd 40 dJ13_bitCount_95d88_39 rfl ?_
  refine sk_lstore_n (lv2 := [(0, .long ((((((v0 - ((sk_lush v0 1) &&& 6148914691236517205)) &&& 3689348814741910323) + ((sk_lush (v0 - ((sk_lush v0 1) &&& 6148914691236517205)) 2) &&& 3689348814741910323)) + (sk_lush (((v0 - ((sk_lush v0 1) &&& 6148914691236517205)) &&& 3689348814741910323) + ((sk_lush (v0 - ((sk_lush v0 1) &&& 6148914691236517205)) 2) &&& 3689348814741910323)) 4)) &&& 1085102592571150095) + (sk_lush (((((v0 - ((sk_lush v0 1) &&& 6148914691236517205)) &&& 3689348814741910323) + ((sk_lush (v0 - ((sk_lush v0 1) &&& 6148914691236517205)) 2) &&& 3689348814741910323)) + (sk_lush (((v0 - ((sk_lush v0 1) &&& 6148914691236517205)) &&& 3689348814741910323) + ((sk_lush (v0 - ((sk_lush v0 1) &&& 6148914691236517205)) 2) &&& 3689348814741910323)) 4)) &&& 1085102592571150095) 8)))]) 41 dJ13_bitCount_95d88_40 rfl rfl (by decide) rfl ?_
  refine sk_lload_n 0 42 dJ13_bitCount_95d88_41 rfl rfl rfl ?_
  refine sk_lload_n 0 43 dJ13_bitCount_95d88_42 rfl rfl rfl ?_
  refine sk_bipush (v := 16) 45 dJ13_bitCount_95d88_43 rfl (by decide) ?_
  refine sk_lushr 46 dJ13_bitCount_95d88_45 rfl ?_
  refine sk_ladd 47 dJ13_bitCount_95d88_46 rfl ?_
  refine sk_lstore_n (lv2 := [(0, .long (((((((v0 - ((sk_lush v0 1) &&& 6148914691236517205)) &&& 3689348814741910323) + ((sk_lush (v0 - ((sk_lush v0 1) &&& 6148914691236517205)) 2) &&& 3689348814741910323)) + (sk_lush (((v0 - ((sk_lush v0 1) &&& 6148914691236517205)) &&& 3689348814741910323) + ((sk_lush (v0 - ((sk_lush v0 1) &&& 6148914691236517205)) 2) &&& 3689348814741910323)) 4)) &&& 1085102592571150095) + (sk_lush (((((v0 - ((sk_lush v0 1) &&& 6148914691236517205)) &&& 3689348814741910323) + ((sk_lush (v0 - ((sk_lush v0 1) &&& 6148914691236517205)) 2) &&& 3689348814741910323)) + (sk_lush (((v0 - ((sk_lush v0 1) &&& 6148914691236517205)) &&& 3689348814741910323) + ((sk_lush (v0 - ((sk_lush v0 1) &&& 6148914691236517205)) 2) &&& 3689348814741910323)) 4)) &&& 1085102592571150095) 8)) + (sk_lush ((((((v0 - ((sk_lush v0 1) &&& 6148914691236517205)) &&& 3689348814741910323) + ((sk_lush (v0 - ((sk_lush v0 1) &&& 6148914691236517205)) 2) &&& 3689348814741910323)) + (sk_lush (((v0 - ((sk_lush v0 1) &&& 6148914691236517205)) &&& 3689348814741910323) + ((sk_lush (v0 - ((sk_lush v0 1) &&& 6148914691236517205)) 2) &&& 3689348814741910323)) 4)) &&& 1085102592571150095) + (sk_lush (((((v0 - ((sk_lush v0 1) &&& 6148914691236517205)) &&& 3689348814741910323) + ((sk_lush (v0 - ((sk_lush v0 1) &&& 6148914691236517205)) 2) &&& 3689348814741910323)) + (sk_lush (((v0 - ((sk_lush v0 1) &&& 6148914691236517205)) &&& 3689348814741910323) + ((sk_lush (v0 - ((sk_lush v0 1) &&& 6148914691236517205)) 2) &&& 3689348814741910323)) 4)) &&& 1085102592571150095) 8)) 16)))]) 48 dJ13_bitCount_95d88_47 rfl rfl (by decide) rfl ?_
  refine sk_lload_n 0 49 dJ13_bitCount_95d88_48 rfl rfl rfl ?_
  refine sk_lload_n 0 50 dJ13_bitCount_95d88_49 rfl rfl rfl ?_
  refine sk_bipush (v := 32) 52 dJ13_bitCount_95d88_50 rfl (by decide) ?_
  refine sk_lushr 53 dJ13_bitCount_95d88_52 rfl ?_
  refine sk_ladd 54 dJ13_bitCount_95d88_53 rfl ?_
  refine sk_lstore_n (lv2 := [(0, .long ((((((((v0 - ((sk_lush v0 1) &&& 6148914691236517205)) &&& 3689348814741910323) + ((sk_lush (v0 - ((sk_lush v0 1) &&& 6148914691236517205)) 2) &&& 3689348814741910323)) + (sk_lush (((v0 - ((sk_lush v0 1) &&& 6148914691236517205)) &&& 3689348814741910323) + ((sk_lush (v0 - ((sk_lush v0 1) &&& 6148914691236517205)) 2) &&& 3689348814741910323)) 4)) &&& 1085102592571150095) + (sk_lush (((((v0 - ((sk_lush v0 1) &&& 6148914691236517205)) &&& 3689348814741910323) + ((sk_lush (v0 - ((sk_lush v0 1) &&& 6148914691236517205)) 2) &&& 3689348814741910323)) + (sk_lush (((v0 - ((sk_lush v0 1) &&& 6148914691236517205)) &&& 3689348814741910323) + ((sk_lush (v0 - ((sk_lush v0 1) &&& 6148914691236517205)) 2) &&& 3689348814741910323)) 4)) &&& 1085102592571150095) 8)) + (sk_lush ((((((v0 - ((sk_lush v0 1) &&& 6148914691236517205)) &&& 3689348814741910323) + ((sk_lush (v0 - ((sk_lush v0 1) &&& 6148914691236517205)) 2) &&& 3689348814741910323)) + (sk_lush (((v0 - ((sk_lush v0 1) &&& 6148914691236517205)) &&& 3689348814741910323) + ((sk_lush (v0 - ((sk_lush v0 1) &&& 6148914691236517205)) 2) &&& 3689348814741910323)) 4)) &&& 1085102592571150095) + (sk_lush (((((v0 - ((sk_lush v0 1) &&& 6148914691236517205)) &&& 3689348814741910323) + ((sk_lush (v0 - ((sk_lush v0 1) &&& 6148914691236517205)) 2) &&& 3689348814741910323)) + (sk_lush (((v0 - ((sk_lush v0 1) &&& 6148914691236517205)) &&& 3689348814741910323) + ((sk_lush (v0 - ((sk_lush v0 1) &&& 6148914691236517205)) 2) &&& 3689348814741910323)) 4)) &&& 1085102592571150095) 8)) 16)) + (sk_lush (((((((v0 - ((sk_lush v0 1) &&& 6148914691236517205)) &&& 3689348814741910323) + ((sk_lush (v0 - ((sk_lush v0 1) &&& 6148914691236517205)) 2) &&& 3689348814741910323)) + (sk_lush (((v0 - ((sk_lush v0 1) &&& 6148914691236517205)) &&& 3689348814741910323) + ((sk_lush (v0 - ((sk_lush v0 1) &&& 6148914691236517205)) 2) &&& 3689348814741910323)) 4)) &&& 1085102592571150095) + (sk_lush (((((v0 - ((sk_lush v0 1) &&& 6148914691236517205)) &&& 3689348814741910323) + ((sk_lush (v0 - ((sk_lush v0 1) &&& 6148914691236517205)) 2) &&& 3689348814741910323)) + (sk_lush (((v0 - ((sk_lush v0 1) &&& 6148914691236517205)) &&& 3689348814741910323) + ((sk_lush (v0 - ((sk_lush v0 1) &&& 6148914691236517205)) 2) &&& 3689348814741910323)) 4)) &&& 1085102592571150095) 8)) + (sk_lush ((((((v0 - ((sk_lush v0 1) &&& 6148914691236517205)) &&& 3689348814741910323) + ((sk_lush (v0 - ((sk_lush v0 1) &&& 6148914691236517205)) 2) &&& 3689348814741910323)) + (sk_lush (((v0 - ((sk_lush v0 1) &&& 6148914691236517205)) &&& 3689348814741910323) + ((sk_lush (v0 - ((sk_lush v0 1) &&& 6148914691236517205)) 2) &&& 3689348814741910323)) 4)) &&& 1085102592571150095) + (sk_lush (((((v0 - ((sk_lush v0 1) &&& 6148914691236517205)) &&& 3689348814741910323) + ((sk_lush (v0 - ((sk_lush v0 1) &&& 6148914691236517205)) 2) &&& 3689348814741910323)) + (sk_lush (((v0 - ((sk_lush v0 1) &&& 6148914691236517205)) &&& 3689348814741910323) + ((sk_lush (v0 - ((sk_lush v0 1) &&& 6148914691236517205)) 2) &&& 3689348814741910323)) 4)) &&& 1085102592571150095) 8)) 16)) 32)))]) 55 dJ13_bitCount_95d88_54 rfl rfl (by decide) rfl ?_
  refine sk_lload_n 0 56 dJ13_bitCount_95d88_55 rfl rfl rfl ?_
  refine sk_l2i 57 dJ13_bitCount_95d88_56 rfl ?_
  refine sk_bipush (v := 127) 59 dJ13_bitCount_95d88_57 rfl (by decide) ?_
  refine sk_iand 60 dJ13_bitCount_95d88_59 rfl ?_
  exact sk_iret dJ13_bitCount_95d88_60 rfl rfl h

