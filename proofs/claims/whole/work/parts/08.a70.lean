theorem wX7_error {d : Nat} {τ : sk_T} {K : sk_K} {v1 : Int32}
  (h : vp_in v1 7 ∧
    vp_in v1 7 ∧
    K (some (.int ((-1000000000) - v1))) (sk_u τ 3 (v1).toNatClampNeg ((τ 3 (v1).toNatClampNeg) + 1))) :
  sk_C sk_Sm d mX7_error [.ref 0, .int v1] τ K := by
  refine sk_enter mfX7_error (Nat.le_of_ble_eq_true rfl) ?_
  show sk_G sk_Sm d mX7_error 0 [(0, .ref 0), (1, .int v1)] [] τ K
  refine sk_aload_n 0 1 dX7_error_0 rfl rfl rfl ?_
  refine sk_getR (r := 3) 4 dX7_error_1 rfl lfX7_16 sm_0 rfl ?_
  refine sk_iload_n 1 5 dX7_error_4 rfl rfl rfl ?_
  refine sk_dup2 6 dX7_error_5 rfl rfl rfl ?_
  have hb6 := h.1
  have h := h.2
  refine sk_iald 7 dX7_error_6 rfl sm_3 hb6 _ rfl ?_
  refine sk_iconst (v := 1) 8 dX7_error_7 rfl (by decide) ?_
  refine sk_iadd 9 dX7_error_8 rfl ?_
  have hb9 := h.1
  have h := h.2
  refine sk_iast 10 dX7_error_9 rfl sm_3 hb9 _ rfl ?_
  refine sk_ldc 12 dX7_error_10 rfl kcX7_46 ?_
  refine sk_iload_n 1 13 dX7_error_12 rfl rfl rfl ?_
  refine sk_isub 14 dX7_error_13 rfl ?_
  exact sk_iret dX7_error_14 rfl rfl h

theorem wX7_in {d : Nat} {τ : sk_T} {K : sk_K} {v0 : Int32} {v1 : Int32} {v2 : Int32}
  (h : ((v0 < v1 →
      K (some (.int 0)) τ
    ) ∧
    (¬ v0 < v1 →
      ((v2 < v0 →
        K (some (.int 0)) τ
      ) ∧
      (¬ v2 < v0 →
        K (some (.int 1)) τ
      ))
    ))) :
  sk_C sk_Sm d mX7_in [.int v0, .int v1, .int v2] τ K := by
  refine sk_enter mfX7_in (Nat.le_of_ble_eq_true rfl) ?_
  show sk_G sk_Sm d mX7_in 0 [(0, .int v0), (1, .int v1), (2, .int v2)] [] τ K
  refine sk_iload_n 0 1 dX7_in_0 rfl rfl rfl ?_
  refine sk_iload_n 1 2 dX7_in_1 rfl rfl rfl ?_
  refine sk_icmp_lt 14 5 dX7_in_2 (by decide) rfl (fun hc => ?_) (fun hc => ?_)
  · have h := h.1 hc
    refine sk_iconst (v := 0) 15 dX7_in_14 rfl (by decide) ?_
    exact sk_iret dX7_in_15 rfl rfl h
  · have h := h.2 hc
    refine sk_iload_n 0 6 dX7_in_5 rfl rfl rfl ?_
    refine sk_iload_n 2 7 dX7_in_6 rfl rfl rfl ?_
    refine sk_icmp_gt 14 10 dX7_in_7 (by decide) rfl (fun hc => ?_) (fun hc => ?_)
    · have h := h.1 hc
      refine sk_iconst (v := 0) 15 dX7_in_14 rfl (by decide) ?_
      exact sk_iret dX7_in_15 rfl rfl h
    · have h := h.2 hc
      refine sk_iconst (v := 1) 11 dX7_in_10 rfl (by decide) ?_
      refine sk_goto 15 dX7_in_11 (by decide) ?_
      exact sk_iret dX7_in_15 rfl rfl h

theorem wX7_held {d : Nat} {τ : sk_T} {K : sk_K} {v0 : Int32} {v1 : Int32} {v2 : Int32}
  (h : ((v1 ≤ v0 →
      ((v0 ≤ v2 →
        K (some (.int v0)) τ
      ) ∧
      (¬ v0 ≤ v2 →
        K (some (.int v2)) τ
      ))
    ) ∧
    (¬ v1 ≤ v0 →
      K (some (.int v1)) τ
    ))) :
  sk_C sk_Sm d mX7_held [.int v0, .int v1, .int v2] τ K := by
  refine sk_enter mfX7_held (Nat.le_of_ble_eq_true rfl) ?_
  show sk_G sk_Sm d mX7_held 0 [(0, .int v0), (1, .int v1), (2, .int v2)] [] τ K
  refine sk_iload_n 0 1 dX7_held_0 rfl rfl rfl ?_
  refine sk_iload_n 1 2 dX7_held_1 rfl rfl rfl ?_
  refine sk_icmp_ge 9 5 dX7_held_2 (by decide) rfl (fun hc => ?_) (fun hc => ?_)
  · have h := h.1 hc
    refine sk_iload_n 0 10 dX7_held_9 rfl rfl rfl ?_
    refine sk_iload_n 2 11 dX7_held_10 rfl rfl rfl ?_
    refine sk_icmp_le 18 14 dX7_held_11 (by decide) rfl (fun hc => ?_) (fun hc => ?_)
    · have h := h.1 hc
      refine sk_iload_n 0 19 dX7_held_18 rfl rfl rfl ?_
      exact sk_iret dX7_held_19 rfl rfl h
    · have h := h.2 hc
      refine sk_iload_n 2 15 dX7_held_14 rfl rfl rfl ?_
      refine sk_goto 19 dX7_held_15 (by decide) ?_
      exact sk_iret dX7_held_19 rfl rfl h
  · have h := h.2 hc
    refine sk_iload_n 1 6 dX7_held_5 rfl rfl rfl ?_
    refine sk_goto 19 dX7_held_6 (by decide) ?_
    exact sk_iret dX7_held_19 rfl rfl h

theorem wX7_copyAllK {d : Nat} {τ : sk_T} {K : sk_K}
  (h : sk_G sk_Sm d mX7_copyAll 2 [(0, .ref 1), (1, .ref 2), (2, .int 0)] [] τ K) :
  sk_C sk_Sm d mX7_copyAll [.ref 1, .ref 2] τ K := by
  refine sk_enter mfX7_copyAll (Nat.le_of_ble_eq_true rfl) ?_
  show sk_G sk_Sm d mX7_copyAll 0 [(0, .ref 1), (1, .ref 2)] [] τ K
  refine sk_iconst (v := 0) 1 dX7_copyAll_0 rfl (by decide) ?_
  refine sk_istore_n (lv2 := [(2, .int 0), (0, .ref 1), (1, .ref 2)]) 2 dX7_copyAll_1 rfl rfl (by decide) rfl ?_
  refine sk_perm (lv2 := [(0, .ref 1), (1, .ref 2), (2, .int 0)]) [1, 2, 0] rfl ?_
  exact h

theorem bX7_copyAllK_2 {d : Nat} {τ : sk_T} {K : sk_K} {v2 : Int32}
  (h : ((412 ≤ v2 →
      K none τ
    ) ∧
    (¬ 412 ≤ v2 →
      vp_in v2 412 ∧
      vp_in v2 412 ∧
      sk_G sk_Sm d mX7_copyAll 2 [(0, .ref 1), (1, .ref 2), (2, .int (v2 + 1))] [] (sk_u τ 2 (v2).toNatClampNeg (τ 1 (v2).toNatClampNeg)) K
    ))) :
  sk_G sk_Sm d mX7_copyAll 2 [(0, .ref 1), (1, .ref 2), (2, .int v2)] [] τ K := by
  refine sk_iload_n 2 3 dX7_copyAll_2 rfl rfl rfl ?_
  refine sk_sipush (v := 412) 6 dX7_copyAll_3 rfl (by decide) ?_
  refine sk_icmp_ge 21 9 dX7_copyAll_6 (by decide) rfl (fun hc => ?_) (fun hc => ?_)
  · have h := h.1 hc
    exact sk_vret dX7_copyAll_21 rfl h
  · have h := h.2 hc
    refine sk_aload_n 1 10 dX7_copyAll_9 rfl rfl rfl ?_
    refine sk_iload_n 2 11 dX7_copyAll_10 rfl rfl rfl ?_
    refine sk_aload_n 0 12 dX7_copyAll_11 rfl rfl rfl ?_
    refine sk_iload_n 2 13 dX7_copyAll_12 rfl rfl rfl ?_
    have hb13 := h.1
    have h := h.2
    refine sk_iald 14 dX7_copyAll_13 rfl sm_1 hb13 _ rfl ?_
    have hb14 := h.1
    have h := h.2
    refine sk_iast 15 dX7_copyAll_14 rfl sm_2 hb14 _ rfl ?_
    refine sk_iinc (v := (v2 + 1)) (lv2 := [(2, .int (v2 + 1)), (0, .ref 1), (1, .ref 2)]) 2 18 dX7_copyAll_15 rfl rfl rfl (by decide) rfl ?_
    refine sk_goto 2 dX7_copyAll_18 (by decide) ?_
    refine sk_perm (lv2 := [(0, .ref 1), (1, .ref 2), (2, .int (v2 + 1))]) [1, 2, 0] rfl ?_
    exact h

theorem wX7_copyAllR {d : Nat} {τ : sk_T} {K : sk_K}
  (h : sk_G sk_Sm d mX7_copyAll 2 [(0, .ref 2), (1, .ref 1), (2, .int 0)] [] τ K) :
  sk_C sk_Sm d mX7_copyAll [.ref 2, .ref 1] τ K := by
  refine sk_enter mfX7_copyAll (Nat.le_of_ble_eq_true rfl) ?_
  show sk_G sk_Sm d mX7_copyAll 0 [(0, .ref 2), (1, .ref 1)] [] τ K
  refine sk_iconst (v := 0) 1 dX7_copyAll_0 rfl (by decide) ?_
  refine sk_istore_n (lv2 := [(2, .int 0), (0, .ref 2), (1, .ref 1)]) 2 dX7_copyAll_1 rfl rfl (by decide) rfl ?_
  refine sk_perm (lv2 := [(0, .ref 2), (1, .ref 1), (2, .int 0)]) [1, 2, 0] rfl ?_
  exact h

theorem bX7_copyAllR_2 {d : Nat} {τ : sk_T} {K : sk_K} {v2 : Int32}
  (h : ((412 ≤ v2 →
      K none τ
    ) ∧
    (¬ 412 ≤ v2 →
      vp_in v2 412 ∧
      vp_in v2 412 ∧
      sk_G sk_Sm d mX7_copyAll 2 [(0, .ref 2), (1, .ref 1), (2, .int (v2 + 1))] [] (sk_u τ 1 (v2).toNatClampNeg (τ 2 (v2).toNatClampNeg)) K
    ))) :
  sk_G sk_Sm d mX7_copyAll 2 [(0, .ref 2), (1, .ref 1), (2, .int v2)] [] τ K := by
  refine sk_iload_n 2 3 dX7_copyAll_2 rfl rfl rfl ?_
  refine sk_sipush (v := 412) 6 dX7_copyAll_3 rfl (by decide) ?_
  refine sk_icmp_ge 21 9 dX7_copyAll_6 (by decide) rfl (fun hc => ?_) (fun hc => ?_)
  · have h := h.1 hc
    exact sk_vret dX7_copyAll_21 rfl h
  · have h := h.2 hc
    refine sk_aload_n 1 10 dX7_copyAll_9 rfl rfl rfl ?_
    refine sk_iload_n 2 11 dX7_copyAll_10 rfl rfl rfl ?_
    refine sk_aload_n 0 12 dX7_copyAll_11 rfl rfl rfl ?_
    refine sk_iload_n 2 13 dX7_copyAll_12 rfl rfl rfl ?_
    have hb13 := h.1
    have h := h.2
    refine sk_iald 14 dX7_copyAll_13 rfl sm_2 hb13 _ rfl ?_
    have hb14 := h.1
    have h := h.2
    refine sk_iast 15 dX7_copyAll_14 rfl sm_1 hb14 _ rfl ?_
    refine sk_iinc (v := (v2 + 1)) (lv2 := [(2, .int (v2 + 1)), (0, .ref 2), (1, .ref 1)]) 2 18 dX7_copyAll_15 rfl rfl rfl (by decide) rfl ?_
    refine sk_goto 2 dX7_copyAll_18 (by decide) ?_
    refine sk_perm (lv2 := [(0, .ref 2), (1, .ref 1), (2, .int (v2 + 1))]) [1, 2, 0] rfl ?_
    exact h

theorem wX7_isSlate {d : Nat} {τ : sk_T} {K : sk_K} {v1 : Int32} (hd0 : 0 < d)
  (h : sk_C sk_Sm (d - 1) mX7_in [.int v1, .int 0, .int ((τ 1 6) - 1)] τ (fun w t11 => ∃ r11 : Int32, w = some (.int r11) ∧
      r11 &&& 1 = r11 ∧
      K (some (.int r11)) t11
    )) :
  sk_C sk_Sm d mX7_isSlate [.ref 0, .int v1] τ K := by
  refine sk_enter mfX7_isSlate (Nat.le_of_ble_eq_true rfl) ?_
  show sk_G sk_Sm d mX7_isSlate 0 [(0, .ref 0), (1, .int v1)] [] τ K
  refine sk_iload_n 1 1 dX7_isSlate_0 rfl rfl rfl ?_
  refine sk_iconst (v := 0) 2 dX7_isSlate_1 rfl (by decide) ?_
  refine sk_aload_n 0 3 dX7_isSlate_2 rfl rfl rfl ?_
  refine sk_getR (r := 1) 6 dX7_isSlate_3 rfl lfX7_7 sm_0 rfl ?_
  refine sk_bipush (v := 6) 8 dX7_isSlate_6 rfl (by decide) ?_
  refine sk_iald 9 dX7_isSlate_8 rfl sm_1 (by unfold vp_in; decide) 6 rfl ?_
  refine sk_iconst (v := 1) 10 dX7_isSlate_9 rfl (by decide) ?_
  refine sk_isub 11 dX7_isSlate_10 rfl ?_
  refine sk_callSi [.int v1, .int 0, .int ((τ 1 6) - 1)] [] 14 dX7_isSlate_11 rfl mfX7_in lkX7_47 miX7_in rfl rfl (by simp [Value.category]) hd0 (sk_Cm h ?_)
  rintro w t11 ⟨r11, hw, h⟩
  refine ⟨r11, hw, ?_⟩
  exact sk_iret dX7_isSlate_14 rfl (congrArg Value.int h.1) h.2

theorem wX7_its {d : Nat} {τ : sk_T} {K : sk_K} {v1 : Int32} {v2 : Int32}
  (h : vp_in ((8 + (7 * v1)) + v2) 412 ∧
    K (some (.int (τ 1 (((8 + (7 * v1)) + v2)).toNatClampNeg))) τ) :
  sk_C sk_Sm d mX7_its [.ref 0, .int v1, .int v2] τ K := by
  refine sk_enter mfX7_its (Nat.le_of_ble_eq_true rfl) ?_
  show sk_G sk_Sm d mX7_its 0 [(0, .ref 0), (1, .int v1), (2, .int v2)] [] τ K
  refine sk_aload_n 0 1 dX7_its_0 rfl rfl rfl ?_
  refine sk_getR (r := 1) 4 dX7_its_1 rfl lfX7_7 sm_0 rfl ?_
  refine sk_bipush (v := 8) 6 dX7_its_4 rfl (by decide) ?_
  refine sk_bipush (v := 7) 8 dX7_its_6 rfl (by decide) ?_
  refine sk_iload_n 1 9 dX7_its_8 rfl rfl rfl ?_
  refine sk_imul 10 dX7_its_9 rfl ?_
  refine sk_iadd 11 dX7_its_10 rfl ?_
  refine sk_iload_n 2 12 dX7_its_11 rfl rfl rfl ?_
  refine sk_iadd 13 dX7_its_12 rfl ?_
  have hb13 := h.1
  have h := h.2
  refine sk_iald 14 dX7_its_13 rfl sm_1 hb13 _ rfl ?_
  exact sk_iret dX7_its_14 rfl rfl h

theorem wX7_lays1 {d : Nat} {τ : sk_T} {K : sk_K} {v1 : Int32} {v2 : Int32} {v3 : Int32}
  (h : vp_in ((8 + (7 * v1)) + v2) 412 ∧
    K none (sk_u τ 1 (((8 + (7 * v1)) + v2)).toNatClampNeg v3)) :
  sk_C sk_Sm d mX7_lays1 [.ref 0, .int v1, .int v2, .int v3] τ K := by
  refine sk_enter mfX7_lays1 (Nat.le_of_ble_eq_true rfl) ?_
  show sk_G sk_Sm d mX7_lays1 0 [(0, .ref 0), (1, .int v1), (2, .int v2), (3, .int v3)] [] τ K
  refine sk_aload_n 0 1 dX7_lays1_0 rfl rfl rfl ?_
  refine sk_getR (r := 1) 4 dX7_lays1_1 rfl lfX7_7 sm_0 rfl ?_
  refine sk_bipush (v := 8) 6 dX7_lays1_4 rfl (by decide) ?_
  refine sk_bipush (v := 7) 8 dX7_lays1_6 rfl (by decide) ?_
  refine sk_iload_n 1 9 dX7_lays1_8 rfl rfl rfl ?_
  refine sk_imul 10 dX7_lays1_9 rfl ?_
  refine sk_iadd 11 dX7_lays1_10 rfl ?_
  refine sk_iload_n 2 12 dX7_lays1_11 rfl rfl rfl ?_
  refine sk_iadd 13 dX7_lays1_12 rfl ?_
  refine sk_iload_n 3 14 dX7_lays1_13 rfl rfl rfl ?_
  have hb14 := h.1
  have h := h.2
  refine sk_iast 15 dX7_lays1_14 rfl sm_1 hb14 _ rfl ?_
  exact sk_vret dX7_lays1_15 rfl h

theorem wX7_change1 {d : Nat} {τ : sk_T} {K : sk_K} {v1 : Int32} {v2 : Int32}
  (h : vp_in v1 412 ∧
    vp_in v1 412 ∧
    K (some (.int (τ 1 (v1).toNatClampNeg))) (sk_u τ 1 (v1).toNatClampNeg v2)) :
  sk_C sk_Sm d mX7_change1 [.ref 0, .int v1, .int v2] τ K := by
  refine sk_enter mfX7_change1 (Nat.le_of_ble_eq_true rfl) ?_
  show sk_G sk_Sm d mX7_change1 0 [(0, .ref 0), (1, .int v1), (2, .int v2)] [] τ K
  refine sk_aload_n 0 1 dX7_change1_0 rfl rfl rfl ?_
  refine sk_getR (r := 1) 4 dX7_change1_1 rfl lfX7_7 sm_0 rfl ?_
  refine sk_iload_n 1 5 dX7_change1_4 rfl rfl rfl ?_
  have hb5 := h.1
  have h := h.2
  refine sk_iald 6 dX7_change1_5 rfl sm_1 hb5 _ rfl ?_
  refine sk_istore_n (lv2 := [(3, .int (τ 1 (v1).toNatClampNeg)), (0, .ref 0), (1, .int v1), (2, .int v2)]) 7 dX7_change1_6 rfl rfl (by decide) rfl ?_
  refine sk_aload_n 1 8 dX7_change1_7 rfl rfl rfl ?_
  refine sk_getR (r := 1) 11 dX7_change1_8 rfl lfX7_7 sm_0 rfl ?_
  refine sk_iload_n 2 12 dX7_change1_11 rfl rfl rfl ?_
  refine sk_iload_n 3 13 dX7_change1_12 rfl rfl rfl ?_
  have hb13 := h.1
  have h := h.2
  refine sk_iast 14 dX7_change1_13 rfl sm_1 hb13 _ rfl ?_
  refine sk_iload_n 0 15 dX7_change1_14 rfl rfl rfl ?_
  exact sk_iret dX7_change1_15 rfl rfl h

theorem wX7_feed {d : Nat} {τ : sk_T} {K : sk_K} {v1 : Int64} {v3 : Int32} (hd0 : 0 < d)
  (h : sk_C sk_Sm (d - 1) mX7_in [.int v3, .int 1, .int 8] τ (fun w t4 => ∃ r4 : Int32, w = some (.int r4) ∧
      ((¬ r4 = 0 →
        ((((t4 1 4) + v3) ≤ 60 →
          sk_G sk_Sm d mX7_feed 38 [(0, .ref 0), (1, .long v1), (3, .int v3), (4, .int 0)] [] t4 K
        ) ∧
        (¬ ((t4 1 4) + v3) ≤ 60 →
          sk_C sk_Sm (d - 1) mX7_error [.ref 0, .int 4] t4 (fun w t31 => ∃ r31 : Int32, w = some (.int r31) ∧
            K (some (.int r31)) t31
          )
        ))
      ) ∧
      (r4 = 0 →
        sk_C sk_Sm (d - 1) mX7_error [.ref 0, .int 1] t4 (fun w t12 => ∃ r12 : Int32, w = some (.int r12) ∧
          K (some (.int r12)) t12
        )
      ))
    )) :
  sk_C sk_Sm d mX7_feed [.ref 0, .long v1, .int v3] τ K := by
  refine sk_enter mfX7_feed (Nat.le_of_ble_eq_true rfl) ?_
  show sk_G sk_Sm d mX7_feed 0 [(0, .ref 0), (1, .long v1), (3, .int v3)] [] τ K
  refine sk_iload_n 2 1 dX7_feed_0 rfl rfl rfl ?_
  refine sk_iconst (v := 1) 2 dX7_feed_1 rfl (by decide) ?_
  refine sk_bipush (v := 8) 4 dX7_feed_2 rfl (by decide) ?_
  refine sk_callSi [.int v3, .int 1, .int 8] [] 7 dX7_feed_4 rfl mfX7_in lkX7_47 miX7_in rfl rfl (by simp [Value.category]) hd0 (sk_Cm h ?_)
  rintro w t4 ⟨r4, hw, h⟩
  refine ⟨r4, hw, ?_⟩
  refine sk_if_ne 16 10 dX7_feed_7 (by decide) rfl (fun hc => ?_) (fun hc => ?_)
  · have h := h.1 hc
    refine sk_aload_n 0 17 dX7_feed_16 rfl rfl rfl ?_
    refine sk_getR (r := 1) 20 dX7_feed_17 rfl lfX7_7 sm_0 rfl ?_
    refine sk_iconst (v := 4) 21 dX7_feed_20 rfl (by decide) ?_
    refine sk_iald 22 dX7_feed_21 rfl sm_1 (by unfold vp_in; decide) 4 rfl ?_
    refine sk_iload_n 2 23 dX7_feed_22 rfl rfl rfl ?_
    refine sk_iadd 24 dX7_feed_23 rfl ?_
    refine sk_bipush (v := 60) 26 dX7_feed_24 rfl (by decide) ?_
    refine sk_icmp_le 35 29 dX7_feed_26 (by decide) rfl (fun hc => ?_) (fun hc => ?_)
    · have h := h.1 hc
      refine sk_iconst (v := 0) 36 dX7_feed_35 rfl (by decide) ?_
      refine sk_istore (lv2 := [(4, .int 0), (0, .ref 0), (1, .long v1), (3, .int v3)]) 38 dX7_feed_36 rfl (by decide) rfl ?_
      refine sk_perm (lv2 := [(0, .ref 0), (1, .long v1), (3, .int v3), (4, .int 0)]) [1, 2, 3, 0] rfl ?_
      exact h
    · have h := h.2 hc
      refine sk_aload_n 0 30 dX7_feed_29 rfl rfl rfl ?_
      refine sk_iconst (v := 4) 31 dX7_feed_30 rfl (by decide) ?_
      refine sk_callVi [.int 4] [] 34 dX7_feed_31 rfl mfX7_error lkX7_51 miX7_error msX7_error sm_0 rfl rfl rfl rfl (by simp [Value.category]) hd0 (sk_Cm h ?_)
      rintro w t31 ⟨r31, hw, h⟩
      refine ⟨r31, hw, ?_⟩
      exact sk_iret dX7_feed_34 rfl rfl h
  · have h := h.2 hc
    refine sk_aload_n 0 11 dX7_feed_10 rfl rfl rfl ?_
    refine sk_iconst (v := 1) 12 dX7_feed_11 rfl (by decide) ?_
    refine sk_callVi [.int 1] [] 15 dX7_feed_12 rfl mfX7_error lkX7_51 miX7_error msX7_error sm_0 rfl rfl rfl rfl (by simp [Value.category]) hd0 (sk_Cm h ?_)
    rintro w t12 ⟨r12, hw, h⟩
    refine ⟨r12, hw, ?_⟩
    exact sk_iret dX7_feed_15 rfl rfl h

theorem bX7_feed_38 {d : Nat} {τ : sk_T} {K : sk_K} {v1 : Int64} {v3 : Int32} {v4 : Int32}
  (h : ((v3 ≤ v4 →
      K (some (.int (τ 1 4))) τ
    ) ∧
    (¬ v3 ≤ v4 →
      vp_in (328 + (τ 1 4)) 412 ∧
      sk_G sk_Sm d mX7_feed 38 [(0, .ref 0), (1, .long v1), (3, .int v3), (4, .int (v4 + 1))] [] (sk_u (sk_u τ 1 ((328 + (τ 1 4))).toNatClampNeg (Int64.toInt32 ((v1 >>> (Int32.toInt64 (8 * v4) &&& 63)) &&& 255))) 1 4 (((sk_u τ 1 ((328 + (τ 1 4))).toNatClampNeg (Int64.toInt32 ((v1 >>> (Int32.toInt64 (8 * v4) &&& 63)) &&& 255))) 1 4) + 1)) K
    ))) :
  sk_G sk_Sm d mX7_feed 38 [(0, .ref 0), (1, .long v1), (3, .int v3), (4, .int v4)] [] τ K := by
  refine sk_iload 3 40 dX7_feed_38 rfl rfl ?_
  refine sk_iload_n 2 41 dX7_feed_40 rfl rfl rfl ?_
  refine sk_icmp_ge 87 44 dX7_feed_41 (by decide) rfl (fun hc => ?_) (fun hc => ?_)
  · have h := h.1 hc
    refine sk_aload_n 0 88 dX7_feed_87 rfl rfl rfl ?_
    refine sk_getR (r := 1) 91 dX7_feed_88 rfl lfX7_7 sm_0 rfl ?_
    refine sk_iconst (v := 4) 92 dX7_feed_91 rfl (by decide) ?_
    refine sk_iald 93 dX7_feed_92 rfl sm_1 (by unfold vp_in; decide) 4 rfl ?_
    exact sk_iret dX7_feed_93 rfl rfl h
  · have h := h.2 hc
    refine sk_aload_n 0 45 dX7_feed_44 rfl rfl rfl ?_
    refine sk_getR (r := 1) 48 dX7_feed_45 rfl lfX7_7 sm_0 rfl ?_
    refine sk_sipush (v := 328) 51 dX7_feed_48 rfl (by decide) ?_
    refine sk_aload_n 0 52 dX7_feed_51 rfl rfl rfl ?_
    refine sk_getR (r := 1) 55 dX7_feed_52 rfl lfX7_7 sm_0 rfl ?_
    refine sk_iconst (v := 4) 56 dX7_feed_55 rfl (by decide) ?_
    refine sk_iald 57 dX7_feed_56 rfl sm_1 (by unfold vp_in; decide) 4 rfl ?_
    refine sk_iadd 58 dX7_feed_57 rfl ?_
    refine sk_lload_n 1 59 dX7_feed_58 rfl rfl rfl ?_
    refine sk_bipush (v := 8) 61 dX7_feed_59 rfl (by decide) ?_
    refine sk_iload 3 63 dX7_feed_61 rfl rfl ?_
    refine sk_imul 64 dX7_feed_63 rfl ?_
    refine sk_lshr 65 dX7_feed_64 rfl ?_
    refine sk_ldc2 68 dX7_feed_65 rfl klX7_55 ?_
    refine sk_land 69 dX7_feed_68 rfl ?_
    refine sk_l2i 70 dX7_feed_69 rfl ?_
    have hb70 := h.1
    have h := h.2
    refine sk_iast 71 dX7_feed_70 rfl sm_1 hb70 _ rfl ?_
    refine sk_aload_n 0 72 dX7_feed_71 rfl rfl rfl ?_
    refine sk_getR (r := 1) 75 dX7_feed_72 rfl lfX7_7 sm_0 rfl ?_
    refine sk_iconst (v := 4) 76 dX7_feed_75 rfl (by decide) ?_
    refine sk_dup2 77 dX7_feed_76 rfl rfl rfl ?_
    refine sk_iald 78 dX7_feed_77 rfl sm_1 (by unfold vp_in; decide) 4 rfl ?_
    refine sk_iconst (v := 1) 79 dX7_feed_78 rfl (by decide) ?_
    refine sk_iadd 80 dX7_feed_79 rfl ?_
    refine sk_iast 81 dX7_feed_80 rfl sm_1 (by unfold vp_in; decide) 4 rfl ?_
    refine sk_iinc (v := (v4 + 1)) (lv2 := [(4, .int (v4 + 1)), (0, .ref 0), (1, .long v1), (3, .int v3)]) 3 84 dX7_feed_81 rfl rfl rfl (by decide) rfl ?_
    refine sk_goto 38 dX7_feed_84 (by decide) ?_
    refine sk_perm (lv2 := [(0, .ref 0), (1, .long v1), (3, .int v3), (4, .int (v4 + 1))]) [1, 2, 3, 0] rfl ?_
    exact h

theorem wX7_look {d : Nat} {τ : sk_T} {K : sk_K}
  (h : (((τ 1 4) ≤ (τ 0 4) →
      K (some (.int (-1))) τ
    ) ∧
    (¬ (τ 1 4) ≤ (τ 0 4) →
      vp_in (328 + (τ 0 4)) 412 ∧
      K (some (.int (τ 1 ((328 + (τ 0 4))).toNatClampNeg))) τ
    ))) :
  sk_C sk_Sm d mX7_look [.ref 0] τ K := by
  refine sk_enter mfX7_look (Nat.le_of_ble_eq_true rfl) ?_
  show sk_G sk_Sm d mX7_look 0 [(0, .ref 0)] [] τ K
  refine sk_aload_n 0 1 dX7_look_0 rfl rfl rfl ?_
  refine sk_getI 4 dX7_look_1 rfl lfX7_57 sm_0 rfl ?_
  refine sk_aload_n 0 5 dX7_look_4 rfl rfl rfl ?_
  refine sk_getR (r := 1) 8 dX7_look_5 rfl lfX7_7 sm_0 rfl ?_
  refine sk_iconst (v := 4) 9 dX7_look_8 rfl (by decide) ?_
  refine sk_iald 10 dX7_look_9 rfl sm_1 (by unfold vp_in; decide) 4 rfl ?_
  refine sk_icmp_ge 29 13 dX7_look_10 (by decide) rfl (fun hc => ?_) (fun hc => ?_)
  · have h := h.1 hc
    refine sk_iconst (v := (-1)) 30 dX7_look_29 rfl (by decide) ?_
    exact sk_iret dX7_look_30 rfl rfl h
  · have h := h.2 hc
    refine sk_aload_n 0 14 dX7_look_13 rfl rfl rfl ?_
    refine sk_getR (r := 1) 17 dX7_look_14 rfl lfX7_7 sm_0 rfl ?_
    refine sk_sipush (v := 328) 20 dX7_look_17 rfl (by decide) ?_
    refine sk_aload_n 0 21 dX7_look_20 rfl rfl rfl ?_
    refine sk_getI 24 dX7_look_21 rfl lfX7_57 sm_0 rfl ?_
    refine sk_iadd 25 dX7_look_24 rfl ?_
    have hb25 := h.1
    have h := h.2
    refine sk_iald 26 dX7_look_25 rfl sm_1 hb25 _ rfl ?_
    refine sk_goto 30 dX7_look_26 (by decide) ?_
    exact sk_iret dX7_look_30 rfl rfl h

theorem wX7_isName {d : Nat} {τ : sk_T} {K : sk_K} {v1 : Int32}
  (h : ((¬ (τ 0 7) = 0 →
      ((¬ v1 = 114 →
        ((¬ (τ 0 7) = 0 →
          ((v1 = 99 →
            K (some (.int 1)) τ
          ) ∧
          (¬ v1 = 99 →
            ((¬ v1 = 121 →
              K (some (.int 0)) τ
            ) ∧
            (v1 = 121 →
              K (some (.int 1)) τ
            ))
          ))
        ) ∧
        ((τ 0 7) = 0 →
          ((v1 = 110 →
            K (some (.int 1)) τ
          ) ∧
          (¬ v1 = 110 →
            ((¬ v1 = 103 →
              K (some (.int 0)) τ
            ) ∧
            (v1 = 103 →
              K (some (.int 1)) τ
            ))
          ))
        ))
      ) ∧
      (v1 = 114 →
        K (some (.int 1)) τ
      ))
    ) ∧
    ((τ 0 7) = 0 →
      ((¬ v1 = 104 →
        ((¬ (τ 0 7) = 0 →
          ((v1 = 99 →
            K (some (.int 1)) τ
          ) ∧
          (¬ v1 = 99 →
            ((¬ v1 = 121 →
              K (some (.int 0)) τ
            ) ∧
            (v1 = 121 →
              K (some (.int 1)) τ
            ))
          ))
        ) ∧
        ((τ 0 7) = 0 →
          ((v1 = 110 →
            K (some (.int 1)) τ
          ) ∧
          (¬ v1 = 110 →
            ((¬ v1 = 103 →
              K (some (.int 0)) τ
            ) ∧
            (v1 = 103 →
              K (some (.int 1)) τ
            ))
          ))
        ))
      ) ∧
      (v1 = 104 →
        K (some (.int 1)) τ
      ))
    ))) :
  sk_C sk_Sm d mX7_isName [.ref 0, .int v1] τ K := by
  refine sk_enter mfX7_isName (Nat.le_of_ble_eq_true rfl) ?_
  show sk_G sk_Sm d mX7_isName 0 [(0, .ref 0), (1, .int v1)] [] τ K
  refine sk_iload_n 1 1 dX7_isName_0 rfl rfl rfl ?_
  refine sk_aload_n 0 2 dX7_isName_1 rfl rfl rfl ?_
  refine sk_getI 5 dX7_isName_2 rfl lfX7_61 sm_0 rfl ?_
  refine sk_if_ne 13 8 dX7_isName_5 (by decide) rfl (fun hc => ?_) (fun hc => ?_)
  · have h := h.1 hc
    refine sk_bipush (v := 114) 15 dX7_isName_13 rfl (by decide) ?_
    refine sk_icmp_ne 20 18 dX7_isName_15 (by decide) rfl (fun hc => ?_) (fun hc => ?_)
    · have h := h.1 hc
      refine sk_aload_n 0 21 dX7_isName_20 rfl rfl rfl ?_
      refine sk_getI 24 dX7_isName_21 rfl lfX7_61 sm_0 rfl ?_
      refine sk_if_ne 47 27 dX7_isName_24 (by decide) rfl (fun hc => ?_) (fun hc => ?_)
      · have h := h.1 hc
        refine sk_iload_n 1 48 dX7_isName_47 rfl rfl rfl ?_
        refine sk_bipush (v := 99) 50 dX7_isName_48 rfl (by decide) ?_
        refine sk_icmp_eq 59 53 dX7_isName_50 (by decide) rfl (fun hc => ?_) (fun hc => ?_)
        · have h := h.1 hc
          refine sk_iconst (v := 1) 60 dX7_isName_59 rfl (by decide) ?_
          refine sk_goto 64 dX7_isName_60 (by decide) ?_
          exact sk_iret dX7_isName_64 rfl rfl h
        · have h := h.2 hc
          refine sk_iload_n 1 54 dX7_isName_53 rfl rfl rfl ?_
          refine sk_bipush (v := 121) 56 dX7_isName_54 rfl (by decide) ?_
          refine sk_icmp_ne 63 59 dX7_isName_56 (by decide) rfl (fun hc => ?_) (fun hc => ?_)
          · have h := h.1 hc
            refine sk_iconst (v := 0) 64 dX7_isName_63 rfl (by decide) ?_
            exact sk_iret dX7_isName_64 rfl rfl h
          · have h := h.2 hc
            refine sk_iconst (v := 1) 60 dX7_isName_59 rfl (by decide) ?_
            refine sk_goto 64 dX7_isName_60 (by decide) ?_
            exact sk_iret dX7_isName_64 rfl rfl h
      · have h := h.2 hc
        refine sk_iload_n 1 28 dX7_isName_27 rfl rfl rfl ?_
        refine sk_bipush (v := 110) 30 dX7_isName_28 rfl (by decide) ?_
        refine sk_icmp_eq 39 33 dX7_isName_30 (by decide) rfl (fun hc => ?_) (fun hc => ?_)
        · have h := h.1 hc
          refine sk_iconst (v := 1) 40 dX7_isName_39 rfl (by decide) ?_
          refine sk_goto 64 dX7_isName_40 (by decide) ?_
          exact sk_iret dX7_isName_64 rfl rfl h
        · have h := h.2 hc
          refine sk_iload_n 1 34 dX7_isName_33 rfl rfl rfl ?_
          refine sk_bipush (v := 103) 36 dX7_isName_34 rfl (by decide) ?_
          refine sk_icmp_ne 43 39 dX7_isName_36 (by decide) rfl (fun hc => ?_) (fun hc => ?_)
          · have h := h.1 hc
            refine sk_iconst (v := 0) 44 dX7_isName_43 rfl (by decide) ?_
            refine sk_goto 64 dX7_isName_44 (by decide) ?_
            exact sk_iret dX7_isName_64 rfl rfl h
          · have h := h.2 hc
            refine sk_iconst (v := 1) 40 dX7_isName_39 rfl (by decide) ?_
            refine sk_goto 64 dX7_isName_40 (by decide) ?_
            exact sk_iret dX7_isName_64 rfl rfl h
    · have h := h.2 hc
      refine sk_iconst (v := 1) 19 dX7_isName_18 rfl (by decide) ?_
      exact sk_iret dX7_isName_19 rfl rfl h
  · have h := h.2 hc
    refine sk_bipush (v := 104) 10 dX7_isName_8 rfl (by decide) ?_
    refine sk_goto 15 dX7_isName_10 (by decide) ?_
    refine sk_icmp_ne 20 18 dX7_isName_15 (by decide) rfl (fun hc => ?_) (fun hc => ?_)
    · have h := h.1 hc
      refine sk_aload_n 0 21 dX7_isName_20 rfl rfl rfl ?_
      refine sk_getI 24 dX7_isName_21 rfl lfX7_61 sm_0 rfl ?_
      refine sk_if_ne 47 27 dX7_isName_24 (by decide) rfl (fun hc => ?_) (fun hc => ?_)
      · have h := h.1 hc
        refine sk_iload_n 1 48 dX7_isName_47 rfl rfl rfl ?_
        refine sk_bipush (v := 99) 50 dX7_isName_48 rfl (by decide) ?_
        refine sk_icmp_eq 59 53 dX7_isName_50 (by decide) rfl (fun hc => ?_) (fun hc => ?_)
        · have h := h.1 hc
          refine sk_iconst (v := 1) 60 dX7_isName_59 rfl (by decide) ?_
          refine sk_goto 64 dX7_isName_60 (by decide) ?_
          exact sk_iret dX7_isName_64 rfl rfl h
        · have h := h.2 hc
          refine sk_iload_n 1 54 dX7_isName_53 rfl rfl rfl ?_
          refine sk_bipush (v := 121) 56 dX7_isName_54 rfl (by decide) ?_
          refine sk_icmp_ne 63 59 dX7_isName_56 (by decide) rfl (fun hc => ?_) (fun hc => ?_)
          · have h := h.1 hc
            refine sk_iconst (v := 0) 64 dX7_isName_63 rfl (by decide) ?_
            exact sk_iret dX7_isName_64 rfl rfl h
          · have h := h.2 hc
            refine sk_iconst (v := 1) 60 dX7_isName_59 rfl (by decide) ?_
            refine sk_goto 64 dX7_isName_60 (by decide) ?_
            exact sk_iret dX7_isName_64 rfl rfl h
      · have h := h.2 hc
        refine sk_iload_n 1 28 dX7_isName_27 rfl rfl rfl ?_
        refine sk_bipush (v := 110) 30 dX7_isName_28 rfl (by decide) ?_
        refine sk_icmp_eq 39 33 dX7_isName_30 (by decide) rfl (fun hc => ?_) (fun hc => ?_)
        · have h := h.1 hc
          refine sk_iconst (v := 1) 40 dX7_isName_39 rfl (by decide) ?_
          refine sk_goto 64 dX7_isName_40 (by decide) ?_
          exact sk_iret dX7_isName_64 rfl rfl h
        · have h := h.2 hc
          refine sk_iload_n 1 34 dX7_isName_33 rfl rfl rfl ?_
          refine sk_bipush (v := 103) 36 dX7_isName_34 rfl (by decide) ?_
          refine sk_icmp_ne 43 39 dX7_isName_36 (by decide) rfl (fun hc => ?_) (fun hc => ?_)
          · have h := h.1 hc
            refine sk_iconst (v := 0) 44 dX7_isName_43 rfl (by decide) ?_
            refine sk_goto 64 dX7_isName_44 (by decide) ?_
            exact sk_iret dX7_isName_64 rfl rfl h
          · have h := h.2 hc
            refine sk_iconst (v := 1) 40 dX7_isName_39 rfl (by decide) ?_
            refine sk_goto 64 dX7_isName_40 (by decide) ?_
            exact sk_iret dX7_isName_64 rfl rfl h
    · have h := h.2 hc
      refine sk_iconst (v := 1) 19 dX7_isName_18 rfl (by decide) ?_
      exact sk_iret dX7_isName_19 rfl rfl h

theorem wX7_step1 {d : Nat} {τ : sk_T} {K : sk_K} {v1 : Int32} {v2 : Int32}
  (h : vp_in (2 * (τ 0 6)) 124 ∧
    vp_in ((2 * ((sk_u τ 4 ((2 * (τ 0 6))).toNatClampNeg v1) 0 6)) + 1) 124 ∧
    K none (sk_u (sk_u (sk_u τ 4 ((2 * (τ 0 6))).toNatClampNeg v1) 4 (((2 * ((sk_u τ 4 ((2 * (τ 0 6))).toNatClampNeg v1) 0 6)) + 1)).toNatClampNeg v2) 0 6 (((sk_u (sk_u τ 4 ((2 * (τ 0 6))).toNatClampNeg v1) 4 (((2 * ((sk_u τ 4 ((2 * (τ 0 6))).toNatClampNeg v1) 0 6)) + 1)).toNatClampNeg v2) 0 6) + 1))) :
  sk_C sk_Sm d mX7_step1 [.ref 0, .int v1, .int v2] τ K := by
  refine sk_enter mfX7_step1 (Nat.le_of_ble_eq_true rfl) ?_
  show sk_G sk_Sm d mX7_step1 0 [(0, .ref 0), (1, .int v1), (2, .int v2)] [] τ K
  refine sk_aload_n 0 1 dX7_step1_0 rfl rfl rfl ?_
  refine sk_getR (r := 4) 4 dX7_step1_1 rfl lfX7_19 sm_0 rfl ?_
  refine sk_iconst (v := 2) 5 dX7_step1_4 rfl (by decide) ?_
  refine sk_aload_n 0 6 dX7_step1_5 rfl rfl rfl ?_
  refine sk_getI 9 dX7_step1_6 rfl lfX7_64 sm_0 rfl ?_
  refine sk_imul 10 dX7_step1_9 rfl ?_
  refine sk_iload_n 1 11 dX7_step1_10 rfl rfl rfl ?_
  have hb11 := h.1
  have h := h.2
  refine sk_iast 12 dX7_step1_11 rfl sm_4 hb11 _ rfl ?_
  refine sk_aload_n 0 13 dX7_step1_12 rfl rfl rfl ?_
  refine sk_getR (r := 4) 16 dX7_step1_13 rfl lfX7_19 sm_0 rfl ?_
  refine sk_iconst (v := 2) 17 dX7_step1_16 rfl (by decide) ?_
  refine sk_aload_n 0 18 dX7_step1_17 rfl rfl rfl ?_
  refine sk_getI 21 dX7_step1_18 rfl lfX7_64 sm_0 rfl ?_
  refine sk_imul 22 dX7_step1_21 rfl ?_
  refine sk_iconst (v := 1) 23 dX7_step1_22 rfl (by decide) ?_
  refine sk_iadd 24 dX7_step1_23 rfl ?_
  refine sk_iload_n 2 25 dX7_step1_24 rfl rfl rfl ?_
  have hb25 := h.1
  have h := h.2
  refine sk_iast 26 dX7_step1_25 rfl sm_4 hb25 _ rfl ?_
  refine sk_aload_n 0 27 dX7_step1_26 rfl rfl rfl ?_
  refine sk_dup 28 dX7_step1_27 rfl rfl ?_
  refine sk_getI 31 dX7_step1_28 rfl lfX7_64 sm_0 rfl ?_
  refine sk_iconst (v := 1) 32 dX7_step1_31 rfl (by decide) ?_
  refine sk_iadd 33 dX7_step1_32 rfl ?_
  refine sk_putI 36 dX7_step1_33 rfl lpX7_64 sm_0 rfl ?_
  exact sk_vret dX7_step1_36 rfl h

theorem wX7_whole {d : Nat} {τ : sk_T} {K : sk_K} (hd0 : 0 < d)
  (h : sk_C sk_Sm (d - 1) mX7_both [.ref 0] τ (fun w t1 => ∃ r1 : Int32, w = some (.int r1) ∧
      ((¬ r1 = 0 →
        sk_G sk_Sm d mX7_whole 9 [(0, .ref 0)] [] t1 K
      ) ∧
      (r1 = 0 →
        K (some (.int 0)) t1
      ))
    )) :
  sk_C sk_Sm d mX7_whole [.ref 0] τ K := by
  refine sk_enter mfX7_whole (Nat.le_of_ble_eq_true rfl) ?_
  show sk_G sk_Sm d mX7_whole 0 [(0, .ref 0)] [] τ K
  refine sk_aload_n 0 1 dX7_whole_0 rfl rfl rfl ?_
  refine sk_callVi [] [] 4 dX7_whole_1 rfl mfX7_both lkX7_67 miX7_both msX7_both sm_0 rfl rfl rfl rfl (by simp [Value.category]) hd0 (sk_Cm h ?_)
  rintro w t1 ⟨r1, hw, h⟩
  refine ⟨r1, hw, ?_⟩
  refine sk_if_ne 9 7 dX7_whole_4 (by decide) rfl (fun hc => ?_) (fun hc => ?_)
  · have h := h.1 hc
    exact h
  · have h := h.2 hc
    refine sk_iconst (v := 0) 8 dX7_whole_7 rfl (by decide) ?_
    exact sk_iret dX7_whole_8 rfl rfl h

theorem bX7_whole_9 {d : Nat} {τ : sk_T} {K : sk_K} (hd0 : 0 < d)
  (h : sk_C sk_Sm (d - 1) mX7_look [.ref 0] τ (fun w t10 => ∃ r10 : Int32, w = some (.int r10) ∧
      ((¬ r10 = 124 →
        K (some (.int 1)) t10
      ) ∧
      (r10 = 124 →
        sk_C sk_Sm (d - 1) mX7_both [.ref 0] (sk_u t10 0 4 ((t10 0 4) + 1)) (fun w t29 => ∃ r29 : Int32, w = some (.int r29) ∧
          ((¬ r29 = 0 →
            sk_C sk_Sm (d - 1) mX7_step1 [.ref 0, .int 3, .int 124] t29 (fun w t41 => w = none ∧
              sk_G sk_Sm d mX7_whole 9 [(0, .ref 0)] [] t41 K
            )
          ) ∧
          (r29 = 0 →
            K (some (.int 0)) t29
          ))
        )
      ))
    )) :
  sk_G sk_Sm d mX7_whole 9 [(0, .ref 0)] [] τ K := by
  refine sk_aload_n 0 10 dX7_whole_9 rfl rfl rfl ?_
  refine sk_callVi [] [] 13 dX7_whole_10 rfl mfX7_look lkX7_71 miX7_look msX7_look sm_0 rfl rfl rfl rfl (by simp [Value.category]) hd0 (sk_Cm h ?_)
  rintro w t10 ⟨r10, hw, h⟩
  refine ⟨r10, hw, ?_⟩
  refine sk_bipush (v := 124) 15 dX7_whole_13 rfl (by decide) ?_
  refine sk_icmp_ne 47 18 dX7_whole_15 (by decide) rfl (fun hc => ?_) (fun hc => ?_)
  · have h := h.1 hc
    refine sk_iconst (v := 1) 48 dX7_whole_47 rfl (by decide) ?_
    exact sk_iret dX7_whole_48 rfl rfl h
  · have h := h.2 hc
    refine sk_aload_n 0 19 dX7_whole_18 rfl rfl rfl ?_
    refine sk_dup 20 dX7_whole_19 rfl rfl ?_
    refine sk_getI 23 dX7_whole_20 rfl lfX7_57 sm_0 rfl ?_
    refine sk_iconst (v := 1) 24 dX7_whole_23 rfl (by decide) ?_
    refine sk_iadd 25 dX7_whole_24 rfl ?_
    refine sk_putI 28 dX7_whole_25 rfl lpX7_57 sm_0 rfl ?_
    refine sk_aload_n 0 29 dX7_whole_28 rfl rfl rfl ?_
    refine sk_callVi [] [] 32 dX7_whole_29 rfl mfX7_both lkX7_67 miX7_both msX7_both sm_0 rfl rfl rfl rfl (by simp [Value.category]) hd0 (sk_Cm h ?_)
    rintro w t29 ⟨r29, hw, h⟩
    refine ⟨r29, hw, ?_⟩
    refine sk_if_ne 37 35 dX7_whole_32 (by decide) rfl (fun hc => ?_) (fun hc => ?_)
    · have h := h.1 hc
      refine sk_aload_n 0 38 dX7_whole_37 rfl rfl rfl ?_
      refine sk_iconst (v := 3) 39 dX7_whole_38 rfl (by decide) ?_
      refine sk_bipush (v := 124) 41 dX7_whole_39 rfl (by decide) ?_
      refine sk_callVv [.int 3, .int 124] [] 44 dX7_whole_41 rfl mfX7_step1 lkX7_75 miX7_step1 msX7_step1 sm_0 rfl rfl rfl rfl (by simp [Value.category]) hd0 (sk_Cm h ?_)
      rintro w t41 ⟨hw, h⟩
      refine ⟨hw, ?_⟩
      refine sk_goto 9 dX7_whole_44 (by decide) ?_
      exact h
    · have h := h.2 hc
      refine sk_iconst (v := 0) 36 dX7_whole_35 rfl (by decide) ?_
      exact sk_iret dX7_whole_36 rfl rfl h

theorem wX7_both {d : Nat} {τ : sk_T} {K : sk_K} (hd0 : 0 < d)
  (h : sk_C sk_Sm (d - 1) mX7_compared [.ref 0] τ (fun w t1 => ∃ r1 : Int32, w = some (.int r1) ∧
      ((¬ r1 = 0 →
        sk_G sk_Sm d mX7_both 9 [(0, .ref 0)] [] t1 K
      ) ∧
      (r1 = 0 →
        K (some (.int 0)) t1
      ))
    )) :
  sk_C sk_Sm d mX7_both [.ref 0] τ K := by
  refine sk_enter mfX7_both (Nat.le_of_ble_eq_true rfl) ?_
  show sk_G sk_Sm d mX7_both 0 [(0, .ref 0)] [] τ K
  refine sk_aload_n 0 1 dX7_both_0 rfl rfl rfl ?_
  refine sk_callVi [] [] 4 dX7_both_1 rfl mfX7_compared lkX7_79 miX7_compared msX7_compared sm_0 rfl rfl rfl rfl (by simp [Value.category]) hd0 (sk_Cm h ?_)
  rintro w t1 ⟨r1, hw, h⟩
  refine ⟨r1, hw, ?_⟩
  refine sk_if_ne 9 7 dX7_both_4 (by decide) rfl (fun hc => ?_) (fun hc => ?_)
  · have h := h.1 hc
    exact h
  · have h := h.2 hc
    refine sk_iconst (v := 0) 8 dX7_both_7 rfl (by decide) ?_
    exact sk_iret dX7_both_8 rfl rfl h

theorem bX7_both_9 {d : Nat} {τ : sk_T} {K : sk_K} (hd0 : 0 < d)
  (h : sk_C sk_Sm (d - 1) mX7_look [.ref 0] τ (fun w t10 => ∃ r10 : Int32, w = some (.int r10) ∧
      ((¬ r10 = 38 →
        K (some (.int 1)) t10
      ) ∧
      (r10 = 38 →
        sk_C sk_Sm (d - 1) mX7_compared [.ref 0] (sk_u t10 0 4 ((t10 0 4) + 1)) (fun w t29 => ∃ r29 : Int32, w = some (.int r29) ∧
          ((¬ r29 = 0 →
            sk_C sk_Sm (d - 1) mX7_step1 [.ref 0, .int 3, .int 38] t29 (fun w t41 => w = none ∧
              sk_G sk_Sm d mX7_both 9 [(0, .ref 0)] [] t41 K
            )
          ) ∧
          (r29 = 0 →
            K (some (.int 0)) t29
          ))
        )
      ))
    )) :
  sk_G sk_Sm d mX7_both 9 [(0, .ref 0)] [] τ K := by
  refine sk_aload_n 0 10 dX7_both_9 rfl rfl rfl ?_
  refine sk_callVi [] [] 13 dX7_both_10 rfl mfX7_look lkX7_71 miX7_look msX7_look sm_0 rfl rfl rfl rfl (by simp [Value.category]) hd0 (sk_Cm h ?_)
  rintro w t10 ⟨r10, hw, h⟩
  refine ⟨r10, hw, ?_⟩
  refine sk_bipush (v := 38) 15 dX7_both_13 rfl (by decide) ?_
  refine sk_icmp_ne 47 18 dX7_both_15 (by decide) rfl (fun hc => ?_) (fun hc => ?_)
  · have h := h.1 hc
    refine sk_iconst (v := 1) 48 dX7_both_47 rfl (by decide) ?_
    exact sk_iret dX7_both_48 rfl rfl h
  · have h := h.2 hc
    refine sk_aload_n 0 19 dX7_both_18 rfl rfl rfl ?_
    refine sk_dup 20 dX7_both_19 rfl rfl ?_
    refine sk_getI 23 dX7_both_20 rfl lfX7_57 sm_0 rfl ?_
    refine sk_iconst (v := 1) 24 dX7_both_23 rfl (by decide) ?_
    refine sk_iadd 25 dX7_both_24 rfl ?_
    refine sk_putI 28 dX7_both_25 rfl lpX7_57 sm_0 rfl ?_
    refine sk_aload_n 0 29 dX7_both_28 rfl rfl rfl ?_
    refine sk_callVi [] [] 32 dX7_both_29 rfl mfX7_compared lkX7_79 miX7_compared msX7_compared sm_0 rfl rfl rfl rfl (by simp [Value.category]) hd0 (sk_Cm h ?_)
    rintro w t29 ⟨r29, hw, h⟩
    refine ⟨r29, hw, ?_⟩
    refine sk_if_ne 37 35 dX7_both_32 (by decide) rfl (fun hc => ?_) (fun hc => ?_)
    · have h := h.1 hc
      refine sk_aload_n 0 38 dX7_both_37 rfl rfl rfl ?_
      refine sk_iconst (v := 3) 39 dX7_both_38 rfl (by decide) ?_
      refine sk_bipush (v := 38) 41 dX7_both_39 rfl (by decide) ?_
      refine sk_callVv [.int 3, .int 38] [] 44 dX7_both_41 rfl mfX7_step1 lkX7_75 miX7_step1 msX7_step1 sm_0 rfl rfl rfl rfl (by simp [Value.category]) hd0 (sk_Cm h ?_)
      rintro w t41 ⟨hw, h⟩
      refine ⟨hw, ?_⟩
      refine sk_goto 9 dX7_both_44 (by decide) ?_
      exact h
    · have h := h.2 hc
      refine sk_iconst (v := 0) 36 dX7_both_35 rfl (by decide) ?_
      exact sk_iret dX7_both_36 rfl rfl h

theorem wX7_compared {d : Nat} {τ : sk_T} {K : sk_K} (hd0 : 0 < d)
  (h : sk_C sk_Sm (d - 1) mX7_sum [.ref 0] τ (fun w t1 => ∃ r1 : Int32, w = some (.int r1) ∧
      ((¬ r1 = 0 →
        sk_C sk_Sm (d - 1) mX7_look [.ref 0] t1 (fun w t10 => ∃ r10 : Int32, w = some (.int r10) ∧
          ((r10 = 60 →
            sk_C sk_Sm (d - 1) mX7_sum [.ref 0] (sk_u t10 0 4 ((t10 0 4) + 1)) (fun w t45 => ∃ r45 : Int32, w = some (.int r45) ∧
              ((¬ r45 = 0 →
                sk_C sk_Sm (d - 1) mX7_step1 [.ref 0, .int 3, .int r10] t45 (fun w t56 => w = none ∧
                  K (some (.int 1)) t56
                )
              ) ∧
              (r45 = 0 →
                K (some (.int 0)) t45
              ))
            )
          ) ∧
          (¬ r10 = 60 →
            ((r10 = 61 →
              sk_C sk_Sm (d - 1) mX7_sum [.ref 0] (sk_u t10 0 4 ((t10 0 4) + 1)) (fun w t45 => ∃ r45 : Int32, w = some (.int r45) ∧
                ((¬ r45 = 0 →
                  sk_C sk_Sm (d - 1) mX7_step1 [.ref 0, .int 3, .int r10] t45 (fun w t56 => w = none ∧
                    K (some (.int 1)) t56
                  )
                ) ∧
                (r45 = 0 →
                  K (some (.int 0)) t45
                ))
              )
            ) ∧
            (¬ r10 = 61 →
              ((r10 = 62 →
                sk_C sk_Sm (d - 1) mX7_sum [.ref 0] (sk_u t10 0 4 ((t10 0 4) + 1)) (fun w t45 => ∃ r45 : Int32, w = some (.int r45) ∧
                  ((¬ r45 = 0 →
                    sk_C sk_Sm (d - 1) mX7_step1 [.ref 0, .int 3, .int r10] t45 (fun w t56 => w = none ∧
                      K (some (.int 1)) t56
                    )
                  ) ∧
                  (r45 = 0 →
                    K (some (.int 0)) t45
                  ))
                )
              ) ∧
              (¬ r10 = 62 →
                K (some (.int 1)) t10
              ))
            ))
          ))
        )
      ) ∧
      (r1 = 0 →
        K (some (.int 0)) t1
      ))
    )) :
  sk_C sk_Sm d mX7_compared [.ref 0] τ K := by
  refine sk_enter mfX7_compared (Nat.le_of_ble_eq_true rfl) ?_
  show sk_G sk_Sm d mX7_compared 0 [(0, .ref 0)] [] τ K
  refine sk_aload_n 0 1 dX7_compared_0 rfl rfl rfl ?_
  refine sk_callVi [] [] 4 dX7_compared_1 rfl mfX7_sum lkX7_82 miX7_sum msX7_sum sm_0 rfl rfl rfl rfl (by simp [Value.category]) hd0 (sk_Cm h ?_)
  rintro w t1 ⟨r1, hw, h⟩
  refine ⟨r1, hw, ?_⟩
  refine sk_if_ne 9 7 dX7_compared_4 (by decide) rfl (fun hc => ?_) (fun hc => ?_)
  · have h := h.1 hc
    refine sk_aload_n 0 10 dX7_compared_9 rfl rfl rfl ?_
    refine sk_callVi [] [] 13 dX7_compared_10 rfl mfX7_look lkX7_71 miX7_look msX7_look sm_0 rfl rfl rfl rfl (by simp [Value.category]) hd0 (sk_Cm h ?_)
    rintro w t10 ⟨r10, hw, h⟩
    refine ⟨r10, hw, ?_⟩
    refine sk_istore_n (lv2 := [(1, .int r10), (0, .ref 0)]) 14 dX7_compared_13 rfl rfl (by decide) rfl ?_
    refine sk_iload_n 0 15 dX7_compared_14 rfl rfl rfl ?_
    refine sk_bipush (v := 60) 17 dX7_compared_15 rfl (by decide) ?_
    refine sk_icmp_eq 34 20 dX7_compared_17 (by decide) rfl (fun hc => ?_) (fun hc => ?_)
    · have h := h.1 hc
      refine sk_aload_n 1 35 dX7_compared_34 rfl rfl rfl ?_
      refine sk_dup 36 dX7_compared_35 rfl rfl ?_
      refine sk_getI 39 dX7_compared_36 rfl lfX7_57 sm_0 rfl ?_
      refine sk_iconst (v := 1) 40 dX7_compared_39 rfl (by decide) ?_
      refine sk_iadd 41 dX7_compared_40 rfl ?_
      refine sk_putI 44 dX7_compared_41 rfl lpX7_57 sm_0 rfl ?_
      refine sk_aload_n 1 45 dX7_compared_44 rfl rfl rfl ?_
      refine sk_callVi [] [] 48 dX7_compared_45 rfl mfX7_sum lkX7_82 miX7_sum msX7_sum sm_0 rfl rfl rfl rfl (by simp [Value.category]) hd0 (sk_Cm h ?_)
      rintro w t45 ⟨r45, hw, h⟩
      refine ⟨r45, hw, ?_⟩
      refine sk_if_ne 53 51 dX7_compared_48 (by decide) rfl (fun hc => ?_) (fun hc => ?_)
      · have h := h.1 hc
        refine sk_aload_n 1 54 dX7_compared_53 rfl rfl rfl ?_
        refine sk_iconst (v := 3) 55 dX7_compared_54 rfl (by decide) ?_
        refine sk_iload_n 0 56 dX7_compared_55 rfl rfl rfl ?_
        refine sk_callVv [.int 3, .int r10] [] 59 dX7_compared_56 rfl mfX7_step1 lkX7_75 miX7_step1 msX7_step1 sm_0 rfl rfl rfl rfl (by simp [Value.category]) hd0 (sk_Cm h ?_)
        rintro w t56 ⟨hw, h⟩
        refine ⟨hw, ?_⟩
        refine sk_iconst (v := 1) 60 dX7_compared_59 rfl (by decide) ?_
        exact sk_iret dX7_compared_60 rfl rfl h
      · have h := h.2 hc
        refine sk_iconst (v := 0) 52 dX7_compared_51 rfl (by decide) ?_
        exact sk_iret dX7_compared_52 rfl rfl h
    · have h := h.2 hc
      refine sk_iload_n 0 21 dX7_compared_20 rfl rfl rfl ?_
      refine sk_bipush (v := 61) 23 dX7_compared_21 rfl (by decide) ?_
      refine sk_icmp_eq 34 26 dX7_compared_23 (by decide) rfl (fun hc => ?_) (fun hc => ?_)
      · have h := h.1 hc
        refine sk_aload_n 1 35 dX7_compared_34 rfl rfl rfl ?_
        refine sk_dup 36 dX7_compared_35 rfl rfl ?_
        refine sk_getI 39 dX7_compared_36 rfl lfX7_57 sm_0 rfl ?_
        refine sk_iconst (v := 1) 40 dX7_compared_39 rfl (by decide) ?_
        refine sk_iadd 41 dX7_compared_40 rfl ?_
        refine sk_putI 44 dX7_compared_41 rfl lpX7_57 sm_0 rfl ?_
        refine sk_aload_n 1 45 dX7_compared_44 rfl rfl rfl ?_
        refine sk_callVi [] [] 48 dX7_compared_45 rfl mfX7_sum lkX7_82 miX7_sum msX7_sum sm_0 rfl rfl rfl rfl (by simp [Value.category]) hd0 (sk_Cm h ?_)
        rintro w t45 ⟨r45, hw, h⟩
        refine ⟨r45, hw, ?_⟩
        refine sk_if_ne 53 51 dX7_compared_48 (by decide) rfl (fun hc => ?_) (fun hc => ?_)
        · have h := h.1 hc
          refine sk_aload_n 1 54 dX7_compared_53 rfl rfl rfl ?_
          refine sk_iconst (v := 3) 55 dX7_compared_54 rfl (by decide) ?_
          refine sk_iload_n 0 56 dX7_compared_55 rfl rfl rfl ?_
          refine sk_callVv [.int 3, .int r10] [] 59 dX7_compared_56 rfl mfX7_step1 lkX7_75 miX7_step1 msX7_step1 sm_0 rfl rfl rfl rfl (by simp [Value.category]) hd0 (sk_Cm h ?_)
          rintro w t56 ⟨hw, h⟩
          refine ⟨hw, ?_⟩
          refine sk_iconst (v := 1) 60 dX7_compared_59 rfl (by decide) ?_
          exact sk_iret dX7_compared_60 rfl rfl h
        · have h := h.2 hc
          refine sk_iconst (v := 0) 52 dX7_compared_51 rfl (by decide) ?_
          exact sk_iret dX7_compared_52 rfl rfl h
      · have h := h.2 hc
        refine sk_iload_n 0 27 dX7_compared_26 rfl rfl rfl ?_
        refine sk_bipush (v := 62) 29 dX7_compared_27 rfl (by decide) ?_
        refine sk_icmp_eq 34 32 dX7_compared_29 (by decide) rfl (fun hc => ?_) (fun hc => ?_)
        · have h := h.1 hc
          refine sk_aload_n 1 35 dX7_compared_34 rfl rfl rfl ?_
          refine sk_dup 36 dX7_compared_35 rfl rfl ?_
          refine sk_getI 39 dX7_compared_36 rfl lfX7_57 sm_0 rfl ?_
          refine sk_iconst (v := 1) 40 dX7_compared_39 rfl (by decide) ?_
          refine sk_iadd 41 dX7_compared_40 rfl ?_
          refine sk_putI 44 dX7_compared_41 rfl lpX7_57 sm_0 rfl ?_
          refine sk_aload_n 1 45 dX7_compared_44 rfl rfl rfl ?_
          refine sk_callVi [] [] 48 dX7_compared_45 rfl mfX7_sum lkX7_82 miX7_sum msX7_sum sm_0 rfl rfl rfl rfl (by simp [Value.category]) hd0 (sk_Cm h ?_)
          rintro w t45 ⟨r45, hw, h⟩
          refine ⟨r45, hw, ?_⟩
          refine sk_if_ne 53 51 dX7_compared_48 (by decide) rfl (fun hc => ?_) (fun hc => ?_)
          · have h := h.1 hc
            refine sk_aload_n 1 54 dX7_compared_53 rfl rfl rfl ?_
            refine sk_iconst (v := 3) 55 dX7_compared_54 rfl (by decide) ?_
            refine sk_iload_n 0 56 dX7_compared_55 rfl rfl rfl ?_
            refine sk_callVv [.int 3, .int r10] [] 59 dX7_compared_56 rfl mfX7_step1 lkX7_75 miX7_step1 msX7_step1 sm_0 rfl rfl rfl rfl (by simp [Value.category]) hd0 (sk_Cm h ?_)
            rintro w t56 ⟨hw, h⟩
            refine ⟨hw, ?_⟩
            refine sk_iconst (v := 1) 60 dX7_compared_59 rfl (by decide) ?_
            exact sk_iret dX7_compared_60 rfl rfl h
          · have h := h.2 hc
            refine sk_iconst (v := 0) 52 dX7_compared_51 rfl (by decide) ?_
            exact sk_iret dX7_compared_52 rfl rfl h
        · have h := h.2 hc
          refine sk_iconst (v := 1) 33 dX7_compared_32 rfl (by decide) ?_
          exact sk_iret dX7_compared_33 rfl rfl h
  · have h := h.2 hc
    refine sk_iconst (v := 0) 8 dX7_compared_7 rfl (by decide) ?_
    exact sk_iret dX7_compared_8 rfl rfl h

theorem wX7_sum {d : Nat} {τ : sk_T} {K : sk_K} (hd0 : 0 < d)
  (h : sk_C sk_Sm (d - 1) mX7_product [.ref 0] τ (fun w t1 => ∃ r1 : Int32, w = some (.int r1) ∧
      ((¬ r1 = 0 →
        sk_G sk_Sm d mX7_sum 9 [(0, .ref 0)] [] t1 K
      ) ∧
      (r1 = 0 →
        K (some (.int 0)) t1
      ))
    )) :
  sk_C sk_Sm d mX7_sum [.ref 0] τ K := by
  refine sk_enter mfX7_sum (Nat.le_of_ble_eq_true rfl) ?_
  show sk_G sk_Sm d mX7_sum 0 [(0, .ref 0)] [] τ K
  refine sk_aload_n 0 1 dX7_sum_0 rfl rfl rfl ?_
  refine sk_callVi [] [] 4 dX7_sum_1 rfl mfX7_product lkX7_85 miX7_product msX7_product sm_0 rfl rfl rfl rfl (by simp [Value.category]) hd0 (sk_Cm h ?_)
  rintro w t1 ⟨r1, hw, h⟩
  refine ⟨r1, hw, ?_⟩
  refine sk_if_ne 9 7 dX7_sum_4 (by decide) rfl (fun hc => ?_) (fun hc => ?_)
  · have h := h.1 hc
    exact h
  · have h := h.2 hc
    refine sk_iconst (v := 0) 8 dX7_sum_7 rfl (by decide) ?_
    exact sk_iret dX7_sum_8 rfl rfl h

theorem bX7_sum_9 {d : Nat} {τ : sk_T} {K : sk_K} (hd0 : 0 < d)
  (h : sk_C sk_Sm (d - 1) mX7_look [.ref 0] τ (fun w t10 => ∃ r10 : Int32, w = some (.int r10) ∧
      ((r10 = 43 →
        sk_C sk_Sm (d - 1) mX7_look [.ref 0] t10 (fun w t28 => ∃ r28 : Int32, w = some (.int r28) ∧
          sk_C sk_Sm (d - 1) mX7_product [.ref 0] (sk_u t28 0 4 ((t28 0 4) + 1)) (fun w t43 => ∃ r43 : Int32, w = some (.int r43) ∧
            ((¬ r43 = 0 →
              sk_C sk_Sm (d - 1) mX7_step1 [.ref 0, .int 3, .int r28] t43 (fun w t54 => w = none ∧
                sk_G sk_Sm d mX7_sum 9 [(0, .ref 0)] [] t54 K
              )
            ) ∧
            (r43 = 0 →
              K (some (.int 0)) t43
            ))
          )
        )
      ) ∧
      (¬ r10 = 43 →
        sk_C sk_Sm (d - 1) mX7_look [.ref 0] t10 (fun w t19 => ∃ r19 : Int32, w = some (.int r19) ∧
          ((¬ r19 = 45 →
            K (some (.int 1)) t19
          ) ∧
          (r19 = 45 →
            sk_C sk_Sm (d - 1) mX7_look [.ref 0] t19 (fun w t28 => ∃ r28 : Int32, w = some (.int r28) ∧
              sk_C sk_Sm (d - 1) mX7_product [.ref 0] (sk_u t28 0 4 ((t28 0 4) + 1)) (fun w t43 => ∃ r43 : Int32, w = some (.int r43) ∧
                ((¬ r43 = 0 →
                  sk_C sk_Sm (d - 1) mX7_step1 [.ref 0, .int 3, .int r28] t43 (fun w t54 => w = none ∧
                    sk_G sk_Sm d mX7_sum 9 [(0, .ref 0)] [] t54 K
                  )
                ) ∧
                (r43 = 0 →
                  K (some (.int 0)) t43
                ))
              )
            )
          ))
        )
      ))
    )) :
  sk_G sk_Sm d mX7_sum 9 [(0, .ref 0)] [] τ K := by
  refine sk_aload_n 0 10 dX7_sum_9 rfl rfl rfl ?_
  refine sk_callVi [] [] 13 dX7_sum_10 rfl mfX7_look lkX7_71 miX7_look msX7_look sm_0 rfl rfl rfl rfl (by simp [Value.category]) hd0 (sk_Cm h ?_)
  rintro w t10 ⟨r10, hw, h⟩
  refine ⟨r10, hw, ?_⟩
  refine sk_bipush (v := 43) 15 dX7_sum_13 rfl (by decide) ?_
  refine sk_icmp_eq 27 18 dX7_sum_15 (by decide) rfl (fun hc => ?_) (fun hc => ?_)
  · have h := h.1 hc
    refine sk_aload_n 0 28 dX7_sum_27 rfl rfl rfl ?_
    refine sk_callVi [] [] 31 dX7_sum_28 rfl mfX7_look lkX7_71 miX7_look msX7_look sm_0 rfl rfl rfl rfl (by simp [Value.category]) hd0 (sk_Cm h ?_)
    rintro w t28 ⟨r28, hw, h⟩
    refine ⟨r28, hw, ?_⟩
    refine sk_istore_n (lv2 := [(1, .int r28), (0, .ref 0)]) 32 dX7_sum_31 rfl rfl (by decide) rfl ?_
    refine sk_aload_n 1 33 dX7_sum_32 rfl rfl rfl ?_
    refine sk_dup 34 dX7_sum_33 rfl rfl ?_
    refine sk_getI 37 dX7_sum_34 rfl lfX7_57 sm_0 rfl ?_
    refine sk_iconst (v := 1) 38 dX7_sum_37 rfl (by decide) ?_
    refine sk_iadd 39 dX7_sum_38 rfl ?_
    refine sk_putI 42 dX7_sum_39 rfl lpX7_57 sm_0 rfl ?_
    refine sk_aload_n 1 43 dX7_sum_42 rfl rfl rfl ?_
    refine sk_callVi [] [] 46 dX7_sum_43 rfl mfX7_product lkX7_85 miX7_product msX7_product sm_0 rfl rfl rfl rfl (by simp [Value.category]) hd0 (sk_Cm h ?_)
    rintro w t43 ⟨r43, hw, h⟩
    refine ⟨r43, hw, ?_⟩
    refine sk_if_ne 51 49 dX7_sum_46 (by decide) rfl (fun hc => ?_) (fun hc => ?_)
    · have h := h.1 hc
      refine sk_aload_n 1 52 dX7_sum_51 rfl rfl rfl ?_
      refine sk_iconst (v := 3) 53 dX7_sum_52 rfl (by decide) ?_
      refine sk_iload_n 0 54 dX7_sum_53 rfl rfl rfl ?_
      refine sk_callVv [.int 3, .int r28] [] 57 dX7_sum_54 rfl mfX7_step1 lkX7_75 miX7_step1 msX7_step1 sm_0 rfl rfl rfl rfl (by simp [Value.category]) hd0 (sk_Cm h ?_)
      rintro w t54 ⟨hw, h⟩
      refine ⟨hw, ?_⟩
      refine sk_goto 9 dX7_sum_57 (by decide) ?_
      refine sk_perm (lv2 := [(0, .ref 0)]) [1] rfl ?_
      exact h
    · have h := h.2 hc
      refine sk_iconst (v := 0) 50 dX7_sum_49 rfl (by decide) ?_
      exact sk_iret dX7_sum_50 rfl rfl h
  · have h := h.2 hc
    refine sk_aload_n 0 19 dX7_sum_18 rfl rfl rfl ?_
    refine sk_callVi [] [] 22 dX7_sum_19 rfl mfX7_look lkX7_71 miX7_look msX7_look sm_0 rfl rfl rfl rfl (by simp [Value.category]) hd0 (sk_Cm h ?_)
    rintro w t19 ⟨r19, hw, h⟩
    refine ⟨r19, hw, ?_⟩
    refine sk_bipush (v := 45) 24 dX7_sum_22 rfl (by decide) ?_
    refine sk_icmp_ne 60 27 dX7_sum_24 (by decide) rfl (fun hc => ?_) (fun hc => ?_)
    · have h := h.1 hc
      refine sk_iconst (v := 1) 61 dX7_sum_60 rfl (by decide) ?_
      exact sk_iret dX7_sum_61 rfl rfl h
    · have h := h.2 hc
      refine sk_aload_n 0 28 dX7_sum_27 rfl rfl rfl ?_
      refine sk_callVi [] [] 31 dX7_sum_28 rfl mfX7_look lkX7_71 miX7_look msX7_look sm_0 rfl rfl rfl rfl (by simp [Value.category]) hd0 (sk_Cm h ?_)
      rintro w t28 ⟨r28, hw, h⟩
      refine ⟨r28, hw, ?_⟩
      refine sk_istore_n (lv2 := [(1, .int r28), (0, .ref 0)]) 32 dX7_sum_31 rfl rfl (by decide) rfl ?_
      refine sk_aload_n 1 33 dX7_sum_32 rfl rfl rfl ?_
      refine sk_dup 34 dX7_sum_33 rfl rfl ?_
      refine sk_getI 37 dX7_sum_34 rfl lfX7_57 sm_0 rfl ?_
      refine sk_iconst (v := 1) 38 dX7_sum_37 rfl (by decide) ?_
      refine sk_iadd 39 dX7_sum_38 rfl ?_
      refine sk_putI 42 dX7_sum_39 rfl lpX7_57 sm_0 rfl ?_
      refine sk_aload_n 1 43 dX7_sum_42 rfl rfl rfl ?_
      refine sk_callVi [] [] 46 dX7_sum_43 rfl mfX7_product lkX7_85 miX7_product msX7_product sm_0 rfl rfl rfl rfl (by simp [Value.category]) hd0 (sk_Cm h ?_)
      rintro w t43 ⟨r43, hw, h⟩
      refine ⟨r43, hw, ?_⟩
      refine sk_if_ne 51 49 dX7_sum_46 (by decide) rfl (fun hc => ?_) (fun hc => ?_)
      · have h := h.1 hc
        refine sk_aload_n 1 52 dX7_sum_51 rfl rfl rfl ?_
        refine sk_iconst (v := 3) 53 dX7_sum_52 rfl (by decide) ?_
        refine sk_iload_n 0 54 dX7_sum_53 rfl rfl rfl ?_
        refine sk_callVv [.int 3, .int r28] [] 57 dX7_sum_54 rfl mfX7_step1 lkX7_75 miX7_step1 msX7_step1 sm_0 rfl rfl rfl rfl (by simp [Value.category]) hd0 (sk_Cm h ?_)
        rintro w t54 ⟨hw, h⟩
        refine ⟨hw, ?_⟩
        refine sk_goto 9 dX7_sum_57 (by decide) ?_
        refine sk_perm (lv2 := [(0, .ref 0)]) [1] rfl ?_
        exact h
      · have h := h.2 hc
        refine sk_iconst (v := 0) 50 dX7_sum_49 rfl (by decide) ?_
        exact sk_iret dX7_sum_50 rfl rfl h

theorem wX7_product {d : Nat} {τ : sk_T} {K : sk_K} (hd0 : 0 < d)
  (h : sk_C sk_Sm (d - 1) mX7_one [.ref 0] τ (fun w t1 => ∃ r1 : Int32, w = some (.int r1) ∧
      ((¬ r1 = 0 →
        sk_G sk_Sm d mX7_product 9 [(0, .ref 0)] [] t1 K
      ) ∧
      (r1 = 0 →
        K (some (.int 0)) t1
      ))
    )) :
  sk_C sk_Sm d mX7_product [.ref 0] τ K := by
  refine sk_enter mfX7_product (Nat.le_of_ble_eq_true rfl) ?_
  show sk_G sk_Sm d mX7_product 0 [(0, .ref 0)] [] τ K
  refine sk_aload_n 0 1 dX7_product_0 rfl rfl rfl ?_
  refine sk_callVi [] [] 4 dX7_product_1 rfl mfX7_one lkX7_88 miX7_one msX7_one sm_0 rfl rfl rfl rfl (by simp [Value.category]) hd0 (sk_Cm h ?_)
  rintro w t1 ⟨r1, hw, h⟩
  refine ⟨r1, hw, ?_⟩
  refine sk_if_ne 9 7 dX7_product_4 (by decide) rfl (fun hc => ?_) (fun hc => ?_)
  · have h := h.1 hc
    exact h
  · have h := h.2 hc
    refine sk_iconst (v := 0) 8 dX7_product_7 rfl (by decide) ?_
    exact sk_iret dX7_product_8 rfl rfl h

theorem bX7_product_9 {d : Nat} {τ : sk_T} {K : sk_K} (hd0 : 0 < d)
  (h : sk_C sk_Sm (d - 1) mX7_look [.ref 0] τ (fun w t10 => ∃ r10 : Int32, w = some (.int r10) ∧
      ((r10 = 42 →
        sk_C sk_Sm (d - 1) mX7_look [.ref 0] t10 (fun w t37 => ∃ r37 : Int32, w = some (.int r37) ∧
          sk_C sk_Sm (d - 1) mX7_one [.ref 0] (sk_u t37 0 4 ((t37 0 4) + 1)) (fun w t52 => ∃ r52 : Int32, w = some (.int r52) ∧
            ((¬ r52 = 0 →
              sk_C sk_Sm (d - 1) mX7_step1 [.ref 0, .int 3, .int r37] t52 (fun w t63 => w = none ∧
                sk_G sk_Sm d mX7_product 9 [(0, .ref 0)] [] t63 K
              )
            ) ∧
            (r52 = 0 →
              K (some (.int 0)) t52
            ))
          )
        )
      ) ∧
      (¬ r10 = 42 →
        sk_C sk_Sm (d - 1) mX7_look [.ref 0] t10 (fun w t19 => ∃ r19 : Int32, w = some (.int r19) ∧
          ((r19 = 47 →
            sk_C sk_Sm (d - 1) mX7_look [.ref 0] t19 (fun w t37 => ∃ r37 : Int32, w = some (.int r37) ∧
              sk_C sk_Sm (d - 1) mX7_one [.ref 0] (sk_u t37 0 4 ((t37 0 4) + 1)) (fun w t52 => ∃ r52 : Int32, w = some (.int r52) ∧
                ((¬ r52 = 0 →
                  sk_C sk_Sm (d - 1) mX7_step1 [.ref 0, .int 3, .int r37] t52 (fun w t63 => w = none ∧
                    sk_G sk_Sm d mX7_product 9 [(0, .ref 0)] [] t63 K
                  )
                ) ∧
                (r52 = 0 →
                  K (some (.int 0)) t52
                ))
              )
            )
          ) ∧
          (¬ r19 = 47 →
            sk_C sk_Sm (d - 1) mX7_look [.ref 0] t19 (fun w t28 => ∃ r28 : Int32, w = some (.int r28) ∧
              ((¬ r28 = 37 →
                K (some (.int 1)) t28
              ) ∧
              (r28 = 37 →
                sk_C sk_Sm (d - 1) mX7_look [.ref 0] t28 (fun w t37 => ∃ r37 : Int32, w = some (.int r37) ∧
                  sk_C sk_Sm (d - 1) mX7_one [.ref 0] (sk_u t37 0 4 ((t37 0 4) + 1)) (fun w t52 => ∃ r52 : Int32, w = some (.int r52) ∧
                    ((¬ r52 = 0 →
                      sk_C sk_Sm (d - 1) mX7_step1 [.ref 0, .int 3, .int r37] t52 (fun w t63 => w = none ∧
                        sk_G sk_Sm d mX7_product 9 [(0, .ref 0)] [] t63 K
                      )
                    ) ∧
                    (r52 = 0 →
                      K (some (.int 0)) t52
                    ))
                  )
                )
              ))
            )
          ))
        )
      ))
    )) :
  sk_G sk_Sm d mX7_product 9 [(0, .ref 0)] [] τ K := by
  refine sk_aload_n 0 10 dX7_product_9 rfl rfl rfl ?_
  refine sk_callVi [] [] 13 dX7_product_10 rfl mfX7_look lkX7_71 miX7_look msX7_look sm_0 rfl rfl rfl rfl (by simp [Value.category]) hd0 (sk_Cm h ?_)
  rintro w t10 ⟨r10, hw, h⟩
  refine ⟨r10, hw, ?_⟩
  refine sk_bipush (v := 42) 15 dX7_product_13 rfl (by decide) ?_
  refine sk_icmp_eq 36 18 dX7_product_15 (by decide) rfl (fun hc => ?_) (fun hc => ?_)
  · have h := h.1 hc
    refine sk_aload_n 0 37 dX7_product_36 rfl rfl rfl ?_
    refine sk_callVi [] [] 40 dX7_product_37 rfl mfX7_look lkX7_71 miX7_look msX7_look sm_0 rfl rfl rfl rfl (by simp [Value.category]) hd0 (sk_Cm h ?_)
    rintro w t37 ⟨r37, hw, h⟩
    refine ⟨r37, hw, ?_⟩
    refine sk_istore_n (lv2 := [(1, .int r37), (0, .ref 0)]) 41 dX7_product_40 rfl rfl (by decide) rfl ?_
    refine sk_aload_n 1 42 dX7_product_41 rfl rfl rfl ?_
    refine sk_dup 43 dX7_product_42 rfl rfl ?_
    refine sk_getI 46 dX7_product_43 rfl lfX7_57 sm_0 rfl ?_
    refine sk_iconst (v := 1) 47 dX7_product_46 rfl (by decide) ?_
    refine sk_iadd 48 dX7_product_47 rfl ?_
    refine sk_putI 51 dX7_product_48 rfl lpX7_57 sm_0 rfl ?_
    refine sk_aload_n 1 52 dX7_product_51 rfl rfl rfl ?_
    refine sk_callVi [] [] 55 dX7_product_52 rfl mfX7_one lkX7_88 miX7_one msX7_one sm_0 rfl rfl rfl rfl (by simp [Value.category]) hd0 (sk_Cm h ?_)
    rintro w t52 ⟨r52, hw, h⟩
    refine ⟨r52, hw, ?_⟩
    refine sk_if_ne 60 58 dX7_product_55 (by decide) rfl (fun hc => ?_) (fun hc => ?_)
    · have h := h.1 hc
      refine sk_aload_n 1 61 dX7_product_60 rfl rfl rfl ?_
      refine sk_iconst (v := 3) 62 dX7_product_61 rfl (by decide) ?_
      refine sk_iload_n 0 63 dX7_product_62 rfl rfl rfl ?_
      refine sk_callVv [.int 3, .int r37] [] 66 dX7_product_63 rfl mfX7_step1 lkX7_75 miX7_step1 msX7_step1 sm_0 rfl rfl rfl rfl (by simp [Value.category]) hd0 (sk_Cm h ?_)
      rintro w t63 ⟨hw, h⟩
      refine ⟨hw, ?_⟩
      refine sk_goto 9 dX7_product_66 (by decide) ?_
      refine sk_perm (lv2 := [(0, .ref 0)]) [1] rfl ?_
      exact h
    · have h := h.2 hc
      refine sk_iconst (v := 0) 59 dX7_product_58 rfl (by decide) ?_
      exact sk_iret dX7_product_59 rfl rfl h
  · have h := h.2 hc
    refine sk_aload_n 0 19 dX7_product_18 rfl rfl rfl ?_
    refine sk_callVi [] [] 22 dX7_product_19 rfl mfX7_look lkX7_71 miX7_look msX7_look sm_0 rfl rfl rfl rfl (by simp [Value.category]) hd0 (sk_Cm h ?_)
    rintro w t19 ⟨r19, hw, h⟩
    refine ⟨r19, hw, ?_⟩
    refine sk_bipush (v := 47) 24 dX7_product_22 rfl (by decide) ?_
    refine sk_icmp_eq 36 27 dX7_product_24 (by decide) rfl (fun hc => ?_) (fun hc => ?_)
    · have h := h.1 hc
      refine sk_aload_n 0 37 dX7_product_36 rfl rfl rfl ?_
      refine sk_callVi [] [] 40 dX7_product_37 rfl mfX7_look lkX7_71 miX7_look msX7_look sm_0 rfl rfl rfl rfl (by simp [Value.category]) hd0 (sk_Cm h ?_)
      rintro w t37 ⟨r37, hw, h⟩
      refine ⟨r37, hw, ?_⟩
      refine sk_istore_n (lv2 := [(1, .int r37), (0, .ref 0)]) 41 dX7_product_40 rfl rfl (by decide) rfl ?_
      refine sk_aload_n 1 42 dX7_product_41 rfl rfl rfl ?_
      refine sk_dup 43 dX7_product_42 rfl rfl ?_
      refine sk_getI 46 dX7_product_43 rfl lfX7_57 sm_0 rfl ?_
      refine sk_iconst (v := 1) 47 dX7_product_46 rfl (by decide) ?_
      refine sk_iadd 48 dX7_product_47 rfl ?_
      refine sk_putI 51 dX7_product_48 rfl lpX7_57 sm_0 rfl ?_
      refine sk_aload_n 1 52 dX7_product_51 rfl rfl rfl ?_
      refine sk_callVi [] [] 55 dX7_product_52 rfl mfX7_one lkX7_88 miX7_one msX7_one sm_0 rfl rfl rfl rfl (by simp [Value.category]) hd0 (sk_Cm h ?_)
      rintro w t52 ⟨r52, hw, h⟩
      refine ⟨r52, hw, ?_⟩
      refine sk_if_ne 60 58 dX7_product_55 (by decide) rfl (fun hc => ?_) (fun hc => ?_)
      · have h := h.1 hc
        refine sk_aload_n 1 61 dX7_product_60 rfl rfl rfl ?_
        refine sk_iconst (v := 3) 62 dX7_product_61 rfl (by decide) ?_
        refine sk_iload_n 0 63 dX7_product_62 rfl rfl rfl ?_
        refine sk_callVv [.int 3, .int r37] [] 66 dX7_product_63 rfl mfX7_step1 lkX7_75 miX7_step1 msX7_step1 sm_0 rfl rfl rfl rfl (by simp [Value.category]) hd0 (sk_Cm h ?_)
        rintro w t63 ⟨hw, h⟩
        refine ⟨hw, ?_⟩
        refine sk_goto 9 dX7_product_66 (by decide) ?_
        refine sk_perm (lv2 := [(0, .ref 0)]) [1] rfl ?_
        exact h
      · have h := h.2 hc
        refine sk_iconst (v := 0) 59 dX7_product_58 rfl (by decide) ?_
        exact sk_iret dX7_product_59 rfl rfl h
    · have h := h.2 hc
      refine sk_aload_n 0 28 dX7_product_27 rfl rfl rfl ?_
      refine sk_callVi [] [] 31 dX7_product_28 rfl mfX7_look lkX7_71 miX7_look msX7_look sm_0 rfl rfl rfl rfl (by simp [Value.category]) hd0 (sk_Cm h ?_)
      rintro w t28 ⟨r28, hw, h⟩
      refine ⟨r28, hw, ?_⟩
      refine sk_bipush (v := 37) 33 dX7_product_31 rfl (by decide) ?_
      refine sk_icmp_ne 69 36 dX7_product_33 (by decide) rfl (fun hc => ?_) (fun hc => ?_)
      · have h := h.1 hc
        refine sk_iconst (v := 1) 70 dX7_product_69 rfl (by decide) ?_
        exact sk_iret dX7_product_70 rfl rfl h
      · have h := h.2 hc
        refine sk_aload_n 0 37 dX7_product_36 rfl rfl rfl ?_
        refine sk_callVi [] [] 40 dX7_product_37 rfl mfX7_look lkX7_71 miX7_look msX7_look sm_0 rfl rfl rfl rfl (by simp [Value.category]) hd0 (sk_Cm h ?_)
        rintro w t37 ⟨r37, hw, h⟩
        refine ⟨r37, hw, ?_⟩
        refine sk_istore_n (lv2 := [(1, .int r37), (0, .ref 0)]) 41 dX7_product_40 rfl rfl (by decide) rfl ?_
        refine sk_aload_n 1 42 dX7_product_41 rfl rfl rfl ?_
        refine sk_dup 43 dX7_product_42 rfl rfl ?_
        refine sk_getI 46 dX7_product_43 rfl lfX7_57 sm_0 rfl ?_
        refine sk_iconst (v := 1) 47 dX7_product_46 rfl (by decide) ?_
        refine sk_iadd 48 dX7_product_47 rfl ?_
        refine sk_putI 51 dX7_product_48 rfl lpX7_57 sm_0 rfl ?_
        refine sk_aload_n 1 52 dX7_product_51 rfl rfl rfl ?_
        refine sk_callVi [] [] 55 dX7_product_52 rfl mfX7_one lkX7_88 miX7_one msX7_one sm_0 rfl rfl rfl rfl (by simp [Value.category]) hd0 (sk_Cm h ?_)
        rintro w t52 ⟨r52, hw, h⟩
        refine ⟨r52, hw, ?_⟩
        refine sk_if_ne 60 58 dX7_product_55 (by decide) rfl (fun hc => ?_) (fun hc => ?_)
        · have h := h.1 hc
          refine sk_aload_n 1 61 dX7_product_60 rfl rfl rfl ?_
          refine sk_iconst (v := 3) 62 dX7_product_61 rfl (by decide) ?_
          refine sk_iload_n 0 63 dX7_product_62 rfl rfl rfl ?_
          refine sk_callVv [.int 3, .int r37] [] 66 dX7_product_63 rfl mfX7_step1 lkX7_75 miX7_step1 msX7_step1 sm_0 rfl rfl rfl rfl (by simp [Value.category]) hd0 (sk_Cm h ?_)
          rintro w t63 ⟨hw, h⟩
          refine ⟨hw, ?_⟩
          refine sk_goto 9 dX7_product_66 (by decide) ?_
          refine sk_perm (lv2 := [(0, .ref 0)]) [1] rfl ?_
          exact h
        · have h := h.2 hc
          refine sk_iconst (v := 0) 59 dX7_product_58 rfl (by decide) ?_
          exact sk_iret dX7_product_59 rfl rfl h

theorem wX7_opens {d : Nat} {τ : sk_T} {K : sk_K}
  (h : ((¬ (τ 0 5) = 5 →
      K (some (.int 1)) (sk_u (sk_u τ 0 5 ((τ 0 5) + 1)) 0 4 (((sk_u τ 0 5 ((τ 0 5) + 1)) 0 4) + 1))
    ) ∧
    ((τ 0 5) = 5 →
      K (some (.int 0)) τ
    ))) :
  sk_C sk_Sm d mX7_opens [.ref 0] τ K := by
  refine sk_enter mfX7_opens (Nat.le_of_ble_eq_true rfl) ?_
  show sk_G sk_Sm d mX7_opens 0 [(0, .ref 0)] [] τ K
  refine sk_aload_n 0 1 dX7_opens_0 rfl rfl rfl ?_
  refine sk_getI 4 dX7_opens_1 rfl lfX7_91 sm_0 rfl ?_
  refine sk_iconst (v := 5) 5 dX7_opens_4 rfl (by decide) ?_
  refine sk_icmp_ne 10 8 dX7_opens_5 (by decide) rfl (fun hc => ?_) (fun hc => ?_)
  · have h := h.1 hc
    refine sk_aload_n 0 11 dX7_opens_10 rfl rfl rfl ?_
    refine sk_dup 12 dX7_opens_11 rfl rfl ?_
    refine sk_getI 15 dX7_opens_12 rfl lfX7_91 sm_0 rfl ?_
    refine sk_iconst (v := 1) 16 dX7_opens_15 rfl (by decide) ?_
    refine sk_iadd 17 dX7_opens_16 rfl ?_
    refine sk_putI 20 dX7_opens_17 rfl lpX7_91 sm_0 rfl ?_
    refine sk_aload_n 0 21 dX7_opens_20 rfl rfl rfl ?_
    refine sk_dup 22 dX7_opens_21 rfl rfl ?_
    refine sk_getI 25 dX7_opens_22 rfl lfX7_57 sm_0 rfl ?_
    refine sk_iconst (v := 1) 26 dX7_opens_25 rfl (by decide) ?_
    refine sk_iadd 27 dX7_opens_26 rfl ?_
    refine sk_putI 30 dX7_opens_27 rfl lpX7_57 sm_0 rfl ?_
    refine sk_iconst (v := 1) 31 dX7_opens_30 rfl (by decide) ?_
    exact sk_iret dX7_opens_31 rfl rfl h
  · have h := h.2 hc
    refine sk_iconst (v := 0) 9 dX7_opens_8 rfl (by decide) ?_
    exact sk_iret dX7_opens_9 rfl rfl h

theorem wX7_one {d : Nat} {τ : sk_T} {K : sk_K} (hd0 : 0 < d)
  (h : sk_C sk_Sm (d - 1) mX7_look [.ref 0] τ (fun w t1 => ∃ r1 : Int32, w = some (.int r1) ∧
      sk_C sk_Sm (d - 1) mX7_isName [.ref 0, .int r1] t1 (fun w t7 => ∃ r7 : Int32, w = some (.int r7) ∧
        ((r7 = 0 →
          sk_C sk_Sm (d - 1) mX7_in [.int r1, .int 48, .int 57] t7 (fun w t36 => ∃ r36 : Int32, w = some (.int r36) ∧
            ((r36 = 0 →
              ((¬ r1 = 33 →
                ((¬ r1 = 40 →
                  K (some (.int 0)) t36
                ) ∧
                (r1 = 40 →
                  sk_C sk_Sm (d - 1) mX7_opens [.ref 0] t36 (fun w t149 => ∃ r149 : Int32, w = some (.int r149) ∧
                    ((r149 = 0 →
                      K (some (.int 0)) t149
                    ) ∧
                    (¬ r149 = 0 →
                      sk_C sk_Sm (d - 1) mX7_whole [.ref 0] t149 (fun w t156 => ∃ r156 : Int32, w = some (.int r156) ∧
                        ((r156 = 0 →
                          K (some (.int 0)) t156
                        ) ∧
                        (¬ r156 = 0 →
                          sk_C sk_Sm (d - 1) mX7_look [.ref 0] t156 (fun w t163 => ∃ r163 : Int32, w = some (.int r163) ∧
                            ((r163 = 41 →
                              K (some (.int 1)) (sk_u (sk_u t163 0 4 ((t163 0 4) + 1)) 0 5 (((sk_u t163 0 4 ((t163 0 4) + 1)) 0 5) - 1))
                            ) ∧
                            (¬ r163 = 41 →
                              K (some (.int 0)) t163
                            ))
                          )
                        ))
                      )
                    ))
                  )
                ))
              ) ∧
              (r1 = 33 →
                sk_C sk_Sm (d - 1) mX7_opens [.ref 0] t36 (fun w t109 => ∃ r109 : Int32, w = some (.int r109) ∧
                  ((r109 = 0 →
                    K (some (.int 0)) t109
                  ) ∧
                  (¬ r109 = 0 →
                    sk_C sk_Sm (d - 1) mX7_one [.ref 0] t109 (fun w t116 => ∃ r116 : Int32, w = some (.int r116) ∧
                      ((¬ r116 = 0 →
                        sk_C sk_Sm (d - 1) mX7_step1 [.ref 0, .int 2, .int 0] (sk_u t116 0 5 ((t116 0 5) - 1)) (fun w t137 => w = none ∧
                          K (some (.int 1)) t137
                        )
                      ) ∧
                      (r116 = 0 →
                        K (some (.int 0)) t116
                      ))
                    )
                  ))
                )
              ))
            ) ∧
            (¬ r36 = 0 →
              sk_G sk_Sm d mX7_one 46 [(0, .ref 0), (2, .int 0), (3, .int 0)] [] t36 K
            ))
          )
        ) ∧
        (¬ r7 = 0 →
          sk_C sk_Sm (d - 1) mX7_step1 [.ref 0, .int 1, .int r1] (sk_u t7 0 4 ((t7 0 4) + 1)) (fun w t26 => w = none ∧
            K (some (.int 1)) t26
          )
        ))
      )
    )) :
  sk_C sk_Sm d mX7_one [.ref 0] τ K := by
  refine sk_enter mfX7_one (Nat.le_of_ble_eq_true rfl) ?_
  show sk_G sk_Sm d mX7_one 0 [(0, .ref 0)] [] τ K
  refine sk_aload_n 0 1 dX7_one_0 rfl rfl rfl ?_
  refine sk_callVi [] [] 4 dX7_one_1 rfl mfX7_look lkX7_71 miX7_look msX7_look sm_0 rfl rfl rfl rfl (by simp [Value.category]) hd0 (sk_Cm h ?_)
  rintro w t1 ⟨r1, hw, h⟩
  refine ⟨r1, hw, ?_⟩
  refine sk_istore_n (lv2 := [(1, .int r1), (0, .ref 0)]) 5 dX7_one_4 rfl rfl (by decide) rfl ?_
  refine sk_aload_n 1 6 dX7_one_5 rfl rfl rfl ?_
  refine sk_iload_n 0 7 dX7_one_6 rfl rfl rfl ?_
  refine sk_callVi [.int r1] [] 10 dX7_one_7 rfl mfX7_isName lkX7_94 miX7_isName msX7_isName sm_0 rfl rfl rfl rfl (by simp [Value.category]) hd0 (sk_Cm h ?_)
  rintro w t7 ⟨r7, hw, h⟩
  refine ⟨r7, hw, ?_⟩
  refine sk_if_eq 31 13 dX7_one_10 (by decide) rfl (fun hc => ?_) (fun hc => ?_)
  · have h := h.1 hc
    refine sk_iload_n 0 32 dX7_one_31 rfl rfl rfl ?_
    refine sk_bipush (v := 48) 34 dX7_one_32 rfl (by decide) ?_
    refine sk_bipush (v := 57) 36 dX7_one_34 rfl (by decide) ?_
    refine sk_callSi [.int r1, .int 48, .int 57] [] 39 dX7_one_36 rfl mfX7_in lkX7_47 miX7_in rfl rfl (by simp [Value.category]) hd0 (sk_Cm h ?_)
    rintro w t36 ⟨r36, hw, h⟩
    refine ⟨r36, hw, ?_⟩
    refine sk_if_eq 102 42 dX7_one_39 (by decide) rfl (fun hc => ?_) (fun hc => ?_)
    · have h := h.1 hc
      refine sk_iload_n 0 103 dX7_one_102 rfl rfl rfl ?_
      refine sk_bipush (v := 33) 105 dX7_one_103 rfl (by decide) ?_
      refine sk_icmp_ne 142 108 dX7_one_105 (by decide) rfl (fun hc => ?_) (fun hc => ?_)
      · have h := h.1 hc
        refine sk_iload_n 0 143 dX7_one_142 rfl rfl rfl ?_
        refine sk_bipush (v := 40) 145 dX7_one_143 rfl (by decide) ?_
        refine sk_icmp_ne 171 148 dX7_one_145 (by decide) rfl (fun hc => ?_) (fun hc => ?_)
        · have h := h.1 hc
          refine sk_iconst (v := 0) 172 dX7_one_171 rfl (by decide) ?_
          exact sk_iret dX7_one_172 rfl rfl h
        · have h := h.2 hc
          refine sk_aload_n 1 149 dX7_one_148 rfl rfl rfl ?_
          refine sk_callVi [] [] 152 dX7_one_149 rfl mfX7_opens lkX7_98 miX7_opens msX7_opens sm_0 rfl rfl rfl rfl (by simp [Value.category]) hd0 (sk_Cm h ?_)
          rintro w t149 ⟨r149, hw, h⟩
          refine ⟨r149, hw, ?_⟩
          refine sk_if_eq 171 155 dX7_one_152 (by decide) rfl (fun hc => ?_) (fun hc => ?_)
          · have h := h.1 hc
            refine sk_iconst (v := 0) 172 dX7_one_171 rfl (by decide) ?_
            exact sk_iret dX7_one_172 rfl rfl h
          · have h := h.2 hc
            refine sk_aload_n 1 156 dX7_one_155 rfl rfl rfl ?_
            refine sk_callVi [] [] 159 dX7_one_156 rfl mfX7_whole lkX7_101 miX7_whole msX7_whole sm_0 rfl rfl rfl rfl (by simp [Value.category]) hd0 (sk_Cm h ?_)
            rintro w t156 ⟨r156, hw, h⟩
            refine ⟨r156, hw, ?_⟩
            refine sk_if_eq 171 162 dX7_one_159 (by decide) rfl (fun hc => ?_) (fun hc => ?_)
            · have h := h.1 hc
              refine sk_iconst (v := 0) 172 dX7_one_171 rfl (by decide) ?_
              exact sk_iret dX7_one_172 rfl rfl h
            · have h := h.2 hc
              refine sk_aload_n 1 163 dX7_one_162 rfl rfl rfl ?_
              refine sk_callVi [] [] 166 dX7_one_163 rfl mfX7_look lkX7_71 miX7_look msX7_look sm_0 rfl rfl rfl rfl (by simp [Value.category]) hd0 (sk_Cm h ?_)
              rintro w t163 ⟨r163, hw, h⟩
              refine ⟨r163, hw, ?_⟩
              refine sk_bipush (v := 41) 168 dX7_one_166 rfl (by decide) ?_
              refine sk_icmp_eq 173 171 dX7_one_168 (by decide) rfl (fun hc => ?_) (fun hc => ?_)
              · have h := h.1 hc
                refine sk_aload_n 1 174 dX7_one_173 rfl rfl rfl ?_
                refine sk_dup 175 dX7_one_174 rfl rfl ?_
                refine sk_getI 178 dX7_one_175 rfl lfX7_57 sm_0 rfl ?_
                refine sk_iconst (v := 1) 179 dX7_one_178 rfl (by decide) ?_
                refine sk_iadd 180 dX7_one_179 rfl ?_
                refine sk_putI 183 dX7_one_180 rfl lpX7_57 sm_0 rfl ?_
                refine sk_aload_n 1 184 dX7_one_183 rfl rfl rfl ?_
                refine sk_dup 185 dX7_one_184 rfl rfl ?_
                refine sk_getI 188 dX7_one_185 rfl lfX7_91 sm_0 rfl ?_
                refine sk_iconst (v := 1) 189 dX7_one_188 rfl (by decide) ?_
                refine sk_isub 190 dX7_one_189 rfl ?_
                refine sk_putI 193 dX7_one_190 rfl lpX7_91 sm_0 rfl ?_
                refine sk_iconst (v := 1) 194 dX7_one_193 rfl (by decide) ?_
                exact sk_iret dX7_one_194 rfl rfl h
              · have h := h.2 hc
                refine sk_iconst (v := 0) 172 dX7_one_171 rfl (by decide) ?_
                exact sk_iret dX7_one_172 rfl rfl h
      · have h := h.2 hc
        refine sk_aload_n 1 109 dX7_one_108 rfl rfl rfl ?_
        refine sk_callVi [] [] 112 dX7_one_109 rfl mfX7_opens lkX7_98 miX7_opens msX7_opens sm_0 rfl rfl rfl rfl (by simp [Value.category]) hd0 (sk_Cm h ?_)
        rintro w t109 ⟨r109, hw, h⟩
        refine ⟨r109, hw, ?_⟩
        refine sk_if_eq 122 115 dX7_one_112 (by decide) rfl (fun hc => ?_) (fun hc => ?_)
        · have h := h.1 hc
          refine sk_iconst (v := 0) 123 dX7_one_122 rfl (by decide) ?_
          exact sk_iret dX7_one_123 rfl rfl h
        · have h := h.2 hc
          refine sk_aload_n 1 116 dX7_one_115 rfl rfl rfl ?_
          refine sk_callVi [] [] 119 dX7_one_116 rfl mfX7_one lkX7_88 miX7_one msX7_one sm_0 rfl rfl rfl rfl (by simp [Value.category]) hd0 (sk_Cm h ?_)
          rintro w t116 ⟨r116, hw, h⟩
          refine ⟨r116, hw, ?_⟩
          refine sk_if_ne 124 122 dX7_one_119 (by decide) rfl (fun hc => ?_) (fun hc => ?_)
          · have h := h.1 hc
            refine sk_aload_n 1 125 dX7_one_124 rfl rfl rfl ?_
            refine sk_dup 126 dX7_one_125 rfl rfl ?_
            refine sk_getI 129 dX7_one_126 rfl lfX7_91 sm_0 rfl ?_
            refine sk_iconst (v := 1) 130 dX7_one_129 rfl (by decide) ?_
            refine sk_isub 131 dX7_one_130 rfl ?_
            refine sk_putI 134 dX7_one_131 rfl lpX7_91 sm_0 rfl ?_
            refine sk_aload_n 1 135 dX7_one_134 rfl rfl rfl ?_
            refine sk_iconst (v := 2) 136 dX7_one_135 rfl (by decide) ?_
            refine sk_iconst (v := 0) 137 dX7_one_136 rfl (by decide) ?_
            refine sk_callVv [.int 2, .int 0] [] 140 dX7_one_137 rfl mfX7_step1 lkX7_75 miX7_step1 msX7_step1 sm_0 rfl rfl rfl rfl (by simp [Value.category]) hd0 (sk_Cm h ?_)
            rintro w t137 ⟨hw, h⟩
            refine ⟨hw, ?_⟩
            refine sk_iconst (v := 1) 141 dX7_one_140 rfl (by decide) ?_
            exact sk_iret dX7_one_141 rfl rfl h
          · have h := h.2 hc
            refine sk_iconst (v := 0) 123 dX7_one_122 rfl (by decide) ?_
            exact sk_iret dX7_one_123 rfl rfl h
    · have h := h.2 hc
      refine sk_iconst (v := 0) 43 dX7_one_42 rfl (by decide) ?_
      refine sk_istore_n (lv2 := [(2, .int 0), (1, .int r1), (0, .ref 0)]) 44 dX7_one_43 rfl rfl (by decide) rfl ?_
      refine sk_iconst (v := 0) 45 dX7_one_44 rfl (by decide) ?_
      refine sk_istore_n (lv2 := [(3, .int 0), (2, .int 0), (1, .int r1), (0, .ref 0)]) 46 dX7_one_45 rfl rfl (by decide) rfl ?_
      refine sk_perm (lv2 := [(0, .ref 0), (2, .int 0), (3, .int 0)]) [3, 1, 0] rfl ?_
      exact h
  · have h := h.2 hc
    refine sk_aload_n 1 14 dX7_one_13 rfl rfl rfl ?_
    refine sk_dup 15 dX7_one_14 rfl rfl ?_
    refine sk_getI 18 dX7_one_15 rfl lfX7_57 sm_0 rfl ?_
    refine sk_iconst (v := 1) 19 dX7_one_18 rfl (by decide) ?_
    refine sk_iadd 20 dX7_one_19 rfl ?_
    refine sk_putI 23 dX7_one_20 rfl lpX7_57 sm_0 rfl ?_
    refine sk_aload_n 1 24 dX7_one_23 rfl rfl rfl ?_
    refine sk_iconst (v := 1) 25 dX7_one_24 rfl (by decide) ?_
    refine sk_iload_n 0 26 dX7_one_25 rfl rfl rfl ?_
    refine sk_callVv [.int 1, .int r1] [] 29 dX7_one_26 rfl mfX7_step1 lkX7_75 miX7_step1 msX7_step1 sm_0 rfl rfl rfl rfl (by simp [Value.category]) hd0 (sk_Cm h ?_)
    rintro w t26 ⟨hw, h⟩
    refine ⟨hw, ?_⟩
    refine sk_iconst (v := 1) 30 dX7_one_29 rfl (by decide) ?_
    exact sk_iret dX7_one_30 rfl rfl h

theorem bX7_one_46 {d : Nat} {τ : sk_T} {K : sk_K} {v2 : Int32} {v3 : Int32} (hd0 : 0 < d)
  (h : ((4 ≤ v3 →
      sk_C sk_Sm (d - 1) mX7_step1 [.ref 0, .int 0, .int v2] τ (fun w t97 => w = none ∧
        K (some (.int 1)) t97
      )
    ) ∧
    (¬ 4 ≤ v3 →
      sk_C sk_Sm (d - 1) mX7_look [.ref 0] τ (fun w t52 => ∃ r52 : Int32, w = some (.int r52) ∧
        sk_C sk_Sm (d - 1) mX7_in [.int r52, .int 48, .int 57] t52 (fun w t59 => ∃ r59 : Int32, w = some (.int r59) ∧
          ((r59 = 0 →
            sk_C sk_Sm (d - 1) mX7_step1 [.ref 0, .int 0, .int v2] t59 (fun w t97 => w = none ∧
              K (some (.int 1)) t97
            )
          ) ∧
          (¬ r59 = 0 →
            sk_C sk_Sm (d - 1) mX7_look [.ref 0] t59 (fun w t70 => ∃ r70 : Int32, w = some (.int r70) ∧
              sk_G sk_Sm d mX7_one 46 [(0, .ref 0), (2, .int (((10 * v2) + r70) - 48)), (3, .int (v3 + 1))] [] (sk_u t70 0 4 ((t70 0 4) + 1)) K
            )
          ))
        )
      )
    ))) :
  sk_G sk_Sm d mX7_one 46 [(0, .ref 0), (2, .int v2), (3, .int v3)] [] τ K := by
  refine sk_iload_n 2 47 dX7_one_46 rfl rfl rfl ?_
  refine sk_iconst (v := 4) 48 dX7_one_47 rfl (by decide) ?_
  refine sk_icmp_ge 94 51 dX7_one_48 (by decide) rfl (fun hc => ?_) (fun hc => ?_)
  · have h := h.1 hc
    refine sk_aload_n 0 95 dX7_one_94 rfl rfl rfl ?_
    refine sk_iconst (v := 0) 96 dX7_one_95 rfl (by decide) ?_
    refine sk_iload_n 1 97 dX7_one_96 rfl rfl rfl ?_
    refine sk_callVv [.int 0, .int v2] [] 100 dX7_one_97 rfl mfX7_step1 lkX7_75 miX7_step1 msX7_step1 sm_0 rfl rfl rfl rfl (by simp [Value.category]) hd0 (sk_Cm h ?_)
    rintro w t97 ⟨hw, h⟩
    refine ⟨hw, ?_⟩
    refine sk_iconst (v := 1) 101 dX7_one_100 rfl (by decide) ?_
    exact sk_iret dX7_one_101 rfl rfl h
  · have h := h.2 hc
    refine sk_aload_n 0 52 dX7_one_51 rfl rfl rfl ?_
    refine sk_callVi [] [] 55 dX7_one_52 rfl mfX7_look lkX7_71 miX7_look msX7_look sm_0 rfl rfl rfl rfl (by simp [Value.category]) hd0 (sk_Cm h ?_)
    rintro w t52 ⟨r52, hw, h⟩
    refine ⟨r52, hw, ?_⟩
    refine sk_bipush (v := 48) 57 dX7_one_55 rfl (by decide) ?_
    refine sk_bipush (v := 57) 59 dX7_one_57 rfl (by decide) ?_
    refine sk_callSi [.int r52, .int 48, .int 57] [] 62 dX7_one_59 rfl mfX7_in lkX7_47 miX7_in rfl rfl (by simp [Value.category]) hd0 (sk_Cm h ?_)
    rintro w t59 ⟨r59, hw, h⟩
    refine ⟨r59, hw, ?_⟩
    refine sk_if_eq 94 65 dX7_one_62 (by decide) rfl (fun hc => ?_) (fun hc => ?_)
    · have h := h.1 hc
      refine sk_aload_n 0 95 dX7_one_94 rfl rfl rfl ?_
      refine sk_iconst (v := 0) 96 dX7_one_95 rfl (by decide) ?_
      refine sk_iload_n 1 97 dX7_one_96 rfl rfl rfl ?_
      refine sk_callVv [.int 0, .int v2] [] 100 dX7_one_97 rfl mfX7_step1 lkX7_75 miX7_step1 msX7_step1 sm_0 rfl rfl rfl rfl (by simp [Value.category]) hd0 (sk_Cm h ?_)
      rintro w t97 ⟨hw, h⟩
      refine ⟨hw, ?_⟩
      refine sk_iconst (v := 1) 101 dX7_one_100 rfl (by decide) ?_
      exact sk_iret dX7_one_101 rfl rfl h
    · have h := h.2 hc
      refine sk_bipush (v := 10) 67 dX7_one_65 rfl (by decide) ?_
      refine sk_iload_n 1 68 dX7_one_67 rfl rfl rfl ?_
      refine sk_imul 69 dX7_one_68 rfl ?_
      refine sk_aload_n 0 70 dX7_one_69 rfl rfl rfl ?_
      refine sk_callVi [] [.int (10 * v2)] 73 dX7_one_70 rfl mfX7_look lkX7_71 miX7_look msX7_look sm_0 rfl rfl rfl rfl (by simp [Value.category]) hd0 (sk_Cm h ?_)
      rintro w t70 ⟨r70, hw, h⟩
      refine ⟨r70, hw, ?_⟩
      refine sk_iadd 74 dX7_one_73 rfl ?_
      refine sk_bipush (v := 48) 76 dX7_one_74 rfl (by decide) ?_
      refine sk_isub 77 dX7_one_76 rfl ?_
      refine sk_istore_n (lv2 := [(2, .int (((10 * v2) + r70) - 48)), (0, .ref 0), (3, .int v3)]) 78 dX7_one_77 rfl rfl (by decide) rfl ?_
      refine sk_aload_n 1 79 dX7_one_78 rfl rfl rfl ?_
      refine sk_dup 80 dX7_one_79 rfl rfl ?_
      refine sk_getI 83 dX7_one_80 rfl lfX7_57 sm_0 rfl ?_
      refine sk_iconst (v := 1) 84 dX7_one_83 rfl (by decide) ?_
      refine sk_iadd 85 dX7_one_84 rfl ?_
      refine sk_putI 88 dX7_one_85 rfl lpX7_57 sm_0 rfl ?_
      refine sk_iinc (v := (v3 + 1)) (lv2 := [(3, .int (v3 + 1)), (2, .int (((10 * v2) + r70) - 48)), (0, .ref 0)]) 2 91 dX7_one_88 rfl rfl rfl (by decide) rfl ?_
      refine sk_goto 46 dX7_one_91 (by decide) ?_
      refine sk_perm (lv2 := [(0, .ref 0), (2, .int (((10 * v2) + r70) - 48)), (3, .int (v3 + 1))]) [2, 1, 0] rfl ?_
      exact h

theorem wX7_hasText {d : Nat} {τ : sk_T} {K : sk_K} {v1 : Int32}
  (h : vp_in (78 + (125 * v1)) 412 ∧
    (((τ 1 ((78 + (125 * v1))).toNatClampNeg) ≤ 0 →
      K (some (.int 0)) τ
    ) ∧
    (¬ (τ 1 ((78 + (125 * v1))).toNatClampNeg) ≤ 0 →
      K (some (.int 1)) τ
    ))) :
  sk_C sk_Sm d mX7_hasText [.ref 0, .int v1] τ K := by
  refine sk_enter mfX7_hasText (Nat.le_of_ble_eq_true rfl) ?_
  show sk_G sk_Sm d mX7_hasText 0 [(0, .ref 0), (1, .int v1)] [] τ K
  refine sk_aload_n 0 1 dX7_hasText_0 rfl rfl rfl ?_
  refine sk_getR (r := 1) 4 dX7_hasText_1 rfl lfX7_7 sm_0 rfl ?_
  refine sk_bipush (v := 78) 6 dX7_hasText_4 rfl (by decide) ?_
  refine sk_bipush (v := 125) 8 dX7_hasText_6 rfl (by decide) ?_
  refine sk_iload_n 1 9 dX7_hasText_8 rfl rfl rfl ?_
  refine sk_imul 10 dX7_hasText_9 rfl ?_
  refine sk_iadd 11 dX7_hasText_10 rfl ?_
  have hb11 := h.1
  have h := h.2
  refine sk_iald 12 dX7_hasText_11 rfl sm_1 hb11 _ rfl ?_
  refine sk_if_le 19 15 dX7_hasText_12 (by decide) rfl (fun hc => ?_) (fun hc => ?_)
  · have h := h.1 hc
    refine sk_iconst (v := 0) 20 dX7_hasText_19 rfl (by decide) ?_
    exact sk_iret dX7_hasText_20 rfl rfl h
  · have h := h.2 hc
    refine sk_iconst (v := 1) 16 dX7_hasText_15 rfl (by decide) ?_
    refine sk_goto 20 dX7_hasText_16 (by decide) ?_
    exact sk_iret dX7_hasText_20 rfl rfl h

theorem wX7_text {d : Nat} {τ : sk_T} {K : sk_K} {v1 : Int32} (hd0 : 0 < d)
  (h : sk_C sk_Sm (d - 1) mX7_in [.int v1, .int 0, .int 1] τ (fun w t3 => ∃ r3 : Int32, w = some (.int r3) ∧
      ((¬ r3 = 0 →
        sk_C sk_Sm (d - 1) mX7_whole [.ref 0] (sk_u (sk_u (sk_u (sk_u t3 0 7 v1) 0 4 0) 0 5 0) 0 6 0) (fun w t36 => ∃ r36 : Int32, w = some (.int r36) ∧
          ((r36 = 0 →
            ((¬ (0 : Int32) = 0 →
              vp_in (78 + (125 * v1)) 412 ∧
              sk_G sk_Sm d mX7_text 101 [(0, .ref 0), (3, .int (78 + (125 * v1))), (4, .int 0)] [] (sk_u (sk_u t36 1 4 0) 1 ((78 + (125 * v1))).toNatClampNeg ((sk_u t36 1 4 0) 0 6)) K
            ) ∧
            ((0 : Int32) = 0 →
              K (some (.int ((-10) - ((sk_u t36 1 4 0) 0 4)))) (sk_u t36 1 4 0)
            ))
          ) ∧
          (¬ r36 = 0 →
            ((¬ (t36 0 4) = (t36 1 4) →
              ((¬ (0 : Int32) = 0 →
                vp_in (78 + (125 * v1)) 412 ∧
                sk_G sk_Sm d mX7_text 101 [(0, .ref 0), (3, .int (78 + (125 * v1))), (4, .int 0)] [] (sk_u (sk_u t36 1 4 0) 1 ((78 + (125 * v1))).toNatClampNeg ((sk_u t36 1 4 0) 0 6)) K
              ) ∧
              ((0 : Int32) = 0 →
                K (some (.int ((-10) - ((sk_u t36 1 4 0) 0 4)))) (sk_u t36 1 4 0)
              ))
            ) ∧
            ((t36 0 4) = (t36 1 4) →
              ((¬ (1 : Int32) = 0 →
                vp_in (78 + (125 * v1)) 412 ∧
                sk_G sk_Sm d mX7_text 101 [(0, .ref 0), (3, .int (78 + (125 * v1))), (4, .int 0)] [] (sk_u (sk_u t36 1 4 0) 1 ((78 + (125 * v1))).toNatClampNeg ((sk_u t36 1 4 0) 0 6)) K
              ) ∧
              ((1 : Int32) = 0 →
                K (some (.int ((-10) - ((sk_u t36 1 4 0) 0 4)))) (sk_u t36 1 4 0)
              ))
            ))
          ))
        )
      ) ∧
      (r3 = 0 →
        sk_C sk_Sm (d - 1) mX7_error [.ref 0, .int 1] t3 (fun w t11 => ∃ r11 : Int32, w = some (.int r11) ∧
          K (some (.int r11)) t11
        )
      ))
    )) :
  sk_C sk_Sm d mX7_text [.ref 0, .int v1] τ K := by
  refine sk_enter mfX7_text (Nat.le_of_ble_eq_true rfl) ?_
  show sk_G sk_Sm d mX7_text 0 [(0, .ref 0), (1, .int v1)] [] τ K
  refine sk_iload_n 1 1 dX7_text_0 rfl rfl rfl ?_
  refine sk_iconst (v := 0) 2 dX7_text_1 rfl (by decide) ?_
  refine sk_iconst (v := 1) 3 dX7_text_2 rfl (by decide) ?_
  refine sk_callSi [.int v1, .int 0, .int 1] [] 6 dX7_text_3 rfl mfX7_in lkX7_47 miX7_in rfl rfl (by simp [Value.category]) hd0 (sk_Cm h ?_)
  rintro w t3 ⟨r3, hw, h⟩
  refine ⟨r3, hw, ?_⟩
  refine sk_if_ne 15 9 dX7_text_6 (by decide) rfl (fun hc => ?_) (fun hc => ?_)
  · have h := h.1 hc
    refine sk_aload_n 0 16 dX7_text_15 rfl rfl rfl ?_
    refine sk_iload_n 1 17 dX7_text_16 rfl rfl rfl ?_
    refine sk_putI 20 dX7_text_17 rfl lpX7_61 sm_0 rfl ?_
    refine sk_aload_n 0 21 dX7_text_20 rfl rfl rfl ?_
    refine sk_iconst (v := 0) 22 dX7_text_21 rfl (by decide) ?_
    refine sk_putI 25 dX7_text_22 rfl lpX7_57 sm_0 rfl ?_
    refine sk_aload_n 0 26 dX7_text_25 rfl rfl rfl ?_
    refine sk_iconst (v := 0) 27 dX7_text_26 rfl (by decide) ?_
    refine sk_putI 30 dX7_text_27 rfl lpX7_91 sm_0 rfl ?_
    refine sk_aload_n 0 31 dX7_text_30 rfl rfl rfl ?_
    refine sk_iconst (v := 0) 32 dX7_text_31 rfl (by decide) ?_
    refine sk_putI 35 dX7_text_32 rfl lpX7_64 sm_0 rfl ?_
    refine sk_aload_n 0 36 dX7_text_35 rfl rfl rfl ?_
    refine sk_callVi [] [] 39 dX7_text_36 rfl mfX7_whole lkX7_101 miX7_whole msX7_whole sm_0 rfl rfl rfl rfl (by simp [Value.category]) hd0 (sk_Cm h ?_)
    rintro w t36 ⟨r36, hw, h⟩
    refine ⟨r36, hw, ?_⟩
    refine sk_if_eq 59 42 dX7_text_39 (by decide) rfl (fun hc => ?_) (fun hc => ?_)
    · have h := h.1 hc
      refine sk_iconst (v := 0) 60 dX7_text_59 rfl (by decide) ?_
      refine sk_istore_n (lv2 := [(2, .int 0), (0, .ref 0), (1, .int v1)]) 61 dX7_text_60 rfl rfl (by decide) rfl ?_
      refine sk_aload_n 1 62 dX7_text_61 rfl rfl rfl ?_
      refine sk_getR (r := 1) 65 dX7_text_62 rfl lfX7_7 sm_0 rfl ?_
      refine sk_iconst (v := 4) 66 dX7_text_65 rfl (by decide) ?_
      refine sk_iconst (v := 0) 67 dX7_text_66 rfl (by decide) ?_
      refine sk_iast 68 dX7_text_67 rfl sm_1 (by unfold vp_in; decide) 4 rfl ?_
      refine sk_iload_n 0 69 dX7_text_68 rfl rfl rfl ?_
      refine sk_if_ne 80 72 dX7_text_69 (by decide) rfl (fun hc => ?_) (fun hc => ?_)
      · have h := h.1 hc
        refine sk_bipush (v := 78) 82 dX7_text_80 rfl (by decide) ?_
        refine sk_bipush (v := 125) 84 dX7_text_82 rfl (by decide) ?_
        refine sk_iload_n 2 85 dX7_text_84 rfl rfl rfl ?_
        refine sk_imul 86 dX7_text_85 rfl ?_
        refine sk_iadd 87 dX7_text_86 rfl ?_
        refine sk_istore_n (lv2 := [(3, .int (78 + (125 * v1))), (2, .int 0), (0, .ref 0), (1, .int v1)]) 88 dX7_text_87 rfl rfl (by decide) rfl ?_
        refine sk_aload_n 2 89 dX7_text_88 rfl rfl rfl ?_
        refine sk_getR (r := 1) 92 dX7_text_89 rfl lfX7_7 sm_0 rfl ?_
        refine sk_iload_n 0 93 dX7_text_92 rfl rfl rfl ?_
        refine sk_aload_n 2 94 dX7_text_93 rfl rfl rfl ?_
        refine sk_getI 97 dX7_text_94 rfl lfX7_64 sm_0 rfl ?_
        have hb97 := h.1
        have h := h.2
        refine sk_iast 98 dX7_text_97 rfl sm_1 hb97 _ rfl ?_
        refine sk_iconst (v := 0) 99 dX7_text_98 rfl (by decide) ?_
        refine sk_istore (lv2 := [(4, .int 0), (3, .int (78 + (125 * v1))), (2, .int 0), (0, .ref 0), (1, .int v1)]) 101 dX7_text_99 rfl (by decide) rfl ?_
        refine sk_perm (lv2 := [(0, .ref 0), (3, .int (78 + (125 * v1))), (4, .int 0)]) [3, 1, 0] rfl ?_
        exact h
      · have h := h.2 hc
        refine sk_bipush (v := (-10)) 74 dX7_text_72 rfl (by decide) ?_
        refine sk_aload_n 1 75 dX7_text_74 rfl rfl rfl ?_
        refine sk_getI 78 dX7_text_75 rfl lfX7_57 sm_0 rfl ?_
        refine sk_isub 79 dX7_text_78 rfl ?_
        exact sk_iret dX7_text_79 rfl rfl h
    · have h := h.2 hc
      refine sk_aload_n 0 43 dX7_text_42 rfl rfl rfl ?_
      refine sk_getI 46 dX7_text_43 rfl lfX7_57 sm_0 rfl ?_
      refine sk_aload_n 0 47 dX7_text_46 rfl rfl rfl ?_
      refine sk_getR (r := 1) 50 dX7_text_47 rfl lfX7_7 sm_0 rfl ?_
      refine sk_iconst (v := 4) 51 dX7_text_50 rfl (by decide) ?_
      refine sk_iald 52 dX7_text_51 rfl sm_1 (by unfold vp_in; decide) 4 rfl ?_
      refine sk_icmp_ne 59 55 dX7_text_52 (by decide) rfl (fun hc => ?_) (fun hc => ?_)
      · have h := h.1 hc
        refine sk_iconst (v := 0) 60 dX7_text_59 rfl (by decide) ?_
        refine sk_istore_n (lv2 := [(2, .int 0), (0, .ref 0), (1, .int v1)]) 61 dX7_text_60 rfl rfl (by decide) rfl ?_
        refine sk_aload_n 1 62 dX7_text_61 rfl rfl rfl ?_
        refine sk_getR (r := 1) 65 dX7_text_62 rfl lfX7_7 sm_0 rfl ?_
        refine sk_iconst (v := 4) 66 dX7_text_65 rfl (by decide) ?_
        refine sk_iconst (v := 0) 67 dX7_text_66 rfl (by decide) ?_
        refine sk_iast 68 dX7_text_67 rfl sm_1 (by unfold vp_in; decide) 4 rfl ?_
        refine sk_iload_n 0 69 dX7_text_68 rfl rfl rfl ?_
        refine sk_if_ne 80 72 dX7_text_69 (by decide) rfl (fun hc => ?_) (fun hc => ?_)
        · have h := h.1 hc
          refine sk_bipush (v := 78) 82 dX7_text_80 rfl (by decide) ?_
          refine sk_bipush (v := 125) 84 dX7_text_82 rfl (by decide) ?_
          refine sk_iload_n 2 85 dX7_text_84 rfl rfl rfl ?_
          refine sk_imul 86 dX7_text_85 rfl ?_
          refine sk_iadd 87 dX7_text_86 rfl ?_
          refine sk_istore_n (lv2 := [(3, .int (78 + (125 * v1))), (2, .int 0), (0, .ref 0), (1, .int v1)]) 88 dX7_text_87 rfl rfl (by decide) rfl ?_
          refine sk_aload_n 2 89 dX7_text_88 rfl rfl rfl ?_
          refine sk_getR (r := 1) 92 dX7_text_89 rfl lfX7_7 sm_0 rfl ?_
          refine sk_iload_n 0 93 dX7_text_92 rfl rfl rfl ?_
          refine sk_aload_n 2 94 dX7_text_93 rfl rfl rfl ?_
          refine sk_getI 97 dX7_text_94 rfl lfX7_64 sm_0 rfl ?_
          have hb97 := h.1
          have h := h.2
          refine sk_iast 98 dX7_text_97 rfl sm_1 hb97 _ rfl ?_
          refine sk_iconst (v := 0) 99 dX7_text_98 rfl (by decide) ?_
          refine sk_istore (lv2 := [(4, .int 0), (3, .int (78 + (125 * v1))), (2, .int 0), (0, .ref 0), (1, .int v1)]) 101 dX7_text_99 rfl (by decide) rfl ?_
          refine sk_perm (lv2 := [(0, .ref 0), (3, .int (78 + (125 * v1))), (4, .int 0)]) [3, 1, 0] rfl ?_
          exact h
        · have h := h.2 hc
          refine sk_bipush (v := (-10)) 74 dX7_text_72 rfl (by decide) ?_
          refine sk_aload_n 1 75 dX7_text_74 rfl rfl rfl ?_
          refine sk_getI 78 dX7_text_75 rfl lfX7_57 sm_0 rfl ?_
          refine sk_isub 79 dX7_text_78 rfl ?_
          exact sk_iret dX7_text_79 rfl rfl h
      · have h := h.2 hc
        refine sk_iconst (v := 1) 56 dX7_text_55 rfl (by decide) ?_
        refine sk_goto 60 dX7_text_56 (by decide) ?_
        refine sk_istore_n (lv2 := [(2, .int 1), (0, .ref 0), (1, .int v1)]) 61 dX7_text_60 rfl rfl (by decide) rfl ?_
        refine sk_aload_n 1 62 dX7_text_61 rfl rfl rfl ?_
        refine sk_getR (r := 1) 65 dX7_text_62 rfl lfX7_7 sm_0 rfl ?_
        refine sk_iconst (v := 4) 66 dX7_text_65 rfl (by decide) ?_
        refine sk_iconst (v := 0) 67 dX7_text_66 rfl (by decide) ?_
        refine sk_iast 68 dX7_text_67 rfl sm_1 (by unfold vp_in; decide) 4 rfl ?_
        refine sk_iload_n 0 69 dX7_text_68 rfl rfl rfl ?_
        refine sk_if_ne 80 72 dX7_text_69 (by decide) rfl (fun hc => ?_) (fun hc => ?_)
        · have h := h.1 hc
          refine sk_bipush (v := 78) 82 dX7_text_80 rfl (by decide) ?_
          refine sk_bipush (v := 125) 84 dX7_text_82 rfl (by decide) ?_
          refine sk_iload_n 2 85 dX7_text_84 rfl rfl rfl ?_
          refine sk_imul 86 dX7_text_85 rfl ?_
          refine sk_iadd 87 dX7_text_86 rfl ?_
          refine sk_istore_n (lv2 := [(3, .int (78 + (125 * v1))), (2, .int 1), (0, .ref 0), (1, .int v1)]) 88 dX7_text_87 rfl rfl (by decide) rfl ?_
          refine sk_aload_n 2 89 dX7_text_88 rfl rfl rfl ?_
          refine sk_getR (r := 1) 92 dX7_text_89 rfl lfX7_7 sm_0 rfl ?_
          refine sk_iload_n 0 93 dX7_text_92 rfl rfl rfl ?_
          refine sk_aload_n 2 94 dX7_text_93 rfl rfl rfl ?_
          refine sk_getI 97 dX7_text_94 rfl lfX7_64 sm_0 rfl ?_
          have hb97 := h.1
          have h := h.2
          refine sk_iast 98 dX7_text_97 rfl sm_1 hb97 _ rfl ?_
          refine sk_iconst (v := 0) 99 dX7_text_98 rfl (by decide) ?_
          refine sk_istore (lv2 := [(4, .int 0), (3, .int (78 + (125 * v1))), (2, .int 1), (0, .ref 0), (1, .int v1)]) 101 dX7_text_99 rfl (by decide) rfl ?_
          refine sk_perm (lv2 := [(0, .ref 0), (3, .int (78 + (125 * v1))), (4, .int 0)]) [3, 1, 0] rfl ?_
          exact h
        · have h := h.2 hc
          refine sk_bipush (v := (-10)) 74 dX7_text_72 rfl (by decide) ?_
          refine sk_aload_n 1 75 dX7_text_74 rfl rfl rfl ?_
          refine sk_getI 78 dX7_text_75 rfl lfX7_57 sm_0 rfl ?_
          refine sk_isub 79 dX7_text_78 rfl ?_
          exact sk_iret dX7_text_79 rfl rfl h
  · have h := h.2 hc
    refine sk_aload_n 0 10 dX7_text_9 rfl rfl rfl ?_
    refine sk_iconst (v := 1) 11 dX7_text_10 rfl (by decide) ?_
    refine sk_callVi [.int 1] [] 14 dX7_text_11 rfl mfX7_error lkX7_51 miX7_error msX7_error sm_0 rfl rfl rfl rfl (by simp [Value.category]) hd0 (sk_Cm h ?_)
    rintro w t11 ⟨r11, hw, h⟩
    refine ⟨r11, hw, ?_⟩
    exact sk_iret dX7_text_14 rfl rfl h

theorem bX7_text_101 {d : Nat} {τ : sk_T} {K : sk_K} {v3 : Int32} {v4 : Int32}
  (h : (((2 * (τ 0 6)) ≤ v4 →
      K (some (.int 1)) τ
    ) ∧
    (¬ (2 * (τ 0 6)) ≤ v4 →
      vp_in v4 124 ∧
      vp_in ((v3 + 1) + v4) 412 ∧
      sk_G sk_Sm d mX7_text 101 [(0, .ref 0), (3, .int v3), (4, .int (v4 + 1))] [] (sk_u τ 1 (((v3 + 1) + v4)).toNatClampNeg (τ 4 (v4).toNatClampNeg)) K
    ))) :
  sk_G sk_Sm d mX7_text 101 [(0, .ref 0), (3, .int v3), (4, .int v4)] [] τ K := by
  refine sk_iload 2 103 dX7_text_101 rfl rfl ?_
  refine sk_iconst (v := 2) 104 dX7_text_103 rfl (by decide) ?_
  refine sk_aload_n 0 105 dX7_text_104 rfl rfl rfl ?_
  refine sk_getI 108 dX7_text_105 rfl lfX7_64 sm_0 rfl ?_
  refine sk_imul 109 dX7_text_108 rfl ?_
  refine sk_icmp_ge 136 112 dX7_text_109 (by decide) rfl (fun hc => ?_) (fun hc => ?_)
  · have h := h.1 hc
    refine sk_iconst (v := 1) 137 dX7_text_136 rfl (by decide) ?_
    exact sk_iret dX7_text_137 rfl rfl h
  · have h := h.2 hc
    refine sk_aload_n 0 113 dX7_text_112 rfl rfl rfl ?_
    refine sk_getR (r := 1) 116 dX7_text_113 rfl lfX7_7 sm_0 rfl ?_
    refine sk_iload_n 1 117 dX7_text_116 rfl rfl rfl ?_
    refine sk_iconst (v := 1) 118 dX7_text_117 rfl (by decide) ?_
    refine sk_iadd 119 dX7_text_118 rfl ?_
    refine sk_iload 2 121 dX7_text_119 rfl rfl ?_
    refine sk_iadd 122 dX7_text_121 rfl ?_
    refine sk_aload_n 0 123 dX7_text_122 rfl rfl rfl ?_
    refine sk_getR (r := 4) 126 dX7_text_123 rfl lfX7_19 sm_0 rfl ?_
    refine sk_iload 2 128 dX7_text_126 rfl rfl ?_
    have hb128 := h.1
    have h := h.2
    refine sk_iald 129 dX7_text_128 rfl sm_4 hb128 _ rfl ?_
    have hb129 := h.1
    have h := h.2
    refine sk_iast 130 dX7_text_129 rfl sm_1 hb129 _ rfl ?_
    refine sk_iinc (v := (v4 + 1)) (lv2 := [(4, .int (v4 + 1)), (0, .ref 0), (3, .int v3)]) 2 133 dX7_text_130 rfl rfl rfl (by decide) rfl ?_
    refine sk_goto 101 dX7_text_133 (by decide) ?_
    refine sk_perm (lv2 := [(0, .ref 0), (3, .int v3), (4, .int (v4 + 1))]) [1, 2, 0] rfl ?_
    exact h

theorem wX7_untell {d : Nat} {τ : sk_T} {K : sk_K} {v1 : Int32} (hd0 : 0 < d)
  (h : sk_C sk_Sm (d - 1) mX7_in [.int v1, .int 0, .int 1] τ (fun w t3 => ∃ r3 : Int32, w = some (.int r3) ∧
      ((¬ r3 = 0 →
        sk_C sk_Sm (d - 1) mX7_hasText [.ref 0, .int v1] t3 (fun w t17 => ∃ r17 : Int32, w = some (.int r17) ∧
          ((r17 = 0 →
            vp_in (78 + (125 * v1)) 412 ∧
            K (some (.int 0)) (sk_u t17 1 ((78 + (125 * v1))).toNatClampNeg 0)
          ) ∧
          (¬ r17 = 0 →
            vp_in (78 + (125 * v1)) 412 ∧
            K (some (.int 1)) (sk_u t17 1 ((78 + (125 * v1))).toNatClampNeg 0)
          ))
        )
      ) ∧
      (r3 = 0 →
        sk_C sk_Sm (d - 1) mX7_error [.ref 0, .int 1] t3 (fun w t11 => ∃ r11 : Int32, w = some (.int r11) ∧
          K (some (.int r11)) t11
        )
      ))
    )) :
  sk_C sk_Sm d mX7_untell [.ref 0, .int v1] τ K := by
  refine sk_enter mfX7_untell (Nat.le_of_ble_eq_true rfl) ?_
  show sk_G sk_Sm d mX7_untell 0 [(0, .ref 0), (1, .int v1)] [] τ K
  refine sk_iload_n 1 1 dX7_untell_0 rfl rfl rfl ?_
  refine sk_iconst (v := 0) 2 dX7_untell_1 rfl (by decide) ?_
  refine sk_iconst (v := 1) 3 dX7_untell_2 rfl (by decide) ?_
  refine sk_callSi [.int v1, .int 0, .int 1] [] 6 dX7_untell_3 rfl mfX7_in lkX7_47 miX7_in rfl rfl (by simp [Value.category]) hd0 (sk_Cm h ?_)
  rintro w t3 ⟨r3, hw, h⟩
  refine ⟨r3, hw, ?_⟩
  refine sk_if_ne 15 9 dX7_untell_6 (by decide) rfl (fun hc => ?_) (fun hc => ?_)
  · have h := h.1 hc
    refine sk_aload_n 0 16 dX7_untell_15 rfl rfl rfl ?_
    refine sk_iload_n 1 17 dX7_untell_16 rfl rfl rfl ?_
    refine sk_callVi [.int v1] [] 20 dX7_untell_17 rfl mfX7_hasText lkX7_104 miX7_hasText msX7_hasText sm_0 rfl rfl rfl rfl (by simp [Value.category]) hd0 (sk_Cm h ?_)
    rintro w t17 ⟨r17, hw, h⟩
    refine ⟨r17, hw, ?_⟩
    refine sk_if_eq 27 23 dX7_untell_20 (by decide) rfl (fun hc => ?_) (fun hc => ?_)
    · have h := h.1 hc
      refine sk_iconst (v := 0) 28 dX7_untell_27 rfl (by decide) ?_
      refine sk_istore_n (lv2 := [(2, .int 0), (0, .ref 0), (1, .int v1)]) 29 dX7_untell_28 rfl rfl (by decide) rfl ?_
      refine sk_aload_n 1 30 dX7_untell_29 rfl rfl rfl ?_
      refine sk_getR (r := 1) 33 dX7_untell_30 rfl lfX7_7 sm_0 rfl ?_
      refine sk_bipush (v := 78) 35 dX7_untell_33 rfl (by decide) ?_
      refine sk_bipush (v := 125) 37 dX7_untell_35 rfl (by decide) ?_
      refine sk_iload_n 2 38 dX7_untell_37 rfl rfl rfl ?_
      refine sk_imul 39 dX7_untell_38 rfl ?_
      refine sk_iadd 40 dX7_untell_39 rfl ?_
      refine sk_iconst (v := 0) 41 dX7_untell_40 rfl (by decide) ?_
      have hb41 := h.1
      have h := h.2
      refine sk_iast 42 dX7_untell_41 rfl sm_1 hb41 _ rfl ?_
      refine sk_iload_n 0 43 dX7_untell_42 rfl rfl rfl ?_
      exact sk_iret dX7_untell_43 rfl rfl h
    · have h := h.2 hc
      refine sk_iconst (v := 1) 24 dX7_untell_23 rfl (by decide) ?_
      refine sk_goto 28 dX7_untell_24 (by decide) ?_
      refine sk_istore_n (lv2 := [(2, .int 1), (0, .ref 0), (1, .int v1)]) 29 dX7_untell_28 rfl rfl (by decide) rfl ?_
      refine sk_aload_n 1 30 dX7_untell_29 rfl rfl rfl ?_
      refine sk_getR (r := 1) 33 dX7_untell_30 rfl lfX7_7 sm_0 rfl ?_
      refine sk_bipush (v := 78) 35 dX7_untell_33 rfl (by decide) ?_
      refine sk_bipush (v := 125) 37 dX7_untell_35 rfl (by decide) ?_
      refine sk_iload_n 2 38 dX7_untell_37 rfl rfl rfl ?_
      refine sk_imul 39 dX7_untell_38 rfl ?_
      refine sk_iadd 40 dX7_untell_39 rfl ?_
      refine sk_iconst (v := 0) 41 dX7_untell_40 rfl (by decide) ?_
      have hb41 := h.1
      have h := h.2
      refine sk_iast 42 dX7_untell_41 rfl sm_1 hb41 _ rfl ?_
      refine sk_iload_n 0 43 dX7_untell_42 rfl rfl rfl ?_
      exact sk_iret dX7_untell_43 rfl rfl h
  · have h := h.2 hc
    refine sk_aload_n 0 10 dX7_untell_9 rfl rfl rfl ?_
    refine sk_iconst (v := 1) 11 dX7_untell_10 rfl (by decide) ?_
    refine sk_callVi [.int 1] [] 14 dX7_untell_11 rfl mfX7_error lkX7_51 miX7_error msX7_error sm_0 rfl rfl rfl rfl (by simp [Value.category]) hd0 (sk_Cm h ?_)
    rintro w t11 ⟨r11, hw, h⟩
    refine ⟨r11, hw, ?_⟩
    exact sk_iret dX7_untell_14 rfl rfl h

theorem wX7_joined {d : Nat} {τ : sk_T} {K : sk_K} {v0 : Int32} {v1 : Int32} {v2 : Int32}
  (h : (
    (v0 = 37 →
      ((v2 = 0 →
        K (some (.int 0)) τ
      ) ∧
      (¬ v2 = 0 →
        ((¬ v2 = (-1) →
          ¬ v2 = 0 ∧
          K (some (.int (v1 % v2))) τ
        ) ∧
        (v2 = (-1) →
          K (some (.int 0)) τ
        ))
      ))
    ) ∧
    (v0 = 38 →
      ((v1 = 0 →
        K (some (.int 0)) τ
      ) ∧
      (¬ v1 = 0 →
        ((v2 = 0 →
          K (some (.int 0)) τ
        ) ∧
        (¬ v2 = 0 →
          K (some (.int 1)) τ
        ))
      ))
    ) ∧
    (v0 = 39 →
      ((¬ v1 = 0 →
        K (some (.int 1)) τ
      ) ∧
      (v1 = 0 →
        ((v2 = 0 →
          K (some (.int 0)) τ
        ) ∧
        (¬ v2 = 0 →
          K (some (.int 1)) τ
        ))
      ))
    ) ∧
    (v0 = 40 →
      ((¬ v1 = 0 →
        K (some (.int 1)) τ
      ) ∧
      (v1 = 0 →
        ((v2 = 0 →
          K (some (.int 0)) τ
        ) ∧
        (¬ v2 = 0 →
          K (some (.int 1)) τ
        ))
      ))
    ) ∧
    (v0 = 41 →
      ((¬ v1 = 0 →
        K (some (.int 1)) τ
      ) ∧
      (v1 = 0 →
        ((v2 = 0 →
          K (some (.int 0)) τ
        ) ∧
        (¬ v2 = 0 →
          K (some (.int 1)) τ
        ))
      ))
    ) ∧
    (v0 = 42 →
      K (some (.int (v1 * v2))) τ
    ) ∧
    (v0 = 43 →
      K (some (.int (v1 + v2))) τ
    ) ∧
    (v0 = 44 →
      ((¬ v1 = 0 →
        K (some (.int 1)) τ
      ) ∧
      (v1 = 0 →
        ((v2 = 0 →
          K (some (.int 0)) τ
        ) ∧
        (¬ v2 = 0 →
          K (some (.int 1)) τ
        ))
      ))
    ) ∧
    (v0 = 45 →
      K (some (.int (v1 - v2))) τ
    ) ∧
    (v0 = 46 →
      ((¬ v1 = 0 →
        K (some (.int 1)) τ
      ) ∧
      (v1 = 0 →
        ((v2 = 0 →
          K (some (.int 0)) τ
        ) ∧
        (¬ v2 = 0 →
          K (some (.int 1)) τ
        ))
      ))
    ) ∧
    (v0 = 47 →
      ((¬ v2 = 0 →
        ((¬ v2 = (-1) →
          ¬ v2 = 0 ∧
          K (some (.int (v1 / v2))) τ
        ) ∧
        (v2 = (-1) →
          K (some (.int (-v1))) τ
        ))
      ) ∧
      (v2 = 0 →
        K (some (.int 0)) τ
      ))
    ) ∧
    (v0 = 48 →
      ((¬ v1 = 0 →
        K (some (.int 1)) τ
      ) ∧
      (v1 = 0 →
        ((v2 = 0 →
          K (some (.int 0)) τ
        ) ∧
        (¬ v2 = 0 →
          K (some (.int 1)) τ
        ))
      ))
    ) ∧
    (v0 = 49 →
      ((¬ v1 = 0 →
        K (some (.int 1)) τ
      ) ∧
      (v1 = 0 →
        ((v2 = 0 →
          K (some (.int 0)) τ
        ) ∧
        (¬ v2 = 0 →
          K (some (.int 1)) τ
        ))
      ))
    ) ∧
    (v0 = 50 →
      ((¬ v1 = 0 →
        K (some (.int 1)) τ
      ) ∧
      (v1 = 0 →
        ((v2 = 0 →
          K (some (.int 0)) τ
        ) ∧
        (¬ v2 = 0 →
          K (some (.int 1)) τ
        ))
      ))
    ) ∧
    (v0 = 51 →
      ((¬ v1 = 0 →
        K (some (.int 1)) τ
      ) ∧
      (v1 = 0 →
        ((v2 = 0 →
          K (some (.int 0)) τ
        ) ∧
        (¬ v2 = 0 →
          K (some (.int 1)) τ
        ))
      ))
    ) ∧
    (v0 = 52 →
      ((¬ v1 = 0 →
        K (some (.int 1)) τ
      ) ∧
      (v1 = 0 →
        ((v2 = 0 →
          K (some (.int 0)) τ
        ) ∧
        (¬ v2 = 0 →
          K (some (.int 1)) τ
        ))
      ))
    ) ∧
    (v0 = 53 →
      ((¬ v1 = 0 →
        K (some (.int 1)) τ
      ) ∧
      (v1 = 0 →
        ((v2 = 0 →
          K (some (.int 0)) τ
        ) ∧
        (¬ v2 = 0 →
          K (some (.int 1)) τ
        ))
      ))
    ) ∧
    (v0 = 54 →
      ((¬ v1 = 0 →
        K (some (.int 1)) τ
      ) ∧
      (v1 = 0 →
        ((v2 = 0 →
          K (some (.int 0)) τ
        ) ∧
        (¬ v2 = 0 →
          K (some (.int 1)) τ
        ))
      ))
    ) ∧
    (v0 = 55 →
      ((¬ v1 = 0 →
        K (some (.int 1)) τ
      ) ∧
      (v1 = 0 →
        ((v2 = 0 →
          K (some (.int 0)) τ
        ) ∧
        (¬ v2 = 0 →
          K (some (.int 1)) τ
        ))
      ))
    ) ∧
    (v0 = 56 →
      ((¬ v1 = 0 →
        K (some (.int 1)) τ
      ) ∧
      (v1 = 0 →
        ((v2 = 0 →
          K (some (.int 0)) τ
        ) ∧
        (¬ v2 = 0 →
          K (some (.int 1)) τ
        ))
      ))
    ) ∧
    (v0 = 57 →
      ((¬ v1 = 0 →
        K (some (.int 1)) τ
      ) ∧
      (v1 = 0 →
        ((v2 = 0 →
          K (some (.int 0)) τ
        ) ∧
        (¬ v2 = 0 →
          K (some (.int 1)) τ
        ))
      ))
    ) ∧
    (v0 = 58 →
      ((¬ v1 = 0 →
        K (some (.int 1)) τ
      ) ∧
      (v1 = 0 →
        ((v2 = 0 →
          K (some (.int 0)) τ
        ) ∧
        (¬ v2 = 0 →
          K (some (.int 1)) τ
        ))
      ))
    ) ∧
    (v0 = 59 →
      ((¬ v1 = 0 →
        K (some (.int 1)) τ
      ) ∧
      (v1 = 0 →
        ((v2 = 0 →
          K (some (.int 0)) τ
        ) ∧
        (¬ v2 = 0 →
          K (some (.int 1)) τ
        ))
      ))
    ) ∧
    (v0 = 60 →
      ((v2 ≤ v1 →
        K (some (.int 0)) τ
      ) ∧
      (¬ v2 ≤ v1 →
        K (some (.int 1)) τ
      ))
    ) ∧
    (v0 = 61 →
      ((¬ v1 = v2 →
        K (some (.int 0)) τ
      ) ∧
      (v1 = v2 →
        K (some (.int 1)) τ
      ))
    ) ∧
    (v0 = 62 →
      ((v1 ≤ v2 →
        K (some (.int 0)) τ
      ) ∧
      (¬ v1 ≤ v2 →
        K (some (.int 1)) τ
      ))
    ) ∧
    ((¬ v0 = 37 ∧ ¬ v0 = 38 ∧ ¬ v0 = 39 ∧ ¬ v0 = 40 ∧ ¬ v0 = 41 ∧ ¬ v0 = 42 ∧ ¬ v0 = 43 ∧ ¬ v0 = 44 ∧ ¬ v0 = 45 ∧ ¬ v0 = 46 ∧ ¬ v0 = 47 ∧ ¬ v0 = 48 ∧ ¬ v0 = 49 ∧ ¬ v0 = 50 ∧ ¬ v0 = 51 ∧ ¬ v0 = 52 ∧ ¬ v0 = 53 ∧ ¬ v0 = 54 ∧ ¬ v0 = 55 ∧ ¬ v0 = 56 ∧ ¬ v0 = 57 ∧ ¬ v0 = 58 ∧ ¬ v0 = 59 ∧ ¬ v0 = 60 ∧ ¬ v0 = 61 ∧ ¬ v0 = 62) →
      ((¬ v1 = 0 →
        K (some (.int 1)) τ
      ) ∧
      (v1 = 0 →
        ((v2 = 0 →
          K (some (.int 0)) τ
        ) ∧
        (¬ v2 = 0 →
          K (some (.int 1)) τ
        ))
      ))
    ))) :
  sk_C sk_Sm d mX7_joined [.int v0, .int v1, .int v2] τ K := by
  refine sk_enter mfX7_joined (Nat.le_of_ble_eq_true rfl) ?_
  show sk_G sk_Sm d mX7_joined 0 [(0, .int v0), (1, .int v1), (2, .int v2)] [] τ K
  refine sk_iload_n 0 1 dX7_joined_0 rfl rfl rfl ?_
  refine sk_table [154, 204, 218, 218, 218, 128, 120, 218, 124, 218, 132, 218, 218, 218, 218, 218, 218, 218, 218, 218, 218, 218, 218, 171, 193, 182] 218 dX7_joined_1 (by decide) (by decide) (by decide) (by decide) ⟨fun e => ?_, fun e => ?_, fun e => ?_, fun e => ?_, fun e => ?_, fun e => ?_, fun e => ?_, fun e => ?_, fun e => ?_, fun e => ?_, fun e => ?_, fun e => ?_, fun e => ?_, fun e => ?_, fun e => ?_, fun e => ?_, fun e => ?_, fun e => ?_, fun e => ?_, fun e => ?_, fun e => ?_, fun e => ?_, fun e => ?_, fun e => ?_, fun e => ?_, fun e => ?_, trivial⟩ (fun e => ?_)
  · have h := h.1 e
    refine sk_iload_n 2 155 dX7_joined_154 rfl rfl rfl ?_
    refine sk_if_eq 163 158 dX7_joined_155 (by decide) rfl (fun hc => ?_) (fun hc => ?_)
    · have h := h.1 hc
      refine sk_iconst (v := 0) 164 dX7_joined_163 rfl (by decide) ?_
      refine sk_goto 170 dX7_joined_164 (by decide) ?_
      exact sk_iret dX7_joined_170 rfl rfl h
    · have h := h.2 hc
      refine sk_iload_n 2 159 dX7_joined_158 rfl rfl rfl ?_
      refine sk_iconst (v := (-1)) 160 dX7_joined_159 rfl (by decide) ?_
      refine sk_icmp_ne 167 163 dX7_joined_160 (by decide) rfl (fun hc => ?_) (fun hc => ?_)
      · have h := h.1 hc
        refine sk_iload_n 1 168 dX7_joined_167 rfl rfl rfl ?_
        refine sk_iload_n 2 169 dX7_joined_168 rfl rfl rfl ?_
        have hz169 := h.1
        have h := h.2
        refine sk_irem 170 dX7_joined_169 rfl hz169 ?_
        exact sk_iret dX7_joined_170 rfl rfl h
      · have h := h.2 hc
        refine sk_iconst (v := 0) 164 dX7_joined_163 rfl (by decide) ?_
        refine sk_goto 170 dX7_joined_164 (by decide) ?_
        exact sk_iret dX7_joined_170 rfl rfl h
  · have h := h.2.1 e
    refine sk_iload_n 1 205 dX7_joined_204 rfl rfl rfl ?_
    refine sk_if_eq 216 208 dX7_joined_205 (by decide) rfl (fun hc => ?_) (fun hc => ?_)
    · have h := h.1 hc
      refine sk_iconst (v := 0) 217 dX7_joined_216 rfl (by decide) ?_
      exact sk_iret dX7_joined_217 rfl rfl h
    · have h := h.2 hc
      refine sk_iload_n 2 209 dX7_joined_208 rfl rfl rfl ?_
      refine sk_if_eq 216 212 dX7_joined_209 (by decide) rfl (fun hc => ?_) (fun hc => ?_)
      · have h := h.1 hc
        refine sk_iconst (v := 0) 217 dX7_joined_216 rfl (by decide) ?_
        exact sk_iret dX7_joined_217 rfl rfl h
      · have h := h.2 hc
        refine sk_iconst (v := 1) 213 dX7_joined_212 rfl (by decide) ?_
        refine sk_goto 217 dX7_joined_213 (by decide) ?_
        exact sk_iret dX7_joined_217 rfl rfl h
  · have h := h.2.2.1 e
    refine sk_iload_n 1 219 dX7_joined_218 rfl rfl rfl ?_
    refine sk_if_ne 226 222 dX7_joined_219 (by decide) rfl (fun hc => ?_) (fun hc => ?_)
    · have h := h.1 hc
      refine sk_iconst (v := 1) 227 dX7_joined_226 rfl (by decide) ?_
      refine sk_goto 231 dX7_joined_227 (by decide) ?_
      exact sk_iret dX7_joined_231 rfl rfl h
    · have h := h.2 hc
      refine sk_iload_n 2 223 dX7_joined_222 rfl rfl rfl ?_
      refine sk_if_eq 230 226 dX7_joined_223 (by decide) rfl (fun hc => ?_) (fun hc => ?_)
      · have h := h.1 hc
        refine sk_iconst (v := 0) 231 dX7_joined_230 rfl (by decide) ?_
        exact sk_iret dX7_joined_231 rfl rfl h
      · have h := h.2 hc
        refine sk_iconst (v := 1) 227 dX7_joined_226 rfl (by decide) ?_
        refine sk_goto 231 dX7_joined_227 (by decide) ?_
        exact sk_iret dX7_joined_231 rfl rfl h
  · have h := h.2.2.2.1 e
    refine sk_iload_n 1 219 dX7_joined_218 rfl rfl rfl ?_
    refine sk_if_ne 226 222 dX7_joined_219 (by decide) rfl (fun hc => ?_) (fun hc => ?_)
    · have h := h.1 hc
      refine sk_iconst (v := 1) 227 dX7_joined_226 rfl (by decide) ?_
      refine sk_goto 231 dX7_joined_227 (by decide) ?_
      exact sk_iret dX7_joined_231 rfl rfl h
    · have h := h.2 hc
      refine sk_iload_n 2 223 dX7_joined_222 rfl rfl rfl ?_
      refine sk_if_eq 230 226 dX7_joined_223 (by decide) rfl (fun hc => ?_) (fun hc => ?_)
      · have h := h.1 hc
        refine sk_iconst (v := 0) 231 dX7_joined_230 rfl (by decide) ?_
        exact sk_iret dX7_joined_231 rfl rfl h
      · have h := h.2 hc
        refine sk_iconst (v := 1) 227 dX7_joined_226 rfl (by decide) ?_
        refine sk_goto 231 dX7_joined_227 (by decide) ?_
        exact sk_iret dX7_joined_231 rfl rfl h
  · have h := h.2.2.2.2.1 e
    refine sk_iload_n 1 219 dX7_joined_218 rfl rfl rfl ?_
    refine sk_if_ne 226 222 dX7_joined_219 (by decide) rfl (fun hc => ?_) (fun hc => ?_)
    · have h := h.1 hc
      refine sk_iconst (v := 1) 227 dX7_joined_226 rfl (by decide) ?_
      refine sk_goto 231 dX7_joined_227 (by decide) ?_
      exact sk_iret dX7_joined_231 rfl rfl h
    · have h := h.2 hc
      refine sk_iload_n 2 223 dX7_joined_222 rfl rfl rfl ?_
      refine sk_if_eq 230 226 dX7_joined_223 (by decide) rfl (fun hc => ?_) (fun hc => ?_)
      · have h := h.1 hc
        refine sk_iconst (v := 0) 231 dX7_joined_230 rfl (by decide) ?_
        exact sk_iret dX7_joined_231 rfl rfl h
      · have h := h.2 hc
        refine sk_iconst (v := 1) 227 dX7_joined_226 rfl (by decide) ?_
        refine sk_goto 231 dX7_joined_227 (by decide) ?_
        exact sk_iret dX7_joined_231 rfl rfl h
  · have h := h.2.2.2.2.2.1 e
    refine sk_iload_n 1 129 dX7_joined_128 rfl rfl rfl ?_
    refine sk_iload_n 2 130 dX7_joined_129 rfl rfl rfl ?_
    refine sk_imul 131 dX7_joined_130 rfl ?_
    exact sk_iret dX7_joined_131 rfl rfl h
  · have h := h.2.2.2.2.2.2.1 e
    refine sk_iload_n 1 121 dX7_joined_120 rfl rfl rfl ?_
    refine sk_iload_n 2 122 dX7_joined_121 rfl rfl rfl ?_
    refine sk_iadd 123 dX7_joined_122 rfl ?_
    exact sk_iret dX7_joined_123 rfl rfl h
  · have h := h.2.2.2.2.2.2.2.1 e
    refine sk_iload_n 1 219 dX7_joined_218 rfl rfl rfl ?_
    refine sk_if_ne 226 222 dX7_joined_219 (by decide) rfl (fun hc => ?_) (fun hc => ?_)
    · have h := h.1 hc
      refine sk_iconst (v := 1) 227 dX7_joined_226 rfl (by decide) ?_
      refine sk_goto 231 dX7_joined_227 (by decide) ?_
      exact sk_iret dX7_joined_231 rfl rfl h
    · have h := h.2 hc
      refine sk_iload_n 2 223 dX7_joined_222 rfl rfl rfl ?_
      refine sk_if_eq 230 226 dX7_joined_223 (by decide) rfl (fun hc => ?_) (fun hc => ?_)
      · have h := h.1 hc
        refine sk_iconst (v := 0) 231 dX7_joined_230 rfl (by decide) ?_
        exact sk_iret dX7_joined_231 rfl rfl h
      · have h := h.2 hc
        refine sk_iconst (v := 1) 227 dX7_joined_226 rfl (by decide) ?_
        refine sk_goto 231 dX7_joined_227 (by decide) ?_
        exact sk_iret dX7_joined_231 rfl rfl h
  · have h := h.2.2.2.2.2.2.2.2.1 e
    refine sk_iload_n 1 125 dX7_joined_124 rfl rfl rfl ?_
    refine sk_iload_n 2 126 dX7_joined_125 rfl rfl rfl ?_
    refine sk_isub 127 dX7_joined_126 rfl ?_
    exact sk_iret dX7_joined_127 rfl rfl h
  · have h := h.2.2.2.2.2.2.2.2.2.1 e
    refine sk_iload_n 1 219 dX7_joined_218 rfl rfl rfl ?_
    refine sk_if_ne 226 222 dX7_joined_219 (by decide) rfl (fun hc => ?_) (fun hc => ?_)
    · have h := h.1 hc
      refine sk_iconst (v := 1) 227 dX7_joined_226 rfl (by decide) ?_
      refine sk_goto 231 dX7_joined_227 (by decide) ?_
      exact sk_iret dX7_joined_231 rfl rfl h
    · have h := h.2 hc
      refine sk_iload_n 2 223 dX7_joined_222 rfl rfl rfl ?_
      refine sk_if_eq 230 226 dX7_joined_223 (by decide) rfl (fun hc => ?_) (fun hc => ?_)
      · have h := h.1 hc
        refine sk_iconst (v := 0) 231 dX7_joined_230 rfl (by decide) ?_
        exact sk_iret dX7_joined_231 rfl rfl h
      · have h := h.2 hc
        refine sk_iconst (v := 1) 227 dX7_joined_226 rfl (by decide) ?_
        refine sk_goto 231 dX7_joined_227 (by decide) ?_
        exact sk_iret dX7_joined_231 rfl rfl h
  · have h := h.2.2.2.2.2.2.2.2.2.2.1 e
    refine sk_iload_n 2 133 dX7_joined_132 rfl rfl rfl ?_
    refine sk_if_ne 140 136 dX7_joined_133 (by decide) rfl (fun hc => ?_) (fun hc => ?_)
    · have h := h.1 hc
      refine sk_iload_n 2 141 dX7_joined_140 rfl rfl rfl ?_
      refine sk_iconst (v := (-1)) 142 dX7_joined_141 rfl (by decide) ?_
      refine sk_icmp_ne 150 145 dX7_joined_142 (by decide) rfl (fun hc => ?_) (fun hc => ?_)
      · have h := h.1 hc
        refine sk_iload_n 1 151 dX7_joined_150 rfl rfl rfl ?_
        refine sk_iload_n 2 152 dX7_joined_151 rfl rfl rfl ?_
        have hz152 := h.1
        have h := h.2
        refine sk_idiv 153 dX7_joined_152 rfl hz152 ?_
        exact sk_iret dX7_joined_153 rfl rfl h
      · have h := h.2 hc
        refine sk_iload_n 1 146 dX7_joined_145 rfl rfl rfl ?_
        refine sk_ineg 147 dX7_joined_146 rfl ?_
        refine sk_goto 153 dX7_joined_147 (by decide) ?_
        exact sk_iret dX7_joined_153 rfl rfl h
    · have h := h.2 hc
      refine sk_iconst (v := 0) 137 dX7_joined_136 rfl (by decide) ?_
      refine sk_goto 153 dX7_joined_137 (by decide) ?_
      exact sk_iret dX7_joined_153 rfl rfl h
  · have h := h.2.2.2.2.2.2.2.2.2.2.2.1 e
    refine sk_iload_n 1 219 dX7_joined_218 rfl rfl rfl ?_
    refine sk_if_ne 226 222 dX7_joined_219 (by decide) rfl (fun hc => ?_) (fun hc => ?_)
    · have h := h.1 hc
      refine sk_iconst (v := 1) 227 dX7_joined_226 rfl (by decide) ?_
      refine sk_goto 231 dX7_joined_227 (by decide) ?_
      exact sk_iret dX7_joined_231 rfl rfl h
    · have h := h.2 hc
      refine sk_iload_n 2 223 dX7_joined_222 rfl rfl rfl ?_
      refine sk_if_eq 230 226 dX7_joined_223 (by decide) rfl (fun hc => ?_) (fun hc => ?_)
      · have h := h.1 hc
        refine sk_iconst (v := 0) 231 dX7_joined_230 rfl (by decide) ?_
        exact sk_iret dX7_joined_231 rfl rfl h
      · have h := h.2 hc
        refine sk_iconst (v := 1) 227 dX7_joined_226 rfl (by decide) ?_
        refine sk_goto 231 dX7_joined_227 (by decide) ?_
        exact sk_iret dX7_joined_231 rfl rfl h
  · have h := h.2.2.2.2.2.2.2.2.2.2.2.2.1 e
    refine sk_iload_n 1 219 dX7_joined_218 rfl rfl rfl ?_
    refine sk_if_ne 226 222 dX7_joined_219 (by decide) rfl (fun hc => ?_) (fun hc => ?_)
    · have h := h.1 hc
      refine sk_iconst (v := 1) 227 dX7_joined_226 rfl (by decide) ?_
      refine sk_goto 231 dX7_joined_227 (by decide) ?_
      exact sk_iret dX7_joined_231 rfl rfl h
    · have h := h.2 hc
      refine sk_iload_n 2 223 dX7_joined_222 rfl rfl rfl ?_
      refine sk_if_eq 230 226 dX7_joined_223 (by decide) rfl (fun hc => ?_) (fun hc => ?_)
      · have h := h.1 hc
        refine sk_iconst (v := 0) 231 dX7_joined_230 rfl (by decide) ?_
        exact sk_iret dX7_joined_231 rfl rfl h
      · have h := h.2 hc
        refine sk_iconst (v := 1) 227 dX7_joined_226 rfl (by decide) ?_
        refine sk_goto 231 dX7_joined_227 (by decide) ?_
        exact sk_iret dX7_joined_231 rfl rfl h
  · have h := h.2.2.2.2.2.2.2.2.2.2.2.2.2.1 e
    refine sk_iload_n 1 219 dX7_joined_218 rfl rfl rfl ?_
    refine sk_if_ne 226 222 dX7_joined_219 (by decide) rfl (fun hc => ?_) (fun hc => ?_)
    · have h := h.1 hc
      refine sk_iconst (v := 1) 227 dX7_joined_226 rfl (by decide) ?_
      refine sk_goto 231 dX7_joined_227 (by decide) ?_
      exact sk_iret dX7_joined_231 rfl rfl h
    · have h := h.2 hc
      refine sk_iload_n 2 223 dX7_joined_222 rfl rfl rfl ?_
      refine sk_if_eq 230 226 dX7_joined_223 (by decide) rfl (fun hc => ?_) (fun hc => ?_)
      · have h := h.1 hc
        refine sk_iconst (v := 0) 231 dX7_joined_230 rfl (by decide) ?_
        exact sk_iret dX7_joined_231 rfl rfl h
      · have h := h.2 hc
        refine sk_iconst (v := 1) 227 dX7_joined_226 rfl (by decide) ?_
        refine sk_goto 231 dX7_joined_227 (by decide) ?_
        exact sk_iret dX7_joined_231 rfl rfl h
  · have h := h.2.2.2.2.2.2.2.2.2.2.2.2.2.2.1 e
    refine sk_iload_n 1 219 dX7_joined_218 rfl rfl rfl ?_
    refine sk_if_ne 226 222 dX7_joined_219 (by decide) rfl (fun hc => ?_) (fun hc => ?_)
    · have h := h.1 hc
      refine sk_iconst (v := 1) 227 dX7_joined_226 rfl (by decide) ?_
      refine sk_goto 231 dX7_joined_227 (by decide) ?_
      exact sk_iret dX7_joined_231 rfl rfl h
    · have h := h.2 hc
      refine sk_iload_n 2 223 dX7_joined_222 rfl rfl rfl ?_
      refine sk_if_eq 230 226 dX7_joined_223 (by decide) rfl (fun hc => ?_) (fun hc => ?_)
      · have h := h.1 hc
        refine sk_iconst (v := 0) 231 dX7_joined_230 rfl (by decide) ?_
        exact sk_iret dX7_joined_231 rfl rfl h
      · have h := h.2 hc
        refine sk_iconst (v := 1) 227 dX7_joined_226 rfl (by decide) ?_
        refine sk_goto 231 dX7_joined_227 (by decide) ?_
        exact sk_iret dX7_joined_231 rfl rfl h
  · have h := h.2.2.2.2.2.2.2.2.2.2.2.2.2.2.2.1 e
    refine sk_iload_n 1 219 dX7_joined_218 rfl rfl rfl ?_
    refine sk_if_ne 226 222 dX7_joined_219 (by decide) rfl (fun hc => ?_) (fun hc => ?_)
    · have h := h.1 hc
      refine sk_iconst (v := 1) 227 dX7_joined_226 rfl (by decide) ?_
      refine sk_goto 231 dX7_joined_227 (by decide) ?_
      exact sk_iret dX7_joined_231 rfl rfl h
    · have h := h.2 hc
      refine sk_iload_n 2 223 dX7_joined_222 rfl rfl rfl ?_
      refine sk_if_eq 230 226 dX7_joined_223 (by decide) rfl (fun hc => ?_) (fun hc => ?_)
      · have h := h.1 hc
        refine sk_iconst (v := 0) 231 dX7_joined_230 rfl (by decide) ?_
        exact sk_iret dX7_joined_231 rfl rfl h
      · have h := h.2 hc
        refine sk_iconst (v := 1) 227 dX7_joined_226 rfl (by decide) ?_
        refine sk_goto 231 dX7_joined_227 (by decide) ?_
        exact sk_iret dX7_joined_231 rfl rfl h
  · have h := h.2.2.2.2.2.2.2.2.2.2.2.2.2.2.2.2.1 e
    refine sk_iload_n 1 219 dX7_joined_218 rfl rfl rfl ?_
    refine sk_if_ne 226 222 dX7_joined_219 (by decide) rfl (fun hc => ?_) (fun hc => ?_)
    · have h := h.1 hc
      refine sk_iconst (v := 1) 227 dX7_joined_226 rfl (by decide) ?_
      refine sk_goto 231 dX7_joined_227 (by decide) ?_
      exact sk_iret dX7_joined_231 rfl rfl h
    · have h := h.2 hc
      refine sk_iload_n 2 223 dX7_joined_222 rfl rfl rfl ?_
      refine sk_if_eq 230 226 dX7_joined_223 (by decide) rfl (fun hc => ?_) (fun hc => ?_)
      · have h := h.1 hc
        refine sk_iconst (v := 0) 231 dX7_joined_230 rfl (by decide) ?_
        exact sk_iret dX7_joined_231 rfl rfl h
      · have h := h.2 hc
        refine sk_iconst (v := 1) 227 dX7_joined_226 rfl (by decide) ?_
        refine sk_goto 231 dX7_joined_227 (by decide) ?_
        exact sk_iret dX7_joined_231 rfl rfl h
  · have h := h.2.2.2.2.2.2.2.2.2.2.2.2.2.2.2.2.2.1 e
    refine sk_iload_n 1 219 dX7_joined_218 rfl rfl rfl ?_
    refine sk_if_ne 226 222 dX7_joined_219 (by decide) rfl (fun hc => ?_) (fun hc => ?_)
    · have h := h.1 hc
      refine sk_iconst (v := 1) 227 dX7_joined_226 rfl (by decide) ?_
      refine sk_goto 231 dX7_joined_227 (by decide) ?_
      exact sk_iret dX7_joined_231 rfl rfl h
    · have h := h.2 hc
      refine sk_iload_n 2 223 dX7_joined_222 rfl rfl rfl ?_
      refine sk_if_eq 230 226 dX7_joined_223 (by decide) rfl (fun hc => ?_) (fun hc => ?_)
      · have h := h.1 hc
        refine sk_iconst (v := 0) 231 dX7_joined_230 rfl (by decide) ?_
        exact sk_iret dX7_joined_231 rfl rfl h
      · have h := h.2 hc
        refine sk_iconst (v := 1) 227 dX7_joined_226 rfl (by decide) ?_
        refine sk_goto 231 dX7_joined_227 (by decide) ?_
        exact sk_iret dX7_joined_231 rfl rfl h
  · have h := h.2.2.2.2.2.2.2.2.2.2.2.2.2.2.2.2.2.2.1 e
    refine sk_iload_n 1 219 dX7_joined_218 rfl rfl rfl ?_
    refine sk_if_ne 226 222 dX7_joined_219 (by decide) rfl (fun hc => ?_) (fun hc => ?_)
    · have h := h.1 hc
      refine sk_iconst (v := 1) 227 dX7_joined_226 rfl (by decide) ?_
      refine sk_goto 231 dX7_joined_227 (by decide) ?_
      exact sk_iret dX7_joined_231 rfl rfl h
    · have h := h.2 hc
      refine sk_iload_n 2 223 dX7_joined_222 rfl rfl rfl ?_
      refine sk_if_eq 230 226 dX7_joined_223 (by decide) rfl (fun hc => ?_) (fun hc => ?_)
      · have h := h.1 hc
        refine sk_iconst (v := 0) 231 dX7_joined_230 rfl (by decide) ?_
        exact sk_iret dX7_joined_231 rfl rfl h
      · have h := h.2 hc
        refine sk_iconst (v := 1) 227 dX7_joined_226 rfl (by decide) ?_
        refine sk_goto 231 dX7_joined_227 (by decide) ?_
        exact sk_iret dX7_joined_231 rfl rfl h
  · have h := h.2.2.2.2.2.2.2.2.2.2.2.2.2.2.2.2.2.2.2.1 e
    refine sk_iload_n 1 219 dX7_joined_218 rfl rfl rfl ?_
    refine sk_if_ne 226 222 dX7_joined_219 (by decide) rfl (fun hc => ?_) (fun hc => ?_)
    · have h := h.1 hc
      refine sk_iconst (v := 1) 227 dX7_joined_226 rfl (by decide) ?_
      refine sk_goto 231 dX7_joined_227 (by decide) ?_
      exact sk_iret dX7_joined_231 rfl rfl h
    · have h := h.2 hc
      refine sk_iload_n 2 223 dX7_joined_222 rfl rfl rfl ?_
      refine sk_if_eq 230 226 dX7_joined_223 (by decide) rfl (fun hc => ?_) (fun hc => ?_)
      · have h := h.1 hc
        refine sk_iconst (v := 0) 231 dX7_joined_230 rfl (by decide) ?_
        exact sk_iret dX7_joined_231 rfl rfl h
      · have h := h.2 hc
        refine sk_iconst (v := 1) 227 dX7_joined_226 rfl (by decide) ?_
        refine sk_goto 231 dX7_joined_227 (by decide) ?_
        exact sk_iret dX7_joined_231 rfl rfl h
  · have h := h.2.2.2.2.2.2.2.2.2.2.2.2.2.2.2.2.2.2.2.2.1 e
    refine sk_iload_n 1 219 dX7_joined_218 rfl rfl rfl ?_
    refine sk_if_ne 226 222 dX7_joined_219 (by decide) rfl (fun hc => ?_) (fun hc => ?_)
    · have h := h.1 hc
      refine sk_iconst (v := 1) 227 dX7_joined_226 rfl (by decide) ?_
      refine sk_goto 231 dX7_joined_227 (by decide) ?_
      exact sk_iret dX7_joined_231 rfl rfl h
    · have h := h.2 hc
      refine sk_iload_n 2 223 dX7_joined_222 rfl rfl rfl ?_
      refine sk_if_eq 230 226 dX7_joined_223 (by decide) rfl (fun hc => ?_) (fun hc => ?_)
      · have h := h.1 hc
        refine sk_iconst (v := 0) 231 dX7_joined_230 rfl (by decide) ?_
        exact sk_iret dX7_joined_231 rfl rfl h
      · have h := h.2 hc
        refine sk_iconst (v := 1) 227 dX7_joined_226 rfl (by decide) ?_
        refine sk_goto 231 dX7_joined_227 (by decide) ?_
        exact sk_iret dX7_joined_231 rfl rfl h
  · have h := h.2.2.2.2.2.2.2.2.2.2.2.2.2.2.2.2.2.2.2.2.2.1 e
    refine sk_iload_n 1 219 dX7_joined_218 rfl rfl rfl ?_
    refine sk_if_ne 226 222 dX7_joined_219 (by decide) rfl (fun hc => ?_) (fun hc => ?_)
    · have h := h.1 hc
      refine sk_iconst (v := 1) 227 dX7_joined_226 rfl (by decide) ?_
      refine sk_goto 231 dX7_joined_227 (by decide) ?_
      exact sk_iret dX7_joined_231 rfl rfl h
    · have h := h.2 hc
      refine sk_iload_n 2 223 dX7_joined_222 rfl rfl rfl ?_
      refine sk_if_eq 230 226 dX7_joined_223 (by decide) rfl (fun hc => ?_) (fun hc => ?_)
      · have h := h.1 hc
        refine sk_iconst (v := 0) 231 dX7_joined_230 rfl (by decide) ?_
        exact sk_iret dX7_joined_231 rfl rfl h
      · have h := h.2 hc
        refine sk_iconst (v := 1) 227 dX7_joined_226 rfl (by decide) ?_
        refine sk_goto 231 dX7_joined_227 (by decide) ?_
        exact sk_iret dX7_joined_231 rfl rfl h
  · have h := h.2.2.2.2.2.2.2.2.2.2.2.2.2.2.2.2.2.2.2.2.2.2.1 e
    refine sk_iload_n 1 219 dX7_joined_218 rfl rfl rfl ?_
    refine sk_if_ne 226 222 dX7_joined_219 (by decide) rfl (fun hc => ?_) (fun hc => ?_)
    · have h := h.1 hc
      refine sk_iconst (v := 1) 227 dX7_joined_226 rfl (by decide) ?_
      refine sk_goto 231 dX7_joined_227 (by decide) ?_
      exact sk_iret dX7_joined_231 rfl rfl h
    · have h := h.2 hc
      refine sk_iload_n 2 223 dX7_joined_222 rfl rfl rfl ?_
      refine sk_if_eq 230 226 dX7_joined_223 (by decide) rfl (fun hc => ?_) (fun hc => ?_)
      · have h := h.1 hc
        refine sk_iconst (v := 0) 231 dX7_joined_230 rfl (by decide) ?_
        exact sk_iret dX7_joined_231 rfl rfl h
      · have h := h.2 hc
        refine sk_iconst (v := 1) 227 dX7_joined_226 rfl (by decide) ?_
        refine sk_goto 231 dX7_joined_227 (by decide) ?_
        exact sk_iret dX7_joined_231 rfl rfl h
  · have h := h.2.2.2.2.2.2.2.2.2.2.2.2.2.2.2.2.2.2.2.2.2.2.2.1 e
    refine sk_iload_n 1 172 dX7_joined_171 rfl rfl rfl ?_
    refine sk_iload_n 2 173 dX7_joined_172 rfl rfl rfl ?_
    refine sk_icmp_ge 180 176 dX7_joined_173 (by decide) rfl (fun hc => ?_) (fun hc => ?_)
    · have h := h.1 hc
      refine sk_iconst (v := 0) 181 dX7_joined_180 rfl (by decide) ?_
      exact sk_iret dX7_joined_181 rfl rfl h
    · have h := h.2 hc
      refine sk_iconst (v := 1) 177 dX7_joined_176 rfl (by decide) ?_
      refine sk_goto 181 dX7_joined_177 (by decide) ?_
      exact sk_iret dX7_joined_181 rfl rfl h
  · have h := h.2.2.2.2.2.2.2.2.2.2.2.2.2.2.2.2.2.2.2.2.2.2.2.2.1 e
    refine sk_iload_n 1 194 dX7_joined_193 rfl rfl rfl ?_
    refine sk_iload_n 2 195 dX7_joined_194 rfl rfl rfl ?_
    refine sk_icmp_ne 202 198 dX7_joined_195 (by decide) rfl (fun hc => ?_) (fun hc => ?_)
    · have h := h.1 hc
      refine sk_iconst (v := 0) 203 dX7_joined_202 rfl (by decide) ?_
      exact sk_iret dX7_joined_203 rfl rfl h
    · have h := h.2 hc
      refine sk_iconst (v := 1) 199 dX7_joined_198 rfl (by decide) ?_
      refine sk_goto 203 dX7_joined_199 (by decide) ?_
      exact sk_iret dX7_joined_203 rfl rfl h
  · have h := h.2.2.2.2.2.2.2.2.2.2.2.2.2.2.2.2.2.2.2.2.2.2.2.2.2.1 e
    refine sk_iload_n 1 183 dX7_joined_182 rfl rfl rfl ?_
    refine sk_iload_n 2 184 dX7_joined_183 rfl rfl rfl ?_
    refine sk_icmp_le 191 187 dX7_joined_184 (by decide) rfl (fun hc => ?_) (fun hc => ?_)
    · have h := h.1 hc
      refine sk_iconst (v := 0) 192 dX7_joined_191 rfl (by decide) ?_
      exact sk_iret dX7_joined_192 rfl rfl h
    · have h := h.2 hc
      refine sk_iconst (v := 1) 188 dX7_joined_187 rfl (by decide) ?_
      refine sk_goto 192 dX7_joined_188 (by decide) ?_
      exact sk_iret dX7_joined_192 rfl rfl h
  · have h := h.2.2.2.2.2.2.2.2.2.2.2.2.2.2.2.2.2.2.2.2.2.2.2.2.2.2 ⟨e 0 (by decide), e 1 (by decide), e 2 (by decide), e 3 (by decide), e 4 (by decide), e 5 (by decide), e 6 (by decide), e 7 (by decide), e 8 (by decide), e 9 (by decide), e 10 (by decide), e 11 (by decide), e 12 (by decide), e 13 (by decide), e 14 (by decide), e 15 (by decide), e 16 (by decide), e 17 (by decide), e 18 (by decide), e 19 (by decide), e 20 (by decide), e 21 (by decide), e 22 (by decide), e 23 (by decide), e 24 (by decide), e 25 (by decide)⟩
    refine sk_iload_n 1 219 dX7_joined_218 rfl rfl rfl ?_
    refine sk_if_ne 226 222 dX7_joined_219 (by decide) rfl (fun hc => ?_) (fun hc => ?_)
    · have h := h.1 hc
      refine sk_iconst (v := 1) 227 dX7_joined_226 rfl (by decide) ?_
      refine sk_goto 231 dX7_joined_227 (by decide) ?_
      exact sk_iret dX7_joined_231 rfl rfl h
    · have h := h.2 hc
      refine sk_iload_n 2 223 dX7_joined_222 rfl rfl rfl ?_
      refine sk_if_eq 230 226 dX7_joined_223 (by decide) rfl (fun hc => ?_) (fun hc => ?_)
      · have h := h.1 hc
        refine sk_iconst (v := 0) 231 dX7_joined_230 rfl (by decide) ?_
        exact sk_iret dX7_joined_231 rfl rfl h
      · have h := h.2 hc
        refine sk_iconst (v := 1) 227 dX7_joined_226 rfl (by decide) ?_
        refine sk_goto 231 dX7_joined_227 (by decide) ?_
        exact sk_iret dX7_joined_231 rfl rfl h

theorem wX7_worked {d : Nat} {τ : sk_T} {K : sk_K} {v1 : Int32}
  (h : sk_G sk_Sm d mX7_worked 13 [(0, .ref 0), (2, .int (78 + (125 * v1))), (3, .int 0), (4, .int 0)] [] τ K) :
  sk_C sk_Sm d mX7_worked [.ref 0, .int v1] τ K := by
  refine sk_enter mfX7_worked (Nat.le_of_ble_eq_true rfl) ?_
  show sk_G sk_Sm d mX7_worked 0 [(0, .ref 0), (1, .int v1)] [] τ K
  refine sk_bipush (v := 78) 2 dX7_worked_0 rfl (by decide) ?_
  refine sk_bipush (v := 125) 4 dX7_worked_2 rfl (by decide) ?_
  refine sk_iload_n 1 5 dX7_worked_4 rfl rfl rfl ?_
  refine sk_imul 6 dX7_worked_5 rfl ?_
  refine sk_iadd 7 dX7_worked_6 rfl ?_
  refine sk_istore_n (lv2 := [(2, .int (78 + (125 * v1))), (0, .ref 0), (1, .int v1)]) 8 dX7_worked_7 rfl rfl (by decide) rfl ?_
  refine sk_iconst (v := 0) 9 dX7_worked_8 rfl (by decide) ?_
  refine sk_istore_n (lv2 := [(3, .int 0), (2, .int (78 + (125 * v1))), (0, .ref 0), (1, .int v1)]) 10 dX7_worked_9 rfl rfl (by decide) rfl ?_
  refine sk_iconst (v := 0) 11 dX7_worked_10 rfl (by decide) ?_
  refine sk_istore (lv2 := [(4, .int 0), (3, .int 0), (2, .int (78 + (125 * v1))), (0, .ref 0), (1, .int v1)]) 13 dX7_worked_11 rfl (by decide) rfl ?_
  refine sk_perm (lv2 := [(0, .ref 0), (2, .int (78 + (125 * v1))), (3, .int 0), (4, .int 0)]) [3, 2, 1, 0] rfl ?_
  exact h

theorem bX7_worked_13 {d : Nat} {τ : sk_T} {K : sk_K} {v2 : Int32} {v3 : Int32} {v4 : Int32} (hd0 : 0 < d)
  (h : vp_in v2 412 ∧
    (((τ 1 (v2).toNatClampNeg) ≤ v4 →
      K (some (.int (τ 6 0))) τ
    ) ∧
    (¬ (τ 1 (v2).toNatClampNeg) ≤ v4 →
      vp_in ((v2 + 1) + (2 * v4)) 412 ∧
      vp_in ((v2 + 2) + (2 * v4)) 412 ∧
      (((τ 1 (((v2 + 1) + (2 * v4))).toNatClampNeg) = 0 →
        ((¬ (τ 1 (((v2 + 1) + (2 * v4))).toNatClampNeg) = 0 →
          vp_in (τ 1 (((v2 + 2) + (2 * v4))).toNatClampNeg) 128 ∧
          vp_in v3 64 ∧
          sk_G sk_Sm d mX7_worked 13 [(0, .ref 0), (2, .int v2), (3, .int (v3 + 1)), (4, .int (v4 + 1))] [] (sk_u τ 6 (v3).toNatClampNeg (τ 5 ((τ 1 (((v2 + 2) + (2 * v4))).toNatClampNeg)).toNatClampNeg)) K
        ) ∧
        ((τ 1 (((v2 + 1) + (2 * v4))).toNatClampNeg) = 0 →
          vp_in v3 64 ∧
          sk_G sk_Sm d mX7_worked 13 [(0, .ref 0), (2, .int v2), (3, .int (v3 + 1)), (4, .int (v4 + 1))] [] (sk_u τ 6 (v3).toNatClampNeg (τ 1 (((v2 + 2) + (2 * v4))).toNatClampNeg)) K
        ))
      ) ∧
      (¬ (τ 1 (((v2 + 1) + (2 * v4))).toNatClampNeg) = 0 →
        ((¬ (τ 1 (((v2 + 1) + (2 * v4))).toNatClampNeg) = 1 →
          ((¬ (τ 1 (((v2 + 1) + (2 * v4))).toNatClampNeg) = 2 →
            vp_in ((v3 + (-1)) - 1) 64 ∧
            vp_in (v3 + (-1)) 64 ∧
            sk_C sk_Sm (d - 1) mX7_joined [.int (τ 1 (((v2 + 2) + (2 * v4))).toNatClampNeg), .int (τ 6 (((v3 + (-1)) - 1)).toNatClampNeg), .int (τ 6 ((v3 + (-1))).toNatClampNeg)] τ (fun w t153 => ∃ r153 : Int32, w = some (.int r153) ∧
              vp_in ((v3 + (-1)) - 1) 64 ∧
              sk_G sk_Sm d mX7_worked 13 [(0, .ref 0), (2, .int v2), (3, .int (v3 + (-1))), (4, .int (v4 + 1))] [] (sk_u t153 6 (((v3 + (-1)) - 1)).toNatClampNeg r153) K
            )
          ) ∧
          ((τ 1 (((v2 + 1) + (2 * v4))).toNatClampNeg) = 2 →
            vp_in (v3 - 1) 64 ∧
            ((¬ (τ 6 ((v3 - 1)).toNatClampNeg) = 0 →
              vp_in (v3 - 1) 64 ∧
              sk_G sk_Sm d mX7_worked 13 [(0, .ref 0), (2, .int v2), (3, .int v3), (4, .int (v4 + 1))] [] (sk_u τ 6 ((v3 - 1)).toNatClampNeg 0) K
            ) ∧
            ((τ 6 ((v3 - 1)).toNatClampNeg) = 0 →
              vp_in (v3 - 1) 64 ∧
              sk_G sk_Sm d mX7_worked 13 [(0, .ref 0), (2, .int v2), (3, .int v3), (4, .int (v4 + 1))] [] (sk_u τ 6 ((v3 - 1)).toNatClampNeg 1) K
            ))
          ))
        ) ∧
        ((τ 1 (((v2 + 1) + (2 * v4))).toNatClampNeg) = 1 →
          ((¬ (τ 1 (((v2 + 1) + (2 * v4))).toNatClampNeg) = 0 →
            vp_in (τ 1 (((v2 + 2) + (2 * v4))).toNatClampNeg) 128 ∧
            vp_in v3 64 ∧
            sk_G sk_Sm d mX7_worked 13 [(0, .ref 0), (2, .int v2), (3, .int (v3 + 1)), (4, .int (v4 + 1))] [] (sk_u τ 6 (v3).toNatClampNeg (τ 5 ((τ 1 (((v2 + 2) + (2 * v4))).toNatClampNeg)).toNatClampNeg)) K
          ) ∧
          ((τ 1 (((v2 + 1) + (2 * v4))).toNatClampNeg) = 0 →
            vp_in v3 64 ∧
            sk_G sk_Sm d mX7_worked 13 [(0, .ref 0), (2, .int v2), (3, .int (v3 + 1)), (4, .int (v4 + 1))] [] (sk_u τ 6 (v3).toNatClampNeg (τ 1 (((v2 + 2) + (2 * v4))).toNatClampNeg)) K
          ))
        ))
      ))
    ))) :
  sk_G sk_Sm d mX7_worked 13 [(0, .ref 0), (2, .int v2), (3, .int v3), (4, .int v4)] [] τ K := by
  refine sk_iload 3 15 dX7_worked_13 rfl rfl ?_
  refine sk_aload_n 0 16 dX7_worked_15 rfl rfl rfl ?_
  refine sk_getR (r := 1) 19 dX7_worked_16 rfl lfX7_7 sm_0 rfl ?_
  refine sk_iload_n 1 20 dX7_worked_19 rfl rfl rfl ?_
  have hb20 := h.1
  have h := h.2
  refine sk_iald 21 dX7_worked_20 rfl sm_1 hb20 _ rfl ?_
  refine sk_icmp_ge 163 24 dX7_worked_21 (by decide) rfl (fun hc => ?_) (fun hc => ?_)
  · have h := h.1 hc
    refine sk_aload_n 0 164 dX7_worked_163 rfl rfl rfl ?_
    refine sk_getR (r := 6) 167 dX7_worked_164 rfl lfX7_25 sm_0 rfl ?_
    refine sk_iconst (v := 0) 168 dX7_worked_167 rfl (by decide) ?_
    refine sk_iald 169 dX7_worked_168 rfl sm_6 (by unfold vp_in; decide) 0 rfl ?_
    exact sk_iret dX7_worked_169 rfl rfl h
  · have h := h.2 hc
    refine sk_aload_n 0 25 dX7_worked_24 rfl rfl rfl ?_
    refine sk_getR (r := 1) 28 dX7_worked_25 rfl lfX7_7 sm_0 rfl ?_
    refine sk_iload_n 1 29 dX7_worked_28 rfl rfl rfl ?_
    refine sk_iconst (v := 1) 30 dX7_worked_29 rfl (by decide) ?_
    refine sk_iadd 31 dX7_worked_30 rfl ?_
    refine sk_iconst (v := 2) 32 dX7_worked_31 rfl (by decide) ?_
    refine sk_iload 3 34 dX7_worked_32 rfl rfl ?_
    refine sk_imul 35 dX7_worked_34 rfl ?_
    refine sk_iadd 36 dX7_worked_35 rfl ?_
    have hb36 := h.1
    have h := h.2
    refine sk_iald 37 dX7_worked_36 rfl sm_1 hb36 _ rfl ?_
    refine sk_istore (lv2 := [(5, .int (τ 1 (((v2 + 1) + (2 * v4))).toNatClampNeg)), (0, .ref 0), (2, .int v2), (3, .int v3), (4, .int v4)]) 39 dX7_worked_37 rfl (by decide) rfl ?_
    refine sk_aload_n 1 40 dX7_worked_39 rfl rfl rfl ?_
    refine sk_getR (r := 1) 43 dX7_worked_40 rfl lfX7_7 sm_0 rfl ?_
    refine sk_iload_n 2 44 dX7_worked_43 rfl rfl rfl ?_
    refine sk_iconst (v := 2) 45 dX7_worked_44 rfl (by decide) ?_
    refine sk_iadd 46 dX7_worked_45 rfl ?_
    refine sk_iconst (v := 2) 47 dX7_worked_46 rfl (by decide) ?_
    refine sk_iload 4 49 dX7_worked_47 rfl rfl ?_
    refine sk_imul 50 dX7_worked_49 rfl ?_
    refine sk_iadd 51 dX7_worked_50 rfl ?_
    have hb51 := h.1
    have h := h.2
    refine sk_iald 52 dX7_worked_51 rfl sm_1 hb51 _ rfl ?_
    refine sk_istore (lv2 := [(6, .int (τ 1 (((v2 + 2) + (2 * v4))).toNatClampNeg)), (5, .int (τ 1 (((v2 + 1) + (2 * v4))).toNatClampNeg)), (0, .ref 0), (2, .int v2), (3, .int v3), (4, .int v4)]) 54 dX7_worked_52 rfl (by decide) rfl ?_
    refine sk_iload 1 56 dX7_worked_54 rfl rfl ?_
    refine sk_if_eq 65 59 dX7_worked_56 (by decide) rfl (fun hc => ?_) (fun hc => ?_)
    · have h := h.1 hc
      refine sk_aload_n 2 66 dX7_worked_65 rfl rfl rfl ?_
      refine sk_getR (r := 6) 69 dX7_worked_66 rfl lfX7_25 sm_0 rfl ?_
      refine sk_iload_n 4 70 dX7_worked_69 rfl rfl rfl ?_
      refine sk_iload 1 72 dX7_worked_70 rfl rfl ?_
      refine sk_if_ne 80 75 dX7_worked_72 (by decide) rfl (fun hc => ?_) (fun hc => ?_)
      · have h := h.1 hc
        refine sk_aload_n 2 81 dX7_worked_80 rfl rfl rfl ?_
        refine sk_getR (r := 5) 84 dX7_worked_81 rfl lfX7_22 sm_0 rfl ?_
        refine sk_iload 0 86 dX7_worked_84 rfl rfl ?_
        have hb86 := h.1
        have h := h.2
        refine sk_iald 87 dX7_worked_86 rfl sm_5 hb86 _ rfl ?_
        have hb87 := h.1
        have h := h.2
        refine sk_iast 88 dX7_worked_87 rfl sm_6 hb87 _ rfl ?_
        refine sk_iinc (v := (v3 + 1)) (lv2 := [(3, .int (v3 + 1)), (6, .int (τ 1 (((v2 + 2) + (2 * v4))).toNatClampNeg)), (5, .int (τ 1 (((v2 + 1) + (2 * v4))).toNatClampNeg)), (0, .ref 0), (2, .int v2), (4, .int v4)]) 4 91 dX7_worked_88 rfl rfl rfl (by decide) rfl ?_
        refine sk_goto 157 dX7_worked_91 (by decide) ?_
        refine sk_iinc (v := (v4 + 1)) (lv2 := [(4, .int (v4 + 1)), (3, .int (v3 + 1)), (6, .int (τ 1 (((v2 + 2) + (2 * v4))).toNatClampNeg)), (5, .int (τ 1 (((v2 + 1) + (2 * v4))).toNatClampNeg)), (0, .ref 0), (2, .int v2)]) 5 160 dX7_worked_157 rfl rfl rfl (by decide) rfl ?_
        refine sk_goto 13 dX7_worked_160 (by decide) ?_
        refine sk_perm (lv2 := [(0, .ref 0), (2, .int v2), (3, .int (v3 + 1)), (4, .int (v4 + 1))]) [4, 5, 1, 0] rfl ?_
        exact h
      · have h := h.2 hc
        refine sk_iload 0 77 dX7_worked_75 rfl rfl ?_
        refine sk_goto 87 dX7_worked_77 (by decide) ?_
        have hb87 := h.1
        have h := h.2
        refine sk_iast 88 dX7_worked_87 rfl sm_6 hb87 _ rfl ?_
        refine sk_iinc (v := (v3 + 1)) (lv2 := [(3, .int (v3 + 1)), (6, .int (τ 1 (((v2 + 2) + (2 * v4))).toNatClampNeg)), (5, .int (τ 1 (((v2 + 1) + (2 * v4))).toNatClampNeg)), (0, .ref 0), (2, .int v2), (4, .int v4)]) 4 91 dX7_worked_88 rfl rfl rfl (by decide) rfl ?_
        refine sk_goto 157 dX7_worked_91 (by decide) ?_
        refine sk_iinc (v := (v4 + 1)) (lv2 := [(4, .int (v4 + 1)), (3, .int (v3 + 1)), (6, .int (τ 1 (((v2 + 2) + (2 * v4))).toNatClampNeg)), (5, .int (τ 1 (((v2 + 1) + (2 * v4))).toNatClampNeg)), (0, .ref 0), (2, .int v2)]) 5 160 dX7_worked_157 rfl rfl rfl (by decide) rfl ?_
        refine sk_goto 13 dX7_worked_160 (by decide) ?_
        refine sk_perm (lv2 := [(0, .ref 0), (2, .int v2), (3, .int (v3 + 1)), (4, .int (v4 + 1))]) [4, 5, 1, 0] rfl ?_
        exact h
    · have h := h.2 hc
      refine sk_iload 1 61 dX7_worked_59 rfl rfl ?_
      refine sk_iconst (v := 1) 62 dX7_worked_61 rfl (by decide) ?_
      refine sk_icmp_ne 94 65 dX7_worked_62 (by decide) rfl (fun hc => ?_) (fun hc => ?_)
      · have h := h.1 hc
        refine sk_iload 1 96 dX7_worked_94 rfl rfl ?_
        refine sk_iconst (v := 2) 97 dX7_worked_96 rfl (by decide) ?_
        refine sk_icmp_ne 127 100 dX7_worked_97 (by decide) rfl (fun hc => ?_) (fun hc => ?_)
        · have h := h.1 hc
          refine sk_iinc (v := (v3 + (-1))) (lv2 := [(3, .int (v3 + (-1))), (6, .int (τ 1 (((v2 + 2) + (2 * v4))).toNatClampNeg)), (5, .int (τ 1 (((v2 + 1) + (2 * v4))).toNatClampNeg)), (0, .ref 0), (2, .int v2), (4, .int v4)]) 4 130 dX7_worked_127 rfl rfl rfl (by decide) rfl ?_
          refine sk_aload_n 3 131 dX7_worked_130 rfl rfl rfl ?_
          refine sk_getR (r := 6) 134 dX7_worked_131 rfl lfX7_25 sm_0 rfl ?_
          refine sk_iload_n 0 135 dX7_worked_134 rfl rfl rfl ?_
          refine sk_iconst (v := 1) 136 dX7_worked_135 rfl (by decide) ?_
          refine sk_isub 137 dX7_worked_136 rfl ?_
          refine sk_iload 1 139 dX7_worked_137 rfl rfl ?_
          refine sk_aload_n 3 140 dX7_worked_139 rfl rfl rfl ?_
          refine sk_getR (r := 6) 143 dX7_worked_140 rfl lfX7_25 sm_0 rfl ?_
          refine sk_iload_n 0 144 dX7_worked_143 rfl rfl rfl ?_
          refine sk_iconst (v := 1) 145 dX7_worked_144 rfl (by decide) ?_
          refine sk_isub 146 dX7_worked_145 rfl ?_
          have hb146 := h.1
          have h := h.2
          refine sk_iald 147 dX7_worked_146 rfl sm_6 hb146 _ rfl ?_
          refine sk_aload_n 3 148 dX7_worked_147 rfl rfl rfl ?_
          refine sk_getR (r := 6) 151 dX7_worked_148 rfl lfX7_25 sm_0 rfl ?_
          refine sk_iload_n 0 152 dX7_worked_151 rfl rfl rfl ?_
          have hb152 := h.1
          have h := h.2
          refine sk_iald 153 dX7_worked_152 rfl sm_6 hb152 _ rfl ?_
          refine sk_callSi [.int (τ 1 (((v2 + 2) + (2 * v4))).toNatClampNeg), .int (τ 6 (((v3 + (-1)) - 1)).toNatClampNeg), .int (τ 6 ((v3 + (-1))).toNatClampNeg)] [.int ((v3 + (-1)) - 1), .ref 6] 156 dX7_worked_153 rfl mfX7_joined lkX7_107 miX7_joined rfl rfl (by simp [Value.category]) hd0 (sk_Cm h ?_)
          rintro w t153 ⟨r153, hw, h⟩
          refine ⟨r153, hw, ?_⟩
          have hb156 := h.1
          have h := h.2
          refine sk_iast 157 dX7_worked_156 rfl sm_6 hb156 _ rfl ?_
          refine sk_iinc (v := (v4 + 1)) (lv2 := [(4, .int (v4 + 1)), (3, .int (v3 + (-1))), (6, .int (τ 1 (((v2 + 2) + (2 * v4))).toNatClampNeg)), (5, .int (τ 1 (((v2 + 1) + (2 * v4))).toNatClampNeg)), (0, .ref 0), (2, .int v2)]) 5 160 dX7_worked_157 rfl rfl rfl (by decide) rfl ?_
          refine sk_goto 13 dX7_worked_160 (by decide) ?_
          refine sk_perm (lv2 := [(0, .ref 0), (2, .int v2), (3, .int (v3 + (-1))), (4, .int (v4 + 1))]) [4, 5, 1, 0] rfl ?_
          exact h
        · have h := h.2 hc
          refine sk_aload_n 2 101 dX7_worked_100 rfl rfl rfl ?_
          refine sk_getR (r := 6) 104 dX7_worked_101 rfl lfX7_25 sm_0 rfl ?_
          refine sk_iload_n 4 105 dX7_worked_104 rfl rfl rfl ?_
          refine sk_iconst (v := 1) 106 dX7_worked_105 rfl (by decide) ?_
          refine sk_isub 107 dX7_worked_106 rfl ?_
          refine sk_aload_n 2 108 dX7_worked_107 rfl rfl rfl ?_
          refine sk_getR (r := 6) 111 dX7_worked_108 rfl lfX7_25 sm_0 rfl ?_
          refine sk_iload_n 4 112 dX7_worked_111 rfl rfl rfl ?_
          refine sk_iconst (v := 1) 113 dX7_worked_112 rfl (by decide) ?_
          refine sk_isub 114 dX7_worked_113 rfl ?_
          have hb114 := h.1
          have h := h.2
          refine sk_iald 115 dX7_worked_114 rfl sm_6 hb114 _ rfl ?_
          refine sk_if_ne 122 118 dX7_worked_115 (by decide) rfl (fun hc => ?_) (fun hc => ?_)
          · have h := h.1 hc
            refine sk_iconst (v := 0) 123 dX7_worked_122 rfl (by decide) ?_
            have hb123 := h.1
            have h := h.2
            refine sk_iast 124 dX7_worked_123 rfl sm_6 hb123 _ rfl ?_
            refine sk_goto 157 dX7_worked_124 (by decide) ?_
            refine sk_iinc (v := (v4 + 1)) (lv2 := [(4, .int (v4 + 1)), (6, .int (τ 1 (((v2 + 2) + (2 * v4))).toNatClampNeg)), (5, .int (τ 1 (((v2 + 1) + (2 * v4))).toNatClampNeg)), (0, .ref 0), (2, .int v2), (3, .int v3)]) 5 160 dX7_worked_157 rfl rfl rfl (by decide) rfl ?_
            refine sk_goto 13 dX7_worked_160 (by decide) ?_
            refine sk_perm (lv2 := [(0, .ref 0), (2, .int v2), (3, .int v3), (4, .int (v4 + 1))]) [3, 4, 5, 0] rfl ?_
            exact h
          · have h := h.2 hc
            refine sk_iconst (v := 1) 119 dX7_worked_118 rfl (by decide) ?_
            refine sk_goto 123 dX7_worked_119 (by decide) ?_
            have hb123 := h.1
            have h := h.2
            refine sk_iast 124 dX7_worked_123 rfl sm_6 hb123 _ rfl ?_
            refine sk_goto 157 dX7_worked_124 (by decide) ?_
            refine sk_iinc (v := (v4 + 1)) (lv2 := [(4, .int (v4 + 1)), (6, .int (τ 1 (((v2 + 2) + (2 * v4))).toNatClampNeg)), (5, .int (τ 1 (((v2 + 1) + (2 * v4))).toNatClampNeg)), (0, .ref 0), (2, .int v2), (3, .int v3)]) 5 160 dX7_worked_157 rfl rfl rfl (by decide) rfl ?_
            refine sk_goto 13 dX7_worked_160 (by decide) ?_
            refine sk_perm (lv2 := [(0, .ref 0), (2, .int v2), (3, .int v3), (4, .int (v4 + 1))]) [3, 4, 5, 0] rfl ?_
            exact h
      · have h := h.2 hc
        refine sk_aload_n 2 66 dX7_worked_65 rfl rfl rfl ?_
        refine sk_getR (r := 6) 69 dX7_worked_66 rfl lfX7_25 sm_0 rfl ?_
        refine sk_iload_n 4 70 dX7_worked_69 rfl rfl rfl ?_
        refine sk_iload 1 72 dX7_worked_70 rfl rfl ?_
        refine sk_if_ne 80 75 dX7_worked_72 (by decide) rfl (fun hc => ?_) (fun hc => ?_)
        · have h := h.1 hc
          refine sk_aload_n 2 81 dX7_worked_80 rfl rfl rfl ?_
          refine sk_getR (r := 5) 84 dX7_worked_81 rfl lfX7_22 sm_0 rfl ?_
          refine sk_iload 0 86 dX7_worked_84 rfl rfl ?_
          have hb86 := h.1
          have h := h.2
          refine sk_iald 87 dX7_worked_86 rfl sm_5 hb86 _ rfl ?_
          have hb87 := h.1
          have h := h.2
          refine sk_iast 88 dX7_worked_87 rfl sm_6 hb87 _ rfl ?_
          refine sk_iinc (v := (v3 + 1)) (lv2 := [(3, .int (v3 + 1)), (6, .int (τ 1 (((v2 + 2) + (2 * v4))).toNatClampNeg)), (5, .int (τ 1 (((v2 + 1) + (2 * v4))).toNatClampNeg)), (0, .ref 0), (2, .int v2), (4, .int v4)]) 4 91 dX7_worked_88 rfl rfl rfl (by decide) rfl ?_
          refine sk_goto 157 dX7_worked_91 (by decide) ?_
          refine sk_iinc (v := (v4 + 1)) (lv2 := [(4, .int (v4 + 1)), (3, .int (v3 + 1)), (6, .int (τ 1 (((v2 + 2) + (2 * v4))).toNatClampNeg)), (5, .int (τ 1 (((v2 + 1) + (2 * v4))).toNatClampNeg)), (0, .ref 0), (2, .int v2)]) 5 160 dX7_worked_157 rfl rfl rfl (by decide) rfl ?_
          refine sk_goto 13 dX7_worked_160 (by decide) ?_
          refine sk_perm (lv2 := [(0, .ref 0), (2, .int v2), (3, .int (v3 + 1)), (4, .int (v4 + 1))]) [4, 5, 1, 0] rfl ?_
          exact h
        · have h := h.2 hc
          refine sk_iload 0 77 dX7_worked_75 rfl rfl ?_
          refine sk_goto 87 dX7_worked_77 (by decide) ?_
          have hb87 := h.1
          have h := h.2
          refine sk_iast 88 dX7_worked_87 rfl sm_6 hb87 _ rfl ?_
          refine sk_iinc (v := (v3 + 1)) (lv2 := [(3, .int (v3 + 1)), (6, .int (τ 1 (((v2 + 2) + (2 * v4))).toNatClampNeg)), (5, .int (τ 1 (((v2 + 1) + (2 * v4))).toNatClampNeg)), (0, .ref 0), (2, .int v2), (4, .int v4)]) 4 91 dX7_worked_88 rfl rfl rfl (by decide) rfl ?_
          refine sk_goto 157 dX7_worked_91 (by decide) ?_
          refine sk_iinc (v := (v4 + 1)) (lv2 := [(4, .int (v4 + 1)), (3, .int (v3 + 1)), (6, .int (τ 1 (((v2 + 2) + (2 * v4))).toNatClampNeg)), (5, .int (τ 1 (((v2 + 1) + (2 * v4))).toNatClampNeg)), (0, .ref 0), (2, .int v2)]) 5 160 dX7_worked_157 rfl rfl rfl (by decide) rfl ?_
          refine sk_goto 13 dX7_worked_160 (by decide) ?_
          refine sk_perm (lv2 := [(0, .ref 0), (2, .int v2), (3, .int (v3 + 1)), (4, .int (v4 + 1))]) [4, 5, 1, 0] rfl ?_
          exact h

theorem wX7_broad {d : Nat} {τ : sk_T} {K : sk_K} {v1 : Int32} (hd0 : 0 < d)
  (h : sk_C sk_Sm (d - 1) mX7_its [.ref 0, .int v1, .int 2] τ (fun w t3 => ∃ r3 : Int32, w = some (.int r3) ∧
      sk_C sk_Sm (d - 1) mX7_its [.ref 0, .int v1, .int 0] t3 (fun w t10 => ∃ r10 : Int32, w = some (.int r10) ∧
        (
        (r10 = 1 →
          K (some (.int (r3 + 1))) t10
        ) ∧
        (r10 = 2 →
          K (some (.int r3)) t10
        ) ∧
        (r10 = 3 →
          K (some (.int r3)) t10
        ) ∧
        (r10 = 4 →
          K (some (.int (r3 + 1))) t10
        ) ∧
        (r10 = 5 →
          ((r3 ≤ 1 →
            K (some (.int 1)) t10
          ) ∧
          (¬ r3 ≤ 1 →
            K (some (.int (r3 - 1))) t10
          ))
        ) ∧
        ((¬ r10 = 1 ∧ ¬ r10 = 2 ∧ ¬ r10 = 3 ∧ ¬ r10 = 4 ∧ ¬ r10 = 5) →
          K (some (.int r3)) t10
        ))
      )
    )) :
  sk_C sk_Sm d mX7_broad [.ref 0, .int v1] τ K := by
  refine sk_enter mfX7_broad (Nat.le_of_ble_eq_true rfl) ?_
  show sk_G sk_Sm d mX7_broad 0 [(0, .ref 0), (1, .int v1)] [] τ K
  refine sk_aload_n 0 1 dX7_broad_0 rfl rfl rfl ?_
  refine sk_iload_n 1 2 dX7_broad_1 rfl rfl rfl ?_
  refine sk_iconst (v := 2) 3 dX7_broad_2 rfl (by decide) ?_
  refine sk_callVi [.int v1, .int 2] [] 6 dX7_broad_3 rfl mfX7_its lkX7_111 miX7_its msX7_its sm_0 rfl rfl rfl rfl (by simp [Value.category]) hd0 (sk_Cm h ?_)
  rintro w t3 ⟨r3, hw, h⟩
  refine ⟨r3, hw, ?_⟩
  refine sk_istore_n (lv2 := [(2, .int r3), (0, .ref 0), (1, .int v1)]) 7 dX7_broad_6 rfl rfl (by decide) rfl ?_
  refine sk_aload_n 1 8 dX7_broad_7 rfl rfl rfl ?_
  refine sk_iload_n 2 9 dX7_broad_8 rfl rfl rfl ?_
  refine sk_iconst (v := 0) 10 dX7_broad_9 rfl (by decide) ?_
  refine sk_callVi [.int v1, .int 0] [] 13 dX7_broad_10 rfl mfX7_its lkX7_111 miX7_its msX7_its sm_0 rfl rfl rfl rfl (by simp [Value.category]) hd0 (sk_Cm h ?_)
  rintro w t10 ⟨r10, hw, h⟩
  refine ⟨r10, hw, ?_⟩
  refine sk_table [48, 65, 65, 48, 52] 65 dX7_broad_13 (by decide) (by decide) (by decide) (by decide) ⟨fun e => ?_, fun e => ?_, fun e => ?_, fun e => ?_, fun e => ?_, trivial⟩ (fun e => ?_)
  · have h := h.1 e
    refine sk_iload_n 0 49 dX7_broad_48 rfl rfl rfl ?_
    refine sk_iconst (v := 1) 50 dX7_broad_49 rfl (by decide) ?_
    refine sk_iadd 51 dX7_broad_50 rfl ?_
    exact sk_iret dX7_broad_51 rfl rfl h
  · have h := h.2.1 e
    refine sk_iload_n 0 66 dX7_broad_65 rfl rfl rfl ?_
    exact sk_iret dX7_broad_66 rfl rfl h
  · have h := h.2.2.1 e
    refine sk_iload_n 0 66 dX7_broad_65 rfl rfl rfl ?_
    exact sk_iret dX7_broad_66 rfl rfl h
  · have h := h.2.2.2.1 e
    refine sk_iload_n 0 49 dX7_broad_48 rfl rfl rfl ?_
    refine sk_iconst (v := 1) 50 dX7_broad_49 rfl (by decide) ?_
    refine sk_iadd 51 dX7_broad_50 rfl ?_
    exact sk_iret dX7_broad_51 rfl rfl h
  · have h := h.2.2.2.2.1 e
    refine sk_iload_n 0 53 dX7_broad_52 rfl rfl rfl ?_
    refine sk_iconst (v := 1) 54 dX7_broad_53 rfl (by decide) ?_
    refine sk_icmp_le 63 57 dX7_broad_54 (by decide) rfl (fun hc => ?_) (fun hc => ?_)
    · have h := h.1 hc
      refine sk_iconst (v := 1) 64 dX7_broad_63 rfl (by decide) ?_
      exact sk_iret dX7_broad_64 rfl rfl h
    · have h := h.2 hc
      refine sk_iload_n 0 58 dX7_broad_57 rfl rfl rfl ?_
      refine sk_iconst (v := 1) 59 dX7_broad_58 rfl (by decide) ?_
      refine sk_isub 60 dX7_broad_59 rfl ?_
      refine sk_goto 64 dX7_broad_60 (by decide) ?_
      exact sk_iret dX7_broad_64 rfl rfl h
  · have h := h.2.2.2.2.2 ⟨e 0 (by decide), e 1 (by decide), e 2 (by decide), e 3 (by decide), e 4 (by decide)⟩
    refine sk_iload_n 0 66 dX7_broad_65 rfl rfl rfl ?_
    exact sk_iret dX7_broad_66 rfl rfl h

theorem wX7_holdsOf {d : Nat} {τ : sk_T} {K : sk_K} {v1 : Int32} (hd0 : 0 < d)
  (h : sk_C sk_Sm (d - 1) mX7_its [.ref 0, .int v1, .int 3] τ (fun w t3 => ∃ r3 : Int32, w = some (.int r3) ∧
      sk_C sk_Sm (d - 1) mX7_its [.ref 0, .int v1, .int 1] t3 (fun w t10 => ∃ r10 : Int32, w = some (.int r10) ∧
        sk_C sk_Sm (d - 1) mX7_its [.ref 0, .int v1, .int 0] t10 (fun w t24 => ∃ r24 : Int32, w = some (.int r24) ∧
          (
          (r24 = 1 →
            K (some (.int (((3 * r3) + r10) - 2))) t24
          ) ∧
          (r24 = 2 →
            sk_C sk_Sm (d - 1) mX7_its [.ref 0, .int v1, .int 5] t24 (fun w t74 => ∃ r74 : Int32, w = some (.int r74) ∧
              K (some (.int (((3 * r3) + r10) + (r74 / 5)))) t74
            )
          ) ∧
          (r24 = 3 →
            K (some (.int (((3 * r3) + r10) + ((t24 1 0) % 3)))) t24
          ) ∧
          (r24 = 4 →
            K (some (.int ((((3 * r3) + r10) - 2) + r3))) t24
          ) ∧
          (r24 = 5 →
            sk_C sk_Sm (d - 1) mX7_its [.ref 0, .int v1, .int 5] t24 (fun w t106 => ∃ r106 : Int32, w = some (.int r106) ∧
              K (some (.int ((2 * (((3 * r3) + r10) + (r106 / 5))) - r10))) t106
            )
          ) ∧
          (r24 = 6 →
            ((¬ (t24 1 1) = 1 →
              K (some (.int ((3 * r3) + r10))) t24
            ) ∧
            ((t24 1 1) = 1 →
              K (some (.int 0)) t24
            ))
          ) ∧
          ((¬ r24 = 1 ∧ ¬ r24 = 2 ∧ ¬ r24 = 3 ∧ ¬ r24 = 4 ∧ ¬ r24 = 5 ∧ ¬ r24 = 6) →
            K (some (.int ((3 * r3) + r10))) t24
          ))
        )
      )
    )) :
  sk_C sk_Sm d mX7_holdsOf [.ref 0, .int v1] τ K := by
  refine sk_enter mfX7_holdsOf (Nat.le_of_ble_eq_true rfl) ?_
  show sk_G sk_Sm d mX7_holdsOf 0 [(0, .ref 0), (1, .int v1)] [] τ K
  refine sk_aload_n 0 1 dX7_holdsOf_0 rfl rfl rfl ?_
  refine sk_iload_n 1 2 dX7_holdsOf_1 rfl rfl rfl ?_
  refine sk_iconst (v := 3) 3 dX7_holdsOf_2 rfl (by decide) ?_
  refine sk_callVi [.int v1, .int 3] [] 6 dX7_holdsOf_3 rfl mfX7_its lkX7_111 miX7_its msX7_its sm_0 rfl rfl rfl rfl (by simp [Value.category]) hd0 (sk_Cm h ?_)
  rintro w t3 ⟨r3, hw, h⟩
  refine ⟨r3, hw, ?_⟩
  refine sk_istore_n (lv2 := [(2, .int r3), (0, .ref 0), (1, .int v1)]) 7 dX7_holdsOf_6 rfl rfl (by decide) rfl ?_
  refine sk_aload_n 1 8 dX7_holdsOf_7 rfl rfl rfl ?_
  refine sk_iload_n 2 9 dX7_holdsOf_8 rfl rfl rfl ?_
  refine sk_iconst (v := 1) 10 dX7_holdsOf_9 rfl (by decide) ?_
  refine sk_callVi [.int v1, .int 1] [] 13 dX7_holdsOf_10 rfl mfX7_its lkX7_111 miX7_its msX7_its sm_0 rfl rfl rfl rfl (by simp [Value.category]) hd0 (sk_Cm h ?_)
  rintro w t10 ⟨r10, hw, h⟩
  refine ⟨r10, hw, ?_⟩
  refine sk_istore_n (lv2 := [(3, .int r10), (2, .int r3), (0, .ref 0), (1, .int v1)]) 14 dX7_holdsOf_13 rfl rfl (by decide) rfl ?_
  refine sk_iconst (v := 3) 15 dX7_holdsOf_14 rfl (by decide) ?_
  refine sk_iload_n 1 16 dX7_holdsOf_15 rfl rfl rfl ?_
  refine sk_imul 17 dX7_holdsOf_16 rfl ?_
  refine sk_iload_n 0 18 dX7_holdsOf_17 rfl rfl rfl ?_
  refine sk_iadd 19 dX7_holdsOf_18 rfl ?_
  refine sk_istore (lv2 := [(4, .int ((3 * r3) + r10)), (3, .int r10), (2, .int r3), (0, .ref 0), (1, .int v1)]) 21 dX7_holdsOf_19 rfl (by decide) rfl ?_
  refine sk_aload_n 3 22 dX7_holdsOf_21 rfl rfl rfl ?_
  refine sk_iload_n 4 23 dX7_holdsOf_22 rfl rfl rfl ?_
  refine sk_iconst (v := 0) 24 dX7_holdsOf_23 rfl (by decide) ?_
  refine sk_callVi [.int v1, .int 0] [] 27 dX7_holdsOf_24 rfl mfX7_its lkX7_111 miX7_its msX7_its sm_0 rfl rfl rfl rfl (by simp [Value.category]) hd0 (sk_Cm h ?_)
  rintro w t24 ⟨r24, hw, h⟩
  refine ⟨r24, hw, ?_⟩
  refine sk_table [64, 69, 81, 93, 100, 116] 133 dX7_holdsOf_27 (by decide) (by decide) (by decide) (by decide) ⟨fun e => ?_, fun e => ?_, fun e => ?_, fun e => ?_, fun e => ?_, fun e => ?_, trivial⟩ (fun e => ?_)
  · have h := h.1 e
    refine sk_iload 0 66 dX7_holdsOf_64 rfl rfl ?_
    refine sk_iconst (v := 2) 67 dX7_holdsOf_66 rfl (by decide) ?_
    refine sk_isub 68 dX7_holdsOf_67 rfl ?_
    exact sk_iret dX7_holdsOf_68 rfl rfl h
  · have h := h.2.1 e
    refine sk_iload 0 71 dX7_holdsOf_69 rfl rfl ?_
    refine sk_aload_n 3 72 dX7_holdsOf_71 rfl rfl rfl ?_
    refine sk_iload_n 4 73 dX7_holdsOf_72 rfl rfl rfl ?_
    refine sk_iconst (v := 5) 74 dX7_holdsOf_73 rfl (by decide) ?_
    refine sk_callVi [.int v1, .int 5] [.int ((3 * r3) + r10)] 77 dX7_holdsOf_74 rfl mfX7_its lkX7_111 miX7_its msX7_its sm_0 rfl rfl rfl rfl (by simp [Value.category]) hd0 (sk_Cm h ?_)
    rintro w t74 ⟨r74, hw, h⟩
    refine ⟨r74, hw, ?_⟩
    refine sk_iconst (v := 5) 78 dX7_holdsOf_77 rfl (by decide) ?_
    refine sk_idiv 79 dX7_holdsOf_78 rfl (by decide) ?_
    refine sk_iadd 80 dX7_holdsOf_79 rfl ?_
    exact sk_iret dX7_holdsOf_80 rfl rfl h
  · have h := h.2.2.1 e
    refine sk_iload 0 83 dX7_holdsOf_81 rfl rfl ?_
    refine sk_aload_n 3 84 dX7_holdsOf_83 rfl rfl rfl ?_
    refine sk_getR (r := 1) 87 dX7_holdsOf_84 rfl lfX7_7 sm_0 rfl ?_
    refine sk_iconst (v := 0) 88 dX7_holdsOf_87 rfl (by decide) ?_
    refine sk_iald 89 dX7_holdsOf_88 rfl sm_1 (by unfold vp_in; decide) 0 rfl ?_
    refine sk_iconst (v := 3) 90 dX7_holdsOf_89 rfl (by decide) ?_
    refine sk_irem 91 dX7_holdsOf_90 rfl (by decide) ?_
    refine sk_iadd 92 dX7_holdsOf_91 rfl ?_
    exact sk_iret dX7_holdsOf_92 rfl rfl h
  · have h := h.2.2.2.1 e
    refine sk_iload 0 95 dX7_holdsOf_93 rfl rfl ?_
    refine sk_iconst (v := 2) 96 dX7_holdsOf_95 rfl (by decide) ?_
    refine sk_isub 97 dX7_holdsOf_96 rfl ?_
    refine sk_iload_n 2 98 dX7_holdsOf_97 rfl rfl rfl ?_
    refine sk_iadd 99 dX7_holdsOf_98 rfl ?_
    exact sk_iret dX7_holdsOf_99 rfl rfl h
  · have h := h.2.2.2.2.1 e
    refine sk_iconst (v := 2) 101 dX7_holdsOf_100 rfl (by decide) ?_
    refine sk_iload 0 103 dX7_holdsOf_101 rfl rfl ?_
    refine sk_aload_n 3 104 dX7_holdsOf_103 rfl rfl rfl ?_
    refine sk_iload_n 4 105 dX7_holdsOf_104 rfl rfl rfl ?_
    refine sk_iconst (v := 5) 106 dX7_holdsOf_105 rfl (by decide) ?_
    refine sk_callVi [.int v1, .int 5] [.int ((3 * r3) + r10), .int 2] 109 dX7_holdsOf_106 rfl mfX7_its lkX7_111 miX7_its msX7_its sm_0 rfl rfl rfl rfl (by simp [Value.category]) hd0 (sk_Cm h ?_)
    rintro w t106 ⟨r106, hw, h⟩
    refine ⟨r106, hw, ?_⟩
    refine sk_iconst (v := 5) 110 dX7_holdsOf_109 rfl (by decide) ?_
    refine sk_idiv 111 dX7_holdsOf_110 rfl (by decide) ?_
    refine sk_iadd 112 dX7_holdsOf_111 rfl ?_
    refine sk_imul 113 dX7_holdsOf_112 rfl ?_
    refine sk_iload_n 1 114 dX7_holdsOf_113 rfl rfl rfl ?_
    refine sk_isub 115 dX7_holdsOf_114 rfl ?_
    exact sk_iret dX7_holdsOf_115 rfl rfl h
  · have h := h.2.2.2.2.2.1 e
    refine sk_aload_n 3 117 dX7_holdsOf_116 rfl rfl rfl ?_
    refine sk_getR (r := 1) 120 dX7_holdsOf_117 rfl lfX7_7 sm_0 rfl ?_
    refine sk_iconst (v := 1) 121 dX7_holdsOf_120 rfl (by decide) ?_
    refine sk_iald 122 dX7_holdsOf_121 rfl sm_1 (by unfold vp_in; decide) 1 rfl ?_
    refine sk_iconst (v := 1) 123 dX7_holdsOf_122 rfl (by decide) ?_
    refine sk_icmp_ne 130 126 dX7_holdsOf_123 (by decide) rfl (fun hc => ?_) (fun hc => ?_)
    · have h := h.1 hc
      refine sk_iload 0 132 dX7_holdsOf_130 rfl rfl ?_
      exact sk_iret dX7_holdsOf_132 rfl rfl h
    · have h := h.2 hc
      refine sk_iconst (v := 0) 127 dX7_holdsOf_126 rfl (by decide) ?_
      refine sk_goto 132 dX7_holdsOf_127 (by decide) ?_
      exact sk_iret dX7_holdsOf_132 rfl rfl h
  · have h := h.2.2.2.2.2.2 ⟨e 0 (by decide), e 1 (by decide), e 2 (by decide), e 3 (by decide), e 4 (by decide), e 5 (by decide)⟩
    refine sk_iload 0 135 dX7_holdsOf_133 rfl rfl ?_
    exact sk_iret dX7_holdsOf_135 rfl rfl h

theorem wX7_holdTold {d : Nat} {τ : sk_T} {K : sk_K} {v1 : Int32} {v2 : Int32} {v3 : Int32} (hd0 : 0 < d)
  (h : sk_C sk_Sm (d - 1) mX7_hasText [.ref 0, .int 0] (sk_u (sk_u (sk_u τ 5 104 v1) 5 110 v2) 5 103 v3) (fun w t26 => ∃ r26 : Int32, w = some (.int r26) ∧
      ((r26 = 0 →
        sk_C sk_Sm (d - 1) mX7_held [.int v1, .int 0, .int 99] t26 (fun w t44 => ∃ r44 : Int32, w = some (.int r44) ∧
          K (some (.int r44)) t44
        )
      ) ∧
      (¬ r26 = 0 →
        sk_C sk_Sm (d - 1) mX7_worked [.ref 0, .int 0] t26 (fun w t34 => ∃ r34 : Int32, w = some (.int r34) ∧
          sk_C sk_Sm (d - 1) mX7_held [.int r34, .int 0, .int 99] t34 (fun w t44 => ∃ r44 : Int32, w = some (.int r44) ∧
            K (some (.int r44)) t44
          )
        )
      ))
    )) :
  sk_C sk_Sm d mX7_holdTold [.ref 0, .int v1, .int v2, .int v3] τ K := by
  refine sk_enter mfX7_holdTold (Nat.le_of_ble_eq_true rfl) ?_
  show sk_G sk_Sm d mX7_holdTold 0 [(0, .ref 0), (1, .int v1), (2, .int v2), (3, .int v3)] [] τ K
  refine sk_aload_n 0 1 dX7_holdTold_0 rfl rfl rfl ?_
  refine sk_getR (r := 5) 4 dX7_holdTold_1 rfl lfX7_22 sm_0 rfl ?_
  refine sk_bipush (v := 104) 6 dX7_holdTold_4 rfl (by decide) ?_
  refine sk_iload_n 1 7 dX7_holdTold_6 rfl rfl rfl ?_
  refine sk_iast 8 dX7_holdTold_7 rfl sm_5 (by unfold vp_in; decide) 104 rfl ?_
  refine sk_aload_n 0 9 dX7_holdTold_8 rfl rfl rfl ?_
  refine sk_getR (r := 5) 12 dX7_holdTold_9 rfl lfX7_22 sm_0 rfl ?_
  refine sk_bipush (v := 110) 14 dX7_holdTold_12 rfl (by decide) ?_
  refine sk_iload_n 2 15 dX7_holdTold_14 rfl rfl rfl ?_
  refine sk_iast 16 dX7_holdTold_15 rfl sm_5 (by unfold vp_in; decide) 110 rfl ?_
  refine sk_aload_n 0 17 dX7_holdTold_16 rfl rfl rfl ?_
  refine sk_getR (r := 5) 20 dX7_holdTold_17 rfl lfX7_22 sm_0 rfl ?_
  refine sk_bipush (v := 103) 22 dX7_holdTold_20 rfl (by decide) ?_
  refine sk_iload_n 3 23 dX7_holdTold_22 rfl rfl rfl ?_
  refine sk_iast 24 dX7_holdTold_23 rfl sm_5 (by unfold vp_in; decide) 103 rfl ?_
  refine sk_aload_n 0 25 dX7_holdTold_24 rfl rfl rfl ?_
  refine sk_iconst (v := 0) 26 dX7_holdTold_25 rfl (by decide) ?_
  refine sk_callVi [.int 0] [] 29 dX7_holdTold_26 rfl mfX7_hasText lkX7_104 miX7_hasText msX7_hasText sm_0 rfl rfl rfl rfl (by simp [Value.category]) hd0 (sk_Cm h ?_)
  rintro w t26 ⟨r26, hw, h⟩
  refine ⟨r26, hw, ?_⟩
  refine sk_if_eq 40 32 dX7_holdTold_29 (by decide) rfl (fun hc => ?_) (fun hc => ?_)
  · have h := h.1 hc
    refine sk_iload_n 1 41 dX7_holdTold_40 rfl rfl rfl ?_
    refine sk_iconst (v := 0) 42 dX7_holdTold_41 rfl (by decide) ?_
    refine sk_bipush (v := 99) 44 dX7_holdTold_42 rfl (by decide) ?_
    refine sk_callSi [.int v1, .int 0, .int 99] [] 47 dX7_holdTold_44 rfl mfX7_held lkX7_118 miX7_held rfl rfl (by simp [Value.category]) hd0 (sk_Cm h ?_)
    rintro w t44 ⟨r44, hw, h⟩
    refine ⟨r44, hw, ?_⟩
    exact sk_iret dX7_holdTold_47 rfl rfl h
  · have h := h.2 hc
    refine sk_aload_n 0 33 dX7_holdTold_32 rfl rfl rfl ?_
    refine sk_iconst (v := 0) 34 dX7_holdTold_33 rfl (by decide) ?_
    refine sk_callVi [.int 0] [] 37 dX7_holdTold_34 rfl mfX7_worked lkX7_115 miX7_worked msX7_worked sm_0 rfl rfl rfl rfl (by simp [Value.category]) hd0 (sk_Cm h ?_)
    rintro w t34 ⟨r34, hw, h⟩
    refine ⟨r34, hw, ?_⟩
    refine sk_goto 41 dX7_holdTold_37 (by decide) ?_
    refine sk_iconst (v := 0) 42 dX7_holdTold_41 rfl (by decide) ?_
    refine sk_bipush (v := 99) 44 dX7_holdTold_42 rfl (by decide) ?_
    refine sk_callSi [.int r34, .int 0, .int 99] [] 47 dX7_holdTold_44 rfl mfX7_held lkX7_118 miX7_held rfl rfl (by simp [Value.category]) hd0 (sk_Cm h ?_)
    rintro w t44 ⟨r44, hw, h⟩
    refine ⟨r44, hw, ?_⟩
    exact sk_iret dX7_holdTold_47 rfl rfl h

theorem wX7_dropTold {d : Nat} {τ : sk_T} {K : sk_K} {v1 : Int32} {v2 : Int32} {v3 : Int32} (hd0 : 0 < d)
  (h : sk_C sk_Sm (d - 1) mX7_hasText [.ref 0, .int 1] (sk_u (sk_u (sk_u τ 5 114 v1) 5 99 v2) 5 121 v3) (fun w t26 => ∃ r26 : Int32, w = some (.int r26) ∧
      ((r26 = 0 →
        sk_C sk_Sm (d - 1) mX7_held [.int 1, .int 0, .int 99] t26 (fun w t44 => ∃ r44 : Int32, w = some (.int r44) ∧
          K (some (.int r44)) t44
        )
      ) ∧
      (¬ r26 = 0 →
        sk_C sk_Sm (d - 1) mX7_worked [.ref 0, .int 1] t26 (fun w t34 => ∃ r34 : Int32, w = some (.int r34) ∧
          sk_C sk_Sm (d - 1) mX7_held [.int r34, .int 0, .int 99] t34 (fun w t44 => ∃ r44 : Int32, w = some (.int r44) ∧
            K (some (.int r44)) t44
          )
        )
      ))
    )) :
  sk_C sk_Sm d mX7_dropTold [.ref 0, .int v1, .int v2, .int v3] τ K := by
  refine sk_enter mfX7_dropTold (Nat.le_of_ble_eq_true rfl) ?_
  show sk_G sk_Sm d mX7_dropTold 0 [(0, .ref 0), (1, .int v1), (2, .int v2), (3, .int v3)] [] τ K
  refine sk_aload_n 0 1 dX7_dropTold_0 rfl rfl rfl ?_
  refine sk_getR (r := 5) 4 dX7_dropTold_1 rfl lfX7_22 sm_0 rfl ?_
  refine sk_bipush (v := 114) 6 dX7_dropTold_4 rfl (by decide) ?_
  refine sk_iload_n 1 7 dX7_dropTold_6 rfl rfl rfl ?_
  refine sk_iast 8 dX7_dropTold_7 rfl sm_5 (by unfold vp_in; decide) 114 rfl ?_
  refine sk_aload_n 0 9 dX7_dropTold_8 rfl rfl rfl ?_
  refine sk_getR (r := 5) 12 dX7_dropTold_9 rfl lfX7_22 sm_0 rfl ?_
  refine sk_bipush (v := 99) 14 dX7_dropTold_12 rfl (by decide) ?_
  refine sk_iload_n 2 15 dX7_dropTold_14 rfl rfl rfl ?_
  refine sk_iast 16 dX7_dropTold_15 rfl sm_5 (by unfold vp_in; decide) 99 rfl ?_
  refine sk_aload_n 0 17 dX7_dropTold_16 rfl rfl rfl ?_
  refine sk_getR (r := 5) 20 dX7_dropTold_17 rfl lfX7_22 sm_0 rfl ?_
  refine sk_bipush (v := 121) 22 dX7_dropTold_20 rfl (by decide) ?_
  refine sk_iload_n 3 23 dX7_dropTold_22 rfl rfl rfl ?_
  refine sk_iast 24 dX7_dropTold_23 rfl sm_5 (by unfold vp_in; decide) 121 rfl ?_
  refine sk_aload_n 0 25 dX7_dropTold_24 rfl rfl rfl ?_
  refine sk_iconst (v := 1) 26 dX7_dropTold_25 rfl (by decide) ?_
  refine sk_callVi [.int 1] [] 29 dX7_dropTold_26 rfl mfX7_hasText lkX7_104 miX7_hasText msX7_hasText sm_0 rfl rfl rfl rfl (by simp [Value.category]) hd0 (sk_Cm h ?_)
  rintro w t26 ⟨r26, hw, h⟩
  refine ⟨r26, hw, ?_⟩
  refine sk_if_eq 40 32 dX7_dropTold_29 (by decide) rfl (fun hc => ?_) (fun hc => ?_)
  · have h := h.1 hc
    refine sk_iconst (v := 1) 41 dX7_dropTold_40 rfl (by decide) ?_
    refine sk_iconst (v := 0) 42 dX7_dropTold_41 rfl (by decide) ?_
    refine sk_bipush (v := 99) 44 dX7_dropTold_42 rfl (by decide) ?_
    refine sk_callSi [.int 1, .int 0, .int 99] [] 47 dX7_dropTold_44 rfl mfX7_held lkX7_118 miX7_held rfl rfl (by simp [Value.category]) hd0 (sk_Cm h ?_)
    rintro w t44 ⟨r44, hw, h⟩
    refine ⟨r44, hw, ?_⟩
    exact sk_iret dX7_dropTold_47 rfl rfl h
  · have h := h.2 hc
    refine sk_aload_n 0 33 dX7_dropTold_32 rfl rfl rfl ?_
    refine sk_iconst (v := 1) 34 dX7_dropTold_33 rfl (by decide) ?_
    refine sk_callVi [.int 1] [] 37 dX7_dropTold_34 rfl mfX7_worked lkX7_115 miX7_worked msX7_worked sm_0 rfl rfl rfl rfl (by simp [Value.category]) hd0 (sk_Cm h ?_)
    rintro w t34 ⟨r34, hw, h⟩
    refine ⟨r34, hw, ?_⟩
    refine sk_goto 41 dX7_dropTold_37 (by decide) ?_
    refine sk_iconst (v := 0) 42 dX7_dropTold_41 rfl (by decide) ?_
    refine sk_bipush (v := 99) 44 dX7_dropTold_42 rfl (by decide) ?_
    refine sk_callSi [.int r34, .int 0, .int 99] [] 47 dX7_dropTold_44 rfl mfX7_held lkX7_118 miX7_held rfl rfl (by simp [Value.category]) hd0 (sk_Cm h ?_)
    rintro w t44 ⟨r44, hw, h⟩
    refine ⟨r44, hw, ?_⟩
    exact sk_iret dX7_dropTold_47 rfl rfl h

theorem wX7_holdOf {d : Nat} {τ : sk_T} {K : sk_K} {v1 : Int32} {v2 : Int32} (hd0 : 0 < d)
  (h : sk_C sk_Sm (d - 1) mX7_holdsOf [.ref 0, .int v1] τ (fun w t3 => ∃ r3 : Int32, w = some (.int r3) ∧
      sk_C sk_Sm (d - 1) mX7_its [.ref 0, .int v1, .int 3] t3 (fun w t9 => ∃ r9 : Int32, w = some (.int r9) ∧
        sk_C sk_Sm (d - 1) mX7_holdTold [.ref 0, .int r3, .int r9, .int v2] t9 (fun w t13 => ∃ r13 : Int32, w = some (.int r13) ∧
          K (some (.int r13)) t13
        )
      )
    )) :
  sk_C sk_Sm d mX7_holdOf [.ref 0, .int v1, .int v2] τ K := by
  refine sk_enter mfX7_holdOf (Nat.le_of_ble_eq_true rfl) ?_
  show sk_G sk_Sm d mX7_holdOf 0 [(0, .ref 0), (1, .int v1), (2, .int v2)] [] τ K
  refine sk_aload_n 0 1 dX7_holdOf_0 rfl rfl rfl ?_
  refine sk_aload_n 0 2 dX7_holdOf_1 rfl rfl rfl ?_
  refine sk_iload_n 1 3 dX7_holdOf_2 rfl rfl rfl ?_
  refine sk_callVi [.int v1] [.ref 0] 6 dX7_holdOf_3 rfl mfX7_holdsOf lkX7_121 miX7_holdsOf msX7_holdsOf sm_0 rfl rfl rfl rfl (by simp [Value.category]) hd0 (sk_Cm h ?_)
  rintro w t3 ⟨r3, hw, h⟩
  refine ⟨r3, hw, ?_⟩
  refine sk_aload_n 0 7 dX7_holdOf_6 rfl rfl rfl ?_
  refine sk_iload_n 1 8 dX7_holdOf_7 rfl rfl rfl ?_
  refine sk_iconst (v := 3) 9 dX7_holdOf_8 rfl (by decide) ?_
  refine sk_callVi [.int v1, .int 3] [.int r3, .ref 0] 12 dX7_holdOf_9 rfl mfX7_its lkX7_111 miX7_its msX7_its sm_0 rfl rfl rfl rfl (by simp [Value.category]) hd0 (sk_Cm h ?_)
  rintro w t9 ⟨r9, hw, h⟩
  refine ⟨r9, hw, ?_⟩
  refine sk_iload_n 2 13 dX7_holdOf_12 rfl rfl rfl ?_
  refine sk_callVi [.int r3, .int r9, .int v2] [] 16 dX7_holdOf_13 rfl mfX7_holdTold lkX7_124 miX7_holdTold msX7_holdTold sm_0 rfl rfl rfl rfl (by simp [Value.category]) hd0 (sk_Cm h ?_)
  rintro w t13 ⟨r13, hw, h⟩
  refine ⟨r13, hw, ?_⟩
  exact sk_iret dX7_holdOf_16 rfl rfl h

theorem wX7_ownAt {d : Nat} {τ : sk_T} {K : sk_K} {v1 : Int32} {v2 : Int32}
  (h : sk_G sk_Sm d mX7_ownAt 11 [(0, .ref 0), (1, .int v1), (2, .int v2), (3, .long 0), (5, .int (v2 % 8)), (6, .int 0)] [] τ K) :
  sk_C sk_Sm d mX7_ownAt [.ref 0, .int v1, .int v2] τ K := by
  refine sk_enter mfX7_ownAt (Nat.le_of_ble_eq_true rfl) ?_
  show sk_G sk_Sm d mX7_ownAt 0 [(0, .ref 0), (1, .int v1), (2, .int v2)] [] τ K
  refine sk_lconst (v := 0) 1 dX7_ownAt_0 rfl (by decide) ?_
  refine sk_lstore_n (lv2 := [(3, .long 0), (0, .ref 0), (1, .int v1), (2, .int v2)]) 2 dX7_ownAt_1 rfl rfl (by decide) rfl ?_
  refine sk_iload_n 3 3 dX7_ownAt_2 rfl rfl rfl ?_
  refine sk_bipush (v := 8) 5 dX7_ownAt_3 rfl (by decide) ?_
  refine sk_irem 6 dX7_ownAt_5 rfl (by decide) ?_
  refine sk_istore (lv2 := [(5, .int (v2 % 8)), (3, .long 0), (0, .ref 0), (1, .int v1), (2, .int v2)]) 8 dX7_ownAt_6 rfl (by decide) rfl ?_
  refine sk_iconst (v := 0) 9 dX7_ownAt_8 rfl (by decide) ?_
  refine sk_istore (lv2 := [(6, .int 0), (5, .int (v2 % 8)), (3, .long 0), (0, .ref 0), (1, .int v1), (2, .int v2)]) 11 dX7_ownAt_9 rfl (by decide) rfl ?_
  refine sk_perm (lv2 := [(0, .ref 0), (1, .int v1), (2, .int v2), (3, .long 0), (5, .int (v2 % 8)), (6, .int 0)]) [3, 4, 5, 2, 1, 0] rfl ?_
  exact h

theorem bX7_ownAt_11 {d : Nat} {τ : sk_T} {K : sk_K} {v1 : Int32} {v2 : Int32} {v3 : Int64} {v5 : Int32} {v6 : Int32} (hd0 : 0 < d)
  (h : sk_C sk_Sm (d - 1) mX7_broad [.ref 0, .int v1] τ (fun w t15 => ∃ r15 : Int32, w = some (.int r15) ∧
      ((r15 ≤ v6 →
        K (some (.long v3)) t15
      ) ∧
      (¬ r15 ≤ v6 →
        ((8 ≤ (v5 + v6) →
          K (some (.long v3)) t15
        ) ∧
        (¬ 8 ≤ (v5 + v6) →
          sk_G sk_Sm d mX7_ownAt 11 [(0, .ref 0), (1, .int v1), (2, .int v2), (3, .long (v3 ||| (1 <<< (Int32.toInt64 (v2 + v6) &&& 63)))), (5, .int v5), (6, .int (v6 + 1))] [] t15 K
        ))
      ))
    )) :
  sk_G sk_Sm d mX7_ownAt 11 [(0, .ref 0), (1, .int v1), (2, .int v2), (3, .long v3), (5, .int v5), (6, .int v6)] [] τ K := by
  refine sk_iload 5 13 dX7_ownAt_11 rfl rfl ?_
  refine sk_aload_n 0 14 dX7_ownAt_13 rfl rfl rfl ?_
  refine sk_iload_n 1 15 dX7_ownAt_14 rfl rfl rfl ?_
  refine sk_callVi [.int v1] [.int v6] 18 dX7_ownAt_15 rfl mfX7_broad lkX7_127 miX7_broad msX7_broad sm_0 rfl rfl rfl rfl (by simp [Value.category]) hd0 (sk_Cm h ?_)
  rintro w t15 ⟨r15, hw, h⟩
  refine ⟨r15, hw, ?_⟩
  refine sk_icmp_ge 46 21 dX7_ownAt_18 (by decide) rfl (fun hc => ?_) (fun hc => ?_)
  · have h := h.1 hc
    refine sk_lload_n 3 47 dX7_ownAt_46 rfl rfl rfl ?_
    exact sk_lret dX7_ownAt_47 rfl h
  · have h := h.2 hc
    refine sk_iload 4 23 dX7_ownAt_21 rfl rfl ?_
    refine sk_iload 5 25 dX7_ownAt_23 rfl rfl ?_
    refine sk_iadd 26 dX7_ownAt_25 rfl ?_
    refine sk_bipush (v := 8) 28 dX7_ownAt_26 rfl (by decide) ?_
    refine sk_icmp_ge 46 31 dX7_ownAt_28 (by decide) rfl (fun hc => ?_) (fun hc => ?_)
    · have h := h.1 hc
      refine sk_lload_n 3 47 dX7_ownAt_46 rfl rfl rfl ?_
      exact sk_lret dX7_ownAt_47 rfl h
    · have h := h.2 hc
      refine sk_lload_n 3 32 dX7_ownAt_31 rfl rfl rfl ?_
      refine sk_lconst (v := 1) 33 dX7_ownAt_32 rfl (by decide) ?_
      refine sk_iload_n 2 34 dX7_ownAt_33 rfl rfl rfl ?_
      refine sk_iload 5 36 dX7_ownAt_34 rfl rfl ?_
      refine sk_iadd 37 dX7_ownAt_36 rfl ?_
      refine sk_lshl 38 dX7_ownAt_37 rfl ?_
      refine sk_lor 39 dX7_ownAt_38 rfl ?_
      refine sk_lstore_n (lv2 := [(3, .long (v3 ||| (1 <<< (Int32.toInt64 (v2 + v6) &&& 63)))), (0, .ref 0), (1, .int v1), (2, .int v2), (5, .int v5), (6, .int v6)]) 40 dX7_ownAt_39 rfl rfl (by decide) rfl ?_
      refine sk_iinc (v := (v6 + 1)) (lv2 := [(6, .int (v6 + 1)), (3, .long (v3 ||| (1 <<< (Int32.toInt64 (v2 + v6) &&& 63)))), (0, .ref 0), (1, .int v1), (2, .int v2), (5, .int v5)]) 5 43 dX7_ownAt_40 rfl rfl rfl (by decide) rfl ?_
      refine sk_goto 11 dX7_ownAt_43 (by decide) ?_
      refine sk_perm (lv2 := [(0, .ref 0), (1, .int v1), (2, .int v2), (3, .long (v3 ||| (1 <<< (Int32.toInt64 (v2 + v6) &&& 63)))), (5, .int v5), (6, .int (v6 + 1))]) [2, 3, 4, 1, 5, 0] rfl ?_
      exact h

theorem wX7_own {d : Nat} {τ : sk_T} {K : sk_K} {v1 : Int32} (hd0 : 0 < d)
  (h : sk_C sk_Sm (d - 1) mX7_its [.ref 0, .int v1, .int 6] τ (fun w t4 => ∃ r4 : Int32, w = some (.int r4) ∧
      ((¬ r4 = (-1) →
        sk_C sk_Sm (d - 1) mX7_its [.ref 0, .int v1, .int 6] t4 (fun w t21 => ∃ r21 : Int32, w = some (.int r21) ∧
          sk_C sk_Sm (d - 1) mX7_ownAt [.ref 0, .int v1, .int r21] t21 (fun w t24 => ∃ r24 : Int64, w = some (.long r24) ∧
            K (some (.long r24)) t24
          )
        )
      ) ∧
      (r4 = (-1) →
        K (some (.long 0)) t4
      ))
    )) :
  sk_C sk_Sm d mX7_own [.ref 0, .int v1] τ K := by
  refine sk_enter mfX7_own (Nat.le_of_ble_eq_true rfl) ?_
  show sk_G sk_Sm d mX7_own 0 [(0, .ref 0), (1, .int v1)] [] τ K
  refine sk_aload_n 0 1 dX7_own_0 rfl rfl rfl ?_
  refine sk_iload_n 1 2 dX7_own_1 rfl rfl rfl ?_
  refine sk_bipush (v := 6) 4 dX7_own_2 rfl (by decide) ?_
  refine sk_callVi [.int v1, .int 6] [] 7 dX7_own_4 rfl mfX7_its lkX7_111 miX7_its msX7_its sm_0 rfl rfl rfl rfl (by simp [Value.category]) hd0 (sk_Cm h ?_)
  rintro w t4 ⟨r4, hw, h⟩
  refine ⟨r4, hw, ?_⟩
  refine sk_iconst (v := (-1)) 8 dX7_own_7 rfl (by decide) ?_
  refine sk_icmp_ne 15 11 dX7_own_8 (by decide) rfl (fun hc => ?_) (fun hc => ?_)
  · have h := h.1 hc
    refine sk_aload_n 0 16 dX7_own_15 rfl rfl rfl ?_
    refine sk_iload_n 1 17 dX7_own_16 rfl rfl rfl ?_
    refine sk_aload_n 0 18 dX7_own_17 rfl rfl rfl ?_
    refine sk_iload_n 1 19 dX7_own_18 rfl rfl rfl ?_
    refine sk_bipush (v := 6) 21 dX7_own_19 rfl (by decide) ?_
    refine sk_callVi [.int v1, .int 6] [.int v1, .ref 0] 24 dX7_own_21 rfl mfX7_its lkX7_111 miX7_its msX7_its sm_0 rfl rfl rfl rfl (by simp [Value.category]) hd0 (sk_Cm h ?_)
    rintro w t21 ⟨r21, hw, h⟩
    refine ⟨r21, hw, ?_⟩
    refine sk_callVl [.int v1, .int r21] [] 27 dX7_own_24 rfl mfX7_ownAt lkX7_130 miX7_ownAt msX7_ownAt sm_0 rfl rfl rfl rfl (by simp [Value.category]) hd0 (sk_Cm h ?_)
    rintro w t24 ⟨r24, hw, h⟩
    refine ⟨r24, hw, ?_⟩
    exact sk_lret dX7_own_27 rfl h
  · have h := h.2 hc
    refine sk_lconst (v := 0) 12 dX7_own_11 rfl (by decide) ?_
    refine sk_goto 27 dX7_own_12 (by decide) ?_
    exact sk_lret dX7_own_27 rfl h

theorem wX7_covers {d : Nat} {τ : sk_T} {K : sk_K} {v1 : Int32} (hd0 : 0 < d)
  (h : sk_C sk_Sm (d - 1) mX7_own [.ref 0, .int v1] τ (fun w t2 => ∃ r2 : Int64, w = some (.long r2) ∧
      K (some (.long ((r2 ||| (r2 <<< (Int32.toInt64 (8 : Int32) &&& 63))) &&& 281474976710655))) t2
    )) :
  sk_C sk_Sm d mX7_covers [.ref 0, .int v1] τ K := by
  refine sk_enter mfX7_covers (Nat.le_of_ble_eq_true rfl) ?_
  show sk_G sk_Sm d mX7_covers 0 [(0, .ref 0), (1, .int v1)] [] τ K
  refine sk_aload_n 0 1 dX7_covers_0 rfl rfl rfl ?_
  refine sk_iload_n 1 2 dX7_covers_1 rfl rfl rfl ?_
  refine sk_callVl [.int v1] [] 5 dX7_covers_2 rfl mfX7_own lkX7_134 miX7_own msX7_own sm_0 rfl rfl rfl rfl (by simp [Value.category]) hd0 (sk_Cm h ?_)
  rintro w t2 ⟨r2, hw, h⟩
  refine ⟨r2, hw, ?_⟩
  refine sk_lstore_n (lv2 := [(2, .long r2), (0, .ref 0), (1, .int v1)]) 6 dX7_covers_5 rfl rfl (by decide) rfl ?_
  refine sk_lload_n 0 7 dX7_covers_6 rfl rfl rfl ?_
  refine sk_lload_n 0 8 dX7_covers_7 rfl rfl rfl ?_
  refine sk_bipush (v := 8) 10 dX7_covers_8 rfl (by decide) ?_
  refine sk_lshl 11 dX7_covers_10 rfl ?_
  refine sk_lor 12 dX7_covers_11 rfl ?_
  refine sk_ldc2 15 dX7_covers_12 rfl klX7_138 ?_
  refine sk_land 16 dX7_covers_15 rfl ?_
  exact sk_lret dX7_covers_16 rfl h

theorem wX7_drySet {d : Nat} {τ : sk_T} {K : sk_K}
  (h : sk_G sk_Sm d mX7_drySet 4 [(0, .ref 0), (1, .long 0), (3, .int 0)] [] τ K) :
  sk_C sk_Sm d mX7_drySet [.ref 0] τ K := by
  refine sk_enter mfX7_drySet (Nat.le_of_ble_eq_true rfl) ?_
  show sk_G sk_Sm d mX7_drySet 0 [(0, .ref 0)] [] τ K
  refine sk_lconst (v := 0) 1 dX7_drySet_0 rfl (by decide) ?_
  refine sk_lstore_n (lv2 := [(1, .long 0), (0, .ref 0)]) 2 dX7_drySet_1 rfl rfl (by decide) rfl ?_
  refine sk_iconst (v := 0) 3 dX7_drySet_2 rfl (by decide) ?_
  refine sk_istore_n (lv2 := [(3, .int 0), (1, .long 0), (0, .ref 0)]) 4 dX7_drySet_3 rfl rfl (by decide) rfl ?_
  refine sk_perm (lv2 := [(0, .ref 0), (1, .long 0), (3, .int 0)]) [2, 1, 0] rfl ?_
  exact h

theorem bX7_drySet_4 {d : Nat} {τ : sk_T} {K : sk_K} {v1 : Int64} {v3 : Int32} (hd0 : 0 < d)
  (h : (((τ 1 6) ≤ v3 →
      K (some (.long v1)) τ
    ) ∧
    (¬ (τ 1 6) ≤ v3 →
      sk_C sk_Sm (d - 1) mX7_covers [.ref 0, .int v3] τ (fun w t18 => ∃ r18 : Int64, w = some (.long r18) ∧
        sk_G sk_Sm d mX7_drySet 4 [(0, .ref 0), (1, .long (v1 ||| r18)), (3, .int (v3 + 1))] [] t18 K
      )
    ))) :
  sk_G sk_Sm d mX7_drySet 4 [(0, .ref 0), (1, .long v1), (3, .int v3)] [] τ K := by
  refine sk_iload_n 2 5 dX7_drySet_4 rfl rfl rfl ?_
  refine sk_aload_n 0 6 dX7_drySet_5 rfl rfl rfl ?_
  refine sk_getR (r := 1) 9 dX7_drySet_6 rfl lfX7_7 sm_0 rfl ?_
  refine sk_bipush (v := 6) 11 dX7_drySet_9 rfl (by decide) ?_
  refine sk_iald 12 dX7_drySet_11 rfl sm_1 (by unfold vp_in; decide) 6 rfl ?_
  refine sk_icmp_ge 29 15 dX7_drySet_12 (by decide) rfl (fun hc => ?_) (fun hc => ?_)
  · have h := h.1 hc
    refine sk_lload_n 1 30 dX7_drySet_29 rfl rfl rfl ?_
    exact sk_lret dX7_drySet_30 rfl h
  · have h := h.2 hc
    refine sk_lload_n 1 16 dX7_drySet_15 rfl rfl rfl ?_
    refine sk_aload_n 0 17 dX7_drySet_16 rfl rfl rfl ?_
    refine sk_iload_n 2 18 dX7_drySet_17 rfl rfl rfl ?_
    refine sk_callVl [.int v3] [.long v1] 21 dX7_drySet_18 rfl mfX7_covers lkX7_140 miX7_covers msX7_covers sm_0 rfl rfl rfl rfl (by simp [Value.category]) hd0 (sk_Cm h ?_)
    rintro w t18 ⟨r18, hw, h⟩
    refine ⟨r18, hw, ?_⟩
    refine sk_lor 22 dX7_drySet_21 rfl ?_
    refine sk_lstore_n (lv2 := [(1, .long (v1 ||| r18)), (0, .ref 0), (3, .int v3)]) 23 dX7_drySet_22 rfl rfl (by decide) rfl ?_
    refine sk_iinc (v := (v3 + 1)) (lv2 := [(3, .int (v3 + 1)), (1, .long (v1 ||| r18)), (0, .ref 0)]) 2 26 dX7_drySet_23 rfl rfl rfl (by decide) rfl ?_
    refine sk_goto 4 dX7_drySet_26 (by decide) ?_
    refine sk_perm (lv2 := [(0, .ref 0), (1, .long (v1 ||| r18)), (3, .int (v3 + 1))]) [2, 1, 0] rfl ?_
    exact h

theorem wX7_bitsOf {d : Nat} {τ : sk_T} {K : sk_K} {v0 : Int64}
  (h : sk_G sk_Sm d mX7_bitsOf 4 [(2, .int 0), (3, .long v0)] [] τ K) :
  sk_C sk_Sm d mX7_bitsOf [.long v0] τ K := by
  refine sk_enter mfX7_bitsOf (Nat.le_of_ble_eq_true rfl) ?_
  show sk_G sk_Sm d mX7_bitsOf 0 [(0, .long v0)] [] τ K
  refine sk_iconst (v := 0) 1 dX7_bitsOf_0 rfl (by decide) ?_
  refine sk_istore_n (lv2 := [(2, .int 0), (0, .long v0)]) 2 dX7_bitsOf_1 rfl rfl (by decide) rfl ?_
  refine sk_lload_n 1 3 dX7_bitsOf_2 rfl rfl rfl ?_
  refine sk_lstore_n (lv2 := [(3, .long v0), (2, .int 0), (0, .long v0)]) 4 dX7_bitsOf_3 rfl rfl (by decide) rfl ?_
  refine sk_perm (lv2 := [(2, .int 0), (3, .long v0)]) [1, 0] rfl ?_
  exact h

theorem bX7_bitsOf_4 {d : Nat} {τ : sk_T} {K : sk_K} {v2 : Int32} {v3 : Int64}
  (h : (((lg_cmp v3 0) = 0 →
      K (some (.int v2)) τ
    ) ∧
    (¬ (lg_cmp v3 0) = 0 →
      sk_G sk_Sm d mX7_bitsOf 4 [(2, .int (v2 + 1)), (3, .long (v3 &&& (v3 - 1)))] [] τ K
    ))) :
  sk_G sk_Sm d mX7_bitsOf 4 [(2, .int v2), (3, .long v3)] [] τ K := by
  refine sk_lload_n 1 5 dX7_bitsOf_4 rfl rfl rfl ?_
  refine sk_lconst (v := 0) 6 dX7_bitsOf_5 rfl (by decide) ?_
  refine sk_lcmp 7 dX7_bitsOf_6 rfl ?_
  refine sk_if_eq 22 10 dX7_bitsOf_7 (by decide) rfl (fun hc => ?_) (fun hc => ?_)
  · have h := h.1 hc
    refine sk_iload_n 0 23 dX7_bitsOf_22 rfl rfl rfl ?_
    exact sk_iret dX7_bitsOf_23 rfl rfl h
  · have h := h.2 hc
    refine sk_iinc (v := (v2 + 1)) (lv2 := [(2, .int (v2 + 1)), (3, .long v3)]) 0 13 dX7_bitsOf_10 rfl rfl rfl (by decide) rfl ?_
    refine sk_lload_n 1 14 dX7_bitsOf_13 rfl rfl rfl ?_
    refine sk_lload_n 1 15 dX7_bitsOf_14 rfl rfl rfl ?_
    refine sk_lconst (v := 1) 16 dX7_bitsOf_15 rfl (by decide) ?_
    refine sk_lsub 17 dX7_bitsOf_16 rfl ?_
    refine sk_land 18 dX7_bitsOf_17 rfl ?_
    refine sk_lstore_n (lv2 := [(3, .long (v3 &&& (v3 - 1))), (2, .int (v2 + 1))]) 19 dX7_bitsOf_18 rfl rfl (by decide) rfl ?_
    refine sk_goto 4 dX7_bitsOf_19 (by decide) ?_
    refine sk_perm (lv2 := [(2, .int (v2 + 1)), (3, .long (v3 &&& (v3 - 1)))]) [1, 0] rfl ?_
    exact h

theorem wX7_mayLie {d : Nat} {τ : sk_T} {K : sk_K} {v1 : Int32} {v2 : Int32} (hd0 : 0 < d)
  (h : sk_C sk_Sm (d - 1) mX7_ownAt [.ref 0, .int v1, .int v2] τ (fun w t3 => ∃ r3 : Int64, w = some (.long r3) ∧
      sk_G sk_Sm d mX7_mayLie 13 [(0, .ref 0), (1, .int v1), (3, .long r3), (5, .int 1), (6, .int 0)] [] t3 K
    )) :
  sk_C sk_Sm d mX7_mayLie [.ref 0, .int v1, .int v2] τ K := by
  refine sk_enter mfX7_mayLie (Nat.le_of_ble_eq_true rfl) ?_
  show sk_G sk_Sm d mX7_mayLie 0 [(0, .ref 0), (1, .int v1), (2, .int v2)] [] τ K
  refine sk_aload_n 0 1 dX7_mayLie_0 rfl rfl rfl ?_
  refine sk_iload_n 1 2 dX7_mayLie_1 rfl rfl rfl ?_
  refine sk_iload_n 2 3 dX7_mayLie_2 rfl rfl rfl ?_
  refine sk_callVl [.int v1, .int v2] [] 6 dX7_mayLie_3 rfl mfX7_ownAt lkX7_130 miX7_ownAt msX7_ownAt sm_0 rfl rfl rfl rfl (by simp [Value.category]) hd0 (sk_Cm h ?_)
  rintro w t3 ⟨r3, hw, h⟩
  refine ⟨r3, hw, ?_⟩
  refine sk_lstore_n (lv2 := [(3, .long r3), (0, .ref 0), (1, .int v1), (2, .int v2)]) 7 dX7_mayLie_6 rfl rfl (by decide) rfl ?_
  refine sk_iconst (v := 1) 8 dX7_mayLie_7 rfl (by decide) ?_
  refine sk_istore (lv2 := [(5, .int 1), (3, .long r3), (0, .ref 0), (1, .int v1), (2, .int v2)]) 10 dX7_mayLie_8 rfl (by decide) rfl ?_
  refine sk_iconst (v := 0) 11 dX7_mayLie_10 rfl (by decide) ?_
  refine sk_istore (lv2 := [(6, .int 0), (5, .int 1), (3, .long r3), (0, .ref 0), (1, .int v1), (2, .int v2)]) 13 dX7_mayLie_11 rfl (by decide) rfl ?_
  refine sk_perm (lv2 := [(0, .ref 0), (1, .int v1), (3, .long r3), (5, .int 1), (6, .int 0)]) [3, 4, 2, 1, 0] rfl ?_
  exact h

theorem bX7_mayLie_13 {d : Nat} {τ : sk_T} {K : sk_K} {v1 : Int32} {v3 : Int64} {v5 : Int32} {v6 : Int32} (hd0 : 0 < d)
  (h : (((τ 1 6) ≤ v6 →
      sk_C sk_Sm (d - 1) mX7_its [.ref 0, .int v1, .int 4] τ (fun w t65 => ∃ r65 : Int32, w = some (.int r65) ∧
        ((¬ r65 = (-1) →
          sk_C sk_Sm (d - 1) mX7_own [.ref 0, .int r65] t65 (fun w t83 => ∃ r83 : Int64, w = some (.long r83) ∧
            ((v5 = 0 →
              K (some (.int 0)) t83
            ) ∧
            (¬ v5 = 0 →
              (((lg_cmp r83 0) = 0 →
                K (some (.int 1)) t83
              ) ∧
              (¬ (lg_cmp r83 0) = 0 →
                (((lg_cmp (((v3 <<< (Int32.toInt64 (8 : Int32) &&& 63)) ||| (sk_lush v3 8)) &&& r83) 0) = 0 →
                  K (some (.int 0)) t83
                ) ∧
                (¬ (lg_cmp (((v3 <<< (Int32.toInt64 (8 : Int32) &&& 63)) ||| (sk_lush v3 8)) &&& r83) 0) = 0 →
                  K (some (.int 1)) t83
                ))
              ))
            ))
          )
        ) ∧
        (r65 = (-1) →
          ((v5 = 0 →
            K (some (.int 0)) t65
          ) ∧
          (¬ v5 = 0 →
            (((lg_cmp 0 0) = 0 →
              K (some (.int 1)) t65
            ) ∧
            (¬ (lg_cmp 0 0) = 0 →
              (((lg_cmp (((v3 <<< (Int32.toInt64 (8 : Int32) &&& 63)) ||| (sk_lush v3 8)) &&& 0) 0) = 0 →
                K (some (.int 0)) t65
              ) ∧
              (¬ (lg_cmp (((v3 <<< (Int32.toInt64 (8 : Int32) &&& 63)) ||| (sk_lush v3 8)) &&& 0) 0) = 0 →
                K (some (.int 1)) t65
              ))
            ))
          ))
        ))
      )
    ) ∧
    (¬ (τ 1 6) ≤ v6 →
      ((v5 = 0 →
        sk_G sk_Sm d mX7_mayLie 13 [(0, .ref 0), (1, .int v1), (3, .long v3), (5, .int 0), (6, .int (v6 + 1))] [] τ K
      ) ∧
      (¬ v5 = 0 →
        ((v6 = v1 →
          sk_G sk_Sm d mX7_mayLie 13 [(0, .ref 0), (1, .int v1), (3, .long v3), (5, .int 1), (6, .int (v6 + 1))] [] τ K
        ) ∧
        (¬ v6 = v1 →
          sk_C sk_Sm (d - 1) mX7_own [.ref 0, .int v6] τ (fun w t39 => ∃ r39 : Int64, w = some (.long r39) ∧
            ((¬ (lg_cmp (r39 &&& v3) 0) = 0 →
              sk_G sk_Sm d mX7_mayLie 13 [(0, .ref 0), (1, .int v1), (3, .long v3), (5, .int 0), (6, .int (v6 + 1))] [] t39 K
            ) ∧
            ((lg_cmp (r39 &&& v3) 0) = 0 →
              sk_G sk_Sm d mX7_mayLie 13 [(0, .ref 0), (1, .int v1), (3, .long v3), (5, .int 1), (6, .int (v6 + 1))] [] t39 K
            ))
          )
        ))
      ))
    ))) :
  sk_G sk_Sm d mX7_mayLie 13 [(0, .ref 0), (1, .int v1), (3, .long v3), (5, .int v5), (6, .int v6)] [] τ K := by
  refine sk_iload 4 15 dX7_mayLie_13 rfl rfl ?_
  refine sk_aload_n 0 16 dX7_mayLie_15 rfl rfl rfl ?_
  refine sk_getR (r := 1) 19 dX7_mayLie_16 rfl lfX7_7 sm_0 rfl ?_
  refine sk_bipush (v := 6) 21 dX7_mayLie_19 rfl (by decide) ?_
  refine sk_iald 22 dX7_mayLie_21 rfl sm_1 (by unfold vp_in; decide) 6 rfl ?_
  refine sk_icmp_ge 62 25 dX7_mayLie_22 (by decide) rfl (fun hc => ?_) (fun hc => ?_)
  · have h := h.1 hc
    refine sk_aload_n 0 63 dX7_mayLie_62 rfl rfl rfl ?_
    refine sk_iload_n 1 64 dX7_mayLie_63 rfl rfl rfl ?_
    refine sk_iconst (v := 4) 65 dX7_mayLie_64 rfl (by decide) ?_
    refine sk_callVi [.int v1, .int 4] [] 68 dX7_mayLie_65 rfl mfX7_its lkX7_111 miX7_its msX7_its sm_0 rfl rfl rfl rfl (by simp [Value.category]) hd0 (sk_Cm h ?_)
    rintro w t65 ⟨r65, hw, h⟩
    refine ⟨r65, hw, ?_⟩
    refine sk_istore (lv2 := [(6, .int r65), (0, .ref 0), (1, .int v1), (3, .long v3), (5, .int v5)]) 70 dX7_mayLie_68 rfl (by decide) rfl ?_
    refine sk_iload 0 72 dX7_mayLie_70 rfl rfl ?_
    refine sk_iconst (v := (-1)) 73 dX7_mayLie_72 rfl (by decide) ?_
    refine sk_icmp_ne 80 76 dX7_mayLie_73 (by decide) rfl (fun hc => ?_) (fun hc => ?_)
    · have h := h.1 hc
      refine sk_aload_n 1 81 dX7_mayLie_80 rfl rfl rfl ?_
      refine sk_iload 0 83 dX7_mayLie_81 rfl rfl ?_
      refine sk_callVl [.int r65] [] 86 dX7_mayLie_83 rfl mfX7_own lkX7_134 miX7_own msX7_own sm_0 rfl rfl rfl rfl (by simp [Value.category]) hd0 (sk_Cm h ?_)
      rintro w t83 ⟨r83, hw, h⟩
      refine ⟨r83, hw, ?_⟩
      refine sk_lstore (lv2 := [(7, .long r83), (6, .int r65), (0, .ref 0), (1, .int v1), (3, .long v3), (5, .int v5)]) 88 dX7_mayLie_86 rfl (by decide) rfl ?_
      refine sk_iload 5 90 dX7_mayLie_88 rfl rfl ?_
      refine sk_if_eq 121 93 dX7_mayLie_90 (by decide) rfl (fun hc => ?_) (fun hc => ?_)
      · have h := h.1 hc
        refine sk_iconst (v := 0) 122 dX7_mayLie_121 rfl (by decide) ?_
        exact sk_iret dX7_mayLie_122 rfl rfl h
      · have h := h.2 hc
        refine sk_lload 0 95 dX7_mayLie_93 rfl rfl ?_
        refine sk_lconst (v := 0) 96 dX7_mayLie_95 rfl (by decide) ?_
        refine sk_lcmp 97 dX7_mayLie_96 rfl ?_
        refine sk_if_eq 117 100 dX7_mayLie_97 (by decide) rfl (fun hc => ?_) (fun hc => ?_)
        · have h := h.1 hc
          refine sk_iconst (v := 1) 118 dX7_mayLie_117 rfl (by decide) ?_
          refine sk_goto 122 dX7_mayLie_118 (by decide) ?_
          exact sk_iret dX7_mayLie_122 rfl rfl h
        · have h := h.2 hc
          refine sk_lload_n 4 101 dX7_mayLie_100 rfl rfl rfl ?_
          refine sk_bipush (v := 8) 103 dX7_mayLie_101 rfl (by decide) ?_
          refine sk_lshl 104 dX7_mayLie_103 rfl ?_
          refine sk_lload_n 4 105 dX7_mayLie_104 rfl rfl rfl ?_
          refine sk_bipush (v := 8) 107 dX7_mayLie_105 rfl (by decide) ?_
          refine sk_lushr 108 dX7_mayLie_107 rfl ?_
          refine sk_lor 109 dX7_mayLie_108 rfl ?_
          refine sk_lload 0 111 dX7_mayLie_109 rfl rfl ?_
          refine sk_land 112 dX7_mayLie_111 rfl ?_
          refine sk_lconst (v := 0) 113 dX7_mayLie_112 rfl (by decide) ?_
          refine sk_lcmp 114 dX7_mayLie_113 rfl ?_
          refine sk_if_eq 121 117 dX7_mayLie_114 (by decide) rfl (fun hc => ?_) (fun hc => ?_)
          · have h := h.1 hc
            refine sk_iconst (v := 0) 122 dX7_mayLie_121 rfl (by decide) ?_
            exact sk_iret dX7_mayLie_122 rfl rfl h
          · have h := h.2 hc
            refine sk_iconst (v := 1) 118 dX7_mayLie_117 rfl (by decide) ?_
            refine sk_goto 122 dX7_mayLie_118 (by decide) ?_
            exact sk_iret dX7_mayLie_122 rfl rfl h
    · have h := h.2 hc
      refine sk_lconst (v := 0) 77 dX7_mayLie_76 rfl (by decide) ?_
      refine sk_goto 86 dX7_mayLie_77 (by decide) ?_
      refine sk_lstore (lv2 := [(7, .long 0), (6, .int r65), (0, .ref 0), (1, .int v1), (3, .long v3), (5, .int v5)]) 88 dX7_mayLie_86 rfl (by decide) rfl ?_
      refine sk_iload 5 90 dX7_mayLie_88 rfl rfl ?_
      refine sk_if_eq 121 93 dX7_mayLie_90 (by decide) rfl (fun hc => ?_) (fun hc => ?_)
      · have h := h.1 hc
        refine sk_iconst (v := 0) 122 dX7_mayLie_121 rfl (by decide) ?_
        exact sk_iret dX7_mayLie_122 rfl rfl h
      · have h := h.2 hc
        refine sk_lload 0 95 dX7_mayLie_93 rfl rfl ?_
        refine sk_lconst (v := 0) 96 dX7_mayLie_95 rfl (by decide) ?_
        refine sk_lcmp 97 dX7_mayLie_96 rfl ?_
        refine sk_if_eq 117 100 dX7_mayLie_97 (by decide) rfl (fun hc => ?_) (fun hc => ?_)
        · have h := h.1 hc
          refine sk_iconst (v := 1) 118 dX7_mayLie_117 rfl (by decide) ?_
          refine sk_goto 122 dX7_mayLie_118 (by decide) ?_
          exact sk_iret dX7_mayLie_122 rfl rfl h
        · have h := h.2 hc
          refine sk_lload_n 4 101 dX7_mayLie_100 rfl rfl rfl ?_
          refine sk_bipush (v := 8) 103 dX7_mayLie_101 rfl (by decide) ?_
          refine sk_lshl 104 dX7_mayLie_103 rfl ?_
          refine sk_lload_n 4 105 dX7_mayLie_104 rfl rfl rfl ?_
          refine sk_bipush (v := 8) 107 dX7_mayLie_105 rfl (by decide) ?_
          refine sk_lushr 108 dX7_mayLie_107 rfl ?_
          refine sk_lor 109 dX7_mayLie_108 rfl ?_
          refine sk_lload 0 111 dX7_mayLie_109 rfl rfl ?_
          refine sk_land 112 dX7_mayLie_111 rfl ?_
          refine sk_lconst (v := 0) 113 dX7_mayLie_112 rfl (by decide) ?_
          refine sk_lcmp 114 dX7_mayLie_113 rfl ?_
          refine sk_if_eq 121 117 dX7_mayLie_114 (by decide) rfl (fun hc => ?_) (fun hc => ?_)
          · have h := h.1 hc
            refine sk_iconst (v := 0) 122 dX7_mayLie_121 rfl (by decide) ?_
            exact sk_iret dX7_mayLie_122 rfl rfl h
          · have h := h.2 hc
            refine sk_iconst (v := 1) 118 dX7_mayLie_117 rfl (by decide) ?_
            refine sk_goto 122 dX7_mayLie_118 (by decide) ?_
            exact sk_iret dX7_mayLie_122 rfl rfl h
  · have h := h.2 hc
    refine sk_iload 3 27 dX7_mayLie_25 rfl rfl ?_
    refine sk_if_eq 53 30 dX7_mayLie_27 (by decide) rfl (fun hc => ?_) (fun hc => ?_)
    · have h := h.1 hc
      refine sk_iconst (v := 0) 54 dX7_mayLie_53 rfl (by decide) ?_
      refine sk_istore (lv2 := [(5, .int 0), (0, .ref 0), (1, .int v1), (3, .long v3), (6, .int v6)]) 56 dX7_mayLie_54 rfl (by decide) rfl ?_
      refine sk_iinc (v := (v6 + 1)) (lv2 := [(6, .int (v6 + 1)), (5, .int 0), (0, .ref 0), (1, .int v1), (3, .long v3)]) 4 59 dX7_mayLie_56 rfl rfl rfl (by decide) rfl ?_
      refine sk_goto 13 dX7_mayLie_59 (by decide) ?_
      refine sk_perm (lv2 := [(0, .ref 0), (1, .int v1), (3, .long v3), (5, .int 0), (6, .int (v6 + 1))]) [2, 3, 4, 1, 0] rfl ?_
      exact h
    · have h := h.2 hc
      refine sk_iload 4 32 dX7_mayLie_30 rfl rfl ?_
      refine sk_iload_n 1 33 dX7_mayLie_32 rfl rfl rfl ?_
      refine sk_icmp_eq 49 36 dX7_mayLie_33 (by decide) rfl (fun hc => ?_) (fun hc => ?_)
      · have h := h.1 hc
        refine sk_iconst (v := 1) 50 dX7_mayLie_49 rfl (by decide) ?_
        refine sk_goto 54 dX7_mayLie_50 (by decide) ?_
        refine sk_istore (lv2 := [(5, .int 1), (0, .ref 0), (1, .int v1), (3, .long v3), (6, .int v6)]) 56 dX7_mayLie_54 rfl (by decide) rfl ?_
        refine sk_iinc (v := (v6 + 1)) (lv2 := [(6, .int (v6 + 1)), (5, .int 1), (0, .ref 0), (1, .int v1), (3, .long v3)]) 4 59 dX7_mayLie_56 rfl rfl rfl (by decide) rfl ?_
        refine sk_goto 13 dX7_mayLie_59 (by decide) ?_
        refine sk_perm (lv2 := [(0, .ref 0), (1, .int v1), (3, .long v3), (5, .int 1), (6, .int (v6 + 1))]) [2, 3, 4, 1, 0] rfl ?_
        exact h
      · have h := h.2 hc
        refine sk_aload_n 0 37 dX7_mayLie_36 rfl rfl rfl ?_
        refine sk_iload 4 39 dX7_mayLie_37 rfl rfl ?_
        refine sk_callVl [.int v6] [] 42 dX7_mayLie_39 rfl mfX7_own lkX7_134 miX7_own msX7_own sm_0 rfl rfl rfl rfl (by simp [Value.category]) hd0 (sk_Cm h ?_)
        rintro w t39 ⟨r39, hw, h⟩
        refine ⟨r39, hw, ?_⟩
        refine sk_lload_n 2 43 dX7_mayLie_42 rfl rfl rfl ?_
        refine sk_land 44 dX7_mayLie_43 rfl ?_
        refine sk_lconst (v := 0) 45 dX7_mayLie_44 rfl (by decide) ?_
        refine sk_lcmp 46 dX7_mayLie_45 rfl ?_
        refine sk_if_ne 53 49 dX7_mayLie_46 (by decide) rfl (fun hc => ?_) (fun hc => ?_)
        · have h := h.1 hc
          refine sk_iconst (v := 0) 54 dX7_mayLie_53 rfl (by decide) ?_
          refine sk_istore (lv2 := [(5, .int 0), (0, .ref 0), (1, .int v1), (3, .long v3), (6, .int v6)]) 56 dX7_mayLie_54 rfl (by decide) rfl ?_
          refine sk_iinc (v := (v6 + 1)) (lv2 := [(6, .int (v6 + 1)), (5, .int 0), (0, .ref 0), (1, .int v1), (3, .long v3)]) 4 59 dX7_mayLie_56 rfl rfl rfl (by decide) rfl ?_
          refine sk_goto 13 dX7_mayLie_59 (by decide) ?_
          refine sk_perm (lv2 := [(0, .ref 0), (1, .int v1), (3, .long v3), (5, .int 0), (6, .int (v6 + 1))]) [2, 3, 4, 1, 0] rfl ?_
          exact h
        · have h := h.2 hc
          refine sk_iconst (v := 1) 50 dX7_mayLie_49 rfl (by decide) ?_
          refine sk_goto 54 dX7_mayLie_50 (by decide) ?_
          refine sk_istore (lv2 := [(5, .int 1), (0, .ref 0), (1, .int v1), (3, .long v3), (6, .int v6)]) 56 dX7_mayLie_54 rfl (by decide) rfl ?_
          refine sk_iinc (v := (v6 + 1)) (lv2 := [(6, .int (v6 + 1)), (5, .int 1), (0, .ref 0), (1, .int v1), (3, .long v3)]) 4 59 dX7_mayLie_56 rfl rfl rfl (by decide) rfl ?_
          refine sk_goto 13 dX7_mayLie_59 (by decide) ?_
          refine sk_perm (lv2 := [(0, .ref 0), (1, .int v1), (3, .long v3), (5, .int 1), (6, .int (v6 + 1))]) [2, 3, 4, 1, 0] rfl ?_
          exact h

theorem wX7_findHolds {d : Nat} {τ : sk_T} {K : sk_K} {v1 : Int32}
  (h : sk_G sk_Sm d mX7_findHolds 2 [(0, .ref 0), (1, .int v1), (2, .int 0)] [] τ K) :
  sk_C sk_Sm d mX7_findHolds [.ref 0, .int v1] τ K := by
  refine sk_enter mfX7_findHolds (Nat.le_of_ble_eq_true rfl) ?_
  show sk_G sk_Sm d mX7_findHolds 0 [(0, .ref 0), (1, .int v1)] [] τ K
  refine sk_iconst (v := 0) 1 dX7_findHolds_0 rfl (by decide) ?_
  refine sk_istore_n (lv2 := [(2, .int 0), (0, .ref 0), (1, .int v1)]) 2 dX7_findHolds_1 rfl rfl (by decide) rfl ?_
  refine sk_perm (lv2 := [(0, .ref 0), (1, .int v1), (2, .int 0)]) [1, 2, 0] rfl ?_
  exact h

theorem bX7_findHolds_2 {d : Nat} {τ : sk_T} {K : sk_K} {v1 : Int32} {v2 : Int32} (hd0 : 0 < d)
  (h : (((τ 1 6) ≤ v2 →
      K none τ
    ) ∧
    (¬ (τ 1 6) ≤ v2 →
      sk_C sk_Sm (d - 1) mX7_holdOf [.ref 0, .int v2, .int v1] τ (fun w t21 => ∃ r21 : Int32, w = some (.int r21) ∧
        vp_in v2 10 ∧
        sk_G sk_Sm d mX7_findHolds 2 [(0, .ref 0), (1, .int v1), (2, .int (v2 + 1))] [] (sk_u t21 7 (v2).toNatClampNeg r21) K
      )
    ))) :
  sk_G sk_Sm d mX7_findHolds 2 [(0, .ref 0), (1, .int v1), (2, .int v2)] [] τ K := by
  refine sk_iload_n 2 3 dX7_findHolds_2 rfl rfl rfl ?_
  refine sk_aload_n 0 4 dX7_findHolds_3 rfl rfl rfl ?_
  refine sk_getR (r := 1) 7 dX7_findHolds_4 rfl lfX7_7 sm_0 rfl ?_
  refine sk_bipush (v := 6) 9 dX7_findHolds_7 rfl (by decide) ?_
  refine sk_iald 10 dX7_findHolds_9 rfl sm_1 (by unfold vp_in; decide) 6 rfl ?_
  refine sk_icmp_ge 31 13 dX7_findHolds_10 (by decide) rfl (fun hc => ?_) (fun hc => ?_)
  · have h := h.1 hc
    exact sk_vret dX7_findHolds_31 rfl h
  · have h := h.2 hc
    refine sk_aload_n 0 14 dX7_findHolds_13 rfl rfl rfl ?_
    refine sk_getR (r := 7) 17 dX7_findHolds_14 rfl lfX7_28 sm_0 rfl ?_
    refine sk_iload_n 2 18 dX7_findHolds_17 rfl rfl rfl ?_
    refine sk_aload_n 0 19 dX7_findHolds_18 rfl rfl rfl ?_
    refine sk_iload_n 2 20 dX7_findHolds_19 rfl rfl rfl ?_
    refine sk_iload_n 1 21 dX7_findHolds_20 rfl rfl rfl ?_
    refine sk_callVi [.int v2, .int v1] [.int v2, .ref 7] 24 dX7_findHolds_21 rfl mfX7_holdOf lkX7_143 miX7_holdOf msX7_holdOf sm_0 rfl rfl rfl rfl (by simp [Value.category]) hd0 (sk_Cm h ?_)
    rintro w t21 ⟨r21, hw, h⟩
    refine ⟨r21, hw, ?_⟩
    have hb24 := h.1
    have h := h.2
    refine sk_iast 25 dX7_findHolds_24 rfl sm_7 hb24 _ rfl ?_
    refine sk_iinc (v := (v2 + 1)) (lv2 := [(2, .int (v2 + 1)), (0, .ref 0), (1, .int v1)]) 2 28 dX7_findHolds_25 rfl rfl rfl (by decide) rfl ?_
    refine sk_goto 2 dX7_findHolds_28 (by decide) ?_
    refine sk_perm (lv2 := [(0, .ref 0), (1, .int v1), (2, .int (v2 + 1))]) [1, 2, 0] rfl ?_
    exact h

theorem wX7_liftedBy {d : Nat} {τ : sk_T} {K : sk_K} {v1 : Int32} {v2 : Int32}
  (h : sk_G sk_Sm d mX7_liftedBy 5 [(0, .ref 0), (1, .int v1), (2, .int v2), (3, .int 0), (4, .int 0)] [] τ K) :
  sk_C sk_Sm d mX7_liftedBy [.ref 0, .int v1, .int v2] τ K := by
  refine sk_enter mfX7_liftedBy (Nat.le_of_ble_eq_true rfl) ?_
  show sk_G sk_Sm d mX7_liftedBy 0 [(0, .ref 0), (1, .int v1), (2, .int v2)] [] τ K
  refine sk_iconst (v := 0) 1 dX7_liftedBy_0 rfl (by decide) ?_
  refine sk_istore_n (lv2 := [(3, .int 0), (0, .ref 0), (1, .int v1), (2, .int v2)]) 2 dX7_liftedBy_1 rfl rfl (by decide) rfl ?_
  refine sk_iconst (v := 0) 3 dX7_liftedBy_2 rfl (by decide) ?_
  refine sk_istore (lv2 := [(4, .int 0), (3, .int 0), (0, .ref 0), (1, .int v1), (2, .int v2)]) 5 dX7_liftedBy_3 rfl (by decide) rfl ?_
  refine sk_perm (lv2 := [(0, .ref 0), (1, .int v1), (2, .int v2), (3, .int 0), (4, .int 0)]) [2, 3, 4, 1, 0] rfl ?_
  exact h

theorem bX7_liftedBy_5 {d : Nat} {τ : sk_T} {K : sk_K} {v1 : Int32} {v2 : Int32} {v3 : Int32} {v4 : Int32}
  (h : ((6 ≤ v4 →
      K (some (.int v3)) τ
    ) ∧
    (¬ 6 ≤ v4 →
      sk_G sk_Sm d mX7_liftedBy 18 [(0, .ref 0), (1, .int v1), (2, .int v2), (3, .int v3), (4, .int v4), (5, .int 0), (6, .int 0)] [] τ K
    ))) :
  sk_G sk_Sm d mX7_liftedBy 5 [(0, .ref 0), (1, .int v1), (2, .int v2), (3, .int v3), (4, .int v4)] [] τ K := by
  refine sk_iload 4 7 dX7_liftedBy_5 rfl rfl ?_
  refine sk_bipush (v := 6) 9 dX7_liftedBy_7 rfl (by decide) ?_
  refine sk_icmp_ge 229 12 dX7_liftedBy_9 (by decide) rfl (fun hc => ?_) (fun hc => ?_)
  · have h := h.1 hc
    refine sk_iload_n 3 230 dX7_liftedBy_229 rfl rfl rfl ?_
    exact sk_iret dX7_liftedBy_230 rfl rfl h
  · have h := h.2 hc
    refine sk_iconst (v := 0) 13 dX7_liftedBy_12 rfl (by decide) ?_
    refine sk_istore (lv2 := [(5, .int 0), (0, .ref 0), (1, .int v1), (2, .int v2), (3, .int v3), (4, .int v4)]) 15 dX7_liftedBy_13 rfl (by decide) rfl ?_
    refine sk_iconst (v := 0) 16 dX7_liftedBy_15 rfl (by decide) ?_
    refine sk_istore (lv2 := [(6, .int 0), (5, .int 0), (0, .ref 0), (1, .int v1), (2, .int v2), (3, .int v3), (4, .int v4)]) 18 dX7_liftedBy_16 rfl (by decide) rfl ?_
    refine sk_perm (lv2 := [(0, .ref 0), (1, .int v1), (2, .int v2), (3, .int v3), (4, .int v4), (5, .int 0), (6, .int 0)]) [2, 3, 4, 5, 6, 1, 0] rfl ?_
    exact h

theorem bX7_liftedBy_18 {d : Nat} {τ : sk_T} {K : sk_K} {v1 : Int32} {v2 : Int32} {v3 : Int32} {v4 : Int32} {v5 : Int32} {v6 : Int32} (hd0 : 0 < d)
  (h : (((τ 1 6) ≤ v6 →
      sk_G sk_Sm d mX7_liftedBy 5 [(0, .ref 0), (1, .int v1), (2, .int v2), (3, .int (v3 ||| v5)), (4, .int (v4 + 1))] [] τ K
    ) ∧
    (¬ (τ 1 6) ≤ v6 →
      sk_C sk_Sm (d - 1) mX7_its [.ref 0, .int v6, .int 6] τ (fun w t35 => ∃ r35 : Int32, w = some (.int r35) ∧
        ((r35 = (-1) →
          sk_G sk_Sm d mX7_liftedBy 88 [(0, .ref 0), (1, .int v1), (2, .int v2), (3, .int v3), (4, .int v4), (5, .int v5), (6, .int v6), (7, .int 0), (8, .int 0)] [] t35 K
        ) ∧
        (¬ r35 = (-1) →
          sk_C sk_Sm (d - 1) mX7_its [.ref 0, .int v6, .int 6] t35 (fun w t47 => ∃ r47 : Int32, w = some (.int r47) ∧
            ((¬ (r47 / 8) = v4 →
              sk_G sk_Sm d mX7_liftedBy 88 [(0, .ref 0), (1, .int v1), (2, .int v2), (3, .int v3), (4, .int v4), (5, .int v5), (6, .int v6), (7, .int 0), (8, .int 0)] [] t47 K
            ) ∧
            ((r47 / 8) = v4 →
              ((¬ ((v2 >>> (v6 &&& 31)) &&& 1) = 0 →
                sk_G sk_Sm d mX7_liftedBy 88 [(0, .ref 0), (1, .int v1), (2, .int v2), (3, .int v3), (4, .int v4), (5, .int v5), (6, .int v6), (7, .int 0), (8, .int 0)] [] t47 K
              ) ∧
              (((v2 >>> (v6 &&& 31)) &&& 1) = 0 →
                vp_in v6 10 ∧
                ((v1 ≤ (t47 7 (v6).toNatClampNeg) →
                  sk_G sk_Sm d mX7_liftedBy 88 [(0, .ref 0), (1, .int v1), (2, .int v2), (3, .int v3), (4, .int v4), (5, .int v5), (6, .int v6), (7, .int 0), (8, .int 0)] [] t47 K
                ) ∧
                (¬ v1 ≤ (t47 7 (v6).toNatClampNeg) →
                  sk_G sk_Sm d mX7_liftedBy 88 [(0, .ref 0), (1, .int v1), (2, .int v2), (3, .int v3), (4, .int v4), (5, .int v5), (6, .int v6), (7, .int 1), (8, .int 0)] [] t47 K
                ))
              ))
            ))
          )
        ))
      )
    ))) :
  sk_G sk_Sm d mX7_liftedBy 18 [(0, .ref 0), (1, .int v1), (2, .int v2), (3, .int v3), (4, .int v4), (5, .int v5), (6, .int v6)] [] τ K := by
  refine sk_iload 6 20 dX7_liftedBy_18 rfl rfl ?_
  refine sk_aload_n 0 21 dX7_liftedBy_20 rfl rfl rfl ?_
  refine sk_getR (r := 1) 24 dX7_liftedBy_21 rfl lfX7_7 sm_0 rfl ?_
  refine sk_bipush (v := 6) 26 dX7_liftedBy_24 rfl (by decide) ?_
  refine sk_iald 27 dX7_liftedBy_26 rfl sm_1 (by unfold vp_in; decide) 6 rfl ?_
  refine sk_icmp_ge 218 30 dX7_liftedBy_27 (by decide) rfl (fun hc => ?_) (fun hc => ?_)
  · have h := h.1 hc
    refine sk_iload_n 3 219 dX7_liftedBy_218 rfl rfl rfl ?_
    refine sk_iload 5 221 dX7_liftedBy_219 rfl rfl ?_
    refine sk_ior 222 dX7_liftedBy_221 rfl ?_
    refine sk_istore_n (lv2 := [(3, .int (v3 ||| v5)), (0, .ref 0), (1, .int v1), (2, .int v2), (4, .int v4), (5, .int v5), (6, .int v6)]) 223 dX7_liftedBy_222 rfl rfl (by decide) rfl ?_
    refine sk_iinc (v := (v4 + 1)) (lv2 := [(4, .int (v4 + 1)), (3, .int (v3 ||| v5)), (0, .ref 0), (1, .int v1), (2, .int v2), (5, .int v5), (6, .int v6)]) 4 226 dX7_liftedBy_223 rfl rfl rfl (by decide) rfl ?_
    refine sk_goto 5 dX7_liftedBy_226 (by decide) ?_
    refine sk_perm (lv2 := [(0, .ref 0), (1, .int v1), (2, .int v2), (3, .int (v3 ||| v5)), (4, .int (v4 + 1))]) [2, 3, 4, 1, 0] rfl ?_
    exact h
  · have h := h.2 hc
    refine sk_aload_n 0 31 dX7_liftedBy_30 rfl rfl rfl ?_
    refine sk_iload 6 33 dX7_liftedBy_31 rfl rfl ?_
    refine sk_bipush (v := 6) 35 dX7_liftedBy_33 rfl (by decide) ?_
    refine sk_callVi [.int v6, .int 6] [] 38 dX7_liftedBy_35 rfl mfX7_its lkX7_111 miX7_its msX7_its sm_0 rfl rfl rfl rfl (by simp [Value.category]) hd0 (sk_Cm h ?_)
    rintro w t35 ⟨r35, hw, h⟩
    refine ⟨r35, hw, ?_⟩
    refine sk_iconst (v := (-1)) 39 dX7_liftedBy_38 rfl (by decide) ?_
    refine sk_icmp_eq 82 42 dX7_liftedBy_39 (by decide) rfl (fun hc => ?_) (fun hc => ?_)
    · have h := h.1 hc
      refine sk_iconst (v := 0) 83 dX7_liftedBy_82 rfl (by decide) ?_
      refine sk_istore (lv2 := [(7, .int 0), (0, .ref 0), (1, .int v1), (2, .int v2), (3, .int v3), (4, .int v4), (5, .int v5), (6, .int v6)]) 85 dX7_liftedBy_83 rfl (by decide) rfl ?_
      refine sk_iconst (v := 0) 86 dX7_liftedBy_85 rfl (by decide) ?_
      refine sk_istore (lv2 := [(8, .int 0), (7, .int 0), (0, .ref 0), (1, .int v1), (2, .int v2), (3, .int v3), (4, .int v4), (5, .int v5), (6, .int v6)]) 88 dX7_liftedBy_86 rfl (by decide) rfl ?_
      refine sk_perm (lv2 := [(0, .ref 0), (1, .int v1), (2, .int v2), (3, .int v3), (4, .int v4), (5, .int v5), (6, .int v6), (7, .int 0), (8, .int 0)]) [2, 3, 4, 5, 6, 7, 8, 1, 0] rfl ?_
      exact h
    · have h := h.2 hc
      refine sk_aload_n 0 43 dX7_liftedBy_42 rfl rfl rfl ?_
      refine sk_iload 6 45 dX7_liftedBy_43 rfl rfl ?_
      refine sk_bipush (v := 6) 47 dX7_liftedBy_45 rfl (by decide) ?_
      refine sk_callVi [.int v6, .int 6] [] 50 dX7_liftedBy_47 rfl mfX7_its lkX7_111 miX7_its msX7_its sm_0 rfl rfl rfl rfl (by simp [Value.category]) hd0 (sk_Cm h ?_)
      rintro w t47 ⟨r47, hw, h⟩
      refine ⟨r47, hw, ?_⟩
      refine sk_bipush (v := 8) 52 dX7_liftedBy_50 rfl (by decide) ?_
      refine sk_idiv 53 dX7_liftedBy_52 rfl (by decide) ?_
      refine sk_iload 4 55 dX7_liftedBy_53 rfl rfl ?_
      refine sk_icmp_ne 82 58 dX7_liftedBy_55 (by decide) rfl (fun hc => ?_) (fun hc => ?_)
      · have h := h.1 hc
        refine sk_iconst (v := 0) 83 dX7_liftedBy_82 rfl (by decide) ?_
        refine sk_istore (lv2 := [(7, .int 0), (0, .ref 0), (1, .int v1), (2, .int v2), (3, .int v3), (4, .int v4), (5, .int v5), (6, .int v6)]) 85 dX7_liftedBy_83 rfl (by decide) rfl ?_
        refine sk_iconst (v := 0) 86 dX7_liftedBy_85 rfl (by decide) ?_
        refine sk_istore (lv2 := [(8, .int 0), (7, .int 0), (0, .ref 0), (1, .int v1), (2, .int v2), (3, .int v3), (4, .int v4), (5, .int v5), (6, .int v6)]) 88 dX7_liftedBy_86 rfl (by decide) rfl ?_
        refine sk_perm (lv2 := [(0, .ref 0), (1, .int v1), (2, .int v2), (3, .int v3), (4, .int v4), (5, .int v5), (6, .int v6), (7, .int 0), (8, .int 0)]) [2, 3, 4, 5, 6, 7, 8, 1, 0] rfl ?_
        exact h
      · have h := h.2 hc
        refine sk_iload_n 2 59 dX7_liftedBy_58 rfl rfl rfl ?_
        refine sk_iload 6 61 dX7_liftedBy_59 rfl rfl ?_
        refine sk_ishr 62 dX7_liftedBy_61 rfl ?_
        refine sk_iconst (v := 1) 63 dX7_liftedBy_62 rfl (by decide) ?_
        refine sk_iand 64 dX7_liftedBy_63 rfl ?_
        refine sk_if_ne 82 67 dX7_liftedBy_64 (by decide) rfl (fun hc => ?_) (fun hc => ?_)
        · have h := h.1 hc
          refine sk_iconst (v := 0) 83 dX7_liftedBy_82 rfl (by decide) ?_
          refine sk_istore (lv2 := [(7, .int 0), (0, .ref 0), (1, .int v1), (2, .int v2), (3, .int v3), (4, .int v4), (5, .int v5), (6, .int v6)]) 85 dX7_liftedBy_83 rfl (by decide) rfl ?_
          refine sk_iconst (v := 0) 86 dX7_liftedBy_85 rfl (by decide) ?_
          refine sk_istore (lv2 := [(8, .int 0), (7, .int 0), (0, .ref 0), (1, .int v1), (2, .int v2), (3, .int v3), (4, .int v4), (5, .int v5), (6, .int v6)]) 88 dX7_liftedBy_86 rfl (by decide) rfl ?_
          refine sk_perm (lv2 := [(0, .ref 0), (1, .int v1), (2, .int v2), (3, .int v3), (4, .int v4), (5, .int v5), (6, .int v6), (7, .int 0), (8, .int 0)]) [2, 3, 4, 5, 6, 7, 8, 1, 0] rfl ?_
          exact h
        · have h := h.2 hc
          refine sk_aload_n 0 68 dX7_liftedBy_67 rfl rfl rfl ?_
          refine sk_getR (r := 7) 71 dX7_liftedBy_68 rfl lfX7_28 sm_0 rfl ?_
          refine sk_iload 6 73 dX7_liftedBy_71 rfl rfl ?_
          have hb73 := h.1
          have h := h.2
          refine sk_iald 74 dX7_liftedBy_73 rfl sm_7 hb73 _ rfl ?_
          refine sk_iload_n 1 75 dX7_liftedBy_74 rfl rfl rfl ?_
          refine sk_icmp_ge 82 78 dX7_liftedBy_75 (by decide) rfl (fun hc => ?_) (fun hc => ?_)
          · have h := h.1 hc
            refine sk_iconst (v := 0) 83 dX7_liftedBy_82 rfl (by decide) ?_
            refine sk_istore (lv2 := [(7, .int 0), (0, .ref 0), (1, .int v1), (2, .int v2), (3, .int v3), (4, .int v4), (5, .int v5), (6, .int v6)]) 85 dX7_liftedBy_83 rfl (by decide) rfl ?_
            refine sk_iconst (v := 0) 86 dX7_liftedBy_85 rfl (by decide) ?_
            refine sk_istore (lv2 := [(8, .int 0), (7, .int 0), (0, .ref 0), (1, .int v1), (2, .int v2), (3, .int v3), (4, .int v4), (5, .int v5), (6, .int v6)]) 88 dX7_liftedBy_86 rfl (by decide) rfl ?_
            refine sk_perm (lv2 := [(0, .ref 0), (1, .int v1), (2, .int v2), (3, .int v3), (4, .int v4), (5, .int v5), (6, .int v6), (7, .int 0), (8, .int 0)]) [2, 3, 4, 5, 6, 7, 8, 1, 0] rfl ?_
            exact h
          · have h := h.2 hc
            refine sk_iconst (v := 1) 79 dX7_liftedBy_78 rfl (by decide) ?_
            refine sk_goto 83 dX7_liftedBy_79 (by decide) ?_
            refine sk_istore (lv2 := [(7, .int 1), (0, .ref 0), (1, .int v1), (2, .int v2), (3, .int v3), (4, .int v4), (5, .int v5), (6, .int v6)]) 85 dX7_liftedBy_83 rfl (by decide) rfl ?_
            refine sk_iconst (v := 0) 86 dX7_liftedBy_85 rfl (by decide) ?_
            refine sk_istore (lv2 := [(8, .int 0), (7, .int 1), (0, .ref 0), (1, .int v1), (2, .int v2), (3, .int v3), (4, .int v4), (5, .int v5), (6, .int v6)]) 88 dX7_liftedBy_86 rfl (by decide) rfl ?_
            refine sk_perm (lv2 := [(0, .ref 0), (1, .int v1), (2, .int v2), (3, .int v3), (4, .int v4), (5, .int v5), (6, .int v6), (7, .int 1), (8, .int 0)]) [2, 3, 4, 5, 6, 7, 8, 1, 0] rfl ?_
            exact h

theorem bX7_liftedBy_88 {d : Nat} {τ : sk_T} {K : sk_K} {v1 : Int32} {v2 : Int32} {v3 : Int32} {v4 : Int32} {v5 : Int32} {v6 : Int32} {v7 : Int32} {v8 : Int32} (hd0 : 0 < d)
  (h : (((τ 1 6) ≤ v8 →
      ((v7 = 0 →
        sk_G sk_Sm d mX7_liftedBy 18 [(0, .ref 0), (1, .int v1), (2, .int v2), (3, .int v3), (4, .int v4), (5, .int (v5 ||| 0)), (6, .int (v6 + 1))] [] τ K
      ) ∧
      (¬ v7 = 0 →
        sk_G sk_Sm d mX7_liftedBy 18 [(0, .ref 0), (1, .int v1), (2, .int v2), (3, .int v3), (4, .int v4), (5, .int (v5 ||| (1 <<< (v6 &&& 31)))), (6, .int (v6 + 1))] [] τ K
      ))
    ) ∧
    (¬ (τ 1 6) ≤ v8 →
      ((v7 = 0 →
        ((v7 = 0 →
          sk_G sk_Sm d mX7_liftedBy 18 [(0, .ref 0), (1, .int v1), (2, .int v2), (3, .int v3), (4, .int v4), (5, .int (v5 ||| 0)), (6, .int (v6 + 1))] [] τ K
        ) ∧
        (¬ v7 = 0 →
          sk_G sk_Sm d mX7_liftedBy 18 [(0, .ref 0), (1, .int v1), (2, .int v2), (3, .int v3), (4, .int v4), (5, .int (v5 ||| (1 <<< (v6 &&& 31)))), (6, .int (v6 + 1))] [] τ K
        ))
      ) ∧
      (¬ v7 = 0 →
        ((v8 = v6 →
          (((0 : Int32) = 0 →
            sk_G sk_Sm d mX7_liftedBy 88 [(0, .ref 0), (1, .int v1), (2, .int v2), (3, .int v3), (4, .int v4), (5, .int v5), (6, .int v6), (7, .int 1), (8, .int (v8 + 1))] [] τ K
          ) ∧
          (¬ (0 : Int32) = 0 →
            sk_C sk_Sm (d - 1) mX7_covers [.ref 0, .int v8] τ (fun w t166 => ∃ r166 : Int64, w = some (.long r166) ∧
              sk_C sk_Sm (d - 1) mX7_own [.ref 0, .int v6] t166 (fun w t172 => ∃ r172 : Int64, w = some (.long r172) ∧
                ((¬ (lg_cmp (r166 &&& r172) 0) = 0 →
                  sk_G sk_Sm d mX7_liftedBy 88 [(0, .ref 0), (1, .int v1), (2, .int v2), (3, .int v3), (4, .int v4), (5, .int v5), (6, .int v6), (7, .int 0), (8, .int (v8 + 1))] [] t172 K
                ) ∧
                ((lg_cmp (r166 &&& r172) 0) = 0 →
                  sk_G sk_Sm d mX7_liftedBy 88 [(0, .ref 0), (1, .int v1), (2, .int v2), (3, .int v3), (4, .int v4), (5, .int v5), (6, .int v6), (7, .int 1), (8, .int (v8 + 1))] [] t172 K
                ))
              )
            )
          ))
        ) ∧
        (¬ v8 = v6 →
          sk_C sk_Sm (d - 1) mX7_its [.ref 0, .int v8, .int 6] τ (fun w t117 => ∃ r117 : Int32, w = some (.int r117) ∧
            ((r117 = (-1) →
              (((0 : Int32) = 0 →
                sk_G sk_Sm d mX7_liftedBy 88 [(0, .ref 0), (1, .int v1), (2, .int v2), (3, .int v3), (4, .int v4), (5, .int v5), (6, .int v6), (7, .int 1), (8, .int (v8 + 1))] [] t117 K
              ) ∧
              (¬ (0 : Int32) = 0 →
                sk_C sk_Sm (d - 1) mX7_covers [.ref 0, .int v8] t117 (fun w t166 => ∃ r166 : Int64, w = some (.long r166) ∧
                  sk_C sk_Sm (d - 1) mX7_own [.ref 0, .int v6] t166 (fun w t172 => ∃ r172 : Int64, w = some (.long r172) ∧
                    ((¬ (lg_cmp (r166 &&& r172) 0) = 0 →
                      sk_G sk_Sm d mX7_liftedBy 88 [(0, .ref 0), (1, .int v1), (2, .int v2), (3, .int v3), (4, .int v4), (5, .int v5), (6, .int v6), (7, .int 0), (8, .int (v8 + 1))] [] t172 K
                    ) ∧
                    ((lg_cmp (r166 &&& r172) 0) = 0 →
                      sk_G sk_Sm d mX7_liftedBy 88 [(0, .ref 0), (1, .int v1), (2, .int v2), (3, .int v3), (4, .int v4), (5, .int v5), (6, .int v6), (7, .int 1), (8, .int (v8 + 1))] [] t172 K
                    ))
                  )
                )
              ))
            ) ∧
            (¬ r117 = (-1) →
              sk_C sk_Sm (d - 1) mX7_its [.ref 0, .int v8, .int 6] t117 (fun w t129 => ∃ r129 : Int32, w = some (.int r129) ∧
                ((¬ (r129 / 8) = (v4 - 1) →
                  (((0 : Int32) = 0 →
                    sk_G sk_Sm d mX7_liftedBy 88 [(0, .ref 0), (1, .int v1), (2, .int v2), (3, .int v3), (4, .int v4), (5, .int v5), (6, .int v6), (7, .int 1), (8, .int (v8 + 1))] [] t129 K
                  ) ∧
                  (¬ (0 : Int32) = 0 →
                    sk_C sk_Sm (d - 1) mX7_covers [.ref 0, .int v8] t129 (fun w t166 => ∃ r166 : Int64, w = some (.long r166) ∧
                      sk_C sk_Sm (d - 1) mX7_own [.ref 0, .int v6] t166 (fun w t172 => ∃ r172 : Int64, w = some (.long r172) ∧
                        ((¬ (lg_cmp (r166 &&& r172) 0) = 0 →
                          sk_G sk_Sm d mX7_liftedBy 88 [(0, .ref 0), (1, .int v1), (2, .int v2), (3, .int v3), (4, .int v4), (5, .int v5), (6, .int v6), (7, .int 0), (8, .int (v8 + 1))] [] t172 K
                        ) ∧
                        ((lg_cmp (r166 &&& r172) 0) = 0 →
                          sk_G sk_Sm d mX7_liftedBy 88 [(0, .ref 0), (1, .int v1), (2, .int v2), (3, .int v3), (4, .int v4), (5, .int v5), (6, .int v6), (7, .int 1), (8, .int (v8 + 1))] [] t172 K
                        ))
                      )
                    )
                  ))
                ) ∧
                ((r129 / 8) = (v4 - 1) →
                  ((¬ ((v3 >>> (v8 &&& 31)) &&& 1) = 0 →
                    (((0 : Int32) = 0 →
                      sk_G sk_Sm d mX7_liftedBy 88 [(0, .ref 0), (1, .int v1), (2, .int v2), (3, .int v3), (4, .int v4), (5, .int v5), (6, .int v6), (7, .int 1), (8, .int (v8 + 1))] [] t129 K
                    ) ∧
                    (¬ (0 : Int32) = 0 →
                      sk_C sk_Sm (d - 1) mX7_covers [.ref 0, .int v8] t129 (fun w t166 => ∃ r166 : Int64, w = some (.long r166) ∧
                        sk_C sk_Sm (d - 1) mX7_own [.ref 0, .int v6] t166 (fun w t172 => ∃ r172 : Int64, w = some (.long r172) ∧
                          ((¬ (lg_cmp (r166 &&& r172) 0) = 0 →
                            sk_G sk_Sm d mX7_liftedBy 88 [(0, .ref 0), (1, .int v1), (2, .int v2), (3, .int v3), (4, .int v4), (5, .int v5), (6, .int v6), (7, .int 0), (8, .int (v8 + 1))] [] t172 K
                          ) ∧
                          ((lg_cmp (r166 &&& r172) 0) = 0 →
                            sk_G sk_Sm d mX7_liftedBy 88 [(0, .ref 0), (1, .int v1), (2, .int v2), (3, .int v3), (4, .int v4), (5, .int v5), (6, .int v6), (7, .int 1), (8, .int (v8 + 1))] [] t172 K
                          ))
                        )
                      )
                    ))
                  ) ∧
                  (((v3 >>> (v8 &&& 31)) &&& 1) = 0 →
                    (((1 : Int32) = 0 →
                      sk_G sk_Sm d mX7_liftedBy 88 [(0, .ref 0), (1, .int v1), (2, .int v2), (3, .int v3), (4, .int v4), (5, .int v5), (6, .int v6), (7, .int 1), (8, .int (v8 + 1))] [] t129 K
                    ) ∧
                    (¬ (1 : Int32) = 0 →
                      sk_C sk_Sm (d - 1) mX7_covers [.ref 0, .int v8] t129 (fun w t166 => ∃ r166 : Int64, w = some (.long r166) ∧
                        sk_C sk_Sm (d - 1) mX7_own [.ref 0, .int v6] t166 (fun w t172 => ∃ r172 : Int64, w = some (.long r172) ∧
                          ((¬ (lg_cmp (r166 &&& r172) 0) = 0 →
                            sk_G sk_Sm d mX7_liftedBy 88 [(0, .ref 0), (1, .int v1), (2, .int v2), (3, .int v3), (4, .int v4), (5, .int v5), (6, .int v6), (7, .int 0), (8, .int (v8 + 1))] [] t172 K
                          ) ∧
                          ((lg_cmp (r166 &&& r172) 0) = 0 →
                            sk_G sk_Sm d mX7_liftedBy 88 [(0, .ref 0), (1, .int v1), (2, .int v2), (3, .int v3), (4, .int v4), (5, .int v5), (6, .int v6), (7, .int 1), (8, .int (v8 + 1))] [] t172 K
                          ))
                        )
                      )
                    ))
                  ))
                ))
              )
            ))
          )
        ))
      ))
    ))) :
  sk_G sk_Sm d mX7_liftedBy 88 [(0, .ref 0), (1, .int v1), (2, .int v2), (3, .int v3), (4, .int v4), (5, .int v5), (6, .int v6), (7, .int v7), (8, .int v8)] [] τ K := by
  refine sk_iload 8 90 dX7_liftedBy_88 rfl rfl ?_
  refine sk_aload_n 0 91 dX7_liftedBy_90 rfl rfl rfl ?_
  refine sk_getR (r := 1) 94 dX7_liftedBy_91 rfl lfX7_7 sm_0 rfl ?_
  refine sk_bipush (v := 6) 96 dX7_liftedBy_94 rfl (by decide) ?_
  refine sk_iald 97 dX7_liftedBy_96 rfl sm_1 (by unfold vp_in; decide) 6 rfl ?_
  refine sk_icmp_ge 194 100 dX7_liftedBy_97 (by decide) rfl (fun hc => ?_) (fun hc => ?_)
  · have h := h.1 hc
    refine sk_iload 5 196 dX7_liftedBy_194 rfl rfl ?_
    refine sk_iload 7 198 dX7_liftedBy_196 rfl rfl ?_
    refine sk_if_eq 208 201 dX7_liftedBy_198 (by decide) rfl (fun hc => ?_) (fun hc => ?_)
    · have h := h.1 hc
      refine sk_iconst (v := 0) 209 dX7_liftedBy_208 rfl (by decide) ?_
      refine sk_ior 210 dX7_liftedBy_209 rfl ?_
      refine sk_istore (lv2 := [(5, .int (v5 ||| 0)), (0, .ref 0), (1, .int v1), (2, .int v2), (3, .int v3), (4, .int v4), (6, .int v6), (7, .int v7), (8, .int v8)]) 212 dX7_liftedBy_210 rfl (by decide) rfl ?_
      refine sk_iinc (v := (v6 + 1)) (lv2 := [(6, .int (v6 + 1)), (5, .int (v5 ||| 0)), (0, .ref 0), (1, .int v1), (2, .int v2), (3, .int v3), (4, .int v4), (7, .int v7), (8, .int v8)]) 6 215 dX7_liftedBy_212 rfl rfl rfl (by decide) rfl ?_
      refine sk_goto 18 dX7_liftedBy_215 (by decide) ?_
      refine sk_perm (lv2 := [(0, .ref 0), (1, .int v1), (2, .int v2), (3, .int v3), (4, .int v4), (5, .int (v5 ||| 0)), (6, .int (v6 + 1))]) [2, 3, 4, 5, 6, 1, 0] rfl ?_
      exact h
    · have h := h.2 hc
      refine sk_iconst (v := 1) 202 dX7_liftedBy_201 rfl (by decide) ?_
      refine sk_iload 6 204 dX7_liftedBy_202 rfl rfl ?_
      refine sk_ishl 205 dX7_liftedBy_204 rfl ?_
      refine sk_goto 209 dX7_liftedBy_205 (by decide) ?_
      refine sk_ior 210 dX7_liftedBy_209 rfl ?_
      refine sk_istore (lv2 := [(5, .int (v5 ||| (1 <<< (v6 &&& 31)))), (0, .ref 0), (1, .int v1), (2, .int v2), (3, .int v3), (4, .int v4), (6, .int v6), (7, .int v7), (8, .int v8)]) 212 dX7_liftedBy_210 rfl (by decide) rfl ?_
      refine sk_iinc (v := (v6 + 1)) (lv2 := [(6, .int (v6 + 1)), (5, .int (v5 ||| (1 <<< (v6 &&& 31)))), (0, .ref 0), (1, .int v1), (2, .int v2), (3, .int v3), (4, .int v4), (7, .int v7), (8, .int v8)]) 6 215 dX7_liftedBy_212 rfl rfl rfl (by decide) rfl ?_
      refine sk_goto 18 dX7_liftedBy_215 (by decide) ?_
      refine sk_perm (lv2 := [(0, .ref 0), (1, .int v1), (2, .int v2), (3, .int v3), (4, .int v4), (5, .int (v5 ||| (1 <<< (v6 &&& 31)))), (6, .int (v6 + 1))]) [2, 3, 4, 5, 6, 1, 0] rfl ?_
      exact h
  · have h := h.2 hc
    refine sk_iload 7 102 dX7_liftedBy_100 rfl rfl ?_
    refine sk_if_eq 194 105 dX7_liftedBy_102 (by decide) rfl (fun hc => ?_) (fun hc => ?_)
    · have h := h.1 hc
      refine sk_iload 5 196 dX7_liftedBy_194 rfl rfl ?_
      refine sk_iload 7 198 dX7_liftedBy_196 rfl rfl ?_
      refine sk_if_eq 208 201 dX7_liftedBy_198 (by decide) rfl (fun hc => ?_) (fun hc => ?_)
      · have h := h.1 hc
        refine sk_iconst (v := 0) 209 dX7_liftedBy_208 rfl (by decide) ?_
        refine sk_ior 210 dX7_liftedBy_209 rfl ?_
        refine sk_istore (lv2 := [(5, .int (v5 ||| 0)), (0, .ref 0), (1, .int v1), (2, .int v2), (3, .int v3), (4, .int v4), (6, .int v6), (7, .int v7), (8, .int v8)]) 212 dX7_liftedBy_210 rfl (by decide) rfl ?_
        refine sk_iinc (v := (v6 + 1)) (lv2 := [(6, .int (v6 + 1)), (5, .int (v5 ||| 0)), (0, .ref 0), (1, .int v1), (2, .int v2), (3, .int v3), (4, .int v4), (7, .int v7), (8, .int v8)]) 6 215 dX7_liftedBy_212 rfl rfl rfl (by decide) rfl ?_
        refine sk_goto 18 dX7_liftedBy_215 (by decide) ?_
        refine sk_perm (lv2 := [(0, .ref 0), (1, .int v1), (2, .int v2), (3, .int v3), (4, .int v4), (5, .int (v5 ||| 0)), (6, .int (v6 + 1))]) [2, 3, 4, 5, 6, 1, 0] rfl ?_
        exact h
      · have h := h.2 hc
        refine sk_iconst (v := 1) 202 dX7_liftedBy_201 rfl (by decide) ?_
        refine sk_iload 6 204 dX7_liftedBy_202 rfl rfl ?_
        refine sk_ishl 205 dX7_liftedBy_204 rfl ?_
        refine sk_goto 209 dX7_liftedBy_205 (by decide) ?_
        refine sk_ior 210 dX7_liftedBy_209 rfl ?_
        refine sk_istore (lv2 := [(5, .int (v5 ||| (1 <<< (v6 &&& 31)))), (0, .ref 0), (1, .int v1), (2, .int v2), (3, .int v3), (4, .int v4), (6, .int v6), (7, .int v7), (8, .int v8)]) 212 dX7_liftedBy_210 rfl (by decide) rfl ?_
        refine sk_iinc (v := (v6 + 1)) (lv2 := [(6, .int (v6 + 1)), (5, .int (v5 ||| (1 <<< (v6 &&& 31)))), (0, .ref 0), (1, .int v1), (2, .int v2), (3, .int v3), (4, .int v4), (7, .int v7), (8, .int v8)]) 6 215 dX7_liftedBy_212 rfl rfl rfl (by decide) rfl ?_
        refine sk_goto 18 dX7_liftedBy_215 (by decide) ?_
        refine sk_perm (lv2 := [(0, .ref 0), (1, .int v1), (2, .int v2), (3, .int v3), (4, .int v4), (5, .int (v5 ||| (1 <<< (v6 &&& 31)))), (6, .int (v6 + 1))]) [2, 3, 4, 5, 6, 1, 0] rfl ?_
        exact h
    · have h := h.2 hc
      refine sk_iload 8 107 dX7_liftedBy_105 rfl rfl ?_
      refine sk_iload 6 109 dX7_liftedBy_107 rfl rfl ?_
      refine sk_icmp_eq 155 112 dX7_liftedBy_109 (by decide) rfl (fun hc => ?_) (fun hc => ?_)
      · have h := h.1 hc
        refine sk_iconst (v := 0) 156 dX7_liftedBy_155 rfl (by decide) ?_
        refine sk_istore (lv2 := [(9, .int 0), (0, .ref 0), (1, .int v1), (2, .int v2), (3, .int v3), (4, .int v4), (5, .int v5), (6, .int v6), (7, .int v7), (8, .int v8)]) 158 dX7_liftedBy_156 rfl (by decide) rfl ?_
        refine sk_iload 0 160 dX7_liftedBy_158 rfl rfl ?_
        refine sk_if_eq 181 163 dX7_liftedBy_160 (by decide) rfl (fun hc => ?_) (fun hc => ?_)
        · have h := h.1 hc
          refine sk_iconst (v := 1) 182 dX7_liftedBy_181 rfl (by decide) ?_
          refine sk_goto 186 dX7_liftedBy_182 (by decide) ?_
          refine sk_istore (lv2 := [(7, .int 1), (9, .int 0), (0, .ref 0), (1, .int v1), (2, .int v2), (3, .int v3), (4, .int v4), (5, .int v5), (6, .int v6), (8, .int v8)]) 188 dX7_liftedBy_186 rfl (by decide) rfl ?_
          refine sk_iinc (v := (v8 + 1)) (lv2 := [(8, .int (v8 + 1)), (7, .int 1), (9, .int 0), (0, .ref 0), (1, .int v1), (2, .int v2), (3, .int v3), (4, .int v4), (5, .int v5), (6, .int v6)]) 9 191 dX7_liftedBy_188 rfl rfl rfl (by decide) rfl ?_
          refine sk_goto 88 dX7_liftedBy_191 (by decide) ?_
          refine sk_perm (lv2 := [(0, .ref 0), (1, .int v1), (2, .int v2), (3, .int v3), (4, .int v4), (5, .int v5), (6, .int v6), (7, .int 1), (8, .int (v8 + 1))]) [3, 4, 5, 6, 7, 8, 9, 1, 0] rfl ?_
          exact h
        · have h := h.2 hc
          refine sk_aload_n 1 164 dX7_liftedBy_163 rfl rfl rfl ?_
          refine sk_iload 9 166 dX7_liftedBy_164 rfl rfl ?_
          refine sk_callVl [.int v8] [] 169 dX7_liftedBy_166 rfl mfX7_covers lkX7_140 miX7_covers msX7_covers sm_0 rfl rfl rfl rfl (by simp [Value.category]) hd0 (sk_Cm h ?_)
          rintro w t166 ⟨r166, hw, h⟩
          refine ⟨r166, hw, ?_⟩
          refine sk_aload_n 1 170 dX7_liftedBy_169 rfl rfl rfl ?_
          refine sk_iload 7 172 dX7_liftedBy_170 rfl rfl ?_
          refine sk_callVl [.int v6] [.long r166] 175 dX7_liftedBy_172 rfl mfX7_own lkX7_134 miX7_own msX7_own sm_0 rfl rfl rfl rfl (by simp [Value.category]) hd0 (sk_Cm h ?_)
          rintro w t172 ⟨r172, hw, h⟩
          refine ⟨r172, hw, ?_⟩
          refine sk_land 176 dX7_liftedBy_175 rfl ?_
          refine sk_lconst (v := 0) 177 dX7_liftedBy_176 rfl (by decide) ?_
          refine sk_lcmp 178 dX7_liftedBy_177 rfl ?_
          refine sk_if_ne 185 181 dX7_liftedBy_178 (by decide) rfl (fun hc => ?_) (fun hc => ?_)
          · have h := h.1 hc
            refine sk_iconst (v := 0) 186 dX7_liftedBy_185 rfl (by decide) ?_
            refine sk_istore (lv2 := [(7, .int 0), (9, .int 0), (0, .ref 0), (1, .int v1), (2, .int v2), (3, .int v3), (4, .int v4), (5, .int v5), (6, .int v6), (8, .int v8)]) 188 dX7_liftedBy_186 rfl (by decide) rfl ?_
            refine sk_iinc (v := (v8 + 1)) (lv2 := [(8, .int (v8 + 1)), (7, .int 0), (9, .int 0), (0, .ref 0), (1, .int v1), (2, .int v2), (3, .int v3), (4, .int v4), (5, .int v5), (6, .int v6)]) 9 191 dX7_liftedBy_188 rfl rfl rfl (by decide) rfl ?_
            refine sk_goto 88 dX7_liftedBy_191 (by decide) ?_
            refine sk_perm (lv2 := [(0, .ref 0), (1, .int v1), (2, .int v2), (3, .int v3), (4, .int v4), (5, .int v5), (6, .int v6), (7, .int 0), (8, .int (v8 + 1))]) [3, 4, 5, 6, 7, 8, 9, 1, 0] rfl ?_
            exact h
          · have h := h.2 hc
            refine sk_iconst (v := 1) 182 dX7_liftedBy_181 rfl (by decide) ?_
            refine sk_goto 186 dX7_liftedBy_182 (by decide) ?_
            refine sk_istore (lv2 := [(7, .int 1), (9, .int 0), (0, .ref 0), (1, .int v1), (2, .int v2), (3, .int v3), (4, .int v4), (5, .int v5), (6, .int v6), (8, .int v8)]) 188 dX7_liftedBy_186 rfl (by decide) rfl ?_
            refine sk_iinc (v := (v8 + 1)) (lv2 := [(8, .int (v8 + 1)), (7, .int 1), (9, .int 0), (0, .ref 0), (1, .int v1), (2, .int v2), (3, .int v3), (4, .int v4), (5, .int v5), (6, .int v6)]) 9 191 dX7_liftedBy_188 rfl rfl rfl (by decide) rfl ?_
            refine sk_goto 88 dX7_liftedBy_191 (by decide) ?_
            refine sk_perm (lv2 := [(0, .ref 0), (1, .int v1), (2, .int v2), (3, .int v3), (4, .int v4), (5, .int v5), (6, .int v6), (7, .int 1), (8, .int (v8 + 1))]) [3, 4, 5, 6, 7, 8, 9, 1, 0] rfl ?_
            exact h
      · have h := h.2 hc
        refine sk_aload_n 0 113 dX7_liftedBy_112 rfl rfl rfl ?_
        refine sk_iload 8 115 dX7_liftedBy_113 rfl rfl ?_
        refine sk_bipush (v := 6) 117 dX7_liftedBy_115 rfl (by decide) ?_
        refine sk_callVi [.int v8, .int 6] [] 120 dX7_liftedBy_117 rfl mfX7_its lkX7_111 miX7_its msX7_its sm_0 rfl rfl rfl rfl (by simp [Value.category]) hd0 (sk_Cm h ?_)
        rintro w t117 ⟨r117, hw, h⟩
        refine ⟨r117, hw, ?_⟩
        refine sk_iconst (v := (-1)) 121 dX7_liftedBy_120 rfl (by decide) ?_
        refine sk_icmp_eq 155 124 dX7_liftedBy_121 (by decide) rfl (fun hc => ?_) (fun hc => ?_)
        · have h := h.1 hc
          refine sk_iconst (v := 0) 156 dX7_liftedBy_155 rfl (by decide) ?_
          refine sk_istore (lv2 := [(9, .int 0), (0, .ref 0), (1, .int v1), (2, .int v2), (3, .int v3), (4, .int v4), (5, .int v5), (6, .int v6), (7, .int v7), (8, .int v8)]) 158 dX7_liftedBy_156 rfl (by decide) rfl ?_
          refine sk_iload 0 160 dX7_liftedBy_158 rfl rfl ?_
          refine sk_if_eq 181 163 dX7_liftedBy_160 (by decide) rfl (fun hc => ?_) (fun hc => ?_)
          · have h := h.1 hc
            refine sk_iconst (v := 1) 182 dX7_liftedBy_181 rfl (by decide) ?_
            refine sk_goto 186 dX7_liftedBy_182 (by decide) ?_
            refine sk_istore (lv2 := [(7, .int 1), (9, .int 0), (0, .ref 0), (1, .int v1), (2, .int v2), (3, .int v3), (4, .int v4), (5, .int v5), (6, .int v6), (8, .int v8)]) 188 dX7_liftedBy_186 rfl (by decide) rfl ?_
            refine sk_iinc (v := (v8 + 1)) (lv2 := [(8, .int (v8 + 1)), (7, .int 1), (9, .int 0), (0, .ref 0), (1, .int v1), (2, .int v2), (3, .int v3), (4, .int v4), (5, .int v5), (6, .int v6)]) 9 191 dX7_liftedBy_188 rfl rfl rfl (by decide) rfl ?_
            refine sk_goto 88 dX7_liftedBy_191 (by decide) ?_
            refine sk_perm (lv2 := [(0, .ref 0), (1, .int v1), (2, .int v2), (3, .int v3), (4, .int v4), (5, .int v5), (6, .int v6), (7, .int 1), (8, .int (v8 + 1))]) [3, 4, 5, 6, 7, 8, 9, 1, 0] rfl ?_
            exact h
          · have h := h.2 hc
            refine sk_aload_n 1 164 dX7_liftedBy_163 rfl rfl rfl ?_
            refine sk_iload 9 166 dX7_liftedBy_164 rfl rfl ?_
            refine sk_callVl [.int v8] [] 169 dX7_liftedBy_166 rfl mfX7_covers lkX7_140 miX7_covers msX7_covers sm_0 rfl rfl rfl rfl (by simp [Value.category]) hd0 (sk_Cm h ?_)
            rintro w t166 ⟨r166, hw, h⟩
            refine ⟨r166, hw, ?_⟩
            refine sk_aload_n 1 170 dX7_liftedBy_169 rfl rfl rfl ?_
            refine sk_iload 7 172 dX7_liftedBy_170 rfl rfl ?_
            refine sk_callVl [.int v6] [.long r166] 175 dX7_liftedBy_172 rfl mfX7_own lkX7_134 miX7_own msX7_own sm_0 rfl rfl rfl rfl (by simp [Value.category]) hd0 (sk_Cm h ?_)
            rintro w t172 ⟨r172, hw, h⟩
            refine ⟨r172, hw, ?_⟩
            refine sk_land 176 dX7_liftedBy_175 rfl ?_
            refine sk_lconst (v := 0) 177 dX7_liftedBy_176 rfl (by decide) ?_
            refine sk_lcmp 178 dX7_liftedBy_177 rfl ?_
            refine sk_if_ne 185 181 dX7_liftedBy_178 (by decide) rfl (fun hc => ?_) (fun hc => ?_)
            · have h := h.1 hc
              refine sk_iconst (v := 0) 186 dX7_liftedBy_185 rfl (by decide) ?_
              refine sk_istore (lv2 := [(7, .int 0), (9, .int 0), (0, .ref 0), (1, .int v1), (2, .int v2), (3, .int v3), (4, .int v4), (5, .int v5), (6, .int v6), (8, .int v8)]) 188 dX7_liftedBy_186 rfl (by decide) rfl ?_
              refine sk_iinc (v := (v8 + 1)) (lv2 := [(8, .int (v8 + 1)), (7, .int 0), (9, .int 0), (0, .ref 0), (1, .int v1), (2, .int v2), (3, .int v3), (4, .int v4), (5, .int v5), (6, .int v6)]) 9 191 dX7_liftedBy_188 rfl rfl rfl (by decide) rfl ?_
              refine sk_goto 88 dX7_liftedBy_191 (by decide) ?_
              refine sk_perm (lv2 := [(0, .ref 0), (1, .int v1), (2, .int v2), (3, .int v3), (4, .int v4), (5, .int v5), (6, .int v6), (7, .int 0), (8, .int (v8 + 1))]) [3, 4, 5, 6, 7, 8, 9, 1, 0] rfl ?_
              exact h
            · have h := h.2 hc
              refine sk_iconst (v := 1) 182 dX7_liftedBy_181 rfl (by decide) ?_
              refine sk_goto 186 dX7_liftedBy_182 (by decide) ?_
              refine sk_istore (lv2 := [(7, .int 1), (9, .int 0), (0, .ref 0), (1, .int v1), (2, .int v2), (3, .int v3), (4, .int v4), (5, .int v5), (6, .int v6), (8, .int v8)]) 188 dX7_liftedBy_186 rfl (by decide) rfl ?_
              refine sk_iinc (v := (v8 + 1)) (lv2 := [(8, .int (v8 + 1)), (7, .int 1), (9, .int 0), (0, .ref 0), (1, .int v1), (2, .int v2), (3, .int v3), (4, .int v4), (5, .int v5), (6, .int v6)]) 9 191 dX7_liftedBy_188 rfl rfl rfl (by decide) rfl ?_
              refine sk_goto 88 dX7_liftedBy_191 (by decide) ?_
              refine sk_perm (lv2 := [(0, .ref 0), (1, .int v1), (2, .int v2), (3, .int v3), (4, .int v4), (5, .int v5), (6, .int v6), (7, .int 1), (8, .int (v8 + 1))]) [3, 4, 5, 6, 7, 8, 9, 1, 0] rfl ?_
              exact h
        · have h := h.2 hc
          refine sk_aload_n 0 125 dX7_liftedBy_124 rfl rfl rfl ?_
          refine sk_iload 8 127 dX7_liftedBy_125 rfl rfl ?_
          refine sk_bipush (v := 6) 129 dX7_liftedBy_127 rfl (by decide) ?_
          refine sk_callVi [.int v8, .int 6] [] 132 dX7_liftedBy_129 rfl mfX7_its lkX7_111 miX7_its msX7_its sm_0 rfl rfl rfl rfl (by simp [Value.category]) hd0 (sk_Cm h ?_)
          rintro w t129 ⟨r129, hw, h⟩
          refine ⟨r129, hw, ?_⟩
          refine sk_bipush (v := 8) 134 dX7_liftedBy_132 rfl (by decide) ?_
          refine sk_idiv 135 dX7_liftedBy_134 rfl (by decide) ?_
          refine sk_iload 4 137 dX7_liftedBy_135 rfl rfl ?_
          refine sk_iconst (v := 1) 138 dX7_liftedBy_137 rfl (by decide) ?_
          refine sk_isub 139 dX7_liftedBy_138 rfl ?_
          refine sk_icmp_ne 155 142 dX7_liftedBy_139 (by decide) rfl (fun hc => ?_) (fun hc => ?_)
          · have h := h.1 hc
            refine sk_iconst (v := 0) 156 dX7_liftedBy_155 rfl (by decide) ?_
            refine sk_istore (lv2 := [(9, .int 0), (0, .ref 0), (1, .int v1), (2, .int v2), (3, .int v3), (4, .int v4), (5, .int v5), (6, .int v6), (7, .int v7), (8, .int v8)]) 158 dX7_liftedBy_156 rfl (by decide) rfl ?_
            refine sk_iload 0 160 dX7_liftedBy_158 rfl rfl ?_
            refine sk_if_eq 181 163 dX7_liftedBy_160 (by decide) rfl (fun hc => ?_) (fun hc => ?_)
            · have h := h.1 hc
              refine sk_iconst (v := 1) 182 dX7_liftedBy_181 rfl (by decide) ?_
              refine sk_goto 186 dX7_liftedBy_182 (by decide) ?_
              refine sk_istore (lv2 := [(7, .int 1), (9, .int 0), (0, .ref 0), (1, .int v1), (2, .int v2), (3, .int v3), (4, .int v4), (5, .int v5), (6, .int v6), (8, .int v8)]) 188 dX7_liftedBy_186 rfl (by decide) rfl ?_
              refine sk_iinc (v := (v8 + 1)) (lv2 := [(8, .int (v8 + 1)), (7, .int 1), (9, .int 0), (0, .ref 0), (1, .int v1), (2, .int v2), (3, .int v3), (4, .int v4), (5, .int v5), (6, .int v6)]) 9 191 dX7_liftedBy_188 rfl rfl rfl (by decide) rfl ?_
              refine sk_goto 88 dX7_liftedBy_191 (by decide) ?_
              refine sk_perm (lv2 := [(0, .ref 0), (1, .int v1), (2, .int v2), (3, .int v3), (4, .int v4), (5, .int v5), (6, .int v6), (7, .int 1), (8, .int (v8 + 1))]) [3, 4, 5, 6, 7, 8, 9, 1, 0] rfl ?_
              exact h
            · have h := h.2 hc
              refine sk_aload_n 1 164 dX7_liftedBy_163 rfl rfl rfl ?_
              refine sk_iload 9 166 dX7_liftedBy_164 rfl rfl ?_
              refine sk_callVl [.int v8] [] 169 dX7_liftedBy_166 rfl mfX7_covers lkX7_140 miX7_covers msX7_covers sm_0 rfl rfl rfl rfl (by simp [Value.category]) hd0 (sk_Cm h ?_)
              rintro w t166 ⟨r166, hw, h⟩
              refine ⟨r166, hw, ?_⟩
              refine sk_aload_n 1 170 dX7_liftedBy_169 rfl rfl rfl ?_
              refine sk_iload 7 172 dX7_liftedBy_170 rfl rfl ?_
              refine sk_callVl [.int v6] [.long r166] 175 dX7_liftedBy_172 rfl mfX7_own lkX7_134 miX7_own msX7_own sm_0 rfl rfl rfl rfl (by simp [Value.category]) hd0 (sk_Cm h ?_)
              rintro w t172 ⟨r172, hw, h⟩
              refine ⟨r172, hw, ?_⟩
              refine sk_land 176 dX7_liftedBy_175 rfl ?_
              refine sk_lconst (v := 0) 177 dX7_liftedBy_176 rfl (by decide) ?_
              refine sk_lcmp 178 dX7_liftedBy_177 rfl ?_
              refine sk_if_ne 185 181 dX7_liftedBy_178 (by decide) rfl (fun hc => ?_) (fun hc => ?_)
              · have h := h.1 hc
                refine sk_iconst (v := 0) 186 dX7_liftedBy_185 rfl (by decide) ?_
                refine sk_istore (lv2 := [(7, .int 0), (9, .int 0), (0, .ref 0), (1, .int v1), (2, .int v2), (3, .int v3), (4, .int v4), (5, .int v5), (6, .int v6), (8, .int v8)]) 188 dX7_liftedBy_186 rfl (by decide) rfl ?_
                refine sk_iinc (v := (v8 + 1)) (lv2 := [(8, .int (v8 + 1)), (7, .int 0), (9, .int 0), (0, .ref 0), (1, .int v1), (2, .int v2), (3, .int v3), (4, .int v4), (5, .int v5), (6, .int v6)]) 9 191 dX7_liftedBy_188 rfl rfl rfl (by decide) rfl ?_
                refine sk_goto 88 dX7_liftedBy_191 (by decide) ?_
                refine sk_perm (lv2 := [(0, .ref 0), (1, .int v1), (2, .int v2), (3, .int v3), (4, .int v4), (5, .int v5), (6, .int v6), (7, .int 0), (8, .int (v8 + 1))]) [3, 4, 5, 6, 7, 8, 9, 1, 0] rfl ?_
                exact h
              · have h := h.2 hc
                refine sk_iconst (v := 1) 182 dX7_liftedBy_181 rfl (by decide) ?_
                refine sk_goto 186 dX7_liftedBy_182 (by decide) ?_
                refine sk_istore (lv2 := [(7, .int 1), (9, .int 0), (0, .ref 0), (1, .int v1), (2, .int v2), (3, .int v3), (4, .int v4), (5, .int v5), (6, .int v6), (8, .int v8)]) 188 dX7_liftedBy_186 rfl (by decide) rfl ?_
                refine sk_iinc (v := (v8 + 1)) (lv2 := [(8, .int (v8 + 1)), (7, .int 1), (9, .int 0), (0, .ref 0), (1, .int v1), (2, .int v2), (3, .int v3), (4, .int v4), (5, .int v5), (6, .int v6)]) 9 191 dX7_liftedBy_188 rfl rfl rfl (by decide) rfl ?_
                refine sk_goto 88 dX7_liftedBy_191 (by decide) ?_
                refine sk_perm (lv2 := [(0, .ref 0), (1, .int v1), (2, .int v2), (3, .int v3), (4, .int v4), (5, .int v5), (6, .int v6), (7, .int 1), (8, .int (v8 + 1))]) [3, 4, 5, 6, 7, 8, 9, 1, 0] rfl ?_
                exact h
          · have h := h.2 hc
            refine sk_iload_n 3 143 dX7_liftedBy_142 rfl rfl rfl ?_
            refine sk_iload 8 145 dX7_liftedBy_143 rfl rfl ?_
            refine sk_ishr 146 dX7_liftedBy_145 rfl ?_
            refine sk_iconst (v := 1) 147 dX7_liftedBy_146 rfl (by decide) ?_
            refine sk_iand 148 dX7_liftedBy_147 rfl ?_
            refine sk_if_ne 155 151 dX7_liftedBy_148 (by decide) rfl (fun hc => ?_) (fun hc => ?_)
            · have h := h.1 hc
              refine sk_iconst (v := 0) 156 dX7_liftedBy_155 rfl (by decide) ?_
              refine sk_istore (lv2 := [(9, .int 0), (0, .ref 0), (1, .int v1), (2, .int v2), (3, .int v3), (4, .int v4), (5, .int v5), (6, .int v6), (7, .int v7), (8, .int v8)]) 158 dX7_liftedBy_156 rfl (by decide) rfl ?_
              refine sk_iload 0 160 dX7_liftedBy_158 rfl rfl ?_
              refine sk_if_eq 181 163 dX7_liftedBy_160 (by decide) rfl (fun hc => ?_) (fun hc => ?_)
              · have h := h.1 hc
                refine sk_iconst (v := 1) 182 dX7_liftedBy_181 rfl (by decide) ?_
                refine sk_goto 186 dX7_liftedBy_182 (by decide) ?_
                refine sk_istore (lv2 := [(7, .int 1), (9, .int 0), (0, .ref 0), (1, .int v1), (2, .int v2), (3, .int v3), (4, .int v4), (5, .int v5), (6, .int v6), (8, .int v8)]) 188 dX7_liftedBy_186 rfl (by decide) rfl ?_
                refine sk_iinc (v := (v8 + 1)) (lv2 := [(8, .int (v8 + 1)), (7, .int 1), (9, .int 0), (0, .ref 0), (1, .int v1), (2, .int v2), (3, .int v3), (4, .int v4), (5, .int v5), (6, .int v6)]) 9 191 dX7_liftedBy_188 rfl rfl rfl (by decide) rfl ?_
                refine sk_goto 88 dX7_liftedBy_191 (by decide) ?_
                refine sk_perm (lv2 := [(0, .ref 0), (1, .int v1), (2, .int v2), (3, .int v3), (4, .int v4), (5, .int v5), (6, .int v6), (7, .int 1), (8, .int (v8 + 1))]) [3, 4, 5, 6, 7, 8, 9, 1, 0] rfl ?_
                exact h
              · have h := h.2 hc
                refine sk_aload_n 1 164 dX7_liftedBy_163 rfl rfl rfl ?_
                refine sk_iload 9 166 dX7_liftedBy_164 rfl rfl ?_
                refine sk_callVl [.int v8] [] 169 dX7_liftedBy_166 rfl mfX7_covers lkX7_140 miX7_covers msX7_covers sm_0 rfl rfl rfl rfl (by simp [Value.category]) hd0 (sk_Cm h ?_)
                rintro w t166 ⟨r166, hw, h⟩
                refine ⟨r166, hw, ?_⟩
                refine sk_aload_n 1 170 dX7_liftedBy_169 rfl rfl rfl ?_
                refine sk_iload 7 172 dX7_liftedBy_170 rfl rfl ?_
                refine sk_callVl [.int v6] [.long r166] 175 dX7_liftedBy_172 rfl mfX7_own lkX7_134 miX7_own msX7_own sm_0 rfl rfl rfl rfl (by simp [Value.category]) hd0 (sk_Cm h ?_)
                rintro w t172 ⟨r172, hw, h⟩
                refine ⟨r172, hw, ?_⟩
                refine sk_land 176 dX7_liftedBy_175 rfl ?_
                refine sk_lconst (v := 0) 177 dX7_liftedBy_176 rfl (by decide) ?_
                refine sk_lcmp 178 dX7_liftedBy_177 rfl ?_
                refine sk_if_ne 185 181 dX7_liftedBy_178 (by decide) rfl (fun hc => ?_) (fun hc => ?_)
                · have h := h.1 hc
                  refine sk_iconst (v := 0) 186 dX7_liftedBy_185 rfl (by decide) ?_
                  refine sk_istore (lv2 := [(7, .int 0), (9, .int 0), (0, .ref 0), (1, .int v1), (2, .int v2), (3, .int v3), (4, .int v4), (5, .int v5), (6, .int v6), (8, .int v8)]) 188 dX7_liftedBy_186 rfl (by decide) rfl ?_
                  refine sk_iinc (v := (v8 + 1)) (lv2 := [(8, .int (v8 + 1)), (7, .int 0), (9, .int 0), (0, .ref 0), (1, .int v1), (2, .int v2), (3, .int v3), (4, .int v4), (5, .int v5), (6, .int v6)]) 9 191 dX7_liftedBy_188 rfl rfl rfl (by decide) rfl ?_
                  refine sk_goto 88 dX7_liftedBy_191 (by decide) ?_
                  refine sk_perm (lv2 := [(0, .ref 0), (1, .int v1), (2, .int v2), (3, .int v3), (4, .int v4), (5, .int v5), (6, .int v6), (7, .int 0), (8, .int (v8 + 1))]) [3, 4, 5, 6, 7, 8, 9, 1, 0] rfl ?_
                  exact h
                · have h := h.2 hc
                  refine sk_iconst (v := 1) 182 dX7_liftedBy_181 rfl (by decide) ?_
                  refine sk_goto 186 dX7_liftedBy_182 (by decide) ?_
                  refine sk_istore (lv2 := [(7, .int 1), (9, .int 0), (0, .ref 0), (1, .int v1), (2, .int v2), (3, .int v3), (4, .int v4), (5, .int v5), (6, .int v6), (8, .int v8)]) 188 dX7_liftedBy_186 rfl (by decide) rfl ?_
                  refine sk_iinc (v := (v8 + 1)) (lv2 := [(8, .int (v8 + 1)), (7, .int 1), (9, .int 0), (0, .ref 0), (1, .int v1), (2, .int v2), (3, .int v3), (4, .int v4), (5, .int v5), (6, .int v6)]) 9 191 dX7_liftedBy_188 rfl rfl rfl (by decide) rfl ?_
                  refine sk_goto 88 dX7_liftedBy_191 (by decide) ?_
                  refine sk_perm (lv2 := [(0, .ref 0), (1, .int v1), (2, .int v2), (3, .int v3), (4, .int v4), (5, .int v5), (6, .int v6), (7, .int 1), (8, .int (v8 + 1))]) [3, 4, 5, 6, 7, 8, 9, 1, 0] rfl ?_
                  exact h
            · have h := h.2 hc
              refine sk_iconst (v := 1) 152 dX7_liftedBy_151 rfl (by decide) ?_
              refine sk_goto 156 dX7_liftedBy_152 (by decide) ?_
              refine sk_istore (lv2 := [(9, .int 1), (0, .ref 0), (1, .int v1), (2, .int v2), (3, .int v3), (4, .int v4), (5, .int v5), (6, .int v6), (7, .int v7), (8, .int v8)]) 158 dX7_liftedBy_156 rfl (by decide) rfl ?_
              refine sk_iload 0 160 dX7_liftedBy_158 rfl rfl ?_
              refine sk_if_eq 181 163 dX7_liftedBy_160 (by decide) rfl (fun hc => ?_) (fun hc => ?_)
              · have h := h.1 hc
                refine sk_iconst (v := 1) 182 dX7_liftedBy_181 rfl (by decide) ?_
                refine sk_goto 186 dX7_liftedBy_182 (by decide) ?_
                refine sk_istore (lv2 := [(7, .int 1), (9, .int 1), (0, .ref 0), (1, .int v1), (2, .int v2), (3, .int v3), (4, .int v4), (5, .int v5), (6, .int v6), (8, .int v8)]) 188 dX7_liftedBy_186 rfl (by decide) rfl ?_
                refine sk_iinc (v := (v8 + 1)) (lv2 := [(8, .int (v8 + 1)), (7, .int 1), (9, .int 1), (0, .ref 0), (1, .int v1), (2, .int v2), (3, .int v3), (4, .int v4), (5, .int v5), (6, .int v6)]) 9 191 dX7_liftedBy_188 rfl rfl rfl (by decide) rfl ?_
                refine sk_goto 88 dX7_liftedBy_191 (by decide) ?_
                refine sk_perm (lv2 := [(0, .ref 0), (1, .int v1), (2, .int v2), (3, .int v3), (4, .int v4), (5, .int v5), (6, .int v6), (7, .int 1), (8, .int (v8 + 1))]) [3, 4, 5, 6, 7, 8, 9, 1, 0] rfl ?_
                exact h
              · have h := h.2 hc
                refine sk_aload_n 1 164 dX7_liftedBy_163 rfl rfl rfl ?_
                refine sk_iload 9 166 dX7_liftedBy_164 rfl rfl ?_
                refine sk_callVl [.int v8] [] 169 dX7_liftedBy_166 rfl mfX7_covers lkX7_140 miX7_covers msX7_covers sm_0 rfl rfl rfl rfl (by simp [Value.category]) hd0 (sk_Cm h ?_)
                rintro w t166 ⟨r166, hw, h⟩
                refine ⟨r166, hw, ?_⟩
                refine sk_aload_n 1 170 dX7_liftedBy_169 rfl rfl rfl ?_
                refine sk_iload 7 172 dX7_liftedBy_170 rfl rfl ?_
                refine sk_callVl [.int v6] [.long r166] 175 dX7_liftedBy_172 rfl mfX7_own lkX7_134 miX7_own msX7_own sm_0 rfl rfl rfl rfl (by simp [Value.category]) hd0 (sk_Cm h ?_)
                rintro w t172 ⟨r172, hw, h⟩
                refine ⟨r172, hw, ?_⟩
                refine sk_land 176 dX7_liftedBy_175 rfl ?_
                refine sk_lconst (v := 0) 177 dX7_liftedBy_176 rfl (by decide) ?_
                refine sk_lcmp 178 dX7_liftedBy_177 rfl ?_
                refine sk_if_ne 185 181 dX7_liftedBy_178 (by decide) rfl (fun hc => ?_) (fun hc => ?_)
                · have h := h.1 hc
                  refine sk_iconst (v := 0) 186 dX7_liftedBy_185 rfl (by decide) ?_
                  refine sk_istore (lv2 := [(7, .int 0), (9, .int 1), (0, .ref 0), (1, .int v1), (2, .int v2), (3, .int v3), (4, .int v4), (5, .int v5), (6, .int v6), (8, .int v8)]) 188 dX7_liftedBy_186 rfl (by decide) rfl ?_
                  refine sk_iinc (v := (v8 + 1)) (lv2 := [(8, .int (v8 + 1)), (7, .int 0), (9, .int 1), (0, .ref 0), (1, .int v1), (2, .int v2), (3, .int v3), (4, .int v4), (5, .int v5), (6, .int v6)]) 9 191 dX7_liftedBy_188 rfl rfl rfl (by decide) rfl ?_
                  refine sk_goto 88 dX7_liftedBy_191 (by decide) ?_
                  refine sk_perm (lv2 := [(0, .ref 0), (1, .int v1), (2, .int v2), (3, .int v3), (4, .int v4), (5, .int v5), (6, .int v6), (7, .int 0), (8, .int (v8 + 1))]) [3, 4, 5, 6, 7, 8, 9, 1, 0] rfl ?_
                  exact h
                · have h := h.2 hc
                  refine sk_iconst (v := 1) 182 dX7_liftedBy_181 rfl (by decide) ?_
                  refine sk_goto 186 dX7_liftedBy_182 (by decide) ?_
                  refine sk_istore (lv2 := [(7, .int 1), (9, .int 1), (0, .ref 0), (1, .int v1), (2, .int v2), (3, .int v3), (4, .int v4), (5, .int v5), (6, .int v6), (8, .int v8)]) 188 dX7_liftedBy_186 rfl (by decide) rfl ?_
                  refine sk_iinc (v := (v8 + 1)) (lv2 := [(8, .int (v8 + 1)), (7, .int 1), (9, .int 1), (0, .ref 0), (1, .int v1), (2, .int v2), (3, .int v3), (4, .int v4), (5, .int v5), (6, .int v6)]) 9 191 dX7_liftedBy_188 rfl rfl rfl (by decide) rfl ?_
                  refine sk_goto 88 dX7_liftedBy_191 (by decide) ?_
                  refine sk_perm (lv2 := [(0, .ref 0), (1, .int v1), (2, .int v2), (3, .int v3), (4, .int v4), (5, .int v5), (6, .int v6), (7, .int 1), (8, .int (v8 + 1))]) [3, 4, 5, 6, 7, 8, 9, 1, 0] rfl ?_
                  exact h

theorem wX7_galeNow {d : Nat} {τ : sk_T} {K : sk_K} {v1 : Int32} (hd0 : 0 < d)
  (h : sk_C sk_Sm (d - 1) mX7_findHolds [.ref 0, .int v1] τ (fun w t2 => w = none ∧
      sk_C sk_Sm (d - 1) mX7_liftedBy [.ref 0, .int v1, .int 0] t2 (fun w t8 => ∃ r8 : Int32, w = some (.int r8) ∧
        sk_G sk_Sm d mX7_galeNow 14 [(0, .ref 0), (2, .int r8), (3, .int 0)] [] t8 K
      )
    )) :
  sk_C sk_Sm d mX7_galeNow [.ref 0, .int v1] τ K := by
  refine sk_enter mfX7_galeNow (Nat.le_of_ble_eq_true rfl) ?_
  show sk_G sk_Sm d mX7_galeNow 0 [(0, .ref 0), (1, .int v1)] [] τ K
  refine sk_aload_n 0 1 dX7_galeNow_0 rfl rfl rfl ?_
  refine sk_iload_n 1 2 dX7_galeNow_1 rfl rfl rfl ?_
  refine sk_callVv [.int v1] [] 5 dX7_galeNow_2 rfl mfX7_findHolds lkX7_146 miX7_findHolds msX7_findHolds sm_0 rfl rfl rfl rfl (by simp [Value.category]) hd0 (sk_Cm h ?_)
  rintro w t2 ⟨hw, h⟩
  refine ⟨hw, ?_⟩
  refine sk_aload_n 0 6 dX7_galeNow_5 rfl rfl rfl ?_
  refine sk_iload_n 1 7 dX7_galeNow_6 rfl rfl rfl ?_
  refine sk_iconst (v := 0) 8 dX7_galeNow_7 rfl (by decide) ?_
  refine sk_callVi [.int v1, .int 0] [] 11 dX7_galeNow_8 rfl mfX7_liftedBy lkX7_150 miX7_liftedBy msX7_liftedBy sm_0 rfl rfl rfl rfl (by simp [Value.category]) hd0 (sk_Cm h ?_)
  rintro w t8 ⟨r8, hw, h⟩
  refine ⟨r8, hw, ?_⟩
  refine sk_istore_n (lv2 := [(2, .int r8), (0, .ref 0), (1, .int v1)]) 12 dX7_galeNow_11 rfl rfl (by decide) rfl ?_
  refine sk_iconst (v := 0) 13 dX7_galeNow_12 rfl (by decide) ?_
  refine sk_istore_n (lv2 := [(3, .int 0), (2, .int r8), (0, .ref 0), (1, .int v1)]) 14 dX7_galeNow_13 rfl rfl (by decide) rfl ?_
  refine sk_perm (lv2 := [(0, .ref 0), (2, .int r8), (3, .int 0)]) [2, 1, 0] rfl ?_
  exact h

theorem bX7_galeNow_14 {d : Nat} {τ : sk_T} {K : sk_K} {v2 : Int32} {v3 : Int32} (hd0 : 0 < d)
  (h : (((τ 1 6) ≤ v3 →
      K (some (.int v2)) τ
    ) ∧
    (¬ (τ 1 6) ≤ v3 →
      ((¬ ((v2 >>> (v3 &&& 31)) &&& 1) = 1 →
        sk_C sk_Sm (d - 1) mX7_its [.ref 0, .int v3, .int 6] τ (fun w t46 => ∃ r46 : Int32, w = some (.int r46) ∧
          sk_C sk_Sm (d - 1) mX7_lays1 [.ref 0, .int v3, .int 6, .int r46] t46 (fun w t49 => w = none ∧
            sk_G sk_Sm d mX7_galeNow 14 [(0, .ref 0), (2, .int v2), (3, .int (v3 + 1))] [] t49 K
          )
        )
      ) ∧
      (((v2 >>> (v3 &&& 31)) &&& 1) = 1 →
        sk_C sk_Sm (d - 1) mX7_lays1 [.ref 0, .int v3, .int 6, .int (-1)] τ (fun w t49 => w = none ∧
          sk_G sk_Sm d mX7_galeNow 14 [(0, .ref 0), (2, .int v2), (3, .int (v3 + 1))] [] t49 K
        )
      ))
    ))) :
  sk_G sk_Sm d mX7_galeNow 14 [(0, .ref 0), (2, .int v2), (3, .int v3)] [] τ K := by
  refine sk_iload_n 2 15 dX7_galeNow_14 rfl rfl rfl ?_
  refine sk_aload_n 0 16 dX7_galeNow_15 rfl rfl rfl ?_
  refine sk_getR (r := 1) 19 dX7_galeNow_16 rfl lfX7_7 sm_0 rfl ?_
  refine sk_bipush (v := 6) 21 dX7_galeNow_19 rfl (by decide) ?_
  refine sk_iald 22 dX7_galeNow_21 rfl sm_1 (by unfold vp_in; decide) 6 rfl ?_
  refine sk_icmp_ge 58 25 dX7_galeNow_22 (by decide) rfl (fun hc => ?_) (fun hc => ?_)
  · have h := h.1 hc
    refine sk_iload_n 1 59 dX7_galeNow_58 rfl rfl rfl ?_
    exact sk_iret dX7_galeNow_59 rfl rfl h
  · have h := h.2 hc
    refine sk_aload_n 0 26 dX7_galeNow_25 rfl rfl rfl ?_
    refine sk_iload_n 2 27 dX7_galeNow_26 rfl rfl rfl ?_
    refine sk_bipush (v := 6) 29 dX7_galeNow_27 rfl (by decide) ?_
    refine sk_iload_n 1 30 dX7_galeNow_29 rfl rfl rfl ?_
    refine sk_iload_n 2 31 dX7_galeNow_30 rfl rfl rfl ?_
    refine sk_ishr 32 dX7_galeNow_31 rfl ?_
    refine sk_iconst (v := 1) 33 dX7_galeNow_32 rfl (by decide) ?_
    refine sk_iand 34 dX7_galeNow_33 rfl ?_
    refine sk_iconst (v := 1) 35 dX7_galeNow_34 rfl (by decide) ?_
    refine sk_icmp_ne 42 38 dX7_galeNow_35 (by decide) rfl (fun hc => ?_) (fun hc => ?_)
    · have h := h.1 hc
      refine sk_aload_n 0 43 dX7_galeNow_42 rfl rfl rfl ?_
      refine sk_iload_n 2 44 dX7_galeNow_43 rfl rfl rfl ?_
      refine sk_bipush (v := 6) 46 dX7_galeNow_44 rfl (by decide) ?_
      refine sk_callVi [.int v3, .int 6] [.int 6, .int v3, .ref 0] 49 dX7_galeNow_46 rfl mfX7_its lkX7_111 miX7_its msX7_its sm_0 rfl rfl rfl rfl (by simp [Value.category]) hd0 (sk_Cm h ?_)
      rintro w t46 ⟨r46, hw, h⟩
      refine ⟨r46, hw, ?_⟩
      refine sk_callVv [.int v3, .int 6, .int r46] [] 52 dX7_galeNow_49 rfl mfX7_lays1 lkX7_153 miX7_lays1 msX7_lays1 sm_0 rfl rfl rfl rfl (by simp [Value.category]) hd0 (sk_Cm h ?_)
      rintro w t49 ⟨hw, h⟩
      refine ⟨hw, ?_⟩
      refine sk_iinc (v := (v3 + 1)) (lv2 := [(3, .int (v3 + 1)), (0, .ref 0), (2, .int v2)]) 2 55 dX7_galeNow_52 rfl rfl rfl (by decide) rfl ?_
      refine sk_goto 14 dX7_galeNow_55 (by decide) ?_
      refine sk_perm (lv2 := [(0, .ref 0), (2, .int v2), (3, .int (v3 + 1))]) [1, 2, 0] rfl ?_
      exact h
    · have h := h.2 hc
      refine sk_iconst (v := (-1)) 39 dX7_galeNow_38 rfl (by decide) ?_
      refine sk_goto 49 dX7_galeNow_39 (by decide) ?_
      refine sk_callVv [.int v3, .int 6, .int (-1)] [] 52 dX7_galeNow_49 rfl mfX7_lays1 lkX7_153 miX7_lays1 msX7_lays1 sm_0 rfl rfl rfl rfl (by simp [Value.category]) hd0 (sk_Cm h ?_)
      rintro w t49 ⟨hw, h⟩
      refine ⟨hw, ?_⟩
      refine sk_iinc (v := (v3 + 1)) (lv2 := [(3, .int (v3 + 1)), (0, .ref 0), (2, .int v2)]) 2 55 dX7_galeNow_52 rfl rfl rfl (by decide) rfl ?_
      refine sk_goto 14 dX7_galeNow_55 (by decide) ?_
      refine sk_perm (lv2 := [(0, .ref 0), (2, .int v2), (3, .int (v3 + 1))]) [1, 2, 0] rfl ?_
      exact h

theorem wX7_dryBehind {d : Nat} {τ : sk_T} {K : sk_K} {v1 : Int32} (hd0 : 0 < d)
  (h : sk_C sk_Sm (d - 1) mX7_findHolds [.ref 0, .int v1] τ (fun w t2 => w = none ∧
      sk_C sk_Sm (d - 1) mX7_liftedBy [.ref 0, .int v1, .int 0] t2 (fun w t8 => ∃ r8 : Int32, w = some (.int r8) ∧
        sk_G sk_Sm d mX7_dryBehind 17 [(0, .ref 0), (2, .int r8), (3, .long 0), (5, .int 0)] [] t8 K
      )
    )) :
  sk_C sk_Sm d mX7_dryBehind [.ref 0, .int v1] τ K := by
  refine sk_enter mfX7_dryBehind (Nat.le_of_ble_eq_true rfl) ?_
  show sk_G sk_Sm d mX7_dryBehind 0 [(0, .ref 0), (1, .int v1)] [] τ K
  refine sk_aload_n 0 1 dX7_dryBehind_0 rfl rfl rfl ?_
  refine sk_iload_n 1 2 dX7_dryBehind_1 rfl rfl rfl ?_
  refine sk_callVv [.int v1] [] 5 dX7_dryBehind_2 rfl mfX7_findHolds lkX7_146 miX7_findHolds msX7_findHolds sm_0 rfl rfl rfl rfl (by simp [Value.category]) hd0 (sk_Cm h ?_)
  rintro w t2 ⟨hw, h⟩
  refine ⟨hw, ?_⟩
  refine sk_aload_n 0 6 dX7_dryBehind_5 rfl rfl rfl ?_
  refine sk_iload_n 1 7 dX7_dryBehind_6 rfl rfl rfl ?_
  refine sk_iconst (v := 0) 8 dX7_dryBehind_7 rfl (by decide) ?_
  refine sk_callVi [.int v1, .int 0] [] 11 dX7_dryBehind_8 rfl mfX7_liftedBy lkX7_150 miX7_liftedBy msX7_liftedBy sm_0 rfl rfl rfl rfl (by simp [Value.category]) hd0 (sk_Cm h ?_)
  rintro w t8 ⟨r8, hw, h⟩
  refine ⟨r8, hw, ?_⟩
  refine sk_istore_n (lv2 := [(2, .int r8), (0, .ref 0), (1, .int v1)]) 12 dX7_dryBehind_11 rfl rfl (by decide) rfl ?_
  refine sk_lconst (v := 0) 13 dX7_dryBehind_12 rfl (by decide) ?_
  refine sk_lstore_n (lv2 := [(3, .long 0), (2, .int r8), (0, .ref 0), (1, .int v1)]) 14 dX7_dryBehind_13 rfl rfl (by decide) rfl ?_
  refine sk_iconst (v := 0) 15 dX7_dryBehind_14 rfl (by decide) ?_
  refine sk_istore (lv2 := [(5, .int 0), (3, .long 0), (2, .int r8), (0, .ref 0), (1, .int v1)]) 17 dX7_dryBehind_15 rfl (by decide) rfl ?_
  refine sk_perm (lv2 := [(0, .ref 0), (2, .int r8), (3, .long 0), (5, .int 0)]) [3, 2, 1, 0] rfl ?_
  exact h

theorem bX7_dryBehind_17 {d : Nat} {τ : sk_T} {K : sk_K} {v2 : Int32} {v3 : Int64} {v5 : Int32} (hd0 : 0 < d)
  (h : (((τ 1 6) ≤ v5 →
      K (some (.long v3)) τ
    ) ∧
    (¬ (τ 1 6) ≤ v5 →
      ((¬ ((v2 >>> (v5 &&& 31)) &&& 1) = 1 →
        sk_C sk_Sm (d - 1) mX7_covers [.ref 0, .int v5] τ (fun w t47 => ∃ r47 : Int64, w = some (.long r47) ∧
          sk_G sk_Sm d mX7_dryBehind 17 [(0, .ref 0), (2, .int v2), (3, .long (v3 ||| r47)), (5, .int (v5 + 1))] [] t47 K
        )
      ) ∧
      (((v2 >>> (v5 &&& 31)) &&& 1) = 1 →
        sk_G sk_Sm d mX7_dryBehind 17 [(0, .ref 0), (2, .int v2), (3, .long (v3 ||| 0)), (5, .int (v5 + 1))] [] τ K
      ))
    ))) :
  sk_G sk_Sm d mX7_dryBehind 17 [(0, .ref 0), (2, .int v2), (3, .long v3), (5, .int v5)] [] τ K := by
  refine sk_iload 3 19 dX7_dryBehind_17 rfl rfl ?_
  refine sk_aload_n 0 20 dX7_dryBehind_19 rfl rfl rfl ?_
  refine sk_getR (r := 1) 23 dX7_dryBehind_20 rfl lfX7_7 sm_0 rfl ?_
  refine sk_bipush (v := 6) 25 dX7_dryBehind_23 rfl (by decide) ?_
  refine sk_iald 26 dX7_dryBehind_25 rfl sm_1 (by unfold vp_in; decide) 6 rfl ?_
  refine sk_icmp_ge 58 29 dX7_dryBehind_26 (by decide) rfl (fun hc => ?_) (fun hc => ?_)
  · have h := h.1 hc
    refine sk_lload_n 2 59 dX7_dryBehind_58 rfl rfl rfl ?_
    exact sk_lret dX7_dryBehind_59 rfl h
  · have h := h.2 hc
    refine sk_lload_n 2 30 dX7_dryBehind_29 rfl rfl rfl ?_
    refine sk_iload_n 1 31 dX7_dryBehind_30 rfl rfl rfl ?_
    refine sk_iload 3 33 dX7_dryBehind_31 rfl rfl ?_
    refine sk_ishr 34 dX7_dryBehind_33 rfl ?_
    refine sk_iconst (v := 1) 35 dX7_dryBehind_34 rfl (by decide) ?_
    refine sk_iand 36 dX7_dryBehind_35 rfl ?_
    refine sk_iconst (v := 1) 37 dX7_dryBehind_36 rfl (by decide) ?_
    refine sk_icmp_ne 44 40 dX7_dryBehind_37 (by decide) rfl (fun hc => ?_) (fun hc => ?_)
    · have h := h.1 hc
      refine sk_aload_n 0 45 dX7_dryBehind_44 rfl rfl rfl ?_
      refine sk_iload 3 47 dX7_dryBehind_45 rfl rfl ?_
      refine sk_callVl [.int v5] [.long v3] 50 dX7_dryBehind_47 rfl mfX7_covers lkX7_140 miX7_covers msX7_covers sm_0 rfl rfl rfl rfl (by simp [Value.category]) hd0 (sk_Cm h ?_)
      rintro w t47 ⟨r47, hw, h⟩
      refine ⟨r47, hw, ?_⟩
      refine sk_lor 51 dX7_dryBehind_50 rfl ?_
      refine sk_lstore_n (lv2 := [(3, .long (v3 ||| r47)), (0, .ref 0), (2, .int v2), (5, .int v5)]) 52 dX7_dryBehind_51 rfl rfl (by decide) rfl ?_
      refine sk_iinc (v := (v5 + 1)) (lv2 := [(5, .int (v5 + 1)), (3, .long (v3 ||| r47)), (0, .ref 0), (2, .int v2)]) 3 55 dX7_dryBehind_52 rfl rfl rfl (by decide) rfl ?_
      refine sk_goto 17 dX7_dryBehind_55 (by decide) ?_
      refine sk_perm (lv2 := [(0, .ref 0), (2, .int v2), (3, .long (v3 ||| r47)), (5, .int (v5 + 1))]) [2, 3, 1, 0] rfl ?_
      exact h
    · have h := h.2 hc
      refine sk_lconst (v := 0) 41 dX7_dryBehind_40 rfl (by decide) ?_
      refine sk_goto 50 dX7_dryBehind_41 (by decide) ?_
      refine sk_lor 51 dX7_dryBehind_50 rfl ?_
      refine sk_lstore_n (lv2 := [(3, .long (v3 ||| 0)), (0, .ref 0), (2, .int v2), (5, .int v5)]) 52 dX7_dryBehind_51 rfl rfl (by decide) rfl ?_
      refine sk_iinc (v := (v5 + 1)) (lv2 := [(5, .int (v5 + 1)), (3, .long (v3 ||| 0)), (0, .ref 0), (2, .int v2)]) 3 55 dX7_dryBehind_52 rfl rfl rfl (by decide) rfl ?_
      refine sk_goto 17 dX7_dryBehind_55 (by decide) ?_
      refine sk_perm (lv2 := [(0, .ref 0), (2, .int v2), (3, .long (v3 ||| 0)), (5, .int (v5 + 1))]) [2, 3, 1, 0] rfl ?_
      exact h

theorem wX7_aYear {d : Nat} {τ : sk_T} {K : sk_K} (hd0 : 0 < d)
  (h : sk_C sk_Sm (d - 1) mX7_drySet [.ref 0] τ (fun w t1 => ∃ r1 : Int64, w = some (.long r1) ∧
      sk_G sk_Sm d mX7_aYear 15 [(0, .ref 0), (1, .long r1), (3, .int (t1 1 2)), (4, .int 0)] [] t1 K
    )) :
  sk_C sk_Sm d mX7_aYear [.ref 0] τ K := by
  refine sk_enter mfX7_aYear (Nat.le_of_ble_eq_true rfl) ?_
  show sk_G sk_Sm d mX7_aYear 0 [(0, .ref 0)] [] τ K
  refine sk_aload_n 0 1 dX7_aYear_0 rfl rfl rfl ?_
  refine sk_callVl [] [] 4 dX7_aYear_1 rfl mfX7_drySet lkX7_157 miX7_drySet msX7_drySet sm_0 rfl rfl rfl rfl (by simp [Value.category]) hd0 (sk_Cm h ?_)
  rintro w t1 ⟨r1, hw, h⟩
  refine ⟨r1, hw, ?_⟩
  refine sk_lstore_n (lv2 := [(1, .long r1), (0, .ref 0)]) 5 dX7_aYear_4 rfl rfl (by decide) rfl ?_
  refine sk_aload_n 1 6 dX7_aYear_5 rfl rfl rfl ?_
  refine sk_getR (r := 1) 9 dX7_aYear_6 rfl lfX7_7 sm_0 rfl ?_
  refine sk_iconst (v := 2) 10 dX7_aYear_9 rfl (by decide) ?_
  refine sk_iald 11 dX7_aYear_10 rfl sm_1 (by unfold vp_in; decide) 2 rfl ?_
  refine sk_istore_n (lv2 := [(3, .int (t1 1 2)), (1, .long r1), (0, .ref 0)]) 12 dX7_aYear_11 rfl rfl (by decide) rfl ?_
  refine sk_iconst (v := 0) 13 dX7_aYear_12 rfl (by decide) ?_
  refine sk_istore (lv2 := [(4, .int 0), (3, .int (t1 1 2)), (1, .long r1), (0, .ref 0)]) 15 dX7_aYear_13 rfl (by decide) rfl ?_
  refine sk_perm (lv2 := [(0, .ref 0), (1, .long r1), (3, .int (t1 1 2)), (4, .int 0)]) [3, 2, 1, 0] rfl ?_
  exact h

theorem bX7_aYear_15 {d : Nat} {τ : sk_T} {K : sk_K} {v1 : Int64} {v3 : Int32} {v4 : Int32} (hd0 : 0 < d)
  (h : ((48 ≤ v4 →
      sk_C sk_Sm (d - 1) mX7_held [.int v3, .int 0, .int 99999] τ (fun w t75 => ∃ r75 : Int32, w = some (.int r75) ∧
        sk_G sk_Sm d mX7_aYear 82 [(0, .ref 0), (4, .int 0)] [] (sk_u t75 1 2 r75) K
      )
    ) ∧
    (¬ 48 ≤ v4 →
      ((¬ (lg_cmp ((sk_lush v1 v4) &&& 1) 1) = 0 →
        sk_C sk_Sm (d - 1) mX7_dropTold [.ref 0, .int (v4 / 8), .int (v4 % 8), .int (τ 1 0)] τ (fun w t55 => ∃ r55 : Int32, w = some (.int r55) ∧
          sk_G sk_Sm d mX7_aYear 15 [(0, .ref 0), (1, .long v1), (3, .int (v3 + r55)), (4, .int (v4 + 1))] [] t55 K
        )
      ) ∧
      ((lg_cmp ((sk_lush v1 v4) &&& 1) 1) = 0 →
        sk_G sk_Sm d mX7_aYear 15 [(0, .ref 0), (1, .long v1), (3, .int (v3 + 0)), (4, .int (v4 + 1))] [] τ K
      ))
    ))) :
  sk_G sk_Sm d mX7_aYear 15 [(0, .ref 0), (1, .long v1), (3, .int v3), (4, .int v4)] [] τ K := by
  refine sk_iload 3 17 dX7_aYear_15 rfl rfl ?_
  refine sk_bipush (v := 48) 19 dX7_aYear_17 rfl (by decide) ?_
  refine sk_icmp_ge 66 22 dX7_aYear_19 (by decide) rfl (fun hc => ?_) (fun hc => ?_)
  · have h := h.1 hc
    refine sk_aload_n 0 67 dX7_aYear_66 rfl rfl rfl ?_
    refine sk_getR (r := 1) 70 dX7_aYear_67 rfl lfX7_7 sm_0 rfl ?_
    refine sk_iconst (v := 2) 71 dX7_aYear_70 rfl (by decide) ?_
    refine sk_iload_n 2 72 dX7_aYear_71 rfl rfl rfl ?_
    refine sk_iconst (v := 0) 73 dX7_aYear_72 rfl (by decide) ?_
    refine sk_ldc 75 dX7_aYear_73 rfl kcX7_164 ?_
    refine sk_callSi [.int v3, .int 0, .int 99999] [.int 2, .ref 1] 78 dX7_aYear_75 rfl mfX7_held lkX7_118 miX7_held rfl rfl (by simp [Value.category]) hd0 (sk_Cm h ?_)
    rintro w t75 ⟨r75, hw, h⟩
    refine ⟨r75, hw, ?_⟩
    refine sk_iast 79 dX7_aYear_78 rfl sm_1 (by unfold vp_in; decide) 2 rfl ?_
    refine sk_iconst (v := 0) 80 dX7_aYear_79 rfl (by decide) ?_
    refine sk_istore (lv2 := [(4, .int 0), (0, .ref 0), (1, .long v1), (3, .int v3)]) 82 dX7_aYear_80 rfl (by decide) rfl ?_
    refine sk_perm (lv2 := [(0, .ref 0), (4, .int 0)]) [1, 0] rfl ?_
    exact h
  · have h := h.2 hc
    refine sk_iload_n 2 23 dX7_aYear_22 rfl rfl rfl ?_
    refine sk_lload_n 1 24 dX7_aYear_23 rfl rfl rfl ?_
    refine sk_iload 3 26 dX7_aYear_24 rfl rfl ?_
    refine sk_lushr 27 dX7_aYear_26 rfl ?_
    refine sk_lconst (v := 1) 28 dX7_aYear_27 rfl (by decide) ?_
    refine sk_land 29 dX7_aYear_28 rfl ?_
    refine sk_lconst (v := 1) 30 dX7_aYear_29 rfl (by decide) ?_
    refine sk_lcmp 31 dX7_aYear_30 rfl ?_
    refine sk_if_ne 38 34 dX7_aYear_31 (by decide) rfl (fun hc => ?_) (fun hc => ?_)
    · have h := h.1 hc
      refine sk_aload_n 0 39 dX7_aYear_38 rfl rfl rfl ?_
      refine sk_iload 3 41 dX7_aYear_39 rfl rfl ?_
      refine sk_bipush (v := 8) 43 dX7_aYear_41 rfl (by decide) ?_
      refine sk_idiv 44 dX7_aYear_43 rfl (by decide) ?_
      refine sk_iload 3 46 dX7_aYear_44 rfl rfl ?_
      refine sk_bipush (v := 8) 48 dX7_aYear_46 rfl (by decide) ?_
      refine sk_irem 49 dX7_aYear_48 rfl (by decide) ?_
      refine sk_aload_n 0 50 dX7_aYear_49 rfl rfl rfl ?_
      refine sk_getR (r := 1) 53 dX7_aYear_50 rfl lfX7_7 sm_0 rfl ?_
      refine sk_iconst (v := 0) 54 dX7_aYear_53 rfl (by decide) ?_
      refine sk_iald 55 dX7_aYear_54 rfl sm_1 (by unfold vp_in; decide) 0 rfl ?_
      refine sk_callVi [.int (v4 / 8), .int (v4 % 8), .int (τ 1 0)] [.int v3] 58 dX7_aYear_55 rfl mfX7_dropTold lkX7_161 miX7_dropTold msX7_dropTold sm_0 rfl rfl rfl rfl (by simp [Value.category]) hd0 (sk_Cm h ?_)
      rintro w t55 ⟨r55, hw, h⟩
      refine ⟨r55, hw, ?_⟩
      refine sk_iadd 59 dX7_aYear_58 rfl ?_
      refine sk_istore_n (lv2 := [(3, .int (v3 + r55)), (0, .ref 0), (1, .long v1), (4, .int v4)]) 60 dX7_aYear_59 rfl rfl (by decide) rfl ?_
      refine sk_iinc (v := (v4 + 1)) (lv2 := [(4, .int (v4 + 1)), (3, .int (v3 + r55)), (0, .ref 0), (1, .long v1)]) 3 63 dX7_aYear_60 rfl rfl rfl (by decide) rfl ?_
      refine sk_goto 15 dX7_aYear_63 (by decide) ?_
      refine sk_perm (lv2 := [(0, .ref 0), (1, .long v1), (3, .int (v3 + r55)), (4, .int (v4 + 1))]) [2, 3, 1, 0] rfl ?_
      exact h
    · have h := h.2 hc
      refine sk_iconst (v := 0) 35 dX7_aYear_34 rfl (by decide) ?_
      refine sk_goto 58 dX7_aYear_35 (by decide) ?_
      refine sk_iadd 59 dX7_aYear_58 rfl ?_
      refine sk_istore_n (lv2 := [(3, .int (v3 + 0)), (0, .ref 0), (1, .long v1), (4, .int v4)]) 60 dX7_aYear_59 rfl rfl (by decide) rfl ?_
      refine sk_iinc (v := (v4 + 1)) (lv2 := [(4, .int (v4 + 1)), (3, .int (v3 + 0)), (0, .ref 0), (1, .long v1)]) 3 63 dX7_aYear_60 rfl rfl rfl (by decide) rfl ?_
      refine sk_goto 15 dX7_aYear_63 (by decide) ?_
      refine sk_perm (lv2 := [(0, .ref 0), (1, .long v1), (3, .int (v3 + 0)), (4, .int (v4 + 1))]) [2, 3, 1, 0] rfl ?_
      exact h

theorem bX7_aYear_82 {d : Nat} {τ : sk_T} {K : sk_K} {v4 : Int32} (hd0 : 0 < d)
  (h : (((τ 1 6) ≤ v4 →
      K none (sk_u τ 1 0 ((τ 1 0) + 1))
    ) ∧
    (¬ (τ 1 6) ≤ v4 →
      sk_C sk_Sm (d - 1) mX7_its [.ref 0, .int v4, .int 5] τ (fun w t102 => ∃ r102 : Int32, w = some (.int r102) ∧
        sk_C sk_Sm (d - 1) mX7_held [.int (r102 + 1), .int 0, .int 999] t102 (fun w t111 => ∃ r111 : Int32, w = some (.int r111) ∧
          sk_C sk_Sm (d - 1) mX7_lays1 [.ref 0, .int v4, .int 5, .int r111] t111 (fun w t114 => w = none ∧
            sk_C sk_Sm (d - 1) mX7_its [.ref 0, .int v4, .int 3] t114 (fun w t125 => ∃ r125 : Int32, w = some (.int r125) ∧
              ((¬ ((t125 1 0) % 4) = 3 →
                sk_C sk_Sm (d - 1) mX7_held [.int (r125 - 0), .int 0, .int 9] t125 (fun w t149 => ∃ r149 : Int32, w = some (.int r149) ∧
                  sk_C sk_Sm (d - 1) mX7_lays1 [.ref 0, .int v4, .int 3, .int r149] t149 (fun w t152 => w = none ∧
                    sk_G sk_Sm d mX7_aYear 82 [(0, .ref 0), (4, .int (v4 + 1))] [] t152 K
                  )
                )
              ) ∧
              (((t125 1 0) % 4) = 3 →
                sk_C sk_Sm (d - 1) mX7_held [.int (r125 - 1), .int 0, .int 9] t125 (fun w t149 => ∃ r149 : Int32, w = some (.int r149) ∧
                  sk_C sk_Sm (d - 1) mX7_lays1 [.ref 0, .int v4, .int 3, .int r149] t149 (fun w t152 => w = none ∧
                    sk_G sk_Sm d mX7_aYear 82 [(0, .ref 0), (4, .int (v4 + 1))] [] t152 K
                  )
                )
              ))
            )
          )
        )
      )
    ))) :
  sk_G sk_Sm d mX7_aYear 82 [(0, .ref 0), (4, .int v4)] [] τ K := by
  refine sk_iload 1 84 dX7_aYear_82 rfl rfl ?_
  refine sk_aload_n 0 85 dX7_aYear_84 rfl rfl rfl ?_
  refine sk_getR (r := 1) 88 dX7_aYear_85 rfl lfX7_7 sm_0 rfl ?_
  refine sk_bipush (v := 6) 90 dX7_aYear_88 rfl (by decide) ?_
  refine sk_iald 91 dX7_aYear_90 rfl sm_1 (by unfold vp_in; decide) 6 rfl ?_
  refine sk_icmp_ge 161 94 dX7_aYear_91 (by decide) rfl (fun hc => ?_) (fun hc => ?_)
  · have h := h.1 hc
    refine sk_aload_n 0 162 dX7_aYear_161 rfl rfl rfl ?_
    refine sk_getR (r := 1) 165 dX7_aYear_162 rfl lfX7_7 sm_0 rfl ?_
    refine sk_iconst (v := 0) 166 dX7_aYear_165 rfl (by decide) ?_
    refine sk_dup2 167 dX7_aYear_166 rfl rfl rfl ?_
    refine sk_iald 168 dX7_aYear_167 rfl sm_1 (by unfold vp_in; decide) 0 rfl ?_
    refine sk_iconst (v := 1) 169 dX7_aYear_168 rfl (by decide) ?_
    refine sk_iadd 170 dX7_aYear_169 rfl ?_
    refine sk_iast 171 dX7_aYear_170 rfl sm_1 (by unfold vp_in; decide) 0 rfl ?_
    exact sk_vret dX7_aYear_171 rfl h
  · have h := h.2 hc
    refine sk_aload_n 0 95 dX7_aYear_94 rfl rfl rfl ?_
    refine sk_iload 1 97 dX7_aYear_95 rfl rfl ?_
    refine sk_iconst (v := 5) 98 dX7_aYear_97 rfl (by decide) ?_
    refine sk_aload_n 0 99 dX7_aYear_98 rfl rfl rfl ?_
    refine sk_iload 1 101 dX7_aYear_99 rfl rfl ?_
    refine sk_iconst (v := 5) 102 dX7_aYear_101 rfl (by decide) ?_
    refine sk_callVi [.int v4, .int 5] [.int 5, .int v4, .ref 0] 105 dX7_aYear_102 rfl mfX7_its lkX7_111 miX7_its msX7_its sm_0 rfl rfl rfl rfl (by simp [Value.category]) hd0 (sk_Cm h ?_)
    rintro w t102 ⟨r102, hw, h⟩
    refine ⟨r102, hw, ?_⟩
    refine sk_iconst (v := 1) 106 dX7_aYear_105 rfl (by decide) ?_
    refine sk_iadd 107 dX7_aYear_106 rfl ?_
    refine sk_iconst (v := 0) 108 dX7_aYear_107 rfl (by decide) ?_
    refine sk_sipush (v := 999) 111 dX7_aYear_108 rfl (by decide) ?_
    refine sk_callSi [.int (r102 + 1), .int 0, .int 999] [.int 5, .int v4, .ref 0] 114 dX7_aYear_111 rfl mfX7_held lkX7_118 miX7_held rfl rfl (by simp [Value.category]) hd0 (sk_Cm h ?_)
    rintro w t111 ⟨r111, hw, h⟩
    refine ⟨r111, hw, ?_⟩
    refine sk_callVv [.int v4, .int 5, .int r111] [] 117 dX7_aYear_114 rfl mfX7_lays1 lkX7_153 miX7_lays1 msX7_lays1 sm_0 rfl rfl rfl rfl (by simp [Value.category]) hd0 (sk_Cm h ?_)
    rintro w t114 ⟨hw, h⟩
    refine ⟨hw, ?_⟩
    refine sk_aload_n 0 118 dX7_aYear_117 rfl rfl rfl ?_
    refine sk_iload 1 120 dX7_aYear_118 rfl rfl ?_
    refine sk_iconst (v := 3) 121 dX7_aYear_120 rfl (by decide) ?_
    refine sk_aload_n 0 122 dX7_aYear_121 rfl rfl rfl ?_
    refine sk_iload 1 124 dX7_aYear_122 rfl rfl ?_
    refine sk_iconst (v := 3) 125 dX7_aYear_124 rfl (by decide) ?_
    refine sk_callVi [.int v4, .int 3] [.int 3, .int v4, .ref 0] 128 dX7_aYear_125 rfl mfX7_its lkX7_111 miX7_its msX7_its sm_0 rfl rfl rfl rfl (by simp [Value.category]) hd0 (sk_Cm h ?_)
    rintro w t125 ⟨r125, hw, h⟩
    refine ⟨r125, hw, ?_⟩
    refine sk_aload_n 0 129 dX7_aYear_128 rfl rfl rfl ?_
    refine sk_getR (r := 1) 132 dX7_aYear_129 rfl lfX7_7 sm_0 rfl ?_
    refine sk_iconst (v := 0) 133 dX7_aYear_132 rfl (by decide) ?_
    refine sk_iald 134 dX7_aYear_133 rfl sm_1 (by unfold vp_in; decide) 0 rfl ?_
    refine sk_iconst (v := 4) 135 dX7_aYear_134 rfl (by decide) ?_
    refine sk_irem 136 dX7_aYear_135 rfl (by decide) ?_
    refine sk_iconst (v := 3) 137 dX7_aYear_136 rfl (by decide) ?_
    refine sk_icmp_ne 144 140 dX7_aYear_137 (by decide) rfl (fun hc => ?_) (fun hc => ?_)
    · have h := h.1 hc
      refine sk_iconst (v := 0) 145 dX7_aYear_144 rfl (by decide) ?_
      refine sk_isub 146 dX7_aYear_145 rfl ?_
      refine sk_iconst (v := 0) 147 dX7_aYear_146 rfl (by decide) ?_
      refine sk_bipush (v := 9) 149 dX7_aYear_147 rfl (by decide) ?_
      refine sk_callSi [.int (r125 - 0), .int 0, .int 9] [.int 3, .int v4, .ref 0] 152 dX7_aYear_149 rfl mfX7_held lkX7_118 miX7_held rfl rfl (by simp [Value.category]) hd0 (sk_Cm h ?_)
      rintro w t149 ⟨r149, hw, h⟩
      refine ⟨r149, hw, ?_⟩
      refine sk_callVv [.int v4, .int 3, .int r149] [] 155 dX7_aYear_152 rfl mfX7_lays1 lkX7_153 miX7_lays1 msX7_lays1 sm_0 rfl rfl rfl rfl (by simp [Value.category]) hd0 (sk_Cm h ?_)
      rintro w t152 ⟨hw, h⟩
      refine ⟨hw, ?_⟩
      refine sk_iinc (v := (v4 + 1)) (lv2 := [(4, .int (v4 + 1)), (0, .ref 0)]) 1 158 dX7_aYear_155 rfl rfl rfl (by decide) rfl ?_
      refine sk_goto 82 dX7_aYear_158 (by decide) ?_
      refine sk_perm (lv2 := [(0, .ref 0), (4, .int (v4 + 1))]) [1, 0] rfl ?_
      exact h
    · have h := h.2 hc
      refine sk_iconst (v := 1) 141 dX7_aYear_140 rfl (by decide) ?_
      refine sk_goto 145 dX7_aYear_141 (by decide) ?_
      refine sk_isub 146 dX7_aYear_145 rfl ?_
      refine sk_iconst (v := 0) 147 dX7_aYear_146 rfl (by decide) ?_
      refine sk_bipush (v := 9) 149 dX7_aYear_147 rfl (by decide) ?_
      refine sk_callSi [.int (r125 - 1), .int 0, .int 9] [.int 3, .int v4, .ref 0] 152 dX7_aYear_149 rfl mfX7_held lkX7_118 miX7_held rfl rfl (by simp [Value.category]) hd0 (sk_Cm h ?_)
      rintro w t149 ⟨r149, hw, h⟩
      refine ⟨r149, hw, ?_⟩
      refine sk_callVv [.int v4, .int 3, .int r149] [] 155 dX7_aYear_152 rfl mfX7_lays1 lkX7_153 miX7_lays1 msX7_lays1 sm_0 rfl rfl rfl rfl (by simp [Value.category]) hd0 (sk_Cm h ?_)
      rintro w t152 ⟨hw, h⟩
      refine ⟨hw, ?_⟩
      refine sk_iinc (v := (v4 + 1)) (lv2 := [(4, .int (v4 + 1)), (0, .ref 0)]) 1 158 dX7_aYear_155 rfl rfl rfl (by decide) rfl ?_
      refine sk_goto 82 dX7_aYear_158 (by decide) ?_
      refine sk_perm (lv2 := [(0, .ref 0), (4, .int (v4 + 1))]) [1, 0] rfl ?_
      exact h

theorem wX7_draw {d : Nat} {τ : sk_T} {K : sk_K}
  (h : K (some (.int (sk_ush ((sk_u τ 1 3 (((τ 1 3) * 1103515245) + 12345)) 1 3) 8))) (sk_u τ 1 3 (((τ 1 3) * 1103515245) + 12345))) :
  sk_C sk_Sm d mX7_draw [.ref 0] τ K := by
  refine sk_enter mfX7_draw (Nat.le_of_ble_eq_true rfl) ?_
  show sk_G sk_Sm d mX7_draw 0 [(0, .ref 0)] [] τ K
  refine sk_aload_n 0 1 dX7_draw_0 rfl rfl rfl ?_
  refine sk_getR (r := 1) 4 dX7_draw_1 rfl lfX7_7 sm_0 rfl ?_
  refine sk_iconst (v := 3) 5 dX7_draw_4 rfl (by decide) ?_
  refine sk_aload_n 0 6 dX7_draw_5 rfl rfl rfl ?_
  refine sk_getR (r := 1) 9 dX7_draw_6 rfl lfX7_7 sm_0 rfl ?_
  refine sk_iconst (v := 3) 10 dX7_draw_9 rfl (by decide) ?_
  refine sk_iald 11 dX7_draw_10 rfl sm_1 (by unfold vp_in; decide) 3 rfl ?_
  refine sk_ldc 13 dX7_draw_11 rfl kcX7_165 ?_
  refine sk_imul 14 dX7_draw_13 rfl ?_
  refine sk_sipush (v := 12345) 17 dX7_draw_14 rfl (by decide) ?_
  refine sk_iadd 18 dX7_draw_17 rfl ?_
  refine sk_iast 19 dX7_draw_18 rfl sm_1 (by unfold vp_in; decide) 3 rfl ?_
  refine sk_aload_n 0 20 dX7_draw_19 rfl rfl rfl ?_
  refine sk_getR (r := 1) 23 dX7_draw_20 rfl lfX7_7 sm_0 rfl ?_
  refine sk_iconst (v := 3) 24 dX7_draw_23 rfl (by decide) ?_
  refine sk_iald 25 dX7_draw_24 rfl sm_1 (by unfold vp_in; decide) 3 rfl ?_
  refine sk_bipush (v := 8) 27 dX7_draw_25 rfl (by decide) ?_
  refine sk_iushr 28 dX7_draw_27 rfl ?_
  exact sk_iret dX7_draw_28 rfl rfl h

theorem wX7_isKind {d : Nat} {τ : sk_T} {K : sk_K} {v0 : Int32} (hd0 : 0 < d)
  (h : sk_C sk_Sm (d - 1) mX7_in [.int v0, .int 0, .int 69] τ (fun w t4 => ∃ r4 : Int32, w = some (.int r4) ∧
      r4 &&& 1 = r4 ∧
      K (some (.int r4)) t4
    )) :
  sk_C sk_Sm d mX7_isKind [.int v0] τ K := by
  refine sk_enter mfX7_isKind (Nat.le_of_ble_eq_true rfl) ?_
  show sk_G sk_Sm d mX7_isKind 0 [(0, .int v0)] [] τ K
  refine sk_iload_n 0 1 dX7_isKind_0 rfl rfl rfl ?_
  refine sk_iconst (v := 0) 2 dX7_isKind_1 rfl (by decide) ?_
  refine sk_bipush (v := 69) 4 dX7_isKind_2 rfl (by decide) ?_
  refine sk_callSi [.int v0, .int 0, .int 69] [] 7 dX7_isKind_4 rfl mfX7_in lkX7_47 miX7_in rfl rfl (by simp [Value.category]) hd0 (sk_Cm h ?_)
  rintro w t4 ⟨r4, hw, h⟩
  refine ⟨r4, hw, ?_⟩
  exact sk_iret dX7_isKind_7 rfl (congrArg Value.int h.1) h.2

theorem wX7_slate {d : Nat} {τ : sk_T} {K : sk_K} {v1 : Int32} {v2 : Int32} {v3 : Int32} {v4 : Int32} (hd0 : 0 < d)
  (h : sk_C sk_Sm (d - 1) mX7_isKind [.int v1] τ (fun w t1 => ∃ r1 : Int32, w = some (.int r1) ∧
      ((r1 = 0 →
        sk_C sk_Sm (d - 1) mX7_error [.ref 0, .int 1] t1 (fun w t43 => ∃ r43 : Int32, w = some (.int r43) ∧
          K (some (.int r43)) t43
        )
      ) ∧
      (¬ r1 = 0 →
        sk_C sk_Sm (d - 1) mX7_in [.int v2, .int 1, .int 2] t1 (fun w t10 => ∃ r10 : Int32, w = some (.int r10) ∧
          ((r10 = 0 →
            sk_C sk_Sm (d - 1) mX7_error [.ref 0, .int 1] t10 (fun w t43 => ∃ r43 : Int32, w = some (.int r43) ∧
              K (some (.int r43)) t43
            )
          ) ∧
          (¬ r10 = 0 →
            sk_C sk_Sm (d - 1) mX7_in [.int v3, .int 0, .int 9] t10 (fun w t20 => ∃ r20 : Int32, w = some (.int r20) ∧
              ((r20 = 0 →
                sk_C sk_Sm (d - 1) mX7_error [.ref 0, .int 1] t20 (fun w t43 => ∃ r43 : Int32, w = some (.int r43) ∧
                  K (some (.int r43)) t43
                )
              ) ∧
              (¬ r20 = 0 →
                ((v4 = (-1) →
                  ((¬ (t20 1 6) = 10 →
                    sk_C sk_Sm (d - 1) mX7_lays1 [.ref 0, .int (t20 1 6), .int 0, .int (v1 / 10)] t20 (fun w t82 => w = none ∧
                      sk_C sk_Sm (d - 1) mX7_lays1 [.ref 0, .int (t20 1 6), .int 1, .int (v1 % 10)] t82 (fun w t93 => w = none ∧
                        sk_C sk_Sm (d - 1) mX7_lays1 [.ref 0, .int (t20 1 6), .int 2, .int v2] t93 (fun w t101 => w = none ∧
                          sk_C sk_Sm (d - 1) mX7_lays1 [.ref 0, .int (t20 1 6), .int 3, .int v3] t101 (fun w t109 => w = none ∧
                            sk_C sk_Sm (d - 1) mX7_lays1 [.ref 0, .int (t20 1 6), .int 4, .int v4] t109 (fun w t118 => w = none ∧
                              sk_C sk_Sm (d - 1) mX7_lays1 [.ref 0, .int (t20 1 6), .int 5, .int 0] t118 (fun w t126 => w = none ∧
                                sk_C sk_Sm (d - 1) mX7_lays1 [.ref 0, .int (t20 1 6), .int 6, .int (-1)] t126 (fun w t135 => w = none ∧
                                  K (some (.int (t20 1 6))) (sk_u t135 1 6 ((t135 1 6) + 1))
                                )
                              )
                            )
                          )
                        )
                      )
                    )
                  ) ∧
                  ((t20 1 6) = 10 →
                    sk_C sk_Sm (d - 1) mX7_error [.ref 0, .int 4] t20 (fun w t61 => ∃ r61 : Int32, w = some (.int r61) ∧
                      K (some (.int r61)) t61
                    )
                  ))
                ) ∧
                (¬ v4 = (-1) →
                  sk_C sk_Sm (d - 1) mX7_isSlate [.ref 0, .int v4] t20 (fun w t35 => ∃ r35 : Int32, w = some (.int r35) ∧
                    ((¬ r35 = 0 →
                      ((¬ (t35 1 6) = 10 →
                        sk_C sk_Sm (d - 1) mX7_lays1 [.ref 0, .int (t35 1 6), .int 0, .int (v1 / 10)] t35 (fun w t82 => w = none ∧
                          sk_C sk_Sm (d - 1) mX7_lays1 [.ref 0, .int (t35 1 6), .int 1, .int (v1 % 10)] t82 (fun w t93 => w = none ∧
                            sk_C sk_Sm (d - 1) mX7_lays1 [.ref 0, .int (t35 1 6), .int 2, .int v2] t93 (fun w t101 => w = none ∧
                              sk_C sk_Sm (d - 1) mX7_lays1 [.ref 0, .int (t35 1 6), .int 3, .int v3] t101 (fun w t109 => w = none ∧
                                sk_C sk_Sm (d - 1) mX7_lays1 [.ref 0, .int (t35 1 6), .int 4, .int v4] t109 (fun w t118 => w = none ∧
                                  sk_C sk_Sm (d - 1) mX7_lays1 [.ref 0, .int (t35 1 6), .int 5, .int 0] t118 (fun w t126 => w = none ∧
                                    sk_C sk_Sm (d - 1) mX7_lays1 [.ref 0, .int (t35 1 6), .int 6, .int (-1)] t126 (fun w t135 => w = none ∧
                                      K (some (.int (t35 1 6))) (sk_u t135 1 6 ((t135 1 6) + 1))
                                    )
                                  )
                                )
                              )
                            )
                          )
                        )
                      ) ∧
                      ((t35 1 6) = 10 →
                        sk_C sk_Sm (d - 1) mX7_error [.ref 0, .int 4] t35 (fun w t61 => ∃ r61 : Int32, w = some (.int r61) ∧
                          K (some (.int r61)) t61
                        )
                      ))
                    ) ∧
                    (r35 = 0 →
                      sk_C sk_Sm (d - 1) mX7_error [.ref 0, .int 1] t35 (fun w t43 => ∃ r43 : Int32, w = some (.int r43) ∧
                        K (some (.int r43)) t43
                      )
                    ))
                  )
                ))
              ))
            )
          ))
        )
      ))
    )) :
  sk_C sk_Sm d mX7_slate [.ref 0, .int v1, .int v2, .int v3, .int v4] τ K := by
  refine sk_enter mfX7_slate (Nat.le_of_ble_eq_true rfl) ?_
  show sk_G sk_Sm d mX7_slate 0 [(0, .ref 0), (1, .int v1), (2, .int v2), (3, .int v3), (4, .int v4)] [] τ K
  refine sk_iload_n 1 1 dX7_slate_0 rfl rfl rfl ?_
  refine sk_callSi [.int v1] [] 4 dX7_slate_1 rfl mfX7_isKind lkX7_166 miX7_isKind rfl rfl (by simp [Value.category]) hd0 (sk_Cm h ?_)
  rintro w t1 ⟨r1, hw, h⟩
  refine ⟨r1, hw, ?_⟩
  refine sk_if_eq 41 7 dX7_slate_4 (by decide) rfl (fun hc => ?_) (fun hc => ?_)
  · have h := h.1 hc
    refine sk_aload_n 0 42 dX7_slate_41 rfl rfl rfl ?_
    refine sk_iconst (v := 1) 43 dX7_slate_42 rfl (by decide) ?_
    refine sk_callVi [.int 1] [] 46 dX7_slate_43 rfl mfX7_error lkX7_51 miX7_error msX7_error sm_0 rfl rfl rfl rfl (by simp [Value.category]) hd0 (sk_Cm h ?_)
    rintro w t43 ⟨r43, hw, h⟩
    refine ⟨r43, hw, ?_⟩
    exact sk_iret dX7_slate_46 rfl rfl h
  · have h := h.2 hc
    refine sk_iload_n 2 8 dX7_slate_7 rfl rfl rfl ?_
    refine sk_iconst (v := 1) 9 dX7_slate_8 rfl (by decide) ?_
    refine sk_iconst (v := 2) 10 dX7_slate_9 rfl (by decide) ?_
    refine sk_callSi [.int v2, .int 1, .int 2] [] 13 dX7_slate_10 rfl mfX7_in lkX7_47 miX7_in rfl rfl (by simp [Value.category]) hd0 (sk_Cm h ?_)
    rintro w t10 ⟨r10, hw, h⟩
    refine ⟨r10, hw, ?_⟩
    refine sk_if_eq 41 16 dX7_slate_13 (by decide) rfl (fun hc => ?_) (fun hc => ?_)
    · have h := h.1 hc
      refine sk_aload_n 0 42 dX7_slate_41 rfl rfl rfl ?_
      refine sk_iconst (v := 1) 43 dX7_slate_42 rfl (by decide) ?_
      refine sk_callVi [.int 1] [] 46 dX7_slate_43 rfl mfX7_error lkX7_51 miX7_error msX7_error sm_0 rfl rfl rfl rfl (by simp [Value.category]) hd0 (sk_Cm h ?_)
      rintro w t43 ⟨r43, hw, h⟩
      refine ⟨r43, hw, ?_⟩
      exact sk_iret dX7_slate_46 rfl rfl h
    · have h := h.2 hc
      refine sk_iload_n 3 17 dX7_slate_16 rfl rfl rfl ?_
      refine sk_iconst (v := 0) 18 dX7_slate_17 rfl (by decide) ?_
      refine sk_bipush (v := 9) 20 dX7_slate_18 rfl (by decide) ?_
      refine sk_callSi [.int v3, .int 0, .int 9] [] 23 dX7_slate_20 rfl mfX7_in lkX7_47 miX7_in rfl rfl (by simp [Value.category]) hd0 (sk_Cm h ?_)
      rintro w t20 ⟨r20, hw, h⟩
      refine ⟨r20, hw, ?_⟩
      refine sk_if_eq 41 26 dX7_slate_23 (by decide) rfl (fun hc => ?_) (fun hc => ?_)
      · have h := h.1 hc
        refine sk_aload_n 0 42 dX7_slate_41 rfl rfl rfl ?_
        refine sk_iconst (v := 1) 43 dX7_slate_42 rfl (by decide) ?_
        refine sk_callVi [.int 1] [] 46 dX7_slate_43 rfl mfX7_error lkX7_51 miX7_error msX7_error sm_0 rfl rfl rfl rfl (by simp [Value.category]) hd0 (sk_Cm h ?_)
        rintro w t43 ⟨r43, hw, h⟩
        refine ⟨r43, hw, ?_⟩
        exact sk_iret dX7_slate_46 rfl rfl h
      · have h := h.2 hc
        refine sk_iload 4 28 dX7_slate_26 rfl rfl ?_
        refine sk_iconst (v := (-1)) 29 dX7_slate_28 rfl (by decide) ?_
        refine sk_icmp_eq 47 32 dX7_slate_29 (by decide) rfl (fun hc => ?_) (fun hc => ?_)
        · have h := h.1 hc
          refine sk_aload_n 0 48 dX7_slate_47 rfl rfl rfl ?_
          refine sk_getR (r := 1) 51 dX7_slate_48 rfl lfX7_7 sm_0 rfl ?_
          refine sk_bipush (v := 6) 53 dX7_slate_51 rfl (by decide) ?_
          refine sk_iald 54 dX7_slate_53 rfl sm_1 (by unfold vp_in; decide) 6 rfl ?_
          refine sk_bipush (v := 10) 56 dX7_slate_54 rfl (by decide) ?_
          refine sk_icmp_ne 65 59 dX7_slate_56 (by decide) rfl (fun hc => ?_) (fun hc => ?_)
          · have h := h.1 hc
            refine sk_aload_n 0 66 dX7_slate_65 rfl rfl rfl ?_
            refine sk_getR (r := 1) 69 dX7_slate_66 rfl lfX7_7 sm_0 rfl ?_
            refine sk_bipush (v := 6) 71 dX7_slate_69 rfl (by decide) ?_
            refine sk_iald 72 dX7_slate_71 rfl sm_1 (by unfold vp_in; decide) 6 rfl ?_
            refine sk_istore (lv2 := [(5, .int (t20 1 6)), (0, .ref 0), (1, .int v1), (2, .int v2), (3, .int v3), (4, .int v4)]) 74 dX7_slate_72 rfl (by decide) rfl ?_
            refine sk_aload_n 1 75 dX7_slate_74 rfl rfl rfl ?_
            refine sk_iload 0 77 dX7_slate_75 rfl rfl ?_
            refine sk_iconst (v := 0) 78 dX7_slate_77 rfl (by decide) ?_
            refine sk_iload_n 2 79 dX7_slate_78 rfl rfl rfl ?_
            refine sk_bipush (v := 10) 81 dX7_slate_79 rfl (by decide) ?_
            refine sk_idiv 82 dX7_slate_81 rfl (by decide) ?_
            refine sk_callVv [.int (t20 1 6), .int 0, .int (v1 / 10)] [] 85 dX7_slate_82 rfl mfX7_lays1 lkX7_153 miX7_lays1 msX7_lays1 sm_0 rfl rfl rfl rfl (by simp [Value.category]) hd0 (sk_Cm h ?_)
            rintro w t82 ⟨hw, h⟩
            refine ⟨hw, ?_⟩
            refine sk_aload_n 1 86 dX7_slate_85 rfl rfl rfl ?_
            refine sk_iload 0 88 dX7_slate_86 rfl rfl ?_
            refine sk_iconst (v := 1) 89 dX7_slate_88 rfl (by decide) ?_
            refine sk_iload_n 2 90 dX7_slate_89 rfl rfl rfl ?_
            refine sk_bipush (v := 10) 92 dX7_slate_90 rfl (by decide) ?_
            refine sk_irem 93 dX7_slate_92 rfl (by decide) ?_
            refine sk_callVv [.int (t20 1 6), .int 1, .int (v1 % 10)] [] 96 dX7_slate_93 rfl mfX7_lays1 lkX7_153 miX7_lays1 msX7_lays1 sm_0 rfl rfl rfl rfl (by simp [Value.category]) hd0 (sk_Cm h ?_)
            rintro w t93 ⟨hw, h⟩
            refine ⟨hw, ?_⟩
            refine sk_aload_n 1 97 dX7_slate_96 rfl rfl rfl ?_
            refine sk_iload 0 99 dX7_slate_97 rfl rfl ?_
            refine sk_iconst (v := 2) 100 dX7_slate_99 rfl (by decide) ?_
            refine sk_iload_n 3 101 dX7_slate_100 rfl rfl rfl ?_
            refine sk_callVv [.int (t20 1 6), .int 2, .int v2] [] 104 dX7_slate_101 rfl mfX7_lays1 lkX7_153 miX7_lays1 msX7_lays1 sm_0 rfl rfl rfl rfl (by simp [Value.category]) hd0 (sk_Cm h ?_)
            rintro w t101 ⟨hw, h⟩
            refine ⟨hw, ?_⟩
            refine sk_aload_n 1 105 dX7_slate_104 rfl rfl rfl ?_
            refine sk_iload 0 107 dX7_slate_105 rfl rfl ?_
            refine sk_iconst (v := 3) 108 dX7_slate_107 rfl (by decide) ?_
            refine sk_iload_n 4 109 dX7_slate_108 rfl rfl rfl ?_
            refine sk_callVv [.int (t20 1 6), .int 3, .int v3] [] 112 dX7_slate_109 rfl mfX7_lays1 lkX7_153 miX7_lays1 msX7_lays1 sm_0 rfl rfl rfl rfl (by simp [Value.category]) hd0 (sk_Cm h ?_)
            rintro w t109 ⟨hw, h⟩
            refine ⟨hw, ?_⟩
            refine sk_aload_n 1 113 dX7_slate_112 rfl rfl rfl ?_
            refine sk_iload 0 115 dX7_slate_113 rfl rfl ?_
            refine sk_iconst (v := 4) 116 dX7_slate_115 rfl (by decide) ?_
            refine sk_iload 5 118 dX7_slate_116 rfl rfl ?_
            refine sk_callVv [.int (t20 1 6), .int 4, .int v4] [] 121 dX7_slate_118 rfl mfX7_lays1 lkX7_153 miX7_lays1 msX7_lays1 sm_0 rfl rfl rfl rfl (by simp [Value.category]) hd0 (sk_Cm h ?_)
            rintro w t118 ⟨hw, h⟩
            refine ⟨hw, ?_⟩
            refine sk_aload_n 1 122 dX7_slate_121 rfl rfl rfl ?_
            refine sk_iload 0 124 dX7_slate_122 rfl rfl ?_
            refine sk_iconst (v := 5) 125 dX7_slate_124 rfl (by decide) ?_
            refine sk_iconst (v := 0) 126 dX7_slate_125 rfl (by decide) ?_
            refine sk_callVv [.int (t20 1 6), .int 5, .int 0] [] 129 dX7_slate_126 rfl mfX7_lays1 lkX7_153 miX7_lays1 msX7_lays1 sm_0 rfl rfl rfl rfl (by simp [Value.category]) hd0 (sk_Cm h ?_)
            rintro w t126 ⟨hw, h⟩
            refine ⟨hw, ?_⟩
            refine sk_aload_n 1 130 dX7_slate_129 rfl rfl rfl ?_
            refine sk_iload 0 132 dX7_slate_130 rfl rfl ?_
            refine sk_bipush (v := 6) 134 dX7_slate_132 rfl (by decide) ?_
            refine sk_iconst (v := (-1)) 135 dX7_slate_134 rfl (by decide) ?_
            refine sk_callVv [.int (t20 1 6), .int 6, .int (-1)] [] 138 dX7_slate_135 rfl mfX7_lays1 lkX7_153 miX7_lays1 msX7_lays1 sm_0 rfl rfl rfl rfl (by simp [Value.category]) hd0 (sk_Cm h ?_)
            rintro w t135 ⟨hw, h⟩
            refine ⟨hw, ?_⟩
            refine sk_aload_n 1 139 dX7_slate_138 rfl rfl rfl ?_
            refine sk_getR (r := 1) 142 dX7_slate_139 rfl lfX7_7 sm_0 rfl ?_
            refine sk_bipush (v := 6) 144 dX7_slate_142 rfl (by decide) ?_
            refine sk_dup2 145 dX7_slate_144 rfl rfl rfl ?_
            refine sk_iald 146 dX7_slate_145 rfl sm_1 (by unfold vp_in; decide) 6 rfl ?_
            refine sk_iconst (v := 1) 147 dX7_slate_146 rfl (by decide) ?_
            refine sk_iadd 148 dX7_slate_147 rfl ?_
            refine sk_iast 149 dX7_slate_148 rfl sm_1 (by unfold vp_in; decide) 6 rfl ?_
            refine sk_iload 0 151 dX7_slate_149 rfl rfl ?_
            exact sk_iret dX7_slate_151 rfl rfl h
          · have h := h.2 hc
            refine sk_aload_n 0 60 dX7_slate_59 rfl rfl rfl ?_
            refine sk_iconst (v := 4) 61 dX7_slate_60 rfl (by decide) ?_
            refine sk_callVi [.int 4] [] 64 dX7_slate_61 rfl mfX7_error lkX7_51 miX7_error msX7_error sm_0 rfl rfl rfl rfl (by simp [Value.category]) hd0 (sk_Cm h ?_)
            rintro w t61 ⟨r61, hw, h⟩
            refine ⟨r61, hw, ?_⟩
            exact sk_iret dX7_slate_64 rfl rfl h
        · have h := h.2 hc
          refine sk_aload_n 0 33 dX7_slate_32 rfl rfl rfl ?_
          refine sk_iload 4 35 dX7_slate_33 rfl rfl ?_
          refine sk_callVi [.int v4] [] 38 dX7_slate_35 rfl mfX7_isSlate lkX7_169 miX7_isSlate msX7_isSlate sm_0 rfl rfl rfl rfl (by simp [Value.category]) hd0 (sk_Cm h ?_)
          rintro w t35 ⟨r35, hw, h⟩
          refine ⟨r35, hw, ?_⟩
          refine sk_if_ne 47 41 dX7_slate_38 (by decide) rfl (fun hc => ?_) (fun hc => ?_)
          · have h := h.1 hc
            refine sk_aload_n 0 48 dX7_slate_47 rfl rfl rfl ?_
            refine sk_getR (r := 1) 51 dX7_slate_48 rfl lfX7_7 sm_0 rfl ?_
            refine sk_bipush (v := 6) 53 dX7_slate_51 rfl (by decide) ?_
            refine sk_iald 54 dX7_slate_53 rfl sm_1 (by unfold vp_in; decide) 6 rfl ?_
            refine sk_bipush (v := 10) 56 dX7_slate_54 rfl (by decide) ?_
            refine sk_icmp_ne 65 59 dX7_slate_56 (by decide) rfl (fun hc => ?_) (fun hc => ?_)
            · have h := h.1 hc
              refine sk_aload_n 0 66 dX7_slate_65 rfl rfl rfl ?_
              refine sk_getR (r := 1) 69 dX7_slate_66 rfl lfX7_7 sm_0 rfl ?_
              refine sk_bipush (v := 6) 71 dX7_slate_69 rfl (by decide) ?_
              refine sk_iald 72 dX7_slate_71 rfl sm_1 (by unfold vp_in; decide) 6 rfl ?_
              refine sk_istore (lv2 := [(5, .int (t35 1 6)), (0, .ref 0), (1, .int v1), (2, .int v2), (3, .int v3), (4, .int v4)]) 74 dX7_slate_72 rfl (by decide) rfl ?_
              refine sk_aload_n 1 75 dX7_slate_74 rfl rfl rfl ?_
              refine sk_iload 0 77 dX7_slate_75 rfl rfl ?_
              refine sk_iconst (v := 0) 78 dX7_slate_77 rfl (by decide) ?_
              refine sk_iload_n 2 79 dX7_slate_78 rfl rfl rfl ?_
              refine sk_bipush (v := 10) 81 dX7_slate_79 rfl (by decide) ?_
              refine sk_idiv 82 dX7_slate_81 rfl (by decide) ?_
              refine sk_callVv [.int (t35 1 6), .int 0, .int (v1 / 10)] [] 85 dX7_slate_82 rfl mfX7_lays1 lkX7_153 miX7_lays1 msX7_lays1 sm_0 rfl rfl rfl rfl (by simp [Value.category]) hd0 (sk_Cm h ?_)
              rintro w t82 ⟨hw, h⟩
              refine ⟨hw, ?_⟩
              refine sk_aload_n 1 86 dX7_slate_85 rfl rfl rfl ?_
              refine sk_iload 0 88 dX7_slate_86 rfl rfl ?_
              refine sk_iconst (v := 1) 89 dX7_slate_88 rfl (by decide) ?_
              refine sk_iload_n 2 90 dX7_slate_89 rfl rfl rfl ?_
              refine sk_bipush (v := 10) 92 dX7_slate_90 rfl (by decide) ?_
              refine sk_irem 93 dX7_slate_92 rfl (by decide) ?_
              refine sk_callVv [.int (t35 1 6), .int 1, .int (v1 % 10)] [] 96 dX7_slate_93 rfl mfX7_lays1 lkX7_153 miX7_lays1 msX7_lays1 sm_0 rfl rfl rfl rfl (by simp [Value.category]) hd0 (sk_Cm h ?_)
              rintro w t93 ⟨hw, h⟩
              refine ⟨hw, ?_⟩
              refine sk_aload_n 1 97 dX7_slate_96 rfl rfl rfl ?_
              refine sk_iload 0 99 dX7_slate_97 rfl rfl ?_
              refine sk_iconst (v := 2) 100 dX7_slate_99 rfl (by decide) ?_
              refine sk_iload_n 3 101 dX7_slate_100 rfl rfl rfl ?_
              refine sk_callVv [.int (t35 1 6), .int 2, .int v2] [] 104 dX7_slate_101 rfl mfX7_lays1 lkX7_153 miX7_lays1 msX7_lays1 sm_0 rfl rfl rfl rfl (by simp [Value.category]) hd0 (sk_Cm h ?_)
              rintro w t101 ⟨hw, h⟩
              refine ⟨hw, ?_⟩
              refine sk_aload_n 1 105 dX7_slate_104 rfl rfl rfl ?_
              refine sk_iload 0 107 dX7_slate_105 rfl rfl ?_
              refine sk_iconst (v := 3) 108 dX7_slate_107 rfl (by decide) ?_
              refine sk_iload_n 4 109 dX7_slate_108 rfl rfl rfl ?_
              refine sk_callVv [.int (t35 1 6), .int 3, .int v3] [] 112 dX7_slate_109 rfl mfX7_lays1 lkX7_153 miX7_lays1 msX7_lays1 sm_0 rfl rfl rfl rfl (by simp [Value.category]) hd0 (sk_Cm h ?_)
              rintro w t109 ⟨hw, h⟩
              refine ⟨hw, ?_⟩
              refine sk_aload_n 1 113 dX7_slate_112 rfl rfl rfl ?_
              refine sk_iload 0 115 dX7_slate_113 rfl rfl ?_
              refine sk_iconst (v := 4) 116 dX7_slate_115 rfl (by decide) ?_
              refine sk_iload 5 118 dX7_slate_116 rfl rfl ?_
              refine sk_callVv [.int (t35 1 6), .int 4, .int v4] [] 121 dX7_slate_118 rfl mfX7_lays1 lkX7_153 miX7_lays1 msX7_lays1 sm_0 rfl rfl rfl rfl (by simp [Value.category]) hd0 (sk_Cm h ?_)
              rintro w t118 ⟨hw, h⟩
              refine ⟨hw, ?_⟩
              refine sk_aload_n 1 122 dX7_slate_121 rfl rfl rfl ?_
              refine sk_iload 0 124 dX7_slate_122 rfl rfl ?_
              refine sk_iconst (v := 5) 125 dX7_slate_124 rfl (by decide) ?_
              refine sk_iconst (v := 0) 126 dX7_slate_125 rfl (by decide) ?_
              refine sk_callVv [.int (t35 1 6), .int 5, .int 0] [] 129 dX7_slate_126 rfl mfX7_lays1 lkX7_153 miX7_lays1 msX7_lays1 sm_0 rfl rfl rfl rfl (by simp [Value.category]) hd0 (sk_Cm h ?_)
              rintro w t126 ⟨hw, h⟩
              refine ⟨hw, ?_⟩
              refine sk_aload_n 1 130 dX7_slate_129 rfl rfl rfl ?_
              refine sk_iload 0 132 dX7_slate_130 rfl rfl ?_
              refine sk_bipush (v := 6) 134 dX7_slate_132 rfl (by decide) ?_
              refine sk_iconst (v := (-1)) 135 dX7_slate_134 rfl (by decide) ?_
              refine sk_callVv [.int (t35 1 6), .int 6, .int (-1)] [] 138 dX7_slate_135 rfl mfX7_lays1 lkX7_153 miX7_lays1 msX7_lays1 sm_0 rfl rfl rfl rfl (by simp [Value.category]) hd0 (sk_Cm h ?_)
              rintro w t135 ⟨hw, h⟩
              refine ⟨hw, ?_⟩
              refine sk_aload_n 1 139 dX7_slate_138 rfl rfl rfl ?_
              refine sk_getR (r := 1) 142 dX7_slate_139 rfl lfX7_7 sm_0 rfl ?_
              refine sk_bipush (v := 6) 144 dX7_slate_142 rfl (by decide) ?_
              refine sk_dup2 145 dX7_slate_144 rfl rfl rfl ?_
              refine sk_iald 146 dX7_slate_145 rfl sm_1 (by unfold vp_in; decide) 6 rfl ?_
              refine sk_iconst (v := 1) 147 dX7_slate_146 rfl (by decide) ?_
              refine sk_iadd 148 dX7_slate_147 rfl ?_
              refine sk_iast 149 dX7_slate_148 rfl sm_1 (by unfold vp_in; decide) 6 rfl ?_
              refine sk_iload 0 151 dX7_slate_149 rfl rfl ?_
              exact sk_iret dX7_slate_151 rfl rfl h
            · have h := h.2 hc
              refine sk_aload_n 0 60 dX7_slate_59 rfl rfl rfl ?_
              refine sk_iconst (v := 4) 61 dX7_slate_60 rfl (by decide) ?_
              refine sk_callVi [.int 4] [] 64 dX7_slate_61 rfl mfX7_error lkX7_51 miX7_error msX7_error sm_0 rfl rfl rfl rfl (by simp [Value.category]) hd0 (sk_Cm h ?_)
              rintro w t61 ⟨r61, hw, h⟩
              refine ⟨r61, hw, ?_⟩
              exact sk_iret dX7_slate_64 rfl rfl h
          · have h := h.2 hc
            refine sk_aload_n 0 42 dX7_slate_41 rfl rfl rfl ?_
            refine sk_iconst (v := 1) 43 dX7_slate_42 rfl (by decide) ?_
            refine sk_callVi [.int 1] [] 46 dX7_slate_43 rfl mfX7_error lkX7_51 miX7_error msX7_error sm_0 rfl rfl rfl rfl (by simp [Value.category]) hd0 (sk_Cm h ?_)
            rintro w t43 ⟨r43, hw, h⟩
            refine ⟨r43, hw, ?_⟩
            exact sk_iret dX7_slate_46 rfl rfl h

theorem wX7_slateIs {d : Nat} {τ : sk_T} {K : sk_K} {v1 : Int32} {v2 : Int32} (hd0 : 0 < d)
  (h : sk_C sk_Sm (d - 1) mX7_isSlate [.ref 0, .int v1] τ (fun w t2 => ∃ r2 : Int32, w = some (.int r2) ∧
      ((r2 = 0 →
        sk_C sk_Sm (d - 1) mX7_error [.ref 0, .int 1] t2 (fun w t20 => ∃ r20 : Int32, w = some (.int r20) ∧
          K (some (.int r20)) t20
        )
      ) ∧
      (¬ r2 = 0 →
        sk_C sk_Sm (d - 1) mX7_in [.int v2, .int 0, .int 9] t2 (fun w t12 => ∃ r12 : Int32, w = some (.int r12) ∧
          ((¬ r12 = 0 →
            sk_C sk_Sm (d - 1) mX7_its [.ref 0, .int v1, .int 6] t12 (fun w t28 => ∃ r28 : Int32, w = some (.int r28) ∧
              (
              (v2 = 5 →
                ((¬ r28 = (-1) →
                  K (some (.int (r28 / 8))) t28
                ) ∧
                (r28 = (-1) →
                  K (some (.int (-1))) t28
                ))
              ) ∧
              (v2 = 6 →
                ((¬ r28 = (-1) →
                  K (some (.int (r28 % 8))) t28
                ) ∧
                (r28 = (-1) →
                  K (some (.int (-1))) t28
                ))
              ) ∧
              (v2 = 7 →
                sk_C sk_Sm (d - 1) mX7_its [.ref 0, .int v1, .int 5] t28 (fun w t99 => ∃ r99 : Int32, w = some (.int r99) ∧
                  K (some (.int r99)) t99
                )
              ) ∧
              (v2 = 8 →
                sk_C sk_Sm (d - 1) mX7_broad [.ref 0, .int v1] t28 (fun w t105 => ∃ r105 : Int32, w = some (.int r105) ∧
                  K (some (.int r105)) t105
                )
              ) ∧
              (v2 = 9 →
                sk_C sk_Sm (d - 1) mX7_holdOf [.ref 0, .int v1, .int 0] t28 (fun w t112 => ∃ r112 : Int32, w = some (.int r112) ∧
                  K (some (.int r112)) t112
                )
              ) ∧
              ((¬ v2 = 5 ∧ ¬ v2 = 6 ∧ ¬ v2 = 7 ∧ ¬ v2 = 8 ∧ ¬ v2 = 9) →
                sk_C sk_Sm (d - 1) mX7_its [.ref 0, .int v1, .int v2] t28 (fun w t119 => ∃ r119 : Int32, w = some (.int r119) ∧
                  K (some (.int r119)) t119
                )
              ))
            )
          ) ∧
          (r12 = 0 →
            sk_C sk_Sm (d - 1) mX7_error [.ref 0, .int 1] t12 (fun w t20 => ∃ r20 : Int32, w = some (.int r20) ∧
              K (some (.int r20)) t20
            )
          ))
        )
      ))
    )) :
  sk_C sk_Sm d mX7_slateIs [.ref 0, .int v1, .int v2] τ K := by
  refine sk_enter mfX7_slateIs (Nat.le_of_ble_eq_true rfl) ?_
  show sk_G sk_Sm d mX7_slateIs 0 [(0, .ref 0), (1, .int v1), (2, .int v2)] [] τ K
  refine sk_aload_n 0 1 dX7_slateIs_0 rfl rfl rfl ?_
  refine sk_iload_n 1 2 dX7_slateIs_1 rfl rfl rfl ?_
  refine sk_callVi [.int v1] [] 5 dX7_slateIs_2 rfl mfX7_isSlate lkX7_169 miX7_isSlate msX7_isSlate sm_0 rfl rfl rfl rfl (by simp [Value.category]) hd0 (sk_Cm h ?_)
  rintro w t2 ⟨r2, hw, h⟩
  refine ⟨r2, hw, ?_⟩
  refine sk_if_eq 18 8 dX7_slateIs_5 (by decide) rfl (fun hc => ?_) (fun hc => ?_)
  · have h := h.1 hc
    refine sk_aload_n 0 19 dX7_slateIs_18 rfl rfl rfl ?_
    refine sk_iconst (v := 1) 20 dX7_slateIs_19 rfl (by decide) ?_
    refine sk_callVi [.int 1] [] 23 dX7_slateIs_20 rfl mfX7_error lkX7_51 miX7_error msX7_error sm_0 rfl rfl rfl rfl (by simp [Value.category]) hd0 (sk_Cm h ?_)
    rintro w t20 ⟨r20, hw, h⟩
    refine ⟨r20, hw, ?_⟩
    exact sk_iret dX7_slateIs_23 rfl rfl h
  · have h := h.2 hc
    refine sk_iload_n 2 9 dX7_slateIs_8 rfl rfl rfl ?_
    refine sk_iconst (v := 0) 10 dX7_slateIs_9 rfl (by decide) ?_
    refine sk_bipush (v := 9) 12 dX7_slateIs_10 rfl (by decide) ?_
    refine sk_callSi [.int v2, .int 0, .int 9] [] 15 dX7_slateIs_12 rfl mfX7_in lkX7_47 miX7_in rfl rfl (by simp [Value.category]) hd0 (sk_Cm h ?_)
    rintro w t12 ⟨r12, hw, h⟩
    refine ⟨r12, hw, ?_⟩
    refine sk_if_ne 24 18 dX7_slateIs_15 (by decide) rfl (fun hc => ?_) (fun hc => ?_)
    · have h := h.1 hc
      refine sk_aload_n 0 25 dX7_slateIs_24 rfl rfl rfl ?_
      refine sk_iload_n 1 26 dX7_slateIs_25 rfl rfl rfl ?_
      refine sk_bipush (v := 6) 28 dX7_slateIs_26 rfl (by decide) ?_
      refine sk_callVi [.int v1, .int 6] [] 31 dX7_slateIs_28 rfl mfX7_its lkX7_111 miX7_its msX7_its sm_0 rfl rfl rfl rfl (by simp [Value.category]) hd0 (sk_Cm h ?_)
      rintro w t28 ⟨r28, hw, h⟩
      refine ⟨r28, hw, ?_⟩
      refine sk_istore_n (lv2 := [(3, .int r28), (0, .ref 0), (1, .int v1), (2, .int v2)]) 32 dX7_slateIs_31 rfl rfl (by decide) rfl ?_
      refine sk_iload_n 3 33 dX7_slateIs_32 rfl rfl rfl ?_
      refine sk_table [68, 82, 96, 103, 109] 116 dX7_slateIs_33 (by decide) (by decide) (by decide) (by decide) ⟨fun e => ?_, fun e => ?_, fun e => ?_, fun e => ?_, fun e => ?_, trivial⟩ (fun e => ?_)
      · have h := h.1 e
        refine sk_iload_n 0 69 dX7_slateIs_68 rfl rfl rfl ?_
        refine sk_iconst (v := (-1)) 70 dX7_slateIs_69 rfl (by decide) ?_
        refine sk_icmp_ne 77 73 dX7_slateIs_70 (by decide) rfl (fun hc => ?_) (fun hc => ?_)
        · have h := h.1 hc
          refine sk_iload_n 0 78 dX7_slateIs_77 rfl rfl rfl ?_
          refine sk_bipush (v := 8) 80 dX7_slateIs_78 rfl (by decide) ?_
          refine sk_idiv 81 dX7_slateIs_80 rfl (by decide) ?_
          exact sk_iret dX7_slateIs_81 rfl rfl h
        · have h := h.2 hc
          refine sk_iconst (v := (-1)) 74 dX7_slateIs_73 rfl (by decide) ?_
          refine sk_goto 81 dX7_slateIs_74 (by decide) ?_
          exact sk_iret dX7_slateIs_81 rfl rfl h
      · have h := h.2.1 e
        refine sk_iload_n 0 83 dX7_slateIs_82 rfl rfl rfl ?_
        refine sk_iconst (v := (-1)) 84 dX7_slateIs_83 rfl (by decide) ?_
        refine sk_icmp_ne 91 87 dX7_slateIs_84 (by decide) rfl (fun hc => ?_) (fun hc => ?_)
        · have h := h.1 hc
          refine sk_iload_n 0 92 dX7_slateIs_91 rfl rfl rfl ?_
          refine sk_bipush (v := 8) 94 dX7_slateIs_92 rfl (by decide) ?_
          refine sk_irem 95 dX7_slateIs_94 rfl (by decide) ?_
          exact sk_iret dX7_slateIs_95 rfl rfl h
        · have h := h.2 hc
          refine sk_iconst (v := (-1)) 88 dX7_slateIs_87 rfl (by decide) ?_
          refine sk_goto 95 dX7_slateIs_88 (by decide) ?_
          exact sk_iret dX7_slateIs_95 rfl rfl h
      · have h := h.2.2.1 e
        refine sk_aload_n 1 97 dX7_slateIs_96 rfl rfl rfl ?_
        refine sk_iload_n 2 98 dX7_slateIs_97 rfl rfl rfl ?_
        refine sk_iconst (v := 5) 99 dX7_slateIs_98 rfl (by decide) ?_
        refine sk_callVi [.int v1, .int 5] [] 102 dX7_slateIs_99 rfl mfX7_its lkX7_111 miX7_its msX7_its sm_0 rfl rfl rfl rfl (by simp [Value.category]) hd0 (sk_Cm h ?_)
        rintro w t99 ⟨r99, hw, h⟩
        refine ⟨r99, hw, ?_⟩
        exact sk_iret dX7_slateIs_102 rfl rfl h
      · have h := h.2.2.2.1 e
        refine sk_aload_n 1 104 dX7_slateIs_103 rfl rfl rfl ?_
        refine sk_iload_n 2 105 dX7_slateIs_104 rfl rfl rfl ?_
        refine sk_callVi [.int v1] [] 108 dX7_slateIs_105 rfl mfX7_broad lkX7_127 miX7_broad msX7_broad sm_0 rfl rfl rfl rfl (by simp [Value.category]) hd0 (sk_Cm h ?_)
        rintro w t105 ⟨r105, hw, h⟩
        refine ⟨r105, hw, ?_⟩
        exact sk_iret dX7_slateIs_108 rfl rfl h
      · have h := h.2.2.2.2.1 e
        refine sk_aload_n 1 110 dX7_slateIs_109 rfl rfl rfl ?_
        refine sk_iload_n 2 111 dX7_slateIs_110 rfl rfl rfl ?_
        refine sk_iconst (v := 0) 112 dX7_slateIs_111 rfl (by decide) ?_
        refine sk_callVi [.int v1, .int 0] [] 115 dX7_slateIs_112 rfl mfX7_holdOf lkX7_143 miX7_holdOf msX7_holdOf sm_0 rfl rfl rfl rfl (by simp [Value.category]) hd0 (sk_Cm h ?_)
        rintro w t112 ⟨r112, hw, h⟩
        refine ⟨r112, hw, ?_⟩
        exact sk_iret dX7_slateIs_115 rfl rfl h
      · have h := h.2.2.2.2.2 ⟨e 0 (by decide), e 1 (by decide), e 2 (by decide), e 3 (by decide), e 4 (by decide)⟩
        refine sk_aload_n 1 117 dX7_slateIs_116 rfl rfl rfl ?_
        refine sk_iload_n 2 118 dX7_slateIs_117 rfl rfl rfl ?_
        refine sk_iload_n 3 119 dX7_slateIs_118 rfl rfl rfl ?_
        refine sk_callVi [.int v1, .int v2] [] 122 dX7_slateIs_119 rfl mfX7_its lkX7_111 miX7_its msX7_its sm_0 rfl rfl rfl rfl (by simp [Value.category]) hd0 (sk_Cm h ?_)
        rintro w t119 ⟨r119, hw, h⟩
        refine ⟨r119, hw, ?_⟩
        exact sk_iret dX7_slateIs_122 rfl rfl h
    · have h := h.2 hc
      refine sk_aload_n 0 19 dX7_slateIs_18 rfl rfl rfl ?_
      refine sk_iconst (v := 1) 20 dX7_slateIs_19 rfl (by decide) ?_
      refine sk_callVi [.int 1] [] 23 dX7_slateIs_20 rfl mfX7_error lkX7_51 miX7_error msX7_error sm_0 rfl rfl rfl rfl (by simp [Value.category]) hd0 (sk_Cm h ?_)
      rintro w t20 ⟨r20, hw, h⟩
      refine ⟨r20, hw, ?_⟩
      exact sk_iret dX7_slateIs_23 rfl rfl h

theorem wX7_become {d : Nat} {τ : sk_T} {K : sk_K} {v1 : Int32} {v2 : Int32} (hd0 : 0 < d)
  (h : sk_C sk_Sm (d - 1) mX7_isSlate [.ref 0, .int v1] τ (fun w t2 => ∃ r2 : Int32, w = some (.int r2) ∧
      ((r2 = 0 →
        sk_C sk_Sm (d - 1) mX7_error [.ref 0, .int 1] t2 (fun w t17 => ∃ r17 : Int32, w = some (.int r17) ∧
          K (some (.int r17)) t17
        )
      ) ∧
      (¬ r2 = 0 →
        sk_C sk_Sm (d - 1) mX7_isKind [.int v2] t2 (fun w t9 => ∃ r9 : Int32, w = some (.int r9) ∧
          ((¬ r9 = 0 →
            sk_C sk_Sm (d - 1) mX7_lays1 [.ref 0, .int v1, .int 1, .int (v2 % 10)] t9 (fun w t28 => w = none ∧
              sk_C sk_Sm (d - 1) mX7_change1 [.ref 0, .int ((8 + (7 * v1)) + 0), .int (v2 / 10)] t28 (fun w t45 => ∃ r45 : Int32, w = some (.int r45) ∧
                K (some (.int r45)) t45
              )
            )
          ) ∧
          (r9 = 0 →
            sk_C sk_Sm (d - 1) mX7_error [.ref 0, .int 1] t9 (fun w t17 => ∃ r17 : Int32, w = some (.int r17) ∧
              K (some (.int r17)) t17
            )
          ))
        )
      ))
    )) :
  sk_C sk_Sm d mX7_become [.ref 0, .int v1, .int v2] τ K := by
  refine sk_enter mfX7_become (Nat.le_of_ble_eq_true rfl) ?_
  show sk_G sk_Sm d mX7_become 0 [(0, .ref 0), (1, .int v1), (2, .int v2)] [] τ K
  refine sk_aload_n 0 1 dX7_become_0 rfl rfl rfl ?_
  refine sk_iload_n 1 2 dX7_become_1 rfl rfl rfl ?_
  refine sk_callVi [.int v1] [] 5 dX7_become_2 rfl mfX7_isSlate lkX7_169 miX7_isSlate msX7_isSlate sm_0 rfl rfl rfl rfl (by simp [Value.category]) hd0 (sk_Cm h ?_)
  rintro w t2 ⟨r2, hw, h⟩
  refine ⟨r2, hw, ?_⟩
  refine sk_if_eq 15 8 dX7_become_5 (by decide) rfl (fun hc => ?_) (fun hc => ?_)
  · have h := h.1 hc
    refine sk_aload_n 0 16 dX7_become_15 rfl rfl rfl ?_
    refine sk_iconst (v := 1) 17 dX7_become_16 rfl (by decide) ?_
    refine sk_callVi [.int 1] [] 20 dX7_become_17 rfl mfX7_error lkX7_51 miX7_error msX7_error sm_0 rfl rfl rfl rfl (by simp [Value.category]) hd0 (sk_Cm h ?_)
    rintro w t17 ⟨r17, hw, h⟩
    refine ⟨r17, hw, ?_⟩
    exact sk_iret dX7_become_20 rfl rfl h
  · have h := h.2 hc
    refine sk_iload_n 2 9 dX7_become_8 rfl rfl rfl ?_
    refine sk_callSi [.int v2] [] 12 dX7_become_9 rfl mfX7_isKind lkX7_166 miX7_isKind rfl rfl (by simp [Value.category]) hd0 (sk_Cm h ?_)
    rintro w t9 ⟨r9, hw, h⟩
    refine ⟨r9, hw, ?_⟩
    refine sk_if_ne 21 15 dX7_become_12 (by decide) rfl (fun hc => ?_) (fun hc => ?_)
    · have h := h.1 hc
      refine sk_aload_n 0 22 dX7_become_21 rfl rfl rfl ?_
      refine sk_iload_n 1 23 dX7_become_22 rfl rfl rfl ?_
      refine sk_iconst (v := 1) 24 dX7_become_23 rfl (by decide) ?_
      refine sk_iload_n 2 25 dX7_become_24 rfl rfl rfl ?_
      refine sk_bipush (v := 10) 27 dX7_become_25 rfl (by decide) ?_
      refine sk_irem 28 dX7_become_27 rfl (by decide) ?_
      refine sk_callVv [.int v1, .int 1, .int (v2 % 10)] [] 31 dX7_become_28 rfl mfX7_lays1 lkX7_153 miX7_lays1 msX7_lays1 sm_0 rfl rfl rfl rfl (by simp [Value.category]) hd0 (sk_Cm h ?_)
      rintro w t28 ⟨hw, h⟩
      refine ⟨hw, ?_⟩
      refine sk_aload_n 0 32 dX7_become_31 rfl rfl rfl ?_
      refine sk_bipush (v := 8) 34 dX7_become_32 rfl (by decide) ?_
      refine sk_bipush (v := 7) 36 dX7_become_34 rfl (by decide) ?_
      refine sk_iload_n 1 37 dX7_become_36 rfl rfl rfl ?_
      refine sk_imul 38 dX7_become_37 rfl ?_
      refine sk_iadd 39 dX7_become_38 rfl ?_
      refine sk_iconst (v := 0) 40 dX7_become_39 rfl (by decide) ?_
      refine sk_iadd 41 dX7_become_40 rfl ?_
      refine sk_iload_n 2 42 dX7_become_41 rfl rfl rfl ?_
      refine sk_bipush (v := 10) 44 dX7_become_42 rfl (by decide) ?_
      refine sk_idiv 45 dX7_become_44 rfl (by decide) ?_
      refine sk_callVi [.int ((8 + (7 * v1)) + 0), .int (v2 / 10)] [] 48 dX7_become_45 rfl mfX7_change1 lkX7_172 miX7_change1 msX7_change1 sm_0 rfl rfl rfl rfl (by simp [Value.category]) hd0 (sk_Cm h ?_)
      rintro w t45 ⟨r45, hw, h⟩
      refine ⟨r45, hw, ?_⟩
      exact sk_iret dX7_become_48 rfl rfl h
    · have h := h.2 hc
      refine sk_aload_n 0 16 dX7_become_15 rfl rfl rfl ?_
      refine sk_iconst (v := 1) 17 dX7_become_16 rfl (by decide) ?_
      refine sk_callVi [.int 1] [] 20 dX7_become_17 rfl mfX7_error lkX7_51 miX7_error msX7_error sm_0 rfl rfl rfl rfl (by simp [Value.category]) hd0 (sk_Cm h ?_)
      rintro w t17 ⟨r17, hw, h⟩
      refine ⟨r17, hw, ?_⟩
      exact sk_iret dX7_become_20 rfl rfl h

theorem wX7_as {d : Nat} {τ : sk_T} {K : sk_K} {v1 : Int32} {v2 : Int32} (hd0 : 0 < d)
  (h : sk_C sk_Sm (d - 1) mX7_isSlate [.ref 0, .int v1] τ (fun w t2 => ∃ r2 : Int32, w = some (.int r2) ∧
      ((r2 = 0 →
        sk_C sk_Sm (d - 1) mX7_error [.ref 0, .int 1] t2 (fun w t20 => ∃ r20 : Int32, w = some (.int r20) ∧
          K (some (.int r20)) t20
        )
      ) ∧
      (¬ r2 = 0 →
        sk_C sk_Sm (d - 1) mX7_in [.int v2, .int 0, .int 6] t2 (fun w t12 => ∃ r12 : Int32, w = some (.int r12) ∧
          ((¬ r12 = 0 →
            sk_C sk_Sm (d - 1) mX7_its [.ref 0, .int v1, .int 0] t12 (fun w t27 => ∃ r27 : Int32, w = some (.int r27) ∧
              sk_G sk_Sm d mX7_as 31 [(0, .ref 0), (1, .int v1), (2, .int v2), (3, .int r27)] [] t27 K
            )
          ) ∧
          (r12 = 0 →
            sk_C sk_Sm (d - 1) mX7_error [.ref 0, .int 1] t12 (fun w t20 => ∃ r20 : Int32, w = some (.int r20) ∧
              K (some (.int r20)) t20
            )
          ))
        )
      ))
    )) :
  sk_C sk_Sm d mX7_as [.ref 0, .int v1, .int v2] τ K := by
  refine sk_enter mfX7_as (Nat.le_of_ble_eq_true rfl) ?_
  show sk_G sk_Sm d mX7_as 0 [(0, .ref 0), (1, .int v1), (2, .int v2)] [] τ K
  refine sk_aload_n 0 1 dX7_as_0 rfl rfl rfl ?_
  refine sk_iload_n 1 2 dX7_as_1 rfl rfl rfl ?_
  refine sk_callVi [.int v1] [] 5 dX7_as_2 rfl mfX7_isSlate lkX7_169 miX7_isSlate msX7_isSlate sm_0 rfl rfl rfl rfl (by simp [Value.category]) hd0 (sk_Cm h ?_)
  rintro w t2 ⟨r2, hw, h⟩
  refine ⟨r2, hw, ?_⟩
  refine sk_if_eq 18 8 dX7_as_5 (by decide) rfl (fun hc => ?_) (fun hc => ?_)
  · have h := h.1 hc
    refine sk_aload_n 0 19 dX7_as_18 rfl rfl rfl ?_
    refine sk_iconst (v := 1) 20 dX7_as_19 rfl (by decide) ?_
    refine sk_callVi [.int 1] [] 23 dX7_as_20 rfl mfX7_error lkX7_51 miX7_error msX7_error sm_0 rfl rfl rfl rfl (by simp [Value.category]) hd0 (sk_Cm h ?_)
    rintro w t20 ⟨r20, hw, h⟩
    refine ⟨r20, hw, ?_⟩
    exact sk_iret dX7_as_23 rfl rfl h
  · have h := h.2 hc
    refine sk_iload_n 2 9 dX7_as_8 rfl rfl rfl ?_
    refine sk_iconst (v := 0) 10 dX7_as_9 rfl (by decide) ?_
    refine sk_bipush (v := 6) 12 dX7_as_10 rfl (by decide) ?_
    refine sk_callSi [.int v2, .int 0, .int 6] [] 15 dX7_as_12 rfl mfX7_in lkX7_47 miX7_in rfl rfl (by simp [Value.category]) hd0 (sk_Cm h ?_)
    rintro w t12 ⟨r12, hw, h⟩
    refine ⟨r12, hw, ?_⟩
    refine sk_if_ne 24 18 dX7_as_15 (by decide) rfl (fun hc => ?_) (fun hc => ?_)
    · have h := h.1 hc
      refine sk_aload_n 0 25 dX7_as_24 rfl rfl rfl ?_
      refine sk_iload_n 1 26 dX7_as_25 rfl rfl rfl ?_
      refine sk_iconst (v := 0) 27 dX7_as_26 rfl (by decide) ?_
      refine sk_callVi [.int v1, .int 0] [] 30 dX7_as_27 rfl mfX7_its lkX7_111 miX7_its msX7_its sm_0 rfl rfl rfl rfl (by simp [Value.category]) hd0 (sk_Cm h ?_)
      rintro w t27 ⟨r27, hw, h⟩
      refine ⟨r27, hw, ?_⟩
      refine sk_istore_n (lv2 := [(3, .int r27), (0, .ref 0), (1, .int v1), (2, .int v2)]) 31 dX7_as_30 rfl rfl (by decide) rfl ?_
      refine sk_perm (lv2 := [(0, .ref 0), (1, .int v1), (2, .int v2), (3, .int r27)]) [1, 2, 3, 0] rfl ?_
      exact h
    · have h := h.2 hc
      refine sk_aload_n 0 19 dX7_as_18 rfl rfl rfl ?_
      refine sk_iconst (v := 1) 20 dX7_as_19 rfl (by decide) ?_
      refine sk_callVi [.int 1] [] 23 dX7_as_20 rfl mfX7_error lkX7_51 miX7_error msX7_error sm_0 rfl rfl rfl rfl (by simp [Value.category]) hd0 (sk_Cm h ?_)
      rintro w t20 ⟨r20, hw, h⟩
      refine ⟨r20, hw, ?_⟩
      exact sk_iret dX7_as_23 rfl rfl h

theorem bX7_as_31 {d : Nat} {τ : sk_T} {K : sk_K} {v1 : Int32} {v2 : Int32} {v3 : Int32} (hd0 : 0 < d)
  (h : ((v3 = v2 →
      ((¬ v3 = v2 →
        sk_C sk_Sm (d - 1) mX7_error [.ref 0, .int 5] τ (fun w t64 => ∃ r64 : Int32, w = some (.int r64) ∧
          K (some (.int r64)) t64
        )
      ) ∧
      (v3 = v2 →
        sk_C sk_Sm (d - 1) mX7_its [.ref 0, .int v1, .int 1] τ (fun w t56 => ∃ r56 : Int32, w = some (.int r56) ∧
          K (some (.int r56)) t56
        )
      ))
    ) ∧
    (¬ v3 = v2 →
      ((v3 = 0 →
        ((¬ v3 = v2 →
          sk_C sk_Sm (d - 1) mX7_error [.ref 0, .int 5] τ (fun w t64 => ∃ r64 : Int32, w = some (.int r64) ∧
            K (some (.int r64)) t64
          )
        ) ∧
        (v3 = v2 →
          sk_C sk_Sm (d - 1) mX7_its [.ref 0, .int v1, .int 1] τ (fun w t56 => ∃ r56 : Int32, w = some (.int r56) ∧
            K (some (.int r56)) t56
          )
        ))
      ) ∧
      (¬ v3 = 0 →
        sk_C sk_Sm (d - 1) mX7_above [.int v3] τ (fun w t41 => ∃ r41 : Int32, w = some (.int r41) ∧
          sk_G sk_Sm d mX7_as 31 [(0, .ref 0), (1, .int v1), (2, .int v2), (3, .int r41)] [] t41 K
        )
      ))
    ))) :
  sk_G sk_Sm d mX7_as 31 [(0, .ref 0), (1, .int v1), (2, .int v2), (3, .int v3)] [] τ K := by
  refine sk_iload_n 3 32 dX7_as_31 rfl rfl rfl ?_
  refine sk_iload_n 2 33 dX7_as_32 rfl rfl rfl ?_
  refine sk_icmp_eq 48 36 dX7_as_33 (by decide) rfl (fun hc => ?_) (fun hc => ?_)
  · have h := h.1 hc
    refine sk_iload_n 3 49 dX7_as_48 rfl rfl rfl ?_
    refine sk_iload_n 2 50 dX7_as_49 rfl rfl rfl ?_
    refine sk_icmp_ne 62 53 dX7_as_50 (by decide) rfl (fun hc => ?_) (fun hc => ?_)
    · have h := h.1 hc
      refine sk_aload_n 0 63 dX7_as_62 rfl rfl rfl ?_
      refine sk_iconst (v := 5) 64 dX7_as_63 rfl (by decide) ?_
      refine sk_callVi [.int 5] [] 67 dX7_as_64 rfl mfX7_error lkX7_51 miX7_error msX7_error sm_0 rfl rfl rfl rfl (by simp [Value.category]) hd0 (sk_Cm h ?_)
      rintro w t64 ⟨r64, hw, h⟩
      refine ⟨r64, hw, ?_⟩
      exact sk_iret dX7_as_67 rfl rfl h
    · have h := h.2 hc
      refine sk_aload_n 0 54 dX7_as_53 rfl rfl rfl ?_
      refine sk_iload_n 1 55 dX7_as_54 rfl rfl rfl ?_
      refine sk_iconst (v := 1) 56 dX7_as_55 rfl (by decide) ?_
      refine sk_callVi [.int v1, .int 1] [] 59 dX7_as_56 rfl mfX7_its lkX7_111 miX7_its msX7_its sm_0 rfl rfl rfl rfl (by simp [Value.category]) hd0 (sk_Cm h ?_)
      rintro w t56 ⟨r56, hw, h⟩
      refine ⟨r56, hw, ?_⟩
      refine sk_goto 67 dX7_as_59 (by decide) ?_
      exact sk_iret dX7_as_67 rfl rfl h
  · have h := h.2 hc
    refine sk_iload_n 3 37 dX7_as_36 rfl rfl rfl ?_
    refine sk_if_eq 48 40 dX7_as_37 (by decide) rfl (fun hc => ?_) (fun hc => ?_)
    · have h := h.1 hc
      refine sk_iload_n 3 49 dX7_as_48 rfl rfl rfl ?_
      refine sk_iload_n 2 50 dX7_as_49 rfl rfl rfl ?_
      refine sk_icmp_ne 62 53 dX7_as_50 (by decide) rfl (fun hc => ?_) (fun hc => ?_)
      · have h := h.1 hc
        refine sk_aload_n 0 63 dX7_as_62 rfl rfl rfl ?_
        refine sk_iconst (v := 5) 64 dX7_as_63 rfl (by decide) ?_
        refine sk_callVi [.int 5] [] 67 dX7_as_64 rfl mfX7_error lkX7_51 miX7_error msX7_error sm_0 rfl rfl rfl rfl (by simp [Value.category]) hd0 (sk_Cm h ?_)
        rintro w t64 ⟨r64, hw, h⟩
        refine ⟨r64, hw, ?_⟩
        exact sk_iret dX7_as_67 rfl rfl h
      · have h := h.2 hc
        refine sk_aload_n 0 54 dX7_as_53 rfl rfl rfl ?_
        refine sk_iload_n 1 55 dX7_as_54 rfl rfl rfl ?_
        refine sk_iconst (v := 1) 56 dX7_as_55 rfl (by decide) ?_
        refine sk_callVi [.int v1, .int 1] [] 59 dX7_as_56 rfl mfX7_its lkX7_111 miX7_its msX7_its sm_0 rfl rfl rfl rfl (by simp [Value.category]) hd0 (sk_Cm h ?_)
        rintro w t56 ⟨r56, hw, h⟩
        refine ⟨r56, hw, ?_⟩
        refine sk_goto 67 dX7_as_59 (by decide) ?_
        exact sk_iret dX7_as_67 rfl rfl h
    · have h := h.2 hc
      refine sk_iload_n 3 41 dX7_as_40 rfl rfl rfl ?_
      refine sk_callSi [.int v3] [] 44 dX7_as_41 rfl mfX7_above lkX7_175 miX7_above rfl rfl (by simp [Value.category]) hd0 (sk_Cm h ?_)
      rintro w t41 ⟨r41, hw, h⟩
      refine ⟨r41, hw, ?_⟩
      refine sk_istore_n (lv2 := [(3, .int r41), (0, .ref 0), (1, .int v1), (2, .int v2)]) 45 dX7_as_44 rfl rfl (by decide) rfl ?_
      refine sk_goto 31 dX7_as_45 (by decide) ?_
      refine sk_perm (lv2 := [(0, .ref 0), (1, .int v1), (2, .int v2), (3, .int r41)]) [1, 2, 3, 0] rfl ?_
      exact h

theorem wX7_lay {d : Nat} {τ : sk_T} {K : sk_K} {v1 : Int32} {v2 : Int32} {v3 : Int32} (hd0 : 0 < d)
  (h : sk_C sk_Sm (d - 1) mX7_isSlate [.ref 0, .int v1] τ (fun w t2 => ∃ r2 : Int32, w = some (.int r2) ∧
      ((r2 = 0 →
        sk_C sk_Sm (d - 1) mX7_error [.ref 0, .int 1] t2 (fun w t29 => ∃ r29 : Int32, w = some (.int r29) ∧
          K (some (.int r29)) t29
        )
      ) ∧
      (¬ r2 = 0 →
        sk_C sk_Sm (d - 1) mX7_in [.int v2, .int 0, .int 5] t2 (fun w t11 => ∃ r11 : Int32, w = some (.int r11) ∧
          ((r11 = 0 →
            sk_C sk_Sm (d - 1) mX7_error [.ref 0, .int 1] t11 (fun w t29 => ∃ r29 : Int32, w = some (.int r29) ∧
              K (some (.int r29)) t29
            )
          ) ∧
          (¬ r11 = 0 →
            sk_C sk_Sm (d - 1) mX7_in [.int v3, .int 0, .int 7] t11 (fun w t21 => ∃ r21 : Int32, w = some (.int r21) ∧
              ((¬ r21 = 0 →
                sk_C sk_Sm (d - 1) mX7_mayLie [.ref 0, .int v1, .int ((8 * v2) + v3)] t21 (fun w t45 => ∃ r45 : Int32, w = some (.int r45) ∧
                  ((¬ r45 = 0 →
                    sk_C sk_Sm (d - 1) mX7_lays1 [.ref 0, .int v1, .int 6, .int ((8 * v2) + v3)] t45 (fun w t63 => w = none ∧
                      sk_C sk_Sm (d - 1) mX7_drySet [.ref 0] t63 (fun w t67 => ∃ r67 : Int64, w = some (.long r67) ∧
                        sk_C sk_Sm (d - 1) mX7_bitsOf [.long r67] t67 (fun w t70 => ∃ r70 : Int32, w = some (.int r70) ∧
                          K (some (.int r70)) t70
                        )
                      )
                    )
                  ) ∧
                  (r45 = 0 →
                    sk_C sk_Sm (d - 1) mX7_error [.ref 0, .int 3] t45 (fun w t53 => ∃ r53 : Int32, w = some (.int r53) ∧
                      K (some (.int r53)) t53
                    )
                  ))
                )
              ) ∧
              (r21 = 0 →
                sk_C sk_Sm (d - 1) mX7_error [.ref 0, .int 1] t21 (fun w t29 => ∃ r29 : Int32, w = some (.int r29) ∧
                  K (some (.int r29)) t29
                )
              ))
            )
          ))
        )
      ))
    )) :
  sk_C sk_Sm d mX7_lay [.ref 0, .int v1, .int v2, .int v3] τ K := by
  refine sk_enter mfX7_lay (Nat.le_of_ble_eq_true rfl) ?_
  show sk_G sk_Sm d mX7_lay 0 [(0, .ref 0), (1, .int v1), (2, .int v2), (3, .int v3)] [] τ K
  refine sk_aload_n 0 1 dX7_lay_0 rfl rfl rfl ?_
  refine sk_iload_n 1 2 dX7_lay_1 rfl rfl rfl ?_
  refine sk_callVi [.int v1] [] 5 dX7_lay_2 rfl mfX7_isSlate lkX7_169 miX7_isSlate msX7_isSlate sm_0 rfl rfl rfl rfl (by simp [Value.category]) hd0 (sk_Cm h ?_)
  rintro w t2 ⟨r2, hw, h⟩
  refine ⟨r2, hw, ?_⟩
  refine sk_if_eq 27 8 dX7_lay_5 (by decide) rfl (fun hc => ?_) (fun hc => ?_)
  · have h := h.1 hc
    refine sk_aload_n 0 28 dX7_lay_27 rfl rfl rfl ?_
    refine sk_iconst (v := 1) 29 dX7_lay_28 rfl (by decide) ?_
    refine sk_callVi [.int 1] [] 32 dX7_lay_29 rfl mfX7_error lkX7_51 miX7_error msX7_error sm_0 rfl rfl rfl rfl (by simp [Value.category]) hd0 (sk_Cm h ?_)
    rintro w t29 ⟨r29, hw, h⟩
    refine ⟨r29, hw, ?_⟩
    exact sk_iret dX7_lay_32 rfl rfl h
  · have h := h.2 hc
    refine sk_iload_n 2 9 dX7_lay_8 rfl rfl rfl ?_
    refine sk_iconst (v := 0) 10 dX7_lay_9 rfl (by decide) ?_
    refine sk_iconst (v := 5) 11 dX7_lay_10 rfl (by decide) ?_
    refine sk_callSi [.int v2, .int 0, .int 5] [] 14 dX7_lay_11 rfl mfX7_in lkX7_47 miX7_in rfl rfl (by simp [Value.category]) hd0 (sk_Cm h ?_)
    rintro w t11 ⟨r11, hw, h⟩
    refine ⟨r11, hw, ?_⟩
    refine sk_if_eq 27 17 dX7_lay_14 (by decide) rfl (fun hc => ?_) (fun hc => ?_)
    · have h := h.1 hc
      refine sk_aload_n 0 28 dX7_lay_27 rfl rfl rfl ?_
      refine sk_iconst (v := 1) 29 dX7_lay_28 rfl (by decide) ?_
      refine sk_callVi [.int 1] [] 32 dX7_lay_29 rfl mfX7_error lkX7_51 miX7_error msX7_error sm_0 rfl rfl rfl rfl (by simp [Value.category]) hd0 (sk_Cm h ?_)
      rintro w t29 ⟨r29, hw, h⟩
      refine ⟨r29, hw, ?_⟩
      exact sk_iret dX7_lay_32 rfl rfl h
    · have h := h.2 hc
      refine sk_iload_n 3 18 dX7_lay_17 rfl rfl rfl ?_
      refine sk_iconst (v := 0) 19 dX7_lay_18 rfl (by decide) ?_
      refine sk_bipush (v := 7) 21 dX7_lay_19 rfl (by decide) ?_
      refine sk_callSi [.int v3, .int 0, .int 7] [] 24 dX7_lay_21 rfl mfX7_in lkX7_47 miX7_in rfl rfl (by simp [Value.category]) hd0 (sk_Cm h ?_)
      rintro w t21 ⟨r21, hw, h⟩
      refine ⟨r21, hw, ?_⟩
      refine sk_if_ne 33 27 dX7_lay_24 (by decide) rfl (fun hc => ?_) (fun hc => ?_)
      · have h := h.1 hc
        refine sk_bipush (v := 8) 35 dX7_lay_33 rfl (by decide) ?_
        refine sk_iload_n 2 36 dX7_lay_35 rfl rfl rfl ?_
        refine sk_imul 37 dX7_lay_36 rfl ?_
        refine sk_iload_n 3 38 dX7_lay_37 rfl rfl rfl ?_
        refine sk_iadd 39 dX7_lay_38 rfl ?_
        refine sk_istore (lv2 := [(4, .int ((8 * v2) + v3)), (0, .ref 0), (1, .int v1), (2, .int v2), (3, .int v3)]) 41 dX7_lay_39 rfl (by decide) rfl ?_
        refine sk_aload_n 1 42 dX7_lay_41 rfl rfl rfl ?_
        refine sk_iload_n 2 43 dX7_lay_42 rfl rfl rfl ?_
        refine sk_iload 0 45 dX7_lay_43 rfl rfl ?_
        refine sk_callVi [.int v1, .int ((8 * v2) + v3)] [] 48 dX7_lay_45 rfl mfX7_mayLie lkX7_178 miX7_mayLie msX7_mayLie sm_0 rfl rfl rfl rfl (by simp [Value.category]) hd0 (sk_Cm h ?_)
        rintro w t45 ⟨r45, hw, h⟩
        refine ⟨r45, hw, ?_⟩
        refine sk_if_ne 57 51 dX7_lay_48 (by decide) rfl (fun hc => ?_) (fun hc => ?_)
        · have h := h.1 hc
          refine sk_aload_n 1 58 dX7_lay_57 rfl rfl rfl ?_
          refine sk_iload_n 2 59 dX7_lay_58 rfl rfl rfl ?_
          refine sk_bipush (v := 6) 61 dX7_lay_59 rfl (by decide) ?_
          refine sk_iload 0 63 dX7_lay_61 rfl rfl ?_
          refine sk_callVv [.int v1, .int 6, .int ((8 * v2) + v3)] [] 66 dX7_lay_63 rfl mfX7_lays1 lkX7_153 miX7_lays1 msX7_lays1 sm_0 rfl rfl rfl rfl (by simp [Value.category]) hd0 (sk_Cm h ?_)
          rintro w t63 ⟨hw, h⟩
          refine ⟨hw, ?_⟩
          refine sk_aload_n 1 67 dX7_lay_66 rfl rfl rfl ?_
          refine sk_callVl [] [] 70 dX7_lay_67 rfl mfX7_drySet lkX7_157 miX7_drySet msX7_drySet sm_0 rfl rfl rfl rfl (by simp [Value.category]) hd0 (sk_Cm h ?_)
          rintro w t67 ⟨r67, hw, h⟩
          refine ⟨r67, hw, ?_⟩
          refine sk_callSi [.long r67] [] 73 dX7_lay_70 rfl mfX7_bitsOf lkX7_182 miX7_bitsOf rfl rfl (by simp [Value.category]) hd0 (sk_Cm h ?_)
          rintro w t70 ⟨r70, hw, h⟩
          refine ⟨r70, hw, ?_⟩
          exact sk_iret dX7_lay_73 rfl rfl h
        · have h := h.2 hc
          refine sk_aload_n 1 52 dX7_lay_51 rfl rfl rfl ?_
          refine sk_iconst (v := 3) 53 dX7_lay_52 rfl (by decide) ?_
          refine sk_callVi [.int 3] [] 56 dX7_lay_53 rfl mfX7_error lkX7_51 miX7_error msX7_error sm_0 rfl rfl rfl rfl (by simp [Value.category]) hd0 (sk_Cm h ?_)
          rintro w t53 ⟨r53, hw, h⟩
          refine ⟨r53, hw, ?_⟩
          exact sk_iret dX7_lay_56 rfl rfl h
      · have h := h.2 hc
        refine sk_aload_n 0 28 dX7_lay_27 rfl rfl rfl ?_
        refine sk_iconst (v := 1) 29 dX7_lay_28 rfl (by decide) ?_
        refine sk_callVi [.int 1] [] 32 dX7_lay_29 rfl mfX7_error lkX7_51 miX7_error msX7_error sm_0 rfl rfl rfl rfl (by simp [Value.category]) hd0 (sk_Cm h ?_)
        rintro w t29 ⟨r29, hw, h⟩
        refine ⟨r29, hw, ?_⟩
        exact sk_iret dX7_lay_32 rfl rfl h

theorem wX7_lift {d : Nat} {τ : sk_T} {K : sk_K} {v1 : Int32} (hd0 : 0 < d)
  (h : sk_C sk_Sm (d - 1) mX7_isSlate [.ref 0, .int v1] τ (fun w t2 => ∃ r2 : Int32, w = some (.int r2) ∧
      ((¬ r2 = 0 →
        sk_C sk_Sm (d - 1) mX7_its [.ref 0, .int v1, .int 6] t2 (fun w t18 => ∃ r18 : Int32, w = some (.int r18) ∧
          ((¬ r18 = (-1) →
            sk_C sk_Sm (d - 1) mX7_lays1 [.ref 0, .int v1, .int 6, .int (-1)] t18 (fun w t36 => w = none ∧
              sk_C sk_Sm (d - 1) mX7_drySet [.ref 0] t36 (fun w t40 => ∃ r40 : Int64, w = some (.long r40) ∧
                sk_C sk_Sm (d - 1) mX7_bitsOf [.long r40] t40 (fun w t43 => ∃ r43 : Int32, w = some (.int r43) ∧
                  K (some (.int r43)) t43
                )
              )
            )
          ) ∧
          (r18 = (-1) →
            sk_C sk_Sm (d - 1) mX7_error [.ref 0, .int 3] t18 (fun w t27 => ∃ r27 : Int32, w = some (.int r27) ∧
              K (some (.int r27)) t27
            )
          ))
        )
      ) ∧
      (r2 = 0 →
        sk_C sk_Sm (d - 1) mX7_error [.ref 0, .int 1] t2 (fun w t10 => ∃ r10 : Int32, w = some (.int r10) ∧
          K (some (.int r10)) t10
        )
      ))
    )) :
  sk_C sk_Sm d mX7_lift [.ref 0, .int v1] τ K := by
  refine sk_enter mfX7_lift (Nat.le_of_ble_eq_true rfl) ?_
  show sk_G sk_Sm d mX7_lift 0 [(0, .ref 0), (1, .int v1)] [] τ K
  refine sk_aload_n 0 1 dX7_lift_0 rfl rfl rfl ?_
  refine sk_iload_n 1 2 dX7_lift_1 rfl rfl rfl ?_
  refine sk_callVi [.int v1] [] 5 dX7_lift_2 rfl mfX7_isSlate lkX7_169 miX7_isSlate msX7_isSlate sm_0 rfl rfl rfl rfl (by simp [Value.category]) hd0 (sk_Cm h ?_)
  rintro w t2 ⟨r2, hw, h⟩
  refine ⟨r2, hw, ?_⟩
  refine sk_if_ne 14 8 dX7_lift_5 (by decide) rfl (fun hc => ?_) (fun hc => ?_)
  · have h := h.1 hc
    refine sk_aload_n 0 15 dX7_lift_14 rfl rfl rfl ?_
    refine sk_iload_n 1 16 dX7_lift_15 rfl rfl rfl ?_
    refine sk_bipush (v := 6) 18 dX7_lift_16 rfl (by decide) ?_
    refine sk_callVi [.int v1, .int 6] [] 21 dX7_lift_18 rfl mfX7_its lkX7_111 miX7_its msX7_its sm_0 rfl rfl rfl rfl (by simp [Value.category]) hd0 (sk_Cm h ?_)
    rintro w t18 ⟨r18, hw, h⟩
    refine ⟨r18, hw, ?_⟩
    refine sk_iconst (v := (-1)) 22 dX7_lift_21 rfl (by decide) ?_
    refine sk_icmp_ne 31 25 dX7_lift_22 (by decide) rfl (fun hc => ?_) (fun hc => ?_)
    · have h := h.1 hc
      refine sk_aload_n 0 32 dX7_lift_31 rfl rfl rfl ?_
      refine sk_iload_n 1 33 dX7_lift_32 rfl rfl rfl ?_
      refine sk_bipush (v := 6) 35 dX7_lift_33 rfl (by decide) ?_
      refine sk_iconst (v := (-1)) 36 dX7_lift_35 rfl (by decide) ?_
      refine sk_callVv [.int v1, .int 6, .int (-1)] [] 39 dX7_lift_36 rfl mfX7_lays1 lkX7_153 miX7_lays1 msX7_lays1 sm_0 rfl rfl rfl rfl (by simp [Value.category]) hd0 (sk_Cm h ?_)
      rintro w t36 ⟨hw, h⟩
      refine ⟨hw, ?_⟩
      refine sk_aload_n 0 40 dX7_lift_39 rfl rfl rfl ?_
      refine sk_callVl [] [] 43 dX7_lift_40 rfl mfX7_drySet lkX7_157 miX7_drySet msX7_drySet sm_0 rfl rfl rfl rfl (by simp [Value.category]) hd0 (sk_Cm h ?_)
      rintro w t40 ⟨r40, hw, h⟩
      refine ⟨r40, hw, ?_⟩
      refine sk_callSi [.long r40] [] 46 dX7_lift_43 rfl mfX7_bitsOf lkX7_182 miX7_bitsOf rfl rfl (by simp [Value.category]) hd0 (sk_Cm h ?_)
      rintro w t43 ⟨r43, hw, h⟩
      refine ⟨r43, hw, ?_⟩
      exact sk_iret dX7_lift_46 rfl rfl h
    · have h := h.2 hc
      refine sk_aload_n 0 26 dX7_lift_25 rfl rfl rfl ?_
      refine sk_iconst (v := 3) 27 dX7_lift_26 rfl (by decide) ?_
      refine sk_callVi [.int 3] [] 30 dX7_lift_27 rfl mfX7_error lkX7_51 miX7_error msX7_error sm_0 rfl rfl rfl rfl (by simp [Value.category]) hd0 (sk_Cm h ?_)
      rintro w t27 ⟨r27, hw, h⟩
      refine ⟨r27, hw, ?_⟩
      exact sk_iret dX7_lift_30 rfl rfl h
  · have h := h.2 hc
    refine sk_aload_n 0 9 dX7_lift_8 rfl rfl rfl ?_
    refine sk_iconst (v := 1) 10 dX7_lift_9 rfl (by decide) ?_
    refine sk_callVi [.int 1] [] 13 dX7_lift_10 rfl mfX7_error lkX7_51 miX7_error msX7_error sm_0 rfl rfl rfl rfl (by simp [Value.category]) hd0 (sk_Cm h ?_)
    rintro w t10 ⟨r10, hw, h⟩
    refine ⟨r10, hw, ?_⟩
    exact sk_iret dX7_lift_13 rfl rfl h

theorem wX7_nail {d : Nat} {τ : sk_T} {K : sk_K} {v1 : Int32} {v2 : Int32} (hd0 : 0 < d)
  (h : sk_C sk_Sm (d - 1) mX7_isSlate [.ref 0, .int v1] τ (fun w t2 => ∃ r2 : Int32, w = some (.int r2) ∧
      ((r2 = 0 →
        sk_C sk_Sm (d - 1) mX7_error [.ref 0, .int 1] t2 (fun w t37 => ∃ r37 : Int32, w = some (.int r37) ∧
          K (some (.int r37)) t37
        )
      ) ∧
      (¬ r2 = 0 →
        sk_C sk_Sm (d - 1) mX7_in [.int v2, .int 0, .int 9] t2 (fun w t12 => ∃ r12 : Int32, w = some (.int r12) ∧
          ((r12 = 0 →
            sk_C sk_Sm (d - 1) mX7_error [.ref 0, .int 1] t12 (fun w t37 => ∃ r37 : Int32, w = some (.int r37) ∧
              K (some (.int r37)) t37
            )
          ) ∧
          (¬ r12 = 0 →
            sk_C sk_Sm (d - 1) mX7_change1 [.ref 0, .int ((8 + (7 * v1)) + 3), .int v2] t12 (fun w t29 => ∃ r29 : Int32, w = some (.int r29) ∧
              K (some (.int r29)) t29
            )
          ))
        )
      ))
    )) :
  sk_C sk_Sm d mX7_nail [.ref 0, .int v1, .int v2] τ K := by
  refine sk_enter mfX7_nail (Nat.le_of_ble_eq_true rfl) ?_
  show sk_G sk_Sm d mX7_nail 0 [(0, .ref 0), (1, .int v1), (2, .int v2)] [] τ K
  refine sk_aload_n 0 1 dX7_nail_0 rfl rfl rfl ?_
  refine sk_iload_n 1 2 dX7_nail_1 rfl rfl rfl ?_
  refine sk_callVi [.int v1] [] 5 dX7_nail_2 rfl mfX7_isSlate lkX7_169 miX7_isSlate msX7_isSlate sm_0 rfl rfl rfl rfl (by simp [Value.category]) hd0 (sk_Cm h ?_)
  rintro w t2 ⟨r2, hw, h⟩
  refine ⟨r2, hw, ?_⟩
  refine sk_if_eq 35 8 dX7_nail_5 (by decide) rfl (fun hc => ?_) (fun hc => ?_)
  · have h := h.1 hc
    refine sk_aload_n 0 36 dX7_nail_35 rfl rfl rfl ?_
    refine sk_iconst (v := 1) 37 dX7_nail_36 rfl (by decide) ?_
    refine sk_callVi [.int 1] [] 40 dX7_nail_37 rfl mfX7_error lkX7_51 miX7_error msX7_error sm_0 rfl rfl rfl rfl (by simp [Value.category]) hd0 (sk_Cm h ?_)
    rintro w t37 ⟨r37, hw, h⟩
    refine ⟨r37, hw, ?_⟩
    exact sk_iret dX7_nail_40 rfl rfl h
  · have h := h.2 hc
    refine sk_iload_n 2 9 dX7_nail_8 rfl rfl rfl ?_
    refine sk_iconst (v := 0) 10 dX7_nail_9 rfl (by decide) ?_
    refine sk_bipush (v := 9) 12 dX7_nail_10 rfl (by decide) ?_
    refine sk_callSi [.int v2, .int 0, .int 9] [] 15 dX7_nail_12 rfl mfX7_in lkX7_47 miX7_in rfl rfl (by simp [Value.category]) hd0 (sk_Cm h ?_)
    rintro w t12 ⟨r12, hw, h⟩
    refine ⟨r12, hw, ?_⟩
    refine sk_if_eq 35 18 dX7_nail_15 (by decide) rfl (fun hc => ?_) (fun hc => ?_)
    · have h := h.1 hc
      refine sk_aload_n 0 36 dX7_nail_35 rfl rfl rfl ?_
      refine sk_iconst (v := 1) 37 dX7_nail_36 rfl (by decide) ?_
      refine sk_callVi [.int 1] [] 40 dX7_nail_37 rfl mfX7_error lkX7_51 miX7_error msX7_error sm_0 rfl rfl rfl rfl (by simp [Value.category]) hd0 (sk_Cm h ?_)
      rintro w t37 ⟨r37, hw, h⟩
      refine ⟨r37, hw, ?_⟩
      exact sk_iret dX7_nail_40 rfl rfl h
    · have h := h.2 hc
      refine sk_aload_n 0 19 dX7_nail_18 rfl rfl rfl ?_
      refine sk_bipush (v := 8) 21 dX7_nail_19 rfl (by decide) ?_
      refine sk_bipush (v := 7) 23 dX7_nail_21 rfl (by decide) ?_
      refine sk_iload_n 1 24 dX7_nail_23 rfl rfl rfl ?_
      refine sk_imul 25 dX7_nail_24 rfl ?_
      refine sk_iadd 26 dX7_nail_25 rfl ?_
      refine sk_iconst (v := 3) 27 dX7_nail_26 rfl (by decide) ?_
      refine sk_iadd 28 dX7_nail_27 rfl ?_
      refine sk_iload_n 2 29 dX7_nail_28 rfl rfl rfl ?_
      refine sk_callVi [.int ((8 + (7 * v1)) + 3), .int v2] [] 32 dX7_nail_29 rfl mfX7_change1 lkX7_172 miX7_change1 msX7_change1 sm_0 rfl rfl rfl rfl (by simp [Value.category]) hd0 (sk_Cm h ?_)
      rintro w t29 ⟨r29, hw, h⟩
      refine ⟨r29, hw, ?_⟩
      refine sk_goto 40 dX7_nail_32 (by decide) ?_
      exact sk_iret dX7_nail_40 rfl rfl h

theorem wX7_sells {d : Nat} {τ : sk_T} {K : sk_K} {v1 : Int32} (hd0 : 0 < d)
  (h : sk_C sk_Sm (d - 1) mX7_in [.int v1, .int 0, .int 1] τ (fun w t3 => ∃ r3 : Int32, w = some (.int r3) ∧
      ((r3 = 0 →
        sk_C sk_Sm (d - 1) mX7_error [.ref 0, .int 1] t3 (fun w t20 => ∃ r20 : Int32, w = some (.int r20) ∧
          K (some (.int r20)) t20
        )
      ) ∧
      (¬ r3 = 0 →
        sk_C sk_Sm (d - 1) mX7_change1 [.ref 0, .int 1, .int v1] t3 (fun w t12 => ∃ r12 : Int32, w = some (.int r12) ∧
          K (some (.int r12)) t12
        )
      ))
    )) :
  sk_C sk_Sm d mX7_sells [.ref 0, .int v1] τ K := by
  refine sk_enter mfX7_sells (Nat.le_of_ble_eq_true rfl) ?_
  show sk_G sk_Sm d mX7_sells 0 [(0, .ref 0), (1, .int v1)] [] τ K
  refine sk_iload_n 1 1 dX7_sells_0 rfl rfl rfl ?_
  refine sk_iconst (v := 0) 2 dX7_sells_1 rfl (by decide) ?_
  refine sk_iconst (v := 1) 3 dX7_sells_2 rfl (by decide) ?_
  refine sk_callSi [.int v1, .int 0, .int 1] [] 6 dX7_sells_3 rfl mfX7_in lkX7_47 miX7_in rfl rfl (by simp [Value.category]) hd0 (sk_Cm h ?_)
  rintro w t3 ⟨r3, hw, h⟩
  refine ⟨r3, hw, ?_⟩
  refine sk_if_eq 18 9 dX7_sells_6 (by decide) rfl (fun hc => ?_) (fun hc => ?_)
  · have h := h.1 hc
    refine sk_aload_n 0 19 dX7_sells_18 rfl rfl rfl ?_
    refine sk_iconst (v := 1) 20 dX7_sells_19 rfl (by decide) ?_
    refine sk_callVi [.int 1] [] 23 dX7_sells_20 rfl mfX7_error lkX7_51 miX7_error msX7_error sm_0 rfl rfl rfl rfl (by simp [Value.category]) hd0 (sk_Cm h ?_)
    rintro w t20 ⟨r20, hw, h⟩
    refine ⟨r20, hw, ?_⟩
    exact sk_iret dX7_sells_23 rfl rfl h
  · have h := h.2 hc
    refine sk_aload_n 0 10 dX7_sells_9 rfl rfl rfl ?_
    refine sk_iconst (v := 1) 11 dX7_sells_10 rfl (by decide) ?_
    refine sk_iload_n 1 12 dX7_sells_11 rfl rfl rfl ?_
    refine sk_callVi [.int 1, .int v1] [] 15 dX7_sells_12 rfl mfX7_change1 lkX7_172 miX7_change1 msX7_change1 sm_0 rfl rfl rfl rfl (by simp [Value.category]) hd0 (sk_Cm h ?_)
    rintro w t12 ⟨r12, hw, h⟩
    refine ⟨r12, hw, ?_⟩
    refine sk_goto 23 dX7_sells_15 (by decide) ?_
    exact sk_iret dX7_sells_23 rfl rfl h

theorem wX7_law {d : Nat} {τ : sk_T} {K : sk_K} {v1 : Int32} {v2 : Int32} {v3 : Int32} {v4 : Int32} (hd0 : 0 < d)
  (h : sk_C sk_Sm (d - 1) mX7_in [.int v1, .int 0, .int 1] τ (fun w t3 => ∃ r3 : Int32, w = some (.int r3) ∧
      ((¬ r3 = 0 →
        ((¬ v1 = 0 →
          sk_C sk_Sm (d - 1) mX7_dropTold [.ref 0, .int v2, .int v3, .int v4] t3 (fun w t35 => ∃ r35 : Int32, w = some (.int r35) ∧
            K (some (.int r35)) t35
          )
        ) ∧
        (v1 = 0 →
          sk_C sk_Sm (d - 1) mX7_holdTold [.ref 0, .int v2, .int v3, .int v4] t3 (fun w t24 => ∃ r24 : Int32, w = some (.int r24) ∧
            K (some (.int r24)) t24
          )
        ))
      ) ∧
      (r3 = 0 →
        sk_C sk_Sm (d - 1) mX7_error [.ref 0, .int 1] t3 (fun w t11 => ∃ r11 : Int32, w = some (.int r11) ∧
          K (some (.int r11)) t11
        )
      ))
    )) :
  sk_C sk_Sm d mX7_law [.ref 0, .int v1, .int v2, .int v3, .int v4] τ K := by
  refine sk_enter mfX7_law (Nat.le_of_ble_eq_true rfl) ?_
  show sk_G sk_Sm d mX7_law 0 [(0, .ref 0), (1, .int v1), (2, .int v2), (3, .int v3), (4, .int v4)] [] τ K
  refine sk_iload_n 1 1 dX7_law_0 rfl rfl rfl ?_
  refine sk_iconst (v := 0) 2 dX7_law_1 rfl (by decide) ?_
  refine sk_iconst (v := 1) 3 dX7_law_2 rfl (by decide) ?_
  refine sk_callSi [.int v1, .int 0, .int 1] [] 6 dX7_law_3 rfl mfX7_in lkX7_47 miX7_in rfl rfl (by simp [Value.category]) hd0 (sk_Cm h ?_)
  rintro w t3 ⟨r3, hw, h⟩
  refine ⟨r3, hw, ?_⟩
  refine sk_if_ne 15 9 dX7_law_6 (by decide) rfl (fun hc => ?_) (fun hc => ?_)
  · have h := h.1 hc
    refine sk_iload_n 1 16 dX7_law_15 rfl rfl rfl ?_
    refine sk_if_ne 30 19 dX7_law_16 (by decide) rfl (fun hc => ?_) (fun hc => ?_)
    · have h := h.1 hc
      refine sk_aload_n 0 31 dX7_law_30 rfl rfl rfl ?_
      refine sk_iload_n 2 32 dX7_law_31 rfl rfl rfl ?_
      refine sk_iload_n 3 33 dX7_law_32 rfl rfl rfl ?_
      refine sk_iload 4 35 dX7_law_33 rfl rfl ?_
      refine sk_callVi [.int v2, .int v3, .int v4] [] 38 dX7_law_35 rfl mfX7_dropTold lkX7_161 miX7_dropTold msX7_dropTold sm_0 rfl rfl rfl rfl (by simp [Value.category]) hd0 (sk_Cm h ?_)
      rintro w t35 ⟨r35, hw, h⟩
      refine ⟨r35, hw, ?_⟩
      exact sk_iret dX7_law_38 rfl rfl h
    · have h := h.2 hc
      refine sk_aload_n 0 20 dX7_law_19 rfl rfl rfl ?_
      refine sk_iload_n 2 21 dX7_law_20 rfl rfl rfl ?_
      refine sk_iload_n 3 22 dX7_law_21 rfl rfl rfl ?_
      refine sk_iload 4 24 dX7_law_22 rfl rfl ?_
      refine sk_callVi [.int v2, .int v3, .int v4] [] 27 dX7_law_24 rfl mfX7_holdTold lkX7_124 miX7_holdTold msX7_holdTold sm_0 rfl rfl rfl rfl (by simp [Value.category]) hd0 (sk_Cm h ?_)
      rintro w t24 ⟨r24, hw, h⟩
      refine ⟨r24, hw, ?_⟩
      refine sk_goto 38 dX7_law_27 (by decide) ?_
      exact sk_iret dX7_law_38 rfl rfl h
  · have h := h.2 hc
    refine sk_aload_n 0 10 dX7_law_9 rfl rfl rfl ?_
    refine sk_iconst (v := 1) 11 dX7_law_10 rfl (by decide) ?_
    refine sk_callVi [.int 1] [] 14 dX7_law_11 rfl mfX7_error lkX7_51 miX7_error msX7_error sm_0 rfl rfl rfl rfl (by simp [Value.category]) hd0 (sk_Cm h ?_)
    rintro w t11 ⟨r11, hw, h⟩
    refine ⟨r11, hw, ?_⟩
    exact sk_iret dX7_law_14 rfl rfl h

theorem wX7_isGale {d : Nat} {τ : sk_T} {K : sk_K} {v0 : Int32} (hd0 : 0 < d)
  (h : sk_C sk_Sm (d - 1) mX7_in [.int v0, .int 0, .int 40] τ (fun w t4 => ∃ r4 : Int32, w = some (.int r4) ∧
      r4 &&& 1 = r4 ∧
      K (some (.int r4)) t4
    )) :
  sk_C sk_Sm d mX7_isGale [.int v0] τ K := by
  refine sk_enter mfX7_isGale (Nat.le_of_ble_eq_true rfl) ?_
  show sk_G sk_Sm d mX7_isGale 0 [(0, .int v0)] [] τ K
  refine sk_iload_n 0 1 dX7_isGale_0 rfl rfl rfl ?_
  refine sk_iconst (v := 0) 2 dX7_isGale_1 rfl (by decide) ?_
  refine sk_bipush (v := 40) 4 dX7_isGale_2 rfl (by decide) ?_
  refine sk_callSi [.int v0, .int 0, .int 40] [] 7 dX7_isGale_4 rfl mfX7_in lkX7_47 miX7_in rfl rfl (by simp [Value.category]) hd0 (sk_Cm h ?_)
  rintro w t4 ⟨r4, hw, h⟩
  refine ⟨r4, hw, ?_⟩
  exact sk_iret dX7_isGale_7 rfl (congrArg Value.int h.1) h.2

theorem wX7_gale {d : Nat} {τ : sk_T} {K : sk_K} {v1 : Int32} (hd0 : 0 < d)
  (h : sk_C sk_Sm (d - 1) mX7_isGale [.int v1] τ (fun w t1 => ∃ r1 : Int32, w = some (.int r1) ∧
      ((r1 = 0 →
        sk_C sk_Sm (d - 1) mX7_error [.ref 0, .int 1] t1 (fun w t17 => ∃ r17 : Int32, w = some (.int r17) ∧
          K (some (.int r17)) t17
        )
      ) ∧
      (¬ r1 = 0 →
        sk_C sk_Sm (d - 1) mX7_galeNow [.ref 0, .int v1] t1 (fun w t9 => ∃ r9 : Int32, w = some (.int r9) ∧
          K (some (.int r9)) t9
        )
      ))
    )) :
  sk_C sk_Sm d mX7_gale [.ref 0, .int v1] τ K := by
  refine sk_enter mfX7_gale (Nat.le_of_ble_eq_true rfl) ?_
  show sk_G sk_Sm d mX7_gale 0 [(0, .ref 0), (1, .int v1)] [] τ K
  refine sk_iload_n 1 1 dX7_gale_0 rfl rfl rfl ?_
  refine sk_callSi [.int v1] [] 4 dX7_gale_1 rfl mfX7_isGale lkX7_186 miX7_isGale rfl rfl (by simp [Value.category]) hd0 (sk_Cm h ?_)
  rintro w t1 ⟨r1, hw, h⟩
  refine ⟨r1, hw, ?_⟩
  refine sk_if_eq 15 7 dX7_gale_4 (by decide) rfl (fun hc => ?_) (fun hc => ?_)
  · have h := h.1 hc
    refine sk_aload_n 0 16 dX7_gale_15 rfl rfl rfl ?_
    refine sk_iconst (v := 1) 17 dX7_gale_16 rfl (by decide) ?_
    refine sk_callVi [.int 1] [] 20 dX7_gale_17 rfl mfX7_error lkX7_51 miX7_error msX7_error sm_0 rfl rfl rfl rfl (by simp [Value.category]) hd0 (sk_Cm h ?_)
    rintro w t17 ⟨r17, hw, h⟩
    refine ⟨r17, hw, ?_⟩
    exact sk_iret dX7_gale_20 rfl rfl h
  · have h := h.2 hc
    refine sk_aload_n 0 8 dX7_gale_7 rfl rfl rfl ?_
    refine sk_iload_n 1 9 dX7_gale_8 rfl rfl rfl ?_
    refine sk_callVi [.int v1] [] 12 dX7_gale_9 rfl mfX7_galeNow lkX7_189 miX7_galeNow msX7_galeNow sm_0 rfl rfl rfl rfl (by simp [Value.category]) hd0 (sk_Cm h ?_)
    rintro w t9 ⟨r9, hw, h⟩
    refine ⟨r9, hw, ?_⟩
    refine sk_goto 20 dX7_gale_12 (by decide) ?_
    exact sk_iret dX7_gale_20 rfl rfl h

theorem wX7_whyNot {d : Nat} {τ : sk_T} {K : sk_K} {v1 : Int32} {v2 : Int32} (hd0 : 0 < d)
  (h : sk_C sk_Sm (d - 1) mX7_in [.int v1, .int 1, .int v2] τ (fun w t3 => ∃ r3 : Int32, w = some (.int r3) ∧
      ((¬ r3 = 0 →
        ((((t3 1 0) + v1) ≤ 9999 →
          K (some (.int 0)) t3
        ) ∧
        (¬ ((t3 1 0) + v1) ≤ 9999 →
          K (some (.int 3)) t3
        ))
      ) ∧
      (r3 = 0 →
        K (some (.int 1)) t3
      ))
    )) :
  sk_C sk_Sm d mX7_whyNot [.ref 0, .int v1, .int v2] τ K := by
  refine sk_enter mfX7_whyNot (Nat.le_of_ble_eq_true rfl) ?_
  show sk_G sk_Sm d mX7_whyNot 0 [(0, .ref 0), (1, .int v1), (2, .int v2)] [] τ K
  refine sk_iload_n 1 1 dX7_whyNot_0 rfl rfl rfl ?_
  refine sk_iconst (v := 1) 2 dX7_whyNot_1 rfl (by decide) ?_
  refine sk_iload_n 2 3 dX7_whyNot_2 rfl rfl rfl ?_
  refine sk_callSi [.int v1, .int 1, .int v2] [] 6 dX7_whyNot_3 rfl mfX7_in lkX7_47 miX7_in rfl rfl (by simp [Value.category]) hd0 (sk_Cm h ?_)
  rintro w t3 ⟨r3, hw, h⟩
  refine ⟨r3, hw, ?_⟩
  refine sk_if_ne 13 9 dX7_whyNot_6 (by decide) rfl (fun hc => ?_) (fun hc => ?_)
  · have h := h.1 hc
    refine sk_aload_n 0 14 dX7_whyNot_13 rfl rfl rfl ?_
    refine sk_getR (r := 1) 17 dX7_whyNot_14 rfl lfX7_7 sm_0 rfl ?_
    refine sk_iconst (v := 0) 18 dX7_whyNot_17 rfl (by decide) ?_
    refine sk_iald 19 dX7_whyNot_18 rfl sm_1 (by unfold vp_in; decide) 0 rfl ?_
    refine sk_iload_n 1 20 dX7_whyNot_19 rfl rfl rfl ?_
    refine sk_iadd 21 dX7_whyNot_20 rfl ?_
    refine sk_sipush (v := 9999) 24 dX7_whyNot_21 rfl (by decide) ?_
    refine sk_icmp_le 31 27 dX7_whyNot_24 (by decide) rfl (fun hc => ?_) (fun hc => ?_)
    · have h := h.1 hc
      refine sk_iconst (v := 0) 32 dX7_whyNot_31 rfl (by decide) ?_
      exact sk_iret dX7_whyNot_32 rfl rfl h
    · have h := h.2 hc
      refine sk_iconst (v := 3) 28 dX7_whyNot_27 rfl (by decide) ?_
      refine sk_goto 32 dX7_whyNot_28 (by decide) ?_
      exact sk_iret dX7_whyNot_32 rfl rfl h
  · have h := h.2 hc
    refine sk_iconst (v := 1) 10 dX7_whyNot_9 rfl (by decide) ?_
    refine sk_goto 32 dX7_whyNot_10 (by decide) ?_
    exact sk_iret dX7_whyNot_32 rfl rfl h

theorem wX7_years {d : Nat} {τ : sk_T} {K : sk_K} {v1 : Int32} (hd0 : 0 < d)
  (h : sk_C sk_Sm (d - 1) mX7_whyNot [.ref 0, .int v1, .int 60] τ (fun w t4 => ∃ r4 : Int32, w = some (.int r4) ∧
      ((r4 = 0 →
        sk_G sk_Sm d mX7_years 20 [(0, .ref 0), (1, .int v1), (3, .int 0)] [] t4 K
      ) ∧
      (¬ r4 = 0 →
        sk_C sk_Sm (d - 1) mX7_error [.ref 0, .int r4] t4 (fun w t14 => ∃ r14 : Int32, w = some (.int r14) ∧
          K (some (.int r14)) t14
        )
      ))
    )) :
  sk_C sk_Sm d mX7_years [.ref 0, .int v1] τ K := by
  refine sk_enter mfX7_years (Nat.le_of_ble_eq_true rfl) ?_
  show sk_G sk_Sm d mX7_years 0 [(0, .ref 0), (1, .int v1)] [] τ K
  refine sk_aload_n 0 1 dX7_years_0 rfl rfl rfl ?_
  refine sk_iload_n 1 2 dX7_years_1 rfl rfl rfl ?_
  refine sk_bipush (v := 60) 4 dX7_years_2 rfl (by decide) ?_
  refine sk_callVi [.int v1, .int 60] [] 7 dX7_years_4 rfl mfX7_whyNot lkX7_192 miX7_whyNot msX7_whyNot sm_0 rfl rfl rfl rfl (by simp [Value.category]) hd0 (sk_Cm h ?_)
  rintro w t4 ⟨r4, hw, h⟩
  refine ⟨r4, hw, ?_⟩
  refine sk_istore_n (lv2 := [(2, .int r4), (0, .ref 0), (1, .int v1)]) 8 dX7_years_7 rfl rfl (by decide) rfl ?_
  refine sk_iload_n 0 9 dX7_years_8 rfl rfl rfl ?_
  refine sk_if_eq 18 12 dX7_years_9 (by decide) rfl (fun hc => ?_) (fun hc => ?_)
  · have h := h.1 hc
    refine sk_iconst (v := 0) 19 dX7_years_18 rfl (by decide) ?_
    refine sk_istore_n (lv2 := [(3, .int 0), (2, .int r4), (0, .ref 0), (1, .int v1)]) 20 dX7_years_19 rfl rfl (by decide) rfl ?_
    refine sk_perm (lv2 := [(0, .ref 0), (1, .int v1), (3, .int 0)]) [2, 3, 0] rfl ?_
    exact h
  · have h := h.2 hc
    refine sk_aload_n 1 13 dX7_years_12 rfl rfl rfl ?_
    refine sk_iload_n 0 14 dX7_years_13 rfl rfl rfl ?_
    refine sk_callVi [.int r4] [] 17 dX7_years_14 rfl mfX7_error lkX7_51 miX7_error msX7_error sm_0 rfl rfl rfl rfl (by simp [Value.category]) hd0 (sk_Cm h ?_)
    rintro w t14 ⟨r14, hw, h⟩
    refine ⟨r14, hw, ?_⟩
    exact sk_iret dX7_years_17 rfl rfl h

theorem bX7_years_20 {d : Nat} {τ : sk_T} {K : sk_K} {v1 : Int32} {v3 : Int32} (hd0 : 0 < d)
  (h : ((v1 ≤ v3 →
      K (some (.int (τ 1 2))) τ
    ) ∧
    (¬ v1 ≤ v3 →
      sk_C sk_Sm (d - 1) mX7_aYear [.ref 0] τ (fun w t26 => w = none ∧
        sk_G sk_Sm d mX7_years 20 [(0, .ref 0), (1, .int v1), (3, .int (v3 + 1))] [] t26 K
      )
    ))) :
  sk_G sk_Sm d mX7_years 20 [(0, .ref 0), (1, .int v1), (3, .int v3)] [] τ K := by
  refine sk_iload_n 2 21 dX7_years_20 rfl rfl rfl ?_
  refine sk_iload_n 1 22 dX7_years_21 rfl rfl rfl ?_
  refine sk_icmp_ge 35 25 dX7_years_22 (by decide) rfl (fun hc => ?_) (fun hc => ?_)
  · have h := h.1 hc
    refine sk_aload_n 0 36 dX7_years_35 rfl rfl rfl ?_
    refine sk_getR (r := 1) 39 dX7_years_36 rfl lfX7_7 sm_0 rfl ?_
    refine sk_iconst (v := 2) 40 dX7_years_39 rfl (by decide) ?_
    refine sk_iald 41 dX7_years_40 rfl sm_1 (by unfold vp_in; decide) 2 rfl ?_
    exact sk_iret dX7_years_41 rfl rfl h
  · have h := h.2 hc
    refine sk_aload_n 0 26 dX7_years_25 rfl rfl rfl ?_
    refine sk_callVv [] [] 29 dX7_years_26 rfl mfX7_aYear lkX7_195 miX7_aYear msX7_aYear sm_0 rfl rfl rfl rfl (by simp [Value.category]) hd0 (sk_Cm h ?_)
    rintro w t26 ⟨hw, h⟩
    refine ⟨hw, ?_⟩
    refine sk_iinc (v := (v3 + 1)) (lv2 := [(3, .int (v3 + 1)), (0, .ref 0), (1, .int v1)]) 2 32 dX7_years_29 rfl rfl rfl (by decide) rfl ?_
    refine sk_goto 20 dX7_years_32 (by decide) ?_
    refine sk_perm (lv2 := [(0, .ref 0), (1, .int v1), (3, .int (v3 + 1))]) [1, 2, 0] rfl ?_
    exact h

theorem wX7_loose {d : Nat} {τ : sk_T} {K : sk_K} {v1 : Int32} (hd0 : 0 < d)
  (h : sk_C sk_Sm (d - 1) mX7_whyNot [.ref 0, .int v1, .int 20] τ (fun w t4 => ∃ r4 : Int32, w = some (.int r4) ∧
      ((r4 = 0 →
        sk_G sk_Sm d mX7_loose 23 [(0, .ref 0), (1, .int v1), (3, .int 0), (4, .int 0)] [] t4 K
      ) ∧
      (¬ r4 = 0 →
        sk_C sk_Sm (d - 1) mX7_error [.ref 0, .int r4] t4 (fun w t14 => ∃ r14 : Int32, w = some (.int r14) ∧
          K (some (.int r14)) t14
        )
      ))
    )) :
  sk_C sk_Sm d mX7_loose [.ref 0, .int v1] τ K := by
  refine sk_enter mfX7_loose (Nat.le_of_ble_eq_true rfl) ?_
  show sk_G sk_Sm d mX7_loose 0 [(0, .ref 0), (1, .int v1)] [] τ K
  refine sk_aload_n 0 1 dX7_loose_0 rfl rfl rfl ?_
  refine sk_iload_n 1 2 dX7_loose_1 rfl rfl rfl ?_
  refine sk_bipush (v := 20) 4 dX7_loose_2 rfl (by decide) ?_
  refine sk_callVi [.int v1, .int 20] [] 7 dX7_loose_4 rfl mfX7_whyNot lkX7_192 miX7_whyNot msX7_whyNot sm_0 rfl rfl rfl rfl (by simp [Value.category]) hd0 (sk_Cm h ?_)
  rintro w t4 ⟨r4, hw, h⟩
  refine ⟨r4, hw, ?_⟩
  refine sk_istore_n (lv2 := [(2, .int r4), (0, .ref 0), (1, .int v1)]) 8 dX7_loose_7 rfl rfl (by decide) rfl ?_
  refine sk_iload_n 0 9 dX7_loose_8 rfl rfl rfl ?_
  refine sk_if_eq 18 12 dX7_loose_9 (by decide) rfl (fun hc => ?_) (fun hc => ?_)
  · have h := h.1 hc
    refine sk_iconst (v := 0) 19 dX7_loose_18 rfl (by decide) ?_
    refine sk_istore_n (lv2 := [(3, .int 0), (2, .int r4), (0, .ref 0), (1, .int v1)]) 20 dX7_loose_19 rfl rfl (by decide) rfl ?_
    refine sk_iconst (v := 0) 21 dX7_loose_20 rfl (by decide) ?_
    refine sk_istore (lv2 := [(4, .int 0), (3, .int 0), (2, .int r4), (0, .ref 0), (1, .int v1)]) 23 dX7_loose_21 rfl (by decide) rfl ?_
    refine sk_perm (lv2 := [(0, .ref 0), (1, .int v1), (3, .int 0), (4, .int 0)]) [3, 4, 1, 0] rfl ?_
    exact h
  · have h := h.2 hc
    refine sk_aload_n 1 13 dX7_loose_12 rfl rfl rfl ?_
    refine sk_iload_n 0 14 dX7_loose_13 rfl rfl rfl ?_
    refine sk_callVi [.int r4] [] 17 dX7_loose_14 rfl mfX7_error lkX7_51 miX7_error msX7_error sm_0 rfl rfl rfl rfl (by simp [Value.category]) hd0 (sk_Cm h ?_)
    rintro w t14 ⟨r14, hw, h⟩
    refine ⟨r14, hw, ?_⟩
    exact sk_iret dX7_loose_17 rfl rfl h

theorem bX7_loose_23 {d : Nat} {τ : sk_T} {K : sk_K} {v1 : Int32} {v3 : Int32} {v4 : Int32} (hd0 : 0 < d)
  (h : ((v1 ≤ v4 →
      K (some (.int v3)) τ
    ) ∧
    (¬ v1 ≤ v4 →
      sk_C sk_Sm (d - 1) mX7_draw [.ref 0] τ (fun w t32 => ∃ r32 : Int32, w = some (.int r32) ∧
        sk_C sk_Sm (d - 1) mX7_galeNow [.ref 0, .int (r32 % 40)] t32 (fun w t38 => ∃ r38 : Int32, w = some (.int r38) ∧
          (((t38 1 6) ≤ 0 →
            sk_C sk_Sm (d - 1) mX7_aYear [.ref 0] t38 (fun w t110 => w = none ∧
              sk_G sk_Sm d mX7_loose 23 [(0, .ref 0), (1, .int v1), (3, .int (v3 ||| r38)), (4, .int (v4 + 1))] [] t110 K
            )
          ) ∧
          (¬ (t38 1 6) ≤ 0 →
            sk_C sk_Sm (d - 1) mX7_draw [.ref 0] t38 (fun w t54 => ∃ r54 : Int32, w = some (.int r54) ∧
              ¬ (t54 1 6) = 0 ∧
              sk_C sk_Sm (d - 1) mX7_draw [.ref 0] t54 (fun w t68 => ∃ r68 : Int32, w = some (.int r68) ∧
                sk_C sk_Sm (d - 1) mX7_its [.ref 0, .int (r54 % (t54 1 6)), .int 6] t68 (fun w t81 => ∃ r81 : Int32, w = some (.int r81) ∧
                  ((¬ r81 = (-1) →
                    sk_C sk_Sm (d - 1) mX7_aYear [.ref 0] t81 (fun w t110 => w = none ∧
                      sk_G sk_Sm d mX7_loose 23 [(0, .ref 0), (1, .int v1), (3, .int (v3 ||| r38)), (4, .int (v4 + 1))] [] t110 K
                    )
                  ) ∧
                  (r81 = (-1) →
                    sk_C sk_Sm (d - 1) mX7_mayLie [.ref 0, .int (r54 % (t54 1 6)), .int (r68 % 48)] t81 (fun w t93 => ∃ r93 : Int32, w = some (.int r93) ∧
                      ((r93 = 0 →
                        sk_C sk_Sm (d - 1) mX7_aYear [.ref 0] t93 (fun w t110 => w = none ∧
                          sk_G sk_Sm d mX7_loose 23 [(0, .ref 0), (1, .int v1), (3, .int (v3 ||| r38)), (4, .int (v4 + 1))] [] t110 K
                        )
                      ) ∧
                      (¬ r93 = 0 →
                        sk_C sk_Sm (d - 1) mX7_lays1 [.ref 0, .int (r54 % (t54 1 6)), .int 6, .int (r68 % 48)] t93 (fun w t106 => w = none ∧
                          sk_C sk_Sm (d - 1) mX7_aYear [.ref 0] t106 (fun w t110 => w = none ∧
                            sk_G sk_Sm d mX7_loose 23 [(0, .ref 0), (1, .int v1), (3, .int (v3 ||| r38)), (4, .int (v4 + 1))] [] t110 K
                          )
                        )
                      ))
                    )
                  ))
                )
              )
            )
          ))
        )
      )
    ))) :
  sk_G sk_Sm d mX7_loose 23 [(0, .ref 0), (1, .int v1), (3, .int v3), (4, .int v4)] [] τ K := by
  refine sk_iload 3 25 dX7_loose_23 rfl rfl ?_
  refine sk_iload_n 1 26 dX7_loose_25 rfl rfl rfl ?_
  refine sk_icmp_ge 119 29 dX7_loose_26 (by decide) rfl (fun hc => ?_) (fun hc => ?_)
  · have h := h.1 hc
    refine sk_iload_n 2 120 dX7_loose_119 rfl rfl rfl ?_
    exact sk_iret dX7_loose_120 rfl rfl h
  · have h := h.2 hc
    refine sk_iload_n 2 30 dX7_loose_29 rfl rfl rfl ?_
    refine sk_aload_n 0 31 dX7_loose_30 rfl rfl rfl ?_
    refine sk_aload_n 0 32 dX7_loose_31 rfl rfl rfl ?_
    refine sk_callVi [] [.ref 0, .int v3] 35 dX7_loose_32 rfl mfX7_draw lkX7_198 miX7_draw msX7_draw sm_0 rfl rfl rfl rfl (by simp [Value.category]) hd0 (sk_Cm h ?_)
    rintro w t32 ⟨r32, hw, h⟩
    refine ⟨r32, hw, ?_⟩
    refine sk_bipush (v := 40) 37 dX7_loose_35 rfl (by decide) ?_
    refine sk_irem 38 dX7_loose_37 rfl (by decide) ?_
    refine sk_callVi [.int (r32 % 40)] [.int v3] 41 dX7_loose_38 rfl mfX7_galeNow lkX7_189 miX7_galeNow msX7_galeNow sm_0 rfl rfl rfl rfl (by simp [Value.category]) hd0 (sk_Cm h ?_)
    rintro w t38 ⟨r38, hw, h⟩
    refine ⟨r38, hw, ?_⟩
    refine sk_ior 42 dX7_loose_41 rfl ?_
    refine sk_istore_n (lv2 := [(3, .int (v3 ||| r38)), (0, .ref 0), (1, .int v1), (4, .int v4)]) 43 dX7_loose_42 rfl rfl (by decide) rfl ?_
    refine sk_aload_n 1 44 dX7_loose_43 rfl rfl rfl ?_
    refine sk_getR (r := 1) 47 dX7_loose_44 rfl lfX7_7 sm_0 rfl ?_
    refine sk_bipush (v := 6) 49 dX7_loose_47 rfl (by decide) ?_
    refine sk_iald 50 dX7_loose_49 rfl sm_1 (by unfold vp_in; decide) 6 rfl ?_
    refine sk_if_le 109 53 dX7_loose_50 (by decide) rfl (fun hc => ?_) (fun hc => ?_)
    · have h := h.1 hc
      refine sk_aload_n 1 110 dX7_loose_109 rfl rfl rfl ?_
      refine sk_callVv [] [] 113 dX7_loose_110 rfl mfX7_aYear lkX7_195 miX7_aYear msX7_aYear sm_0 rfl rfl rfl rfl (by simp [Value.category]) hd0 (sk_Cm h ?_)
      rintro w t110 ⟨hw, h⟩
      refine ⟨hw, ?_⟩
      refine sk_iinc (v := (v4 + 1)) (lv2 := [(4, .int (v4 + 1)), (3, .int (v3 ||| r38)), (0, .ref 0), (1, .int v1)]) 3 116 dX7_loose_113 rfl rfl rfl (by decide) rfl ?_
      refine sk_goto 23 dX7_loose_116 (by decide) ?_
      refine sk_perm (lv2 := [(0, .ref 0), (1, .int v1), (3, .int (v3 ||| r38)), (4, .int (v4 + 1))]) [2, 3, 1, 0] rfl ?_
      exact h
    · have h := h.2 hc
      refine sk_aload_n 1 54 dX7_loose_53 rfl rfl rfl ?_
      refine sk_callVi [] [] 57 dX7_loose_54 rfl mfX7_draw lkX7_198 miX7_draw msX7_draw sm_0 rfl rfl rfl rfl (by simp [Value.category]) hd0 (sk_Cm h ?_)
      rintro w t54 ⟨r54, hw, h⟩
      refine ⟨r54, hw, ?_⟩
      refine sk_aload_n 1 58 dX7_loose_57 rfl rfl rfl ?_
      refine sk_getR (r := 1) 61 dX7_loose_58 rfl lfX7_7 sm_0 rfl ?_
      refine sk_bipush (v := 6) 63 dX7_loose_61 rfl (by decide) ?_
      refine sk_iald 64 dX7_loose_63 rfl sm_1 (by unfold vp_in; decide) 6 rfl ?_
      have hz64 := h.1
      have h := h.2
      refine sk_irem 65 dX7_loose_64 rfl hz64 ?_
      refine sk_istore (lv2 := [(5, .int (r54 % (t54 1 6))), (3, .int (v3 ||| r38)), (0, .ref 0), (1, .int v1), (4, .int v4)]) 67 dX7_loose_65 rfl (by decide) rfl ?_
      refine sk_aload_n 2 68 dX7_loose_67 rfl rfl rfl ?_
      refine sk_callVi [] [] 71 dX7_loose_68 rfl mfX7_draw lkX7_198 miX7_draw msX7_draw sm_0 rfl rfl rfl rfl (by simp [Value.category]) hd0 (sk_Cm h ?_)
      rintro w t68 ⟨r68, hw, h⟩
      refine ⟨r68, hw, ?_⟩
      refine sk_bipush (v := 48) 73 dX7_loose_71 rfl (by decide) ?_
      refine sk_irem 74 dX7_loose_73 rfl (by decide) ?_
      refine sk_istore (lv2 := [(6, .int (r68 % 48)), (5, .int (r54 % (t54 1 6))), (3, .int (v3 ||| r38)), (0, .ref 0), (1, .int v1), (4, .int v4)]) 76 dX7_loose_74 rfl (by decide) rfl ?_
      refine sk_aload_n 3 77 dX7_loose_76 rfl rfl rfl ?_
      refine sk_iload 1 79 dX7_loose_77 rfl rfl ?_
      refine sk_bipush (v := 6) 81 dX7_loose_79 rfl (by decide) ?_
      refine sk_callVi [.int (r54 % (t54 1 6)), .int 6] [] 84 dX7_loose_81 rfl mfX7_its lkX7_111 miX7_its msX7_its sm_0 rfl rfl rfl rfl (by simp [Value.category]) hd0 (sk_Cm h ?_)
      rintro w t81 ⟨r81, hw, h⟩
      refine ⟨r81, hw, ?_⟩
      refine sk_iconst (v := (-1)) 85 dX7_loose_84 rfl (by decide) ?_
      refine sk_icmp_ne 109 88 dX7_loose_85 (by decide) rfl (fun hc => ?_) (fun hc => ?_)
      · have h := h.1 hc
        refine sk_aload_n 3 110 dX7_loose_109 rfl rfl rfl ?_
        refine sk_callVv [] [] 113 dX7_loose_110 rfl mfX7_aYear lkX7_195 miX7_aYear msX7_aYear sm_0 rfl rfl rfl rfl (by simp [Value.category]) hd0 (sk_Cm h ?_)
        rintro w t110 ⟨hw, h⟩
        refine ⟨hw, ?_⟩
        refine sk_iinc (v := (v4 + 1)) (lv2 := [(4, .int (v4 + 1)), (6, .int (r68 % 48)), (5, .int (r54 % (t54 1 6))), (3, .int (v3 ||| r38)), (0, .ref 0), (1, .int v1)]) 5 116 dX7_loose_113 rfl rfl rfl (by decide) rfl ?_
        refine sk_goto 23 dX7_loose_116 (by decide) ?_
        refine sk_perm (lv2 := [(0, .ref 0), (1, .int v1), (3, .int (v3 ||| r38)), (4, .int (v4 + 1))]) [4, 5, 3, 0] rfl ?_
        exact h
      · have h := h.2 hc
        refine sk_aload_n 3 89 dX7_loose_88 rfl rfl rfl ?_
        refine sk_iload 1 91 dX7_loose_89 rfl rfl ?_
        refine sk_iload 0 93 dX7_loose_91 rfl rfl ?_
        refine sk_callVi [.int (r54 % (t54 1 6)), .int (r68 % 48)] [] 96 dX7_loose_93 rfl mfX7_mayLie lkX7_178 miX7_mayLie msX7_mayLie sm_0 rfl rfl rfl rfl (by simp [Value.category]) hd0 (sk_Cm h ?_)
        rintro w t93 ⟨r93, hw, h⟩
        refine ⟨r93, hw, ?_⟩
        refine sk_if_eq 109 99 dX7_loose_96 (by decide) rfl (fun hc => ?_) (fun hc => ?_)
        · have h := h.1 hc
          refine sk_aload_n 3 110 dX7_loose_109 rfl rfl rfl ?_
          refine sk_callVv [] [] 113 dX7_loose_110 rfl mfX7_aYear lkX7_195 miX7_aYear msX7_aYear sm_0 rfl rfl rfl rfl (by simp [Value.category]) hd0 (sk_Cm h ?_)
          rintro w t110 ⟨hw, h⟩
          refine ⟨hw, ?_⟩
          refine sk_iinc (v := (v4 + 1)) (lv2 := [(4, .int (v4 + 1)), (6, .int (r68 % 48)), (5, .int (r54 % (t54 1 6))), (3, .int (v3 ||| r38)), (0, .ref 0), (1, .int v1)]) 5 116 dX7_loose_113 rfl rfl rfl (by decide) rfl ?_
          refine sk_goto 23 dX7_loose_116 (by decide) ?_
          refine sk_perm (lv2 := [(0, .ref 0), (1, .int v1), (3, .int (v3 ||| r38)), (4, .int (v4 + 1))]) [4, 5, 3, 0] rfl ?_
          exact h
        · have h := h.2 hc
          refine sk_aload_n 3 100 dX7_loose_99 rfl rfl rfl ?_
          refine sk_iload 1 102 dX7_loose_100 rfl rfl ?_
          refine sk_bipush (v := 6) 104 dX7_loose_102 rfl (by decide) ?_
          refine sk_iload 0 106 dX7_loose_104 rfl rfl ?_
          refine sk_callVv [.int (r54 % (t54 1 6)), .int 6, .int (r68 % 48)] [] 109 dX7_loose_106 rfl mfX7_lays1 lkX7_153 miX7_lays1 msX7_lays1 sm_0 rfl rfl rfl rfl (by simp [Value.category]) hd0 (sk_Cm h ?_)
          rintro w t106 ⟨hw, h⟩
          refine ⟨hw, ?_⟩
          refine sk_aload_n 3 110 dX7_loose_109 rfl rfl rfl ?_
          refine sk_callVv [] [] 113 dX7_loose_110 rfl mfX7_aYear lkX7_195 miX7_aYear msX7_aYear sm_0 rfl rfl rfl rfl (by simp [Value.category]) hd0 (sk_Cm h ?_)
          rintro w t110 ⟨hw, h⟩
          refine ⟨hw, ?_⟩
          refine sk_iinc (v := (v4 + 1)) (lv2 := [(4, .int (v4 + 1)), (6, .int (r68 % 48)), (5, .int (r54 % (t54 1 6))), (3, .int (v3 ||| r38)), (0, .ref 0), (1, .int v1)]) 5 116 dX7_loose_113 rfl rfl rfl (by decide) rfl ?_
          refine sk_goto 23 dX7_loose_116 (by decide) ?_
          refine sk_perm (lv2 := [(0, .ref 0), (1, .int v1), (3, .int (v3 ||| r38)), (4, .int (v4 + 1))]) [4, 5, 3, 0] rfl ?_
          exact h

