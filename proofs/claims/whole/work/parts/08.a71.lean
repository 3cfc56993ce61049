theorem wX7_seed {d : Nat} {τ : sk_T} {K : sk_K} {v1 : Int32} (hd0 : 0 < d)
  (h : sk_C sk_Sm (d - 1) mX7_change1 [.ref 0, .int 3, .int v1] τ (fun w t3 => ∃ r3 : Int32, w = some (.int r3) ∧
      K (some (.int r3)) t3
    )) :
  sk_C sk_Sm d mX7_seed [.ref 0, .int v1] τ K := by
  refine sk_enter mfX7_seed (Nat.le_of_ble_eq_true rfl) ?_
  show sk_G sk_Sm d mX7_seed 0 [(0, .ref 0), (1, .int v1)] [] τ K
  refine sk_aload_n 0 1 dX7_seed_0 rfl rfl rfl ?_
  refine sk_iconst (v := 3) 2 dX7_seed_1 rfl (by decide) ?_
  refine sk_iload_n 1 3 dX7_seed_2 rfl rfl rfl ?_
  refine sk_callVi [.int 3, .int v1] [] 6 dX7_seed_3 rfl mfX7_change1 lkX7_172 miX7_change1 msX7_change1 sm_0 rfl rfl rfl rfl (by simp [Value.category]) hd0 (sk_Cm h ?_)
  rintro w t3 ⟨r3, hw, h⟩
  refine ⟨r3, hw, ?_⟩
  exact sk_iret dX7_seed_6 rfl rfl h

theorem wX7_dry {d : Nat} {τ : sk_T} {K : sk_K} {v1 : Int32} (hd0 : 0 < d)
  (h : sk_C sk_Sm (d - 1) mX7_in [.int v1, .int 0, .int 2] τ (fun w t3 => ∃ r3 : Int32, w = some (.int r3) ∧
      ((¬ r3 = 0 →
        sk_C sk_Sm (d - 1) mX7_drySet [.ref 0] t3 (fun w t17 => ∃ r17 : Int64, w = some (.long r17) ∧
          ((2 ≤ v1 →
            sk_G sk_Sm d mX7_dry 43 [(0, .ref 0), (2, .long r17), (4, .int 0)] [] t17 K
          ) ∧
          (¬ 2 ≤ v1 →
            ((¬ v1 = 0 →
              sk_C sk_Sm (d - 1) mX7_bitsOf [.long r17] t17 (fun w t35 => ∃ r35 : Int32, w = some (.int r35) ∧
                K (some (.long (Int32.toInt64 r35))) t35
              )
            ) ∧
            (v1 = 0 →
              K (some (.long r17)) t17
            ))
          ))
        )
      ) ∧
      (r3 = 0 →
        sk_C sk_Sm (d - 1) mX7_error [.ref 0, .int 1] t3 (fun w t11 => ∃ r11 : Int32, w = some (.int r11) ∧
          K (some (.long (Int32.toInt64 r11))) t11
        )
      ))
    )) :
  sk_C sk_Sm d mX7_dry [.ref 0, .int v1] τ K := by
  refine sk_enter mfX7_dry (Nat.le_of_ble_eq_true rfl) ?_
  show sk_G sk_Sm d mX7_dry 0 [(0, .ref 0), (1, .int v1)] [] τ K
  refine sk_iload_n 1 1 dX7_dry_0 rfl rfl rfl ?_
  refine sk_iconst (v := 0) 2 dX7_dry_1 rfl (by decide) ?_
  refine sk_iconst (v := 2) 3 dX7_dry_2 rfl (by decide) ?_
  refine sk_callSi [.int v1, .int 0, .int 2] [] 6 dX7_dry_3 rfl mfX7_in lkX7_47 miX7_in rfl rfl (by simp [Value.category]) hd0 (sk_Cm h ?_)
  rintro w t3 ⟨r3, hw, h⟩
  refine ⟨r3, hw, ?_⟩
  refine sk_if_ne 16 9 dX7_dry_6 (by decide) rfl (fun hc => ?_) (fun hc => ?_)
  · have h := h.1 hc
    refine sk_aload_n 0 17 dX7_dry_16 rfl rfl rfl ?_
    refine sk_callVl [] [] 20 dX7_dry_17 rfl mfX7_drySet lkX7_157 miX7_drySet msX7_drySet sm_0 rfl rfl rfl rfl (by simp [Value.category]) hd0 (sk_Cm h ?_)
    rintro w t17 ⟨r17, hw, h⟩
    refine ⟨r17, hw, ?_⟩
    refine sk_lstore_n (lv2 := [(2, .long r17), (0, .ref 0), (1, .int v1)]) 21 dX7_dry_20 rfl rfl (by decide) rfl ?_
    refine sk_iload_n 2 22 dX7_dry_21 rfl rfl rfl ?_
    refine sk_iconst (v := 2) 23 dX7_dry_22 rfl (by decide) ?_
    refine sk_icmp_ge 40 26 dX7_dry_23 (by decide) rfl (fun hc => ?_) (fun hc => ?_)
    · have h := h.1 hc
      refine sk_iconst (v := 0) 41 dX7_dry_40 rfl (by decide) ?_
      refine sk_istore (lv2 := [(4, .int 0), (2, .long r17), (0, .ref 0), (1, .int v1)]) 43 dX7_dry_41 rfl (by decide) rfl ?_
      refine sk_perm (lv2 := [(0, .ref 0), (2, .long r17), (4, .int 0)]) [2, 1, 0] rfl ?_
      exact h
    · have h := h.2 hc
      refine sk_iload_n 2 27 dX7_dry_26 rfl rfl rfl ?_
      refine sk_if_ne 34 30 dX7_dry_27 (by decide) rfl (fun hc => ?_) (fun hc => ?_)
      · have h := h.1 hc
        refine sk_lload_n 0 35 dX7_dry_34 rfl rfl rfl ?_
        refine sk_callSi [.long r17] [] 38 dX7_dry_35 rfl mfX7_bitsOf lkX7_182 miX7_bitsOf rfl rfl (by simp [Value.category]) hd0 (sk_Cm h ?_)
        rintro w t35 ⟨r35, hw, h⟩
        refine ⟨r35, hw, ?_⟩
        refine sk_i2l 39 dX7_dry_38 rfl ?_
        exact sk_lret dX7_dry_39 rfl h
      · have h := h.2 hc
        refine sk_lload_n 0 31 dX7_dry_30 rfl rfl rfl ?_
        refine sk_goto 39 dX7_dry_31 (by decide) ?_
        exact sk_lret dX7_dry_39 rfl h
  · have h := h.2 hc
    refine sk_aload_n 0 10 dX7_dry_9 rfl rfl rfl ?_
    refine sk_iconst (v := 1) 11 dX7_dry_10 rfl (by decide) ?_
    refine sk_callVi [.int 1] [] 14 dX7_dry_11 rfl mfX7_error lkX7_51 miX7_error msX7_error sm_0 rfl rfl rfl rfl (by simp [Value.category]) hd0 (sk_Cm h ?_)
    rintro w t11 ⟨r11, hw, h⟩
    refine ⟨r11, hw, ?_⟩
    refine sk_i2l 15 dX7_dry_14 rfl ?_
    exact sk_lret dX7_dry_15 rfl h

theorem bX7_dry_43 {d : Nat} {τ : sk_T} {K : sk_K} {v2 : Int64} {v4 : Int32} (hd0 : 0 < d)
  (h : ((48 ≤ v4 →
      ((48 ≤ v4 →
        sk_C sk_Sm (d - 1) mX7_error [.ref 0, .int 2] τ (fun w t82 => ∃ r82 : Int32, w = some (.int r82) ∧
          K (some (.long (Int32.toInt64 r82))) t82
        )
      ) ∧
      (¬ 48 ≤ v4 →
        K (some (.long (Int32.toInt64 v4))) τ
      ))
    ) ∧
    (¬ 48 ≤ v4 →
      ((¬ (lg_cmp ((sk_lush v2 v4) &&& 1) 1) = 0 →
        ((48 ≤ v4 →
          sk_C sk_Sm (d - 1) mX7_error [.ref 0, .int 2] τ (fun w t82 => ∃ r82 : Int32, w = some (.int r82) ∧
            K (some (.long (Int32.toInt64 r82))) t82
          )
        ) ∧
        (¬ 48 ≤ v4 →
          K (some (.long (Int32.toInt64 v4))) τ
        ))
      ) ∧
      ((lg_cmp ((sk_lush v2 v4) &&& 1) 1) = 0 →
        sk_G sk_Sm d mX7_dry 43 [(0, .ref 0), (2, .long v2), (4, .int (v4 + 1))] [] τ K
      ))
    ))) :
  sk_G sk_Sm d mX7_dry 43 [(0, .ref 0), (2, .long v2), (4, .int v4)] [] τ K := by
  refine sk_iload 2 45 dX7_dry_43 rfl rfl ?_
  refine sk_bipush (v := 48) 47 dX7_dry_45 rfl (by decide) ?_
  refine sk_icmp_ge 67 50 dX7_dry_47 (by decide) rfl (fun hc => ?_) (fun hc => ?_)
  · have h := h.1 hc
    refine sk_iload 2 69 dX7_dry_67 rfl rfl ?_
    refine sk_bipush (v := 48) 71 dX7_dry_69 rfl (by decide) ?_
    refine sk_icmp_ge 80 74 dX7_dry_71 (by decide) rfl (fun hc => ?_) (fun hc => ?_)
    · have h := h.1 hc
      refine sk_aload_n 0 81 dX7_dry_80 rfl rfl rfl ?_
      refine sk_iconst (v := 2) 82 dX7_dry_81 rfl (by decide) ?_
      refine sk_callVi [.int 2] [] 85 dX7_dry_82 rfl mfX7_error lkX7_51 miX7_error msX7_error sm_0 rfl rfl rfl rfl (by simp [Value.category]) hd0 (sk_Cm h ?_)
      rintro w t82 ⟨r82, hw, h⟩
      refine ⟨r82, hw, ?_⟩
      refine sk_i2l 86 dX7_dry_85 rfl ?_
      exact sk_lret dX7_dry_86 rfl h
    · have h := h.2 hc
      refine sk_iload 2 76 dX7_dry_74 rfl rfl ?_
      refine sk_i2l 77 dX7_dry_76 rfl ?_
      refine sk_goto 86 dX7_dry_77 (by decide) ?_
      exact sk_lret dX7_dry_86 rfl h
  · have h := h.2 hc
    refine sk_lload_n 1 51 dX7_dry_50 rfl rfl rfl ?_
    refine sk_iload 2 53 dX7_dry_51 rfl rfl ?_
    refine sk_lushr 54 dX7_dry_53 rfl ?_
    refine sk_lconst (v := 1) 55 dX7_dry_54 rfl (by decide) ?_
    refine sk_land 56 dX7_dry_55 rfl ?_
    refine sk_lconst (v := 1) 57 dX7_dry_56 rfl (by decide) ?_
    refine sk_lcmp 58 dX7_dry_57 rfl ?_
    refine sk_if_ne 67 61 dX7_dry_58 (by decide) rfl (fun hc => ?_) (fun hc => ?_)
    · have h := h.1 hc
      refine sk_iload 2 69 dX7_dry_67 rfl rfl ?_
      refine sk_bipush (v := 48) 71 dX7_dry_69 rfl (by decide) ?_
      refine sk_icmp_ge 80 74 dX7_dry_71 (by decide) rfl (fun hc => ?_) (fun hc => ?_)
      · have h := h.1 hc
        refine sk_aload_n 0 81 dX7_dry_80 rfl rfl rfl ?_
        refine sk_iconst (v := 2) 82 dX7_dry_81 rfl (by decide) ?_
        refine sk_callVi [.int 2] [] 85 dX7_dry_82 rfl mfX7_error lkX7_51 miX7_error msX7_error sm_0 rfl rfl rfl rfl (by simp [Value.category]) hd0 (sk_Cm h ?_)
        rintro w t82 ⟨r82, hw, h⟩
        refine ⟨r82, hw, ?_⟩
        refine sk_i2l 86 dX7_dry_85 rfl ?_
        exact sk_lret dX7_dry_86 rfl h
      · have h := h.2 hc
        refine sk_iload 2 76 dX7_dry_74 rfl rfl ?_
        refine sk_i2l 77 dX7_dry_76 rfl ?_
        refine sk_goto 86 dX7_dry_77 (by decide) ?_
        exact sk_lret dX7_dry_86 rfl h
    · have h := h.2 hc
      refine sk_iinc (v := (v4 + 1)) (lv2 := [(4, .int (v4 + 1)), (0, .ref 0), (2, .long v2)]) 2 64 dX7_dry_61 rfl rfl rfl (by decide) rfl ?_
      refine sk_goto 43 dX7_dry_64 (by decide) ?_
      refine sk_perm (lv2 := [(0, .ref 0), (2, .long v2), (4, .int (v4 + 1))]) [1, 2, 0] rfl ?_
      exact h

theorem wX7_coveredBy {d : Nat} {τ : sk_T} {K : sk_K} {v1 : Int64} {v3 : Int32}
  (h : sk_G sk_Sm d mX7_coveredBy 6 [(0, .ref 0), (1, .long v1), (3, .int v3), (4, .int 0), (5, .int 0)] [] τ K) :
  sk_C sk_Sm d mX7_coveredBy [.ref 0, .long v1, .int v3] τ K := by
  refine sk_enter mfX7_coveredBy (Nat.le_of_ble_eq_true rfl) ?_
  show sk_G sk_Sm d mX7_coveredBy 0 [(0, .ref 0), (1, .long v1), (3, .int v3)] [] τ K
  refine sk_iconst (v := 0) 1 dX7_coveredBy_0 rfl (by decide) ?_
  refine sk_istore (lv2 := [(4, .int 0), (0, .ref 0), (1, .long v1), (3, .int v3)]) 3 dX7_coveredBy_1 rfl (by decide) rfl ?_
  refine sk_iconst (v := 0) 4 dX7_coveredBy_3 rfl (by decide) ?_
  refine sk_istore (lv2 := [(5, .int 0), (4, .int 0), (0, .ref 0), (1, .long v1), (3, .int v3)]) 6 dX7_coveredBy_4 rfl (by decide) rfl ?_
  refine sk_perm (lv2 := [(0, .ref 0), (1, .long v1), (3, .int v3), (4, .int 0), (5, .int 0)]) [2, 3, 4, 1, 0] rfl ?_
  exact h

theorem bX7_coveredBy_6 {d : Nat} {τ : sk_T} {K : sk_K} {v1 : Int64} {v3 : Int32} {v4 : Int32} {v5 : Int32} (hd0 : 0 < d)
  (h : (((τ 1 6) ≤ v5 →
      K (some (.int v4)) τ
    ) ∧
    (¬ (τ 1 6) ≤ v5 →
      sk_C sk_Sm (d - 1) mX7_its [.ref 0, .int v5, .int 6] τ (fun w t23 => ∃ r23 : Int32, w = some (.int r23) ∧
        ((r23 = (-1) →
          (((0 : Int32) = 0 →
            sk_G sk_Sm d mX7_coveredBy 6 [(0, .ref 0), (1, .long v1), (3, .int v3), (4, .int (v4 ||| 0)), (5, .int (v5 + 1))] [] t23 K
          ) ∧
          (¬ (0 : Int32) = 0 →
            sk_G sk_Sm d mX7_coveredBy 6 [(0, .ref 0), (1, .long v1), (3, .int v3), (4, .int (v4 ||| (1 <<< (v5 &&& 31)))), (5, .int (v5 + 1))] [] t23 K
          ))
        ) ∧
        (¬ r23 = (-1) →
          ((v3 = (-1) →
            sk_C sk_Sm (d - 1) mX7_covers [.ref 0, .int v5] t23 (fun w t53 => ∃ r53 : Int64, w = some (.long r53) ∧
              (((lg_cmp (r53 &&& v1) 0) = 0 →
                (((0 : Int32) = 0 →
                  sk_G sk_Sm d mX7_coveredBy 6 [(0, .ref 0), (1, .long v1), (3, .int v3), (4, .int (v4 ||| 0)), (5, .int (v5 + 1))] [] t53 K
                ) ∧
                (¬ (0 : Int32) = 0 →
                  sk_G sk_Sm d mX7_coveredBy 6 [(0, .ref 0), (1, .long v1), (3, .int v3), (4, .int (v4 ||| (1 <<< (v5 &&& 31)))), (5, .int (v5 + 1))] [] t53 K
                ))
              ) ∧
              (¬ (lg_cmp (r53 &&& v1) 0) = 0 →
                (((1 : Int32) = 0 →
                  sk_G sk_Sm d mX7_coveredBy 6 [(0, .ref 0), (1, .long v1), (3, .int v3), (4, .int (v4 ||| 0)), (5, .int (v5 + 1))] [] t53 K
                ) ∧
                (¬ (1 : Int32) = 0 →
                  sk_G sk_Sm d mX7_coveredBy 6 [(0, .ref 0), (1, .long v1), (3, .int v3), (4, .int (v4 ||| (1 <<< (v5 &&& 31)))), (5, .int (v5 + 1))] [] t53 K
                ))
              ))
            )
          ) ∧
          (¬ v3 = (-1) →
            sk_C sk_Sm (d - 1) mX7_its [.ref 0, .int v5, .int 6] t23 (fun w t40 => ∃ r40 : Int32, w = some (.int r40) ∧
              ((¬ (r40 / 8) = v3 →
                (((0 : Int32) = 0 →
                  sk_G sk_Sm d mX7_coveredBy 6 [(0, .ref 0), (1, .long v1), (3, .int v3), (4, .int (v4 ||| 0)), (5, .int (v5 + 1))] [] t40 K
                ) ∧
                (¬ (0 : Int32) = 0 →
                  sk_G sk_Sm d mX7_coveredBy 6 [(0, .ref 0), (1, .long v1), (3, .int v3), (4, .int (v4 ||| (1 <<< (v5 &&& 31)))), (5, .int (v5 + 1))] [] t40 K
                ))
              ) ∧
              ((r40 / 8) = v3 →
                sk_C sk_Sm (d - 1) mX7_covers [.ref 0, .int v5] t40 (fun w t53 => ∃ r53 : Int64, w = some (.long r53) ∧
                  (((lg_cmp (r53 &&& v1) 0) = 0 →
                    (((0 : Int32) = 0 →
                      sk_G sk_Sm d mX7_coveredBy 6 [(0, .ref 0), (1, .long v1), (3, .int v3), (4, .int (v4 ||| 0)), (5, .int (v5 + 1))] [] t53 K
                    ) ∧
                    (¬ (0 : Int32) = 0 →
                      sk_G sk_Sm d mX7_coveredBy 6 [(0, .ref 0), (1, .long v1), (3, .int v3), (4, .int (v4 ||| (1 <<< (v5 &&& 31)))), (5, .int (v5 + 1))] [] t53 K
                    ))
                  ) ∧
                  (¬ (lg_cmp (r53 &&& v1) 0) = 0 →
                    (((1 : Int32) = 0 →
                      sk_G sk_Sm d mX7_coveredBy 6 [(0, .ref 0), (1, .long v1), (3, .int v3), (4, .int (v4 ||| 0)), (5, .int (v5 + 1))] [] t53 K
                    ) ∧
                    (¬ (1 : Int32) = 0 →
                      sk_G sk_Sm d mX7_coveredBy 6 [(0, .ref 0), (1, .long v1), (3, .int v3), (4, .int (v4 ||| (1 <<< (v5 &&& 31)))), (5, .int (v5 + 1))] [] t53 K
                    ))
                  ))
                )
              ))
            )
          ))
        ))
      )
    ))) :
  sk_G sk_Sm d mX7_coveredBy 6 [(0, .ref 0), (1, .long v1), (3, .int v3), (4, .int v4), (5, .int v5)] [] τ K := by
  refine sk_iload 4 8 dX7_coveredBy_6 rfl rfl ?_
  refine sk_aload_n 0 9 dX7_coveredBy_8 rfl rfl rfl ?_
  refine sk_getR (r := 1) 12 dX7_coveredBy_9 rfl lfX7_7 sm_0 rfl ?_
  refine sk_bipush (v := 6) 14 dX7_coveredBy_12 rfl (by decide) ?_
  refine sk_iald 15 dX7_coveredBy_14 rfl sm_1 (by unfold vp_in; decide) 6 rfl ?_
  refine sk_icmp_ge 94 18 dX7_coveredBy_15 (by decide) rfl (fun hc => ?_) (fun hc => ?_)
  · have h := h.1 hc
    refine sk_iload 3 96 dX7_coveredBy_94 rfl rfl ?_
    exact sk_iret dX7_coveredBy_96 rfl rfl h
  · have h := h.2 hc
    refine sk_aload_n 0 19 dX7_coveredBy_18 rfl rfl rfl ?_
    refine sk_iload 4 21 dX7_coveredBy_19 rfl rfl ?_
    refine sk_bipush (v := 6) 23 dX7_coveredBy_21 rfl (by decide) ?_
    refine sk_callVi [.int v5, .int 6] [] 26 dX7_coveredBy_23 rfl mfX7_its lkX7_111 miX7_its msX7_its sm_0 rfl rfl rfl rfl (by simp [Value.category]) hd0 (sk_Cm h ?_)
    rintro w t23 ⟨r23, hw, h⟩
    refine ⟨r23, hw, ?_⟩
    refine sk_iconst (v := (-1)) 27 dX7_coveredBy_26 rfl (by decide) ?_
    refine sk_icmp_eq 67 30 dX7_coveredBy_27 (by decide) rfl (fun hc => ?_) (fun hc => ?_)
    · have h := h.1 hc
      refine sk_iconst (v := 0) 68 dX7_coveredBy_67 rfl (by decide) ?_
      refine sk_istore (lv2 := [(6, .int 0), (0, .ref 0), (1, .long v1), (3, .int v3), (4, .int v4), (5, .int v5)]) 70 dX7_coveredBy_68 rfl (by decide) rfl ?_
      refine sk_iload 4 72 dX7_coveredBy_70 rfl rfl ?_
      refine sk_iload 0 74 dX7_coveredBy_72 rfl rfl ?_
      refine sk_if_eq 84 77 dX7_coveredBy_74 (by decide) rfl (fun hc => ?_) (fun hc => ?_)
      · have h := h.1 hc
        refine sk_iconst (v := 0) 85 dX7_coveredBy_84 rfl (by decide) ?_
        refine sk_ior 86 dX7_coveredBy_85 rfl ?_
        refine sk_istore (lv2 := [(4, .int (v4 ||| 0)), (6, .int 0), (0, .ref 0), (1, .long v1), (3, .int v3), (5, .int v5)]) 88 dX7_coveredBy_86 rfl (by decide) rfl ?_
        refine sk_iinc (v := (v5 + 1)) (lv2 := [(5, .int (v5 + 1)), (4, .int (v4 ||| 0)), (6, .int 0), (0, .ref 0), (1, .long v1), (3, .int v3)]) 5 91 dX7_coveredBy_88 rfl rfl rfl (by decide) rfl ?_
        refine sk_goto 6 dX7_coveredBy_91 (by decide) ?_
        refine sk_perm (lv2 := [(0, .ref 0), (1, .long v1), (3, .int v3), (4, .int (v4 ||| 0)), (5, .int (v5 + 1))]) [3, 4, 5, 1, 0] rfl ?_
        exact h
      · have h := h.2 hc
        refine sk_iconst (v := 1) 78 dX7_coveredBy_77 rfl (by decide) ?_
        refine sk_iload 5 80 dX7_coveredBy_78 rfl rfl ?_
        refine sk_ishl 81 dX7_coveredBy_80 rfl ?_
        refine sk_goto 85 dX7_coveredBy_81 (by decide) ?_
        refine sk_ior 86 dX7_coveredBy_85 rfl ?_
        refine sk_istore (lv2 := [(4, .int (v4 ||| (1 <<< (v5 &&& 31)))), (6, .int 0), (0, .ref 0), (1, .long v1), (3, .int v3), (5, .int v5)]) 88 dX7_coveredBy_86 rfl (by decide) rfl ?_
        refine sk_iinc (v := (v5 + 1)) (lv2 := [(5, .int (v5 + 1)), (4, .int (v4 ||| (1 <<< (v5 &&& 31)))), (6, .int 0), (0, .ref 0), (1, .long v1), (3, .int v3)]) 5 91 dX7_coveredBy_88 rfl rfl rfl (by decide) rfl ?_
        refine sk_goto 6 dX7_coveredBy_91 (by decide) ?_
        refine sk_perm (lv2 := [(0, .ref 0), (1, .long v1), (3, .int v3), (4, .int (v4 ||| (1 <<< (v5 &&& 31)))), (5, .int (v5 + 1))]) [3, 4, 5, 1, 0] rfl ?_
        exact h
    · have h := h.2 hc
      refine sk_iload_n 2 31 dX7_coveredBy_30 rfl rfl rfl ?_
      refine sk_iconst (v := (-1)) 32 dX7_coveredBy_31 rfl (by decide) ?_
      refine sk_icmp_eq 50 35 dX7_coveredBy_32 (by decide) rfl (fun hc => ?_) (fun hc => ?_)
      · have h := h.1 hc
        refine sk_aload_n 0 51 dX7_coveredBy_50 rfl rfl rfl ?_
        refine sk_iload 4 53 dX7_coveredBy_51 rfl rfl ?_
        refine sk_callVl [.int v5] [] 56 dX7_coveredBy_53 rfl mfX7_covers lkX7_140 miX7_covers msX7_covers sm_0 rfl rfl rfl rfl (by simp [Value.category]) hd0 (sk_Cm h ?_)
        rintro w t53 ⟨r53, hw, h⟩
        refine ⟨r53, hw, ?_⟩
        refine sk_lload_n 1 57 dX7_coveredBy_56 rfl rfl rfl ?_
        refine sk_land 58 dX7_coveredBy_57 rfl ?_
        refine sk_lconst (v := 0) 59 dX7_coveredBy_58 rfl (by decide) ?_
        refine sk_lcmp 60 dX7_coveredBy_59 rfl ?_
        refine sk_if_eq 67 63 dX7_coveredBy_60 (by decide) rfl (fun hc => ?_) (fun hc => ?_)
        · have h := h.1 hc
          refine sk_iconst (v := 0) 68 dX7_coveredBy_67 rfl (by decide) ?_
          refine sk_istore (lv2 := [(6, .int 0), (0, .ref 0), (1, .long v1), (3, .int v3), (4, .int v4), (5, .int v5)]) 70 dX7_coveredBy_68 rfl (by decide) rfl ?_
          refine sk_iload 4 72 dX7_coveredBy_70 rfl rfl ?_
          refine sk_iload 0 74 dX7_coveredBy_72 rfl rfl ?_
          refine sk_if_eq 84 77 dX7_coveredBy_74 (by decide) rfl (fun hc => ?_) (fun hc => ?_)
          · have h := h.1 hc
            refine sk_iconst (v := 0) 85 dX7_coveredBy_84 rfl (by decide) ?_
            refine sk_ior 86 dX7_coveredBy_85 rfl ?_
            refine sk_istore (lv2 := [(4, .int (v4 ||| 0)), (6, .int 0), (0, .ref 0), (1, .long v1), (3, .int v3), (5, .int v5)]) 88 dX7_coveredBy_86 rfl (by decide) rfl ?_
            refine sk_iinc (v := (v5 + 1)) (lv2 := [(5, .int (v5 + 1)), (4, .int (v4 ||| 0)), (6, .int 0), (0, .ref 0), (1, .long v1), (3, .int v3)]) 5 91 dX7_coveredBy_88 rfl rfl rfl (by decide) rfl ?_
            refine sk_goto 6 dX7_coveredBy_91 (by decide) ?_
            refine sk_perm (lv2 := [(0, .ref 0), (1, .long v1), (3, .int v3), (4, .int (v4 ||| 0)), (5, .int (v5 + 1))]) [3, 4, 5, 1, 0] rfl ?_
            exact h
          · have h := h.2 hc
            refine sk_iconst (v := 1) 78 dX7_coveredBy_77 rfl (by decide) ?_
            refine sk_iload 5 80 dX7_coveredBy_78 rfl rfl ?_
            refine sk_ishl 81 dX7_coveredBy_80 rfl ?_
            refine sk_goto 85 dX7_coveredBy_81 (by decide) ?_
            refine sk_ior 86 dX7_coveredBy_85 rfl ?_
            refine sk_istore (lv2 := [(4, .int (v4 ||| (1 <<< (v5 &&& 31)))), (6, .int 0), (0, .ref 0), (1, .long v1), (3, .int v3), (5, .int v5)]) 88 dX7_coveredBy_86 rfl (by decide) rfl ?_
            refine sk_iinc (v := (v5 + 1)) (lv2 := [(5, .int (v5 + 1)), (4, .int (v4 ||| (1 <<< (v5 &&& 31)))), (6, .int 0), (0, .ref 0), (1, .long v1), (3, .int v3)]) 5 91 dX7_coveredBy_88 rfl rfl rfl (by decide) rfl ?_
            refine sk_goto 6 dX7_coveredBy_91 (by decide) ?_
            refine sk_perm (lv2 := [(0, .ref 0), (1, .long v1), (3, .int v3), (4, .int (v4 ||| (1 <<< (v5 &&& 31)))), (5, .int (v5 + 1))]) [3, 4, 5, 1, 0] rfl ?_
            exact h
        · have h := h.2 hc
          refine sk_iconst (v := 1) 64 dX7_coveredBy_63 rfl (by decide) ?_
          refine sk_goto 68 dX7_coveredBy_64 (by decide) ?_
          refine sk_istore (lv2 := [(6, .int 1), (0, .ref 0), (1, .long v1), (3, .int v3), (4, .int v4), (5, .int v5)]) 70 dX7_coveredBy_68 rfl (by decide) rfl ?_
          refine sk_iload 4 72 dX7_coveredBy_70 rfl rfl ?_
          refine sk_iload 0 74 dX7_coveredBy_72 rfl rfl ?_
          refine sk_if_eq 84 77 dX7_coveredBy_74 (by decide) rfl (fun hc => ?_) (fun hc => ?_)
          · have h := h.1 hc
            refine sk_iconst (v := 0) 85 dX7_coveredBy_84 rfl (by decide) ?_
            refine sk_ior 86 dX7_coveredBy_85 rfl ?_
            refine sk_istore (lv2 := [(4, .int (v4 ||| 0)), (6, .int 1), (0, .ref 0), (1, .long v1), (3, .int v3), (5, .int v5)]) 88 dX7_coveredBy_86 rfl (by decide) rfl ?_
            refine sk_iinc (v := (v5 + 1)) (lv2 := [(5, .int (v5 + 1)), (4, .int (v4 ||| 0)), (6, .int 1), (0, .ref 0), (1, .long v1), (3, .int v3)]) 5 91 dX7_coveredBy_88 rfl rfl rfl (by decide) rfl ?_
            refine sk_goto 6 dX7_coveredBy_91 (by decide) ?_
            refine sk_perm (lv2 := [(0, .ref 0), (1, .long v1), (3, .int v3), (4, .int (v4 ||| 0)), (5, .int (v5 + 1))]) [3, 4, 5, 1, 0] rfl ?_
            exact h
          · have h := h.2 hc
            refine sk_iconst (v := 1) 78 dX7_coveredBy_77 rfl (by decide) ?_
            refine sk_iload 5 80 dX7_coveredBy_78 rfl rfl ?_
            refine sk_ishl 81 dX7_coveredBy_80 rfl ?_
            refine sk_goto 85 dX7_coveredBy_81 (by decide) ?_
            refine sk_ior 86 dX7_coveredBy_85 rfl ?_
            refine sk_istore (lv2 := [(4, .int (v4 ||| (1 <<< (v5 &&& 31)))), (6, .int 1), (0, .ref 0), (1, .long v1), (3, .int v3), (5, .int v5)]) 88 dX7_coveredBy_86 rfl (by decide) rfl ?_
            refine sk_iinc (v := (v5 + 1)) (lv2 := [(5, .int (v5 + 1)), (4, .int (v4 ||| (1 <<< (v5 &&& 31)))), (6, .int 1), (0, .ref 0), (1, .long v1), (3, .int v3)]) 5 91 dX7_coveredBy_88 rfl rfl rfl (by decide) rfl ?_
            refine sk_goto 6 dX7_coveredBy_91 (by decide) ?_
            refine sk_perm (lv2 := [(0, .ref 0), (1, .long v1), (3, .int v3), (4, .int (v4 ||| (1 <<< (v5 &&& 31)))), (5, .int (v5 + 1))]) [3, 4, 5, 1, 0] rfl ?_
            exact h
      · have h := h.2 hc
        refine sk_aload_n 0 36 dX7_coveredBy_35 rfl rfl rfl ?_
        refine sk_iload 4 38 dX7_coveredBy_36 rfl rfl ?_
        refine sk_bipush (v := 6) 40 dX7_coveredBy_38 rfl (by decide) ?_
        refine sk_callVi [.int v5, .int 6] [] 43 dX7_coveredBy_40 rfl mfX7_its lkX7_111 miX7_its msX7_its sm_0 rfl rfl rfl rfl (by simp [Value.category]) hd0 (sk_Cm h ?_)
        rintro w t40 ⟨r40, hw, h⟩
        refine ⟨r40, hw, ?_⟩
        refine sk_bipush (v := 8) 45 dX7_coveredBy_43 rfl (by decide) ?_
        refine sk_idiv 46 dX7_coveredBy_45 rfl (by decide) ?_
        refine sk_iload_n 2 47 dX7_coveredBy_46 rfl rfl rfl ?_
        refine sk_icmp_ne 67 50 dX7_coveredBy_47 (by decide) rfl (fun hc => ?_) (fun hc => ?_)
        · have h := h.1 hc
          refine sk_iconst (v := 0) 68 dX7_coveredBy_67 rfl (by decide) ?_
          refine sk_istore (lv2 := [(6, .int 0), (0, .ref 0), (1, .long v1), (3, .int v3), (4, .int v4), (5, .int v5)]) 70 dX7_coveredBy_68 rfl (by decide) rfl ?_
          refine sk_iload 4 72 dX7_coveredBy_70 rfl rfl ?_
          refine sk_iload 0 74 dX7_coveredBy_72 rfl rfl ?_
          refine sk_if_eq 84 77 dX7_coveredBy_74 (by decide) rfl (fun hc => ?_) (fun hc => ?_)
          · have h := h.1 hc
            refine sk_iconst (v := 0) 85 dX7_coveredBy_84 rfl (by decide) ?_
            refine sk_ior 86 dX7_coveredBy_85 rfl ?_
            refine sk_istore (lv2 := [(4, .int (v4 ||| 0)), (6, .int 0), (0, .ref 0), (1, .long v1), (3, .int v3), (5, .int v5)]) 88 dX7_coveredBy_86 rfl (by decide) rfl ?_
            refine sk_iinc (v := (v5 + 1)) (lv2 := [(5, .int (v5 + 1)), (4, .int (v4 ||| 0)), (6, .int 0), (0, .ref 0), (1, .long v1), (3, .int v3)]) 5 91 dX7_coveredBy_88 rfl rfl rfl (by decide) rfl ?_
            refine sk_goto 6 dX7_coveredBy_91 (by decide) ?_
            refine sk_perm (lv2 := [(0, .ref 0), (1, .long v1), (3, .int v3), (4, .int (v4 ||| 0)), (5, .int (v5 + 1))]) [3, 4, 5, 1, 0] rfl ?_
            exact h
          · have h := h.2 hc
            refine sk_iconst (v := 1) 78 dX7_coveredBy_77 rfl (by decide) ?_
            refine sk_iload 5 80 dX7_coveredBy_78 rfl rfl ?_
            refine sk_ishl 81 dX7_coveredBy_80 rfl ?_
            refine sk_goto 85 dX7_coveredBy_81 (by decide) ?_
            refine sk_ior 86 dX7_coveredBy_85 rfl ?_
            refine sk_istore (lv2 := [(4, .int (v4 ||| (1 <<< (v5 &&& 31)))), (6, .int 0), (0, .ref 0), (1, .long v1), (3, .int v3), (5, .int v5)]) 88 dX7_coveredBy_86 rfl (by decide) rfl ?_
            refine sk_iinc (v := (v5 + 1)) (lv2 := [(5, .int (v5 + 1)), (4, .int (v4 ||| (1 <<< (v5 &&& 31)))), (6, .int 0), (0, .ref 0), (1, .long v1), (3, .int v3)]) 5 91 dX7_coveredBy_88 rfl rfl rfl (by decide) rfl ?_
            refine sk_goto 6 dX7_coveredBy_91 (by decide) ?_
            refine sk_perm (lv2 := [(0, .ref 0), (1, .long v1), (3, .int v3), (4, .int (v4 ||| (1 <<< (v5 &&& 31)))), (5, .int (v5 + 1))]) [3, 4, 5, 1, 0] rfl ?_
            exact h
        · have h := h.2 hc
          refine sk_aload_n 0 51 dX7_coveredBy_50 rfl rfl rfl ?_
          refine sk_iload 4 53 dX7_coveredBy_51 rfl rfl ?_
          refine sk_callVl [.int v5] [] 56 dX7_coveredBy_53 rfl mfX7_covers lkX7_140 miX7_covers msX7_covers sm_0 rfl rfl rfl rfl (by simp [Value.category]) hd0 (sk_Cm h ?_)
          rintro w t53 ⟨r53, hw, h⟩
          refine ⟨r53, hw, ?_⟩
          refine sk_lload_n 1 57 dX7_coveredBy_56 rfl rfl rfl ?_
          refine sk_land 58 dX7_coveredBy_57 rfl ?_
          refine sk_lconst (v := 0) 59 dX7_coveredBy_58 rfl (by decide) ?_
          refine sk_lcmp 60 dX7_coveredBy_59 rfl ?_
          refine sk_if_eq 67 63 dX7_coveredBy_60 (by decide) rfl (fun hc => ?_) (fun hc => ?_)
          · have h := h.1 hc
            refine sk_iconst (v := 0) 68 dX7_coveredBy_67 rfl (by decide) ?_
            refine sk_istore (lv2 := [(6, .int 0), (0, .ref 0), (1, .long v1), (3, .int v3), (4, .int v4), (5, .int v5)]) 70 dX7_coveredBy_68 rfl (by decide) rfl ?_
            refine sk_iload 4 72 dX7_coveredBy_70 rfl rfl ?_
            refine sk_iload 0 74 dX7_coveredBy_72 rfl rfl ?_
            refine sk_if_eq 84 77 dX7_coveredBy_74 (by decide) rfl (fun hc => ?_) (fun hc => ?_)
            · have h := h.1 hc
              refine sk_iconst (v := 0) 85 dX7_coveredBy_84 rfl (by decide) ?_
              refine sk_ior 86 dX7_coveredBy_85 rfl ?_
              refine sk_istore (lv2 := [(4, .int (v4 ||| 0)), (6, .int 0), (0, .ref 0), (1, .long v1), (3, .int v3), (5, .int v5)]) 88 dX7_coveredBy_86 rfl (by decide) rfl ?_
              refine sk_iinc (v := (v5 + 1)) (lv2 := [(5, .int (v5 + 1)), (4, .int (v4 ||| 0)), (6, .int 0), (0, .ref 0), (1, .long v1), (3, .int v3)]) 5 91 dX7_coveredBy_88 rfl rfl rfl (by decide) rfl ?_
              refine sk_goto 6 dX7_coveredBy_91 (by decide) ?_
              refine sk_perm (lv2 := [(0, .ref 0), (1, .long v1), (3, .int v3), (4, .int (v4 ||| 0)), (5, .int (v5 + 1))]) [3, 4, 5, 1, 0] rfl ?_
              exact h
            · have h := h.2 hc
              refine sk_iconst (v := 1) 78 dX7_coveredBy_77 rfl (by decide) ?_
              refine sk_iload 5 80 dX7_coveredBy_78 rfl rfl ?_
              refine sk_ishl 81 dX7_coveredBy_80 rfl ?_
              refine sk_goto 85 dX7_coveredBy_81 (by decide) ?_
              refine sk_ior 86 dX7_coveredBy_85 rfl ?_
              refine sk_istore (lv2 := [(4, .int (v4 ||| (1 <<< (v5 &&& 31)))), (6, .int 0), (0, .ref 0), (1, .long v1), (3, .int v3), (5, .int v5)]) 88 dX7_coveredBy_86 rfl (by decide) rfl ?_
              refine sk_iinc (v := (v5 + 1)) (lv2 := [(5, .int (v5 + 1)), (4, .int (v4 ||| (1 <<< (v5 &&& 31)))), (6, .int 0), (0, .ref 0), (1, .long v1), (3, .int v3)]) 5 91 dX7_coveredBy_88 rfl rfl rfl (by decide) rfl ?_
              refine sk_goto 6 dX7_coveredBy_91 (by decide) ?_
              refine sk_perm (lv2 := [(0, .ref 0), (1, .long v1), (3, .int v3), (4, .int (v4 ||| (1 <<< (v5 &&& 31)))), (5, .int (v5 + 1))]) [3, 4, 5, 1, 0] rfl ?_
              exact h
          · have h := h.2 hc
            refine sk_iconst (v := 1) 64 dX7_coveredBy_63 rfl (by decide) ?_
            refine sk_goto 68 dX7_coveredBy_64 (by decide) ?_
            refine sk_istore (lv2 := [(6, .int 1), (0, .ref 0), (1, .long v1), (3, .int v3), (4, .int v4), (5, .int v5)]) 70 dX7_coveredBy_68 rfl (by decide) rfl ?_
            refine sk_iload 4 72 dX7_coveredBy_70 rfl rfl ?_
            refine sk_iload 0 74 dX7_coveredBy_72 rfl rfl ?_
            refine sk_if_eq 84 77 dX7_coveredBy_74 (by decide) rfl (fun hc => ?_) (fun hc => ?_)
            · have h := h.1 hc
              refine sk_iconst (v := 0) 85 dX7_coveredBy_84 rfl (by decide) ?_
              refine sk_ior 86 dX7_coveredBy_85 rfl ?_
              refine sk_istore (lv2 := [(4, .int (v4 ||| 0)), (6, .int 1), (0, .ref 0), (1, .long v1), (3, .int v3), (5, .int v5)]) 88 dX7_coveredBy_86 rfl (by decide) rfl ?_
              refine sk_iinc (v := (v5 + 1)) (lv2 := [(5, .int (v5 + 1)), (4, .int (v4 ||| 0)), (6, .int 1), (0, .ref 0), (1, .long v1), (3, .int v3)]) 5 91 dX7_coveredBy_88 rfl rfl rfl (by decide) rfl ?_
              refine sk_goto 6 dX7_coveredBy_91 (by decide) ?_
              refine sk_perm (lv2 := [(0, .ref 0), (1, .long v1), (3, .int v3), (4, .int (v4 ||| 0)), (5, .int (v5 + 1))]) [3, 4, 5, 1, 0] rfl ?_
              exact h
            · have h := h.2 hc
              refine sk_iconst (v := 1) 78 dX7_coveredBy_77 rfl (by decide) ?_
              refine sk_iload 5 80 dX7_coveredBy_78 rfl rfl ?_
              refine sk_ishl 81 dX7_coveredBy_80 rfl ?_
              refine sk_goto 85 dX7_coveredBy_81 (by decide) ?_
              refine sk_ior 86 dX7_coveredBy_85 rfl ?_
              refine sk_istore (lv2 := [(4, .int (v4 ||| (1 <<< (v5 &&& 31)))), (6, .int 1), (0, .ref 0), (1, .long v1), (3, .int v3), (5, .int v5)]) 88 dX7_coveredBy_86 rfl (by decide) rfl ?_
              refine sk_iinc (v := (v5 + 1)) (lv2 := [(5, .int (v5 + 1)), (4, .int (v4 ||| (1 <<< (v5 &&& 31)))), (6, .int 1), (0, .ref 0), (1, .long v1), (3, .int v3)]) 5 91 dX7_coveredBy_88 rfl rfl rfl (by decide) rfl ?_
              refine sk_goto 6 dX7_coveredBy_91 (by decide) ?_
              refine sk_perm (lv2 := [(0, .ref 0), (1, .long v1), (3, .int v3), (4, .int (v4 ||| (1 <<< (v5 &&& 31)))), (5, .int (v5 + 1))]) [3, 4, 5, 1, 0] rfl ?_
              exact h

theorem wX7_over {d : Nat} {τ : sk_T} {K : sk_K} {v1 : Int32} {v2 : Int32} (hd0 : 0 < d)
  (h : sk_C sk_Sm (d - 1) mX7_in [.int v1, .int 0, .int 47] τ (fun w t4 => ∃ r4 : Int32, w = some (.int r4) ∧
      ((r4 = 0 →
        sk_C sk_Sm (d - 1) mX7_error [.ref 0, .int 1] t4 (fun w t21 => ∃ r21 : Int32, w = some (.int r21) ∧
          K (some (.int r21)) t21
        )
      ) ∧
      (¬ r4 = 0 →
        sk_C sk_Sm (d - 1) mX7_in [.int v2, .int 0, .int 1] t4 (fun w t13 => ∃ r13 : Int32, w = some (.int r13) ∧
          ((¬ r13 = 0 →
            sk_C sk_Sm (d - 1) mX7_coveredBy [.ref 0, .long (1 <<< (Int32.toInt64 v1 &&& 63)), .int (-1)] t13 (fun w t30 => ∃ r30 : Int32, w = some (.int r30) ∧
              sk_G sk_Sm d mX7_over 37 [(0, .ref 0), (2, .int v2), (3, .int r30), (4, .int 0)] [] t30 K
            )
          ) ∧
          (r13 = 0 →
            sk_C sk_Sm (d - 1) mX7_error [.ref 0, .int 1] t13 (fun w t21 => ∃ r21 : Int32, w = some (.int r21) ∧
              K (some (.int r21)) t21
            )
          ))
        )
      ))
    )) :
  sk_C sk_Sm d mX7_over [.ref 0, .int v1, .int v2] τ K := by
  refine sk_enter mfX7_over (Nat.le_of_ble_eq_true rfl) ?_
  show sk_G sk_Sm d mX7_over 0 [(0, .ref 0), (1, .int v1), (2, .int v2)] [] τ K
  refine sk_iload_n 1 1 dX7_over_0 rfl rfl rfl ?_
  refine sk_iconst (v := 0) 2 dX7_over_1 rfl (by decide) ?_
  refine sk_bipush (v := 47) 4 dX7_over_2 rfl (by decide) ?_
  refine sk_callSi [.int v1, .int 0, .int 47] [] 7 dX7_over_4 rfl mfX7_in lkX7_47 miX7_in rfl rfl (by simp [Value.category]) hd0 (sk_Cm h ?_)
  rintro w t4 ⟨r4, hw, h⟩
  refine ⟨r4, hw, ?_⟩
  refine sk_if_eq 19 10 dX7_over_7 (by decide) rfl (fun hc => ?_) (fun hc => ?_)
  · have h := h.1 hc
    refine sk_aload_n 0 20 dX7_over_19 rfl rfl rfl ?_
    refine sk_iconst (v := 1) 21 dX7_over_20 rfl (by decide) ?_
    refine sk_callVi [.int 1] [] 24 dX7_over_21 rfl mfX7_error lkX7_51 miX7_error msX7_error sm_0 rfl rfl rfl rfl (by simp [Value.category]) hd0 (sk_Cm h ?_)
    rintro w t21 ⟨r21, hw, h⟩
    refine ⟨r21, hw, ?_⟩
    exact sk_iret dX7_over_24 rfl rfl h
  · have h := h.2 hc
    refine sk_iload_n 2 11 dX7_over_10 rfl rfl rfl ?_
    refine sk_iconst (v := 0) 12 dX7_over_11 rfl (by decide) ?_
    refine sk_iconst (v := 1) 13 dX7_over_12 rfl (by decide) ?_
    refine sk_callSi [.int v2, .int 0, .int 1] [] 16 dX7_over_13 rfl mfX7_in lkX7_47 miX7_in rfl rfl (by simp [Value.category]) hd0 (sk_Cm h ?_)
    rintro w t13 ⟨r13, hw, h⟩
    refine ⟨r13, hw, ?_⟩
    refine sk_if_ne 25 19 dX7_over_16 (by decide) rfl (fun hc => ?_) (fun hc => ?_)
    · have h := h.1 hc
      refine sk_aload_n 0 26 dX7_over_25 rfl rfl rfl ?_
      refine sk_lconst (v := 1) 27 dX7_over_26 rfl (by decide) ?_
      refine sk_iload_n 1 28 dX7_over_27 rfl rfl rfl ?_
      refine sk_lshl 29 dX7_over_28 rfl ?_
      refine sk_iconst (v := (-1)) 30 dX7_over_29 rfl (by decide) ?_
      refine sk_callVi [.long (1 <<< (Int32.toInt64 v1 &&& 63)), .int (-1)] [] 33 dX7_over_30 rfl mfX7_coveredBy lkX7_201 miX7_coveredBy msX7_coveredBy sm_0 rfl rfl rfl rfl (by simp [Value.category]) hd0 (sk_Cm h ?_)
      rintro w t30 ⟨r30, hw, h⟩
      refine ⟨r30, hw, ?_⟩
      refine sk_istore_n (lv2 := [(3, .int r30), (0, .ref 0), (1, .int v1), (2, .int v2)]) 34 dX7_over_33 rfl rfl (by decide) rfl ?_
      refine sk_iconst (v := 0) 35 dX7_over_34 rfl (by decide) ?_
      refine sk_istore (lv2 := [(4, .int 0), (3, .int r30), (0, .ref 0), (1, .int v1), (2, .int v2)]) 37 dX7_over_35 rfl (by decide) rfl ?_
      refine sk_perm (lv2 := [(0, .ref 0), (2, .int v2), (3, .int r30), (4, .int 0)]) [2, 4, 1, 0] rfl ?_
      exact h
    · have h := h.2 hc
      refine sk_aload_n 0 20 dX7_over_19 rfl rfl rfl ?_
      refine sk_iconst (v := 1) 21 dX7_over_20 rfl (by decide) ?_
      refine sk_callVi [.int 1] [] 24 dX7_over_21 rfl mfX7_error lkX7_51 miX7_error msX7_error sm_0 rfl rfl rfl rfl (by simp [Value.category]) hd0 (sk_Cm h ?_)
      rintro w t21 ⟨r21, hw, h⟩
      refine ⟨r21, hw, ?_⟩
      exact sk_iret dX7_over_24 rfl rfl h

theorem bX7_over_37 {d : Nat} {τ : sk_T} {K : sk_K} {v2 : Int32} {v3 : Int32} {v4 : Int32}
  (h : ((¬ v2 = 1 →
      K (some (.int v3)) τ
    ) ∧
    (v2 = 1 →
      ((v4 = v3 →
        K (some (.int v3)) τ
      ) ∧
      (¬ v4 = v3 →
        sk_G sk_Sm d mX7_over 54 [(0, .ref 0), (2, .int v2), (3, .int v3), (4, .int v3), (5, .int 0)] [] τ K
      ))
    ))) :
  sk_G sk_Sm d mX7_over 37 [(0, .ref 0), (2, .int v2), (3, .int v3), (4, .int v4)] [] τ K := by
  refine sk_iload_n 1 38 dX7_over_37 rfl rfl rfl ?_
  refine sk_iconst (v := 1) 39 dX7_over_38 rfl (by decide) ?_
  refine sk_icmp_ne 125 42 dX7_over_39 (by decide) rfl (fun hc => ?_) (fun hc => ?_)
  · have h := h.1 hc
    refine sk_iload_n 2 126 dX7_over_125 rfl rfl rfl ?_
    exact sk_iret dX7_over_126 rfl rfl h
  · have h := h.2 hc
    refine sk_iload 3 44 dX7_over_42 rfl rfl ?_
    refine sk_iload_n 2 45 dX7_over_44 rfl rfl rfl ?_
    refine sk_icmp_eq 125 48 dX7_over_45 (by decide) rfl (fun hc => ?_) (fun hc => ?_)
    · have h := h.1 hc
      refine sk_iload_n 2 126 dX7_over_125 rfl rfl rfl ?_
      exact sk_iret dX7_over_126 rfl rfl h
    · have h := h.2 hc
      refine sk_iload_n 2 49 dX7_over_48 rfl rfl rfl ?_
      refine sk_istore (lv2 := [(4, .int v3), (0, .ref 0), (2, .int v2), (3, .int v3)]) 51 dX7_over_49 rfl (by decide) rfl ?_
      refine sk_iconst (v := 0) 52 dX7_over_51 rfl (by decide) ?_
      refine sk_istore (lv2 := [(5, .int 0), (4, .int v3), (0, .ref 0), (2, .int v2), (3, .int v3)]) 54 dX7_over_52 rfl (by decide) rfl ?_
      refine sk_perm (lv2 := [(0, .ref 0), (2, .int v2), (3, .int v3), (4, .int v3), (5, .int 0)]) [2, 3, 4, 1, 0] rfl ?_
      exact h

theorem bX7_over_54 {d : Nat} {τ : sk_T} {K : sk_K} {v2 : Int32} {v3 : Int32} {v4 : Int32} {v5 : Int32} (hd0 : 0 < d)
  (h : (((τ 1 6) ≤ v5 →
      sk_G sk_Sm d mX7_over 37 [(0, .ref 0), (2, .int v2), (3, .int v3), (4, .int v4)] [] τ K
    ) ∧
    (¬ (τ 1 6) ≤ v5 →
      sk_C sk_Sm (d - 1) mX7_its [.ref 0, .int v5, .int 6] τ (fun w t71 => ∃ r71 : Int32, w = some (.int r71) ∧
        ((¬ ((v4 >>> (v5 &&& 31)) &&& 1) = 1 →
          sk_G sk_Sm d mX7_over 54 [(0, .ref 0), (2, .int v2), (3, .int (v3 ||| 0)), (4, .int v4), (5, .int (v5 + 1))] [] t71 K
        ) ∧
        (((v4 >>> (v5 &&& 31)) &&& 1) = 1 →
          (((r71 / 8) ≤ 0 →
            sk_G sk_Sm d mX7_over 54 [(0, .ref 0), (2, .int v2), (3, .int (v3 ||| 0)), (4, .int v4), (5, .int (v5 + 1))] [] t71 K
          ) ∧
          (¬ (r71 / 8) ≤ 0 →
            sk_C sk_Sm (d - 1) mX7_own [.ref 0, .int v5] t71 (fun w t100 => ∃ r100 : Int64, w = some (.long r100) ∧
              sk_C sk_Sm (d - 1) mX7_coveredBy [.ref 0, .long r100, .int ((r71 / 8) - 1)] t100 (fun w t107 => ∃ r107 : Int32, w = some (.int r107) ∧
                sk_G sk_Sm d mX7_over 54 [(0, .ref 0), (2, .int v2), (3, .int (v3 ||| r107)), (4, .int v4), (5, .int (v5 + 1))] [] t107 K
              )
            )
          ))
        ))
      )
    ))) :
  sk_G sk_Sm d mX7_over 54 [(0, .ref 0), (2, .int v2), (3, .int v3), (4, .int v4), (5, .int v5)] [] τ K := by
  refine sk_iload 4 56 dX7_over_54 rfl rfl ?_
  refine sk_aload_n 0 57 dX7_over_56 rfl rfl rfl ?_
  refine sk_getR (r := 1) 60 dX7_over_57 rfl lfX7_7 sm_0 rfl ?_
  refine sk_bipush (v := 6) 62 dX7_over_60 rfl (by decide) ?_
  refine sk_iald 63 dX7_over_62 rfl sm_1 (by unfold vp_in; decide) 6 rfl ?_
  refine sk_icmp_ge 122 66 dX7_over_63 (by decide) rfl (fun hc => ?_) (fun hc => ?_)
  · have h := h.1 hc
    refine sk_goto 37 dX7_over_122 (by decide) ?_
    refine sk_perm (lv2 := [(0, .ref 0), (2, .int v2), (3, .int v3), (4, .int v4)]) [0, 1, 2, 3] rfl ?_
    exact h
  · have h := h.2 hc
    refine sk_aload_n 0 67 dX7_over_66 rfl rfl rfl ?_
    refine sk_iload 4 69 dX7_over_67 rfl rfl ?_
    refine sk_bipush (v := 6) 71 dX7_over_69 rfl (by decide) ?_
    refine sk_callVi [.int v5, .int 6] [] 74 dX7_over_71 rfl mfX7_its lkX7_111 miX7_its msX7_its sm_0 rfl rfl rfl rfl (by simp [Value.category]) hd0 (sk_Cm h ?_)
    rintro w t71 ⟨r71, hw, h⟩
    refine ⟨r71, hw, ?_⟩
    refine sk_bipush (v := 8) 76 dX7_over_74 rfl (by decide) ?_
    refine sk_idiv 77 dX7_over_76 rfl (by decide) ?_
    refine sk_istore (lv2 := [(6, .int (r71 / 8)), (0, .ref 0), (2, .int v2), (3, .int v3), (4, .int v4), (5, .int v5)]) 79 dX7_over_77 rfl (by decide) rfl ?_
    refine sk_iload_n 3 80 dX7_over_79 rfl rfl rfl ?_
    refine sk_iload 4 82 dX7_over_80 rfl rfl ?_
    refine sk_iload 5 84 dX7_over_82 rfl rfl ?_
    refine sk_ishr 85 dX7_over_84 rfl ?_
    refine sk_iconst (v := 1) 86 dX7_over_85 rfl (by decide) ?_
    refine sk_iand 87 dX7_over_86 rfl ?_
    refine sk_iconst (v := 1) 88 dX7_over_87 rfl (by decide) ?_
    refine sk_icmp_ne 113 91 dX7_over_88 (by decide) rfl (fun hc => ?_) (fun hc => ?_)
    · have h := h.1 hc
      refine sk_iconst (v := 0) 114 dX7_over_113 rfl (by decide) ?_
      refine sk_ior 115 dX7_over_114 rfl ?_
      refine sk_istore_n (lv2 := [(3, .int (v3 ||| 0)), (6, .int (r71 / 8)), (0, .ref 0), (2, .int v2), (4, .int v4), (5, .int v5)]) 116 dX7_over_115 rfl rfl (by decide) rfl ?_
      refine sk_iinc (v := (v5 + 1)) (lv2 := [(5, .int (v5 + 1)), (3, .int (v3 ||| 0)), (6, .int (r71 / 8)), (0, .ref 0), (2, .int v2), (4, .int v4)]) 5 119 dX7_over_116 rfl rfl rfl (by decide) rfl ?_
      refine sk_goto 54 dX7_over_119 (by decide) ?_
      refine sk_perm (lv2 := [(0, .ref 0), (2, .int v2), (3, .int (v3 ||| 0)), (4, .int v4), (5, .int (v5 + 1))]) [3, 4, 1, 5, 0] rfl ?_
      exact h
    · have h := h.2 hc
      refine sk_iload 0 93 dX7_over_91 rfl rfl ?_
      refine sk_if_le 113 96 dX7_over_93 (by decide) rfl (fun hc => ?_) (fun hc => ?_)
      · have h := h.1 hc
        refine sk_iconst (v := 0) 114 dX7_over_113 rfl (by decide) ?_
        refine sk_ior 115 dX7_over_114 rfl ?_
        refine sk_istore_n (lv2 := [(3, .int (v3 ||| 0)), (6, .int (r71 / 8)), (0, .ref 0), (2, .int v2), (4, .int v4), (5, .int v5)]) 116 dX7_over_115 rfl rfl (by decide) rfl ?_
        refine sk_iinc (v := (v5 + 1)) (lv2 := [(5, .int (v5 + 1)), (3, .int (v3 ||| 0)), (6, .int (r71 / 8)), (0, .ref 0), (2, .int v2), (4, .int v4)]) 5 119 dX7_over_116 rfl rfl rfl (by decide) rfl ?_
        refine sk_goto 54 dX7_over_119 (by decide) ?_
        refine sk_perm (lv2 := [(0, .ref 0), (2, .int v2), (3, .int (v3 ||| 0)), (4, .int v4), (5, .int (v5 + 1))]) [3, 4, 1, 5, 0] rfl ?_
        exact h
      · have h := h.2 hc
        refine sk_aload_n 1 97 dX7_over_96 rfl rfl rfl ?_
        refine sk_aload_n 1 98 dX7_over_97 rfl rfl rfl ?_
        refine sk_iload 5 100 dX7_over_98 rfl rfl ?_
        refine sk_callVl [.int v5] [.ref 0, .int v3] 103 dX7_over_100 rfl mfX7_own lkX7_134 miX7_own msX7_own sm_0 rfl rfl rfl rfl (by simp [Value.category]) hd0 (sk_Cm h ?_)
        rintro w t100 ⟨r100, hw, h⟩
        refine ⟨r100, hw, ?_⟩
        refine sk_iload 0 105 dX7_over_103 rfl rfl ?_
        refine sk_iconst (v := 1) 106 dX7_over_105 rfl (by decide) ?_
        refine sk_isub 107 dX7_over_106 rfl ?_
        refine sk_callVi [.long r100, .int ((r71 / 8) - 1)] [.int v3] 110 dX7_over_107 rfl mfX7_coveredBy lkX7_201 miX7_coveredBy msX7_coveredBy sm_0 rfl rfl rfl rfl (by simp [Value.category]) hd0 (sk_Cm h ?_)
        rintro w t107 ⟨r107, hw, h⟩
        refine ⟨r107, hw, ?_⟩
        refine sk_goto 114 dX7_over_110 (by decide) ?_
        refine sk_ior 115 dX7_over_114 rfl ?_
        refine sk_istore_n (lv2 := [(3, .int (v3 ||| r107)), (6, .int (r71 / 8)), (0, .ref 0), (2, .int v2), (4, .int v4), (5, .int v5)]) 116 dX7_over_115 rfl rfl (by decide) rfl ?_
        refine sk_iinc (v := (v5 + 1)) (lv2 := [(5, .int (v5 + 1)), (3, .int (v3 ||| r107)), (6, .int (r71 / 8)), (0, .ref 0), (2, .int v2), (4, .int v4)]) 5 119 dX7_over_116 rfl rfl rfl (by decide) rfl ?_
        refine sk_goto 54 dX7_over_119 (by decide) ?_
        refine sk_perm (lv2 := [(0, .ref 0), (2, .int v2), (3, .int (v3 ||| r107)), (4, .int v4), (5, .int (v5 + 1))]) [3, 4, 1, 5, 0] rfl ?_
        exact h

theorem wX7_lifts {d : Nat} {τ : sk_T} {K : sk_K} {v1 : Int32} {v2 : Int32} (hd0 : 0 < d)
  (h : sk_C sk_Sm (d - 1) mX7_isGale [.int v1] τ (fun w t1 => ∃ r1 : Int32, w = some (.int r1) ∧
      ((r1 = 0 →
        sk_C sk_Sm (d - 1) mX7_error [.ref 0, .int 1] t1 (fun w t18 => ∃ r18 : Int32, w = some (.int r18) ∧
          K (some (.int r18)) t18
        )
      ) ∧
      (¬ r1 = 0 →
        sk_C sk_Sm (d - 1) mX7_in [.int v2, .int 0, .int 1] t1 (fun w t10 => ∃ r10 : Int32, w = some (.int r10) ∧
          ((¬ r10 = 0 →
            sk_C sk_Sm (d - 1) mX7_findHolds [.ref 0, .int v1] t10 (fun w t24 => w = none ∧
              ((¬ v2 = 0 →
                sk_C sk_Sm (d - 1) mX7_dryBehind [.ref 0, .int v1] t24 (fun w t42 => ∃ r42 : Int64, w = some (.long r42) ∧
                  sk_C sk_Sm (d - 1) mX7_bitsOf [.long r42] t42 (fun w t45 => ∃ r45 : Int32, w = some (.int r45) ∧
                    K (some (.int r45)) t45
                  )
                )
              ) ∧
              (v2 = 0 →
                sk_C sk_Sm (d - 1) mX7_liftedBy [.ref 0, .int v1, .int 0] t24 (fun w t34 => ∃ r34 : Int32, w = some (.int r34) ∧
                  K (some (.int r34)) t34
                )
              ))
            )
          ) ∧
          (r10 = 0 →
            sk_C sk_Sm (d - 1) mX7_error [.ref 0, .int 1] t10 (fun w t18 => ∃ r18 : Int32, w = some (.int r18) ∧
              K (some (.int r18)) t18
            )
          ))
        )
      ))
    )) :
  sk_C sk_Sm d mX7_lifts [.ref 0, .int v1, .int v2] τ K := by
  refine sk_enter mfX7_lifts (Nat.le_of_ble_eq_true rfl) ?_
  show sk_G sk_Sm d mX7_lifts 0 [(0, .ref 0), (1, .int v1), (2, .int v2)] [] τ K
  refine sk_iload_n 1 1 dX7_lifts_0 rfl rfl rfl ?_
  refine sk_callSi [.int v1] [] 4 dX7_lifts_1 rfl mfX7_isGale lkX7_186 miX7_isGale rfl rfl (by simp [Value.category]) hd0 (sk_Cm h ?_)
  rintro w t1 ⟨r1, hw, h⟩
  refine ⟨r1, hw, ?_⟩
  refine sk_if_eq 16 7 dX7_lifts_4 (by decide) rfl (fun hc => ?_) (fun hc => ?_)
  · have h := h.1 hc
    refine sk_aload_n 0 17 dX7_lifts_16 rfl rfl rfl ?_
    refine sk_iconst (v := 1) 18 dX7_lifts_17 rfl (by decide) ?_
    refine sk_callVi [.int 1] [] 21 dX7_lifts_18 rfl mfX7_error lkX7_51 miX7_error msX7_error sm_0 rfl rfl rfl rfl (by simp [Value.category]) hd0 (sk_Cm h ?_)
    rintro w t18 ⟨r18, hw, h⟩
    refine ⟨r18, hw, ?_⟩
    exact sk_iret dX7_lifts_21 rfl rfl h
  · have h := h.2 hc
    refine sk_iload_n 2 8 dX7_lifts_7 rfl rfl rfl ?_
    refine sk_iconst (v := 0) 9 dX7_lifts_8 rfl (by decide) ?_
    refine sk_iconst (v := 1) 10 dX7_lifts_9 rfl (by decide) ?_
    refine sk_callSi [.int v2, .int 0, .int 1] [] 13 dX7_lifts_10 rfl mfX7_in lkX7_47 miX7_in rfl rfl (by simp [Value.category]) hd0 (sk_Cm h ?_)
    rintro w t10 ⟨r10, hw, h⟩
    refine ⟨r10, hw, ?_⟩
    refine sk_if_ne 22 16 dX7_lifts_13 (by decide) rfl (fun hc => ?_) (fun hc => ?_)
    · have h := h.1 hc
      refine sk_aload_n 0 23 dX7_lifts_22 rfl rfl rfl ?_
      refine sk_iload_n 1 24 dX7_lifts_23 rfl rfl rfl ?_
      refine sk_callVv [.int v1] [] 27 dX7_lifts_24 rfl mfX7_findHolds lkX7_146 miX7_findHolds msX7_findHolds sm_0 rfl rfl rfl rfl (by simp [Value.category]) hd0 (sk_Cm h ?_)
      rintro w t24 ⟨hw, h⟩
      refine ⟨hw, ?_⟩
      refine sk_iload_n 2 28 dX7_lifts_27 rfl rfl rfl ?_
      refine sk_if_ne 40 31 dX7_lifts_28 (by decide) rfl (fun hc => ?_) (fun hc => ?_)
      · have h := h.1 hc
        refine sk_aload_n 0 41 dX7_lifts_40 rfl rfl rfl ?_
        refine sk_iload_n 1 42 dX7_lifts_41 rfl rfl rfl ?_
        refine sk_callVl [.int v1] [] 45 dX7_lifts_42 rfl mfX7_dryBehind lkX7_205 miX7_dryBehind msX7_dryBehind sm_0 rfl rfl rfl rfl (by simp [Value.category]) hd0 (sk_Cm h ?_)
        rintro w t42 ⟨r42, hw, h⟩
        refine ⟨r42, hw, ?_⟩
        refine sk_callSi [.long r42] [] 48 dX7_lifts_45 rfl mfX7_bitsOf lkX7_182 miX7_bitsOf rfl rfl (by simp [Value.category]) hd0 (sk_Cm h ?_)
        rintro w t45 ⟨r45, hw, h⟩
        refine ⟨r45, hw, ?_⟩
        exact sk_iret dX7_lifts_48 rfl rfl h
      · have h := h.2 hc
        refine sk_aload_n 0 32 dX7_lifts_31 rfl rfl rfl ?_
        refine sk_iload_n 1 33 dX7_lifts_32 rfl rfl rfl ?_
        refine sk_iconst (v := 0) 34 dX7_lifts_33 rfl (by decide) ?_
        refine sk_callVi [.int v1, .int 0] [] 37 dX7_lifts_34 rfl mfX7_liftedBy lkX7_150 miX7_liftedBy msX7_liftedBy sm_0 rfl rfl rfl rfl (by simp [Value.category]) hd0 (sk_Cm h ?_)
        rintro w t34 ⟨r34, hw, h⟩
        refine ⟨r34, hw, ?_⟩
        refine sk_goto 48 dX7_lifts_37 (by decide) ?_
        exact sk_iret dX7_lifts_48 rfl rfl h
    · have h := h.2 hc
      refine sk_aload_n 0 17 dX7_lifts_16 rfl rfl rfl ?_
      refine sk_iconst (v := 1) 18 dX7_lifts_17 rfl (by decide) ?_
      refine sk_callVi [.int 1] [] 21 dX7_lifts_18 rfl mfX7_error lkX7_51 miX7_error msX7_error sm_0 rfl rfl rfl rfl (by simp [Value.category]) hd0 (sk_Cm h ?_)
      rintro w t18 ⟨r18, hw, h⟩
      refine ⟨r18, hw, ?_⟩
      exact sk_iret dX7_lifts_21 rfl rfl h

theorem wX7_fast {d : Nat} {τ : sk_T} {K : sk_K} {v1 : Int32} {v2 : Int32} (hd0 : 0 < d)
  (h : sk_C sk_Sm (d - 1) mX7_isGale [.int v1] τ (fun w t1 => ∃ r1 : Int32, w = some (.int r1) ∧
      ((r1 = 0 →
        sk_C sk_Sm (d - 1) mX7_error [.ref 0, .int 1] t1 (fun w t18 => ∃ r18 : Int32, w = some (.int r18) ∧
          K (some (.int r18)) t18
        )
      ) ∧
      (¬ r1 = 0 →
        sk_C sk_Sm (d - 1) mX7_in [.int v2, .int 0, .int 1] t1 (fun w t10 => ∃ r10 : Int32, w = some (.int r10) ∧
          ((¬ r10 = 0 →
            sk_C sk_Sm (d - 1) mX7_findHolds [.ref 0, .int v1] t10 (fun w t24 => w = none ∧
              sk_G sk_Sm d mX7_fast 32 [(0, .ref 0), (1, .int v1), (2, .int v2), (3, .int (-1)), (4, .int 0)] [] t24 K
            )
          ) ∧
          (r10 = 0 →
            sk_C sk_Sm (d - 1) mX7_error [.ref 0, .int 1] t10 (fun w t18 => ∃ r18 : Int32, w = some (.int r18) ∧
              K (some (.int r18)) t18
            )
          ))
        )
      ))
    )) :
  sk_C sk_Sm d mX7_fast [.ref 0, .int v1, .int v2] τ K := by
  refine sk_enter mfX7_fast (Nat.le_of_ble_eq_true rfl) ?_
  show sk_G sk_Sm d mX7_fast 0 [(0, .ref 0), (1, .int v1), (2, .int v2)] [] τ K
  refine sk_iload_n 1 1 dX7_fast_0 rfl rfl rfl ?_
  refine sk_callSi [.int v1] [] 4 dX7_fast_1 rfl mfX7_isGale lkX7_186 miX7_isGale rfl rfl (by simp [Value.category]) hd0 (sk_Cm h ?_)
  rintro w t1 ⟨r1, hw, h⟩
  refine ⟨r1, hw, ?_⟩
  refine sk_if_eq 16 7 dX7_fast_4 (by decide) rfl (fun hc => ?_) (fun hc => ?_)
  · have h := h.1 hc
    refine sk_aload_n 0 17 dX7_fast_16 rfl rfl rfl ?_
    refine sk_iconst (v := 1) 18 dX7_fast_17 rfl (by decide) ?_
    refine sk_callVi [.int 1] [] 21 dX7_fast_18 rfl mfX7_error lkX7_51 miX7_error msX7_error sm_0 rfl rfl rfl rfl (by simp [Value.category]) hd0 (sk_Cm h ?_)
    rintro w t18 ⟨r18, hw, h⟩
    refine ⟨r18, hw, ?_⟩
    exact sk_iret dX7_fast_21 rfl rfl h
  · have h := h.2 hc
    refine sk_iload_n 2 8 dX7_fast_7 rfl rfl rfl ?_
    refine sk_iconst (v := 0) 9 dX7_fast_8 rfl (by decide) ?_
    refine sk_iconst (v := 1) 10 dX7_fast_9 rfl (by decide) ?_
    refine sk_callSi [.int v2, .int 0, .int 1] [] 13 dX7_fast_10 rfl mfX7_in lkX7_47 miX7_in rfl rfl (by simp [Value.category]) hd0 (sk_Cm h ?_)
    rintro w t10 ⟨r10, hw, h⟩
    refine ⟨r10, hw, ?_⟩
    refine sk_if_ne 22 16 dX7_fast_13 (by decide) rfl (fun hc => ?_) (fun hc => ?_)
    · have h := h.1 hc
      refine sk_aload_n 0 23 dX7_fast_22 rfl rfl rfl ?_
      refine sk_iload_n 1 24 dX7_fast_23 rfl rfl rfl ?_
      refine sk_callVv [.int v1] [] 27 dX7_fast_24 rfl mfX7_findHolds lkX7_146 miX7_findHolds msX7_findHolds sm_0 rfl rfl rfl rfl (by simp [Value.category]) hd0 (sk_Cm h ?_)
      rintro w t24 ⟨hw, h⟩
      refine ⟨hw, ?_⟩
      refine sk_iconst (v := (-1)) 28 dX7_fast_27 rfl (by decide) ?_
      refine sk_istore_n (lv2 := [(3, .int (-1)), (0, .ref 0), (1, .int v1), (2, .int v2)]) 29 dX7_fast_28 rfl rfl (by decide) rfl ?_
      refine sk_iconst (v := 0) 30 dX7_fast_29 rfl (by decide) ?_
      refine sk_istore (lv2 := [(4, .int 0), (3, .int (-1)), (0, .ref 0), (1, .int v1), (2, .int v2)]) 32 dX7_fast_30 rfl (by decide) rfl ?_
      refine sk_perm (lv2 := [(0, .ref 0), (1, .int v1), (2, .int v2), (3, .int (-1)), (4, .int 0)]) [2, 3, 4, 1, 0] rfl ?_
      exact h
    · have h := h.2 hc
      refine sk_aload_n 0 17 dX7_fast_16 rfl rfl rfl ?_
      refine sk_iconst (v := 1) 18 dX7_fast_17 rfl (by decide) ?_
      refine sk_callVi [.int 1] [] 21 dX7_fast_18 rfl mfX7_error lkX7_51 miX7_error msX7_error sm_0 rfl rfl rfl rfl (by simp [Value.category]) hd0 (sk_Cm h ?_)
      rintro w t18 ⟨r18, hw, h⟩
      refine ⟨r18, hw, ?_⟩
      exact sk_iret dX7_fast_21 rfl rfl h

theorem bX7_fast_32 {d : Nat} {τ : sk_T} {K : sk_K} {v1 : Int32} {v2 : Int32} {v3 : Int32} {v4 : Int32} (hd0 : 0 < d)
  (h : (((1 <<< ((τ 1 6) &&& 31)) ≤ v4 →
      ((¬ v2 = 0 →
        K (some (.int v3)) τ
      ) ∧
      (v2 = 0 →
        sk_C sk_Sm (d - 1) mX7_bitsOf [.long (Int32.toInt64 v3)] τ (fun w t106 => ∃ r106 : Int32, w = some (.int r106) ∧
          K (some (.int r106)) t106
        )
      ))
    ) ∧
    (¬ (1 <<< ((τ 1 6) &&& 31)) ≤ v4 →
      ((v3 = (-1) →
        (((1 : Int32) = 0 →
          sk_G sk_Sm d mX7_fast 32 [(0, .ref 0), (1, .int v1), (2, .int v2), (3, .int v3), (4, .int (v4 + 1))] [] τ K
        ) ∧
        (¬ (1 : Int32) = 0 →
          sk_C sk_Sm (d - 1) mX7_liftedBy [.ref 0, .int v1, .int v4] τ (fun w t81 => ∃ r81 : Int32, w = some (.int r81) ∧
            ((¬ r81 = 0 →
              sk_G sk_Sm d mX7_fast 32 [(0, .ref 0), (1, .int v1), (2, .int v2), (3, .int v3), (4, .int (v4 + 1))] [] t81 K
            ) ∧
            (r81 = 0 →
              sk_G sk_Sm d mX7_fast 32 [(0, .ref 0), (1, .int v1), (2, .int v2), (3, .int v4), (4, .int (v4 + 1))] [] t81 K
            ))
          )
        ))
      ) ∧
      (¬ v3 = (-1) →
        sk_C sk_Sm (d - 1) mX7_bitsOf [.long (Int32.toInt64 v4)] τ (fun w t54 => ∃ r54 : Int32, w = some (.int r54) ∧
          sk_C sk_Sm (d - 1) mX7_bitsOf [.long (Int32.toInt64 v3)] t54 (fun w t59 => ∃ r59 : Int32, w = some (.int r59) ∧
            ((r59 ≤ r54 →
              (((0 : Int32) = 0 →
                sk_G sk_Sm d mX7_fast 32 [(0, .ref 0), (1, .int v1), (2, .int v2), (3, .int v3), (4, .int (v4 + 1))] [] t59 K
              ) ∧
              (¬ (0 : Int32) = 0 →
                sk_C sk_Sm (d - 1) mX7_liftedBy [.ref 0, .int v1, .int v4] t59 (fun w t81 => ∃ r81 : Int32, w = some (.int r81) ∧
                  ((¬ r81 = 0 →
                    sk_G sk_Sm d mX7_fast 32 [(0, .ref 0), (1, .int v1), (2, .int v2), (3, .int v3), (4, .int (v4 + 1))] [] t81 K
                  ) ∧
                  (r81 = 0 →
                    sk_G sk_Sm d mX7_fast 32 [(0, .ref 0), (1, .int v1), (2, .int v2), (3, .int v4), (4, .int (v4 + 1))] [] t81 K
                  ))
                )
              ))
            ) ∧
            (¬ r59 ≤ r54 →
              (((1 : Int32) = 0 →
                sk_G sk_Sm d mX7_fast 32 [(0, .ref 0), (1, .int v1), (2, .int v2), (3, .int v3), (4, .int (v4 + 1))] [] t59 K
              ) ∧
              (¬ (1 : Int32) = 0 →
                sk_C sk_Sm (d - 1) mX7_liftedBy [.ref 0, .int v1, .int v4] t59 (fun w t81 => ∃ r81 : Int32, w = some (.int r81) ∧
                  ((¬ r81 = 0 →
                    sk_G sk_Sm d mX7_fast 32 [(0, .ref 0), (1, .int v1), (2, .int v2), (3, .int v3), (4, .int (v4 + 1))] [] t81 K
                  ) ∧
                  (r81 = 0 →
                    sk_G sk_Sm d mX7_fast 32 [(0, .ref 0), (1, .int v1), (2, .int v2), (3, .int v4), (4, .int (v4 + 1))] [] t81 K
                  ))
                )
              ))
            ))
          )
        )
      ))
    ))) :
  sk_G sk_Sm d mX7_fast 32 [(0, .ref 0), (1, .int v1), (2, .int v2), (3, .int v3), (4, .int v4)] [] τ K := by
  refine sk_iload 4 34 dX7_fast_32 rfl rfl ?_
  refine sk_iconst (v := 1) 35 dX7_fast_34 rfl (by decide) ?_
  refine sk_aload_n 0 36 dX7_fast_35 rfl rfl rfl ?_
  refine sk_getR (r := 1) 39 dX7_fast_36 rfl lfX7_7 sm_0 rfl ?_
  refine sk_bipush (v := 6) 41 dX7_fast_39 rfl (by decide) ?_
  refine sk_iald 42 dX7_fast_41 rfl sm_1 (by unfold vp_in; decide) 6 rfl ?_
  refine sk_ishl 43 dX7_fast_42 rfl ?_
  refine sk_icmp_ge 100 46 dX7_fast_43 (by decide) rfl (fun hc => ?_) (fun hc => ?_)
  · have h := h.1 hc
    refine sk_iload_n 2 101 dX7_fast_100 rfl rfl rfl ?_
    refine sk_if_ne 112 104 dX7_fast_101 (by decide) rfl (fun hc => ?_) (fun hc => ?_)
    · have h := h.1 hc
      refine sk_iload_n 3 113 dX7_fast_112 rfl rfl rfl ?_
      exact sk_iret dX7_fast_113 rfl rfl h
    · have h := h.2 hc
      refine sk_iload_n 3 105 dX7_fast_104 rfl rfl rfl ?_
      refine sk_i2l 106 dX7_fast_105 rfl ?_
      refine sk_callSi [.long (Int32.toInt64 v3)] [] 109 dX7_fast_106 rfl mfX7_bitsOf lkX7_182 miX7_bitsOf rfl rfl (by simp [Value.category]) hd0 (sk_Cm h ?_)
      rintro w t106 ⟨r106, hw, h⟩
      refine ⟨r106, hw, ?_⟩
      refine sk_goto 113 dX7_fast_109 (by decide) ?_
      exact sk_iret dX7_fast_113 rfl rfl h
  · have h := h.2 hc
    refine sk_iload_n 3 47 dX7_fast_46 rfl rfl rfl ?_
    refine sk_iconst (v := (-1)) 48 dX7_fast_47 rfl (by decide) ?_
    refine sk_icmp_eq 65 51 dX7_fast_48 (by decide) rfl (fun hc => ?_) (fun hc => ?_)
    · have h := h.1 hc
      refine sk_iconst (v := 1) 66 dX7_fast_65 rfl (by decide) ?_
      refine sk_goto 70 dX7_fast_66 (by decide) ?_
      refine sk_istore (lv2 := [(5, .int 1), (0, .ref 0), (1, .int v1), (2, .int v2), (3, .int v3), (4, .int v4)]) 72 dX7_fast_70 rfl (by decide) rfl ?_
      refine sk_iload 0 74 dX7_fast_72 rfl rfl ?_
      refine sk_if_eq 92 77 dX7_fast_74 (by decide) rfl (fun hc => ?_) (fun hc => ?_)
      · have h := h.1 hc
        refine sk_iload_n 4 93 dX7_fast_92 rfl rfl rfl ?_
        refine sk_istore_n (lv2 := [(3, .int v3), (5, .int 1), (0, .ref 0), (1, .int v1), (2, .int v2), (4, .int v4)]) 94 dX7_fast_93 rfl rfl (by decide) rfl ?_
        refine sk_iinc (v := (v4 + 1)) (lv2 := [(4, .int (v4 + 1)), (3, .int v3), (5, .int 1), (0, .ref 0), (1, .int v1), (2, .int v2)]) 5 97 dX7_fast_94 rfl rfl rfl (by decide) rfl ?_
        refine sk_goto 32 dX7_fast_97 (by decide) ?_
        refine sk_perm (lv2 := [(0, .ref 0), (1, .int v1), (2, .int v2), (3, .int v3), (4, .int (v4 + 1))]) [3, 4, 5, 1, 0] rfl ?_
        exact h
      · have h := h.2 hc
        refine sk_aload_n 1 78 dX7_fast_77 rfl rfl rfl ?_
        refine sk_iload_n 2 79 dX7_fast_78 rfl rfl rfl ?_
        refine sk_iload 5 81 dX7_fast_79 rfl rfl ?_
        refine sk_callVi [.int v1, .int v4] [] 84 dX7_fast_81 rfl mfX7_liftedBy lkX7_150 miX7_liftedBy msX7_liftedBy sm_0 rfl rfl rfl rfl (by simp [Value.category]) hd0 (sk_Cm h ?_)
        rintro w t81 ⟨r81, hw, h⟩
        refine ⟨r81, hw, ?_⟩
        refine sk_if_ne 92 87 dX7_fast_84 (by decide) rfl (fun hc => ?_) (fun hc => ?_)
        · have h := h.1 hc
          refine sk_iload_n 4 93 dX7_fast_92 rfl rfl rfl ?_
          refine sk_istore_n (lv2 := [(3, .int v3), (5, .int 1), (0, .ref 0), (1, .int v1), (2, .int v2), (4, .int v4)]) 94 dX7_fast_93 rfl rfl (by decide) rfl ?_
          refine sk_iinc (v := (v4 + 1)) (lv2 := [(4, .int (v4 + 1)), (3, .int v3), (5, .int 1), (0, .ref 0), (1, .int v1), (2, .int v2)]) 5 97 dX7_fast_94 rfl rfl rfl (by decide) rfl ?_
          refine sk_goto 32 dX7_fast_97 (by decide) ?_
          refine sk_perm (lv2 := [(0, .ref 0), (1, .int v1), (2, .int v2), (3, .int v3), (4, .int (v4 + 1))]) [3, 4, 5, 1, 0] rfl ?_
          exact h
        · have h := h.2 hc
          refine sk_iload 5 89 dX7_fast_87 rfl rfl ?_
          refine sk_goto 93 dX7_fast_89 (by decide) ?_
          refine sk_istore_n (lv2 := [(3, .int v4), (5, .int 1), (0, .ref 0), (1, .int v1), (2, .int v2), (4, .int v4)]) 94 dX7_fast_93 rfl rfl (by decide) rfl ?_
          refine sk_iinc (v := (v4 + 1)) (lv2 := [(4, .int (v4 + 1)), (3, .int v4), (5, .int 1), (0, .ref 0), (1, .int v1), (2, .int v2)]) 5 97 dX7_fast_94 rfl rfl rfl (by decide) rfl ?_
          refine sk_goto 32 dX7_fast_97 (by decide) ?_
          refine sk_perm (lv2 := [(0, .ref 0), (1, .int v1), (2, .int v2), (3, .int v4), (4, .int (v4 + 1))]) [3, 4, 5, 1, 0] rfl ?_
          exact h
    · have h := h.2 hc
      refine sk_iload 4 53 dX7_fast_51 rfl rfl ?_
      refine sk_i2l 54 dX7_fast_53 rfl ?_
      refine sk_callSi [.long (Int32.toInt64 v4)] [] 57 dX7_fast_54 rfl mfX7_bitsOf lkX7_182 miX7_bitsOf rfl rfl (by simp [Value.category]) hd0 (sk_Cm h ?_)
      rintro w t54 ⟨r54, hw, h⟩
      refine ⟨r54, hw, ?_⟩
      refine sk_iload_n 3 58 dX7_fast_57 rfl rfl rfl ?_
      refine sk_i2l 59 dX7_fast_58 rfl ?_
      refine sk_callSi [.long (Int32.toInt64 v3)] [.int r54] 62 dX7_fast_59 rfl mfX7_bitsOf lkX7_182 miX7_bitsOf rfl rfl (by simp [Value.category]) hd0 (sk_Cm h ?_)
      rintro w t59 ⟨r59, hw, h⟩
      refine ⟨r59, hw, ?_⟩
      refine sk_icmp_ge 69 65 dX7_fast_62 (by decide) rfl (fun hc => ?_) (fun hc => ?_)
      · have h := h.1 hc
        refine sk_iconst (v := 0) 70 dX7_fast_69 rfl (by decide) ?_
        refine sk_istore (lv2 := [(5, .int 0), (0, .ref 0), (1, .int v1), (2, .int v2), (3, .int v3), (4, .int v4)]) 72 dX7_fast_70 rfl (by decide) rfl ?_
        refine sk_iload 0 74 dX7_fast_72 rfl rfl ?_
        refine sk_if_eq 92 77 dX7_fast_74 (by decide) rfl (fun hc => ?_) (fun hc => ?_)
        · have h := h.1 hc
          refine sk_iload_n 4 93 dX7_fast_92 rfl rfl rfl ?_
          refine sk_istore_n (lv2 := [(3, .int v3), (5, .int 0), (0, .ref 0), (1, .int v1), (2, .int v2), (4, .int v4)]) 94 dX7_fast_93 rfl rfl (by decide) rfl ?_
          refine sk_iinc (v := (v4 + 1)) (lv2 := [(4, .int (v4 + 1)), (3, .int v3), (5, .int 0), (0, .ref 0), (1, .int v1), (2, .int v2)]) 5 97 dX7_fast_94 rfl rfl rfl (by decide) rfl ?_
          refine sk_goto 32 dX7_fast_97 (by decide) ?_
          refine sk_perm (lv2 := [(0, .ref 0), (1, .int v1), (2, .int v2), (3, .int v3), (4, .int (v4 + 1))]) [3, 4, 5, 1, 0] rfl ?_
          exact h
        · have h := h.2 hc
          refine sk_aload_n 1 78 dX7_fast_77 rfl rfl rfl ?_
          refine sk_iload_n 2 79 dX7_fast_78 rfl rfl rfl ?_
          refine sk_iload 5 81 dX7_fast_79 rfl rfl ?_
          refine sk_callVi [.int v1, .int v4] [] 84 dX7_fast_81 rfl mfX7_liftedBy lkX7_150 miX7_liftedBy msX7_liftedBy sm_0 rfl rfl rfl rfl (by simp [Value.category]) hd0 (sk_Cm h ?_)
          rintro w t81 ⟨r81, hw, h⟩
          refine ⟨r81, hw, ?_⟩
          refine sk_if_ne 92 87 dX7_fast_84 (by decide) rfl (fun hc => ?_) (fun hc => ?_)
          · have h := h.1 hc
            refine sk_iload_n 4 93 dX7_fast_92 rfl rfl rfl ?_
            refine sk_istore_n (lv2 := [(3, .int v3), (5, .int 0), (0, .ref 0), (1, .int v1), (2, .int v2), (4, .int v4)]) 94 dX7_fast_93 rfl rfl (by decide) rfl ?_
            refine sk_iinc (v := (v4 + 1)) (lv2 := [(4, .int (v4 + 1)), (3, .int v3), (5, .int 0), (0, .ref 0), (1, .int v1), (2, .int v2)]) 5 97 dX7_fast_94 rfl rfl rfl (by decide) rfl ?_
            refine sk_goto 32 dX7_fast_97 (by decide) ?_
            refine sk_perm (lv2 := [(0, .ref 0), (1, .int v1), (2, .int v2), (3, .int v3), (4, .int (v4 + 1))]) [3, 4, 5, 1, 0] rfl ?_
            exact h
          · have h := h.2 hc
            refine sk_iload 5 89 dX7_fast_87 rfl rfl ?_
            refine sk_goto 93 dX7_fast_89 (by decide) ?_
            refine sk_istore_n (lv2 := [(3, .int v4), (5, .int 0), (0, .ref 0), (1, .int v1), (2, .int v2), (4, .int v4)]) 94 dX7_fast_93 rfl rfl (by decide) rfl ?_
            refine sk_iinc (v := (v4 + 1)) (lv2 := [(4, .int (v4 + 1)), (3, .int v4), (5, .int 0), (0, .ref 0), (1, .int v1), (2, .int v2)]) 5 97 dX7_fast_94 rfl rfl rfl (by decide) rfl ?_
            refine sk_goto 32 dX7_fast_97 (by decide) ?_
            refine sk_perm (lv2 := [(0, .ref 0), (1, .int v1), (2, .int v2), (3, .int v4), (4, .int (v4 + 1))]) [3, 4, 5, 1, 0] rfl ?_
            exact h
      · have h := h.2 hc
        refine sk_iconst (v := 1) 66 dX7_fast_65 rfl (by decide) ?_
        refine sk_goto 70 dX7_fast_66 (by decide) ?_
        refine sk_istore (lv2 := [(5, .int 1), (0, .ref 0), (1, .int v1), (2, .int v2), (3, .int v3), (4, .int v4)]) 72 dX7_fast_70 rfl (by decide) rfl ?_
        refine sk_iload 0 74 dX7_fast_72 rfl rfl ?_
        refine sk_if_eq 92 77 dX7_fast_74 (by decide) rfl (fun hc => ?_) (fun hc => ?_)
        · have h := h.1 hc
          refine sk_iload_n 4 93 dX7_fast_92 rfl rfl rfl ?_
          refine sk_istore_n (lv2 := [(3, .int v3), (5, .int 1), (0, .ref 0), (1, .int v1), (2, .int v2), (4, .int v4)]) 94 dX7_fast_93 rfl rfl (by decide) rfl ?_
          refine sk_iinc (v := (v4 + 1)) (lv2 := [(4, .int (v4 + 1)), (3, .int v3), (5, .int 1), (0, .ref 0), (1, .int v1), (2, .int v2)]) 5 97 dX7_fast_94 rfl rfl rfl (by decide) rfl ?_
          refine sk_goto 32 dX7_fast_97 (by decide) ?_
          refine sk_perm (lv2 := [(0, .ref 0), (1, .int v1), (2, .int v2), (3, .int v3), (4, .int (v4 + 1))]) [3, 4, 5, 1, 0] rfl ?_
          exact h
        · have h := h.2 hc
          refine sk_aload_n 1 78 dX7_fast_77 rfl rfl rfl ?_
          refine sk_iload_n 2 79 dX7_fast_78 rfl rfl rfl ?_
          refine sk_iload 5 81 dX7_fast_79 rfl rfl ?_
          refine sk_callVi [.int v1, .int v4] [] 84 dX7_fast_81 rfl mfX7_liftedBy lkX7_150 miX7_liftedBy msX7_liftedBy sm_0 rfl rfl rfl rfl (by simp [Value.category]) hd0 (sk_Cm h ?_)
          rintro w t81 ⟨r81, hw, h⟩
          refine ⟨r81, hw, ?_⟩
          refine sk_if_ne 92 87 dX7_fast_84 (by decide) rfl (fun hc => ?_) (fun hc => ?_)
          · have h := h.1 hc
            refine sk_iload_n 4 93 dX7_fast_92 rfl rfl rfl ?_
            refine sk_istore_n (lv2 := [(3, .int v3), (5, .int 1), (0, .ref 0), (1, .int v1), (2, .int v2), (4, .int v4)]) 94 dX7_fast_93 rfl rfl (by decide) rfl ?_
            refine sk_iinc (v := (v4 + 1)) (lv2 := [(4, .int (v4 + 1)), (3, .int v3), (5, .int 1), (0, .ref 0), (1, .int v1), (2, .int v2)]) 5 97 dX7_fast_94 rfl rfl rfl (by decide) rfl ?_
            refine sk_goto 32 dX7_fast_97 (by decide) ?_
            refine sk_perm (lv2 := [(0, .ref 0), (1, .int v1), (2, .int v2), (3, .int v3), (4, .int (v4 + 1))]) [3, 4, 5, 1, 0] rfl ?_
            exact h
          · have h := h.2 hc
            refine sk_iload 5 89 dX7_fast_87 rfl rfl ?_
            refine sk_goto 93 dX7_fast_89 (by decide) ?_
            refine sk_istore_n (lv2 := [(3, .int v4), (5, .int 1), (0, .ref 0), (1, .int v1), (2, .int v2), (4, .int v4)]) 94 dX7_fast_93 rfl rfl (by decide) rfl ?_
            refine sk_iinc (v := (v4 + 1)) (lv2 := [(4, .int (v4 + 1)), (3, .int v4), (5, .int 1), (0, .ref 0), (1, .int v1), (2, .int v2)]) 5 97 dX7_fast_94 rfl rfl rfl (by decide) rfl ?_
            refine sk_goto 32 dX7_fast_97 (by decide) ?_
            refine sk_perm (lv2 := [(0, .ref 0), (1, .int v1), (2, .int v2), (3, .int v4), (4, .int (v4 + 1))]) [3, 4, 5, 1, 0] rfl ?_
            exact h

theorem wX7_best {d : Nat} {τ : sk_T} {K : sk_K} {v1 : Int32} {v2 : Int32} (hd0 : 0 < d)
  (h : sk_C sk_Sm (d - 1) mX7_isSlate [.ref 0, .int v1] τ (fun w t2 => ∃ r2 : Int32, w = some (.int r2) ∧
      ((r2 = 0 →
        sk_C sk_Sm (d - 1) mX7_error [.ref 0, .int 1] t2 (fun w t19 => ∃ r19 : Int32, w = some (.int r19) ∧
          K (some (.int r19)) t19
        )
      ) ∧
      (¬ r2 = 0 →
        sk_C sk_Sm (d - 1) mX7_in [.int v2, .int 0, .int 1] t2 (fun w t11 => ∃ r11 : Int32, w = some (.int r11) ∧
          ((¬ r11 = 0 →
            sk_C sk_Sm (d - 1) mX7_its [.ref 0, .int v1, .int 6] t11 (fun w t27 => ∃ r27 : Int32, w = some (.int r27) ∧
              sk_G sk_Sm d mX7_best 40 [(0, .ref 0), (1, .int v1), (2, .int v2), (3, .int r27), (4, .int (-1)), (5, .int 0), (6, .int 0)] [] t27 K
            )
          ) ∧
          (r11 = 0 →
            sk_C sk_Sm (d - 1) mX7_error [.ref 0, .int 1] t11 (fun w t19 => ∃ r19 : Int32, w = some (.int r19) ∧
              K (some (.int r19)) t19
            )
          ))
        )
      ))
    )) :
  sk_C sk_Sm d mX7_best [.ref 0, .int v1, .int v2] τ K := by
  refine sk_enter mfX7_best (Nat.le_of_ble_eq_true rfl) ?_
  show sk_G sk_Sm d mX7_best 0 [(0, .ref 0), (1, .int v1), (2, .int v2)] [] τ K
  refine sk_aload_n 0 1 dX7_best_0 rfl rfl rfl ?_
  refine sk_iload_n 1 2 dX7_best_1 rfl rfl rfl ?_
  refine sk_callVi [.int v1] [] 5 dX7_best_2 rfl mfX7_isSlate lkX7_169 miX7_isSlate msX7_isSlate sm_0 rfl rfl rfl rfl (by simp [Value.category]) hd0 (sk_Cm h ?_)
  rintro w t2 ⟨r2, hw, h⟩
  refine ⟨r2, hw, ?_⟩
  refine sk_if_eq 17 8 dX7_best_5 (by decide) rfl (fun hc => ?_) (fun hc => ?_)
  · have h := h.1 hc
    refine sk_aload_n 0 18 dX7_best_17 rfl rfl rfl ?_
    refine sk_iconst (v := 1) 19 dX7_best_18 rfl (by decide) ?_
    refine sk_callVi [.int 1] [] 22 dX7_best_19 rfl mfX7_error lkX7_51 miX7_error msX7_error sm_0 rfl rfl rfl rfl (by simp [Value.category]) hd0 (sk_Cm h ?_)
    rintro w t19 ⟨r19, hw, h⟩
    refine ⟨r19, hw, ?_⟩
    exact sk_iret dX7_best_22 rfl rfl h
  · have h := h.2 hc
    refine sk_iload_n 2 9 dX7_best_8 rfl rfl rfl ?_
    refine sk_iconst (v := 0) 10 dX7_best_9 rfl (by decide) ?_
    refine sk_iconst (v := 1) 11 dX7_best_10 rfl (by decide) ?_
    refine sk_callSi [.int v2, .int 0, .int 1] [] 14 dX7_best_11 rfl mfX7_in lkX7_47 miX7_in rfl rfl (by simp [Value.category]) hd0 (sk_Cm h ?_)
    rintro w t11 ⟨r11, hw, h⟩
    refine ⟨r11, hw, ?_⟩
    refine sk_if_ne 23 17 dX7_best_14 (by decide) rfl (fun hc => ?_) (fun hc => ?_)
    · have h := h.1 hc
      refine sk_aload_n 0 24 dX7_best_23 rfl rfl rfl ?_
      refine sk_iload_n 1 25 dX7_best_24 rfl rfl rfl ?_
      refine sk_bipush (v := 6) 27 dX7_best_25 rfl (by decide) ?_
      refine sk_callVi [.int v1, .int 6] [] 30 dX7_best_27 rfl mfX7_its lkX7_111 miX7_its msX7_its sm_0 rfl rfl rfl rfl (by simp [Value.category]) hd0 (sk_Cm h ?_)
      rintro w t27 ⟨r27, hw, h⟩
      refine ⟨r27, hw, ?_⟩
      refine sk_istore_n (lv2 := [(3, .int r27), (0, .ref 0), (1, .int v1), (2, .int v2)]) 31 dX7_best_30 rfl rfl (by decide) rfl ?_
      refine sk_iconst (v := (-1)) 32 dX7_best_31 rfl (by decide) ?_
      refine sk_istore (lv2 := [(4, .int (-1)), (3, .int r27), (0, .ref 0), (1, .int v1), (2, .int v2)]) 34 dX7_best_32 rfl (by decide) rfl ?_
      refine sk_iconst (v := 0) 35 dX7_best_34 rfl (by decide) ?_
      refine sk_istore (lv2 := [(5, .int 0), (4, .int (-1)), (3, .int r27), (0, .ref 0), (1, .int v1), (2, .int v2)]) 37 dX7_best_35 rfl (by decide) rfl ?_
      refine sk_iconst (v := 0) 38 dX7_best_37 rfl (by decide) ?_
      refine sk_istore (lv2 := [(6, .int 0), (5, .int 0), (4, .int (-1)), (3, .int r27), (0, .ref 0), (1, .int v1), (2, .int v2)]) 40 dX7_best_38 rfl (by decide) rfl ?_
      refine sk_perm (lv2 := [(0, .ref 0), (1, .int v1), (2, .int v2), (3, .int r27), (4, .int (-1)), (5, .int 0), (6, .int 0)]) [4, 5, 6, 3, 2, 1, 0] rfl ?_
      exact h
    · have h := h.2 hc
      refine sk_aload_n 0 18 dX7_best_17 rfl rfl rfl ?_
      refine sk_iconst (v := 1) 19 dX7_best_18 rfl (by decide) ?_
      refine sk_callVi [.int 1] [] 22 dX7_best_19 rfl mfX7_error lkX7_51 miX7_error msX7_error sm_0 rfl rfl rfl rfl (by simp [Value.category]) hd0 (sk_Cm h ?_)
      rintro w t19 ⟨r19, hw, h⟩
      refine ⟨r19, hw, ?_⟩
      exact sk_iret dX7_best_22 rfl rfl h

theorem bX7_best_40 {d : Nat} {τ : sk_T} {K : sk_K} {v1 : Int32} {v2 : Int32} {v3 : Int32} {v4 : Int32} {v5 : Int32} {v6 : Int32} (hd0 : 0 < d)
  (h : ((48 ≤ v6 →
      sk_C sk_Sm (d - 1) mX7_lays1 [.ref 0, .int v1, .int 6, .int v3] τ (fun w t115 => w = none ∧
        ((¬ v4 = (-1) →
          ((¬ v2 = 0 →
            K (some (.int v5)) t115
          ) ∧
          (v2 = 0 →
            K (some (.int v4)) t115
          ))
        ) ∧
        (v4 = (-1) →
          sk_C sk_Sm (d - 1) mX7_error [.ref 0, .int 2] t115 (fun w t126 => ∃ r126 : Int32, w = some (.int r126) ∧
            K (some (.int r126)) t126
          )
        ))
      )
    ) ∧
    (¬ 48 ≤ v6 →
      sk_C sk_Sm (d - 1) mX7_lays1 [.ref 0, .int v1, .int 6, .int v3] τ (fun w t52 => w = none ∧
        sk_C sk_Sm (d - 1) mX7_mayLie [.ref 0, .int v1, .int v6] t52 (fun w t59 => ∃ r59 : Int32, w = some (.int r59) ∧
          ((r59 = 0 →
            sk_G sk_Sm d mX7_best 40 [(0, .ref 0), (1, .int v1), (2, .int v2), (3, .int v3), (4, .int v4), (5, .int v5), (6, .int (v6 + 1))] [] t59 K
          ) ∧
          (¬ r59 = 0 →
            sk_C sk_Sm (d - 1) mX7_lays1 [.ref 0, .int v1, .int 6, .int v6] t59 (fun w t71 => w = none ∧
              sk_C sk_Sm (d - 1) mX7_drySet [.ref 0] t71 (fun w t75 => ∃ r75 : Int64, w = some (.long r75) ∧
                sk_C sk_Sm (d - 1) mX7_bitsOf [.long r75] t75 (fun w t78 => ∃ r78 : Int32, w = some (.int r78) ∧
                  ((v4 = (-1) →
                    sk_G sk_Sm d mX7_best 40 [(0, .ref 0), (1, .int v1), (2, .int v2), (3, .int v3), (4, .int v6), (5, .int r78), (6, .int (v6 + 1))] [] t78 K
                  ) ∧
                  (¬ v4 = (-1) →
                    ((r78 ≤ v5 →
                      sk_G sk_Sm d mX7_best 40 [(0, .ref 0), (1, .int v1), (2, .int v2), (3, .int v3), (4, .int v4), (5, .int v5), (6, .int (v6 + 1))] [] t78 K
                    ) ∧
                    (¬ r78 ≤ v5 →
                      sk_G sk_Sm d mX7_best 40 [(0, .ref 0), (1, .int v1), (2, .int v2), (3, .int v3), (4, .int v6), (5, .int r78), (6, .int (v6 + 1))] [] t78 K
                    ))
                  ))
                )
              )
            )
          ))
        )
      )
    ))) :
  sk_G sk_Sm d mX7_best 40 [(0, .ref 0), (1, .int v1), (2, .int v2), (3, .int v3), (4, .int v4), (5, .int v5), (6, .int v6)] [] τ K := by
  refine sk_iload 6 42 dX7_best_40 rfl rfl ?_
  refine sk_bipush (v := 48) 44 dX7_best_42 rfl (by decide) ?_
  refine sk_icmp_ge 110 47 dX7_best_44 (by decide) rfl (fun hc => ?_) (fun hc => ?_)
  · have h := h.1 hc
    refine sk_aload_n 0 111 dX7_best_110 rfl rfl rfl ?_
    refine sk_iload_n 1 112 dX7_best_111 rfl rfl rfl ?_
    refine sk_bipush (v := 6) 114 dX7_best_112 rfl (by decide) ?_
    refine sk_iload_n 3 115 dX7_best_114 rfl rfl rfl ?_
    refine sk_callVv [.int v1, .int 6, .int v3] [] 118 dX7_best_115 rfl mfX7_lays1 lkX7_153 miX7_lays1 msX7_lays1 sm_0 rfl rfl rfl rfl (by simp [Value.category]) hd0 (sk_Cm h ?_)
    rintro w t115 ⟨hw, h⟩
    refine ⟨hw, ?_⟩
    refine sk_iload 4 120 dX7_best_118 rfl rfl ?_
    refine sk_iconst (v := (-1)) 121 dX7_best_120 rfl (by decide) ?_
    refine sk_icmp_ne 130 124 dX7_best_121 (by decide) rfl (fun hc => ?_) (fun hc => ?_)
    · have h := h.1 hc
      refine sk_iload_n 2 131 dX7_best_130 rfl rfl rfl ?_
      refine sk_if_ne 139 134 dX7_best_131 (by decide) rfl (fun hc => ?_) (fun hc => ?_)
      · have h := h.1 hc
        refine sk_iload 5 141 dX7_best_139 rfl rfl ?_
        exact sk_iret dX7_best_141 rfl rfl h
      · have h := h.2 hc
        refine sk_iload 4 136 dX7_best_134 rfl rfl ?_
        refine sk_goto 141 dX7_best_136 (by decide) ?_
        exact sk_iret dX7_best_141 rfl rfl h
    · have h := h.2 hc
      refine sk_aload_n 0 125 dX7_best_124 rfl rfl rfl ?_
      refine sk_iconst (v := 2) 126 dX7_best_125 rfl (by decide) ?_
      refine sk_callVi [.int 2] [] 129 dX7_best_126 rfl mfX7_error lkX7_51 miX7_error msX7_error sm_0 rfl rfl rfl rfl (by simp [Value.category]) hd0 (sk_Cm h ?_)
      rintro w t126 ⟨r126, hw, h⟩
      refine ⟨r126, hw, ?_⟩
      exact sk_iret dX7_best_129 rfl rfl h
  · have h := h.2 hc
    refine sk_aload_n 0 48 dX7_best_47 rfl rfl rfl ?_
    refine sk_iload_n 1 49 dX7_best_48 rfl rfl rfl ?_
    refine sk_bipush (v := 6) 51 dX7_best_49 rfl (by decide) ?_
    refine sk_iload_n 3 52 dX7_best_51 rfl rfl rfl ?_
    refine sk_callVv [.int v1, .int 6, .int v3] [] 55 dX7_best_52 rfl mfX7_lays1 lkX7_153 miX7_lays1 msX7_lays1 sm_0 rfl rfl rfl rfl (by simp [Value.category]) hd0 (sk_Cm h ?_)
    rintro w t52 ⟨hw, h⟩
    refine ⟨hw, ?_⟩
    refine sk_aload_n 0 56 dX7_best_55 rfl rfl rfl ?_
    refine sk_iload_n 1 57 dX7_best_56 rfl rfl rfl ?_
    refine sk_iload 6 59 dX7_best_57 rfl rfl ?_
    refine sk_callVi [.int v1, .int v6] [] 62 dX7_best_59 rfl mfX7_mayLie lkX7_178 miX7_mayLie msX7_mayLie sm_0 rfl rfl rfl rfl (by simp [Value.category]) hd0 (sk_Cm h ?_)
    rintro w t59 ⟨r59, hw, h⟩
    refine ⟨r59, hw, ?_⟩
    refine sk_if_eq 104 65 dX7_best_62 (by decide) rfl (fun hc => ?_) (fun hc => ?_)
    · have h := h.1 hc
      refine sk_iinc (v := (v6 + 1)) (lv2 := [(6, .int (v6 + 1)), (0, .ref 0), (1, .int v1), (2, .int v2), (3, .int v3), (4, .int v4), (5, .int v5)]) 6 107 dX7_best_104 rfl rfl rfl (by decide) rfl ?_
      refine sk_goto 40 dX7_best_107 (by decide) ?_
      refine sk_perm (lv2 := [(0, .ref 0), (1, .int v1), (2, .int v2), (3, .int v3), (4, .int v4), (5, .int v5), (6, .int (v6 + 1))]) [1, 2, 3, 4, 5, 6, 0] rfl ?_
      exact h
    · have h := h.2 hc
      refine sk_aload_n 0 66 dX7_best_65 rfl rfl rfl ?_
      refine sk_iload_n 1 67 dX7_best_66 rfl rfl rfl ?_
      refine sk_bipush (v := 6) 69 dX7_best_67 rfl (by decide) ?_
      refine sk_iload 6 71 dX7_best_69 rfl rfl ?_
      refine sk_callVv [.int v1, .int 6, .int v6] [] 74 dX7_best_71 rfl mfX7_lays1 lkX7_153 miX7_lays1 msX7_lays1 sm_0 rfl rfl rfl rfl (by simp [Value.category]) hd0 (sk_Cm h ?_)
      rintro w t71 ⟨hw, h⟩
      refine ⟨hw, ?_⟩
      refine sk_aload_n 0 75 dX7_best_74 rfl rfl rfl ?_
      refine sk_callVl [] [] 78 dX7_best_75 rfl mfX7_drySet lkX7_157 miX7_drySet msX7_drySet sm_0 rfl rfl rfl rfl (by simp [Value.category]) hd0 (sk_Cm h ?_)
      rintro w t75 ⟨r75, hw, h⟩
      refine ⟨r75, hw, ?_⟩
      refine sk_callSi [.long r75] [] 81 dX7_best_78 rfl mfX7_bitsOf lkX7_182 miX7_bitsOf rfl rfl (by simp [Value.category]) hd0 (sk_Cm h ?_)
      rintro w t78 ⟨r78, hw, h⟩
      refine ⟨r78, hw, ?_⟩
      refine sk_istore (lv2 := [(7, .int r78), (0, .ref 0), (1, .int v1), (2, .int v2), (3, .int v3), (4, .int v4), (5, .int v5), (6, .int v6)]) 83 dX7_best_81 rfl (by decide) rfl ?_
      refine sk_iload 5 85 dX7_best_83 rfl rfl ?_
      refine sk_iconst (v := (-1)) 86 dX7_best_85 rfl (by decide) ?_
      refine sk_icmp_eq 96 89 dX7_best_86 (by decide) rfl (fun hc => ?_) (fun hc => ?_)
      · have h := h.1 hc
        refine sk_iload 7 98 dX7_best_96 rfl rfl ?_
        refine sk_istore (lv2 := [(4, .int v6), (7, .int r78), (0, .ref 0), (1, .int v1), (2, .int v2), (3, .int v3), (5, .int v5), (6, .int v6)]) 100 dX7_best_98 rfl (by decide) rfl ?_
        refine sk_iload 1 102 dX7_best_100 rfl rfl ?_
        refine sk_istore (lv2 := [(5, .int r78), (4, .int v6), (7, .int r78), (0, .ref 0), (1, .int v1), (2, .int v2), (3, .int v3), (6, .int v6)]) 104 dX7_best_102 rfl (by decide) rfl ?_
        refine sk_iinc (v := (v6 + 1)) (lv2 := [(6, .int (v6 + 1)), (5, .int r78), (4, .int v6), (7, .int r78), (0, .ref 0), (1, .int v1), (2, .int v2), (3, .int v3)]) 7 107 dX7_best_104 rfl rfl rfl (by decide) rfl ?_
        refine sk_goto 40 dX7_best_107 (by decide) ?_
        refine sk_perm (lv2 := [(0, .ref 0), (1, .int v1), (2, .int v2), (3, .int v3), (4, .int v6), (5, .int r78), (6, .int (v6 + 1))]) [4, 5, 6, 7, 2, 1, 0] rfl ?_
        exact h
      · have h := h.2 hc
        refine sk_iload 0 91 dX7_best_89 rfl rfl ?_
        refine sk_iload 6 93 dX7_best_91 rfl rfl ?_
        refine sk_icmp_le 104 96 dX7_best_93 (by decide) rfl (fun hc => ?_) (fun hc => ?_)
        · have h := h.1 hc
          refine sk_iinc (v := (v6 + 1)) (lv2 := [(6, .int (v6 + 1)), (7, .int r78), (0, .ref 0), (1, .int v1), (2, .int v2), (3, .int v3), (4, .int v4), (5, .int v5)]) 7 107 dX7_best_104 rfl rfl rfl (by decide) rfl ?_
          refine sk_goto 40 dX7_best_107 (by decide) ?_
          refine sk_perm (lv2 := [(0, .ref 0), (1, .int v1), (2, .int v2), (3, .int v3), (4, .int v4), (5, .int v5), (6, .int (v6 + 1))]) [2, 3, 4, 5, 6, 7, 0] rfl ?_
          exact h
        · have h := h.2 hc
          refine sk_iload 7 98 dX7_best_96 rfl rfl ?_
          refine sk_istore (lv2 := [(4, .int v6), (7, .int r78), (0, .ref 0), (1, .int v1), (2, .int v2), (3, .int v3), (5, .int v5), (6, .int v6)]) 100 dX7_best_98 rfl (by decide) rfl ?_
          refine sk_iload 1 102 dX7_best_100 rfl rfl ?_
          refine sk_istore (lv2 := [(5, .int r78), (4, .int v6), (7, .int r78), (0, .ref 0), (1, .int v1), (2, .int v2), (3, .int v3), (6, .int v6)]) 104 dX7_best_102 rfl (by decide) rfl ?_
          refine sk_iinc (v := (v6 + 1)) (lv2 := [(6, .int (v6 + 1)), (5, .int r78), (4, .int v6), (7, .int r78), (0, .ref 0), (1, .int v1), (2, .int v2), (3, .int v3)]) 7 107 dX7_best_104 rfl rfl rfl (by decide) rfl ?_
          refine sk_goto 40 dX7_best_107 (by decide) ?_
          refine sk_perm (lv2 := [(0, .ref 0), (1, .int v1), (2, .int v2), (3, .int v3), (4, .int v6), (5, .int r78), (6, .int (v6 + 1))]) [4, 5, 6, 7, 2, 1, 0] rfl ?_
          exact h

theorem wX7_isBeside {d : Nat} {τ : sk_T} {K : sk_K} {v1 : Int32} {v2 : Int32} (hd0 : 0 < d)
  (h : sk_C sk_Sm (d - 1) mX7_its [.ref 0, .int v1, .int 6] τ (fun w t4 => ∃ r4 : Int32, w = some (.int r4) ∧
      sk_C sk_Sm (d - 1) mX7_its [.ref 0, .int v2, .int 6] t4 (fun w t12 => ∃ r12 : Int32, w = some (.int r12) ∧
        ((r4 = (-1) →
          K (some (.int 0)) t12
        ) ∧
        (¬ r4 = (-1) →
          ((r12 = (-1) →
            K (some (.int 0)) t12
          ) ∧
          (¬ r12 = (-1) →
            ((¬ (r4 / 8) = (r12 / 8) →
              K (some (.int 0)) t12
            ) ∧
            ((r4 / 8) = (r12 / 8) →
              sk_C sk_Sm (d - 1) mX7_broad [.ref 0, .int v2] t12 (fun w t45 => ∃ r45 : Int32, w = some (.int r45) ∧
                ((¬ r4 = (r12 + r45) →
                  K (some (.int 0)) t45
                ) ∧
                (r4 = (r12 + r45) →
                  K (some (.int 1)) t45
                ))
              )
            ))
          ))
        ))
      )
    )) :
  sk_C sk_Sm d mX7_isBeside [.ref 0, .int v1, .int v2] τ K := by
  refine sk_enter mfX7_isBeside (Nat.le_of_ble_eq_true rfl) ?_
  show sk_G sk_Sm d mX7_isBeside 0 [(0, .ref 0), (1, .int v1), (2, .int v2)] [] τ K
  refine sk_aload_n 0 1 dX7_isBeside_0 rfl rfl rfl ?_
  refine sk_iload_n 1 2 dX7_isBeside_1 rfl rfl rfl ?_
  refine sk_bipush (v := 6) 4 dX7_isBeside_2 rfl (by decide) ?_
  refine sk_callVi [.int v1, .int 6] [] 7 dX7_isBeside_4 rfl mfX7_its lkX7_111 miX7_its msX7_its sm_0 rfl rfl rfl rfl (by simp [Value.category]) hd0 (sk_Cm h ?_)
  rintro w t4 ⟨r4, hw, h⟩
  refine ⟨r4, hw, ?_⟩
  refine sk_istore_n (lv2 := [(3, .int r4), (0, .ref 0), (1, .int v1), (2, .int v2)]) 8 dX7_isBeside_7 rfl rfl (by decide) rfl ?_
  refine sk_aload_n 1 9 dX7_isBeside_8 rfl rfl rfl ?_
  refine sk_iload_n 3 10 dX7_isBeside_9 rfl rfl rfl ?_
  refine sk_bipush (v := 6) 12 dX7_isBeside_10 rfl (by decide) ?_
  refine sk_callVi [.int v2, .int 6] [] 15 dX7_isBeside_12 rfl mfX7_its lkX7_111 miX7_its msX7_its sm_0 rfl rfl rfl rfl (by simp [Value.category]) hd0 (sk_Cm h ?_)
  rintro w t12 ⟨r12, hw, h⟩
  refine ⟨r12, hw, ?_⟩
  refine sk_istore (lv2 := [(4, .int r12), (3, .int r4), (0, .ref 0), (1, .int v1), (2, .int v2)]) 17 dX7_isBeside_15 rfl (by decide) rfl ?_
  refine sk_iload_n 1 18 dX7_isBeside_17 rfl rfl rfl ?_
  refine sk_iconst (v := (-1)) 19 dX7_isBeside_18 rfl (by decide) ?_
  refine sk_icmp_eq 56 22 dX7_isBeside_19 (by decide) rfl (fun hc => ?_) (fun hc => ?_)
  · have h := h.1 hc
    refine sk_iconst (v := 0) 57 dX7_isBeside_56 rfl (by decide) ?_
    exact sk_iret dX7_isBeside_57 rfl rfl h
  · have h := h.2 hc
    refine sk_iload 0 24 dX7_isBeside_22 rfl rfl ?_
    refine sk_iconst (v := (-1)) 25 dX7_isBeside_24 rfl (by decide) ?_
    refine sk_icmp_eq 56 28 dX7_isBeside_25 (by decide) rfl (fun hc => ?_) (fun hc => ?_)
    · have h := h.1 hc
      refine sk_iconst (v := 0) 57 dX7_isBeside_56 rfl (by decide) ?_
      exact sk_iret dX7_isBeside_57 rfl rfl h
    · have h := h.2 hc
      refine sk_iload_n 1 29 dX7_isBeside_28 rfl rfl rfl ?_
      refine sk_bipush (v := 8) 31 dX7_isBeside_29 rfl (by decide) ?_
      refine sk_idiv 32 dX7_isBeside_31 rfl (by decide) ?_
      refine sk_iload 0 34 dX7_isBeside_32 rfl rfl ?_
      refine sk_bipush (v := 8) 36 dX7_isBeside_34 rfl (by decide) ?_
      refine sk_idiv 37 dX7_isBeside_36 rfl (by decide) ?_
      refine sk_icmp_ne 56 40 dX7_isBeside_37 (by decide) rfl (fun hc => ?_) (fun hc => ?_)
      · have h := h.1 hc
        refine sk_iconst (v := 0) 57 dX7_isBeside_56 rfl (by decide) ?_
        exact sk_iret dX7_isBeside_57 rfl rfl h
      · have h := h.2 hc
        refine sk_iload_n 1 41 dX7_isBeside_40 rfl rfl rfl ?_
        refine sk_iload 0 43 dX7_isBeside_41 rfl rfl ?_
        refine sk_aload_n 2 44 dX7_isBeside_43 rfl rfl rfl ?_
        refine sk_iload_n 4 45 dX7_isBeside_44 rfl rfl rfl ?_
        refine sk_callVi [.int v2] [.int r12, .int r4] 48 dX7_isBeside_45 rfl mfX7_broad lkX7_127 miX7_broad msX7_broad sm_0 rfl rfl rfl rfl (by simp [Value.category]) hd0 (sk_Cm h ?_)
        rintro w t45 ⟨r45, hw, h⟩
        refine ⟨r45, hw, ?_⟩
        refine sk_iadd 49 dX7_isBeside_48 rfl ?_
        refine sk_icmp_ne 56 52 dX7_isBeside_49 (by decide) rfl (fun hc => ?_) (fun hc => ?_)
        · have h := h.1 hc
          refine sk_iconst (v := 0) 57 dX7_isBeside_56 rfl (by decide) ?_
          exact sk_iret dX7_isBeside_57 rfl rfl h
        · have h := h.2 hc
          refine sk_iconst (v := 1) 53 dX7_isBeside_52 rfl (by decide) ?_
          refine sk_goto 57 dX7_isBeside_53 (by decide) ?_
          exact sk_iret dX7_isBeside_57 rfl rfl h

theorem wX7_rings {d : Nat} {τ : sk_T} {K : sk_K}
  (h : sk_G sk_Sm d mX7_rings 4 [(0, .ref 0), (1, .int 0), (2, .int 0)] [] τ K) :
  sk_C sk_Sm d mX7_rings [.ref 0] τ K := by
  refine sk_enter mfX7_rings (Nat.le_of_ble_eq_true rfl) ?_
  show sk_G sk_Sm d mX7_rings 0 [(0, .ref 0)] [] τ K
  refine sk_iconst (v := 0) 1 dX7_rings_0 rfl (by decide) ?_
  refine sk_istore_n (lv2 := [(1, .int 0), (0, .ref 0)]) 2 dX7_rings_1 rfl rfl (by decide) rfl ?_
  refine sk_iconst (v := 0) 3 dX7_rings_2 rfl (by decide) ?_
  refine sk_istore_n (lv2 := [(2, .int 0), (1, .int 0), (0, .ref 0)]) 4 dX7_rings_3 rfl rfl (by decide) rfl ?_
  refine sk_perm (lv2 := [(0, .ref 0), (1, .int 0), (2, .int 0)]) [2, 1, 0] rfl ?_
  exact h

theorem bX7_rings_4 {d : Nat} {τ : sk_T} {K : sk_K} {v1 : Int32} {v2 : Int32}
  (h : (((τ 1 6) ≤ v2 →
      K (some (.int v1)) τ
    ) ∧
    (¬ (τ 1 6) ≤ v2 →
      sk_G sk_Sm d mX7_rings 17 [(0, .ref 0), (1, .int v1), (2, .int v2), (3, .int 0)] [] τ K
    ))) :
  sk_G sk_Sm d mX7_rings 4 [(0, .ref 0), (1, .int v1), (2, .int v2)] [] τ K := by
  refine sk_iload_n 2 5 dX7_rings_4 rfl rfl rfl ?_
  refine sk_aload_n 0 6 dX7_rings_5 rfl rfl rfl ?_
  refine sk_getR (r := 1) 9 dX7_rings_6 rfl lfX7_7 sm_0 rfl ?_
  refine sk_bipush (v := 6) 11 dX7_rings_9 rfl (by decide) ?_
  refine sk_iald 12 dX7_rings_11 rfl sm_1 (by unfold vp_in; decide) 6 rfl ?_
  refine sk_icmp_ge 92 15 dX7_rings_12 (by decide) rfl (fun hc => ?_) (fun hc => ?_)
  · have h := h.1 hc
    refine sk_iload_n 1 93 dX7_rings_92 rfl rfl rfl ?_
    exact sk_iret dX7_rings_93 rfl rfl h
  · have h := h.2 hc
    refine sk_iconst (v := 0) 16 dX7_rings_15 rfl (by decide) ?_
    refine sk_istore_n (lv2 := [(3, .int 0), (0, .ref 0), (1, .int v1), (2, .int v2)]) 17 dX7_rings_16 rfl rfl (by decide) rfl ?_
    refine sk_perm (lv2 := [(0, .ref 0), (1, .int v1), (2, .int v2), (3, .int 0)]) [1, 2, 3, 0] rfl ?_
    exact h

theorem bX7_rings_17 {d : Nat} {τ : sk_T} {K : sk_K} {v1 : Int32} {v2 : Int32} {v3 : Int32} (hd0 : 0 < d)
  (h : ((v2 ≤ v3 →
      sk_G sk_Sm d mX7_rings 4 [(0, .ref 0), (1, .int v1), (2, .int (v2 + 1))] [] τ K
    ) ∧
    (¬ v2 ≤ v3 →
      sk_C sk_Sm (d - 1) mX7_its [.ref 0, .int v2, .int 4] τ (fun w t25 => ∃ r25 : Int32, w = some (.int r25) ∧
        ((r25 = v3 →
          ((¬ (1 : Int32) = 0 →
            sk_G sk_Sm d mX7_rings 17 [(0, .ref 0), (1, .int (v1 + 0)), (2, .int v2), (3, .int (v3 + 1))] [] t25 K
          ) ∧
          ((1 : Int32) = 0 →
            sk_C sk_Sm (d - 1) mX7_isBeside [.ref 0, .int v2, .int v3] t25 (fun w t58 => ∃ r58 : Int32, w = some (.int r58) ∧
              ((¬ r58 = 0 →
                sk_G sk_Sm d mX7_rings 17 [(0, .ref 0), (1, .int (v1 + 1)), (2, .int v2), (3, .int (v3 + 1))] [] t58 K
              ) ∧
              (r58 = 0 →
                sk_C sk_Sm (d - 1) mX7_isBeside [.ref 0, .int v3, .int v2] t58 (fun w t67 => ∃ r67 : Int32, w = some (.int r67) ∧
                  ((r67 = 0 →
                    sk_G sk_Sm d mX7_rings 17 [(0, .ref 0), (1, .int (v1 + 0)), (2, .int v2), (3, .int (v3 + 1))] [] t67 K
                  ) ∧
                  (¬ r67 = 0 →
                    sk_G sk_Sm d mX7_rings 17 [(0, .ref 0), (1, .int (v1 + 1)), (2, .int v2), (3, .int (v3 + 1))] [] t67 K
                  ))
                )
              ))
            )
          ))
        ) ∧
        (¬ r25 = v3 →
          sk_C sk_Sm (d - 1) mX7_its [.ref 0, .int v3, .int 4] t25 (fun w t35 => ∃ r35 : Int32, w = some (.int r35) ∧
            ((¬ r35 = v2 →
              ((¬ (0 : Int32) = 0 →
                sk_G sk_Sm d mX7_rings 17 [(0, .ref 0), (1, .int (v1 + 0)), (2, .int v2), (3, .int (v3 + 1))] [] t35 K
              ) ∧
              ((0 : Int32) = 0 →
                sk_C sk_Sm (d - 1) mX7_isBeside [.ref 0, .int v2, .int v3] t35 (fun w t58 => ∃ r58 : Int32, w = some (.int r58) ∧
                  ((¬ r58 = 0 →
                    sk_G sk_Sm d mX7_rings 17 [(0, .ref 0), (1, .int (v1 + 1)), (2, .int v2), (3, .int (v3 + 1))] [] t58 K
                  ) ∧
                  (r58 = 0 →
                    sk_C sk_Sm (d - 1) mX7_isBeside [.ref 0, .int v3, .int v2] t58 (fun w t67 => ∃ r67 : Int32, w = some (.int r67) ∧
                      ((r67 = 0 →
                        sk_G sk_Sm d mX7_rings 17 [(0, .ref 0), (1, .int (v1 + 0)), (2, .int v2), (3, .int (v3 + 1))] [] t67 K
                      ) ∧
                      (¬ r67 = 0 →
                        sk_G sk_Sm d mX7_rings 17 [(0, .ref 0), (1, .int (v1 + 1)), (2, .int v2), (3, .int (v3 + 1))] [] t67 K
                      ))
                    )
                  ))
                )
              ))
            ) ∧
            (r35 = v2 →
              ((¬ (1 : Int32) = 0 →
                sk_G sk_Sm d mX7_rings 17 [(0, .ref 0), (1, .int (v1 + 0)), (2, .int v2), (3, .int (v3 + 1))] [] t35 K
              ) ∧
              ((1 : Int32) = 0 →
                sk_C sk_Sm (d - 1) mX7_isBeside [.ref 0, .int v2, .int v3] t35 (fun w t58 => ∃ r58 : Int32, w = some (.int r58) ∧
                  ((¬ r58 = 0 →
                    sk_G sk_Sm d mX7_rings 17 [(0, .ref 0), (1, .int (v1 + 1)), (2, .int v2), (3, .int (v3 + 1))] [] t58 K
                  ) ∧
                  (r58 = 0 →
                    sk_C sk_Sm (d - 1) mX7_isBeside [.ref 0, .int v3, .int v2] t58 (fun w t67 => ∃ r67 : Int32, w = some (.int r67) ∧
                      ((r67 = 0 →
                        sk_G sk_Sm d mX7_rings 17 [(0, .ref 0), (1, .int (v1 + 0)), (2, .int v2), (3, .int (v3 + 1))] [] t67 K
                      ) ∧
                      (¬ r67 = 0 →
                        sk_G sk_Sm d mX7_rings 17 [(0, .ref 0), (1, .int (v1 + 1)), (2, .int v2), (3, .int (v3 + 1))] [] t67 K
                      ))
                    )
                  ))
                )
              ))
            ))
          )
        ))
      )
    ))) :
  sk_G sk_Sm d mX7_rings 17 [(0, .ref 0), (1, .int v1), (2, .int v2), (3, .int v3)] [] τ K := by
  refine sk_iload_n 3 18 dX7_rings_17 rfl rfl rfl ?_
  refine sk_iload_n 2 19 dX7_rings_18 rfl rfl rfl ?_
  refine sk_icmp_ge 86 22 dX7_rings_19 (by decide) rfl (fun hc => ?_) (fun hc => ?_)
  · have h := h.1 hc
    refine sk_iinc (v := (v2 + 1)) (lv2 := [(2, .int (v2 + 1)), (0, .ref 0), (1, .int v1), (3, .int v3)]) 2 89 dX7_rings_86 rfl rfl rfl (by decide) rfl ?_
    refine sk_goto 4 dX7_rings_89 (by decide) ?_
    refine sk_perm (lv2 := [(0, .ref 0), (1, .int v1), (2, .int (v2 + 1))]) [1, 2, 0] rfl ?_
    exact h
  · have h := h.2 hc
    refine sk_aload_n 0 23 dX7_rings_22 rfl rfl rfl ?_
    refine sk_iload_n 2 24 dX7_rings_23 rfl rfl rfl ?_
    refine sk_iconst (v := 4) 25 dX7_rings_24 rfl (by decide) ?_
    refine sk_callVi [.int v2, .int 4] [] 28 dX7_rings_25 rfl mfX7_its lkX7_111 miX7_its msX7_its sm_0 rfl rfl rfl rfl (by simp [Value.category]) hd0 (sk_Cm h ?_)
    rintro w t25 ⟨r25, hw, h⟩
    refine ⟨r25, hw, ?_⟩
    refine sk_iload_n 3 29 dX7_rings_28 rfl rfl rfl ?_
    refine sk_icmp_eq 42 32 dX7_rings_29 (by decide) rfl (fun hc => ?_) (fun hc => ?_)
    · have h := h.1 hc
      refine sk_iconst (v := 1) 43 dX7_rings_42 rfl (by decide) ?_
      refine sk_goto 47 dX7_rings_43 (by decide) ?_
      refine sk_istore (lv2 := [(4, .int 1), (0, .ref 0), (1, .int v1), (2, .int v2), (3, .int v3)]) 49 dX7_rings_47 rfl (by decide) rfl ?_
      refine sk_iload_n 2 50 dX7_rings_49 rfl rfl rfl ?_
      refine sk_iload 0 52 dX7_rings_50 rfl rfl ?_
      refine sk_if_ne 77 55 dX7_rings_52 (by decide) rfl (fun hc => ?_) (fun hc => ?_)
      · have h := h.1 hc
        refine sk_iconst (v := 0) 78 dX7_rings_77 rfl (by decide) ?_
        refine sk_iadd 79 dX7_rings_78 rfl ?_
        refine sk_istore_n (lv2 := [(1, .int (v1 + 0)), (4, .int 1), (0, .ref 0), (2, .int v2), (3, .int v3)]) 80 dX7_rings_79 rfl rfl (by decide) rfl ?_
        refine sk_iinc (v := (v3 + 1)) (lv2 := [(3, .int (v3 + 1)), (1, .int (v1 + 0)), (4, .int 1), (0, .ref 0), (2, .int v2)]) 4 83 dX7_rings_80 rfl rfl rfl (by decide) rfl ?_
        refine sk_goto 17 dX7_rings_83 (by decide) ?_
        refine sk_perm (lv2 := [(0, .ref 0), (1, .int (v1 + 0)), (2, .int v2), (3, .int (v3 + 1))]) [3, 1, 4, 0] rfl ?_
        exact h
      · have h := h.2 hc
        refine sk_aload_n 1 56 dX7_rings_55 rfl rfl rfl ?_
        refine sk_iload_n 3 57 dX7_rings_56 rfl rfl rfl ?_
        refine sk_iload_n 4 58 dX7_rings_57 rfl rfl rfl ?_
        refine sk_callVi [.int v2, .int v3] [.int v1] 61 dX7_rings_58 rfl mfX7_isBeside lkX7_208 miX7_isBeside msX7_isBeside sm_0 rfl rfl rfl rfl (by simp [Value.category]) hd0 (sk_Cm h ?_)
        rintro w t58 ⟨r58, hw, h⟩
        refine ⟨r58, hw, ?_⟩
        refine sk_if_ne 73 64 dX7_rings_61 (by decide) rfl (fun hc => ?_) (fun hc => ?_)
        · have h := h.1 hc
          refine sk_iconst (v := 1) 74 dX7_rings_73 rfl (by decide) ?_
          refine sk_goto 78 dX7_rings_74 (by decide) ?_
          refine sk_iadd 79 dX7_rings_78 rfl ?_
          refine sk_istore_n (lv2 := [(1, .int (v1 + 1)), (4, .int 1), (0, .ref 0), (2, .int v2), (3, .int v3)]) 80 dX7_rings_79 rfl rfl (by decide) rfl ?_
          refine sk_iinc (v := (v3 + 1)) (lv2 := [(3, .int (v3 + 1)), (1, .int (v1 + 1)), (4, .int 1), (0, .ref 0), (2, .int v2)]) 4 83 dX7_rings_80 rfl rfl rfl (by decide) rfl ?_
          refine sk_goto 17 dX7_rings_83 (by decide) ?_
          refine sk_perm (lv2 := [(0, .ref 0), (1, .int (v1 + 1)), (2, .int v2), (3, .int (v3 + 1))]) [3, 1, 4, 0] rfl ?_
          exact h
        · have h := h.2 hc
          refine sk_aload_n 1 65 dX7_rings_64 rfl rfl rfl ?_
          refine sk_iload_n 4 66 dX7_rings_65 rfl rfl rfl ?_
          refine sk_iload_n 3 67 dX7_rings_66 rfl rfl rfl ?_
          refine sk_callVi [.int v3, .int v2] [.int v1] 70 dX7_rings_67 rfl mfX7_isBeside lkX7_208 miX7_isBeside msX7_isBeside sm_0 rfl rfl rfl rfl (by simp [Value.category]) hd0 (sk_Cm h ?_)
          rintro w t67 ⟨r67, hw, h⟩
          refine ⟨r67, hw, ?_⟩
          refine sk_if_eq 77 73 dX7_rings_70 (by decide) rfl (fun hc => ?_) (fun hc => ?_)
          · have h := h.1 hc
            refine sk_iconst (v := 0) 78 dX7_rings_77 rfl (by decide) ?_
            refine sk_iadd 79 dX7_rings_78 rfl ?_
            refine sk_istore_n (lv2 := [(1, .int (v1 + 0)), (4, .int 1), (0, .ref 0), (2, .int v2), (3, .int v3)]) 80 dX7_rings_79 rfl rfl (by decide) rfl ?_
            refine sk_iinc (v := (v3 + 1)) (lv2 := [(3, .int (v3 + 1)), (1, .int (v1 + 0)), (4, .int 1), (0, .ref 0), (2, .int v2)]) 4 83 dX7_rings_80 rfl rfl rfl (by decide) rfl ?_
            refine sk_goto 17 dX7_rings_83 (by decide) ?_
            refine sk_perm (lv2 := [(0, .ref 0), (1, .int (v1 + 0)), (2, .int v2), (3, .int (v3 + 1))]) [3, 1, 4, 0] rfl ?_
            exact h
          · have h := h.2 hc
            refine sk_iconst (v := 1) 74 dX7_rings_73 rfl (by decide) ?_
            refine sk_goto 78 dX7_rings_74 (by decide) ?_
            refine sk_iadd 79 dX7_rings_78 rfl ?_
            refine sk_istore_n (lv2 := [(1, .int (v1 + 1)), (4, .int 1), (0, .ref 0), (2, .int v2), (3, .int v3)]) 80 dX7_rings_79 rfl rfl (by decide) rfl ?_
            refine sk_iinc (v := (v3 + 1)) (lv2 := [(3, .int (v3 + 1)), (1, .int (v1 + 1)), (4, .int 1), (0, .ref 0), (2, .int v2)]) 4 83 dX7_rings_80 rfl rfl rfl (by decide) rfl ?_
            refine sk_goto 17 dX7_rings_83 (by decide) ?_
            refine sk_perm (lv2 := [(0, .ref 0), (1, .int (v1 + 1)), (2, .int v2), (3, .int (v3 + 1))]) [3, 1, 4, 0] rfl ?_
            exact h
    · have h := h.2 hc
      refine sk_aload_n 0 33 dX7_rings_32 rfl rfl rfl ?_
      refine sk_iload_n 3 34 dX7_rings_33 rfl rfl rfl ?_
      refine sk_iconst (v := 4) 35 dX7_rings_34 rfl (by decide) ?_
      refine sk_callVi [.int v3, .int 4] [] 38 dX7_rings_35 rfl mfX7_its lkX7_111 miX7_its msX7_its sm_0 rfl rfl rfl rfl (by simp [Value.category]) hd0 (sk_Cm h ?_)
      rintro w t35 ⟨r35, hw, h⟩
      refine ⟨r35, hw, ?_⟩
      refine sk_iload_n 2 39 dX7_rings_38 rfl rfl rfl ?_
      refine sk_icmp_ne 46 42 dX7_rings_39 (by decide) rfl (fun hc => ?_) (fun hc => ?_)
      · have h := h.1 hc
        refine sk_iconst (v := 0) 47 dX7_rings_46 rfl (by decide) ?_
        refine sk_istore (lv2 := [(4, .int 0), (0, .ref 0), (1, .int v1), (2, .int v2), (3, .int v3)]) 49 dX7_rings_47 rfl (by decide) rfl ?_
        refine sk_iload_n 2 50 dX7_rings_49 rfl rfl rfl ?_
        refine sk_iload 0 52 dX7_rings_50 rfl rfl ?_
        refine sk_if_ne 77 55 dX7_rings_52 (by decide) rfl (fun hc => ?_) (fun hc => ?_)
        · have h := h.1 hc
          refine sk_iconst (v := 0) 78 dX7_rings_77 rfl (by decide) ?_
          refine sk_iadd 79 dX7_rings_78 rfl ?_
          refine sk_istore_n (lv2 := [(1, .int (v1 + 0)), (4, .int 0), (0, .ref 0), (2, .int v2), (3, .int v3)]) 80 dX7_rings_79 rfl rfl (by decide) rfl ?_
          refine sk_iinc (v := (v3 + 1)) (lv2 := [(3, .int (v3 + 1)), (1, .int (v1 + 0)), (4, .int 0), (0, .ref 0), (2, .int v2)]) 4 83 dX7_rings_80 rfl rfl rfl (by decide) rfl ?_
          refine sk_goto 17 dX7_rings_83 (by decide) ?_
          refine sk_perm (lv2 := [(0, .ref 0), (1, .int (v1 + 0)), (2, .int v2), (3, .int (v3 + 1))]) [3, 1, 4, 0] rfl ?_
          exact h
        · have h := h.2 hc
          refine sk_aload_n 1 56 dX7_rings_55 rfl rfl rfl ?_
          refine sk_iload_n 3 57 dX7_rings_56 rfl rfl rfl ?_
          refine sk_iload_n 4 58 dX7_rings_57 rfl rfl rfl ?_
          refine sk_callVi [.int v2, .int v3] [.int v1] 61 dX7_rings_58 rfl mfX7_isBeside lkX7_208 miX7_isBeside msX7_isBeside sm_0 rfl rfl rfl rfl (by simp [Value.category]) hd0 (sk_Cm h ?_)
          rintro w t58 ⟨r58, hw, h⟩
          refine ⟨r58, hw, ?_⟩
          refine sk_if_ne 73 64 dX7_rings_61 (by decide) rfl (fun hc => ?_) (fun hc => ?_)
          · have h := h.1 hc
            refine sk_iconst (v := 1) 74 dX7_rings_73 rfl (by decide) ?_
            refine sk_goto 78 dX7_rings_74 (by decide) ?_
            refine sk_iadd 79 dX7_rings_78 rfl ?_
            refine sk_istore_n (lv2 := [(1, .int (v1 + 1)), (4, .int 0), (0, .ref 0), (2, .int v2), (3, .int v3)]) 80 dX7_rings_79 rfl rfl (by decide) rfl ?_
            refine sk_iinc (v := (v3 + 1)) (lv2 := [(3, .int (v3 + 1)), (1, .int (v1 + 1)), (4, .int 0), (0, .ref 0), (2, .int v2)]) 4 83 dX7_rings_80 rfl rfl rfl (by decide) rfl ?_
            refine sk_goto 17 dX7_rings_83 (by decide) ?_
            refine sk_perm (lv2 := [(0, .ref 0), (1, .int (v1 + 1)), (2, .int v2), (3, .int (v3 + 1))]) [3, 1, 4, 0] rfl ?_
            exact h
          · have h := h.2 hc
            refine sk_aload_n 1 65 dX7_rings_64 rfl rfl rfl ?_
            refine sk_iload_n 4 66 dX7_rings_65 rfl rfl rfl ?_
            refine sk_iload_n 3 67 dX7_rings_66 rfl rfl rfl ?_
            refine sk_callVi [.int v3, .int v2] [.int v1] 70 dX7_rings_67 rfl mfX7_isBeside lkX7_208 miX7_isBeside msX7_isBeside sm_0 rfl rfl rfl rfl (by simp [Value.category]) hd0 (sk_Cm h ?_)
            rintro w t67 ⟨r67, hw, h⟩
            refine ⟨r67, hw, ?_⟩
            refine sk_if_eq 77 73 dX7_rings_70 (by decide) rfl (fun hc => ?_) (fun hc => ?_)
            · have h := h.1 hc
              refine sk_iconst (v := 0) 78 dX7_rings_77 rfl (by decide) ?_
              refine sk_iadd 79 dX7_rings_78 rfl ?_
              refine sk_istore_n (lv2 := [(1, .int (v1 + 0)), (4, .int 0), (0, .ref 0), (2, .int v2), (3, .int v3)]) 80 dX7_rings_79 rfl rfl (by decide) rfl ?_
              refine sk_iinc (v := (v3 + 1)) (lv2 := [(3, .int (v3 + 1)), (1, .int (v1 + 0)), (4, .int 0), (0, .ref 0), (2, .int v2)]) 4 83 dX7_rings_80 rfl rfl rfl (by decide) rfl ?_
              refine sk_goto 17 dX7_rings_83 (by decide) ?_
              refine sk_perm (lv2 := [(0, .ref 0), (1, .int (v1 + 0)), (2, .int v2), (3, .int (v3 + 1))]) [3, 1, 4, 0] rfl ?_
              exact h
            · have h := h.2 hc
              refine sk_iconst (v := 1) 74 dX7_rings_73 rfl (by decide) ?_
              refine sk_goto 78 dX7_rings_74 (by decide) ?_
              refine sk_iadd 79 dX7_rings_78 rfl ?_
              refine sk_istore_n (lv2 := [(1, .int (v1 + 1)), (4, .int 0), (0, .ref 0), (2, .int v2), (3, .int v3)]) 80 dX7_rings_79 rfl rfl (by decide) rfl ?_
              refine sk_iinc (v := (v3 + 1)) (lv2 := [(3, .int (v3 + 1)), (1, .int (v1 + 1)), (4, .int 0), (0, .ref 0), (2, .int v2)]) 4 83 dX7_rings_80 rfl rfl rfl (by decide) rfl ?_
              refine sk_goto 17 dX7_rings_83 (by decide) ?_
              refine sk_perm (lv2 := [(0, .ref 0), (1, .int (v1 + 1)), (2, .int v2), (3, .int (v3 + 1))]) [3, 1, 4, 0] rfl ?_
              exact h
      · have h := h.2 hc
        refine sk_iconst (v := 1) 43 dX7_rings_42 rfl (by decide) ?_
        refine sk_goto 47 dX7_rings_43 (by decide) ?_
        refine sk_istore (lv2 := [(4, .int 1), (0, .ref 0), (1, .int v1), (2, .int v2), (3, .int v3)]) 49 dX7_rings_47 rfl (by decide) rfl ?_
        refine sk_iload_n 2 50 dX7_rings_49 rfl rfl rfl ?_
        refine sk_iload 0 52 dX7_rings_50 rfl rfl ?_
        refine sk_if_ne 77 55 dX7_rings_52 (by decide) rfl (fun hc => ?_) (fun hc => ?_)
        · have h := h.1 hc
          refine sk_iconst (v := 0) 78 dX7_rings_77 rfl (by decide) ?_
          refine sk_iadd 79 dX7_rings_78 rfl ?_
          refine sk_istore_n (lv2 := [(1, .int (v1 + 0)), (4, .int 1), (0, .ref 0), (2, .int v2), (3, .int v3)]) 80 dX7_rings_79 rfl rfl (by decide) rfl ?_
          refine sk_iinc (v := (v3 + 1)) (lv2 := [(3, .int (v3 + 1)), (1, .int (v1 + 0)), (4, .int 1), (0, .ref 0), (2, .int v2)]) 4 83 dX7_rings_80 rfl rfl rfl (by decide) rfl ?_
          refine sk_goto 17 dX7_rings_83 (by decide) ?_
          refine sk_perm (lv2 := [(0, .ref 0), (1, .int (v1 + 0)), (2, .int v2), (3, .int (v3 + 1))]) [3, 1, 4, 0] rfl ?_
          exact h
        · have h := h.2 hc
          refine sk_aload_n 1 56 dX7_rings_55 rfl rfl rfl ?_
          refine sk_iload_n 3 57 dX7_rings_56 rfl rfl rfl ?_
          refine sk_iload_n 4 58 dX7_rings_57 rfl rfl rfl ?_
          refine sk_callVi [.int v2, .int v3] [.int v1] 61 dX7_rings_58 rfl mfX7_isBeside lkX7_208 miX7_isBeside msX7_isBeside sm_0 rfl rfl rfl rfl (by simp [Value.category]) hd0 (sk_Cm h ?_)
          rintro w t58 ⟨r58, hw, h⟩
          refine ⟨r58, hw, ?_⟩
          refine sk_if_ne 73 64 dX7_rings_61 (by decide) rfl (fun hc => ?_) (fun hc => ?_)
          · have h := h.1 hc
            refine sk_iconst (v := 1) 74 dX7_rings_73 rfl (by decide) ?_
            refine sk_goto 78 dX7_rings_74 (by decide) ?_
            refine sk_iadd 79 dX7_rings_78 rfl ?_
            refine sk_istore_n (lv2 := [(1, .int (v1 + 1)), (4, .int 1), (0, .ref 0), (2, .int v2), (3, .int v3)]) 80 dX7_rings_79 rfl rfl (by decide) rfl ?_
            refine sk_iinc (v := (v3 + 1)) (lv2 := [(3, .int (v3 + 1)), (1, .int (v1 + 1)), (4, .int 1), (0, .ref 0), (2, .int v2)]) 4 83 dX7_rings_80 rfl rfl rfl (by decide) rfl ?_
            refine sk_goto 17 dX7_rings_83 (by decide) ?_
            refine sk_perm (lv2 := [(0, .ref 0), (1, .int (v1 + 1)), (2, .int v2), (3, .int (v3 + 1))]) [3, 1, 4, 0] rfl ?_
            exact h
          · have h := h.2 hc
            refine sk_aload_n 1 65 dX7_rings_64 rfl rfl rfl ?_
            refine sk_iload_n 4 66 dX7_rings_65 rfl rfl rfl ?_
            refine sk_iload_n 3 67 dX7_rings_66 rfl rfl rfl ?_
            refine sk_callVi [.int v3, .int v2] [.int v1] 70 dX7_rings_67 rfl mfX7_isBeside lkX7_208 miX7_isBeside msX7_isBeside sm_0 rfl rfl rfl rfl (by simp [Value.category]) hd0 (sk_Cm h ?_)
            rintro w t67 ⟨r67, hw, h⟩
            refine ⟨r67, hw, ?_⟩
            refine sk_if_eq 77 73 dX7_rings_70 (by decide) rfl (fun hc => ?_) (fun hc => ?_)
            · have h := h.1 hc
              refine sk_iconst (v := 0) 78 dX7_rings_77 rfl (by decide) ?_
              refine sk_iadd 79 dX7_rings_78 rfl ?_
              refine sk_istore_n (lv2 := [(1, .int (v1 + 0)), (4, .int 1), (0, .ref 0), (2, .int v2), (3, .int v3)]) 80 dX7_rings_79 rfl rfl (by decide) rfl ?_
              refine sk_iinc (v := (v3 + 1)) (lv2 := [(3, .int (v3 + 1)), (1, .int (v1 + 0)), (4, .int 1), (0, .ref 0), (2, .int v2)]) 4 83 dX7_rings_80 rfl rfl rfl (by decide) rfl ?_
              refine sk_goto 17 dX7_rings_83 (by decide) ?_
              refine sk_perm (lv2 := [(0, .ref 0), (1, .int (v1 + 0)), (2, .int v2), (3, .int (v3 + 1))]) [3, 1, 4, 0] rfl ?_
              exact h
            · have h := h.2 hc
              refine sk_iconst (v := 1) 74 dX7_rings_73 rfl (by decide) ?_
              refine sk_goto 78 dX7_rings_74 (by decide) ?_
              refine sk_iadd 79 dX7_rings_78 rfl ?_
              refine sk_istore_n (lv2 := [(1, .int (v1 + 1)), (4, .int 1), (0, .ref 0), (2, .int v2), (3, .int v3)]) 80 dX7_rings_79 rfl rfl (by decide) rfl ?_
              refine sk_iinc (v := (v3 + 1)) (lv2 := [(3, .int (v3 + 1)), (1, .int (v1 + 1)), (4, .int 1), (0, .ref 0), (2, .int v2)]) 4 83 dX7_rings_80 rfl rfl rfl (by decide) rfl ?_
              refine sk_goto 17 dX7_rings_83 (by decide) ?_
              refine sk_perm (lv2 := [(0, .ref 0), (1, .int (v1 + 1)), (2, .int v2), (3, .int (v3 + 1))]) [3, 1, 4, 0] rfl ?_
              exact h

theorem wX7_divisor {d : Nat} {τ : sk_T} {K : sk_K} {v0 : Int32} {v1 : Int32}
  (h : sk_G sk_Sm d mX7_divisor 4 [(2, .int v0), (3, .int v1)] [] τ K) :
  sk_C sk_Sm d mX7_divisor [.int v0, .int v1] τ K := by
  refine sk_enter mfX7_divisor (Nat.le_of_ble_eq_true rfl) ?_
  show sk_G sk_Sm d mX7_divisor 0 [(0, .int v0), (1, .int v1)] [] τ K
  refine sk_iload_n 0 1 dX7_divisor_0 rfl rfl rfl ?_
  refine sk_istore_n (lv2 := [(2, .int v0), (0, .int v0), (1, .int v1)]) 2 dX7_divisor_1 rfl rfl (by decide) rfl ?_
  refine sk_iload_n 2 3 dX7_divisor_2 rfl rfl rfl ?_
  refine sk_istore_n (lv2 := [(3, .int v1), (2, .int v0), (0, .int v0), (1, .int v1)]) 4 dX7_divisor_3 rfl rfl (by decide) rfl ?_
  refine sk_perm (lv2 := [(2, .int v0), (3, .int v1)]) [1, 0] rfl ?_
  exact h

theorem bX7_divisor_4 {d : Nat} {τ : sk_T} {K : sk_K} {v2 : Int32} {v3 : Int32}
  (h : ((v3 = 0 →
      K (some (.int v2)) τ
    ) ∧
    (¬ v3 = 0 →
      ¬ v3 = 0 ∧
      sk_G sk_Sm d mX7_divisor 4 [(2, .int v3), (3, .int (v2 % v3))] [] τ K
    ))) :
  sk_G sk_Sm d mX7_divisor 4 [(2, .int v2), (3, .int v3)] [] τ K := by
  refine sk_iload_n 1 5 dX7_divisor_4 rfl rfl rfl ?_
  refine sk_if_eq 21 8 dX7_divisor_5 (by decide) rfl (fun hc => ?_) (fun hc => ?_)
  · have h := h.1 hc
    refine sk_iload_n 0 22 dX7_divisor_21 rfl rfl rfl ?_
    exact sk_iret dX7_divisor_22 rfl rfl h
  · have h := h.2 hc
    refine sk_iload_n 0 9 dX7_divisor_8 rfl rfl rfl ?_
    refine sk_iload_n 1 10 dX7_divisor_9 rfl rfl rfl ?_
    have hz10 := h.1
    have h := h.2
    refine sk_irem 11 dX7_divisor_10 rfl hz10 ?_
    refine sk_istore (lv2 := [(4, .int (v2 % v3)), (2, .int v2), (3, .int v3)]) 13 dX7_divisor_11 rfl (by decide) rfl ?_
    refine sk_iload_n 2 14 dX7_divisor_13 rfl rfl rfl ?_
    refine sk_istore_n (lv2 := [(2, .int v3), (4, .int (v2 % v3)), (3, .int v3)]) 15 dX7_divisor_14 rfl rfl (by decide) rfl ?_
    refine sk_iload 1 17 dX7_divisor_15 rfl rfl ?_
    refine sk_istore_n (lv2 := [(3, .int (v2 % v3)), (2, .int v3), (4, .int (v2 % v3))]) 18 dX7_divisor_17 rfl rfl (by decide) rfl ?_
    refine sk_goto 4 dX7_divisor_18 (by decide) ?_
    refine sk_perm (lv2 := [(2, .int v3), (3, .int (v2 % v3))]) [1, 0] rfl ?_
    exact h

theorem wX7_odds {d : Nat} {τ : sk_T} {K : sk_K} {v1 : Int32} {v2 : Int32} (hd0 : 0 < d)
  (h : sk_C sk_Sm (d - 1) mX7_in [.int v1, .int 0, .int 47] τ (fun w t4 => ∃ r4 : Int32, w = some (.int r4) ∧
      ((r4 = 0 →
        sk_C sk_Sm (d - 1) mX7_error [.ref 0, .int 1] t4 (fun w t21 => ∃ r21 : Int32, w = some (.int r21) ∧
          K (some (.int r21)) t21
        )
      ) ∧
      (¬ r4 = 0 →
        sk_C sk_Sm (d - 1) mX7_in [.int v2, .int 0, .int 1] t4 (fun w t13 => ∃ r13 : Int32, w = some (.int r13) ∧
          ((¬ r13 = 0 →
            sk_G sk_Sm d mX7_odds 30 [(0, .ref 0), (1, .int v1), (2, .int v2), (3, .int 0), (4, .int 0)] [] t13 K
          ) ∧
          (r13 = 0 →
            sk_C sk_Sm (d - 1) mX7_error [.ref 0, .int 1] t13 (fun w t21 => ∃ r21 : Int32, w = some (.int r21) ∧
              K (some (.int r21)) t21
            )
          ))
        )
      ))
    )) :
  sk_C sk_Sm d mX7_odds [.ref 0, .int v1, .int v2] τ K := by
  refine sk_enter mfX7_odds (Nat.le_of_ble_eq_true rfl) ?_
  show sk_G sk_Sm d mX7_odds 0 [(0, .ref 0), (1, .int v1), (2, .int v2)] [] τ K
  refine sk_iload_n 1 1 dX7_odds_0 rfl rfl rfl ?_
  refine sk_iconst (v := 0) 2 dX7_odds_1 rfl (by decide) ?_
  refine sk_bipush (v := 47) 4 dX7_odds_2 rfl (by decide) ?_
  refine sk_callSi [.int v1, .int 0, .int 47] [] 7 dX7_odds_4 rfl mfX7_in lkX7_47 miX7_in rfl rfl (by simp [Value.category]) hd0 (sk_Cm h ?_)
  rintro w t4 ⟨r4, hw, h⟩
  refine ⟨r4, hw, ?_⟩
  refine sk_if_eq 19 10 dX7_odds_7 (by decide) rfl (fun hc => ?_) (fun hc => ?_)
  · have h := h.1 hc
    refine sk_aload_n 0 20 dX7_odds_19 rfl rfl rfl ?_
    refine sk_iconst (v := 1) 21 dX7_odds_20 rfl (by decide) ?_
    refine sk_callVi [.int 1] [] 24 dX7_odds_21 rfl mfX7_error lkX7_51 miX7_error msX7_error sm_0 rfl rfl rfl rfl (by simp [Value.category]) hd0 (sk_Cm h ?_)
    rintro w t21 ⟨r21, hw, h⟩
    refine ⟨r21, hw, ?_⟩
    exact sk_iret dX7_odds_24 rfl rfl h
  · have h := h.2 hc
    refine sk_iload_n 2 11 dX7_odds_10 rfl rfl rfl ?_
    refine sk_iconst (v := 0) 12 dX7_odds_11 rfl (by decide) ?_
    refine sk_iconst (v := 1) 13 dX7_odds_12 rfl (by decide) ?_
    refine sk_callSi [.int v2, .int 0, .int 1] [] 16 dX7_odds_13 rfl mfX7_in lkX7_47 miX7_in rfl rfl (by simp [Value.category]) hd0 (sk_Cm h ?_)
    rintro w t13 ⟨r13, hw, h⟩
    refine ⟨r13, hw, ?_⟩
    refine sk_if_ne 25 19 dX7_odds_16 (by decide) rfl (fun hc => ?_) (fun hc => ?_)
    · have h := h.1 hc
      refine sk_iconst (v := 0) 26 dX7_odds_25 rfl (by decide) ?_
      refine sk_istore_n (lv2 := [(3, .int 0), (0, .ref 0), (1, .int v1), (2, .int v2)]) 27 dX7_odds_26 rfl rfl (by decide) rfl ?_
      refine sk_iconst (v := 0) 28 dX7_odds_27 rfl (by decide) ?_
      refine sk_istore (lv2 := [(4, .int 0), (3, .int 0), (0, .ref 0), (1, .int v1), (2, .int v2)]) 30 dX7_odds_28 rfl (by decide) rfl ?_
      refine sk_perm (lv2 := [(0, .ref 0), (1, .int v1), (2, .int v2), (3, .int 0), (4, .int 0)]) [2, 3, 4, 1, 0] rfl ?_
      exact h
    · have h := h.2 hc
      refine sk_aload_n 0 20 dX7_odds_19 rfl rfl rfl ?_
      refine sk_iconst (v := 1) 21 dX7_odds_20 rfl (by decide) ?_
      refine sk_callVi [.int 1] [] 24 dX7_odds_21 rfl mfX7_error lkX7_51 miX7_error msX7_error sm_0 rfl rfl rfl rfl (by simp [Value.category]) hd0 (sk_Cm h ?_)
      rintro w t21 ⟨r21, hw, h⟩
      refine ⟨r21, hw, ?_⟩
      exact sk_iret dX7_odds_24 rfl rfl h

theorem bX7_odds_30 {d : Nat} {τ : sk_T} {K : sk_K} {v1 : Int32} {v2 : Int32} {v3 : Int32} {v4 : Int32} (hd0 : 0 < d)
  (h : ((40 ≤ v4 →
      sk_C sk_Sm (d - 1) mX7_divisor [.int v3, .int 40] τ (fun w t69 => ∃ r69 : Int32, w = some (.int r69) ∧
        ((¬ v2 = 0 →
          ¬ r69 = 0 ∧
          K (some (.int (40 / r69))) t69
        ) ∧
        (v2 = 0 →
          ¬ r69 = 0 ∧
          K (some (.int (v3 / r69))) t69
        ))
      )
    ) ∧
    (¬ 40 ≤ v4 →
      sk_C sk_Sm (d - 1) mX7_dryBehind [.ref 0, .int v4] τ (fun w t41 => ∃ r41 : Int64, w = some (.long r41) ∧
        ((¬ (lg_cmp ((sk_lush r41 v1) &&& 1) 1) = 0 →
          sk_G sk_Sm d mX7_odds 30 [(0, .ref 0), (1, .int v1), (2, .int v2), (3, .int (v3 + 0)), (4, .int (v4 + 1))] [] t41 K
        ) ∧
        ((lg_cmp ((sk_lush r41 v1) &&& 1) 1) = 0 →
          sk_G sk_Sm d mX7_odds 30 [(0, .ref 0), (1, .int v1), (2, .int v2), (3, .int (v3 + 1)), (4, .int (v4 + 1))] [] t41 K
        ))
      )
    ))) :
  sk_G sk_Sm d mX7_odds 30 [(0, .ref 0), (1, .int v1), (2, .int v2), (3, .int v3), (4, .int v4)] [] τ K := by
  refine sk_iload 4 32 dX7_odds_30 rfl rfl ?_
  refine sk_bipush (v := 40) 34 dX7_odds_32 rfl (by decide) ?_
  refine sk_icmp_ge 66 37 dX7_odds_34 (by decide) rfl (fun hc => ?_) (fun hc => ?_)
  · have h := h.1 hc
    refine sk_iload_n 3 67 dX7_odds_66 rfl rfl rfl ?_
    refine sk_bipush (v := 40) 69 dX7_odds_67 rfl (by decide) ?_
    refine sk_callSi [.int v3, .int 40] [] 72 dX7_odds_69 rfl mfX7_divisor lkX7_211 miX7_divisor rfl rfl (by simp [Value.category]) hd0 (sk_Cm h ?_)
    rintro w t69 ⟨r69, hw, h⟩
    refine ⟨r69, hw, ?_⟩
    refine sk_istore (lv2 := [(4, .int r69), (0, .ref 0), (1, .int v1), (2, .int v2), (3, .int v3)]) 74 dX7_odds_72 rfl (by decide) rfl ?_
    refine sk_iload_n 3 75 dX7_odds_74 rfl rfl rfl ?_
    refine sk_if_ne 85 78 dX7_odds_75 (by decide) rfl (fun hc => ?_) (fun hc => ?_)
    · have h := h.1 hc
      refine sk_bipush (v := 40) 87 dX7_odds_85 rfl (by decide) ?_
      refine sk_iload 0 89 dX7_odds_87 rfl rfl ?_
      have hz89 := h.1
      have h := h.2
      refine sk_idiv 90 dX7_odds_89 rfl hz89 ?_
      exact sk_iret dX7_odds_90 rfl rfl h
    · have h := h.2 hc
      refine sk_iload_n 4 79 dX7_odds_78 rfl rfl rfl ?_
      refine sk_iload 0 81 dX7_odds_79 rfl rfl ?_
      have hz81 := h.1
      have h := h.2
      refine sk_idiv 82 dX7_odds_81 rfl hz81 ?_
      refine sk_goto 90 dX7_odds_82 (by decide) ?_
      exact sk_iret dX7_odds_90 rfl rfl h
  · have h := h.2 hc
    refine sk_iload_n 3 38 dX7_odds_37 rfl rfl rfl ?_
    refine sk_aload_n 0 39 dX7_odds_38 rfl rfl rfl ?_
    refine sk_iload 4 41 dX7_odds_39 rfl rfl ?_
    refine sk_callVl [.int v4] [.int v3] 44 dX7_odds_41 rfl mfX7_dryBehind lkX7_205 miX7_dryBehind msX7_dryBehind sm_0 rfl rfl rfl rfl (by simp [Value.category]) hd0 (sk_Cm h ?_)
    rintro w t41 ⟨r41, hw, h⟩
    refine ⟨r41, hw, ?_⟩
    refine sk_iload_n 1 45 dX7_odds_44 rfl rfl rfl ?_
    refine sk_lushr 46 dX7_odds_45 rfl ?_
    refine sk_lconst (v := 1) 47 dX7_odds_46 rfl (by decide) ?_
    refine sk_land 48 dX7_odds_47 rfl ?_
    refine sk_lconst (v := 1) 49 dX7_odds_48 rfl (by decide) ?_
    refine sk_lcmp 50 dX7_odds_49 rfl ?_
    refine sk_if_ne 57 53 dX7_odds_50 (by decide) rfl (fun hc => ?_) (fun hc => ?_)
    · have h := h.1 hc
      refine sk_iconst (v := 0) 58 dX7_odds_57 rfl (by decide) ?_
      refine sk_iadd 59 dX7_odds_58 rfl ?_
      refine sk_istore_n (lv2 := [(3, .int (v3 + 0)), (0, .ref 0), (1, .int v1), (2, .int v2), (4, .int v4)]) 60 dX7_odds_59 rfl rfl (by decide) rfl ?_
      refine sk_iinc (v := (v4 + 1)) (lv2 := [(4, .int (v4 + 1)), (3, .int (v3 + 0)), (0, .ref 0), (1, .int v1), (2, .int v2)]) 4 63 dX7_odds_60 rfl rfl rfl (by decide) rfl ?_
      refine sk_goto 30 dX7_odds_63 (by decide) ?_
      refine sk_perm (lv2 := [(0, .ref 0), (1, .int v1), (2, .int v2), (3, .int (v3 + 0)), (4, .int (v4 + 1))]) [2, 3, 4, 1, 0] rfl ?_
      exact h
    · have h := h.2 hc
      refine sk_iconst (v := 1) 54 dX7_odds_53 rfl (by decide) ?_
      refine sk_goto 58 dX7_odds_54 (by decide) ?_
      refine sk_iadd 59 dX7_odds_58 rfl ?_
      refine sk_istore_n (lv2 := [(3, .int (v3 + 1)), (0, .ref 0), (1, .int v1), (2, .int v2), (4, .int v4)]) 60 dX7_odds_59 rfl rfl (by decide) rfl ?_
      refine sk_iinc (v := (v4 + 1)) (lv2 := [(4, .int (v4 + 1)), (3, .int (v3 + 1)), (0, .ref 0), (1, .int v1), (2, .int v2)]) 4 63 dX7_odds_60 rfl rfl rfl (by decide) rfl ?_
      refine sk_goto 30 dX7_odds_63 (by decide) ?_
      refine sk_perm (lv2 := [(0, .ref 0), (1, .int v1), (2, .int v2), (3, .int (v3 + 1)), (4, .int (v4 + 1))]) [2, 3, 4, 1, 0] rfl ?_
      exact h

theorem wX7_fits {d : Nat} {τ : sk_T} {K : sk_K} {v1 : Int32} {v2 : Int32} (hd0 : 0 < d)
  (h : sk_C sk_Sm (d - 1) mX7_in [.int v2, .int 0, .int 1] τ (fun w t3 => ∃ r3 : Int32, w = some (.int r3) ∧
      ((r3 = 0 →
        (((1 : Int32) = 0 →
          sk_G sk_Sm d mX7_fits 39 [(0, .ref 0), (1, .int v1), (2, .int v2), (4, .int 0), (5, .int (-1)), (6, .int 40)] [] t3 K
        ) ∧
        (¬ (1 : Int32) = 0 →
          sk_C sk_Sm (d - 1) mX7_error [.ref 0, .int 1] t3 (fun w t25 => ∃ r25 : Int32, w = some (.int r25) ∧
            K (some (.int r25)) t25
          )
        ))
      ) ∧
      (¬ r3 = 0 →
        sk_C sk_Sm (d - 1) mX7_lacks [.ref 0, .int v1] t3 (fun w t11 => ∃ r11 : Int32, w = some (.int r11) ∧
          ((r11 = 0 →
            sk_G sk_Sm d mX7_fits 39 [(0, .ref 0), (1, .int v1), (2, .int v2), (4, .int 0), (5, .int (-1)), (6, .int 40)] [] t11 K
          ) ∧
          (¬ r11 = 0 →
            sk_C sk_Sm (d - 1) mX7_error [.ref 0, .int r11] t11 (fun w t25 => ∃ r25 : Int32, w = some (.int r25) ∧
              K (some (.int r25)) t25
            )
          ))
        )
      ))
    )) :
  sk_C sk_Sm d mX7_fits [.ref 0, .int v1, .int v2] τ K := by
  refine sk_enter mfX7_fits (Nat.le_of_ble_eq_true rfl) ?_
  show sk_G sk_Sm d mX7_fits 0 [(0, .ref 0), (1, .int v1), (2, .int v2)] [] τ K
  refine sk_iload_n 2 1 dX7_fits_0 rfl rfl rfl ?_
  refine sk_iconst (v := 0) 2 dX7_fits_1 rfl (by decide) ?_
  refine sk_iconst (v := 1) 3 dX7_fits_2 rfl (by decide) ?_
  refine sk_callSi [.int v2, .int 0, .int 1] [] 6 dX7_fits_3 rfl mfX7_in lkX7_47 miX7_in rfl rfl (by simp [Value.category]) hd0 (sk_Cm h ?_)
  rintro w t3 ⟨r3, hw, h⟩
  refine ⟨r3, hw, ?_⟩
  refine sk_if_eq 17 9 dX7_fits_6 (by decide) rfl (fun hc => ?_) (fun hc => ?_)
  · have h := h.1 hc
    refine sk_iconst (v := 1) 18 dX7_fits_17 rfl (by decide) ?_
    refine sk_istore_n (lv2 := [(3, .int 1), (0, .ref 0), (1, .int v1), (2, .int v2)]) 19 dX7_fits_18 rfl rfl (by decide) rfl ?_
    refine sk_iload_n 0 20 dX7_fits_19 rfl rfl rfl ?_
    refine sk_if_eq 29 23 dX7_fits_20 (by decide) rfl (fun hc => ?_) (fun hc => ?_)
    · have h := h.1 hc
      refine sk_iconst (v := 0) 30 dX7_fits_29 rfl (by decide) ?_
      refine sk_istore (lv2 := [(4, .int 0), (3, .int 1), (0, .ref 0), (1, .int v1), (2, .int v2)]) 32 dX7_fits_30 rfl (by decide) rfl ?_
      refine sk_iconst (v := (-1)) 33 dX7_fits_32 rfl (by decide) ?_
      refine sk_istore (lv2 := [(5, .int (-1)), (4, .int 0), (3, .int 1), (0, .ref 0), (1, .int v1), (2, .int v2)]) 35 dX7_fits_33 rfl (by decide) rfl ?_
      refine sk_bipush (v := 40) 37 dX7_fits_35 rfl (by decide) ?_
      refine sk_istore (lv2 := [(6, .int 40), (5, .int (-1)), (4, .int 0), (3, .int 1), (0, .ref 0), (1, .int v1), (2, .int v2)]) 39 dX7_fits_37 rfl (by decide) rfl ?_
      refine sk_perm (lv2 := [(0, .ref 0), (1, .int v1), (2, .int v2), (4, .int 0), (5, .int (-1)), (6, .int 40)]) [4, 5, 6, 2, 1, 0] rfl ?_
      exact h
    · have h := h.2 hc
      refine sk_aload_n 1 24 dX7_fits_23 rfl rfl rfl ?_
      refine sk_iload_n 0 25 dX7_fits_24 rfl rfl rfl ?_
      refine sk_callVi [.int 1] [] 28 dX7_fits_25 rfl mfX7_error lkX7_51 miX7_error msX7_error sm_0 rfl rfl rfl rfl (by simp [Value.category]) hd0 (sk_Cm h ?_)
      rintro w t25 ⟨r25, hw, h⟩
      refine ⟨r25, hw, ?_⟩
      exact sk_iret dX7_fits_28 rfl rfl h
  · have h := h.2 hc
    refine sk_aload_n 0 10 dX7_fits_9 rfl rfl rfl ?_
    refine sk_iload_n 1 11 dX7_fits_10 rfl rfl rfl ?_
    refine sk_callVi [.int v1] [] 14 dX7_fits_11 rfl mfX7_lacks lkX7_214 miX7_lacks msX7_lacks sm_0 rfl rfl rfl rfl (by simp [Value.category]) hd0 (sk_Cm h ?_)
    rintro w t11 ⟨r11, hw, h⟩
    refine ⟨r11, hw, ?_⟩
    refine sk_goto 18 dX7_fits_14 (by decide) ?_
    refine sk_istore_n (lv2 := [(3, .int r11), (0, .ref 0), (1, .int v1), (2, .int v2)]) 19 dX7_fits_18 rfl rfl (by decide) rfl ?_
    refine sk_iload_n 0 20 dX7_fits_19 rfl rfl rfl ?_
    refine sk_if_eq 29 23 dX7_fits_20 (by decide) rfl (fun hc => ?_) (fun hc => ?_)
    · have h := h.1 hc
      refine sk_iconst (v := 0) 30 dX7_fits_29 rfl (by decide) ?_
      refine sk_istore (lv2 := [(4, .int 0), (3, .int r11), (0, .ref 0), (1, .int v1), (2, .int v2)]) 32 dX7_fits_30 rfl (by decide) rfl ?_
      refine sk_iconst (v := (-1)) 33 dX7_fits_32 rfl (by decide) ?_
      refine sk_istore (lv2 := [(5, .int (-1)), (4, .int 0), (3, .int r11), (0, .ref 0), (1, .int v1), (2, .int v2)]) 35 dX7_fits_33 rfl (by decide) rfl ?_
      refine sk_bipush (v := 40) 37 dX7_fits_35 rfl (by decide) ?_
      refine sk_istore (lv2 := [(6, .int 40), (5, .int (-1)), (4, .int 0), (3, .int r11), (0, .ref 0), (1, .int v1), (2, .int v2)]) 39 dX7_fits_37 rfl (by decide) rfl ?_
      refine sk_perm (lv2 := [(0, .ref 0), (1, .int v1), (2, .int v2), (4, .int 0), (5, .int (-1)), (6, .int 40)]) [4, 5, 6, 2, 1, 0] rfl ?_
      exact h
    · have h := h.2 hc
      refine sk_aload_n 1 24 dX7_fits_23 rfl rfl rfl ?_
      refine sk_iload_n 0 25 dX7_fits_24 rfl rfl rfl ?_
      refine sk_callVi [.int r11] [] 28 dX7_fits_25 rfl mfX7_error lkX7_51 miX7_error msX7_error sm_0 rfl rfl rfl rfl (by simp [Value.category]) hd0 (sk_Cm h ?_)
      rintro w t25 ⟨r25, hw, h⟩
      refine ⟨r25, hw, ?_⟩
      exact sk_iret dX7_fits_28 rfl rfl h

theorem bX7_fits_39 {d : Nat} {τ : sk_T} {K : sk_K} {v1 : Int32} {v2 : Int32} {v4 : Int32} {v5 : Int32} {v6 : Int32} (hd0 : 0 < d)
  (h : ((v6 < 0 →
      ((¬ v2 = 0 →
        ((¬ v5 = (-1) →
          K (some (.int v5)) τ
        ) ∧
        (v5 = (-1) →
          sk_C sk_Sm (d - 1) mX7_error [.ref 0, .int 2] τ (fun w t184 => ∃ r184 : Int32, w = some (.int r184) ∧
            K (some (.int r184)) t184
          )
        ))
      ) ∧
      (v2 = 0 →
        K (some (.int v4)) τ
      ))
    ) ∧
    (¬ v6 < 0 →
      sk_C sk_Sm (d - 1) mX7_dryBehind [.ref 0, .int v6] τ (fun w t47 => ∃ r47 : Int64, w = some (.long r47) ∧
        vp_in v1 4 ∧
        ((6 < (t47 10 (v1).toNatClampNeg) →
          sk_G sk_Sm d mX7_fits 73 [(0, .ref 0), (1, .int v1), (2, .int v2), (4, .int v4), (5, .int v5), (6, .int v6), (7, .long r47), (9, .int 0), (10, .int 0)] [] t47 K
        ) ∧
        (¬ 6 < (t47 10 (v1).toNatClampNeg) →
          sk_G sk_Sm d mX7_fits 73 [(0, .ref 0), (1, .int v1), (2, .int v2), (4, .int v4), (5, .int v5), (6, .int v6), (7, .long r47), (9, .int 1), (10, .int 0)] [] t47 K
        ))
      )
    ))) :
  sk_G sk_Sm d mX7_fits 39 [(0, .ref 0), (1, .int v1), (2, .int v2), (4, .int v4), (5, .int v5), (6, .int v6)] [] τ K := by
  refine sk_iload 5 41 dX7_fits_39 rfl rfl ?_
  refine sk_if_lt 167 44 dX7_fits_41 (by decide) rfl (fun hc => ?_) (fun hc => ?_)
  · have h := h.1 hc
    refine sk_iload_n 2 168 dX7_fits_167 rfl rfl rfl ?_
    refine sk_if_ne 176 171 dX7_fits_168 (by decide) rfl (fun hc => ?_) (fun hc => ?_)
    · have h := h.1 hc
      refine sk_iload 4 178 dX7_fits_176 rfl rfl ?_
      refine sk_iconst (v := (-1)) 179 dX7_fits_178 rfl (by decide) ?_
      refine sk_icmp_ne 190 182 dX7_fits_179 (by decide) rfl (fun hc => ?_) (fun hc => ?_)
      · have h := h.1 hc
        refine sk_iload 4 192 dX7_fits_190 rfl rfl ?_
        exact sk_iret dX7_fits_192 rfl rfl h
      · have h := h.2 hc
        refine sk_aload_n 0 183 dX7_fits_182 rfl rfl rfl ?_
        refine sk_iconst (v := 2) 184 dX7_fits_183 rfl (by decide) ?_
        refine sk_callVi [.int 2] [] 187 dX7_fits_184 rfl mfX7_error lkX7_51 miX7_error msX7_error sm_0 rfl rfl rfl rfl (by simp [Value.category]) hd0 (sk_Cm h ?_)
        rintro w t184 ⟨r184, hw, h⟩
        refine ⟨r184, hw, ?_⟩
        refine sk_goto 192 dX7_fits_187 (by decide) ?_
        exact sk_iret dX7_fits_192 rfl rfl h
    · have h := h.2 hc
      refine sk_iload 3 173 dX7_fits_171 rfl rfl ?_
      refine sk_goto 192 dX7_fits_173 (by decide) ?_
      exact sk_iret dX7_fits_192 rfl rfl h
  · have h := h.2 hc
    refine sk_aload_n 0 45 dX7_fits_44 rfl rfl rfl ?_
    refine sk_iload 5 47 dX7_fits_45 rfl rfl ?_
    refine sk_callVl [.int v6] [] 50 dX7_fits_47 rfl mfX7_dryBehind lkX7_205 miX7_dryBehind msX7_dryBehind sm_0 rfl rfl rfl rfl (by simp [Value.category]) hd0 (sk_Cm h ?_)
    rintro w t47 ⟨r47, hw, h⟩
    refine ⟨r47, hw, ?_⟩
    refine sk_lstore (lv2 := [(7, .long r47), (0, .ref 0), (1, .int v1), (2, .int v2), (4, .int v4), (5, .int v5), (6, .int v6)]) 52 dX7_fits_50 rfl (by decide) rfl ?_
    refine sk_aload_n 1 53 dX7_fits_52 rfl rfl rfl ?_
    refine sk_getR (r := 10) 56 dX7_fits_53 rfl lfX7_37 sm_0 rfl ?_
    refine sk_iload_n 2 57 dX7_fits_56 rfl rfl rfl ?_
    have hb57 := h.1
    have h := h.2
    refine sk_iald 58 dX7_fits_57 rfl sm_10 hb57 _ rfl ?_
    refine sk_bipush (v := 6) 60 dX7_fits_58 rfl (by decide) ?_
    refine sk_icmp_gt 67 63 dX7_fits_60 (by decide) rfl (fun hc => ?_) (fun hc => ?_)
    · have h := h.1 hc
      refine sk_iconst (v := 0) 68 dX7_fits_67 rfl (by decide) ?_
      refine sk_istore (lv2 := [(9, .int 0), (7, .long r47), (0, .ref 0), (1, .int v1), (2, .int v2), (4, .int v4), (5, .int v5), (6, .int v6)]) 70 dX7_fits_68 rfl (by decide) rfl ?_
      refine sk_iconst (v := 0) 71 dX7_fits_70 rfl (by decide) ?_
      refine sk_istore (lv2 := [(10, .int 0), (9, .int 0), (7, .long r47), (0, .ref 0), (1, .int v1), (2, .int v2), (4, .int v4), (5, .int v5), (6, .int v6)]) 73 dX7_fits_71 rfl (by decide) rfl ?_
      refine sk_perm (lv2 := [(0, .ref 0), (1, .int v1), (2, .int v2), (4, .int v4), (5, .int v5), (6, .int v6), (7, .long r47), (9, .int 0), (10, .int 0)]) [3, 4, 5, 6, 7, 8, 2, 1, 0] rfl ?_
      exact h
    · have h := h.2 hc
      refine sk_iconst (v := 1) 64 dX7_fits_63 rfl (by decide) ?_
      refine sk_goto 68 dX7_fits_64 (by decide) ?_
      refine sk_istore (lv2 := [(9, .int 1), (7, .long r47), (0, .ref 0), (1, .int v1), (2, .int v2), (4, .int v4), (5, .int v5), (6, .int v6)]) 70 dX7_fits_68 rfl (by decide) rfl ?_
      refine sk_iconst (v := 0) 71 dX7_fits_70 rfl (by decide) ?_
      refine sk_istore (lv2 := [(10, .int 0), (9, .int 1), (7, .long r47), (0, .ref 0), (1, .int v1), (2, .int v2), (4, .int v4), (5, .int v5), (6, .int v6)]) 73 dX7_fits_71 rfl (by decide) rfl ?_
      refine sk_perm (lv2 := [(0, .ref 0), (1, .int v1), (2, .int v2), (4, .int v4), (5, .int v5), (6, .int v6), (7, .long r47), (9, .int 1), (10, .int 0)]) [3, 4, 5, 6, 7, 8, 2, 1, 0] rfl ?_
      exact h

theorem bX7_fits_73 {d : Nat} {τ : sk_T} {K : sk_K} {v1 : Int32} {v2 : Int32} {v4 : Int32} {v5 : Int32} {v6 : Int32} {v7 : Int64} {v9 : Int32} {v10 : Int32} (hd0 : 0 < d)
  (h : vp_in v1 4 ∧
    (((τ 10 (v1).toNatClampNeg) ≤ v10 →
      ((v9 = 0 →
        ((v9 = 0 →
          sk_G sk_Sm d mX7_fits 39 [(0, .ref 0), (1, .int v1), (2, .int v2), (4, .int (v4 + 0)), (5, .int v5), (6, .int (v6 + (-1)))] [] τ K
        ) ∧
        (¬ v9 = 0 →
          sk_G sk_Sm d mX7_fits 39 [(0, .ref 0), (1, .int v1), (2, .int v2), (4, .int (v4 + 0)), (5, .int v6), (6, .int (v6 + (-1)))] [] τ K
        ))
      ) ∧
      (¬ v9 = 0 →
        ((v9 = 0 →
          sk_G sk_Sm d mX7_fits 39 [(0, .ref 0), (1, .int v1), (2, .int v2), (4, .int (v4 + 1)), (5, .int v5), (6, .int (v6 + (-1)))] [] τ K
        ) ∧
        (¬ v9 = 0 →
          sk_G sk_Sm d mX7_fits 39 [(0, .ref 0), (1, .int v1), (2, .int v2), (4, .int (v4 + 1)), (5, .int v6), (6, .int (v6 + (-1)))] [] τ K
        ))
      ))
    ) ∧
    (¬ (τ 10 (v1).toNatClampNeg) ≤ v10 →
      ((v9 = 0 →
        ((v9 = 0 →
          ((v9 = 0 →
            sk_G sk_Sm d mX7_fits 39 [(0, .ref 0), (1, .int v1), (2, .int v2), (4, .int (v4 + 0)), (5, .int v5), (6, .int (v6 + (-1)))] [] τ K
          ) ∧
          (¬ v9 = 0 →
            sk_G sk_Sm d mX7_fits 39 [(0, .ref 0), (1, .int v1), (2, .int v2), (4, .int (v4 + 0)), (5, .int v6), (6, .int (v6 + (-1)))] [] τ K
          ))
        ) ∧
        (¬ v9 = 0 →
          ((v9 = 0 →
            sk_G sk_Sm d mX7_fits 39 [(0, .ref 0), (1, .int v1), (2, .int v2), (4, .int (v4 + 1)), (5, .int v5), (6, .int (v6 + (-1)))] [] τ K
          ) ∧
          (¬ v9 = 0 →
            sk_G sk_Sm d mX7_fits 39 [(0, .ref 0), (1, .int v1), (2, .int v2), (4, .int (v4 + 1)), (5, .int v6), (6, .int (v6 + (-1)))] [] τ K
          ))
        ))
      ) ∧
      (¬ v9 = 0 →
        sk_C sk_Sm (d - 1) mX7_bitsOf [.long ((sk_lush v7 (8 * v10)) &&& 255)] τ (fun w t101 => ∃ r101 : Int32, w = some (.int r101) ∧
          vp_in ((24 * v1) + v10) 96 ∧
          ((¬ r101 = (t101 11 (((24 * v1) + v10)).toNatClampNeg) →
            sk_G sk_Sm d mX7_fits 73 [(0, .ref 0), (1, .int v1), (2, .int v2), (4, .int v4), (5, .int v5), (6, .int v6), (7, .long v7), (9, .int 0), (10, .int (v10 + 1))] [] t101 K
          ) ∧
          (r101 = (t101 11 (((24 * v1) + v10)).toNatClampNeg) →
            sk_G sk_Sm d mX7_fits 73 [(0, .ref 0), (1, .int v1), (2, .int v2), (4, .int v4), (5, .int v5), (6, .int v6), (7, .long v7), (9, .int 1), (10, .int (v10 + 1))] [] t101 K
          ))
        )
      ))
    ))) :
  sk_G sk_Sm d mX7_fits 73 [(0, .ref 0), (1, .int v1), (2, .int v2), (4, .int v4), (5, .int v5), (6, .int v6), (7, .long v7), (9, .int v9), (10, .int v10)] [] τ K := by
  refine sk_iload 8 75 dX7_fits_73 rfl rfl ?_
  refine sk_aload_n 0 76 dX7_fits_75 rfl rfl rfl ?_
  refine sk_getR (r := 10) 79 dX7_fits_76 rfl lfX7_37 sm_0 rfl ?_
  refine sk_iload_n 1 80 dX7_fits_79 rfl rfl rfl ?_
  have hb80 := h.1
  have h := h.2
  refine sk_iald 81 dX7_fits_80 rfl sm_10 hb80 _ rfl ?_
  refine sk_icmp_ge 132 84 dX7_fits_81 (by decide) rfl (fun hc => ?_) (fun hc => ?_)
  · have h := h.1 hc
    refine sk_iload 3 134 dX7_fits_132 rfl rfl ?_
    refine sk_iload 7 136 dX7_fits_134 rfl rfl ?_
    refine sk_if_eq 143 139 dX7_fits_136 (by decide) rfl (fun hc => ?_) (fun hc => ?_)
    · have h := h.1 hc
      refine sk_iconst (v := 0) 144 dX7_fits_143 rfl (by decide) ?_
      refine sk_iadd 145 dX7_fits_144 rfl ?_
      refine sk_istore (lv2 := [(4, .int (v4 + 0)), (0, .ref 0), (1, .int v1), (2, .int v2), (5, .int v5), (6, .int v6), (7, .long v7), (9, .int v9), (10, .int v10)]) 147 dX7_fits_145 rfl (by decide) rfl ?_
      refine sk_iload 7 149 dX7_fits_147 rfl rfl ?_
      refine sk_if_eq 157 152 dX7_fits_149 (by decide) rfl (fun hc => ?_) (fun hc => ?_)
      · have h := h.1 hc
        refine sk_iload 4 159 dX7_fits_157 rfl rfl ?_
        refine sk_istore (lv2 := [(5, .int v5), (4, .int (v4 + 0)), (0, .ref 0), (1, .int v1), (2, .int v2), (6, .int v6), (7, .long v7), (9, .int v9), (10, .int v10)]) 161 dX7_fits_159 rfl (by decide) rfl ?_
        refine sk_iinc (v := (v6 + (-1))) (lv2 := [(6, .int (v6 + (-1))), (5, .int v5), (4, .int (v4 + 0)), (0, .ref 0), (1, .int v1), (2, .int v2), (7, .long v7), (9, .int v9), (10, .int v10)]) 5 164 dX7_fits_161 rfl rfl rfl (by decide) rfl ?_
        refine sk_goto 39 dX7_fits_164 (by decide) ?_
        refine sk_perm (lv2 := [(0, .ref 0), (1, .int v1), (2, .int v2), (4, .int (v4 + 0)), (5, .int v5), (6, .int (v6 + (-1)))]) [3, 4, 5, 2, 1, 0] rfl ?_
        exact h
      · have h := h.2 hc
        refine sk_iload 5 154 dX7_fits_152 rfl rfl ?_
        refine sk_goto 159 dX7_fits_154 (by decide) ?_
        refine sk_istore (lv2 := [(5, .int v6), (4, .int (v4 + 0)), (0, .ref 0), (1, .int v1), (2, .int v2), (6, .int v6), (7, .long v7), (9, .int v9), (10, .int v10)]) 161 dX7_fits_159 rfl (by decide) rfl ?_
        refine sk_iinc (v := (v6 + (-1))) (lv2 := [(6, .int (v6 + (-1))), (5, .int v6), (4, .int (v4 + 0)), (0, .ref 0), (1, .int v1), (2, .int v2), (7, .long v7), (9, .int v9), (10, .int v10)]) 5 164 dX7_fits_161 rfl rfl rfl (by decide) rfl ?_
        refine sk_goto 39 dX7_fits_164 (by decide) ?_
        refine sk_perm (lv2 := [(0, .ref 0), (1, .int v1), (2, .int v2), (4, .int (v4 + 0)), (5, .int v6), (6, .int (v6 + (-1)))]) [3, 4, 5, 2, 1, 0] rfl ?_
        exact h
    · have h := h.2 hc
      refine sk_iconst (v := 1) 140 dX7_fits_139 rfl (by decide) ?_
      refine sk_goto 144 dX7_fits_140 (by decide) ?_
      refine sk_iadd 145 dX7_fits_144 rfl ?_
      refine sk_istore (lv2 := [(4, .int (v4 + 1)), (0, .ref 0), (1, .int v1), (2, .int v2), (5, .int v5), (6, .int v6), (7, .long v7), (9, .int v9), (10, .int v10)]) 147 dX7_fits_145 rfl (by decide) rfl ?_
      refine sk_iload 7 149 dX7_fits_147 rfl rfl ?_
      refine sk_if_eq 157 152 dX7_fits_149 (by decide) rfl (fun hc => ?_) (fun hc => ?_)
      · have h := h.1 hc
        refine sk_iload 4 159 dX7_fits_157 rfl rfl ?_
        refine sk_istore (lv2 := [(5, .int v5), (4, .int (v4 + 1)), (0, .ref 0), (1, .int v1), (2, .int v2), (6, .int v6), (7, .long v7), (9, .int v9), (10, .int v10)]) 161 dX7_fits_159 rfl (by decide) rfl ?_
        refine sk_iinc (v := (v6 + (-1))) (lv2 := [(6, .int (v6 + (-1))), (5, .int v5), (4, .int (v4 + 1)), (0, .ref 0), (1, .int v1), (2, .int v2), (7, .long v7), (9, .int v9), (10, .int v10)]) 5 164 dX7_fits_161 rfl rfl rfl (by decide) rfl ?_
        refine sk_goto 39 dX7_fits_164 (by decide) ?_
        refine sk_perm (lv2 := [(0, .ref 0), (1, .int v1), (2, .int v2), (4, .int (v4 + 1)), (5, .int v5), (6, .int (v6 + (-1)))]) [3, 4, 5, 2, 1, 0] rfl ?_
        exact h
      · have h := h.2 hc
        refine sk_iload 5 154 dX7_fits_152 rfl rfl ?_
        refine sk_goto 159 dX7_fits_154 (by decide) ?_
        refine sk_istore (lv2 := [(5, .int v6), (4, .int (v4 + 1)), (0, .ref 0), (1, .int v1), (2, .int v2), (6, .int v6), (7, .long v7), (9, .int v9), (10, .int v10)]) 161 dX7_fits_159 rfl (by decide) rfl ?_
        refine sk_iinc (v := (v6 + (-1))) (lv2 := [(6, .int (v6 + (-1))), (5, .int v6), (4, .int (v4 + 1)), (0, .ref 0), (1, .int v1), (2, .int v2), (7, .long v7), (9, .int v9), (10, .int v10)]) 5 164 dX7_fits_161 rfl rfl rfl (by decide) rfl ?_
        refine sk_goto 39 dX7_fits_164 (by decide) ?_
        refine sk_perm (lv2 := [(0, .ref 0), (1, .int v1), (2, .int v2), (4, .int (v4 + 1)), (5, .int v6), (6, .int (v6 + (-1)))]) [3, 4, 5, 2, 1, 0] rfl ?_
        exact h
  · have h := h.2 hc
    refine sk_iload 7 86 dX7_fits_84 rfl rfl ?_
    refine sk_if_eq 132 89 dX7_fits_86 (by decide) rfl (fun hc => ?_) (fun hc => ?_)
    · have h := h.1 hc
      refine sk_iload 3 134 dX7_fits_132 rfl rfl ?_
      refine sk_iload 7 136 dX7_fits_134 rfl rfl ?_
      refine sk_if_eq 143 139 dX7_fits_136 (by decide) rfl (fun hc => ?_) (fun hc => ?_)
      · have h := h.1 hc
        refine sk_iconst (v := 0) 144 dX7_fits_143 rfl (by decide) ?_
        refine sk_iadd 145 dX7_fits_144 rfl ?_
        refine sk_istore (lv2 := [(4, .int (v4 + 0)), (0, .ref 0), (1, .int v1), (2, .int v2), (5, .int v5), (6, .int v6), (7, .long v7), (9, .int v9), (10, .int v10)]) 147 dX7_fits_145 rfl (by decide) rfl ?_
        refine sk_iload 7 149 dX7_fits_147 rfl rfl ?_
        refine sk_if_eq 157 152 dX7_fits_149 (by decide) rfl (fun hc => ?_) (fun hc => ?_)
        · have h := h.1 hc
          refine sk_iload 4 159 dX7_fits_157 rfl rfl ?_
          refine sk_istore (lv2 := [(5, .int v5), (4, .int (v4 + 0)), (0, .ref 0), (1, .int v1), (2, .int v2), (6, .int v6), (7, .long v7), (9, .int v9), (10, .int v10)]) 161 dX7_fits_159 rfl (by decide) rfl ?_
          refine sk_iinc (v := (v6 + (-1))) (lv2 := [(6, .int (v6 + (-1))), (5, .int v5), (4, .int (v4 + 0)), (0, .ref 0), (1, .int v1), (2, .int v2), (7, .long v7), (9, .int v9), (10, .int v10)]) 5 164 dX7_fits_161 rfl rfl rfl (by decide) rfl ?_
          refine sk_goto 39 dX7_fits_164 (by decide) ?_
          refine sk_perm (lv2 := [(0, .ref 0), (1, .int v1), (2, .int v2), (4, .int (v4 + 0)), (5, .int v5), (6, .int (v6 + (-1)))]) [3, 4, 5, 2, 1, 0] rfl ?_
          exact h
        · have h := h.2 hc
          refine sk_iload 5 154 dX7_fits_152 rfl rfl ?_
          refine sk_goto 159 dX7_fits_154 (by decide) ?_
          refine sk_istore (lv2 := [(5, .int v6), (4, .int (v4 + 0)), (0, .ref 0), (1, .int v1), (2, .int v2), (6, .int v6), (7, .long v7), (9, .int v9), (10, .int v10)]) 161 dX7_fits_159 rfl (by decide) rfl ?_
          refine sk_iinc (v := (v6 + (-1))) (lv2 := [(6, .int (v6 + (-1))), (5, .int v6), (4, .int (v4 + 0)), (0, .ref 0), (1, .int v1), (2, .int v2), (7, .long v7), (9, .int v9), (10, .int v10)]) 5 164 dX7_fits_161 rfl rfl rfl (by decide) rfl ?_
          refine sk_goto 39 dX7_fits_164 (by decide) ?_
          refine sk_perm (lv2 := [(0, .ref 0), (1, .int v1), (2, .int v2), (4, .int (v4 + 0)), (5, .int v6), (6, .int (v6 + (-1)))]) [3, 4, 5, 2, 1, 0] rfl ?_
          exact h
      · have h := h.2 hc
        refine sk_iconst (v := 1) 140 dX7_fits_139 rfl (by decide) ?_
        refine sk_goto 144 dX7_fits_140 (by decide) ?_
        refine sk_iadd 145 dX7_fits_144 rfl ?_
        refine sk_istore (lv2 := [(4, .int (v4 + 1)), (0, .ref 0), (1, .int v1), (2, .int v2), (5, .int v5), (6, .int v6), (7, .long v7), (9, .int v9), (10, .int v10)]) 147 dX7_fits_145 rfl (by decide) rfl ?_
        refine sk_iload 7 149 dX7_fits_147 rfl rfl ?_
        refine sk_if_eq 157 152 dX7_fits_149 (by decide) rfl (fun hc => ?_) (fun hc => ?_)
        · have h := h.1 hc
          refine sk_iload 4 159 dX7_fits_157 rfl rfl ?_
          refine sk_istore (lv2 := [(5, .int v5), (4, .int (v4 + 1)), (0, .ref 0), (1, .int v1), (2, .int v2), (6, .int v6), (7, .long v7), (9, .int v9), (10, .int v10)]) 161 dX7_fits_159 rfl (by decide) rfl ?_
          refine sk_iinc (v := (v6 + (-1))) (lv2 := [(6, .int (v6 + (-1))), (5, .int v5), (4, .int (v4 + 1)), (0, .ref 0), (1, .int v1), (2, .int v2), (7, .long v7), (9, .int v9), (10, .int v10)]) 5 164 dX7_fits_161 rfl rfl rfl (by decide) rfl ?_
          refine sk_goto 39 dX7_fits_164 (by decide) ?_
          refine sk_perm (lv2 := [(0, .ref 0), (1, .int v1), (2, .int v2), (4, .int (v4 + 1)), (5, .int v5), (6, .int (v6 + (-1)))]) [3, 4, 5, 2, 1, 0] rfl ?_
          exact h
        · have h := h.2 hc
          refine sk_iload 5 154 dX7_fits_152 rfl rfl ?_
          refine sk_goto 159 dX7_fits_154 (by decide) ?_
          refine sk_istore (lv2 := [(5, .int v6), (4, .int (v4 + 1)), (0, .ref 0), (1, .int v1), (2, .int v2), (6, .int v6), (7, .long v7), (9, .int v9), (10, .int v10)]) 161 dX7_fits_159 rfl (by decide) rfl ?_
          refine sk_iinc (v := (v6 + (-1))) (lv2 := [(6, .int (v6 + (-1))), (5, .int v6), (4, .int (v4 + 1)), (0, .ref 0), (1, .int v1), (2, .int v2), (7, .long v7), (9, .int v9), (10, .int v10)]) 5 164 dX7_fits_161 rfl rfl rfl (by decide) rfl ?_
          refine sk_goto 39 dX7_fits_164 (by decide) ?_
          refine sk_perm (lv2 := [(0, .ref 0), (1, .int v1), (2, .int v2), (4, .int (v4 + 1)), (5, .int v6), (6, .int (v6 + (-1)))]) [3, 4, 5, 2, 1, 0] rfl ?_
          exact h
    · have h := h.2 hc
      refine sk_lload 6 91 dX7_fits_89 rfl rfl ?_
      refine sk_bipush (v := 8) 93 dX7_fits_91 rfl (by decide) ?_
      refine sk_iload 8 95 dX7_fits_93 rfl rfl ?_
      refine sk_imul 96 dX7_fits_95 rfl ?_
      refine sk_lushr 97 dX7_fits_96 rfl ?_
      refine sk_ldc2 100 dX7_fits_97 rfl klX7_55 ?_
      refine sk_land 101 dX7_fits_100 rfl ?_
      refine sk_callSi [.long ((sk_lush v7 (8 * v10)) &&& 255)] [] 104 dX7_fits_101 rfl mfX7_bitsOf lkX7_182 miX7_bitsOf rfl rfl (by simp [Value.category]) hd0 (sk_Cm h ?_)
      rintro w t101 ⟨r101, hw, h⟩
      refine ⟨r101, hw, ?_⟩
      refine sk_aload_n 0 105 dX7_fits_104 rfl rfl rfl ?_
      refine sk_getR (r := 11) 108 dX7_fits_105 rfl lfX7_40 sm_0 rfl ?_
      refine sk_bipush (v := 24) 110 dX7_fits_108 rfl (by decide) ?_
      refine sk_iload_n 1 111 dX7_fits_110 rfl rfl rfl ?_
      refine sk_imul 112 dX7_fits_111 rfl ?_
      refine sk_iload 8 114 dX7_fits_112 rfl rfl ?_
      refine sk_iadd 115 dX7_fits_114 rfl ?_
      have hb115 := h.1
      have h := h.2
      refine sk_iald 116 dX7_fits_115 rfl sm_11 hb115 _ rfl ?_
      refine sk_icmp_ne 123 119 dX7_fits_116 (by decide) rfl (fun hc => ?_) (fun hc => ?_)
      · have h := h.1 hc
        refine sk_iconst (v := 0) 124 dX7_fits_123 rfl (by decide) ?_
        refine sk_istore (lv2 := [(9, .int 0), (0, .ref 0), (1, .int v1), (2, .int v2), (4, .int v4), (5, .int v5), (6, .int v6), (7, .long v7), (10, .int v10)]) 126 dX7_fits_124 rfl (by decide) rfl ?_
        refine sk_iinc (v := (v10 + 1)) (lv2 := [(10, .int (v10 + 1)), (9, .int 0), (0, .ref 0), (1, .int v1), (2, .int v2), (4, .int v4), (5, .int v5), (6, .int v6), (7, .long v7)]) 8 129 dX7_fits_126 rfl rfl rfl (by decide) rfl ?_
        refine sk_goto 73 dX7_fits_129 (by decide) ?_
        refine sk_perm (lv2 := [(0, .ref 0), (1, .int v1), (2, .int v2), (4, .int v4), (5, .int v5), (6, .int v6), (7, .long v7), (9, .int 0), (10, .int (v10 + 1))]) [2, 3, 4, 5, 6, 7, 8, 1, 0] rfl ?_
        exact h
      · have h := h.2 hc
        refine sk_iconst (v := 1) 120 dX7_fits_119 rfl (by decide) ?_
        refine sk_goto 124 dX7_fits_120 (by decide) ?_
        refine sk_istore (lv2 := [(9, .int 1), (0, .ref 0), (1, .int v1), (2, .int v2), (4, .int v4), (5, .int v5), (6, .int v6), (7, .long v7), (10, .int v10)]) 126 dX7_fits_124 rfl (by decide) rfl ?_
        refine sk_iinc (v := (v10 + 1)) (lv2 := [(10, .int (v10 + 1)), (9, .int 1), (0, .ref 0), (1, .int v1), (2, .int v2), (4, .int v4), (5, .int v5), (6, .int v6), (7, .long v7)]) 8 129 dX7_fits_126 rfl rfl rfl (by decide) rfl ?_
        refine sk_goto 73 dX7_fits_129 (by decide) ?_
        refine sk_perm (lv2 := [(0, .ref 0), (1, .int v1), (2, .int v2), (4, .int v4), (5, .int v5), (6, .int v6), (7, .long v7), (9, .int 1), (10, .int (v10 + 1))]) [2, 3, 4, 5, 6, 7, 8, 1, 0] rfl ?_
        exact h

theorem wX7_starts {d : Nat} {τ : sk_T} {K : sk_K} {v1 : Int32}
  (h : ((30 ≤ (τ 0 12) →
      K none τ
    ) ∧
    (¬ 30 ≤ (τ 0 12) →
      vp_in (τ 0 12) 30 ∧
      K none (sk_u (sk_u τ 8 ((τ 0 12)).toNatClampNeg v1) 0 12 (((sk_u τ 8 ((τ 0 12)).toNatClampNeg v1) 0 12) + 1))
    ))) :
  sk_C sk_Sm d mX7_starts [.ref 0, .int v1] τ K := by
  refine sk_enter mfX7_starts (Nat.le_of_ble_eq_true rfl) ?_
  show sk_G sk_Sm d mX7_starts 0 [(0, .ref 0), (1, .int v1)] [] τ K
  refine sk_aload_n 0 1 dX7_starts_0 rfl rfl rfl ?_
  refine sk_getI 4 dX7_starts_1 rfl lfX7_217 sm_0 rfl ?_
  refine sk_bipush (v := 30) 6 dX7_starts_4 rfl (by decide) ?_
  refine sk_icmp_ge 29 9 dX7_starts_6 (by decide) rfl (fun hc => ?_) (fun hc => ?_)
  · have h := h.1 hc
    exact sk_vret dX7_starts_29 rfl h
  · have h := h.2 hc
    refine sk_aload_n 0 10 dX7_starts_9 rfl rfl rfl ?_
    refine sk_getR (r := 8) 13 dX7_starts_10 rfl lfX7_31 sm_0 rfl ?_
    refine sk_aload_n 0 14 dX7_starts_13 rfl rfl rfl ?_
    refine sk_getI 17 dX7_starts_14 rfl lfX7_217 sm_0 rfl ?_
    refine sk_iload_n 1 18 dX7_starts_17 rfl rfl rfl ?_
    have hb18 := h.1
    have h := h.2
    refine sk_iast 19 dX7_starts_18 rfl sm_8 hb18 _ rfl ?_
    refine sk_aload_n 0 20 dX7_starts_19 rfl rfl rfl ?_
    refine sk_dup 21 dX7_starts_20 rfl rfl ?_
    refine sk_getI 24 dX7_starts_21 rfl lfX7_217 sm_0 rfl ?_
    refine sk_iconst (v := 1) 25 dX7_starts_24 rfl (by decide) ?_
    refine sk_iadd 26 dX7_starts_25 rfl ?_
    refine sk_putI 29 dX7_starts_26 rfl lpX7_217 sm_0 rfl ?_
    exact sk_vret dX7_starts_29 rfl h

theorem wX7_above {d : Nat} {τ : sk_T} {K : sk_K} {v0 : Int32}
  (h : ((¬ v0 = 4 →
      ((¬ v0 = 5 →
        K (some (.int 0)) τ
      ) ∧
      (v0 = 5 →
        K (some (.int 2)) τ
      ))
    ) ∧
    (v0 = 4 →
      K (some (.int 1)) τ
    ))) :
  sk_C sk_Sm d mX7_above [.int v0] τ K := by
  refine sk_enter mfX7_above (Nat.le_of_ble_eq_true rfl) ?_
  show sk_G sk_Sm d mX7_above 0 [(0, .int v0)] [] τ K
  refine sk_iload_n 0 1 dX7_above_0 rfl rfl rfl ?_
  refine sk_iconst (v := 4) 2 dX7_above_1 rfl (by decide) ?_
  refine sk_icmp_ne 9 5 dX7_above_2 (by decide) rfl (fun hc => ?_) (fun hc => ?_)
  · have h := h.1 hc
    refine sk_iload_n 0 10 dX7_above_9 rfl rfl rfl ?_
    refine sk_iconst (v := 5) 11 dX7_above_10 rfl (by decide) ?_
    refine sk_icmp_ne 18 14 dX7_above_11 (by decide) rfl (fun hc => ?_) (fun hc => ?_)
    · have h := h.1 hc
      refine sk_iconst (v := 0) 19 dX7_above_18 rfl (by decide) ?_
      exact sk_iret dX7_above_19 rfl rfl h
    · have h := h.2 hc
      refine sk_iconst (v := 2) 15 dX7_above_14 rfl (by decide) ?_
      refine sk_goto 19 dX7_above_15 (by decide) ?_
      exact sk_iret dX7_above_19 rfl rfl h
  · have h := h.2 hc
    refine sk_iconst (v := 1) 6 dX7_above_5 rfl (by decide) ?_
    refine sk_goto 19 dX7_above_6 (by decide) ?_
    exact sk_iret dX7_above_19 rfl rfl h

theorem wX7_kindNow {d : Nat} {τ : sk_T} {K : sk_K} (hd0 : 0 < d)
  (h : sk_C sk_Sm (d - 1) mX7_its [.ref 0, .int (τ 0 14), .int 0] τ (fun w t6 => ∃ r6 : Int32, w = some (.int r6) ∧
      K (some (.int r6)) t6
    )) :
  sk_C sk_Sm d mX7_kindNow [.ref 0] τ K := by
  refine sk_enter mfX7_kindNow (Nat.le_of_ble_eq_true rfl) ?_
  show sk_G sk_Sm d mX7_kindNow 0 [(0, .ref 0)] [] τ K
  refine sk_aload_n 0 1 dX7_kindNow_0 rfl rfl rfl ?_
  refine sk_aload_n 0 2 dX7_kindNow_1 rfl rfl rfl ?_
  refine sk_getI 5 dX7_kindNow_2 rfl lfX7_220 sm_0 rfl ?_
  refine sk_iconst (v := 0) 6 dX7_kindNow_5 rfl (by decide) ?_
  refine sk_callVi [.int (τ 0 14), .int 0] [] 9 dX7_kindNow_6 rfl mfX7_its lkX7_111 miX7_its msX7_its sm_0 rfl rfl rfl rfl (by simp [Value.category]) hd0 (sk_Cm h ?_)
  rintro w t6 ⟨r6, hw, h⟩
  refine ⟨r6, hw, ?_⟩
  exact sk_iret dX7_kindNow_9 rfl rfl h

theorem wX7_mNow {d : Nat} {τ : sk_T} {K : sk_K} (hd0 : 0 < d)
  (h : sk_C sk_Sm (d - 1) mX7_its [.ref 0, .int (τ 0 14), .int 1] τ (fun w t6 => ∃ r6 : Int32, w = some (.int r6) ∧
      K (some (.int r6)) t6
    )) :
  sk_C sk_Sm d mX7_mNow [.ref 0] τ K := by
  refine sk_enter mfX7_mNow (Nat.le_of_ble_eq_true rfl) ?_
  show sk_G sk_Sm d mX7_mNow 0 [(0, .ref 0)] [] τ K
  refine sk_aload_n 0 1 dX7_mNow_0 rfl rfl rfl ?_
  refine sk_aload_n 0 2 dX7_mNow_1 rfl rfl rfl ?_
  refine sk_getI 5 dX7_mNow_2 rfl lfX7_220 sm_0 rfl ?_
  refine sk_iconst (v := 1) 6 dX7_mNow_5 rfl (by decide) ?_
  refine sk_callVi [.int (τ 0 14), .int 1] [] 9 dX7_mNow_6 rfl mfX7_its lkX7_111 miX7_its msX7_its sm_0 rfl rfl rfl rfl (by simp [Value.category]) hd0 (sk_Cm h ?_)
  rintro w t6 ⟨r6, hw, h⟩
  refine ⟨r6, hw, ?_⟩
  exact sk_iret dX7_mNow_9 rfl rfl h

theorem wX7_dripsAs {d : Nat} {τ : sk_T} {K : sk_K} {v1 : Int32} {v2 : Int32} (hd0 : 0 < d)
  (h : (
    (v1 = 0 →
      sk_C sk_Sm (d - 1) mX7_starts [.ref 0, .int 10] τ (fun w t47 => w = none ∧
        K (some (.int (v2 + (t47 0 14)))) t47
      )
    ) ∧
    (v1 = 1 →
      sk_C sk_Sm (d - 1) mX7_starts [.ref 0, .int 20] τ (fun w t60 => w = none ∧
        sk_C sk_Sm (d - 1) mX7_above [.int 1] t60 (fun w t65 => ∃ r65 : Int32, w = some (.int r65) ∧
          sk_C sk_Sm (d - 1) mX7_dripsAs [.ref 0, .int r65, .int v2] t65 (fun w t69 => ∃ r69 : Int32, w = some (.int r69) ∧
            K (some (.int (r69 - 4))) t69
          )
        )
      )
    ) ∧
    (v1 = 2 →
      sk_C sk_Sm (d - 1) mX7_above [.int v1] τ (fun w t104 => ∃ r104 : Int32, w = some (.int r104) ∧
        sk_C sk_Sm (d - 1) mX7_dripsAs [.ref 0, .int r104, .int v2] t104 (fun w t108 => ∃ r108 : Int32, w = some (.int r108) ∧
          K (some (.int r108)) t108
        )
      )
    ) ∧
    (v1 = 3 →
      sk_C sk_Sm (d - 1) mX7_above [.int v1] τ (fun w t104 => ∃ r104 : Int32, w = some (.int r104) ∧
        sk_C sk_Sm (d - 1) mX7_dripsAs [.ref 0, .int r104, .int v2] t104 (fun w t108 => ∃ r108 : Int32, w = some (.int r108) ∧
          K (some (.int r108)) t108
        )
      )
    ) ∧
    (v1 = 4 →
      sk_C sk_Sm (d - 1) mX7_starts [.ref 0, .int 50] τ (fun w t78 => w = none ∧
        sk_C sk_Sm (d - 1) mX7_above [.int 4] t78 (fun w t83 => ∃ r83 : Int32, w = some (.int r83) ∧
          sk_C sk_Sm (d - 1) mX7_dripsAs [.ref 0, .int r83, .int v2] t83 (fun w t87 => ∃ r87 : Int32, w = some (.int r87) ∧
            K (some (.int (r87 * 3))) t87
          )
        )
      )
    ) ∧
    (v1 = 5 →
      sk_C sk_Sm (d - 1) mX7_above [.int v1] τ (fun w t104 => ∃ r104 : Int32, w = some (.int r104) ∧
        sk_C sk_Sm (d - 1) mX7_dripsAs [.ref 0, .int r104, .int v2] t104 (fun w t108 => ∃ r108 : Int32, w = some (.int r108) ∧
          K (some (.int r108)) t108
        )
      )
    ) ∧
    (v1 = 6 →
      sk_C sk_Sm (d - 1) mX7_starts [.ref 0, .int 70] τ (fun w t96 => w = none ∧
        K (some (.int 9)) t96
      )
    ) ∧
    ((¬ v1 = 0 ∧ ¬ v1 = 1 ∧ ¬ v1 = 2 ∧ ¬ v1 = 3 ∧ ¬ v1 = 4 ∧ ¬ v1 = 5 ∧ ¬ v1 = 6) →
      sk_C sk_Sm (d - 1) mX7_above [.int v1] τ (fun w t104 => ∃ r104 : Int32, w = some (.int r104) ∧
        sk_C sk_Sm (d - 1) mX7_dripsAs [.ref 0, .int r104, .int v2] t104 (fun w t108 => ∃ r108 : Int32, w = some (.int r108) ∧
          K (some (.int r108)) t108
        )
      )
    ))) :
  sk_C sk_Sm d mX7_dripsAs [.ref 0, .int v1, .int v2] τ K := by
  refine sk_enter mfX7_dripsAs (Nat.le_of_ble_eq_true rfl) ?_
  show sk_G sk_Sm d mX7_dripsAs 0 [(0, .ref 0), (1, .int v1), (2, .int v2)] [] τ K
  refine sk_iload_n 1 1 dX7_dripsAs_0 rfl rfl rfl ?_
  refine sk_table [44, 57, 102, 102, 75, 102, 93] 102 dX7_dripsAs_1 (by decide) (by decide) (by decide) (by decide) ⟨fun e => ?_, fun e => ?_, fun e => ?_, fun e => ?_, fun e => ?_, fun e => ?_, fun e => ?_, trivial⟩ (fun e => ?_)
  · have h := h.1 e
    refine sk_aload_n 0 45 dX7_dripsAs_44 rfl rfl rfl ?_
    refine sk_bipush (v := 10) 47 dX7_dripsAs_45 rfl (by decide) ?_
    refine sk_callVv [.int 10] [] 50 dX7_dripsAs_47 rfl mfX7_starts lkX7_223 miX7_starts msX7_starts sm_0 rfl rfl rfl rfl (by simp [Value.category]) hd0 (sk_Cm h ?_)
    rintro w t47 ⟨hw, h⟩
    refine ⟨hw, ?_⟩
    refine sk_iload_n 2 51 dX7_dripsAs_50 rfl rfl rfl ?_
    refine sk_aload_n 0 52 dX7_dripsAs_51 rfl rfl rfl ?_
    refine sk_getI 55 dX7_dripsAs_52 rfl lfX7_220 sm_0 rfl ?_
    refine sk_iadd 56 dX7_dripsAs_55 rfl ?_
    exact sk_iret dX7_dripsAs_56 rfl rfl h
  · have h := h.2.1 e
    refine sk_aload_n 0 58 dX7_dripsAs_57 rfl rfl rfl ?_
    refine sk_bipush (v := 20) 60 dX7_dripsAs_58 rfl (by decide) ?_
    refine sk_callVv [.int 20] [] 63 dX7_dripsAs_60 rfl mfX7_starts lkX7_223 miX7_starts msX7_starts sm_0 rfl rfl rfl rfl (by simp [Value.category]) hd0 (sk_Cm h ?_)
    rintro w t60 ⟨hw, h⟩
    refine ⟨hw, ?_⟩
    refine sk_aload_n 0 64 dX7_dripsAs_63 rfl rfl rfl ?_
    refine sk_iconst (v := 1) 65 dX7_dripsAs_64 rfl (by decide) ?_
    refine sk_callSi [.int 1] [.ref 0] 68 dX7_dripsAs_65 rfl mfX7_above lkX7_175 miX7_above rfl rfl (by simp [Value.category]) hd0 (sk_Cm h ?_)
    rintro w t65 ⟨r65, hw, h⟩
    refine ⟨r65, hw, ?_⟩
    refine sk_iload_n 2 69 dX7_dripsAs_68 rfl rfl rfl ?_
    refine sk_callVi [.int r65, .int v2] [] 72 dX7_dripsAs_69 rfl mfX7_dripsAs lkX7_226 miX7_dripsAs msX7_dripsAs sm_0 rfl rfl rfl rfl (by simp [Value.category]) hd0 (sk_Cm h ?_)
    rintro w t69 ⟨r69, hw, h⟩
    refine ⟨r69, hw, ?_⟩
    refine sk_iconst (v := 4) 73 dX7_dripsAs_72 rfl (by decide) ?_
    refine sk_isub 74 dX7_dripsAs_73 rfl ?_
    exact sk_iret dX7_dripsAs_74 rfl rfl h
  · have h := h.2.2.1 e
    refine sk_aload_n 0 103 dX7_dripsAs_102 rfl rfl rfl ?_
    refine sk_iload_n 1 104 dX7_dripsAs_103 rfl rfl rfl ?_
    refine sk_callSi [.int v1] [.ref 0] 107 dX7_dripsAs_104 rfl mfX7_above lkX7_175 miX7_above rfl rfl (by simp [Value.category]) hd0 (sk_Cm h ?_)
    rintro w t104 ⟨r104, hw, h⟩
    refine ⟨r104, hw, ?_⟩
    refine sk_iload_n 2 108 dX7_dripsAs_107 rfl rfl rfl ?_
    refine sk_callVi [.int r104, .int v2] [] 111 dX7_dripsAs_108 rfl mfX7_dripsAs lkX7_226 miX7_dripsAs msX7_dripsAs sm_0 rfl rfl rfl rfl (by simp [Value.category]) hd0 (sk_Cm h ?_)
    rintro w t108 ⟨r108, hw, h⟩
    refine ⟨r108, hw, ?_⟩
    exact sk_iret dX7_dripsAs_111 rfl rfl h
  · have h := h.2.2.2.1 e
    refine sk_aload_n 0 103 dX7_dripsAs_102 rfl rfl rfl ?_
    refine sk_iload_n 1 104 dX7_dripsAs_103 rfl rfl rfl ?_
    refine sk_callSi [.int v1] [.ref 0] 107 dX7_dripsAs_104 rfl mfX7_above lkX7_175 miX7_above rfl rfl (by simp [Value.category]) hd0 (sk_Cm h ?_)
    rintro w t104 ⟨r104, hw, h⟩
    refine ⟨r104, hw, ?_⟩
    refine sk_iload_n 2 108 dX7_dripsAs_107 rfl rfl rfl ?_
    refine sk_callVi [.int r104, .int v2] [] 111 dX7_dripsAs_108 rfl mfX7_dripsAs lkX7_226 miX7_dripsAs msX7_dripsAs sm_0 rfl rfl rfl rfl (by simp [Value.category]) hd0 (sk_Cm h ?_)
    rintro w t108 ⟨r108, hw, h⟩
    refine ⟨r108, hw, ?_⟩
    exact sk_iret dX7_dripsAs_111 rfl rfl h
  · have h := h.2.2.2.2.1 e
    refine sk_aload_n 0 76 dX7_dripsAs_75 rfl rfl rfl ?_
    refine sk_bipush (v := 50) 78 dX7_dripsAs_76 rfl (by decide) ?_
    refine sk_callVv [.int 50] [] 81 dX7_dripsAs_78 rfl mfX7_starts lkX7_223 miX7_starts msX7_starts sm_0 rfl rfl rfl rfl (by simp [Value.category]) hd0 (sk_Cm h ?_)
    rintro w t78 ⟨hw, h⟩
    refine ⟨hw, ?_⟩
    refine sk_aload_n 0 82 dX7_dripsAs_81 rfl rfl rfl ?_
    refine sk_iconst (v := 4) 83 dX7_dripsAs_82 rfl (by decide) ?_
    refine sk_callSi [.int 4] [.ref 0] 86 dX7_dripsAs_83 rfl mfX7_above lkX7_175 miX7_above rfl rfl (by simp [Value.category]) hd0 (sk_Cm h ?_)
    rintro w t83 ⟨r83, hw, h⟩
    refine ⟨r83, hw, ?_⟩
    refine sk_iload_n 2 87 dX7_dripsAs_86 rfl rfl rfl ?_
    refine sk_callVi [.int r83, .int v2] [] 90 dX7_dripsAs_87 rfl mfX7_dripsAs lkX7_226 miX7_dripsAs msX7_dripsAs sm_0 rfl rfl rfl rfl (by simp [Value.category]) hd0 (sk_Cm h ?_)
    rintro w t87 ⟨r87, hw, h⟩
    refine ⟨r87, hw, ?_⟩
    refine sk_iconst (v := 3) 91 dX7_dripsAs_90 rfl (by decide) ?_
    refine sk_imul 92 dX7_dripsAs_91 rfl ?_
    exact sk_iret dX7_dripsAs_92 rfl rfl h
  · have h := h.2.2.2.2.2.1 e
    refine sk_aload_n 0 103 dX7_dripsAs_102 rfl rfl rfl ?_
    refine sk_iload_n 1 104 dX7_dripsAs_103 rfl rfl rfl ?_
    refine sk_callSi [.int v1] [.ref 0] 107 dX7_dripsAs_104 rfl mfX7_above lkX7_175 miX7_above rfl rfl (by simp [Value.category]) hd0 (sk_Cm h ?_)
    rintro w t104 ⟨r104, hw, h⟩
    refine ⟨r104, hw, ?_⟩
    refine sk_iload_n 2 108 dX7_dripsAs_107 rfl rfl rfl ?_
    refine sk_callVi [.int r104, .int v2] [] 111 dX7_dripsAs_108 rfl mfX7_dripsAs lkX7_226 miX7_dripsAs msX7_dripsAs sm_0 rfl rfl rfl rfl (by simp [Value.category]) hd0 (sk_Cm h ?_)
    rintro w t108 ⟨r108, hw, h⟩
    refine ⟨r108, hw, ?_⟩
    exact sk_iret dX7_dripsAs_111 rfl rfl h
  · have h := h.2.2.2.2.2.2.1 e
    refine sk_aload_n 0 94 dX7_dripsAs_93 rfl rfl rfl ?_
    refine sk_bipush (v := 70) 96 dX7_dripsAs_94 rfl (by decide) ?_
    refine sk_callVv [.int 70] [] 99 dX7_dripsAs_96 rfl mfX7_starts lkX7_223 miX7_starts msX7_starts sm_0 rfl rfl rfl rfl (by simp [Value.category]) hd0 (sk_Cm h ?_)
    rintro w t96 ⟨hw, h⟩
    refine ⟨hw, ?_⟩
    refine sk_bipush (v := 9) 101 dX7_dripsAs_99 rfl (by decide) ?_
    exact sk_iret dX7_dripsAs_101 rfl rfl h
  · have h := h.2.2.2.2.2.2.2 ⟨e 0 (by decide), e 1 (by decide), e 2 (by decide), e 3 (by decide), e 4 (by decide), e 5 (by decide), e 6 (by decide)⟩
    refine sk_aload_n 0 103 dX7_dripsAs_102 rfl rfl rfl ?_
    refine sk_iload_n 1 104 dX7_dripsAs_103 rfl rfl rfl ?_
    refine sk_callSi [.int v1] [.ref 0] 107 dX7_dripsAs_104 rfl mfX7_above lkX7_175 miX7_above rfl rfl (by simp [Value.category]) hd0 (sk_Cm h ?_)
    rintro w t104 ⟨r104, hw, h⟩
    refine ⟨r104, hw, ?_⟩
    refine sk_iload_n 2 108 dX7_dripsAs_107 rfl rfl rfl ?_
    refine sk_callVi [.int r104, .int v2] [] 111 dX7_dripsAs_108 rfl mfX7_dripsAs lkX7_226 miX7_dripsAs msX7_dripsAs sm_0 rfl rfl rfl rfl (by simp [Value.category]) hd0 (sk_Cm h ?_)
    rintro w t108 ⟨r108, hw, h⟩
    refine ⟨r108, hw, ?_⟩
    exact sk_iret dX7_dripsAs_111 rfl rfl h

theorem wX7_ringsAs {d : Nat} {τ : sk_T} {K : sk_K} {v1 : Int32} {v2 : Int32} (hd0 : 0 < d)
  (h : (
    (v1 = 0 →
      sk_C sk_Sm (d - 1) mX7_starts [.ref 0, .int 11] τ (fun w t47 => w = none ∧
        sk_C sk_Sm (d - 1) mX7_kindNow [.ref 0] t47 (fun w t52 => ∃ r52 : Int32, w = some (.int r52) ∧
          sk_C sk_Sm (d - 1) mX7_dripsAs [.ref 0, .int r52, .int v2] t52 (fun w t56 => ∃ r56 : Int32, w = some (.int r56) ∧
            K (some (.int (r56 * 2))) t56
          )
        )
      )
    ) ∧
    (v1 = 1 →
      sk_C sk_Sm (d - 1) mX7_above [.int v1] τ (fun w t122 => ∃ r122 : Int32, w = some (.int r122) ∧
        sk_C sk_Sm (d - 1) mX7_ringsAs [.ref 0, .int r122, .int v2] t122 (fun w t126 => ∃ r126 : Int32, w = some (.int r126) ∧
          K (some (.int r126)) t126
        )
      )
    ) ∧
    (v1 = 2 →
      sk_C sk_Sm (d - 1) mX7_starts [.ref 0, .int 30] τ (fun w t65 => w = none ∧
        sk_C sk_Sm (d - 1) mX7_above [.int 2] t65 (fun w t71 => ∃ r71 : Int32, w = some (.int r71) ∧
          sk_C sk_Sm (d - 1) mX7_ringsAs [.ref 0, .int r71, .int v2] t71 (fun w t75 => ∃ r75 : Int32, w = some (.int r75) ∧
            K (some (.int (0 - r75))) t75
          )
        )
      )
    ) ∧
    (v1 = 3 →
      sk_C sk_Sm (d - 1) mX7_above [.int v1] τ (fun w t122 => ∃ r122 : Int32, w = some (.int r122) ∧
        sk_C sk_Sm (d - 1) mX7_ringsAs [.ref 0, .int r122, .int v2] t122 (fun w t126 => ∃ r126 : Int32, w = some (.int r126) ∧
          K (some (.int r126)) t126
        )
      )
    ) ∧
    (v1 = 4 →
      sk_C sk_Sm (d - 1) mX7_above [.int v1] τ (fun w t122 => ∃ r122 : Int32, w = some (.int r122) ∧
        sk_C sk_Sm (d - 1) mX7_ringsAs [.ref 0, .int r122, .int v2] t122 (fun w t126 => ∃ r126 : Int32, w = some (.int r126) ∧
          K (some (.int r126)) t126
        )
      )
    ) ∧
    (v1 = 5 →
      sk_C sk_Sm (d - 1) mX7_starts [.ref 0, .int 60] τ (fun w t83 => w = none ∧
        sk_C sk_Sm (d - 1) mX7_above [.int 5] t83 (fun w t88 => ∃ r88 : Int32, w = some (.int r88) ∧
          sk_C sk_Sm (d - 1) mX7_ringsAs [.ref 0, .int r88, .int (v2 + 1)] t88 (fun w t94 => ∃ r94 : Int32, w = some (.int r94) ∧
            K (some (.int r94)) t94
          )
        )
      )
    ) ∧
    (v1 = 6 →
      sk_C sk_Sm (d - 1) mX7_starts [.ref 0, .int 71] τ (fun w t101 => w = none ∧
        sk_C sk_Sm (d - 1) mX7_above [.int 6] t101 (fun w t107 => ∃ r107 : Int32, w = some (.int r107) ∧
          sk_C sk_Sm (d - 1) mX7_ringsAs [.ref 0, .int r107, .int v2] t107 (fun w t111 => ∃ r111 : Int32, w = some (.int r111) ∧
            sk_C sk_Sm (d - 1) mX7_mNow [.ref 0] t111 (fun w t115 => ∃ r115 : Int32, w = some (.int r115) ∧
              K (some (.int (r111 + r115))) t115
            )
          )
        )
      )
    ) ∧
    ((¬ v1 = 0 ∧ ¬ v1 = 1 ∧ ¬ v1 = 2 ∧ ¬ v1 = 3 ∧ ¬ v1 = 4 ∧ ¬ v1 = 5 ∧ ¬ v1 = 6) →
      sk_C sk_Sm (d - 1) mX7_above [.int v1] τ (fun w t122 => ∃ r122 : Int32, w = some (.int r122) ∧
        sk_C sk_Sm (d - 1) mX7_ringsAs [.ref 0, .int r122, .int v2] t122 (fun w t126 => ∃ r126 : Int32, w = some (.int r126) ∧
          K (some (.int r126)) t126
        )
      )
    ))) :
  sk_C sk_Sm d mX7_ringsAs [.ref 0, .int v1, .int v2] τ K := by
  refine sk_enter mfX7_ringsAs (Nat.le_of_ble_eq_true rfl) ?_
  show sk_G sk_Sm d mX7_ringsAs 0 [(0, .ref 0), (1, .int v1), (2, .int v2)] [] τ K
  refine sk_iload_n 1 1 dX7_ringsAs_0 rfl rfl rfl ?_
  refine sk_table [44, 120, 62, 120, 120, 80, 98] 120 dX7_ringsAs_1 (by decide) (by decide) (by decide) (by decide) ⟨fun e => ?_, fun e => ?_, fun e => ?_, fun e => ?_, fun e => ?_, fun e => ?_, fun e => ?_, trivial⟩ (fun e => ?_)
  · have h := h.1 e
    refine sk_aload_n 0 45 dX7_ringsAs_44 rfl rfl rfl ?_
    refine sk_bipush (v := 11) 47 dX7_ringsAs_45 rfl (by decide) ?_
    refine sk_callVv [.int 11] [] 50 dX7_ringsAs_47 rfl mfX7_starts lkX7_223 miX7_starts msX7_starts sm_0 rfl rfl rfl rfl (by simp [Value.category]) hd0 (sk_Cm h ?_)
    rintro w t47 ⟨hw, h⟩
    refine ⟨hw, ?_⟩
    refine sk_aload_n 0 51 dX7_ringsAs_50 rfl rfl rfl ?_
    refine sk_aload_n 0 52 dX7_ringsAs_51 rfl rfl rfl ?_
    refine sk_callVi [] [.ref 0] 55 dX7_ringsAs_52 rfl mfX7_kindNow lkX7_229 miX7_kindNow msX7_kindNow sm_0 rfl rfl rfl rfl (by simp [Value.category]) hd0 (sk_Cm h ?_)
    rintro w t52 ⟨r52, hw, h⟩
    refine ⟨r52, hw, ?_⟩
    refine sk_iload_n 2 56 dX7_ringsAs_55 rfl rfl rfl ?_
    refine sk_callVi [.int r52, .int v2] [] 59 dX7_ringsAs_56 rfl mfX7_dripsAs lkX7_226 miX7_dripsAs msX7_dripsAs sm_0 rfl rfl rfl rfl (by simp [Value.category]) hd0 (sk_Cm h ?_)
    rintro w t56 ⟨r56, hw, h⟩
    refine ⟨r56, hw, ?_⟩
    refine sk_iconst (v := 2) 60 dX7_ringsAs_59 rfl (by decide) ?_
    refine sk_imul 61 dX7_ringsAs_60 rfl ?_
    exact sk_iret dX7_ringsAs_61 rfl rfl h
  · have h := h.2.1 e
    refine sk_aload_n 0 121 dX7_ringsAs_120 rfl rfl rfl ?_
    refine sk_iload_n 1 122 dX7_ringsAs_121 rfl rfl rfl ?_
    refine sk_callSi [.int v1] [.ref 0] 125 dX7_ringsAs_122 rfl mfX7_above lkX7_175 miX7_above rfl rfl (by simp [Value.category]) hd0 (sk_Cm h ?_)
    rintro w t122 ⟨r122, hw, h⟩
    refine ⟨r122, hw, ?_⟩
    refine sk_iload_n 2 126 dX7_ringsAs_125 rfl rfl rfl ?_
    refine sk_callVi [.int r122, .int v2] [] 129 dX7_ringsAs_126 rfl mfX7_ringsAs lkX7_232 miX7_ringsAs msX7_ringsAs sm_0 rfl rfl rfl rfl (by simp [Value.category]) hd0 (sk_Cm h ?_)
    rintro w t126 ⟨r126, hw, h⟩
    refine ⟨r126, hw, ?_⟩
    exact sk_iret dX7_ringsAs_129 rfl rfl h
  · have h := h.2.2.1 e
    refine sk_aload_n 0 63 dX7_ringsAs_62 rfl rfl rfl ?_
    refine sk_bipush (v := 30) 65 dX7_ringsAs_63 rfl (by decide) ?_
    refine sk_callVv [.int 30] [] 68 dX7_ringsAs_65 rfl mfX7_starts lkX7_223 miX7_starts msX7_starts sm_0 rfl rfl rfl rfl (by simp [Value.category]) hd0 (sk_Cm h ?_)
    rintro w t65 ⟨hw, h⟩
    refine ⟨hw, ?_⟩
    refine sk_iconst (v := 0) 69 dX7_ringsAs_68 rfl (by decide) ?_
    refine sk_aload_n 0 70 dX7_ringsAs_69 rfl rfl rfl ?_
    refine sk_iconst (v := 2) 71 dX7_ringsAs_70 rfl (by decide) ?_
    refine sk_callSi [.int 2] [.ref 0, .int 0] 74 dX7_ringsAs_71 rfl mfX7_above lkX7_175 miX7_above rfl rfl (by simp [Value.category]) hd0 (sk_Cm h ?_)
    rintro w t71 ⟨r71, hw, h⟩
    refine ⟨r71, hw, ?_⟩
    refine sk_iload_n 2 75 dX7_ringsAs_74 rfl rfl rfl ?_
    refine sk_callVi [.int r71, .int v2] [.int 0] 78 dX7_ringsAs_75 rfl mfX7_ringsAs lkX7_232 miX7_ringsAs msX7_ringsAs sm_0 rfl rfl rfl rfl (by simp [Value.category]) hd0 (sk_Cm h ?_)
    rintro w t75 ⟨r75, hw, h⟩
    refine ⟨r75, hw, ?_⟩
    refine sk_isub 79 dX7_ringsAs_78 rfl ?_
    exact sk_iret dX7_ringsAs_79 rfl rfl h
  · have h := h.2.2.2.1 e
    refine sk_aload_n 0 121 dX7_ringsAs_120 rfl rfl rfl ?_
    refine sk_iload_n 1 122 dX7_ringsAs_121 rfl rfl rfl ?_
    refine sk_callSi [.int v1] [.ref 0] 125 dX7_ringsAs_122 rfl mfX7_above lkX7_175 miX7_above rfl rfl (by simp [Value.category]) hd0 (sk_Cm h ?_)
    rintro w t122 ⟨r122, hw, h⟩
    refine ⟨r122, hw, ?_⟩
    refine sk_iload_n 2 126 dX7_ringsAs_125 rfl rfl rfl ?_
    refine sk_callVi [.int r122, .int v2] [] 129 dX7_ringsAs_126 rfl mfX7_ringsAs lkX7_232 miX7_ringsAs msX7_ringsAs sm_0 rfl rfl rfl rfl (by simp [Value.category]) hd0 (sk_Cm h ?_)
    rintro w t126 ⟨r126, hw, h⟩
    refine ⟨r126, hw, ?_⟩
    exact sk_iret dX7_ringsAs_129 rfl rfl h
  · have h := h.2.2.2.2.1 e
    refine sk_aload_n 0 121 dX7_ringsAs_120 rfl rfl rfl ?_
    refine sk_iload_n 1 122 dX7_ringsAs_121 rfl rfl rfl ?_
    refine sk_callSi [.int v1] [.ref 0] 125 dX7_ringsAs_122 rfl mfX7_above lkX7_175 miX7_above rfl rfl (by simp [Value.category]) hd0 (sk_Cm h ?_)
    rintro w t122 ⟨r122, hw, h⟩
    refine ⟨r122, hw, ?_⟩
    refine sk_iload_n 2 126 dX7_ringsAs_125 rfl rfl rfl ?_
    refine sk_callVi [.int r122, .int v2] [] 129 dX7_ringsAs_126 rfl mfX7_ringsAs lkX7_232 miX7_ringsAs msX7_ringsAs sm_0 rfl rfl rfl rfl (by simp [Value.category]) hd0 (sk_Cm h ?_)
    rintro w t126 ⟨r126, hw, h⟩
    refine ⟨r126, hw, ?_⟩
    exact sk_iret dX7_ringsAs_129 rfl rfl h
  · have h := h.2.2.2.2.2.1 e
    refine sk_aload_n 0 81 dX7_ringsAs_80 rfl rfl rfl ?_
    refine sk_bipush (v := 60) 83 dX7_ringsAs_81 rfl (by decide) ?_
    refine sk_callVv [.int 60] [] 86 dX7_ringsAs_83 rfl mfX7_starts lkX7_223 miX7_starts msX7_starts sm_0 rfl rfl rfl rfl (by simp [Value.category]) hd0 (sk_Cm h ?_)
    rintro w t83 ⟨hw, h⟩
    refine ⟨hw, ?_⟩
    refine sk_aload_n 0 87 dX7_ringsAs_86 rfl rfl rfl ?_
    refine sk_iconst (v := 5) 88 dX7_ringsAs_87 rfl (by decide) ?_
    refine sk_callSi [.int 5] [.ref 0] 91 dX7_ringsAs_88 rfl mfX7_above lkX7_175 miX7_above rfl rfl (by simp [Value.category]) hd0 (sk_Cm h ?_)
    rintro w t88 ⟨r88, hw, h⟩
    refine ⟨r88, hw, ?_⟩
    refine sk_iload_n 2 92 dX7_ringsAs_91 rfl rfl rfl ?_
    refine sk_iconst (v := 1) 93 dX7_ringsAs_92 rfl (by decide) ?_
    refine sk_iadd 94 dX7_ringsAs_93 rfl ?_
    refine sk_callVi [.int r88, .int (v2 + 1)] [] 97 dX7_ringsAs_94 rfl mfX7_ringsAs lkX7_232 miX7_ringsAs msX7_ringsAs sm_0 rfl rfl rfl rfl (by simp [Value.category]) hd0 (sk_Cm h ?_)
    rintro w t94 ⟨r94, hw, h⟩
    refine ⟨r94, hw, ?_⟩
    exact sk_iret dX7_ringsAs_97 rfl rfl h
  · have h := h.2.2.2.2.2.2.1 e
    refine sk_aload_n 0 99 dX7_ringsAs_98 rfl rfl rfl ?_
    refine sk_bipush (v := 71) 101 dX7_ringsAs_99 rfl (by decide) ?_
    refine sk_callVv [.int 71] [] 104 dX7_ringsAs_101 rfl mfX7_starts lkX7_223 miX7_starts msX7_starts sm_0 rfl rfl rfl rfl (by simp [Value.category]) hd0 (sk_Cm h ?_)
    rintro w t101 ⟨hw, h⟩
    refine ⟨hw, ?_⟩
    refine sk_aload_n 0 105 dX7_ringsAs_104 rfl rfl rfl ?_
    refine sk_bipush (v := 6) 107 dX7_ringsAs_105 rfl (by decide) ?_
    refine sk_callSi [.int 6] [.ref 0] 110 dX7_ringsAs_107 rfl mfX7_above lkX7_175 miX7_above rfl rfl (by simp [Value.category]) hd0 (sk_Cm h ?_)
    rintro w t107 ⟨r107, hw, h⟩
    refine ⟨r107, hw, ?_⟩
    refine sk_iload_n 2 111 dX7_ringsAs_110 rfl rfl rfl ?_
    refine sk_callVi [.int r107, .int v2] [] 114 dX7_ringsAs_111 rfl mfX7_ringsAs lkX7_232 miX7_ringsAs msX7_ringsAs sm_0 rfl rfl rfl rfl (by simp [Value.category]) hd0 (sk_Cm h ?_)
    rintro w t111 ⟨r111, hw, h⟩
    refine ⟨r111, hw, ?_⟩
    refine sk_aload_n 0 115 dX7_ringsAs_114 rfl rfl rfl ?_
    refine sk_callVi [] [.int r111] 118 dX7_ringsAs_115 rfl mfX7_mNow lkX7_235 miX7_mNow msX7_mNow sm_0 rfl rfl rfl rfl (by simp [Value.category]) hd0 (sk_Cm h ?_)
    rintro w t115 ⟨r115, hw, h⟩
    refine ⟨r115, hw, ?_⟩
    refine sk_iadd 119 dX7_ringsAs_118 rfl ?_
    exact sk_iret dX7_ringsAs_119 rfl rfl h
  · have h := h.2.2.2.2.2.2.2 ⟨e 0 (by decide), e 1 (by decide), e 2 (by decide), e 3 (by decide), e 4 (by decide), e 5 (by decide), e 6 (by decide)⟩
    refine sk_aload_n 0 121 dX7_ringsAs_120 rfl rfl rfl ?_
    refine sk_iload_n 1 122 dX7_ringsAs_121 rfl rfl rfl ?_
    refine sk_callSi [.int v1] [.ref 0] 125 dX7_ringsAs_122 rfl mfX7_above lkX7_175 miX7_above rfl rfl (by simp [Value.category]) hd0 (sk_Cm h ?_)
    rintro w t122 ⟨r122, hw, h⟩
    refine ⟨r122, hw, ?_⟩
    refine sk_iload_n 2 126 dX7_ringsAs_125 rfl rfl rfl ?_
    refine sk_callVi [.int r122, .int v2] [] 129 dX7_ringsAs_126 rfl mfX7_ringsAs lkX7_232 miX7_ringsAs msX7_ringsAs sm_0 rfl rfl rfl rfl (by simp [Value.category]) hd0 (sk_Cm h ?_)
    rintro w t126 ⟨r126, hw, h⟩
    refine ⟨r126, hw, ?_⟩
    exact sk_iret dX7_ringsAs_129 rfl rfl h

theorem wX7_creaksAs {d : Nat} {τ : sk_T} {K : sk_K} {v1 : Int32} {v2 : Int32} (hd0 : 0 < d)
  (h : (
    (v1 = 0 →
      sk_C sk_Sm (d - 1) mX7_starts [.ref 0, .int 12] τ (fun w t39 => w = none ∧
        sk_C sk_Sm (d - 1) mX7_kindNow [.ref 0] t39 (fun w t44 => ∃ r44 : Int32, w = some (.int r44) ∧
          sk_C sk_Sm (d - 1) mX7_ringsAs [.ref 0, .int r44, .int v2] t44 (fun w t48 => ∃ r48 : Int32, w = some (.int r48) ∧
            sk_C sk_Sm (d - 1) mX7_mNow [.ref 0] t48 (fun w t52 => ∃ r52 : Int32, w = some (.int r52) ∧
              K (some (.int (r48 - r52))) t52
            )
          )
        )
      )
    ) ∧
    (v1 = 1 →
      sk_C sk_Sm (d - 1) mX7_above [.int v1] τ (fun w t98 => ∃ r98 : Int32, w = some (.int r98) ∧
        sk_C sk_Sm (d - 1) mX7_creaksAs [.ref 0, .int r98, .int v2] t98 (fun w t102 => ∃ r102 : Int32, w = some (.int r102) ∧
          K (some (.int r102)) t102
        )
      )
    ) ∧
    (v1 = 2 →
      sk_C sk_Sm (d - 1) mX7_above [.int v1] τ (fun w t98 => ∃ r98 : Int32, w = some (.int r98) ∧
        sk_C sk_Sm (d - 1) mX7_creaksAs [.ref 0, .int r98, .int v2] t98 (fun w t102 => ∃ r102 : Int32, w = some (.int r102) ∧
          K (some (.int r102)) t102
        )
      )
    ) ∧
    (v1 = 3 →
      sk_C sk_Sm (d - 1) mX7_starts [.ref 0, .int 40] τ (fun w t60 => w = none ∧
        sk_C sk_Sm (d - 1) mX7_above [.int 3] t60 (fun w t65 => ∃ r65 : Int32, w = some (.int r65) ∧
          sk_C sk_Sm (d - 1) mX7_creaksAs [.ref 0, .int r65, .int (v2 / 2)] t65 (fun w t71 => ∃ r71 : Int32, w = some (.int r71) ∧
            K (some (.int r71)) t71
          )
        )
      )
    ) ∧
    (v1 = 4 →
      sk_C sk_Sm (d - 1) mX7_starts [.ref 0, .int 51] τ (fun w t78 => w = none ∧
        sk_C sk_Sm (d - 1) mX7_above [.int 4] t78 (fun w t83 => ∃ r83 : Int32, w = some (.int r83) ∧
          sk_C sk_Sm (d - 1) mX7_creaksAs [.ref 0, .int r83, .int v2] t83 (fun w t87 => ∃ r87 : Int32, w = some (.int r87) ∧
            K (some (.int (r87 ^^^ (t87 0 14)))) t87
          )
        )
      )
    ) ∧
    ((¬ v1 = 0 ∧ ¬ v1 = 1 ∧ ¬ v1 = 2 ∧ ¬ v1 = 3 ∧ ¬ v1 = 4) →
      sk_C sk_Sm (d - 1) mX7_above [.int v1] τ (fun w t98 => ∃ r98 : Int32, w = some (.int r98) ∧
        sk_C sk_Sm (d - 1) mX7_creaksAs [.ref 0, .int r98, .int v2] t98 (fun w t102 => ∃ r102 : Int32, w = some (.int r102) ∧
          K (some (.int r102)) t102
        )
      )
    ))) :
  sk_C sk_Sm d mX7_creaksAs [.ref 0, .int v1, .int v2] τ K := by
  refine sk_enter mfX7_creaksAs (Nat.le_of_ble_eq_true rfl) ?_
  show sk_G sk_Sm d mX7_creaksAs 0 [(0, .ref 0), (1, .int v1), (2, .int v2)] [] τ K
  refine sk_iload_n 1 1 dX7_creaksAs_0 rfl rfl rfl ?_
  refine sk_table [36, 96, 96, 57, 75] 96 dX7_creaksAs_1 (by decide) (by decide) (by decide) (by decide) ⟨fun e => ?_, fun e => ?_, fun e => ?_, fun e => ?_, fun e => ?_, trivial⟩ (fun e => ?_)
  · have h := h.1 e
    refine sk_aload_n 0 37 dX7_creaksAs_36 rfl rfl rfl ?_
    refine sk_bipush (v := 12) 39 dX7_creaksAs_37 rfl (by decide) ?_
    refine sk_callVv [.int 12] [] 42 dX7_creaksAs_39 rfl mfX7_starts lkX7_223 miX7_starts msX7_starts sm_0 rfl rfl rfl rfl (by simp [Value.category]) hd0 (sk_Cm h ?_)
    rintro w t39 ⟨hw, h⟩
    refine ⟨hw, ?_⟩
    refine sk_aload_n 0 43 dX7_creaksAs_42 rfl rfl rfl ?_
    refine sk_aload_n 0 44 dX7_creaksAs_43 rfl rfl rfl ?_
    refine sk_callVi [] [.ref 0] 47 dX7_creaksAs_44 rfl mfX7_kindNow lkX7_229 miX7_kindNow msX7_kindNow sm_0 rfl rfl rfl rfl (by simp [Value.category]) hd0 (sk_Cm h ?_)
    rintro w t44 ⟨r44, hw, h⟩
    refine ⟨r44, hw, ?_⟩
    refine sk_iload_n 2 48 dX7_creaksAs_47 rfl rfl rfl ?_
    refine sk_callVi [.int r44, .int v2] [] 51 dX7_creaksAs_48 rfl mfX7_ringsAs lkX7_232 miX7_ringsAs msX7_ringsAs sm_0 rfl rfl rfl rfl (by simp [Value.category]) hd0 (sk_Cm h ?_)
    rintro w t48 ⟨r48, hw, h⟩
    refine ⟨r48, hw, ?_⟩
    refine sk_aload_n 0 52 dX7_creaksAs_51 rfl rfl rfl ?_
    refine sk_callVi [] [.int r48] 55 dX7_creaksAs_52 rfl mfX7_mNow lkX7_235 miX7_mNow msX7_mNow sm_0 rfl rfl rfl rfl (by simp [Value.category]) hd0 (sk_Cm h ?_)
    rintro w t52 ⟨r52, hw, h⟩
    refine ⟨r52, hw, ?_⟩
    refine sk_isub 56 dX7_creaksAs_55 rfl ?_
    exact sk_iret dX7_creaksAs_56 rfl rfl h
  · have h := h.2.1 e
    refine sk_aload_n 0 97 dX7_creaksAs_96 rfl rfl rfl ?_
    refine sk_iload_n 1 98 dX7_creaksAs_97 rfl rfl rfl ?_
    refine sk_callSi [.int v1] [.ref 0] 101 dX7_creaksAs_98 rfl mfX7_above lkX7_175 miX7_above rfl rfl (by simp [Value.category]) hd0 (sk_Cm h ?_)
    rintro w t98 ⟨r98, hw, h⟩
    refine ⟨r98, hw, ?_⟩
    refine sk_iload_n 2 102 dX7_creaksAs_101 rfl rfl rfl ?_
    refine sk_callVi [.int r98, .int v2] [] 105 dX7_creaksAs_102 rfl mfX7_creaksAs lkX7_238 miX7_creaksAs msX7_creaksAs sm_0 rfl rfl rfl rfl (by simp [Value.category]) hd0 (sk_Cm h ?_)
    rintro w t102 ⟨r102, hw, h⟩
    refine ⟨r102, hw, ?_⟩
    exact sk_iret dX7_creaksAs_105 rfl rfl h
  · have h := h.2.2.1 e
    refine sk_aload_n 0 97 dX7_creaksAs_96 rfl rfl rfl ?_
    refine sk_iload_n 1 98 dX7_creaksAs_97 rfl rfl rfl ?_
    refine sk_callSi [.int v1] [.ref 0] 101 dX7_creaksAs_98 rfl mfX7_above lkX7_175 miX7_above rfl rfl (by simp [Value.category]) hd0 (sk_Cm h ?_)
    rintro w t98 ⟨r98, hw, h⟩
    refine ⟨r98, hw, ?_⟩
    refine sk_iload_n 2 102 dX7_creaksAs_101 rfl rfl rfl ?_
    refine sk_callVi [.int r98, .int v2] [] 105 dX7_creaksAs_102 rfl mfX7_creaksAs lkX7_238 miX7_creaksAs msX7_creaksAs sm_0 rfl rfl rfl rfl (by simp [Value.category]) hd0 (sk_Cm h ?_)
    rintro w t102 ⟨r102, hw, h⟩
    refine ⟨r102, hw, ?_⟩
    exact sk_iret dX7_creaksAs_105 rfl rfl h
  · have h := h.2.2.2.1 e
    refine sk_aload_n 0 58 dX7_creaksAs_57 rfl rfl rfl ?_
    refine sk_bipush (v := 40) 60 dX7_creaksAs_58 rfl (by decide) ?_
    refine sk_callVv [.int 40] [] 63 dX7_creaksAs_60 rfl mfX7_starts lkX7_223 miX7_starts msX7_starts sm_0 rfl rfl rfl rfl (by simp [Value.category]) hd0 (sk_Cm h ?_)
    rintro w t60 ⟨hw, h⟩
    refine ⟨hw, ?_⟩
    refine sk_aload_n 0 64 dX7_creaksAs_63 rfl rfl rfl ?_
    refine sk_iconst (v := 3) 65 dX7_creaksAs_64 rfl (by decide) ?_
    refine sk_callSi [.int 3] [.ref 0] 68 dX7_creaksAs_65 rfl mfX7_above lkX7_175 miX7_above rfl rfl (by simp [Value.category]) hd0 (sk_Cm h ?_)
    rintro w t65 ⟨r65, hw, h⟩
    refine ⟨r65, hw, ?_⟩
    refine sk_iload_n 2 69 dX7_creaksAs_68 rfl rfl rfl ?_
    refine sk_iconst (v := 2) 70 dX7_creaksAs_69 rfl (by decide) ?_
    refine sk_idiv 71 dX7_creaksAs_70 rfl (by decide) ?_
    refine sk_callVi [.int r65, .int (v2 / 2)] [] 74 dX7_creaksAs_71 rfl mfX7_creaksAs lkX7_238 miX7_creaksAs msX7_creaksAs sm_0 rfl rfl rfl rfl (by simp [Value.category]) hd0 (sk_Cm h ?_)
    rintro w t71 ⟨r71, hw, h⟩
    refine ⟨r71, hw, ?_⟩
    exact sk_iret dX7_creaksAs_74 rfl rfl h
  · have h := h.2.2.2.2.1 e
    refine sk_aload_n 0 76 dX7_creaksAs_75 rfl rfl rfl ?_
    refine sk_bipush (v := 51) 78 dX7_creaksAs_76 rfl (by decide) ?_
    refine sk_callVv [.int 51] [] 81 dX7_creaksAs_78 rfl mfX7_starts lkX7_223 miX7_starts msX7_starts sm_0 rfl rfl rfl rfl (by simp [Value.category]) hd0 (sk_Cm h ?_)
    rintro w t78 ⟨hw, h⟩
    refine ⟨hw, ?_⟩
    refine sk_aload_n 0 82 dX7_creaksAs_81 rfl rfl rfl ?_
    refine sk_iconst (v := 4) 83 dX7_creaksAs_82 rfl (by decide) ?_
    refine sk_callSi [.int 4] [.ref 0] 86 dX7_creaksAs_83 rfl mfX7_above lkX7_175 miX7_above rfl rfl (by simp [Value.category]) hd0 (sk_Cm h ?_)
    rintro w t83 ⟨r83, hw, h⟩
    refine ⟨r83, hw, ?_⟩
    refine sk_iload_n 2 87 dX7_creaksAs_86 rfl rfl rfl ?_
    refine sk_callVi [.int r83, .int v2] [] 90 dX7_creaksAs_87 rfl mfX7_creaksAs lkX7_238 miX7_creaksAs msX7_creaksAs sm_0 rfl rfl rfl rfl (by simp [Value.category]) hd0 (sk_Cm h ?_)
    rintro w t87 ⟨r87, hw, h⟩
    refine ⟨r87, hw, ?_⟩
    refine sk_aload_n 0 91 dX7_creaksAs_90 rfl rfl rfl ?_
    refine sk_getI 94 dX7_creaksAs_91 rfl lfX7_220 sm_0 rfl ?_
    refine sk_ixor 95 dX7_creaksAs_94 rfl ?_
    exact sk_iret dX7_creaksAs_95 rfl rfl h
  · have h := h.2.2.2.2.2 ⟨e 0 (by decide), e 1 (by decide), e 2 (by decide), e 3 (by decide), e 4 (by decide)⟩
    refine sk_aload_n 0 97 dX7_creaksAs_96 rfl rfl rfl ?_
    refine sk_iload_n 1 98 dX7_creaksAs_97 rfl rfl rfl ?_
    refine sk_callSi [.int v1] [.ref 0] 101 dX7_creaksAs_98 rfl mfX7_above lkX7_175 miX7_above rfl rfl (by simp [Value.category]) hd0 (sk_Cm h ?_)
    rintro w t98 ⟨r98, hw, h⟩
    refine ⟨r98, hw, ?_⟩
    refine sk_iload_n 2 102 dX7_creaksAs_101 rfl rfl rfl ?_
    refine sk_callVi [.int r98, .int v2] [] 105 dX7_creaksAs_102 rfl mfX7_creaksAs lkX7_238 miX7_creaksAs msX7_creaksAs sm_0 rfl rfl rfl rfl (by simp [Value.category]) hd0 (sk_Cm h ?_)
    rintro w t102 ⟨r102, hw, h⟩
    refine ⟨r102, hw, ?_⟩
    exact sk_iret dX7_creaksAs_105 rfl rfl h

theorem wX7_partsAs {d : Nat} {τ : sk_T} {K : sk_K} {v1 : Int32} {v2 : Int32} (hd0 : 0 < d)
  (h : (
    (v1 = 0 →
      sk_C sk_Sm (d - 1) mX7_starts [.ref 0, .int 13] τ (fun w t31 => w = none ∧
        sk_C sk_Sm (d - 1) mX7_mNow [.ref 0] t31 (fun w t35 => ∃ r35 : Int32, w = some (.int r35) ∧
          ((¬ (r35 - (t35 0 14)) = 0 →
            ((¬ (r35 - (t35 0 14)) = 0 →
              ((¬ (r35 - (t35 0 14)) = (-1) →
                ¬ (r35 - (t35 0 14)) = 0 ∧
                K (some (.int (v2 / (r35 - (t35 0 14))))) (sk_u t35 0 15 0)
              ) ∧
              ((r35 - (t35 0 14)) = (-1) →
                K (some (.int (-v2))) (sk_u t35 0 15 0)
              ))
            ) ∧
            ((r35 - (t35 0 14)) = 0 →
              K (some (.int 0)) (sk_u t35 0 15 0)
            ))
          ) ∧
          ((r35 - (t35 0 14)) = 0 →
            ((¬ (r35 - (t35 0 14)) = 0 →
              ((¬ (r35 - (t35 0 14)) = (-1) →
                ¬ (r35 - (t35 0 14)) = 0 ∧
                K (some (.int (v2 / (r35 - (t35 0 14))))) (sk_u t35 0 15 1)
              ) ∧
              ((r35 - (t35 0 14)) = (-1) →
                K (some (.int (-v2))) (sk_u t35 0 15 1)
              ))
            ) ∧
            ((r35 - (t35 0 14)) = 0 →
              K (some (.int 0)) (sk_u t35 0 15 1)
            ))
          ))
        )
      )
    ) ∧
    (v1 = 1 →
      sk_C sk_Sm (d - 1) mX7_starts [.ref 0, .int 21] τ (fun w t82 => w = none ∧
        sk_C sk_Sm (d - 1) mX7_above [.int 1] t82 (fun w t87 => ∃ r87 : Int32, w = some (.int r87) ∧
          sk_C sk_Sm (d - 1) mX7_partsAs [.ref 0, .int r87, .int v2] t87 (fun w t91 => ∃ r91 : Int32, w = some (.int r91) ∧
            (((t91 0 15 &&& 1) = 0 →
              sk_C sk_Sm (d - 1) mX7_kindNow [.ref 0] t91 (fun w t111 => ∃ r111 : Int32, w = some (.int r111) ∧
                sk_C sk_Sm (d - 1) mX7_ringsAs [.ref 0, .int r111, .int 1] t111 (fun w t115 => ∃ r115 : Int32, w = some (.int r115) ∧
                  K (some (.int (r91 + r115))) t115
                )
              )
            ) ∧
            (¬ (t91 0 15 &&& 1) = 0 →
              K (some (.int 0)) t91
            ))
          )
        )
      )
    ) ∧
    ((¬ v1 = 0 ∧ ¬ v1 = 1) →
      sk_C sk_Sm (d - 1) mX7_above [.int v1] τ (fun w t122 => ∃ r122 : Int32, w = some (.int r122) ∧
        sk_C sk_Sm (d - 1) mX7_partsAs [.ref 0, .int r122, .int v2] t122 (fun w t126 => ∃ r126 : Int32, w = some (.int r126) ∧
          K (some (.int r126)) t126
        )
      )
    ))) :
  sk_C sk_Sm d mX7_partsAs [.ref 0, .int v1, .int v2] τ K := by
  refine sk_enter mfX7_partsAs (Nat.le_of_ble_eq_true rfl) ?_
  show sk_G sk_Sm d mX7_partsAs 0 [(0, .ref 0), (1, .int v1), (2, .int v2)] [] τ K
  refine sk_iload_n 1 1 dX7_partsAs_0 rfl rfl rfl ?_
  refine sk_look [(0, 28), (1, 79)] 120 dX7_partsAs_1 (by decide) (by decide) (by decide) (by decide) ⟨fun e => ?_, fun e => ?_, trivial⟩ (fun e => ?_)
  · have h := h.1 e
    refine sk_aload_n 0 29 dX7_partsAs_28 rfl rfl rfl ?_
    refine sk_bipush (v := 13) 31 dX7_partsAs_29 rfl (by decide) ?_
    refine sk_callVv [.int 13] [] 34 dX7_partsAs_31 rfl mfX7_starts lkX7_223 miX7_starts msX7_starts sm_0 rfl rfl rfl rfl (by simp [Value.category]) hd0 (sk_Cm h ?_)
    rintro w t31 ⟨hw, h⟩
    refine ⟨hw, ?_⟩
    refine sk_aload_n 0 35 dX7_partsAs_34 rfl rfl rfl ?_
    refine sk_callVi [] [] 38 dX7_partsAs_35 rfl mfX7_mNow lkX7_235 miX7_mNow msX7_mNow sm_0 rfl rfl rfl rfl (by simp [Value.category]) hd0 (sk_Cm h ?_)
    rintro w t35 ⟨r35, hw, h⟩
    refine ⟨r35, hw, ?_⟩
    refine sk_aload_n 0 39 dX7_partsAs_38 rfl rfl rfl ?_
    refine sk_getI 42 dX7_partsAs_39 rfl lfX7_220 sm_0 rfl ?_
    refine sk_isub 43 dX7_partsAs_42 rfl ?_
    refine sk_istore_n (lv2 := [(3, .int (r35 - (t35 0 14))), (0, .ref 0), (1, .int v1), (2, .int v2)]) 44 dX7_partsAs_43 rfl rfl (by decide) rfl ?_
    refine sk_aload_n 1 45 dX7_partsAs_44 rfl rfl rfl ?_
    refine sk_iload_n 0 46 dX7_partsAs_45 rfl rfl rfl ?_
    refine sk_if_ne 53 49 dX7_partsAs_46 (by decide) rfl (fun hc => ?_) (fun hc => ?_)
    · have h := h.1 hc
      refine sk_iconst (v := 0) 54 dX7_partsAs_53 rfl (by decide) ?_
      refine sk_putB 57 dX7_partsAs_54 rfl lpX7_241 sm_0 rfl (by decide) ?_
      refine sk_iload_n 0 58 dX7_partsAs_57 rfl rfl rfl ?_
      refine sk_if_ne 65 61 dX7_partsAs_58 (by decide) rfl (fun hc => ?_) (fun hc => ?_)
      · have h := h.1 hc
        refine sk_iload_n 0 66 dX7_partsAs_65 rfl rfl rfl ?_
        refine sk_iconst (v := (-1)) 67 dX7_partsAs_66 rfl (by decide) ?_
        refine sk_icmp_ne 75 70 dX7_partsAs_67 (by decide) rfl (fun hc => ?_) (fun hc => ?_)
        · have h := h.1 hc
          refine sk_iload_n 3 76 dX7_partsAs_75 rfl rfl rfl ?_
          refine sk_iload_n 0 77 dX7_partsAs_76 rfl rfl rfl ?_
          have hz77 := h.1
          have h := h.2
          refine sk_idiv 78 dX7_partsAs_77 rfl hz77 ?_
          exact sk_iret dX7_partsAs_78 rfl rfl h
        · have h := h.2 hc
          refine sk_iload_n 3 71 dX7_partsAs_70 rfl rfl rfl ?_
          refine sk_ineg 72 dX7_partsAs_71 rfl ?_
          refine sk_goto 78 dX7_partsAs_72 (by decide) ?_
          exact sk_iret dX7_partsAs_78 rfl rfl h
      · have h := h.2 hc
        refine sk_iconst (v := 0) 62 dX7_partsAs_61 rfl (by decide) ?_
        refine sk_goto 78 dX7_partsAs_62 (by decide) ?_
        exact sk_iret dX7_partsAs_78 rfl rfl h
    · have h := h.2 hc
      refine sk_iconst (v := 1) 50 dX7_partsAs_49 rfl (by decide) ?_
      refine sk_goto 54 dX7_partsAs_50 (by decide) ?_
      refine sk_putB 57 dX7_partsAs_54 rfl lpX7_241 sm_0 rfl (by decide) ?_
      refine sk_iload_n 0 58 dX7_partsAs_57 rfl rfl rfl ?_
      refine sk_if_ne 65 61 dX7_partsAs_58 (by decide) rfl (fun hc => ?_) (fun hc => ?_)
      · have h := h.1 hc
        refine sk_iload_n 0 66 dX7_partsAs_65 rfl rfl rfl ?_
        refine sk_iconst (v := (-1)) 67 dX7_partsAs_66 rfl (by decide) ?_
        refine sk_icmp_ne 75 70 dX7_partsAs_67 (by decide) rfl (fun hc => ?_) (fun hc => ?_)
        · have h := h.1 hc
          refine sk_iload_n 3 76 dX7_partsAs_75 rfl rfl rfl ?_
          refine sk_iload_n 0 77 dX7_partsAs_76 rfl rfl rfl ?_
          have hz77 := h.1
          have h := h.2
          refine sk_idiv 78 dX7_partsAs_77 rfl hz77 ?_
          exact sk_iret dX7_partsAs_78 rfl rfl h
        · have h := h.2 hc
          refine sk_iload_n 3 71 dX7_partsAs_70 rfl rfl rfl ?_
          refine sk_ineg 72 dX7_partsAs_71 rfl ?_
          refine sk_goto 78 dX7_partsAs_72 (by decide) ?_
          exact sk_iret dX7_partsAs_78 rfl rfl h
      · have h := h.2 hc
        refine sk_iconst (v := 0) 62 dX7_partsAs_61 rfl (by decide) ?_
        refine sk_goto 78 dX7_partsAs_62 (by decide) ?_
        exact sk_iret dX7_partsAs_78 rfl rfl h
  · have h := h.2.1 e
    refine sk_aload_n 0 80 dX7_partsAs_79 rfl rfl rfl ?_
    refine sk_bipush (v := 21) 82 dX7_partsAs_80 rfl (by decide) ?_
    refine sk_callVv [.int 21] [] 85 dX7_partsAs_82 rfl mfX7_starts lkX7_223 miX7_starts msX7_starts sm_0 rfl rfl rfl rfl (by simp [Value.category]) hd0 (sk_Cm h ?_)
    rintro w t82 ⟨hw, h⟩
    refine ⟨hw, ?_⟩
    refine sk_aload_n 0 86 dX7_partsAs_85 rfl rfl rfl ?_
    refine sk_iconst (v := 1) 87 dX7_partsAs_86 rfl (by decide) ?_
    refine sk_callSi [.int 1] [.ref 0] 90 dX7_partsAs_87 rfl mfX7_above lkX7_175 miX7_above rfl rfl (by simp [Value.category]) hd0 (sk_Cm h ?_)
    rintro w t87 ⟨r87, hw, h⟩
    refine ⟨r87, hw, ?_⟩
    refine sk_iload_n 2 91 dX7_partsAs_90 rfl rfl rfl ?_
    refine sk_callVi [.int r87, .int v2] [] 94 dX7_partsAs_91 rfl mfX7_partsAs lkX7_245 miX7_partsAs msX7_partsAs sm_0 rfl rfl rfl rfl (by simp [Value.category]) hd0 (sk_Cm h ?_)
    rintro w t91 ⟨r91, hw, h⟩
    refine ⟨r91, hw, ?_⟩
    refine sk_istore (lv2 := [(4, .int r91), (0, .ref 0), (1, .int v1), (2, .int v2)]) 96 dX7_partsAs_94 rfl (by decide) rfl ?_
    refine sk_aload_n 1 97 dX7_partsAs_96 rfl rfl rfl ?_
    refine sk_getB 100 dX7_partsAs_97 rfl lfX7_241 sm_0 rfl ?_
    refine sk_if_eq 107 103 dX7_partsAs_100 (by decide) rfl (fun hc => ?_) (fun hc => ?_)
    · have h := h.1 hc
      refine sk_iload 0 109 dX7_partsAs_107 rfl rfl ?_
      refine sk_aload_n 1 110 dX7_partsAs_109 rfl rfl rfl ?_
      refine sk_aload_n 1 111 dX7_partsAs_110 rfl rfl rfl ?_
      refine sk_callVi [] [.ref 0, .int r91] 114 dX7_partsAs_111 rfl mfX7_kindNow lkX7_229 miX7_kindNow msX7_kindNow sm_0 rfl rfl rfl rfl (by simp [Value.category]) hd0 (sk_Cm h ?_)
      rintro w t111 ⟨r111, hw, h⟩
      refine ⟨r111, hw, ?_⟩
      refine sk_iconst (v := 1) 115 dX7_partsAs_114 rfl (by decide) ?_
      refine sk_callVi [.int r111, .int 1] [.int r91] 118 dX7_partsAs_115 rfl mfX7_ringsAs lkX7_232 miX7_ringsAs msX7_ringsAs sm_0 rfl rfl rfl rfl (by simp [Value.category]) hd0 (sk_Cm h ?_)
      rintro w t115 ⟨r115, hw, h⟩
      refine ⟨r115, hw, ?_⟩
      refine sk_iadd 119 dX7_partsAs_118 rfl ?_
      exact sk_iret dX7_partsAs_119 rfl rfl h
    · have h := h.2 hc
      refine sk_iconst (v := 0) 104 dX7_partsAs_103 rfl (by decide) ?_
      refine sk_goto 119 dX7_partsAs_104 (by decide) ?_
      exact sk_iret dX7_partsAs_119 rfl rfl h
  · have h := h.2.2 ⟨e (0, 28) (by decide), e (1, 79) (by decide)⟩
    refine sk_aload_n 0 121 dX7_partsAs_120 rfl rfl rfl ?_
    refine sk_iload_n 1 122 dX7_partsAs_121 rfl rfl rfl ?_
    refine sk_callSi [.int v1] [.ref 0] 125 dX7_partsAs_122 rfl mfX7_above lkX7_175 miX7_above rfl rfl (by simp [Value.category]) hd0 (sk_Cm h ?_)
    rintro w t122 ⟨r122, hw, h⟩
    refine ⟨r122, hw, ?_⟩
    refine sk_iload_n 2 126 dX7_partsAs_125 rfl rfl rfl ?_
    refine sk_callVi [.int r122, .int v2] [] 129 dX7_partsAs_126 rfl mfX7_partsAs lkX7_245 miX7_partsAs msX7_partsAs sm_0 rfl rfl rfl rfl (by simp [Value.category]) hd0 (sk_Cm h ?_)
    rintro w t126 ⟨r126, hw, h⟩
    refine ⟨r126, hw, ?_⟩
    exact sk_iret dX7_partsAs_129 rfl rfl h

theorem wX7_voice {d : Nat} {τ : sk_T} {K : sk_K} {v1 : Int32} {v2 : Int32} {v3 : Int32} (hd0 : 0 < d)
  (h : sk_C sk_Sm (d - 1) mX7_isSlate [.ref 0, .int v1] τ (fun w t2 => ∃ r2 : Int32, w = some (.int r2) ∧
      ((r2 = 0 →
        sk_C sk_Sm (d - 1) mX7_error [.ref 0, .int 1] t2 (fun w t19 => ∃ r19 : Int32, w = some (.int r19) ∧
          K (some (.int r19)) t19
        )
      ) ∧
      (¬ r2 = 0 →
        sk_C sk_Sm (d - 1) mX7_in [.int v2, .int 0, .int 3] t2 (fun w t11 => ∃ r11 : Int32, w = some (.int r11) ∧
          ((¬ r11 = 0 →
            sk_C sk_Sm (d - 1) mX7_kindNow [.ref 0] (sk_u (sk_u (sk_u t11 0 12 0) 0 14 v1) 0 15 0) (fun w t39 => ∃ r39 : Int32, w = some (.int r39) ∧
              ((¬ v2 = 0 →
                ((¬ v2 = 1 →
                  ((¬ v2 = 2 →
                    sk_C sk_Sm (d - 1) mX7_partsAs [.ref 0, .int r39, .int v3] t39 (fun w t92 => ∃ r92 : Int32, w = some (.int r92) ∧
                      (((t92 0 15 &&& 1) = 0 →
                        K (some (.int r92)) t92
                      ) ∧
                      (¬ (t92 0 15 &&& 1) = 0 →
                        sk_C sk_Sm (d - 1) mX7_error [.ref 0, .int 6] t92 (fun w t107 => ∃ r107 : Int32, w = some (.int r107) ∧
                          K (some (.int r107)) t107
                        )
                      ))
                    )
                  ) ∧
                  (v2 = 2 →
                    sk_C sk_Sm (d - 1) mX7_creaksAs [.ref 0, .int r39, .int v3] t39 (fun w t82 => ∃ r82 : Int32, w = some (.int r82) ∧
                      (((t82 0 15 &&& 1) = 0 →
                        K (some (.int r82)) t82
                      ) ∧
                      (¬ (t82 0 15 &&& 1) = 0 →
                        sk_C sk_Sm (d - 1) mX7_error [.ref 0, .int 6] t82 (fun w t107 => ∃ r107 : Int32, w = some (.int r107) ∧
                          K (some (.int r107)) t107
                        )
                      ))
                    )
                  ))
                ) ∧
                (v2 = 1 →
                  sk_C sk_Sm (d - 1) mX7_ringsAs [.ref 0, .int r39, .int v3] t39 (fun w t67 => ∃ r67 : Int32, w = some (.int r67) ∧
                    (((t67 0 15 &&& 1) = 0 →
                      K (some (.int r67)) t67
                    ) ∧
                    (¬ (t67 0 15 &&& 1) = 0 →
                      sk_C sk_Sm (d - 1) mX7_error [.ref 0, .int 6] t67 (fun w t107 => ∃ r107 : Int32, w = some (.int r107) ∧
                        K (some (.int r107)) t107
                      )
                    ))
                  )
                ))
              ) ∧
              (v2 = 0 →
                sk_C sk_Sm (d - 1) mX7_dripsAs [.ref 0, .int r39, .int v3] t39 (fun w t52 => ∃ r52 : Int32, w = some (.int r52) ∧
                  (((t52 0 15 &&& 1) = 0 →
                    K (some (.int r52)) t52
                  ) ∧
                  (¬ (t52 0 15 &&& 1) = 0 →
                    sk_C sk_Sm (d - 1) mX7_error [.ref 0, .int 6] t52 (fun w t107 => ∃ r107 : Int32, w = some (.int r107) ∧
                      K (some (.int r107)) t107
                    )
                  ))
                )
              ))
            )
          ) ∧
          (r11 = 0 →
            sk_C sk_Sm (d - 1) mX7_error [.ref 0, .int 1] t11 (fun w t19 => ∃ r19 : Int32, w = some (.int r19) ∧
              K (some (.int r19)) t19
            )
          ))
        )
      ))
    )) :
  sk_C sk_Sm d mX7_voice [.ref 0, .int v1, .int v2, .int v3] τ K := by
  refine sk_enter mfX7_voice (Nat.le_of_ble_eq_true rfl) ?_
  show sk_G sk_Sm d mX7_voice 0 [(0, .ref 0), (1, .int v1), (2, .int v2), (3, .int v3)] [] τ K
  refine sk_aload_n 0 1 dX7_voice_0 rfl rfl rfl ?_
  refine sk_iload_n 1 2 dX7_voice_1 rfl rfl rfl ?_
  refine sk_callVi [.int v1] [] 5 dX7_voice_2 rfl mfX7_isSlate lkX7_169 miX7_isSlate msX7_isSlate sm_0 rfl rfl rfl rfl (by simp [Value.category]) hd0 (sk_Cm h ?_)
  rintro w t2 ⟨r2, hw, h⟩
  refine ⟨r2, hw, ?_⟩
  refine sk_if_eq 17 8 dX7_voice_5 (by decide) rfl (fun hc => ?_) (fun hc => ?_)
  · have h := h.1 hc
    refine sk_aload_n 0 18 dX7_voice_17 rfl rfl rfl ?_
    refine sk_iconst (v := 1) 19 dX7_voice_18 rfl (by decide) ?_
    refine sk_callVi [.int 1] [] 22 dX7_voice_19 rfl mfX7_error lkX7_51 miX7_error msX7_error sm_0 rfl rfl rfl rfl (by simp [Value.category]) hd0 (sk_Cm h ?_)
    rintro w t19 ⟨r19, hw, h⟩
    refine ⟨r19, hw, ?_⟩
    exact sk_iret dX7_voice_22 rfl rfl h
  · have h := h.2 hc
    refine sk_iload_n 2 9 dX7_voice_8 rfl rfl rfl ?_
    refine sk_iconst (v := 0) 10 dX7_voice_9 rfl (by decide) ?_
    refine sk_iconst (v := 3) 11 dX7_voice_10 rfl (by decide) ?_
    refine sk_callSi [.int v2, .int 0, .int 3] [] 14 dX7_voice_11 rfl mfX7_in lkX7_47 miX7_in rfl rfl (by simp [Value.category]) hd0 (sk_Cm h ?_)
    rintro w t11 ⟨r11, hw, h⟩
    refine ⟨r11, hw, ?_⟩
    refine sk_if_ne 23 17 dX7_voice_14 (by decide) rfl (fun hc => ?_) (fun hc => ?_)
    · have h := h.1 hc
      refine sk_aload_n 0 24 dX7_voice_23 rfl rfl rfl ?_
      refine sk_iconst (v := 0) 25 dX7_voice_24 rfl (by decide) ?_
      refine sk_putI 28 dX7_voice_25 rfl lpX7_217 sm_0 rfl ?_
      refine sk_aload_n 0 29 dX7_voice_28 rfl rfl rfl ?_
      refine sk_iload_n 1 30 dX7_voice_29 rfl rfl rfl ?_
      refine sk_putI 33 dX7_voice_30 rfl lpX7_220 sm_0 rfl ?_
      refine sk_aload_n 0 34 dX7_voice_33 rfl rfl rfl ?_
      refine sk_iconst (v := 0) 35 dX7_voice_34 rfl (by decide) ?_
      refine sk_putB 38 dX7_voice_35 rfl lpX7_241 sm_0 rfl (by decide) ?_
      refine sk_aload_n 0 39 dX7_voice_38 rfl rfl rfl ?_
      refine sk_callVi [] [] 42 dX7_voice_39 rfl mfX7_kindNow lkX7_229 miX7_kindNow msX7_kindNow sm_0 rfl rfl rfl rfl (by simp [Value.category]) hd0 (sk_Cm h ?_)
      rintro w t39 ⟨r39, hw, h⟩
      refine ⟨r39, hw, ?_⟩
      refine sk_istore (lv2 := [(4, .int r39), (0, .ref 0), (1, .int v1), (2, .int v2), (3, .int v3)]) 44 dX7_voice_42 rfl (by decide) rfl ?_
      refine sk_iload_n 3 45 dX7_voice_44 rfl rfl rfl ?_
      refine sk_if_ne 58 48 dX7_voice_45 (by decide) rfl (fun hc => ?_) (fun hc => ?_)
      · have h := h.1 hc
        refine sk_iload_n 3 59 dX7_voice_58 rfl rfl rfl ?_
        refine sk_iconst (v := 1) 60 dX7_voice_59 rfl (by decide) ?_
        refine sk_icmp_ne 73 63 dX7_voice_60 (by decide) rfl (fun hc => ?_) (fun hc => ?_)
        · have h := h.1 hc
          refine sk_iload_n 3 74 dX7_voice_73 rfl rfl rfl ?_
          refine sk_iconst (v := 2) 75 dX7_voice_74 rfl (by decide) ?_
          refine sk_icmp_ne 88 78 dX7_voice_75 (by decide) rfl (fun hc => ?_) (fun hc => ?_)
          · have h := h.1 hc
            refine sk_aload_n 1 89 dX7_voice_88 rfl rfl rfl ?_
            refine sk_iload 0 91 dX7_voice_89 rfl rfl ?_
            refine sk_iload_n 4 92 dX7_voice_91 rfl rfl rfl ?_
            refine sk_callVi [.int r39, .int v3] [] 95 dX7_voice_92 rfl mfX7_partsAs lkX7_245 miX7_partsAs msX7_partsAs sm_0 rfl rfl rfl rfl (by simp [Value.category]) hd0 (sk_Cm h ?_)
            rintro w t92 ⟨r92, hw, h⟩
            refine ⟨r92, hw, ?_⟩
            refine sk_istore (lv2 := [(5, .int r92), (4, .int r39), (0, .ref 0), (1, .int v1), (2, .int v2), (3, .int v3)]) 97 dX7_voice_95 rfl (by decide) rfl ?_
            refine sk_aload_n 2 98 dX7_voice_97 rfl rfl rfl ?_
            refine sk_getB 101 dX7_voice_98 rfl lfX7_241 sm_0 rfl ?_
            refine sk_if_eq 113 104 dX7_voice_101 (by decide) rfl (fun hc => ?_) (fun hc => ?_)
            · have h := h.1 hc
              refine sk_iload 0 115 dX7_voice_113 rfl rfl ?_
              exact sk_iret dX7_voice_115 rfl rfl h
            · have h := h.2 hc
              refine sk_aload_n 2 105 dX7_voice_104 rfl rfl rfl ?_
              refine sk_bipush (v := 6) 107 dX7_voice_105 rfl (by decide) ?_
              refine sk_callVi [.int 6] [] 110 dX7_voice_107 rfl mfX7_error lkX7_51 miX7_error msX7_error sm_0 rfl rfl rfl rfl (by simp [Value.category]) hd0 (sk_Cm h ?_)
              rintro w t107 ⟨r107, hw, h⟩
              refine ⟨r107, hw, ?_⟩
              refine sk_goto 115 dX7_voice_110 (by decide) ?_
              exact sk_iret dX7_voice_115 rfl rfl h
          · have h := h.2 hc
            refine sk_aload_n 1 79 dX7_voice_78 rfl rfl rfl ?_
            refine sk_iload 0 81 dX7_voice_79 rfl rfl ?_
            refine sk_iload_n 4 82 dX7_voice_81 rfl rfl rfl ?_
            refine sk_callVi [.int r39, .int v3] [] 85 dX7_voice_82 rfl mfX7_creaksAs lkX7_238 miX7_creaksAs msX7_creaksAs sm_0 rfl rfl rfl rfl (by simp [Value.category]) hd0 (sk_Cm h ?_)
            rintro w t82 ⟨r82, hw, h⟩
            refine ⟨r82, hw, ?_⟩
            refine sk_goto 95 dX7_voice_85 (by decide) ?_
            refine sk_istore (lv2 := [(5, .int r82), (4, .int r39), (0, .ref 0), (1, .int v1), (2, .int v2), (3, .int v3)]) 97 dX7_voice_95 rfl (by decide) rfl ?_
            refine sk_aload_n 2 98 dX7_voice_97 rfl rfl rfl ?_
            refine sk_getB 101 dX7_voice_98 rfl lfX7_241 sm_0 rfl ?_
            refine sk_if_eq 113 104 dX7_voice_101 (by decide) rfl (fun hc => ?_) (fun hc => ?_)
            · have h := h.1 hc
              refine sk_iload 0 115 dX7_voice_113 rfl rfl ?_
              exact sk_iret dX7_voice_115 rfl rfl h
            · have h := h.2 hc
              refine sk_aload_n 2 105 dX7_voice_104 rfl rfl rfl ?_
              refine sk_bipush (v := 6) 107 dX7_voice_105 rfl (by decide) ?_
              refine sk_callVi [.int 6] [] 110 dX7_voice_107 rfl mfX7_error lkX7_51 miX7_error msX7_error sm_0 rfl rfl rfl rfl (by simp [Value.category]) hd0 (sk_Cm h ?_)
              rintro w t107 ⟨r107, hw, h⟩
              refine ⟨r107, hw, ?_⟩
              refine sk_goto 115 dX7_voice_110 (by decide) ?_
              exact sk_iret dX7_voice_115 rfl rfl h
        · have h := h.2 hc
          refine sk_aload_n 1 64 dX7_voice_63 rfl rfl rfl ?_
          refine sk_iload 0 66 dX7_voice_64 rfl rfl ?_
          refine sk_iload_n 4 67 dX7_voice_66 rfl rfl rfl ?_
          refine sk_callVi [.int r39, .int v3] [] 70 dX7_voice_67 rfl mfX7_ringsAs lkX7_232 miX7_ringsAs msX7_ringsAs sm_0 rfl rfl rfl rfl (by simp [Value.category]) hd0 (sk_Cm h ?_)
          rintro w t67 ⟨r67, hw, h⟩
          refine ⟨r67, hw, ?_⟩
          refine sk_goto 95 dX7_voice_70 (by decide) ?_
          refine sk_istore (lv2 := [(5, .int r67), (4, .int r39), (0, .ref 0), (1, .int v1), (2, .int v2), (3, .int v3)]) 97 dX7_voice_95 rfl (by decide) rfl ?_
          refine sk_aload_n 2 98 dX7_voice_97 rfl rfl rfl ?_
          refine sk_getB 101 dX7_voice_98 rfl lfX7_241 sm_0 rfl ?_
          refine sk_if_eq 113 104 dX7_voice_101 (by decide) rfl (fun hc => ?_) (fun hc => ?_)
          · have h := h.1 hc
            refine sk_iload 0 115 dX7_voice_113 rfl rfl ?_
            exact sk_iret dX7_voice_115 rfl rfl h
          · have h := h.2 hc
            refine sk_aload_n 2 105 dX7_voice_104 rfl rfl rfl ?_
            refine sk_bipush (v := 6) 107 dX7_voice_105 rfl (by decide) ?_
            refine sk_callVi [.int 6] [] 110 dX7_voice_107 rfl mfX7_error lkX7_51 miX7_error msX7_error sm_0 rfl rfl rfl rfl (by simp [Value.category]) hd0 (sk_Cm h ?_)
            rintro w t107 ⟨r107, hw, h⟩
            refine ⟨r107, hw, ?_⟩
            refine sk_goto 115 dX7_voice_110 (by decide) ?_
            exact sk_iret dX7_voice_115 rfl rfl h
      · have h := h.2 hc
        refine sk_aload_n 1 49 dX7_voice_48 rfl rfl rfl ?_
        refine sk_iload 0 51 dX7_voice_49 rfl rfl ?_
        refine sk_iload_n 4 52 dX7_voice_51 rfl rfl rfl ?_
        refine sk_callVi [.int r39, .int v3] [] 55 dX7_voice_52 rfl mfX7_dripsAs lkX7_226 miX7_dripsAs msX7_dripsAs sm_0 rfl rfl rfl rfl (by simp [Value.category]) hd0 (sk_Cm h ?_)
        rintro w t52 ⟨r52, hw, h⟩
        refine ⟨r52, hw, ?_⟩
        refine sk_goto 95 dX7_voice_55 (by decide) ?_
        refine sk_istore (lv2 := [(5, .int r52), (4, .int r39), (0, .ref 0), (1, .int v1), (2, .int v2), (3, .int v3)]) 97 dX7_voice_95 rfl (by decide) rfl ?_
        refine sk_aload_n 2 98 dX7_voice_97 rfl rfl rfl ?_
        refine sk_getB 101 dX7_voice_98 rfl lfX7_241 sm_0 rfl ?_
        refine sk_if_eq 113 104 dX7_voice_101 (by decide) rfl (fun hc => ?_) (fun hc => ?_)
        · have h := h.1 hc
          refine sk_iload 0 115 dX7_voice_113 rfl rfl ?_
          exact sk_iret dX7_voice_115 rfl rfl h
        · have h := h.2 hc
          refine sk_aload_n 2 105 dX7_voice_104 rfl rfl rfl ?_
          refine sk_bipush (v := 6) 107 dX7_voice_105 rfl (by decide) ?_
          refine sk_callVi [.int 6] [] 110 dX7_voice_107 rfl mfX7_error lkX7_51 miX7_error msX7_error sm_0 rfl rfl rfl rfl (by simp [Value.category]) hd0 (sk_Cm h ?_)
          rintro w t107 ⟨r107, hw, h⟩
          refine ⟨r107, hw, ?_⟩
          refine sk_goto 115 dX7_voice_110 (by decide) ?_
          exact sk_iret dX7_voice_115 rfl rfl h
    · have h := h.2 hc
      refine sk_aload_n 0 18 dX7_voice_17 rfl rfl rfl ?_
      refine sk_iconst (v := 1) 19 dX7_voice_18 rfl (by decide) ?_
      refine sk_callVi [.int 1] [] 22 dX7_voice_19 rfl mfX7_error lkX7_51 miX7_error msX7_error sm_0 rfl rfl rfl rfl (by simp [Value.category]) hd0 (sk_Cm h ?_)
      rintro w t19 ⟨r19, hw, h⟩
      refine ⟨r19, hw, ?_⟩
      exact sk_iret dX7_voice_22 rfl rfl h

theorem wX7_body {d : Nat} {τ : sk_T} {K : sk_K} {v1 : Int32} (hd0 : 0 < d)
  (h : sk_C sk_Sm (d - 1) mX7_in [.int v1, .int 0, .int ((τ 0 12) - 1)] τ (fun w t8 => ∃ r8 : Int32, w = some (.int r8) ∧
      ((r8 = 0 →
        sk_C sk_Sm (d - 1) mX7_error [.ref 0, .int 2] t8 (fun w t25 => ∃ r25 : Int32, w = some (.int r25) ∧
          K (some (.int r25)) t25
        )
      ) ∧
      (¬ r8 = 0 →
        vp_in v1 30 ∧
        K (some (.int (t8 8 (v1).toNatClampNeg))) t8
      ))
    )) :
  sk_C sk_Sm d mX7_body [.ref 0, .int v1] τ K := by
  refine sk_enter mfX7_body (Nat.le_of_ble_eq_true rfl) ?_
  show sk_G sk_Sm d mX7_body 0 [(0, .ref 0), (1, .int v1)] [] τ K
  refine sk_iload_n 1 1 dX7_body_0 rfl rfl rfl ?_
  refine sk_iconst (v := 0) 2 dX7_body_1 rfl (by decide) ?_
  refine sk_aload_n 0 3 dX7_body_2 rfl rfl rfl ?_
  refine sk_getI 6 dX7_body_3 rfl lfX7_217 sm_0 rfl ?_
  refine sk_iconst (v := 1) 7 dX7_body_6 rfl (by decide) ?_
  refine sk_isub 8 dX7_body_7 rfl ?_
  refine sk_callSi [.int v1, .int 0, .int ((τ 0 12) - 1)] [] 11 dX7_body_8 rfl mfX7_in lkX7_47 miX7_in rfl rfl (by simp [Value.category]) hd0 (sk_Cm h ?_)
  rintro w t8 ⟨r8, hw, h⟩
  refine ⟨r8, hw, ?_⟩
  refine sk_if_eq 23 14 dX7_body_11 (by decide) rfl (fun hc => ?_) (fun hc => ?_)
  · have h := h.1 hc
    refine sk_aload_n 0 24 dX7_body_23 rfl rfl rfl ?_
    refine sk_iconst (v := 2) 25 dX7_body_24 rfl (by decide) ?_
    refine sk_callVi [.int 2] [] 28 dX7_body_25 rfl mfX7_error lkX7_51 miX7_error msX7_error sm_0 rfl rfl rfl rfl (by simp [Value.category]) hd0 (sk_Cm h ?_)
    rintro w t25 ⟨r25, hw, h⟩
    refine ⟨r25, hw, ?_⟩
    exact sk_iret dX7_body_28 rfl rfl h
  · have h := h.2 hc
    refine sk_aload_n 0 15 dX7_body_14 rfl rfl rfl ?_
    refine sk_getR (r := 8) 18 dX7_body_15 rfl lfX7_31 sm_0 rfl ?_
    refine sk_iload_n 1 19 dX7_body_18 rfl rfl rfl ?_
    have hb19 := h.1
    have h := h.2
    refine sk_iald 20 dX7_body_19 rfl sm_8 hb19 _ rfl ?_
    refine sk_goto 28 dX7_body_20 (by decide) ?_
    exact sk_iret dX7_body_28 rfl rfl h

theorem wX7_isSheet {d : Nat} {τ : sk_T} {K : sk_K} {v0 : Int32} (hd0 : 0 < d)
  (h : sk_C sk_Sm (d - 1) mX7_in [.int v0, .int 0, .int 3] τ (fun w t3 => ∃ r3 : Int32, w = some (.int r3) ∧
      r3 &&& 1 = r3 ∧
      K (some (.int r3)) t3
    )) :
  sk_C sk_Sm d mX7_isSheet [.int v0] τ K := by
  refine sk_enter mfX7_isSheet (Nat.le_of_ble_eq_true rfl) ?_
  show sk_G sk_Sm d mX7_isSheet 0 [(0, .int v0)] [] τ K
  refine sk_iload_n 0 1 dX7_isSheet_0 rfl rfl rfl ?_
  refine sk_iconst (v := 0) 2 dX7_isSheet_1 rfl (by decide) ?_
  refine sk_iconst (v := 3) 3 dX7_isSheet_2 rfl (by decide) ?_
  refine sk_callSi [.int v0, .int 0, .int 3] [] 6 dX7_isSheet_3 rfl mfX7_in lkX7_47 miX7_in rfl rfl (by simp [Value.category]) hd0 (sk_Cm h ?_)
  rintro w t3 ⟨r3, hw, h⟩
  refine ⟨r3, hw, ?_⟩
  exact sk_iret dX7_isSheet_6 rfl (congrArg Value.int h.1) h.2

theorem wX7_sheet {d : Nat} {τ : sk_T} {K : sk_K} {v1 : Int32} {v2 : Int32} {v3 : Int32} (hd0 : 0 < d)
  (h : sk_C sk_Sm (d - 1) mX7_isSheet [.int v1] τ (fun w t1 => ∃ r1 : Int32, w = some (.int r1) ∧
      ((r1 = 0 →
        sk_C sk_Sm (d - 1) mX7_error [.ref 0, .int 1] t1 (fun w t31 => ∃ r31 : Int32, w = some (.int r31) ∧
          K (some (.int r31)) t31
        )
      ) ∧
      (¬ r1 = 0 →
        ((v2 = 0 →
          ((v2 = 0 →
            ((v2 = 0 →
              vp_in v1 4 ∧
              ((¬ v2 = 0 →
                vp_in v1 4 ∧
                sk_G sk_Sm d mX7_sheet 90 [(0, .ref 0), (1, .int v1), (4, .int 0)] [] (sk_u (sk_u t1 9 (v1).toNatClampNeg v2) 10 (v1).toNatClampNeg v3) K
              ) ∧
              (v2 = 0 →
                vp_in v1 4 ∧
                sk_G sk_Sm d mX7_sheet 90 [(0, .ref 0), (1, .int v1), (4, .int 0)] [] (sk_u (sk_u t1 9 (v1).toNatClampNeg v2) 10 (v1).toNatClampNeg 0) K
              ))
            ) ∧
            (¬ v2 = 0 →
              ((v3 ≤ 24 →
                vp_in v1 4 ∧
                ((¬ v2 = 0 →
                  vp_in v1 4 ∧
                  sk_G sk_Sm d mX7_sheet 90 [(0, .ref 0), (1, .int v1), (4, .int 0)] [] (sk_u (sk_u t1 9 (v1).toNatClampNeg v2) 10 (v1).toNatClampNeg v3) K
                ) ∧
                (v2 = 0 →
                  vp_in v1 4 ∧
                  sk_G sk_Sm d mX7_sheet 90 [(0, .ref 0), (1, .int v1), (4, .int 0)] [] (sk_u (sk_u t1 9 (v1).toNatClampNeg v2) 10 (v1).toNatClampNeg 0) K
                ))
              ) ∧
              (¬ v3 ≤ 24 →
                sk_C sk_Sm (d - 1) mX7_error [.ref 0, .int 1] t1 (fun w t61 => ∃ r61 : Int32, w = some (.int r61) ∧
                  K (some (.int r61)) t61
                )
              ))
            ))
          ) ∧
          (¬ v2 = 0 →
            ((0 ≤ v3 →
              ((v2 = 0 →
                vp_in v1 4 ∧
                ((¬ v2 = 0 →
                  vp_in v1 4 ∧
                  sk_G sk_Sm d mX7_sheet 90 [(0, .ref 0), (1, .int v1), (4, .int 0)] [] (sk_u (sk_u t1 9 (v1).toNatClampNeg v2) 10 (v1).toNatClampNeg v3) K
                ) ∧
                (v2 = 0 →
                  vp_in v1 4 ∧
                  sk_G sk_Sm d mX7_sheet 90 [(0, .ref 0), (1, .int v1), (4, .int 0)] [] (sk_u (sk_u t1 9 (v1).toNatClampNeg v2) 10 (v1).toNatClampNeg 0) K
                ))
              ) ∧
              (¬ v2 = 0 →
                ((v3 ≤ 24 →
                  vp_in v1 4 ∧
                  ((¬ v2 = 0 →
                    vp_in v1 4 ∧
                    sk_G sk_Sm d mX7_sheet 90 [(0, .ref 0), (1, .int v1), (4, .int 0)] [] (sk_u (sk_u t1 9 (v1).toNatClampNeg v2) 10 (v1).toNatClampNeg v3) K
                  ) ∧
                  (v2 = 0 →
                    vp_in v1 4 ∧
                    sk_G sk_Sm d mX7_sheet 90 [(0, .ref 0), (1, .int v1), (4, .int 0)] [] (sk_u (sk_u t1 9 (v1).toNatClampNeg v2) 10 (v1).toNatClampNeg 0) K
                  ))
                ) ∧
                (¬ v3 ≤ 24 →
                  sk_C sk_Sm (d - 1) mX7_error [.ref 0, .int 1] t1 (fun w t61 => ∃ r61 : Int32, w = some (.int r61) ∧
                    K (some (.int r61)) t61
                  )
                ))
              ))
            ) ∧
            (¬ 0 ≤ v3 →
              sk_C sk_Sm (d - 1) mX7_error [.ref 0, .int 3] t1 (fun w t45 => ∃ r45 : Int32, w = some (.int r45) ∧
                K (some (.int r45)) t45
              )
            ))
          ))
        ) ∧
        (¬ v2 = 0 →
          ((v2 = 8 →
            ((v2 = 0 →
              ((v2 = 0 →
                vp_in v1 4 ∧
                ((¬ v2 = 0 →
                  vp_in v1 4 ∧
                  sk_G sk_Sm d mX7_sheet 90 [(0, .ref 0), (1, .int v1), (4, .int 0)] [] (sk_u (sk_u t1 9 (v1).toNatClampNeg v2) 10 (v1).toNatClampNeg v3) K
                ) ∧
                (v2 = 0 →
                  vp_in v1 4 ∧
                  sk_G sk_Sm d mX7_sheet 90 [(0, .ref 0), (1, .int v1), (4, .int 0)] [] (sk_u (sk_u t1 9 (v1).toNatClampNeg v2) 10 (v1).toNatClampNeg 0) K
                ))
              ) ∧
              (¬ v2 = 0 →
                ((v3 ≤ 24 →
                  vp_in v1 4 ∧
                  ((¬ v2 = 0 →
                    vp_in v1 4 ∧
                    sk_G sk_Sm d mX7_sheet 90 [(0, .ref 0), (1, .int v1), (4, .int 0)] [] (sk_u (sk_u t1 9 (v1).toNatClampNeg v2) 10 (v1).toNatClampNeg v3) K
                  ) ∧
                  (v2 = 0 →
                    vp_in v1 4 ∧
                    sk_G sk_Sm d mX7_sheet 90 [(0, .ref 0), (1, .int v1), (4, .int 0)] [] (sk_u (sk_u t1 9 (v1).toNatClampNeg v2) 10 (v1).toNatClampNeg 0) K
                  ))
                ) ∧
                (¬ v3 ≤ 24 →
                  sk_C sk_Sm (d - 1) mX7_error [.ref 0, .int 1] t1 (fun w t61 => ∃ r61 : Int32, w = some (.int r61) ∧
                    K (some (.int r61)) t61
                  )
                ))
              ))
            ) ∧
            (¬ v2 = 0 →
              ((0 ≤ v3 →
                ((v2 = 0 →
                  vp_in v1 4 ∧
                  ((¬ v2 = 0 →
                    vp_in v1 4 ∧
                    sk_G sk_Sm d mX7_sheet 90 [(0, .ref 0), (1, .int v1), (4, .int 0)] [] (sk_u (sk_u t1 9 (v1).toNatClampNeg v2) 10 (v1).toNatClampNeg v3) K
                  ) ∧
                  (v2 = 0 →
                    vp_in v1 4 ∧
                    sk_G sk_Sm d mX7_sheet 90 [(0, .ref 0), (1, .int v1), (4, .int 0)] [] (sk_u (sk_u t1 9 (v1).toNatClampNeg v2) 10 (v1).toNatClampNeg 0) K
                  ))
                ) ∧
                (¬ v2 = 0 →
                  ((v3 ≤ 24 →
                    vp_in v1 4 ∧
                    ((¬ v2 = 0 →
                      vp_in v1 4 ∧
                      sk_G sk_Sm d mX7_sheet 90 [(0, .ref 0), (1, .int v1), (4, .int 0)] [] (sk_u (sk_u t1 9 (v1).toNatClampNeg v2) 10 (v1).toNatClampNeg v3) K
                    ) ∧
                    (v2 = 0 →
                      vp_in v1 4 ∧
                      sk_G sk_Sm d mX7_sheet 90 [(0, .ref 0), (1, .int v1), (4, .int 0)] [] (sk_u (sk_u t1 9 (v1).toNatClampNeg v2) 10 (v1).toNatClampNeg 0) K
                    ))
                  ) ∧
                  (¬ v3 ≤ 24 →
                    sk_C sk_Sm (d - 1) mX7_error [.ref 0, .int 1] t1 (fun w t61 => ∃ r61 : Int32, w = some (.int r61) ∧
                      K (some (.int r61)) t61
                    )
                  ))
                ))
              ) ∧
              (¬ 0 ≤ v3 →
                sk_C sk_Sm (d - 1) mX7_error [.ref 0, .int 3] t1 (fun w t45 => ∃ r45 : Int32, w = some (.int r45) ∧
                  K (some (.int r45)) t45
                )
              ))
            ))
          ) ∧
          (¬ v2 = 8 →
            ((v2 = 16 →
              ((v2 = 0 →
                ((v2 = 0 →
                  vp_in v1 4 ∧
                  ((¬ v2 = 0 →
                    vp_in v1 4 ∧
                    sk_G sk_Sm d mX7_sheet 90 [(0, .ref 0), (1, .int v1), (4, .int 0)] [] (sk_u (sk_u t1 9 (v1).toNatClampNeg v2) 10 (v1).toNatClampNeg v3) K
                  ) ∧
                  (v2 = 0 →
                    vp_in v1 4 ∧
                    sk_G sk_Sm d mX7_sheet 90 [(0, .ref 0), (1, .int v1), (4, .int 0)] [] (sk_u (sk_u t1 9 (v1).toNatClampNeg v2) 10 (v1).toNatClampNeg 0) K
                  ))
                ) ∧
                (¬ v2 = 0 →
                  ((v3 ≤ 24 →
                    vp_in v1 4 ∧
                    ((¬ v2 = 0 →
                      vp_in v1 4 ∧
                      sk_G sk_Sm d mX7_sheet 90 [(0, .ref 0), (1, .int v1), (4, .int 0)] [] (sk_u (sk_u t1 9 (v1).toNatClampNeg v2) 10 (v1).toNatClampNeg v3) K
                    ) ∧
                    (v2 = 0 →
                      vp_in v1 4 ∧
                      sk_G sk_Sm d mX7_sheet 90 [(0, .ref 0), (1, .int v1), (4, .int 0)] [] (sk_u (sk_u t1 9 (v1).toNatClampNeg v2) 10 (v1).toNatClampNeg 0) K
                    ))
                  ) ∧
                  (¬ v3 ≤ 24 →
                    sk_C sk_Sm (d - 1) mX7_error [.ref 0, .int 1] t1 (fun w t61 => ∃ r61 : Int32, w = some (.int r61) ∧
                      K (some (.int r61)) t61
                    )
                  ))
                ))
              ) ∧
              (¬ v2 = 0 →
                ((0 ≤ v3 →
                  ((v2 = 0 →
                    vp_in v1 4 ∧
                    ((¬ v2 = 0 →
                      vp_in v1 4 ∧
                      sk_G sk_Sm d mX7_sheet 90 [(0, .ref 0), (1, .int v1), (4, .int 0)] [] (sk_u (sk_u t1 9 (v1).toNatClampNeg v2) 10 (v1).toNatClampNeg v3) K
                    ) ∧
                    (v2 = 0 →
                      vp_in v1 4 ∧
                      sk_G sk_Sm d mX7_sheet 90 [(0, .ref 0), (1, .int v1), (4, .int 0)] [] (sk_u (sk_u t1 9 (v1).toNatClampNeg v2) 10 (v1).toNatClampNeg 0) K
                    ))
                  ) ∧
                  (¬ v2 = 0 →
                    ((v3 ≤ 24 →
                      vp_in v1 4 ∧
                      ((¬ v2 = 0 →
                        vp_in v1 4 ∧
                        sk_G sk_Sm d mX7_sheet 90 [(0, .ref 0), (1, .int v1), (4, .int 0)] [] (sk_u (sk_u t1 9 (v1).toNatClampNeg v2) 10 (v1).toNatClampNeg v3) K
                      ) ∧
                      (v2 = 0 →
                        vp_in v1 4 ∧
                        sk_G sk_Sm d mX7_sheet 90 [(0, .ref 0), (1, .int v1), (4, .int 0)] [] (sk_u (sk_u t1 9 (v1).toNatClampNeg v2) 10 (v1).toNatClampNeg 0) K
                      ))
                    ) ∧
                    (¬ v3 ≤ 24 →
                      sk_C sk_Sm (d - 1) mX7_error [.ref 0, .int 1] t1 (fun w t61 => ∃ r61 : Int32, w = some (.int r61) ∧
                        K (some (.int r61)) t61
                      )
                    ))
                  ))
                ) ∧
                (¬ 0 ≤ v3 →
                  sk_C sk_Sm (d - 1) mX7_error [.ref 0, .int 3] t1 (fun w t45 => ∃ r45 : Int32, w = some (.int r45) ∧
                    K (some (.int r45)) t45
                  )
                ))
              ))
            ) ∧
            (¬ v2 = 16 →
              ((v2 = 32 →
                ((v2 = 0 →
                  ((v2 = 0 →
                    vp_in v1 4 ∧
                    ((¬ v2 = 0 →
                      vp_in v1 4 ∧
                      sk_G sk_Sm d mX7_sheet 90 [(0, .ref 0), (1, .int v1), (4, .int 0)] [] (sk_u (sk_u t1 9 (v1).toNatClampNeg v2) 10 (v1).toNatClampNeg v3) K
                    ) ∧
                    (v2 = 0 →
                      vp_in v1 4 ∧
                      sk_G sk_Sm d mX7_sheet 90 [(0, .ref 0), (1, .int v1), (4, .int 0)] [] (sk_u (sk_u t1 9 (v1).toNatClampNeg v2) 10 (v1).toNatClampNeg 0) K
                    ))
                  ) ∧
                  (¬ v2 = 0 →
                    ((v3 ≤ 24 →
                      vp_in v1 4 ∧
                      ((¬ v2 = 0 →
                        vp_in v1 4 ∧
                        sk_G sk_Sm d mX7_sheet 90 [(0, .ref 0), (1, .int v1), (4, .int 0)] [] (sk_u (sk_u t1 9 (v1).toNatClampNeg v2) 10 (v1).toNatClampNeg v3) K
                      ) ∧
                      (v2 = 0 →
                        vp_in v1 4 ∧
                        sk_G sk_Sm d mX7_sheet 90 [(0, .ref 0), (1, .int v1), (4, .int 0)] [] (sk_u (sk_u t1 9 (v1).toNatClampNeg v2) 10 (v1).toNatClampNeg 0) K
                      ))
                    ) ∧
                    (¬ v3 ≤ 24 →
                      sk_C sk_Sm (d - 1) mX7_error [.ref 0, .int 1] t1 (fun w t61 => ∃ r61 : Int32, w = some (.int r61) ∧
                        K (some (.int r61)) t61
                      )
                    ))
                  ))
                ) ∧
                (¬ v2 = 0 →
                  ((0 ≤ v3 →
                    ((v2 = 0 →
                      vp_in v1 4 ∧
                      ((¬ v2 = 0 →
                        vp_in v1 4 ∧
                        sk_G sk_Sm d mX7_sheet 90 [(0, .ref 0), (1, .int v1), (4, .int 0)] [] (sk_u (sk_u t1 9 (v1).toNatClampNeg v2) 10 (v1).toNatClampNeg v3) K
                      ) ∧
                      (v2 = 0 →
                        vp_in v1 4 ∧
                        sk_G sk_Sm d mX7_sheet 90 [(0, .ref 0), (1, .int v1), (4, .int 0)] [] (sk_u (sk_u t1 9 (v1).toNatClampNeg v2) 10 (v1).toNatClampNeg 0) K
                      ))
                    ) ∧
                    (¬ v2 = 0 →
                      ((v3 ≤ 24 →
                        vp_in v1 4 ∧
                        ((¬ v2 = 0 →
                          vp_in v1 4 ∧
                          sk_G sk_Sm d mX7_sheet 90 [(0, .ref 0), (1, .int v1), (4, .int 0)] [] (sk_u (sk_u t1 9 (v1).toNatClampNeg v2) 10 (v1).toNatClampNeg v3) K
                        ) ∧
                        (v2 = 0 →
                          vp_in v1 4 ∧
                          sk_G sk_Sm d mX7_sheet 90 [(0, .ref 0), (1, .int v1), (4, .int 0)] [] (sk_u (sk_u t1 9 (v1).toNatClampNeg v2) 10 (v1).toNatClampNeg 0) K
                        ))
                      ) ∧
                      (¬ v3 ≤ 24 →
                        sk_C sk_Sm (d - 1) mX7_error [.ref 0, .int 1] t1 (fun w t61 => ∃ r61 : Int32, w = some (.int r61) ∧
                          K (some (.int r61)) t61
                        )
                      ))
                    ))
                  ) ∧
                  (¬ 0 ≤ v3 →
                    sk_C sk_Sm (d - 1) mX7_error [.ref 0, .int 3] t1 (fun w t45 => ∃ r45 : Int32, w = some (.int r45) ∧
                      K (some (.int r45)) t45
                    )
                  ))
                ))
              ) ∧
              (¬ v2 = 32 →
                sk_C sk_Sm (d - 1) mX7_error [.ref 0, .int 1] t1 (fun w t31 => ∃ r31 : Int32, w = some (.int r31) ∧
                  K (some (.int r31)) t31
                )
              ))
            ))
          ))
        ))
      ))
    )) :
  sk_C sk_Sm d mX7_sheet [.ref 0, .int v1, .int v2, .int v3] τ K := by
  refine sk_enter mfX7_sheet (Nat.le_of_ble_eq_true rfl) ?_
  show sk_G sk_Sm d mX7_sheet 0 [(0, .ref 0), (1, .int v1), (2, .int v2), (3, .int v3)] [] τ K
  refine sk_iload_n 1 1 dX7_sheet_0 rfl rfl rfl ?_
  refine sk_callSi [.int v1] [] 4 dX7_sheet_1 rfl mfX7_isSheet lkX7_248 miX7_isSheet rfl rfl (by simp [Value.category]) hd0 (sk_Cm h ?_)
  rintro w t1 ⟨r1, hw, h⟩
  refine ⟨r1, hw, ?_⟩
  refine sk_if_eq 29 7 dX7_sheet_4 (by decide) rfl (fun hc => ?_) (fun hc => ?_)
  · have h := h.1 hc
    refine sk_aload_n 0 30 dX7_sheet_29 rfl rfl rfl ?_
    refine sk_iconst (v := 1) 31 dX7_sheet_30 rfl (by decide) ?_
    refine sk_callVi [.int 1] [] 34 dX7_sheet_31 rfl mfX7_error lkX7_51 miX7_error msX7_error sm_0 rfl rfl rfl rfl (by simp [Value.category]) hd0 (sk_Cm h ?_)
    rintro w t31 ⟨r31, hw, h⟩
    refine ⟨r31, hw, ?_⟩
    exact sk_iret dX7_sheet_34 rfl rfl h
  · have h := h.2 hc
    refine sk_iload_n 2 8 dX7_sheet_7 rfl rfl rfl ?_
    refine sk_if_eq 35 11 dX7_sheet_8 (by decide) rfl (fun hc => ?_) (fun hc => ?_)
    · have h := h.1 hc
      refine sk_iload_n 2 36 dX7_sheet_35 rfl rfl rfl ?_
      refine sk_if_eq 49 39 dX7_sheet_36 (by decide) rfl (fun hc => ?_) (fun hc => ?_)
      · have h := h.1 hc
        refine sk_iload_n 2 50 dX7_sheet_49 rfl rfl rfl ?_
        refine sk_if_eq 65 53 dX7_sheet_50 (by decide) rfl (fun hc => ?_) (fun hc => ?_)
        · have h := h.1 hc
          refine sk_aload_n 0 66 dX7_sheet_65 rfl rfl rfl ?_
          refine sk_getR (r := 9) 69 dX7_sheet_66 rfl lfX7_34 sm_0 rfl ?_
          refine sk_iload_n 1 70 dX7_sheet_69 rfl rfl rfl ?_
          refine sk_iload_n 2 71 dX7_sheet_70 rfl rfl rfl ?_
          have hb71 := h.1
          have h := h.2
          refine sk_iast 72 dX7_sheet_71 rfl sm_9 hb71 _ rfl ?_
          refine sk_aload_n 0 73 dX7_sheet_72 rfl rfl rfl ?_
          refine sk_getR (r := 10) 76 dX7_sheet_73 rfl lfX7_37 sm_0 rfl ?_
          refine sk_iload_n 1 77 dX7_sheet_76 rfl rfl rfl ?_
          refine sk_iload_n 2 78 dX7_sheet_77 rfl rfl rfl ?_
          refine sk_if_ne 85 81 dX7_sheet_78 (by decide) rfl (fun hc => ?_) (fun hc => ?_)
          · have h := h.1 hc
            refine sk_iload_n 3 86 dX7_sheet_85 rfl rfl rfl ?_
            have hb86 := h.1
            have h := h.2
            refine sk_iast 87 dX7_sheet_86 rfl sm_10 hb86 _ rfl ?_
            refine sk_iconst (v := 0) 88 dX7_sheet_87 rfl (by decide) ?_
            refine sk_istore (lv2 := [(4, .int 0), (0, .ref 0), (1, .int v1), (2, .int v2), (3, .int v3)]) 90 dX7_sheet_88 rfl (by decide) rfl ?_
            refine sk_perm (lv2 := [(0, .ref 0), (1, .int v1), (4, .int 0)]) [1, 2, 0] rfl ?_
            exact h
          · have h := h.2 hc
            refine sk_iconst (v := 0) 82 dX7_sheet_81 rfl (by decide) ?_
            refine sk_goto 86 dX7_sheet_82 (by decide) ?_
            have hb86 := h.1
            have h := h.2
            refine sk_iast 87 dX7_sheet_86 rfl sm_10 hb86 _ rfl ?_
            refine sk_iconst (v := 0) 88 dX7_sheet_87 rfl (by decide) ?_
            refine sk_istore (lv2 := [(4, .int 0), (0, .ref 0), (1, .int v1), (2, .int v2), (3, .int v3)]) 90 dX7_sheet_88 rfl (by decide) rfl ?_
            refine sk_perm (lv2 := [(0, .ref 0), (1, .int v1), (4, .int 0)]) [1, 2, 0] rfl ?_
            exact h
        · have h := h.2 hc
          refine sk_iload_n 3 54 dX7_sheet_53 rfl rfl rfl ?_
          refine sk_bipush (v := 24) 56 dX7_sheet_54 rfl (by decide) ?_
          refine sk_icmp_le 65 59 dX7_sheet_56 (by decide) rfl (fun hc => ?_) (fun hc => ?_)
          · have h := h.1 hc
            refine sk_aload_n 0 66 dX7_sheet_65 rfl rfl rfl ?_
            refine sk_getR (r := 9) 69 dX7_sheet_66 rfl lfX7_34 sm_0 rfl ?_
            refine sk_iload_n 1 70 dX7_sheet_69 rfl rfl rfl ?_
            refine sk_iload_n 2 71 dX7_sheet_70 rfl rfl rfl ?_
            have hb71 := h.1
            have h := h.2
            refine sk_iast 72 dX7_sheet_71 rfl sm_9 hb71 _ rfl ?_
            refine sk_aload_n 0 73 dX7_sheet_72 rfl rfl rfl ?_
            refine sk_getR (r := 10) 76 dX7_sheet_73 rfl lfX7_37 sm_0 rfl ?_
            refine sk_iload_n 1 77 dX7_sheet_76 rfl rfl rfl ?_
            refine sk_iload_n 2 78 dX7_sheet_77 rfl rfl rfl ?_
            refine sk_if_ne 85 81 dX7_sheet_78 (by decide) rfl (fun hc => ?_) (fun hc => ?_)
            · have h := h.1 hc
              refine sk_iload_n 3 86 dX7_sheet_85 rfl rfl rfl ?_
              have hb86 := h.1
              have h := h.2
              refine sk_iast 87 dX7_sheet_86 rfl sm_10 hb86 _ rfl ?_
              refine sk_iconst (v := 0) 88 dX7_sheet_87 rfl (by decide) ?_
              refine sk_istore (lv2 := [(4, .int 0), (0, .ref 0), (1, .int v1), (2, .int v2), (3, .int v3)]) 90 dX7_sheet_88 rfl (by decide) rfl ?_
              refine sk_perm (lv2 := [(0, .ref 0), (1, .int v1), (4, .int 0)]) [1, 2, 0] rfl ?_
              exact h
            · have h := h.2 hc
              refine sk_iconst (v := 0) 82 dX7_sheet_81 rfl (by decide) ?_
              refine sk_goto 86 dX7_sheet_82 (by decide) ?_
              have hb86 := h.1
              have h := h.2
              refine sk_iast 87 dX7_sheet_86 rfl sm_10 hb86 _ rfl ?_
              refine sk_iconst (v := 0) 88 dX7_sheet_87 rfl (by decide) ?_
              refine sk_istore (lv2 := [(4, .int 0), (0, .ref 0), (1, .int v1), (2, .int v2), (3, .int v3)]) 90 dX7_sheet_88 rfl (by decide) rfl ?_
              refine sk_perm (lv2 := [(0, .ref 0), (1, .int v1), (4, .int 0)]) [1, 2, 0] rfl ?_
              exact h
          · have h := h.2 hc
            refine sk_aload_n 0 60 dX7_sheet_59 rfl rfl rfl ?_
            refine sk_iconst (v := 1) 61 dX7_sheet_60 rfl (by decide) ?_
            refine sk_callVi [.int 1] [] 64 dX7_sheet_61 rfl mfX7_error lkX7_51 miX7_error msX7_error sm_0 rfl rfl rfl rfl (by simp [Value.category]) hd0 (sk_Cm h ?_)
            rintro w t61 ⟨r61, hw, h⟩
            refine ⟨r61, hw, ?_⟩
            exact sk_iret dX7_sheet_64 rfl rfl h
      · have h := h.2 hc
        refine sk_iload_n 3 40 dX7_sheet_39 rfl rfl rfl ?_
        refine sk_if_ge 49 43 dX7_sheet_40 (by decide) rfl (fun hc => ?_) (fun hc => ?_)
        · have h := h.1 hc
          refine sk_iload_n 2 50 dX7_sheet_49 rfl rfl rfl ?_
          refine sk_if_eq 65 53 dX7_sheet_50 (by decide) rfl (fun hc => ?_) (fun hc => ?_)
          · have h := h.1 hc
            refine sk_aload_n 0 66 dX7_sheet_65 rfl rfl rfl ?_
            refine sk_getR (r := 9) 69 dX7_sheet_66 rfl lfX7_34 sm_0 rfl ?_
            refine sk_iload_n 1 70 dX7_sheet_69 rfl rfl rfl ?_
            refine sk_iload_n 2 71 dX7_sheet_70 rfl rfl rfl ?_
            have hb71 := h.1
            have h := h.2
            refine sk_iast 72 dX7_sheet_71 rfl sm_9 hb71 _ rfl ?_
            refine sk_aload_n 0 73 dX7_sheet_72 rfl rfl rfl ?_
            refine sk_getR (r := 10) 76 dX7_sheet_73 rfl lfX7_37 sm_0 rfl ?_
            refine sk_iload_n 1 77 dX7_sheet_76 rfl rfl rfl ?_
            refine sk_iload_n 2 78 dX7_sheet_77 rfl rfl rfl ?_
            refine sk_if_ne 85 81 dX7_sheet_78 (by decide) rfl (fun hc => ?_) (fun hc => ?_)
            · have h := h.1 hc
              refine sk_iload_n 3 86 dX7_sheet_85 rfl rfl rfl ?_
              have hb86 := h.1
              have h := h.2
              refine sk_iast 87 dX7_sheet_86 rfl sm_10 hb86 _ rfl ?_
              refine sk_iconst (v := 0) 88 dX7_sheet_87 rfl (by decide) ?_
              refine sk_istore (lv2 := [(4, .int 0), (0, .ref 0), (1, .int v1), (2, .int v2), (3, .int v3)]) 90 dX7_sheet_88 rfl (by decide) rfl ?_
              refine sk_perm (lv2 := [(0, .ref 0), (1, .int v1), (4, .int 0)]) [1, 2, 0] rfl ?_
              exact h
            · have h := h.2 hc
              refine sk_iconst (v := 0) 82 dX7_sheet_81 rfl (by decide) ?_
              refine sk_goto 86 dX7_sheet_82 (by decide) ?_
              have hb86 := h.1
              have h := h.2
              refine sk_iast 87 dX7_sheet_86 rfl sm_10 hb86 _ rfl ?_
              refine sk_iconst (v := 0) 88 dX7_sheet_87 rfl (by decide) ?_
              refine sk_istore (lv2 := [(4, .int 0), (0, .ref 0), (1, .int v1), (2, .int v2), (3, .int v3)]) 90 dX7_sheet_88 rfl (by decide) rfl ?_
              refine sk_perm (lv2 := [(0, .ref 0), (1, .int v1), (4, .int 0)]) [1, 2, 0] rfl ?_
              exact h
          · have h := h.2 hc
            refine sk_iload_n 3 54 dX7_sheet_53 rfl rfl rfl ?_
            refine sk_bipush (v := 24) 56 dX7_sheet_54 rfl (by decide) ?_
            refine sk_icmp_le 65 59 dX7_sheet_56 (by decide) rfl (fun hc => ?_) (fun hc => ?_)
            · have h := h.1 hc
              refine sk_aload_n 0 66 dX7_sheet_65 rfl rfl rfl ?_
              refine sk_getR (r := 9) 69 dX7_sheet_66 rfl lfX7_34 sm_0 rfl ?_
              refine sk_iload_n 1 70 dX7_sheet_69 rfl rfl rfl ?_
              refine sk_iload_n 2 71 dX7_sheet_70 rfl rfl rfl ?_
              have hb71 := h.1
              have h := h.2
              refine sk_iast 72 dX7_sheet_71 rfl sm_9 hb71 _ rfl ?_
              refine sk_aload_n 0 73 dX7_sheet_72 rfl rfl rfl ?_
              refine sk_getR (r := 10) 76 dX7_sheet_73 rfl lfX7_37 sm_0 rfl ?_
              refine sk_iload_n 1 77 dX7_sheet_76 rfl rfl rfl ?_
              refine sk_iload_n 2 78 dX7_sheet_77 rfl rfl rfl ?_
              refine sk_if_ne 85 81 dX7_sheet_78 (by decide) rfl (fun hc => ?_) (fun hc => ?_)
              · have h := h.1 hc
                refine sk_iload_n 3 86 dX7_sheet_85 rfl rfl rfl ?_
                have hb86 := h.1
                have h := h.2
                refine sk_iast 87 dX7_sheet_86 rfl sm_10 hb86 _ rfl ?_
                refine sk_iconst (v := 0) 88 dX7_sheet_87 rfl (by decide) ?_
                refine sk_istore (lv2 := [(4, .int 0), (0, .ref 0), (1, .int v1), (2, .int v2), (3, .int v3)]) 90 dX7_sheet_88 rfl (by decide) rfl ?_
                refine sk_perm (lv2 := [(0, .ref 0), (1, .int v1), (4, .int 0)]) [1, 2, 0] rfl ?_
                exact h
              · have h := h.2 hc
                refine sk_iconst (v := 0) 82 dX7_sheet_81 rfl (by decide) ?_
                refine sk_goto 86 dX7_sheet_82 (by decide) ?_
                have hb86 := h.1
                have h := h.2
                refine sk_iast 87 dX7_sheet_86 rfl sm_10 hb86 _ rfl ?_
                refine sk_iconst (v := 0) 88 dX7_sheet_87 rfl (by decide) ?_
                refine sk_istore (lv2 := [(4, .int 0), (0, .ref 0), (1, .int v1), (2, .int v2), (3, .int v3)]) 90 dX7_sheet_88 rfl (by decide) rfl ?_
                refine sk_perm (lv2 := [(0, .ref 0), (1, .int v1), (4, .int 0)]) [1, 2, 0] rfl ?_
                exact h
            · have h := h.2 hc
              refine sk_aload_n 0 60 dX7_sheet_59 rfl rfl rfl ?_
              refine sk_iconst (v := 1) 61 dX7_sheet_60 rfl (by decide) ?_
              refine sk_callVi [.int 1] [] 64 dX7_sheet_61 rfl mfX7_error lkX7_51 miX7_error msX7_error sm_0 rfl rfl rfl rfl (by simp [Value.category]) hd0 (sk_Cm h ?_)
              rintro w t61 ⟨r61, hw, h⟩
              refine ⟨r61, hw, ?_⟩
              exact sk_iret dX7_sheet_64 rfl rfl h
        · have h := h.2 hc
          refine sk_aload_n 0 44 dX7_sheet_43 rfl rfl rfl ?_
          refine sk_iconst (v := 3) 45 dX7_sheet_44 rfl (by decide) ?_
          refine sk_callVi [.int 3] [] 48 dX7_sheet_45 rfl mfX7_error lkX7_51 miX7_error msX7_error sm_0 rfl rfl rfl rfl (by simp [Value.category]) hd0 (sk_Cm h ?_)
          rintro w t45 ⟨r45, hw, h⟩
          refine ⟨r45, hw, ?_⟩
          exact sk_iret dX7_sheet_48 rfl rfl h
    · have h := h.2 hc
      refine sk_iload_n 2 12 dX7_sheet_11 rfl rfl rfl ?_
      refine sk_bipush (v := 8) 14 dX7_sheet_12 rfl (by decide) ?_
      refine sk_icmp_eq 35 17 dX7_sheet_14 (by decide) rfl (fun hc => ?_) (fun hc => ?_)
      · have h := h.1 hc
        refine sk_iload_n 2 36 dX7_sheet_35 rfl rfl rfl ?_
        refine sk_if_eq 49 39 dX7_sheet_36 (by decide) rfl (fun hc => ?_) (fun hc => ?_)
        · have h := h.1 hc
          refine sk_iload_n 2 50 dX7_sheet_49 rfl rfl rfl ?_
          refine sk_if_eq 65 53 dX7_sheet_50 (by decide) rfl (fun hc => ?_) (fun hc => ?_)
          · have h := h.1 hc
            refine sk_aload_n 0 66 dX7_sheet_65 rfl rfl rfl ?_
            refine sk_getR (r := 9) 69 dX7_sheet_66 rfl lfX7_34 sm_0 rfl ?_
            refine sk_iload_n 1 70 dX7_sheet_69 rfl rfl rfl ?_
            refine sk_iload_n 2 71 dX7_sheet_70 rfl rfl rfl ?_
            have hb71 := h.1
            have h := h.2
            refine sk_iast 72 dX7_sheet_71 rfl sm_9 hb71 _ rfl ?_
            refine sk_aload_n 0 73 dX7_sheet_72 rfl rfl rfl ?_
            refine sk_getR (r := 10) 76 dX7_sheet_73 rfl lfX7_37 sm_0 rfl ?_
            refine sk_iload_n 1 77 dX7_sheet_76 rfl rfl rfl ?_
            refine sk_iload_n 2 78 dX7_sheet_77 rfl rfl rfl ?_
            refine sk_if_ne 85 81 dX7_sheet_78 (by decide) rfl (fun hc => ?_) (fun hc => ?_)
            · have h := h.1 hc
              refine sk_iload_n 3 86 dX7_sheet_85 rfl rfl rfl ?_
              have hb86 := h.1
              have h := h.2
              refine sk_iast 87 dX7_sheet_86 rfl sm_10 hb86 _ rfl ?_
              refine sk_iconst (v := 0) 88 dX7_sheet_87 rfl (by decide) ?_
              refine sk_istore (lv2 := [(4, .int 0), (0, .ref 0), (1, .int v1), (2, .int v2), (3, .int v3)]) 90 dX7_sheet_88 rfl (by decide) rfl ?_
              refine sk_perm (lv2 := [(0, .ref 0), (1, .int v1), (4, .int 0)]) [1, 2, 0] rfl ?_
              exact h
            · have h := h.2 hc
              refine sk_iconst (v := 0) 82 dX7_sheet_81 rfl (by decide) ?_
              refine sk_goto 86 dX7_sheet_82 (by decide) ?_
              have hb86 := h.1
              have h := h.2
              refine sk_iast 87 dX7_sheet_86 rfl sm_10 hb86 _ rfl ?_
              refine sk_iconst (v := 0) 88 dX7_sheet_87 rfl (by decide) ?_
              refine sk_istore (lv2 := [(4, .int 0), (0, .ref 0), (1, .int v1), (2, .int v2), (3, .int v3)]) 90 dX7_sheet_88 rfl (by decide) rfl ?_
              refine sk_perm (lv2 := [(0, .ref 0), (1, .int v1), (4, .int 0)]) [1, 2, 0] rfl ?_
              exact h
          · have h := h.2 hc
            refine sk_iload_n 3 54 dX7_sheet_53 rfl rfl rfl ?_
            refine sk_bipush (v := 24) 56 dX7_sheet_54 rfl (by decide) ?_
            refine sk_icmp_le 65 59 dX7_sheet_56 (by decide) rfl (fun hc => ?_) (fun hc => ?_)
            · have h := h.1 hc
              refine sk_aload_n 0 66 dX7_sheet_65 rfl rfl rfl ?_
              refine sk_getR (r := 9) 69 dX7_sheet_66 rfl lfX7_34 sm_0 rfl ?_
              refine sk_iload_n 1 70 dX7_sheet_69 rfl rfl rfl ?_
              refine sk_iload_n 2 71 dX7_sheet_70 rfl rfl rfl ?_
              have hb71 := h.1
              have h := h.2
              refine sk_iast 72 dX7_sheet_71 rfl sm_9 hb71 _ rfl ?_
              refine sk_aload_n 0 73 dX7_sheet_72 rfl rfl rfl ?_
              refine sk_getR (r := 10) 76 dX7_sheet_73 rfl lfX7_37 sm_0 rfl ?_
              refine sk_iload_n 1 77 dX7_sheet_76 rfl rfl rfl ?_
              refine sk_iload_n 2 78 dX7_sheet_77 rfl rfl rfl ?_
              refine sk_if_ne 85 81 dX7_sheet_78 (by decide) rfl (fun hc => ?_) (fun hc => ?_)
              · have h := h.1 hc
                refine sk_iload_n 3 86 dX7_sheet_85 rfl rfl rfl ?_
                have hb86 := h.1
                have h := h.2
                refine sk_iast 87 dX7_sheet_86 rfl sm_10 hb86 _ rfl ?_
                refine sk_iconst (v := 0) 88 dX7_sheet_87 rfl (by decide) ?_
                refine sk_istore (lv2 := [(4, .int 0), (0, .ref 0), (1, .int v1), (2, .int v2), (3, .int v3)]) 90 dX7_sheet_88 rfl (by decide) rfl ?_
                refine sk_perm (lv2 := [(0, .ref 0), (1, .int v1), (4, .int 0)]) [1, 2, 0] rfl ?_
                exact h
              · have h := h.2 hc
                refine sk_iconst (v := 0) 82 dX7_sheet_81 rfl (by decide) ?_
                refine sk_goto 86 dX7_sheet_82 (by decide) ?_
                have hb86 := h.1
                have h := h.2
                refine sk_iast 87 dX7_sheet_86 rfl sm_10 hb86 _ rfl ?_
                refine sk_iconst (v := 0) 88 dX7_sheet_87 rfl (by decide) ?_
                refine sk_istore (lv2 := [(4, .int 0), (0, .ref 0), (1, .int v1), (2, .int v2), (3, .int v3)]) 90 dX7_sheet_88 rfl (by decide) rfl ?_
                refine sk_perm (lv2 := [(0, .ref 0), (1, .int v1), (4, .int 0)]) [1, 2, 0] rfl ?_
                exact h
            · have h := h.2 hc
              refine sk_aload_n 0 60 dX7_sheet_59 rfl rfl rfl ?_
              refine sk_iconst (v := 1) 61 dX7_sheet_60 rfl (by decide) ?_
              refine sk_callVi [.int 1] [] 64 dX7_sheet_61 rfl mfX7_error lkX7_51 miX7_error msX7_error sm_0 rfl rfl rfl rfl (by simp [Value.category]) hd0 (sk_Cm h ?_)
              rintro w t61 ⟨r61, hw, h⟩
              refine ⟨r61, hw, ?_⟩
              exact sk_iret dX7_sheet_64 rfl rfl h
        · have h := h.2 hc
          refine sk_iload_n 3 40 dX7_sheet_39 rfl rfl rfl ?_
          refine sk_if_ge 49 43 dX7_sheet_40 (by decide) rfl (fun hc => ?_) (fun hc => ?_)
          · have h := h.1 hc
            refine sk_iload_n 2 50 dX7_sheet_49 rfl rfl rfl ?_
            refine sk_if_eq 65 53 dX7_sheet_50 (by decide) rfl (fun hc => ?_) (fun hc => ?_)
            · have h := h.1 hc
              refine sk_aload_n 0 66 dX7_sheet_65 rfl rfl rfl ?_
              refine sk_getR (r := 9) 69 dX7_sheet_66 rfl lfX7_34 sm_0 rfl ?_
              refine sk_iload_n 1 70 dX7_sheet_69 rfl rfl rfl ?_
              refine sk_iload_n 2 71 dX7_sheet_70 rfl rfl rfl ?_
              have hb71 := h.1
              have h := h.2
              refine sk_iast 72 dX7_sheet_71 rfl sm_9 hb71 _ rfl ?_
              refine sk_aload_n 0 73 dX7_sheet_72 rfl rfl rfl ?_
              refine sk_getR (r := 10) 76 dX7_sheet_73 rfl lfX7_37 sm_0 rfl ?_
              refine sk_iload_n 1 77 dX7_sheet_76 rfl rfl rfl ?_
              refine sk_iload_n 2 78 dX7_sheet_77 rfl rfl rfl ?_
              refine sk_if_ne 85 81 dX7_sheet_78 (by decide) rfl (fun hc => ?_) (fun hc => ?_)
              · have h := h.1 hc
                refine sk_iload_n 3 86 dX7_sheet_85 rfl rfl rfl ?_
                have hb86 := h.1
                have h := h.2
                refine sk_iast 87 dX7_sheet_86 rfl sm_10 hb86 _ rfl ?_
                refine sk_iconst (v := 0) 88 dX7_sheet_87 rfl (by decide) ?_
                refine sk_istore (lv2 := [(4, .int 0), (0, .ref 0), (1, .int v1), (2, .int v2), (3, .int v3)]) 90 dX7_sheet_88 rfl (by decide) rfl ?_
                refine sk_perm (lv2 := [(0, .ref 0), (1, .int v1), (4, .int 0)]) [1, 2, 0] rfl ?_
                exact h
              · have h := h.2 hc
                refine sk_iconst (v := 0) 82 dX7_sheet_81 rfl (by decide) ?_
                refine sk_goto 86 dX7_sheet_82 (by decide) ?_
                have hb86 := h.1
                have h := h.2
                refine sk_iast 87 dX7_sheet_86 rfl sm_10 hb86 _ rfl ?_
                refine sk_iconst (v := 0) 88 dX7_sheet_87 rfl (by decide) ?_
                refine sk_istore (lv2 := [(4, .int 0), (0, .ref 0), (1, .int v1), (2, .int v2), (3, .int v3)]) 90 dX7_sheet_88 rfl (by decide) rfl ?_
                refine sk_perm (lv2 := [(0, .ref 0), (1, .int v1), (4, .int 0)]) [1, 2, 0] rfl ?_
                exact h
            · have h := h.2 hc
              refine sk_iload_n 3 54 dX7_sheet_53 rfl rfl rfl ?_
              refine sk_bipush (v := 24) 56 dX7_sheet_54 rfl (by decide) ?_
              refine sk_icmp_le 65 59 dX7_sheet_56 (by decide) rfl (fun hc => ?_) (fun hc => ?_)
              · have h := h.1 hc
                refine sk_aload_n 0 66 dX7_sheet_65 rfl rfl rfl ?_
                refine sk_getR (r := 9) 69 dX7_sheet_66 rfl lfX7_34 sm_0 rfl ?_
                refine sk_iload_n 1 70 dX7_sheet_69 rfl rfl rfl ?_
                refine sk_iload_n 2 71 dX7_sheet_70 rfl rfl rfl ?_
                have hb71 := h.1
                have h := h.2
                refine sk_iast 72 dX7_sheet_71 rfl sm_9 hb71 _ rfl ?_
                refine sk_aload_n 0 73 dX7_sheet_72 rfl rfl rfl ?_
                refine sk_getR (r := 10) 76 dX7_sheet_73 rfl lfX7_37 sm_0 rfl ?_
                refine sk_iload_n 1 77 dX7_sheet_76 rfl rfl rfl ?_
                refine sk_iload_n 2 78 dX7_sheet_77 rfl rfl rfl ?_
                refine sk_if_ne 85 81 dX7_sheet_78 (by decide) rfl (fun hc => ?_) (fun hc => ?_)
                · have h := h.1 hc
                  refine sk_iload_n 3 86 dX7_sheet_85 rfl rfl rfl ?_
                  have hb86 := h.1
                  have h := h.2
                  refine sk_iast 87 dX7_sheet_86 rfl sm_10 hb86 _ rfl ?_
                  refine sk_iconst (v := 0) 88 dX7_sheet_87 rfl (by decide) ?_
                  refine sk_istore (lv2 := [(4, .int 0), (0, .ref 0), (1, .int v1), (2, .int v2), (3, .int v3)]) 90 dX7_sheet_88 rfl (by decide) rfl ?_
                  refine sk_perm (lv2 := [(0, .ref 0), (1, .int v1), (4, .int 0)]) [1, 2, 0] rfl ?_
                  exact h
                · have h := h.2 hc
                  refine sk_iconst (v := 0) 82 dX7_sheet_81 rfl (by decide) ?_
                  refine sk_goto 86 dX7_sheet_82 (by decide) ?_
                  have hb86 := h.1
                  have h := h.2
                  refine sk_iast 87 dX7_sheet_86 rfl sm_10 hb86 _ rfl ?_
                  refine sk_iconst (v := 0) 88 dX7_sheet_87 rfl (by decide) ?_
                  refine sk_istore (lv2 := [(4, .int 0), (0, .ref 0), (1, .int v1), (2, .int v2), (3, .int v3)]) 90 dX7_sheet_88 rfl (by decide) rfl ?_
                  refine sk_perm (lv2 := [(0, .ref 0), (1, .int v1), (4, .int 0)]) [1, 2, 0] rfl ?_
                  exact h
              · have h := h.2 hc
                refine sk_aload_n 0 60 dX7_sheet_59 rfl rfl rfl ?_
                refine sk_iconst (v := 1) 61 dX7_sheet_60 rfl (by decide) ?_
                refine sk_callVi [.int 1] [] 64 dX7_sheet_61 rfl mfX7_error lkX7_51 miX7_error msX7_error sm_0 rfl rfl rfl rfl (by simp [Value.category]) hd0 (sk_Cm h ?_)
                rintro w t61 ⟨r61, hw, h⟩
                refine ⟨r61, hw, ?_⟩
                exact sk_iret dX7_sheet_64 rfl rfl h
          · have h := h.2 hc
            refine sk_aload_n 0 44 dX7_sheet_43 rfl rfl rfl ?_
            refine sk_iconst (v := 3) 45 dX7_sheet_44 rfl (by decide) ?_
            refine sk_callVi [.int 3] [] 48 dX7_sheet_45 rfl mfX7_error lkX7_51 miX7_error msX7_error sm_0 rfl rfl rfl rfl (by simp [Value.category]) hd0 (sk_Cm h ?_)
            rintro w t45 ⟨r45, hw, h⟩
            refine ⟨r45, hw, ?_⟩
            exact sk_iret dX7_sheet_48 rfl rfl h
      · have h := h.2 hc
        refine sk_iload_n 2 18 dX7_sheet_17 rfl rfl rfl ?_
        refine sk_bipush (v := 16) 20 dX7_sheet_18 rfl (by decide) ?_
        refine sk_icmp_eq 35 23 dX7_sheet_20 (by decide) rfl (fun hc => ?_) (fun hc => ?_)
        · have h := h.1 hc
          refine sk_iload_n 2 36 dX7_sheet_35 rfl rfl rfl ?_
          refine sk_if_eq 49 39 dX7_sheet_36 (by decide) rfl (fun hc => ?_) (fun hc => ?_)
          · have h := h.1 hc
            refine sk_iload_n 2 50 dX7_sheet_49 rfl rfl rfl ?_
            refine sk_if_eq 65 53 dX7_sheet_50 (by decide) rfl (fun hc => ?_) (fun hc => ?_)
            · have h := h.1 hc
              refine sk_aload_n 0 66 dX7_sheet_65 rfl rfl rfl ?_
              refine sk_getR (r := 9) 69 dX7_sheet_66 rfl lfX7_34 sm_0 rfl ?_
              refine sk_iload_n 1 70 dX7_sheet_69 rfl rfl rfl ?_
              refine sk_iload_n 2 71 dX7_sheet_70 rfl rfl rfl ?_
              have hb71 := h.1
              have h := h.2
              refine sk_iast 72 dX7_sheet_71 rfl sm_9 hb71 _ rfl ?_
              refine sk_aload_n 0 73 dX7_sheet_72 rfl rfl rfl ?_
              refine sk_getR (r := 10) 76 dX7_sheet_73 rfl lfX7_37 sm_0 rfl ?_
              refine sk_iload_n 1 77 dX7_sheet_76 rfl rfl rfl ?_
              refine sk_iload_n 2 78 dX7_sheet_77 rfl rfl rfl ?_
              refine sk_if_ne 85 81 dX7_sheet_78 (by decide) rfl (fun hc => ?_) (fun hc => ?_)
              · have h := h.1 hc
                refine sk_iload_n 3 86 dX7_sheet_85 rfl rfl rfl ?_
                have hb86 := h.1
                have h := h.2
                refine sk_iast 87 dX7_sheet_86 rfl sm_10 hb86 _ rfl ?_
                refine sk_iconst (v := 0) 88 dX7_sheet_87 rfl (by decide) ?_
                refine sk_istore (lv2 := [(4, .int 0), (0, .ref 0), (1, .int v1), (2, .int v2), (3, .int v3)]) 90 dX7_sheet_88 rfl (by decide) rfl ?_
                refine sk_perm (lv2 := [(0, .ref 0), (1, .int v1), (4, .int 0)]) [1, 2, 0] rfl ?_
                exact h
              · have h := h.2 hc
                refine sk_iconst (v := 0) 82 dX7_sheet_81 rfl (by decide) ?_
                refine sk_goto 86 dX7_sheet_82 (by decide) ?_
                have hb86 := h.1
                have h := h.2
                refine sk_iast 87 dX7_sheet_86 rfl sm_10 hb86 _ rfl ?_
                refine sk_iconst (v := 0) 88 dX7_sheet_87 rfl (by decide) ?_
                refine sk_istore (lv2 := [(4, .int 0), (0, .ref 0), (1, .int v1), (2, .int v2), (3, .int v3)]) 90 dX7_sheet_88 rfl (by decide) rfl ?_
                refine sk_perm (lv2 := [(0, .ref 0), (1, .int v1), (4, .int 0)]) [1, 2, 0] rfl ?_
                exact h
            · have h := h.2 hc
              refine sk_iload_n 3 54 dX7_sheet_53 rfl rfl rfl ?_
              refine sk_bipush (v := 24) 56 dX7_sheet_54 rfl (by decide) ?_
              refine sk_icmp_le 65 59 dX7_sheet_56 (by decide) rfl (fun hc => ?_) (fun hc => ?_)
              · have h := h.1 hc
                refine sk_aload_n 0 66 dX7_sheet_65 rfl rfl rfl ?_
                refine sk_getR (r := 9) 69 dX7_sheet_66 rfl lfX7_34 sm_0 rfl ?_
                refine sk_iload_n 1 70 dX7_sheet_69 rfl rfl rfl ?_
                refine sk_iload_n 2 71 dX7_sheet_70 rfl rfl rfl ?_
                have hb71 := h.1
                have h := h.2
                refine sk_iast 72 dX7_sheet_71 rfl sm_9 hb71 _ rfl ?_
                refine sk_aload_n 0 73 dX7_sheet_72 rfl rfl rfl ?_
                refine sk_getR (r := 10) 76 dX7_sheet_73 rfl lfX7_37 sm_0 rfl ?_
                refine sk_iload_n 1 77 dX7_sheet_76 rfl rfl rfl ?_
                refine sk_iload_n 2 78 dX7_sheet_77 rfl rfl rfl ?_
                refine sk_if_ne 85 81 dX7_sheet_78 (by decide) rfl (fun hc => ?_) (fun hc => ?_)
                · have h := h.1 hc
                  refine sk_iload_n 3 86 dX7_sheet_85 rfl rfl rfl ?_
                  have hb86 := h.1
                  have h := h.2
                  refine sk_iast 87 dX7_sheet_86 rfl sm_10 hb86 _ rfl ?_
                  refine sk_iconst (v := 0) 88 dX7_sheet_87 rfl (by decide) ?_
                  refine sk_istore (lv2 := [(4, .int 0), (0, .ref 0), (1, .int v1), (2, .int v2), (3, .int v3)]) 90 dX7_sheet_88 rfl (by decide) rfl ?_
                  refine sk_perm (lv2 := [(0, .ref 0), (1, .int v1), (4, .int 0)]) [1, 2, 0] rfl ?_
                  exact h
                · have h := h.2 hc
                  refine sk_iconst (v := 0) 82 dX7_sheet_81 rfl (by decide) ?_
                  refine sk_goto 86 dX7_sheet_82 (by decide) ?_
                  have hb86 := h.1
                  have h := h.2
                  refine sk_iast 87 dX7_sheet_86 rfl sm_10 hb86 _ rfl ?_
                  refine sk_iconst (v := 0) 88 dX7_sheet_87 rfl (by decide) ?_
                  refine sk_istore (lv2 := [(4, .int 0), (0, .ref 0), (1, .int v1), (2, .int v2), (3, .int v3)]) 90 dX7_sheet_88 rfl (by decide) rfl ?_
                  refine sk_perm (lv2 := [(0, .ref 0), (1, .int v1), (4, .int 0)]) [1, 2, 0] rfl ?_
                  exact h
              · have h := h.2 hc
                refine sk_aload_n 0 60 dX7_sheet_59 rfl rfl rfl ?_
                refine sk_iconst (v := 1) 61 dX7_sheet_60 rfl (by decide) ?_
                refine sk_callVi [.int 1] [] 64 dX7_sheet_61 rfl mfX7_error lkX7_51 miX7_error msX7_error sm_0 rfl rfl rfl rfl (by simp [Value.category]) hd0 (sk_Cm h ?_)
                rintro w t61 ⟨r61, hw, h⟩
                refine ⟨r61, hw, ?_⟩
                exact sk_iret dX7_sheet_64 rfl rfl h
          · have h := h.2 hc
            refine sk_iload_n 3 40 dX7_sheet_39 rfl rfl rfl ?_
            refine sk_if_ge 49 43 dX7_sheet_40 (by decide) rfl (fun hc => ?_) (fun hc => ?_)
            · have h := h.1 hc
              refine sk_iload_n 2 50 dX7_sheet_49 rfl rfl rfl ?_
              refine sk_if_eq 65 53 dX7_sheet_50 (by decide) rfl (fun hc => ?_) (fun hc => ?_)
              · have h := h.1 hc
                refine sk_aload_n 0 66 dX7_sheet_65 rfl rfl rfl ?_
                refine sk_getR (r := 9) 69 dX7_sheet_66 rfl lfX7_34 sm_0 rfl ?_
                refine sk_iload_n 1 70 dX7_sheet_69 rfl rfl rfl ?_
                refine sk_iload_n 2 71 dX7_sheet_70 rfl rfl rfl ?_
                have hb71 := h.1
                have h := h.2
                refine sk_iast 72 dX7_sheet_71 rfl sm_9 hb71 _ rfl ?_
                refine sk_aload_n 0 73 dX7_sheet_72 rfl rfl rfl ?_
                refine sk_getR (r := 10) 76 dX7_sheet_73 rfl lfX7_37 sm_0 rfl ?_
                refine sk_iload_n 1 77 dX7_sheet_76 rfl rfl rfl ?_
                refine sk_iload_n 2 78 dX7_sheet_77 rfl rfl rfl ?_
                refine sk_if_ne 85 81 dX7_sheet_78 (by decide) rfl (fun hc => ?_) (fun hc => ?_)
                · have h := h.1 hc
                  refine sk_iload_n 3 86 dX7_sheet_85 rfl rfl rfl ?_
                  have hb86 := h.1
                  have h := h.2
                  refine sk_iast 87 dX7_sheet_86 rfl sm_10 hb86 _ rfl ?_
                  refine sk_iconst (v := 0) 88 dX7_sheet_87 rfl (by decide) ?_
                  refine sk_istore (lv2 := [(4, .int 0), (0, .ref 0), (1, .int v1), (2, .int v2), (3, .int v3)]) 90 dX7_sheet_88 rfl (by decide) rfl ?_
                  refine sk_perm (lv2 := [(0, .ref 0), (1, .int v1), (4, .int 0)]) [1, 2, 0] rfl ?_
                  exact h
                · have h := h.2 hc
                  refine sk_iconst (v := 0) 82 dX7_sheet_81 rfl (by decide) ?_
                  refine sk_goto 86 dX7_sheet_82 (by decide) ?_
                  have hb86 := h.1
                  have h := h.2
                  refine sk_iast 87 dX7_sheet_86 rfl sm_10 hb86 _ rfl ?_
                  refine sk_iconst (v := 0) 88 dX7_sheet_87 rfl (by decide) ?_
                  refine sk_istore (lv2 := [(4, .int 0), (0, .ref 0), (1, .int v1), (2, .int v2), (3, .int v3)]) 90 dX7_sheet_88 rfl (by decide) rfl ?_
                  refine sk_perm (lv2 := [(0, .ref 0), (1, .int v1), (4, .int 0)]) [1, 2, 0] rfl ?_
                  exact h
              · have h := h.2 hc
                refine sk_iload_n 3 54 dX7_sheet_53 rfl rfl rfl ?_
                refine sk_bipush (v := 24) 56 dX7_sheet_54 rfl (by decide) ?_
                refine sk_icmp_le 65 59 dX7_sheet_56 (by decide) rfl (fun hc => ?_) (fun hc => ?_)
                · have h := h.1 hc
                  refine sk_aload_n 0 66 dX7_sheet_65 rfl rfl rfl ?_
                  refine sk_getR (r := 9) 69 dX7_sheet_66 rfl lfX7_34 sm_0 rfl ?_
                  refine sk_iload_n 1 70 dX7_sheet_69 rfl rfl rfl ?_
                  refine sk_iload_n 2 71 dX7_sheet_70 rfl rfl rfl ?_
                  have hb71 := h.1
                  have h := h.2
                  refine sk_iast 72 dX7_sheet_71 rfl sm_9 hb71 _ rfl ?_
                  refine sk_aload_n 0 73 dX7_sheet_72 rfl rfl rfl ?_
                  refine sk_getR (r := 10) 76 dX7_sheet_73 rfl lfX7_37 sm_0 rfl ?_
                  refine sk_iload_n 1 77 dX7_sheet_76 rfl rfl rfl ?_
                  refine sk_iload_n 2 78 dX7_sheet_77 rfl rfl rfl ?_
                  refine sk_if_ne 85 81 dX7_sheet_78 (by decide) rfl (fun hc => ?_) (fun hc => ?_)
                  · have h := h.1 hc
                    refine sk_iload_n 3 86 dX7_sheet_85 rfl rfl rfl ?_
                    have hb86 := h.1
                    have h := h.2
                    refine sk_iast 87 dX7_sheet_86 rfl sm_10 hb86 _ rfl ?_
                    refine sk_iconst (v := 0) 88 dX7_sheet_87 rfl (by decide) ?_
                    refine sk_istore (lv2 := [(4, .int 0), (0, .ref 0), (1, .int v1), (2, .int v2), (3, .int v3)]) 90 dX7_sheet_88 rfl (by decide) rfl ?_
                    refine sk_perm (lv2 := [(0, .ref 0), (1, .int v1), (4, .int 0)]) [1, 2, 0] rfl ?_
                    exact h
                  · have h := h.2 hc
                    refine sk_iconst (v := 0) 82 dX7_sheet_81 rfl (by decide) ?_
                    refine sk_goto 86 dX7_sheet_82 (by decide) ?_
                    have hb86 := h.1
                    have h := h.2
                    refine sk_iast 87 dX7_sheet_86 rfl sm_10 hb86 _ rfl ?_
                    refine sk_iconst (v := 0) 88 dX7_sheet_87 rfl (by decide) ?_
                    refine sk_istore (lv2 := [(4, .int 0), (0, .ref 0), (1, .int v1), (2, .int v2), (3, .int v3)]) 90 dX7_sheet_88 rfl (by decide) rfl ?_
                    refine sk_perm (lv2 := [(0, .ref 0), (1, .int v1), (4, .int 0)]) [1, 2, 0] rfl ?_
                    exact h
                · have h := h.2 hc
                  refine sk_aload_n 0 60 dX7_sheet_59 rfl rfl rfl ?_
                  refine sk_iconst (v := 1) 61 dX7_sheet_60 rfl (by decide) ?_
                  refine sk_callVi [.int 1] [] 64 dX7_sheet_61 rfl mfX7_error lkX7_51 miX7_error msX7_error sm_0 rfl rfl rfl rfl (by simp [Value.category]) hd0 (sk_Cm h ?_)
                  rintro w t61 ⟨r61, hw, h⟩
                  refine ⟨r61, hw, ?_⟩
                  exact sk_iret dX7_sheet_64 rfl rfl h
            · have h := h.2 hc
              refine sk_aload_n 0 44 dX7_sheet_43 rfl rfl rfl ?_
              refine sk_iconst (v := 3) 45 dX7_sheet_44 rfl (by decide) ?_
              refine sk_callVi [.int 3] [] 48 dX7_sheet_45 rfl mfX7_error lkX7_51 miX7_error msX7_error sm_0 rfl rfl rfl rfl (by simp [Value.category]) hd0 (sk_Cm h ?_)
              rintro w t45 ⟨r45, hw, h⟩
              refine ⟨r45, hw, ?_⟩
              exact sk_iret dX7_sheet_48 rfl rfl h
        · have h := h.2 hc
          refine sk_iload_n 2 24 dX7_sheet_23 rfl rfl rfl ?_
          refine sk_bipush (v := 32) 26 dX7_sheet_24 rfl (by decide) ?_
          refine sk_icmp_eq 35 29 dX7_sheet_26 (by decide) rfl (fun hc => ?_) (fun hc => ?_)
          · have h := h.1 hc
            refine sk_iload_n 2 36 dX7_sheet_35 rfl rfl rfl ?_
            refine sk_if_eq 49 39 dX7_sheet_36 (by decide) rfl (fun hc => ?_) (fun hc => ?_)
            · have h := h.1 hc
              refine sk_iload_n 2 50 dX7_sheet_49 rfl rfl rfl ?_
              refine sk_if_eq 65 53 dX7_sheet_50 (by decide) rfl (fun hc => ?_) (fun hc => ?_)
              · have h := h.1 hc
                refine sk_aload_n 0 66 dX7_sheet_65 rfl rfl rfl ?_
                refine sk_getR (r := 9) 69 dX7_sheet_66 rfl lfX7_34 sm_0 rfl ?_
                refine sk_iload_n 1 70 dX7_sheet_69 rfl rfl rfl ?_
                refine sk_iload_n 2 71 dX7_sheet_70 rfl rfl rfl ?_
                have hb71 := h.1
                have h := h.2
                refine sk_iast 72 dX7_sheet_71 rfl sm_9 hb71 _ rfl ?_
                refine sk_aload_n 0 73 dX7_sheet_72 rfl rfl rfl ?_
                refine sk_getR (r := 10) 76 dX7_sheet_73 rfl lfX7_37 sm_0 rfl ?_
                refine sk_iload_n 1 77 dX7_sheet_76 rfl rfl rfl ?_
                refine sk_iload_n 2 78 dX7_sheet_77 rfl rfl rfl ?_
                refine sk_if_ne 85 81 dX7_sheet_78 (by decide) rfl (fun hc => ?_) (fun hc => ?_)
                · have h := h.1 hc
                  refine sk_iload_n 3 86 dX7_sheet_85 rfl rfl rfl ?_
                  have hb86 := h.1
                  have h := h.2
                  refine sk_iast 87 dX7_sheet_86 rfl sm_10 hb86 _ rfl ?_
                  refine sk_iconst (v := 0) 88 dX7_sheet_87 rfl (by decide) ?_
                  refine sk_istore (lv2 := [(4, .int 0), (0, .ref 0), (1, .int v1), (2, .int v2), (3, .int v3)]) 90 dX7_sheet_88 rfl (by decide) rfl ?_
                  refine sk_perm (lv2 := [(0, .ref 0), (1, .int v1), (4, .int 0)]) [1, 2, 0] rfl ?_
                  exact h
                · have h := h.2 hc
                  refine sk_iconst (v := 0) 82 dX7_sheet_81 rfl (by decide) ?_
                  refine sk_goto 86 dX7_sheet_82 (by decide) ?_
                  have hb86 := h.1
                  have h := h.2
                  refine sk_iast 87 dX7_sheet_86 rfl sm_10 hb86 _ rfl ?_
                  refine sk_iconst (v := 0) 88 dX7_sheet_87 rfl (by decide) ?_
                  refine sk_istore (lv2 := [(4, .int 0), (0, .ref 0), (1, .int v1), (2, .int v2), (3, .int v3)]) 90 dX7_sheet_88 rfl (by decide) rfl ?_
                  refine sk_perm (lv2 := [(0, .ref 0), (1, .int v1), (4, .int 0)]) [1, 2, 0] rfl ?_
                  exact h
              · have h := h.2 hc
                refine sk_iload_n 3 54 dX7_sheet_53 rfl rfl rfl ?_
                refine sk_bipush (v := 24) 56 dX7_sheet_54 rfl (by decide) ?_
                refine sk_icmp_le 65 59 dX7_sheet_56 (by decide) rfl (fun hc => ?_) (fun hc => ?_)
                · have h := h.1 hc
                  refine sk_aload_n 0 66 dX7_sheet_65 rfl rfl rfl ?_
                  refine sk_getR (r := 9) 69 dX7_sheet_66 rfl lfX7_34 sm_0 rfl ?_
                  refine sk_iload_n 1 70 dX7_sheet_69 rfl rfl rfl ?_
                  refine sk_iload_n 2 71 dX7_sheet_70 rfl rfl rfl ?_
                  have hb71 := h.1
                  have h := h.2
                  refine sk_iast 72 dX7_sheet_71 rfl sm_9 hb71 _ rfl ?_
                  refine sk_aload_n 0 73 dX7_sheet_72 rfl rfl rfl ?_
                  refine sk_getR (r := 10) 76 dX7_sheet_73 rfl lfX7_37 sm_0 rfl ?_
                  refine sk_iload_n 1 77 dX7_sheet_76 rfl rfl rfl ?_
                  refine sk_iload_n 2 78 dX7_sheet_77 rfl rfl rfl ?_
                  refine sk_if_ne 85 81 dX7_sheet_78 (by decide) rfl (fun hc => ?_) (fun hc => ?_)
                  · have h := h.1 hc
                    refine sk_iload_n 3 86 dX7_sheet_85 rfl rfl rfl ?_
                    have hb86 := h.1
                    have h := h.2
                    refine sk_iast 87 dX7_sheet_86 rfl sm_10 hb86 _ rfl ?_
                    refine sk_iconst (v := 0) 88 dX7_sheet_87 rfl (by decide) ?_
                    refine sk_istore (lv2 := [(4, .int 0), (0, .ref 0), (1, .int v1), (2, .int v2), (3, .int v3)]) 90 dX7_sheet_88 rfl (by decide) rfl ?_
                    refine sk_perm (lv2 := [(0, .ref 0), (1, .int v1), (4, .int 0)]) [1, 2, 0] rfl ?_
                    exact h
                  · have h := h.2 hc
                    refine sk_iconst (v := 0) 82 dX7_sheet_81 rfl (by decide) ?_
                    refine sk_goto 86 dX7_sheet_82 (by decide) ?_
                    have hb86 := h.1
                    have h := h.2
                    refine sk_iast 87 dX7_sheet_86 rfl sm_10 hb86 _ rfl ?_
                    refine sk_iconst (v := 0) 88 dX7_sheet_87 rfl (by decide) ?_
                    refine sk_istore (lv2 := [(4, .int 0), (0, .ref 0), (1, .int v1), (2, .int v2), (3, .int v3)]) 90 dX7_sheet_88 rfl (by decide) rfl ?_
                    refine sk_perm (lv2 := [(0, .ref 0), (1, .int v1), (4, .int 0)]) [1, 2, 0] rfl ?_
                    exact h
                · have h := h.2 hc
                  refine sk_aload_n 0 60 dX7_sheet_59 rfl rfl rfl ?_
                  refine sk_iconst (v := 1) 61 dX7_sheet_60 rfl (by decide) ?_
                  refine sk_callVi [.int 1] [] 64 dX7_sheet_61 rfl mfX7_error lkX7_51 miX7_error msX7_error sm_0 rfl rfl rfl rfl (by simp [Value.category]) hd0 (sk_Cm h ?_)
                  rintro w t61 ⟨r61, hw, h⟩
                  refine ⟨r61, hw, ?_⟩
                  exact sk_iret dX7_sheet_64 rfl rfl h
            · have h := h.2 hc
              refine sk_iload_n 3 40 dX7_sheet_39 rfl rfl rfl ?_
              refine sk_if_ge 49 43 dX7_sheet_40 (by decide) rfl (fun hc => ?_) (fun hc => ?_)
              · have h := h.1 hc
                refine sk_iload_n 2 50 dX7_sheet_49 rfl rfl rfl ?_
                refine sk_if_eq 65 53 dX7_sheet_50 (by decide) rfl (fun hc => ?_) (fun hc => ?_)
                · have h := h.1 hc
                  refine sk_aload_n 0 66 dX7_sheet_65 rfl rfl rfl ?_
                  refine sk_getR (r := 9) 69 dX7_sheet_66 rfl lfX7_34 sm_0 rfl ?_
                  refine sk_iload_n 1 70 dX7_sheet_69 rfl rfl rfl ?_
                  refine sk_iload_n 2 71 dX7_sheet_70 rfl rfl rfl ?_
                  have hb71 := h.1
                  have h := h.2
                  refine sk_iast 72 dX7_sheet_71 rfl sm_9 hb71 _ rfl ?_
                  refine sk_aload_n 0 73 dX7_sheet_72 rfl rfl rfl ?_
                  refine sk_getR (r := 10) 76 dX7_sheet_73 rfl lfX7_37 sm_0 rfl ?_
                  refine sk_iload_n 1 77 dX7_sheet_76 rfl rfl rfl ?_
                  refine sk_iload_n 2 78 dX7_sheet_77 rfl rfl rfl ?_
                  refine sk_if_ne 85 81 dX7_sheet_78 (by decide) rfl (fun hc => ?_) (fun hc => ?_)
                  · have h := h.1 hc
                    refine sk_iload_n 3 86 dX7_sheet_85 rfl rfl rfl ?_
                    have hb86 := h.1
                    have h := h.2
                    refine sk_iast 87 dX7_sheet_86 rfl sm_10 hb86 _ rfl ?_
                    refine sk_iconst (v := 0) 88 dX7_sheet_87 rfl (by decide) ?_
                    refine sk_istore (lv2 := [(4, .int 0), (0, .ref 0), (1, .int v1), (2, .int v2), (3, .int v3)]) 90 dX7_sheet_88 rfl (by decide) rfl ?_
                    refine sk_perm (lv2 := [(0, .ref 0), (1, .int v1), (4, .int 0)]) [1, 2, 0] rfl ?_
                    exact h
                  · have h := h.2 hc
                    refine sk_iconst (v := 0) 82 dX7_sheet_81 rfl (by decide) ?_
                    refine sk_goto 86 dX7_sheet_82 (by decide) ?_
                    have hb86 := h.1
                    have h := h.2
                    refine sk_iast 87 dX7_sheet_86 rfl sm_10 hb86 _ rfl ?_
                    refine sk_iconst (v := 0) 88 dX7_sheet_87 rfl (by decide) ?_
                    refine sk_istore (lv2 := [(4, .int 0), (0, .ref 0), (1, .int v1), (2, .int v2), (3, .int v3)]) 90 dX7_sheet_88 rfl (by decide) rfl ?_
                    refine sk_perm (lv2 := [(0, .ref 0), (1, .int v1), (4, .int 0)]) [1, 2, 0] rfl ?_
                    exact h
                · have h := h.2 hc
                  refine sk_iload_n 3 54 dX7_sheet_53 rfl rfl rfl ?_
                  refine sk_bipush (v := 24) 56 dX7_sheet_54 rfl (by decide) ?_
                  refine sk_icmp_le 65 59 dX7_sheet_56 (by decide) rfl (fun hc => ?_) (fun hc => ?_)
                  · have h := h.1 hc
                    refine sk_aload_n 0 66 dX7_sheet_65 rfl rfl rfl ?_
                    refine sk_getR (r := 9) 69 dX7_sheet_66 rfl lfX7_34 sm_0 rfl ?_
                    refine sk_iload_n 1 70 dX7_sheet_69 rfl rfl rfl ?_
                    refine sk_iload_n 2 71 dX7_sheet_70 rfl rfl rfl ?_
                    have hb71 := h.1
                    have h := h.2
                    refine sk_iast 72 dX7_sheet_71 rfl sm_9 hb71 _ rfl ?_
                    refine sk_aload_n 0 73 dX7_sheet_72 rfl rfl rfl ?_
                    refine sk_getR (r := 10) 76 dX7_sheet_73 rfl lfX7_37 sm_0 rfl ?_
                    refine sk_iload_n 1 77 dX7_sheet_76 rfl rfl rfl ?_
                    refine sk_iload_n 2 78 dX7_sheet_77 rfl rfl rfl ?_
                    refine sk_if_ne 85 81 dX7_sheet_78 (by decide) rfl (fun hc => ?_) (fun hc => ?_)
                    · have h := h.1 hc
                      refine sk_iload_n 3 86 dX7_sheet_85 rfl rfl rfl ?_
                      have hb86 := h.1
                      have h := h.2
                      refine sk_iast 87 dX7_sheet_86 rfl sm_10 hb86 _ rfl ?_
                      refine sk_iconst (v := 0) 88 dX7_sheet_87 rfl (by decide) ?_
                      refine sk_istore (lv2 := [(4, .int 0), (0, .ref 0), (1, .int v1), (2, .int v2), (3, .int v3)]) 90 dX7_sheet_88 rfl (by decide) rfl ?_
                      refine sk_perm (lv2 := [(0, .ref 0), (1, .int v1), (4, .int 0)]) [1, 2, 0] rfl ?_
                      exact h
                    · have h := h.2 hc
                      refine sk_iconst (v := 0) 82 dX7_sheet_81 rfl (by decide) ?_
                      refine sk_goto 86 dX7_sheet_82 (by decide) ?_
                      have hb86 := h.1
                      have h := h.2
                      refine sk_iast 87 dX7_sheet_86 rfl sm_10 hb86 _ rfl ?_
                      refine sk_iconst (v := 0) 88 dX7_sheet_87 rfl (by decide) ?_
                      refine sk_istore (lv2 := [(4, .int 0), (0, .ref 0), (1, .int v1), (2, .int v2), (3, .int v3)]) 90 dX7_sheet_88 rfl (by decide) rfl ?_
                      refine sk_perm (lv2 := [(0, .ref 0), (1, .int v1), (4, .int 0)]) [1, 2, 0] rfl ?_
                      exact h
                  · have h := h.2 hc
                    refine sk_aload_n 0 60 dX7_sheet_59 rfl rfl rfl ?_
                    refine sk_iconst (v := 1) 61 dX7_sheet_60 rfl (by decide) ?_
                    refine sk_callVi [.int 1] [] 64 dX7_sheet_61 rfl mfX7_error lkX7_51 miX7_error msX7_error sm_0 rfl rfl rfl rfl (by simp [Value.category]) hd0 (sk_Cm h ?_)
                    rintro w t61 ⟨r61, hw, h⟩
                    refine ⟨r61, hw, ?_⟩
                    exact sk_iret dX7_sheet_64 rfl rfl h
              · have h := h.2 hc
                refine sk_aload_n 0 44 dX7_sheet_43 rfl rfl rfl ?_
                refine sk_iconst (v := 3) 45 dX7_sheet_44 rfl (by decide) ?_
                refine sk_callVi [.int 3] [] 48 dX7_sheet_45 rfl mfX7_error lkX7_51 miX7_error msX7_error sm_0 rfl rfl rfl rfl (by simp [Value.category]) hd0 (sk_Cm h ?_)
                rintro w t45 ⟨r45, hw, h⟩
                refine ⟨r45, hw, ?_⟩
                exact sk_iret dX7_sheet_48 rfl rfl h
          · have h := h.2 hc
            refine sk_aload_n 0 30 dX7_sheet_29 rfl rfl rfl ?_
            refine sk_iconst (v := 1) 31 dX7_sheet_30 rfl (by decide) ?_
            refine sk_callVi [.int 1] [] 34 dX7_sheet_31 rfl mfX7_error lkX7_51 miX7_error msX7_error sm_0 rfl rfl rfl rfl (by simp [Value.category]) hd0 (sk_Cm h ?_)
            rintro w t31 ⟨r31, hw, h⟩
            refine ⟨r31, hw, ?_⟩
            exact sk_iret dX7_sheet_34 rfl rfl h

theorem bX7_sheet_90 {d : Nat} {τ : sk_T} {K : sk_K} {v1 : Int32} {v4 : Int32}
  (h : ((24 ≤ v4 →
      K (some (.int 1)) τ
    ) ∧
    (¬ 24 ≤ v4 →
      vp_in ((24 * v1) + v4) 96 ∧
      sk_G sk_Sm d mX7_sheet 90 [(0, .ref 0), (1, .int v1), (4, .int (v4 + 1))] [] (sk_u τ 11 (((24 * v1) + v4)).toNatClampNeg 0) K
    ))) :
  sk_G sk_Sm d mX7_sheet 90 [(0, .ref 0), (1, .int v1), (4, .int v4)] [] τ K := by
  refine sk_iload 2 92 dX7_sheet_90 rfl rfl ?_
  refine sk_bipush (v := 24) 94 dX7_sheet_92 rfl (by decide) ?_
  refine sk_icmp_ge 116 97 dX7_sheet_94 (by decide) rfl (fun hc => ?_) (fun hc => ?_)
  · have h := h.1 hc
    refine sk_iconst (v := 1) 117 dX7_sheet_116 rfl (by decide) ?_
    exact sk_iret dX7_sheet_117 rfl rfl h
  · have h := h.2 hc
    refine sk_aload_n 0 98 dX7_sheet_97 rfl rfl rfl ?_
    refine sk_getR (r := 11) 101 dX7_sheet_98 rfl lfX7_40 sm_0 rfl ?_
    refine sk_bipush (v := 24) 103 dX7_sheet_101 rfl (by decide) ?_
    refine sk_iload_n 1 104 dX7_sheet_103 rfl rfl rfl ?_
    refine sk_imul 105 dX7_sheet_104 rfl ?_
    refine sk_iload 2 107 dX7_sheet_105 rfl rfl ?_
    refine sk_iadd 108 dX7_sheet_107 rfl ?_
    refine sk_iconst (v := 0) 109 dX7_sheet_108 rfl (by decide) ?_
    have hb109 := h.1
    have h := h.2
    refine sk_iast 110 dX7_sheet_109 rfl sm_11 hb109 _ rfl ?_
    refine sk_iinc (v := (v4 + 1)) (lv2 := [(4, .int (v4 + 1)), (0, .ref 0), (1, .int v1)]) 2 113 dX7_sheet_110 rfl rfl rfl (by decide) rfl ?_
    refine sk_goto 90 dX7_sheet_113 (by decide) ?_
    refine sk_perm (lv2 := [(0, .ref 0), (1, .int v1), (4, .int (v4 + 1))]) [1, 2, 0] rfl ?_
    exact h

theorem wX7_put {d : Nat} {τ : sk_T} {K : sk_K} {v1 : Int32} {v2 : Int32} {v3 : Int32} (hd0 : 0 < d)
  (h : sk_C sk_Sm (d - 1) mX7_isSheet [.int v1] τ (fun w t1 => ∃ r1 : Int32, w = some (.int r1) ∧
      ((¬ r1 = 0 →
        vp_in v1 4 ∧
        ((¬ (t1 9 (v1).toNatClampNeg) = 0 →
          vp_in v1 4 ∧
          sk_C sk_Sm (d - 1) mX7_in [.int v2, .int 0, .int ((t1 10 (v1).toNatClampNeg) - 1)] t1 (fun w t38 => ∃ r38 : Int32, w = some (.int r38) ∧
            ((¬ r38 = 0 →
              vp_in v1 4 ∧
              vp_in ((24 * v1) + v2) 96 ∧
              K (some (.int 1)) (sk_u t38 11 (((24 * v1) + v2)).toNatClampNeg ((v3 <<< ((32 - (t38 9 (v1).toNatClampNeg)) &&& 31)) >>> ((32 - (t38 9 (v1).toNatClampNeg)) &&& 31)))
            ) ∧
            (r38 = 0 →
              sk_C sk_Sm (d - 1) mX7_error [.ref 0, .int 1] t38 (fun w t46 => ∃ r46 : Int32, w = some (.int r46) ∧
                K (some (.int r46)) t46
              )
            ))
          )
        ) ∧
        ((t1 9 (v1).toNatClampNeg) = 0 →
          sk_C sk_Sm (d - 1) mX7_error [.ref 0, .int 2] t1 (fun w t24 => ∃ r24 : Int32, w = some (.int r24) ∧
            K (some (.int r24)) t24
          )
        ))
      ) ∧
      (r1 = 0 →
        sk_C sk_Sm (d - 1) mX7_error [.ref 0, .int 1] t1 (fun w t9 => ∃ r9 : Int32, w = some (.int r9) ∧
          K (some (.int r9)) t9
        )
      ))
    )) :
  sk_C sk_Sm d mX7_put [.ref 0, .int v1, .int v2, .int v3] τ K := by
  refine sk_enter mfX7_put (Nat.le_of_ble_eq_true rfl) ?_
  show sk_G sk_Sm d mX7_put 0 [(0, .ref 0), (1, .int v1), (2, .int v2), (3, .int v3)] [] τ K
  refine sk_iload_n 1 1 dX7_put_0 rfl rfl rfl ?_
  refine sk_callSi [.int v1] [] 4 dX7_put_1 rfl mfX7_isSheet lkX7_248 miX7_isSheet rfl rfl (by simp [Value.category]) hd0 (sk_Cm h ?_)
  rintro w t1 ⟨r1, hw, h⟩
  refine ⟨r1, hw, ?_⟩
  refine sk_if_ne 13 7 dX7_put_4 (by decide) rfl (fun hc => ?_) (fun hc => ?_)
  · have h := h.1 hc
    refine sk_aload_n 0 14 dX7_put_13 rfl rfl rfl ?_
    refine sk_getR (r := 9) 17 dX7_put_14 rfl lfX7_34 sm_0 rfl ?_
    refine sk_iload_n 1 18 dX7_put_17 rfl rfl rfl ?_
    have hb18 := h.1
    have h := h.2
    refine sk_iald 19 dX7_put_18 rfl sm_9 hb18 _ rfl ?_
    refine sk_if_ne 28 22 dX7_put_19 (by decide) rfl (fun hc => ?_) (fun hc => ?_)
    · have h := h.1 hc
      refine sk_iload_n 2 29 dX7_put_28 rfl rfl rfl ?_
      refine sk_iconst (v := 0) 30 dX7_put_29 rfl (by decide) ?_
      refine sk_aload_n 0 31 dX7_put_30 rfl rfl rfl ?_
      refine sk_getR (r := 10) 34 dX7_put_31 rfl lfX7_37 sm_0 rfl ?_
      refine sk_iload_n 1 35 dX7_put_34 rfl rfl rfl ?_
      have hb35 := h.1
      have h := h.2
      refine sk_iald 36 dX7_put_35 rfl sm_10 hb35 _ rfl ?_
      refine sk_iconst (v := 1) 37 dX7_put_36 rfl (by decide) ?_
      refine sk_isub 38 dX7_put_37 rfl ?_
      refine sk_callSi [.int v2, .int 0, .int ((t1 10 (v1).toNatClampNeg) - 1)] [] 41 dX7_put_38 rfl mfX7_in lkX7_47 miX7_in rfl rfl (by simp [Value.category]) hd0 (sk_Cm h ?_)
      rintro w t38 ⟨r38, hw, h⟩
      refine ⟨r38, hw, ?_⟩
      refine sk_if_ne 50 44 dX7_put_41 (by decide) rfl (fun hc => ?_) (fun hc => ?_)
      · have h := h.1 hc
        refine sk_bipush (v := 32) 52 dX7_put_50 rfl (by decide) ?_
        refine sk_aload_n 0 53 dX7_put_52 rfl rfl rfl ?_
        refine sk_getR (r := 9) 56 dX7_put_53 rfl lfX7_34 sm_0 rfl ?_
        refine sk_iload_n 1 57 dX7_put_56 rfl rfl rfl ?_
        have hb57 := h.1
        have h := h.2
        refine sk_iald 58 dX7_put_57 rfl sm_9 hb57 _ rfl ?_
        refine sk_isub 59 dX7_put_58 rfl ?_
        refine sk_istore (lv2 := [(4, .int (32 - (t38 9 (v1).toNatClampNeg))), (0, .ref 0), (1, .int v1), (2, .int v2), (3, .int v3)]) 61 dX7_put_59 rfl (by decide) rfl ?_
        refine sk_aload_n 1 62 dX7_put_61 rfl rfl rfl ?_
        refine sk_getR (r := 11) 65 dX7_put_62 rfl lfX7_40 sm_0 rfl ?_
        refine sk_bipush (v := 24) 67 dX7_put_65 rfl (by decide) ?_
        refine sk_iload_n 2 68 dX7_put_67 rfl rfl rfl ?_
        refine sk_imul 69 dX7_put_68 rfl ?_
        refine sk_iload_n 3 70 dX7_put_69 rfl rfl rfl ?_
        refine sk_iadd 71 dX7_put_70 rfl ?_
        refine sk_iload_n 4 72 dX7_put_71 rfl rfl rfl ?_
        refine sk_iload 0 74 dX7_put_72 rfl rfl ?_
        refine sk_ishl 75 dX7_put_74 rfl ?_
        refine sk_iload 0 77 dX7_put_75 rfl rfl ?_
        refine sk_ishr 78 dX7_put_77 rfl ?_
        have hb78 := h.1
        have h := h.2
        refine sk_iast 79 dX7_put_78 rfl sm_11 hb78 _ rfl ?_
        refine sk_iconst (v := 1) 80 dX7_put_79 rfl (by decide) ?_
        exact sk_iret dX7_put_80 rfl rfl h
      · have h := h.2 hc
        refine sk_aload_n 0 45 dX7_put_44 rfl rfl rfl ?_
        refine sk_iconst (v := 1) 46 dX7_put_45 rfl (by decide) ?_
        refine sk_callVi [.int 1] [] 49 dX7_put_46 rfl mfX7_error lkX7_51 miX7_error msX7_error sm_0 rfl rfl rfl rfl (by simp [Value.category]) hd0 (sk_Cm h ?_)
        rintro w t46 ⟨r46, hw, h⟩
        refine ⟨r46, hw, ?_⟩
        exact sk_iret dX7_put_49 rfl rfl h
    · have h := h.2 hc
      refine sk_aload_n 0 23 dX7_put_22 rfl rfl rfl ?_
      refine sk_iconst (v := 2) 24 dX7_put_23 rfl (by decide) ?_
      refine sk_callVi [.int 2] [] 27 dX7_put_24 rfl mfX7_error lkX7_51 miX7_error msX7_error sm_0 rfl rfl rfl rfl (by simp [Value.category]) hd0 (sk_Cm h ?_)
      rintro w t24 ⟨r24, hw, h⟩
      refine ⟨r24, hw, ?_⟩
      exact sk_iret dX7_put_27 rfl rfl h
  · have h := h.2 hc
    refine sk_aload_n 0 8 dX7_put_7 rfl rfl rfl ?_
    refine sk_iconst (v := 1) 9 dX7_put_8 rfl (by decide) ?_
    refine sk_callVi [.int 1] [] 12 dX7_put_9 rfl mfX7_error lkX7_51 miX7_error msX7_error sm_0 rfl rfl rfl rfl (by simp [Value.category]) hd0 (sk_Cm h ?_)
    rintro w t9 ⟨r9, hw, h⟩
    refine ⟨r9, hw, ?_⟩
    exact sk_iret dX7_put_12 rfl rfl h

theorem wX7_move {d : Nat} {τ : sk_T} {K : sk_K} {v1 : Int32} {v2 : Int32} {v3 : Int32} {v4 : Int32} {v5 : Int32} (hd0 : 0 < d)
  (h : sk_C sk_Sm (d - 1) mX7_isSheet [.int v1] τ (fun w t1 => ∃ r1 : Int32, w = some (.int r1) ∧
      ((r1 = 0 →
        sk_C sk_Sm (d - 1) mX7_error [.ref 0, .int 1] t1 (fun w t16 => ∃ r16 : Int32, w = some (.int r16) ∧
          K (some (.int r16)) t16
        )
      ) ∧
      (¬ r1 = 0 →
        sk_C sk_Sm (d - 1) mX7_isSheet [.int v3] t1 (fun w t8 => ∃ r8 : Int32, w = some (.int r8) ∧
          ((¬ r8 = 0 →
            vp_in v1 4 ∧
            (((t8 9 (v1).toNatClampNeg) = 0 →
              sk_C sk_Sm (d - 1) mX7_error [.ref 0, .int 2] t8 (fun w t40 => ∃ r40 : Int32, w = some (.int r40) ∧
                K (some (.int r40)) t40
              )
            ) ∧
            (¬ (t8 9 (v1).toNatClampNeg) = 0 →
              vp_in v3 4 ∧
              ((¬ (t8 9 (v3).toNatClampNeg) = 0 →
                vp_in v1 4 ∧
                vp_in v3 4 ∧
                (((t8 9 (v1).toNatClampNeg) = (t8 9 (v3).toNatClampNeg) →
                  ((v5 < 0 →
                    sk_C sk_Sm (d - 1) mX7_error [.ref 0, .int 1] t8 (fun w t108 => ∃ r108 : Int32, w = some (.int r108) ∧
                      K (some (.int r108)) t108
                    )
                  ) ∧
                  (¬ v5 < 0 →
                    ((v2 < 0 →
                      sk_C sk_Sm (d - 1) mX7_error [.ref 0, .int 1] t8 (fun w t108 => ∃ r108 : Int32, w = some (.int r108) ∧
                        K (some (.int r108)) t108
                      )
                    ) ∧
                    (¬ v2 < 0 →
                      ((v4 < 0 →
                        sk_C sk_Sm (d - 1) mX7_error [.ref 0, .int 1] t8 (fun w t108 => ∃ r108 : Int32, w = some (.int r108) ∧
                          K (some (.int r108)) t108
                        )
                      ) ∧
                      (¬ v4 < 0 →
                        vp_in v1 4 ∧
                        ((((t8 10 (v1).toNatClampNeg) - v5) < v2 →
                          sk_C sk_Sm (d - 1) mX7_error [.ref 0, .int 1] t8 (fun w t108 => ∃ r108 : Int32, w = some (.int r108) ∧
                            K (some (.int r108)) t108
                          )
                        ) ∧
                        (¬ ((t8 10 (v1).toNatClampNeg) - v5) < v2 →
                          vp_in v3 4 ∧
                          ((v4 ≤ ((t8 10 (v3).toNatClampNeg) - v5) →
                            sk_G sk_Sm d mX7_move 115 [(0, .ref 0), (1, .int v1), (2, .int v2), (3, .int v3), (4, .int v4), (5, .int v5), (6, .int 0)] [] t8 K
                          ) ∧
                          (¬ v4 ≤ ((t8 10 (v3).toNatClampNeg) - v5) →
                            sk_C sk_Sm (d - 1) mX7_error [.ref 0, .int 1] t8 (fun w t108 => ∃ r108 : Int32, w = some (.int r108) ∧
                              K (some (.int r108)) t108
                            )
                          ))
                        ))
                      ))
                    ))
                  ))
                ) ∧
                (¬ (t8 9 (v1).toNatClampNeg) = (t8 9 (v3).toNatClampNeg) →
                  sk_C sk_Sm (d - 1) mX7_error [.ref 0, .int 5] t8 (fun w t61 => ∃ r61 : Int32, w = some (.int r61) ∧
                    K (some (.int r61)) t61
                  )
                ))
              ) ∧
              ((t8 9 (v3).toNatClampNeg) = 0 →
                sk_C sk_Sm (d - 1) mX7_error [.ref 0, .int 2] t8 (fun w t40 => ∃ r40 : Int32, w = some (.int r40) ∧
                  K (some (.int r40)) t40
                )
              ))
            ))
          ) ∧
          (r8 = 0 →
            sk_C sk_Sm (d - 1) mX7_error [.ref 0, .int 1] t8 (fun w t16 => ∃ r16 : Int32, w = some (.int r16) ∧
              K (some (.int r16)) t16
            )
          ))
        )
      ))
    )) :
  sk_C sk_Sm d mX7_move [.ref 0, .int v1, .int v2, .int v3, .int v4, .int v5] τ K := by
  refine sk_enter mfX7_move (Nat.le_of_ble_eq_true rfl) ?_
  show sk_G sk_Sm d mX7_move 0 [(0, .ref 0), (1, .int v1), (2, .int v2), (3, .int v3), (4, .int v4), (5, .int v5)] [] τ K
  refine sk_iload_n 1 1 dX7_move_0 rfl rfl rfl ?_
  refine sk_callSi [.int v1] [] 4 dX7_move_1 rfl mfX7_isSheet lkX7_248 miX7_isSheet rfl rfl (by simp [Value.category]) hd0 (sk_Cm h ?_)
  rintro w t1 ⟨r1, hw, h⟩
  refine ⟨r1, hw, ?_⟩
  refine sk_if_eq 14 7 dX7_move_4 (by decide) rfl (fun hc => ?_) (fun hc => ?_)
  · have h := h.1 hc
    refine sk_aload_n 0 15 dX7_move_14 rfl rfl rfl ?_
    refine sk_iconst (v := 1) 16 dX7_move_15 rfl (by decide) ?_
    refine sk_callVi [.int 1] [] 19 dX7_move_16 rfl mfX7_error lkX7_51 miX7_error msX7_error sm_0 rfl rfl rfl rfl (by simp [Value.category]) hd0 (sk_Cm h ?_)
    rintro w t16 ⟨r16, hw, h⟩
    refine ⟨r16, hw, ?_⟩
    exact sk_iret dX7_move_19 rfl rfl h
  · have h := h.2 hc
    refine sk_iload_n 3 8 dX7_move_7 rfl rfl rfl ?_
    refine sk_callSi [.int v3] [] 11 dX7_move_8 rfl mfX7_isSheet lkX7_248 miX7_isSheet rfl rfl (by simp [Value.category]) hd0 (sk_Cm h ?_)
    rintro w t8 ⟨r8, hw, h⟩
    refine ⟨r8, hw, ?_⟩
    refine sk_if_ne 20 14 dX7_move_11 (by decide) rfl (fun hc => ?_) (fun hc => ?_)
    · have h := h.1 hc
      refine sk_aload_n 0 21 dX7_move_20 rfl rfl rfl ?_
      refine sk_getR (r := 9) 24 dX7_move_21 rfl lfX7_34 sm_0 rfl ?_
      refine sk_iload_n 1 25 dX7_move_24 rfl rfl rfl ?_
      have hb25 := h.1
      have h := h.2
      refine sk_iald 26 dX7_move_25 rfl sm_9 hb25 _ rfl ?_
      refine sk_if_eq 38 29 dX7_move_26 (by decide) rfl (fun hc => ?_) (fun hc => ?_)
      · have h := h.1 hc
        refine sk_aload_n 0 39 dX7_move_38 rfl rfl rfl ?_
        refine sk_iconst (v := 2) 40 dX7_move_39 rfl (by decide) ?_
        refine sk_callVi [.int 2] [] 43 dX7_move_40 rfl mfX7_error lkX7_51 miX7_error msX7_error sm_0 rfl rfl rfl rfl (by simp [Value.category]) hd0 (sk_Cm h ?_)
        rintro w t40 ⟨r40, hw, h⟩
        refine ⟨r40, hw, ?_⟩
        exact sk_iret dX7_move_43 rfl rfl h
      · have h := h.2 hc
        refine sk_aload_n 0 30 dX7_move_29 rfl rfl rfl ?_
        refine sk_getR (r := 9) 33 dX7_move_30 rfl lfX7_34 sm_0 rfl ?_
        refine sk_iload_n 3 34 dX7_move_33 rfl rfl rfl ?_
        have hb34 := h.1
        have h := h.2
        refine sk_iald 35 dX7_move_34 rfl sm_9 hb34 _ rfl ?_
        refine sk_if_ne 44 38 dX7_move_35 (by decide) rfl (fun hc => ?_) (fun hc => ?_)
        · have h := h.1 hc
          refine sk_aload_n 0 45 dX7_move_44 rfl rfl rfl ?_
          refine sk_getR (r := 9) 48 dX7_move_45 rfl lfX7_34 sm_0 rfl ?_
          refine sk_iload_n 1 49 dX7_move_48 rfl rfl rfl ?_
          have hb49 := h.1
          have h := h.2
          refine sk_iald 50 dX7_move_49 rfl sm_9 hb49 _ rfl ?_
          refine sk_aload_n 0 51 dX7_move_50 rfl rfl rfl ?_
          refine sk_getR (r := 9) 54 dX7_move_51 rfl lfX7_34 sm_0 rfl ?_
          refine sk_iload_n 3 55 dX7_move_54 rfl rfl rfl ?_
          have hb55 := h.1
          have h := h.2
          refine sk_iald 56 dX7_move_55 rfl sm_9 hb55 _ rfl ?_
          refine sk_icmp_eq 65 59 dX7_move_56 (by decide) rfl (fun hc => ?_) (fun hc => ?_)
          · have h := h.1 hc
            refine sk_iload 5 67 dX7_move_65 rfl rfl ?_
            refine sk_if_lt 106 70 dX7_move_67 (by decide) rfl (fun hc => ?_) (fun hc => ?_)
            · have h := h.1 hc
              refine sk_aload_n 0 107 dX7_move_106 rfl rfl rfl ?_
              refine sk_iconst (v := 1) 108 dX7_move_107 rfl (by decide) ?_
              refine sk_callVi [.int 1] [] 111 dX7_move_108 rfl mfX7_error lkX7_51 miX7_error msX7_error sm_0 rfl rfl rfl rfl (by simp [Value.category]) hd0 (sk_Cm h ?_)
              rintro w t108 ⟨r108, hw, h⟩
              refine ⟨r108, hw, ?_⟩
              exact sk_iret dX7_move_111 rfl rfl h
            · have h := h.2 hc
              refine sk_iload_n 2 71 dX7_move_70 rfl rfl rfl ?_
              refine sk_if_lt 106 74 dX7_move_71 (by decide) rfl (fun hc => ?_) (fun hc => ?_)
              · have h := h.1 hc
                refine sk_aload_n 0 107 dX7_move_106 rfl rfl rfl ?_
                refine sk_iconst (v := 1) 108 dX7_move_107 rfl (by decide) ?_
                refine sk_callVi [.int 1] [] 111 dX7_move_108 rfl mfX7_error lkX7_51 miX7_error msX7_error sm_0 rfl rfl rfl rfl (by simp [Value.category]) hd0 (sk_Cm h ?_)
                rintro w t108 ⟨r108, hw, h⟩
                refine ⟨r108, hw, ?_⟩
                exact sk_iret dX7_move_111 rfl rfl h
              · have h := h.2 hc
                refine sk_iload 4 76 dX7_move_74 rfl rfl ?_
                refine sk_if_lt 106 79 dX7_move_76 (by decide) rfl (fun hc => ?_) (fun hc => ?_)
                · have h := h.1 hc
                  refine sk_aload_n 0 107 dX7_move_106 rfl rfl rfl ?_
                  refine sk_iconst (v := 1) 108 dX7_move_107 rfl (by decide) ?_
                  refine sk_callVi [.int 1] [] 111 dX7_move_108 rfl mfX7_error lkX7_51 miX7_error msX7_error sm_0 rfl rfl rfl rfl (by simp [Value.category]) hd0 (sk_Cm h ?_)
                  rintro w t108 ⟨r108, hw, h⟩
                  refine ⟨r108, hw, ?_⟩
                  exact sk_iret dX7_move_111 rfl rfl h
                · have h := h.2 hc
                  refine sk_iload_n 2 80 dX7_move_79 rfl rfl rfl ?_
                  refine sk_aload_n 0 81 dX7_move_80 rfl rfl rfl ?_
                  refine sk_getR (r := 10) 84 dX7_move_81 rfl lfX7_37 sm_0 rfl ?_
                  refine sk_iload_n 1 85 dX7_move_84 rfl rfl rfl ?_
                  have hb85 := h.1
                  have h := h.2
                  refine sk_iald 86 dX7_move_85 rfl sm_10 hb85 _ rfl ?_
                  refine sk_iload 5 88 dX7_move_86 rfl rfl ?_
                  refine sk_isub 89 dX7_move_88 rfl ?_
                  refine sk_icmp_gt 106 92 dX7_move_89 (by decide) rfl (fun hc => ?_) (fun hc => ?_)
                  · have h := h.1 hc
                    refine sk_aload_n 0 107 dX7_move_106 rfl rfl rfl ?_
                    refine sk_iconst (v := 1) 108 dX7_move_107 rfl (by decide) ?_
                    refine sk_callVi [.int 1] [] 111 dX7_move_108 rfl mfX7_error lkX7_51 miX7_error msX7_error sm_0 rfl rfl rfl rfl (by simp [Value.category]) hd0 (sk_Cm h ?_)
                    rintro w t108 ⟨r108, hw, h⟩
                    refine ⟨r108, hw, ?_⟩
                    exact sk_iret dX7_move_111 rfl rfl h
                  · have h := h.2 hc
                    refine sk_iload 4 94 dX7_move_92 rfl rfl ?_
                    refine sk_aload_n 0 95 dX7_move_94 rfl rfl rfl ?_
                    refine sk_getR (r := 10) 98 dX7_move_95 rfl lfX7_37 sm_0 rfl ?_
                    refine sk_iload_n 3 99 dX7_move_98 rfl rfl rfl ?_
                    have hb99 := h.1
                    have h := h.2
                    refine sk_iald 100 dX7_move_99 rfl sm_10 hb99 _ rfl ?_
                    refine sk_iload 5 102 dX7_move_100 rfl rfl ?_
                    refine sk_isub 103 dX7_move_102 rfl ?_
                    refine sk_icmp_le 112 106 dX7_move_103 (by decide) rfl (fun hc => ?_) (fun hc => ?_)
                    · have h := h.1 hc
                      refine sk_iconst (v := 0) 113 dX7_move_112 rfl (by decide) ?_
                      refine sk_istore (lv2 := [(6, .int 0), (0, .ref 0), (1, .int v1), (2, .int v2), (3, .int v3), (4, .int v4), (5, .int v5)]) 115 dX7_move_113 rfl (by decide) rfl ?_
                      refine sk_perm (lv2 := [(0, .ref 0), (1, .int v1), (2, .int v2), (3, .int v3), (4, .int v4), (5, .int v5), (6, .int 0)]) [1, 2, 3, 4, 5, 6, 0] rfl ?_
                      exact h
                    · have h := h.2 hc
                      refine sk_aload_n 0 107 dX7_move_106 rfl rfl rfl ?_
                      refine sk_iconst (v := 1) 108 dX7_move_107 rfl (by decide) ?_
                      refine sk_callVi [.int 1] [] 111 dX7_move_108 rfl mfX7_error lkX7_51 miX7_error msX7_error sm_0 rfl rfl rfl rfl (by simp [Value.category]) hd0 (sk_Cm h ?_)
                      rintro w t108 ⟨r108, hw, h⟩
                      refine ⟨r108, hw, ?_⟩
                      exact sk_iret dX7_move_111 rfl rfl h
          · have h := h.2 hc
            refine sk_aload_n 0 60 dX7_move_59 rfl rfl rfl ?_
            refine sk_iconst (v := 5) 61 dX7_move_60 rfl (by decide) ?_
            refine sk_callVi [.int 5] [] 64 dX7_move_61 rfl mfX7_error lkX7_51 miX7_error msX7_error sm_0 rfl rfl rfl rfl (by simp [Value.category]) hd0 (sk_Cm h ?_)
            rintro w t61 ⟨r61, hw, h⟩
            refine ⟨r61, hw, ?_⟩
            exact sk_iret dX7_move_64 rfl rfl h
        · have h := h.2 hc
          refine sk_aload_n 0 39 dX7_move_38 rfl rfl rfl ?_
          refine sk_iconst (v := 2) 40 dX7_move_39 rfl (by decide) ?_
          refine sk_callVi [.int 2] [] 43 dX7_move_40 rfl mfX7_error lkX7_51 miX7_error msX7_error sm_0 rfl rfl rfl rfl (by simp [Value.category]) hd0 (sk_Cm h ?_)
          rintro w t40 ⟨r40, hw, h⟩
          refine ⟨r40, hw, ?_⟩
          exact sk_iret dX7_move_43 rfl rfl h
    · have h := h.2 hc
      refine sk_aload_n 0 15 dX7_move_14 rfl rfl rfl ?_
      refine sk_iconst (v := 1) 16 dX7_move_15 rfl (by decide) ?_
      refine sk_callVi [.int 1] [] 19 dX7_move_16 rfl mfX7_error lkX7_51 miX7_error msX7_error sm_0 rfl rfl rfl rfl (by simp [Value.category]) hd0 (sk_Cm h ?_)
      rintro w t16 ⟨r16, hw, h⟩
      refine ⟨r16, hw, ?_⟩
      exact sk_iret dX7_move_19 rfl rfl h

theorem bX7_move_115 {d : Nat} {τ : sk_T} {K : sk_K} {v1 : Int32} {v2 : Int32} {v3 : Int32} {v4 : Int32} {v5 : Int32} {v6 : Int32}
  (h : ((v5 ≤ v6 →
      sk_G sk_Sm d mX7_move 152 [(0, .ref 0), (3, .int v3), (4, .int v4), (5, .int v5), (6, .int 0)] [] τ K
    ) ∧
    (¬ v5 ≤ v6 →
      vp_in (((24 * v1) + v2) + v6) 96 ∧
      vp_in v6 24 ∧
      sk_G sk_Sm d mX7_move 115 [(0, .ref 0), (1, .int v1), (2, .int v2), (3, .int v3), (4, .int v4), (5, .int v5), (6, .int (v6 + 1))] [] (sk_u τ 12 (v6).toNatClampNeg (τ 11 ((((24 * v1) + v2) + v6)).toNatClampNeg)) K
    ))) :
  sk_G sk_Sm d mX7_move 115 [(0, .ref 0), (1, .int v1), (2, .int v2), (3, .int v3), (4, .int v4), (5, .int v5), (6, .int v6)] [] τ K := by
  refine sk_iload 6 117 dX7_move_115 rfl rfl ?_
  refine sk_iload 5 119 dX7_move_117 rfl rfl ?_
  refine sk_icmp_ge 149 122 dX7_move_119 (by decide) rfl (fun hc => ?_) (fun hc => ?_)
  · have h := h.1 hc
    refine sk_iconst (v := 0) 150 dX7_move_149 rfl (by decide) ?_
    refine sk_istore (lv2 := [(6, .int 0), (0, .ref 0), (1, .int v1), (2, .int v2), (3, .int v3), (4, .int v4), (5, .int v5)]) 152 dX7_move_150 rfl (by decide) rfl ?_
    refine sk_perm (lv2 := [(0, .ref 0), (3, .int v3), (4, .int v4), (5, .int v5), (6, .int 0)]) [1, 4, 5, 6, 0] rfl ?_
    exact h
  · have h := h.2 hc
    refine sk_aload_n 0 123 dX7_move_122 rfl rfl rfl ?_
    refine sk_getR (r := 12) 126 dX7_move_123 rfl lfX7_43 sm_0 rfl ?_
    refine sk_iload 6 128 dX7_move_126 rfl rfl ?_
    refine sk_aload_n 0 129 dX7_move_128 rfl rfl rfl ?_
    refine sk_getR (r := 11) 132 dX7_move_129 rfl lfX7_40 sm_0 rfl ?_
    refine sk_bipush (v := 24) 134 dX7_move_132 rfl (by decide) ?_
    refine sk_iload_n 1 135 dX7_move_134 rfl rfl rfl ?_
    refine sk_imul 136 dX7_move_135 rfl ?_
    refine sk_iload_n 2 137 dX7_move_136 rfl rfl rfl ?_
    refine sk_iadd 138 dX7_move_137 rfl ?_
    refine sk_iload 6 140 dX7_move_138 rfl rfl ?_
    refine sk_iadd 141 dX7_move_140 rfl ?_
    have hb141 := h.1
    have h := h.2
    refine sk_iald 142 dX7_move_141 rfl sm_11 hb141 _ rfl ?_
    have hb142 := h.1
    have h := h.2
    refine sk_iast 143 dX7_move_142 rfl sm_12 hb142 _ rfl ?_
    refine sk_iinc (v := (v6 + 1)) (lv2 := [(6, .int (v6 + 1)), (0, .ref 0), (1, .int v1), (2, .int v2), (3, .int v3), (4, .int v4), (5, .int v5)]) 6 146 dX7_move_143 rfl rfl rfl (by decide) rfl ?_
    refine sk_goto 115 dX7_move_146 (by decide) ?_
    refine sk_perm (lv2 := [(0, .ref 0), (1, .int v1), (2, .int v2), (3, .int v3), (4, .int v4), (5, .int v5), (6, .int (v6 + 1))]) [1, 2, 3, 4, 5, 6, 0] rfl ?_
    exact h

theorem bX7_move_152 {d : Nat} {τ : sk_T} {K : sk_K} {v3 : Int32} {v4 : Int32} {v5 : Int32} {v6 : Int32}
  (h : ((v5 ≤ v6 →
      K (some (.int v5)) τ
    ) ∧
    (¬ v5 ≤ v6 →
      vp_in v6 24 ∧
      vp_in (((24 * v3) + v4) + v6) 96 ∧
      sk_G sk_Sm d mX7_move 152 [(0, .ref 0), (3, .int v3), (4, .int v4), (5, .int v5), (6, .int (v6 + 1))] [] (sk_u τ 11 ((((24 * v3) + v4) + v6)).toNatClampNeg (τ 12 (v6).toNatClampNeg)) K
    ))) :
  sk_G sk_Sm d mX7_move 152 [(0, .ref 0), (3, .int v3), (4, .int v4), (5, .int v5), (6, .int v6)] [] τ K := by
  refine sk_iload 4 154 dX7_move_152 rfl rfl ?_
  refine sk_iload 3 156 dX7_move_154 rfl rfl ?_
  refine sk_icmp_ge 187 159 dX7_move_156 (by decide) rfl (fun hc => ?_) (fun hc => ?_)
  · have h := h.1 hc
    refine sk_iload 3 189 dX7_move_187 rfl rfl ?_
    exact sk_iret dX7_move_189 rfl rfl h
  · have h := h.2 hc
    refine sk_aload_n 0 160 dX7_move_159 rfl rfl rfl ?_
    refine sk_getR (r := 11) 163 dX7_move_160 rfl lfX7_40 sm_0 rfl ?_
    refine sk_bipush (v := 24) 165 dX7_move_163 rfl (by decide) ?_
    refine sk_iload_n 1 166 dX7_move_165 rfl rfl rfl ?_
    refine sk_imul 167 dX7_move_166 rfl ?_
    refine sk_iload 2 169 dX7_move_167 rfl rfl ?_
    refine sk_iadd 170 dX7_move_169 rfl ?_
    refine sk_iload 4 172 dX7_move_170 rfl rfl ?_
    refine sk_iadd 173 dX7_move_172 rfl ?_
    refine sk_aload_n 0 174 dX7_move_173 rfl rfl rfl ?_
    refine sk_getR (r := 12) 177 dX7_move_174 rfl lfX7_43 sm_0 rfl ?_
    refine sk_iload 4 179 dX7_move_177 rfl rfl ?_
    have hb179 := h.1
    have h := h.2
    refine sk_iald 180 dX7_move_179 rfl sm_12 hb179 _ rfl ?_
    have hb180 := h.1
    have h := h.2
    refine sk_iast 181 dX7_move_180 rfl sm_11 hb180 _ rfl ?_
    refine sk_iinc (v := (v6 + 1)) (lv2 := [(6, .int (v6 + 1)), (0, .ref 0), (3, .int v3), (4, .int v4), (5, .int v5)]) 4 184 dX7_move_181 rfl rfl rfl (by decide) rfl ?_
    refine sk_goto 152 dX7_move_184 (by decide) ?_
    refine sk_perm (lv2 := [(0, .ref 0), (3, .int v3), (4, .int v4), (5, .int v5), (6, .int (v6 + 1))]) [1, 2, 3, 4, 0] rfl ?_
    exact h

theorem wX7_lacks {d : Nat} {τ : sk_T} {K : sk_K} {v1 : Int32} (hd0 : 0 < d)
  (h : sk_C sk_Sm (d - 1) mX7_isSheet [.int v1] τ (fun w t1 => ∃ r1 : Int32, w = some (.int r1) ∧
      ((¬ r1 = 0 →
        vp_in v1 4 ∧
        ((¬ (t1 9 (v1).toNatClampNeg) = 0 →
          K (some (.int 0)) t1
        ) ∧
        ((t1 9 (v1).toNatClampNeg) = 0 →
          K (some (.int 2)) t1
        ))
      ) ∧
      (r1 = 0 →
        K (some (.int 1)) t1
      ))
    )) :
  sk_C sk_Sm d mX7_lacks [.ref 0, .int v1] τ K := by
  refine sk_enter mfX7_lacks (Nat.le_of_ble_eq_true rfl) ?_
  show sk_G sk_Sm d mX7_lacks 0 [(0, .ref 0), (1, .int v1)] [] τ K
  refine sk_iload_n 1 1 dX7_lacks_0 rfl rfl rfl ?_
  refine sk_callSi [.int v1] [] 4 dX7_lacks_1 rfl mfX7_isSheet lkX7_248 miX7_isSheet rfl rfl (by simp [Value.category]) hd0 (sk_Cm h ?_)
  rintro w t1 ⟨r1, hw, h⟩
  refine ⟨r1, hw, ?_⟩
  refine sk_if_ne 11 7 dX7_lacks_4 (by decide) rfl (fun hc => ?_) (fun hc => ?_)
  · have h := h.1 hc
    refine sk_aload_n 0 12 dX7_lacks_11 rfl rfl rfl ?_
    refine sk_getR (r := 9) 15 dX7_lacks_12 rfl lfX7_34 sm_0 rfl ?_
    refine sk_iload_n 1 16 dX7_lacks_15 rfl rfl rfl ?_
    have hb16 := h.1
    have h := h.2
    refine sk_iald 17 dX7_lacks_16 rfl sm_9 hb16 _ rfl ?_
    refine sk_if_ne 24 20 dX7_lacks_17 (by decide) rfl (fun hc => ?_) (fun hc => ?_)
    · have h := h.1 hc
      refine sk_iconst (v := 0) 25 dX7_lacks_24 rfl (by decide) ?_
      exact sk_iret dX7_lacks_25 rfl rfl h
    · have h := h.2 hc
      refine sk_iconst (v := 2) 21 dX7_lacks_20 rfl (by decide) ?_
      refine sk_goto 25 dX7_lacks_21 (by decide) ?_
      exact sk_iret dX7_lacks_25 rfl rfl h
  · have h := h.2 hc
    refine sk_iconst (v := 1) 8 dX7_lacks_7 rfl (by decide) ?_
    refine sk_goto 25 dX7_lacks_8 (by decide) ?_
    exact sk_iret dX7_lacks_25 rfl rfl h

theorem wX7_nailed {d : Nat} {τ : sk_T} {K : sk_K} {v1 : Int32} (hd0 : 0 < d)
  (h : sk_C sk_Sm (d - 1) mX7_lacks [.ref 0, .int v1] τ (fun w t2 => ∃ r2 : Int32, w = some (.int r2) ∧
      ((r2 = 0 →
        sk_G sk_Sm d mX7_nailed 18 [(0, .ref 0), (1, .int v1), (3, .int 0)] [] t2 K
      ) ∧
      (¬ r2 = 0 →
        sk_C sk_Sm (d - 1) mX7_error [.ref 0, .int r2] t2 (fun w t12 => ∃ r12 : Int32, w = some (.int r12) ∧
          K (some (.int r12)) t12
        )
      ))
    )) :
  sk_C sk_Sm d mX7_nailed [.ref 0, .int v1] τ K := by
  refine sk_enter mfX7_nailed (Nat.le_of_ble_eq_true rfl) ?_
  show sk_G sk_Sm d mX7_nailed 0 [(0, .ref 0), (1, .int v1)] [] τ K
  refine sk_aload_n 0 1 dX7_nailed_0 rfl rfl rfl ?_
  refine sk_iload_n 1 2 dX7_nailed_1 rfl rfl rfl ?_
  refine sk_callVi [.int v1] [] 5 dX7_nailed_2 rfl mfX7_lacks lkX7_214 miX7_lacks msX7_lacks sm_0 rfl rfl rfl rfl (by simp [Value.category]) hd0 (sk_Cm h ?_)
  rintro w t2 ⟨r2, hw, h⟩
  refine ⟨r2, hw, ?_⟩
  refine sk_istore_n (lv2 := [(2, .int r2), (0, .ref 0), (1, .int v1)]) 6 dX7_nailed_5 rfl rfl (by decide) rfl ?_
  refine sk_iload_n 0 7 dX7_nailed_6 rfl rfl rfl ?_
  refine sk_if_eq 16 10 dX7_nailed_7 (by decide) rfl (fun hc => ?_) (fun hc => ?_)
  · have h := h.1 hc
    refine sk_iconst (v := 0) 17 dX7_nailed_16 rfl (by decide) ?_
    refine sk_istore_n (lv2 := [(3, .int 0), (2, .int r2), (0, .ref 0), (1, .int v1)]) 18 dX7_nailed_17 rfl rfl (by decide) rfl ?_
    refine sk_perm (lv2 := [(0, .ref 0), (1, .int v1), (3, .int 0)]) [2, 3, 0] rfl ?_
    exact h
  · have h := h.2 hc
    refine sk_aload_n 1 11 dX7_nailed_10 rfl rfl rfl ?_
    refine sk_iload_n 0 12 dX7_nailed_11 rfl rfl rfl ?_
    refine sk_callVi [.int r2] [] 15 dX7_nailed_12 rfl mfX7_error lkX7_51 miX7_error msX7_error sm_0 rfl rfl rfl rfl (by simp [Value.category]) hd0 (sk_Cm h ?_)
    rintro w t12 ⟨r12, hw, h⟩
    refine ⟨r12, hw, ?_⟩
    exact sk_iret dX7_nailed_15 rfl rfl h

theorem bX7_nailed_18 {d : Nat} {τ : sk_T} {K : sk_K} {v1 : Int32} {v3 : Int32} (hd0 : 0 < d)
  (h : vp_in v1 4 ∧
    (((τ 10 (v1).toNatClampNeg) ≤ v3 →
      K (some (.int v3)) τ
    ) ∧
    (¬ (τ 10 (v1).toNatClampNeg) ≤ v3 →
      sk_C sk_Sm (d - 1) mX7_isSlate [.ref 0, .int v3] τ (fun w t30 => ∃ r30 : Int32, w = some (.int r30) ∧
        ((r30 = 0 →
          K (some (.int v3)) t30
        ) ∧
        (¬ r30 = 0 →
          vp_in ((24 * v1) + v3) 96 ∧
          sk_C sk_Sm (d - 1) mX7_in [.int (t30 11 (((24 * v1) + v3)).toNatClampNeg), .int 0, .int 9] t30 (fun w t50 => ∃ r50 : Int32, w = some (.int r50) ∧
            ((r50 = 0 →
              K (some (.int v3)) t50
            ) ∧
            (¬ r50 = 0 →
              vp_in ((24 * v1) + v3) 96 ∧
              sk_C sk_Sm (d - 1) mX7_lays1 [.ref 0, .int v3, .int 3, .int (t50 11 (((24 * v1) + v3)).toNatClampNeg)] t50 (fun w t70 => w = none ∧
                sk_G sk_Sm d mX7_nailed 18 [(0, .ref 0), (1, .int v1), (3, .int (v3 + 1))] [] t70 K
              )
            ))
          )
        ))
      )
    ))) :
  sk_G sk_Sm d mX7_nailed 18 [(0, .ref 0), (1, .int v1), (3, .int v3)] [] τ K := by
  refine sk_iload_n 2 19 dX7_nailed_18 rfl rfl rfl ?_
  refine sk_aload_n 0 20 dX7_nailed_19 rfl rfl rfl ?_
  refine sk_getR (r := 10) 23 dX7_nailed_20 rfl lfX7_37 sm_0 rfl ?_
  refine sk_iload_n 1 24 dX7_nailed_23 rfl rfl rfl ?_
  have hb24 := h.1
  have h := h.2
  refine sk_iald 25 dX7_nailed_24 rfl sm_10 hb24 _ rfl ?_
  refine sk_icmp_ge 79 28 dX7_nailed_25 (by decide) rfl (fun hc => ?_) (fun hc => ?_)
  · have h := h.1 hc
    refine sk_iload_n 2 80 dX7_nailed_79 rfl rfl rfl ?_
    exact sk_iret dX7_nailed_80 rfl rfl h
  · have h := h.2 hc
    refine sk_aload_n 0 29 dX7_nailed_28 rfl rfl rfl ?_
    refine sk_iload_n 2 30 dX7_nailed_29 rfl rfl rfl ?_
    refine sk_callVi [.int v3] [] 33 dX7_nailed_30 rfl mfX7_isSlate lkX7_169 miX7_isSlate msX7_isSlate sm_0 rfl rfl rfl rfl (by simp [Value.category]) hd0 (sk_Cm h ?_)
    rintro w t30 ⟨r30, hw, h⟩
    refine ⟨r30, hw, ?_⟩
    refine sk_if_eq 79 36 dX7_nailed_33 (by decide) rfl (fun hc => ?_) (fun hc => ?_)
    · have h := h.1 hc
      refine sk_iload_n 2 80 dX7_nailed_79 rfl rfl rfl ?_
      exact sk_iret dX7_nailed_80 rfl rfl h
    · have h := h.2 hc
      refine sk_aload_n 0 37 dX7_nailed_36 rfl rfl rfl ?_
      refine sk_getR (r := 11) 40 dX7_nailed_37 rfl lfX7_40 sm_0 rfl ?_
      refine sk_bipush (v := 24) 42 dX7_nailed_40 rfl (by decide) ?_
      refine sk_iload_n 1 43 dX7_nailed_42 rfl rfl rfl ?_
      refine sk_imul 44 dX7_nailed_43 rfl ?_
      refine sk_iload_n 2 45 dX7_nailed_44 rfl rfl rfl ?_
      refine sk_iadd 46 dX7_nailed_45 rfl ?_
      have hb46 := h.1
      have h := h.2
      refine sk_iald 47 dX7_nailed_46 rfl sm_11 hb46 _ rfl ?_
      refine sk_iconst (v := 0) 48 dX7_nailed_47 rfl (by decide) ?_
      refine sk_bipush (v := 9) 50 dX7_nailed_48 rfl (by decide) ?_
      refine sk_callSi [.int (t30 11 (((24 * v1) + v3)).toNatClampNeg), .int 0, .int 9] [] 53 dX7_nailed_50 rfl mfX7_in lkX7_47 miX7_in rfl rfl (by simp [Value.category]) hd0 (sk_Cm h ?_)
      rintro w t50 ⟨r50, hw, h⟩
      refine ⟨r50, hw, ?_⟩
      refine sk_if_eq 79 56 dX7_nailed_53 (by decide) rfl (fun hc => ?_) (fun hc => ?_)
      · have h := h.1 hc
        refine sk_iload_n 2 80 dX7_nailed_79 rfl rfl rfl ?_
        exact sk_iret dX7_nailed_80 rfl rfl h
      · have h := h.2 hc
        refine sk_aload_n 0 57 dX7_nailed_56 rfl rfl rfl ?_
        refine sk_iload_n 2 58 dX7_nailed_57 rfl rfl rfl ?_
        refine sk_iconst (v := 3) 59 dX7_nailed_58 rfl (by decide) ?_
        refine sk_aload_n 0 60 dX7_nailed_59 rfl rfl rfl ?_
        refine sk_getR (r := 11) 63 dX7_nailed_60 rfl lfX7_40 sm_0 rfl ?_
        refine sk_bipush (v := 24) 65 dX7_nailed_63 rfl (by decide) ?_
        refine sk_iload_n 1 66 dX7_nailed_65 rfl rfl rfl ?_
        refine sk_imul 67 dX7_nailed_66 rfl ?_
        refine sk_iload_n 2 68 dX7_nailed_67 rfl rfl rfl ?_
        refine sk_iadd 69 dX7_nailed_68 rfl ?_
        have hb69 := h.1
        have h := h.2
        refine sk_iald 70 dX7_nailed_69 rfl sm_11 hb69 _ rfl ?_
        refine sk_callVv [.int v3, .int 3, .int (t50 11 (((24 * v1) + v3)).toNatClampNeg)] [] 73 dX7_nailed_70 rfl mfX7_lays1 lkX7_153 miX7_lays1 msX7_lays1 sm_0 rfl rfl rfl rfl (by simp [Value.category]) hd0 (sk_Cm h ?_)
        rintro w t70 ⟨hw, h⟩
        refine ⟨hw, ?_⟩
        refine sk_iinc (v := (v3 + 1)) (lv2 := [(3, .int (v3 + 1)), (0, .ref 0), (1, .int v1)]) 2 76 dX7_nailed_73 rfl rfl rfl (by decide) rfl ?_
        refine sk_goto 18 dX7_nailed_76 (by decide) ?_
        refine sk_perm (lv2 := [(0, .ref 0), (1, .int v1), (3, .int (v3 + 1))]) [1, 2, 0] rfl ?_
        exact h

theorem wX7_judge {d : Nat} {τ : sk_T} {K : sk_K} {v1 : Int32} (hd0 : 0 < d)
  (h : sk_C sk_Sm (d - 1) mX7_lacks [.ref 0, .int v1] τ (fun w t2 => ∃ r2 : Int32, w = some (.int r2) ∧
      ((r2 = 0 →
        sk_G sk_Sm d mX7_judge 18 [(0, .ref 0), (1, .int v1), (3, .int 0)] [] t2 K
      ) ∧
      (¬ r2 = 0 →
        sk_C sk_Sm (d - 1) mX7_error [.ref 0, .int r2] t2 (fun w t12 => ∃ r12 : Int32, w = some (.int r12) ∧
          K (some (.int r12)) t12
        )
      ))
    )) :
  sk_C sk_Sm d mX7_judge [.ref 0, .int v1] τ K := by
  refine sk_enter mfX7_judge (Nat.le_of_ble_eq_true rfl) ?_
  show sk_G sk_Sm d mX7_judge 0 [(0, .ref 0), (1, .int v1)] [] τ K
  refine sk_aload_n 0 1 dX7_judge_0 rfl rfl rfl ?_
  refine sk_iload_n 1 2 dX7_judge_1 rfl rfl rfl ?_
  refine sk_callVi [.int v1] [] 5 dX7_judge_2 rfl mfX7_lacks lkX7_214 miX7_lacks msX7_lacks sm_0 rfl rfl rfl rfl (by simp [Value.category]) hd0 (sk_Cm h ?_)
  rintro w t2 ⟨r2, hw, h⟩
  refine ⟨r2, hw, ?_⟩
  refine sk_istore_n (lv2 := [(2, .int r2), (0, .ref 0), (1, .int v1)]) 6 dX7_judge_5 rfl rfl (by decide) rfl ?_
  refine sk_iload_n 0 7 dX7_judge_6 rfl rfl rfl ?_
  refine sk_if_eq 16 10 dX7_judge_7 (by decide) rfl (fun hc => ?_) (fun hc => ?_)
  · have h := h.1 hc
    refine sk_iconst (v := 0) 17 dX7_judge_16 rfl (by decide) ?_
    refine sk_istore_n (lv2 := [(3, .int 0), (2, .int r2), (0, .ref 0), (1, .int v1)]) 18 dX7_judge_17 rfl rfl (by decide) rfl ?_
    refine sk_perm (lv2 := [(0, .ref 0), (1, .int v1), (3, .int 0)]) [2, 3, 0] rfl ?_
    exact h
  · have h := h.2 hc
    refine sk_aload_n 1 11 dX7_judge_10 rfl rfl rfl ?_
    refine sk_iload_n 0 12 dX7_judge_11 rfl rfl rfl ?_
    refine sk_callVi [.int r2] [] 15 dX7_judge_12 rfl mfX7_error lkX7_51 miX7_error msX7_error sm_0 rfl rfl rfl rfl (by simp [Value.category]) hd0 (sk_Cm h ?_)
    rintro w t12 ⟨r12, hw, h⟩
    refine ⟨r12, hw, ?_⟩
    exact sk_iret dX7_judge_15 rfl rfl h

theorem bX7_judge_18 {d : Nat} {τ : sk_T} {K : sk_K} {v1 : Int32} {v3 : Int32} (hd0 : 0 < d)
  (h : vp_in v1 4 ∧
    (((τ 10 (v1).toNatClampNeg) ≤ v3 →
      K (some (.int v3)) τ
    ) ∧
    (¬ (τ 10 (v1).toNatClampNeg) ≤ v3 →
      sk_C sk_Sm (d - 1) mX7_isSlate [.ref 0, .int v3] τ (fun w t30 => ∃ r30 : Int32, w = some (.int r30) ∧
        ((r30 = 0 →
          K (some (.int v3)) t30
        ) ∧
        (¬ r30 = 0 →
          sk_C sk_Sm (d - 1) mX7_its [.ref 0, .int v3, .int 6] t30 (fun w t40 => ∃ r40 : Int32, w = some (.int r40) ∧
            vp_in ((24 * v1) + v3) 96 ∧
            ((¬ r40 = (t40 11 (((24 * v1) + v3)).toNatClampNeg) →
              K (some (.int v3)) t40
            ) ∧
            (r40 = (t40 11 (((24 * v1) + v3)).toNatClampNeg) →
              sk_G sk_Sm d mX7_judge 18 [(0, .ref 0), (1, .int v1), (3, .int (v3 + 1))] [] t40 K
            ))
          )
        ))
      )
    ))) :
  sk_G sk_Sm d mX7_judge 18 [(0, .ref 0), (1, .int v1), (3, .int v3)] [] τ K := by
  refine sk_iload_n 2 19 dX7_judge_18 rfl rfl rfl ?_
  refine sk_aload_n 0 20 dX7_judge_19 rfl rfl rfl ?_
  refine sk_getR (r := 10) 23 dX7_judge_20 rfl lfX7_37 sm_0 rfl ?_
  refine sk_iload_n 1 24 dX7_judge_23 rfl rfl rfl ?_
  have hb24 := h.1
  have h := h.2
  refine sk_iald 25 dX7_judge_24 rfl sm_10 hb24 _ rfl ?_
  refine sk_icmp_ge 63 28 dX7_judge_25 (by decide) rfl (fun hc => ?_) (fun hc => ?_)
  · have h := h.1 hc
    refine sk_iload_n 2 64 dX7_judge_63 rfl rfl rfl ?_
    exact sk_iret dX7_judge_64 rfl rfl h
  · have h := h.2 hc
    refine sk_aload_n 0 29 dX7_judge_28 rfl rfl rfl ?_
    refine sk_iload_n 2 30 dX7_judge_29 rfl rfl rfl ?_
    refine sk_callVi [.int v3] [] 33 dX7_judge_30 rfl mfX7_isSlate lkX7_169 miX7_isSlate msX7_isSlate sm_0 rfl rfl rfl rfl (by simp [Value.category]) hd0 (sk_Cm h ?_)
    rintro w t30 ⟨r30, hw, h⟩
    refine ⟨r30, hw, ?_⟩
    refine sk_if_eq 63 36 dX7_judge_33 (by decide) rfl (fun hc => ?_) (fun hc => ?_)
    · have h := h.1 hc
      refine sk_iload_n 2 64 dX7_judge_63 rfl rfl rfl ?_
      exact sk_iret dX7_judge_64 rfl rfl h
    · have h := h.2 hc
      refine sk_aload_n 0 37 dX7_judge_36 rfl rfl rfl ?_
      refine sk_iload_n 2 38 dX7_judge_37 rfl rfl rfl ?_
      refine sk_bipush (v := 6) 40 dX7_judge_38 rfl (by decide) ?_
      refine sk_callVi [.int v3, .int 6] [] 43 dX7_judge_40 rfl mfX7_its lkX7_111 miX7_its msX7_its sm_0 rfl rfl rfl rfl (by simp [Value.category]) hd0 (sk_Cm h ?_)
      rintro w t40 ⟨r40, hw, h⟩
      refine ⟨r40, hw, ?_⟩
      refine sk_aload_n 0 44 dX7_judge_43 rfl rfl rfl ?_
      refine sk_getR (r := 11) 47 dX7_judge_44 rfl lfX7_40 sm_0 rfl ?_
      refine sk_bipush (v := 24) 49 dX7_judge_47 rfl (by decide) ?_
      refine sk_iload_n 1 50 dX7_judge_49 rfl rfl rfl ?_
      refine sk_imul 51 dX7_judge_50 rfl ?_
      refine sk_iload_n 2 52 dX7_judge_51 rfl rfl rfl ?_
      refine sk_iadd 53 dX7_judge_52 rfl ?_
      have hb53 := h.1
      have h := h.2
      refine sk_iald 54 dX7_judge_53 rfl sm_11 hb53 _ rfl ?_
      refine sk_icmp_ne 63 57 dX7_judge_54 (by decide) rfl (fun hc => ?_) (fun hc => ?_)
      · have h := h.1 hc
        refine sk_iload_n 2 64 dX7_judge_63 rfl rfl rfl ?_
        exact sk_iret dX7_judge_64 rfl rfl h
      · have h := h.2 hc
        refine sk_iinc (v := (v3 + 1)) (lv2 := [(3, .int (v3 + 1)), (0, .ref 0), (1, .int v1)]) 2 60 dX7_judge_57 rfl rfl rfl (by decide) rfl ?_
        refine sk_goto 18 dX7_judge_60 (by decide) ?_
        refine sk_perm (lv2 := [(0, .ref 0), (1, .int v1), (3, .int (v3 + 1))]) [1, 2, 0] rfl ?_
        exact h

theorem wX7_image {d : Nat} {τ : sk_T} {K : sk_K} (hd0 : 0 < d)
  (h : sk_C sk_Sm (d - 1) mX7_copyAll [.ref 1, .ref 2] τ (fun w t8 => w = none ∧
      K (some (.int ((sk_u t8 0 2 ((t8 0 2) + 1)) 0 2))) (sk_u t8 0 2 ((t8 0 2) + 1))
    )) :
  sk_C sk_Sm d mX7_image [.ref 0] τ K := by
  refine sk_enter mfX7_image (Nat.le_of_ble_eq_true rfl) ?_
  show sk_G sk_Sm d mX7_image 0 [(0, .ref 0)] [] τ K
  refine sk_aload_n 0 1 dX7_image_0 rfl rfl rfl ?_
  refine sk_getR (r := 1) 4 dX7_image_1 rfl lfX7_7 sm_0 rfl ?_
  refine sk_aload_n 0 5 dX7_image_4 rfl rfl rfl ?_
  refine sk_getR (r := 2) 8 dX7_image_5 rfl lfX7_13 sm_0 rfl ?_
  refine sk_callSv [.ref 1, .ref 2] [] 11 dX7_image_8 rfl mfX7_copyAll lkX7_251 miX7_copyAll rfl rfl (by simp [Value.category]) hd0 (sk_Cm h ?_)
  rintro w t8 ⟨hw, h⟩
  refine ⟨hw, ?_⟩
  refine sk_aload_n 0 12 dX7_image_11 rfl rfl rfl ?_
  refine sk_dup 13 dX7_image_12 rfl rfl ?_
  refine sk_getI 16 dX7_image_13 rfl lfX7_255 sm_0 rfl ?_
  refine sk_iconst (v := 1) 17 dX7_image_16 rfl (by decide) ?_
  refine sk_iadd 18 dX7_image_17 rfl ?_
  refine sk_putI 21 dX7_image_18 rfl lpX7_255 sm_0 rfl ?_
  refine sk_aload_n 0 22 dX7_image_21 rfl rfl rfl ?_
  refine sk_getI 25 dX7_image_22 rfl lfX7_255 sm_0 rfl ?_
  exact sk_iret dX7_image_25 rfl rfl h

theorem wX7_restore {d : Nat} {τ : sk_T} {K : sk_K} (hd0 : 0 < d)
  (h : ((¬ (τ 0 2) = 0 →
      sk_C sk_Sm (d - 1) mX7_copyAll [.ref 2, .ref 1] τ (fun w t21 => w = none ∧
        K (some (.int (t21 1 0))) t21
      )
    ) ∧
    ((τ 0 2) = 0 →
      sk_C sk_Sm (d - 1) mX7_error [.ref 0, .int 2] τ (fun w t9 => ∃ r9 : Int32, w = some (.int r9) ∧
        K (some (.int r9)) t9
      )
    ))) :
  sk_C sk_Sm d mX7_restore [.ref 0] τ K := by
  refine sk_enter mfX7_restore (Nat.le_of_ble_eq_true rfl) ?_
  show sk_G sk_Sm d mX7_restore 0 [(0, .ref 0)] [] τ K
  refine sk_aload_n 0 1 dX7_restore_0 rfl rfl rfl ?_
  refine sk_getI 4 dX7_restore_1 rfl lfX7_255 sm_0 rfl ?_
  refine sk_if_ne 13 7 dX7_restore_4 (by decide) rfl (fun hc => ?_) (fun hc => ?_)
  · have h := h.1 hc
    refine sk_aload_n 0 14 dX7_restore_13 rfl rfl rfl ?_
    refine sk_getR (r := 2) 17 dX7_restore_14 rfl lfX7_13 sm_0 rfl ?_
    refine sk_aload_n 0 18 dX7_restore_17 rfl rfl rfl ?_
    refine sk_getR (r := 1) 21 dX7_restore_18 rfl lfX7_7 sm_0 rfl ?_
    refine sk_callSv [.ref 2, .ref 1] [] 24 dX7_restore_21 rfl mfX7_copyAll lkX7_251 miX7_copyAll rfl rfl (by simp [Value.category]) hd0 (sk_Cm h ?_)
    rintro w t21 ⟨hw, h⟩
    refine ⟨hw, ?_⟩
    refine sk_aload_n 0 25 dX7_restore_24 rfl rfl rfl ?_
    refine sk_getR (r := 1) 28 dX7_restore_25 rfl lfX7_7 sm_0 rfl ?_
    refine sk_iconst (v := 0) 29 dX7_restore_28 rfl (by decide) ?_
    refine sk_iald 30 dX7_restore_29 rfl sm_1 (by unfold vp_in; decide) 0 rfl ?_
    exact sk_iret dX7_restore_30 rfl rfl h
  · have h := h.2 hc
    refine sk_aload_n 0 8 dX7_restore_7 rfl rfl rfl ?_
    refine sk_iconst (v := 2) 9 dX7_restore_8 rfl (by decide) ?_
    refine sk_callVi [.int 2] [] 12 dX7_restore_9 rfl mfX7_error lkX7_51 miX7_error msX7_error sm_0 rfl rfl rfl rfl (by simp [Value.category]) hd0 (sk_Cm h ?_)
    rintro w t9 ⟨r9, hw, h⟩
    refine ⟨r9, hw, ?_⟩
    exact sk_iret dX7_restore_12 rfl rfl h

theorem wX7_tell {d : Nat} {τ : sk_T} {K : sk_K} {v1 : Int32} (hd0 : 0 < d)
  (h : ((¬ (τ 1 5) = 24 →
      vp_in (388 + (τ 1 5)) 412 ∧
      K (some (.int ((sk_u (sk_u τ 1 ((388 + (τ 1 5))).toNatClampNeg v1) 1 5 (((sk_u τ 1 ((388 + (τ 1 5))).toNatClampNeg v1) 1 5) + 1)) 1 5))) (sk_u (sk_u τ 1 ((388 + (τ 1 5))).toNatClampNeg v1) 1 5 (((sk_u τ 1 ((388 + (τ 1 5))).toNatClampNeg v1) 1 5) + 1))
    ) ∧
    ((τ 1 5) = 24 →
      sk_C sk_Sm (d - 1) mX7_error [.ref 0, .int 4] τ (fun w t13 => ∃ r13 : Int32, w = some (.int r13) ∧
        K (some (.int r13)) t13
      )
    ))) :
  sk_C sk_Sm d mX7_tell [.ref 0, .int v1] τ K := by
  refine sk_enter mfX7_tell (Nat.le_of_ble_eq_true rfl) ?_
  show sk_G sk_Sm d mX7_tell 0 [(0, .ref 0), (1, .int v1)] [] τ K
  refine sk_aload_n 0 1 dX7_tell_0 rfl rfl rfl ?_
  refine sk_getR (r := 1) 4 dX7_tell_1 rfl lfX7_7 sm_0 rfl ?_
  refine sk_iconst (v := 5) 5 dX7_tell_4 rfl (by decide) ?_
  refine sk_iald 6 dX7_tell_5 rfl sm_1 (by unfold vp_in; decide) 5 rfl ?_
  refine sk_bipush (v := 24) 8 dX7_tell_6 rfl (by decide) ?_
  refine sk_icmp_ne 17 11 dX7_tell_8 (by decide) rfl (fun hc => ?_) (fun hc => ?_)
  · have h := h.1 hc
    refine sk_aload_n 0 18 dX7_tell_17 rfl rfl rfl ?_
    refine sk_getR (r := 1) 21 dX7_tell_18 rfl lfX7_7 sm_0 rfl ?_
    refine sk_sipush (v := 388) 24 dX7_tell_21 rfl (by decide) ?_
    refine sk_aload_n 0 25 dX7_tell_24 rfl rfl rfl ?_
    refine sk_getR (r := 1) 28 dX7_tell_25 rfl lfX7_7 sm_0 rfl ?_
    refine sk_iconst (v := 5) 29 dX7_tell_28 rfl (by decide) ?_
    refine sk_iald 30 dX7_tell_29 rfl sm_1 (by unfold vp_in; decide) 5 rfl ?_
    refine sk_iadd 31 dX7_tell_30 rfl ?_
    refine sk_iload_n 1 32 dX7_tell_31 rfl rfl rfl ?_
    have hb32 := h.1
    have h := h.2
    refine sk_iast 33 dX7_tell_32 rfl sm_1 hb32 _ rfl ?_
    refine sk_aload_n 0 34 dX7_tell_33 rfl rfl rfl ?_
    refine sk_getR (r := 1) 37 dX7_tell_34 rfl lfX7_7 sm_0 rfl ?_
    refine sk_iconst (v := 5) 38 dX7_tell_37 rfl (by decide) ?_
    refine sk_dup2 39 dX7_tell_38 rfl rfl rfl ?_
    refine sk_iald 40 dX7_tell_39 rfl sm_1 (by unfold vp_in; decide) 5 rfl ?_
    refine sk_iconst (v := 1) 41 dX7_tell_40 rfl (by decide) ?_
    refine sk_iadd 42 dX7_tell_41 rfl ?_
    refine sk_iast 43 dX7_tell_42 rfl sm_1 (by unfold vp_in; decide) 5 rfl ?_
    refine sk_aload_n 0 44 dX7_tell_43 rfl rfl rfl ?_
    refine sk_getR (r := 1) 47 dX7_tell_44 rfl lfX7_7 sm_0 rfl ?_
    refine sk_iconst (v := 5) 48 dX7_tell_47 rfl (by decide) ?_
    refine sk_iald 49 dX7_tell_48 rfl sm_1 (by unfold vp_in; decide) 5 rfl ?_
    exact sk_iret dX7_tell_49 rfl rfl h
  · have h := h.2 hc
    refine sk_aload_n 0 12 dX7_tell_11 rfl rfl rfl ?_
    refine sk_iconst (v := 4) 13 dX7_tell_12 rfl (by decide) ?_
    refine sk_callVi [.int 4] [] 16 dX7_tell_13 rfl mfX7_error lkX7_51 miX7_error msX7_error sm_0 rfl rfl rfl rfl (by simp [Value.category]) hd0 (sk_Cm h ?_)
    rintro w t13 ⟨r13, hw, h⟩
    refine ⟨r13, hw, ?_⟩
    exact sk_iret dX7_tell_16 rfl rfl h

theorem wX7_check {d : Nat} {τ : sk_T} {K : sk_K}
  (h : sk_G sk_Sm d mX7_check 16 [(0, .ref 0), (1, .int (τ 1 5)), (2, .int 0)] [] (sk_u τ 1 5 0) K) :
  sk_C sk_Sm d mX7_check [.ref 0] τ K := by
  refine sk_enter mfX7_check (Nat.le_of_ble_eq_true rfl) ?_
  show sk_G sk_Sm d mX7_check 0 [(0, .ref 0)] [] τ K
  refine sk_aload_n 0 1 dX7_check_0 rfl rfl rfl ?_
  refine sk_getR (r := 1) 4 dX7_check_1 rfl lfX7_7 sm_0 rfl ?_
  refine sk_iconst (v := 5) 5 dX7_check_4 rfl (by decide) ?_
  refine sk_iald 6 dX7_check_5 rfl sm_1 (by unfold vp_in; decide) 5 rfl ?_
  refine sk_istore_n (lv2 := [(1, .int (τ 1 5)), (0, .ref 0)]) 7 dX7_check_6 rfl rfl (by decide) rfl ?_
  refine sk_aload_n 1 8 dX7_check_7 rfl rfl rfl ?_
  refine sk_getR (r := 1) 11 dX7_check_8 rfl lfX7_7 sm_0 rfl ?_
  refine sk_iconst (v := 5) 12 dX7_check_11 rfl (by decide) ?_
  refine sk_iconst (v := 0) 13 dX7_check_12 rfl (by decide) ?_
  refine sk_iast 14 dX7_check_13 rfl sm_1 (by unfold vp_in; decide) 5 rfl ?_
  refine sk_iconst (v := 0) 15 dX7_check_14 rfl (by decide) ?_
  refine sk_istore_n (lv2 := [(2, .int 0), (1, .int (τ 1 5)), (0, .ref 0)]) 16 dX7_check_15 rfl rfl (by decide) rfl ?_
  refine sk_perm (lv2 := [(0, .ref 0), (1, .int (τ 1 5)), (2, .int 0)]) [2, 1, 0] rfl ?_
  exact h

theorem bX7_check_16 {d : Nat} {τ : sk_T} {K : sk_K} {v1 : Int32} {v2 : Int32} (hd0 : 0 < d)
  (h : ((v1 ≤ v2 →
      K (some (.int 0)) τ
    ) ∧
    (¬ v1 ≤ v2 →
      sk_C sk_Sm (d - 1) mX7_isSlate [.ref 0, .int v2] τ (fun w t23 => ∃ r23 : Int32, w = some (.int r23) ∧
        ((r23 = 0 →
          K (some (.int (1 + v2))) t23
        ) ∧
        (¬ r23 = 0 →
          vp_in (388 + v2) 412 ∧
          sk_C sk_Sm (d - 1) mX7_its [.ref 0, .int v2, .int 5] t23 (fun w t42 => ∃ r42 : Int32, w = some (.int r42) ∧
            (((t23 1 ((388 + v2)).toNatClampNeg) = r42 →
              sk_G sk_Sm d mX7_check 16 [(0, .ref 0), (1, .int v1), (2, .int (v2 + 1))] [] t42 K
            ) ∧
            (¬ (t23 1 ((388 + v2)).toNatClampNeg) = r42 →
              K (some (.int (1 + v2))) t42
            ))
          )
        ))
      )
    ))) :
  sk_G sk_Sm d mX7_check 16 [(0, .ref 0), (1, .int v1), (2, .int v2)] [] τ K := by
  refine sk_iload_n 2 17 dX7_check_16 rfl rfl rfl ?_
  refine sk_iload_n 1 18 dX7_check_17 rfl rfl rfl ?_
  refine sk_icmp_ge 58 21 dX7_check_18 (by decide) rfl (fun hc => ?_) (fun hc => ?_)
  · have h := h.1 hc
    refine sk_iconst (v := 0) 59 dX7_check_58 rfl (by decide) ?_
    exact sk_iret dX7_check_59 rfl rfl h
  · have h := h.2 hc
    refine sk_aload_n 0 22 dX7_check_21 rfl rfl rfl ?_
    refine sk_iload_n 2 23 dX7_check_22 rfl rfl rfl ?_
    refine sk_callVi [.int v2] [] 26 dX7_check_23 rfl mfX7_isSlate lkX7_169 miX7_isSlate msX7_isSlate sm_0 rfl rfl rfl rfl (by simp [Value.category]) hd0 (sk_Cm h ?_)
    rintro w t23 ⟨r23, hw, h⟩
    refine ⟨r23, hw, ?_⟩
    refine sk_if_eq 48 29 dX7_check_26 (by decide) rfl (fun hc => ?_) (fun hc => ?_)
    · have h := h.1 hc
      refine sk_iconst (v := 1) 49 dX7_check_48 rfl (by decide) ?_
      refine sk_iload_n 2 50 dX7_check_49 rfl rfl rfl ?_
      refine sk_iadd 51 dX7_check_50 rfl ?_
      exact sk_iret dX7_check_51 rfl rfl h
    · have h := h.2 hc
      refine sk_aload_n 0 30 dX7_check_29 rfl rfl rfl ?_
      refine sk_getR (r := 1) 33 dX7_check_30 rfl lfX7_7 sm_0 rfl ?_
      refine sk_sipush (v := 388) 36 dX7_check_33 rfl (by decide) ?_
      refine sk_iload_n 2 37 dX7_check_36 rfl rfl rfl ?_
      refine sk_iadd 38 dX7_check_37 rfl ?_
      have hb38 := h.1
      have h := h.2
      refine sk_iald 39 dX7_check_38 rfl sm_1 hb38 _ rfl ?_
      refine sk_aload_n 0 40 dX7_check_39 rfl rfl rfl ?_
      refine sk_iload_n 2 41 dX7_check_40 rfl rfl rfl ?_
      refine sk_iconst (v := 5) 42 dX7_check_41 rfl (by decide) ?_
      refine sk_callVi [.int v2, .int 5] [.int (t23 1 ((388 + v2)).toNatClampNeg)] 45 dX7_check_42 rfl mfX7_its lkX7_111 miX7_its msX7_its sm_0 rfl rfl rfl rfl (by simp [Value.category]) hd0 (sk_Cm h ?_)
      rintro w t42 ⟨r42, hw, h⟩
      refine ⟨r42, hw, ?_⟩
      refine sk_icmp_eq 52 48 dX7_check_45 (by decide) rfl (fun hc => ?_) (fun hc => ?_)
      · have h := h.1 hc
        refine sk_iinc (v := (v2 + 1)) (lv2 := [(2, .int (v2 + 1)), (0, .ref 0), (1, .int v1)]) 2 55 dX7_check_52 rfl rfl rfl (by decide) rfl ?_
        refine sk_goto 16 dX7_check_55 (by decide) ?_
        refine sk_perm (lv2 := [(0, .ref 0), (1, .int v1), (2, .int (v2 + 1))]) [1, 2, 0] rfl ?_
        exact h
      · have h := h.2 hc
        refine sk_iconst (v := 1) 49 dX7_check_48 rfl (by decide) ?_
        refine sk_iload_n 2 50 dX7_check_49 rfl rfl rfl ?_
        refine sk_iadd 51 dX7_check_50 rfl ?_
        exact sk_iret dX7_check_51 rfl rfl h

theorem wX7_count {d : Nat} {τ : sk_T} {K : sk_K} {v1 : Int32} (hd0 : 0 < d)
  (h : (
    (v1 = 0 →
      K (some (.int (τ 1 6))) τ
    ) ∧
    (v1 = 1 →
      K (some (.int (τ 1 0))) τ
    ) ∧
    (v1 = 2 →
      K (some (.int (τ 1 1))) τ
    ) ∧
    (v1 = 3 →
      K (some (.int (τ 1 2))) τ
    ) ∧
    (v1 = 4 →
      K (some (.int (τ 1 4))) τ
    ) ∧
    (v1 = 5 →
      K (some (.int (τ 1 5))) τ
    ) ∧
    (v1 = 6 →
      K (some (.int (τ 0 12))) τ
    ) ∧
    (v1 = 7 →
      K (some (.int (τ 1 3))) τ
    ) ∧
    ((¬ v1 = 0 ∧ ¬ v1 = 1 ∧ ¬ v1 = 2 ∧ ¬ v1 = 3 ∧ ¬ v1 = 4 ∧ ¬ v1 = 5 ∧ ¬ v1 = 6 ∧ ¬ v1 = 7) →
      sk_C sk_Sm (d - 1) mX7_error [.ref 0, .int 1] τ (fun w t105 => ∃ r105 : Int32, w = some (.int r105) ∧
        K (some (.int r105)) t105
      )
    ))) :
  sk_C sk_Sm d mX7_count [.ref 0, .int v1] τ K := by
  refine sk_enter mfX7_count (Nat.le_of_ble_eq_true rfl) ?_
  show sk_G sk_Sm d mX7_count 0 [(0, .ref 0), (1, .int v1)] [] τ K
  refine sk_iload_n 1 1 dX7_count_0 rfl rfl rfl ?_
  refine sk_table [48, 56, 63, 70, 77, 84, 91, 96] 103 dX7_count_1 (by decide) (by decide) (by decide) (by decide) ⟨fun e => ?_, fun e => ?_, fun e => ?_, fun e => ?_, fun e => ?_, fun e => ?_, fun e => ?_, fun e => ?_, trivial⟩ (fun e => ?_)
  · have h := h.1 e
    refine sk_aload_n 0 49 dX7_count_48 rfl rfl rfl ?_
    refine sk_getR (r := 1) 52 dX7_count_49 rfl lfX7_7 sm_0 rfl ?_
    refine sk_bipush (v := 6) 54 dX7_count_52 rfl (by decide) ?_
    refine sk_iald 55 dX7_count_54 rfl sm_1 (by unfold vp_in; decide) 6 rfl ?_
    exact sk_iret dX7_count_55 rfl rfl h
  · have h := h.2.1 e
    refine sk_aload_n 0 57 dX7_count_56 rfl rfl rfl ?_
    refine sk_getR (r := 1) 60 dX7_count_57 rfl lfX7_7 sm_0 rfl ?_
    refine sk_iconst (v := 0) 61 dX7_count_60 rfl (by decide) ?_
    refine sk_iald 62 dX7_count_61 rfl sm_1 (by unfold vp_in; decide) 0 rfl ?_
    exact sk_iret dX7_count_62 rfl rfl h
  · have h := h.2.2.1 e
    refine sk_aload_n 0 64 dX7_count_63 rfl rfl rfl ?_
    refine sk_getR (r := 1) 67 dX7_count_64 rfl lfX7_7 sm_0 rfl ?_
    refine sk_iconst (v := 1) 68 dX7_count_67 rfl (by decide) ?_
    refine sk_iald 69 dX7_count_68 rfl sm_1 (by unfold vp_in; decide) 1 rfl ?_
    exact sk_iret dX7_count_69 rfl rfl h
  · have h := h.2.2.2.1 e
    refine sk_aload_n 0 71 dX7_count_70 rfl rfl rfl ?_
    refine sk_getR (r := 1) 74 dX7_count_71 rfl lfX7_7 sm_0 rfl ?_
    refine sk_iconst (v := 2) 75 dX7_count_74 rfl (by decide) ?_
    refine sk_iald 76 dX7_count_75 rfl sm_1 (by unfold vp_in; decide) 2 rfl ?_
    exact sk_iret dX7_count_76 rfl rfl h
  · have h := h.2.2.2.2.1 e
    refine sk_aload_n 0 78 dX7_count_77 rfl rfl rfl ?_
    refine sk_getR (r := 1) 81 dX7_count_78 rfl lfX7_7 sm_0 rfl ?_
    refine sk_iconst (v := 4) 82 dX7_count_81 rfl (by decide) ?_
    refine sk_iald 83 dX7_count_82 rfl sm_1 (by unfold vp_in; decide) 4 rfl ?_
    exact sk_iret dX7_count_83 rfl rfl h
  · have h := h.2.2.2.2.2.1 e
    refine sk_aload_n 0 85 dX7_count_84 rfl rfl rfl ?_
    refine sk_getR (r := 1) 88 dX7_count_85 rfl lfX7_7 sm_0 rfl ?_
    refine sk_iconst (v := 5) 89 dX7_count_88 rfl (by decide) ?_
    refine sk_iald 90 dX7_count_89 rfl sm_1 (by unfold vp_in; decide) 5 rfl ?_
    exact sk_iret dX7_count_90 rfl rfl h
  · have h := h.2.2.2.2.2.2.1 e
    refine sk_aload_n 0 92 dX7_count_91 rfl rfl rfl ?_
    refine sk_getI 95 dX7_count_92 rfl lfX7_217 sm_0 rfl ?_
    exact sk_iret dX7_count_95 rfl rfl h
  · have h := h.2.2.2.2.2.2.2.1 e
    refine sk_aload_n 0 97 dX7_count_96 rfl rfl rfl ?_
    refine sk_getR (r := 1) 100 dX7_count_97 rfl lfX7_7 sm_0 rfl ?_
    refine sk_iconst (v := 3) 101 dX7_count_100 rfl (by decide) ?_
    refine sk_iald 102 dX7_count_101 rfl sm_1 (by unfold vp_in; decide) 3 rfl ?_
    exact sk_iret dX7_count_102 rfl rfl h
  · have h := h.2.2.2.2.2.2.2.2 ⟨e 0 (by decide), e 1 (by decide), e 2 (by decide), e 3 (by decide), e 4 (by decide), e 5 (by decide), e 6 (by decide), e 7 (by decide)⟩
    refine sk_aload_n 0 104 dX7_count_103 rfl rfl rfl ?_
    refine sk_iconst (v := 1) 105 dX7_count_104 rfl (by decide) ?_
    refine sk_callVi [.int 1] [] 108 dX7_count_105 rfl mfX7_error lkX7_51 miX7_error msX7_error sm_0 rfl rfl rfl rfl (by simp [Value.category]) hd0 (sk_Cm h ?_)
    rintro w t105 ⟨r105, hw, h⟩
    refine ⟨r105, hw, ?_⟩
    exact sk_iret dX7_count_108 rfl rfl h

theorem wX7_told {d : Nat} {τ : sk_T} {K : sk_K} {v1 : Int32} (hd0 : 0 < d)
  (h : sk_C sk_Sm (d - 1) mX7_in [.int v1, .int 1, .int 6] τ (fun w t4 => ∃ r4 : Int32, w = some (.int r4) ∧
      ((r4 = 0 →
        sk_C sk_Sm (d - 1) mX7_error [.ref 0, .int 1] t4 (fun w t21 => ∃ r21 : Int32, w = some (.int r21) ∧
          K (some (.int r21)) t21
        )
      ) ∧
      (¬ r4 = 0 →
        vp_in v1 7 ∧
        K (some (.int (t4 3 (v1).toNatClampNeg))) t4
      ))
    )) :
  sk_C sk_Sm d mX7_told [.ref 0, .int v1] τ K := by
  refine sk_enter mfX7_told (Nat.le_of_ble_eq_true rfl) ?_
  show sk_G sk_Sm d mX7_told 0 [(0, .ref 0), (1, .int v1)] [] τ K
  refine sk_iload_n 1 1 dX7_told_0 rfl rfl rfl ?_
  refine sk_iconst (v := 1) 2 dX7_told_1 rfl (by decide) ?_
  refine sk_bipush (v := 6) 4 dX7_told_2 rfl (by decide) ?_
  refine sk_callSi [.int v1, .int 1, .int 6] [] 7 dX7_told_4 rfl mfX7_in lkX7_47 miX7_in rfl rfl (by simp [Value.category]) hd0 (sk_Cm h ?_)
  rintro w t4 ⟨r4, hw, h⟩
  refine ⟨r4, hw, ?_⟩
  refine sk_if_eq 19 10 dX7_told_7 (by decide) rfl (fun hc => ?_) (fun hc => ?_)
  · have h := h.1 hc
    refine sk_aload_n 0 20 dX7_told_19 rfl rfl rfl ?_
    refine sk_iconst (v := 1) 21 dX7_told_20 rfl (by decide) ?_
    refine sk_callVi [.int 1] [] 24 dX7_told_21 rfl mfX7_error lkX7_51 miX7_error msX7_error sm_0 rfl rfl rfl rfl (by simp [Value.category]) hd0 (sk_Cm h ?_)
    rintro w t21 ⟨r21, hw, h⟩
    refine ⟨r21, hw, ?_⟩
    exact sk_iret dX7_told_24 rfl rfl h
  · have h := h.2 hc
    refine sk_aload_n 0 11 dX7_told_10 rfl rfl rfl ?_
    refine sk_getR (r := 3) 14 dX7_told_11 rfl lfX7_16 sm_0 rfl ?_
    refine sk_iload_n 1 15 dX7_told_14 rfl rfl rfl ?_
    have hb15 := h.1
    have h := h.2
    refine sk_iald 16 dX7_told_15 rfl sm_3 hb15 _ rfl ?_
    refine sk_goto 24 dX7_told_16 (by decide) ?_
    exact sk_iret dX7_told_24 rfl rfl h

