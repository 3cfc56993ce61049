theorem wX0_sing {d : Nat} {τ : sk_T} {K : sk_K} {q : Nat} (hq : sk_Sc[q]? = some (0, 5, [0, 0, 0, 0, 0, 0, 0])) {v2 : Int32} {v3 : Int32} {v4 : Int32} (hd0 : 0 < d)
  (h : sk_C sk_Sc (d - 1) mX0_own [.ref 46, .int v3, .int v4, .int 0] (sk_u (sk_u (sk_u (sk_u (sk_u τ 46 1 0) 46 2 0) 46 3 ((sk_u (sk_u τ 46 1 0) 46 2 0) q 0)) 46 4 ((sk_u (sk_u (sk_u τ 46 1 0) 46 2 0) 46 3 ((sk_u (sk_u τ 46 1 0) 46 2 0) q 0)) q 1)) 46 5 v2) (fun w t36 => ∃ r36 : Int32, w = some (.int r36) ∧
      K (some (.int r36)) t36
    )) :
  sk_C sk_Sc d mX0_sing [.ref 46, .ref q, .int v2, .int v3, .int v4] τ K := by
  refine sk_enter mfX0_sing (Nat.le_of_ble_eq_true rfl) ?_
  show sk_G sk_Sc d mX0_sing 0 [(0, .ref 46), (1, .ref q), (2, .int v2), (3, .int v3), (4, .int v4)] [] τ K
  refine sk_aload_n 0 1 dX0_sing_0 rfl rfl rfl ?_
  refine sk_iconst (v := 0) 2 dX0_sing_1 rfl (by decide) ?_
  refine sk_putI 5 dX0_sing_2 rfl lpX0_15 sc_46 rfl ?_
  refine sk_aload_n 0 6 dX0_sing_5 rfl rfl rfl ?_
  refine sk_iconst (v := 0) 7 dX0_sing_6 rfl (by decide) ?_
  refine sk_putB 10 dX0_sing_7 rfl lpX0_19 sc_46 rfl (by decide) ?_
  refine sk_aload_n 0 11 dX0_sing_10 rfl rfl rfl ?_
  refine sk_aload_n 1 12 dX0_sing_11 rfl rfl rfl ?_
  refine sk_getI 15 dX0_sing_12 rfl lfX0_32 hq rfl ?_
  refine sk_putI 18 dX0_sing_15 rfl lpX0_23 sc_46 rfl ?_
  refine sk_aload_n 0 19 dX0_sing_18 rfl rfl rfl ?_
  refine sk_aload_n 1 20 dX0_sing_19 rfl rfl rfl ?_
  refine sk_getI 23 dX0_sing_20 rfl lfX0_35 hq rfl ?_
  refine sk_putI 26 dX0_sing_23 rfl lpX0_26 sc_46 rfl ?_
  refine sk_aload_n 0 27 dX0_sing_26 rfl rfl rfl ?_
  refine sk_iload_n 2 28 dX0_sing_27 rfl rfl rfl ?_
  refine sk_putI 31 dX0_sing_28 rfl lpX0_29 sc_46 rfl ?_
  refine sk_aload_n 0 32 dX0_sing_31 rfl rfl rfl ?_
  refine sk_iload_n 3 33 dX0_sing_32 rfl rfl rfl ?_
  refine sk_iload 4 35 dX0_sing_33 rfl rfl ?_
  refine sk_iconst (v := 0) 36 dX0_sing_35 rfl (by decide) ?_
  refine sk_callVi [.int v3, .int v4, .int 0] [] 39 dX0_sing_36 rfl mfX0_own lkX0_36 miX0_own msX0_own sc_46 rfl rfl rfl rfl (by simp [Value.category]) hd0 (sk_Cm h ?_)
  rintro w t36 ⟨r36, hw, h⟩
  refine ⟨r36, hw, ?_⟩
  exact sk_iret dX0_sing_39 rfl rfl h

theorem wX0_own {d : Nat} {τ : sk_T} {K : sk_K} {v1 : Int32} {v2 : Int32} {v3 : Int32} (hd0 : 0 < d)
  (h : sk_C sk_Sc (d - 1) mX0_from [.ref 46, .int (τ 46 3), .int v1, .int v2, .int v3] τ (fun w t8 => ∃ r8 : Int32, w = some (.int r8) ∧
      K (some (.int r8)) t8
    )) :
  sk_C sk_Sc d mX0_own [.ref 46, .int v1, .int v2, .int v3] τ K := by
  refine sk_enter mfX0_own (Nat.le_of_ble_eq_true rfl) ?_
  show sk_G sk_Sc d mX0_own 0 [(0, .ref 46), (1, .int v1), (2, .int v2), (3, .int v3)] [] τ K
  refine sk_aload_n 0 1 dX0_own_0 rfl rfl rfl ?_
  refine sk_aload_n 0 2 dX0_own_1 rfl rfl rfl ?_
  refine sk_getI 5 dX0_own_2 rfl lfX0_23 sc_46 rfl ?_
  refine sk_iload_n 1 6 dX0_own_5 rfl rfl rfl ?_
  refine sk_iload_n 2 7 dX0_own_6 rfl rfl rfl ?_
  refine sk_iload_n 3 8 dX0_own_7 rfl rfl rfl ?_
  refine sk_callVi [.int (τ 46 3), .int v1, .int v2, .int v3] [] 11 dX0_own_8 rfl mfX0_from lkX0_40 miX0_from msX0_from sc_46 rfl rfl rfl rfl (by simp [Value.category]) hd0 (sk_Cm h ?_)
  rintro w t8 ⟨r8, hw, h⟩
  refine ⟨r8, hw, ?_⟩
  exact sk_iret dX0_own_11 rfl rfl h

theorem wX0_from {d : Nat} {τ : sk_T} {K : sk_K} {v1 : Int32} {v2 : Int32} {v3 : Int32} {v4 : Int32}
  (h : sk_G sk_Sc d mX0_from 6 [(0, .ref 46), (2, .int v2), (3, .int v3), (4, .int v4), (5, .int v1), (6, .int 0)] [] τ K) :
  sk_C sk_Sc d mX0_from [.ref 46, .int v1, .int v2, .int v3, .int v4] τ K := by
  refine sk_enter mfX0_from (Nat.le_of_ble_eq_true rfl) ?_
  show sk_G sk_Sc d mX0_from 0 [(0, .ref 46), (1, .int v1), (2, .int v2), (3, .int v3), (4, .int v4)] [] τ K
  refine sk_iload_n 1 1 dX0_from_0 rfl rfl rfl ?_
  refine sk_istore (lv2 := [(5, .int v1), (0, .ref 46), (1, .int v1), (2, .int v2), (3, .int v3), (4, .int v4)]) 3 dX0_from_1 rfl (by decide) rfl ?_
  refine sk_iconst (v := 0) 4 dX0_from_3 rfl (by decide) ?_
  refine sk_istore (lv2 := [(6, .int 0), (5, .int v1), (0, .ref 46), (1, .int v1), (2, .int v2), (3, .int v3), (4, .int v4)]) 6 dX0_from_4 rfl (by decide) rfl ?_
  refine sk_perm (lv2 := [(0, .ref 46), (2, .int v2), (3, .int v3), (4, .int v4), (5, .int v1), (6, .int 0)]) [2, 4, 5, 6, 1, 0] rfl ?_
  exact h

theorem bX0_from_6 {d : Nat} {τ : sk_T} {K : sk_K} {v2 : Int32} {v3 : Int32} {v4 : Int32} {v5 : Int32} {v6 : Int32} (hd0 : 0 < d)
  (h : ((6 < v6 →
      ((v5 < 0 →
        K (some (.int 0)) τ
      ) ∧
      (¬ v5 < 0 →
        ((v4 ≤ 30 →
          vp_in ((v5 * 4) + v2) 28 ∧
          sk_C sk_Sc (d - 1) mX5_kindAbove [.int v5] τ (fun w t71 => ∃ r71 : Int32, w = some (.int r71) ∧
            sk_C sk_Sc (d - 1) mX0_begin [.ref 46, .int (sk_bodies (((v5 * 4) + v2)).toNatClampNeg), .int r71, .int v3, .int (v4 + 1)] t71 (fun w t79 => ∃ r79 : Int32, w = some (.int r79) ∧
              K (some (.int r79)) t79
            )
          )
        ) ∧
        (¬ v4 ≤ 30 →
          K (some (.int 0)) τ
        ))
      ))
    ) ∧
    (¬ 6 < v6 →
      ((v5 ≤ 0 →
        ((v5 < 0 →
          K (some (.int 0)) τ
        ) ∧
        (¬ v5 < 0 →
          ((v4 ≤ 30 →
            vp_in ((v5 * 4) + v2) 28 ∧
            sk_C sk_Sc (d - 1) mX5_kindAbove [.int v5] τ (fun w t71 => ∃ r71 : Int32, w = some (.int r71) ∧
              sk_C sk_Sc (d - 1) mX0_begin [.ref 46, .int (sk_bodies (((v5 * 4) + v2)).toNatClampNeg), .int r71, .int v3, .int (v4 + 1)] t71 (fun w t79 => ∃ r79 : Int32, w = some (.int r79) ∧
                K (some (.int r79)) t79
              )
            )
          ) ∧
          (¬ v4 ≤ 30 →
            K (some (.int 0)) τ
          ))
        ))
      ) ∧
      (¬ v5 ≤ 0 →
        vp_in ((v5 * 4) + v2) 28 ∧
        ((¬ (sk_bodies (((v5 * 4) + v2)).toNatClampNeg) = 0 →
          ((v5 < 0 →
            K (some (.int 0)) τ
          ) ∧
          (¬ v5 < 0 →
            ((v4 ≤ 30 →
              vp_in ((v5 * 4) + v2) 28 ∧
              sk_C sk_Sc (d - 1) mX5_kindAbove [.int v5] τ (fun w t71 => ∃ r71 : Int32, w = some (.int r71) ∧
                sk_C sk_Sc (d - 1) mX0_begin [.ref 46, .int (sk_bodies (((v5 * 4) + v2)).toNatClampNeg), .int r71, .int v3, .int (v4 + 1)] t71 (fun w t79 => ∃ r79 : Int32, w = some (.int r79) ∧
                  K (some (.int r79)) t79
                )
              )
            ) ∧
            (¬ v4 ≤ 30 →
              K (some (.int 0)) τ
            ))
          ))
        ) ∧
        ((sk_bodies (((v5 * 4) + v2)).toNatClampNeg) = 0 →
          sk_C sk_Sc (d - 1) mX5_kindAbove [.int v5] τ (fun w t33 => ∃ r33 : Int32, w = some (.int r33) ∧
            sk_G sk_Sc d mX0_from 6 [(0, .ref 46), (2, .int v2), (3, .int v3), (4, .int v4), (5, .int r33), (6, .int (v6 + 1))] [] t33 K
          )
        ))
      ))
    ))) :
  sk_G sk_Sc d mX0_from 6 [(0, .ref 46), (2, .int v2), (3, .int v3), (4, .int v4), (5, .int v5), (6, .int v6)] [] τ K := by
  refine sk_iload 5 8 dX0_from_6 rfl rfl ?_
  refine sk_bipush (v := 6) 10 dX0_from_8 rfl (by decide) ?_
  refine sk_icmp_gt 44 13 dX0_from_10 (by decide) rfl (fun hc => ?_) (fun hc => ?_)
  · have h := h.1 hc
    refine sk_iload 4 46 dX0_from_44 rfl rfl ?_
    refine sk_if_lt 56 49 dX0_from_46 (by decide) rfl (fun hc => ?_) (fun hc => ?_)
    · have h := h.1 hc
      refine sk_iconst (v := 0) 57 dX0_from_56 rfl (by decide) ?_
      exact sk_iret dX0_from_57 rfl rfl h
    · have h := h.2 hc
      refine sk_iload 3 51 dX0_from_49 rfl rfl ?_
      refine sk_bipush (v := 30) 53 dX0_from_51 rfl (by decide) ?_
      refine sk_icmp_le 58 56 dX0_from_53 (by decide) rfl (fun hc => ?_) (fun hc => ?_)
      · have h := h.1 hc
        refine sk_aload_n 0 59 dX0_from_58 rfl rfl rfl ?_
        refine sk_gsB 62 dX0_from_59 rfl flX0_44 ?_
        refine sk_iload 4 64 dX0_from_62 rfl rfl ?_
        refine sk_iconst (v := 4) 65 dX0_from_64 rfl (by decide) ?_
        refine sk_imul 66 dX0_from_65 rfl ?_
        refine sk_iload_n 1 67 dX0_from_66 rfl rfl rfl ?_
        refine sk_iadd 68 dX0_from_67 rfl ?_
        have hb68 := h.1
        have h := h.2
        refine sk_ldB 69 dX0_from_68 rfl hb68 _ rfl ?_
        refine sk_iload 4 71 dX0_from_69 rfl rfl ?_
        refine sk_callSi [.int v5] [.int (sk_bodies (((v5 * 4) + v2)).toNatClampNeg), .ref 46] 74 dX0_from_71 rfl mfX5_kindAbove lkX0_47 miX5_kindAbove rfl rfl (by simp [Value.category]) hd0 (sk_Cm h ?_)
        rintro w t71 ⟨r71, hw, h⟩
        refine ⟨r71, hw, ?_⟩
        refine sk_iload_n 2 75 dX0_from_74 rfl rfl rfl ?_
        refine sk_iload 3 77 dX0_from_75 rfl rfl ?_
        refine sk_iconst (v := 1) 78 dX0_from_77 rfl (by decide) ?_
        refine sk_iadd 79 dX0_from_78 rfl ?_
        refine sk_callVi [.int (sk_bodies (((v5 * 4) + v2)).toNatClampNeg), .int r71, .int v3, .int (v4 + 1)] [] 82 dX0_from_79 rfl mfX0_begin lkX0_51 miX0_begin msX0_begin sc_46 rfl rfl rfl rfl (by simp [Value.category]) hd0 (sk_Cm h ?_)
        rintro w t79 ⟨r79, hw, h⟩
        refine ⟨r79, hw, ?_⟩
        exact sk_iret dX0_from_82 rfl rfl h
      · have h := h.2 hc
        refine sk_iconst (v := 0) 57 dX0_from_56 rfl (by decide) ?_
        exact sk_iret dX0_from_57 rfl rfl h
  · have h := h.2 hc
    refine sk_iload 4 15 dX0_from_13 rfl rfl ?_
    refine sk_if_le 44 18 dX0_from_15 (by decide) rfl (fun hc => ?_) (fun hc => ?_)
    · have h := h.1 hc
      refine sk_iload 4 46 dX0_from_44 rfl rfl ?_
      refine sk_if_lt 56 49 dX0_from_46 (by decide) rfl (fun hc => ?_) (fun hc => ?_)
      · have h := h.1 hc
        refine sk_iconst (v := 0) 57 dX0_from_56 rfl (by decide) ?_
        exact sk_iret dX0_from_57 rfl rfl h
      · have h := h.2 hc
        refine sk_iload 3 51 dX0_from_49 rfl rfl ?_
        refine sk_bipush (v := 30) 53 dX0_from_51 rfl (by decide) ?_
        refine sk_icmp_le 58 56 dX0_from_53 (by decide) rfl (fun hc => ?_) (fun hc => ?_)
        · have h := h.1 hc
          refine sk_aload_n 0 59 dX0_from_58 rfl rfl rfl ?_
          refine sk_gsB 62 dX0_from_59 rfl flX0_44 ?_
          refine sk_iload 4 64 dX0_from_62 rfl rfl ?_
          refine sk_iconst (v := 4) 65 dX0_from_64 rfl (by decide) ?_
          refine sk_imul 66 dX0_from_65 rfl ?_
          refine sk_iload_n 1 67 dX0_from_66 rfl rfl rfl ?_
          refine sk_iadd 68 dX0_from_67 rfl ?_
          have hb68 := h.1
          have h := h.2
          refine sk_ldB 69 dX0_from_68 rfl hb68 _ rfl ?_
          refine sk_iload 4 71 dX0_from_69 rfl rfl ?_
          refine sk_callSi [.int v5] [.int (sk_bodies (((v5 * 4) + v2)).toNatClampNeg), .ref 46] 74 dX0_from_71 rfl mfX5_kindAbove lkX0_47 miX5_kindAbove rfl rfl (by simp [Value.category]) hd0 (sk_Cm h ?_)
          rintro w t71 ⟨r71, hw, h⟩
          refine ⟨r71, hw, ?_⟩
          refine sk_iload_n 2 75 dX0_from_74 rfl rfl rfl ?_
          refine sk_iload 3 77 dX0_from_75 rfl rfl ?_
          refine sk_iconst (v := 1) 78 dX0_from_77 rfl (by decide) ?_
          refine sk_iadd 79 dX0_from_78 rfl ?_
          refine sk_callVi [.int (sk_bodies (((v5 * 4) + v2)).toNatClampNeg), .int r71, .int v3, .int (v4 + 1)] [] 82 dX0_from_79 rfl mfX0_begin lkX0_51 miX0_begin msX0_begin sc_46 rfl rfl rfl rfl (by simp [Value.category]) hd0 (sk_Cm h ?_)
          rintro w t79 ⟨r79, hw, h⟩
          refine ⟨r79, hw, ?_⟩
          exact sk_iret dX0_from_82 rfl rfl h
        · have h := h.2 hc
          refine sk_iconst (v := 0) 57 dX0_from_56 rfl (by decide) ?_
          exact sk_iret dX0_from_57 rfl rfl h
    · have h := h.2 hc
      refine sk_gsB 21 dX0_from_18 rfl flX0_44 ?_
      refine sk_iload 4 23 dX0_from_21 rfl rfl ?_
      refine sk_iconst (v := 4) 24 dX0_from_23 rfl (by decide) ?_
      refine sk_imul 25 dX0_from_24 rfl ?_
      refine sk_iload_n 1 26 dX0_from_25 rfl rfl rfl ?_
      refine sk_iadd 27 dX0_from_26 rfl ?_
      have hb27 := h.1
      have h := h.2
      refine sk_ldB 28 dX0_from_27 rfl hb27 _ rfl ?_
      refine sk_if_ne 44 31 dX0_from_28 (by decide) rfl (fun hc => ?_) (fun hc => ?_)
      · have h := h.1 hc
        refine sk_iload 4 46 dX0_from_44 rfl rfl ?_
        refine sk_if_lt 56 49 dX0_from_46 (by decide) rfl (fun hc => ?_) (fun hc => ?_)
        · have h := h.1 hc
          refine sk_iconst (v := 0) 57 dX0_from_56 rfl (by decide) ?_
          exact sk_iret dX0_from_57 rfl rfl h
        · have h := h.2 hc
          refine sk_iload 3 51 dX0_from_49 rfl rfl ?_
          refine sk_bipush (v := 30) 53 dX0_from_51 rfl (by decide) ?_
          refine sk_icmp_le 58 56 dX0_from_53 (by decide) rfl (fun hc => ?_) (fun hc => ?_)
          · have h := h.1 hc
            refine sk_aload_n 0 59 dX0_from_58 rfl rfl rfl ?_
            refine sk_gsB 62 dX0_from_59 rfl flX0_44 ?_
            refine sk_iload 4 64 dX0_from_62 rfl rfl ?_
            refine sk_iconst (v := 4) 65 dX0_from_64 rfl (by decide) ?_
            refine sk_imul 66 dX0_from_65 rfl ?_
            refine sk_iload_n 1 67 dX0_from_66 rfl rfl rfl ?_
            refine sk_iadd 68 dX0_from_67 rfl ?_
            have hb68 := h.1
            have h := h.2
            refine sk_ldB 69 dX0_from_68 rfl hb68 _ rfl ?_
            refine sk_iload 4 71 dX0_from_69 rfl rfl ?_
            refine sk_callSi [.int v5] [.int (sk_bodies (((v5 * 4) + v2)).toNatClampNeg), .ref 46] 74 dX0_from_71 rfl mfX5_kindAbove lkX0_47 miX5_kindAbove rfl rfl (by simp [Value.category]) hd0 (sk_Cm h ?_)
            rintro w t71 ⟨r71, hw, h⟩
            refine ⟨r71, hw, ?_⟩
            refine sk_iload_n 2 75 dX0_from_74 rfl rfl rfl ?_
            refine sk_iload 3 77 dX0_from_75 rfl rfl ?_
            refine sk_iconst (v := 1) 78 dX0_from_77 rfl (by decide) ?_
            refine sk_iadd 79 dX0_from_78 rfl ?_
            refine sk_callVi [.int (sk_bodies (((v5 * 4) + v2)).toNatClampNeg), .int r71, .int v3, .int (v4 + 1)] [] 82 dX0_from_79 rfl mfX0_begin lkX0_51 miX0_begin msX0_begin sc_46 rfl rfl rfl rfl (by simp [Value.category]) hd0 (sk_Cm h ?_)
            rintro w t79 ⟨r79, hw, h⟩
            refine ⟨r79, hw, ?_⟩
            exact sk_iret dX0_from_82 rfl rfl h
          · have h := h.2 hc
            refine sk_iconst (v := 0) 57 dX0_from_56 rfl (by decide) ?_
            exact sk_iret dX0_from_57 rfl rfl h
      · have h := h.2 hc
        refine sk_iload 4 33 dX0_from_31 rfl rfl ?_
        refine sk_callSi [.int v5] [] 36 dX0_from_33 rfl mfX5_kindAbove lkX0_47 miX5_kindAbove rfl rfl (by simp [Value.category]) hd0 (sk_Cm h ?_)
        rintro w t33 ⟨r33, hw, h⟩
        refine ⟨r33, hw, ?_⟩
        refine sk_istore (lv2 := [(5, .int r33), (0, .ref 46), (2, .int v2), (3, .int v3), (4, .int v4), (6, .int v6)]) 38 dX0_from_36 rfl (by decide) rfl ?_
        refine sk_iinc (v := (v6 + 1)) (lv2 := [(6, .int (v6 + 1)), (5, .int r33), (0, .ref 46), (2, .int v2), (3, .int v3), (4, .int v4)]) 5 41 dX0_from_38 rfl rfl rfl (by decide) rfl ?_
        refine sk_goto 6 dX0_from_41 (by decide) ?_
        refine sk_perm (lv2 := [(0, .ref 46), (2, .int v2), (3, .int v3), (4, .int v4), (5, .int r33), (6, .int (v6 + 1))]) [2, 3, 4, 5, 1, 0] rfl ?_
        exact h

theorem wX0_begin {d : Nat} {τ : sk_T} {K : sk_K} {v1 : Int32} {v2 : Int32} {v3 : Int32} {v4 : Int32} (hd0 : 0 < d)
  (h : ((30 ≤ (τ 46 1) →
      (
      (v1 = 10 →
        K (some (.int (v3 + (τ 46 5)))) τ
      ) ∧
      (v1 = 11 →
        sk_C sk_Sc (d - 1) mX0_own [.ref 46, .int 0, .int v3, .int v4] τ (fun w t156 => ∃ r156 : Int32, w = some (.int r156) ∧
          K (some (.int (r156 * 2))) t156
        )
      ) ∧
      (v1 = 12 →
        sk_C sk_Sc (d - 1) mX0_own [.ref 46, .int 1, .int v3, .int v4] τ (fun w t167 => ∃ r167 : Int32, w = some (.int r167) ∧
          K (some (.int (r167 - (t167 46 4)))) t167
        )
      ) ∧
      (v1 = 13 →
        sk_C sk_Sc (d - 1) mX0_shared [.ref 46, .int v3] τ (fun w t178 => ∃ r178 : Int32, w = some (.int r178) ∧
          K (some (.int r178)) t178
        )
      ) ∧
      (v1 = 20 →
        sk_C sk_Sc (d - 1) mX0_from [.ref 46, .int v2, .int 0, .int v3, .int v4] τ (fun w t188 => ∃ r188 : Int32, w = some (.int r188) ∧
          K (some (.int (r188 - 4))) t188
        )
      ) ∧
      (v1 = 21 →
        sk_C sk_Sc (d - 1) mX0_partsAndRings [.ref 46, .int v2, .int v3, .int v4] τ (fun w t199 => ∃ r199 : Int32, w = some (.int r199) ∧
          K (some (.int r199)) t199
        )
      ) ∧
      (v1 = 30 →
        sk_C sk_Sc (d - 1) mX0_from [.ref 46, .int v2, .int 1, .int v3, .int v4] τ (fun w t210 => ∃ r210 : Int32, w = some (.int r210) ∧
          K (some (.int (0 - r210))) t210
        )
      ) ∧
      (v1 = 40 →
        sk_C sk_Sc (d - 1) mX0_from [.ref 46, .int v2, .int 2, .int (v3 / 2), .int v4] τ (fun w t223 => ∃ r223 : Int32, w = some (.int r223) ∧
          K (some (.int r223)) t223
        )
      ) ∧
      (v1 = 50 →
        sk_C sk_Sc (d - 1) mX0_from [.ref 46, .int v2, .int 0, .int v3, .int v4] τ (fun w t233 => ∃ r233 : Int32, w = some (.int r233) ∧
          K (some (.int (r233 * 3))) t233
        )
      ) ∧
      (v1 = 51 →
        sk_C sk_Sc (d - 1) mX0_from [.ref 46, .int v2, .int 2, .int v3, .int v4] τ (fun w t245 => ∃ r245 : Int32, w = some (.int r245) ∧
          K (some (.int (r245 ^^^ (t245 46 5)))) t245
        )
      ) ∧
      (v1 = 60 →
        sk_C sk_Sc (d - 1) mX0_from [.ref 46, .int v2, .int 1, .int (v3 + 1), .int v4] τ (fun w t262 => ∃ r262 : Int32, w = some (.int r262) ∧
          K (some (.int r262)) t262
        )
      ) ∧
      (v1 = 70 →
        K (some (.int 9)) τ
      ) ∧
      (v1 = 71 →
        sk_C sk_Sc (d - 1) mX0_from [.ref 46, .int v2, .int 1, .int v3, .int v4] τ (fun w t275 => ∃ r275 : Int32, w = some (.int r275) ∧
          K (some (.int (r275 + (t275 46 4)))) t275
        )
      ) ∧
      ((¬ v1 = 10 ∧ ¬ v1 = 11 ∧ ¬ v1 = 12 ∧ ¬ v1 = 13 ∧ ¬ v1 = 20 ∧ ¬ v1 = 21 ∧ ¬ v1 = 30 ∧ ¬ v1 = 40 ∧ ¬ v1 = 50 ∧ ¬ v1 = 51 ∧ ¬ v1 = 60 ∧ ¬ v1 = 70 ∧ ¬ v1 = 71) →
        K (some (.int 0)) τ
      ))
    ) ∧
    (¬ 30 ≤ (τ 46 1) →
      vp_in (τ 46 1) 30 ∧
      (
      (v1 = 10 →
        K (some (.int (v3 + ((sk_u (sk_u τ 47 ((τ 46 1)).toNatClampNeg v1) 46 1 (((sk_u τ 47 ((τ 46 1)).toNatClampNeg v1) 46 1) + 1)) 46 5)))) (sk_u (sk_u τ 47 ((τ 46 1)).toNatClampNeg v1) 46 1 (((sk_u τ 47 ((τ 46 1)).toNatClampNeg v1) 46 1) + 1))
      ) ∧
      (v1 = 11 →
        sk_C sk_Sc (d - 1) mX0_own [.ref 46, .int 0, .int v3, .int v4] (sk_u (sk_u τ 47 ((τ 46 1)).toNatClampNeg v1) 46 1 (((sk_u τ 47 ((τ 46 1)).toNatClampNeg v1) 46 1) + 1)) (fun w t156 => ∃ r156 : Int32, w = some (.int r156) ∧
          K (some (.int (r156 * 2))) t156
        )
      ) ∧
      (v1 = 12 →
        sk_C sk_Sc (d - 1) mX0_own [.ref 46, .int 1, .int v3, .int v4] (sk_u (sk_u τ 47 ((τ 46 1)).toNatClampNeg v1) 46 1 (((sk_u τ 47 ((τ 46 1)).toNatClampNeg v1) 46 1) + 1)) (fun w t167 => ∃ r167 : Int32, w = some (.int r167) ∧
          K (some (.int (r167 - (t167 46 4)))) t167
        )
      ) ∧
      (v1 = 13 →
        sk_C sk_Sc (d - 1) mX0_shared [.ref 46, .int v3] (sk_u (sk_u τ 47 ((τ 46 1)).toNatClampNeg v1) 46 1 (((sk_u τ 47 ((τ 46 1)).toNatClampNeg v1) 46 1) + 1)) (fun w t178 => ∃ r178 : Int32, w = some (.int r178) ∧
          K (some (.int r178)) t178
        )
      ) ∧
      (v1 = 20 →
        sk_C sk_Sc (d - 1) mX0_from [.ref 46, .int v2, .int 0, .int v3, .int v4] (sk_u (sk_u τ 47 ((τ 46 1)).toNatClampNeg v1) 46 1 (((sk_u τ 47 ((τ 46 1)).toNatClampNeg v1) 46 1) + 1)) (fun w t188 => ∃ r188 : Int32, w = some (.int r188) ∧
          K (some (.int (r188 - 4))) t188
        )
      ) ∧
      (v1 = 21 →
        sk_C sk_Sc (d - 1) mX0_partsAndRings [.ref 46, .int v2, .int v3, .int v4] (sk_u (sk_u τ 47 ((τ 46 1)).toNatClampNeg v1) 46 1 (((sk_u τ 47 ((τ 46 1)).toNatClampNeg v1) 46 1) + 1)) (fun w t199 => ∃ r199 : Int32, w = some (.int r199) ∧
          K (some (.int r199)) t199
        )
      ) ∧
      (v1 = 30 →
        sk_C sk_Sc (d - 1) mX0_from [.ref 46, .int v2, .int 1, .int v3, .int v4] (sk_u (sk_u τ 47 ((τ 46 1)).toNatClampNeg v1) 46 1 (((sk_u τ 47 ((τ 46 1)).toNatClampNeg v1) 46 1) + 1)) (fun w t210 => ∃ r210 : Int32, w = some (.int r210) ∧
          K (some (.int (0 - r210))) t210
        )
      ) ∧
      (v1 = 40 →
        sk_C sk_Sc (d - 1) mX0_from [.ref 46, .int v2, .int 2, .int (v3 / 2), .int v4] (sk_u (sk_u τ 47 ((τ 46 1)).toNatClampNeg v1) 46 1 (((sk_u τ 47 ((τ 46 1)).toNatClampNeg v1) 46 1) + 1)) (fun w t223 => ∃ r223 : Int32, w = some (.int r223) ∧
          K (some (.int r223)) t223
        )
      ) ∧
      (v1 = 50 →
        sk_C sk_Sc (d - 1) mX0_from [.ref 46, .int v2, .int 0, .int v3, .int v4] (sk_u (sk_u τ 47 ((τ 46 1)).toNatClampNeg v1) 46 1 (((sk_u τ 47 ((τ 46 1)).toNatClampNeg v1) 46 1) + 1)) (fun w t233 => ∃ r233 : Int32, w = some (.int r233) ∧
          K (some (.int (r233 * 3))) t233
        )
      ) ∧
      (v1 = 51 →
        sk_C sk_Sc (d - 1) mX0_from [.ref 46, .int v2, .int 2, .int v3, .int v4] (sk_u (sk_u τ 47 ((τ 46 1)).toNatClampNeg v1) 46 1 (((sk_u τ 47 ((τ 46 1)).toNatClampNeg v1) 46 1) + 1)) (fun w t245 => ∃ r245 : Int32, w = some (.int r245) ∧
          K (some (.int (r245 ^^^ (t245 46 5)))) t245
        )
      ) ∧
      (v1 = 60 →
        sk_C sk_Sc (d - 1) mX0_from [.ref 46, .int v2, .int 1, .int (v3 + 1), .int v4] (sk_u (sk_u τ 47 ((τ 46 1)).toNatClampNeg v1) 46 1 (((sk_u τ 47 ((τ 46 1)).toNatClampNeg v1) 46 1) + 1)) (fun w t262 => ∃ r262 : Int32, w = some (.int r262) ∧
          K (some (.int r262)) t262
        )
      ) ∧
      (v1 = 70 →
        K (some (.int 9)) (sk_u (sk_u τ 47 ((τ 46 1)).toNatClampNeg v1) 46 1 (((sk_u τ 47 ((τ 46 1)).toNatClampNeg v1) 46 1) + 1))
      ) ∧
      (v1 = 71 →
        sk_C sk_Sc (d - 1) mX0_from [.ref 46, .int v2, .int 1, .int v3, .int v4] (sk_u (sk_u τ 47 ((τ 46 1)).toNatClampNeg v1) 46 1 (((sk_u τ 47 ((τ 46 1)).toNatClampNeg v1) 46 1) + 1)) (fun w t275 => ∃ r275 : Int32, w = some (.int r275) ∧
          K (some (.int (r275 + (t275 46 4)))) t275
        )
      ) ∧
      ((¬ v1 = 10 ∧ ¬ v1 = 11 ∧ ¬ v1 = 12 ∧ ¬ v1 = 13 ∧ ¬ v1 = 20 ∧ ¬ v1 = 21 ∧ ¬ v1 = 30 ∧ ¬ v1 = 40 ∧ ¬ v1 = 50 ∧ ¬ v1 = 51 ∧ ¬ v1 = 60 ∧ ¬ v1 = 70 ∧ ¬ v1 = 71) →
        K (some (.int 0)) (sk_u (sk_u τ 47 ((τ 46 1)).toNatClampNeg v1) 46 1 (((sk_u τ 47 ((τ 46 1)).toNatClampNeg v1) 46 1) + 1))
      ))
    ))) :
  sk_C sk_Sc d mX0_begin [.ref 46, .int v1, .int v2, .int v3, .int v4] τ K := by
  refine sk_enter mfX0_begin (Nat.le_of_ble_eq_true rfl) ?_
  show sk_G sk_Sc d mX0_begin 0 [(0, .ref 46), (1, .int v1), (2, .int v2), (3, .int v3), (4, .int v4)] [] τ K
  refine sk_aload_n 0 1 dX0_begin_0 rfl rfl rfl ?_
  refine sk_getI 4 dX0_begin_1 rfl lfX0_15 sc_46 rfl ?_
  refine sk_bipush (v := 30) 6 dX0_begin_4 rfl (by decide) ?_
  refine sk_icmp_ge 29 9 dX0_begin_6 (by decide) rfl (fun hc => ?_) (fun hc => ?_)
  · have h := h.1 hc
    refine sk_iload_n 1 30 dX0_begin_29 rfl rfl rfl ?_
    refine sk_look [(10, 144), (11, 151), (12, 162), (13, 176), (20, 182), (21, 194), (30, 203), (40, 215), (50, 227), (51, 239), (60, 254), (70, 266), (71, 269)] 284 dX0_begin_30 (by decide) (by decide) (by decide) (by decide) ⟨fun e => ?_, fun e => ?_, fun e => ?_, fun e => ?_, fun e => ?_, fun e => ?_, fun e => ?_, fun e => ?_, fun e => ?_, fun e => ?_, fun e => ?_, fun e => ?_, fun e => ?_, trivial⟩ (fun e => ?_)
    · have h := h.1 e
      refine sk_iload_n 3 145 dX0_begin_144 rfl rfl rfl ?_
      refine sk_aload_n 0 146 dX0_begin_145 rfl rfl rfl ?_
      refine sk_getI 149 dX0_begin_146 rfl lfX0_29 sc_46 rfl ?_
      refine sk_iadd 150 dX0_begin_149 rfl ?_
      exact sk_iret dX0_begin_150 rfl rfl h
    · have h := h.2.1 e
      refine sk_aload_n 0 152 dX0_begin_151 rfl rfl rfl ?_
      refine sk_iconst (v := 0) 153 dX0_begin_152 rfl (by decide) ?_
      refine sk_iload_n 3 154 dX0_begin_153 rfl rfl rfl ?_
      refine sk_iload 4 156 dX0_begin_154 rfl rfl ?_
      refine sk_callVi [.int 0, .int v3, .int v4] [] 159 dX0_begin_156 rfl mfX0_own lkX0_36 miX0_own msX0_own sc_46 rfl rfl rfl rfl (by simp [Value.category]) hd0 (sk_Cm h ?_)
      rintro w t156 ⟨r156, hw, h⟩
      refine ⟨r156, hw, ?_⟩
      refine sk_iconst (v := 2) 160 dX0_begin_159 rfl (by decide) ?_
      refine sk_imul 161 dX0_begin_160 rfl ?_
      exact sk_iret dX0_begin_161 rfl rfl h
    · have h := h.2.2.1 e
      refine sk_aload_n 0 163 dX0_begin_162 rfl rfl rfl ?_
      refine sk_iconst (v := 1) 164 dX0_begin_163 rfl (by decide) ?_
      refine sk_iload_n 3 165 dX0_begin_164 rfl rfl rfl ?_
      refine sk_iload 4 167 dX0_begin_165 rfl rfl ?_
      refine sk_callVi [.int 1, .int v3, .int v4] [] 170 dX0_begin_167 rfl mfX0_own lkX0_36 miX0_own msX0_own sc_46 rfl rfl rfl rfl (by simp [Value.category]) hd0 (sk_Cm h ?_)
      rintro w t167 ⟨r167, hw, h⟩
      refine ⟨r167, hw, ?_⟩
      refine sk_aload_n 0 171 dX0_begin_170 rfl rfl rfl ?_
      refine sk_getI 174 dX0_begin_171 rfl lfX0_26 sc_46 rfl ?_
      refine sk_isub 175 dX0_begin_174 rfl ?_
      exact sk_iret dX0_begin_175 rfl rfl h
    · have h := h.2.2.2.1 e
      refine sk_aload_n 0 177 dX0_begin_176 rfl rfl rfl ?_
      refine sk_iload_n 3 178 dX0_begin_177 rfl rfl rfl ?_
      refine sk_callVi [.int v3] [] 181 dX0_begin_178 rfl mfX0_shared lkX0_54 miX0_shared msX0_shared sc_46 rfl rfl rfl rfl (by simp [Value.category]) hd0 (sk_Cm h ?_)
      rintro w t178 ⟨r178, hw, h⟩
      refine ⟨r178, hw, ?_⟩
      exact sk_iret dX0_begin_181 rfl rfl h
    · have h := h.2.2.2.2.1 e
      refine sk_aload_n 0 183 dX0_begin_182 rfl rfl rfl ?_
      refine sk_iload_n 2 184 dX0_begin_183 rfl rfl rfl ?_
      refine sk_iconst (v := 0) 185 dX0_begin_184 rfl (by decide) ?_
      refine sk_iload_n 3 186 dX0_begin_185 rfl rfl rfl ?_
      refine sk_iload 4 188 dX0_begin_186 rfl rfl ?_
      refine sk_callVi [.int v2, .int 0, .int v3, .int v4] [] 191 dX0_begin_188 rfl mfX0_from lkX0_40 miX0_from msX0_from sc_46 rfl rfl rfl rfl (by simp [Value.category]) hd0 (sk_Cm h ?_)
      rintro w t188 ⟨r188, hw, h⟩
      refine ⟨r188, hw, ?_⟩
      refine sk_iconst (v := 4) 192 dX0_begin_191 rfl (by decide) ?_
      refine sk_isub 193 dX0_begin_192 rfl ?_
      exact sk_iret dX0_begin_193 rfl rfl h
    · have h := h.2.2.2.2.2.1 e
      refine sk_aload_n 0 195 dX0_begin_194 rfl rfl rfl ?_
      refine sk_iload_n 2 196 dX0_begin_195 rfl rfl rfl ?_
      refine sk_iload_n 3 197 dX0_begin_196 rfl rfl rfl ?_
      refine sk_iload 4 199 dX0_begin_197 rfl rfl ?_
      refine sk_callVi [.int v2, .int v3, .int v4] [] 202 dX0_begin_199 rfl mfX0_partsAndRings lkX0_57 miX0_partsAndRings msX0_partsAndRings sc_46 rfl rfl rfl rfl (by simp [Value.category]) hd0 (sk_Cm h ?_)
      rintro w t199 ⟨r199, hw, h⟩
      refine ⟨r199, hw, ?_⟩
      exact sk_iret dX0_begin_202 rfl rfl h
    · have h := h.2.2.2.2.2.2.1 e
      refine sk_iconst (v := 0) 204 dX0_begin_203 rfl (by decide) ?_
      refine sk_aload_n 0 205 dX0_begin_204 rfl rfl rfl ?_
      refine sk_iload_n 2 206 dX0_begin_205 rfl rfl rfl ?_
      refine sk_iconst (v := 1) 207 dX0_begin_206 rfl (by decide) ?_
      refine sk_iload_n 3 208 dX0_begin_207 rfl rfl rfl ?_
      refine sk_iload 4 210 dX0_begin_208 rfl rfl ?_
      refine sk_callVi [.int v2, .int 1, .int v3, .int v4] [.int 0] 213 dX0_begin_210 rfl mfX0_from lkX0_40 miX0_from msX0_from sc_46 rfl rfl rfl rfl (by simp [Value.category]) hd0 (sk_Cm h ?_)
      rintro w t210 ⟨r210, hw, h⟩
      refine ⟨r210, hw, ?_⟩
      refine sk_isub 214 dX0_begin_213 rfl ?_
      exact sk_iret dX0_begin_214 rfl rfl h
    · have h := h.2.2.2.2.2.2.2.1 e
      refine sk_aload_n 0 216 dX0_begin_215 rfl rfl rfl ?_
      refine sk_iload_n 2 217 dX0_begin_216 rfl rfl rfl ?_
      refine sk_iconst (v := 2) 218 dX0_begin_217 rfl (by decide) ?_
      refine sk_iload_n 3 219 dX0_begin_218 rfl rfl rfl ?_
      refine sk_iconst (v := 2) 220 dX0_begin_219 rfl (by decide) ?_
      refine sk_idiv 221 dX0_begin_220 rfl (by decide) ?_
      refine sk_iload 4 223 dX0_begin_221 rfl rfl ?_
      refine sk_callVi [.int v2, .int 2, .int (v3 / 2), .int v4] [] 226 dX0_begin_223 rfl mfX0_from lkX0_40 miX0_from msX0_from sc_46 rfl rfl rfl rfl (by simp [Value.category]) hd0 (sk_Cm h ?_)
      rintro w t223 ⟨r223, hw, h⟩
      refine ⟨r223, hw, ?_⟩
      exact sk_iret dX0_begin_226 rfl rfl h
    · have h := h.2.2.2.2.2.2.2.2.1 e
      refine sk_aload_n 0 228 dX0_begin_227 rfl rfl rfl ?_
      refine sk_iload_n 2 229 dX0_begin_228 rfl rfl rfl ?_
      refine sk_iconst (v := 0) 230 dX0_begin_229 rfl (by decide) ?_
      refine sk_iload_n 3 231 dX0_begin_230 rfl rfl rfl ?_
      refine sk_iload 4 233 dX0_begin_231 rfl rfl ?_
      refine sk_callVi [.int v2, .int 0, .int v3, .int v4] [] 236 dX0_begin_233 rfl mfX0_from lkX0_40 miX0_from msX0_from sc_46 rfl rfl rfl rfl (by simp [Value.category]) hd0 (sk_Cm h ?_)
      rintro w t233 ⟨r233, hw, h⟩
      refine ⟨r233, hw, ?_⟩
      refine sk_iconst (v := 3) 237 dX0_begin_236 rfl (by decide) ?_
      refine sk_imul 238 dX0_begin_237 rfl ?_
      exact sk_iret dX0_begin_238 rfl rfl h
    · have h := h.2.2.2.2.2.2.2.2.2.1 e
      refine sk_aload_n 0 240 dX0_begin_239 rfl rfl rfl ?_
      refine sk_iload_n 2 241 dX0_begin_240 rfl rfl rfl ?_
      refine sk_iconst (v := 2) 242 dX0_begin_241 rfl (by decide) ?_
      refine sk_iload_n 3 243 dX0_begin_242 rfl rfl rfl ?_
      refine sk_iload 4 245 dX0_begin_243 rfl rfl ?_
      refine sk_callVi [.int v2, .int 2, .int v3, .int v4] [] 248 dX0_begin_245 rfl mfX0_from lkX0_40 miX0_from msX0_from sc_46 rfl rfl rfl rfl (by simp [Value.category]) hd0 (sk_Cm h ?_)
      rintro w t245 ⟨r245, hw, h⟩
      refine ⟨r245, hw, ?_⟩
      refine sk_aload_n 0 249 dX0_begin_248 rfl rfl rfl ?_
      refine sk_getI 252 dX0_begin_249 rfl lfX0_29 sc_46 rfl ?_
      refine sk_ixor 253 dX0_begin_252 rfl ?_
      exact sk_iret dX0_begin_253 rfl rfl h
    · have h := h.2.2.2.2.2.2.2.2.2.2.1 e
      refine sk_aload_n 0 255 dX0_begin_254 rfl rfl rfl ?_
      refine sk_iload_n 2 256 dX0_begin_255 rfl rfl rfl ?_
      refine sk_iconst (v := 1) 257 dX0_begin_256 rfl (by decide) ?_
      refine sk_iload_n 3 258 dX0_begin_257 rfl rfl rfl ?_
      refine sk_iconst (v := 1) 259 dX0_begin_258 rfl (by decide) ?_
      refine sk_iadd 260 dX0_begin_259 rfl ?_
      refine sk_iload 4 262 dX0_begin_260 rfl rfl ?_
      refine sk_callVi [.int v2, .int 1, .int (v3 + 1), .int v4] [] 265 dX0_begin_262 rfl mfX0_from lkX0_40 miX0_from msX0_from sc_46 rfl rfl rfl rfl (by simp [Value.category]) hd0 (sk_Cm h ?_)
      rintro w t262 ⟨r262, hw, h⟩
      refine ⟨r262, hw, ?_⟩
      exact sk_iret dX0_begin_265 rfl rfl h
    · have h := h.2.2.2.2.2.2.2.2.2.2.2.1 e
      refine sk_bipush (v := 9) 268 dX0_begin_266 rfl (by decide) ?_
      exact sk_iret dX0_begin_268 rfl rfl h
    · have h := h.2.2.2.2.2.2.2.2.2.2.2.2.1 e
      refine sk_aload_n 0 270 dX0_begin_269 rfl rfl rfl ?_
      refine sk_iload_n 2 271 dX0_begin_270 rfl rfl rfl ?_
      refine sk_iconst (v := 1) 272 dX0_begin_271 rfl (by decide) ?_
      refine sk_iload_n 3 273 dX0_begin_272 rfl rfl rfl ?_
      refine sk_iload 4 275 dX0_begin_273 rfl rfl ?_
      refine sk_callVi [.int v2, .int 1, .int v3, .int v4] [] 278 dX0_begin_275 rfl mfX0_from lkX0_40 miX0_from msX0_from sc_46 rfl rfl rfl rfl (by simp [Value.category]) hd0 (sk_Cm h ?_)
      rintro w t275 ⟨r275, hw, h⟩
      refine ⟨r275, hw, ?_⟩
      refine sk_aload_n 0 279 dX0_begin_278 rfl rfl rfl ?_
      refine sk_getI 282 dX0_begin_279 rfl lfX0_26 sc_46 rfl ?_
      refine sk_iadd 283 dX0_begin_282 rfl ?_
      exact sk_iret dX0_begin_283 rfl rfl h
    · have h := h.2.2.2.2.2.2.2.2.2.2.2.2.2 ⟨e (10, 144) (by decide), e (11, 151) (by decide), e (12, 162) (by decide), e (13, 176) (by decide), e (20, 182) (by decide), e (21, 194) (by decide), e (30, 203) (by decide), e (40, 215) (by decide), e (50, 227) (by decide), e (51, 239) (by decide), e (60, 254) (by decide), e (70, 266) (by decide), e (71, 269) (by decide)⟩
      refine sk_iconst (v := 0) 285 dX0_begin_284 rfl (by decide) ?_
      exact sk_iret dX0_begin_285 rfl rfl h
  · have h := h.2 hc
    refine sk_aload_n 0 10 dX0_begin_9 rfl rfl rfl ?_
    refine sk_getR (r := 47) 13 dX0_begin_10 rfl lfX0_9 sc_46 rfl ?_
    refine sk_aload_n 0 14 dX0_begin_13 rfl rfl rfl ?_
    refine sk_getI 17 dX0_begin_14 rfl lfX0_15 sc_46 rfl ?_
    refine sk_iload_n 1 18 dX0_begin_17 rfl rfl rfl ?_
    have hb18 := h.1
    have h := h.2
    refine sk_iast 19 dX0_begin_18 rfl sc_47 hb18 _ rfl ?_
    refine sk_aload_n 0 20 dX0_begin_19 rfl rfl rfl ?_
    refine sk_dup 21 dX0_begin_20 rfl rfl ?_
    refine sk_getI 24 dX0_begin_21 rfl lfX0_15 sc_46 rfl ?_
    refine sk_iconst (v := 1) 25 dX0_begin_24 rfl (by decide) ?_
    refine sk_iadd 26 dX0_begin_25 rfl ?_
    refine sk_putI 29 dX0_begin_26 rfl lpX0_15 sc_46 rfl ?_
    refine sk_iload_n 1 30 dX0_begin_29 rfl rfl rfl ?_
    refine sk_look [(10, 144), (11, 151), (12, 162), (13, 176), (20, 182), (21, 194), (30, 203), (40, 215), (50, 227), (51, 239), (60, 254), (70, 266), (71, 269)] 284 dX0_begin_30 (by decide) (by decide) (by decide) (by decide) ⟨fun e => ?_, fun e => ?_, fun e => ?_, fun e => ?_, fun e => ?_, fun e => ?_, fun e => ?_, fun e => ?_, fun e => ?_, fun e => ?_, fun e => ?_, fun e => ?_, fun e => ?_, trivial⟩ (fun e => ?_)
    · have h := h.1 e
      refine sk_iload_n 3 145 dX0_begin_144 rfl rfl rfl ?_
      refine sk_aload_n 0 146 dX0_begin_145 rfl rfl rfl ?_
      refine sk_getI 149 dX0_begin_146 rfl lfX0_29 sc_46 rfl ?_
      refine sk_iadd 150 dX0_begin_149 rfl ?_
      exact sk_iret dX0_begin_150 rfl rfl h
    · have h := h.2.1 e
      refine sk_aload_n 0 152 dX0_begin_151 rfl rfl rfl ?_
      refine sk_iconst (v := 0) 153 dX0_begin_152 rfl (by decide) ?_
      refine sk_iload_n 3 154 dX0_begin_153 rfl rfl rfl ?_
      refine sk_iload 4 156 dX0_begin_154 rfl rfl ?_
      refine sk_callVi [.int 0, .int v3, .int v4] [] 159 dX0_begin_156 rfl mfX0_own lkX0_36 miX0_own msX0_own sc_46 rfl rfl rfl rfl (by simp [Value.category]) hd0 (sk_Cm h ?_)
      rintro w t156 ⟨r156, hw, h⟩
      refine ⟨r156, hw, ?_⟩
      refine sk_iconst (v := 2) 160 dX0_begin_159 rfl (by decide) ?_
      refine sk_imul 161 dX0_begin_160 rfl ?_
      exact sk_iret dX0_begin_161 rfl rfl h
    · have h := h.2.2.1 e
      refine sk_aload_n 0 163 dX0_begin_162 rfl rfl rfl ?_
      refine sk_iconst (v := 1) 164 dX0_begin_163 rfl (by decide) ?_
      refine sk_iload_n 3 165 dX0_begin_164 rfl rfl rfl ?_
      refine sk_iload 4 167 dX0_begin_165 rfl rfl ?_
      refine sk_callVi [.int 1, .int v3, .int v4] [] 170 dX0_begin_167 rfl mfX0_own lkX0_36 miX0_own msX0_own sc_46 rfl rfl rfl rfl (by simp [Value.category]) hd0 (sk_Cm h ?_)
      rintro w t167 ⟨r167, hw, h⟩
      refine ⟨r167, hw, ?_⟩
      refine sk_aload_n 0 171 dX0_begin_170 rfl rfl rfl ?_
      refine sk_getI 174 dX0_begin_171 rfl lfX0_26 sc_46 rfl ?_
      refine sk_isub 175 dX0_begin_174 rfl ?_
      exact sk_iret dX0_begin_175 rfl rfl h
    · have h := h.2.2.2.1 e
      refine sk_aload_n 0 177 dX0_begin_176 rfl rfl rfl ?_
      refine sk_iload_n 3 178 dX0_begin_177 rfl rfl rfl ?_
      refine sk_callVi [.int v3] [] 181 dX0_begin_178 rfl mfX0_shared lkX0_54 miX0_shared msX0_shared sc_46 rfl rfl rfl rfl (by simp [Value.category]) hd0 (sk_Cm h ?_)
      rintro w t178 ⟨r178, hw, h⟩
      refine ⟨r178, hw, ?_⟩
      exact sk_iret dX0_begin_181 rfl rfl h
    · have h := h.2.2.2.2.1 e
      refine sk_aload_n 0 183 dX0_begin_182 rfl rfl rfl ?_
      refine sk_iload_n 2 184 dX0_begin_183 rfl rfl rfl ?_
      refine sk_iconst (v := 0) 185 dX0_begin_184 rfl (by decide) ?_
      refine sk_iload_n 3 186 dX0_begin_185 rfl rfl rfl ?_
      refine sk_iload 4 188 dX0_begin_186 rfl rfl ?_
      refine sk_callVi [.int v2, .int 0, .int v3, .int v4] [] 191 dX0_begin_188 rfl mfX0_from lkX0_40 miX0_from msX0_from sc_46 rfl rfl rfl rfl (by simp [Value.category]) hd0 (sk_Cm h ?_)
      rintro w t188 ⟨r188, hw, h⟩
      refine ⟨r188, hw, ?_⟩
      refine sk_iconst (v := 4) 192 dX0_begin_191 rfl (by decide) ?_
      refine sk_isub 193 dX0_begin_192 rfl ?_
      exact sk_iret dX0_begin_193 rfl rfl h
    · have h := h.2.2.2.2.2.1 e
      refine sk_aload_n 0 195 dX0_begin_194 rfl rfl rfl ?_
      refine sk_iload_n 2 196 dX0_begin_195 rfl rfl rfl ?_
      refine sk_iload_n 3 197 dX0_begin_196 rfl rfl rfl ?_
      refine sk_iload 4 199 dX0_begin_197 rfl rfl ?_
      refine sk_callVi [.int v2, .int v3, .int v4] [] 202 dX0_begin_199 rfl mfX0_partsAndRings lkX0_57 miX0_partsAndRings msX0_partsAndRings sc_46 rfl rfl rfl rfl (by simp [Value.category]) hd0 (sk_Cm h ?_)
      rintro w t199 ⟨r199, hw, h⟩
      refine ⟨r199, hw, ?_⟩
      exact sk_iret dX0_begin_202 rfl rfl h
    · have h := h.2.2.2.2.2.2.1 e
      refine sk_iconst (v := 0) 204 dX0_begin_203 rfl (by decide) ?_
      refine sk_aload_n 0 205 dX0_begin_204 rfl rfl rfl ?_
      refine sk_iload_n 2 206 dX0_begin_205 rfl rfl rfl ?_
      refine sk_iconst (v := 1) 207 dX0_begin_206 rfl (by decide) ?_
      refine sk_iload_n 3 208 dX0_begin_207 rfl rfl rfl ?_
      refine sk_iload 4 210 dX0_begin_208 rfl rfl ?_
      refine sk_callVi [.int v2, .int 1, .int v3, .int v4] [.int 0] 213 dX0_begin_210 rfl mfX0_from lkX0_40 miX0_from msX0_from sc_46 rfl rfl rfl rfl (by simp [Value.category]) hd0 (sk_Cm h ?_)
      rintro w t210 ⟨r210, hw, h⟩
      refine ⟨r210, hw, ?_⟩
      refine sk_isub 214 dX0_begin_213 rfl ?_
      exact sk_iret dX0_begin_214 rfl rfl h
    · have h := h.2.2.2.2.2.2.2.1 e
      refine sk_aload_n 0 216 dX0_begin_215 rfl rfl rfl ?_
      refine sk_iload_n 2 217 dX0_begin_216 rfl rfl rfl ?_
      refine sk_iconst (v := 2) 218 dX0_begin_217 rfl (by decide) ?_
      refine sk_iload_n 3 219 dX0_begin_218 rfl rfl rfl ?_
      refine sk_iconst (v := 2) 220 dX0_begin_219 rfl (by decide) ?_
      refine sk_idiv 221 dX0_begin_220 rfl (by decide) ?_
      refine sk_iload 4 223 dX0_begin_221 rfl rfl ?_
      refine sk_callVi [.int v2, .int 2, .int (v3 / 2), .int v4] [] 226 dX0_begin_223 rfl mfX0_from lkX0_40 miX0_from msX0_from sc_46 rfl rfl rfl rfl (by simp [Value.category]) hd0 (sk_Cm h ?_)
      rintro w t223 ⟨r223, hw, h⟩
      refine ⟨r223, hw, ?_⟩
      exact sk_iret dX0_begin_226 rfl rfl h
    · have h := h.2.2.2.2.2.2.2.2.1 e
      refine sk_aload_n 0 228 dX0_begin_227 rfl rfl rfl ?_
      refine sk_iload_n 2 229 dX0_begin_228 rfl rfl rfl ?_
      refine sk_iconst (v := 0) 230 dX0_begin_229 rfl (by decide) ?_
      refine sk_iload_n 3 231 dX0_begin_230 rfl rfl rfl ?_
      refine sk_iload 4 233 dX0_begin_231 rfl rfl ?_
      refine sk_callVi [.int v2, .int 0, .int v3, .int v4] [] 236 dX0_begin_233 rfl mfX0_from lkX0_40 miX0_from msX0_from sc_46 rfl rfl rfl rfl (by simp [Value.category]) hd0 (sk_Cm h ?_)
      rintro w t233 ⟨r233, hw, h⟩
      refine ⟨r233, hw, ?_⟩
      refine sk_iconst (v := 3) 237 dX0_begin_236 rfl (by decide) ?_
      refine sk_imul 238 dX0_begin_237 rfl ?_
      exact sk_iret dX0_begin_238 rfl rfl h
    · have h := h.2.2.2.2.2.2.2.2.2.1 e
      refine sk_aload_n 0 240 dX0_begin_239 rfl rfl rfl ?_
      refine sk_iload_n 2 241 dX0_begin_240 rfl rfl rfl ?_
      refine sk_iconst (v := 2) 242 dX0_begin_241 rfl (by decide) ?_
      refine sk_iload_n 3 243 dX0_begin_242 rfl rfl rfl ?_
      refine sk_iload 4 245 dX0_begin_243 rfl rfl ?_
      refine sk_callVi [.int v2, .int 2, .int v3, .int v4] [] 248 dX0_begin_245 rfl mfX0_from lkX0_40 miX0_from msX0_from sc_46 rfl rfl rfl rfl (by simp [Value.category]) hd0 (sk_Cm h ?_)
      rintro w t245 ⟨r245, hw, h⟩
      refine ⟨r245, hw, ?_⟩
      refine sk_aload_n 0 249 dX0_begin_248 rfl rfl rfl ?_
      refine sk_getI 252 dX0_begin_249 rfl lfX0_29 sc_46 rfl ?_
      refine sk_ixor 253 dX0_begin_252 rfl ?_
      exact sk_iret dX0_begin_253 rfl rfl h
    · have h := h.2.2.2.2.2.2.2.2.2.2.1 e
      refine sk_aload_n 0 255 dX0_begin_254 rfl rfl rfl ?_
      refine sk_iload_n 2 256 dX0_begin_255 rfl rfl rfl ?_
      refine sk_iconst (v := 1) 257 dX0_begin_256 rfl (by decide) ?_
      refine sk_iload_n 3 258 dX0_begin_257 rfl rfl rfl ?_
      refine sk_iconst (v := 1) 259 dX0_begin_258 rfl (by decide) ?_
      refine sk_iadd 260 dX0_begin_259 rfl ?_
      refine sk_iload 4 262 dX0_begin_260 rfl rfl ?_
      refine sk_callVi [.int v2, .int 1, .int (v3 + 1), .int v4] [] 265 dX0_begin_262 rfl mfX0_from lkX0_40 miX0_from msX0_from sc_46 rfl rfl rfl rfl (by simp [Value.category]) hd0 (sk_Cm h ?_)
      rintro w t262 ⟨r262, hw, h⟩
      refine ⟨r262, hw, ?_⟩
      exact sk_iret dX0_begin_265 rfl rfl h
    · have h := h.2.2.2.2.2.2.2.2.2.2.2.1 e
      refine sk_bipush (v := 9) 268 dX0_begin_266 rfl (by decide) ?_
      exact sk_iret dX0_begin_268 rfl rfl h
    · have h := h.2.2.2.2.2.2.2.2.2.2.2.2.1 e
      refine sk_aload_n 0 270 dX0_begin_269 rfl rfl rfl ?_
      refine sk_iload_n 2 271 dX0_begin_270 rfl rfl rfl ?_
      refine sk_iconst (v := 1) 272 dX0_begin_271 rfl (by decide) ?_
      refine sk_iload_n 3 273 dX0_begin_272 rfl rfl rfl ?_
      refine sk_iload 4 275 dX0_begin_273 rfl rfl ?_
      refine sk_callVi [.int v2, .int 1, .int v3, .int v4] [] 278 dX0_begin_275 rfl mfX0_from lkX0_40 miX0_from msX0_from sc_46 rfl rfl rfl rfl (by simp [Value.category]) hd0 (sk_Cm h ?_)
      rintro w t275 ⟨r275, hw, h⟩
      refine ⟨r275, hw, ?_⟩
      refine sk_aload_n 0 279 dX0_begin_278 rfl rfl rfl ?_
      refine sk_getI 282 dX0_begin_279 rfl lfX0_26 sc_46 rfl ?_
      refine sk_iadd 283 dX0_begin_282 rfl ?_
      exact sk_iret dX0_begin_283 rfl rfl h
    · have h := h.2.2.2.2.2.2.2.2.2.2.2.2.2 ⟨e (10, 144) (by decide), e (11, 151) (by decide), e (12, 162) (by decide), e (13, 176) (by decide), e (20, 182) (by decide), e (21, 194) (by decide), e (30, 203) (by decide), e (40, 215) (by decide), e (50, 227) (by decide), e (51, 239) (by decide), e (60, 254) (by decide), e (70, 266) (by decide), e (71, 269) (by decide)⟩
      refine sk_iconst (v := 0) 285 dX0_begin_284 rfl (by decide) ?_
      exact sk_iret dX0_begin_285 rfl rfl h

theorem wX0_shared {d : Nat} {τ : sk_T} {K : sk_K} {v1 : Int32}
  (h : ((¬ ((τ 46 4) - (τ 46 5)) = 0 →
      ((¬ ((τ 46 4) - (τ 46 5)) = 0 →
        ¬ ((τ 46 4) - (τ 46 5)) = 0 ∧
        K (some (.int (v1 / ((τ 46 4) - (τ 46 5))))) (sk_u τ 46 2 0)
      ) ∧
      (((τ 46 4) - (τ 46 5)) = 0 →
        K (some (.int 0)) (sk_u τ 46 2 0)
      ))
    ) ∧
    (((τ 46 4) - (τ 46 5)) = 0 →
      ((¬ ((τ 46 4) - (τ 46 5)) = 0 →
        ¬ ((τ 46 4) - (τ 46 5)) = 0 ∧
        K (some (.int (v1 / ((τ 46 4) - (τ 46 5))))) (sk_u τ 46 2 1)
      ) ∧
      (((τ 46 4) - (τ 46 5)) = 0 →
        K (some (.int 0)) (sk_u τ 46 2 1)
      ))
    ))) :
  sk_C sk_Sc d mX0_shared [.ref 46, .int v1] τ K := by
  refine sk_enter mfX0_shared (Nat.le_of_ble_eq_true rfl) ?_
  show sk_G sk_Sc d mX0_shared 0 [(0, .ref 46), (1, .int v1)] [] τ K
  refine sk_aload_n 0 1 dX0_shared_0 rfl rfl rfl ?_
  refine sk_getI 4 dX0_shared_1 rfl lfX0_26 sc_46 rfl ?_
  refine sk_aload_n 0 5 dX0_shared_4 rfl rfl rfl ?_
  refine sk_getI 8 dX0_shared_5 rfl lfX0_29 sc_46 rfl ?_
  refine sk_isub 9 dX0_shared_8 rfl ?_
  refine sk_istore_n (lv2 := [(2, .int ((τ 46 4) - (τ 46 5))), (0, .ref 46), (1, .int v1)]) 10 dX0_shared_9 rfl rfl (by decide) rfl ?_
  refine sk_aload_n 1 11 dX0_shared_10 rfl rfl rfl ?_
  refine sk_iload_n 0 12 dX0_shared_11 rfl rfl rfl ?_
  refine sk_if_ne 19 15 dX0_shared_12 (by decide) rfl (fun hc => ?_) (fun hc => ?_)
  · have h := h.1 hc
    refine sk_iconst (v := 0) 20 dX0_shared_19 rfl (by decide) ?_
    refine sk_putB 23 dX0_shared_20 rfl lpX0_19 sc_46 rfl (by decide) ?_
    refine sk_iload_n 0 24 dX0_shared_23 rfl rfl rfl ?_
    refine sk_if_ne 31 27 dX0_shared_24 (by decide) rfl (fun hc => ?_) (fun hc => ?_)
    · have h := h.1 hc
      refine sk_iload_n 2 32 dX0_shared_31 rfl rfl rfl ?_
      refine sk_iload_n 0 33 dX0_shared_32 rfl rfl rfl ?_
      have hz33 := h.1
      have h := h.2
      refine sk_idiv 34 dX0_shared_33 rfl hz33 ?_
      exact sk_iret dX0_shared_34 rfl rfl h
    · have h := h.2 hc
      refine sk_iconst (v := 0) 28 dX0_shared_27 rfl (by decide) ?_
      refine sk_goto 34 dX0_shared_28 (by decide) ?_
      exact sk_iret dX0_shared_34 rfl rfl h
  · have h := h.2 hc
    refine sk_iconst (v := 1) 16 dX0_shared_15 rfl (by decide) ?_
    refine sk_goto 20 dX0_shared_16 (by decide) ?_
    refine sk_putB 23 dX0_shared_20 rfl lpX0_19 sc_46 rfl (by decide) ?_
    refine sk_iload_n 0 24 dX0_shared_23 rfl rfl rfl ?_
    refine sk_if_ne 31 27 dX0_shared_24 (by decide) rfl (fun hc => ?_) (fun hc => ?_)
    · have h := h.1 hc
      refine sk_iload_n 2 32 dX0_shared_31 rfl rfl rfl ?_
      refine sk_iload_n 0 33 dX0_shared_32 rfl rfl rfl ?_
      have hz33 := h.1
      have h := h.2
      refine sk_idiv 34 dX0_shared_33 rfl hz33 ?_
      exact sk_iret dX0_shared_34 rfl rfl h
    · have h := h.2 hc
      refine sk_iconst (v := 0) 28 dX0_shared_27 rfl (by decide) ?_
      refine sk_goto 34 dX0_shared_28 (by decide) ?_
      exact sk_iret dX0_shared_34 rfl rfl h

theorem wX0_partsAndRings {d : Nat} {τ : sk_T} {K : sk_K} {v1 : Int32} {v2 : Int32} {v3 : Int32} (hd0 : 0 < d)
  (h : sk_C sk_Sc (d - 1) mX0_from [.ref 46, .int v1, .int 3, .int v2, .int v3] τ (fun w t5 => ∃ r5 : Int32, w = some (.int r5) ∧
      (((t5 46 2 &&& 1) = 0 →
        sk_C sk_Sc (d - 1) mX0_own [.ref 46, .int 1, .int 1, .int v3] t5 (fun w t27 => ∃ r27 : Int32, w = some (.int r27) ∧
          K (some (.int (r5 + r27))) t27
        )
      ) ∧
      (¬ (t5 46 2 &&& 1) = 0 →
        K (some (.int 0)) t5
      ))
    )) :
  sk_C sk_Sc d mX0_partsAndRings [.ref 46, .int v1, .int v2, .int v3] τ K := by
  refine sk_enter mfX0_partsAndRings (Nat.le_of_ble_eq_true rfl) ?_
  show sk_G sk_Sc d mX0_partsAndRings 0 [(0, .ref 46), (1, .int v1), (2, .int v2), (3, .int v3)] [] τ K
  refine sk_aload_n 0 1 dX0_partsAndRings_0 rfl rfl rfl ?_
  refine sk_iload_n 1 2 dX0_partsAndRings_1 rfl rfl rfl ?_
  refine sk_iconst (v := 3) 3 dX0_partsAndRings_2 rfl (by decide) ?_
  refine sk_iload_n 2 4 dX0_partsAndRings_3 rfl rfl rfl ?_
  refine sk_iload_n 3 5 dX0_partsAndRings_4 rfl rfl rfl ?_
  refine sk_callVi [.int v1, .int 3, .int v2, .int v3] [] 8 dX0_partsAndRings_5 rfl mfX0_from lkX0_40 miX0_from msX0_from sc_46 rfl rfl rfl rfl (by simp [Value.category]) hd0 (sk_Cm h ?_)
  rintro w t5 ⟨r5, hw, h⟩
  refine ⟨r5, hw, ?_⟩
  refine sk_istore (lv2 := [(4, .int r5), (0, .ref 46), (1, .int v1), (2, .int v2), (3, .int v3)]) 10 dX0_partsAndRings_8 rfl (by decide) rfl ?_
  refine sk_aload_n 1 11 dX0_partsAndRings_10 rfl rfl rfl ?_
  refine sk_getB 14 dX0_partsAndRings_11 rfl lfX0_19 sc_46 rfl ?_
  refine sk_if_eq 21 17 dX0_partsAndRings_14 (by decide) rfl (fun hc => ?_) (fun hc => ?_)
  · have h := h.1 hc
    refine sk_iload 0 23 dX0_partsAndRings_21 rfl rfl ?_
    refine sk_aload_n 1 24 dX0_partsAndRings_23 rfl rfl rfl ?_
    refine sk_iconst (v := 1) 25 dX0_partsAndRings_24 rfl (by decide) ?_
    refine sk_iconst (v := 1) 26 dX0_partsAndRings_25 rfl (by decide) ?_
    refine sk_iload_n 4 27 dX0_partsAndRings_26 rfl rfl rfl ?_
    refine sk_callVi [.int 1, .int 1, .int v3] [.int r5] 30 dX0_partsAndRings_27 rfl mfX0_own lkX0_36 miX0_own msX0_own sc_46 rfl rfl rfl rfl (by simp [Value.category]) hd0 (sk_Cm h ?_)
    rintro w t27 ⟨r27, hw, h⟩
    refine ⟨r27, hw, ?_⟩
    refine sk_iadd 31 dX0_partsAndRings_30 rfl ?_
    exact sk_iret dX0_partsAndRings_31 rfl rfl h
  · have h := h.2 hc
    refine sk_iconst (v := 0) 18 dX0_partsAndRings_17 rfl (by decide) ?_
    refine sk_goto 31 dX0_partsAndRings_18 (by decide) ?_
    exact sk_iret dX0_partsAndRings_31 rfl rfl h

