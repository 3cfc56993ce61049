theorem wX1_adopt {d : Nat} {τ : sk_T} {K : sk_K} {q qc qs : Nat} (hq : sk_Sc[q]? = some (0, 1, [0, 1, qc + 2, 0, qs + 2])) (hqc : sk_Sc[qc]? = some (1, 60, [])) (hqs : sk_Sc[qs]? = some (1, 60, [])) {v2 : Int32} (hd0 : 0 < d)
  (h : K none (sk_u (sk_u (sk_w τ qc (va_cpy (τ 45) (τ qc) 0 0 60)) q 3 v2) q 1 1)) :
  sk_C sk_Sc d mX1_adopt [.ref q, .ref 45, .int v2] τ K := by
  refine sk_enter mfX1_adopt (Nat.le_of_ble_eq_true rfl) ?_
  show sk_G sk_Sc d mX1_adopt 0 [(0, .ref q), (1, .ref 45), (2, .int v2)] [] τ K
  refine sk_aload_n 1 1 dX1_adopt_0 rfl rfl rfl ?_
  refine sk_iconst (v := 0) 2 dX1_adopt_1 rfl (by decide) ?_
  refine sk_aload_n 0 3 dX1_adopt_2 rfl rfl rfl ?_
  refine sk_getR (r := qc) 6 dX1_adopt_3 rfl lfX1_15 hq rfl ?_
  refine sk_iconst (v := 0) 7 dX1_adopt_6 rfl (by decide) ?_
  refine sk_bipush (v := 60) 9 dX1_adopt_7 rfl (by decide) ?_
  refine sk_copyI 12 dX1_adopt_9 rfl lkX1_29 lk_ac sc_45 hqc (by decide) (by decide) (by decide) (by decide) (by decide) (by simp [Value.category]) hd0 ?_
  refine sk_aload_n 0 13 dX1_adopt_12 rfl rfl rfl ?_
  refine sk_iload_n 2 14 dX1_adopt_13 rfl rfl rfl ?_
  refine sk_putI 17 dX1_adopt_14 rfl lpX1_19 hq rfl ?_
  refine sk_aload_n 0 18 dX1_adopt_17 rfl rfl rfl ?_
  refine sk_iconst (v := 1) 19 dX1_adopt_18 rfl (by decide) ?_
  refine sk_putB 22 dX1_adopt_19 rfl lpX1_9 hq rfl (by decide) ?_
  exact sk_vret dX1_adopt_22 rfl h

theorem wX1_copy {d : Nat} {τ : sk_T} {K : sk_K} {q qc qs : Nat} (hq : sk_Sc[q]? = some (0, 1, [0, 1, qc + 2, 0, qs + 2])) (hqc : sk_Sc[qc]? = some (1, 60, [])) (hqs : sk_Sc[qs]? = some (1, 60, [])) {o oc os : Nat} (ho : sk_Sc[o]? = some (0, 1, [0, 1, oc + 2, 0, os + 2])) (hoc : sk_Sc[oc]? = some (1, 60, [])) (hos : sk_Sc[os]? = some (1, 60, [])) (hd0 : 0 < d)
  (h : ((sk_u (sk_w τ qc (va_cpy (τ oc) (τ qc) 0 0 60)) q 3 ((sk_w τ qc (va_cpy (τ oc) (τ qc) 0 0 60)) o 3)) o 1 &&& 1) &&& 1 = ((sk_u (sk_w τ qc (va_cpy (τ oc) (τ qc) 0 0 60)) q 3 ((sk_w τ qc (va_cpy (τ oc) (τ qc) 0 0 60)) o 3)) o 1 &&& 1) ∧
    K none (sk_u (sk_u (sk_w τ qc (va_cpy (τ oc) (τ qc) 0 0 60)) q 3 ((sk_w τ qc (va_cpy (τ oc) (τ qc) 0 0 60)) o 3)) q 1 ((sk_u (sk_w τ qc (va_cpy (τ oc) (τ qc) 0 0 60)) q 3 ((sk_w τ qc (va_cpy (τ oc) (τ qc) 0 0 60)) o 3)) o 1 &&& 1))) :
  sk_C sk_Sc d mX1_copy [.ref q, .ref o] τ K := by
  refine sk_enter mfX1_copy (Nat.le_of_ble_eq_true rfl) ?_
  show sk_G sk_Sc d mX1_copy 0 [(0, .ref q), (1, .ref o)] [] τ K
  refine sk_aload_n 1 1 dX1_copy_0 rfl rfl rfl ?_
  refine sk_getR (r := oc) 4 dX1_copy_1 rfl lfX1_15 ho rfl ?_
  refine sk_iconst (v := 0) 5 dX1_copy_4 rfl (by decide) ?_
  refine sk_aload_n 0 6 dX1_copy_5 rfl rfl rfl ?_
  refine sk_getR (r := qc) 9 dX1_copy_6 rfl lfX1_15 hq rfl ?_
  refine sk_iconst (v := 0) 10 dX1_copy_9 rfl (by decide) ?_
  refine sk_bipush (v := 60) 12 dX1_copy_10 rfl (by decide) ?_
  refine sk_copyI 15 dX1_copy_12 rfl lkX1_29 lk_ac hoc hqc (by decide) (by decide) (by decide) (by decide) (by decide) (by simp [Value.category]) hd0 ?_
  refine sk_aload_n 0 16 dX1_copy_15 rfl rfl rfl ?_
  refine sk_aload_n 1 17 dX1_copy_16 rfl rfl rfl ?_
  refine sk_getI 20 dX1_copy_17 rfl lfX1_19 ho rfl ?_
  refine sk_putI 23 dX1_copy_20 rfl lpX1_19 hq rfl ?_
  refine sk_aload_n 0 24 dX1_copy_23 rfl rfl rfl ?_
  refine sk_aload_n 1 25 dX1_copy_24 rfl rfl rfl ?_
  refine sk_getB 28 dX1_copy_25 rfl lfX1_9 ho rfl ?_
  have hb28 := h.1
  have h := h.2
  refine sk_putB 31 dX1_copy_28 rfl lpX1_9 hq rfl hb28 ?_
  exact sk_vret dX1_copy_31 rfl h

theorem wX1_give {d : Nat} {τ : sk_T} {K : sk_K} {q qc qs : Nat} (hq : sk_Sc[q]? = some (0, 1, [0, 1, qc + 2, 0, qs + 2])) (hqc : sk_Sc[qc]? = some (1, 60, [])) (hqs : sk_Sc[qs]? = some (1, 60, [])) {v1 : Int32} {v2 : Int32} {v3 : Int32} (hd0 : 0 < d)
  (h : ((¬ (τ q 0) = 0 →
      (((τ q 1 &&& 1) = 0 →
        K (some (.int (sk_max 0 (sk_min 99 1)))) τ
      ) ∧
      (¬ (τ q 1 &&& 1) = 0 →
        sk_C sk_Sc (d - 1) mX1_workOut [.ref q, .int v1, .int v2, .int v3] τ (fun w t28 => ∃ r28 : Int32, w = some (.int r28) ∧
          K (some (.int (sk_max 0 (sk_min 99 r28)))) t28
        )
      ))
    ) ∧
    ((τ q 0) = 0 →
      (((τ q 1 &&& 1) = 0 →
        K (some (.int (sk_max 0 (sk_min 99 v1)))) τ
      ) ∧
      (¬ (τ q 1 &&& 1) = 0 →
        sk_C sk_Sc (d - 1) mX1_workOut [.ref q, .int v1, .int v2, .int v3] τ (fun w t28 => ∃ r28 : Int32, w = some (.int r28) ∧
          K (some (.int (sk_max 0 (sk_min 99 r28)))) t28
        )
      ))
    ))) :
  sk_C sk_Sc d mX1_give [.ref q, .int v1, .int v2, .int v3] τ K := by
  refine sk_enter mfX1_give (Nat.le_of_ble_eq_true rfl) ?_
  show sk_G sk_Sc d mX1_give 0 [(0, .ref q), (1, .int v1), (2, .int v2), (3, .int v3)] [] τ K
  refine sk_aload_n 0 1 dX1_give_0 rfl rfl rfl ?_
  refine sk_getI 4 dX1_give_1 rfl lfX1_26 hq rfl ?_
  refine sk_if_ne 11 7 dX1_give_4 (by decide) rfl (fun hc => ?_) (fun hc => ?_)
  · have h := h.1 hc
    refine sk_iconst (v := 1) 12 dX1_give_11 rfl (by decide) ?_
    refine sk_istore (lv2 := [(4, .int 1), (0, .ref q), (1, .int v1), (2, .int v2), (3, .int v3)]) 14 dX1_give_12 rfl (by decide) rfl ?_
    refine sk_iconst (v := 0) 15 dX1_give_14 rfl (by decide) ?_
    refine sk_bipush (v := 99) 17 dX1_give_15 rfl (by decide) ?_
    refine sk_aload_n 1 18 dX1_give_17 rfl rfl rfl ?_
    refine sk_getB 21 dX1_give_18 rfl lfX1_9 hq rfl ?_
    refine sk_if_eq 34 24 dX1_give_21 (by decide) rfl (fun hc => ?_) (fun hc => ?_)
    · have h := h.1 hc
      refine sk_iload 0 36 dX1_give_34 rfl rfl ?_
      refine sk_mmin 39 dX1_give_36 rfl lkX1_39 lw_min (by simp [Value.category]) hd0 ?_
      refine sk_mmax 42 dX1_give_39 rfl lkX1_45 lw_max (by simp [Value.category]) hd0 ?_
      exact sk_iret dX1_give_42 rfl rfl h
    · have h := h.2 hc
      refine sk_aload_n 1 25 dX1_give_24 rfl rfl rfl ?_
      refine sk_iload_n 2 26 dX1_give_25 rfl rfl rfl ?_
      refine sk_iload_n 3 27 dX1_give_26 rfl rfl rfl ?_
      refine sk_iload_n 4 28 dX1_give_27 rfl rfl rfl ?_
      refine sk_callVi [.int v1, .int v2, .int v3] [.int 99, .int 0] 31 dX1_give_28 rfl mfX1_workOut lkX1_35 miX1_workOut msX1_workOut hq rfl rfl rfl rfl (by simp [Value.category]) hd0 (sk_Cm h ?_)
      rintro w t28 ⟨r28, hw, h⟩
      refine ⟨r28, hw, ?_⟩
      refine sk_goto 36 dX1_give_31 (by decide) ?_
      refine sk_mmin 39 dX1_give_36 rfl lkX1_39 lw_min (by simp [Value.category]) hd0 ?_
      refine sk_mmax 42 dX1_give_39 rfl lkX1_45 lw_max (by simp [Value.category]) hd0 ?_
      exact sk_iret dX1_give_42 rfl rfl h
  · have h := h.2 hc
    refine sk_iload_n 1 8 dX1_give_7 rfl rfl rfl ?_
    refine sk_goto 12 dX1_give_8 (by decide) ?_
    refine sk_istore (lv2 := [(4, .int v1), (0, .ref q), (1, .int v1), (2, .int v2), (3, .int v3)]) 14 dX1_give_12 rfl (by decide) rfl ?_
    refine sk_iconst (v := 0) 15 dX1_give_14 rfl (by decide) ?_
    refine sk_bipush (v := 99) 17 dX1_give_15 rfl (by decide) ?_
    refine sk_aload_n 1 18 dX1_give_17 rfl rfl rfl ?_
    refine sk_getB 21 dX1_give_18 rfl lfX1_9 hq rfl ?_
    refine sk_if_eq 34 24 dX1_give_21 (by decide) rfl (fun hc => ?_) (fun hc => ?_)
    · have h := h.1 hc
      refine sk_iload 0 36 dX1_give_34 rfl rfl ?_
      refine sk_mmin 39 dX1_give_36 rfl lkX1_39 lw_min (by simp [Value.category]) hd0 ?_
      refine sk_mmax 42 dX1_give_39 rfl lkX1_45 lw_max (by simp [Value.category]) hd0 ?_
      exact sk_iret dX1_give_42 rfl rfl h
    · have h := h.2 hc
      refine sk_aload_n 1 25 dX1_give_24 rfl rfl rfl ?_
      refine sk_iload_n 2 26 dX1_give_25 rfl rfl rfl ?_
      refine sk_iload_n 3 27 dX1_give_26 rfl rfl rfl ?_
      refine sk_iload_n 4 28 dX1_give_27 rfl rfl rfl ?_
      refine sk_callVi [.int v1, .int v2, .int v3] [.int 99, .int 0] 31 dX1_give_28 rfl mfX1_workOut lkX1_35 miX1_workOut msX1_workOut hq rfl rfl rfl rfl (by simp [Value.category]) hd0 (sk_Cm h ?_)
      rintro w t28 ⟨r28, hw, h⟩
      refine ⟨r28, hw, ?_⟩
      refine sk_goto 36 dX1_give_31 (by decide) ?_
      refine sk_mmin 39 dX1_give_36 rfl lkX1_39 lw_min (by simp [Value.category]) hd0 ?_
      refine sk_mmax 42 dX1_give_39 rfl lkX1_45 lw_max (by simp [Value.category]) hd0 ?_
      exact sk_iret dX1_give_42 rfl rfl h

theorem wX1_workOut {d : Nat} {τ : sk_T} {K : sk_K} {q qc qs : Nat} (hq : sk_Sc[q]? = some (0, 1, [0, 1, qc + 2, 0, qs + 2])) (hqc : sk_Sc[qc]? = some (1, 60, [])) (hqs : sk_Sc[qs]? = some (1, 60, [])) {v1 : Int32} {v2 : Int32} {v3 : Int32}
  (h : sk_G sk_Sc d mX1_workOut 6 [(0, .ref q), (1, .int v1), (2, .int v2), (3, .int v3), (4, .int 0), (5, .int 0)] [] τ K) :
  sk_C sk_Sc d mX1_workOut [.ref q, .int v1, .int v2, .int v3] τ K := by
  refine sk_enter mfX1_workOut (Nat.le_of_ble_eq_true rfl) ?_
  show sk_G sk_Sc d mX1_workOut 0 [(0, .ref q), (1, .int v1), (2, .int v2), (3, .int v3)] [] τ K
  refine sk_iconst (v := 0) 1 dX1_workOut_0 rfl (by decide) ?_
  refine sk_istore (lv2 := [(4, .int 0), (0, .ref q), (1, .int v1), (2, .int v2), (3, .int v3)]) 3 dX1_workOut_1 rfl (by decide) rfl ?_
  refine sk_iconst (v := 0) 4 dX1_workOut_3 rfl (by decide) ?_
  refine sk_istore (lv2 := [(5, .int 0), (4, .int 0), (0, .ref q), (1, .int v1), (2, .int v2), (3, .int v3)]) 6 dX1_workOut_4 rfl (by decide) rfl ?_
  refine sk_perm (lv2 := [(0, .ref q), (1, .int v1), (2, .int v2), (3, .int v3), (4, .int 0), (5, .int 0)]) [2, 3, 4, 5, 1, 0] rfl ?_
  exact h

theorem bX1_workOut_6 {d : Nat} {τ : sk_T} {K : sk_K} {q qc qs : Nat} (hq : sk_Sc[q]? = some (0, 1, [0, 1, qc + 2, 0, qs + 2])) (hqc : sk_Sc[qc]? = some (1, 60, [])) (hqs : sk_Sc[qs]? = some (1, 60, [])) {v1 : Int32} {v2 : Int32} {v3 : Int32} {v4 : Int32} {v5 : Int32} (hd0 : 0 < d)
  (h : (((τ q 3) ≤ v5 →
      K (some (.int (τ qs 0))) τ
    ) ∧
    (¬ (τ q 3) ≤ v5 →
      vp_in v5 60 ∧
      ((¬ (τ qc (v5).toNatClampNeg) = (-4) →
        (((-4) ≤ (τ qc (v5).toNatClampNeg) →
          (((τ qc (v5).toNatClampNeg) ≤ (-4) →
            sk_G sk_Sc d mX1_workOut 6 [(0, .ref q), (1, .int v1), (2, .int v2), (3, .int v3), (4, .int v4), (5, .int (v5 + 1))] [] τ K
          ) ∧
          (¬ (τ qc (v5).toNatClampNeg) ≤ (-4) →
            ((60 ≤ v4 →
              sk_G sk_Sc d mX1_workOut 6 [(0, .ref q), (1, .int v1), (2, .int v2), (3, .int v3), (4, .int v4), (5, .int (v5 + 1))] [] τ K
            ) ∧
            (¬ 60 ≤ v4 →
              sk_C sk_Sc (d - 1) mX1_worth [.int (τ qc (v5).toNatClampNeg), .int v1, .int v2, .int v3] τ (fun w t140 => ∃ r140 : Int32, w = some (.int r140) ∧
                vp_in v4 60 ∧
                sk_G sk_Sc d mX1_workOut 6 [(0, .ref q), (1, .int v1), (2, .int v2), (3, .int v3), (4, .int (v4 + 1)), (5, .int (v5 + 1))] [] (sk_u t140 qs (v4).toNatClampNeg r140) K
              )
            ))
          ))
        ) ∧
        (¬ (-4) ≤ (τ qc (v5).toNatClampNeg) →
          ((v4 < 2 →
            (((τ qc (v5).toNatClampNeg) ≤ (-4) →
              sk_G sk_Sc d mX1_workOut 6 [(0, .ref q), (1, .int v1), (2, .int v2), (3, .int v3), (4, .int v4), (5, .int (v5 + 1))] [] τ K
            ) ∧
            (¬ (τ qc (v5).toNatClampNeg) ≤ (-4) →
              ((60 ≤ v4 →
                sk_G sk_Sc d mX1_workOut 6 [(0, .ref q), (1, .int v1), (2, .int v2), (3, .int v3), (4, .int v4), (5, .int (v5 + 1))] [] τ K
              ) ∧
              (¬ 60 ≤ v4 →
                sk_C sk_Sc (d - 1) mX1_worth [.int (τ qc (v5).toNatClampNeg), .int v1, .int v2, .int v3] τ (fun w t140 => ∃ r140 : Int32, w = some (.int r140) ∧
                  vp_in v4 60 ∧
                  sk_G sk_Sc d mX1_workOut 6 [(0, .ref q), (1, .int v1), (2, .int v2), (3, .int v3), (4, .int (v4 + 1)), (5, .int (v5 + 1))] [] (sk_u t140 qs (v4).toNatClampNeg r140) K
                )
              ))
            ))
          ) ∧
          (¬ v4 < 2 →
            vp_in ((v4 + (-1)) - 1) 60 ∧
            vp_in (v4 + (-1)) 60 ∧
            sk_C sk_Sc (d - 1) mX1_join [.int (τ qc (v5).toNatClampNeg), .int (τ qs (((v4 + (-1)) - 1)).toNatClampNeg), .int (τ qs ((v4 + (-1))).toNatClampNeg)] τ (fun w t108 => ∃ r108 : Int32, w = some (.int r108) ∧
              vp_in ((v4 + (-1)) - 1) 60 ∧
              sk_G sk_Sc d mX1_workOut 6 [(0, .ref q), (1, .int v1), (2, .int v2), (3, .int v3), (4, .int (v4 + (-1))), (5, .int (v5 + 1))] [] (sk_u t108 qs (((v4 + (-1)) - 1)).toNatClampNeg r108) K
            )
          ))
        ))
      ) ∧
      ((τ qc (v5).toNatClampNeg) = (-4) →
        ((v4 < 1 →
          (((-4) ≤ (τ qc (v5).toNatClampNeg) →
            (((τ qc (v5).toNatClampNeg) ≤ (-4) →
              sk_G sk_Sc d mX1_workOut 6 [(0, .ref q), (1, .int v1), (2, .int v2), (3, .int v3), (4, .int v4), (5, .int (v5 + 1))] [] τ K
            ) ∧
            (¬ (τ qc (v5).toNatClampNeg) ≤ (-4) →
              ((60 ≤ v4 →
                sk_G sk_Sc d mX1_workOut 6 [(0, .ref q), (1, .int v1), (2, .int v2), (3, .int v3), (4, .int v4), (5, .int (v5 + 1))] [] τ K
              ) ∧
              (¬ 60 ≤ v4 →
                sk_C sk_Sc (d - 1) mX1_worth [.int (τ qc (v5).toNatClampNeg), .int v1, .int v2, .int v3] τ (fun w t140 => ∃ r140 : Int32, w = some (.int r140) ∧
                  vp_in v4 60 ∧
                  sk_G sk_Sc d mX1_workOut 6 [(0, .ref q), (1, .int v1), (2, .int v2), (3, .int v3), (4, .int (v4 + 1)), (5, .int (v5 + 1))] [] (sk_u t140 qs (v4).toNatClampNeg r140) K
                )
              ))
            ))
          ) ∧
          (¬ (-4) ≤ (τ qc (v5).toNatClampNeg) →
            ((v4 < 2 →
              (((τ qc (v5).toNatClampNeg) ≤ (-4) →
                sk_G sk_Sc d mX1_workOut 6 [(0, .ref q), (1, .int v1), (2, .int v2), (3, .int v3), (4, .int v4), (5, .int (v5 + 1))] [] τ K
              ) ∧
              (¬ (τ qc (v5).toNatClampNeg) ≤ (-4) →
                ((60 ≤ v4 →
                  sk_G sk_Sc d mX1_workOut 6 [(0, .ref q), (1, .int v1), (2, .int v2), (3, .int v3), (4, .int v4), (5, .int (v5 + 1))] [] τ K
                ) ∧
                (¬ 60 ≤ v4 →
                  sk_C sk_Sc (d - 1) mX1_worth [.int (τ qc (v5).toNatClampNeg), .int v1, .int v2, .int v3] τ (fun w t140 => ∃ r140 : Int32, w = some (.int r140) ∧
                    vp_in v4 60 ∧
                    sk_G sk_Sc d mX1_workOut 6 [(0, .ref q), (1, .int v1), (2, .int v2), (3, .int v3), (4, .int (v4 + 1)), (5, .int (v5 + 1))] [] (sk_u t140 qs (v4).toNatClampNeg r140) K
                  )
                ))
              ))
            ) ∧
            (¬ v4 < 2 →
              vp_in ((v4 + (-1)) - 1) 60 ∧
              vp_in (v4 + (-1)) 60 ∧
              sk_C sk_Sc (d - 1) mX1_join [.int (τ qc (v5).toNatClampNeg), .int (τ qs (((v4 + (-1)) - 1)).toNatClampNeg), .int (τ qs ((v4 + (-1))).toNatClampNeg)] τ (fun w t108 => ∃ r108 : Int32, w = some (.int r108) ∧
                vp_in ((v4 + (-1)) - 1) 60 ∧
                sk_G sk_Sc d mX1_workOut 6 [(0, .ref q), (1, .int v1), (2, .int v2), (3, .int v3), (4, .int (v4 + (-1))), (5, .int (v5 + 1))] [] (sk_u t108 qs (((v4 + (-1)) - 1)).toNatClampNeg r108) K
              )
            ))
          ))
        ) ∧
        (¬ v4 < 1 →
          vp_in (v4 - 1) 60 ∧
          ((¬ (τ qs ((v4 - 1)).toNatClampNeg) = 0 →
            vp_in (v4 - 1) 60 ∧
            sk_G sk_Sc d mX1_workOut 6 [(0, .ref q), (1, .int v1), (2, .int v2), (3, .int v3), (4, .int v4), (5, .int (v5 + 1))] [] (sk_u τ qs ((v4 - 1)).toNatClampNeg 0) K
          ) ∧
          ((τ qs ((v4 - 1)).toNatClampNeg) = 0 →
            vp_in (v4 - 1) 60 ∧
            sk_G sk_Sc d mX1_workOut 6 [(0, .ref q), (1, .int v1), (2, .int v2), (3, .int v3), (4, .int v4), (5, .int (v5 + 1))] [] (sk_u τ qs ((v4 - 1)).toNatClampNeg 1) K
          ))
        ))
      ))
    ))) :
  sk_G sk_Sc d mX1_workOut 6 [(0, .ref q), (1, .int v1), (2, .int v2), (3, .int v3), (4, .int v4), (5, .int v5)] [] τ K := by
  refine sk_iload 5 8 dX1_workOut_6 rfl rfl ?_
  refine sk_aload_n 0 9 dX1_workOut_8 rfl rfl rfl ?_
  refine sk_getI 12 dX1_workOut_9 rfl lfX1_19 hq rfl ?_
  refine sk_icmp_ge 153 15 dX1_workOut_12 (by decide) rfl (fun hc => ?_) (fun hc => ?_)
  · have h := h.1 hc
    refine sk_aload_n 0 154 dX1_workOut_153 rfl rfl rfl ?_
    refine sk_getR (r := qs) 157 dX1_workOut_154 rfl lfX1_23 hq rfl ?_
    refine sk_iconst (v := 0) 158 dX1_workOut_157 rfl (by decide) ?_
    refine sk_iald 159 dX1_workOut_158 rfl hqs (by unfold vp_in; decide) 0 rfl ?_
    exact sk_iret dX1_workOut_159 rfl rfl h
  · have h := h.2 hc
    refine sk_aload_n 0 16 dX1_workOut_15 rfl rfl rfl ?_
    refine sk_getR (r := qc) 19 dX1_workOut_16 rfl lfX1_15 hq rfl ?_
    refine sk_iload 5 21 dX1_workOut_19 rfl rfl ?_
    have hb21 := h.1
    have h := h.2
    refine sk_iald 22 dX1_workOut_21 rfl hqc hb21 _ rfl ?_
    refine sk_istore (lv2 := [(6, .int (τ qc (v5).toNatClampNeg)), (0, .ref q), (1, .int v1), (2, .int v2), (3, .int v3), (4, .int v4), (5, .int v5)]) 24 dX1_workOut_22 rfl (by decide) rfl ?_
    refine sk_iload 0 26 dX1_workOut_24 rfl rfl ?_
    refine sk_bipush (v := (-4)) 28 dX1_workOut_26 rfl (by decide) ?_
    refine sk_icmp_ne 66 31 dX1_workOut_28 (by decide) rfl (fun hc => ?_) (fun hc => ?_)
    · have h := h.1 hc
      refine sk_iload 0 68 dX1_workOut_66 rfl rfl ?_
      refine sk_bipush (v := (-4)) 70 dX1_workOut_68 rfl (by decide) ?_
      refine sk_icmp_ge 115 73 dX1_workOut_70 (by decide) rfl (fun hc => ?_) (fun hc => ?_)
      · have h := h.1 hc
        refine sk_iload 0 117 dX1_workOut_115 rfl rfl ?_
        refine sk_bipush (v := (-4)) 119 dX1_workOut_117 rfl (by decide) ?_
        refine sk_icmp_le 147 122 dX1_workOut_119 (by decide) rfl (fun hc => ?_) (fun hc => ?_)
        · have h := h.1 hc
          refine sk_iinc (v := (v5 + 1)) (lv2 := [(5, .int (v5 + 1)), (6, .int (τ qc (v5).toNatClampNeg)), (0, .ref q), (1, .int v1), (2, .int v2), (3, .int v3), (4, .int v4)]) 6 150 dX1_workOut_147 rfl rfl rfl (by decide) rfl ?_
          refine sk_goto 6 dX1_workOut_150 (by decide) ?_
          refine sk_perm (lv2 := [(0, .ref q), (1, .int v1), (2, .int v2), (3, .int v3), (4, .int v4), (5, .int (v5 + 1))]) [2, 3, 4, 5, 6, 0] rfl ?_
          exact h
        · have h := h.2 hc
          refine sk_iload 5 124 dX1_workOut_122 rfl rfl ?_
          refine sk_bipush (v := 60) 126 dX1_workOut_124 rfl (by decide) ?_
          refine sk_icmp_ge 147 129 dX1_workOut_126 (by decide) rfl (fun hc => ?_) (fun hc => ?_)
          · have h := h.1 hc
            refine sk_iinc (v := (v5 + 1)) (lv2 := [(5, .int (v5 + 1)), (6, .int (τ qc (v5).toNatClampNeg)), (0, .ref q), (1, .int v1), (2, .int v2), (3, .int v3), (4, .int v4)]) 6 150 dX1_workOut_147 rfl rfl rfl (by decide) rfl ?_
            refine sk_goto 6 dX1_workOut_150 (by decide) ?_
            refine sk_perm (lv2 := [(0, .ref q), (1, .int v1), (2, .int v2), (3, .int v3), (4, .int v4), (5, .int (v5 + 1))]) [2, 3, 4, 5, 6, 0] rfl ?_
            exact h
          · have h := h.2 hc
            refine sk_aload_n 1 130 dX1_workOut_129 rfl rfl rfl ?_
            refine sk_getR (r := qs) 133 dX1_workOut_130 rfl lfX1_23 hq rfl ?_
            refine sk_iload 5 135 dX1_workOut_133 rfl rfl ?_
            refine sk_iload 0 137 dX1_workOut_135 rfl rfl ?_
            refine sk_iload_n 2 138 dX1_workOut_137 rfl rfl rfl ?_
            refine sk_iload_n 3 139 dX1_workOut_138 rfl rfl rfl ?_
            refine sk_iload_n 4 140 dX1_workOut_139 rfl rfl rfl ?_
            refine sk_callSi [.int (τ qc (v5).toNatClampNeg), .int v1, .int v2, .int v3] [.int v4, .ref qs] 143 dX1_workOut_140 rfl mfX1_worth lkX1_51 miX1_worth rfl rfl (by simp [Value.category]) hd0 (sk_Cm h ?_)
            rintro w t140 ⟨r140, hw, h⟩
            refine ⟨r140, hw, ?_⟩
            have hb143 := h.1
            have h := h.2
            refine sk_iast 144 dX1_workOut_143 rfl hqs hb143 _ rfl ?_
            refine sk_iinc (v := (v4 + 1)) (lv2 := [(4, .int (v4 + 1)), (6, .int (τ qc (v5).toNatClampNeg)), (0, .ref q), (1, .int v1), (2, .int v2), (3, .int v3), (5, .int v5)]) 5 147 dX1_workOut_144 rfl rfl rfl (by decide) rfl ?_
            refine sk_iinc (v := (v5 + 1)) (lv2 := [(5, .int (v5 + 1)), (4, .int (v4 + 1)), (6, .int (τ qc (v5).toNatClampNeg)), (0, .ref q), (1, .int v1), (2, .int v2), (3, .int v3)]) 6 150 dX1_workOut_147 rfl rfl rfl (by decide) rfl ?_
            refine sk_goto 6 dX1_workOut_150 (by decide) ?_
            refine sk_perm (lv2 := [(0, .ref q), (1, .int v1), (2, .int v2), (3, .int v3), (4, .int (v4 + 1)), (5, .int (v5 + 1))]) [3, 4, 5, 6, 1, 0] rfl ?_
            exact h
      · have h := h.2 hc
        refine sk_iload 5 75 dX1_workOut_73 rfl rfl ?_
        refine sk_iconst (v := 2) 76 dX1_workOut_75 rfl (by decide) ?_
        refine sk_icmp_lt 115 79 dX1_workOut_76 (by decide) rfl (fun hc => ?_) (fun hc => ?_)
        · have h := h.1 hc
          refine sk_iload 0 117 dX1_workOut_115 rfl rfl ?_
          refine sk_bipush (v := (-4)) 119 dX1_workOut_117 rfl (by decide) ?_
          refine sk_icmp_le 147 122 dX1_workOut_119 (by decide) rfl (fun hc => ?_) (fun hc => ?_)
          · have h := h.1 hc
            refine sk_iinc (v := (v5 + 1)) (lv2 := [(5, .int (v5 + 1)), (6, .int (τ qc (v5).toNatClampNeg)), (0, .ref q), (1, .int v1), (2, .int v2), (3, .int v3), (4, .int v4)]) 6 150 dX1_workOut_147 rfl rfl rfl (by decide) rfl ?_
            refine sk_goto 6 dX1_workOut_150 (by decide) ?_
            refine sk_perm (lv2 := [(0, .ref q), (1, .int v1), (2, .int v2), (3, .int v3), (4, .int v4), (5, .int (v5 + 1))]) [2, 3, 4, 5, 6, 0] rfl ?_
            exact h
          · have h := h.2 hc
            refine sk_iload 5 124 dX1_workOut_122 rfl rfl ?_
            refine sk_bipush (v := 60) 126 dX1_workOut_124 rfl (by decide) ?_
            refine sk_icmp_ge 147 129 dX1_workOut_126 (by decide) rfl (fun hc => ?_) (fun hc => ?_)
            · have h := h.1 hc
              refine sk_iinc (v := (v5 + 1)) (lv2 := [(5, .int (v5 + 1)), (6, .int (τ qc (v5).toNatClampNeg)), (0, .ref q), (1, .int v1), (2, .int v2), (3, .int v3), (4, .int v4)]) 6 150 dX1_workOut_147 rfl rfl rfl (by decide) rfl ?_
              refine sk_goto 6 dX1_workOut_150 (by decide) ?_
              refine sk_perm (lv2 := [(0, .ref q), (1, .int v1), (2, .int v2), (3, .int v3), (4, .int v4), (5, .int (v5 + 1))]) [2, 3, 4, 5, 6, 0] rfl ?_
              exact h
            · have h := h.2 hc
              refine sk_aload_n 1 130 dX1_workOut_129 rfl rfl rfl ?_
              refine sk_getR (r := qs) 133 dX1_workOut_130 rfl lfX1_23 hq rfl ?_
              refine sk_iload 5 135 dX1_workOut_133 rfl rfl ?_
              refine sk_iload 0 137 dX1_workOut_135 rfl rfl ?_
              refine sk_iload_n 2 138 dX1_workOut_137 rfl rfl rfl ?_
              refine sk_iload_n 3 139 dX1_workOut_138 rfl rfl rfl ?_
              refine sk_iload_n 4 140 dX1_workOut_139 rfl rfl rfl ?_
              refine sk_callSi [.int (τ qc (v5).toNatClampNeg), .int v1, .int v2, .int v3] [.int v4, .ref qs] 143 dX1_workOut_140 rfl mfX1_worth lkX1_51 miX1_worth rfl rfl (by simp [Value.category]) hd0 (sk_Cm h ?_)
              rintro w t140 ⟨r140, hw, h⟩
              refine ⟨r140, hw, ?_⟩
              have hb143 := h.1
              have h := h.2
              refine sk_iast 144 dX1_workOut_143 rfl hqs hb143 _ rfl ?_
              refine sk_iinc (v := (v4 + 1)) (lv2 := [(4, .int (v4 + 1)), (6, .int (τ qc (v5).toNatClampNeg)), (0, .ref q), (1, .int v1), (2, .int v2), (3, .int v3), (5, .int v5)]) 5 147 dX1_workOut_144 rfl rfl rfl (by decide) rfl ?_
              refine sk_iinc (v := (v5 + 1)) (lv2 := [(5, .int (v5 + 1)), (4, .int (v4 + 1)), (6, .int (τ qc (v5).toNatClampNeg)), (0, .ref q), (1, .int v1), (2, .int v2), (3, .int v3)]) 6 150 dX1_workOut_147 rfl rfl rfl (by decide) rfl ?_
              refine sk_goto 6 dX1_workOut_150 (by decide) ?_
              refine sk_perm (lv2 := [(0, .ref q), (1, .int v1), (2, .int v2), (3, .int v3), (4, .int (v4 + 1)), (5, .int (v5 + 1))]) [3, 4, 5, 6, 1, 0] rfl ?_
              exact h
        · have h := h.2 hc
          refine sk_iinc (v := (v4 + (-1))) (lv2 := [(4, .int (v4 + (-1))), (6, .int (τ qc (v5).toNatClampNeg)), (0, .ref q), (1, .int v1), (2, .int v2), (3, .int v3), (5, .int v5)]) 5 82 dX1_workOut_79 rfl rfl rfl (by decide) rfl ?_
          refine sk_aload_n 2 83 dX1_workOut_82 rfl rfl rfl ?_
          refine sk_getR (r := qs) 86 dX1_workOut_83 rfl lfX1_23 hq rfl ?_
          refine sk_iload 0 88 dX1_workOut_86 rfl rfl ?_
          refine sk_iconst (v := 1) 89 dX1_workOut_88 rfl (by decide) ?_
          refine sk_isub 90 dX1_workOut_89 rfl ?_
          refine sk_iload 1 92 dX1_workOut_90 rfl rfl ?_
          refine sk_aload_n 2 93 dX1_workOut_92 rfl rfl rfl ?_
          refine sk_getR (r := qs) 96 dX1_workOut_93 rfl lfX1_23 hq rfl ?_
          refine sk_iload 0 98 dX1_workOut_96 rfl rfl ?_
          refine sk_iconst (v := 1) 99 dX1_workOut_98 rfl (by decide) ?_
          refine sk_isub 100 dX1_workOut_99 rfl ?_
          have hb100 := h.1
          have h := h.2
          refine sk_iald 101 dX1_workOut_100 rfl hqs hb100 _ rfl ?_
          refine sk_aload_n 2 102 dX1_workOut_101 rfl rfl rfl ?_
          refine sk_getR (r := qs) 105 dX1_workOut_102 rfl lfX1_23 hq rfl ?_
          refine sk_iload 0 107 dX1_workOut_105 rfl rfl ?_
          have hb107 := h.1
          have h := h.2
          refine sk_iald 108 dX1_workOut_107 rfl hqs hb107 _ rfl ?_
          refine sk_callSi [.int (τ qc (v5).toNatClampNeg), .int (τ qs (((v4 + (-1)) - 1)).toNatClampNeg), .int (τ qs ((v4 + (-1))).toNatClampNeg)] [.int ((v4 + (-1)) - 1), .ref qs] 111 dX1_workOut_108 rfl mfX1_join lkX1_48 miX1_join rfl rfl (by simp [Value.category]) hd0 (sk_Cm h ?_)
          rintro w t108 ⟨r108, hw, h⟩
          refine ⟨r108, hw, ?_⟩
          have hb111 := h.1
          have h := h.2
          refine sk_iast 112 dX1_workOut_111 rfl hqs hb111 _ rfl ?_
          refine sk_goto 147 dX1_workOut_112 (by decide) ?_
          refine sk_iinc (v := (v5 + 1)) (lv2 := [(5, .int (v5 + 1)), (4, .int (v4 + (-1))), (6, .int (τ qc (v5).toNatClampNeg)), (0, .ref q), (1, .int v1), (2, .int v2), (3, .int v3)]) 6 150 dX1_workOut_147 rfl rfl rfl (by decide) rfl ?_
          refine sk_goto 6 dX1_workOut_150 (by decide) ?_
          refine sk_perm (lv2 := [(0, .ref q), (1, .int v1), (2, .int v2), (3, .int v3), (4, .int (v4 + (-1))), (5, .int (v5 + 1))]) [3, 4, 5, 6, 1, 0] rfl ?_
          exact h
    · have h := h.2 hc
      refine sk_iload 5 33 dX1_workOut_31 rfl rfl ?_
      refine sk_iconst (v := 1) 34 dX1_workOut_33 rfl (by decide) ?_
      refine sk_icmp_lt 66 37 dX1_workOut_34 (by decide) rfl (fun hc => ?_) (fun hc => ?_)
      · have h := h.1 hc
        refine sk_iload 0 68 dX1_workOut_66 rfl rfl ?_
        refine sk_bipush (v := (-4)) 70 dX1_workOut_68 rfl (by decide) ?_
        refine sk_icmp_ge 115 73 dX1_workOut_70 (by decide) rfl (fun hc => ?_) (fun hc => ?_)
        · have h := h.1 hc
          refine sk_iload 0 117 dX1_workOut_115 rfl rfl ?_
          refine sk_bipush (v := (-4)) 119 dX1_workOut_117 rfl (by decide) ?_
          refine sk_icmp_le 147 122 dX1_workOut_119 (by decide) rfl (fun hc => ?_) (fun hc => ?_)
          · have h := h.1 hc
            refine sk_iinc (v := (v5 + 1)) (lv2 := [(5, .int (v5 + 1)), (6, .int (τ qc (v5).toNatClampNeg)), (0, .ref q), (1, .int v1), (2, .int v2), (3, .int v3), (4, .int v4)]) 6 150 dX1_workOut_147 rfl rfl rfl (by decide) rfl ?_
            refine sk_goto 6 dX1_workOut_150 (by decide) ?_
            refine sk_perm (lv2 := [(0, .ref q), (1, .int v1), (2, .int v2), (3, .int v3), (4, .int v4), (5, .int (v5 + 1))]) [2, 3, 4, 5, 6, 0] rfl ?_
            exact h
          · have h := h.2 hc
            refine sk_iload 5 124 dX1_workOut_122 rfl rfl ?_
            refine sk_bipush (v := 60) 126 dX1_workOut_124 rfl (by decide) ?_
            refine sk_icmp_ge 147 129 dX1_workOut_126 (by decide) rfl (fun hc => ?_) (fun hc => ?_)
            · have h := h.1 hc
              refine sk_iinc (v := (v5 + 1)) (lv2 := [(5, .int (v5 + 1)), (6, .int (τ qc (v5).toNatClampNeg)), (0, .ref q), (1, .int v1), (2, .int v2), (3, .int v3), (4, .int v4)]) 6 150 dX1_workOut_147 rfl rfl rfl (by decide) rfl ?_
              refine sk_goto 6 dX1_workOut_150 (by decide) ?_
              refine sk_perm (lv2 := [(0, .ref q), (1, .int v1), (2, .int v2), (3, .int v3), (4, .int v4), (5, .int (v5 + 1))]) [2, 3, 4, 5, 6, 0] rfl ?_
              exact h
            · have h := h.2 hc
              refine sk_aload_n 1 130 dX1_workOut_129 rfl rfl rfl ?_
              refine sk_getR (r := qs) 133 dX1_workOut_130 rfl lfX1_23 hq rfl ?_
              refine sk_iload 5 135 dX1_workOut_133 rfl rfl ?_
              refine sk_iload 0 137 dX1_workOut_135 rfl rfl ?_
              refine sk_iload_n 2 138 dX1_workOut_137 rfl rfl rfl ?_
              refine sk_iload_n 3 139 dX1_workOut_138 rfl rfl rfl ?_
              refine sk_iload_n 4 140 dX1_workOut_139 rfl rfl rfl ?_
              refine sk_callSi [.int (τ qc (v5).toNatClampNeg), .int v1, .int v2, .int v3] [.int v4, .ref qs] 143 dX1_workOut_140 rfl mfX1_worth lkX1_51 miX1_worth rfl rfl (by simp [Value.category]) hd0 (sk_Cm h ?_)
              rintro w t140 ⟨r140, hw, h⟩
              refine ⟨r140, hw, ?_⟩
              have hb143 := h.1
              have h := h.2
              refine sk_iast 144 dX1_workOut_143 rfl hqs hb143 _ rfl ?_
              refine sk_iinc (v := (v4 + 1)) (lv2 := [(4, .int (v4 + 1)), (6, .int (τ qc (v5).toNatClampNeg)), (0, .ref q), (1, .int v1), (2, .int v2), (3, .int v3), (5, .int v5)]) 5 147 dX1_workOut_144 rfl rfl rfl (by decide) rfl ?_
              refine sk_iinc (v := (v5 + 1)) (lv2 := [(5, .int (v5 + 1)), (4, .int (v4 + 1)), (6, .int (τ qc (v5).toNatClampNeg)), (0, .ref q), (1, .int v1), (2, .int v2), (3, .int v3)]) 6 150 dX1_workOut_147 rfl rfl rfl (by decide) rfl ?_
              refine sk_goto 6 dX1_workOut_150 (by decide) ?_
              refine sk_perm (lv2 := [(0, .ref q), (1, .int v1), (2, .int v2), (3, .int v3), (4, .int (v4 + 1)), (5, .int (v5 + 1))]) [3, 4, 5, 6, 1, 0] rfl ?_
              exact h
        · have h := h.2 hc
          refine sk_iload 5 75 dX1_workOut_73 rfl rfl ?_
          refine sk_iconst (v := 2) 76 dX1_workOut_75 rfl (by decide) ?_
          refine sk_icmp_lt 115 79 dX1_workOut_76 (by decide) rfl (fun hc => ?_) (fun hc => ?_)
          · have h := h.1 hc
            refine sk_iload 0 117 dX1_workOut_115 rfl rfl ?_
            refine sk_bipush (v := (-4)) 119 dX1_workOut_117 rfl (by decide) ?_
            refine sk_icmp_le 147 122 dX1_workOut_119 (by decide) rfl (fun hc => ?_) (fun hc => ?_)
            · have h := h.1 hc
              refine sk_iinc (v := (v5 + 1)) (lv2 := [(5, .int (v5 + 1)), (6, .int (τ qc (v5).toNatClampNeg)), (0, .ref q), (1, .int v1), (2, .int v2), (3, .int v3), (4, .int v4)]) 6 150 dX1_workOut_147 rfl rfl rfl (by decide) rfl ?_
              refine sk_goto 6 dX1_workOut_150 (by decide) ?_
              refine sk_perm (lv2 := [(0, .ref q), (1, .int v1), (2, .int v2), (3, .int v3), (4, .int v4), (5, .int (v5 + 1))]) [2, 3, 4, 5, 6, 0] rfl ?_
              exact h
            · have h := h.2 hc
              refine sk_iload 5 124 dX1_workOut_122 rfl rfl ?_
              refine sk_bipush (v := 60) 126 dX1_workOut_124 rfl (by decide) ?_
              refine sk_icmp_ge 147 129 dX1_workOut_126 (by decide) rfl (fun hc => ?_) (fun hc => ?_)
              · have h := h.1 hc
                refine sk_iinc (v := (v5 + 1)) (lv2 := [(5, .int (v5 + 1)), (6, .int (τ qc (v5).toNatClampNeg)), (0, .ref q), (1, .int v1), (2, .int v2), (3, .int v3), (4, .int v4)]) 6 150 dX1_workOut_147 rfl rfl rfl (by decide) rfl ?_
                refine sk_goto 6 dX1_workOut_150 (by decide) ?_
                refine sk_perm (lv2 := [(0, .ref q), (1, .int v1), (2, .int v2), (3, .int v3), (4, .int v4), (5, .int (v5 + 1))]) [2, 3, 4, 5, 6, 0] rfl ?_
                exact h
              · have h := h.2 hc
                refine sk_aload_n 1 130 dX1_workOut_129 rfl rfl rfl ?_
                refine sk_getR (r := qs) 133 dX1_workOut_130 rfl lfX1_23 hq rfl ?_
                refine sk_iload 5 135 dX1_workOut_133 rfl rfl ?_
                refine sk_iload 0 137 dX1_workOut_135 rfl rfl ?_
                refine sk_iload_n 2 138 dX1_workOut_137 rfl rfl rfl ?_
                refine sk_iload_n 3 139 dX1_workOut_138 rfl rfl rfl ?_
                refine sk_iload_n 4 140 dX1_workOut_139 rfl rfl rfl ?_
                refine sk_callSi [.int (τ qc (v5).toNatClampNeg), .int v1, .int v2, .int v3] [.int v4, .ref qs] 143 dX1_workOut_140 rfl mfX1_worth lkX1_51 miX1_worth rfl rfl (by simp [Value.category]) hd0 (sk_Cm h ?_)
                rintro w t140 ⟨r140, hw, h⟩
                refine ⟨r140, hw, ?_⟩
                have hb143 := h.1
                have h := h.2
                refine sk_iast 144 dX1_workOut_143 rfl hqs hb143 _ rfl ?_
                refine sk_iinc (v := (v4 + 1)) (lv2 := [(4, .int (v4 + 1)), (6, .int (τ qc (v5).toNatClampNeg)), (0, .ref q), (1, .int v1), (2, .int v2), (3, .int v3), (5, .int v5)]) 5 147 dX1_workOut_144 rfl rfl rfl (by decide) rfl ?_
                refine sk_iinc (v := (v5 + 1)) (lv2 := [(5, .int (v5 + 1)), (4, .int (v4 + 1)), (6, .int (τ qc (v5).toNatClampNeg)), (0, .ref q), (1, .int v1), (2, .int v2), (3, .int v3)]) 6 150 dX1_workOut_147 rfl rfl rfl (by decide) rfl ?_
                refine sk_goto 6 dX1_workOut_150 (by decide) ?_
                refine sk_perm (lv2 := [(0, .ref q), (1, .int v1), (2, .int v2), (3, .int v3), (4, .int (v4 + 1)), (5, .int (v5 + 1))]) [3, 4, 5, 6, 1, 0] rfl ?_
                exact h
          · have h := h.2 hc
            refine sk_iinc (v := (v4 + (-1))) (lv2 := [(4, .int (v4 + (-1))), (6, .int (τ qc (v5).toNatClampNeg)), (0, .ref q), (1, .int v1), (2, .int v2), (3, .int v3), (5, .int v5)]) 5 82 dX1_workOut_79 rfl rfl rfl (by decide) rfl ?_
            refine sk_aload_n 2 83 dX1_workOut_82 rfl rfl rfl ?_
            refine sk_getR (r := qs) 86 dX1_workOut_83 rfl lfX1_23 hq rfl ?_
            refine sk_iload 0 88 dX1_workOut_86 rfl rfl ?_
            refine sk_iconst (v := 1) 89 dX1_workOut_88 rfl (by decide) ?_
            refine sk_isub 90 dX1_workOut_89 rfl ?_
            refine sk_iload 1 92 dX1_workOut_90 rfl rfl ?_
            refine sk_aload_n 2 93 dX1_workOut_92 rfl rfl rfl ?_
            refine sk_getR (r := qs) 96 dX1_workOut_93 rfl lfX1_23 hq rfl ?_
            refine sk_iload 0 98 dX1_workOut_96 rfl rfl ?_
            refine sk_iconst (v := 1) 99 dX1_workOut_98 rfl (by decide) ?_
            refine sk_isub 100 dX1_workOut_99 rfl ?_
            have hb100 := h.1
            have h := h.2
            refine sk_iald 101 dX1_workOut_100 rfl hqs hb100 _ rfl ?_
            refine sk_aload_n 2 102 dX1_workOut_101 rfl rfl rfl ?_
            refine sk_getR (r := qs) 105 dX1_workOut_102 rfl lfX1_23 hq rfl ?_
            refine sk_iload 0 107 dX1_workOut_105 rfl rfl ?_
            have hb107 := h.1
            have h := h.2
            refine sk_iald 108 dX1_workOut_107 rfl hqs hb107 _ rfl ?_
            refine sk_callSi [.int (τ qc (v5).toNatClampNeg), .int (τ qs (((v4 + (-1)) - 1)).toNatClampNeg), .int (τ qs ((v4 + (-1))).toNatClampNeg)] [.int ((v4 + (-1)) - 1), .ref qs] 111 dX1_workOut_108 rfl mfX1_join lkX1_48 miX1_join rfl rfl (by simp [Value.category]) hd0 (sk_Cm h ?_)
            rintro w t108 ⟨r108, hw, h⟩
            refine ⟨r108, hw, ?_⟩
            have hb111 := h.1
            have h := h.2
            refine sk_iast 112 dX1_workOut_111 rfl hqs hb111 _ rfl ?_
            refine sk_goto 147 dX1_workOut_112 (by decide) ?_
            refine sk_iinc (v := (v5 + 1)) (lv2 := [(5, .int (v5 + 1)), (4, .int (v4 + (-1))), (6, .int (τ qc (v5).toNatClampNeg)), (0, .ref q), (1, .int v1), (2, .int v2), (3, .int v3)]) 6 150 dX1_workOut_147 rfl rfl rfl (by decide) rfl ?_
            refine sk_goto 6 dX1_workOut_150 (by decide) ?_
            refine sk_perm (lv2 := [(0, .ref q), (1, .int v1), (2, .int v2), (3, .int v3), (4, .int (v4 + (-1))), (5, .int (v5 + 1))]) [3, 4, 5, 6, 1, 0] rfl ?_
            exact h
      · have h := h.2 hc
        refine sk_aload_n 1 38 dX1_workOut_37 rfl rfl rfl ?_
        refine sk_getR (r := qs) 41 dX1_workOut_38 rfl lfX1_23 hq rfl ?_
        refine sk_iload 5 43 dX1_workOut_41 rfl rfl ?_
        refine sk_iconst (v := 1) 44 dX1_workOut_43 rfl (by decide) ?_
        refine sk_isub 45 dX1_workOut_44 rfl ?_
        refine sk_aload_n 1 46 dX1_workOut_45 rfl rfl rfl ?_
        refine sk_getR (r := qs) 49 dX1_workOut_46 rfl lfX1_23 hq rfl ?_
        refine sk_iload 5 51 dX1_workOut_49 rfl rfl ?_
        refine sk_iconst (v := 1) 52 dX1_workOut_51 rfl (by decide) ?_
        refine sk_isub 53 dX1_workOut_52 rfl ?_
        have hb53 := h.1
        have h := h.2
        refine sk_iald 54 dX1_workOut_53 rfl hqs hb53 _ rfl ?_
        refine sk_if_ne 61 57 dX1_workOut_54 (by decide) rfl (fun hc => ?_) (fun hc => ?_)
        · have h := h.1 hc
          refine sk_iconst (v := 0) 62 dX1_workOut_61 rfl (by decide) ?_
          have hb62 := h.1
          have h := h.2
          refine sk_iast 63 dX1_workOut_62 rfl hqs hb62 _ rfl ?_
          refine sk_goto 147 dX1_workOut_63 (by decide) ?_
          refine sk_iinc (v := (v5 + 1)) (lv2 := [(5, .int (v5 + 1)), (6, .int (τ qc (v5).toNatClampNeg)), (0, .ref q), (1, .int v1), (2, .int v2), (3, .int v3), (4, .int v4)]) 6 150 dX1_workOut_147 rfl rfl rfl (by decide) rfl ?_
          refine sk_goto 6 dX1_workOut_150 (by decide) ?_
          refine sk_perm (lv2 := [(0, .ref q), (1, .int v1), (2, .int v2), (3, .int v3), (4, .int v4), (5, .int (v5 + 1))]) [2, 3, 4, 5, 6, 0] rfl ?_
          exact h
        · have h := h.2 hc
          refine sk_iconst (v := 1) 58 dX1_workOut_57 rfl (by decide) ?_
          refine sk_goto 62 dX1_workOut_58 (by decide) ?_
          have hb62 := h.1
          have h := h.2
          refine sk_iast 63 dX1_workOut_62 rfl hqs hb62 _ rfl ?_
          refine sk_goto 147 dX1_workOut_63 (by decide) ?_
          refine sk_iinc (v := (v5 + 1)) (lv2 := [(5, .int (v5 + 1)), (6, .int (τ qc (v5).toNatClampNeg)), (0, .ref q), (1, .int v1), (2, .int v2), (3, .int v3), (4, .int v4)]) 6 150 dX1_workOut_147 rfl rfl rfl (by decide) rfl ?_
          refine sk_goto 6 dX1_workOut_150 (by decide) ?_
          refine sk_perm (lv2 := [(0, .ref q), (1, .int v1), (2, .int v2), (3, .int v3), (4, .int v4), (5, .int (v5 + 1))]) [2, 3, 4, 5, 6, 0] rfl ?_
          exact h

theorem wX1_worth {d : Nat} {τ : sk_T} {K : sk_K} {v0 : Int32} {v1 : Int32} {v2 : Int32} {v3 : Int32}
  (h : (
    (v0 = (-3) →
      K (some (.int v1)) τ
    ) ∧
    (v0 = (-2) →
      K (some (.int v2)) τ
    ) ∧
    (v0 = (-1) →
      K (some (.int v3)) τ
    ) ∧
    ((¬ v0 = (-3) ∧ ¬ v0 = (-2) ∧ ¬ v0 = (-1)) →
      K (some (.int v0)) τ
    ))) :
  sk_C sk_Sc d mX1_worth [.int v0, .int v1, .int v2, .int v3] τ K := by
  refine sk_enter mfX1_worth (Nat.le_of_ble_eq_true rfl) ?_
  show sk_G sk_Sc d mX1_worth 0 [(0, .int v0), (1, .int v1), (2, .int v2), (3, .int v3)] [] τ K
  refine sk_iload_n 0 1 dX1_worth_0 rfl rfl rfl ?_
  refine sk_table [28, 30, 32] 34 dX1_worth_1 (by decide) (by decide) (by decide) (by decide) ⟨fun e => ?_, fun e => ?_, fun e => ?_, trivial⟩ (fun e => ?_)
  · have h := h.1 e
    refine sk_iload_n 1 29 dX1_worth_28 rfl rfl rfl ?_
    exact sk_iret dX1_worth_29 rfl rfl h
  · have h := h.2.1 e
    refine sk_iload_n 2 31 dX1_worth_30 rfl rfl rfl ?_
    exact sk_iret dX1_worth_31 rfl rfl h
  · have h := h.2.2.1 e
    refine sk_iload_n 3 33 dX1_worth_32 rfl rfl rfl ?_
    exact sk_iret dX1_worth_33 rfl rfl h
  · have h := h.2.2.2 ⟨e 0 (by decide), e 1 (by decide), e 2 (by decide)⟩
    refine sk_iload_n 0 35 dX1_worth_34 rfl rfl rfl ?_
    exact sk_iret dX1_worth_35 rfl rfl h

theorem wX1_join {d : Nat} {τ : sk_T} {K : sk_K} {v0 : Int32} {v1 : Int32} {v2 : Int32}
  (h : (
    (v0 = (-14) →
      ((¬ v2 = 0 →
        ¬ v2 = 0 ∧
        K (some (.int (v1 % v2))) τ
      ) ∧
      (v2 = 0 →
        K (some (.int 0)) τ
      ))
    ) ∧
    (v0 = (-13) →
      ((¬ v2 = 0 →
        ¬ v2 = 0 ∧
        K (some (.int (v1 / v2))) τ
      ) ∧
      (v2 = 0 →
        K (some (.int 0)) τ
      ))
    ) ∧
    (v0 = (-12) →
      K (some (.int (v1 * v2))) τ
    ) ∧
    (v0 = (-11) →
      K (some (.int (v1 - v2))) τ
    ) ∧
    (v0 = (-10) →
      K (some (.int (v1 + v2))) τ
    ) ∧
    (v0 = (-9) →
      ((v1 ≤ v2 →
        K (some (.int 0)) τ
      ) ∧
      (¬ v1 ≤ v2 →
        K (some (.int 1)) τ
      ))
    ) ∧
    (v0 = (-8) →
      ((¬ v1 = v2 →
        K (some (.int 0)) τ
      ) ∧
      (v1 = v2 →
        K (some (.int 1)) τ
      ))
    ) ∧
    (v0 = (-7) →
      ((v2 ≤ v1 →
        K (some (.int 0)) τ
      ) ∧
      (¬ v2 ≤ v1 →
        K (some (.int 1)) τ
      ))
    ) ∧
    (v0 = (-6) →
      ((v1 = 0 →
        K (some (.int 0)) τ
      ) ∧
      (¬ v1 = 0 →
        ((v2 = 0 →
          K (some (.int 0)) τ
        ) ∧
        (¬ v2 = 0 →
          K (some (.int 1)) τ
        ))
      ))
    ) ∧
    (v0 = (-5) →
      ((¬ v1 = 0 →
        K (some (.int 1)) τ
      ) ∧
      (v1 = 0 →
        ((v2 = 0 →
          K (some (.int 0)) τ
        ) ∧
        (¬ v2 = 0 →
          K (some (.int 1)) τ
        ))
      ))
    ) ∧
    ((¬ v0 = (-14) ∧ ¬ v0 = (-13) ∧ ¬ v0 = (-12) ∧ ¬ v0 = (-11) ∧ ¬ v0 = (-10) ∧ ¬ v0 = (-9) ∧ ¬ v0 = (-8) ∧ ¬ v0 = (-7) ∧ ¬ v0 = (-6) ∧ ¬ v0 = (-5)) →
      K (some (.int 0)) τ
    ))) :
  sk_C sk_Sc d mX1_join [.int v0, .int v1, .int v2] τ K := by
  refine sk_enter mfX1_join (Nat.le_of_ble_eq_true rfl) ?_
  show sk_G sk_Sc d mX1_join 0 [(0, .int v0), (1, .int v1), (2, .int v2)] [] τ K
  refine sk_iload_n 0 1 dX1_join_0 rfl rfl rfl ?_
  refine sk_table [141, 129, 125, 121, 117, 106, 95, 84, 70, 56] 153 dX1_join_1 (by decide) (by decide) (by decide) (by decide) ⟨fun e => ?_, fun e => ?_, fun e => ?_, fun e => ?_, fun e => ?_, fun e => ?_, fun e => ?_, fun e => ?_, fun e => ?_, fun e => ?_, trivial⟩ (fun e => ?_)
  · have h := h.1 e
    refine sk_iload_n 2 142 dX1_join_141 rfl rfl rfl ?_
    refine sk_if_ne 149 145 dX1_join_142 (by decide) rfl (fun hc => ?_) (fun hc => ?_)
    · have h := h.1 hc
      refine sk_iload_n 1 150 dX1_join_149 rfl rfl rfl ?_
      refine sk_iload_n 2 151 dX1_join_150 rfl rfl rfl ?_
      have hz151 := h.1
      have h := h.2
      refine sk_irem 152 dX1_join_151 rfl hz151 ?_
      exact sk_iret dX1_join_152 rfl rfl h
    · have h := h.2 hc
      refine sk_iconst (v := 0) 146 dX1_join_145 rfl (by decide) ?_
      refine sk_goto 152 dX1_join_146 (by decide) ?_
      exact sk_iret dX1_join_152 rfl rfl h
  · have h := h.2.1 e
    refine sk_iload_n 2 130 dX1_join_129 rfl rfl rfl ?_
    refine sk_if_ne 137 133 dX1_join_130 (by decide) rfl (fun hc => ?_) (fun hc => ?_)
    · have h := h.1 hc
      refine sk_iload_n 1 138 dX1_join_137 rfl rfl rfl ?_
      refine sk_iload_n 2 139 dX1_join_138 rfl rfl rfl ?_
      have hz139 := h.1
      have h := h.2
      refine sk_idiv 140 dX1_join_139 rfl hz139 ?_
      exact sk_iret dX1_join_140 rfl rfl h
    · have h := h.2 hc
      refine sk_iconst (v := 0) 134 dX1_join_133 rfl (by decide) ?_
      refine sk_goto 140 dX1_join_134 (by decide) ?_
      exact sk_iret dX1_join_140 rfl rfl h
  · have h := h.2.2.1 e
    refine sk_iload_n 1 126 dX1_join_125 rfl rfl rfl ?_
    refine sk_iload_n 2 127 dX1_join_126 rfl rfl rfl ?_
    refine sk_imul 128 dX1_join_127 rfl ?_
    exact sk_iret dX1_join_128 rfl rfl h
  · have h := h.2.2.2.1 e
    refine sk_iload_n 1 122 dX1_join_121 rfl rfl rfl ?_
    refine sk_iload_n 2 123 dX1_join_122 rfl rfl rfl ?_
    refine sk_isub 124 dX1_join_123 rfl ?_
    exact sk_iret dX1_join_124 rfl rfl h
  · have h := h.2.2.2.2.1 e
    refine sk_iload_n 1 118 dX1_join_117 rfl rfl rfl ?_
    refine sk_iload_n 2 119 dX1_join_118 rfl rfl rfl ?_
    refine sk_iadd 120 dX1_join_119 rfl ?_
    exact sk_iret dX1_join_120 rfl rfl h
  · have h := h.2.2.2.2.2.1 e
    refine sk_iload_n 1 107 dX1_join_106 rfl rfl rfl ?_
    refine sk_iload_n 2 108 dX1_join_107 rfl rfl rfl ?_
    refine sk_icmp_le 115 111 dX1_join_108 (by decide) rfl (fun hc => ?_) (fun hc => ?_)
    · have h := h.1 hc
      refine sk_iconst (v := 0) 116 dX1_join_115 rfl (by decide) ?_
      exact sk_iret dX1_join_116 rfl rfl h
    · have h := h.2 hc
      refine sk_iconst (v := 1) 112 dX1_join_111 rfl (by decide) ?_
      refine sk_goto 116 dX1_join_112 (by decide) ?_
      exact sk_iret dX1_join_116 rfl rfl h
  · have h := h.2.2.2.2.2.2.1 e
    refine sk_iload_n 1 96 dX1_join_95 rfl rfl rfl ?_
    refine sk_iload_n 2 97 dX1_join_96 rfl rfl rfl ?_
    refine sk_icmp_ne 104 100 dX1_join_97 (by decide) rfl (fun hc => ?_) (fun hc => ?_)
    · have h := h.1 hc
      refine sk_iconst (v := 0) 105 dX1_join_104 rfl (by decide) ?_
      exact sk_iret dX1_join_105 rfl rfl h
    · have h := h.2 hc
      refine sk_iconst (v := 1) 101 dX1_join_100 rfl (by decide) ?_
      refine sk_goto 105 dX1_join_101 (by decide) ?_
      exact sk_iret dX1_join_105 rfl rfl h
  · have h := h.2.2.2.2.2.2.2.1 e
    refine sk_iload_n 1 85 dX1_join_84 rfl rfl rfl ?_
    refine sk_iload_n 2 86 dX1_join_85 rfl rfl rfl ?_
    refine sk_icmp_ge 93 89 dX1_join_86 (by decide) rfl (fun hc => ?_) (fun hc => ?_)
    · have h := h.1 hc
      refine sk_iconst (v := 0) 94 dX1_join_93 rfl (by decide) ?_
      exact sk_iret dX1_join_94 rfl rfl h
    · have h := h.2 hc
      refine sk_iconst (v := 1) 90 dX1_join_89 rfl (by decide) ?_
      refine sk_goto 94 dX1_join_90 (by decide) ?_
      exact sk_iret dX1_join_94 rfl rfl h
  · have h := h.2.2.2.2.2.2.2.2.1 e
    refine sk_iload_n 1 71 dX1_join_70 rfl rfl rfl ?_
    refine sk_if_eq 82 74 dX1_join_71 (by decide) rfl (fun hc => ?_) (fun hc => ?_)
    · have h := h.1 hc
      refine sk_iconst (v := 0) 83 dX1_join_82 rfl (by decide) ?_
      exact sk_iret dX1_join_83 rfl rfl h
    · have h := h.2 hc
      refine sk_iload_n 2 75 dX1_join_74 rfl rfl rfl ?_
      refine sk_if_eq 82 78 dX1_join_75 (by decide) rfl (fun hc => ?_) (fun hc => ?_)
      · have h := h.1 hc
        refine sk_iconst (v := 0) 83 dX1_join_82 rfl (by decide) ?_
        exact sk_iret dX1_join_83 rfl rfl h
      · have h := h.2 hc
        refine sk_iconst (v := 1) 79 dX1_join_78 rfl (by decide) ?_
        refine sk_goto 83 dX1_join_79 (by decide) ?_
        exact sk_iret dX1_join_83 rfl rfl h
  · have h := h.2.2.2.2.2.2.2.2.2.1 e
    refine sk_iload_n 1 57 dX1_join_56 rfl rfl rfl ?_
    refine sk_if_ne 64 60 dX1_join_57 (by decide) rfl (fun hc => ?_) (fun hc => ?_)
    · have h := h.1 hc
      refine sk_iconst (v := 1) 65 dX1_join_64 rfl (by decide) ?_
      refine sk_goto 69 dX1_join_65 (by decide) ?_
      exact sk_iret dX1_join_69 rfl rfl h
    · have h := h.2 hc
      refine sk_iload_n 2 61 dX1_join_60 rfl rfl rfl ?_
      refine sk_if_eq 68 64 dX1_join_61 (by decide) rfl (fun hc => ?_) (fun hc => ?_)
      · have h := h.1 hc
        refine sk_iconst (v := 0) 69 dX1_join_68 rfl (by decide) ?_
        exact sk_iret dX1_join_69 rfl rfl h
      · have h := h.2 hc
        refine sk_iconst (v := 1) 65 dX1_join_64 rfl (by decide) ?_
        refine sk_goto 69 dX1_join_65 (by decide) ?_
        exact sk_iret dX1_join_69 rfl rfl h
  · have h := h.2.2.2.2.2.2.2.2.2.2 ⟨e 0 (by decide), e 1 (by decide), e 2 (by decide), e 3 (by decide), e 4 (by decide), e 5 (by decide), e 6 (by decide), e 7 (by decide), e 8 (by decide), e 9 (by decide)⟩
    refine sk_iconst (v := 0) 154 dX1_join_153 rfl (by decide) ?_
    exact sk_iret dX1_join_154 rfl rfl h

