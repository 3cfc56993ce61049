theorem wX6_slate {d : Nat} {τ : sk_T} {K : sk_K} {v1 : Int32} {v2 : Int32} {v3 : Int32} {v4 : Int32} (hd0 : 0 < d)
  (h : sk_C sk_Sc (d - 1) mX6_isKindAndM [.int v1] τ (fun w t1 => ∃ r1 : Int32, w = some (.int r1) ∧
      ((r1 = 0 →
        sk_C sk_Sc (d - 1) mX6_error [.ref 0, .int 1] t1 (fun w t44 => ∃ r44 : Int32, w = some (.int r44) ∧
          K (some (.int r44)) t44
        )
      ) ∧
      (¬ r1 = 0 →
        ((v2 < 1 →
          sk_C sk_Sc (d - 1) mX6_error [.ref 0, .int 1] t1 (fun w t44 => ∃ r44 : Int32, w = some (.int r44) ∧
            K (some (.int r44)) t44
          )
        ) ∧
        (¬ v2 < 1 →
          ((2 < v2 →
            sk_C sk_Sc (d - 1) mX6_error [.ref 0, .int 1] t1 (fun w t44 => ∃ r44 : Int32, w = some (.int r44) ∧
              K (some (.int r44)) t44
            )
          ) ∧
          (¬ 2 < v2 →
            sk_C sk_Sc (d - 1) mX6_isDigit [.int v3] t1 (fun w t18 => ∃ r18 : Int32, w = some (.int r18) ∧
              ((r18 = 0 →
                sk_C sk_Sc (d - 1) mX6_error [.ref 0, .int 1] t18 (fun w t44 => ∃ r44 : Int32, w = some (.int r44) ∧
                  K (some (.int r44)) t44
                )
              ) ∧
              (¬ r18 = 0 →
                ((v4 < (-1) →
                  sk_C sk_Sc (d - 1) mX6_error [.ref 0, .int 1] t18 (fun w t44 => ∃ r44 : Int32, w = some (.int r44) ∧
                    K (some (.int r44)) t44
                  )
                ) ∧
                (¬ v4 < (-1) →
                  ((v4 < (t18 1 1) →
                    (((t18 1 1) < 10 →
                      vp_in (t18 1 1) 10 ∧
                      sk_C sk_Sc (d - 1) mX5_begin [.ref (3 + ((t18 1 1)).toNatClampNeg), .int v1, .int v2, .int v3, .int v4] t18 (fun w t86 => w = none ∧
                        K (some (.int (((sk_u t86 1 1 ((t86 1 1) + 1)) 1 1) - 1))) (sk_u t86 1 1 ((t86 1 1) + 1))
                      )
                    ) ∧
                    (¬ (t18 1 1) < 10 →
                      sk_C sk_Sc (d - 1) mX6_error [.ref 0, .int 4] t18 (fun w t62 => ∃ r62 : Int32, w = some (.int r62) ∧
                        K (some (.int r62)) t62
                      )
                    ))
                  ) ∧
                  (¬ v4 < (t18 1 1) →
                    sk_C sk_Sc (d - 1) mX6_error [.ref 0, .int 1] t18 (fun w t44 => ∃ r44 : Int32, w = some (.int r44) ∧
                      K (some (.int r44)) t44
                    )
                  ))
                ))
              ))
            )
          ))
        ))
      ))
    )) :
  sk_C sk_Sc d mX6_slate [.ref 0, .int v1, .int v2, .int v3, .int v4] τ K := by
  refine sk_enter mfX6_slate (Nat.le_of_ble_eq_true rfl) ?_
  show sk_G sk_Sc d mX6_slate 0 [(0, .ref 0), (1, .int v1), (2, .int v2), (3, .int v3), (4, .int v4)] [] τ K
  refine sk_iload_n 1 1 dX6_slate_0 rfl rfl rfl ?_
  refine sk_callSi [.int v1] [] 4 dX6_slate_1 rfl mfX6_isKindAndM lkX6_48 miX6_isKindAndM rfl rfl (by simp [Value.category]) hd0 (sk_Cm h ?_)
  rintro w t1 ⟨r1, hw, h⟩
  refine ⟨r1, hw, ?_⟩
  refine sk_if_eq 42 7 dX6_slate_4 (by decide) rfl (fun hc => ?_) (fun hc => ?_)
  · have h := h.1 hc
    refine sk_aload_n 0 43 dX6_slate_42 rfl rfl rfl ?_
    refine sk_iconst (v := 1) 44 dX6_slate_43 rfl (by decide) ?_
    refine sk_callVi [.int 1] [] 47 dX6_slate_44 rfl mfX6_error lkX6_58 miX6_error msX6_error sc_0 rfl rfl rfl rfl (by simp [Value.category]) hd0 (sk_Cm h ?_)
    rintro w t44 ⟨r44, hw, h⟩
    refine ⟨r44, hw, ?_⟩
    exact sk_iret dX6_slate_47 rfl rfl h
  · have h := h.2 hc
    refine sk_iload_n 2 8 dX6_slate_7 rfl rfl rfl ?_
    refine sk_iconst (v := 1) 9 dX6_slate_8 rfl (by decide) ?_
    refine sk_icmp_lt 42 12 dX6_slate_9 (by decide) rfl (fun hc => ?_) (fun hc => ?_)
    · have h := h.1 hc
      refine sk_aload_n 0 43 dX6_slate_42 rfl rfl rfl ?_
      refine sk_iconst (v := 1) 44 dX6_slate_43 rfl (by decide) ?_
      refine sk_callVi [.int 1] [] 47 dX6_slate_44 rfl mfX6_error lkX6_58 miX6_error msX6_error sc_0 rfl rfl rfl rfl (by simp [Value.category]) hd0 (sk_Cm h ?_)
      rintro w t44 ⟨r44, hw, h⟩
      refine ⟨r44, hw, ?_⟩
      exact sk_iret dX6_slate_47 rfl rfl h
    · have h := h.2 hc
      refine sk_iload_n 2 13 dX6_slate_12 rfl rfl rfl ?_
      refine sk_iconst (v := 2) 14 dX6_slate_13 rfl (by decide) ?_
      refine sk_icmp_gt 42 17 dX6_slate_14 (by decide) rfl (fun hc => ?_) (fun hc => ?_)
      · have h := h.1 hc
        refine sk_aload_n 0 43 dX6_slate_42 rfl rfl rfl ?_
        refine sk_iconst (v := 1) 44 dX6_slate_43 rfl (by decide) ?_
        refine sk_callVi [.int 1] [] 47 dX6_slate_44 rfl mfX6_error lkX6_58 miX6_error msX6_error sc_0 rfl rfl rfl rfl (by simp [Value.category]) hd0 (sk_Cm h ?_)
        rintro w t44 ⟨r44, hw, h⟩
        refine ⟨r44, hw, ?_⟩
        exact sk_iret dX6_slate_47 rfl rfl h
      · have h := h.2 hc
        refine sk_iload_n 3 18 dX6_slate_17 rfl rfl rfl ?_
        refine sk_callSi [.int v3] [] 21 dX6_slate_18 rfl mfX6_isDigit lkX6_52 miX6_isDigit rfl rfl (by simp [Value.category]) hd0 (sk_Cm h ?_)
        rintro w t18 ⟨r18, hw, h⟩
        refine ⟨r18, hw, ?_⟩
        refine sk_if_eq 42 24 dX6_slate_21 (by decide) rfl (fun hc => ?_) (fun hc => ?_)
        · have h := h.1 hc
          refine sk_aload_n 0 43 dX6_slate_42 rfl rfl rfl ?_
          refine sk_iconst (v := 1) 44 dX6_slate_43 rfl (by decide) ?_
          refine sk_callVi [.int 1] [] 47 dX6_slate_44 rfl mfX6_error lkX6_58 miX6_error msX6_error sc_0 rfl rfl rfl rfl (by simp [Value.category]) hd0 (sk_Cm h ?_)
          rintro w t44 ⟨r44, hw, h⟩
          refine ⟨r44, hw, ?_⟩
          exact sk_iret dX6_slate_47 rfl rfl h
        · have h := h.2 hc
          refine sk_iload 4 26 dX6_slate_24 rfl rfl ?_
          refine sk_iconst (v := (-1)) 27 dX6_slate_26 rfl (by decide) ?_
          refine sk_icmp_lt 42 30 dX6_slate_27 (by decide) rfl (fun hc => ?_) (fun hc => ?_)
          · have h := h.1 hc
            refine sk_aload_n 0 43 dX6_slate_42 rfl rfl rfl ?_
            refine sk_iconst (v := 1) 44 dX6_slate_43 rfl (by decide) ?_
            refine sk_callVi [.int 1] [] 47 dX6_slate_44 rfl mfX6_error lkX6_58 miX6_error msX6_error sc_0 rfl rfl rfl rfl (by simp [Value.category]) hd0 (sk_Cm h ?_)
            rintro w t44 ⟨r44, hw, h⟩
            refine ⟨r44, hw, ?_⟩
            exact sk_iret dX6_slate_47 rfl rfl h
          · have h := h.2 hc
            refine sk_iload 4 32 dX6_slate_30 rfl rfl ?_
            refine sk_aload_n 0 33 dX6_slate_32 rfl rfl rfl ?_
            refine sk_getR (r := 1) 36 dX6_slate_33 rfl lfX6_12 sc_0 rfl ?_
            refine sk_getI 39 dX6_slate_36 rfl lfX6_55 sc_1 rfl ?_
            refine sk_icmp_lt 48 42 dX6_slate_39 (by decide) rfl (fun hc => ?_) (fun hc => ?_)
            · have h := h.1 hc
              refine sk_aload_n 0 49 dX6_slate_48 rfl rfl rfl ?_
              refine sk_getR (r := 1) 52 dX6_slate_49 rfl lfX6_12 sc_0 rfl ?_
              refine sk_getI 55 dX6_slate_52 rfl lfX6_55 sc_1 rfl ?_
              refine sk_bipush (v := 10) 57 dX6_slate_55 rfl (by decide) ?_
              refine sk_icmp_lt 66 60 dX6_slate_57 (by decide) rfl (fun hc => ?_) (fun hc => ?_)
              · have h := h.1 hc
                refine sk_aload_n 0 67 dX6_slate_66 rfl rfl rfl ?_
                refine sk_getR (r := 1) 70 dX6_slate_67 rfl lfX6_12 sc_0 rfl ?_
                refine sk_getR (r := 35) 73 dX6_slate_70 rfl lfX6_62 sc_1 rfl ?_
                refine sk_aload_n 0 74 dX6_slate_73 rfl rfl rfl ?_
                refine sk_getR (r := 1) 77 dX6_slate_74 rfl lfX6_12 sc_0 rfl ?_
                refine sk_getI 80 dX6_slate_77 rfl lfX6_55 sc_1 rfl ?_
                have hb80 := h.1
                have h := h.2
                refine sk_aald 81 dX6_slate_80 rfl sc_35 (by decide) hb80 _ rfl (r := (3 + ((t18 1 1)).toNatClampNeg)) (sk_tl0 hb80) ?_
                refine sk_iload_n 1 82 dX6_slate_81 rfl rfl rfl ?_
                refine sk_iload_n 2 83 dX6_slate_82 rfl rfl rfl ?_
                refine sk_iload_n 3 84 dX6_slate_83 rfl rfl rfl ?_
                refine sk_iload 4 86 dX6_slate_84 rfl rfl ?_
                refine sk_callVv [.int v1, .int v2, .int v3, .int v4] [] 89 dX6_slate_86 rfl mfX5_begin lkX6_66 miX5_begin msX5_begin (sk_tileAt hb80) rfl rfl rfl rfl (by simp [Value.category]) hd0 (sk_Cm h ?_)
                rintro w t86 ⟨hw, h⟩
                refine ⟨hw, ?_⟩
                refine sk_aload_n 0 90 dX6_slate_89 rfl rfl rfl ?_
                refine sk_getR (r := 1) 93 dX6_slate_90 rfl lfX6_12 sc_0 rfl ?_
                refine sk_dup 94 dX6_slate_93 rfl rfl ?_
                refine sk_getI 97 dX6_slate_94 rfl lfX6_55 sc_1 rfl ?_
                refine sk_iconst (v := 1) 98 dX6_slate_97 rfl (by decide) ?_
                refine sk_iadd 99 dX6_slate_98 rfl ?_
                refine sk_putI 102 dX6_slate_99 rfl lpX6_55 sc_1 rfl ?_
                refine sk_aload_n 0 103 dX6_slate_102 rfl rfl rfl ?_
                refine sk_getR (r := 1) 106 dX6_slate_103 rfl lfX6_12 sc_0 rfl ?_
                refine sk_getI 109 dX6_slate_106 rfl lfX6_55 sc_1 rfl ?_
                refine sk_iconst (v := 1) 110 dX6_slate_109 rfl (by decide) ?_
                refine sk_isub 111 dX6_slate_110 rfl ?_
                exact sk_iret dX6_slate_111 rfl rfl h
              · have h := h.2 hc
                refine sk_aload_n 0 61 dX6_slate_60 rfl rfl rfl ?_
                refine sk_iconst (v := 4) 62 dX6_slate_61 rfl (by decide) ?_
                refine sk_callVi [.int 4] [] 65 dX6_slate_62 rfl mfX6_error lkX6_58 miX6_error msX6_error sc_0 rfl rfl rfl rfl (by simp [Value.category]) hd0 (sk_Cm h ?_)
                rintro w t62 ⟨r62, hw, h⟩
                refine ⟨r62, hw, ?_⟩
                exact sk_iret dX6_slate_65 rfl rfl h
            · have h := h.2 hc
              refine sk_aload_n 0 43 dX6_slate_42 rfl rfl rfl ?_
              refine sk_iconst (v := 1) 44 dX6_slate_43 rfl (by decide) ?_
              refine sk_callVi [.int 1] [] 47 dX6_slate_44 rfl mfX6_error lkX6_58 miX6_error msX6_error sc_0 rfl rfl rfl rfl (by simp [Value.category]) hd0 (sk_Cm h ?_)
              rintro w t44 ⟨r44, hw, h⟩
              refine ⟨r44, hw, ?_⟩
              exact sk_iret dX6_slate_47 rfl rfl h

theorem wX6_slateIs {d : Nat} {τ : sk_T} {K : sk_K} {v1 : Int32} {v2 : Int32} (hd0 : 0 < d)
  (h : sk_C sk_Sc (d - 1) mX6_isSlate [.ref 0, .int v1] τ (fun w t2 => ∃ r2 : Int32, w = some (.int r2) ∧
      ((¬ r2 = 0 →
        vp_in v1 10 ∧
        (
        (v2 = 0 →
          K (some (.int (t2 (3 + v1.toNatClampNeg) 0))) t2
        ) ∧
        (v2 = 1 →
          K (some (.int (t2 (3 + v1.toNatClampNeg) 1))) t2
        ) ∧
        (v2 = 2 →
          K (some (.int (t2 (3 + v1.toNatClampNeg) 2))) t2
        ) ∧
        (v2 = 3 →
          K (some (.int (t2 (3 + v1.toNatClampNeg) 3))) t2
        ) ∧
        (v2 = 4 →
          K (some (.int (t2 (3 + v1.toNatClampNeg) 4))) t2
        ) ∧
        (v2 = 5 →
          sk_C sk_Sc (d - 1) mX5_row [.ref (3 + v1.toNatClampNeg)] t2 (fun w t106 => ∃ r106 : Int32, w = some (.int r106) ∧
            K (some (.int r106)) t106
          )
        ) ∧
        (v2 = 6 →
          sk_C sk_Sc (d - 1) mX5_place [.ref (3 + v1.toNatClampNeg)] t2 (fun w t111 => ∃ r111 : Int32, w = some (.int r111) ∧
            K (some (.int r111)) t111
          )
        ) ∧
        (v2 = 7 →
          K (some (.int (t2 (3 + v1.toNatClampNeg) 5))) t2
        ) ∧
        (v2 = 8 →
          sk_C sk_Sc (d - 1) mX5_broad [.ref (3 + v1.toNatClampNeg)] t2 (fun w t121 => ∃ r121 : Int32, w = some (.int r121) ∧
            K (some (.int r121)) t121
          )
        ) ∧
        (v2 = 9 →
          sk_C sk_Sc (d - 1) mX3_holdOf [.ref 1, .int v1, .int 0] t2 (fun w t131 => ∃ r131 : Int32, w = some (.int r131) ∧
            K (some (.int r131)) t131
          )
        ) ∧
        ((¬ v2 = 0 ∧ ¬ v2 = 1 ∧ ¬ v2 = 2 ∧ ¬ v2 = 3 ∧ ¬ v2 = 4 ∧ ¬ v2 = 5 ∧ ¬ v2 = 6 ∧ ¬ v2 = 7 ∧ ¬ v2 = 8 ∧ ¬ v2 = 9) →
          sk_C sk_Sc (d - 1) mX6_error [.ref 0, .int 1] t2 (fun w t137 => ∃ r137 : Int32, w = some (.int r137) ∧
            K (some (.int r137)) t137
          )
        ))
      ) ∧
      (r2 = 0 →
        sk_C sk_Sc (d - 1) mX6_error [.ref 0, .int 1] t2 (fun w t10 => ∃ r10 : Int32, w = some (.int r10) ∧
          K (some (.int r10)) t10
        )
      ))
    )) :
  sk_C sk_Sc d mX6_slateIs [.ref 0, .int v1, .int v2] τ K := by
  refine sk_enter mfX6_slateIs (Nat.le_of_ble_eq_true rfl) ?_
  show sk_G sk_Sc d mX6_slateIs 0 [(0, .ref 0), (1, .int v1), (2, .int v2)] [] τ K
  refine sk_aload_n 0 1 dX6_slateIs_0 rfl rfl rfl ?_
  refine sk_iload_n 1 2 dX6_slateIs_1 rfl rfl rfl ?_
  refine sk_callVi [.int v1] [] 5 dX6_slateIs_2 rfl mfX6_isSlate lkX6_72 miX6_isSlate msX6_isSlate sc_0 rfl rfl rfl rfl (by simp [Value.category]) hd0 (sk_Cm h ?_)
  rintro w t2 ⟨r2, hw, h⟩
  refine ⟨r2, hw, ?_⟩
  refine sk_if_ne 14 8 dX6_slateIs_5 (by decide) rfl (fun hc => ?_) (fun hc => ?_)
  · have h := h.1 hc
    refine sk_aload_n 0 15 dX6_slateIs_14 rfl rfl rfl ?_
    refine sk_getR (r := 1) 18 dX6_slateIs_15 rfl lfX6_12 sc_0 rfl ?_
    refine sk_getR (r := 35) 21 dX6_slateIs_18 rfl lfX6_62 sc_1 rfl ?_
    refine sk_iload_n 1 22 dX6_slateIs_21 rfl rfl rfl ?_
    have hb22 := h.1
    have h := h.2
    refine sk_aald 23 dX6_slateIs_22 rfl sc_35 (by decide) hb22 _ rfl (r := (3 + v1.toNatClampNeg)) (sk_tl0 hb22) ?_
    refine sk_astore_n (lv2 := [(3, .ref (3 + v1.toNatClampNeg)), (0, .ref 0), (1, .int v1), (2, .int v2)]) 24 dX6_slateIs_23 rfl rfl (by decide) rfl ?_
    refine sk_iload_n 3 25 dX6_slateIs_24 rfl rfl rfl ?_
    refine sk_table [80, 85, 90, 95, 100, 105, 110, 115, 120, 125] 135 dX6_slateIs_25 (by decide) (by decide) (by decide) (by decide) ⟨fun e => ?_, fun e => ?_, fun e => ?_, fun e => ?_, fun e => ?_, fun e => ?_, fun e => ?_, fun e => ?_, fun e => ?_, fun e => ?_, trivial⟩ (fun e => ?_)
    · have h := h.1 e
      refine sk_aload_n 0 81 dX6_slateIs_80 rfl rfl rfl ?_
      refine sk_getI 84 dX6_slateIs_81 rfl lfX6_75 (sk_tileAt hb22) rfl ?_
      exact sk_iret dX6_slateIs_84 rfl rfl h
    · have h := h.2.1 e
      refine sk_aload_n 0 86 dX6_slateIs_85 rfl rfl rfl ?_
      refine sk_getI 89 dX6_slateIs_86 rfl lfX6_78 (sk_tileAt hb22) rfl ?_
      exact sk_iret dX6_slateIs_89 rfl rfl h
    · have h := h.2.2.1 e
      refine sk_aload_n 0 91 dX6_slateIs_90 rfl rfl rfl ?_
      refine sk_getI 94 dX6_slateIs_91 rfl lfX6_81 (sk_tileAt hb22) rfl ?_
      exact sk_iret dX6_slateIs_94 rfl rfl h
    · have h := h.2.2.2.1 e
      refine sk_aload_n 0 96 dX6_slateIs_95 rfl rfl rfl ?_
      refine sk_getI 99 dX6_slateIs_96 rfl lfX6_84 (sk_tileAt hb22) rfl ?_
      exact sk_iret dX6_slateIs_99 rfl rfl h
    · have h := h.2.2.2.2.1 e
      refine sk_aload_n 0 101 dX6_slateIs_100 rfl rfl rfl ?_
      refine sk_getI 104 dX6_slateIs_101 rfl lfX6_87 (sk_tileAt hb22) rfl ?_
      exact sk_iret dX6_slateIs_104 rfl rfl h
    · have h := h.2.2.2.2.2.1 e
      refine sk_aload_n 0 106 dX6_slateIs_105 rfl rfl rfl ?_
      refine sk_callVi [] [] 109 dX6_slateIs_106 rfl mfX5_row lkX6_90 miX5_row msX5_row (sk_tileAt hb22) rfl rfl rfl rfl (by simp [Value.category]) hd0 (sk_Cm h ?_)
      rintro w t106 ⟨r106, hw, h⟩
      refine ⟨r106, hw, ?_⟩
      exact sk_iret dX6_slateIs_109 rfl rfl h
    · have h := h.2.2.2.2.2.2.1 e
      refine sk_aload_n 0 111 dX6_slateIs_110 rfl rfl rfl ?_
      refine sk_callVi [] [] 114 dX6_slateIs_111 rfl mfX5_place lkX6_94 miX5_place msX5_place (sk_tileAt hb22) rfl rfl rfl rfl (by simp [Value.category]) hd0 (sk_Cm h ?_)
      rintro w t111 ⟨r111, hw, h⟩
      refine ⟨r111, hw, ?_⟩
      exact sk_iret dX6_slateIs_114 rfl rfl h
    · have h := h.2.2.2.2.2.2.2.1 e
      refine sk_aload_n 0 116 dX6_slateIs_115 rfl rfl rfl ?_
      refine sk_getI 119 dX6_slateIs_116 rfl lfX6_97 (sk_tileAt hb22) rfl ?_
      exact sk_iret dX6_slateIs_119 rfl rfl h
    · have h := h.2.2.2.2.2.2.2.2.1 e
      refine sk_aload_n 0 121 dX6_slateIs_120 rfl rfl rfl ?_
      refine sk_callVi [] [] 124 dX6_slateIs_121 rfl mfX5_broad lkX6_100 miX5_broad msX5_broad (sk_tileAt hb22) rfl rfl rfl rfl (by simp [Value.category]) hd0 (sk_Cm h ?_)
      rintro w t121 ⟨r121, hw, h⟩
      refine ⟨r121, hw, ?_⟩
      exact sk_iret dX6_slateIs_124 rfl rfl h
    · have h := h.2.2.2.2.2.2.2.2.2.1 e
      refine sk_aload_n 1 126 dX6_slateIs_125 rfl rfl rfl ?_
      refine sk_getR (r := 1) 129 dX6_slateIs_126 rfl lfX6_12 sc_0 rfl ?_
      refine sk_iload_n 2 130 dX6_slateIs_129 rfl rfl rfl ?_
      refine sk_iconst (v := 0) 131 dX6_slateIs_130 rfl (by decide) ?_
      refine sk_callVi [.int v1, .int 0] [] 134 dX6_slateIs_131 rfl mfX3_holdOf lkX6_103 miX3_holdOf msX3_holdOf sc_1 rfl rfl rfl rfl (by simp [Value.category]) hd0 (sk_Cm h ?_)
      rintro w t131 ⟨r131, hw, h⟩
      refine ⟨r131, hw, ?_⟩
      exact sk_iret dX6_slateIs_134 rfl rfl h
    · have h := h.2.2.2.2.2.2.2.2.2.2 ⟨e 0 (by decide), e 1 (by decide), e 2 (by decide), e 3 (by decide), e 4 (by decide), e 5 (by decide), e 6 (by decide), e 7 (by decide), e 8 (by decide), e 9 (by decide)⟩
      refine sk_aload_n 1 136 dX6_slateIs_135 rfl rfl rfl ?_
      refine sk_iconst (v := 1) 137 dX6_slateIs_136 rfl (by decide) ?_
      refine sk_callVi [.int 1] [] 140 dX6_slateIs_137 rfl mfX6_error lkX6_58 miX6_error msX6_error sc_0 rfl rfl rfl rfl (by simp [Value.category]) hd0 (sk_Cm h ?_)
      rintro w t137 ⟨r137, hw, h⟩
      refine ⟨r137, hw, ?_⟩
      exact sk_iret dX6_slateIs_140 rfl rfl h
  · have h := h.2 hc
    refine sk_aload_n 0 9 dX6_slateIs_8 rfl rfl rfl ?_
    refine sk_iconst (v := 1) 10 dX6_slateIs_9 rfl (by decide) ?_
    refine sk_callVi [.int 1] [] 13 dX6_slateIs_10 rfl mfX6_error lkX6_58 miX6_error msX6_error sc_0 rfl rfl rfl rfl (by simp [Value.category]) hd0 (sk_Cm h ?_)
    rintro w t10 ⟨r10, hw, h⟩
    refine ⟨r10, hw, ?_⟩
    exact sk_iret dX6_slateIs_13 rfl rfl h

theorem wX6_become {d : Nat} {τ : sk_T} {K : sk_K} {v1 : Int32} {v2 : Int32} (hd0 : 0 < d)
  (h : sk_C sk_Sc (d - 1) mX6_isSlate [.ref 0, .int v1] τ (fun w t2 => ∃ r2 : Int32, w = some (.int r2) ∧
      ((r2 = 0 →
        sk_C sk_Sc (d - 1) mX6_error [.ref 0, .int 1] t2 (fun w t17 => ∃ r17 : Int32, w = some (.int r17) ∧
          K (some (.int r17)) t17
        )
      ) ∧
      (¬ r2 = 0 →
        sk_C sk_Sc (d - 1) mX6_isKindAndM [.int v2] t2 (fun w t9 => ∃ r9 : Int32, w = some (.int r9) ∧
          ((¬ r9 = 0 →
            vp_in v1 10 ∧
            vp_in v1 10 ∧
            sk_C sk_Sc (d - 1) mX5_turn [.ref (3 + v1.toNatClampNeg), .int v2] t9 (fun w t44 => w = none ∧
              K (some (.int (t9 (3 + v1.toNatClampNeg) 0))) t44
            )
          ) ∧
          (r9 = 0 →
            sk_C sk_Sc (d - 1) mX6_error [.ref 0, .int 1] t9 (fun w t17 => ∃ r17 : Int32, w = some (.int r17) ∧
              K (some (.int r17)) t17
            )
          ))
        )
      ))
    )) :
  sk_C sk_Sc d mX6_become [.ref 0, .int v1, .int v2] τ K := by
  refine sk_enter mfX6_become (Nat.le_of_ble_eq_true rfl) ?_
  show sk_G sk_Sc d mX6_become 0 [(0, .ref 0), (1, .int v1), (2, .int v2)] [] τ K
  refine sk_aload_n 0 1 dX6_become_0 rfl rfl rfl ?_
  refine sk_iload_n 1 2 dX6_become_1 rfl rfl rfl ?_
  refine sk_callVi [.int v1] [] 5 dX6_become_2 rfl mfX6_isSlate lkX6_72 miX6_isSlate msX6_isSlate sc_0 rfl rfl rfl rfl (by simp [Value.category]) hd0 (sk_Cm h ?_)
  rintro w t2 ⟨r2, hw, h⟩
  refine ⟨r2, hw, ?_⟩
  refine sk_if_eq 15 8 dX6_become_5 (by decide) rfl (fun hc => ?_) (fun hc => ?_)
  · have h := h.1 hc
    refine sk_aload_n 0 16 dX6_become_15 rfl rfl rfl ?_
    refine sk_iconst (v := 1) 17 dX6_become_16 rfl (by decide) ?_
    refine sk_callVi [.int 1] [] 20 dX6_become_17 rfl mfX6_error lkX6_58 miX6_error msX6_error sc_0 rfl rfl rfl rfl (by simp [Value.category]) hd0 (sk_Cm h ?_)
    rintro w t17 ⟨r17, hw, h⟩
    refine ⟨r17, hw, ?_⟩
    exact sk_iret dX6_become_20 rfl rfl h
  · have h := h.2 hc
    refine sk_iload_n 2 9 dX6_become_8 rfl rfl rfl ?_
    refine sk_callSi [.int v2] [] 12 dX6_become_9 rfl mfX6_isKindAndM lkX6_48 miX6_isKindAndM rfl rfl (by simp [Value.category]) hd0 (sk_Cm h ?_)
    rintro w t9 ⟨r9, hw, h⟩
    refine ⟨r9, hw, ?_⟩
    refine sk_if_ne 21 15 dX6_become_12 (by decide) rfl (fun hc => ?_) (fun hc => ?_)
    · have h := h.1 hc
      refine sk_aload_n 0 22 dX6_become_21 rfl rfl rfl ?_
      refine sk_getR (r := 1) 25 dX6_become_22 rfl lfX6_12 sc_0 rfl ?_
      refine sk_getR (r := 35) 28 dX6_become_25 rfl lfX6_62 sc_1 rfl ?_
      refine sk_iload_n 1 29 dX6_become_28 rfl rfl rfl ?_
      have hb29 := h.1
      have h := h.2
      refine sk_aald 30 dX6_become_29 rfl sc_35 (by decide) hb29 _ rfl (r := (3 + v1.toNatClampNeg)) (sk_tl0 hb29) ?_
      refine sk_getI 33 dX6_become_30 rfl lfX6_75 (sk_tileAt hb29) rfl ?_
      refine sk_istore_n (lv2 := [(3, .int (t9 (3 + v1.toNatClampNeg) 0)), (0, .ref 0), (1, .int v1), (2, .int v2)]) 34 dX6_become_33 rfl rfl (by decide) rfl ?_
      refine sk_aload_n 1 35 dX6_become_34 rfl rfl rfl ?_
      refine sk_getR (r := 1) 38 dX6_become_35 rfl lfX6_12 sc_0 rfl ?_
      refine sk_getR (r := 35) 41 dX6_become_38 rfl lfX6_62 sc_1 rfl ?_
      refine sk_iload_n 2 42 dX6_become_41 rfl rfl rfl ?_
      have hb42 := h.1
      have h := h.2
      refine sk_aald 43 dX6_become_42 rfl sc_35 (by decide) hb42 _ rfl (r := (3 + v1.toNatClampNeg)) (sk_tl0 hb42) ?_
      refine sk_iload_n 3 44 dX6_become_43 rfl rfl rfl ?_
      refine sk_callVv [.int v2] [] 47 dX6_become_44 rfl mfX5_turn lkX6_107 miX5_turn msX5_turn (sk_tileAt hb42) rfl rfl rfl rfl (by simp [Value.category]) hd0 (sk_Cm h ?_)
      rintro w t44 ⟨hw, h⟩
      refine ⟨hw, ?_⟩
      refine sk_iload_n 0 48 dX6_become_47 rfl rfl rfl ?_
      exact sk_iret dX6_become_48 rfl rfl h
    · have h := h.2 hc
      refine sk_aload_n 0 16 dX6_become_15 rfl rfl rfl ?_
      refine sk_iconst (v := 1) 17 dX6_become_16 rfl (by decide) ?_
      refine sk_callVi [.int 1] [] 20 dX6_become_17 rfl mfX6_error lkX6_58 miX6_error msX6_error sc_0 rfl rfl rfl rfl (by simp [Value.category]) hd0 (sk_Cm h ?_)
      rintro w t17 ⟨r17, hw, h⟩
      refine ⟨r17, hw, ?_⟩
      exact sk_iret dX6_become_20 rfl rfl h

theorem wX6_as {d : Nat} {τ : sk_T} {K : sk_K} {v1 : Int32} {v2 : Int32} (hd0 : 0 < d)
  (h : sk_C sk_Sc (d - 1) mX6_isSlate [.ref 0, .int v1] τ (fun w t2 => ∃ r2 : Int32, w = some (.int r2) ∧
      ((r2 = 0 →
        sk_C sk_Sc (d - 1) mX6_error [.ref 0, .int 1] t2 (fun w t20 => ∃ r20 : Int32, w = some (.int r20) ∧
          K (some (.int r20)) t20
        )
      ) ∧
      (¬ r2 = 0 →
        ((v2 < 0 →
          sk_C sk_Sc (d - 1) mX6_error [.ref 0, .int 1] t2 (fun w t20 => ∃ r20 : Int32, w = some (.int r20) ∧
            K (some (.int r20)) t20
          )
        ) ∧
        (¬ v2 < 0 →
          ((v2 ≤ 6 →
            vp_in v1 10 ∧
            sk_C sk_Sc (d - 1) mX5_isUnder [.ref (3 + v1.toNatClampNeg), .int v2] t2 (fun w t34 => ∃ r34 : Int32, w = some (.int r34) ∧
              ((r34 = 0 →
                sk_C sk_Sc (d - 1) mX6_error [.ref 0, .int 5] t34 (fun w t57 => ∃ r57 : Int32, w = some (.int r57) ∧
                  K (some (.int r57)) t57
                )
              ) ∧
              (¬ r34 = 0 →
                vp_in v1 10 ∧
                K (some (.int (t34 (3 + v1.toNatClampNeg) 1))) t34
              ))
            )
          ) ∧
          (¬ v2 ≤ 6 →
            sk_C sk_Sc (d - 1) mX6_error [.ref 0, .int 1] t2 (fun w t20 => ∃ r20 : Int32, w = some (.int r20) ∧
              K (some (.int r20)) t20
            )
          ))
        ))
      ))
    )) :
  sk_C sk_Sc d mX6_as [.ref 0, .int v1, .int v2] τ K := by
  refine sk_enter mfX6_as (Nat.le_of_ble_eq_true rfl) ?_
  show sk_G sk_Sc d mX6_as 0 [(0, .ref 0), (1, .int v1), (2, .int v2)] [] τ K
  refine sk_aload_n 0 1 dX6_as_0 rfl rfl rfl ?_
  refine sk_iload_n 1 2 dX6_as_1 rfl rfl rfl ?_
  refine sk_callVi [.int v1] [] 5 dX6_as_2 rfl mfX6_isSlate lkX6_72 miX6_isSlate msX6_isSlate sc_0 rfl rfl rfl rfl (by simp [Value.category]) hd0 (sk_Cm h ?_)
  rintro w t2 ⟨r2, hw, h⟩
  refine ⟨r2, hw, ?_⟩
  refine sk_if_eq 18 8 dX6_as_5 (by decide) rfl (fun hc => ?_) (fun hc => ?_)
  · have h := h.1 hc
    refine sk_aload_n 0 19 dX6_as_18 rfl rfl rfl ?_
    refine sk_iconst (v := 1) 20 dX6_as_19 rfl (by decide) ?_
    refine sk_callVi [.int 1] [] 23 dX6_as_20 rfl mfX6_error lkX6_58 miX6_error msX6_error sc_0 rfl rfl rfl rfl (by simp [Value.category]) hd0 (sk_Cm h ?_)
    rintro w t20 ⟨r20, hw, h⟩
    refine ⟨r20, hw, ?_⟩
    exact sk_iret dX6_as_23 rfl rfl h
  · have h := h.2 hc
    refine sk_iload_n 2 9 dX6_as_8 rfl rfl rfl ?_
    refine sk_if_lt 18 12 dX6_as_9 (by decide) rfl (fun hc => ?_) (fun hc => ?_)
    · have h := h.1 hc
      refine sk_aload_n 0 19 dX6_as_18 rfl rfl rfl ?_
      refine sk_iconst (v := 1) 20 dX6_as_19 rfl (by decide) ?_
      refine sk_callVi [.int 1] [] 23 dX6_as_20 rfl mfX6_error lkX6_58 miX6_error msX6_error sc_0 rfl rfl rfl rfl (by simp [Value.category]) hd0 (sk_Cm h ?_)
      rintro w t20 ⟨r20, hw, h⟩
      refine ⟨r20, hw, ?_⟩
      exact sk_iret dX6_as_23 rfl rfl h
    · have h := h.2 hc
      refine sk_iload_n 2 13 dX6_as_12 rfl rfl rfl ?_
      refine sk_bipush (v := 6) 15 dX6_as_13 rfl (by decide) ?_
      refine sk_icmp_le 24 18 dX6_as_15 (by decide) rfl (fun hc => ?_) (fun hc => ?_)
      · have h := h.1 hc
        refine sk_aload_n 0 25 dX6_as_24 rfl rfl rfl ?_
        refine sk_getR (r := 1) 28 dX6_as_25 rfl lfX6_12 sc_0 rfl ?_
        refine sk_getR (r := 35) 31 dX6_as_28 rfl lfX6_62 sc_1 rfl ?_
        refine sk_iload_n 1 32 dX6_as_31 rfl rfl rfl ?_
        have hb32 := h.1
        have h := h.2
        refine sk_aald 33 dX6_as_32 rfl sc_35 (by decide) hb32 _ rfl (r := (3 + v1.toNatClampNeg)) (sk_tl0 hb32) ?_
        refine sk_iload_n 2 34 dX6_as_33 rfl rfl rfl ?_
        refine sk_callVi [.int v2] [] 37 dX6_as_34 rfl mfX5_isUnder lkX6_111 miX5_isUnder msX5_isUnder (sk_tileAt hb32) rfl rfl rfl rfl (by simp [Value.category]) hd0 (sk_Cm h ?_)
        rintro w t34 ⟨r34, hw, h⟩
        refine ⟨r34, hw, ?_⟩
        refine sk_if_eq 55 40 dX6_as_37 (by decide) rfl (fun hc => ?_) (fun hc => ?_)
        · have h := h.1 hc
          refine sk_aload_n 0 56 dX6_as_55 rfl rfl rfl ?_
          refine sk_iconst (v := 5) 57 dX6_as_56 rfl (by decide) ?_
          refine sk_callVi [.int 5] [] 60 dX6_as_57 rfl mfX6_error lkX6_58 miX6_error msX6_error sc_0 rfl rfl rfl rfl (by simp [Value.category]) hd0 (sk_Cm h ?_)
          rintro w t57 ⟨r57, hw, h⟩
          refine ⟨r57, hw, ?_⟩
          exact sk_iret dX6_as_60 rfl rfl h
        · have h := h.2 hc
          refine sk_aload_n 0 41 dX6_as_40 rfl rfl rfl ?_
          refine sk_getR (r := 1) 44 dX6_as_41 rfl lfX6_12 sc_0 rfl ?_
          refine sk_getR (r := 35) 47 dX6_as_44 rfl lfX6_62 sc_1 rfl ?_
          refine sk_iload_n 1 48 dX6_as_47 rfl rfl rfl ?_
          have hb48 := h.1
          have h := h.2
          refine sk_aald 49 dX6_as_48 rfl sc_35 (by decide) hb48 _ rfl (r := (3 + v1.toNatClampNeg)) (sk_tl0 hb48) ?_
          refine sk_getI 52 dX6_as_49 rfl lfX6_78 (sk_tileAt hb48) rfl ?_
          refine sk_goto 60 dX6_as_52 (by decide) ?_
          exact sk_iret dX6_as_60 rfl rfl h
      · have h := h.2 hc
        refine sk_aload_n 0 19 dX6_as_18 rfl rfl rfl ?_
        refine sk_iconst (v := 1) 20 dX6_as_19 rfl (by decide) ?_
        refine sk_callVi [.int 1] [] 23 dX6_as_20 rfl mfX6_error lkX6_58 miX6_error msX6_error sc_0 rfl rfl rfl rfl (by simp [Value.category]) hd0 (sk_Cm h ?_)
        rintro w t20 ⟨r20, hw, h⟩
        refine ⟨r20, hw, ?_⟩
        exact sk_iret dX6_as_23 rfl rfl h

theorem wX6_lay {d : Nat} {τ : sk_T} {K : sk_K} {v1 : Int32} {v2 : Int32} {v3 : Int32} (hd0 : 0 < d)
  (h : sk_C sk_Sc (d - 1) mX6_isSlate [.ref 0, .int v1] τ (fun w t2 => ∃ r2 : Int32, w = some (.int r2) ∧
      ((r2 = 0 →
        sk_C sk_Sc (d - 1) mX6_error [.ref 0, .int 1] t2 (fun w t30 => ∃ r30 : Int32, w = some (.int r30) ∧
          K (some (.int r30)) t30
        )
      ) ∧
      (¬ r2 = 0 →
        ((v2 < 0 →
          sk_C sk_Sc (d - 1) mX6_error [.ref 0, .int 1] t2 (fun w t30 => ∃ r30 : Int32, w = some (.int r30) ∧
            K (some (.int r30)) t30
          )
        ) ∧
        (¬ v2 < 0 →
          ((6 ≤ v2 →
            sk_C sk_Sc (d - 1) mX6_error [.ref 0, .int 1] t2 (fun w t30 => ∃ r30 : Int32, w = some (.int r30) ∧
              K (some (.int r30)) t30
            )
          ) ∧
          (¬ 6 ≤ v2 →
            ((v3 < 0 →
              sk_C sk_Sc (d - 1) mX6_error [.ref 0, .int 1] t2 (fun w t30 => ∃ r30 : Int32, w = some (.int r30) ∧
                K (some (.int r30)) t30
              )
            ) ∧
            (¬ v3 < 0 →
              ((v3 < 8 →
                sk_C sk_Sc (d - 1) mX3_mayLie [.ref 1, .int v1, .int ((v2 * 8) + v3)] t2 (fun w t49 => ∃ r49 : Int32, w = some (.int r49) ∧
                  ((¬ r49 = 0 →
                    vp_in v1 10 ∧
                    sk_C sk_Sc (d - 1) mX3_dryBut [.ref 1, .int 0] (sk_u t49 (3 + v1.toNatClampNeg) 6 ((v2 * 8) + v3)) (fun w t80 => ∃ r80 : Int64, w = some (.long r80) ∧
                      sk_C sk_Sc (d - 1) mJ13_bitCount_95d88 [.long r80] t80 (fun w t83 => ∃ r83 : Int32, w = some (.int r83) ∧
                        K (some (.int r83)) t83
                      )
                    )
                  ) ∧
                  (r49 = 0 →
                    sk_C sk_Sc (d - 1) mX6_error [.ref 0, .int 3] t49 (fun w t57 => ∃ r57 : Int32, w = some (.int r57) ∧
                      K (some (.int r57)) t57
                    )
                  ))
                )
              ) ∧
              (¬ v3 < 8 →
                sk_C sk_Sc (d - 1) mX6_error [.ref 0, .int 1] t2 (fun w t30 => ∃ r30 : Int32, w = some (.int r30) ∧
                  K (some (.int r30)) t30
                )
              ))
            ))
          ))
        ))
      ))
    )) :
  sk_C sk_Sc d mX6_lay [.ref 0, .int v1, .int v2, .int v3] τ K := by
  refine sk_enter mfX6_lay (Nat.le_of_ble_eq_true rfl) ?_
  show sk_G sk_Sc d mX6_lay 0 [(0, .ref 0), (1, .int v1), (2, .int v2), (3, .int v3)] [] τ K
  refine sk_aload_n 0 1 dX6_lay_0 rfl rfl rfl ?_
  refine sk_iload_n 1 2 dX6_lay_1 rfl rfl rfl ?_
  refine sk_callVi [.int v1] [] 5 dX6_lay_2 rfl mfX6_isSlate lkX6_72 miX6_isSlate msX6_isSlate sc_0 rfl rfl rfl rfl (by simp [Value.category]) hd0 (sk_Cm h ?_)
  rintro w t2 ⟨r2, hw, h⟩
  refine ⟨r2, hw, ?_⟩
  refine sk_if_eq 28 8 dX6_lay_5 (by decide) rfl (fun hc => ?_) (fun hc => ?_)
  · have h := h.1 hc
    refine sk_aload_n 0 29 dX6_lay_28 rfl rfl rfl ?_
    refine sk_iconst (v := 1) 30 dX6_lay_29 rfl (by decide) ?_
    refine sk_callVi [.int 1] [] 33 dX6_lay_30 rfl mfX6_error lkX6_58 miX6_error msX6_error sc_0 rfl rfl rfl rfl (by simp [Value.category]) hd0 (sk_Cm h ?_)
    rintro w t30 ⟨r30, hw, h⟩
    refine ⟨r30, hw, ?_⟩
    exact sk_iret dX6_lay_33 rfl rfl h
  · have h := h.2 hc
    refine sk_iload_n 2 9 dX6_lay_8 rfl rfl rfl ?_
    refine sk_if_lt 28 12 dX6_lay_9 (by decide) rfl (fun hc => ?_) (fun hc => ?_)
    · have h := h.1 hc
      refine sk_aload_n 0 29 dX6_lay_28 rfl rfl rfl ?_
      refine sk_iconst (v := 1) 30 dX6_lay_29 rfl (by decide) ?_
      refine sk_callVi [.int 1] [] 33 dX6_lay_30 rfl mfX6_error lkX6_58 miX6_error msX6_error sc_0 rfl rfl rfl rfl (by simp [Value.category]) hd0 (sk_Cm h ?_)
      rintro w t30 ⟨r30, hw, h⟩
      refine ⟨r30, hw, ?_⟩
      exact sk_iret dX6_lay_33 rfl rfl h
    · have h := h.2 hc
      refine sk_iload_n 2 13 dX6_lay_12 rfl rfl rfl ?_
      refine sk_bipush (v := 6) 15 dX6_lay_13 rfl (by decide) ?_
      refine sk_icmp_ge 28 18 dX6_lay_15 (by decide) rfl (fun hc => ?_) (fun hc => ?_)
      · have h := h.1 hc
        refine sk_aload_n 0 29 dX6_lay_28 rfl rfl rfl ?_
        refine sk_iconst (v := 1) 30 dX6_lay_29 rfl (by decide) ?_
        refine sk_callVi [.int 1] [] 33 dX6_lay_30 rfl mfX6_error lkX6_58 miX6_error msX6_error sc_0 rfl rfl rfl rfl (by simp [Value.category]) hd0 (sk_Cm h ?_)
        rintro w t30 ⟨r30, hw, h⟩
        refine ⟨r30, hw, ?_⟩
        exact sk_iret dX6_lay_33 rfl rfl h
      · have h := h.2 hc
        refine sk_iload_n 3 19 dX6_lay_18 rfl rfl rfl ?_
        refine sk_if_lt 28 22 dX6_lay_19 (by decide) rfl (fun hc => ?_) (fun hc => ?_)
        · have h := h.1 hc
          refine sk_aload_n 0 29 dX6_lay_28 rfl rfl rfl ?_
          refine sk_iconst (v := 1) 30 dX6_lay_29 rfl (by decide) ?_
          refine sk_callVi [.int 1] [] 33 dX6_lay_30 rfl mfX6_error lkX6_58 miX6_error msX6_error sc_0 rfl rfl rfl rfl (by simp [Value.category]) hd0 (sk_Cm h ?_)
          rintro w t30 ⟨r30, hw, h⟩
          refine ⟨r30, hw, ?_⟩
          exact sk_iret dX6_lay_33 rfl rfl h
        · have h := h.2 hc
          refine sk_iload_n 3 23 dX6_lay_22 rfl rfl rfl ?_
          refine sk_bipush (v := 8) 25 dX6_lay_23 rfl (by decide) ?_
          refine sk_icmp_lt 34 28 dX6_lay_25 (by decide) rfl (fun hc => ?_) (fun hc => ?_)
          · have h := h.1 hc
            refine sk_iload_n 2 35 dX6_lay_34 rfl rfl rfl ?_
            refine sk_bipush (v := 8) 37 dX6_lay_35 rfl (by decide) ?_
            refine sk_imul 38 dX6_lay_37 rfl ?_
            refine sk_iload_n 3 39 dX6_lay_38 rfl rfl rfl ?_
            refine sk_iadd 40 dX6_lay_39 rfl ?_
            refine sk_istore (lv2 := [(4, .int ((v2 * 8) + v3)), (0, .ref 0), (1, .int v1), (2, .int v2), (3, .int v3)]) 42 dX6_lay_40 rfl (by decide) rfl ?_
            refine sk_aload_n 1 43 dX6_lay_42 rfl rfl rfl ?_
            refine sk_getR (r := 1) 46 dX6_lay_43 rfl lfX6_12 sc_0 rfl ?_
            refine sk_iload_n 2 47 dX6_lay_46 rfl rfl rfl ?_
            refine sk_iload 0 49 dX6_lay_47 rfl rfl ?_
            refine sk_callVi [.int v1, .int ((v2 * 8) + v3)] [] 52 dX6_lay_49 rfl mfX3_mayLie lkX6_114 miX3_mayLie msX3_mayLie sc_1 rfl rfl rfl rfl (by simp [Value.category]) hd0 (sk_Cm h ?_)
            rintro w t49 ⟨r49, hw, h⟩
            refine ⟨r49, hw, ?_⟩
            refine sk_if_ne 61 55 dX6_lay_52 (by decide) rfl (fun hc => ?_) (fun hc => ?_)
            · have h := h.1 hc
              refine sk_aload_n 1 62 dX6_lay_61 rfl rfl rfl ?_
              refine sk_getR (r := 1) 65 dX6_lay_62 rfl lfX6_12 sc_0 rfl ?_
              refine sk_getR (r := 35) 68 dX6_lay_65 rfl lfX6_62 sc_1 rfl ?_
              refine sk_iload_n 2 69 dX6_lay_68 rfl rfl rfl ?_
              have hb69 := h.1
              have h := h.2
              refine sk_aald 70 dX6_lay_69 rfl sc_35 (by decide) hb69 _ rfl (r := (3 + v1.toNatClampNeg)) (sk_tl0 hb69) ?_
              refine sk_iload 0 72 dX6_lay_70 rfl rfl ?_
              refine sk_putI 75 dX6_lay_72 rfl lpX6_118 (sk_tileAt hb69) rfl ?_
              refine sk_aload_n 1 76 dX6_lay_75 rfl rfl rfl ?_
              refine sk_getR (r := 1) 79 dX6_lay_76 rfl lfX6_12 sc_0 rfl ?_
              refine sk_iconst (v := 0) 80 dX6_lay_79 rfl (by decide) ?_
              refine sk_callVl [.int 0] [] 83 dX6_lay_80 rfl mfX3_dryBut lkX6_121 miX3_dryBut msX3_dryBut sc_1 rfl rfl rfl rfl (by simp [Value.category]) hd0 (sk_Cm h ?_)
              rintro w t80 ⟨r80, hw, h⟩
              refine ⟨r80, hw, ?_⟩
              refine sk_callSi [.long r80] [] 86 dX6_lay_83 rfl mfJ13_bitCount_95d88 lkX6_125 miJ13_bitCount_95d88 rfl rfl (by simp [Value.category]) hd0 (sk_Cm h ?_)
              rintro w t83 ⟨r83, hw, h⟩
              refine ⟨r83, hw, ?_⟩
              exact sk_iret dX6_lay_86 rfl rfl h
            · have h := h.2 hc
              refine sk_aload_n 1 56 dX6_lay_55 rfl rfl rfl ?_
              refine sk_iconst (v := 3) 57 dX6_lay_56 rfl (by decide) ?_
              refine sk_callVi [.int 3] [] 60 dX6_lay_57 rfl mfX6_error lkX6_58 miX6_error msX6_error sc_0 rfl rfl rfl rfl (by simp [Value.category]) hd0 (sk_Cm h ?_)
              rintro w t57 ⟨r57, hw, h⟩
              refine ⟨r57, hw, ?_⟩
              exact sk_iret dX6_lay_60 rfl rfl h
          · have h := h.2 hc
            refine sk_aload_n 0 29 dX6_lay_28 rfl rfl rfl ?_
            refine sk_iconst (v := 1) 30 dX6_lay_29 rfl (by decide) ?_
            refine sk_callVi [.int 1] [] 33 dX6_lay_30 rfl mfX6_error lkX6_58 miX6_error msX6_error sc_0 rfl rfl rfl rfl (by simp [Value.category]) hd0 (sk_Cm h ?_)
            rintro w t30 ⟨r30, hw, h⟩
            refine ⟨r30, hw, ?_⟩
            exact sk_iret dX6_lay_33 rfl rfl h

theorem wX6_lift {d : Nat} {τ : sk_T} {K : sk_K} {v1 : Int32} (hd0 : 0 < d)
  (h : sk_C sk_Sc (d - 1) mX6_isSlate [.ref 0, .int v1] τ (fun w t2 => ∃ r2 : Int32, w = some (.int r2) ∧
      ((¬ r2 = 0 →
        vp_in v1 10 ∧
        sk_C sk_Sc (d - 1) mX5_isLaid [.ref (3 + v1.toNatClampNeg)] t2 (fun w t23 => ∃ r23 : Int32, w = some (.int r23) ∧
          ((¬ r23 = 0 →
            vp_in v1 10 ∧
            sk_C sk_Sc (d - 1) mX3_dryBut [.ref 1, .int 0] (sk_u t23 (3 + v1.toNatClampNeg) 6 (-1)) (fun w t53 => ∃ r53 : Int64, w = some (.long r53) ∧
              sk_C sk_Sc (d - 1) mJ13_bitCount_95d88 [.long r53] t53 (fun w t56 => ∃ r56 : Int32, w = some (.int r56) ∧
                K (some (.int r56)) t56
              )
            )
          ) ∧
          (r23 = 0 →
            sk_C sk_Sc (d - 1) mX6_error [.ref 0, .int 3] t23 (fun w t31 => ∃ r31 : Int32, w = some (.int r31) ∧
              K (some (.int r31)) t31
            )
          ))
        )
      ) ∧
      (r2 = 0 →
        sk_C sk_Sc (d - 1) mX6_error [.ref 0, .int 1] t2 (fun w t10 => ∃ r10 : Int32, w = some (.int r10) ∧
          K (some (.int r10)) t10
        )
      ))
    )) :
  sk_C sk_Sc d mX6_lift [.ref 0, .int v1] τ K := by
  refine sk_enter mfX6_lift (Nat.le_of_ble_eq_true rfl) ?_
  show sk_G sk_Sc d mX6_lift 0 [(0, .ref 0), (1, .int v1)] [] τ K
  refine sk_aload_n 0 1 dX6_lift_0 rfl rfl rfl ?_
  refine sk_iload_n 1 2 dX6_lift_1 rfl rfl rfl ?_
  refine sk_callVi [.int v1] [] 5 dX6_lift_2 rfl mfX6_isSlate lkX6_72 miX6_isSlate msX6_isSlate sc_0 rfl rfl rfl rfl (by simp [Value.category]) hd0 (sk_Cm h ?_)
  rintro w t2 ⟨r2, hw, h⟩
  refine ⟨r2, hw, ?_⟩
  refine sk_if_ne 14 8 dX6_lift_5 (by decide) rfl (fun hc => ?_) (fun hc => ?_)
  · have h := h.1 hc
    refine sk_aload_n 0 15 dX6_lift_14 rfl rfl rfl ?_
    refine sk_getR (r := 1) 18 dX6_lift_15 rfl lfX6_12 sc_0 rfl ?_
    refine sk_getR (r := 35) 21 dX6_lift_18 rfl lfX6_62 sc_1 rfl ?_
    refine sk_iload_n 1 22 dX6_lift_21 rfl rfl rfl ?_
    have hb22 := h.1
    have h := h.2
    refine sk_aald 23 dX6_lift_22 rfl sc_35 (by decide) hb22 _ rfl (r := (3 + v1.toNatClampNeg)) (sk_tl0 hb22) ?_
    refine sk_callVi [] [] 26 dX6_lift_23 rfl mfX5_isLaid lkX6_131 miX5_isLaid msX5_isLaid (sk_tileAt hb22) rfl rfl rfl rfl (by simp [Value.category]) hd0 (sk_Cm h ?_)
    rintro w t23 ⟨r23, hw, h⟩
    refine ⟨r23, hw, ?_⟩
    refine sk_if_ne 35 29 dX6_lift_26 (by decide) rfl (fun hc => ?_) (fun hc => ?_)
    · have h := h.1 hc
      refine sk_aload_n 0 36 dX6_lift_35 rfl rfl rfl ?_
      refine sk_getR (r := 1) 39 dX6_lift_36 rfl lfX6_12 sc_0 rfl ?_
      refine sk_getR (r := 35) 42 dX6_lift_39 rfl lfX6_62 sc_1 rfl ?_
      refine sk_iload_n 1 43 dX6_lift_42 rfl rfl rfl ?_
      have hb43 := h.1
      have h := h.2
      refine sk_aald 44 dX6_lift_43 rfl sc_35 (by decide) hb43 _ rfl (r := (3 + v1.toNatClampNeg)) (sk_tl0 hb43) ?_
      refine sk_iconst (v := (-1)) 45 dX6_lift_44 rfl (by decide) ?_
      refine sk_putI 48 dX6_lift_45 rfl lpX6_118 (sk_tileAt hb43) rfl ?_
      refine sk_aload_n 0 49 dX6_lift_48 rfl rfl rfl ?_
      refine sk_getR (r := 1) 52 dX6_lift_49 rfl lfX6_12 sc_0 rfl ?_
      refine sk_iconst (v := 0) 53 dX6_lift_52 rfl (by decide) ?_
      refine sk_callVl [.int 0] [] 56 dX6_lift_53 rfl mfX3_dryBut lkX6_121 miX3_dryBut msX3_dryBut sc_1 rfl rfl rfl rfl (by simp [Value.category]) hd0 (sk_Cm h ?_)
      rintro w t53 ⟨r53, hw, h⟩
      refine ⟨r53, hw, ?_⟩
      refine sk_callSi [.long r53] [] 59 dX6_lift_56 rfl mfJ13_bitCount_95d88 lkX6_125 miJ13_bitCount_95d88 rfl rfl (by simp [Value.category]) hd0 (sk_Cm h ?_)
      rintro w t56 ⟨r56, hw, h⟩
      refine ⟨r56, hw, ?_⟩
      exact sk_iret dX6_lift_59 rfl rfl h
    · have h := h.2 hc
      refine sk_aload_n 0 30 dX6_lift_29 rfl rfl rfl ?_
      refine sk_iconst (v := 3) 31 dX6_lift_30 rfl (by decide) ?_
      refine sk_callVi [.int 3] [] 34 dX6_lift_31 rfl mfX6_error lkX6_58 miX6_error msX6_error sc_0 rfl rfl rfl rfl (by simp [Value.category]) hd0 (sk_Cm h ?_)
      rintro w t31 ⟨r31, hw, h⟩
      refine ⟨r31, hw, ?_⟩
      exact sk_iret dX6_lift_34 rfl rfl h
  · have h := h.2 hc
    refine sk_aload_n 0 9 dX6_lift_8 rfl rfl rfl ?_
    refine sk_iconst (v := 1) 10 dX6_lift_9 rfl (by decide) ?_
    refine sk_callVi [.int 1] [] 13 dX6_lift_10 rfl mfX6_error lkX6_58 miX6_error msX6_error sc_0 rfl rfl rfl rfl (by simp [Value.category]) hd0 (sk_Cm h ?_)
    rintro w t10 ⟨r10, hw, h⟩
    refine ⟨r10, hw, ?_⟩
    exact sk_iret dX6_lift_13 rfl rfl h

theorem wX6_nail {d : Nat} {τ : sk_T} {K : sk_K} {v1 : Int32} {v2 : Int32} (hd0 : 0 < d)
  (h : sk_C sk_Sc (d - 1) mX6_isSlate [.ref 0, .int v1] τ (fun w t2 => ∃ r2 : Int32, w = some (.int r2) ∧
      ((r2 = 0 →
        sk_C sk_Sc (d - 1) mX6_error [.ref 0, .int 1] t2 (fun w t17 => ∃ r17 : Int32, w = some (.int r17) ∧
          K (some (.int r17)) t17
        )
      ) ∧
      (¬ r2 = 0 →
        sk_C sk_Sc (d - 1) mX6_isDigit [.int v2] t2 (fun w t9 => ∃ r9 : Int32, w = some (.int r9) ∧
          ((¬ r9 = 0 →
            vp_in v1 10 ∧
            vp_in v1 10 ∧
            K (some (.int (t9 (3 + v1.toNatClampNeg) 3))) (sk_u t9 (3 + v1.toNatClampNeg) 3 v2)
          ) ∧
          (r9 = 0 →
            sk_C sk_Sc (d - 1) mX6_error [.ref 0, .int 1] t9 (fun w t17 => ∃ r17 : Int32, w = some (.int r17) ∧
              K (some (.int r17)) t17
            )
          ))
        )
      ))
    )) :
  sk_C sk_Sc d mX6_nail [.ref 0, .int v1, .int v2] τ K := by
  refine sk_enter mfX6_nail (Nat.le_of_ble_eq_true rfl) ?_
  show sk_G sk_Sc d mX6_nail 0 [(0, .ref 0), (1, .int v1), (2, .int v2)] [] τ K
  refine sk_aload_n 0 1 dX6_nail_0 rfl rfl rfl ?_
  refine sk_iload_n 1 2 dX6_nail_1 rfl rfl rfl ?_
  refine sk_callVi [.int v1] [] 5 dX6_nail_2 rfl mfX6_isSlate lkX6_72 miX6_isSlate msX6_isSlate sc_0 rfl rfl rfl rfl (by simp [Value.category]) hd0 (sk_Cm h ?_)
  rintro w t2 ⟨r2, hw, h⟩
  refine ⟨r2, hw, ?_⟩
  refine sk_if_eq 15 8 dX6_nail_5 (by decide) rfl (fun hc => ?_) (fun hc => ?_)
  · have h := h.1 hc
    refine sk_aload_n 0 16 dX6_nail_15 rfl rfl rfl ?_
    refine sk_iconst (v := 1) 17 dX6_nail_16 rfl (by decide) ?_
    refine sk_callVi [.int 1] [] 20 dX6_nail_17 rfl mfX6_error lkX6_58 miX6_error msX6_error sc_0 rfl rfl rfl rfl (by simp [Value.category]) hd0 (sk_Cm h ?_)
    rintro w t17 ⟨r17, hw, h⟩
    refine ⟨r17, hw, ?_⟩
    exact sk_iret dX6_nail_20 rfl rfl h
  · have h := h.2 hc
    refine sk_iload_n 2 9 dX6_nail_8 rfl rfl rfl ?_
    refine sk_callSi [.int v2] [] 12 dX6_nail_9 rfl mfX6_isDigit lkX6_52 miX6_isDigit rfl rfl (by simp [Value.category]) hd0 (sk_Cm h ?_)
    rintro w t9 ⟨r9, hw, h⟩
    refine ⟨r9, hw, ?_⟩
    refine sk_if_ne 21 15 dX6_nail_12 (by decide) rfl (fun hc => ?_) (fun hc => ?_)
    · have h := h.1 hc
      refine sk_aload_n 0 22 dX6_nail_21 rfl rfl rfl ?_
      refine sk_getR (r := 1) 25 dX6_nail_22 rfl lfX6_12 sc_0 rfl ?_
      refine sk_getR (r := 35) 28 dX6_nail_25 rfl lfX6_62 sc_1 rfl ?_
      refine sk_iload_n 1 29 dX6_nail_28 rfl rfl rfl ?_
      have hb29 := h.1
      have h := h.2
      refine sk_aald 30 dX6_nail_29 rfl sc_35 (by decide) hb29 _ rfl (r := (3 + v1.toNatClampNeg)) (sk_tl0 hb29) ?_
      refine sk_getI 33 dX6_nail_30 rfl lfX6_84 (sk_tileAt hb29) rfl ?_
      refine sk_istore_n (lv2 := [(3, .int (t9 (3 + v1.toNatClampNeg) 3)), (0, .ref 0), (1, .int v1), (2, .int v2)]) 34 dX6_nail_33 rfl rfl (by decide) rfl ?_
      refine sk_aload_n 1 35 dX6_nail_34 rfl rfl rfl ?_
      refine sk_getR (r := 1) 38 dX6_nail_35 rfl lfX6_12 sc_0 rfl ?_
      refine sk_getR (r := 35) 41 dX6_nail_38 rfl lfX6_62 sc_1 rfl ?_
      refine sk_iload_n 2 42 dX6_nail_41 rfl rfl rfl ?_
      have hb42 := h.1
      have h := h.2
      refine sk_aald 43 dX6_nail_42 rfl sc_35 (by decide) hb42 _ rfl (r := (3 + v1.toNatClampNeg)) (sk_tl0 hb42) ?_
      refine sk_iload_n 3 44 dX6_nail_43 rfl rfl rfl ?_
      refine sk_putI 47 dX6_nail_44 rfl lpX6_84 (sk_tileAt hb42) rfl ?_
      refine sk_iload_n 0 48 dX6_nail_47 rfl rfl rfl ?_
      exact sk_iret dX6_nail_48 rfl rfl h
    · have h := h.2 hc
      refine sk_aload_n 0 16 dX6_nail_15 rfl rfl rfl ?_
      refine sk_iconst (v := 1) 17 dX6_nail_16 rfl (by decide) ?_
      refine sk_callVi [.int 1] [] 20 dX6_nail_17 rfl mfX6_error lkX6_58 miX6_error msX6_error sc_0 rfl rfl rfl rfl (by simp [Value.category]) hd0 (sk_Cm h ?_)
      rintro w t17 ⟨r17, hw, h⟩
      refine ⟨r17, hw, ?_⟩
      exact sk_iret dX6_nail_20 rfl rfl h

theorem wX6_sells {d : Nat} {τ : sk_T} {K : sk_K} {v1 : Int32} (hd0 : 0 < d)
  (h : sk_C sk_Sc (d - 1) mX6_isBit [.int v1] τ (fun w t1 => ∃ r1 : Int32, w = some (.int r1) ∧
      ((¬ r1 = 0 →
        K (some (.int (t1 1 3))) (sk_u t1 1 3 v1)
      ) ∧
      (r1 = 0 →
        sk_C sk_Sc (d - 1) mX6_error [.ref 0, .int 1] t1 (fun w t9 => ∃ r9 : Int32, w = some (.int r9) ∧
          K (some (.int r9)) t9
        )
      ))
    )) :
  sk_C sk_Sc d mX6_sells [.ref 0, .int v1] τ K := by
  refine sk_enter mfX6_sells (Nat.le_of_ble_eq_true rfl) ?_
  show sk_G sk_Sc d mX6_sells 0 [(0, .ref 0), (1, .int v1)] [] τ K
  refine sk_iload_n 1 1 dX6_sells_0 rfl rfl rfl ?_
  refine sk_callSi [.int v1] [] 4 dX6_sells_1 rfl mfX6_isBit lkX6_135 miX6_isBit rfl rfl (by simp [Value.category]) hd0 (sk_Cm h ?_)
  rintro w t1 ⟨r1, hw, h⟩
  refine ⟨r1, hw, ?_⟩
  refine sk_if_ne 13 7 dX6_sells_4 (by decide) rfl (fun hc => ?_) (fun hc => ?_)
  · have h := h.1 hc
    refine sk_aload_n 0 14 dX6_sells_13 rfl rfl rfl ?_
    refine sk_getR (r := 1) 17 dX6_sells_14 rfl lfX6_12 sc_0 rfl ?_
    refine sk_getI 20 dX6_sells_17 rfl lfX6_138 sc_1 rfl ?_
    refine sk_istore_n (lv2 := [(2, .int (t1 1 3)), (0, .ref 0), (1, .int v1)]) 21 dX6_sells_20 rfl rfl (by decide) rfl ?_
    refine sk_aload_n 1 22 dX6_sells_21 rfl rfl rfl ?_
    refine sk_getR (r := 1) 25 dX6_sells_22 rfl lfX6_12 sc_0 rfl ?_
    refine sk_iload_n 2 26 dX6_sells_25 rfl rfl rfl ?_
    refine sk_putI 29 dX6_sells_26 rfl lpX6_138 sc_1 rfl ?_
    refine sk_iload_n 0 30 dX6_sells_29 rfl rfl rfl ?_
    exact sk_iret dX6_sells_30 rfl rfl h
  · have h := h.2 hc
    refine sk_aload_n 0 8 dX6_sells_7 rfl rfl rfl ?_
    refine sk_iconst (v := 1) 9 dX6_sells_8 rfl (by decide) ?_
    refine sk_callVi [.int 1] [] 12 dX6_sells_9 rfl mfX6_error lkX6_58 miX6_error msX6_error sc_0 rfl rfl rfl rfl (by simp [Value.category]) hd0 (sk_Cm h ?_)
    rintro w t9 ⟨r9, hw, h⟩
    refine ⟨r9, hw, ?_⟩
    exact sk_iret dX6_sells_12 rfl rfl h

theorem wX6_feed {d : Nat} {τ : sk_T} {K : sk_K} {v1 : Int64} {v3 : Int32} (hd0 : 0 < d)
  (h : ((v3 < 1 →
      sk_C sk_Sc (d - 1) mX6_error [.ref 0, .int 1] τ (fun w t13 => ∃ r13 : Int32, w = some (.int r13) ∧
        K (some (.int r13)) t13
      )
    ) ∧
    (¬ v3 < 1 →
      ((v3 ≤ 8 →
        ((v3 ≤ (60 - (τ 1 7)) →
          sk_G sk_Sc d mX6_feed 40 [(0, .ref 0), (1, .long v1), (3, .int v3), (4, .int 0)] [] τ K
        ) ∧
        (¬ v3 ≤ (60 - (τ 1 7)) →
          sk_C sk_Sc (d - 1) mX6_error [.ref 0, .int 4] τ (fun w t33 => ∃ r33 : Int32, w = some (.int r33) ∧
            K (some (.int r33)) t33
          )
        ))
      ) ∧
      (¬ v3 ≤ 8 →
        sk_C sk_Sc (d - 1) mX6_error [.ref 0, .int 1] τ (fun w t13 => ∃ r13 : Int32, w = some (.int r13) ∧
          K (some (.int r13)) t13
        )
      ))
    ))) :
  sk_C sk_Sc d mX6_feed [.ref 0, .long v1, .int v3] τ K := by
  refine sk_enter mfX6_feed (Nat.le_of_ble_eq_true rfl) ?_
  show sk_G sk_Sc d mX6_feed 0 [(0, .ref 0), (1, .long v1), (3, .int v3)] [] τ K
  refine sk_iload_n 2 1 dX6_feed_0 rfl rfl rfl ?_
  refine sk_iconst (v := 1) 2 dX6_feed_1 rfl (by decide) ?_
  refine sk_icmp_lt 11 5 dX6_feed_2 (by decide) rfl (fun hc => ?_) (fun hc => ?_)
  · have h := h.1 hc
    refine sk_aload_n 0 12 dX6_feed_11 rfl rfl rfl ?_
    refine sk_iconst (v := 1) 13 dX6_feed_12 rfl (by decide) ?_
    refine sk_callVi [.int 1] [] 16 dX6_feed_13 rfl mfX6_error lkX6_58 miX6_error msX6_error sc_0 rfl rfl rfl rfl (by simp [Value.category]) hd0 (sk_Cm h ?_)
    rintro w t13 ⟨r13, hw, h⟩
    refine ⟨r13, hw, ?_⟩
    exact sk_iret dX6_feed_16 rfl rfl h
  · have h := h.2 hc
    refine sk_iload_n 2 6 dX6_feed_5 rfl rfl rfl ?_
    refine sk_bipush (v := 8) 8 dX6_feed_6 rfl (by decide) ?_
    refine sk_icmp_le 17 11 dX6_feed_8 (by decide) rfl (fun hc => ?_) (fun hc => ?_)
    · have h := h.1 hc
      refine sk_iload_n 2 18 dX6_feed_17 rfl rfl rfl ?_
      refine sk_bipush (v := 60) 20 dX6_feed_18 rfl (by decide) ?_
      refine sk_aload_n 0 21 dX6_feed_20 rfl rfl rfl ?_
      refine sk_getR (r := 1) 24 dX6_feed_21 rfl lfX6_12 sc_0 rfl ?_
      refine sk_getI 27 dX6_feed_24 rfl lfX6_141 sc_1 rfl ?_
      refine sk_isub 28 dX6_feed_27 rfl ?_
      refine sk_icmp_le 37 31 dX6_feed_28 (by decide) rfl (fun hc => ?_) (fun hc => ?_)
      · have h := h.1 hc
        refine sk_iconst (v := 0) 38 dX6_feed_37 rfl (by decide) ?_
        refine sk_istore (lv2 := [(4, .int 0), (0, .ref 0), (1, .long v1), (3, .int v3)]) 40 dX6_feed_38 rfl (by decide) rfl ?_
        refine sk_perm (lv2 := [(0, .ref 0), (1, .long v1), (3, .int v3), (4, .int 0)]) [1, 2, 3, 0] rfl ?_
        exact h
      · have h := h.2 hc
        refine sk_aload_n 0 32 dX6_feed_31 rfl rfl rfl ?_
        refine sk_iconst (v := 4) 33 dX6_feed_32 rfl (by decide) ?_
        refine sk_callVi [.int 4] [] 36 dX6_feed_33 rfl mfX6_error lkX6_58 miX6_error msX6_error sc_0 rfl rfl rfl rfl (by simp [Value.category]) hd0 (sk_Cm h ?_)
        rintro w t33 ⟨r33, hw, h⟩
        refine ⟨r33, hw, ?_⟩
        exact sk_iret dX6_feed_36 rfl rfl h
    · have h := h.2 hc
      refine sk_aload_n 0 12 dX6_feed_11 rfl rfl rfl ?_
      refine sk_iconst (v := 1) 13 dX6_feed_12 rfl (by decide) ?_
      refine sk_callVi [.int 1] [] 16 dX6_feed_13 rfl mfX6_error lkX6_58 miX6_error msX6_error sc_0 rfl rfl rfl rfl (by simp [Value.category]) hd0 (sk_Cm h ?_)
      rintro w t13 ⟨r13, hw, h⟩
      refine ⟨r13, hw, ?_⟩
      exact sk_iret dX6_feed_16 rfl rfl h

theorem bX6_feed_40 {d : Nat} {τ : sk_T} {K : sk_K} {v1 : Int64} {v3 : Int32} {v4 : Int32}
  (h : ((v3 ≤ v4 →
      K (some (.int (τ 1 7))) τ
    ) ∧
    (¬ v3 ≤ v4 →
      vp_in (τ 1 7) 60 ∧
      sk_G sk_Sc d mX6_feed 40 [(0, .ref 0), (1, .long v1), (3, .int v3), (4, .int (v4 + 1))] [] (sk_u (sk_u τ 39 ((τ 1 7)).toNatClampNeg ((Int64.toInt32 (sk_lush v1 (8 * v4)))).toInt8.toInt32) 1 7 (((sk_u τ 39 ((τ 1 7)).toNatClampNeg ((Int64.toInt32 (sk_lush v1 (8 * v4)))).toInt8.toInt32) 1 7) + 1)) K
    ))) :
  sk_G sk_Sc d mX6_feed 40 [(0, .ref 0), (1, .long v1), (3, .int v3), (4, .int v4)] [] τ K := by
  refine sk_iload 3 42 dX6_feed_40 rfl rfl ?_
  refine sk_iload_n 2 43 dX6_feed_42 rfl rfl rfl ?_
  refine sk_icmp_ge 89 46 dX6_feed_43 (by decide) rfl (fun hc => ?_) (fun hc => ?_)
  · have h := h.1 hc
    refine sk_aload_n 0 90 dX6_feed_89 rfl rfl rfl ?_
    refine sk_getR (r := 1) 93 dX6_feed_90 rfl lfX6_12 sc_0 rfl ?_
    refine sk_getI 96 dX6_feed_93 rfl lfX6_141 sc_1 rfl ?_
    exact sk_iret dX6_feed_96 rfl rfl h
  · have h := h.2 hc
    refine sk_aload_n 0 47 dX6_feed_46 rfl rfl rfl ?_
    refine sk_getR (r := 1) 50 dX6_feed_47 rfl lfX6_12 sc_0 rfl ?_
    refine sk_getR (r := 39) 53 dX6_feed_50 rfl lfX6_144 sc_1 rfl ?_
    refine sk_aload_n 0 54 dX6_feed_53 rfl rfl rfl ?_
    refine sk_getR (r := 1) 57 dX6_feed_54 rfl lfX6_12 sc_0 rfl ?_
    refine sk_getI 60 dX6_feed_57 rfl lfX6_141 sc_1 rfl ?_
    refine sk_lload_n 1 61 dX6_feed_60 rfl rfl rfl ?_
    refine sk_bipush (v := 8) 63 dX6_feed_61 rfl (by decide) ?_
    refine sk_iload 3 65 dX6_feed_63 rfl rfl ?_
    refine sk_imul 66 dX6_feed_65 rfl ?_
    refine sk_lushr 67 dX6_feed_66 rfl ?_
    refine sk_l2i 68 dX6_feed_67 rfl ?_
    refine sk_i2b 69 dX6_feed_68 rfl ?_
    have hb69 := h.1
    have h := h.2
    refine sk_bast 70 dX6_feed_69 rfl sc_39 hb69 _ rfl ?_
    refine sk_aload_n 0 71 dX6_feed_70 rfl rfl rfl ?_
    refine sk_getR (r := 1) 74 dX6_feed_71 rfl lfX6_12 sc_0 rfl ?_
    refine sk_dup 75 dX6_feed_74 rfl rfl ?_
    refine sk_getI 78 dX6_feed_75 rfl lfX6_141 sc_1 rfl ?_
    refine sk_iconst (v := 1) 79 dX6_feed_78 rfl (by decide) ?_
    refine sk_iadd 80 dX6_feed_79 rfl ?_
    refine sk_putI 83 dX6_feed_80 rfl lpX6_141 sc_1 rfl ?_
    refine sk_iinc (v := (v4 + 1)) (lv2 := [(4, .int (v4 + 1)), (0, .ref 0), (1, .long v1), (3, .int v3)]) 3 86 dX6_feed_83 rfl rfl rfl (by decide) rfl ?_
    refine sk_goto 40 dX6_feed_86 (by decide) ?_
    refine sk_perm (lv2 := [(0, .ref 0), (1, .long v1), (3, .int v3), (4, .int (v4 + 1))]) [1, 2, 3, 0] rfl ?_
    exact h

theorem wX6_text {d : Nat} {τ : sk_T} {K : sk_K} {v1 : Int32} (hd0 : 0 < d)
  (h : sk_C sk_Sc (d - 1) mX6_isUse [.int v1] τ (fun w t1 => ∃ r1 : Int32, w = some (.int r1) ∧
      ((¬ r1 = 0 →
        sk_C sk_Sc (d - 1) mX2_read [.ref 43, .ref 39, .int (t1 1 7), .int v1] t1 (fun w t32 => ∃ r32 : Int32, w = some (.int r32) ∧
          ((r32 < 0 →
            vp_in v1 2 ∧
            sk_C sk_Sc (d - 1) mX1_adopt [.ref (23 + v1.toNatClampNeg), .ref 45, .int ((sk_u t32 1 7 0) 43 5)] (sk_u t32 1 7 0) (fun w t76 => w = none ∧
              K (some (.int 1)) t76
            )
          ) ∧
          (¬ r32 < 0 →
            K (some (.int ((-10) - r32))) (sk_u t32 1 7 0)
          ))
        )
      ) ∧
      (r1 = 0 →
        sk_C sk_Sc (d - 1) mX6_error [.ref 0, .int 1] t1 (fun w t9 => ∃ r9 : Int32, w = some (.int r9) ∧
          K (some (.int r9)) t9
        )
      ))
    )) :
  sk_C sk_Sc d mX6_text [.ref 0, .int v1] τ K := by
  refine sk_enter mfX6_text (Nat.le_of_ble_eq_true rfl) ?_
  show sk_G sk_Sc d mX6_text 0 [(0, .ref 0), (1, .int v1)] [] τ K
  refine sk_iload_n 1 1 dX6_text_0 rfl rfl rfl ?_
  refine sk_callSi [.int v1] [] 4 dX6_text_1 rfl mfX6_isUse lkX6_148 miX6_isUse rfl rfl (by simp [Value.category]) hd0 (sk_Cm h ?_)
  rintro w t1 ⟨r1, hw, h⟩
  refine ⟨r1, hw, ?_⟩
  refine sk_if_ne 13 7 dX6_text_4 (by decide) rfl (fun hc => ?_) (fun hc => ?_)
  · have h := h.1 hc
    refine sk_aload_n 0 14 dX6_text_13 rfl rfl rfl ?_
    refine sk_getR (r := 43) 17 dX6_text_14 rfl lfX6_26 sc_0 rfl ?_
    refine sk_aload_n 0 18 dX6_text_17 rfl rfl rfl ?_
    refine sk_getR (r := 1) 21 dX6_text_18 rfl lfX6_12 sc_0 rfl ?_
    refine sk_getR (r := 39) 24 dX6_text_21 rfl lfX6_144 sc_1 rfl ?_
    refine sk_aload_n 0 25 dX6_text_24 rfl rfl rfl ?_
    refine sk_getR (r := 1) 28 dX6_text_25 rfl lfX6_12 sc_0 rfl ?_
    refine sk_getI 31 dX6_text_28 rfl lfX6_141 sc_1 rfl ?_
    refine sk_iload_n 1 32 dX6_text_31 rfl rfl rfl ?_
    refine sk_callVi [.ref 39, .int (t1 1 7), .int v1] [] 35 dX6_text_32 rfl mfX2_read lkX6_151 miX2_read msX2_read sc_43 rfl rfl rfl rfl (by simp [Value.category]) hd0 (sk_Cm h ?_)
    rintro w t32 ⟨r32, hw, h⟩
    refine ⟨r32, hw, ?_⟩
    refine sk_istore_n (lv2 := [(2, .int r32), (0, .ref 0), (1, .int v1)]) 36 dX6_text_35 rfl rfl (by decide) rfl ?_
    refine sk_aload_n 1 37 dX6_text_36 rfl rfl rfl ?_
    refine sk_getR (r := 1) 40 dX6_text_37 rfl lfX6_12 sc_0 rfl ?_
    refine sk_iconst (v := 0) 41 dX6_text_40 rfl (by decide) ?_
    refine sk_putI 44 dX6_text_41 rfl lpX6_141 sc_1 rfl ?_
    refine sk_iload_n 0 45 dX6_text_44 rfl rfl rfl ?_
    refine sk_if_lt 53 48 dX6_text_45 (by decide) rfl (fun hc => ?_) (fun hc => ?_)
    · have h := h.1 hc
      refine sk_aload_n 1 54 dX6_text_53 rfl rfl rfl ?_
      refine sk_getR (r := 1) 57 dX6_text_54 rfl lfX6_12 sc_0 rfl ?_
      refine sk_getR (r := 37) 60 dX6_text_57 rfl lfX6_155 sc_1 rfl ?_
      refine sk_iload_n 2 61 dX6_text_60 rfl rfl rfl ?_
      have hb61 := h.1
      have h := h.2
      refine sk_aald 62 dX6_text_61 rfl sc_37 (by decide) hb61 _ rfl (r := (23 + v1.toNatClampNeg)) (sk_ll0 hb61) ?_
      refine sk_aload_n 1 63 dX6_text_62 rfl rfl rfl ?_
      refine sk_getR (r := 43) 66 dX6_text_63 rfl lfX6_26 sc_0 rfl ?_
      refine sk_getR (r := 45) 69 dX6_text_66 rfl lfX6_159 sc_43 rfl ?_
      refine sk_aload_n 1 70 dX6_text_69 rfl rfl rfl ?_
      refine sk_getR (r := 43) 73 dX6_text_70 rfl lfX6_26 sc_0 rfl ?_
      refine sk_getI 76 dX6_text_73 rfl lfX6_162 sc_43 rfl ?_
      refine sk_callVv [.ref 45, .int ((sk_u t32 1 7 0) 43 5)] [] 79 dX6_text_76 rfl mfX1_adopt lkX6_163 miX1_adopt msX1_adopt (sk_lawAt hb61) rfl rfl rfl rfl (by simp [Value.category]) hd0 (sk_Cm h ?_)
      rintro w t76 ⟨hw, h⟩
      refine ⟨hw, ?_⟩
      refine sk_iconst (v := 1) 80 dX6_text_79 rfl (by decide) ?_
      exact sk_iret dX6_text_80 rfl rfl h
    · have h := h.2 hc
      refine sk_bipush (v := (-10)) 50 dX6_text_48 rfl (by decide) ?_
      refine sk_iload_n 0 51 dX6_text_50 rfl rfl rfl ?_
      refine sk_isub 52 dX6_text_51 rfl ?_
      exact sk_iret dX6_text_52 rfl rfl h
  · have h := h.2 hc
    refine sk_aload_n 0 8 dX6_text_7 rfl rfl rfl ?_
    refine sk_iconst (v := 1) 9 dX6_text_8 rfl (by decide) ?_
    refine sk_callVi [.int 1] [] 12 dX6_text_9 rfl mfX6_error lkX6_58 miX6_error msX6_error sc_0 rfl rfl rfl rfl (by simp [Value.category]) hd0 (sk_Cm h ?_)
    rintro w t9 ⟨r9, hw, h⟩
    refine ⟨r9, hw, ?_⟩
    exact sk_iret dX6_text_12 rfl rfl h

theorem wX6_untell {d : Nat} {τ : sk_T} {K : sk_K} {v1 : Int32} (hd0 : 0 < d)
  (h : sk_C sk_Sc (d - 1) mX6_isUse [.int v1] τ (fun w t1 => ∃ r1 : Int32, w = some (.int r1) ∧
      ((¬ r1 = 0 →
        vp_in v1 2 ∧
        (((t1 (23 + v1.toNatClampNeg) 1 &&& 1) = 0 →
          vp_in v1 2 ∧
          K (some (.int 0)) (sk_u t1 (23 + v1.toNatClampNeg) 1 0)
        ) ∧
        (¬ (t1 (23 + v1.toNatClampNeg) 1 &&& 1) = 0 →
          vp_in v1 2 ∧
          K (some (.int 1)) (sk_u t1 (23 + v1.toNatClampNeg) 1 0)
        ))
      ) ∧
      (r1 = 0 →
        sk_C sk_Sc (d - 1) mX6_error [.ref 0, .int 1] t1 (fun w t9 => ∃ r9 : Int32, w = some (.int r9) ∧
          K (some (.int r9)) t9
        )
      ))
    )) :
  sk_C sk_Sc d mX6_untell [.ref 0, .int v1] τ K := by
  refine sk_enter mfX6_untell (Nat.le_of_ble_eq_true rfl) ?_
  show sk_G sk_Sc d mX6_untell 0 [(0, .ref 0), (1, .int v1)] [] τ K
  refine sk_iload_n 1 1 dX6_untell_0 rfl rfl rfl ?_
  refine sk_callSi [.int v1] [] 4 dX6_untell_1 rfl mfX6_isUse lkX6_148 miX6_isUse rfl rfl (by simp [Value.category]) hd0 (sk_Cm h ?_)
  rintro w t1 ⟨r1, hw, h⟩
  refine ⟨r1, hw, ?_⟩
  refine sk_if_ne 13 7 dX6_untell_4 (by decide) rfl (fun hc => ?_) (fun hc => ?_)
  · have h := h.1 hc
    refine sk_aload_n 0 14 dX6_untell_13 rfl rfl rfl ?_
    refine sk_getR (r := 1) 17 dX6_untell_14 rfl lfX6_12 sc_0 rfl ?_
    refine sk_getR (r := 37) 20 dX6_untell_17 rfl lfX6_155 sc_1 rfl ?_
    refine sk_iload_n 1 21 dX6_untell_20 rfl rfl rfl ?_
    have hb21 := h.1
    have h := h.2
    refine sk_aald 22 dX6_untell_21 rfl sc_37 (by decide) hb21 _ rfl (r := (23 + v1.toNatClampNeg)) (sk_ll0 hb21) ?_
    refine sk_getB 25 dX6_untell_22 rfl lfX6_169 (sk_lawAt hb21) rfl ?_
    refine sk_if_eq 32 28 dX6_untell_25 (by decide) rfl (fun hc => ?_) (fun hc => ?_)
    · have h := h.1 hc
      refine sk_iconst (v := 0) 33 dX6_untell_32 rfl (by decide) ?_
      refine sk_istore_n (lv2 := [(2, .int 0), (0, .ref 0), (1, .int v1)]) 34 dX6_untell_33 rfl rfl (by decide) rfl ?_
      refine sk_aload_n 1 35 dX6_untell_34 rfl rfl rfl ?_
      refine sk_getR (r := 1) 38 dX6_untell_35 rfl lfX6_12 sc_0 rfl ?_
      refine sk_getR (r := 37) 41 dX6_untell_38 rfl lfX6_155 sc_1 rfl ?_
      refine sk_iload_n 2 42 dX6_untell_41 rfl rfl rfl ?_
      have hb42 := h.1
      have h := h.2
      refine sk_aald 43 dX6_untell_42 rfl sc_37 (by decide) hb42 _ rfl (r := (23 + v1.toNatClampNeg)) (sk_ll0 hb42) ?_
      refine sk_iconst (v := 0) 44 dX6_untell_43 rfl (by decide) ?_
      refine sk_putB 47 dX6_untell_44 rfl lpX6_169 (sk_lawAt hb42) rfl (by decide) ?_
      refine sk_iload_n 0 48 dX6_untell_47 rfl rfl rfl ?_
      exact sk_iret dX6_untell_48 rfl rfl h
    · have h := h.2 hc
      refine sk_iconst (v := 1) 29 dX6_untell_28 rfl (by decide) ?_
      refine sk_goto 33 dX6_untell_29 (by decide) ?_
      refine sk_istore_n (lv2 := [(2, .int 1), (0, .ref 0), (1, .int v1)]) 34 dX6_untell_33 rfl rfl (by decide) rfl ?_
      refine sk_aload_n 1 35 dX6_untell_34 rfl rfl rfl ?_
      refine sk_getR (r := 1) 38 dX6_untell_35 rfl lfX6_12 sc_0 rfl ?_
      refine sk_getR (r := 37) 41 dX6_untell_38 rfl lfX6_155 sc_1 rfl ?_
      refine sk_iload_n 2 42 dX6_untell_41 rfl rfl rfl ?_
      have hb42 := h.1
      have h := h.2
      refine sk_aald 43 dX6_untell_42 rfl sc_37 (by decide) hb42 _ rfl (r := (23 + v1.toNatClampNeg)) (sk_ll0 hb42) ?_
      refine sk_iconst (v := 0) 44 dX6_untell_43 rfl (by decide) ?_
      refine sk_putB 47 dX6_untell_44 rfl lpX6_169 (sk_lawAt hb42) rfl (by decide) ?_
      refine sk_iload_n 0 48 dX6_untell_47 rfl rfl rfl ?_
      exact sk_iret dX6_untell_48 rfl rfl h
  · have h := h.2 hc
    refine sk_aload_n 0 8 dX6_untell_7 rfl rfl rfl ?_
    refine sk_iconst (v := 1) 9 dX6_untell_8 rfl (by decide) ?_
    refine sk_callVi [.int 1] [] 12 dX6_untell_9 rfl mfX6_error lkX6_58 miX6_error msX6_error sc_0 rfl rfl rfl rfl (by simp [Value.category]) hd0 (sk_Cm h ?_)
    rintro w t9 ⟨r9, hw, h⟩
    refine ⟨r9, hw, ?_⟩
    exact sk_iret dX6_untell_12 rfl rfl h

theorem wX6_law {d : Nat} {τ : sk_T} {K : sk_K} {v1 : Int32} {v2 : Int32} {v3 : Int32} {v4 : Int32} (hd0 : 0 < d)
  (h : sk_C sk_Sc (d - 1) mX6_isUse [.int v1] τ (fun w t1 => ∃ r1 : Int32, w = some (.int r1) ∧
      ((r1 = 0 →
        sk_C sk_Sc (d - 1) mX6_error [.ref 0, .int 1] t1 (fun w t28 => ∃ r28 : Int32, w = some (.int r28) ∧
          K (some (.int r28)) t28
        )
      ) ∧
      (¬ r1 = 0 →
        vp_in v1 2 ∧
        sk_C sk_Sc (d - 1) mX1_give [.ref (23 + v1.toNatClampNeg), .int v2, .int v3, .int v4] t1 (fun w t20 => ∃ r20 : Int32, w = some (.int r20) ∧
          K (some (.int r20)) t20
        )
      ))
    )) :
  sk_C sk_Sc d mX6_law [.ref 0, .int v1, .int v2, .int v3, .int v4] τ K := by
  refine sk_enter mfX6_law (Nat.le_of_ble_eq_true rfl) ?_
  show sk_G sk_Sc d mX6_law 0 [(0, .ref 0), (1, .int v1), (2, .int v2), (3, .int v3), (4, .int v4)] [] τ K
  refine sk_iload_n 1 1 dX6_law_0 rfl rfl rfl ?_
  refine sk_callSi [.int v1] [] 4 dX6_law_1 rfl mfX6_isUse lkX6_148 miX6_isUse rfl rfl (by simp [Value.category]) hd0 (sk_Cm h ?_)
  rintro w t1 ⟨r1, hw, h⟩
  refine ⟨r1, hw, ?_⟩
  refine sk_if_eq 26 7 dX6_law_4 (by decide) rfl (fun hc => ?_) (fun hc => ?_)
  · have h := h.1 hc
    refine sk_aload_n 0 27 dX6_law_26 rfl rfl rfl ?_
    refine sk_iconst (v := 1) 28 dX6_law_27 rfl (by decide) ?_
    refine sk_callVi [.int 1] [] 31 dX6_law_28 rfl mfX6_error lkX6_58 miX6_error msX6_error sc_0 rfl rfl rfl rfl (by simp [Value.category]) hd0 (sk_Cm h ?_)
    rintro w t28 ⟨r28, hw, h⟩
    refine ⟨r28, hw, ?_⟩
    exact sk_iret dX6_law_31 rfl rfl h
  · have h := h.2 hc
    refine sk_aload_n 0 8 dX6_law_7 rfl rfl rfl ?_
    refine sk_getR (r := 1) 11 dX6_law_8 rfl lfX6_12 sc_0 rfl ?_
    refine sk_getR (r := 37) 14 dX6_law_11 rfl lfX6_155 sc_1 rfl ?_
    refine sk_iload_n 1 15 dX6_law_14 rfl rfl rfl ?_
    have hb15 := h.1
    have h := h.2
    refine sk_aald 16 dX6_law_15 rfl sc_37 (by decide) hb15 _ rfl (r := (23 + v1.toNatClampNeg)) (sk_ll0 hb15) ?_
    refine sk_iload_n 2 17 dX6_law_16 rfl rfl rfl ?_
    refine sk_iload_n 3 18 dX6_law_17 rfl rfl rfl ?_
    refine sk_iload 4 20 dX6_law_18 rfl rfl ?_
    refine sk_callVi [.int v2, .int v3, .int v4] [] 23 dX6_law_20 rfl mfX1_give lkX6_173 miX1_give msX1_give (sk_lawAt hb15) rfl rfl rfl rfl (by simp [Value.category]) hd0 (sk_Cm h ?_)
    rintro w t20 ⟨r20, hw, h⟩
    refine ⟨r20, hw, ?_⟩
    refine sk_goto 31 dX6_law_23 (by decide) ?_
    exact sk_iret dX6_law_31 rfl rfl h

theorem wX6_gale {d : Nat} {τ : sk_T} {K : sk_K} {v1 : Int32} (hd0 : 0 < d)
  (h : sk_C sk_Sc (d - 1) mX6_isGale [.int v1] τ (fun w t1 => ∃ r1 : Int32, w = some (.int r1) ∧
      ((¬ r1 = 0 →
        sk_C sk_Sc (d - 1) mX3_blown [.ref 1, .int v1] t1 (fun w t18 => ∃ r18 : Int32, w = some (.int r18) ∧
          sk_C sk_Sc (d - 1) mX3_takeOff [.ref 1, .int r18] t18 (fun w t27 => w = none ∧
            K (some (.int r18)) t27
          )
        )
      ) ∧
      (r1 = 0 →
        sk_C sk_Sc (d - 1) mX6_error [.ref 0, .int 1] t1 (fun w t9 => ∃ r9 : Int32, w = some (.int r9) ∧
          K (some (.int r9)) t9
        )
      ))
    )) :
  sk_C sk_Sc d mX6_gale [.ref 0, .int v1] τ K := by
  refine sk_enter mfX6_gale (Nat.le_of_ble_eq_true rfl) ?_
  show sk_G sk_Sc d mX6_gale 0 [(0, .ref 0), (1, .int v1)] [] τ K
  refine sk_iload_n 1 1 dX6_gale_0 rfl rfl rfl ?_
  refine sk_callSi [.int v1] [] 4 dX6_gale_1 rfl mfX6_isGale lkX6_177 miX6_isGale rfl rfl (by simp [Value.category]) hd0 (sk_Cm h ?_)
  rintro w t1 ⟨r1, hw, h⟩
  refine ⟨r1, hw, ?_⟩
  refine sk_if_ne 13 7 dX6_gale_4 (by decide) rfl (fun hc => ?_) (fun hc => ?_)
  · have h := h.1 hc
    refine sk_aload_n 0 14 dX6_gale_13 rfl rfl rfl ?_
    refine sk_getR (r := 1) 17 dX6_gale_14 rfl lfX6_12 sc_0 rfl ?_
    refine sk_iload_n 1 18 dX6_gale_17 rfl rfl rfl ?_
    refine sk_callVi [.int v1] [] 21 dX6_gale_18 rfl mfX3_blown lkX6_180 miX3_blown msX3_blown sc_1 rfl rfl rfl rfl (by simp [Value.category]) hd0 (sk_Cm h ?_)
    rintro w t18 ⟨r18, hw, h⟩
    refine ⟨r18, hw, ?_⟩
    refine sk_istore_n (lv2 := [(2, .int r18), (0, .ref 0), (1, .int v1)]) 22 dX6_gale_21 rfl rfl (by decide) rfl ?_
    refine sk_aload_n 1 23 dX6_gale_22 rfl rfl rfl ?_
    refine sk_getR (r := 1) 26 dX6_gale_23 rfl lfX6_12 sc_0 rfl ?_
    refine sk_iload_n 0 27 dX6_gale_26 rfl rfl rfl ?_
    refine sk_callVv [.int r18] [] 30 dX6_gale_27 rfl mfX3_takeOff lkX6_183 miX3_takeOff msX3_takeOff sc_1 rfl rfl rfl rfl (by simp [Value.category]) hd0 (sk_Cm h ?_)
    rintro w t27 ⟨hw, h⟩
    refine ⟨hw, ?_⟩
    refine sk_iload_n 0 31 dX6_gale_30 rfl rfl rfl ?_
    exact sk_iret dX6_gale_31 rfl rfl h
  · have h := h.2 hc
    refine sk_aload_n 0 8 dX6_gale_7 rfl rfl rfl ?_
    refine sk_iconst (v := 1) 9 dX6_gale_8 rfl (by decide) ?_
    refine sk_callVi [.int 1] [] 12 dX6_gale_9 rfl mfX6_error lkX6_58 miX6_error msX6_error sc_0 rfl rfl rfl rfl (by simp [Value.category]) hd0 (sk_Cm h ?_)
    rintro w t9 ⟨r9, hw, h⟩
    refine ⟨r9, hw, ?_⟩
    exact sk_iret dX6_gale_12 rfl rfl h

theorem wX6_years {d : Nat} {τ : sk_T} {K : sk_K} {v1 : Int32} (hd0 : 0 < d)
  (h : ((v1 < 1 →
      sk_C sk_Sc (d - 1) mX6_error [.ref 0, .int 1] τ (fun w t13 => ∃ r13 : Int32, w = some (.int r13) ∧
        K (some (.int r13)) t13
      )
    ) ∧
    (¬ v1 < 1 →
      ((v1 ≤ 60 →
        ((((τ 1 2) + v1) ≤ 9999 →
          sk_G sk_Sc d mX6_years 40 [(0, .ref 0), (1, .int v1), (2, .int 0)] [] τ K
        ) ∧
        (¬ ((τ 1 2) + v1) ≤ 9999 →
          sk_C sk_Sc (d - 1) mX6_error [.ref 0, .int 3] τ (fun w t34 => ∃ r34 : Int32, w = some (.int r34) ∧
            K (some (.int r34)) t34
          )
        ))
      ) ∧
      (¬ v1 ≤ 60 →
        sk_C sk_Sc (d - 1) mX6_error [.ref 0, .int 1] τ (fun w t13 => ∃ r13 : Int32, w = some (.int r13) ∧
          K (some (.int r13)) t13
        )
      ))
    ))) :
  sk_C sk_Sc d mX6_years [.ref 0, .int v1] τ K := by
  refine sk_enter mfX6_years (Nat.le_of_ble_eq_true rfl) ?_
  show sk_G sk_Sc d mX6_years 0 [(0, .ref 0), (1, .int v1)] [] τ K
  refine sk_iload_n 1 1 dX6_years_0 rfl rfl rfl ?_
  refine sk_iconst (v := 1) 2 dX6_years_1 rfl (by decide) ?_
  refine sk_icmp_lt 11 5 dX6_years_2 (by decide) rfl (fun hc => ?_) (fun hc => ?_)
  · have h := h.1 hc
    refine sk_aload_n 0 12 dX6_years_11 rfl rfl rfl ?_
    refine sk_iconst (v := 1) 13 dX6_years_12 rfl (by decide) ?_
    refine sk_callVi [.int 1] [] 16 dX6_years_13 rfl mfX6_error lkX6_58 miX6_error msX6_error sc_0 rfl rfl rfl rfl (by simp [Value.category]) hd0 (sk_Cm h ?_)
    rintro w t13 ⟨r13, hw, h⟩
    refine ⟨r13, hw, ?_⟩
    exact sk_iret dX6_years_16 rfl rfl h
  · have h := h.2 hc
    refine sk_iload_n 1 6 dX6_years_5 rfl rfl rfl ?_
    refine sk_bipush (v := 60) 8 dX6_years_6 rfl (by decide) ?_
    refine sk_icmp_le 17 11 dX6_years_8 (by decide) rfl (fun hc => ?_) (fun hc => ?_)
    · have h := h.1 hc
      refine sk_aload_n 0 18 dX6_years_17 rfl rfl rfl ?_
      refine sk_getR (r := 1) 21 dX6_years_18 rfl lfX6_12 sc_0 rfl ?_
      refine sk_getI 24 dX6_years_21 rfl lfX6_186 sc_1 rfl ?_
      refine sk_iload_n 1 25 dX6_years_24 rfl rfl rfl ?_
      refine sk_iadd 26 dX6_years_25 rfl ?_
      refine sk_sipush (v := 9999) 29 dX6_years_26 rfl (by decide) ?_
      refine sk_icmp_le 38 32 dX6_years_29 (by decide) rfl (fun hc => ?_) (fun hc => ?_)
      · have h := h.1 hc
        refine sk_iconst (v := 0) 39 dX6_years_38 rfl (by decide) ?_
        refine sk_istore_n (lv2 := [(2, .int 0), (0, .ref 0), (1, .int v1)]) 40 dX6_years_39 rfl rfl (by decide) rfl ?_
        refine sk_perm (lv2 := [(0, .ref 0), (1, .int v1), (2, .int 0)]) [1, 2, 0] rfl ?_
        exact h
      · have h := h.2 hc
        refine sk_aload_n 0 33 dX6_years_32 rfl rfl rfl ?_
        refine sk_iconst (v := 3) 34 dX6_years_33 rfl (by decide) ?_
        refine sk_callVi [.int 3] [] 37 dX6_years_34 rfl mfX6_error lkX6_58 miX6_error msX6_error sc_0 rfl rfl rfl rfl (by simp [Value.category]) hd0 (sk_Cm h ?_)
        rintro w t34 ⟨r34, hw, h⟩
        refine ⟨r34, hw, ?_⟩
        exact sk_iret dX6_years_37 rfl rfl h
    · have h := h.2 hc
      refine sk_aload_n 0 12 dX6_years_11 rfl rfl rfl ?_
      refine sk_iconst (v := 1) 13 dX6_years_12 rfl (by decide) ?_
      refine sk_callVi [.int 1] [] 16 dX6_years_13 rfl mfX6_error lkX6_58 miX6_error msX6_error sc_0 rfl rfl rfl rfl (by simp [Value.category]) hd0 (sk_Cm h ?_)
      rintro w t13 ⟨r13, hw, h⟩
      refine ⟨r13, hw, ?_⟩
      exact sk_iret dX6_years_16 rfl rfl h

theorem bX6_years_40 {d : Nat} {τ : sk_T} {K : sk_K} {v1 : Int32} {v2 : Int32} (hd0 : 0 < d)
  (h : ((v1 ≤ v2 →
      K (some (.int (τ 1 4))) τ
    ) ∧
    (¬ v1 ≤ v2 →
      sk_C sk_Sc (d - 1) mX3_passYear [.ref 1] τ (fun w t49 => w = none ∧
        sk_G sk_Sc d mX6_years 40 [(0, .ref 0), (1, .int v1), (2, .int (v2 + 1))] [] t49 K
      )
    ))) :
  sk_G sk_Sc d mX6_years 40 [(0, .ref 0), (1, .int v1), (2, .int v2)] [] τ K := by
  refine sk_iload_n 2 41 dX6_years_40 rfl rfl rfl ?_
  refine sk_iload_n 1 42 dX6_years_41 rfl rfl rfl ?_
  refine sk_icmp_ge 58 45 dX6_years_42 (by decide) rfl (fun hc => ?_) (fun hc => ?_)
  · have h := h.1 hc
    refine sk_aload_n 0 59 dX6_years_58 rfl rfl rfl ?_
    refine sk_getR (r := 1) 62 dX6_years_59 rfl lfX6_12 sc_0 rfl ?_
    refine sk_getI 65 dX6_years_62 rfl lfX6_192 sc_1 rfl ?_
    exact sk_iret dX6_years_65 rfl rfl h
  · have h := h.2 hc
    refine sk_aload_n 0 46 dX6_years_45 rfl rfl rfl ?_
    refine sk_getR (r := 1) 49 dX6_years_46 rfl lfX6_12 sc_0 rfl ?_
    refine sk_callVv [] [] 52 dX6_years_49 rfl mfX3_passYear lkX6_189 miX3_passYear msX3_passYear sc_1 rfl rfl rfl rfl (by simp [Value.category]) hd0 (sk_Cm h ?_)
    rintro w t49 ⟨hw, h⟩
    refine ⟨hw, ?_⟩
    refine sk_iinc (v := (v2 + 1)) (lv2 := [(2, .int (v2 + 1)), (0, .ref 0), (1, .int v1)]) 2 55 dX6_years_52 rfl rfl rfl (by decide) rfl ?_
    refine sk_goto 40 dX6_years_55 (by decide) ?_
    refine sk_perm (lv2 := [(0, .ref 0), (1, .int v1), (2, .int (v2 + 1))]) [1, 2, 0] rfl ?_
    exact h

theorem wX6_loose {d : Nat} {τ : sk_T} {K : sk_K} {v1 : Int32} (hd0 : 0 < d)
  (h : ((v1 < 1 →
      sk_C sk_Sc (d - 1) mX6_error [.ref 0, .int 1] τ (fun w t13 => ∃ r13 : Int32, w = some (.int r13) ∧
        K (some (.int r13)) t13
      )
    ) ∧
    (¬ v1 < 1 →
      ((v1 ≤ 20 →
        ((((τ 1 2) + v1) ≤ 9999 →
          sk_G sk_Sc d mX6_loose 42 [(0, .ref 0), (1, .int v1), (2, .int 0), (3, .int 0)] [] τ K
        ) ∧
        (¬ ((τ 1 2) + v1) ≤ 9999 →
          sk_C sk_Sc (d - 1) mX6_error [.ref 0, .int 3] τ (fun w t34 => ∃ r34 : Int32, w = some (.int r34) ∧
            K (some (.int r34)) t34
          )
        ))
      ) ∧
      (¬ v1 ≤ 20 →
        sk_C sk_Sc (d - 1) mX6_error [.ref 0, .int 1] τ (fun w t13 => ∃ r13 : Int32, w = some (.int r13) ∧
          K (some (.int r13)) t13
        )
      ))
    ))) :
  sk_C sk_Sc d mX6_loose [.ref 0, .int v1] τ K := by
  refine sk_enter mfX6_loose (Nat.le_of_ble_eq_true rfl) ?_
  show sk_G sk_Sc d mX6_loose 0 [(0, .ref 0), (1, .int v1)] [] τ K
  refine sk_iload_n 1 1 dX6_loose_0 rfl rfl rfl ?_
  refine sk_iconst (v := 1) 2 dX6_loose_1 rfl (by decide) ?_
  refine sk_icmp_lt 11 5 dX6_loose_2 (by decide) rfl (fun hc => ?_) (fun hc => ?_)
  · have h := h.1 hc
    refine sk_aload_n 0 12 dX6_loose_11 rfl rfl rfl ?_
    refine sk_iconst (v := 1) 13 dX6_loose_12 rfl (by decide) ?_
    refine sk_callVi [.int 1] [] 16 dX6_loose_13 rfl mfX6_error lkX6_58 miX6_error msX6_error sc_0 rfl rfl rfl rfl (by simp [Value.category]) hd0 (sk_Cm h ?_)
    rintro w t13 ⟨r13, hw, h⟩
    refine ⟨r13, hw, ?_⟩
    exact sk_iret dX6_loose_16 rfl rfl h
  · have h := h.2 hc
    refine sk_iload_n 1 6 dX6_loose_5 rfl rfl rfl ?_
    refine sk_bipush (v := 20) 8 dX6_loose_6 rfl (by decide) ?_
    refine sk_icmp_le 17 11 dX6_loose_8 (by decide) rfl (fun hc => ?_) (fun hc => ?_)
    · have h := h.1 hc
      refine sk_aload_n 0 18 dX6_loose_17 rfl rfl rfl ?_
      refine sk_getR (r := 1) 21 dX6_loose_18 rfl lfX6_12 sc_0 rfl ?_
      refine sk_getI 24 dX6_loose_21 rfl lfX6_186 sc_1 rfl ?_
      refine sk_iload_n 1 25 dX6_loose_24 rfl rfl rfl ?_
      refine sk_iadd 26 dX6_loose_25 rfl ?_
      refine sk_sipush (v := 9999) 29 dX6_loose_26 rfl (by decide) ?_
      refine sk_icmp_le 38 32 dX6_loose_29 (by decide) rfl (fun hc => ?_) (fun hc => ?_)
      · have h := h.1 hc
        refine sk_iconst (v := 0) 39 dX6_loose_38 rfl (by decide) ?_
        refine sk_istore_n (lv2 := [(2, .int 0), (0, .ref 0), (1, .int v1)]) 40 dX6_loose_39 rfl rfl (by decide) rfl ?_
        refine sk_iconst (v := 0) 41 dX6_loose_40 rfl (by decide) ?_
        refine sk_istore_n (lv2 := [(3, .int 0), (2, .int 0), (0, .ref 0), (1, .int v1)]) 42 dX6_loose_41 rfl rfl (by decide) rfl ?_
        refine sk_perm (lv2 := [(0, .ref 0), (1, .int v1), (2, .int 0), (3, .int 0)]) [2, 3, 1, 0] rfl ?_
        exact h
      · have h := h.2 hc
        refine sk_aload_n 0 33 dX6_loose_32 rfl rfl rfl ?_
        refine sk_iconst (v := 3) 34 dX6_loose_33 rfl (by decide) ?_
        refine sk_callVi [.int 3] [] 37 dX6_loose_34 rfl mfX6_error lkX6_58 miX6_error msX6_error sc_0 rfl rfl rfl rfl (by simp [Value.category]) hd0 (sk_Cm h ?_)
        rintro w t34 ⟨r34, hw, h⟩
        refine ⟨r34, hw, ?_⟩
        exact sk_iret dX6_loose_37 rfl rfl h
    · have h := h.2 hc
      refine sk_aload_n 0 12 dX6_loose_11 rfl rfl rfl ?_
      refine sk_iconst (v := 1) 13 dX6_loose_12 rfl (by decide) ?_
      refine sk_callVi [.int 1] [] 16 dX6_loose_13 rfl mfX6_error lkX6_58 miX6_error msX6_error sc_0 rfl rfl rfl rfl (by simp [Value.category]) hd0 (sk_Cm h ?_)
      rintro w t13 ⟨r13, hw, h⟩
      refine ⟨r13, hw, ?_⟩
      exact sk_iret dX6_loose_16 rfl rfl h

theorem bX6_loose_42 {d : Nat} {τ : sk_T} {K : sk_K} {v1 : Int32} {v2 : Int32} {v3 : Int32} (hd0 : 0 < d)
  (h : ((v1 ≤ v3 →
      K (some (.int v2)) τ
    ) ∧
    (¬ v1 ≤ v3 →
      sk_C sk_Sc (d - 1) mX3_yearByDraws [.ref 1] τ (fun w t52 => ∃ r52 : Int32, w = some (.int r52) ∧
        sk_G sk_Sc d mX6_loose 42 [(0, .ref 0), (1, .int v1), (2, .int (v2 ||| r52)), (3, .int (v3 + 1))] [] t52 K
      )
    ))) :
  sk_G sk_Sc d mX6_loose 42 [(0, .ref 0), (1, .int v1), (2, .int v2), (3, .int v3)] [] τ K := by
  refine sk_iload_n 3 43 dX6_loose_42 rfl rfl rfl ?_
  refine sk_iload_n 1 44 dX6_loose_43 rfl rfl rfl ?_
  refine sk_icmp_ge 63 47 dX6_loose_44 (by decide) rfl (fun hc => ?_) (fun hc => ?_)
  · have h := h.1 hc
    refine sk_iload_n 2 64 dX6_loose_63 rfl rfl rfl ?_
    exact sk_iret dX6_loose_64 rfl rfl h
  · have h := h.2 hc
    refine sk_iload_n 2 48 dX6_loose_47 rfl rfl rfl ?_
    refine sk_aload_n 0 49 dX6_loose_48 rfl rfl rfl ?_
    refine sk_getR (r := 1) 52 dX6_loose_49 rfl lfX6_12 sc_0 rfl ?_
    refine sk_callVi [] [.int v2] 55 dX6_loose_52 rfl mfX3_yearByDraws lkX6_195 miX3_yearByDraws msX3_yearByDraws sc_1 rfl rfl rfl rfl (by simp [Value.category]) hd0 (sk_Cm h ?_)
    rintro w t52 ⟨r52, hw, h⟩
    refine ⟨r52, hw, ?_⟩
    refine sk_ior 56 dX6_loose_55 rfl ?_
    refine sk_istore_n (lv2 := [(2, .int (v2 ||| r52)), (0, .ref 0), (1, .int v1), (3, .int v3)]) 57 dX6_loose_56 rfl rfl (by decide) rfl ?_
    refine sk_iinc (v := (v3 + 1)) (lv2 := [(3, .int (v3 + 1)), (2, .int (v2 ||| r52)), (0, .ref 0), (1, .int v1)]) 3 60 dX6_loose_57 rfl rfl rfl (by decide) rfl ?_
    refine sk_goto 42 dX6_loose_60 (by decide) ?_
    refine sk_perm (lv2 := [(0, .ref 0), (1, .int v1), (2, .int (v2 ||| r52)), (3, .int (v3 + 1))]) [2, 3, 1, 0] rfl ?_
    exact h

theorem wX6_seed {d : Nat} {τ : sk_T} {K : sk_K} {v1 : Int32}
  (h : K (some (.int (τ 1 5))) (sk_u τ 1 5 v1)) :
  sk_C sk_Sc d mX6_seed [.ref 0, .int v1] τ K := by
  refine sk_enter mfX6_seed (Nat.le_of_ble_eq_true rfl) ?_
  show sk_G sk_Sc d mX6_seed 0 [(0, .ref 0), (1, .int v1)] [] τ K
  refine sk_aload_n 0 1 dX6_seed_0 rfl rfl rfl ?_
  refine sk_getR (r := 1) 4 dX6_seed_1 rfl lfX6_12 sc_0 rfl ?_
  refine sk_getI 7 dX6_seed_4 rfl lfX6_198 sc_1 rfl ?_
  refine sk_istore_n (lv2 := [(2, .int (τ 1 5)), (0, .ref 0), (1, .int v1)]) 8 dX6_seed_7 rfl rfl (by decide) rfl ?_
  refine sk_aload_n 1 9 dX6_seed_8 rfl rfl rfl ?_
  refine sk_getR (r := 1) 12 dX6_seed_9 rfl lfX6_12 sc_0 rfl ?_
  refine sk_iload_n 2 13 dX6_seed_12 rfl rfl rfl ?_
  refine sk_putI 16 dX6_seed_13 rfl lpX6_198 sc_1 rfl ?_
  refine sk_iload_n 0 17 dX6_seed_16 rfl rfl rfl ?_
  exact sk_iret dX6_seed_17 rfl rfl h

theorem wX6_dry {d : Nat} {τ : sk_T} {K : sk_K} {v1 : Int32} (hd0 : 0 < d)
  (h : ((v1 < 0 →
      sk_C sk_Sc (d - 1) mX6_error [.ref 0, .int 1] τ (fun w t11 => ∃ r11 : Int32, w = some (.int r11) ∧
        K (some (.long (Int32.toInt64 r11))) t11
      )
    ) ∧
    (¬ v1 < 0 →
      ((v1 ≤ 2 →
        sk_C sk_Sc (d - 1) mX3_dryBut [.ref 1, .int 0] τ (fun w t21 => ∃ r21 : Int64, w = some (.long r21) ∧
          ((¬ v1 = 0 →
            ((¬ v1 = 1 →
              ((¬ (lg_cmp r21 281474976710655) = 0 →
                sk_C sk_Sc (d - 1) mJ13_numberOfTrailingZeros_95d88 [.long (r21 ^^^ (-1))] t21 (fun w t64 => ∃ r64 : Int32, w = some (.int r64) ∧
                  K (some (.long (Int32.toInt64 r64))) t64
                )
              ) ∧
              ((lg_cmp r21 281474976710655) = 0 →
                sk_C sk_Sc (d - 1) mX6_error [.ref 0, .int 2] t21 (fun w t52 => ∃ r52 : Int32, w = some (.int r52) ∧
                  K (some (.long (Int32.toInt64 r52))) t52
                )
              ))
            ) ∧
            (v1 = 1 →
              sk_C sk_Sc (d - 1) mJ13_bitCount_95d88 [.long r21] t21 (fun w t37 => ∃ r37 : Int32, w = some (.int r37) ∧
                K (some (.long (Int32.toInt64 r37))) t37
              )
            ))
          ) ∧
          (v1 = 0 →
            K (some (.long r21)) t21
          ))
        )
      ) ∧
      (¬ v1 ≤ 2 →
        sk_C sk_Sc (d - 1) mX6_error [.ref 0, .int 1] τ (fun w t11 => ∃ r11 : Int32, w = some (.int r11) ∧
          K (some (.long (Int32.toInt64 r11))) t11
        )
      ))
    ))) :
  sk_C sk_Sc d mX6_dry [.ref 0, .int v1] τ K := by
  refine sk_enter mfX6_dry (Nat.le_of_ble_eq_true rfl) ?_
  show sk_G sk_Sc d mX6_dry 0 [(0, .ref 0), (1, .int v1)] [] τ K
  refine sk_iload_n 1 1 dX6_dry_0 rfl rfl rfl ?_
  refine sk_if_lt 9 4 dX6_dry_1 (by decide) rfl (fun hc => ?_) (fun hc => ?_)
  · have h := h.1 hc
    refine sk_aload_n 0 10 dX6_dry_9 rfl rfl rfl ?_
    refine sk_iconst (v := 1) 11 dX6_dry_10 rfl (by decide) ?_
    refine sk_callVi [.int 1] [] 14 dX6_dry_11 rfl mfX6_error lkX6_58 miX6_error msX6_error sc_0 rfl rfl rfl rfl (by simp [Value.category]) hd0 (sk_Cm h ?_)
    rintro w t11 ⟨r11, hw, h⟩
    refine ⟨r11, hw, ?_⟩
    refine sk_i2l 15 dX6_dry_14 rfl ?_
    exact sk_lret dX6_dry_15 rfl h
  · have h := h.2 hc
    refine sk_iload_n 1 5 dX6_dry_4 rfl rfl rfl ?_
    refine sk_iconst (v := 2) 6 dX6_dry_5 rfl (by decide) ?_
    refine sk_icmp_le 16 9 dX6_dry_6 (by decide) rfl (fun hc => ?_) (fun hc => ?_)
    · have h := h.1 hc
      refine sk_aload_n 0 17 dX6_dry_16 rfl rfl rfl ?_
      refine sk_getR (r := 1) 20 dX6_dry_17 rfl lfX6_12 sc_0 rfl ?_
      refine sk_iconst (v := 0) 21 dX6_dry_20 rfl (by decide) ?_
      refine sk_callVl [.int 0] [] 24 dX6_dry_21 rfl mfX3_dryBut lkX6_121 miX3_dryBut msX3_dryBut sc_1 rfl rfl rfl rfl (by simp [Value.category]) hd0 (sk_Cm h ?_)
      rintro w t21 ⟨r21, hw, h⟩
      refine ⟨r21, hw, ?_⟩
      refine sk_lstore_n (lv2 := [(2, .long r21), (0, .ref 0), (1, .int v1)]) 25 dX6_dry_24 rfl rfl (by decide) rfl ?_
      refine sk_iload_n 2 26 dX6_dry_25 rfl rfl rfl ?_
      refine sk_if_ne 31 29 dX6_dry_26 (by decide) rfl (fun hc => ?_) (fun hc => ?_)
      · have h := h.1 hc
        refine sk_iload_n 2 32 dX6_dry_31 rfl rfl rfl ?_
        refine sk_iconst (v := 1) 33 dX6_dry_32 rfl (by decide) ?_
        refine sk_icmp_ne 42 36 dX6_dry_33 (by decide) rfl (fun hc => ?_) (fun hc => ?_)
        · have h := h.1 hc
          refine sk_lload_n 0 43 dX6_dry_42 rfl rfl rfl ?_
          refine sk_ldc2 46 dX6_dry_43 rfl klX6_201 ?_
          refine sk_lcmp 47 dX6_dry_46 rfl ?_
          refine sk_if_ne 59 50 dX6_dry_47 (by decide) rfl (fun hc => ?_) (fun hc => ?_)
          · have h := h.1 hc
            refine sk_lload_n 0 60 dX6_dry_59 rfl rfl rfl ?_
            refine sk_ldc2 63 dX6_dry_60 rfl klX6_203 ?_
            refine sk_lxor 64 dX6_dry_63 rfl ?_
            refine sk_callSi [.long (r21 ^^^ (-1))] [] 67 dX6_dry_64 rfl mfJ13_numberOfTrailingZeros_95d88 lkX6_205 miJ13_numberOfTrailingZeros_95d88 rfl rfl (by simp [Value.category]) hd0 (sk_Cm h ?_)
            rintro w t64 ⟨r64, hw, h⟩
            refine ⟨r64, hw, ?_⟩
            refine sk_i2l 68 dX6_dry_67 rfl ?_
            exact sk_lret dX6_dry_68 rfl h
          · have h := h.2 hc
            refine sk_aload_n 1 51 dX6_dry_50 rfl rfl rfl ?_
            refine sk_iconst (v := 2) 52 dX6_dry_51 rfl (by decide) ?_
            refine sk_callVi [.int 2] [] 55 dX6_dry_52 rfl mfX6_error lkX6_58 miX6_error msX6_error sc_0 rfl rfl rfl rfl (by simp [Value.category]) hd0 (sk_Cm h ?_)
            rintro w t52 ⟨r52, hw, h⟩
            refine ⟨r52, hw, ?_⟩
            refine sk_i2l 56 dX6_dry_55 rfl ?_
            refine sk_goto 68 dX6_dry_56 (by decide) ?_
            exact sk_lret dX6_dry_68 rfl h
        · have h := h.2 hc
          refine sk_lload_n 0 37 dX6_dry_36 rfl rfl rfl ?_
          refine sk_callSi [.long r21] [] 40 dX6_dry_37 rfl mfJ13_bitCount_95d88 lkX6_125 miJ13_bitCount_95d88 rfl rfl (by simp [Value.category]) hd0 (sk_Cm h ?_)
          rintro w t37 ⟨r37, hw, h⟩
          refine ⟨r37, hw, ?_⟩
          refine sk_i2l 41 dX6_dry_40 rfl ?_
          exact sk_lret dX6_dry_41 rfl h
      · have h := h.2 hc
        refine sk_lload_n 0 30 dX6_dry_29 rfl rfl rfl ?_
        exact sk_lret dX6_dry_30 rfl h
    · have h := h.2 hc
      refine sk_aload_n 0 10 dX6_dry_9 rfl rfl rfl ?_
      refine sk_iconst (v := 1) 11 dX6_dry_10 rfl (by decide) ?_
      refine sk_callVi [.int 1] [] 14 dX6_dry_11 rfl mfX6_error lkX6_58 miX6_error msX6_error sc_0 rfl rfl rfl rfl (by simp [Value.category]) hd0 (sk_Cm h ?_)
      rintro w t11 ⟨r11, hw, h⟩
      refine ⟨r11, hw, ?_⟩
      refine sk_i2l 15 dX6_dry_14 rfl ?_
      exact sk_lret dX6_dry_15 rfl h

theorem wX6_over {d : Nat} {τ : sk_T} {K : sk_K} {v1 : Int32} {v2 : Int32} (hd0 : 0 < d)
  (h : sk_C sk_Sc (d - 1) mX6_isCell [.int v1] τ (fun w t1 => ∃ r1 : Int32, w = some (.int r1) ∧
      ((r1 = 0 →
        sk_C sk_Sc (d - 1) mX6_error [.ref 0, .int 1] t1 (fun w t16 => ∃ r16 : Int32, w = some (.int r16) ∧
          K (some (.int r16)) t16
        )
      ) ∧
      (¬ r1 = 0 →
        sk_C sk_Sc (d - 1) mX6_isBit [.int v2] t1 (fun w t8 => ∃ r8 : Int32, w = some (.int r8) ∧
          ((¬ r8 = 0 →
            sk_C sk_Sc (d - 1) mX3_lyingOver [.ref 1, .int v1] t8 (fun w t25 => ∃ r25 : Int32, w = some (.int r25) ∧
              ((¬ v2 = 0 →
                sk_C sk_Sc (d - 1) mX3_toComeTo [.ref 1, .int r25] t25 (fun w t42 => ∃ r42 : Int32, w = some (.int r42) ∧
                  K (some (.int r42)) t42
                )
              ) ∧
              (v2 = 0 →
                K (some (.int r25)) t25
              ))
            )
          ) ∧
          (r8 = 0 →
            sk_C sk_Sc (d - 1) mX6_error [.ref 0, .int 1] t8 (fun w t16 => ∃ r16 : Int32, w = some (.int r16) ∧
              K (some (.int r16)) t16
            )
          ))
        )
      ))
    )) :
  sk_C sk_Sc d mX6_over [.ref 0, .int v1, .int v2] τ K := by
  refine sk_enter mfX6_over (Nat.le_of_ble_eq_true rfl) ?_
  show sk_G sk_Sc d mX6_over 0 [(0, .ref 0), (1, .int v1), (2, .int v2)] [] τ K
  refine sk_iload_n 1 1 dX6_over_0 rfl rfl rfl ?_
  refine sk_callSi [.int v1] [] 4 dX6_over_1 rfl mfX6_isCell lkX6_208 miX6_isCell rfl rfl (by simp [Value.category]) hd0 (sk_Cm h ?_)
  rintro w t1 ⟨r1, hw, h⟩
  refine ⟨r1, hw, ?_⟩
  refine sk_if_eq 14 7 dX6_over_4 (by decide) rfl (fun hc => ?_) (fun hc => ?_)
  · have h := h.1 hc
    refine sk_aload_n 0 15 dX6_over_14 rfl rfl rfl ?_
    refine sk_iconst (v := 1) 16 dX6_over_15 rfl (by decide) ?_
    refine sk_callVi [.int 1] [] 19 dX6_over_16 rfl mfX6_error lkX6_58 miX6_error msX6_error sc_0 rfl rfl rfl rfl (by simp [Value.category]) hd0 (sk_Cm h ?_)
    rintro w t16 ⟨r16, hw, h⟩
    refine ⟨r16, hw, ?_⟩
    exact sk_iret dX6_over_19 rfl rfl h
  · have h := h.2 hc
    refine sk_iload_n 2 8 dX6_over_7 rfl rfl rfl ?_
    refine sk_callSi [.int v2] [] 11 dX6_over_8 rfl mfX6_isBit lkX6_135 miX6_isBit rfl rfl (by simp [Value.category]) hd0 (sk_Cm h ?_)
    rintro w t8 ⟨r8, hw, h⟩
    refine ⟨r8, hw, ?_⟩
    refine sk_if_ne 20 14 dX6_over_11 (by decide) rfl (fun hc => ?_) (fun hc => ?_)
    · have h := h.1 hc
      refine sk_aload_n 0 21 dX6_over_20 rfl rfl rfl ?_
      refine sk_getR (r := 1) 24 dX6_over_21 rfl lfX6_12 sc_0 rfl ?_
      refine sk_iload_n 1 25 dX6_over_24 rfl rfl rfl ?_
      refine sk_callVi [.int v1] [] 28 dX6_over_25 rfl mfX3_lyingOver lkX6_211 miX3_lyingOver msX3_lyingOver sc_1 rfl rfl rfl rfl (by simp [Value.category]) hd0 (sk_Cm h ?_)
      rintro w t25 ⟨r25, hw, h⟩
      refine ⟨r25, hw, ?_⟩
      refine sk_istore_n (lv2 := [(3, .int r25), (0, .ref 0), (1, .int v1), (2, .int v2)]) 29 dX6_over_28 rfl rfl (by decide) rfl ?_
      refine sk_iload_n 3 30 dX6_over_29 rfl rfl rfl ?_
      refine sk_if_ne 37 33 dX6_over_30 (by decide) rfl (fun hc => ?_) (fun hc => ?_)
      · have h := h.1 hc
        refine sk_aload_n 1 38 dX6_over_37 rfl rfl rfl ?_
        refine sk_getR (r := 1) 41 dX6_over_38 rfl lfX6_12 sc_0 rfl ?_
        refine sk_iload_n 0 42 dX6_over_41 rfl rfl rfl ?_
        refine sk_callVi [.int r25] [] 45 dX6_over_42 rfl mfX3_toComeTo lkX6_214 miX3_toComeTo msX3_toComeTo sc_1 rfl rfl rfl rfl (by simp [Value.category]) hd0 (sk_Cm h ?_)
        rintro w t42 ⟨r42, hw, h⟩
        refine ⟨r42, hw, ?_⟩
        exact sk_iret dX6_over_45 rfl rfl h
      · have h := h.2 hc
        refine sk_iload_n 0 34 dX6_over_33 rfl rfl rfl ?_
        refine sk_goto 45 dX6_over_34 (by decide) ?_
        exact sk_iret dX6_over_45 rfl rfl h
    · have h := h.2 hc
      refine sk_aload_n 0 15 dX6_over_14 rfl rfl rfl ?_
      refine sk_iconst (v := 1) 16 dX6_over_15 rfl (by decide) ?_
      refine sk_callVi [.int 1] [] 19 dX6_over_16 rfl mfX6_error lkX6_58 miX6_error msX6_error sc_0 rfl rfl rfl rfl (by simp [Value.category]) hd0 (sk_Cm h ?_)
      rintro w t16 ⟨r16, hw, h⟩
      refine ⟨r16, hw, ?_⟩
      exact sk_iret dX6_over_19 rfl rfl h

theorem wX6_lifts {d : Nat} {τ : sk_T} {K : sk_K} {v1 : Int32} {v2 : Int32} (hd0 : 0 < d)
  (h : sk_C sk_Sc (d - 1) mX6_isGale [.int v1] τ (fun w t1 => ∃ r1 : Int32, w = some (.int r1) ∧
      ((r1 = 0 →
        sk_C sk_Sc (d - 1) mX6_error [.ref 0, .int 1] t1 (fun w t16 => ∃ r16 : Int32, w = some (.int r16) ∧
          K (some (.int r16)) t16
        )
      ) ∧
      (¬ r1 = 0 →
        sk_C sk_Sc (d - 1) mX6_isBit [.int v2] t1 (fun w t8 => ∃ r8 : Int32, w = some (.int r8) ∧
          ((¬ r8 = 0 →
            sk_C sk_Sc (d - 1) mX3_blown [.ref 1, .int v1] t8 (fun w t25 => ∃ r25 : Int32, w = some (.int r25) ∧
              ((¬ v2 = 0 →
                sk_C sk_Sc (d - 1) mX3_dryBut [.ref 1, .int r25] t25 (fun w t42 => ∃ r42 : Int64, w = some (.long r42) ∧
                  sk_C sk_Sc (d - 1) mJ13_bitCount_95d88 [.long r42] t42 (fun w t45 => ∃ r45 : Int32, w = some (.int r45) ∧
                    K (some (.int r45)) t45
                  )
                )
              ) ∧
              (v2 = 0 →
                K (some (.int r25)) t25
              ))
            )
          ) ∧
          (r8 = 0 →
            sk_C sk_Sc (d - 1) mX6_error [.ref 0, .int 1] t8 (fun w t16 => ∃ r16 : Int32, w = some (.int r16) ∧
              K (some (.int r16)) t16
            )
          ))
        )
      ))
    )) :
  sk_C sk_Sc d mX6_lifts [.ref 0, .int v1, .int v2] τ K := by
  refine sk_enter mfX6_lifts (Nat.le_of_ble_eq_true rfl) ?_
  show sk_G sk_Sc d mX6_lifts 0 [(0, .ref 0), (1, .int v1), (2, .int v2)] [] τ K
  refine sk_iload_n 1 1 dX6_lifts_0 rfl rfl rfl ?_
  refine sk_callSi [.int v1] [] 4 dX6_lifts_1 rfl mfX6_isGale lkX6_177 miX6_isGale rfl rfl (by simp [Value.category]) hd0 (sk_Cm h ?_)
  rintro w t1 ⟨r1, hw, h⟩
  refine ⟨r1, hw, ?_⟩
  refine sk_if_eq 14 7 dX6_lifts_4 (by decide) rfl (fun hc => ?_) (fun hc => ?_)
  · have h := h.1 hc
    refine sk_aload_n 0 15 dX6_lifts_14 rfl rfl rfl ?_
    refine sk_iconst (v := 1) 16 dX6_lifts_15 rfl (by decide) ?_
    refine sk_callVi [.int 1] [] 19 dX6_lifts_16 rfl mfX6_error lkX6_58 miX6_error msX6_error sc_0 rfl rfl rfl rfl (by simp [Value.category]) hd0 (sk_Cm h ?_)
    rintro w t16 ⟨r16, hw, h⟩
    refine ⟨r16, hw, ?_⟩
    exact sk_iret dX6_lifts_19 rfl rfl h
  · have h := h.2 hc
    refine sk_iload_n 2 8 dX6_lifts_7 rfl rfl rfl ?_
    refine sk_callSi [.int v2] [] 11 dX6_lifts_8 rfl mfX6_isBit lkX6_135 miX6_isBit rfl rfl (by simp [Value.category]) hd0 (sk_Cm h ?_)
    rintro w t8 ⟨r8, hw, h⟩
    refine ⟨r8, hw, ?_⟩
    refine sk_if_ne 20 14 dX6_lifts_11 (by decide) rfl (fun hc => ?_) (fun hc => ?_)
    · have h := h.1 hc
      refine sk_aload_n 0 21 dX6_lifts_20 rfl rfl rfl ?_
      refine sk_getR (r := 1) 24 dX6_lifts_21 rfl lfX6_12 sc_0 rfl ?_
      refine sk_iload_n 1 25 dX6_lifts_24 rfl rfl rfl ?_
      refine sk_callVi [.int v1] [] 28 dX6_lifts_25 rfl mfX3_blown lkX6_180 miX3_blown msX3_blown sc_1 rfl rfl rfl rfl (by simp [Value.category]) hd0 (sk_Cm h ?_)
      rintro w t25 ⟨r25, hw, h⟩
      refine ⟨r25, hw, ?_⟩
      refine sk_istore_n (lv2 := [(3, .int r25), (0, .ref 0), (1, .int v1), (2, .int v2)]) 29 dX6_lifts_28 rfl rfl (by decide) rfl ?_
      refine sk_iload_n 3 30 dX6_lifts_29 rfl rfl rfl ?_
      refine sk_if_ne 37 33 dX6_lifts_30 (by decide) rfl (fun hc => ?_) (fun hc => ?_)
      · have h := h.1 hc
        refine sk_aload_n 1 38 dX6_lifts_37 rfl rfl rfl ?_
        refine sk_getR (r := 1) 41 dX6_lifts_38 rfl lfX6_12 sc_0 rfl ?_
        refine sk_iload_n 0 42 dX6_lifts_41 rfl rfl rfl ?_
        refine sk_callVl [.int r25] [] 45 dX6_lifts_42 rfl mfX3_dryBut lkX6_121 miX3_dryBut msX3_dryBut sc_1 rfl rfl rfl rfl (by simp [Value.category]) hd0 (sk_Cm h ?_)
        rintro w t42 ⟨r42, hw, h⟩
        refine ⟨r42, hw, ?_⟩
        refine sk_callSi [.long r42] [] 48 dX6_lifts_45 rfl mfJ13_bitCount_95d88 lkX6_125 miJ13_bitCount_95d88 rfl rfl (by simp [Value.category]) hd0 (sk_Cm h ?_)
        rintro w t45 ⟨r45, hw, h⟩
        refine ⟨r45, hw, ?_⟩
        exact sk_iret dX6_lifts_48 rfl rfl h
      · have h := h.2 hc
        refine sk_iload_n 0 34 dX6_lifts_33 rfl rfl rfl ?_
        refine sk_goto 48 dX6_lifts_34 (by decide) ?_
        exact sk_iret dX6_lifts_48 rfl rfl h
    · have h := h.2 hc
      refine sk_aload_n 0 15 dX6_lifts_14 rfl rfl rfl ?_
      refine sk_iconst (v := 1) 16 dX6_lifts_15 rfl (by decide) ?_
      refine sk_callVi [.int 1] [] 19 dX6_lifts_16 rfl mfX6_error lkX6_58 miX6_error msX6_error sc_0 rfl rfl rfl rfl (by simp [Value.category]) hd0 (sk_Cm h ?_)
      rintro w t16 ⟨r16, hw, h⟩
      refine ⟨r16, hw, ?_⟩
      exact sk_iret dX6_lifts_19 rfl rfl h

theorem wX6_fast {d : Nat} {τ : sk_T} {K : sk_K} {v1 : Int32} {v2 : Int32} (hd0 : 0 < d)
  (h : sk_C sk_Sc (d - 1) mX6_isGale [.int v1] τ (fun w t1 => ∃ r1 : Int32, w = some (.int r1) ∧
      ((r1 = 0 →
        sk_C sk_Sc (d - 1) mX6_error [.ref 0, .int 1] t1 (fun w t16 => ∃ r16 : Int32, w = some (.int r16) ∧
          K (some (.int r16)) t16
        )
      ) ∧
      (¬ r1 = 0 →
        sk_C sk_Sc (d - 1) mX6_isBit [.int v2] t1 (fun w t8 => ∃ r8 : Int32, w = some (.int r8) ∧
          ((¬ r8 = 0 →
            sk_C sk_Sc (d - 1) mX3_mustBeFast [.ref 1, .int v1] t8 (fun w t25 => ∃ r25 : Int32, w = some (.int r25) ∧
              ((¬ v2 = 0 →
                K (some (.int r25)) t25
              ) ∧
              (v2 = 0 →
                sk_C sk_Sc (d - 1) mJ6_bitCount_0f7a4 [.int r25] t25 (fun w t34 => ∃ r34 : Int32, w = some (.int r34) ∧
                  K (some (.int r34)) t34
                )
              ))
            )
          ) ∧
          (r8 = 0 →
            sk_C sk_Sc (d - 1) mX6_error [.ref 0, .int 1] t8 (fun w t16 => ∃ r16 : Int32, w = some (.int r16) ∧
              K (some (.int r16)) t16
            )
          ))
        )
      ))
    )) :
  sk_C sk_Sc d mX6_fast [.ref 0, .int v1, .int v2] τ K := by
  refine sk_enter mfX6_fast (Nat.le_of_ble_eq_true rfl) ?_
  show sk_G sk_Sc d mX6_fast 0 [(0, .ref 0), (1, .int v1), (2, .int v2)] [] τ K
  refine sk_iload_n 1 1 dX6_fast_0 rfl rfl rfl ?_
  refine sk_callSi [.int v1] [] 4 dX6_fast_1 rfl mfX6_isGale lkX6_177 miX6_isGale rfl rfl (by simp [Value.category]) hd0 (sk_Cm h ?_)
  rintro w t1 ⟨r1, hw, h⟩
  refine ⟨r1, hw, ?_⟩
  refine sk_if_eq 14 7 dX6_fast_4 (by decide) rfl (fun hc => ?_) (fun hc => ?_)
  · have h := h.1 hc
    refine sk_aload_n 0 15 dX6_fast_14 rfl rfl rfl ?_
    refine sk_iconst (v := 1) 16 dX6_fast_15 rfl (by decide) ?_
    refine sk_callVi [.int 1] [] 19 dX6_fast_16 rfl mfX6_error lkX6_58 miX6_error msX6_error sc_0 rfl rfl rfl rfl (by simp [Value.category]) hd0 (sk_Cm h ?_)
    rintro w t16 ⟨r16, hw, h⟩
    refine ⟨r16, hw, ?_⟩
    exact sk_iret dX6_fast_19 rfl rfl h
  · have h := h.2 hc
    refine sk_iload_n 2 8 dX6_fast_7 rfl rfl rfl ?_
    refine sk_callSi [.int v2] [] 11 dX6_fast_8 rfl mfX6_isBit lkX6_135 miX6_isBit rfl rfl (by simp [Value.category]) hd0 (sk_Cm h ?_)
    rintro w t8 ⟨r8, hw, h⟩
    refine ⟨r8, hw, ?_⟩
    refine sk_if_ne 20 14 dX6_fast_11 (by decide) rfl (fun hc => ?_) (fun hc => ?_)
    · have h := h.1 hc
      refine sk_aload_n 0 21 dX6_fast_20 rfl rfl rfl ?_
      refine sk_getR (r := 1) 24 dX6_fast_21 rfl lfX6_12 sc_0 rfl ?_
      refine sk_iload_n 1 25 dX6_fast_24 rfl rfl rfl ?_
      refine sk_callVi [.int v1] [] 28 dX6_fast_25 rfl mfX3_mustBeFast lkX6_217 miX3_mustBeFast msX3_mustBeFast sc_1 rfl rfl rfl rfl (by simp [Value.category]) hd0 (sk_Cm h ?_)
      rintro w t25 ⟨r25, hw, h⟩
      refine ⟨r25, hw, ?_⟩
      refine sk_istore_n (lv2 := [(3, .int r25), (0, .ref 0), (1, .int v1), (2, .int v2)]) 29 dX6_fast_28 rfl rfl (by decide) rfl ?_
      refine sk_iload_n 3 30 dX6_fast_29 rfl rfl rfl ?_
      refine sk_if_ne 40 33 dX6_fast_30 (by decide) rfl (fun hc => ?_) (fun hc => ?_)
      · have h := h.1 hc
        refine sk_iload_n 0 41 dX6_fast_40 rfl rfl rfl ?_
        exact sk_iret dX6_fast_41 rfl rfl h
      · have h := h.2 hc
        refine sk_iload_n 0 34 dX6_fast_33 rfl rfl rfl ?_
        refine sk_callSi [.int r25] [] 37 dX6_fast_34 rfl mfJ6_bitCount_0f7a4 lkX6_220 miJ6_bitCount_0f7a4 rfl rfl (by simp [Value.category]) hd0 (sk_Cm h ?_)
        rintro w t34 ⟨r34, hw, h⟩
        refine ⟨r34, hw, ?_⟩
        refine sk_goto 41 dX6_fast_37 (by decide) ?_
        exact sk_iret dX6_fast_41 rfl rfl h
    · have h := h.2 hc
      refine sk_aload_n 0 15 dX6_fast_14 rfl rfl rfl ?_
      refine sk_iconst (v := 1) 16 dX6_fast_15 rfl (by decide) ?_
      refine sk_callVi [.int 1] [] 19 dX6_fast_16 rfl mfX6_error lkX6_58 miX6_error msX6_error sc_0 rfl rfl rfl rfl (by simp [Value.category]) hd0 (sk_Cm h ?_)
      rintro w t16 ⟨r16, hw, h⟩
      refine ⟨r16, hw, ?_⟩
      exact sk_iret dX6_fast_19 rfl rfl h

theorem wX6_best {d : Nat} {τ : sk_T} {K : sk_K} {v1 : Int32} {v2 : Int32} (hd0 : 0 < d)
  (h : sk_C sk_Sc (d - 1) mX6_isSlate [.ref 0, .int v1] τ (fun w t2 => ∃ r2 : Int32, w = some (.int r2) ∧
      ((r2 = 0 →
        sk_C sk_Sc (d - 1) mX6_error [.ref 0, .int 1] t2 (fun w t17 => ∃ r17 : Int32, w = some (.int r17) ∧
          K (some (.int r17)) t17
        )
      ) ∧
      (¬ r2 = 0 →
        sk_C sk_Sc (d - 1) mX6_isBit [.int v2] t2 (fun w t9 => ∃ r9 : Int32, w = some (.int r9) ∧
          ((¬ r9 = 0 →
            sk_C sk_Sc (d - 1) mX3_bestCell [.ref 1, .int v1] t9 (fun w t26 => ∃ r26 : Int32, w = some (.int r26) ∧
              ((0 ≤ r26 →
                ((¬ v2 = 0 →
                  sk_C sk_Sc (d - 1) mX3_dryWith [.ref 1, .int v1, .int r26] t26 (fun w t54 => ∃ r54 : Int32, w = some (.int r54) ∧
                    K (some (.int r54)) t54
                  )
                ) ∧
                (v2 = 0 →
                  K (some (.int r26)) t26
                ))
              ) ∧
              (¬ 0 ≤ r26 →
                sk_C sk_Sc (d - 1) mX6_error [.ref 0, .int 2] t26 (fun w t36 => ∃ r36 : Int32, w = some (.int r36) ∧
                  K (some (.int r36)) t36
                )
              ))
            )
          ) ∧
          (r9 = 0 →
            sk_C sk_Sc (d - 1) mX6_error [.ref 0, .int 1] t9 (fun w t17 => ∃ r17 : Int32, w = some (.int r17) ∧
              K (some (.int r17)) t17
            )
          ))
        )
      ))
    )) :
  sk_C sk_Sc d mX6_best [.ref 0, .int v1, .int v2] τ K := by
  refine sk_enter mfX6_best (Nat.le_of_ble_eq_true rfl) ?_
  show sk_G sk_Sc d mX6_best 0 [(0, .ref 0), (1, .int v1), (2, .int v2)] [] τ K
  refine sk_aload_n 0 1 dX6_best_0 rfl rfl rfl ?_
  refine sk_iload_n 1 2 dX6_best_1 rfl rfl rfl ?_
  refine sk_callVi [.int v1] [] 5 dX6_best_2 rfl mfX6_isSlate lkX6_72 miX6_isSlate msX6_isSlate sc_0 rfl rfl rfl rfl (by simp [Value.category]) hd0 (sk_Cm h ?_)
  rintro w t2 ⟨r2, hw, h⟩
  refine ⟨r2, hw, ?_⟩
  refine sk_if_eq 15 8 dX6_best_5 (by decide) rfl (fun hc => ?_) (fun hc => ?_)
  · have h := h.1 hc
    refine sk_aload_n 0 16 dX6_best_15 rfl rfl rfl ?_
    refine sk_iconst (v := 1) 17 dX6_best_16 rfl (by decide) ?_
    refine sk_callVi [.int 1] [] 20 dX6_best_17 rfl mfX6_error lkX6_58 miX6_error msX6_error sc_0 rfl rfl rfl rfl (by simp [Value.category]) hd0 (sk_Cm h ?_)
    rintro w t17 ⟨r17, hw, h⟩
    refine ⟨r17, hw, ?_⟩
    exact sk_iret dX6_best_20 rfl rfl h
  · have h := h.2 hc
    refine sk_iload_n 2 9 dX6_best_8 rfl rfl rfl ?_
    refine sk_callSi [.int v2] [] 12 dX6_best_9 rfl mfX6_isBit lkX6_135 miX6_isBit rfl rfl (by simp [Value.category]) hd0 (sk_Cm h ?_)
    rintro w t9 ⟨r9, hw, h⟩
    refine ⟨r9, hw, ?_⟩
    refine sk_if_ne 21 15 dX6_best_12 (by decide) rfl (fun hc => ?_) (fun hc => ?_)
    · have h := h.1 hc
      refine sk_aload_n 0 22 dX6_best_21 rfl rfl rfl ?_
      refine sk_getR (r := 1) 25 dX6_best_22 rfl lfX6_12 sc_0 rfl ?_
      refine sk_iload_n 1 26 dX6_best_25 rfl rfl rfl ?_
      refine sk_callVi [.int v1] [] 29 dX6_best_26 rfl mfX3_bestCell lkX6_224 miX3_bestCell msX3_bestCell sc_1 rfl rfl rfl rfl (by simp [Value.category]) hd0 (sk_Cm h ?_)
      rintro w t26 ⟨r26, hw, h⟩
      refine ⟨r26, hw, ?_⟩
      refine sk_istore_n (lv2 := [(3, .int r26), (0, .ref 0), (1, .int v1), (2, .int v2)]) 30 dX6_best_29 rfl rfl (by decide) rfl ?_
      refine sk_iload_n 0 31 dX6_best_30 rfl rfl rfl ?_
      refine sk_if_ge 40 34 dX6_best_31 (by decide) rfl (fun hc => ?_) (fun hc => ?_)
      · have h := h.1 hc
        refine sk_iload_n 3 41 dX6_best_40 rfl rfl rfl ?_
        refine sk_if_ne 48 44 dX6_best_41 (by decide) rfl (fun hc => ?_) (fun hc => ?_)
        · have h := h.1 hc
          refine sk_aload_n 1 49 dX6_best_48 rfl rfl rfl ?_
          refine sk_getR (r := 1) 52 dX6_best_49 rfl lfX6_12 sc_0 rfl ?_
          refine sk_iload_n 2 53 dX6_best_52 rfl rfl rfl ?_
          refine sk_iload_n 0 54 dX6_best_53 rfl rfl rfl ?_
          refine sk_callVi [.int v1, .int r26] [] 57 dX6_best_54 rfl mfX3_dryWith lkX6_227 miX3_dryWith msX3_dryWith sc_1 rfl rfl rfl rfl (by simp [Value.category]) hd0 (sk_Cm h ?_)
          rintro w t54 ⟨r54, hw, h⟩
          refine ⟨r54, hw, ?_⟩
          exact sk_iret dX6_best_57 rfl rfl h
        · have h := h.2 hc
          refine sk_iload_n 0 45 dX6_best_44 rfl rfl rfl ?_
          refine sk_goto 57 dX6_best_45 (by decide) ?_
          exact sk_iret dX6_best_57 rfl rfl h
      · have h := h.2 hc
        refine sk_aload_n 1 35 dX6_best_34 rfl rfl rfl ?_
        refine sk_iconst (v := 2) 36 dX6_best_35 rfl (by decide) ?_
        refine sk_callVi [.int 2] [] 39 dX6_best_36 rfl mfX6_error lkX6_58 miX6_error msX6_error sc_0 rfl rfl rfl rfl (by simp [Value.category]) hd0 (sk_Cm h ?_)
        rintro w t36 ⟨r36, hw, h⟩
        refine ⟨r36, hw, ?_⟩
        exact sk_iret dX6_best_39 rfl rfl h
    · have h := h.2 hc
      refine sk_aload_n 0 16 dX6_best_15 rfl rfl rfl ?_
      refine sk_iconst (v := 1) 17 dX6_best_16 rfl (by decide) ?_
      refine sk_callVi [.int 1] [] 20 dX6_best_17 rfl mfX6_error lkX6_58 miX6_error msX6_error sc_0 rfl rfl rfl rfl (by simp [Value.category]) hd0 (sk_Cm h ?_)
      rintro w t17 ⟨r17, hw, h⟩
      refine ⟨r17, hw, ?_⟩
      exact sk_iret dX6_best_20 rfl rfl h

theorem wX6_rings {d : Nat} {τ : sk_T} {K : sk_K} (hd0 : 0 < d)
  (h : sk_C sk_Sc (d - 1) mX3_ringing [.ref 1] τ (fun w t4 => ∃ r4 : Int32, w = some (.int r4) ∧
      K (some (.int r4)) t4
    )) :
  sk_C sk_Sc d mX6_rings [.ref 0] τ K := by
  refine sk_enter mfX6_rings (Nat.le_of_ble_eq_true rfl) ?_
  show sk_G sk_Sc d mX6_rings 0 [(0, .ref 0)] [] τ K
  refine sk_aload_n 0 1 dX6_rings_0 rfl rfl rfl ?_
  refine sk_getR (r := 1) 4 dX6_rings_1 rfl lfX6_12 sc_0 rfl ?_
  refine sk_callVi [] [] 7 dX6_rings_4 rfl mfX3_ringing lkX6_230 miX3_ringing msX3_ringing sc_1 rfl rfl rfl rfl (by simp [Value.category]) hd0 (sk_Cm h ?_)
  rintro w t4 ⟨r4, hw, h⟩
  refine ⟨r4, hw, ?_⟩
  exact sk_iret dX6_rings_7 rfl rfl h

theorem wX6_odds {d : Nat} {τ : sk_T} {K : sk_K} {v1 : Int32} {v2 : Int32} (hd0 : 0 < d)
  (h : sk_C sk_Sc (d - 1) mX6_isCell [.int v1] τ (fun w t1 => ∃ r1 : Int32, w = some (.int r1) ∧
      ((r1 = 0 →
        sk_C sk_Sc (d - 1) mX6_error [.ref 0, .int 1] t1 (fun w t16 => ∃ r16 : Int32, w = some (.int r16) ∧
          K (some (.int r16)) t16
        )
      ) ∧
      (¬ r1 = 0 →
        sk_C sk_Sc (d - 1) mX6_isBit [.int v2] t1 (fun w t8 => ∃ r8 : Int32, w = some (.int r8) ∧
          ((¬ r8 = 0 →
            sk_G sk_Sc d mX6_odds 25 [(0, .ref 0), (1, .int v1), (2, .int v2), (3, .int 0), (4, .int 0)] [] t8 K
          ) ∧
          (r8 = 0 →
            sk_C sk_Sc (d - 1) mX6_error [.ref 0, .int 1] t8 (fun w t16 => ∃ r16 : Int32, w = some (.int r16) ∧
              K (some (.int r16)) t16
            )
          ))
        )
      ))
    )) :
  sk_C sk_Sc d mX6_odds [.ref 0, .int v1, .int v2] τ K := by
  refine sk_enter mfX6_odds (Nat.le_of_ble_eq_true rfl) ?_
  show sk_G sk_Sc d mX6_odds 0 [(0, .ref 0), (1, .int v1), (2, .int v2)] [] τ K
  refine sk_iload_n 1 1 dX6_odds_0 rfl rfl rfl ?_
  refine sk_callSi [.int v1] [] 4 dX6_odds_1 rfl mfX6_isCell lkX6_208 miX6_isCell rfl rfl (by simp [Value.category]) hd0 (sk_Cm h ?_)
  rintro w t1 ⟨r1, hw, h⟩
  refine ⟨r1, hw, ?_⟩
  refine sk_if_eq 14 7 dX6_odds_4 (by decide) rfl (fun hc => ?_) (fun hc => ?_)
  · have h := h.1 hc
    refine sk_aload_n 0 15 dX6_odds_14 rfl rfl rfl ?_
    refine sk_iconst (v := 1) 16 dX6_odds_15 rfl (by decide) ?_
    refine sk_callVi [.int 1] [] 19 dX6_odds_16 rfl mfX6_error lkX6_58 miX6_error msX6_error sc_0 rfl rfl rfl rfl (by simp [Value.category]) hd0 (sk_Cm h ?_)
    rintro w t16 ⟨r16, hw, h⟩
    refine ⟨r16, hw, ?_⟩
    exact sk_iret dX6_odds_19 rfl rfl h
  · have h := h.2 hc
    refine sk_iload_n 2 8 dX6_odds_7 rfl rfl rfl ?_
    refine sk_callSi [.int v2] [] 11 dX6_odds_8 rfl mfX6_isBit lkX6_135 miX6_isBit rfl rfl (by simp [Value.category]) hd0 (sk_Cm h ?_)
    rintro w t8 ⟨r8, hw, h⟩
    refine ⟨r8, hw, ?_⟩
    refine sk_if_ne 20 14 dX6_odds_11 (by decide) rfl (fun hc => ?_) (fun hc => ?_)
    · have h := h.1 hc
      refine sk_iconst (v := 0) 21 dX6_odds_20 rfl (by decide) ?_
      refine sk_istore_n (lv2 := [(3, .int 0), (0, .ref 0), (1, .int v1), (2, .int v2)]) 22 dX6_odds_21 rfl rfl (by decide) rfl ?_
      refine sk_iconst (v := 0) 23 dX6_odds_22 rfl (by decide) ?_
      refine sk_istore (lv2 := [(4, .int 0), (3, .int 0), (0, .ref 0), (1, .int v1), (2, .int v2)]) 25 dX6_odds_23 rfl (by decide) rfl ?_
      refine sk_perm (lv2 := [(0, .ref 0), (1, .int v1), (2, .int v2), (3, .int 0), (4, .int 0)]) [2, 3, 4, 1, 0] rfl ?_
      exact h
    · have h := h.2 hc
      refine sk_aload_n 0 15 dX6_odds_14 rfl rfl rfl ?_
      refine sk_iconst (v := 1) 16 dX6_odds_15 rfl (by decide) ?_
      refine sk_callVi [.int 1] [] 19 dX6_odds_16 rfl mfX6_error lkX6_58 miX6_error msX6_error sc_0 rfl rfl rfl rfl (by simp [Value.category]) hd0 (sk_Cm h ?_)
      rintro w t16 ⟨r16, hw, h⟩
      refine ⟨r16, hw, ?_⟩
      exact sk_iret dX6_odds_19 rfl rfl h

theorem bX6_odds_25 {d : Nat} {τ : sk_T} {K : sk_K} {v1 : Int32} {v2 : Int32} {v3 : Int32} {v4 : Int32} (hd0 : 0 < d)
  (h : ((40 ≤ v4 →
      sk_C sk_Sc (d - 1) mX6_commonDivisor [.int 40, .int v3] τ (fun w t65 => ∃ r65 : Int32, w = some (.int r65) ∧
        ((0 < r65 →
          ((¬ v2 = 0 →
            ¬ r65 = 0 ∧
            K (some (.int (40 / r65))) t65
          ) ∧
          (v2 = 0 →
            ¬ r65 = 0 ∧
            K (some (.int (v3 / r65))) t65
          ))
        ) ∧
        (¬ 0 < r65 →
          K (some (.int 0)) t65
        ))
      )
    ) ∧
    (¬ 40 ≤ v4 →
      sk_C sk_Sc (d - 1) mX3_blown [.ref 1, .int v4] τ (fun w t43 => ∃ r43 : Int32, w = some (.int r43) ∧
        sk_C sk_Sc (d - 1) mX3_dryBut [.ref 1, .int r43] t43 (fun w t46 => ∃ r46 : Int64, w = some (.long r46) ∧
          sk_G sk_Sc d mX6_odds 25 [(0, .ref 0), (1, .int v1), (2, .int v2), (3, .int (v3 + (Int64.toInt32 ((sk_lush r46 v1) &&& 1)))), (4, .int (v4 + 1))] [] t46 K
        )
      )
    ))) :
  sk_G sk_Sc d mX6_odds 25 [(0, .ref 0), (1, .int v1), (2, .int v2), (3, .int v3), (4, .int v4)] [] τ K := by
  refine sk_iload 4 27 dX6_odds_25 rfl rfl ?_
  refine sk_bipush (v := 40) 29 dX6_odds_27 rfl (by decide) ?_
  refine sk_icmp_ge 62 32 dX6_odds_29 (by decide) rfl (fun hc => ?_) (fun hc => ?_)
  · have h := h.1 hc
    refine sk_bipush (v := 40) 64 dX6_odds_62 rfl (by decide) ?_
    refine sk_iload_n 3 65 dX6_odds_64 rfl rfl rfl ?_
    refine sk_callSi [.int 40, .int v3] [] 68 dX6_odds_65 rfl mfX6_commonDivisor lkX6_233 miX6_commonDivisor rfl rfl (by simp [Value.category]) hd0 (sk_Cm h ?_)
    rintro w t65 ⟨r65, hw, h⟩
    refine ⟨r65, hw, ?_⟩
    refine sk_istore (lv2 := [(4, .int r65), (0, .ref 0), (1, .int v1), (2, .int v2), (3, .int v3)]) 70 dX6_odds_68 rfl (by decide) rfl ?_
    refine sk_iload 0 72 dX6_odds_70 rfl rfl ?_
    refine sk_if_gt 77 75 dX6_odds_72 (by decide) rfl (fun hc => ?_) (fun hc => ?_)
    · have h := h.1 hc
      refine sk_iload_n 3 78 dX6_odds_77 rfl rfl rfl ?_
      refine sk_if_ne 85 81 dX6_odds_78 (by decide) rfl (fun hc => ?_) (fun hc => ?_)
      · have h := h.1 hc
        refine sk_bipush (v := 40) 87 dX6_odds_85 rfl (by decide) ?_
        refine sk_iload 0 89 dX6_odds_87 rfl rfl ?_
        have hz89 := h.1
        have h := h.2
        refine sk_idiv 90 dX6_odds_89 rfl hz89 ?_
        exact sk_iret dX6_odds_90 rfl rfl h
      · have h := h.2 hc
        refine sk_iload_n 4 82 dX6_odds_81 rfl rfl rfl ?_
        refine sk_goto 87 dX6_odds_82 (by decide) ?_
        refine sk_iload 0 89 dX6_odds_87 rfl rfl ?_
        have hz89 := h.1
        have h := h.2
        refine sk_idiv 90 dX6_odds_89 rfl hz89 ?_
        exact sk_iret dX6_odds_90 rfl rfl h
    · have h := h.2 hc
      refine sk_iconst (v := 0) 76 dX6_odds_75 rfl (by decide) ?_
      exact sk_iret dX6_odds_76 rfl rfl h
  · have h := h.2 hc
    refine sk_iload_n 3 33 dX6_odds_32 rfl rfl rfl ?_
    refine sk_aload_n 0 34 dX6_odds_33 rfl rfl rfl ?_
    refine sk_getR (r := 1) 37 dX6_odds_34 rfl lfX6_12 sc_0 rfl ?_
    refine sk_aload_n 0 38 dX6_odds_37 rfl rfl rfl ?_
    refine sk_getR (r := 1) 41 dX6_odds_38 rfl lfX6_12 sc_0 rfl ?_
    refine sk_iload 4 43 dX6_odds_41 rfl rfl ?_
    refine sk_callVi [.int v4] [.ref 1, .int v3] 46 dX6_odds_43 rfl mfX3_blown lkX6_180 miX3_blown msX3_blown sc_1 rfl rfl rfl rfl (by simp [Value.category]) hd0 (sk_Cm h ?_)
    rintro w t43 ⟨r43, hw, h⟩
    refine ⟨r43, hw, ?_⟩
    refine sk_callVl [.int r43] [.int v3] 49 dX6_odds_46 rfl mfX3_dryBut lkX6_121 miX3_dryBut msX3_dryBut sc_1 rfl rfl rfl rfl (by simp [Value.category]) hd0 (sk_Cm h ?_)
    rintro w t46 ⟨r46, hw, h⟩
    refine ⟨r46, hw, ?_⟩
    refine sk_iload_n 1 50 dX6_odds_49 rfl rfl rfl ?_
    refine sk_lushr 51 dX6_odds_50 rfl ?_
    refine sk_lconst (v := 1) 52 dX6_odds_51 rfl (by decide) ?_
    refine sk_land 53 dX6_odds_52 rfl ?_
    refine sk_l2i 54 dX6_odds_53 rfl ?_
    refine sk_iadd 55 dX6_odds_54 rfl ?_
    refine sk_istore_n (lv2 := [(3, .int (v3 + (Int64.toInt32 ((sk_lush r46 v1) &&& 1)))), (0, .ref 0), (1, .int v1), (2, .int v2), (4, .int v4)]) 56 dX6_odds_55 rfl rfl (by decide) rfl ?_
    refine sk_iinc (v := (v4 + 1)) (lv2 := [(4, .int (v4 + 1)), (3, .int (v3 + (Int64.toInt32 ((sk_lush r46 v1) &&& 1)))), (0, .ref 0), (1, .int v1), (2, .int v2)]) 4 59 dX6_odds_56 rfl rfl rfl (by decide) rfl ?_
    refine sk_goto 25 dX6_odds_59 (by decide) ?_
    refine sk_perm (lv2 := [(0, .ref 0), (1, .int v1), (2, .int v2), (3, .int (v3 + (Int64.toInt32 ((sk_lush r46 v1) &&& 1)))), (4, .int (v4 + 1))]) [2, 3, 4, 1, 0] rfl ?_
    exact h

theorem wX6_fits {d : Nat} {τ : sk_T} {K : sk_K} {v1 : Int32} {v2 : Int32} (hd0 : 0 < d)
  (h : sk_C sk_Sc (d - 1) mX6_isSheet [.int v1] τ (fun w t1 => ∃ r1 : Int32, w = some (.int r1) ∧
      ((r1 = 0 →
        sk_C sk_Sc (d - 1) mX6_error [.ref 0, .int 1] t1 (fun w t16 => ∃ r16 : Int32, w = some (.int r16) ∧
          K (some (.int r16)) t16
        )
      ) ∧
      (¬ r1 = 0 →
        sk_C sk_Sc (d - 1) mX6_isBit [.int v2] t1 (fun w t8 => ∃ r8 : Int32, w = some (.int r8) ∧
          ((¬ r8 = 0 →
            vp_in v1 4 ∧
            sk_C sk_Sc (d - 1) mX4_isMissing [.ref (49 + v1.toNatClampNeg)] t8 (fun w t26 => ∃ r26 : Int32, w = some (.int r26) ∧
              ((r26 = 0 →
                sk_G sk_Sc d mX6_fits 47 [(0, .ref 0), (1, .int v1), (2, .int v2), (3, .int 0), (4, .int (-1)), (5, .int 40)] [] t26 K
              ) ∧
              (¬ r26 = 0 →
                sk_C sk_Sc (d - 1) mX6_error [.ref 0, .int 2] t26 (fun w t34 => ∃ r34 : Int32, w = some (.int r34) ∧
                  K (some (.int r34)) t34
                )
              ))
            )
          ) ∧
          (r8 = 0 →
            sk_C sk_Sc (d - 1) mX6_error [.ref 0, .int 1] t8 (fun w t16 => ∃ r16 : Int32, w = some (.int r16) ∧
              K (some (.int r16)) t16
            )
          ))
        )
      ))
    )) :
  sk_C sk_Sc d mX6_fits [.ref 0, .int v1, .int v2] τ K := by
  refine sk_enter mfX6_fits (Nat.le_of_ble_eq_true rfl) ?_
  show sk_G sk_Sc d mX6_fits 0 [(0, .ref 0), (1, .int v1), (2, .int v2)] [] τ K
  refine sk_iload_n 1 1 dX6_fits_0 rfl rfl rfl ?_
  refine sk_callSi [.int v1] [] 4 dX6_fits_1 rfl mfX6_isSheet lkX6_236 miX6_isSheet rfl rfl (by simp [Value.category]) hd0 (sk_Cm h ?_)
  rintro w t1 ⟨r1, hw, h⟩
  refine ⟨r1, hw, ?_⟩
  refine sk_if_eq 14 7 dX6_fits_4 (by decide) rfl (fun hc => ?_) (fun hc => ?_)
  · have h := h.1 hc
    refine sk_aload_n 0 15 dX6_fits_14 rfl rfl rfl ?_
    refine sk_iconst (v := 1) 16 dX6_fits_15 rfl (by decide) ?_
    refine sk_callVi [.int 1] [] 19 dX6_fits_16 rfl mfX6_error lkX6_58 miX6_error msX6_error sc_0 rfl rfl rfl rfl (by simp [Value.category]) hd0 (sk_Cm h ?_)
    rintro w t16 ⟨r16, hw, h⟩
    refine ⟨r16, hw, ?_⟩
    exact sk_iret dX6_fits_19 rfl rfl h
  · have h := h.2 hc
    refine sk_iload_n 2 8 dX6_fits_7 rfl rfl rfl ?_
    refine sk_callSi [.int v2] [] 11 dX6_fits_8 rfl mfX6_isBit lkX6_135 miX6_isBit rfl rfl (by simp [Value.category]) hd0 (sk_Cm h ?_)
    rintro w t8 ⟨r8, hw, h⟩
    refine ⟨r8, hw, ?_⟩
    refine sk_if_ne 20 14 dX6_fits_11 (by decide) rfl (fun hc => ?_) (fun hc => ?_)
    · have h := h.1 hc
      refine sk_aload_n 0 21 dX6_fits_20 rfl rfl rfl ?_
      refine sk_getR (r := 48) 24 dX6_fits_21 rfl lfX6_39 sc_0 rfl ?_
      refine sk_iload_n 1 25 dX6_fits_24 rfl rfl rfl ?_
      have hb25 := h.1
      have h := h.2
      refine sk_aald 26 dX6_fits_25 rfl sc_48 (by decide) hb25 _ rfl (r := (49 + v1.toNatClampNeg)) (sk_sl0 hb25) ?_
      refine sk_callVi [] [] 29 dX6_fits_26 rfl mfX4_isMissing lkX6_239 miX4_isMissing msX4_isMissing (sk_sheetAt hb25) rfl rfl rfl rfl (by simp [Value.category]) hd0 (sk_Cm h ?_)
      rintro w t26 ⟨r26, hw, h⟩
      refine ⟨r26, hw, ?_⟩
      refine sk_if_eq 38 32 dX6_fits_29 (by decide) rfl (fun hc => ?_) (fun hc => ?_)
      · have h := h.1 hc
        refine sk_iconst (v := 0) 39 dX6_fits_38 rfl (by decide) ?_
        refine sk_istore_n (lv2 := [(3, .int 0), (0, .ref 0), (1, .int v1), (2, .int v2)]) 40 dX6_fits_39 rfl rfl (by decide) rfl ?_
        refine sk_iconst (v := (-1)) 41 dX6_fits_40 rfl (by decide) ?_
        refine sk_istore (lv2 := [(4, .int (-1)), (3, .int 0), (0, .ref 0), (1, .int v1), (2, .int v2)]) 43 dX6_fits_41 rfl (by decide) rfl ?_
        refine sk_bipush (v := 40) 45 dX6_fits_43 rfl (by decide) ?_
        refine sk_istore (lv2 := [(5, .int 40), (4, .int (-1)), (3, .int 0), (0, .ref 0), (1, .int v1), (2, .int v2)]) 47 dX6_fits_45 rfl (by decide) rfl ?_
        refine sk_perm (lv2 := [(0, .ref 0), (1, .int v1), (2, .int v2), (3, .int 0), (4, .int (-1)), (5, .int 40)]) [3, 4, 5, 2, 1, 0] rfl ?_
        exact h
      · have h := h.2 hc
        refine sk_aload_n 0 33 dX6_fits_32 rfl rfl rfl ?_
        refine sk_iconst (v := 2) 34 dX6_fits_33 rfl (by decide) ?_
        refine sk_callVi [.int 2] [] 37 dX6_fits_34 rfl mfX6_error lkX6_58 miX6_error msX6_error sc_0 rfl rfl rfl rfl (by simp [Value.category]) hd0 (sk_Cm h ?_)
        rintro w t34 ⟨r34, hw, h⟩
        refine ⟨r34, hw, ?_⟩
        exact sk_iret dX6_fits_37 rfl rfl h
    · have h := h.2 hc
      refine sk_aload_n 0 15 dX6_fits_14 rfl rfl rfl ?_
      refine sk_iconst (v := 1) 16 dX6_fits_15 rfl (by decide) ?_
      refine sk_callVi [.int 1] [] 19 dX6_fits_16 rfl mfX6_error lkX6_58 miX6_error msX6_error sc_0 rfl rfl rfl rfl (by simp [Value.category]) hd0 (sk_Cm h ?_)
      rintro w t16 ⟨r16, hw, h⟩
      refine ⟨r16, hw, ?_⟩
      exact sk_iret dX6_fits_19 rfl rfl h

theorem bX6_fits_47 {d : Nat} {τ : sk_T} {K : sk_K} {v1 : Int32} {v2 : Int32} {v3 : Int32} {v4 : Int32} {v5 : Int32} (hd0 : 0 < d)
  (h : ((v5 < 0 →
      ((¬ v2 = 0 →
        ((0 ≤ v4 →
          K (some (.int v4)) τ
        ) ∧
        (¬ 0 ≤ v4 →
          sk_C sk_Sc (d - 1) mX6_error [.ref 0, .int 2] τ (fun w t106 => ∃ r106 : Int32, w = some (.int r106) ∧
            K (some (.int r106)) t106
          )
        ))
      ) ∧
      (v2 = 0 →
        K (some (.int v3)) τ
      ))
    ) ∧
    (¬ v5 < 0 →
      vp_in v1 4 ∧
      sk_C sk_Sc (d - 1) mX3_blown [.ref 1, .int v5] τ (fun w t68 => ∃ r68 : Int32, w = some (.int r68) ∧
        sk_C sk_Sc (d - 1) mX3_dryBut [.ref 1, .int r68] t68 (fun w t71 => ∃ r71 : Int64, w = some (.long r71) ∧
          sk_C sk_Sc (d - 1) mX4_tellsRows [.ref (49 + v1.toNatClampNeg), .long r71] t71 (fun w t74 => ∃ r74 : Int32, w = some (.int r74) ∧
            ((r74 = 0 →
              sk_G sk_Sc d mX6_fits 47 [(0, .ref 0), (1, .int v1), (2, .int v2), (3, .int v3), (4, .int v4), (5, .int (v5 + (-1)))] [] t74 K
            ) ∧
            (¬ r74 = 0 →
              sk_G sk_Sc d mX6_fits 47 [(0, .ref 0), (1, .int v1), (2, .int v2), (3, .int (v3 + 1)), (4, .int v5), (5, .int (v5 + (-1)))] [] t74 K
            ))
          )
        )
      )
    ))) :
  sk_G sk_Sc d mX6_fits 47 [(0, .ref 0), (1, .int v1), (2, .int v2), (3, .int v3), (4, .int v4), (5, .int v5)] [] τ K := by
  refine sk_iload 5 49 dX6_fits_47 rfl rfl ?_
  refine sk_if_lt 93 52 dX6_fits_49 (by decide) rfl (fun hc => ?_) (fun hc => ?_)
  · have h := h.1 hc
    refine sk_iload_n 2 94 dX6_fits_93 rfl rfl rfl ?_
    refine sk_if_ne 99 97 dX6_fits_94 (by decide) rfl (fun hc => ?_) (fun hc => ?_)
    · have h := h.1 hc
      refine sk_iload 4 101 dX6_fits_99 rfl rfl ?_
      refine sk_if_ge 112 104 dX6_fits_101 (by decide) rfl (fun hc => ?_) (fun hc => ?_)
      · have h := h.1 hc
        refine sk_iload 4 114 dX6_fits_112 rfl rfl ?_
        exact sk_iret dX6_fits_114 rfl rfl h
      · have h := h.2 hc
        refine sk_aload_n 0 105 dX6_fits_104 rfl rfl rfl ?_
        refine sk_iconst (v := 2) 106 dX6_fits_105 rfl (by decide) ?_
        refine sk_callVi [.int 2] [] 109 dX6_fits_106 rfl mfX6_error lkX6_58 miX6_error msX6_error sc_0 rfl rfl rfl rfl (by simp [Value.category]) hd0 (sk_Cm h ?_)
        rintro w t106 ⟨r106, hw, h⟩
        refine ⟨r106, hw, ?_⟩
        refine sk_goto 114 dX6_fits_109 (by decide) ?_
        exact sk_iret dX6_fits_114 rfl rfl h
    · have h := h.2 hc
      refine sk_iload_n 3 98 dX6_fits_97 rfl rfl rfl ?_
      exact sk_iret dX6_fits_98 rfl rfl h
  · have h := h.2 hc
    refine sk_aload_n 0 53 dX6_fits_52 rfl rfl rfl ?_
    refine sk_getR (r := 48) 56 dX6_fits_53 rfl lfX6_39 sc_0 rfl ?_
    refine sk_iload_n 1 57 dX6_fits_56 rfl rfl rfl ?_
    have hb57 := h.1
    have h := h.2
    refine sk_aald 58 dX6_fits_57 rfl sc_48 (by decide) hb57 _ rfl (r := (49 + v1.toNatClampNeg)) (sk_sl0 hb57) ?_
    refine sk_aload_n 0 59 dX6_fits_58 rfl rfl rfl ?_
    refine sk_getR (r := 1) 62 dX6_fits_59 rfl lfX6_12 sc_0 rfl ?_
    refine sk_aload_n 0 63 dX6_fits_62 rfl rfl rfl ?_
    refine sk_getR (r := 1) 66 dX6_fits_63 rfl lfX6_12 sc_0 rfl ?_
    refine sk_iload 5 68 dX6_fits_66 rfl rfl ?_
    refine sk_callVi [.int v5] [.ref 1, .ref (49 + v1.toNatClampNeg)] 71 dX6_fits_68 rfl mfX3_blown lkX6_180 miX3_blown msX3_blown sc_1 rfl rfl rfl rfl (by simp [Value.category]) hd0 (sk_Cm h ?_)
    rintro w t68 ⟨r68, hw, h⟩
    refine ⟨r68, hw, ?_⟩
    refine sk_callVl [.int r68] [.ref (49 + v1.toNatClampNeg)] 74 dX6_fits_71 rfl mfX3_dryBut lkX6_121 miX3_dryBut msX3_dryBut sc_1 rfl rfl rfl rfl (by simp [Value.category]) hd0 (sk_Cm h ?_)
    rintro w t71 ⟨r71, hw, h⟩
    refine ⟨r71, hw, ?_⟩
    refine sk_callVi [.long r71] [] 77 dX6_fits_74 rfl mfX4_tellsRows lkX6_242 miX4_tellsRows msX4_tellsRows (sk_sheetAt hb57) rfl rfl rfl rfl (by simp [Value.category]) hd0 (sk_Cm h ?_)
    rintro w t74 ⟨r74, hw, h⟩
    refine ⟨r74, hw, ?_⟩
    refine sk_if_eq 87 80 dX6_fits_77 (by decide) rfl (fun hc => ?_) (fun hc => ?_)
    · have h := h.1 hc
      refine sk_iinc (v := (v5 + (-1))) (lv2 := [(5, .int (v5 + (-1))), (0, .ref 0), (1, .int v1), (2, .int v2), (3, .int v3), (4, .int v4)]) 5 90 dX6_fits_87 rfl rfl rfl (by decide) rfl ?_
      refine sk_goto 47 dX6_fits_90 (by decide) ?_
      refine sk_perm (lv2 := [(0, .ref 0), (1, .int v1), (2, .int v2), (3, .int v3), (4, .int v4), (5, .int (v5 + (-1)))]) [1, 2, 3, 4, 5, 0] rfl ?_
      exact h
    · have h := h.2 hc
      refine sk_iinc (v := (v3 + 1)) (lv2 := [(3, .int (v3 + 1)), (0, .ref 0), (1, .int v1), (2, .int v2), (4, .int v4), (5, .int v5)]) 3 83 dX6_fits_80 rfl rfl rfl (by decide) rfl ?_
      refine sk_iload 5 85 dX6_fits_83 rfl rfl ?_
      refine sk_istore (lv2 := [(4, .int v5), (3, .int (v3 + 1)), (0, .ref 0), (1, .int v1), (2, .int v2), (5, .int v5)]) 87 dX6_fits_85 rfl (by decide) rfl ?_
      refine sk_iinc (v := (v5 + (-1))) (lv2 := [(5, .int (v5 + (-1))), (4, .int v5), (3, .int (v3 + 1)), (0, .ref 0), (1, .int v1), (2, .int v2)]) 5 90 dX6_fits_87 rfl rfl rfl (by decide) rfl ?_
      refine sk_goto 47 dX6_fits_90 (by decide) ?_
      refine sk_perm (lv2 := [(0, .ref 0), (1, .int v1), (2, .int v2), (3, .int (v3 + 1)), (4, .int v5), (5, .int (v5 + (-1)))]) [3, 4, 5, 2, 1, 0] rfl ?_
      exact h

theorem wX6_voice {d : Nat} {τ : sk_T} {K : sk_K} {v1 : Int32} {v2 : Int32} {v3 : Int32} (hd0 : 0 < d)
  (h : sk_C sk_Sc (d - 1) mX6_isSlate [.ref 0, .int v1] τ (fun w t2 => ∃ r2 : Int32, w = some (.int r2) ∧
      ((r2 = 0 →
        sk_C sk_Sc (d - 1) mX6_error [.ref 0, .int 1] t2 (fun w t19 => ∃ r19 : Int32, w = some (.int r19) ∧
          K (some (.int r19)) t19
        )
      ) ∧
      (¬ r2 = 0 →
        ((v2 < 0 →
          sk_C sk_Sc (d - 1) mX6_error [.ref 0, .int 1] t2 (fun w t19 => ∃ r19 : Int32, w = some (.int r19) ∧
            K (some (.int r19)) t19
          )
        ) ∧
        (¬ v2 < 0 →
          ((v2 ≤ 3 →
            vp_in v1 10 ∧
            sk_C sk_Sc (d - 1) mX0_sing [.ref 46, .ref (3 + v1.toNatClampNeg), .int v1, .int v2, .int v3] t2 (fun w t39 => ∃ r39 : Int32, w = some (.int r39) ∧
              (((t39 46 2 &&& 1) = 0 →
                K (some (.int r39)) t39
              ) ∧
              (¬ (t39 46 2 &&& 1) = 0 →
                sk_C sk_Sc (d - 1) mX6_error [.ref 0, .int 6] t39 (fun w t57 => ∃ r57 : Int32, w = some (.int r57) ∧
                  K (some (.int r57)) t57
                )
              ))
            )
          ) ∧
          (¬ v2 ≤ 3 →
            sk_C sk_Sc (d - 1) mX6_error [.ref 0, .int 1] t2 (fun w t19 => ∃ r19 : Int32, w = some (.int r19) ∧
              K (some (.int r19)) t19
            )
          ))
        ))
      ))
    )) :
  sk_C sk_Sc d mX6_voice [.ref 0, .int v1, .int v2, .int v3] τ K := by
  refine sk_enter mfX6_voice (Nat.le_of_ble_eq_true rfl) ?_
  show sk_G sk_Sc d mX6_voice 0 [(0, .ref 0), (1, .int v1), (2, .int v2), (3, .int v3)] [] τ K
  refine sk_aload_n 0 1 dX6_voice_0 rfl rfl rfl ?_
  refine sk_iload_n 1 2 dX6_voice_1 rfl rfl rfl ?_
  refine sk_callVi [.int v1] [] 5 dX6_voice_2 rfl mfX6_isSlate lkX6_72 miX6_isSlate msX6_isSlate sc_0 rfl rfl rfl rfl (by simp [Value.category]) hd0 (sk_Cm h ?_)
  rintro w t2 ⟨r2, hw, h⟩
  refine ⟨r2, hw, ?_⟩
  refine sk_if_eq 17 8 dX6_voice_5 (by decide) rfl (fun hc => ?_) (fun hc => ?_)
  · have h := h.1 hc
    refine sk_aload_n 0 18 dX6_voice_17 rfl rfl rfl ?_
    refine sk_iconst (v := 1) 19 dX6_voice_18 rfl (by decide) ?_
    refine sk_callVi [.int 1] [] 22 dX6_voice_19 rfl mfX6_error lkX6_58 miX6_error msX6_error sc_0 rfl rfl rfl rfl (by simp [Value.category]) hd0 (sk_Cm h ?_)
    rintro w t19 ⟨r19, hw, h⟩
    refine ⟨r19, hw, ?_⟩
    exact sk_iret dX6_voice_22 rfl rfl h
  · have h := h.2 hc
    refine sk_iload_n 2 9 dX6_voice_8 rfl rfl rfl ?_
    refine sk_if_lt 17 12 dX6_voice_9 (by decide) rfl (fun hc => ?_) (fun hc => ?_)
    · have h := h.1 hc
      refine sk_aload_n 0 18 dX6_voice_17 rfl rfl rfl ?_
      refine sk_iconst (v := 1) 19 dX6_voice_18 rfl (by decide) ?_
      refine sk_callVi [.int 1] [] 22 dX6_voice_19 rfl mfX6_error lkX6_58 miX6_error msX6_error sc_0 rfl rfl rfl rfl (by simp [Value.category]) hd0 (sk_Cm h ?_)
      rintro w t19 ⟨r19, hw, h⟩
      refine ⟨r19, hw, ?_⟩
      exact sk_iret dX6_voice_22 rfl rfl h
    · have h := h.2 hc
      refine sk_iload_n 2 13 dX6_voice_12 rfl rfl rfl ?_
      refine sk_iconst (v := 3) 14 dX6_voice_13 rfl (by decide) ?_
      refine sk_icmp_le 23 17 dX6_voice_14 (by decide) rfl (fun hc => ?_) (fun hc => ?_)
      · have h := h.1 hc
        refine sk_aload_n 0 24 dX6_voice_23 rfl rfl rfl ?_
        refine sk_getR (r := 46) 27 dX6_voice_24 rfl lfX6_33 sc_0 rfl ?_
        refine sk_aload_n 0 28 dX6_voice_27 rfl rfl rfl ?_
        refine sk_getR (r := 1) 31 dX6_voice_28 rfl lfX6_12 sc_0 rfl ?_
        refine sk_getR (r := 35) 34 dX6_voice_31 rfl lfX6_62 sc_1 rfl ?_
        refine sk_iload_n 1 35 dX6_voice_34 rfl rfl rfl ?_
        have hb35 := h.1
        have h := h.2
        refine sk_aald 36 dX6_voice_35 rfl sc_35 (by decide) hb35 _ rfl (r := (3 + v1.toNatClampNeg)) (sk_tl0 hb35) ?_
        refine sk_iload_n 1 37 dX6_voice_36 rfl rfl rfl ?_
        refine sk_iload_n 2 38 dX6_voice_37 rfl rfl rfl ?_
        refine sk_iload_n 3 39 dX6_voice_38 rfl rfl rfl ?_
        refine sk_callVi [.ref (3 + v1.toNatClampNeg), .int v1, .int v2, .int v3] [] 42 dX6_voice_39 rfl mfX0_sing lkX6_246 miX0_sing msX0_sing sc_46 rfl rfl rfl rfl (by simp [Value.category]) hd0 (sk_Cm h ?_)
        rintro w t39 ⟨r39, hw, h⟩
        refine ⟨r39, hw, ?_⟩
        refine sk_istore (lv2 := [(4, .int r39), (0, .ref 0), (1, .int v1), (2, .int v2), (3, .int v3)]) 44 dX6_voice_42 rfl (by decide) rfl ?_
        refine sk_aload_n 1 45 dX6_voice_44 rfl rfl rfl ?_
        refine sk_getR (r := 46) 48 dX6_voice_45 rfl lfX6_33 sc_0 rfl ?_
        refine sk_getB 51 dX6_voice_48 rfl lfX6_250 sc_46 rfl ?_
        refine sk_if_eq 63 54 dX6_voice_51 (by decide) rfl (fun hc => ?_) (fun hc => ?_)
        · have h := h.1 hc
          refine sk_iload 0 65 dX6_voice_63 rfl rfl ?_
          exact sk_iret dX6_voice_65 rfl rfl h
        · have h := h.2 hc
          refine sk_aload_n 1 55 dX6_voice_54 rfl rfl rfl ?_
          refine sk_bipush (v := 6) 57 dX6_voice_55 rfl (by decide) ?_
          refine sk_callVi [.int 6] [] 60 dX6_voice_57 rfl mfX6_error lkX6_58 miX6_error msX6_error sc_0 rfl rfl rfl rfl (by simp [Value.category]) hd0 (sk_Cm h ?_)
          rintro w t57 ⟨r57, hw, h⟩
          refine ⟨r57, hw, ?_⟩
          refine sk_goto 65 dX6_voice_60 (by decide) ?_
          exact sk_iret dX6_voice_65 rfl rfl h
      · have h := h.2 hc
        refine sk_aload_n 0 18 dX6_voice_17 rfl rfl rfl ?_
        refine sk_iconst (v := 1) 19 dX6_voice_18 rfl (by decide) ?_
        refine sk_callVi [.int 1] [] 22 dX6_voice_19 rfl mfX6_error lkX6_58 miX6_error msX6_error sc_0 rfl rfl rfl rfl (by simp [Value.category]) hd0 (sk_Cm h ?_)
        rintro w t19 ⟨r19, hw, h⟩
        refine ⟨r19, hw, ?_⟩
        exact sk_iret dX6_voice_22 rfl rfl h

theorem wX6_body {d : Nat} {τ : sk_T} {K : sk_K} {v1 : Int32} (hd0 : 0 < d)
  (h : ((v1 < 0 →
      sk_C sk_Sc (d - 1) mX6_error [.ref 0, .int 2] τ (fun w t17 => ∃ r17 : Int32, w = some (.int r17) ∧
        K (some (.int r17)) t17
      )
    ) ∧
    (¬ v1 < 0 →
      ((v1 < (τ 46 1) →
        vp_in v1 30 ∧
        K (some (.int (τ 47 (v1).toNatClampNeg))) τ
      ) ∧
      (¬ v1 < (τ 46 1) →
        sk_C sk_Sc (d - 1) mX6_error [.ref 0, .int 2] τ (fun w t17 => ∃ r17 : Int32, w = some (.int r17) ∧
          K (some (.int r17)) t17
        )
      ))
    ))) :
  sk_C sk_Sc d mX6_body [.ref 0, .int v1] τ K := by
  refine sk_enter mfX6_body (Nat.le_of_ble_eq_true rfl) ?_
  show sk_G sk_Sc d mX6_body 0 [(0, .ref 0), (1, .int v1)] [] τ K
  refine sk_iload_n 1 1 dX6_body_0 rfl rfl rfl ?_
  refine sk_if_lt 15 4 dX6_body_1 (by decide) rfl (fun hc => ?_) (fun hc => ?_)
  · have h := h.1 hc
    refine sk_aload_n 0 16 dX6_body_15 rfl rfl rfl ?_
    refine sk_iconst (v := 2) 17 dX6_body_16 rfl (by decide) ?_
    refine sk_callVi [.int 2] [] 20 dX6_body_17 rfl mfX6_error lkX6_58 miX6_error msX6_error sc_0 rfl rfl rfl rfl (by simp [Value.category]) hd0 (sk_Cm h ?_)
    rintro w t17 ⟨r17, hw, h⟩
    refine ⟨r17, hw, ?_⟩
    refine sk_goto 32 dX6_body_20 (by decide) ?_
    exact sk_iret dX6_body_32 rfl rfl h
  · have h := h.2 hc
    refine sk_iload_n 1 5 dX6_body_4 rfl rfl rfl ?_
    refine sk_aload_n 0 6 dX6_body_5 rfl rfl rfl ?_
    refine sk_getR (r := 46) 9 dX6_body_6 rfl lfX6_33 sc_0 rfl ?_
    refine sk_getI 12 dX6_body_9 rfl lfX6_253 sc_46 rfl ?_
    refine sk_icmp_lt 23 15 dX6_body_12 (by decide) rfl (fun hc => ?_) (fun hc => ?_)
    · have h := h.1 hc
      refine sk_aload_n 0 24 dX6_body_23 rfl rfl rfl ?_
      refine sk_getR (r := 46) 27 dX6_body_24 rfl lfX6_33 sc_0 rfl ?_
      refine sk_getR (r := 47) 30 dX6_body_27 rfl lfX6_254 sc_46 rfl ?_
      refine sk_iload_n 1 31 dX6_body_30 rfl rfl rfl ?_
      have hb31 := h.1
      have h := h.2
      refine sk_iald 32 dX6_body_31 rfl sc_47 hb31 _ rfl ?_
      exact sk_iret dX6_body_32 rfl rfl h
    · have h := h.2 hc
      refine sk_aload_n 0 16 dX6_body_15 rfl rfl rfl ?_
      refine sk_iconst (v := 2) 17 dX6_body_16 rfl (by decide) ?_
      refine sk_callVi [.int 2] [] 20 dX6_body_17 rfl mfX6_error lkX6_58 miX6_error msX6_error sc_0 rfl rfl rfl rfl (by simp [Value.category]) hd0 (sk_Cm h ?_)
      rintro w t17 ⟨r17, hw, h⟩
      refine ⟨r17, hw, ?_⟩
      refine sk_goto 32 dX6_body_20 (by decide) ?_
      exact sk_iret dX6_body_32 rfl rfl h

theorem wX6_sheet {d : Nat} {τ : sk_T} {K : sk_K} {v1 : Int32} {v2 : Int32} {v3 : Int32} (hd0 : 0 < d)
  (h : sk_C sk_Sc (d - 1) mX6_isSheet [.int v1] τ (fun w t1 => ∃ r1 : Int32, w = some (.int r1) ∧
      ((r1 = 0 →
        sk_C sk_Sc (d - 1) mX6_error [.ref 0, .int 1] t1 (fun w t31 => ∃ r31 : Int32, w = some (.int r31) ∧
          K (some (.int r31)) t31
        )
      ) ∧
      (¬ r1 = 0 →
        ((v2 = 0 →
          ((v2 = 0 →
            ((v2 = 0 →
              vp_in v1 4 ∧
              ((¬ v2 = 0 →
                sk_C sk_Sc (d - 1) mX4_begin [.ref (49 + v1.toNatClampNeg), .int v2, .int v3] t1 (fun w t81 => w = none ∧
                  K (some (.int 1)) t81
                )
              ) ∧
              (v2 = 0 →
                sk_C sk_Sc (d - 1) mX4_begin [.ref (49 + v1.toNatClampNeg), .int v2, .int 0] t1 (fun w t81 => w = none ∧
                  K (some (.int 1)) t81
                )
              ))
            ) ∧
            (¬ v2 = 0 →
              ((v3 ≤ 24 →
                vp_in v1 4 ∧
                ((¬ v2 = 0 →
                  sk_C sk_Sc (d - 1) mX4_begin [.ref (49 + v1.toNatClampNeg), .int v2, .int v3] t1 (fun w t81 => w = none ∧
                    K (some (.int 1)) t81
                  )
                ) ∧
                (v2 = 0 →
                  sk_C sk_Sc (d - 1) mX4_begin [.ref (49 + v1.toNatClampNeg), .int v2, .int 0] t1 (fun w t81 => w = none ∧
                    K (some (.int 1)) t81
                  )
                ))
              ) ∧
              (¬ v3 ≤ 24 →
                sk_C sk_Sc (d - 1) mX6_error [.ref 0, .int 1] t1 (fun w t61 => ∃ r61 : Int32, w = some (.int r61) ∧
                  K (some (.int r61)) t61
                )
              ))
            ))
          ) ∧
          (¬ v2 = 0 →
            ((0 ≤ v3 →
              ((v2 = 0 →
                vp_in v1 4 ∧
                ((¬ v2 = 0 →
                  sk_C sk_Sc (d - 1) mX4_begin [.ref (49 + v1.toNatClampNeg), .int v2, .int v3] t1 (fun w t81 => w = none ∧
                    K (some (.int 1)) t81
                  )
                ) ∧
                (v2 = 0 →
                  sk_C sk_Sc (d - 1) mX4_begin [.ref (49 + v1.toNatClampNeg), .int v2, .int 0] t1 (fun w t81 => w = none ∧
                    K (some (.int 1)) t81
                  )
                ))
              ) ∧
              (¬ v2 = 0 →
                ((v3 ≤ 24 →
                  vp_in v1 4 ∧
                  ((¬ v2 = 0 →
                    sk_C sk_Sc (d - 1) mX4_begin [.ref (49 + v1.toNatClampNeg), .int v2, .int v3] t1 (fun w t81 => w = none ∧
                      K (some (.int 1)) t81
                    )
                  ) ∧
                  (v2 = 0 →
                    sk_C sk_Sc (d - 1) mX4_begin [.ref (49 + v1.toNatClampNeg), .int v2, .int 0] t1 (fun w t81 => w = none ∧
                      K (some (.int 1)) t81
                    )
                  ))
                ) ∧
                (¬ v3 ≤ 24 →
                  sk_C sk_Sc (d - 1) mX6_error [.ref 0, .int 1] t1 (fun w t61 => ∃ r61 : Int32, w = some (.int r61) ∧
                    K (some (.int r61)) t61
                  )
                ))
              ))
            ) ∧
            (¬ 0 ≤ v3 →
              sk_C sk_Sc (d - 1) mX6_error [.ref 0, .int 3] t1 (fun w t45 => ∃ r45 : Int32, w = some (.int r45) ∧
                K (some (.int r45)) t45
              )
            ))
          ))
        ) ∧
        (¬ v2 = 0 →
          ((v2 = 8 →
            ((v2 = 0 →
              ((v2 = 0 →
                vp_in v1 4 ∧
                ((¬ v2 = 0 →
                  sk_C sk_Sc (d - 1) mX4_begin [.ref (49 + v1.toNatClampNeg), .int v2, .int v3] t1 (fun w t81 => w = none ∧
                    K (some (.int 1)) t81
                  )
                ) ∧
                (v2 = 0 →
                  sk_C sk_Sc (d - 1) mX4_begin [.ref (49 + v1.toNatClampNeg), .int v2, .int 0] t1 (fun w t81 => w = none ∧
                    K (some (.int 1)) t81
                  )
                ))
              ) ∧
              (¬ v2 = 0 →
                ((v3 ≤ 24 →
                  vp_in v1 4 ∧
                  ((¬ v2 = 0 →
                    sk_C sk_Sc (d - 1) mX4_begin [.ref (49 + v1.toNatClampNeg), .int v2, .int v3] t1 (fun w t81 => w = none ∧
                      K (some (.int 1)) t81
                    )
                  ) ∧
                  (v2 = 0 →
                    sk_C sk_Sc (d - 1) mX4_begin [.ref (49 + v1.toNatClampNeg), .int v2, .int 0] t1 (fun w t81 => w = none ∧
                      K (some (.int 1)) t81
                    )
                  ))
                ) ∧
                (¬ v3 ≤ 24 →
                  sk_C sk_Sc (d - 1) mX6_error [.ref 0, .int 1] t1 (fun w t61 => ∃ r61 : Int32, w = some (.int r61) ∧
                    K (some (.int r61)) t61
                  )
                ))
              ))
            ) ∧
            (¬ v2 = 0 →
              ((0 ≤ v3 →
                ((v2 = 0 →
                  vp_in v1 4 ∧
                  ((¬ v2 = 0 →
                    sk_C sk_Sc (d - 1) mX4_begin [.ref (49 + v1.toNatClampNeg), .int v2, .int v3] t1 (fun w t81 => w = none ∧
                      K (some (.int 1)) t81
                    )
                  ) ∧
                  (v2 = 0 →
                    sk_C sk_Sc (d - 1) mX4_begin [.ref (49 + v1.toNatClampNeg), .int v2, .int 0] t1 (fun w t81 => w = none ∧
                      K (some (.int 1)) t81
                    )
                  ))
                ) ∧
                (¬ v2 = 0 →
                  ((v3 ≤ 24 →
                    vp_in v1 4 ∧
                    ((¬ v2 = 0 →
                      sk_C sk_Sc (d - 1) mX4_begin [.ref (49 + v1.toNatClampNeg), .int v2, .int v3] t1 (fun w t81 => w = none ∧
                        K (some (.int 1)) t81
                      )
                    ) ∧
                    (v2 = 0 →
                      sk_C sk_Sc (d - 1) mX4_begin [.ref (49 + v1.toNatClampNeg), .int v2, .int 0] t1 (fun w t81 => w = none ∧
                        K (some (.int 1)) t81
                      )
                    ))
                  ) ∧
                  (¬ v3 ≤ 24 →
                    sk_C sk_Sc (d - 1) mX6_error [.ref 0, .int 1] t1 (fun w t61 => ∃ r61 : Int32, w = some (.int r61) ∧
                      K (some (.int r61)) t61
                    )
                  ))
                ))
              ) ∧
              (¬ 0 ≤ v3 →
                sk_C sk_Sc (d - 1) mX6_error [.ref 0, .int 3] t1 (fun w t45 => ∃ r45 : Int32, w = some (.int r45) ∧
                  K (some (.int r45)) t45
                )
              ))
            ))
          ) ∧
          (¬ v2 = 8 →
            ((v2 = 16 →
              ((v2 = 0 →
                ((v2 = 0 →
                  vp_in v1 4 ∧
                  ((¬ v2 = 0 →
                    sk_C sk_Sc (d - 1) mX4_begin [.ref (49 + v1.toNatClampNeg), .int v2, .int v3] t1 (fun w t81 => w = none ∧
                      K (some (.int 1)) t81
                    )
                  ) ∧
                  (v2 = 0 →
                    sk_C sk_Sc (d - 1) mX4_begin [.ref (49 + v1.toNatClampNeg), .int v2, .int 0] t1 (fun w t81 => w = none ∧
                      K (some (.int 1)) t81
                    )
                  ))
                ) ∧
                (¬ v2 = 0 →
                  ((v3 ≤ 24 →
                    vp_in v1 4 ∧
                    ((¬ v2 = 0 →
                      sk_C sk_Sc (d - 1) mX4_begin [.ref (49 + v1.toNatClampNeg), .int v2, .int v3] t1 (fun w t81 => w = none ∧
                        K (some (.int 1)) t81
                      )
                    ) ∧
                    (v2 = 0 →
                      sk_C sk_Sc (d - 1) mX4_begin [.ref (49 + v1.toNatClampNeg), .int v2, .int 0] t1 (fun w t81 => w = none ∧
                        K (some (.int 1)) t81
                      )
                    ))
                  ) ∧
                  (¬ v3 ≤ 24 →
                    sk_C sk_Sc (d - 1) mX6_error [.ref 0, .int 1] t1 (fun w t61 => ∃ r61 : Int32, w = some (.int r61) ∧
                      K (some (.int r61)) t61
                    )
                  ))
                ))
              ) ∧
              (¬ v2 = 0 →
                ((0 ≤ v3 →
                  ((v2 = 0 →
                    vp_in v1 4 ∧
                    ((¬ v2 = 0 →
                      sk_C sk_Sc (d - 1) mX4_begin [.ref (49 + v1.toNatClampNeg), .int v2, .int v3] t1 (fun w t81 => w = none ∧
                        K (some (.int 1)) t81
                      )
                    ) ∧
                    (v2 = 0 →
                      sk_C sk_Sc (d - 1) mX4_begin [.ref (49 + v1.toNatClampNeg), .int v2, .int 0] t1 (fun w t81 => w = none ∧
                        K (some (.int 1)) t81
                      )
                    ))
                  ) ∧
                  (¬ v2 = 0 →
                    ((v3 ≤ 24 →
                      vp_in v1 4 ∧
                      ((¬ v2 = 0 →
                        sk_C sk_Sc (d - 1) mX4_begin [.ref (49 + v1.toNatClampNeg), .int v2, .int v3] t1 (fun w t81 => w = none ∧
                          K (some (.int 1)) t81
                        )
                      ) ∧
                      (v2 = 0 →
                        sk_C sk_Sc (d - 1) mX4_begin [.ref (49 + v1.toNatClampNeg), .int v2, .int 0] t1 (fun w t81 => w = none ∧
                          K (some (.int 1)) t81
                        )
                      ))
                    ) ∧
                    (¬ v3 ≤ 24 →
                      sk_C sk_Sc (d - 1) mX6_error [.ref 0, .int 1] t1 (fun w t61 => ∃ r61 : Int32, w = some (.int r61) ∧
                        K (some (.int r61)) t61
                      )
                    ))
                  ))
                ) ∧
                (¬ 0 ≤ v3 →
                  sk_C sk_Sc (d - 1) mX6_error [.ref 0, .int 3] t1 (fun w t45 => ∃ r45 : Int32, w = some (.int r45) ∧
                    K (some (.int r45)) t45
                  )
                ))
              ))
            ) ∧
            (¬ v2 = 16 →
              ((v2 = 32 →
                ((v2 = 0 →
                  ((v2 = 0 →
                    vp_in v1 4 ∧
                    ((¬ v2 = 0 →
                      sk_C sk_Sc (d - 1) mX4_begin [.ref (49 + v1.toNatClampNeg), .int v2, .int v3] t1 (fun w t81 => w = none ∧
                        K (some (.int 1)) t81
                      )
                    ) ∧
                    (v2 = 0 →
                      sk_C sk_Sc (d - 1) mX4_begin [.ref (49 + v1.toNatClampNeg), .int v2, .int 0] t1 (fun w t81 => w = none ∧
                        K (some (.int 1)) t81
                      )
                    ))
                  ) ∧
                  (¬ v2 = 0 →
                    ((v3 ≤ 24 →
                      vp_in v1 4 ∧
                      ((¬ v2 = 0 →
                        sk_C sk_Sc (d - 1) mX4_begin [.ref (49 + v1.toNatClampNeg), .int v2, .int v3] t1 (fun w t81 => w = none ∧
                          K (some (.int 1)) t81
                        )
                      ) ∧
                      (v2 = 0 →
                        sk_C sk_Sc (d - 1) mX4_begin [.ref (49 + v1.toNatClampNeg), .int v2, .int 0] t1 (fun w t81 => w = none ∧
                          K (some (.int 1)) t81
                        )
                      ))
                    ) ∧
                    (¬ v3 ≤ 24 →
                      sk_C sk_Sc (d - 1) mX6_error [.ref 0, .int 1] t1 (fun w t61 => ∃ r61 : Int32, w = some (.int r61) ∧
                        K (some (.int r61)) t61
                      )
                    ))
                  ))
                ) ∧
                (¬ v2 = 0 →
                  ((0 ≤ v3 →
                    ((v2 = 0 →
                      vp_in v1 4 ∧
                      ((¬ v2 = 0 →
                        sk_C sk_Sc (d - 1) mX4_begin [.ref (49 + v1.toNatClampNeg), .int v2, .int v3] t1 (fun w t81 => w = none ∧
                          K (some (.int 1)) t81
                        )
                      ) ∧
                      (v2 = 0 →
                        sk_C sk_Sc (d - 1) mX4_begin [.ref (49 + v1.toNatClampNeg), .int v2, .int 0] t1 (fun w t81 => w = none ∧
                          K (some (.int 1)) t81
                        )
                      ))
                    ) ∧
                    (¬ v2 = 0 →
                      ((v3 ≤ 24 →
                        vp_in v1 4 ∧
                        ((¬ v2 = 0 →
                          sk_C sk_Sc (d - 1) mX4_begin [.ref (49 + v1.toNatClampNeg), .int v2, .int v3] t1 (fun w t81 => w = none ∧
                            K (some (.int 1)) t81
                          )
                        ) ∧
                        (v2 = 0 →
                          sk_C sk_Sc (d - 1) mX4_begin [.ref (49 + v1.toNatClampNeg), .int v2, .int 0] t1 (fun w t81 => w = none ∧
                            K (some (.int 1)) t81
                          )
                        ))
                      ) ∧
                      (¬ v3 ≤ 24 →
                        sk_C sk_Sc (d - 1) mX6_error [.ref 0, .int 1] t1 (fun w t61 => ∃ r61 : Int32, w = some (.int r61) ∧
                          K (some (.int r61)) t61
                        )
                      ))
                    ))
                  ) ∧
                  (¬ 0 ≤ v3 →
                    sk_C sk_Sc (d - 1) mX6_error [.ref 0, .int 3] t1 (fun w t45 => ∃ r45 : Int32, w = some (.int r45) ∧
                      K (some (.int r45)) t45
                    )
                  ))
                ))
              ) ∧
              (¬ v2 = 32 →
                sk_C sk_Sc (d - 1) mX6_error [.ref 0, .int 1] t1 (fun w t31 => ∃ r31 : Int32, w = some (.int r31) ∧
                  K (some (.int r31)) t31
                )
              ))
            ))
          ))
        ))
      ))
    )) :
  sk_C sk_Sc d mX6_sheet [.ref 0, .int v1, .int v2, .int v3] τ K := by
  refine sk_enter mfX6_sheet (Nat.le_of_ble_eq_true rfl) ?_
  show sk_G sk_Sc d mX6_sheet 0 [(0, .ref 0), (1, .int v1), (2, .int v2), (3, .int v3)] [] τ K
  refine sk_iload_n 1 1 dX6_sheet_0 rfl rfl rfl ?_
  refine sk_callSi [.int v1] [] 4 dX6_sheet_1 rfl mfX6_isSheet lkX6_236 miX6_isSheet rfl rfl (by simp [Value.category]) hd0 (sk_Cm h ?_)
  rintro w t1 ⟨r1, hw, h⟩
  refine ⟨r1, hw, ?_⟩
  refine sk_if_eq 29 7 dX6_sheet_4 (by decide) rfl (fun hc => ?_) (fun hc => ?_)
  · have h := h.1 hc
    refine sk_aload_n 0 30 dX6_sheet_29 rfl rfl rfl ?_
    refine sk_iconst (v := 1) 31 dX6_sheet_30 rfl (by decide) ?_
    refine sk_callVi [.int 1] [] 34 dX6_sheet_31 rfl mfX6_error lkX6_58 miX6_error msX6_error sc_0 rfl rfl rfl rfl (by simp [Value.category]) hd0 (sk_Cm h ?_)
    rintro w t31 ⟨r31, hw, h⟩
    refine ⟨r31, hw, ?_⟩
    exact sk_iret dX6_sheet_34 rfl rfl h
  · have h := h.2 hc
    refine sk_iload_n 2 8 dX6_sheet_7 rfl rfl rfl ?_
    refine sk_if_eq 35 11 dX6_sheet_8 (by decide) rfl (fun hc => ?_) (fun hc => ?_)
    · have h := h.1 hc
      refine sk_iload_n 2 36 dX6_sheet_35 rfl rfl rfl ?_
      refine sk_if_eq 49 39 dX6_sheet_36 (by decide) rfl (fun hc => ?_) (fun hc => ?_)
      · have h := h.1 hc
        refine sk_iload_n 2 50 dX6_sheet_49 rfl rfl rfl ?_
        refine sk_if_eq 65 53 dX6_sheet_50 (by decide) rfl (fun hc => ?_) (fun hc => ?_)
        · have h := h.1 hc
          refine sk_aload_n 0 66 dX6_sheet_65 rfl rfl rfl ?_
          refine sk_getR (r := 48) 69 dX6_sheet_66 rfl lfX6_39 sc_0 rfl ?_
          refine sk_iload_n 1 70 dX6_sheet_69 rfl rfl rfl ?_
          have hb70 := h.1
          have h := h.2
          refine sk_aald 71 dX6_sheet_70 rfl sc_48 (by decide) hb70 _ rfl (r := (49 + v1.toNatClampNeg)) (sk_sl0 hb70) ?_
          refine sk_iload_n 2 72 dX6_sheet_71 rfl rfl rfl ?_
          refine sk_iload_n 2 73 dX6_sheet_72 rfl rfl rfl ?_
          refine sk_if_ne 80 76 dX6_sheet_73 (by decide) rfl (fun hc => ?_) (fun hc => ?_)
          · have h := h.1 hc
            refine sk_iload_n 3 81 dX6_sheet_80 rfl rfl rfl ?_
            refine sk_callVv [.int v2, .int v3] [] 84 dX6_sheet_81 rfl mfX4_begin lkX6_257 miX4_begin msX4_begin (sk_sheetAt hb70) rfl rfl rfl rfl (by simp [Value.category]) hd0 (sk_Cm h ?_)
            rintro w t81 ⟨hw, h⟩
            refine ⟨hw, ?_⟩
            refine sk_iconst (v := 1) 85 dX6_sheet_84 rfl (by decide) ?_
            exact sk_iret dX6_sheet_85 rfl rfl h
          · have h := h.2 hc
            refine sk_iconst (v := 0) 77 dX6_sheet_76 rfl (by decide) ?_
            refine sk_goto 81 dX6_sheet_77 (by decide) ?_
            refine sk_callVv [.int v2, .int 0] [] 84 dX6_sheet_81 rfl mfX4_begin lkX6_257 miX4_begin msX4_begin (sk_sheetAt hb70) rfl rfl rfl rfl (by simp [Value.category]) hd0 (sk_Cm h ?_)
            rintro w t81 ⟨hw, h⟩
            refine ⟨hw, ?_⟩
            refine sk_iconst (v := 1) 85 dX6_sheet_84 rfl (by decide) ?_
            exact sk_iret dX6_sheet_85 rfl rfl h
        · have h := h.2 hc
          refine sk_iload_n 3 54 dX6_sheet_53 rfl rfl rfl ?_
          refine sk_bipush (v := 24) 56 dX6_sheet_54 rfl (by decide) ?_
          refine sk_icmp_le 65 59 dX6_sheet_56 (by decide) rfl (fun hc => ?_) (fun hc => ?_)
          · have h := h.1 hc
            refine sk_aload_n 0 66 dX6_sheet_65 rfl rfl rfl ?_
            refine sk_getR (r := 48) 69 dX6_sheet_66 rfl lfX6_39 sc_0 rfl ?_
            refine sk_iload_n 1 70 dX6_sheet_69 rfl rfl rfl ?_
            have hb70 := h.1
            have h := h.2
            refine sk_aald 71 dX6_sheet_70 rfl sc_48 (by decide) hb70 _ rfl (r := (49 + v1.toNatClampNeg)) (sk_sl0 hb70) ?_
            refine sk_iload_n 2 72 dX6_sheet_71 rfl rfl rfl ?_
            refine sk_iload_n 2 73 dX6_sheet_72 rfl rfl rfl ?_
            refine sk_if_ne 80 76 dX6_sheet_73 (by decide) rfl (fun hc => ?_) (fun hc => ?_)
            · have h := h.1 hc
              refine sk_iload_n 3 81 dX6_sheet_80 rfl rfl rfl ?_
              refine sk_callVv [.int v2, .int v3] [] 84 dX6_sheet_81 rfl mfX4_begin lkX6_257 miX4_begin msX4_begin (sk_sheetAt hb70) rfl rfl rfl rfl (by simp [Value.category]) hd0 (sk_Cm h ?_)
              rintro w t81 ⟨hw, h⟩
              refine ⟨hw, ?_⟩
              refine sk_iconst (v := 1) 85 dX6_sheet_84 rfl (by decide) ?_
              exact sk_iret dX6_sheet_85 rfl rfl h
            · have h := h.2 hc
              refine sk_iconst (v := 0) 77 dX6_sheet_76 rfl (by decide) ?_
              refine sk_goto 81 dX6_sheet_77 (by decide) ?_
              refine sk_callVv [.int v2, .int 0] [] 84 dX6_sheet_81 rfl mfX4_begin lkX6_257 miX4_begin msX4_begin (sk_sheetAt hb70) rfl rfl rfl rfl (by simp [Value.category]) hd0 (sk_Cm h ?_)
              rintro w t81 ⟨hw, h⟩
              refine ⟨hw, ?_⟩
              refine sk_iconst (v := 1) 85 dX6_sheet_84 rfl (by decide) ?_
              exact sk_iret dX6_sheet_85 rfl rfl h
          · have h := h.2 hc
            refine sk_aload_n 0 60 dX6_sheet_59 rfl rfl rfl ?_
            refine sk_iconst (v := 1) 61 dX6_sheet_60 rfl (by decide) ?_
            refine sk_callVi [.int 1] [] 64 dX6_sheet_61 rfl mfX6_error lkX6_58 miX6_error msX6_error sc_0 rfl rfl rfl rfl (by simp [Value.category]) hd0 (sk_Cm h ?_)
            rintro w t61 ⟨r61, hw, h⟩
            refine ⟨r61, hw, ?_⟩
            exact sk_iret dX6_sheet_64 rfl rfl h
      · have h := h.2 hc
        refine sk_iload_n 3 40 dX6_sheet_39 rfl rfl rfl ?_
        refine sk_if_ge 49 43 dX6_sheet_40 (by decide) rfl (fun hc => ?_) (fun hc => ?_)
        · have h := h.1 hc
          refine sk_iload_n 2 50 dX6_sheet_49 rfl rfl rfl ?_
          refine sk_if_eq 65 53 dX6_sheet_50 (by decide) rfl (fun hc => ?_) (fun hc => ?_)
          · have h := h.1 hc
            refine sk_aload_n 0 66 dX6_sheet_65 rfl rfl rfl ?_
            refine sk_getR (r := 48) 69 dX6_sheet_66 rfl lfX6_39 sc_0 rfl ?_
            refine sk_iload_n 1 70 dX6_sheet_69 rfl rfl rfl ?_
            have hb70 := h.1
            have h := h.2
            refine sk_aald 71 dX6_sheet_70 rfl sc_48 (by decide) hb70 _ rfl (r := (49 + v1.toNatClampNeg)) (sk_sl0 hb70) ?_
            refine sk_iload_n 2 72 dX6_sheet_71 rfl rfl rfl ?_
            refine sk_iload_n 2 73 dX6_sheet_72 rfl rfl rfl ?_
            refine sk_if_ne 80 76 dX6_sheet_73 (by decide) rfl (fun hc => ?_) (fun hc => ?_)
            · have h := h.1 hc
              refine sk_iload_n 3 81 dX6_sheet_80 rfl rfl rfl ?_
              refine sk_callVv [.int v2, .int v3] [] 84 dX6_sheet_81 rfl mfX4_begin lkX6_257 miX4_begin msX4_begin (sk_sheetAt hb70) rfl rfl rfl rfl (by simp [Value.category]) hd0 (sk_Cm h ?_)
              rintro w t81 ⟨hw, h⟩
              refine ⟨hw, ?_⟩
              refine sk_iconst (v := 1) 85 dX6_sheet_84 rfl (by decide) ?_
              exact sk_iret dX6_sheet_85 rfl rfl h
            · have h := h.2 hc
              refine sk_iconst (v := 0) 77 dX6_sheet_76 rfl (by decide) ?_
              refine sk_goto 81 dX6_sheet_77 (by decide) ?_
              refine sk_callVv [.int v2, .int 0] [] 84 dX6_sheet_81 rfl mfX4_begin lkX6_257 miX4_begin msX4_begin (sk_sheetAt hb70) rfl rfl rfl rfl (by simp [Value.category]) hd0 (sk_Cm h ?_)
              rintro w t81 ⟨hw, h⟩
              refine ⟨hw, ?_⟩
              refine sk_iconst (v := 1) 85 dX6_sheet_84 rfl (by decide) ?_
              exact sk_iret dX6_sheet_85 rfl rfl h
          · have h := h.2 hc
            refine sk_iload_n 3 54 dX6_sheet_53 rfl rfl rfl ?_
            refine sk_bipush (v := 24) 56 dX6_sheet_54 rfl (by decide) ?_
            refine sk_icmp_le 65 59 dX6_sheet_56 (by decide) rfl (fun hc => ?_) (fun hc => ?_)
            · have h := h.1 hc
              refine sk_aload_n 0 66 dX6_sheet_65 rfl rfl rfl ?_
              refine sk_getR (r := 48) 69 dX6_sheet_66 rfl lfX6_39 sc_0 rfl ?_
              refine sk_iload_n 1 70 dX6_sheet_69 rfl rfl rfl ?_
              have hb70 := h.1
              have h := h.2
              refine sk_aald 71 dX6_sheet_70 rfl sc_48 (by decide) hb70 _ rfl (r := (49 + v1.toNatClampNeg)) (sk_sl0 hb70) ?_
              refine sk_iload_n 2 72 dX6_sheet_71 rfl rfl rfl ?_
              refine sk_iload_n 2 73 dX6_sheet_72 rfl rfl rfl ?_
              refine sk_if_ne 80 76 dX6_sheet_73 (by decide) rfl (fun hc => ?_) (fun hc => ?_)
              · have h := h.1 hc
                refine sk_iload_n 3 81 dX6_sheet_80 rfl rfl rfl ?_
                refine sk_callVv [.int v2, .int v3] [] 84 dX6_sheet_81 rfl mfX4_begin lkX6_257 miX4_begin msX4_begin (sk_sheetAt hb70) rfl rfl rfl rfl (by simp [Value.category]) hd0 (sk_Cm h ?_)
                rintro w t81 ⟨hw, h⟩
                refine ⟨hw, ?_⟩
                refine sk_iconst (v := 1) 85 dX6_sheet_84 rfl (by decide) ?_
                exact sk_iret dX6_sheet_85 rfl rfl h
              · have h := h.2 hc
                refine sk_iconst (v := 0) 77 dX6_sheet_76 rfl (by decide) ?_
                refine sk_goto 81 dX6_sheet_77 (by decide) ?_
                refine sk_callVv [.int v2, .int 0] [] 84 dX6_sheet_81 rfl mfX4_begin lkX6_257 miX4_begin msX4_begin (sk_sheetAt hb70) rfl rfl rfl rfl (by simp [Value.category]) hd0 (sk_Cm h ?_)
                rintro w t81 ⟨hw, h⟩
                refine ⟨hw, ?_⟩
                refine sk_iconst (v := 1) 85 dX6_sheet_84 rfl (by decide) ?_
                exact sk_iret dX6_sheet_85 rfl rfl h
            · have h := h.2 hc
              refine sk_aload_n 0 60 dX6_sheet_59 rfl rfl rfl ?_
              refine sk_iconst (v := 1) 61 dX6_sheet_60 rfl (by decide) ?_
              refine sk_callVi [.int 1] [] 64 dX6_sheet_61 rfl mfX6_error lkX6_58 miX6_error msX6_error sc_0 rfl rfl rfl rfl (by simp [Value.category]) hd0 (sk_Cm h ?_)
              rintro w t61 ⟨r61, hw, h⟩
              refine ⟨r61, hw, ?_⟩
              exact sk_iret dX6_sheet_64 rfl rfl h
        · have h := h.2 hc
          refine sk_aload_n 0 44 dX6_sheet_43 rfl rfl rfl ?_
          refine sk_iconst (v := 3) 45 dX6_sheet_44 rfl (by decide) ?_
          refine sk_callVi [.int 3] [] 48 dX6_sheet_45 rfl mfX6_error lkX6_58 miX6_error msX6_error sc_0 rfl rfl rfl rfl (by simp [Value.category]) hd0 (sk_Cm h ?_)
          rintro w t45 ⟨r45, hw, h⟩
          refine ⟨r45, hw, ?_⟩
          exact sk_iret dX6_sheet_48 rfl rfl h
    · have h := h.2 hc
      refine sk_iload_n 2 12 dX6_sheet_11 rfl rfl rfl ?_
      refine sk_bipush (v := 8) 14 dX6_sheet_12 rfl (by decide) ?_
      refine sk_icmp_eq 35 17 dX6_sheet_14 (by decide) rfl (fun hc => ?_) (fun hc => ?_)
      · have h := h.1 hc
        refine sk_iload_n 2 36 dX6_sheet_35 rfl rfl rfl ?_
        refine sk_if_eq 49 39 dX6_sheet_36 (by decide) rfl (fun hc => ?_) (fun hc => ?_)
        · have h := h.1 hc
          refine sk_iload_n 2 50 dX6_sheet_49 rfl rfl rfl ?_
          refine sk_if_eq 65 53 dX6_sheet_50 (by decide) rfl (fun hc => ?_) (fun hc => ?_)
          · have h := h.1 hc
            refine sk_aload_n 0 66 dX6_sheet_65 rfl rfl rfl ?_
            refine sk_getR (r := 48) 69 dX6_sheet_66 rfl lfX6_39 sc_0 rfl ?_
            refine sk_iload_n 1 70 dX6_sheet_69 rfl rfl rfl ?_
            have hb70 := h.1
            have h := h.2
            refine sk_aald 71 dX6_sheet_70 rfl sc_48 (by decide) hb70 _ rfl (r := (49 + v1.toNatClampNeg)) (sk_sl0 hb70) ?_
            refine sk_iload_n 2 72 dX6_sheet_71 rfl rfl rfl ?_
            refine sk_iload_n 2 73 dX6_sheet_72 rfl rfl rfl ?_
            refine sk_if_ne 80 76 dX6_sheet_73 (by decide) rfl (fun hc => ?_) (fun hc => ?_)
            · have h := h.1 hc
              refine sk_iload_n 3 81 dX6_sheet_80 rfl rfl rfl ?_
              refine sk_callVv [.int v2, .int v3] [] 84 dX6_sheet_81 rfl mfX4_begin lkX6_257 miX4_begin msX4_begin (sk_sheetAt hb70) rfl rfl rfl rfl (by simp [Value.category]) hd0 (sk_Cm h ?_)
              rintro w t81 ⟨hw, h⟩
              refine ⟨hw, ?_⟩
              refine sk_iconst (v := 1) 85 dX6_sheet_84 rfl (by decide) ?_
              exact sk_iret dX6_sheet_85 rfl rfl h
            · have h := h.2 hc
              refine sk_iconst (v := 0) 77 dX6_sheet_76 rfl (by decide) ?_
              refine sk_goto 81 dX6_sheet_77 (by decide) ?_
              refine sk_callVv [.int v2, .int 0] [] 84 dX6_sheet_81 rfl mfX4_begin lkX6_257 miX4_begin msX4_begin (sk_sheetAt hb70) rfl rfl rfl rfl (by simp [Value.category]) hd0 (sk_Cm h ?_)
              rintro w t81 ⟨hw, h⟩
              refine ⟨hw, ?_⟩
              refine sk_iconst (v := 1) 85 dX6_sheet_84 rfl (by decide) ?_
              exact sk_iret dX6_sheet_85 rfl rfl h
          · have h := h.2 hc
            refine sk_iload_n 3 54 dX6_sheet_53 rfl rfl rfl ?_
            refine sk_bipush (v := 24) 56 dX6_sheet_54 rfl (by decide) ?_
            refine sk_icmp_le 65 59 dX6_sheet_56 (by decide) rfl (fun hc => ?_) (fun hc => ?_)
            · have h := h.1 hc
              refine sk_aload_n 0 66 dX6_sheet_65 rfl rfl rfl ?_
              refine sk_getR (r := 48) 69 dX6_sheet_66 rfl lfX6_39 sc_0 rfl ?_
              refine sk_iload_n 1 70 dX6_sheet_69 rfl rfl rfl ?_
              have hb70 := h.1
              have h := h.2
              refine sk_aald 71 dX6_sheet_70 rfl sc_48 (by decide) hb70 _ rfl (r := (49 + v1.toNatClampNeg)) (sk_sl0 hb70) ?_
              refine sk_iload_n 2 72 dX6_sheet_71 rfl rfl rfl ?_
              refine sk_iload_n 2 73 dX6_sheet_72 rfl rfl rfl ?_
              refine sk_if_ne 80 76 dX6_sheet_73 (by decide) rfl (fun hc => ?_) (fun hc => ?_)
              · have h := h.1 hc
                refine sk_iload_n 3 81 dX6_sheet_80 rfl rfl rfl ?_
                refine sk_callVv [.int v2, .int v3] [] 84 dX6_sheet_81 rfl mfX4_begin lkX6_257 miX4_begin msX4_begin (sk_sheetAt hb70) rfl rfl rfl rfl (by simp [Value.category]) hd0 (sk_Cm h ?_)
                rintro w t81 ⟨hw, h⟩
                refine ⟨hw, ?_⟩
                refine sk_iconst (v := 1) 85 dX6_sheet_84 rfl (by decide) ?_
                exact sk_iret dX6_sheet_85 rfl rfl h
              · have h := h.2 hc
                refine sk_iconst (v := 0) 77 dX6_sheet_76 rfl (by decide) ?_
                refine sk_goto 81 dX6_sheet_77 (by decide) ?_
                refine sk_callVv [.int v2, .int 0] [] 84 dX6_sheet_81 rfl mfX4_begin lkX6_257 miX4_begin msX4_begin (sk_sheetAt hb70) rfl rfl rfl rfl (by simp [Value.category]) hd0 (sk_Cm h ?_)
                rintro w t81 ⟨hw, h⟩
                refine ⟨hw, ?_⟩
                refine sk_iconst (v := 1) 85 dX6_sheet_84 rfl (by decide) ?_
                exact sk_iret dX6_sheet_85 rfl rfl h
            · have h := h.2 hc
              refine sk_aload_n 0 60 dX6_sheet_59 rfl rfl rfl ?_
              refine sk_iconst (v := 1) 61 dX6_sheet_60 rfl (by decide) ?_
              refine sk_callVi [.int 1] [] 64 dX6_sheet_61 rfl mfX6_error lkX6_58 miX6_error msX6_error sc_0 rfl rfl rfl rfl (by simp [Value.category]) hd0 (sk_Cm h ?_)
              rintro w t61 ⟨r61, hw, h⟩
              refine ⟨r61, hw, ?_⟩
              exact sk_iret dX6_sheet_64 rfl rfl h
        · have h := h.2 hc
          refine sk_iload_n 3 40 dX6_sheet_39 rfl rfl rfl ?_
          refine sk_if_ge 49 43 dX6_sheet_40 (by decide) rfl (fun hc => ?_) (fun hc => ?_)
          · have h := h.1 hc
            refine sk_iload_n 2 50 dX6_sheet_49 rfl rfl rfl ?_
            refine sk_if_eq 65 53 dX6_sheet_50 (by decide) rfl (fun hc => ?_) (fun hc => ?_)
            · have h := h.1 hc
              refine sk_aload_n 0 66 dX6_sheet_65 rfl rfl rfl ?_
              refine sk_getR (r := 48) 69 dX6_sheet_66 rfl lfX6_39 sc_0 rfl ?_
              refine sk_iload_n 1 70 dX6_sheet_69 rfl rfl rfl ?_
              have hb70 := h.1
              have h := h.2
              refine sk_aald 71 dX6_sheet_70 rfl sc_48 (by decide) hb70 _ rfl (r := (49 + v1.toNatClampNeg)) (sk_sl0 hb70) ?_
              refine sk_iload_n 2 72 dX6_sheet_71 rfl rfl rfl ?_
              refine sk_iload_n 2 73 dX6_sheet_72 rfl rfl rfl ?_
              refine sk_if_ne 80 76 dX6_sheet_73 (by decide) rfl (fun hc => ?_) (fun hc => ?_)
              · have h := h.1 hc
                refine sk_iload_n 3 81 dX6_sheet_80 rfl rfl rfl ?_
                refine sk_callVv [.int v2, .int v3] [] 84 dX6_sheet_81 rfl mfX4_begin lkX6_257 miX4_begin msX4_begin (sk_sheetAt hb70) rfl rfl rfl rfl (by simp [Value.category]) hd0 (sk_Cm h ?_)
                rintro w t81 ⟨hw, h⟩
                refine ⟨hw, ?_⟩
                refine sk_iconst (v := 1) 85 dX6_sheet_84 rfl (by decide) ?_
                exact sk_iret dX6_sheet_85 rfl rfl h
              · have h := h.2 hc
                refine sk_iconst (v := 0) 77 dX6_sheet_76 rfl (by decide) ?_
                refine sk_goto 81 dX6_sheet_77 (by decide) ?_
                refine sk_callVv [.int v2, .int 0] [] 84 dX6_sheet_81 rfl mfX4_begin lkX6_257 miX4_begin msX4_begin (sk_sheetAt hb70) rfl rfl rfl rfl (by simp [Value.category]) hd0 (sk_Cm h ?_)
                rintro w t81 ⟨hw, h⟩
                refine ⟨hw, ?_⟩
                refine sk_iconst (v := 1) 85 dX6_sheet_84 rfl (by decide) ?_
                exact sk_iret dX6_sheet_85 rfl rfl h
            · have h := h.2 hc
              refine sk_iload_n 3 54 dX6_sheet_53 rfl rfl rfl ?_
              refine sk_bipush (v := 24) 56 dX6_sheet_54 rfl (by decide) ?_
              refine sk_icmp_le 65 59 dX6_sheet_56 (by decide) rfl (fun hc => ?_) (fun hc => ?_)
              · have h := h.1 hc
                refine sk_aload_n 0 66 dX6_sheet_65 rfl rfl rfl ?_
                refine sk_getR (r := 48) 69 dX6_sheet_66 rfl lfX6_39 sc_0 rfl ?_
                refine sk_iload_n 1 70 dX6_sheet_69 rfl rfl rfl ?_
                have hb70 := h.1
                have h := h.2
                refine sk_aald 71 dX6_sheet_70 rfl sc_48 (by decide) hb70 _ rfl (r := (49 + v1.toNatClampNeg)) (sk_sl0 hb70) ?_
                refine sk_iload_n 2 72 dX6_sheet_71 rfl rfl rfl ?_
                refine sk_iload_n 2 73 dX6_sheet_72 rfl rfl rfl ?_
                refine sk_if_ne 80 76 dX6_sheet_73 (by decide) rfl (fun hc => ?_) (fun hc => ?_)
                · have h := h.1 hc
                  refine sk_iload_n 3 81 dX6_sheet_80 rfl rfl rfl ?_
                  refine sk_callVv [.int v2, .int v3] [] 84 dX6_sheet_81 rfl mfX4_begin lkX6_257 miX4_begin msX4_begin (sk_sheetAt hb70) rfl rfl rfl rfl (by simp [Value.category]) hd0 (sk_Cm h ?_)
                  rintro w t81 ⟨hw, h⟩
                  refine ⟨hw, ?_⟩
                  refine sk_iconst (v := 1) 85 dX6_sheet_84 rfl (by decide) ?_
                  exact sk_iret dX6_sheet_85 rfl rfl h
                · have h := h.2 hc
                  refine sk_iconst (v := 0) 77 dX6_sheet_76 rfl (by decide) ?_
                  refine sk_goto 81 dX6_sheet_77 (by decide) ?_
                  refine sk_callVv [.int v2, .int 0] [] 84 dX6_sheet_81 rfl mfX4_begin lkX6_257 miX4_begin msX4_begin (sk_sheetAt hb70) rfl rfl rfl rfl (by simp [Value.category]) hd0 (sk_Cm h ?_)
                  rintro w t81 ⟨hw, h⟩
                  refine ⟨hw, ?_⟩
                  refine sk_iconst (v := 1) 85 dX6_sheet_84 rfl (by decide) ?_
                  exact sk_iret dX6_sheet_85 rfl rfl h
              · have h := h.2 hc
                refine sk_aload_n 0 60 dX6_sheet_59 rfl rfl rfl ?_
                refine sk_iconst (v := 1) 61 dX6_sheet_60 rfl (by decide) ?_
                refine sk_callVi [.int 1] [] 64 dX6_sheet_61 rfl mfX6_error lkX6_58 miX6_error msX6_error sc_0 rfl rfl rfl rfl (by simp [Value.category]) hd0 (sk_Cm h ?_)
                rintro w t61 ⟨r61, hw, h⟩
                refine ⟨r61, hw, ?_⟩
                exact sk_iret dX6_sheet_64 rfl rfl h
          · have h := h.2 hc
            refine sk_aload_n 0 44 dX6_sheet_43 rfl rfl rfl ?_
            refine sk_iconst (v := 3) 45 dX6_sheet_44 rfl (by decide) ?_
            refine sk_callVi [.int 3] [] 48 dX6_sheet_45 rfl mfX6_error lkX6_58 miX6_error msX6_error sc_0 rfl rfl rfl rfl (by simp [Value.category]) hd0 (sk_Cm h ?_)
            rintro w t45 ⟨r45, hw, h⟩
            refine ⟨r45, hw, ?_⟩
            exact sk_iret dX6_sheet_48 rfl rfl h
      · have h := h.2 hc
        refine sk_iload_n 2 18 dX6_sheet_17 rfl rfl rfl ?_
        refine sk_bipush (v := 16) 20 dX6_sheet_18 rfl (by decide) ?_
        refine sk_icmp_eq 35 23 dX6_sheet_20 (by decide) rfl (fun hc => ?_) (fun hc => ?_)
        · have h := h.1 hc
          refine sk_iload_n 2 36 dX6_sheet_35 rfl rfl rfl ?_
          refine sk_if_eq 49 39 dX6_sheet_36 (by decide) rfl (fun hc => ?_) (fun hc => ?_)
          · have h := h.1 hc
            refine sk_iload_n 2 50 dX6_sheet_49 rfl rfl rfl ?_
            refine sk_if_eq 65 53 dX6_sheet_50 (by decide) rfl (fun hc => ?_) (fun hc => ?_)
            · have h := h.1 hc
              refine sk_aload_n 0 66 dX6_sheet_65 rfl rfl rfl ?_
              refine sk_getR (r := 48) 69 dX6_sheet_66 rfl lfX6_39 sc_0 rfl ?_
              refine sk_iload_n 1 70 dX6_sheet_69 rfl rfl rfl ?_
              have hb70 := h.1
              have h := h.2
              refine sk_aald 71 dX6_sheet_70 rfl sc_48 (by decide) hb70 _ rfl (r := (49 + v1.toNatClampNeg)) (sk_sl0 hb70) ?_
              refine sk_iload_n 2 72 dX6_sheet_71 rfl rfl rfl ?_
              refine sk_iload_n 2 73 dX6_sheet_72 rfl rfl rfl ?_
              refine sk_if_ne 80 76 dX6_sheet_73 (by decide) rfl (fun hc => ?_) (fun hc => ?_)
              · have h := h.1 hc
                refine sk_iload_n 3 81 dX6_sheet_80 rfl rfl rfl ?_
                refine sk_callVv [.int v2, .int v3] [] 84 dX6_sheet_81 rfl mfX4_begin lkX6_257 miX4_begin msX4_begin (sk_sheetAt hb70) rfl rfl rfl rfl (by simp [Value.category]) hd0 (sk_Cm h ?_)
                rintro w t81 ⟨hw, h⟩
                refine ⟨hw, ?_⟩
                refine sk_iconst (v := 1) 85 dX6_sheet_84 rfl (by decide) ?_
                exact sk_iret dX6_sheet_85 rfl rfl h
              · have h := h.2 hc
                refine sk_iconst (v := 0) 77 dX6_sheet_76 rfl (by decide) ?_
                refine sk_goto 81 dX6_sheet_77 (by decide) ?_
                refine sk_callVv [.int v2, .int 0] [] 84 dX6_sheet_81 rfl mfX4_begin lkX6_257 miX4_begin msX4_begin (sk_sheetAt hb70) rfl rfl rfl rfl (by simp [Value.category]) hd0 (sk_Cm h ?_)
                rintro w t81 ⟨hw, h⟩
                refine ⟨hw, ?_⟩
                refine sk_iconst (v := 1) 85 dX6_sheet_84 rfl (by decide) ?_
                exact sk_iret dX6_sheet_85 rfl rfl h
            · have h := h.2 hc
              refine sk_iload_n 3 54 dX6_sheet_53 rfl rfl rfl ?_
              refine sk_bipush (v := 24) 56 dX6_sheet_54 rfl (by decide) ?_
              refine sk_icmp_le 65 59 dX6_sheet_56 (by decide) rfl (fun hc => ?_) (fun hc => ?_)
              · have h := h.1 hc
                refine sk_aload_n 0 66 dX6_sheet_65 rfl rfl rfl ?_
                refine sk_getR (r := 48) 69 dX6_sheet_66 rfl lfX6_39 sc_0 rfl ?_
                refine sk_iload_n 1 70 dX6_sheet_69 rfl rfl rfl ?_
                have hb70 := h.1
                have h := h.2
                refine sk_aald 71 dX6_sheet_70 rfl sc_48 (by decide) hb70 _ rfl (r := (49 + v1.toNatClampNeg)) (sk_sl0 hb70) ?_
                refine sk_iload_n 2 72 dX6_sheet_71 rfl rfl rfl ?_
                refine sk_iload_n 2 73 dX6_sheet_72 rfl rfl rfl ?_
                refine sk_if_ne 80 76 dX6_sheet_73 (by decide) rfl (fun hc => ?_) (fun hc => ?_)
                · have h := h.1 hc
                  refine sk_iload_n 3 81 dX6_sheet_80 rfl rfl rfl ?_
                  refine sk_callVv [.int v2, .int v3] [] 84 dX6_sheet_81 rfl mfX4_begin lkX6_257 miX4_begin msX4_begin (sk_sheetAt hb70) rfl rfl rfl rfl (by simp [Value.category]) hd0 (sk_Cm h ?_)
                  rintro w t81 ⟨hw, h⟩
                  refine ⟨hw, ?_⟩
                  refine sk_iconst (v := 1) 85 dX6_sheet_84 rfl (by decide) ?_
                  exact sk_iret dX6_sheet_85 rfl rfl h
                · have h := h.2 hc
                  refine sk_iconst (v := 0) 77 dX6_sheet_76 rfl (by decide) ?_
                  refine sk_goto 81 dX6_sheet_77 (by decide) ?_
                  refine sk_callVv [.int v2, .int 0] [] 84 dX6_sheet_81 rfl mfX4_begin lkX6_257 miX4_begin msX4_begin (sk_sheetAt hb70) rfl rfl rfl rfl (by simp [Value.category]) hd0 (sk_Cm h ?_)
                  rintro w t81 ⟨hw, h⟩
                  refine ⟨hw, ?_⟩
                  refine sk_iconst (v := 1) 85 dX6_sheet_84 rfl (by decide) ?_
                  exact sk_iret dX6_sheet_85 rfl rfl h
              · have h := h.2 hc
                refine sk_aload_n 0 60 dX6_sheet_59 rfl rfl rfl ?_
                refine sk_iconst (v := 1) 61 dX6_sheet_60 rfl (by decide) ?_
                refine sk_callVi [.int 1] [] 64 dX6_sheet_61 rfl mfX6_error lkX6_58 miX6_error msX6_error sc_0 rfl rfl rfl rfl (by simp [Value.category]) hd0 (sk_Cm h ?_)
                rintro w t61 ⟨r61, hw, h⟩
                refine ⟨r61, hw, ?_⟩
                exact sk_iret dX6_sheet_64 rfl rfl h
          · have h := h.2 hc
            refine sk_iload_n 3 40 dX6_sheet_39 rfl rfl rfl ?_
            refine sk_if_ge 49 43 dX6_sheet_40 (by decide) rfl (fun hc => ?_) (fun hc => ?_)
            · have h := h.1 hc
              refine sk_iload_n 2 50 dX6_sheet_49 rfl rfl rfl ?_
              refine sk_if_eq 65 53 dX6_sheet_50 (by decide) rfl (fun hc => ?_) (fun hc => ?_)
              · have h := h.1 hc
                refine sk_aload_n 0 66 dX6_sheet_65 rfl rfl rfl ?_
                refine sk_getR (r := 48) 69 dX6_sheet_66 rfl lfX6_39 sc_0 rfl ?_
                refine sk_iload_n 1 70 dX6_sheet_69 rfl rfl rfl ?_
                have hb70 := h.1
                have h := h.2
                refine sk_aald 71 dX6_sheet_70 rfl sc_48 (by decide) hb70 _ rfl (r := (49 + v1.toNatClampNeg)) (sk_sl0 hb70) ?_
                refine sk_iload_n 2 72 dX6_sheet_71 rfl rfl rfl ?_
                refine sk_iload_n 2 73 dX6_sheet_72 rfl rfl rfl ?_
                refine sk_if_ne 80 76 dX6_sheet_73 (by decide) rfl (fun hc => ?_) (fun hc => ?_)
                · have h := h.1 hc
                  refine sk_iload_n 3 81 dX6_sheet_80 rfl rfl rfl ?_
                  refine sk_callVv [.int v2, .int v3] [] 84 dX6_sheet_81 rfl mfX4_begin lkX6_257 miX4_begin msX4_begin (sk_sheetAt hb70) rfl rfl rfl rfl (by simp [Value.category]) hd0 (sk_Cm h ?_)
                  rintro w t81 ⟨hw, h⟩
                  refine ⟨hw, ?_⟩
                  refine sk_iconst (v := 1) 85 dX6_sheet_84 rfl (by decide) ?_
                  exact sk_iret dX6_sheet_85 rfl rfl h
                · have h := h.2 hc
                  refine sk_iconst (v := 0) 77 dX6_sheet_76 rfl (by decide) ?_
                  refine sk_goto 81 dX6_sheet_77 (by decide) ?_
                  refine sk_callVv [.int v2, .int 0] [] 84 dX6_sheet_81 rfl mfX4_begin lkX6_257 miX4_begin msX4_begin (sk_sheetAt hb70) rfl rfl rfl rfl (by simp [Value.category]) hd0 (sk_Cm h ?_)
                  rintro w t81 ⟨hw, h⟩
                  refine ⟨hw, ?_⟩
                  refine sk_iconst (v := 1) 85 dX6_sheet_84 rfl (by decide) ?_
                  exact sk_iret dX6_sheet_85 rfl rfl h
              · have h := h.2 hc
                refine sk_iload_n 3 54 dX6_sheet_53 rfl rfl rfl ?_
                refine sk_bipush (v := 24) 56 dX6_sheet_54 rfl (by decide) ?_
                refine sk_icmp_le 65 59 dX6_sheet_56 (by decide) rfl (fun hc => ?_) (fun hc => ?_)
                · have h := h.1 hc
                  refine sk_aload_n 0 66 dX6_sheet_65 rfl rfl rfl ?_
                  refine sk_getR (r := 48) 69 dX6_sheet_66 rfl lfX6_39 sc_0 rfl ?_
                  refine sk_iload_n 1 70 dX6_sheet_69 rfl rfl rfl ?_
                  have hb70 := h.1
                  have h := h.2
                  refine sk_aald 71 dX6_sheet_70 rfl sc_48 (by decide) hb70 _ rfl (r := (49 + v1.toNatClampNeg)) (sk_sl0 hb70) ?_
                  refine sk_iload_n 2 72 dX6_sheet_71 rfl rfl rfl ?_
                  refine sk_iload_n 2 73 dX6_sheet_72 rfl rfl rfl ?_
                  refine sk_if_ne 80 76 dX6_sheet_73 (by decide) rfl (fun hc => ?_) (fun hc => ?_)
                  · have h := h.1 hc
                    refine sk_iload_n 3 81 dX6_sheet_80 rfl rfl rfl ?_
                    refine sk_callVv [.int v2, .int v3] [] 84 dX6_sheet_81 rfl mfX4_begin lkX6_257 miX4_begin msX4_begin (sk_sheetAt hb70) rfl rfl rfl rfl (by simp [Value.category]) hd0 (sk_Cm h ?_)
                    rintro w t81 ⟨hw, h⟩
                    refine ⟨hw, ?_⟩
                    refine sk_iconst (v := 1) 85 dX6_sheet_84 rfl (by decide) ?_
                    exact sk_iret dX6_sheet_85 rfl rfl h
                  · have h := h.2 hc
                    refine sk_iconst (v := 0) 77 dX6_sheet_76 rfl (by decide) ?_
                    refine sk_goto 81 dX6_sheet_77 (by decide) ?_
                    refine sk_callVv [.int v2, .int 0] [] 84 dX6_sheet_81 rfl mfX4_begin lkX6_257 miX4_begin msX4_begin (sk_sheetAt hb70) rfl rfl rfl rfl (by simp [Value.category]) hd0 (sk_Cm h ?_)
                    rintro w t81 ⟨hw, h⟩
                    refine ⟨hw, ?_⟩
                    refine sk_iconst (v := 1) 85 dX6_sheet_84 rfl (by decide) ?_
                    exact sk_iret dX6_sheet_85 rfl rfl h
                · have h := h.2 hc
                  refine sk_aload_n 0 60 dX6_sheet_59 rfl rfl rfl ?_
                  refine sk_iconst (v := 1) 61 dX6_sheet_60 rfl (by decide) ?_
                  refine sk_callVi [.int 1] [] 64 dX6_sheet_61 rfl mfX6_error lkX6_58 miX6_error msX6_error sc_0 rfl rfl rfl rfl (by simp [Value.category]) hd0 (sk_Cm h ?_)
                  rintro w t61 ⟨r61, hw, h⟩
                  refine ⟨r61, hw, ?_⟩
                  exact sk_iret dX6_sheet_64 rfl rfl h
            · have h := h.2 hc
              refine sk_aload_n 0 44 dX6_sheet_43 rfl rfl rfl ?_
              refine sk_iconst (v := 3) 45 dX6_sheet_44 rfl (by decide) ?_
              refine sk_callVi [.int 3] [] 48 dX6_sheet_45 rfl mfX6_error lkX6_58 miX6_error msX6_error sc_0 rfl rfl rfl rfl (by simp [Value.category]) hd0 (sk_Cm h ?_)
              rintro w t45 ⟨r45, hw, h⟩
              refine ⟨r45, hw, ?_⟩
              exact sk_iret dX6_sheet_48 rfl rfl h
        · have h := h.2 hc
          refine sk_iload_n 2 24 dX6_sheet_23 rfl rfl rfl ?_
          refine sk_bipush (v := 32) 26 dX6_sheet_24 rfl (by decide) ?_
          refine sk_icmp_eq 35 29 dX6_sheet_26 (by decide) rfl (fun hc => ?_) (fun hc => ?_)
          · have h := h.1 hc
            refine sk_iload_n 2 36 dX6_sheet_35 rfl rfl rfl ?_
            refine sk_if_eq 49 39 dX6_sheet_36 (by decide) rfl (fun hc => ?_) (fun hc => ?_)
            · have h := h.1 hc
              refine sk_iload_n 2 50 dX6_sheet_49 rfl rfl rfl ?_
              refine sk_if_eq 65 53 dX6_sheet_50 (by decide) rfl (fun hc => ?_) (fun hc => ?_)
              · have h := h.1 hc
                refine sk_aload_n 0 66 dX6_sheet_65 rfl rfl rfl ?_
                refine sk_getR (r := 48) 69 dX6_sheet_66 rfl lfX6_39 sc_0 rfl ?_
                refine sk_iload_n 1 70 dX6_sheet_69 rfl rfl rfl ?_
                have hb70 := h.1
                have h := h.2
                refine sk_aald 71 dX6_sheet_70 rfl sc_48 (by decide) hb70 _ rfl (r := (49 + v1.toNatClampNeg)) (sk_sl0 hb70) ?_
                refine sk_iload_n 2 72 dX6_sheet_71 rfl rfl rfl ?_
                refine sk_iload_n 2 73 dX6_sheet_72 rfl rfl rfl ?_
                refine sk_if_ne 80 76 dX6_sheet_73 (by decide) rfl (fun hc => ?_) (fun hc => ?_)
                · have h := h.1 hc
                  refine sk_iload_n 3 81 dX6_sheet_80 rfl rfl rfl ?_
                  refine sk_callVv [.int v2, .int v3] [] 84 dX6_sheet_81 rfl mfX4_begin lkX6_257 miX4_begin msX4_begin (sk_sheetAt hb70) rfl rfl rfl rfl (by simp [Value.category]) hd0 (sk_Cm h ?_)
                  rintro w t81 ⟨hw, h⟩
                  refine ⟨hw, ?_⟩
                  refine sk_iconst (v := 1) 85 dX6_sheet_84 rfl (by decide) ?_
                  exact sk_iret dX6_sheet_85 rfl rfl h
                · have h := h.2 hc
                  refine sk_iconst (v := 0) 77 dX6_sheet_76 rfl (by decide) ?_
                  refine sk_goto 81 dX6_sheet_77 (by decide) ?_
                  refine sk_callVv [.int v2, .int 0] [] 84 dX6_sheet_81 rfl mfX4_begin lkX6_257 miX4_begin msX4_begin (sk_sheetAt hb70) rfl rfl rfl rfl (by simp [Value.category]) hd0 (sk_Cm h ?_)
                  rintro w t81 ⟨hw, h⟩
                  refine ⟨hw, ?_⟩
                  refine sk_iconst (v := 1) 85 dX6_sheet_84 rfl (by decide) ?_
                  exact sk_iret dX6_sheet_85 rfl rfl h
              · have h := h.2 hc
                refine sk_iload_n 3 54 dX6_sheet_53 rfl rfl rfl ?_
                refine sk_bipush (v := 24) 56 dX6_sheet_54 rfl (by decide) ?_
                refine sk_icmp_le 65 59 dX6_sheet_56 (by decide) rfl (fun hc => ?_) (fun hc => ?_)
                · have h := h.1 hc
                  refine sk_aload_n 0 66 dX6_sheet_65 rfl rfl rfl ?_
                  refine sk_getR (r := 48) 69 dX6_sheet_66 rfl lfX6_39 sc_0 rfl ?_
                  refine sk_iload_n 1 70 dX6_sheet_69 rfl rfl rfl ?_
                  have hb70 := h.1
                  have h := h.2
                  refine sk_aald 71 dX6_sheet_70 rfl sc_48 (by decide) hb70 _ rfl (r := (49 + v1.toNatClampNeg)) (sk_sl0 hb70) ?_
                  refine sk_iload_n 2 72 dX6_sheet_71 rfl rfl rfl ?_
                  refine sk_iload_n 2 73 dX6_sheet_72 rfl rfl rfl ?_
                  refine sk_if_ne 80 76 dX6_sheet_73 (by decide) rfl (fun hc => ?_) (fun hc => ?_)
                  · have h := h.1 hc
                    refine sk_iload_n 3 81 dX6_sheet_80 rfl rfl rfl ?_
                    refine sk_callVv [.int v2, .int v3] [] 84 dX6_sheet_81 rfl mfX4_begin lkX6_257 miX4_begin msX4_begin (sk_sheetAt hb70) rfl rfl rfl rfl (by simp [Value.category]) hd0 (sk_Cm h ?_)
                    rintro w t81 ⟨hw, h⟩
                    refine ⟨hw, ?_⟩
                    refine sk_iconst (v := 1) 85 dX6_sheet_84 rfl (by decide) ?_
                    exact sk_iret dX6_sheet_85 rfl rfl h
                  · have h := h.2 hc
                    refine sk_iconst (v := 0) 77 dX6_sheet_76 rfl (by decide) ?_
                    refine sk_goto 81 dX6_sheet_77 (by decide) ?_
                    refine sk_callVv [.int v2, .int 0] [] 84 dX6_sheet_81 rfl mfX4_begin lkX6_257 miX4_begin msX4_begin (sk_sheetAt hb70) rfl rfl rfl rfl (by simp [Value.category]) hd0 (sk_Cm h ?_)
                    rintro w t81 ⟨hw, h⟩
                    refine ⟨hw, ?_⟩
                    refine sk_iconst (v := 1) 85 dX6_sheet_84 rfl (by decide) ?_
                    exact sk_iret dX6_sheet_85 rfl rfl h
                · have h := h.2 hc
                  refine sk_aload_n 0 60 dX6_sheet_59 rfl rfl rfl ?_
                  refine sk_iconst (v := 1) 61 dX6_sheet_60 rfl (by decide) ?_
                  refine sk_callVi [.int 1] [] 64 dX6_sheet_61 rfl mfX6_error lkX6_58 miX6_error msX6_error sc_0 rfl rfl rfl rfl (by simp [Value.category]) hd0 (sk_Cm h ?_)
                  rintro w t61 ⟨r61, hw, h⟩
                  refine ⟨r61, hw, ?_⟩
                  exact sk_iret dX6_sheet_64 rfl rfl h
            · have h := h.2 hc
              refine sk_iload_n 3 40 dX6_sheet_39 rfl rfl rfl ?_
              refine sk_if_ge 49 43 dX6_sheet_40 (by decide) rfl (fun hc => ?_) (fun hc => ?_)
              · have h := h.1 hc
                refine sk_iload_n 2 50 dX6_sheet_49 rfl rfl rfl ?_
                refine sk_if_eq 65 53 dX6_sheet_50 (by decide) rfl (fun hc => ?_) (fun hc => ?_)
                · have h := h.1 hc
                  refine sk_aload_n 0 66 dX6_sheet_65 rfl rfl rfl ?_
                  refine sk_getR (r := 48) 69 dX6_sheet_66 rfl lfX6_39 sc_0 rfl ?_
                  refine sk_iload_n 1 70 dX6_sheet_69 rfl rfl rfl ?_
                  have hb70 := h.1
                  have h := h.2
                  refine sk_aald 71 dX6_sheet_70 rfl sc_48 (by decide) hb70 _ rfl (r := (49 + v1.toNatClampNeg)) (sk_sl0 hb70) ?_
                  refine sk_iload_n 2 72 dX6_sheet_71 rfl rfl rfl ?_
                  refine sk_iload_n 2 73 dX6_sheet_72 rfl rfl rfl ?_
                  refine sk_if_ne 80 76 dX6_sheet_73 (by decide) rfl (fun hc => ?_) (fun hc => ?_)
                  · have h := h.1 hc
                    refine sk_iload_n 3 81 dX6_sheet_80 rfl rfl rfl ?_
                    refine sk_callVv [.int v2, .int v3] [] 84 dX6_sheet_81 rfl mfX4_begin lkX6_257 miX4_begin msX4_begin (sk_sheetAt hb70) rfl rfl rfl rfl (by simp [Value.category]) hd0 (sk_Cm h ?_)
                    rintro w t81 ⟨hw, h⟩
                    refine ⟨hw, ?_⟩
                    refine sk_iconst (v := 1) 85 dX6_sheet_84 rfl (by decide) ?_
                    exact sk_iret dX6_sheet_85 rfl rfl h
                  · have h := h.2 hc
                    refine sk_iconst (v := 0) 77 dX6_sheet_76 rfl (by decide) ?_
                    refine sk_goto 81 dX6_sheet_77 (by decide) ?_
                    refine sk_callVv [.int v2, .int 0] [] 84 dX6_sheet_81 rfl mfX4_begin lkX6_257 miX4_begin msX4_begin (sk_sheetAt hb70) rfl rfl rfl rfl (by simp [Value.category]) hd0 (sk_Cm h ?_)
                    rintro w t81 ⟨hw, h⟩
                    refine ⟨hw, ?_⟩
                    refine sk_iconst (v := 1) 85 dX6_sheet_84 rfl (by decide) ?_
                    exact sk_iret dX6_sheet_85 rfl rfl h
                · have h := h.2 hc
                  refine sk_iload_n 3 54 dX6_sheet_53 rfl rfl rfl ?_
                  refine sk_bipush (v := 24) 56 dX6_sheet_54 rfl (by decide) ?_
                  refine sk_icmp_le 65 59 dX6_sheet_56 (by decide) rfl (fun hc => ?_) (fun hc => ?_)
                  · have h := h.1 hc
                    refine sk_aload_n 0 66 dX6_sheet_65 rfl rfl rfl ?_
                    refine sk_getR (r := 48) 69 dX6_sheet_66 rfl lfX6_39 sc_0 rfl ?_
                    refine sk_iload_n 1 70 dX6_sheet_69 rfl rfl rfl ?_
                    have hb70 := h.1
                    have h := h.2
                    refine sk_aald 71 dX6_sheet_70 rfl sc_48 (by decide) hb70 _ rfl (r := (49 + v1.toNatClampNeg)) (sk_sl0 hb70) ?_
                    refine sk_iload_n 2 72 dX6_sheet_71 rfl rfl rfl ?_
                    refine sk_iload_n 2 73 dX6_sheet_72 rfl rfl rfl ?_
                    refine sk_if_ne 80 76 dX6_sheet_73 (by decide) rfl (fun hc => ?_) (fun hc => ?_)
                    · have h := h.1 hc
                      refine sk_iload_n 3 81 dX6_sheet_80 rfl rfl rfl ?_
                      refine sk_callVv [.int v2, .int v3] [] 84 dX6_sheet_81 rfl mfX4_begin lkX6_257 miX4_begin msX4_begin (sk_sheetAt hb70) rfl rfl rfl rfl (by simp [Value.category]) hd0 (sk_Cm h ?_)
                      rintro w t81 ⟨hw, h⟩
                      refine ⟨hw, ?_⟩
                      refine sk_iconst (v := 1) 85 dX6_sheet_84 rfl (by decide) ?_
                      exact sk_iret dX6_sheet_85 rfl rfl h
                    · have h := h.2 hc
                      refine sk_iconst (v := 0) 77 dX6_sheet_76 rfl (by decide) ?_
                      refine sk_goto 81 dX6_sheet_77 (by decide) ?_
                      refine sk_callVv [.int v2, .int 0] [] 84 dX6_sheet_81 rfl mfX4_begin lkX6_257 miX4_begin msX4_begin (sk_sheetAt hb70) rfl rfl rfl rfl (by simp [Value.category]) hd0 (sk_Cm h ?_)
                      rintro w t81 ⟨hw, h⟩
                      refine ⟨hw, ?_⟩
                      refine sk_iconst (v := 1) 85 dX6_sheet_84 rfl (by decide) ?_
                      exact sk_iret dX6_sheet_85 rfl rfl h
                  · have h := h.2 hc
                    refine sk_aload_n 0 60 dX6_sheet_59 rfl rfl rfl ?_
                    refine sk_iconst (v := 1) 61 dX6_sheet_60 rfl (by decide) ?_
                    refine sk_callVi [.int 1] [] 64 dX6_sheet_61 rfl mfX6_error lkX6_58 miX6_error msX6_error sc_0 rfl rfl rfl rfl (by simp [Value.category]) hd0 (sk_Cm h ?_)
                    rintro w t61 ⟨r61, hw, h⟩
                    refine ⟨r61, hw, ?_⟩
                    exact sk_iret dX6_sheet_64 rfl rfl h
              · have h := h.2 hc
                refine sk_aload_n 0 44 dX6_sheet_43 rfl rfl rfl ?_
                refine sk_iconst (v := 3) 45 dX6_sheet_44 rfl (by decide) ?_
                refine sk_callVi [.int 3] [] 48 dX6_sheet_45 rfl mfX6_error lkX6_58 miX6_error msX6_error sc_0 rfl rfl rfl rfl (by simp [Value.category]) hd0 (sk_Cm h ?_)
                rintro w t45 ⟨r45, hw, h⟩
                refine ⟨r45, hw, ?_⟩
                exact sk_iret dX6_sheet_48 rfl rfl h
          · have h := h.2 hc
            refine sk_aload_n 0 30 dX6_sheet_29 rfl rfl rfl ?_
            refine sk_iconst (v := 1) 31 dX6_sheet_30 rfl (by decide) ?_
            refine sk_callVi [.int 1] [] 34 dX6_sheet_31 rfl mfX6_error lkX6_58 miX6_error msX6_error sc_0 rfl rfl rfl rfl (by simp [Value.category]) hd0 (sk_Cm h ?_)
            rintro w t31 ⟨r31, hw, h⟩
            refine ⟨r31, hw, ?_⟩
            exact sk_iret dX6_sheet_34 rfl rfl h

theorem wX6_put {d : Nat} {τ : sk_T} {K : sk_K} {v1 : Int32} {v2 : Int32} {v3 : Int32} (hd0 : 0 < d)
  (h : sk_C sk_Sc (d - 1) mX6_isSheet [.int v1] τ (fun w t1 => ∃ r1 : Int32, w = some (.int r1) ∧
      ((¬ r1 = 0 →
        vp_in v1 4 ∧
        sk_C sk_Sc (d - 1) mX4_isMissing [.ref (49 + v1.toNatClampNeg)] t1 (fun w t19 => ∃ r19 : Int32, w = some (.int r19) ∧
          ((r19 = 0 →
            ((v2 < 0 →
              sk_C sk_Sc (d - 1) mX6_error [.ref 0, .int 1] t19 (fun w t50 => ∃ r50 : Int32, w = some (.int r50) ∧
                K (some (.int r50)) t50
              )
            ) ∧
            (¬ v2 < 0 →
              vp_in v1 4 ∧
              ((v2 < (t19 (49 + v1.toNatClampNeg) 1) →
                vp_in v1 4 ∧
                sk_C sk_Sc (d - 1) mX4_write [.ref (49 + v1.toNatClampNeg), .int v2, .int v3] t19 (fun w t62 => w = none ∧
                  K (some (.int 1)) t62
                )
              ) ∧
              (¬ v2 < (t19 (49 + v1.toNatClampNeg) 1) →
                sk_C sk_Sc (d - 1) mX6_error [.ref 0, .int 1] t19 (fun w t50 => ∃ r50 : Int32, w = some (.int r50) ∧
                  K (some (.int r50)) t50
                )
              ))
            ))
          ) ∧
          (¬ r19 = 0 →
            sk_C sk_Sc (d - 1) mX6_error [.ref 0, .int 2] t19 (fun w t27 => ∃ r27 : Int32, w = some (.int r27) ∧
              K (some (.int r27)) t27
            )
          ))
        )
      ) ∧
      (r1 = 0 →
        sk_C sk_Sc (d - 1) mX6_error [.ref 0, .int 1] t1 (fun w t9 => ∃ r9 : Int32, w = some (.int r9) ∧
          K (some (.int r9)) t9
        )
      ))
    )) :
  sk_C sk_Sc d mX6_put [.ref 0, .int v1, .int v2, .int v3] τ K := by
  refine sk_enter mfX6_put (Nat.le_of_ble_eq_true rfl) ?_
  show sk_G sk_Sc d mX6_put 0 [(0, .ref 0), (1, .int v1), (2, .int v2), (3, .int v3)] [] τ K
  refine sk_iload_n 1 1 dX6_put_0 rfl rfl rfl ?_
  refine sk_callSi [.int v1] [] 4 dX6_put_1 rfl mfX6_isSheet lkX6_236 miX6_isSheet rfl rfl (by simp [Value.category]) hd0 (sk_Cm h ?_)
  rintro w t1 ⟨r1, hw, h⟩
  refine ⟨r1, hw, ?_⟩
  refine sk_if_ne 13 7 dX6_put_4 (by decide) rfl (fun hc => ?_) (fun hc => ?_)
  · have h := h.1 hc
    refine sk_aload_n 0 14 dX6_put_13 rfl rfl rfl ?_
    refine sk_getR (r := 48) 17 dX6_put_14 rfl lfX6_39 sc_0 rfl ?_
    refine sk_iload_n 1 18 dX6_put_17 rfl rfl rfl ?_
    have hb18 := h.1
    have h := h.2
    refine sk_aald 19 dX6_put_18 rfl sc_48 (by decide) hb18 _ rfl (r := (49 + v1.toNatClampNeg)) (sk_sl0 hb18) ?_
    refine sk_callVi [] [] 22 dX6_put_19 rfl mfX4_isMissing lkX6_239 miX4_isMissing msX4_isMissing (sk_sheetAt hb18) rfl rfl rfl rfl (by simp [Value.category]) hd0 (sk_Cm h ?_)
    rintro w t19 ⟨r19, hw, h⟩
    refine ⟨r19, hw, ?_⟩
    refine sk_if_eq 31 25 dX6_put_22 (by decide) rfl (fun hc => ?_) (fun hc => ?_)
    · have h := h.1 hc
      refine sk_iload_n 2 32 dX6_put_31 rfl rfl rfl ?_
      refine sk_if_lt 48 35 dX6_put_32 (by decide) rfl (fun hc => ?_) (fun hc => ?_)
      · have h := h.1 hc
        refine sk_aload_n 0 49 dX6_put_48 rfl rfl rfl ?_
        refine sk_iconst (v := 1) 50 dX6_put_49 rfl (by decide) ?_
        refine sk_callVi [.int 1] [] 53 dX6_put_50 rfl mfX6_error lkX6_58 miX6_error msX6_error sc_0 rfl rfl rfl rfl (by simp [Value.category]) hd0 (sk_Cm h ?_)
        rintro w t50 ⟨r50, hw, h⟩
        refine ⟨r50, hw, ?_⟩
        exact sk_iret dX6_put_53 rfl rfl h
      · have h := h.2 hc
        refine sk_iload_n 2 36 dX6_put_35 rfl rfl rfl ?_
        refine sk_aload_n 0 37 dX6_put_36 rfl rfl rfl ?_
        refine sk_getR (r := 48) 40 dX6_put_37 rfl lfX6_39 sc_0 rfl ?_
        refine sk_iload_n 1 41 dX6_put_40 rfl rfl rfl ?_
        have hb41 := h.1
        have h := h.2
        refine sk_aald 42 dX6_put_41 rfl sc_48 (by decide) hb41 _ rfl (r := (49 + v1.toNatClampNeg)) (sk_sl0 hb41) ?_
        refine sk_getI 45 dX6_put_42 rfl lfX6_260 (sk_sheetAt hb41) rfl ?_
        refine sk_icmp_lt 54 48 dX6_put_45 (by decide) rfl (fun hc => ?_) (fun hc => ?_)
        · have h := h.1 hc
          refine sk_aload_n 0 55 dX6_put_54 rfl rfl rfl ?_
          refine sk_getR (r := 48) 58 dX6_put_55 rfl lfX6_39 sc_0 rfl ?_
          refine sk_iload_n 1 59 dX6_put_58 rfl rfl rfl ?_
          have hb59 := h.1
          have h := h.2
          refine sk_aald 60 dX6_put_59 rfl sc_48 (by decide) hb59 _ rfl (r := (49 + v1.toNatClampNeg)) (sk_sl0 hb59) ?_
          refine sk_iload_n 2 61 dX6_put_60 rfl rfl rfl ?_
          refine sk_iload_n 3 62 dX6_put_61 rfl rfl rfl ?_
          refine sk_callVv [.int v2, .int v3] [] 65 dX6_put_62 rfl mfX4_write lkX6_261 miX4_write msX4_write (sk_sheetAt hb59) rfl rfl rfl rfl (by simp [Value.category]) hd0 (sk_Cm h ?_)
          rintro w t62 ⟨hw, h⟩
          refine ⟨hw, ?_⟩
          refine sk_iconst (v := 1) 66 dX6_put_65 rfl (by decide) ?_
          exact sk_iret dX6_put_66 rfl rfl h
        · have h := h.2 hc
          refine sk_aload_n 0 49 dX6_put_48 rfl rfl rfl ?_
          refine sk_iconst (v := 1) 50 dX6_put_49 rfl (by decide) ?_
          refine sk_callVi [.int 1] [] 53 dX6_put_50 rfl mfX6_error lkX6_58 miX6_error msX6_error sc_0 rfl rfl rfl rfl (by simp [Value.category]) hd0 (sk_Cm h ?_)
          rintro w t50 ⟨r50, hw, h⟩
          refine ⟨r50, hw, ?_⟩
          exact sk_iret dX6_put_53 rfl rfl h
    · have h := h.2 hc
      refine sk_aload_n 0 26 dX6_put_25 rfl rfl rfl ?_
      refine sk_iconst (v := 2) 27 dX6_put_26 rfl (by decide) ?_
      refine sk_callVi [.int 2] [] 30 dX6_put_27 rfl mfX6_error lkX6_58 miX6_error msX6_error sc_0 rfl rfl rfl rfl (by simp [Value.category]) hd0 (sk_Cm h ?_)
      rintro w t27 ⟨r27, hw, h⟩
      refine ⟨r27, hw, ?_⟩
      exact sk_iret dX6_put_30 rfl rfl h
  · have h := h.2 hc
    refine sk_aload_n 0 8 dX6_put_7 rfl rfl rfl ?_
    refine sk_iconst (v := 1) 9 dX6_put_8 rfl (by decide) ?_
    refine sk_callVi [.int 1] [] 12 dX6_put_9 rfl mfX6_error lkX6_58 miX6_error msX6_error sc_0 rfl rfl rfl rfl (by simp [Value.category]) hd0 (sk_Cm h ?_)
    rintro w t9 ⟨r9, hw, h⟩
    refine ⟨r9, hw, ?_⟩
    exact sk_iret dX6_put_12 rfl rfl h

theorem wX6_move {d : Nat} {τ : sk_T} {K : sk_K} {v1 : Int32} {v2 : Int32} {v3 : Int32} {v4 : Int32} {v5 : Int32} (hd0 : 0 < d)
  (h : sk_C sk_Sc (d - 1) mX6_isSheet [.int v1] τ (fun w t1 => ∃ r1 : Int32, w = some (.int r1) ∧
      ((r1 = 0 →
        sk_C sk_Sc (d - 1) mX6_error [.ref 0, .int 1] t1 (fun w t16 => ∃ r16 : Int32, w = some (.int r16) ∧
          K (some (.int r16)) t16
        )
      ) ∧
      (¬ r1 = 0 →
        sk_C sk_Sc (d - 1) mX6_isSheet [.int v3] t1 (fun w t8 => ∃ r8 : Int32, w = some (.int r8) ∧
          ((¬ r8 = 0 →
            vp_in v1 4 ∧
            vp_in v3 4 ∧
            sk_C sk_Sc (d - 1) mX4_isMissing [.ref (49 + v1.toNatClampNeg)] t8 (fun w t38 => ∃ r38 : Int32, w = some (.int r38) ∧
              ((¬ r38 = 0 →
                sk_C sk_Sc (d - 1) mX6_error [.ref 0, .int 2] t38 (fun w t54 => ∃ r54 : Int32, w = some (.int r54) ∧
                  K (some (.int r54)) t54
                )
              ) ∧
              (r38 = 0 →
                sk_C sk_Sc (d - 1) mX4_isMissing [.ref (49 + v3.toNatClampNeg)] t38 (fun w t46 => ∃ r46 : Int32, w = some (.int r46) ∧
                  ((r46 = 0 →
                    (((t46 (49 + v1.toNatClampNeg) 0) = (t46 (49 + v3.toNatClampNeg) 0) →
                      sk_C sk_Sc (d - 1) mX4_has [.ref (49 + v1.toNatClampNeg), .int v2, .int v5] t46 (fun w t82 => ∃ r82 : Int32, w = some (.int r82) ∧
                        ((r82 = 0 →
                          sk_C sk_Sc (d - 1) mX6_error [.ref 0, .int 1] t82 (fun w t102 => ∃ r102 : Int32, w = some (.int r102) ∧
                            K (some (.int r102)) t102
                          )
                        ) ∧
                        (¬ r82 = 0 →
                          sk_C sk_Sc (d - 1) mX4_has [.ref (49 + v3.toNatClampNeg), .int v4, .int v5] t82 (fun w t94 => ∃ r94 : Int32, w = some (.int r94) ∧
                            ((¬ r94 = 0 →
                              ¬ v2 < 0 ∧
                              ¬ v4 < 0 ∧
                              ¬ v5 < 0 ∧
                              (v2).toNatClampNeg + (v5).toNatClampNeg ≤ 24 ∧
                              (v4).toNatClampNeg + (v5).toNatClampNeg ≤ 24 ∧
                              K (some (.int v5)) (sk_w t94 (53 + v3.toNatClampNeg) (va_cpy (t94 (53 + v1.toNatClampNeg)) (t94 (53 + v3.toNatClampNeg)) (v2).toNatClampNeg (v4).toNatClampNeg (v5).toNatClampNeg))
                            ) ∧
                            (r94 = 0 →
                              sk_C sk_Sc (d - 1) mX6_error [.ref 0, .int 1] t94 (fun w t102 => ∃ r102 : Int32, w = some (.int r102) ∧
                                K (some (.int r102)) t102
                              )
                            ))
                          )
                        ))
                      )
                    ) ∧
                    (¬ (t46 (49 + v1.toNatClampNeg) 0) = (t46 (49 + v3.toNatClampNeg) 0) →
                      sk_C sk_Sc (d - 1) mX6_error [.ref 0, .int 5] t46 (fun w t73 => ∃ r73 : Int32, w = some (.int r73) ∧
                        K (some (.int r73)) t73
                      )
                    ))
                  ) ∧
                  (¬ r46 = 0 →
                    sk_C sk_Sc (d - 1) mX6_error [.ref 0, .int 2] t46 (fun w t54 => ∃ r54 : Int32, w = some (.int r54) ∧
                      K (some (.int r54)) t54
                    )
                  ))
                )
              ))
            )
          ) ∧
          (r8 = 0 →
            sk_C sk_Sc (d - 1) mX6_error [.ref 0, .int 1] t8 (fun w t16 => ∃ r16 : Int32, w = some (.int r16) ∧
              K (some (.int r16)) t16
            )
          ))
        )
      ))
    )) :
  sk_C sk_Sc d mX6_move [.ref 0, .int v1, .int v2, .int v3, .int v4, .int v5] τ K := by
  refine sk_enter mfX6_move (Nat.le_of_ble_eq_true rfl) ?_
  show sk_G sk_Sc d mX6_move 0 [(0, .ref 0), (1, .int v1), (2, .int v2), (3, .int v3), (4, .int v4), (5, .int v5)] [] τ K
  refine sk_iload_n 1 1 dX6_move_0 rfl rfl rfl ?_
  refine sk_callSi [.int v1] [] 4 dX6_move_1 rfl mfX6_isSheet lkX6_236 miX6_isSheet rfl rfl (by simp [Value.category]) hd0 (sk_Cm h ?_)
  rintro w t1 ⟨r1, hw, h⟩
  refine ⟨r1, hw, ?_⟩
  refine sk_if_eq 14 7 dX6_move_4 (by decide) rfl (fun hc => ?_) (fun hc => ?_)
  · have h := h.1 hc
    refine sk_aload_n 0 15 dX6_move_14 rfl rfl rfl ?_
    refine sk_iconst (v := 1) 16 dX6_move_15 rfl (by decide) ?_
    refine sk_callVi [.int 1] [] 19 dX6_move_16 rfl mfX6_error lkX6_58 miX6_error msX6_error sc_0 rfl rfl rfl rfl (by simp [Value.category]) hd0 (sk_Cm h ?_)
    rintro w t16 ⟨r16, hw, h⟩
    refine ⟨r16, hw, ?_⟩
    exact sk_iret dX6_move_19 rfl rfl h
  · have h := h.2 hc
    refine sk_iload_n 3 8 dX6_move_7 rfl rfl rfl ?_
    refine sk_callSi [.int v3] [] 11 dX6_move_8 rfl mfX6_isSheet lkX6_236 miX6_isSheet rfl rfl (by simp [Value.category]) hd0 (sk_Cm h ?_)
    rintro w t8 ⟨r8, hw, h⟩
    refine ⟨r8, hw, ?_⟩
    refine sk_if_ne 20 14 dX6_move_11 (by decide) rfl (fun hc => ?_) (fun hc => ?_)
    · have h := h.1 hc
      refine sk_aload_n 0 21 dX6_move_20 rfl rfl rfl ?_
      refine sk_getR (r := 48) 24 dX6_move_21 rfl lfX6_39 sc_0 rfl ?_
      refine sk_iload_n 1 25 dX6_move_24 rfl rfl rfl ?_
      have hb25 := h.1
      have h := h.2
      refine sk_aald 26 dX6_move_25 rfl sc_48 (by decide) hb25 _ rfl (r := (49 + v1.toNatClampNeg)) (sk_sl0 hb25) ?_
      refine sk_astore (lv2 := [(6, .ref (49 + v1.toNatClampNeg)), (0, .ref 0), (1, .int v1), (2, .int v2), (3, .int v3), (4, .int v4), (5, .int v5)]) 28 dX6_move_26 rfl (by decide) rfl ?_
      refine sk_aload_n 1 29 dX6_move_28 rfl rfl rfl ?_
      refine sk_getR (r := 48) 32 dX6_move_29 rfl lfX6_39 sc_0 rfl ?_
      refine sk_iload_n 4 33 dX6_move_32 rfl rfl rfl ?_
      have hb33 := h.1
      have h := h.2
      refine sk_aald 34 dX6_move_33 rfl sc_48 (by decide) hb33 _ rfl (r := (49 + v3.toNatClampNeg)) (sk_sl0 hb33) ?_
      refine sk_astore (lv2 := [(7, .ref (49 + v3.toNatClampNeg)), (6, .ref (49 + v1.toNatClampNeg)), (0, .ref 0), (1, .int v1), (2, .int v2), (3, .int v3), (4, .int v4), (5, .int v5)]) 36 dX6_move_34 rfl (by decide) rfl ?_
      refine sk_aload 1 38 dX6_move_36 rfl rfl ?_
      refine sk_callVi [] [] 41 dX6_move_38 rfl mfX4_isMissing lkX6_239 miX4_isMissing msX4_isMissing (sk_sheetAt hb25) rfl rfl rfl rfl (by simp [Value.category]) hd0 (sk_Cm h ?_)
      rintro w t38 ⟨r38, hw, h⟩
      refine ⟨r38, hw, ?_⟩
      refine sk_if_ne 52 44 dX6_move_41 (by decide) rfl (fun hc => ?_) (fun hc => ?_)
      · have h := h.1 hc
        refine sk_aload_n 2 53 dX6_move_52 rfl rfl rfl ?_
        refine sk_iconst (v := 2) 54 dX6_move_53 rfl (by decide) ?_
        refine sk_callVi [.int 2] [] 57 dX6_move_54 rfl mfX6_error lkX6_58 miX6_error msX6_error sc_0 rfl rfl rfl rfl (by simp [Value.category]) hd0 (sk_Cm h ?_)
        rintro w t54 ⟨r54, hw, h⟩
        refine ⟨r54, hw, ?_⟩
        exact sk_iret dX6_move_57 rfl rfl h
      · have h := h.2 hc
        refine sk_aload 0 46 dX6_move_44 rfl rfl ?_
        refine sk_callVi [] [] 49 dX6_move_46 rfl mfX4_isMissing lkX6_239 miX4_isMissing msX4_isMissing (sk_sheetAt hb33) rfl rfl rfl rfl (by simp [Value.category]) hd0 (sk_Cm h ?_)
        rintro w t46 ⟨r46, hw, h⟩
        refine ⟨r46, hw, ?_⟩
        refine sk_if_eq 58 52 dX6_move_49 (by decide) rfl (fun hc => ?_) (fun hc => ?_)
        · have h := h.1 hc
          refine sk_aload 1 60 dX6_move_58 rfl rfl ?_
          refine sk_getI 63 dX6_move_60 rfl lfX6_264 (sk_sheetAt hb25) rfl ?_
          refine sk_aload 0 65 dX6_move_63 rfl rfl ?_
          refine sk_getI 68 dX6_move_65 rfl lfX6_264 (sk_sheetAt hb33) rfl ?_
          refine sk_icmp_eq 77 71 dX6_move_68 (by decide) rfl (fun hc => ?_) (fun hc => ?_)
          · have h := h.1 hc
            refine sk_aload 1 79 dX6_move_77 rfl rfl ?_
            refine sk_iload_n 4 80 dX6_move_79 rfl rfl rfl ?_
            refine sk_iload 7 82 dX6_move_80 rfl rfl ?_
            refine sk_callVi [.int v2, .int v5] [] 85 dX6_move_82 rfl mfX4_has lkX6_267 miX4_has msX4_has (sk_sheetAt hb25) rfl rfl rfl rfl (by simp [Value.category]) hd0 (sk_Cm h ?_)
            rintro w t82 ⟨r82, hw, h⟩
            refine ⟨r82, hw, ?_⟩
            refine sk_if_eq 100 88 dX6_move_85 (by decide) rfl (fun hc => ?_) (fun hc => ?_)
            · have h := h.1 hc
              refine sk_aload_n 2 101 dX6_move_100 rfl rfl rfl ?_
              refine sk_iconst (v := 1) 102 dX6_move_101 rfl (by decide) ?_
              refine sk_callVi [.int 1] [] 105 dX6_move_102 rfl mfX6_error lkX6_58 miX6_error msX6_error sc_0 rfl rfl rfl rfl (by simp [Value.category]) hd0 (sk_Cm h ?_)
              rintro w t102 ⟨r102, hw, h⟩
              refine ⟨r102, hw, ?_⟩
              exact sk_iret dX6_move_105 rfl rfl h
            · have h := h.2 hc
              refine sk_aload 0 90 dX6_move_88 rfl rfl ?_
              refine sk_iload 6 92 dX6_move_90 rfl rfl ?_
              refine sk_iload 7 94 dX6_move_92 rfl rfl ?_
              refine sk_callVi [.int v4, .int v5] [] 97 dX6_move_94 rfl mfX4_has lkX6_267 miX4_has msX4_has (sk_sheetAt hb33) rfl rfl rfl rfl (by simp [Value.category]) hd0 (sk_Cm h ?_)
              rintro w t94 ⟨r94, hw, h⟩
              refine ⟨r94, hw, ?_⟩
              refine sk_if_ne 106 100 dX6_move_97 (by decide) rfl (fun hc => ?_) (fun hc => ?_)
              · have h := h.1 hc
                refine sk_aload 1 108 dX6_move_106 rfl rfl ?_
                refine sk_getR (r := (53 + v1.toNatClampNeg)) 111 dX6_move_108 rfl lfX6_270 (sk_sheetAt hb25) rfl ?_
                refine sk_iload_n 4 112 dX6_move_111 rfl rfl rfl ?_
                refine sk_aload 0 114 dX6_move_112 rfl rfl ?_
                refine sk_getR (r := (53 + v3.toNatClampNeg)) 117 dX6_move_114 rfl lfX6_270 (sk_sheetAt hb33) rfl ?_
                refine sk_iload 6 119 dX6_move_117 rfl rfl ?_
                refine sk_iload 7 121 dX6_move_119 rfl rfl ?_
                have hb121_0 := h.1
                have h := h.2
                have hb121_1 := h.1
                have h := h.2
                have hb121_2 := h.1
                have h := h.2
                have hb121_3 := h.1
                have h := h.2
                have hb121_4 := h.1
                have h := h.2
                refine sk_copyI 124 dX6_move_121 rfl lkX6_273 lk_ac (sk_sheetNAt hb25) (sk_sheetNAt hb33) hb121_0 hb121_1 hb121_2 hb121_3 hb121_4 (by simp [Value.category]) hd0 ?_
                refine sk_iload 7 126 dX6_move_124 rfl rfl ?_
                exact sk_iret dX6_move_126 rfl rfl h
              · have h := h.2 hc
                refine sk_aload_n 2 101 dX6_move_100 rfl rfl rfl ?_
                refine sk_iconst (v := 1) 102 dX6_move_101 rfl (by decide) ?_
                refine sk_callVi [.int 1] [] 105 dX6_move_102 rfl mfX6_error lkX6_58 miX6_error msX6_error sc_0 rfl rfl rfl rfl (by simp [Value.category]) hd0 (sk_Cm h ?_)
                rintro w t102 ⟨r102, hw, h⟩
                refine ⟨r102, hw, ?_⟩
                exact sk_iret dX6_move_105 rfl rfl h
          · have h := h.2 hc
            refine sk_aload_n 2 72 dX6_move_71 rfl rfl rfl ?_
            refine sk_iconst (v := 5) 73 dX6_move_72 rfl (by decide) ?_
            refine sk_callVi [.int 5] [] 76 dX6_move_73 rfl mfX6_error lkX6_58 miX6_error msX6_error sc_0 rfl rfl rfl rfl (by simp [Value.category]) hd0 (sk_Cm h ?_)
            rintro w t73 ⟨r73, hw, h⟩
            refine ⟨r73, hw, ?_⟩
            exact sk_iret dX6_move_76 rfl rfl h
        · have h := h.2 hc
          refine sk_aload_n 2 53 dX6_move_52 rfl rfl rfl ?_
          refine sk_iconst (v := 2) 54 dX6_move_53 rfl (by decide) ?_
          refine sk_callVi [.int 2] [] 57 dX6_move_54 rfl mfX6_error lkX6_58 miX6_error msX6_error sc_0 rfl rfl rfl rfl (by simp [Value.category]) hd0 (sk_Cm h ?_)
          rintro w t54 ⟨r54, hw, h⟩
          refine ⟨r54, hw, ?_⟩
          exact sk_iret dX6_move_57 rfl rfl h
    · have h := h.2 hc
      refine sk_aload_n 0 15 dX6_move_14 rfl rfl rfl ?_
      refine sk_iconst (v := 1) 16 dX6_move_15 rfl (by decide) ?_
      refine sk_callVi [.int 1] [] 19 dX6_move_16 rfl mfX6_error lkX6_58 miX6_error msX6_error sc_0 rfl rfl rfl rfl (by simp [Value.category]) hd0 (sk_Cm h ?_)
      rintro w t16 ⟨r16, hw, h⟩
      refine ⟨r16, hw, ?_⟩
      exact sk_iret dX6_move_19 rfl rfl h

theorem wX6_nailed {d : Nat} {τ : sk_T} {K : sk_K} {v1 : Int32} (hd0 : 0 < d)
  (h : sk_C sk_Sc (d - 1) mX6_isSheet [.int v1] τ (fun w t1 => ∃ r1 : Int32, w = some (.int r1) ∧
      ((¬ r1 = 0 →
        vp_in v1 4 ∧
        sk_C sk_Sc (d - 1) mX4_isMissing [.ref (49 + v1.toNatClampNeg)] t1 (fun w t21 => ∃ r21 : Int32, w = some (.int r21) ∧
          ((r21 = 0 →
            sk_G sk_Sc d mX6_nailed 38 [(0, .ref 0), (2, .ref (49 + v1.toNatClampNeg)), (3, .int 0), (4, .int 0)] [] t21 K
          ) ∧
          (¬ r21 = 0 →
            sk_C sk_Sc (d - 1) mX6_error [.ref 0, .int 2] t21 (fun w t29 => ∃ r29 : Int32, w = some (.int r29) ∧
              K (some (.int r29)) t29
            )
          ))
        )
      ) ∧
      (r1 = 0 →
        sk_C sk_Sc (d - 1) mX6_error [.ref 0, .int 1] t1 (fun w t9 => ∃ r9 : Int32, w = some (.int r9) ∧
          K (some (.int r9)) t9
        )
      ))
    )) :
  sk_C sk_Sc d mX6_nailed [.ref 0, .int v1] τ K := by
  refine sk_enter mfX6_nailed (Nat.le_of_ble_eq_true rfl) ?_
  show sk_G sk_Sc d mX6_nailed 0 [(0, .ref 0), (1, .int v1)] [] τ K
  refine sk_iload_n 1 1 dX6_nailed_0 rfl rfl rfl ?_
  refine sk_callSi [.int v1] [] 4 dX6_nailed_1 rfl mfX6_isSheet lkX6_236 miX6_isSheet rfl rfl (by simp [Value.category]) hd0 (sk_Cm h ?_)
  rintro w t1 ⟨r1, hw, h⟩
  refine ⟨r1, hw, ?_⟩
  refine sk_if_ne 13 7 dX6_nailed_4 (by decide) rfl (fun hc => ?_) (fun hc => ?_)
  · have h := h.1 hc
    refine sk_aload_n 0 14 dX6_nailed_13 rfl rfl rfl ?_
    refine sk_getR (r := 48) 17 dX6_nailed_14 rfl lfX6_39 sc_0 rfl ?_
    refine sk_iload_n 1 18 dX6_nailed_17 rfl rfl rfl ?_
    have hb18 := h.1
    have h := h.2
    refine sk_aald 19 dX6_nailed_18 rfl sc_48 (by decide) hb18 _ rfl (r := (49 + v1.toNatClampNeg)) (sk_sl0 hb18) ?_
    refine sk_astore_n (lv2 := [(2, .ref (49 + v1.toNatClampNeg)), (0, .ref 0), (1, .int v1)]) 20 dX6_nailed_19 rfl rfl (by decide) rfl ?_
    refine sk_aload_n 0 21 dX6_nailed_20 rfl rfl rfl ?_
    refine sk_callVi [] [] 24 dX6_nailed_21 rfl mfX4_isMissing lkX6_239 miX4_isMissing msX4_isMissing (sk_sheetAt hb18) rfl rfl rfl rfl (by simp [Value.category]) hd0 (sk_Cm h ?_)
    rintro w t21 ⟨r21, hw, h⟩
    refine ⟨r21, hw, ?_⟩
    refine sk_if_eq 33 27 dX6_nailed_24 (by decide) rfl (fun hc => ?_) (fun hc => ?_)
    · have h := h.1 hc
      refine sk_iconst (v := 0) 34 dX6_nailed_33 rfl (by decide) ?_
      refine sk_istore_n (lv2 := [(3, .int 0), (2, .ref (49 + v1.toNatClampNeg)), (0, .ref 0), (1, .int v1)]) 35 dX6_nailed_34 rfl rfl (by decide) rfl ?_
      refine sk_iconst (v := 0) 36 dX6_nailed_35 rfl (by decide) ?_
      refine sk_istore (lv2 := [(4, .int 0), (3, .int 0), (2, .ref (49 + v1.toNatClampNeg)), (0, .ref 0), (1, .int v1)]) 38 dX6_nailed_36 rfl (by decide) rfl ?_
      refine sk_perm (lv2 := [(0, .ref 0), (2, .ref (49 + v1.toNatClampNeg)), (3, .int 0), (4, .int 0)]) [3, 2, 1, 0] rfl ?_
      exact h
    · have h := h.2 hc
      refine sk_aload_n 1 28 dX6_nailed_27 rfl rfl rfl ?_
      refine sk_iconst (v := 2) 29 dX6_nailed_28 rfl (by decide) ?_
      refine sk_callVi [.int 2] [] 32 dX6_nailed_29 rfl mfX6_error lkX6_58 miX6_error msX6_error sc_0 rfl rfl rfl rfl (by simp [Value.category]) hd0 (sk_Cm h ?_)
      rintro w t29 ⟨r29, hw, h⟩
      refine ⟨r29, hw, ?_⟩
      exact sk_iret dX6_nailed_32 rfl rfl h
  · have h := h.2 hc
    refine sk_aload_n 0 8 dX6_nailed_7 rfl rfl rfl ?_
    refine sk_iconst (v := 1) 9 dX6_nailed_8 rfl (by decide) ?_
    refine sk_callVi [.int 1] [] 12 dX6_nailed_9 rfl mfX6_error lkX6_58 miX6_error msX6_error sc_0 rfl rfl rfl rfl (by simp [Value.category]) hd0 (sk_Cm h ?_)
    rintro w t9 ⟨r9, hw, h⟩
    refine ⟨r9, hw, ?_⟩
    exact sk_iret dX6_nailed_12 rfl rfl h

theorem bX6_nailed_38 {d : Nat} {τ : sk_T} {K : sk_K} {v3 : Int32} {v4 : Int32} {v1 : Int32} (hb18 : vp_in v1 4) (hd0 : 0 < d)
  (h : (((τ (49 + v1.toNatClampNeg) 1) ≤ v4 →
      K (some (.int v3)) τ
    ) ∧
    (¬ (τ (49 + v1.toNatClampNeg) 1) ≤ v4 →
      (((τ 1 1) ≤ v4 →
        K (some (.int v3)) τ
      ) ∧
      (¬ (τ 1 1) ≤ v4 →
        vp_in v4 24 ∧
        sk_C sk_Sc (d - 1) mX6_isDigit [.int (τ (53 + v1.toNatClampNeg) (v4).toNatClampNeg)] τ (fun w t66 => ∃ r66 : Int32, w = some (.int r66) ∧
          ((r66 = 0 →
            K (some (.int v3)) t66
          ) ∧
          (¬ r66 = 0 →
            vp_in v4 10 ∧
            vp_in v4 24 ∧
            sk_G sk_Sc d mX6_nailed 38 [(0, .ref 0), (2, .ref (49 + v1.toNatClampNeg)), (3, .int (v3 + 1)), (4, .int (v4 + 1))] [] (sk_u t66 (3 + v4.toNatClampNeg) 3 (t66 (53 + v1.toNatClampNeg) (v4).toNatClampNeg)) K
          ))
        )
      ))
    ))) :
  sk_G sk_Sc d mX6_nailed 38 [(0, .ref 0), (2, .ref (49 + v1.toNatClampNeg)), (3, .int v3), (4, .int v4)] [] τ K := by
  refine sk_iload 3 40 dX6_nailed_38 rfl rfl ?_
  refine sk_aload_n 1 41 dX6_nailed_40 rfl rfl rfl ?_
  refine sk_getI 44 dX6_nailed_41 rfl lfX6_260 (sk_sheetAt hb18) rfl ?_
  refine sk_icmp_ge 101 47 dX6_nailed_44 (by decide) rfl (fun hc => ?_) (fun hc => ?_)
  · have h := h.1 hc
    refine sk_iload_n 2 102 dX6_nailed_101 rfl rfl rfl ?_
    exact sk_iret dX6_nailed_102 rfl rfl h
  · have h := h.2 hc
    refine sk_iload 3 49 dX6_nailed_47 rfl rfl ?_
    refine sk_aload_n 0 50 dX6_nailed_49 rfl rfl rfl ?_
    refine sk_getR (r := 1) 53 dX6_nailed_50 rfl lfX6_12 sc_0 rfl ?_
    refine sk_getI 56 dX6_nailed_53 rfl lfX6_55 sc_1 rfl ?_
    refine sk_icmp_ge 101 59 dX6_nailed_56 (by decide) rfl (fun hc => ?_) (fun hc => ?_)
    · have h := h.1 hc
      refine sk_iload_n 2 102 dX6_nailed_101 rfl rfl rfl ?_
      exact sk_iret dX6_nailed_102 rfl rfl h
    · have h := h.2 hc
      refine sk_aload_n 1 60 dX6_nailed_59 rfl rfl rfl ?_
      refine sk_getR (r := (53 + v1.toNatClampNeg)) 63 dX6_nailed_60 rfl lfX6_270 (sk_sheetAt hb18) rfl ?_
      refine sk_iload 3 65 dX6_nailed_63 rfl rfl ?_
      have hb65 := h.1
      have h := h.2
      refine sk_iald 66 dX6_nailed_65 rfl (sk_sheetNAt hb18) hb65 _ rfl ?_
      refine sk_callSi [.int (τ (53 + v1.toNatClampNeg) (v4).toNatClampNeg)] [] 69 dX6_nailed_66 rfl mfX6_isDigit lkX6_52 miX6_isDigit rfl rfl (by simp [Value.category]) hd0 (sk_Cm h ?_)
      rintro w t66 ⟨r66, hw, h⟩
      refine ⟨r66, hw, ?_⟩
      refine sk_if_eq 101 72 dX6_nailed_69 (by decide) rfl (fun hc => ?_) (fun hc => ?_)
      · have h := h.1 hc
        refine sk_iload_n 2 102 dX6_nailed_101 rfl rfl rfl ?_
        exact sk_iret dX6_nailed_102 rfl rfl h
      · have h := h.2 hc
        refine sk_aload_n 0 73 dX6_nailed_72 rfl rfl rfl ?_
        refine sk_getR (r := 1) 76 dX6_nailed_73 rfl lfX6_12 sc_0 rfl ?_
        refine sk_getR (r := 35) 79 dX6_nailed_76 rfl lfX6_62 sc_1 rfl ?_
        refine sk_iload 3 81 dX6_nailed_79 rfl rfl ?_
        have hb81 := h.1
        have h := h.2
        refine sk_aald 82 dX6_nailed_81 rfl sc_35 (by decide) hb81 _ rfl (r := (3 + v4.toNatClampNeg)) (sk_tl0 hb81) ?_
        refine sk_aload_n 1 83 dX6_nailed_82 rfl rfl rfl ?_
        refine sk_getR (r := (53 + v1.toNatClampNeg)) 86 dX6_nailed_83 rfl lfX6_270 (sk_sheetAt hb18) rfl ?_
        refine sk_iload 3 88 dX6_nailed_86 rfl rfl ?_
        have hb88 := h.1
        have h := h.2
        refine sk_iald 89 dX6_nailed_88 rfl (sk_sheetNAt hb18) hb88 _ rfl ?_
        refine sk_putI 92 dX6_nailed_89 rfl lpX6_84 (sk_tileAt hb81) rfl ?_
        refine sk_iinc (v := (v3 + 1)) (lv2 := [(3, .int (v3 + 1)), (0, .ref 0), (2, .ref (49 + v1.toNatClampNeg)), (4, .int v4)]) 2 95 dX6_nailed_92 rfl rfl rfl (by decide) rfl ?_
        refine sk_iinc (v := (v4 + 1)) (lv2 := [(4, .int (v4 + 1)), (3, .int (v3 + 1)), (0, .ref 0), (2, .ref (49 + v1.toNatClampNeg))]) 3 98 dX6_nailed_95 rfl rfl rfl (by decide) rfl ?_
        refine sk_goto 38 dX6_nailed_98 (by decide) ?_
        refine sk_perm (lv2 := [(0, .ref 0), (2, .ref (49 + v1.toNatClampNeg)), (3, .int (v3 + 1)), (4, .int (v4 + 1))]) [2, 3, 1, 0] rfl ?_
        exact h

theorem wX6_judge {d : Nat} {τ : sk_T} {K : sk_K} {v1 : Int32} (hd0 : 0 < d)
  (h : sk_C sk_Sc (d - 1) mX6_isSheet [.int v1] τ (fun w t1 => ∃ r1 : Int32, w = some (.int r1) ∧
      ((¬ r1 = 0 →
        vp_in v1 4 ∧
        sk_C sk_Sc (d - 1) mX4_isMissing [.ref (49 + v1.toNatClampNeg)] t1 (fun w t21 => ∃ r21 : Int32, w = some (.int r21) ∧
          ((r21 = 0 →
            sk_G sk_Sc d mX6_judge 38 [(0, .ref 0), (2, .ref (49 + v1.toNatClampNeg)), (3, .int 0), (4, .int 0)] [] t21 K
          ) ∧
          (¬ r21 = 0 →
            sk_C sk_Sc (d - 1) mX6_error [.ref 0, .int 2] t21 (fun w t29 => ∃ r29 : Int32, w = some (.int r29) ∧
              K (some (.int r29)) t29
            )
          ))
        )
      ) ∧
      (r1 = 0 →
        sk_C sk_Sc (d - 1) mX6_error [.ref 0, .int 1] t1 (fun w t9 => ∃ r9 : Int32, w = some (.int r9) ∧
          K (some (.int r9)) t9
        )
      ))
    )) :
  sk_C sk_Sc d mX6_judge [.ref 0, .int v1] τ K := by
  refine sk_enter mfX6_judge (Nat.le_of_ble_eq_true rfl) ?_
  show sk_G sk_Sc d mX6_judge 0 [(0, .ref 0), (1, .int v1)] [] τ K
  refine sk_iload_n 1 1 dX6_judge_0 rfl rfl rfl ?_
  refine sk_callSi [.int v1] [] 4 dX6_judge_1 rfl mfX6_isSheet lkX6_236 miX6_isSheet rfl rfl (by simp [Value.category]) hd0 (sk_Cm h ?_)
  rintro w t1 ⟨r1, hw, h⟩
  refine ⟨r1, hw, ?_⟩
  refine sk_if_ne 13 7 dX6_judge_4 (by decide) rfl (fun hc => ?_) (fun hc => ?_)
  · have h := h.1 hc
    refine sk_aload_n 0 14 dX6_judge_13 rfl rfl rfl ?_
    refine sk_getR (r := 48) 17 dX6_judge_14 rfl lfX6_39 sc_0 rfl ?_
    refine sk_iload_n 1 18 dX6_judge_17 rfl rfl rfl ?_
    have hb18 := h.1
    have h := h.2
    refine sk_aald 19 dX6_judge_18 rfl sc_48 (by decide) hb18 _ rfl (r := (49 + v1.toNatClampNeg)) (sk_sl0 hb18) ?_
    refine sk_astore_n (lv2 := [(2, .ref (49 + v1.toNatClampNeg)), (0, .ref 0), (1, .int v1)]) 20 dX6_judge_19 rfl rfl (by decide) rfl ?_
    refine sk_aload_n 0 21 dX6_judge_20 rfl rfl rfl ?_
    refine sk_callVi [] [] 24 dX6_judge_21 rfl mfX4_isMissing lkX6_239 miX4_isMissing msX4_isMissing (sk_sheetAt hb18) rfl rfl rfl rfl (by simp [Value.category]) hd0 (sk_Cm h ?_)
    rintro w t21 ⟨r21, hw, h⟩
    refine ⟨r21, hw, ?_⟩
    refine sk_if_eq 33 27 dX6_judge_24 (by decide) rfl (fun hc => ?_) (fun hc => ?_)
    · have h := h.1 hc
      refine sk_iconst (v := 0) 34 dX6_judge_33 rfl (by decide) ?_
      refine sk_istore_n (lv2 := [(3, .int 0), (2, .ref (49 + v1.toNatClampNeg)), (0, .ref 0), (1, .int v1)]) 35 dX6_judge_34 rfl rfl (by decide) rfl ?_
      refine sk_iconst (v := 0) 36 dX6_judge_35 rfl (by decide) ?_
      refine sk_istore (lv2 := [(4, .int 0), (3, .int 0), (2, .ref (49 + v1.toNatClampNeg)), (0, .ref 0), (1, .int v1)]) 38 dX6_judge_36 rfl (by decide) rfl ?_
      refine sk_perm (lv2 := [(0, .ref 0), (2, .ref (49 + v1.toNatClampNeg)), (3, .int 0), (4, .int 0)]) [3, 2, 1, 0] rfl ?_
      exact h
    · have h := h.2 hc
      refine sk_aload_n 1 28 dX6_judge_27 rfl rfl rfl ?_
      refine sk_iconst (v := 2) 29 dX6_judge_28 rfl (by decide) ?_
      refine sk_callVi [.int 2] [] 32 dX6_judge_29 rfl mfX6_error lkX6_58 miX6_error msX6_error sc_0 rfl rfl rfl rfl (by simp [Value.category]) hd0 (sk_Cm h ?_)
      rintro w t29 ⟨r29, hw, h⟩
      refine ⟨r29, hw, ?_⟩
      exact sk_iret dX6_judge_32 rfl rfl h
  · have h := h.2 hc
    refine sk_aload_n 0 8 dX6_judge_7 rfl rfl rfl ?_
    refine sk_iconst (v := 1) 9 dX6_judge_8 rfl (by decide) ?_
    refine sk_callVi [.int 1] [] 12 dX6_judge_9 rfl mfX6_error lkX6_58 miX6_error msX6_error sc_0 rfl rfl rfl rfl (by simp [Value.category]) hd0 (sk_Cm h ?_)
    rintro w t9 ⟨r9, hw, h⟩
    refine ⟨r9, hw, ?_⟩
    exact sk_iret dX6_judge_12 rfl rfl h

theorem bX6_judge_38 {d : Nat} {τ : sk_T} {K : sk_K} {v3 : Int32} {v4 : Int32} {v1 : Int32} (hb18 : vp_in v1 4)
  (h : (((τ (49 + v1.toNatClampNeg) 1) ≤ v4 →
      K (some (.int v3)) τ
    ) ∧
    (¬ (τ (49 + v1.toNatClampNeg) 1) ≤ v4 →
      (((τ 1 1) ≤ v4 →
        K (some (.int v3)) τ
      ) ∧
      (¬ (τ 1 1) ≤ v4 →
        vp_in v4 24 ∧
        vp_in v4 10 ∧
        ((¬ (τ (53 + v1.toNatClampNeg) (v4).toNatClampNeg) = (τ (3 + v4.toNatClampNeg) 6) →
          K (some (.int v3)) τ
        ) ∧
        ((τ (53 + v1.toNatClampNeg) (v4).toNatClampNeg) = (τ (3 + v4.toNatClampNeg) 6) →
          sk_G sk_Sc d mX6_judge 38 [(0, .ref 0), (2, .ref (49 + v1.toNatClampNeg)), (3, .int (v3 + 1)), (4, .int (v4 + 1))] [] τ K
        ))
      ))
    ))) :
  sk_G sk_Sc d mX6_judge 38 [(0, .ref 0), (2, .ref (49 + v1.toNatClampNeg)), (3, .int v3), (4, .int v4)] [] τ K := by
  refine sk_iload 3 40 dX6_judge_38 rfl rfl ?_
  refine sk_aload_n 1 41 dX6_judge_40 rfl rfl rfl ?_
  refine sk_getI 44 dX6_judge_41 rfl lfX6_260 (sk_sheetAt hb18) rfl ?_
  refine sk_icmp_ge 91 47 dX6_judge_44 (by decide) rfl (fun hc => ?_) (fun hc => ?_)
  · have h := h.1 hc
    refine sk_iload_n 2 92 dX6_judge_91 rfl rfl rfl ?_
    exact sk_iret dX6_judge_92 rfl rfl h
  · have h := h.2 hc
    refine sk_iload 3 49 dX6_judge_47 rfl rfl ?_
    refine sk_aload_n 0 50 dX6_judge_49 rfl rfl rfl ?_
    refine sk_getR (r := 1) 53 dX6_judge_50 rfl lfX6_12 sc_0 rfl ?_
    refine sk_getI 56 dX6_judge_53 rfl lfX6_55 sc_1 rfl ?_
    refine sk_icmp_ge 91 59 dX6_judge_56 (by decide) rfl (fun hc => ?_) (fun hc => ?_)
    · have h := h.1 hc
      refine sk_iload_n 2 92 dX6_judge_91 rfl rfl rfl ?_
      exact sk_iret dX6_judge_92 rfl rfl h
    · have h := h.2 hc
      refine sk_aload_n 1 60 dX6_judge_59 rfl rfl rfl ?_
      refine sk_getR (r := (53 + v1.toNatClampNeg)) 63 dX6_judge_60 rfl lfX6_270 (sk_sheetAt hb18) rfl ?_
      refine sk_iload 3 65 dX6_judge_63 rfl rfl ?_
      have hb65 := h.1
      have h := h.2
      refine sk_iald 66 dX6_judge_65 rfl (sk_sheetNAt hb18) hb65 _ rfl ?_
      refine sk_aload_n 0 67 dX6_judge_66 rfl rfl rfl ?_
      refine sk_getR (r := 1) 70 dX6_judge_67 rfl lfX6_12 sc_0 rfl ?_
      refine sk_getR (r := 35) 73 dX6_judge_70 rfl lfX6_62 sc_1 rfl ?_
      refine sk_iload 3 75 dX6_judge_73 rfl rfl ?_
      have hb75 := h.1
      have h := h.2
      refine sk_aald 76 dX6_judge_75 rfl sc_35 (by decide) hb75 _ rfl (r := (3 + v4.toNatClampNeg)) (sk_tl0 hb75) ?_
      refine sk_getI 79 dX6_judge_76 rfl lfX6_118 (sk_tileAt hb75) rfl ?_
      refine sk_icmp_ne 91 82 dX6_judge_79 (by decide) rfl (fun hc => ?_) (fun hc => ?_)
      · have h := h.1 hc
        refine sk_iload_n 2 92 dX6_judge_91 rfl rfl rfl ?_
        exact sk_iret dX6_judge_92 rfl rfl h
      · have h := h.2 hc
        refine sk_iinc (v := (v3 + 1)) (lv2 := [(3, .int (v3 + 1)), (0, .ref 0), (2, .ref (49 + v1.toNatClampNeg)), (4, .int v4)]) 2 85 dX6_judge_82 rfl rfl rfl (by decide) rfl ?_
        refine sk_iinc (v := (v4 + 1)) (lv2 := [(4, .int (v4 + 1)), (3, .int (v3 + 1)), (0, .ref 0), (2, .ref (49 + v1.toNatClampNeg))]) 3 88 dX6_judge_85 rfl rfl rfl (by decide) rfl ?_
        refine sk_goto 38 dX6_judge_88 (by decide) ?_
        refine sk_perm (lv2 := [(0, .ref 0), (2, .ref (49 + v1.toNatClampNeg)), (3, .int (v3 + 1)), (4, .int (v4 + 1))]) [2, 3, 1, 0] rfl ?_
        exact h

theorem wX6_image {d : Nat} {τ : sk_T} {K : sk_K} (hd0 : 0 < d)
  (h : sk_C sk_Sc (d - 1) mX3_copy [.ref 2, .ref 1] τ (fun w t8 => w = none ∧
      K (some (.int ((sk_u t8 0 2 ((t8 0 2) + 1)) 0 2))) (sk_u t8 0 2 ((t8 0 2) + 1))
    )) :
  sk_C sk_Sc d mX6_image [.ref 0] τ K := by
  refine sk_enter mfX6_image (Nat.le_of_ble_eq_true rfl) ?_
  show sk_G sk_Sc d mX6_image 0 [(0, .ref 0)] [] τ K
  refine sk_aload_n 0 1 dX6_image_0 rfl rfl rfl ?_
  refine sk_getR (r := 2) 4 dX6_image_1 rfl lfX6_16 sc_0 rfl ?_
  refine sk_aload_n 0 5 dX6_image_4 rfl rfl rfl ?_
  refine sk_getR (r := 1) 8 dX6_image_5 rfl lfX6_12 sc_0 rfl ?_
  refine sk_callVv [.ref 1] [] 11 dX6_image_8 rfl mfX3_copy lkX6_279 miX3_copy msX3_copy sc_2 rfl rfl rfl rfl (by simp [Value.category]) hd0 (sk_Cm h ?_)
  rintro w t8 ⟨hw, h⟩
  refine ⟨hw, ?_⟩
  refine sk_aload_n 0 12 dX6_image_11 rfl rfl rfl ?_
  refine sk_dup 13 dX6_image_12 rfl rfl ?_
  refine sk_getI 16 dX6_image_13 rfl lfX6_19 sc_0 rfl ?_
  refine sk_iconst (v := 1) 17 dX6_image_16 rfl (by decide) ?_
  refine sk_iadd 18 dX6_image_17 rfl ?_
  refine sk_putI 21 dX6_image_18 rfl lpX6_19 sc_0 rfl ?_
  refine sk_aload_n 0 22 dX6_image_21 rfl rfl rfl ?_
  refine sk_getI 25 dX6_image_22 rfl lfX6_19 sc_0 rfl ?_
  exact sk_iret dX6_image_25 rfl rfl h

theorem wX6_restore {d : Nat} {τ : sk_T} {K : sk_K} (hd0 : 0 < d)
  (h : ((¬ (τ 0 2) = 0 →
      sk_C sk_Sc (d - 1) mX3_copy [.ref 1, .ref 2] τ (fun w t21 => w = none ∧
        K (some (.int (t21 1 2))) t21
      )
    ) ∧
    ((τ 0 2) = 0 →
      sk_C sk_Sc (d - 1) mX6_error [.ref 0, .int 2] τ (fun w t9 => ∃ r9 : Int32, w = some (.int r9) ∧
        K (some (.int r9)) t9
      )
    ))) :
  sk_C sk_Sc d mX6_restore [.ref 0] τ K := by
  refine sk_enter mfX6_restore (Nat.le_of_ble_eq_true rfl) ?_
  show sk_G sk_Sc d mX6_restore 0 [(0, .ref 0)] [] τ K
  refine sk_aload_n 0 1 dX6_restore_0 rfl rfl rfl ?_
  refine sk_getI 4 dX6_restore_1 rfl lfX6_19 sc_0 rfl ?_
  refine sk_if_ne 13 7 dX6_restore_4 (by decide) rfl (fun hc => ?_) (fun hc => ?_)
  · have h := h.1 hc
    refine sk_aload_n 0 14 dX6_restore_13 rfl rfl rfl ?_
    refine sk_getR (r := 1) 17 dX6_restore_14 rfl lfX6_12 sc_0 rfl ?_
    refine sk_aload_n 0 18 dX6_restore_17 rfl rfl rfl ?_
    refine sk_getR (r := 2) 21 dX6_restore_18 rfl lfX6_16 sc_0 rfl ?_
    refine sk_callVv [.ref 2] [] 24 dX6_restore_21 rfl mfX3_copy lkX6_279 miX3_copy msX3_copy sc_1 rfl rfl rfl rfl (by simp [Value.category]) hd0 (sk_Cm h ?_)
    rintro w t21 ⟨hw, h⟩
    refine ⟨hw, ?_⟩
    refine sk_aload_n 0 25 dX6_restore_24 rfl rfl rfl ?_
    refine sk_getR (r := 1) 28 dX6_restore_25 rfl lfX6_12 sc_0 rfl ?_
    refine sk_getI 31 dX6_restore_28 rfl lfX6_186 sc_1 rfl ?_
    exact sk_iret dX6_restore_31 rfl rfl h
  · have h := h.2 hc
    refine sk_aload_n 0 8 dX6_restore_7 rfl rfl rfl ?_
    refine sk_iconst (v := 2) 9 dX6_restore_8 rfl (by decide) ?_
    refine sk_callVi [.int 2] [] 12 dX6_restore_9 rfl mfX6_error lkX6_58 miX6_error msX6_error sc_0 rfl rfl rfl rfl (by simp [Value.category]) hd0 (sk_Cm h ?_)
    rintro w t9 ⟨r9, hw, h⟩
    refine ⟨r9, hw, ?_⟩
    exact sk_iret dX6_restore_12 rfl rfl h

theorem wX6_tell {d : Nat} {τ : sk_T} {K : sk_K} {v1 : Int32} (hd0 : 0 < d)
  (h : (((τ 1 10) < 24 →
      vp_in (τ 1 10) 24 ∧
      K (some (.int ((sk_u (sk_u τ 41 ((τ 1 10)).toNatClampNeg v1) 1 10 (((sk_u τ 41 ((τ 1 10)).toNatClampNeg v1) 1 10) + 1)) 1 10))) (sk_u (sk_u τ 41 ((τ 1 10)).toNatClampNeg v1) 1 10 (((sk_u τ 41 ((τ 1 10)).toNatClampNeg v1) 1 10) + 1))
    ) ∧
    (¬ (τ 1 10) < 24 →
      sk_C sk_Sc (d - 1) mX6_error [.ref 0, .int 4] τ (fun w t14 => ∃ r14 : Int32, w = some (.int r14) ∧
        K (some (.int r14)) t14
      )
    ))) :
  sk_C sk_Sc d mX6_tell [.ref 0, .int v1] τ K := by
  refine sk_enter mfX6_tell (Nat.le_of_ble_eq_true rfl) ?_
  show sk_G sk_Sc d mX6_tell 0 [(0, .ref 0), (1, .int v1)] [] τ K
  refine sk_aload_n 0 1 dX6_tell_0 rfl rfl rfl ?_
  refine sk_getR (r := 1) 4 dX6_tell_1 rfl lfX6_12 sc_0 rfl ?_
  refine sk_getI 7 dX6_tell_4 rfl lfX6_283 sc_1 rfl ?_
  refine sk_bipush (v := 24) 9 dX6_tell_7 rfl (by decide) ?_
  refine sk_icmp_lt 18 12 dX6_tell_9 (by decide) rfl (fun hc => ?_) (fun hc => ?_)
  · have h := h.1 hc
    refine sk_aload_n 0 19 dX6_tell_18 rfl rfl rfl ?_
    refine sk_getR (r := 1) 22 dX6_tell_19 rfl lfX6_12 sc_0 rfl ?_
    refine sk_getR (r := 41) 25 dX6_tell_22 rfl lfX6_286 sc_1 rfl ?_
    refine sk_aload_n 0 26 dX6_tell_25 rfl rfl rfl ?_
    refine sk_getR (r := 1) 29 dX6_tell_26 rfl lfX6_12 sc_0 rfl ?_
    refine sk_getI 32 dX6_tell_29 rfl lfX6_283 sc_1 rfl ?_
    refine sk_iload_n 1 33 dX6_tell_32 rfl rfl rfl ?_
    have hb33 := h.1
    have h := h.2
    refine sk_iast 34 dX6_tell_33 rfl sc_41 hb33 _ rfl ?_
    refine sk_aload_n 0 35 dX6_tell_34 rfl rfl rfl ?_
    refine sk_getR (r := 1) 38 dX6_tell_35 rfl lfX6_12 sc_0 rfl ?_
    refine sk_dup 39 dX6_tell_38 rfl rfl ?_
    refine sk_getI 42 dX6_tell_39 rfl lfX6_283 sc_1 rfl ?_
    refine sk_iconst (v := 1) 43 dX6_tell_42 rfl (by decide) ?_
    refine sk_iadd 44 dX6_tell_43 rfl ?_
    refine sk_putI 47 dX6_tell_44 rfl lpX6_283 sc_1 rfl ?_
    refine sk_aload_n 0 48 dX6_tell_47 rfl rfl rfl ?_
    refine sk_getR (r := 1) 51 dX6_tell_48 rfl lfX6_12 sc_0 rfl ?_
    refine sk_getI 54 dX6_tell_51 rfl lfX6_283 sc_1 rfl ?_
    exact sk_iret dX6_tell_54 rfl rfl h
  · have h := h.2 hc
    refine sk_aload_n 0 13 dX6_tell_12 rfl rfl rfl ?_
    refine sk_iconst (v := 4) 14 dX6_tell_13 rfl (by decide) ?_
    refine sk_callVi [.int 4] [] 17 dX6_tell_14 rfl mfX6_error lkX6_58 miX6_error msX6_error sc_0 rfl rfl rfl rfl (by simp [Value.category]) hd0 (sk_Cm h ?_)
    rintro w t14 ⟨r14, hw, h⟩
    refine ⟨r14, hw, ?_⟩
    exact sk_iret dX6_tell_17 rfl rfl h

theorem wX6_check {d : Nat} {τ : sk_T} {K : sk_K}
  (h : sk_G sk_Sc d mX6_check 18 [(0, .ref 0), (1, .int (τ 1 10)), (2, .int 0)] [] (sk_u τ 1 10 0) K) :
  sk_C sk_Sc d mX6_check [.ref 0] τ K := by
  refine sk_enter mfX6_check (Nat.le_of_ble_eq_true rfl) ?_
  show sk_G sk_Sc d mX6_check 0 [(0, .ref 0)] [] τ K
  refine sk_aload_n 0 1 dX6_check_0 rfl rfl rfl ?_
  refine sk_getR (r := 1) 4 dX6_check_1 rfl lfX6_12 sc_0 rfl ?_
  refine sk_getI 7 dX6_check_4 rfl lfX6_283 sc_1 rfl ?_
  refine sk_istore_n (lv2 := [(1, .int (τ 1 10)), (0, .ref 0)]) 8 dX6_check_7 rfl rfl (by decide) rfl ?_
  refine sk_aload_n 1 9 dX6_check_8 rfl rfl rfl ?_
  refine sk_getR (r := 1) 12 dX6_check_9 rfl lfX6_12 sc_0 rfl ?_
  refine sk_iconst (v := 0) 13 dX6_check_12 rfl (by decide) ?_
  refine sk_putI 16 dX6_check_13 rfl lpX6_283 sc_1 rfl ?_
  refine sk_iconst (v := 0) 17 dX6_check_16 rfl (by decide) ?_
  refine sk_istore_n (lv2 := [(2, .int 0), (1, .int (τ 1 10)), (0, .ref 0)]) 18 dX6_check_17 rfl rfl (by decide) rfl ?_
  refine sk_perm (lv2 := [(0, .ref 0), (1, .int (τ 1 10)), (2, .int 0)]) [2, 1, 0] rfl ?_
  exact h

theorem bX6_check_18 {d : Nat} {τ : sk_T} {K : sk_K} {v1 : Int32} {v2 : Int32}
  (h : ((v1 ≤ v2 →
      K (some (.int 0)) τ
    ) ∧
    (¬ v1 ≤ v2 →
      (((τ 1 1) ≤ v2 →
        K (some (.int (1 + v2))) τ
      ) ∧
      (¬ (τ 1 1) ≤ v2 →
        vp_in v2 24 ∧
        vp_in v2 10 ∧
        (((τ 41 (v2).toNatClampNeg) = (τ (3 + v2.toNatClampNeg) 5) →
          sk_G sk_Sc d mX6_check 18 [(0, .ref 0), (1, .int v1), (2, .int (v2 + 1))] [] τ K
        ) ∧
        (¬ (τ 41 (v2).toNatClampNeg) = (τ (3 + v2.toNatClampNeg) 5) →
          K (some (.int (1 + v2))) τ
        ))
      ))
    ))) :
  sk_G sk_Sc d mX6_check 18 [(0, .ref 0), (1, .int v1), (2, .int v2)] [] τ K := by
  refine sk_iload_n 2 19 dX6_check_18 rfl rfl rfl ?_
  refine sk_iload_n 1 20 dX6_check_19 rfl rfl rfl ?_
  refine sk_icmp_ge 68 23 dX6_check_20 (by decide) rfl (fun hc => ?_) (fun hc => ?_)
  · have h := h.1 hc
    refine sk_iconst (v := 0) 69 dX6_check_68 rfl (by decide) ?_
    exact sk_iret dX6_check_69 rfl rfl h
  · have h := h.2 hc
    refine sk_iload_n 2 24 dX6_check_23 rfl rfl rfl ?_
    refine sk_aload_n 0 25 dX6_check_24 rfl rfl rfl ?_
    refine sk_getR (r := 1) 28 dX6_check_25 rfl lfX6_12 sc_0 rfl ?_
    refine sk_getI 31 dX6_check_28 rfl lfX6_55 sc_1 rfl ?_
    refine sk_icmp_ge 58 34 dX6_check_31 (by decide) rfl (fun hc => ?_) (fun hc => ?_)
    · have h := h.1 hc
      refine sk_iconst (v := 1) 59 dX6_check_58 rfl (by decide) ?_
      refine sk_iload_n 2 60 dX6_check_59 rfl rfl rfl ?_
      refine sk_iadd 61 dX6_check_60 rfl ?_
      exact sk_iret dX6_check_61 rfl rfl h
    · have h := h.2 hc
      refine sk_aload_n 0 35 dX6_check_34 rfl rfl rfl ?_
      refine sk_getR (r := 1) 38 dX6_check_35 rfl lfX6_12 sc_0 rfl ?_
      refine sk_getR (r := 41) 41 dX6_check_38 rfl lfX6_286 sc_1 rfl ?_
      refine sk_iload_n 2 42 dX6_check_41 rfl rfl rfl ?_
      have hb42 := h.1
      have h := h.2
      refine sk_iald 43 dX6_check_42 rfl sc_41 hb42 _ rfl ?_
      refine sk_aload_n 0 44 dX6_check_43 rfl rfl rfl ?_
      refine sk_getR (r := 1) 47 dX6_check_44 rfl lfX6_12 sc_0 rfl ?_
      refine sk_getR (r := 35) 50 dX6_check_47 rfl lfX6_62 sc_1 rfl ?_
      refine sk_iload_n 2 51 dX6_check_50 rfl rfl rfl ?_
      have hb51 := h.1
      have h := h.2
      refine sk_aald 52 dX6_check_51 rfl sc_35 (by decide) hb51 _ rfl (r := (3 + v2.toNatClampNeg)) (sk_tl0 hb51) ?_
      refine sk_getI 55 dX6_check_52 rfl lfX6_97 (sk_tileAt hb51) rfl ?_
      refine sk_icmp_eq 62 58 dX6_check_55 (by decide) rfl (fun hc => ?_) (fun hc => ?_)
      · have h := h.1 hc
        refine sk_iinc (v := (v2 + 1)) (lv2 := [(2, .int (v2 + 1)), (0, .ref 0), (1, .int v1)]) 2 65 dX6_check_62 rfl rfl rfl (by decide) rfl ?_
        refine sk_goto 18 dX6_check_65 (by decide) ?_
        refine sk_perm (lv2 := [(0, .ref 0), (1, .int v1), (2, .int (v2 + 1))]) [1, 2, 0] rfl ?_
        exact h
      · have h := h.2 hc
        refine sk_iconst (v := 1) 59 dX6_check_58 rfl (by decide) ?_
        refine sk_iload_n 2 60 dX6_check_59 rfl rfl rfl ?_
        refine sk_iadd 61 dX6_check_60 rfl ?_
        exact sk_iret dX6_check_61 rfl rfl h

theorem wX6_count {d : Nat} {τ : sk_T} {K : sk_K} {v1 : Int32} (hd0 : 0 < d)
  (h : (
    (v1 = 0 →
      K (some (.int (τ 1 1))) τ
    ) ∧
    (v1 = 1 →
      K (some (.int (τ 1 2))) τ
    ) ∧
    (v1 = 2 →
      K (some (.int (τ 1 3))) τ
    ) ∧
    (v1 = 3 →
      K (some (.int (τ 1 4))) τ
    ) ∧
    (v1 = 4 →
      K (some (.int (τ 1 7))) τ
    ) ∧
    (v1 = 5 →
      K (some (.int (τ 1 10))) τ
    ) ∧
    (v1 = 6 →
      K (some (.int (τ 46 1))) τ
    ) ∧
    (v1 = 7 →
      K (some (.int (τ 1 5))) τ
    ) ∧
    ((¬ v1 = 0 ∧ ¬ v1 = 1 ∧ ¬ v1 = 2 ∧ ¬ v1 = 3 ∧ ¬ v1 = 4 ∧ ¬ v1 = 5 ∧ ¬ v1 = 6 ∧ ¬ v1 = 7) →
      sk_C sk_Sc (d - 1) mX6_error [.ref 0, .int 1] τ (fun w t114 => ∃ r114 : Int32, w = some (.int r114) ∧
        K (some (.int r114)) t114
      )
    ))) :
  sk_C sk_Sc d mX6_count [.ref 0, .int v1] τ K := by
  refine sk_enter mfX6_count (Nat.le_of_ble_eq_true rfl) ?_
  show sk_G sk_Sc d mX6_count 0 [(0, .ref 0), (1, .int v1)] [] τ K
  refine sk_iload_n 1 1 dX6_count_0 rfl rfl rfl ?_
  refine sk_table [48, 56, 64, 72, 80, 88, 96, 104] 112 dX6_count_1 (by decide) (by decide) (by decide) (by decide) ⟨fun e => ?_, fun e => ?_, fun e => ?_, fun e => ?_, fun e => ?_, fun e => ?_, fun e => ?_, fun e => ?_, trivial⟩ (fun e => ?_)
  · have h := h.1 e
    refine sk_aload_n 0 49 dX6_count_48 rfl rfl rfl ?_
    refine sk_getR (r := 1) 52 dX6_count_49 rfl lfX6_12 sc_0 rfl ?_
    refine sk_getI 55 dX6_count_52 rfl lfX6_55 sc_1 rfl ?_
    exact sk_iret dX6_count_55 rfl rfl h
  · have h := h.2.1 e
    refine sk_aload_n 0 57 dX6_count_56 rfl rfl rfl ?_
    refine sk_getR (r := 1) 60 dX6_count_57 rfl lfX6_12 sc_0 rfl ?_
    refine sk_getI 63 dX6_count_60 rfl lfX6_186 sc_1 rfl ?_
    exact sk_iret dX6_count_63 rfl rfl h
  · have h := h.2.2.1 e
    refine sk_aload_n 0 65 dX6_count_64 rfl rfl rfl ?_
    refine sk_getR (r := 1) 68 dX6_count_65 rfl lfX6_12 sc_0 rfl ?_
    refine sk_getI 71 dX6_count_68 rfl lfX6_138 sc_1 rfl ?_
    exact sk_iret dX6_count_71 rfl rfl h
  · have h := h.2.2.2.1 e
    refine sk_aload_n 0 73 dX6_count_72 rfl rfl rfl ?_
    refine sk_getR (r := 1) 76 dX6_count_73 rfl lfX6_12 sc_0 rfl ?_
    refine sk_getI 79 dX6_count_76 rfl lfX6_192 sc_1 rfl ?_
    exact sk_iret dX6_count_79 rfl rfl h
  · have h := h.2.2.2.2.1 e
    refine sk_aload_n 0 81 dX6_count_80 rfl rfl rfl ?_
    refine sk_getR (r := 1) 84 dX6_count_81 rfl lfX6_12 sc_0 rfl ?_
    refine sk_getI 87 dX6_count_84 rfl lfX6_141 sc_1 rfl ?_
    exact sk_iret dX6_count_87 rfl rfl h
  · have h := h.2.2.2.2.2.1 e
    refine sk_aload_n 0 89 dX6_count_88 rfl rfl rfl ?_
    refine sk_getR (r := 1) 92 dX6_count_89 rfl lfX6_12 sc_0 rfl ?_
    refine sk_getI 95 dX6_count_92 rfl lfX6_283 sc_1 rfl ?_
    exact sk_iret dX6_count_95 rfl rfl h
  · have h := h.2.2.2.2.2.2.1 e
    refine sk_aload_n 0 97 dX6_count_96 rfl rfl rfl ?_
    refine sk_getR (r := 46) 100 dX6_count_97 rfl lfX6_33 sc_0 rfl ?_
    refine sk_getI 103 dX6_count_100 rfl lfX6_253 sc_46 rfl ?_
    exact sk_iret dX6_count_103 rfl rfl h
  · have h := h.2.2.2.2.2.2.2.1 e
    refine sk_aload_n 0 105 dX6_count_104 rfl rfl rfl ?_
    refine sk_getR (r := 1) 108 dX6_count_105 rfl lfX6_12 sc_0 rfl ?_
    refine sk_getI 111 dX6_count_108 rfl lfX6_198 sc_1 rfl ?_
    exact sk_iret dX6_count_111 rfl rfl h
  · have h := h.2.2.2.2.2.2.2.2 ⟨e 0 (by decide), e 1 (by decide), e 2 (by decide), e 3 (by decide), e 4 (by decide), e 5 (by decide), e 6 (by decide), e 7 (by decide)⟩
    refine sk_aload_n 0 113 dX6_count_112 rfl rfl rfl ?_
    refine sk_iconst (v := 1) 114 dX6_count_113 rfl (by decide) ?_
    refine sk_callVi [.int 1] [] 117 dX6_count_114 rfl mfX6_error lkX6_58 miX6_error msX6_error sc_0 rfl rfl rfl rfl (by simp [Value.category]) hd0 (sk_Cm h ?_)
    rintro w t114 ⟨r114, hw, h⟩
    refine ⟨r114, hw, ?_⟩
    exact sk_iret dX6_count_117 rfl rfl h

theorem wX6_told {d : Nat} {τ : sk_T} {K : sk_K} {v1 : Int32} (hd0 : 0 < d)
  (h : ((v1 < 1 →
      sk_C sk_Sc (d - 1) mX6_error [.ref 0, .int 1] τ (fun w t13 => ∃ r13 : Int32, w = some (.int r13) ∧
        K (some (.int r13)) t13
      )
    ) ∧
    (¬ v1 < 1 →
      ((v1 ≤ 6 →
        vp_in v1 7 ∧
        K (some (.int (τ 57 (v1).toNatClampNeg))) τ
      ) ∧
      (¬ v1 ≤ 6 →
        sk_C sk_Sc (d - 1) mX6_error [.ref 0, .int 1] τ (fun w t13 => ∃ r13 : Int32, w = some (.int r13) ∧
          K (some (.int r13)) t13
        )
      ))
    ))) :
  sk_C sk_Sc d mX6_told [.ref 0, .int v1] τ K := by
  refine sk_enter mfX6_told (Nat.le_of_ble_eq_true rfl) ?_
  show sk_G sk_Sc d mX6_told 0 [(0, .ref 0), (1, .int v1)] [] τ K
  refine sk_iload_n 1 1 dX6_told_0 rfl rfl rfl ?_
  refine sk_iconst (v := 1) 2 dX6_told_1 rfl (by decide) ?_
  refine sk_icmp_lt 11 5 dX6_told_2 (by decide) rfl (fun hc => ?_) (fun hc => ?_)
  · have h := h.1 hc
    refine sk_aload_n 0 12 dX6_told_11 rfl rfl rfl ?_
    refine sk_iconst (v := 1) 13 dX6_told_12 rfl (by decide) ?_
    refine sk_callVi [.int 1] [] 16 dX6_told_13 rfl mfX6_error lkX6_58 miX6_error msX6_error sc_0 rfl rfl rfl rfl (by simp [Value.category]) hd0 (sk_Cm h ?_)
    rintro w t13 ⟨r13, hw, h⟩
    refine ⟨r13, hw, ?_⟩
    refine sk_goto 25 dX6_told_16 (by decide) ?_
    exact sk_iret dX6_told_25 rfl rfl h
  · have h := h.2 hc
    refine sk_iload_n 1 6 dX6_told_5 rfl rfl rfl ?_
    refine sk_bipush (v := 6) 8 dX6_told_6 rfl (by decide) ?_
    refine sk_icmp_le 19 11 dX6_told_8 (by decide) rfl (fun hc => ?_) (fun hc => ?_)
    · have h := h.1 hc
      refine sk_aload_n 0 20 dX6_told_19 rfl rfl rfl ?_
      refine sk_getR (r := 57) 23 dX6_told_20 rfl lfX6_43 sc_0 rfl ?_
      refine sk_iload_n 1 24 dX6_told_23 rfl rfl rfl ?_
      have hb24 := h.1
      have h := h.2
      refine sk_iald 25 dX6_told_24 rfl sc_57 hb24 _ rfl ?_
      exact sk_iret dX6_told_25 rfl rfl h
    · have h := h.2 hc
      refine sk_aload_n 0 12 dX6_told_11 rfl rfl rfl ?_
      refine sk_iconst (v := 1) 13 dX6_told_12 rfl (by decide) ?_
      refine sk_callVi [.int 1] [] 16 dX6_told_13 rfl mfX6_error lkX6_58 miX6_error msX6_error sc_0 rfl rfl rfl rfl (by simp [Value.category]) hd0 (sk_Cm h ?_)
      rintro w t13 ⟨r13, hw, h⟩
      refine ⟨r13, hw, ?_⟩
      refine sk_goto 25 dX6_told_16 (by decide) ?_
      exact sk_iret dX6_told_25 rfl rfl h

theorem wX6_error {d : Nat} {τ : sk_T} {K : sk_K} {v1 : Int32}
  (h : vp_in v1 7 ∧
    vp_in v1 7 ∧
    K (some (.int ((-1000000000) - v1))) (sk_u τ 57 (v1).toNatClampNeg ((τ 57 (v1).toNatClampNeg) + 1))) :
  sk_C sk_Sc d mX6_error [.ref 0, .int v1] τ K := by
  refine sk_enter mfX6_error (Nat.le_of_ble_eq_true rfl) ?_
  show sk_G sk_Sc d mX6_error 0 [(0, .ref 0), (1, .int v1)] [] τ K
  refine sk_aload_n 0 1 dX6_error_0 rfl rfl rfl ?_
  refine sk_getR (r := 57) 4 dX6_error_1 rfl lfX6_43 sc_0 rfl ?_
  refine sk_iload_n 1 5 dX6_error_4 rfl rfl rfl ?_
  refine sk_dup2 6 dX6_error_5 rfl rfl rfl ?_
  have hb6 := h.1
  have h := h.2
  refine sk_iald 7 dX6_error_6 rfl sc_57 hb6 _ rfl ?_
  refine sk_iconst (v := 1) 8 dX6_error_7 rfl (by decide) ?_
  refine sk_iadd 9 dX6_error_8 rfl ?_
  have hb9 := h.1
  have h := h.2
  refine sk_iast 10 dX6_error_9 rfl sc_57 hb9 _ rfl ?_
  refine sk_ldcw 13 dX6_error_10 rfl kcX6_289 ?_
  refine sk_iload_n 1 14 dX6_error_13 rfl rfl rfl ?_
  refine sk_isub 15 dX6_error_14 rfl ?_
  exact sk_iret dX6_error_15 rfl rfl h

theorem wX6_isSlate {d : Nat} {τ : sk_T} {K : sk_K} {v1 : Int32}
  (h : ((v1 < 0 →
      K (some (.int 0)) τ
    ) ∧
    (¬ v1 < 0 →
      (((τ 1 1) ≤ v1 →
        K (some (.int 0)) τ
      ) ∧
      (¬ (τ 1 1) ≤ v1 →
        K (some (.int 1)) τ
      ))
    ))) :
  sk_C sk_Sc d mX6_isSlate [.ref 0, .int v1] τ K := by
  refine sk_enter mfX6_isSlate (Nat.le_of_ble_eq_true rfl) ?_
  show sk_G sk_Sc d mX6_isSlate 0 [(0, .ref 0), (1, .int v1)] [] τ K
  refine sk_iload_n 1 1 dX6_isSlate_0 rfl rfl rfl ?_
  refine sk_if_lt 19 4 dX6_isSlate_1 (by decide) rfl (fun hc => ?_) (fun hc => ?_)
  · have h := h.1 hc
    refine sk_iconst (v := 0) 20 dX6_isSlate_19 rfl (by decide) ?_
    exact sk_iret dX6_isSlate_20 rfl rfl h
  · have h := h.2 hc
    refine sk_iload_n 1 5 dX6_isSlate_4 rfl rfl rfl ?_
    refine sk_aload_n 0 6 dX6_isSlate_5 rfl rfl rfl ?_
    refine sk_getR (r := 1) 9 dX6_isSlate_6 rfl lfX6_12 sc_0 rfl ?_
    refine sk_getI 12 dX6_isSlate_9 rfl lfX6_55 sc_1 rfl ?_
    refine sk_icmp_ge 19 15 dX6_isSlate_12 (by decide) rfl (fun hc => ?_) (fun hc => ?_)
    · have h := h.1 hc
      refine sk_iconst (v := 0) 20 dX6_isSlate_19 rfl (by decide) ?_
      exact sk_iret dX6_isSlate_20 rfl rfl h
    · have h := h.2 hc
      refine sk_iconst (v := 1) 16 dX6_isSlate_15 rfl (by decide) ?_
      refine sk_goto 20 dX6_isSlate_16 (by decide) ?_
      exact sk_iret dX6_isSlate_20 rfl rfl h

theorem wX6_isKindAndM {d : Nat} {τ : sk_T} {K : sk_K} {v0 : Int32}
  (h : ((v0 < 0 →
      K (some (.int 0)) τ
    ) ∧
    (¬ v0 < 0 →
      ((70 ≤ v0 →
        K (some (.int 0)) τ
      ) ∧
      (¬ 70 ≤ v0 →
        K (some (.int 1)) τ
      ))
    ))) :
  sk_C sk_Sc d mX6_isKindAndM [.int v0] τ K := by
  refine sk_enter mfX6_isKindAndM (Nat.le_of_ble_eq_true rfl) ?_
  show sk_G sk_Sc d mX6_isKindAndM 0 [(0, .int v0)] [] τ K
  refine sk_iload_n 0 1 dX6_isKindAndM_0 rfl rfl rfl ?_
  refine sk_if_lt 14 4 dX6_isKindAndM_1 (by decide) rfl (fun hc => ?_) (fun hc => ?_)
  · have h := h.1 hc
    refine sk_iconst (v := 0) 15 dX6_isKindAndM_14 rfl (by decide) ?_
    exact sk_iret dX6_isKindAndM_15 rfl rfl h
  · have h := h.2 hc
    refine sk_iload_n 0 5 dX6_isKindAndM_4 rfl rfl rfl ?_
    refine sk_bipush (v := 70) 7 dX6_isKindAndM_5 rfl (by decide) ?_
    refine sk_icmp_ge 14 10 dX6_isKindAndM_7 (by decide) rfl (fun hc => ?_) (fun hc => ?_)
    · have h := h.1 hc
      refine sk_iconst (v := 0) 15 dX6_isKindAndM_14 rfl (by decide) ?_
      exact sk_iret dX6_isKindAndM_15 rfl rfl h
    · have h := h.2 hc
      refine sk_iconst (v := 1) 11 dX6_isKindAndM_10 rfl (by decide) ?_
      refine sk_goto 15 dX6_isKindAndM_11 (by decide) ?_
      exact sk_iret dX6_isKindAndM_15 rfl rfl h

theorem wX6_isDigit {d : Nat} {τ : sk_T} {K : sk_K} {v0 : Int32}
  (h : ((v0 < 0 →
      K (some (.int 0)) τ
    ) ∧
    (¬ v0 < 0 →
      ((9 < v0 →
        K (some (.int 0)) τ
      ) ∧
      (¬ 9 < v0 →
        K (some (.int 1)) τ
      ))
    ))) :
  sk_C sk_Sc d mX6_isDigit [.int v0] τ K := by
  refine sk_enter mfX6_isDigit (Nat.le_of_ble_eq_true rfl) ?_
  show sk_G sk_Sc d mX6_isDigit 0 [(0, .int v0)] [] τ K
  refine sk_iload_n 0 1 dX6_isDigit_0 rfl rfl rfl ?_
  refine sk_if_lt 14 4 dX6_isDigit_1 (by decide) rfl (fun hc => ?_) (fun hc => ?_)
  · have h := h.1 hc
    refine sk_iconst (v := 0) 15 dX6_isDigit_14 rfl (by decide) ?_
    exact sk_iret dX6_isDigit_15 rfl rfl h
  · have h := h.2 hc
    refine sk_iload_n 0 5 dX6_isDigit_4 rfl rfl rfl ?_
    refine sk_bipush (v := 9) 7 dX6_isDigit_5 rfl (by decide) ?_
    refine sk_icmp_gt 14 10 dX6_isDigit_7 (by decide) rfl (fun hc => ?_) (fun hc => ?_)
    · have h := h.1 hc
      refine sk_iconst (v := 0) 15 dX6_isDigit_14 rfl (by decide) ?_
      exact sk_iret dX6_isDigit_15 rfl rfl h
    · have h := h.2 hc
      refine sk_iconst (v := 1) 11 dX6_isDigit_10 rfl (by decide) ?_
      refine sk_goto 15 dX6_isDigit_11 (by decide) ?_
      exact sk_iret dX6_isDigit_15 rfl rfl h

theorem wX6_isBit {d : Nat} {τ : sk_T} {K : sk_K} {v0 : Int32}
  (h : ((v0 = 0 →
      K (some (.int 1)) τ
    ) ∧
    (¬ v0 = 0 →
      ((¬ v0 = 1 →
        K (some (.int 0)) τ
      ) ∧
      (v0 = 1 →
        K (some (.int 1)) τ
      ))
    ))) :
  sk_C sk_Sc d mX6_isBit [.int v0] τ K := by
  refine sk_enter mfX6_isBit (Nat.le_of_ble_eq_true rfl) ?_
  show sk_G sk_Sc d mX6_isBit 0 [(0, .int v0)] [] τ K
  refine sk_iload_n 0 1 dX6_isBit_0 rfl rfl rfl ?_
  refine sk_if_eq 9 4 dX6_isBit_1 (by decide) rfl (fun hc => ?_) (fun hc => ?_)
  · have h := h.1 hc
    refine sk_iconst (v := 1) 10 dX6_isBit_9 rfl (by decide) ?_
    refine sk_goto 14 dX6_isBit_10 (by decide) ?_
    exact sk_iret dX6_isBit_14 rfl rfl h
  · have h := h.2 hc
    refine sk_iload_n 0 5 dX6_isBit_4 rfl rfl rfl ?_
    refine sk_iconst (v := 1) 6 dX6_isBit_5 rfl (by decide) ?_
    refine sk_icmp_ne 13 9 dX6_isBit_6 (by decide) rfl (fun hc => ?_) (fun hc => ?_)
    · have h := h.1 hc
      refine sk_iconst (v := 0) 14 dX6_isBit_13 rfl (by decide) ?_
      exact sk_iret dX6_isBit_14 rfl rfl h
    · have h := h.2 hc
      refine sk_iconst (v := 1) 10 dX6_isBit_9 rfl (by decide) ?_
      refine sk_goto 14 dX6_isBit_10 (by decide) ?_
      exact sk_iret dX6_isBit_14 rfl rfl h

theorem wX6_isUse {d : Nat} {τ : sk_T} {K : sk_K} {v0 : Int32}
  (h : ((v0 < 0 →
      K (some (.int 0)) τ
    ) ∧
    (¬ v0 < 0 →
      ((2 ≤ v0 →
        K (some (.int 0)) τ
      ) ∧
      (¬ 2 ≤ v0 →
        K (some (.int 1)) τ
      ))
    ))) :
  sk_C sk_Sc d mX6_isUse [.int v0] τ K := by
  refine sk_enter mfX6_isUse (Nat.le_of_ble_eq_true rfl) ?_
  show sk_G sk_Sc d mX6_isUse 0 [(0, .int v0)] [] τ K
  refine sk_iload_n 0 1 dX6_isUse_0 rfl rfl rfl ?_
  refine sk_if_lt 13 4 dX6_isUse_1 (by decide) rfl (fun hc => ?_) (fun hc => ?_)
  · have h := h.1 hc
    refine sk_iconst (v := 0) 14 dX6_isUse_13 rfl (by decide) ?_
    exact sk_iret dX6_isUse_14 rfl rfl h
  · have h := h.2 hc
    refine sk_iload_n 0 5 dX6_isUse_4 rfl rfl rfl ?_
    refine sk_iconst (v := 2) 6 dX6_isUse_5 rfl (by decide) ?_
    refine sk_icmp_ge 13 9 dX6_isUse_6 (by decide) rfl (fun hc => ?_) (fun hc => ?_)
    · have h := h.1 hc
      refine sk_iconst (v := 0) 14 dX6_isUse_13 rfl (by decide) ?_
      exact sk_iret dX6_isUse_14 rfl rfl h
    · have h := h.2 hc
      refine sk_iconst (v := 1) 10 dX6_isUse_9 rfl (by decide) ?_
      refine sk_goto 14 dX6_isUse_10 (by decide) ?_
      exact sk_iret dX6_isUse_14 rfl rfl h

theorem wX6_isGale {d : Nat} {τ : sk_T} {K : sk_K} {v0 : Int32}
  (h : ((v0 < 0 →
      K (some (.int 0)) τ
    ) ∧
    (¬ v0 < 0 →
      ((40 < v0 →
        K (some (.int 0)) τ
      ) ∧
      (¬ 40 < v0 →
        K (some (.int 1)) τ
      ))
    ))) :
  sk_C sk_Sc d mX6_isGale [.int v0] τ K := by
  refine sk_enter mfX6_isGale (Nat.le_of_ble_eq_true rfl) ?_
  show sk_G sk_Sc d mX6_isGale 0 [(0, .int v0)] [] τ K
  refine sk_iload_n 0 1 dX6_isGale_0 rfl rfl rfl ?_
  refine sk_if_lt 14 4 dX6_isGale_1 (by decide) rfl (fun hc => ?_) (fun hc => ?_)
  · have h := h.1 hc
    refine sk_iconst (v := 0) 15 dX6_isGale_14 rfl (by decide) ?_
    exact sk_iret dX6_isGale_15 rfl rfl h
  · have h := h.2 hc
    refine sk_iload_n 0 5 dX6_isGale_4 rfl rfl rfl ?_
    refine sk_bipush (v := 40) 7 dX6_isGale_5 rfl (by decide) ?_
    refine sk_icmp_gt 14 10 dX6_isGale_7 (by decide) rfl (fun hc => ?_) (fun hc => ?_)
    · have h := h.1 hc
      refine sk_iconst (v := 0) 15 dX6_isGale_14 rfl (by decide) ?_
      exact sk_iret dX6_isGale_15 rfl rfl h
    · have h := h.2 hc
      refine sk_iconst (v := 1) 11 dX6_isGale_10 rfl (by decide) ?_
      refine sk_goto 15 dX6_isGale_11 (by decide) ?_
      exact sk_iret dX6_isGale_15 rfl rfl h

theorem wX6_isCell {d : Nat} {τ : sk_T} {K : sk_K} {v0 : Int32}
  (h : ((v0 < 0 →
      K (some (.int 0)) τ
    ) ∧
    (¬ v0 < 0 →
      ((48 ≤ v0 →
        K (some (.int 0)) τ
      ) ∧
      (¬ 48 ≤ v0 →
        K (some (.int 1)) τ
      ))
    ))) :
  sk_C sk_Sc d mX6_isCell [.int v0] τ K := by
  refine sk_enter mfX6_isCell (Nat.le_of_ble_eq_true rfl) ?_
  show sk_G sk_Sc d mX6_isCell 0 [(0, .int v0)] [] τ K
  refine sk_iload_n 0 1 dX6_isCell_0 rfl rfl rfl ?_
  refine sk_if_lt 14 4 dX6_isCell_1 (by decide) rfl (fun hc => ?_) (fun hc => ?_)
  · have h := h.1 hc
    refine sk_iconst (v := 0) 15 dX6_isCell_14 rfl (by decide) ?_
    exact sk_iret dX6_isCell_15 rfl rfl h
  · have h := h.2 hc
    refine sk_iload_n 0 5 dX6_isCell_4 rfl rfl rfl ?_
    refine sk_bipush (v := 48) 7 dX6_isCell_5 rfl (by decide) ?_
    refine sk_icmp_ge 14 10 dX6_isCell_7 (by decide) rfl (fun hc => ?_) (fun hc => ?_)
    · have h := h.1 hc
      refine sk_iconst (v := 0) 15 dX6_isCell_14 rfl (by decide) ?_
      exact sk_iret dX6_isCell_15 rfl rfl h
    · have h := h.2 hc
      refine sk_iconst (v := 1) 11 dX6_isCell_10 rfl (by decide) ?_
      refine sk_goto 15 dX6_isCell_11 (by decide) ?_
      exact sk_iret dX6_isCell_15 rfl rfl h

theorem wX6_isSheet {d : Nat} {τ : sk_T} {K : sk_K} {v0 : Int32}
  (h : ((v0 < 0 →
      K (some (.int 0)) τ
    ) ∧
    (¬ v0 < 0 →
      ((4 ≤ v0 →
        K (some (.int 0)) τ
      ) ∧
      (¬ 4 ≤ v0 →
        K (some (.int 1)) τ
      ))
    ))) :
  sk_C sk_Sc d mX6_isSheet [.int v0] τ K := by
  refine sk_enter mfX6_isSheet (Nat.le_of_ble_eq_true rfl) ?_
  show sk_G sk_Sc d mX6_isSheet 0 [(0, .int v0)] [] τ K
  refine sk_iload_n 0 1 dX6_isSheet_0 rfl rfl rfl ?_
  refine sk_if_lt 13 4 dX6_isSheet_1 (by decide) rfl (fun hc => ?_) (fun hc => ?_)
  · have h := h.1 hc
    refine sk_iconst (v := 0) 14 dX6_isSheet_13 rfl (by decide) ?_
    exact sk_iret dX6_isSheet_14 rfl rfl h
  · have h := h.2 hc
    refine sk_iload_n 0 5 dX6_isSheet_4 rfl rfl rfl ?_
    refine sk_iconst (v := 4) 6 dX6_isSheet_5 rfl (by decide) ?_
    refine sk_icmp_ge 13 9 dX6_isSheet_6 (by decide) rfl (fun hc => ?_) (fun hc => ?_)
    · have h := h.1 hc
      refine sk_iconst (v := 0) 14 dX6_isSheet_13 rfl (by decide) ?_
      exact sk_iret dX6_isSheet_14 rfl rfl h
    · have h := h.2 hc
      refine sk_iconst (v := 1) 10 dX6_isSheet_9 rfl (by decide) ?_
      refine sk_goto 14 dX6_isSheet_10 (by decide) ?_
      exact sk_iret dX6_isSheet_14 rfl rfl h

theorem wX6_commonDivisor {d : Nat} {τ : sk_T} {K : sk_K} {v0 : Int32} {v1 : Int32}
  (h : sk_G sk_Sc d mX6_commonDivisor 7 [(2, .int v0), (3, .int v1), (4, .int 0)] [] τ K) :
  sk_C sk_Sc d mX6_commonDivisor [.int v0, .int v1] τ K := by
  refine sk_enter mfX6_commonDivisor (Nat.le_of_ble_eq_true rfl) ?_
  show sk_G sk_Sc d mX6_commonDivisor 0 [(0, .int v0), (1, .int v1)] [] τ K
  refine sk_iload_n 0 1 dX6_commonDivisor_0 rfl rfl rfl ?_
  refine sk_istore_n (lv2 := [(2, .int v0), (0, .int v0), (1, .int v1)]) 2 dX6_commonDivisor_1 rfl rfl (by decide) rfl ?_
  refine sk_iload_n 2 3 dX6_commonDivisor_2 rfl rfl rfl ?_
  refine sk_istore_n (lv2 := [(3, .int v1), (2, .int v0), (0, .int v0), (1, .int v1)]) 4 dX6_commonDivisor_3 rfl rfl (by decide) rfl ?_
  refine sk_iconst (v := 0) 5 dX6_commonDivisor_4 rfl (by decide) ?_
  refine sk_istore (lv2 := [(4, .int 0), (3, .int v1), (2, .int v0), (0, .int v0), (1, .int v1)]) 7 dX6_commonDivisor_5 rfl (by decide) rfl ?_
  refine sk_perm (lv2 := [(2, .int v0), (3, .int v1), (4, .int 0)]) [2, 1, 0] rfl ?_
  exact h

theorem bX6_commonDivisor_7 {d : Nat} {τ : sk_T} {K : sk_K} {v2 : Int32} {v3 : Int32} {v4 : Int32}
  (h : ((40 ≤ v4 →
      K (some (.int v2)) τ
    ) ∧
    (¬ 40 ≤ v4 →
      ((v3 = 0 →
        K (some (.int v2)) τ
      ) ∧
      (¬ v3 = 0 →
        ¬ v3 = 0 ∧
        sk_G sk_Sc d mX6_commonDivisor 7 [(2, .int v3), (3, .int (v2 % v3)), (4, .int (v4 + 1))] [] τ K
      ))
    ))) :
  sk_G sk_Sc d mX6_commonDivisor 7 [(2, .int v2), (3, .int v3), (4, .int v4)] [] τ K := by
  refine sk_iload 2 9 dX6_commonDivisor_7 rfl rfl ?_
  refine sk_bipush (v := 40) 11 dX6_commonDivisor_9 rfl (by decide) ?_
  refine sk_icmp_ge 34 14 dX6_commonDivisor_11 (by decide) rfl (fun hc => ?_) (fun hc => ?_)
  · have h := h.1 hc
    refine sk_iload_n 0 35 dX6_commonDivisor_34 rfl rfl rfl ?_
    exact sk_iret dX6_commonDivisor_35 rfl rfl h
  · have h := h.2 hc
    refine sk_iload_n 1 15 dX6_commonDivisor_14 rfl rfl rfl ?_
    refine sk_if_eq 34 18 dX6_commonDivisor_15 (by decide) rfl (fun hc => ?_) (fun hc => ?_)
    · have h := h.1 hc
      refine sk_iload_n 0 35 dX6_commonDivisor_34 rfl rfl rfl ?_
      exact sk_iret dX6_commonDivisor_35 rfl rfl h
    · have h := h.2 hc
      refine sk_iload_n 0 19 dX6_commonDivisor_18 rfl rfl rfl ?_
      refine sk_iload_n 1 20 dX6_commonDivisor_19 rfl rfl rfl ?_
      have hz20 := h.1
      have h := h.2
      refine sk_irem 21 dX6_commonDivisor_20 rfl hz20 ?_
      refine sk_istore (lv2 := [(5, .int (v2 % v3)), (2, .int v2), (3, .int v3), (4, .int v4)]) 23 dX6_commonDivisor_21 rfl (by decide) rfl ?_
      refine sk_iload_n 2 24 dX6_commonDivisor_23 rfl rfl rfl ?_
      refine sk_istore_n (lv2 := [(2, .int v3), (5, .int (v2 % v3)), (3, .int v3), (4, .int v4)]) 25 dX6_commonDivisor_24 rfl rfl (by decide) rfl ?_
      refine sk_iload 1 27 dX6_commonDivisor_25 rfl rfl ?_
      refine sk_istore_n (lv2 := [(3, .int (v2 % v3)), (2, .int v3), (5, .int (v2 % v3)), (4, .int v4)]) 28 dX6_commonDivisor_27 rfl rfl (by decide) rfl ?_
      refine sk_iinc (v := (v4 + 1)) (lv2 := [(4, .int (v4 + 1)), (3, .int (v2 % v3)), (2, .int v3), (5, .int (v2 % v3))]) 3 31 dX6_commonDivisor_28 rfl rfl rfl (by decide) rfl ?_
      refine sk_goto 7 dX6_commonDivisor_31 (by decide) ?_
      refine sk_perm (lv2 := [(2, .int v3), (3, .int (v2 % v3)), (4, .int (v4 + 1))]) [2, 1, 0] rfl ?_
      exact h

