/-! ===== the small constructors (written by wip/whole/gen/p54.py) ===== -/
theorem k_ist {p : Program} {l : Launch} {e : Env} {R : Room} {s : State} {m : MethodId} {args : Array Value} {below : List Frame} {meth : Method} {c : Code} {H : Heap} {locs : List Loc} {cells slots : Nat} {Q : State → Prop} {pc : Nat} {ls : Array Slot} {D : va_G} {cA : Nat → ClassId} {A : Nat → Prop} {y : String} {cc : ByteArray} {nL : Nat} {ws : va_W} {rest : List Value} {a n : Nat} {f : Nat → Int32} {i x : Int32} (X : kB y cc nL D cA A p s m args c H locs ws) (hdg : decode cc pc = .ok (.iastore, 1)) (q0 : Nat) (ha : ws[q0]? = some (a, eF (cA 0) n f)) (hi : vp_in i n) (j : Nat) (hj : i.toNatClampNeg = j) (ws' : va_W) (hw : ws.set q0 (a, eF (cA 0) n (upd f j x)) = ws')
    (kk : ∀ (H1 : Heap) (locs1 : List Loc), kB y cc nL D cA A p s m args c H1 locs1 ws' → W p l e R s m args below meth c H1 locs1 cells slots Q (F0 m (pc + 1) ls rest)) : W p l e R s m args below meth c H locs cells slots Q (F0 m pc ls (.int x :: .int i :: .ref a :: rest)) := by
  subst hw
  subst hj
  obtain ⟨⟨hx, hb, hml, hown, hts⟩, hP, hK, hD, hS, hA, hN, hO⟩ := X
  exact va_iast hx hb hK hP hD hS q0 0 ha rfl hi hdg (fun H1 locs1 hP1 hD1 hS1 => kk H1 locs1 ⟨⟨hx, hb, hml, hown, hts⟩, hP1, hK, hD1, hS1, hA, hN, hO⟩)
abbrev iX5 : sk_M := (yX5_init, cX5_init, 1, none)
theorem mfiX5 : sk_MF iX5 0 := ⟨sk_tin 34 (by decide +kernel) rfl, sk_tin 3 (by decide +kernel) rfl, by decide +kernel, by decide +kernel, by decide +kernel, by decide +kernel, by decide⟩
theorem miiX5 : Cond.instanceMethod yX5_init ∈ sk_ALL := sk_tin 33 (by decide +kernel) rfl
theorem klo_RX5_3 : Cond.methodLink RX5 3 Lib.objectInit ∈ sk_ALL := sk_tin 35 (by decide +kernel) rfl
theorem kfX5_9 : kF RX5 9 5 0 .int := ⟨RX5, TX5, 7, rfl, by decide, sk_fw5, sk_tin 36 (by decide +kernel) rfl, ⟨tyX5, tyX5_ok⟩, nmX5, rfl, by decide +kernel⟩
theorem kfX5_15 : kF RX5 15 5 1 .int := ⟨RX5, TX5, 7, rfl, by decide, sk_fw5, sk_tin 39 (by decide +kernel) rfl, ⟨tyX5, tyX5_ok⟩, nmX5, rfl, by decide +kernel⟩
theorem kfX5_18 : kF RX5 18 5 2 .int := ⟨RX5, TX5, 7, rfl, by decide, sk_fw5, sk_tin 42 (by decide +kernel) rfl, ⟨tyX5, tyX5_ok⟩, nmX5, rfl, by decide +kernel⟩
theorem kfX5_21 : kF RX5 21 5 3 .int := ⟨RX5, TX5, 7, rfl, by decide, sk_fw5, sk_tin 44 (by decide +kernel) rfl, ⟨tyX5, tyX5_ok⟩, nmX5, rfl, by decide +kernel⟩
theorem kfX5_24 : kF RX5 24 5 4 .int := ⟨RX5, TX5, 7, rfl, by decide, sk_fw5, sk_tin 47 (by decide +kernel) rfl, ⟨tyX5, tyX5_ok⟩, nmX5, rfl, by decide +kernel⟩
theorem kfX5_27 : kF RX5 27 5 5 .int := ⟨RX5, TX5, 7, rfl, by decide, sk_fw5, sk_tin 50 (by decide +kernel) rfl, ⟨tyX5, tyX5_ok⟩, nmX5, rfl, by decide +kernel⟩
theorem kfX5_30 : kF RX5 30 5 6 .int := ⟨RX5, TX5, 7, rfl, by decide, sk_fw5, sk_tin 53 (by decide +kernel) rfl, ⟨tyX5, tyX5_ok⟩, nmX5, rfl, by decide +kernel⟩
def poX5 (cA : Nat → ClassId) (h0 : Nat) (q : Nat → Nat) : va_W := [(h0, eO 5 [.int 0, .int 0, .int 1, .int 0, .int (-1), .int 0, .int (-1)])]
set_option maxHeartbeats 4000000 in
set_option maxRecDepth 100000 in
theorem coX5 (D : va_G) (cA : Nat → ClassId) : kCon iX5 1 0 0 D cA [] (eO 5 [.int 0, .int 0, .int 0, .int 0, .int 0, .int 0, .int 0]) (poX5 cA) := by
  refine k_enter mfiX5 rfl rfl (fun _ => Nat.le_of_ble_eq_true rfl) (fun p l e s m args below meth c ls h0 hl X hin hr hlk => ?_)
  have X : kB RX5 cX5_init 1 D cA _ p s m args c _ _ [(h0, eO 5 [.int 0, .int 0, .int 0, .int 0, .int 0, .int 0, .int 0])] := X
  have hx := X.1.1
  have hb := X.1.2.1
  have hl : lv_has ls 1 [(0, .ref h0)] := hl
  refine lv_aload_n hx hb dX5_init_0 rfl (lv_at hl 0 rfl) ?_
  refine k_obj X dX5_init_1 klo_RX5_3 hl.1 ⟨Nat.le_of_ble_eq_true rfl, Nat.le_of_ble_eq_true rfl⟩ ?_
  refine lv_aload_n hx hb dX5_init_4 rfl (lv_at hl 0 rfl) ?_
  refine lv_iconst (v := 0) hx hb dX5_init_5 (by decide +kernel) ?_
  refine k_put X hin dX5_init_6 0 0 kfX5_9 rfl rfl rfl (Nat.le_of_ble_eq_true rfl) [(h0, eO 5 [.int 0, .int 0, .int 0, .int 0, .int 0, .int 0, .int 0])] rfl (fun H locs X => ?_)
  refine lv_aload_n hx hb dX5_init_9 rfl (lv_at hl 0 rfl) ?_
  refine lv_iconst (v := 0) hx hb dX5_init_10 (by decide +kernel) ?_
  refine k_put X hin dX5_init_11 0 1 kfX5_15 rfl rfl rfl (Nat.le_of_ble_eq_true rfl) [(h0, eO 5 [.int 0, .int 0, .int 0, .int 0, .int 0, .int 0, .int 0])] rfl (fun H locs X => ?_)
  refine lv_aload_n hx hb dX5_init_14 rfl (lv_at hl 0 rfl) ?_
  refine lv_iconst (v := 1) hx hb dX5_init_15 (by decide +kernel) ?_
  refine k_put X hin dX5_init_16 0 2 kfX5_18 rfl rfl rfl (Nat.le_of_ble_eq_true rfl) [(h0, eO 5 [.int 0, .int 0, .int 1, .int 0, .int 0, .int 0, .int 0])] rfl (fun H locs X => ?_)
  refine lv_aload_n hx hb dX5_init_19 rfl (lv_at hl 0 rfl) ?_
  refine lv_iconst (v := 0) hx hb dX5_init_20 (by decide +kernel) ?_
  refine k_put X hin dX5_init_21 0 3 kfX5_21 rfl rfl rfl (Nat.le_of_ble_eq_true rfl) [(h0, eO 5 [.int 0, .int 0, .int 1, .int 0, .int 0, .int 0, .int 0])] rfl (fun H locs X => ?_)
  refine lv_aload_n hx hb dX5_init_24 rfl (lv_at hl 0 rfl) ?_
  refine lv_iconst (v := (-1)) hx hb dX5_init_25 (by decide +kernel) ?_
  refine k_put X hin dX5_init_26 0 4 kfX5_24 rfl rfl rfl (Nat.le_of_ble_eq_true rfl) [(h0, eO 5 [.int 0, .int 0, .int 1, .int 0, .int (-1), .int 0, .int 0])] rfl (fun H locs X => ?_)
  refine lv_aload_n hx hb dX5_init_29 rfl (lv_at hl 0 rfl) ?_
  refine lv_iconst (v := 0) hx hb dX5_init_30 (by decide +kernel) ?_
  refine k_put X hin dX5_init_31 0 5 kfX5_27 rfl rfl rfl (Nat.le_of_ble_eq_true rfl) [(h0, eO 5 [.int 0, .int 0, .int 1, .int 0, .int (-1), .int 0, .int 0])] rfl (fun H locs X => ?_)
  refine lv_aload_n hx hb dX5_init_34 rfl (lv_at hl 0 rfl) ?_
  refine lv_iconst (v := (-1)) hx hb dX5_init_35 (by decide +kernel) ?_
  refine k_put X hin dX5_init_36 0 6 kfX5_30 rfl rfl rfl (Nat.le_of_ble_eq_true rfl) [(h0, eO 5 [.int 0, .int 0, .int 1, .int 0, .int (-1), .int 0, .int (-1)])] rfl (fun H locs X => ?_)
  exact k_ret X dX5_init_39 hr hlk (fun k => ([] : List Nat).getD k 0) rfl (Nat.le_refl _) (Nat.le_refl _)
abbrev iX1 : sk_M := (yX1_init, cX1_init, 2, none)
theorem mfiX1 : sk_MF iX1 1 := ⟨sk_tin 76 (by decide +kernel) rfl, sk_tin 4 (by decide +kernel) rfl, by decide +kernel, by decide +kernel, by decide +kernel, by decide +kernel, by decide⟩
theorem miiX1 : Cond.instanceMethod yX1_init ∈ sk_ALL := sk_tin 75 (by decide +kernel) rfl
theorem klo_RX1_3 : Cond.methodLink RX1 3 Lib.objectInit ∈ sk_ALL := sk_tin 77 (by decide +kernel) rfl
theorem kfX1_9 : kF RX1 9 1 1 .boolean := ⟨RX1, TX1, 5, rfl, by decide, sk_fw1, sk_tin 79 (by decide +kernel) rfl, ⟨tyX1, tyX1_ok⟩, nmX1, rfl, by decide +kernel⟩
theorem kfX1_15 : kF RX1 15 1 2 (.array .int) := ⟨RX1, TX1, 5, rfl, by decide, sk_fw1, sk_tin 81 (by decide +kernel) rfl, ⟨tyX1, tyX1_ok⟩, nmX1, rfl, by decide +kernel⟩
theorem kfX1_19 : kF RX1 19 1 3 .int := ⟨RX1, TX1, 5, rfl, by decide, sk_fw1, sk_tin 82 (by decide +kernel) rfl, ⟨tyX1, tyX1_ok⟩, nmX1, rfl, by decide +kernel⟩
theorem kfX1_23 : kF RX1 23 1 4 (.array .int) := ⟨RX1, TX1, 5, rfl, by decide, sk_fw1, sk_tin 83 (by decide +kernel) rfl, ⟨tyX1, tyX1_ok⟩, nmX1, rfl, by decide +kernel⟩
theorem kfX1_26 : kF RX1 26 1 0 .int := ⟨RX1, TX1, 5, rfl, by decide, sk_fw1, sk_tin 78 (by decide +kernel) rfl, ⟨tyX1, tyX1_ok⟩, nmX1, rfl, by decide +kernel⟩
def poX1 (cA : Nat → ClassId) (x : Int32) (h0 : Nat) (q : Nat → Nat) : va_W := [(h0, eO 1 [.int x, .int 0, .ref (q 0), .int 0, .ref (q 1)]), ((q 0), eF (cA 0) 60 (fun _ => 0)), ((q 1), eF (cA 0) 60 (fun _ => 0))]
set_option maxHeartbeats 4000000 in
set_option maxRecDepth 100000 in
theorem coX1 (D : va_G) (cA : Nat → ClassId) (x : Int32) : kCon iX1 1 2 120 D cA [.int x] (eO 1 [.int 0, .int 0, .null, .int 0, .null]) (poX1 cA x) := by
  refine k_enter mfiX1 rfl rfl (fun _ => Nat.le_of_ble_eq_true rfl) (fun p l e s m args below meth c ls h0 hl X hin hr hlk => ?_)
  have X : kB RX1 cX1_init 2 D cA _ p s m args c _ _ [(h0, eO 1 [.int 0, .int 0, .null, .int 0, .null])] := X
  have hx := X.1.1
  have hb := X.1.2.1
  have hl : lv_has ls 2 [(0, .ref h0), (1, .int x)] := hl
  refine lv_aload_n hx hb dX1_init_0 rfl (lv_at hl 0 rfl) ?_
  refine k_obj X dX1_init_1 klo_RX1_3 hl.1 ⟨Nat.le_of_ble_eq_true rfl, Nat.le_of_ble_eq_true rfl⟩ ?_
  refine lv_aload_n hx hb dX1_init_4 rfl (lv_at hl 0 rfl) ?_
  refine lv_iconst (v := 0) hx hb dX1_init_5 (by decide +kernel) ?_
  refine k_put X hin dX1_init_6 0 1 kfX1_9 rfl rfl rfl (Nat.le_of_ble_eq_true rfl) [(h0, eO 1 [.int 0, .int 0, .null, .int 0, .null])] rfl (fun H locs X => ?_)
  refine lv_aload_n hx hb dX1_init_9 rfl (lv_at hl 0 rfl) ?_
  refine lv_bipush (v := 60) hx hb dX1_init_10 (by decide +kernel) ?_
  refine k_newI (N := 60) X dX1_init_12 (by decide +kernel) (by decide +kernel) (by decide) 1 60 rfl rfl ⟨Nat.le_of_ble_eq_true rfl, Nat.le_of_ble_eq_true rfl⟩ (fun a1 H X => ?_)
  have X : kB RX1 cX1_init 2 D cA _ p s m args c _ _ [(h0, eO 1 [.int 0, .int 0, .null, .int 0, .null]), (a1, eF (cA 0) 60 (fun _ => 0))] := X
  refine k_put X hin dX1_init_14 0 2 kfX1_15 rfl rfl rfl (Nat.le_of_ble_eq_true rfl) [(h0, eO 1 [.int 0, .int 0, .ref a1, .int 0, .null]), (a1, eF (cA 0) 60 (fun _ => 0))] rfl (fun H locs X => ?_)
  refine lv_aload_n hx hb dX1_init_17 rfl (lv_at hl 0 rfl) ?_
  refine lv_iconst (v := 0) hx hb dX1_init_18 (by decide +kernel) ?_
  refine k_put X hin dX1_init_19 0 3 kfX1_19 rfl rfl rfl (Nat.le_of_ble_eq_true rfl) [(h0, eO 1 [.int 0, .int 0, .ref a1, .int 0, .null]), (a1, eF (cA 0) 60 (fun _ => 0))] rfl (fun H locs X => ?_)
  refine lv_aload_n hx hb dX1_init_22 rfl (lv_at hl 0 rfl) ?_
  refine lv_bipush (v := 60) hx hb dX1_init_23 (by decide +kernel) ?_
  refine k_newI (N := 60) X dX1_init_25 (by decide +kernel) (by decide +kernel) (by decide) 2 120 rfl rfl ⟨Nat.le_of_ble_eq_true rfl, Nat.le_of_ble_eq_true rfl⟩ (fun a2 H X => ?_)
  have X : kB RX1 cX1_init 2 D cA _ p s m args c _ _ [(h0, eO 1 [.int 0, .int 0, .ref a1, .int 0, .null]), (a1, eF (cA 0) 60 (fun _ => 0)), (a2, eF (cA 0) 60 (fun _ => 0))] := X
  refine k_put X hin dX1_init_27 0 4 kfX1_23 rfl rfl rfl (Nat.le_of_ble_eq_true rfl) [(h0, eO 1 [.int 0, .int 0, .ref a1, .int 0, .ref a2]), (a1, eF (cA 0) 60 (fun _ => 0)), (a2, eF (cA 0) 60 (fun _ => 0))] rfl (fun H locs X => ?_)
  refine lv_aload_n hx hb dX1_init_30 rfl (lv_at hl 0 rfl) ?_
  refine lv_iload_n hx hb dX1_init_31 rfl (lv_at hl 1 rfl) ?_
  refine k_put X hin dX1_init_32 0 0 kfX1_26 rfl rfl rfl (Nat.le_of_ble_eq_true rfl) [(h0, eO 1 [.int x, .int 0, .ref a1, .int 0, .ref a2]), (a1, eF (cA 0) 60 (fun _ => 0)), (a2, eF (cA 0) 60 (fun _ => 0))] rfl (fun H locs X => ?_)
  exact k_ret X dX1_init_35 hr hlk (fun k => ([a1, a2] : List Nat).getD k 0) rfl (Nat.le_refl _) (Nat.le_refl _)
abbrev iX2 : sk_M := (yX2_init, cX2_init, 1, none)
theorem mfiX2 : sk_MF iX2 0 := ⟨sk_tin 144 (by decide +kernel) rfl, sk_tin 5 (by decide +kernel) rfl, by decide +kernel, by decide +kernel, by decide +kernel, by decide +kernel, by decide⟩
theorem miiX2 : Cond.instanceMethod yX2_init ∈ sk_ALL := sk_tin 143 (by decide +kernel) rfl
theorem klo_RX2_3 : Cond.methodLink RX2 3 Lib.objectInit ∈ sk_ALL := sk_tin 145 (by decide +kernel) rfl
theorem kfX2_9 : kF RX2 9 2 0 (.array .byte) := ⟨RX2, TX2, 6, rfl, by decide, sk_fw2, sk_tin 146 (by decide +kernel) rfl, ⟨tyX2, tyX2_ok⟩, nmX2, rfl, by decide +kernel⟩
theorem kfX2_15 : kF RX2 15 2 1 .int := ⟨RX2, TX2, 6, rfl, by decide, sk_fw2, sk_tin 147 (by decide +kernel) rfl, ⟨tyX2, tyX2_ok⟩, nmX2, rfl, by decide +kernel⟩
theorem kfX2_19 : kF RX2 19 2 2 .int := ⟨RX2, TX2, 6, rfl, by decide, sk_fw2, sk_tin 148 (by decide +kernel) rfl, ⟨tyX2, tyX2_ok⟩, nmX2, rfl, by decide +kernel⟩
theorem kfX2_22 : kF RX2 22 2 3 .int := ⟨RX2, TX2, 6, rfl, by decide, sk_fw2, sk_tin 149 (by decide +kernel) rfl, ⟨tyX2, tyX2_ok⟩, nmX2, rfl, by decide +kernel⟩
theorem kfX2_25 : kF RX2 25 2 4 (.array .int) := ⟨RX2, TX2, 6, rfl, by decide, sk_fw2, sk_tin 150 (by decide +kernel) rfl, ⟨tyX2, tyX2_ok⟩, nmX2, rfl, by decide +kernel⟩
theorem kfX2_29 : kF RX2 29 2 5 .int := ⟨RX2, TX2, 6, rfl, by decide, sk_fw2, sk_tin 152 (by decide +kernel) rfl, ⟨tyX2, tyX2_ok⟩, nmX2, rfl, by decide +kernel⟩
def poX2 (cA : Nat → ClassId) (h0 : Nat) (q : Nat → Nat) : va_W := [(h0, eO 2 [.ref (q 0), .int 0, .int 0, .int 0, .ref (q 1), .int 0]), ((q 0), eF (cA 1) 60 (fun _ => 0)), ((q 1), eF (cA 0) 60 (fun _ => 0))]
set_option maxHeartbeats 4000000 in
set_option maxRecDepth 100000 in
theorem coX2 (D : va_G) (cA : Nat → ClassId) : kCon iX2 1 2 120 D cA [] (eO 2 [.null, .int 0, .int 0, .int 0, .null, .int 0]) (poX2 cA) := by
  refine k_enter mfiX2 rfl rfl (fun _ => Nat.le_of_ble_eq_true rfl) (fun p l e s m args below meth c ls h0 hl X hin hr hlk => ?_)
  have X : kB RX2 cX2_init 1 D cA _ p s m args c _ _ [(h0, eO 2 [.null, .int 0, .int 0, .int 0, .null, .int 0])] := X
  have hx := X.1.1
  have hb := X.1.2.1
  have hl : lv_has ls 1 [(0, .ref h0)] := hl
  refine lv_aload_n hx hb dX2_init_0 rfl (lv_at hl 0 rfl) ?_
  refine k_obj X dX2_init_1 klo_RX2_3 hl.1 ⟨Nat.le_of_ble_eq_true rfl, Nat.le_of_ble_eq_true rfl⟩ ?_
  refine lv_aload_n hx hb dX2_init_4 rfl (lv_at hl 0 rfl) ?_
  refine lv_bipush (v := 60) hx hb dX2_init_5 (by decide +kernel) ?_
  refine k_newB (N := 60) X dX2_init_7 (by decide +kernel) (by decide +kernel) (by decide) 1 60 rfl rfl ⟨Nat.le_of_ble_eq_true rfl, Nat.le_of_ble_eq_true rfl⟩ (fun a1 H X => ?_)
  have X : kB RX2 cX2_init 1 D cA _ p s m args c _ _ [(h0, eO 2 [.null, .int 0, .int 0, .int 0, .null, .int 0]), (a1, eF (cA 1) 60 (fun _ => 0))] := X
  refine k_put X hin dX2_init_9 0 0 kfX2_9 rfl rfl rfl (Nat.le_of_ble_eq_true rfl) [(h0, eO 2 [.ref a1, .int 0, .int 0, .int 0, .null, .int 0]), (a1, eF (cA 1) 60 (fun _ => 0))] rfl (fun H locs X => ?_)
  refine lv_aload_n hx hb dX2_init_12 rfl (lv_at hl 0 rfl) ?_
  refine lv_iconst (v := 0) hx hb dX2_init_13 (by decide +kernel) ?_
  refine k_put X hin dX2_init_14 0 1 kfX2_15 rfl rfl rfl (Nat.le_of_ble_eq_true rfl) [(h0, eO 2 [.ref a1, .int 0, .int 0, .int 0, .null, .int 0]), (a1, eF (cA 1) 60 (fun _ => 0))] rfl (fun H locs X => ?_)
  refine lv_aload_n hx hb dX2_init_17 rfl (lv_at hl 0 rfl) ?_
  refine lv_iconst (v := 0) hx hb dX2_init_18 (by decide +kernel) ?_
  refine k_put X hin dX2_init_19 0 2 kfX2_19 rfl rfl rfl (Nat.le_of_ble_eq_true rfl) [(h0, eO 2 [.ref a1, .int 0, .int 0, .int 0, .null, .int 0]), (a1, eF (cA 1) 60 (fun _ => 0))] rfl (fun H locs X => ?_)
  refine lv_aload_n hx hb dX2_init_22 rfl (lv_at hl 0 rfl) ?_
  refine lv_iconst (v := 0) hx hb dX2_init_23 (by decide +kernel) ?_
  refine k_put X hin dX2_init_24 0 3 kfX2_22 rfl rfl rfl (Nat.le_of_ble_eq_true rfl) [(h0, eO 2 [.ref a1, .int 0, .int 0, .int 0, .null, .int 0]), (a1, eF (cA 1) 60 (fun _ => 0))] rfl (fun H locs X => ?_)
  refine lv_aload_n hx hb dX2_init_27 rfl (lv_at hl 0 rfl) ?_
  refine lv_bipush (v := 60) hx hb dX2_init_28 (by decide +kernel) ?_
  refine k_newI (N := 60) X dX2_init_30 (by decide +kernel) (by decide +kernel) (by decide) 2 120 rfl rfl ⟨Nat.le_of_ble_eq_true rfl, Nat.le_of_ble_eq_true rfl⟩ (fun a2 H X => ?_)
  have X : kB RX2 cX2_init 1 D cA _ p s m args c _ _ [(h0, eO 2 [.ref a1, .int 0, .int 0, .int 0, .null, .int 0]), (a1, eF (cA 1) 60 (fun _ => 0)), (a2, eF (cA 0) 60 (fun _ => 0))] := X
  refine k_put X hin dX2_init_32 0 4 kfX2_25 rfl rfl rfl (Nat.le_of_ble_eq_true rfl) [(h0, eO 2 [.ref a1, .int 0, .int 0, .int 0, .ref a2, .int 0]), (a1, eF (cA 1) 60 (fun _ => 0)), (a2, eF (cA 0) 60 (fun _ => 0))] rfl (fun H locs X => ?_)
  refine lv_aload_n hx hb dX2_init_35 rfl (lv_at hl 0 rfl) ?_
  refine lv_iconst (v := 0) hx hb dX2_init_36 (by decide +kernel) ?_
  refine k_put X hin dX2_init_37 0 5 kfX2_29 rfl rfl rfl (Nat.le_of_ble_eq_true rfl) [(h0, eO 2 [.ref a1, .int 0, .int 0, .int 0, .ref a2, .int 0]), (a1, eF (cA 1) 60 (fun _ => 0)), (a2, eF (cA 0) 60 (fun _ => 0))] rfl (fun H locs X => ?_)
  exact k_ret X dX2_init_40 hr hlk (fun k => ([a1, a2] : List Nat).getD k 0) rfl (Nat.le_refl _) (Nat.le_refl _)
abbrev iX0 : sk_M := (yX0_init, cX0_init, 1, none)
theorem mfiX0 : sk_MF iX0 0 := ⟨sk_tin 171 (by decide +kernel) rfl, sk_tin 6 (by decide +kernel) rfl, by decide +kernel, by decide +kernel, by decide +kernel, by decide +kernel, by decide⟩
theorem miiX0 : Cond.instanceMethod yX0_init ∈ sk_ALL := sk_tin 170 (by decide +kernel) rfl
theorem klo_RX0_3 : Cond.methodLink RX0 3 Lib.objectInit ∈ sk_ALL := sk_tin 172 (by decide +kernel) rfl
theorem kfX0_9 : kF RX0 9 0 0 (.array .int) := ⟨RX0, TX0, 6, rfl, by decide, sk_fw0, sk_tin 173 (by decide +kernel) rfl, ⟨tyX0, tyX0_ok⟩, nmX0, rfl, by decide +kernel⟩
theorem kfX0_15 : kF RX0 15 0 1 .int := ⟨RX0, TX0, 6, rfl, by decide, sk_fw0, sk_tin 175 (by decide +kernel) rfl, ⟨tyX0, tyX0_ok⟩, nmX0, rfl, by decide +kernel⟩
theorem kfX0_19 : kF RX0 19 0 2 .boolean := ⟨RX0, TX0, 6, rfl, by decide, sk_fw0, sk_tin 177 (by decide +kernel) rfl, ⟨tyX0, tyX0_ok⟩, nmX0, rfl, by decide +kernel⟩
theorem kfX0_23 : kF RX0 23 0 3 .int := ⟨RX0, TX0, 6, rfl, by decide, sk_fw0, sk_tin 179 (by decide +kernel) rfl, ⟨tyX0, tyX0_ok⟩, nmX0, rfl, by decide +kernel⟩
theorem kfX0_26 : kF RX0 26 0 4 .int := ⟨RX0, TX0, 6, rfl, by decide, sk_fw0, sk_tin 180 (by decide +kernel) rfl, ⟨tyX0, tyX0_ok⟩, nmX0, rfl, by decide +kernel⟩
theorem kfX0_29 : kF RX0 29 0 5 .int := ⟨RX0, TX0, 6, rfl, by decide, sk_fw0, sk_tin 181 (by decide +kernel) rfl, ⟨tyX0, tyX0_ok⟩, nmX0, rfl, by decide +kernel⟩
def poX0 (cA : Nat → ClassId) (h0 : Nat) (q : Nat → Nat) : va_W := [(h0, eO 0 [.ref (q 0), .int 0, .int 0, .int 0, .int 0, .int 0]), ((q 0), eF (cA 0) 30 (fun _ => 0))]
set_option maxHeartbeats 4000000 in
set_option maxRecDepth 100000 in
theorem coX0 (D : va_G) (cA : Nat → ClassId) : kCon iX0 1 1 30 D cA [] (eO 0 [.null, .int 0, .int 0, .int 0, .int 0, .int 0]) (poX0 cA) := by
  refine k_enter mfiX0 rfl rfl (fun _ => Nat.le_of_ble_eq_true rfl) (fun p l e s m args below meth c ls h0 hl X hin hr hlk => ?_)
  have X : kB RX0 cX0_init 1 D cA _ p s m args c _ _ [(h0, eO 0 [.null, .int 0, .int 0, .int 0, .int 0, .int 0])] := X
  have hx := X.1.1
  have hb := X.1.2.1
  have hl : lv_has ls 1 [(0, .ref h0)] := hl
  refine lv_aload_n hx hb dX0_init_0 rfl (lv_at hl 0 rfl) ?_
  refine k_obj X dX0_init_1 klo_RX0_3 hl.1 ⟨Nat.le_of_ble_eq_true rfl, Nat.le_of_ble_eq_true rfl⟩ ?_
  refine lv_aload_n hx hb dX0_init_4 rfl (lv_at hl 0 rfl) ?_
  refine lv_bipush (v := 30) hx hb dX0_init_5 (by decide +kernel) ?_
  refine k_newI (N := 30) X dX0_init_7 (by decide +kernel) (by decide +kernel) (by decide) 1 30 rfl rfl ⟨Nat.le_of_ble_eq_true rfl, Nat.le_of_ble_eq_true rfl⟩ (fun a1 H X => ?_)
  have X : kB RX0 cX0_init 1 D cA _ p s m args c _ _ [(h0, eO 0 [.null, .int 0, .int 0, .int 0, .int 0, .int 0]), (a1, eF (cA 0) 30 (fun _ => 0))] := X
  refine k_put X hin dX0_init_9 0 0 kfX0_9 rfl rfl rfl (Nat.le_of_ble_eq_true rfl) [(h0, eO 0 [.ref a1, .int 0, .int 0, .int 0, .int 0, .int 0]), (a1, eF (cA 0) 30 (fun _ => 0))] rfl (fun H locs X => ?_)
  refine lv_aload_n hx hb dX0_init_12 rfl (lv_at hl 0 rfl) ?_
  refine lv_iconst (v := 0) hx hb dX0_init_13 (by decide +kernel) ?_
  refine k_put X hin dX0_init_14 0 1 kfX0_15 rfl rfl rfl (Nat.le_of_ble_eq_true rfl) [(h0, eO 0 [.ref a1, .int 0, .int 0, .int 0, .int 0, .int 0]), (a1, eF (cA 0) 30 (fun _ => 0))] rfl (fun H locs X => ?_)
  refine lv_aload_n hx hb dX0_init_17 rfl (lv_at hl 0 rfl) ?_
  refine lv_iconst (v := 0) hx hb dX0_init_18 (by decide +kernel) ?_
  refine k_put X hin dX0_init_19 0 2 kfX0_19 rfl rfl rfl (Nat.le_of_ble_eq_true rfl) [(h0, eO 0 [.ref a1, .int 0, .int 0, .int 0, .int 0, .int 0]), (a1, eF (cA 0) 30 (fun _ => 0))] rfl (fun H locs X => ?_)
  refine lv_aload_n hx hb dX0_init_22 rfl (lv_at hl 0 rfl) ?_
  refine lv_iconst (v := 0) hx hb dX0_init_23 (by decide +kernel) ?_
  refine k_put X hin dX0_init_24 0 3 kfX0_23 rfl rfl rfl (Nat.le_of_ble_eq_true rfl) [(h0, eO 0 [.ref a1, .int 0, .int 0, .int 0, .int 0, .int 0]), (a1, eF (cA 0) 30 (fun _ => 0))] rfl (fun H locs X => ?_)
  refine lv_aload_n hx hb dX0_init_27 rfl (lv_at hl 0 rfl) ?_
  refine lv_iconst (v := 0) hx hb dX0_init_28 (by decide +kernel) ?_
  refine k_put X hin dX0_init_29 0 4 kfX0_26 rfl rfl rfl (Nat.le_of_ble_eq_true rfl) [(h0, eO 0 [.ref a1, .int 0, .int 0, .int 0, .int 0, .int 0]), (a1, eF (cA 0) 30 (fun _ => 0))] rfl (fun H locs X => ?_)
  refine lv_aload_n hx hb dX0_init_32 rfl (lv_at hl 0 rfl) ?_
  refine lv_iconst (v := 0) hx hb dX0_init_33 (by decide +kernel) ?_
  refine k_put X hin dX0_init_34 0 5 kfX0_29 rfl rfl rfl (Nat.le_of_ble_eq_true rfl) [(h0, eO 0 [.ref a1, .int 0, .int 0, .int 0, .int 0, .int 0]), (a1, eF (cA 0) 30 (fun _ => 0))] rfl (fun H locs X => ?_)
  exact k_ret X dX0_init_37 hr hlk (fun k => ([a1] : List Nat).getD k 0) rfl (Nat.le_refl _) (Nat.le_refl _)
abbrev iX4 : sk_M := (yX4_init, cX4_init, 1, none)
theorem mfiX4 : sk_MF iX4 0 := ⟨sk_tin 200 (by decide +kernel) rfl, sk_tin 7 (by decide +kernel) rfl, by decide +kernel, by decide +kernel, by decide +kernel, by decide +kernel, by decide⟩
theorem miiX4 : Cond.instanceMethod yX4_init ∈ sk_ALL := sk_tin 199 (by decide +kernel) rfl
theorem klo_RX4_3 : Cond.methodLink RX4 3 Lib.objectInit ∈ sk_ALL := sk_tin 201 (by decide +kernel) rfl
theorem kfX4_9 : kF RX4 9 4 0 .int := ⟨RX4, TX4, 3, rfl, by decide, sk_fw4, sk_tin 202 (by decide +kernel) rfl, ⟨tyX4, tyX4_ok⟩, nmX4, rfl, by decide +kernel⟩
theorem kfX4_15 : kF RX4 15 4 1 .int := ⟨RX4, TX4, 3, rfl, by decide, sk_fw4, sk_tin 204 (by decide +kernel) rfl, ⟨tyX4, tyX4_ok⟩, nmX4, rfl, by decide +kernel⟩
theorem kfX4_18 : kF RX4 18 4 2 (.array .int) := ⟨RX4, TX4, 3, rfl, by decide, sk_fw4, sk_tin 206 (by decide +kernel) rfl, ⟨tyX4, tyX4_ok⟩, nmX4, rfl, by decide +kernel⟩
def poX4 (cA : Nat → ClassId) (h0 : Nat) (q : Nat → Nat) : va_W := [(h0, eO 4 [.int 0, .int 0, .ref (q 0)]), ((q 0), eF (cA 0) 24 (fun _ => 0))]
set_option maxHeartbeats 4000000 in
set_option maxRecDepth 100000 in
theorem coX4 (D : va_G) (cA : Nat → ClassId) : kCon iX4 1 1 24 D cA [] (eO 4 [.int 0, .int 0, .null]) (poX4 cA) := by
  refine k_enter mfiX4 rfl rfl (fun _ => Nat.le_of_ble_eq_true rfl) (fun p l e s m args below meth c ls h0 hl X hin hr hlk => ?_)
  have X : kB RX4 cX4_init 1 D cA _ p s m args c _ _ [(h0, eO 4 [.int 0, .int 0, .null])] := X
  have hx := X.1.1
  have hb := X.1.2.1
  have hl : lv_has ls 1 [(0, .ref h0)] := hl
  refine lv_aload_n hx hb dX4_init_0 rfl (lv_at hl 0 rfl) ?_
  refine k_obj X dX4_init_1 klo_RX4_3 hl.1 ⟨Nat.le_of_ble_eq_true rfl, Nat.le_of_ble_eq_true rfl⟩ ?_
  refine lv_aload_n hx hb dX4_init_4 rfl (lv_at hl 0 rfl) ?_
  refine lv_iconst (v := 0) hx hb dX4_init_5 (by decide +kernel) ?_
  refine k_put X hin dX4_init_6 0 0 kfX4_9 rfl rfl rfl (Nat.le_of_ble_eq_true rfl) [(h0, eO 4 [.int 0, .int 0, .null])] rfl (fun H locs X => ?_)
  refine lv_aload_n hx hb dX4_init_9 rfl (lv_at hl 0 rfl) ?_
  refine lv_iconst (v := 0) hx hb dX4_init_10 (by decide +kernel) ?_
  refine k_put X hin dX4_init_11 0 1 kfX4_15 rfl rfl rfl (Nat.le_of_ble_eq_true rfl) [(h0, eO 4 [.int 0, .int 0, .null])] rfl (fun H locs X => ?_)
  refine lv_aload_n hx hb dX4_init_14 rfl (lv_at hl 0 rfl) ?_
  refine lv_bipush (v := 24) hx hb dX4_init_15 (by decide +kernel) ?_
  refine k_newI (N := 24) X dX4_init_17 (by decide +kernel) (by decide +kernel) (by decide) 1 24 rfl rfl ⟨Nat.le_of_ble_eq_true rfl, Nat.le_of_ble_eq_true rfl⟩ (fun a1 H X => ?_)
  have X : kB RX4 cX4_init 1 D cA _ p s m args c _ _ [(h0, eO 4 [.int 0, .int 0, .null]), (a1, eF (cA 0) 24 (fun _ => 0))] := X
  refine k_put X hin dX4_init_19 0 2 kfX4_18 rfl rfl rfl (Nat.le_of_ble_eq_true rfl) [(h0, eO 4 [.int 0, .int 0, .ref a1]), (a1, eF (cA 0) 24 (fun _ => 0))] rfl (fun H locs X => ?_)
  exact k_ret X dX4_init_22 hr hlk (fun k => ([a1] : List Nat).getD k 0) rfl (Nat.le_refl _) (Nat.le_refl _)
