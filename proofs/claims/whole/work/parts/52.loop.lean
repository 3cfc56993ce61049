/-! ===== the law's loop ===== -/
section
variable {p : Program} {l : Launch} {e : Env} {s : State} {m : MethodId} {below : List Frame} {meth : Method} {c : Code} {b L : Nat} {xs : Nat → Int32} {kc ks : Nat} {D : va_G} {cA : Nat → ClassId} {ad1 ad2 : Nat → Nat}
set_option maxHeartbeats 4000000 in
theorem lw_loop (hL : L ≤ 3072) (hk : kc ≤ 600000 ∧ ks ≤ 7302250) (C0 : lw_At p s m meth c b L xs) : ∀ (n i : Nat), i ≤ L + 5 → L + 6 ≤ i + n → ∀ (τ σ : sk_T) (H : Heap) (locs : List Loc) (ls : Array Slot), lwS s H locs D cA ad1 ad2 τ σ → R τ σ → lv_has ls 4 [(3, .int (nI i)), (2, .ref (ad2 0)), (1, .ref (ad1 0)), (0, .ref b)] →
    W p l e room_1 s m #[Value.ref b] below meth c H locs kc ks (lw_Z below #[Value.ref b] s) (F0 m 18 ls []) := by
  obtain ⟨hx, hb, hr, hml, hown, hts0, hX, hbl, hlocks, hgv⟩ := id C0
  have hbA : ¬ (fun q : Nat => s.heap.size ≤ q) b := Nat.not_le.mpr hbl
  intro n
  induction n with
  | zero => exact fun i h1 h2 => absurd h2 (by omega)
  | succ n ih =>
    intro i hi hin τ σ H locs ls X hR hl
    have hS := X.2.2.2.2.2.2.2.1
    refine lv_iload_n hx hb dL_law_18 rfl (lv_at hl 0 rfl) ?_
    refine lv_aload_n hx hb dL_law_19 rfl (lv_at hl 3 rfl) ?_
    refine va_slen hx hb hX hbl hbA hS dL_law_20 ?_
    refine lv_bipush (v := 6) hx hb dL_law_21 (by decide) ?_
    refine lv_isub hx hb dL_law_23 ?_
    have hsub : (Int32.ofNat L - 6).toInt = (L : Int) - 6 := pk_sub_toInt (a := L) (b := 6) (by omega) (by omega)
    refine lv_icmp_gt (tgt := 1334) hx hb dL_law_24 (by decide) (fun c_10 => ?_) (fun c_10 => ?_)
    · refine lv_iconst (v := 1) hx hb dL_law_1334 (by decide) ?_
      refine va_forget (fun q hq => hS.2.2 q hq) ?_
      refine W.widen (k := 600000) (n := 7302250) hk.1 hk.2 ?_
      exact lw_ret hx hb hr hlocks dL_law_1335
    · rw [Int32.lt_iff_toInt_lt, hsub, nI_toInt (by omega)] at c_10
      have hi6 : i + 6 ≤ L := by omega
      refine lv_aload_n hx hb dL_law_27 rfl (lv_at hl 3 rfl) ?_
      refine lv_iload_n hx hb dL_law_28 rfl (lv_at hl 0 rfl) ?_
      refine va_sld hx hb hX hbl hbA hS (vp_in_nI (by omega) (by omega)) dL_law_29 ?_
      refine lv_bipush (v := 63) hx hb dL_law_30 (by decide) ?_
      refine lv_iand hx hb dL_law_32 ?_
      have nx : ∀ τ2 σ2 H1 locs1, lwS s H1 locs1 D cA ad1 ad2 τ2 σ2 → R τ2 σ2 → W p l e room_1 s m #[Value.ref b] below meth c H1 locs1 kc ks (lw_Z below #[Value.ref b] s) (F0 m 1328 ls []) := fun τ2 σ2 H1 locs1 X1 hR1 => by
        refine lv_iinc (v := nI (i + 6)) (lv' := [(3, .int (nI (i + 6))), (2, .ref (ad2 0)), (1, .ref (ad1 0)), (0, .ref b)]) hx hb dL_law_1328 hl (k := 0) rfl (by rw [show (Int32.ofInt 6 : Int32) = nI 6 from rfl, nI_add]) (by decide) rfl (fun ls1 hl1 => ?_)
        refine lv_goto (tgt := 18) hx hb dL_law_1331 (by decide) ?_
        exact ih (i + 6) (by omega) (by omega) τ2 σ2 H1 locs1 ls1 X1 hR1 hl1
      obtain ⟨j, hj, ej⟩ := pk_andE (xs (nI i).toNatClampNeg) (m := 63) 6 (by decide)
      have hj : j < 64 := hj
      rw [ej]
      have ejt := nI_toInt (n := j) (by omega)
      by_cases h36 : j ≤ 36
      rotate_left
      · exact lv_tableOut (tgt := 1328) hx hb dL_law_33 (Or.inr (by rw [ejt]; omega)) (by decide) (nx τ σ H locs X hR)
      clear ej ejt
      match j, h36 with
      | 0, _ => exact lv_tableIn (off := 163) (tgt := 196) hx hb dL_law_33 (by decide) (by decide) (by decide) (by decide) (lc_slate hL hi6 hk C0 hl X hR nx)
      | 1, _ => exact lv_tableIn (off := 216) (tgt := 249) hx hb dL_law_33 (by decide) (by decide) (by decide) (by decide) (lc_slateIs hL hi6 hk C0 hl X hR nx)
      | 2, _ => exact lv_tableIn (off := 249) (tgt := 282) hx hb dL_law_33 (by decide) (by decide) (by decide) (by decide) (lc_become hL hi6 hk C0 hl X hR nx)
      | 3, _ => exact lv_tableIn (off := 282) (tgt := 315) hx hb dL_law_33 (by decide) (by decide) (by decide) (by decide) (lc_as hL hi6 hk C0 hl X hR nx)
      | 4, _ => exact lv_tableIn (off := 315) (tgt := 348) hx hb dL_law_33 (by decide) (by decide) (by decide) (by decide) (lc_lay hL hi6 hk C0 hl X hR nx)
      | 5, _ => exact lv_tableIn (off := 358) (tgt := 391) hx hb dL_law_33 (by decide) (by decide) (by decide) (by decide) (lc_lift hL hi6 hk C0 hl X hR nx)
      | 6, _ => exact lv_tableIn (off := 381) (tgt := 414) hx hb dL_law_33 (by decide) (by decide) (by decide) (by decide) (lc_nail hL hi6 hk C0 hl X hR nx)
      | 7, _ => exact lv_tableIn (off := 414) (tgt := 447) hx hb dL_law_33 (by decide) (by decide) (by decide) (by decide) (lc_sells hL hi6 hk C0 hl X hR nx)
      | 8, _ => exact lv_tableIn (off := 437) (tgt := 470) hx hb dL_law_33 (by decide) (by decide) (by decide) (by decide) (lc_feed hL hi6 hk C0 hl X hR nx)
      | 9, _ => exact lv_tableIn (off := 500) (tgt := 533) hx hb dL_law_33 (by decide) (by decide) (by decide) (by decide) (lc_text hL hi6 hk C0 hl X hR nx)
      | 10, _ => exact lv_tableIn (off := 523) (tgt := 556) hx hb dL_law_33 (by decide) (by decide) (by decide) (by decide) (lc_untell hL hi6 hk C0 hl X hR nx)
      | 11, _ => exact lv_tableIn (off := 546) (tgt := 579) hx hb dL_law_33 (by decide) (by decide) (by decide) (by decide) (lc_law hL hi6 hk C0 hl X hR nx)
      | 12, _ => exact lv_tableIn (off := 599) (tgt := 632) hx hb dL_law_33 (by decide) (by decide) (by decide) (by decide) (lc_gale hL hi6 hk C0 hl X hR nx)
      | 13, _ => exact lv_tableIn (off := 622) (tgt := 655) hx hb dL_law_33 (by decide) (by decide) (by decide) (by decide) (lc_years hL hi6 hk C0 hl X hR nx)
      | 14, _ => exact lv_tableIn (off := 645) (tgt := 678) hx hb dL_law_33 (by decide) (by decide) (by decide) (by decide) (lc_loose hL hi6 hk C0 hl X hR nx)
      | 15, _ => exact lv_tableIn (off := 668) (tgt := 701) hx hb dL_law_33 (by decide) (by decide) (by decide) (by decide) (lc_seed hL hi6 hk C0 hl X hR nx)
      | 16, _ => exact lv_tableIn (off := 691) (tgt := 724) hx hb dL_law_33 (by decide) (by decide) (by decide) (by decide) (lc_dry hL hi6 hk C0 hl X hR nx)
      | 17, _ => exact lv_tableIn (off := 715) (tgt := 748) hx hb dL_law_33 (by decide) (by decide) (by decide) (by decide) (lc_over hL hi6 hk C0 hl X hR nx)
      | 18, _ => exact lv_tableIn (off := 748) (tgt := 781) hx hb dL_law_33 (by decide) (by decide) (by decide) (by decide) (lc_lifts hL hi6 hk C0 hl X hR nx)
      | 19, _ => exact lv_tableIn (off := 781) (tgt := 814) hx hb dL_law_33 (by decide) (by decide) (by decide) (by decide) (lc_fast hL hi6 hk C0 hl X hR nx)
      | 20, _ => exact lv_tableIn (off := 814) (tgt := 847) hx hb dL_law_33 (by decide) (by decide) (by decide) (by decide) (lc_best hL hi6 hk C0 hl X hR nx)
      | 21, _ => exact lv_tableIn (off := 847) (tgt := 880) hx hb dL_law_33 (by decide) (by decide) (by decide) (by decide) (lc_rings hL hi6 hk C0 hl X hR nx)
      | 22, _ => exact lv_tableIn (off := 860) (tgt := 893) hx hb dL_law_33 (by decide) (by decide) (by decide) (by decide) (lc_odds hL hi6 hk C0 hl X hR nx)
      | 23, _ => exact lv_tableIn (off := 893) (tgt := 926) hx hb dL_law_33 (by decide) (by decide) (by decide) (by decide) (lc_fits hL hi6 hk C0 hl X hR nx)
      | 24, _ => exact lv_tableIn (off := 926) (tgt := 959) hx hb dL_law_33 (by decide) (by decide) (by decide) (by decide) (lc_voice hL hi6 hk C0 hl X hR nx)
      | 25, _ => exact lv_tableIn (off := 969) (tgt := 1002) hx hb dL_law_33 (by decide) (by decide) (by decide) (by decide) (lc_body hL hi6 hk C0 hl X hR nx)
      | 26, _ => exact lv_tableIn (off := 992) (tgt := 1025) hx hb dL_law_33 (by decide) (by decide) (by decide) (by decide) (lc_sheet hL hi6 hk C0 hl X hR nx)
      | 27, _ => exact lv_tableIn (off := 1035) (tgt := 1068) hx hb dL_law_33 (by decide) (by decide) (by decide) (by decide) (lc_put hL hi6 hk C0 hl X hR nx)
      | 28, _ => exact lv_tableIn (off := 1078) (tgt := 1111) hx hb dL_law_33 (by decide) (by decide) (by decide) (by decide) (lc_move hL hi6 hk C0 hl X hR nx)
      | 29, _ => exact lv_tableIn (off := 1141) (tgt := 1174) hx hb dL_law_33 (by decide) (by decide) (by decide) (by decide) (lc_nailed hL hi6 hk C0 hl X hR nx)
      | 30, _ => exact lv_tableIn (off := 1164) (tgt := 1197) hx hb dL_law_33 (by decide) (by decide) (by decide) (by decide) (lc_judge hL hi6 hk C0 hl X hR nx)
      | 31, _ => exact lv_tableIn (off := 1187) (tgt := 1220) hx hb dL_law_33 (by decide) (by decide) (by decide) (by decide) (lc_image hL hi6 hk C0 hl X hR nx)
      | 32, _ => exact lv_tableIn (off := 1200) (tgt := 1233) hx hb dL_law_33 (by decide) (by decide) (by decide) (by decide) (lc_restore hL hi6 hk C0 hl X hR nx)
      | 33, _ => exact lv_tableIn (off := 1213) (tgt := 1246) hx hb dL_law_33 (by decide) (by decide) (by decide) (by decide) (lc_tell hL hi6 hk C0 hl X hR nx)
      | 34, _ => exact lv_tableIn (off := 1236) (tgt := 1269) hx hb dL_law_33 (by decide) (by decide) (by decide) (by decide) (lc_check hL hi6 hk C0 hl X hR nx)
      | 35, _ => exact lv_tableIn (off := 1249) (tgt := 1282) hx hb dL_law_33 (by decide) (by decide) (by decide) (by decide) (lc_count hL hi6 hk C0 hl X hR nx)
      | 36, _ => exact lv_tableIn (off := 1272) (tgt := 1305) hx hb dL_law_33 (by decide) (by decide) (by decide) (by decide) (lc_told hL hi6 hk C0 hl X hR nx)
      | k + 37, h => exact absurd h (by omega)
end
