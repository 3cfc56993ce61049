/-! ===== the law's 37 cases ===== -/
section
variable {p : Program} {l : Launch} {e : Env} {s : State} {m : MethodId} {below : List Frame} {meth : Method} {c : Code} {b L i : Nat} {xs : Nat → Int32} {H : Heap} {locs : List Loc} {kc ks : Nat} {ls : Array Slot} {D : va_G} {cA : Nat → ClassId} {ad1 ad2 : Nat → Nat} {τ σ : sk_T}
theorem lw_vin (hL : L ≤ 3072) (hi : i + 6 ≤ L) (j : Nat) (hj : j < 6) : vp_in (nI i + nI j) L := by
  rw [nI_add]; exact vp_in_nI (by omega) (by omega)
set_option maxHeartbeats 2000000 in
theorem lc_slate (hL : L ≤ 3072) (hi : i + 6 ≤ L) (hk : kc ≤ 600000 ∧ ks ≤ 7302250) (C0 : lw_At p s m meth c b L xs) (hl : lv_has ls 4 [(3, .int (nI i)), (2, .ref (ad2 0)), (1, .ref (ad1 0)), (0, .ref b)]) (X : lwS s H locs D cA ad1 ad2 τ σ) (hR : R τ σ)
    (kk : ∀ τ2 σ2 H1 locs1, lwS s H1 locs1 D cA ad1 ad2 τ2 σ2 → R τ2 σ2 → W p l e room_1 s m #[Value.ref b] below meth c H1 locs1 kc ks (lw_Z below #[Value.ref b] s) (F0 m 1328 ls [])) : W p l e room_1 s m #[Value.ref b] below meth c H locs kc ks (lw_Z below #[Value.ref b] s) (F0 m 196 ls []) := by
  obtain ⟨hx, hb, hr, hml, hown, hts0, hX, hbl, hlocks, hgv⟩ := id C0
  have hts : ∀ w ∈ sk_ALL, w.before #[Value.ref b] s = true := fun w hw => hts0 w (sk_in_tbl w hw)
  have hbA : ¬ (fun q : Nat => s.heap.size ≤ q) b := Nat.not_le.mpr hbl
  have hS := X.2.2.2.2.2.2.2.1
  refine lv_aload_n hx hb dL_law_196 rfl (lv_at hl 2 rfl) ?_
  refine lv_aload_n hx hb dL_law_197 rfl (lv_at hl 3 rfl) ?_
  refine lv_iload_n hx hb dL_law_198 rfl (lv_at hl 0 rfl) ?_
  refine lv_iconst (v := 1) hx hb dL_law_199 (by decide) ?_
  refine lv_iadd hx hb dL_law_200 ?_
  refine va_sld hx hb hX hbl hbA hS (lw_vin hL hi 1 (by omega)) dL_law_201 ?_
  refine lv_aload_n hx hb dL_law_202 rfl (lv_at hl 3 rfl) ?_
  refine lv_iload_n hx hb dL_law_203 rfl (lv_at hl 0 rfl) ?_
  refine lv_iconst (v := 2) hx hb dL_law_204 (by decide) ?_
  refine lv_iadd hx hb dL_law_205 ?_
  refine va_sld hx hb hX hbl hbA hS (lw_vin hL hi 2 (by omega)) dL_law_206 ?_
  refine lv_aload_n hx hb dL_law_207 rfl (lv_at hl 3 rfl) ?_
  refine lv_iload_n hx hb dL_law_208 rfl (lv_at hl 0 rfl) ?_
  refine lv_iconst (v := 3) hx hb dL_law_209 (by decide) ?_
  refine lv_iadd hx hb dL_law_210 ?_
  refine va_sld hx hb hX hbl hbA hS (lw_vin hL hi 3 (by omega)) dL_law_211 ?_
  refine lv_aload_n hx hb dL_law_212 rfl (lv_at hl 3 rfl) ?_
  refine lv_iload_n hx hb dL_law_213 rfl (lv_at hl 0 rfl) ?_
  refine lv_iconst (v := 4) hx hb dL_law_214 (by decide) ?_
  refine lv_iadd hx hb dL_law_215 ?_
  refine va_sld hx hb hX hbl hbA hS (lw_vin hL hi 4 (by omega)) dL_law_216 ?_
  refine lw_callC [.int (xs (nI i + 1).toNatClampNeg), .int (xs (nI i + 2).toNatClampNeg), .int (xs (nI i + 3).toNatClampNeg), .int (xs (nI i + 4).toNatClampNeg)] [] hk hx hb hml hl.1 hown hts dL_law_217 mfX6_slate lkL_13 miX6_slate msX6_slate rfl rfl rfl (by decide) X (jSlate (d := 200) (e := 200) (by omega) (by omega) hR) (fun v τ2 H1 locs1 hv X1 => ?_)
  obtain ⟨r, rfl, hm⟩ := hv
  have hS := X1.2.2.2.2.2.2.2.1
  show W p l e room_1 s m #[Value.ref b] below meth c H1 locs1 kc ks (lw_Z below #[Value.ref b] s) (F0 m 220 ls [.int r])
  refine lv_aload_n hx hb dL_law_220 rfl (lv_at hl 1 rfl) ?_
  refine lv_aload_n hx hb dL_law_221 rfl (lv_at hl 3 rfl) ?_
  refine lv_iload_n hx hb dL_law_222 rfl (lv_at hl 0 rfl) ?_
  refine lv_iconst (v := 1) hx hb dL_law_223 (by decide) ?_
  refine lv_iadd hx hb dL_law_224 ?_
  refine va_sld hx hb hX hbl hbA hS (lw_vin hL hi 1 (by omega)) dL_law_225 ?_
  refine lv_aload_n hx hb dL_law_226 rfl (lv_at hl 3 rfl) ?_
  refine lv_iload_n hx hb dL_law_227 rfl (lv_at hl 0 rfl) ?_
  refine lv_iconst (v := 2) hx hb dL_law_228 (by decide) ?_
  refine lv_iadd hx hb dL_law_229 ?_
  refine va_sld hx hb hX hbl hbA hS (lw_vin hL hi 2 (by omega)) dL_law_230 ?_
  refine lv_aload_n hx hb dL_law_231 rfl (lv_at hl 3 rfl) ?_
  refine lv_iload_n hx hb dL_law_232 rfl (lv_at hl 0 rfl) ?_
  refine lv_iconst (v := 3) hx hb dL_law_233 (by decide) ?_
  refine lv_iadd hx hb dL_law_234 ?_
  refine va_sld hx hb hX hbl hbA hS (lw_vin hL hi 3 (by omega)) dL_law_235 ?_
  refine lv_aload_n hx hb dL_law_236 rfl (lv_at hl 3 rfl) ?_
  refine lv_iload_n hx hb dL_law_237 rfl (lv_at hl 0 rfl) ?_
  refine lv_iconst (v := 4) hx hb dL_law_238 (by decide) ?_
  refine lv_iadd hx hb dL_law_239 ?_
  refine va_sld hx hb hX hbl hbA hS (lw_vin hL hi 4 (by omega)) dL_law_240 ?_
  refine lw_callM [.int (xs (nI i + 1).toNatClampNeg), .int (xs (nI i + 2).toNatClampNeg), .int (xs (nI i + 3).toNatClampNeg), .int (xs (nI i + 4).toNatClampNeg)] [.int r] hk hx hb hml hl.1 hown hts dL_law_241 mfX7_slate lkL_17 miX7_slate msX7_slate rfl rfl rfl (Nat.le_of_ble_eq_true rfl) X1 hm (fun w σ2 H2 locs2 hw X2 => ?_)
  obtain ⟨rfl, hR2⟩ := hw
  show W p l e room_1 s m #[Value.ref b] below meth c H2 locs2 kc ks (lw_Z below #[Value.ref b] s) (F0 m 244 ls [.int r, .int r])
  exact lv_icmp_eq (tgt := 1328) hx hb dL_law_244 (by decide) (fun _ => kk τ2 σ2 H2 locs2 X2 hR2) (fun z => absurd rfl z)
set_option maxHeartbeats 2000000 in
theorem lc_slateIs (hL : L ≤ 3072) (hi : i + 6 ≤ L) (hk : kc ≤ 600000 ∧ ks ≤ 7302250) (C0 : lw_At p s m meth c b L xs) (hl : lv_has ls 4 [(3, .int (nI i)), (2, .ref (ad2 0)), (1, .ref (ad1 0)), (0, .ref b)]) (X : lwS s H locs D cA ad1 ad2 τ σ) (hR : R τ σ)
    (kk : ∀ τ2 σ2 H1 locs1, lwS s H1 locs1 D cA ad1 ad2 τ2 σ2 → R τ2 σ2 → W p l e room_1 s m #[Value.ref b] below meth c H1 locs1 kc ks (lw_Z below #[Value.ref b] s) (F0 m 1328 ls [])) : W p l e room_1 s m #[Value.ref b] below meth c H locs kc ks (lw_Z below #[Value.ref b] s) (F0 m 249 ls []) := by
  obtain ⟨hx, hb, hr, hml, hown, hts0, hX, hbl, hlocks, hgv⟩ := id C0
  have hts : ∀ w ∈ sk_ALL, w.before #[Value.ref b] s = true := fun w hw => hts0 w (sk_in_tbl w hw)
  have hbA : ¬ (fun q : Nat => s.heap.size ≤ q) b := Nat.not_le.mpr hbl
  have hS := X.2.2.2.2.2.2.2.1
  refine lv_aload_n hx hb dL_law_249 rfl (lv_at hl 2 rfl) ?_
  refine lv_aload_n hx hb dL_law_250 rfl (lv_at hl 3 rfl) ?_
  refine lv_iload_n hx hb dL_law_251 rfl (lv_at hl 0 rfl) ?_
  refine lv_iconst (v := 1) hx hb dL_law_252 (by decide) ?_
  refine lv_iadd hx hb dL_law_253 ?_
  refine va_sld hx hb hX hbl hbA hS (lw_vin hL hi 1 (by omega)) dL_law_254 ?_
  refine lv_aload_n hx hb dL_law_255 rfl (lv_at hl 3 rfl) ?_
  refine lv_iload_n hx hb dL_law_256 rfl (lv_at hl 0 rfl) ?_
  refine lv_iconst (v := 2) hx hb dL_law_257 (by decide) ?_
  refine lv_iadd hx hb dL_law_258 ?_
  refine va_sld hx hb hX hbl hbA hS (lw_vin hL hi 2 (by omega)) dL_law_259 ?_
  refine lw_callC [.int (xs (nI i + 1).toNatClampNeg), .int (xs (nI i + 2).toNatClampNeg)] [] hk hx hb hml hl.1 hown hts dL_law_260 mfX6_slateIs lkL_18 miX6_slateIs msX6_slateIs rfl rfl rfl (by decide) X (jSlateIs (d := 200) (e := 200) (by omega) (by omega) hR) (fun v τ2 H1 locs1 hv X1 => ?_)
  obtain ⟨r, rfl, hm⟩ := hv
  have hS := X1.2.2.2.2.2.2.2.1
  show W p l e room_1 s m #[Value.ref b] below meth c H1 locs1 kc ks (lw_Z below #[Value.ref b] s) (F0 m 263 ls [.int r])
  refine lv_aload_n hx hb dL_law_263 rfl (lv_at hl 1 rfl) ?_
  refine lv_aload_n hx hb dL_law_264 rfl (lv_at hl 3 rfl) ?_
  refine lv_iload_n hx hb dL_law_265 rfl (lv_at hl 0 rfl) ?_
  refine lv_iconst (v := 1) hx hb dL_law_266 (by decide) ?_
  refine lv_iadd hx hb dL_law_267 ?_
  refine va_sld hx hb hX hbl hbA hS (lw_vin hL hi 1 (by omega)) dL_law_268 ?_
  refine lv_aload_n hx hb dL_law_269 rfl (lv_at hl 3 rfl) ?_
  refine lv_iload_n hx hb dL_law_270 rfl (lv_at hl 0 rfl) ?_
  refine lv_iconst (v := 2) hx hb dL_law_271 (by decide) ?_
  refine lv_iadd hx hb dL_law_272 ?_
  refine va_sld hx hb hX hbl hbA hS (lw_vin hL hi 2 (by omega)) dL_law_273 ?_
  refine lw_callM [.int (xs (nI i + 1).toNatClampNeg), .int (xs (nI i + 2).toNatClampNeg)] [.int r] hk hx hb hml hl.1 hown hts dL_law_274 mfX7_slateIs lkL_22 miX7_slateIs msX7_slateIs rfl rfl rfl (Nat.le_of_ble_eq_true rfl) X1 hm (fun w σ2 H2 locs2 hw X2 => ?_)
  obtain ⟨rfl, hR2⟩ := hw
  show W p l e room_1 s m #[Value.ref b] below meth c H2 locs2 kc ks (lw_Z below #[Value.ref b] s) (F0 m 277 ls [.int r, .int r])
  exact lv_icmp_eq (tgt := 1328) hx hb dL_law_277 (by decide) (fun _ => kk τ2 σ2 H2 locs2 X2 hR2) (fun z => absurd rfl z)
set_option maxHeartbeats 2000000 in
theorem lc_become (hL : L ≤ 3072) (hi : i + 6 ≤ L) (hk : kc ≤ 600000 ∧ ks ≤ 7302250) (C0 : lw_At p s m meth c b L xs) (hl : lv_has ls 4 [(3, .int (nI i)), (2, .ref (ad2 0)), (1, .ref (ad1 0)), (0, .ref b)]) (X : lwS s H locs D cA ad1 ad2 τ σ) (hR : R τ σ)
    (kk : ∀ τ2 σ2 H1 locs1, lwS s H1 locs1 D cA ad1 ad2 τ2 σ2 → R τ2 σ2 → W p l e room_1 s m #[Value.ref b] below meth c H1 locs1 kc ks (lw_Z below #[Value.ref b] s) (F0 m 1328 ls [])) : W p l e room_1 s m #[Value.ref b] below meth c H locs kc ks (lw_Z below #[Value.ref b] s) (F0 m 282 ls []) := by
  obtain ⟨hx, hb, hr, hml, hown, hts0, hX, hbl, hlocks, hgv⟩ := id C0
  have hts : ∀ w ∈ sk_ALL, w.before #[Value.ref b] s = true := fun w hw => hts0 w (sk_in_tbl w hw)
  have hbA : ¬ (fun q : Nat => s.heap.size ≤ q) b := Nat.not_le.mpr hbl
  have hS := X.2.2.2.2.2.2.2.1
  refine lv_aload_n hx hb dL_law_282 rfl (lv_at hl 2 rfl) ?_
  refine lv_aload_n hx hb dL_law_283 rfl (lv_at hl 3 rfl) ?_
  refine lv_iload_n hx hb dL_law_284 rfl (lv_at hl 0 rfl) ?_
  refine lv_iconst (v := 1) hx hb dL_law_285 (by decide) ?_
  refine lv_iadd hx hb dL_law_286 ?_
  refine va_sld hx hb hX hbl hbA hS (lw_vin hL hi 1 (by omega)) dL_law_287 ?_
  refine lv_aload_n hx hb dL_law_288 rfl (lv_at hl 3 rfl) ?_
  refine lv_iload_n hx hb dL_law_289 rfl (lv_at hl 0 rfl) ?_
  refine lv_iconst (v := 2) hx hb dL_law_290 (by decide) ?_
  refine lv_iadd hx hb dL_law_291 ?_
  refine va_sld hx hb hX hbl hbA hS (lw_vin hL hi 2 (by omega)) dL_law_292 ?_
  refine lw_callC [.int (xs (nI i + 1).toNatClampNeg), .int (xs (nI i + 2).toNatClampNeg)] [] hk hx hb hml hl.1 hown hts dL_law_293 mfX6_become lkL_23 miX6_become msX6_become rfl rfl rfl (by decide) X (jBecome (d := 200) (e := 200) (by omega) (by omega) hR) (fun v τ2 H1 locs1 hv X1 => ?_)
  obtain ⟨r, rfl, hm⟩ := hv
  have hS := X1.2.2.2.2.2.2.2.1
  show W p l e room_1 s m #[Value.ref b] below meth c H1 locs1 kc ks (lw_Z below #[Value.ref b] s) (F0 m 296 ls [.int r])
  refine lv_aload_n hx hb dL_law_296 rfl (lv_at hl 1 rfl) ?_
  refine lv_aload_n hx hb dL_law_297 rfl (lv_at hl 3 rfl) ?_
  refine lv_iload_n hx hb dL_law_298 rfl (lv_at hl 0 rfl) ?_
  refine lv_iconst (v := 1) hx hb dL_law_299 (by decide) ?_
  refine lv_iadd hx hb dL_law_300 ?_
  refine va_sld hx hb hX hbl hbA hS (lw_vin hL hi 1 (by omega)) dL_law_301 ?_
  refine lv_aload_n hx hb dL_law_302 rfl (lv_at hl 3 rfl) ?_
  refine lv_iload_n hx hb dL_law_303 rfl (lv_at hl 0 rfl) ?_
  refine lv_iconst (v := 2) hx hb dL_law_304 (by decide) ?_
  refine lv_iadd hx hb dL_law_305 ?_
  refine va_sld hx hb hX hbl hbA hS (lw_vin hL hi 2 (by omega)) dL_law_306 ?_
  refine lw_callM [.int (xs (nI i + 1).toNatClampNeg), .int (xs (nI i + 2).toNatClampNeg)] [.int r] hk hx hb hml hl.1 hown hts dL_law_307 mfX7_become lkL_26 miX7_become msX7_become rfl rfl rfl (Nat.le_of_ble_eq_true rfl) X1 hm (fun w σ2 H2 locs2 hw X2 => ?_)
  obtain ⟨rfl, hR2⟩ := hw
  show W p l e room_1 s m #[Value.ref b] below meth c H2 locs2 kc ks (lw_Z below #[Value.ref b] s) (F0 m 310 ls [.int r, .int r])
  exact lv_icmp_eq (tgt := 1328) hx hb dL_law_310 (by decide) (fun _ => kk τ2 σ2 H2 locs2 X2 hR2) (fun z => absurd rfl z)
set_option maxHeartbeats 2000000 in
theorem lc_as (hL : L ≤ 3072) (hi : i + 6 ≤ L) (hk : kc ≤ 600000 ∧ ks ≤ 7302250) (C0 : lw_At p s m meth c b L xs) (hl : lv_has ls 4 [(3, .int (nI i)), (2, .ref (ad2 0)), (1, .ref (ad1 0)), (0, .ref b)]) (X : lwS s H locs D cA ad1 ad2 τ σ) (hR : R τ σ)
    (kk : ∀ τ2 σ2 H1 locs1, lwS s H1 locs1 D cA ad1 ad2 τ2 σ2 → R τ2 σ2 → W p l e room_1 s m #[Value.ref b] below meth c H1 locs1 kc ks (lw_Z below #[Value.ref b] s) (F0 m 1328 ls [])) : W p l e room_1 s m #[Value.ref b] below meth c H locs kc ks (lw_Z below #[Value.ref b] s) (F0 m 315 ls []) := by
  obtain ⟨hx, hb, hr, hml, hown, hts0, hX, hbl, hlocks, hgv⟩ := id C0
  have hts : ∀ w ∈ sk_ALL, w.before #[Value.ref b] s = true := fun w hw => hts0 w (sk_in_tbl w hw)
  have hbA : ¬ (fun q : Nat => s.heap.size ≤ q) b := Nat.not_le.mpr hbl
  have hS := X.2.2.2.2.2.2.2.1
  refine lv_aload_n hx hb dL_law_315 rfl (lv_at hl 2 rfl) ?_
  refine lv_aload_n hx hb dL_law_316 rfl (lv_at hl 3 rfl) ?_
  refine lv_iload_n hx hb dL_law_317 rfl (lv_at hl 0 rfl) ?_
  refine lv_iconst (v := 1) hx hb dL_law_318 (by decide) ?_
  refine lv_iadd hx hb dL_law_319 ?_
  refine va_sld hx hb hX hbl hbA hS (lw_vin hL hi 1 (by omega)) dL_law_320 ?_
  refine lv_aload_n hx hb dL_law_321 rfl (lv_at hl 3 rfl) ?_
  refine lv_iload_n hx hb dL_law_322 rfl (lv_at hl 0 rfl) ?_
  refine lv_iconst (v := 2) hx hb dL_law_323 (by decide) ?_
  refine lv_iadd hx hb dL_law_324 ?_
  refine va_sld hx hb hX hbl hbA hS (lw_vin hL hi 2 (by omega)) dL_law_325 ?_
  refine lw_callC [.int (xs (nI i + 1).toNatClampNeg), .int (xs (nI i + 2).toNatClampNeg)] [] hk hx hb hml hl.1 hown hts dL_law_326 mfX6_as lkL_27 miX6_as msX6_as rfl rfl rfl (by decide) X (jAs (d := 200) (e := 200) (by omega) (by omega) hR) (fun v τ2 H1 locs1 hv X1 => ?_)
  obtain ⟨r, rfl, hm⟩ := hv
  have hS := X1.2.2.2.2.2.2.2.1
  show W p l e room_1 s m #[Value.ref b] below meth c H1 locs1 kc ks (lw_Z below #[Value.ref b] s) (F0 m 329 ls [.int r])
  refine lv_aload_n hx hb dL_law_329 rfl (lv_at hl 1 rfl) ?_
  refine lv_aload_n hx hb dL_law_330 rfl (lv_at hl 3 rfl) ?_
  refine lv_iload_n hx hb dL_law_331 rfl (lv_at hl 0 rfl) ?_
  refine lv_iconst (v := 1) hx hb dL_law_332 (by decide) ?_
  refine lv_iadd hx hb dL_law_333 ?_
  refine va_sld hx hb hX hbl hbA hS (lw_vin hL hi 1 (by omega)) dL_law_334 ?_
  refine lv_aload_n hx hb dL_law_335 rfl (lv_at hl 3 rfl) ?_
  refine lv_iload_n hx hb dL_law_336 rfl (lv_at hl 0 rfl) ?_
  refine lv_iconst (v := 2) hx hb dL_law_337 (by decide) ?_
  refine lv_iadd hx hb dL_law_338 ?_
  refine va_sld hx hb hX hbl hbA hS (lw_vin hL hi 2 (by omega)) dL_law_339 ?_
  refine lw_callM [.int (xs (nI i + 1).toNatClampNeg), .int (xs (nI i + 2).toNatClampNeg)] [.int r] hk hx hb hml hl.1 hown hts dL_law_340 mfX7_as lkL_30 miX7_as msX7_as rfl rfl rfl (Nat.le_of_ble_eq_true rfl) X1 hm (fun w σ2 H2 locs2 hw X2 => ?_)
  obtain ⟨rfl, hR2⟩ := hw
  show W p l e room_1 s m #[Value.ref b] below meth c H2 locs2 kc ks (lw_Z below #[Value.ref b] s) (F0 m 343 ls [.int r, .int r])
  exact lv_icmp_eq (tgt := 1328) hx hb dL_law_343 (by decide) (fun _ => kk τ2 σ2 H2 locs2 X2 hR2) (fun z => absurd rfl z)
set_option maxHeartbeats 2000000 in
theorem lc_lay (hL : L ≤ 3072) (hi : i + 6 ≤ L) (hk : kc ≤ 600000 ∧ ks ≤ 7302250) (C0 : lw_At p s m meth c b L xs) (hl : lv_has ls 4 [(3, .int (nI i)), (2, .ref (ad2 0)), (1, .ref (ad1 0)), (0, .ref b)]) (X : lwS s H locs D cA ad1 ad2 τ σ) (hR : R τ σ)
    (kk : ∀ τ2 σ2 H1 locs1, lwS s H1 locs1 D cA ad1 ad2 τ2 σ2 → R τ2 σ2 → W p l e room_1 s m #[Value.ref b] below meth c H1 locs1 kc ks (lw_Z below #[Value.ref b] s) (F0 m 1328 ls [])) : W p l e room_1 s m #[Value.ref b] below meth c H locs kc ks (lw_Z below #[Value.ref b] s) (F0 m 348 ls []) := by
  obtain ⟨hx, hb, hr, hml, hown, hts0, hX, hbl, hlocks, hgv⟩ := id C0
  have hts : ∀ w ∈ sk_ALL, w.before #[Value.ref b] s = true := fun w hw => hts0 w (sk_in_tbl w hw)
  have hbA : ¬ (fun q : Nat => s.heap.size ≤ q) b := Nat.not_le.mpr hbl
  have hS := X.2.2.2.2.2.2.2.1
  refine lv_aload_n hx hb dL_law_348 rfl (lv_at hl 2 rfl) ?_
  refine lv_aload_n hx hb dL_law_349 rfl (lv_at hl 3 rfl) ?_
  refine lv_iload_n hx hb dL_law_350 rfl (lv_at hl 0 rfl) ?_
  refine lv_iconst (v := 1) hx hb dL_law_351 (by decide) ?_
  refine lv_iadd hx hb dL_law_352 ?_
  refine va_sld hx hb hX hbl hbA hS (lw_vin hL hi 1 (by omega)) dL_law_353 ?_
  refine lv_aload_n hx hb dL_law_354 rfl (lv_at hl 3 rfl) ?_
  refine lv_iload_n hx hb dL_law_355 rfl (lv_at hl 0 rfl) ?_
  refine lv_iconst (v := 2) hx hb dL_law_356 (by decide) ?_
  refine lv_iadd hx hb dL_law_357 ?_
  refine va_sld hx hb hX hbl hbA hS (lw_vin hL hi 2 (by omega)) dL_law_358 ?_
  refine lv_aload_n hx hb dL_law_359 rfl (lv_at hl 3 rfl) ?_
  refine lv_iload_n hx hb dL_law_360 rfl (lv_at hl 0 rfl) ?_
  refine lv_iconst (v := 3) hx hb dL_law_361 (by decide) ?_
  refine lv_iadd hx hb dL_law_362 ?_
  refine va_sld hx hb hX hbl hbA hS (lw_vin hL hi 3 (by omega)) dL_law_363 ?_
  refine lw_callC [.int (xs (nI i + 1).toNatClampNeg), .int (xs (nI i + 2).toNatClampNeg), .int (xs (nI i + 3).toNatClampNeg)] [] hk hx hb hml hl.1 hown hts dL_law_364 mfX6_lay lkL_31 miX6_lay msX6_lay rfl rfl rfl (by decide) X (jLay (d := 200) (e := 200) (by omega) (by omega) hR) (fun v τ2 H1 locs1 hv X1 => ?_)
  obtain ⟨r, rfl, hm⟩ := hv
  have hS := X1.2.2.2.2.2.2.2.1
  show W p l e room_1 s m #[Value.ref b] below meth c H1 locs1 kc ks (lw_Z below #[Value.ref b] s) (F0 m 367 ls [.int r])
  refine lv_aload_n hx hb dL_law_367 rfl (lv_at hl 1 rfl) ?_
  refine lv_aload_n hx hb dL_law_368 rfl (lv_at hl 3 rfl) ?_
  refine lv_iload_n hx hb dL_law_369 rfl (lv_at hl 0 rfl) ?_
  refine lv_iconst (v := 1) hx hb dL_law_370 (by decide) ?_
  refine lv_iadd hx hb dL_law_371 ?_
  refine va_sld hx hb hX hbl hbA hS (lw_vin hL hi 1 (by omega)) dL_law_372 ?_
  refine lv_aload_n hx hb dL_law_373 rfl (lv_at hl 3 rfl) ?_
  refine lv_iload_n hx hb dL_law_374 rfl (lv_at hl 0 rfl) ?_
  refine lv_iconst (v := 2) hx hb dL_law_375 (by decide) ?_
  refine lv_iadd hx hb dL_law_376 ?_
  refine va_sld hx hb hX hbl hbA hS (lw_vin hL hi 2 (by omega)) dL_law_377 ?_
  refine lv_aload_n hx hb dL_law_378 rfl (lv_at hl 3 rfl) ?_
  refine lv_iload_n hx hb dL_law_379 rfl (lv_at hl 0 rfl) ?_
  refine lv_iconst (v := 3) hx hb dL_law_380 (by decide) ?_
  refine lv_iadd hx hb dL_law_381 ?_
  refine va_sld hx hb hX hbl hbA hS (lw_vin hL hi 3 (by omega)) dL_law_382 ?_
  refine lw_callM [.int (xs (nI i + 1).toNatClampNeg), .int (xs (nI i + 2).toNatClampNeg), .int (xs (nI i + 3).toNatClampNeg)] [.int r] hk hx hb hml hl.1 hown hts dL_law_383 mfX7_lay lkL_35 miX7_lay msX7_lay rfl rfl rfl (Nat.le_of_ble_eq_true rfl) X1 hm (fun w σ2 H2 locs2 hw X2 => ?_)
  obtain ⟨rfl, hR2⟩ := hw
  show W p l e room_1 s m #[Value.ref b] below meth c H2 locs2 kc ks (lw_Z below #[Value.ref b] s) (F0 m 386 ls [.int r, .int r])
  exact lv_icmp_eq (tgt := 1328) hx hb dL_law_386 (by decide) (fun _ => kk τ2 σ2 H2 locs2 X2 hR2) (fun z => absurd rfl z)
set_option maxHeartbeats 2000000 in
theorem lc_lift (hL : L ≤ 3072) (hi : i + 6 ≤ L) (hk : kc ≤ 600000 ∧ ks ≤ 7302250) (C0 : lw_At p s m meth c b L xs) (hl : lv_has ls 4 [(3, .int (nI i)), (2, .ref (ad2 0)), (1, .ref (ad1 0)), (0, .ref b)]) (X : lwS s H locs D cA ad1 ad2 τ σ) (hR : R τ σ)
    (kk : ∀ τ2 σ2 H1 locs1, lwS s H1 locs1 D cA ad1 ad2 τ2 σ2 → R τ2 σ2 → W p l e room_1 s m #[Value.ref b] below meth c H1 locs1 kc ks (lw_Z below #[Value.ref b] s) (F0 m 1328 ls [])) : W p l e room_1 s m #[Value.ref b] below meth c H locs kc ks (lw_Z below #[Value.ref b] s) (F0 m 391 ls []) := by
  obtain ⟨hx, hb, hr, hml, hown, hts0, hX, hbl, hlocks, hgv⟩ := id C0
  have hts : ∀ w ∈ sk_ALL, w.before #[Value.ref b] s = true := fun w hw => hts0 w (sk_in_tbl w hw)
  have hbA : ¬ (fun q : Nat => s.heap.size ≤ q) b := Nat.not_le.mpr hbl
  have hS := X.2.2.2.2.2.2.2.1
  refine lv_aload_n hx hb dL_law_391 rfl (lv_at hl 2 rfl) ?_
  refine lv_aload_n hx hb dL_law_392 rfl (lv_at hl 3 rfl) ?_
  refine lv_iload_n hx hb dL_law_393 rfl (lv_at hl 0 rfl) ?_
  refine lv_iconst (v := 1) hx hb dL_law_394 (by decide) ?_
  refine lv_iadd hx hb dL_law_395 ?_
  refine va_sld hx hb hX hbl hbA hS (lw_vin hL hi 1 (by omega)) dL_law_396 ?_
  refine lw_callC [.int (xs (nI i + 1).toNatClampNeg)] [] hk hx hb hml hl.1 hown hts dL_law_397 mfX6_lift lkL_36 miX6_lift msX6_lift rfl rfl rfl (by decide) X (jLift (d := 200) (e := 200) (by omega) (by omega) hR) (fun v τ2 H1 locs1 hv X1 => ?_)
  obtain ⟨r, rfl, hm⟩ := hv
  have hS := X1.2.2.2.2.2.2.2.1
  show W p l e room_1 s m #[Value.ref b] below meth c H1 locs1 kc ks (lw_Z below #[Value.ref b] s) (F0 m 400 ls [.int r])
  refine lv_aload_n hx hb dL_law_400 rfl (lv_at hl 1 rfl) ?_
  refine lv_aload_n hx hb dL_law_401 rfl (lv_at hl 3 rfl) ?_
  refine lv_iload_n hx hb dL_law_402 rfl (lv_at hl 0 rfl) ?_
  refine lv_iconst (v := 1) hx hb dL_law_403 (by decide) ?_
  refine lv_iadd hx hb dL_law_404 ?_
  refine va_sld hx hb hX hbl hbA hS (lw_vin hL hi 1 (by omega)) dL_law_405 ?_
  refine lw_callM [.int (xs (nI i + 1).toNatClampNeg)] [.int r] hk hx hb hml hl.1 hown hts dL_law_406 mfX7_lift lkL_40 miX7_lift msX7_lift rfl rfl rfl (Nat.le_of_ble_eq_true rfl) X1 hm (fun w σ2 H2 locs2 hw X2 => ?_)
  obtain ⟨rfl, hR2⟩ := hw
  show W p l e room_1 s m #[Value.ref b] below meth c H2 locs2 kc ks (lw_Z below #[Value.ref b] s) (F0 m 409 ls [.int r, .int r])
  exact lv_icmp_eq (tgt := 1328) hx hb dL_law_409 (by decide) (fun _ => kk τ2 σ2 H2 locs2 X2 hR2) (fun z => absurd rfl z)
set_option maxHeartbeats 2000000 in
theorem lc_nail (hL : L ≤ 3072) (hi : i + 6 ≤ L) (hk : kc ≤ 600000 ∧ ks ≤ 7302250) (C0 : lw_At p s m meth c b L xs) (hl : lv_has ls 4 [(3, .int (nI i)), (2, .ref (ad2 0)), (1, .ref (ad1 0)), (0, .ref b)]) (X : lwS s H locs D cA ad1 ad2 τ σ) (hR : R τ σ)
    (kk : ∀ τ2 σ2 H1 locs1, lwS s H1 locs1 D cA ad1 ad2 τ2 σ2 → R τ2 σ2 → W p l e room_1 s m #[Value.ref b] below meth c H1 locs1 kc ks (lw_Z below #[Value.ref b] s) (F0 m 1328 ls [])) : W p l e room_1 s m #[Value.ref b] below meth c H locs kc ks (lw_Z below #[Value.ref b] s) (F0 m 414 ls []) := by
  obtain ⟨hx, hb, hr, hml, hown, hts0, hX, hbl, hlocks, hgv⟩ := id C0
  have hts : ∀ w ∈ sk_ALL, w.before #[Value.ref b] s = true := fun w hw => hts0 w (sk_in_tbl w hw)
  have hbA : ¬ (fun q : Nat => s.heap.size ≤ q) b := Nat.not_le.mpr hbl
  have hS := X.2.2.2.2.2.2.2.1
  refine lv_aload_n hx hb dL_law_414 rfl (lv_at hl 2 rfl) ?_
  refine lv_aload_n hx hb dL_law_415 rfl (lv_at hl 3 rfl) ?_
  refine lv_iload_n hx hb dL_law_416 rfl (lv_at hl 0 rfl) ?_
  refine lv_iconst (v := 1) hx hb dL_law_417 (by decide) ?_
  refine lv_iadd hx hb dL_law_418 ?_
  refine va_sld hx hb hX hbl hbA hS (lw_vin hL hi 1 (by omega)) dL_law_419 ?_
  refine lv_aload_n hx hb dL_law_420 rfl (lv_at hl 3 rfl) ?_
  refine lv_iload_n hx hb dL_law_421 rfl (lv_at hl 0 rfl) ?_
  refine lv_iconst (v := 2) hx hb dL_law_422 (by decide) ?_
  refine lv_iadd hx hb dL_law_423 ?_
  refine va_sld hx hb hX hbl hbA hS (lw_vin hL hi 2 (by omega)) dL_law_424 ?_
  refine lw_callC [.int (xs (nI i + 1).toNatClampNeg), .int (xs (nI i + 2).toNatClampNeg)] [] hk hx hb hml hl.1 hown hts dL_law_425 mfX6_nail lkL_41 miX6_nail msX6_nail rfl rfl rfl (by decide) X (jNail (d := 200) (e := 200) (by omega) (by omega) hR) (fun v τ2 H1 locs1 hv X1 => ?_)
  obtain ⟨r, rfl, hm⟩ := hv
  have hS := X1.2.2.2.2.2.2.2.1
  show W p l e room_1 s m #[Value.ref b] below meth c H1 locs1 kc ks (lw_Z below #[Value.ref b] s) (F0 m 428 ls [.int r])
  refine lv_aload_n hx hb dL_law_428 rfl (lv_at hl 1 rfl) ?_
  refine lv_aload_n hx hb dL_law_429 rfl (lv_at hl 3 rfl) ?_
  refine lv_iload_n hx hb dL_law_430 rfl (lv_at hl 0 rfl) ?_
  refine lv_iconst (v := 1) hx hb dL_law_431 (by decide) ?_
  refine lv_iadd hx hb dL_law_432 ?_
  refine va_sld hx hb hX hbl hbA hS (lw_vin hL hi 1 (by omega)) dL_law_433 ?_
  refine lv_aload_n hx hb dL_law_434 rfl (lv_at hl 3 rfl) ?_
  refine lv_iload_n hx hb dL_law_435 rfl (lv_at hl 0 rfl) ?_
  refine lv_iconst (v := 2) hx hb dL_law_436 (by decide) ?_
  refine lv_iadd hx hb dL_law_437 ?_
  refine va_sld hx hb hX hbl hbA hS (lw_vin hL hi 2 (by omega)) dL_law_438 ?_
  refine lw_callM [.int (xs (nI i + 1).toNatClampNeg), .int (xs (nI i + 2).toNatClampNeg)] [.int r] hk hx hb hml hl.1 hown hts dL_law_439 mfX7_nail lkL_44 miX7_nail msX7_nail rfl rfl rfl (Nat.le_of_ble_eq_true rfl) X1 hm (fun w σ2 H2 locs2 hw X2 => ?_)
  obtain ⟨rfl, hR2⟩ := hw
  show W p l e room_1 s m #[Value.ref b] below meth c H2 locs2 kc ks (lw_Z below #[Value.ref b] s) (F0 m 442 ls [.int r, .int r])
  exact lv_icmp_eq (tgt := 1328) hx hb dL_law_442 (by decide) (fun _ => kk τ2 σ2 H2 locs2 X2 hR2) (fun z => absurd rfl z)
set_option maxHeartbeats 2000000 in
theorem lc_sells (hL : L ≤ 3072) (hi : i + 6 ≤ L) (hk : kc ≤ 600000 ∧ ks ≤ 7302250) (C0 : lw_At p s m meth c b L xs) (hl : lv_has ls 4 [(3, .int (nI i)), (2, .ref (ad2 0)), (1, .ref (ad1 0)), (0, .ref b)]) (X : lwS s H locs D cA ad1 ad2 τ σ) (hR : R τ σ)
    (kk : ∀ τ2 σ2 H1 locs1, lwS s H1 locs1 D cA ad1 ad2 τ2 σ2 → R τ2 σ2 → W p l e room_1 s m #[Value.ref b] below meth c H1 locs1 kc ks (lw_Z below #[Value.ref b] s) (F0 m 1328 ls [])) : W p l e room_1 s m #[Value.ref b] below meth c H locs kc ks (lw_Z below #[Value.ref b] s) (F0 m 447 ls []) := by
  obtain ⟨hx, hb, hr, hml, hown, hts0, hX, hbl, hlocks, hgv⟩ := id C0
  have hts : ∀ w ∈ sk_ALL, w.before #[Value.ref b] s = true := fun w hw => hts0 w (sk_in_tbl w hw)
  have hbA : ¬ (fun q : Nat => s.heap.size ≤ q) b := Nat.not_le.mpr hbl
  have hS := X.2.2.2.2.2.2.2.1
  refine lv_aload_n hx hb dL_law_447 rfl (lv_at hl 2 rfl) ?_
  refine lv_aload_n hx hb dL_law_448 rfl (lv_at hl 3 rfl) ?_
  refine lv_iload_n hx hb dL_law_449 rfl (lv_at hl 0 rfl) ?_
  refine lv_iconst (v := 1) hx hb dL_law_450 (by decide) ?_
  refine lv_iadd hx hb dL_law_451 ?_
  refine va_sld hx hb hX hbl hbA hS (lw_vin hL hi 1 (by omega)) dL_law_452 ?_
  refine lw_callC [.int (xs (nI i + 1).toNatClampNeg)] [] hk hx hb hml hl.1 hown hts dL_law_453 mfX6_sells lkL_45 miX6_sells msX6_sells rfl rfl rfl (by decide) X (jSells (d := 200) (e := 200) (by omega) (by omega) hR) (fun v τ2 H1 locs1 hv X1 => ?_)
  obtain ⟨r, rfl, hm⟩ := hv
  have hS := X1.2.2.2.2.2.2.2.1
  show W p l e room_1 s m #[Value.ref b] below meth c H1 locs1 kc ks (lw_Z below #[Value.ref b] s) (F0 m 456 ls [.int r])
  refine lv_aload_n hx hb dL_law_456 rfl (lv_at hl 1 rfl) ?_
  refine lv_aload_n hx hb dL_law_457 rfl (lv_at hl 3 rfl) ?_
  refine lv_iload_n hx hb dL_law_458 rfl (lv_at hl 0 rfl) ?_
  refine lv_iconst (v := 1) hx hb dL_law_459 (by decide) ?_
  refine lv_iadd hx hb dL_law_460 ?_
  refine va_sld hx hb hX hbl hbA hS (lw_vin hL hi 1 (by omega)) dL_law_461 ?_
  refine lw_callM [.int (xs (nI i + 1).toNatClampNeg)] [.int r] hk hx hb hml hl.1 hown hts dL_law_462 mfX7_sells lkL_48 miX7_sells msX7_sells rfl rfl rfl (Nat.le_of_ble_eq_true rfl) X1 hm (fun w σ2 H2 locs2 hw X2 => ?_)
  obtain ⟨rfl, hR2⟩ := hw
  show W p l e room_1 s m #[Value.ref b] below meth c H2 locs2 kc ks (lw_Z below #[Value.ref b] s) (F0 m 465 ls [.int r, .int r])
  exact lv_icmp_eq (tgt := 1328) hx hb dL_law_465 (by decide) (fun _ => kk τ2 σ2 H2 locs2 X2 hR2) (fun z => absurd rfl z)
set_option maxHeartbeats 2000000 in
theorem lc_feed (hL : L ≤ 3072) (hi : i + 6 ≤ L) (hk : kc ≤ 600000 ∧ ks ≤ 7302250) (C0 : lw_At p s m meth c b L xs) (hl : lv_has ls 4 [(3, .int (nI i)), (2, .ref (ad2 0)), (1, .ref (ad1 0)), (0, .ref b)]) (X : lwS s H locs D cA ad1 ad2 τ σ) (hR : R τ σ)
    (kk : ∀ τ2 σ2 H1 locs1, lwS s H1 locs1 D cA ad1 ad2 τ2 σ2 → R τ2 σ2 → W p l e room_1 s m #[Value.ref b] below meth c H1 locs1 kc ks (lw_Z below #[Value.ref b] s) (F0 m 1328 ls [])) : W p l e room_1 s m #[Value.ref b] below meth c H locs kc ks (lw_Z below #[Value.ref b] s) (F0 m 470 ls []) := by
  obtain ⟨hx, hb, hr, hml, hown, hts0, hX, hbl, hlocks, hgv⟩ := id C0
  have hts : ∀ w ∈ sk_ALL, w.before #[Value.ref b] s = true := fun w hw => hts0 w (sk_in_tbl w hw)
  have hbA : ¬ (fun q : Nat => s.heap.size ≤ q) b := Nat.not_le.mpr hbl
  have hS := X.2.2.2.2.2.2.2.1
  refine lv_aload_n hx hb dL_law_470 rfl (lv_at hl 2 rfl) ?_
  refine lv_aload_n hx hb dL_law_471 rfl (lv_at hl 3 rfl) ?_
  refine lv_iload_n hx hb dL_law_472 rfl (lv_at hl 0 rfl) ?_
  refine lv_iconst (v := 1) hx hb dL_law_473 (by decide) ?_
  refine lv_iadd hx hb dL_law_474 ?_
  refine va_sld hx hb hX hbl hbA hS (lw_vin hL hi 1 (by omega)) dL_law_475 ?_
  refine lv_i2l hx hb dL_law_476 rfl ?_
  refine lv_bipush (v := 32) hx hb dL_law_477 (by decide) ?_
  refine lv_lshl hx hb dL_law_479 rfl ?_
  refine lv_aload_n hx hb dL_law_480 rfl (lv_at hl 3 rfl) ?_
  refine lv_iload_n hx hb dL_law_481 rfl (lv_at hl 0 rfl) ?_
  refine lv_iconst (v := 2) hx hb dL_law_482 (by decide) ?_
  refine lv_iadd hx hb dL_law_483 ?_
  refine va_sld hx hb hX hbl hbA hS (lw_vin hL hi 2 (by omega)) dL_law_484 ?_
  refine lv_i2l hx hb dL_law_485 rfl ?_
  refine lv_ldc2 (own := RL) hx hb hown (hts _ klL_49) dL_law_486 ?_
  refine lv_land hx hb dL_law_489 ?_
  refine lv_lor hx hb dL_law_490 ?_
  refine lv_aload_n hx hb dL_law_491 rfl (lv_at hl 3 rfl) ?_
  refine lv_iload_n hx hb dL_law_492 rfl (lv_at hl 0 rfl) ?_
  refine lv_iconst (v := 3) hx hb dL_law_493 (by decide) ?_
  refine lv_iadd hx hb dL_law_494 ?_
  refine va_sld hx hb hX hbl hbA hS (lw_vin hL hi 3 (by omega)) dL_law_495 ?_
  refine lw_callC [.long (((Int32.toInt64 (xs (nI i + 1).toNatClampNeg)) <<< (Int32.toInt64 (32 : Int32) &&& 63)) ||| ((Int32.toInt64 (xs (nI i + 2).toNatClampNeg)) &&& 4294967295)), .int (xs (nI i + 3).toNatClampNeg)] [] hk hx hb hml hl.1 hown hts dL_law_496 mfX6_feed lkL_51 miX6_feed msX6_feed rfl rfl rfl (by decide) X (jFeed (d := 200) (e := 200) (by omega) (by omega) hR) (fun v τ2 H1 locs1 hv X1 => ?_)
  obtain ⟨r, rfl, hm⟩ := hv
  have hS := X1.2.2.2.2.2.2.2.1
  show W p l e room_1 s m #[Value.ref b] below meth c H1 locs1 kc ks (lw_Z below #[Value.ref b] s) (F0 m 499 ls [.int r])
  refine lv_aload_n hx hb dL_law_499 rfl (lv_at hl 1 rfl) ?_
  refine lv_aload_n hx hb dL_law_500 rfl (lv_at hl 3 rfl) ?_
  refine lv_iload_n hx hb dL_law_501 rfl (lv_at hl 0 rfl) ?_
  refine lv_iconst (v := 1) hx hb dL_law_502 (by decide) ?_
  refine lv_iadd hx hb dL_law_503 ?_
  refine va_sld hx hb hX hbl hbA hS (lw_vin hL hi 1 (by omega)) dL_law_504 ?_
  refine lv_i2l hx hb dL_law_505 rfl ?_
  refine lv_bipush (v := 32) hx hb dL_law_506 (by decide) ?_
  refine lv_lshl hx hb dL_law_508 rfl ?_
  refine lv_aload_n hx hb dL_law_509 rfl (lv_at hl 3 rfl) ?_
  refine lv_iload_n hx hb dL_law_510 rfl (lv_at hl 0 rfl) ?_
  refine lv_iconst (v := 2) hx hb dL_law_511 (by decide) ?_
  refine lv_iadd hx hb dL_law_512 ?_
  refine va_sld hx hb hX hbl hbA hS (lw_vin hL hi 2 (by omega)) dL_law_513 ?_
  refine lv_i2l hx hb dL_law_514 rfl ?_
  refine lv_ldc2 (own := RL) hx hb hown (hts _ klL_49) dL_law_515 ?_
  refine lv_land hx hb dL_law_518 ?_
  refine lv_lor hx hb dL_law_519 ?_
  refine lv_aload_n hx hb dL_law_520 rfl (lv_at hl 3 rfl) ?_
  refine lv_iload_n hx hb dL_law_521 rfl (lv_at hl 0 rfl) ?_
  refine lv_iconst (v := 3) hx hb dL_law_522 (by decide) ?_
  refine lv_iadd hx hb dL_law_523 ?_
  refine va_sld hx hb hX hbl hbA hS (lw_vin hL hi 3 (by omega)) dL_law_524 ?_
  refine lw_callM [.long (((Int32.toInt64 (xs (nI i + 1).toNatClampNeg)) <<< (Int32.toInt64 (32 : Int32) &&& 63)) ||| ((Int32.toInt64 (xs (nI i + 2).toNatClampNeg)) &&& 4294967295)), .int (xs (nI i + 3).toNatClampNeg)] [.int r] hk hx hb hml hl.1 hown hts dL_law_525 mfX7_feed lkL_55 miX7_feed msX7_feed rfl rfl rfl (Nat.le_of_ble_eq_true rfl) X1 hm (fun w σ2 H2 locs2 hw X2 => ?_)
  obtain ⟨rfl, hR2⟩ := hw
  show W p l e room_1 s m #[Value.ref b] below meth c H2 locs2 kc ks (lw_Z below #[Value.ref b] s) (F0 m 528 ls [.int r, .int r])
  exact lv_icmp_eq (tgt := 1328) hx hb dL_law_528 (by decide) (fun _ => kk τ2 σ2 H2 locs2 X2 hR2) (fun z => absurd rfl z)
set_option maxHeartbeats 2000000 in
theorem lc_text (hL : L ≤ 3072) (hi : i + 6 ≤ L) (hk : kc ≤ 600000 ∧ ks ≤ 7302250) (C0 : lw_At p s m meth c b L xs) (hl : lv_has ls 4 [(3, .int (nI i)), (2, .ref (ad2 0)), (1, .ref (ad1 0)), (0, .ref b)]) (X : lwS s H locs D cA ad1 ad2 τ σ) (hR : R τ σ)
    (kk : ∀ τ2 σ2 H1 locs1, lwS s H1 locs1 D cA ad1 ad2 τ2 σ2 → R τ2 σ2 → W p l e room_1 s m #[Value.ref b] below meth c H1 locs1 kc ks (lw_Z below #[Value.ref b] s) (F0 m 1328 ls [])) : W p l e room_1 s m #[Value.ref b] below meth c H locs kc ks (lw_Z below #[Value.ref b] s) (F0 m 533 ls []) := by
  obtain ⟨hx, hb, hr, hml, hown, hts0, hX, hbl, hlocks, hgv⟩ := id C0
  have hts : ∀ w ∈ sk_ALL, w.before #[Value.ref b] s = true := fun w hw => hts0 w (sk_in_tbl w hw)
  have hbA : ¬ (fun q : Nat => s.heap.size ≤ q) b := Nat.not_le.mpr hbl
  have hS := X.2.2.2.2.2.2.2.1
  refine lv_aload_n hx hb dL_law_533 rfl (lv_at hl 2 rfl) ?_
  refine lv_aload_n hx hb dL_law_534 rfl (lv_at hl 3 rfl) ?_
  refine lv_iload_n hx hb dL_law_535 rfl (lv_at hl 0 rfl) ?_
  refine lv_iconst (v := 1) hx hb dL_law_536 (by decide) ?_
  refine lv_iadd hx hb dL_law_537 ?_
  refine va_sld hx hb hX hbl hbA hS (lw_vin hL hi 1 (by omega)) dL_law_538 ?_
  refine lw_callC [.int (xs (nI i + 1).toNatClampNeg)] [] hk hx hb hml hl.1 hown hts dL_law_539 mfX6_text lkL_56 miX6_text msX6_text rfl rfl rfl (by decide) X (jText (d := 200) (e := 200) (by omega) (by omega) hR) (fun v τ2 H1 locs1 hv X1 => ?_)
  obtain ⟨r, rfl, hm⟩ := hv
  have hS := X1.2.2.2.2.2.2.2.1
  show W p l e room_1 s m #[Value.ref b] below meth c H1 locs1 kc ks (lw_Z below #[Value.ref b] s) (F0 m 542 ls [.int r])
  refine lv_aload_n hx hb dL_law_542 rfl (lv_at hl 1 rfl) ?_
  refine lv_aload_n hx hb dL_law_543 rfl (lv_at hl 3 rfl) ?_
  refine lv_iload_n hx hb dL_law_544 rfl (lv_at hl 0 rfl) ?_
  refine lv_iconst (v := 1) hx hb dL_law_545 (by decide) ?_
  refine lv_iadd hx hb dL_law_546 ?_
  refine va_sld hx hb hX hbl hbA hS (lw_vin hL hi 1 (by omega)) dL_law_547 ?_
  refine lw_callM [.int (xs (nI i + 1).toNatClampNeg)] [.int r] hk hx hb hml hl.1 hown hts dL_law_548 mfX7_text lkL_59 miX7_text msX7_text rfl rfl rfl (Nat.le_of_ble_eq_true rfl) X1 hm (fun w σ2 H2 locs2 hw X2 => ?_)
  obtain ⟨rfl, hR2⟩ := hw
  show W p l e room_1 s m #[Value.ref b] below meth c H2 locs2 kc ks (lw_Z below #[Value.ref b] s) (F0 m 551 ls [.int r, .int r])
  exact lv_icmp_eq (tgt := 1328) hx hb dL_law_551 (by decide) (fun _ => kk τ2 σ2 H2 locs2 X2 hR2) (fun z => absurd rfl z)
set_option maxHeartbeats 2000000 in
theorem lc_untell (hL : L ≤ 3072) (hi : i + 6 ≤ L) (hk : kc ≤ 600000 ∧ ks ≤ 7302250) (C0 : lw_At p s m meth c b L xs) (hl : lv_has ls 4 [(3, .int (nI i)), (2, .ref (ad2 0)), (1, .ref (ad1 0)), (0, .ref b)]) (X : lwS s H locs D cA ad1 ad2 τ σ) (hR : R τ σ)
    (kk : ∀ τ2 σ2 H1 locs1, lwS s H1 locs1 D cA ad1 ad2 τ2 σ2 → R τ2 σ2 → W p l e room_1 s m #[Value.ref b] below meth c H1 locs1 kc ks (lw_Z below #[Value.ref b] s) (F0 m 1328 ls [])) : W p l e room_1 s m #[Value.ref b] below meth c H locs kc ks (lw_Z below #[Value.ref b] s) (F0 m 556 ls []) := by
  obtain ⟨hx, hb, hr, hml, hown, hts0, hX, hbl, hlocks, hgv⟩ := id C0
  have hts : ∀ w ∈ sk_ALL, w.before #[Value.ref b] s = true := fun w hw => hts0 w (sk_in_tbl w hw)
  have hbA : ¬ (fun q : Nat => s.heap.size ≤ q) b := Nat.not_le.mpr hbl
  have hS := X.2.2.2.2.2.2.2.1
  refine lv_aload_n hx hb dL_law_556 rfl (lv_at hl 2 rfl) ?_
  refine lv_aload_n hx hb dL_law_557 rfl (lv_at hl 3 rfl) ?_
  refine lv_iload_n hx hb dL_law_558 rfl (lv_at hl 0 rfl) ?_
  refine lv_iconst (v := 1) hx hb dL_law_559 (by decide) ?_
  refine lv_iadd hx hb dL_law_560 ?_
  refine va_sld hx hb hX hbl hbA hS (lw_vin hL hi 1 (by omega)) dL_law_561 ?_
  refine lw_callC [.int (xs (nI i + 1).toNatClampNeg)] [] hk hx hb hml hl.1 hown hts dL_law_562 mfX6_untell lkL_60 miX6_untell msX6_untell rfl rfl rfl (by decide) X (jUntell (d := 200) (e := 200) (by omega) (by omega) hR) (fun v τ2 H1 locs1 hv X1 => ?_)
  obtain ⟨r, rfl, hm⟩ := hv
  have hS := X1.2.2.2.2.2.2.2.1
  show W p l e room_1 s m #[Value.ref b] below meth c H1 locs1 kc ks (lw_Z below #[Value.ref b] s) (F0 m 565 ls [.int r])
  refine lv_aload_n hx hb dL_law_565 rfl (lv_at hl 1 rfl) ?_
  refine lv_aload_n hx hb dL_law_566 rfl (lv_at hl 3 rfl) ?_
  refine lv_iload_n hx hb dL_law_567 rfl (lv_at hl 0 rfl) ?_
  refine lv_iconst (v := 1) hx hb dL_law_568 (by decide) ?_
  refine lv_iadd hx hb dL_law_569 ?_
  refine va_sld hx hb hX hbl hbA hS (lw_vin hL hi 1 (by omega)) dL_law_570 ?_
  refine lw_callM [.int (xs (nI i + 1).toNatClampNeg)] [.int r] hk hx hb hml hl.1 hown hts dL_law_571 mfX7_untell lkL_63 miX7_untell msX7_untell rfl rfl rfl (Nat.le_of_ble_eq_true rfl) X1 hm (fun w σ2 H2 locs2 hw X2 => ?_)
  obtain ⟨rfl, hR2⟩ := hw
  show W p l e room_1 s m #[Value.ref b] below meth c H2 locs2 kc ks (lw_Z below #[Value.ref b] s) (F0 m 574 ls [.int r, .int r])
  exact lv_icmp_eq (tgt := 1328) hx hb dL_law_574 (by decide) (fun _ => kk τ2 σ2 H2 locs2 X2 hR2) (fun z => absurd rfl z)
set_option maxHeartbeats 2000000 in
theorem lc_law (hL : L ≤ 3072) (hi : i + 6 ≤ L) (hk : kc ≤ 600000 ∧ ks ≤ 7302250) (C0 : lw_At p s m meth c b L xs) (hl : lv_has ls 4 [(3, .int (nI i)), (2, .ref (ad2 0)), (1, .ref (ad1 0)), (0, .ref b)]) (X : lwS s H locs D cA ad1 ad2 τ σ) (hR : R τ σ)
    (kk : ∀ τ2 σ2 H1 locs1, lwS s H1 locs1 D cA ad1 ad2 τ2 σ2 → R τ2 σ2 → W p l e room_1 s m #[Value.ref b] below meth c H1 locs1 kc ks (lw_Z below #[Value.ref b] s) (F0 m 1328 ls [])) : W p l e room_1 s m #[Value.ref b] below meth c H locs kc ks (lw_Z below #[Value.ref b] s) (F0 m 579 ls []) := by
  obtain ⟨hx, hb, hr, hml, hown, hts0, hX, hbl, hlocks, hgv⟩ := id C0
  have hts : ∀ w ∈ sk_ALL, w.before #[Value.ref b] s = true := fun w hw => hts0 w (sk_in_tbl w hw)
  have hbA : ¬ (fun q : Nat => s.heap.size ≤ q) b := Nat.not_le.mpr hbl
  have hS := X.2.2.2.2.2.2.2.1
  refine lv_aload_n hx hb dL_law_579 rfl (lv_at hl 2 rfl) ?_
  refine lv_aload_n hx hb dL_law_580 rfl (lv_at hl 3 rfl) ?_
  refine lv_iload_n hx hb dL_law_581 rfl (lv_at hl 0 rfl) ?_
  refine lv_iconst (v := 1) hx hb dL_law_582 (by decide) ?_
  refine lv_iadd hx hb dL_law_583 ?_
  refine va_sld hx hb hX hbl hbA hS (lw_vin hL hi 1 (by omega)) dL_law_584 ?_
  refine lv_aload_n hx hb dL_law_585 rfl (lv_at hl 3 rfl) ?_
  refine lv_iload_n hx hb dL_law_586 rfl (lv_at hl 0 rfl) ?_
  refine lv_iconst (v := 2) hx hb dL_law_587 (by decide) ?_
  refine lv_iadd hx hb dL_law_588 ?_
  refine va_sld hx hb hX hbl hbA hS (lw_vin hL hi 2 (by omega)) dL_law_589 ?_
  refine lv_aload_n hx hb dL_law_590 rfl (lv_at hl 3 rfl) ?_
  refine lv_iload_n hx hb dL_law_591 rfl (lv_at hl 0 rfl) ?_
  refine lv_iconst (v := 3) hx hb dL_law_592 (by decide) ?_
  refine lv_iadd hx hb dL_law_593 ?_
  refine va_sld hx hb hX hbl hbA hS (lw_vin hL hi 3 (by omega)) dL_law_594 ?_
  refine lv_aload_n hx hb dL_law_595 rfl (lv_at hl 3 rfl) ?_
  refine lv_iload_n hx hb dL_law_596 rfl (lv_at hl 0 rfl) ?_
  refine lv_iconst (v := 4) hx hb dL_law_597 (by decide) ?_
  refine lv_iadd hx hb dL_law_598 ?_
  refine va_sld hx hb hX hbl hbA hS (lw_vin hL hi 4 (by omega)) dL_law_599 ?_
  refine lw_callC [.int (xs (nI i + 1).toNatClampNeg), .int (xs (nI i + 2).toNatClampNeg), .int (xs (nI i + 3).toNatClampNeg), .int (xs (nI i + 4).toNatClampNeg)] [] hk hx hb hml hl.1 hown hts dL_law_600 mfX6_law lkL_64 miX6_law msX6_law rfl rfl rfl (by decide) X (jLaw (d := 200) (e := 200) (by omega) (by omega) hR) (fun v τ2 H1 locs1 hv X1 => ?_)
  obtain ⟨r, rfl, hm⟩ := hv
  have hS := X1.2.2.2.2.2.2.2.1
  show W p l e room_1 s m #[Value.ref b] below meth c H1 locs1 kc ks (lw_Z below #[Value.ref b] s) (F0 m 603 ls [.int r])
  refine lv_aload_n hx hb dL_law_603 rfl (lv_at hl 1 rfl) ?_
  refine lv_aload_n hx hb dL_law_604 rfl (lv_at hl 3 rfl) ?_
  refine lv_iload_n hx hb dL_law_605 rfl (lv_at hl 0 rfl) ?_
  refine lv_iconst (v := 1) hx hb dL_law_606 (by decide) ?_
  refine lv_iadd hx hb dL_law_607 ?_
  refine va_sld hx hb hX hbl hbA hS (lw_vin hL hi 1 (by omega)) dL_law_608 ?_
  refine lv_aload_n hx hb dL_law_609 rfl (lv_at hl 3 rfl) ?_
  refine lv_iload_n hx hb dL_law_610 rfl (lv_at hl 0 rfl) ?_
  refine lv_iconst (v := 2) hx hb dL_law_611 (by decide) ?_
  refine lv_iadd hx hb dL_law_612 ?_
  refine va_sld hx hb hX hbl hbA hS (lw_vin hL hi 2 (by omega)) dL_law_613 ?_
  refine lv_aload_n hx hb dL_law_614 rfl (lv_at hl 3 rfl) ?_
  refine lv_iload_n hx hb dL_law_615 rfl (lv_at hl 0 rfl) ?_
  refine lv_iconst (v := 3) hx hb dL_law_616 (by decide) ?_
  refine lv_iadd hx hb dL_law_617 ?_
  refine va_sld hx hb hX hbl hbA hS (lw_vin hL hi 3 (by omega)) dL_law_618 ?_
  refine lv_aload_n hx hb dL_law_619 rfl (lv_at hl 3 rfl) ?_
  refine lv_iload_n hx hb dL_law_620 rfl (lv_at hl 0 rfl) ?_
  refine lv_iconst (v := 4) hx hb dL_law_621 (by decide) ?_
  refine lv_iadd hx hb dL_law_622 ?_
  refine va_sld hx hb hX hbl hbA hS (lw_vin hL hi 4 (by omega)) dL_law_623 ?_
  refine lw_callM [.int (xs (nI i + 1).toNatClampNeg), .int (xs (nI i + 2).toNatClampNeg), .int (xs (nI i + 3).toNatClampNeg), .int (xs (nI i + 4).toNatClampNeg)] [.int r] hk hx hb hml hl.1 hown hts dL_law_624 mfX7_law lkL_67 miX7_law msX7_law rfl rfl rfl (Nat.le_of_ble_eq_true rfl) X1 hm (fun w σ2 H2 locs2 hw X2 => ?_)
  obtain ⟨rfl, hR2⟩ := hw
  show W p l e room_1 s m #[Value.ref b] below meth c H2 locs2 kc ks (lw_Z below #[Value.ref b] s) (F0 m 627 ls [.int r, .int r])
  exact lv_icmp_eq (tgt := 1328) hx hb dL_law_627 (by decide) (fun _ => kk τ2 σ2 H2 locs2 X2 hR2) (fun z => absurd rfl z)
set_option maxHeartbeats 2000000 in
theorem lc_gale (hL : L ≤ 3072) (hi : i + 6 ≤ L) (hk : kc ≤ 600000 ∧ ks ≤ 7302250) (C0 : lw_At p s m meth c b L xs) (hl : lv_has ls 4 [(3, .int (nI i)), (2, .ref (ad2 0)), (1, .ref (ad1 0)), (0, .ref b)]) (X : lwS s H locs D cA ad1 ad2 τ σ) (hR : R τ σ)
    (kk : ∀ τ2 σ2 H1 locs1, lwS s H1 locs1 D cA ad1 ad2 τ2 σ2 → R τ2 σ2 → W p l e room_1 s m #[Value.ref b] below meth c H1 locs1 kc ks (lw_Z below #[Value.ref b] s) (F0 m 1328 ls [])) : W p l e room_1 s m #[Value.ref b] below meth c H locs kc ks (lw_Z below #[Value.ref b] s) (F0 m 632 ls []) := by
  obtain ⟨hx, hb, hr, hml, hown, hts0, hX, hbl, hlocks, hgv⟩ := id C0
  have hts : ∀ w ∈ sk_ALL, w.before #[Value.ref b] s = true := fun w hw => hts0 w (sk_in_tbl w hw)
  have hbA : ¬ (fun q : Nat => s.heap.size ≤ q) b := Nat.not_le.mpr hbl
  have hS := X.2.2.2.2.2.2.2.1
  refine lv_aload_n hx hb dL_law_632 rfl (lv_at hl 2 rfl) ?_
  refine lv_aload_n hx hb dL_law_633 rfl (lv_at hl 3 rfl) ?_
  refine lv_iload_n hx hb dL_law_634 rfl (lv_at hl 0 rfl) ?_
  refine lv_iconst (v := 1) hx hb dL_law_635 (by decide) ?_
  refine lv_iadd hx hb dL_law_636 ?_
  refine va_sld hx hb hX hbl hbA hS (lw_vin hL hi 1 (by omega)) dL_law_637 ?_
  refine lw_callC [.int (xs (nI i + 1).toNatClampNeg)] [] hk hx hb hml hl.1 hown hts dL_law_638 mfX6_gale lkL_68 miX6_gale msX6_gale rfl rfl rfl (by decide) X (jGale (d := 200) (e := 200) (by omega) (by omega) hR) (fun v τ2 H1 locs1 hv X1 => ?_)
  obtain ⟨r, rfl, hm⟩ := hv
  have hS := X1.2.2.2.2.2.2.2.1
  show W p l e room_1 s m #[Value.ref b] below meth c H1 locs1 kc ks (lw_Z below #[Value.ref b] s) (F0 m 641 ls [.int r])
  refine lv_aload_n hx hb dL_law_641 rfl (lv_at hl 1 rfl) ?_
  refine lv_aload_n hx hb dL_law_642 rfl (lv_at hl 3 rfl) ?_
  refine lv_iload_n hx hb dL_law_643 rfl (lv_at hl 0 rfl) ?_
  refine lv_iconst (v := 1) hx hb dL_law_644 (by decide) ?_
  refine lv_iadd hx hb dL_law_645 ?_
  refine va_sld hx hb hX hbl hbA hS (lw_vin hL hi 1 (by omega)) dL_law_646 ?_
  refine lw_callM [.int (xs (nI i + 1).toNatClampNeg)] [.int r] hk hx hb hml hl.1 hown hts dL_law_647 mfX7_gale lkL_71 miX7_gale msX7_gale rfl rfl rfl (Nat.le_of_ble_eq_true rfl) X1 hm (fun w σ2 H2 locs2 hw X2 => ?_)
  obtain ⟨rfl, hR2⟩ := hw
  show W p l e room_1 s m #[Value.ref b] below meth c H2 locs2 kc ks (lw_Z below #[Value.ref b] s) (F0 m 650 ls [.int r, .int r])
  exact lv_icmp_eq (tgt := 1328) hx hb dL_law_650 (by decide) (fun _ => kk τ2 σ2 H2 locs2 X2 hR2) (fun z => absurd rfl z)
set_option maxHeartbeats 2000000 in
theorem lc_years (hL : L ≤ 3072) (hi : i + 6 ≤ L) (hk : kc ≤ 600000 ∧ ks ≤ 7302250) (C0 : lw_At p s m meth c b L xs) (hl : lv_has ls 4 [(3, .int (nI i)), (2, .ref (ad2 0)), (1, .ref (ad1 0)), (0, .ref b)]) (X : lwS s H locs D cA ad1 ad2 τ σ) (hR : R τ σ)
    (kk : ∀ τ2 σ2 H1 locs1, lwS s H1 locs1 D cA ad1 ad2 τ2 σ2 → R τ2 σ2 → W p l e room_1 s m #[Value.ref b] below meth c H1 locs1 kc ks (lw_Z below #[Value.ref b] s) (F0 m 1328 ls [])) : W p l e room_1 s m #[Value.ref b] below meth c H locs kc ks (lw_Z below #[Value.ref b] s) (F0 m 655 ls []) := by
  obtain ⟨hx, hb, hr, hml, hown, hts0, hX, hbl, hlocks, hgv⟩ := id C0
  have hts : ∀ w ∈ sk_ALL, w.before #[Value.ref b] s = true := fun w hw => hts0 w (sk_in_tbl w hw)
  have hbA : ¬ (fun q : Nat => s.heap.size ≤ q) b := Nat.not_le.mpr hbl
  have hS := X.2.2.2.2.2.2.2.1
  refine lv_aload_n hx hb dL_law_655 rfl (lv_at hl 2 rfl) ?_
  refine lv_aload_n hx hb dL_law_656 rfl (lv_at hl 3 rfl) ?_
  refine lv_iload_n hx hb dL_law_657 rfl (lv_at hl 0 rfl) ?_
  refine lv_iconst (v := 1) hx hb dL_law_658 (by decide) ?_
  refine lv_iadd hx hb dL_law_659 ?_
  refine va_sld hx hb hX hbl hbA hS (lw_vin hL hi 1 (by omega)) dL_law_660 ?_
  refine lw_callC [.int (xs (nI i + 1).toNatClampNeg)] [] hk hx hb hml hl.1 hown hts dL_law_661 mfX6_years lkL_72 miX6_years msX6_years rfl rfl rfl (by decide) X (jYears (d := 200) (e := 200) (by omega) (by omega) hR) (fun v τ2 H1 locs1 hv X1 => ?_)
  obtain ⟨r, rfl, hm⟩ := hv
  have hS := X1.2.2.2.2.2.2.2.1
  show W p l e room_1 s m #[Value.ref b] below meth c H1 locs1 kc ks (lw_Z below #[Value.ref b] s) (F0 m 664 ls [.int r])
  refine lv_aload_n hx hb dL_law_664 rfl (lv_at hl 1 rfl) ?_
  refine lv_aload_n hx hb dL_law_665 rfl (lv_at hl 3 rfl) ?_
  refine lv_iload_n hx hb dL_law_666 rfl (lv_at hl 0 rfl) ?_
  refine lv_iconst (v := 1) hx hb dL_law_667 (by decide) ?_
  refine lv_iadd hx hb dL_law_668 ?_
  refine va_sld hx hb hX hbl hbA hS (lw_vin hL hi 1 (by omega)) dL_law_669 ?_
  refine lw_callM [.int (xs (nI i + 1).toNatClampNeg)] [.int r] hk hx hb hml hl.1 hown hts dL_law_670 mfX7_years lkL_75 miX7_years msX7_years rfl rfl rfl (Nat.le_of_ble_eq_true rfl) X1 hm (fun w σ2 H2 locs2 hw X2 => ?_)
  obtain ⟨rfl, hR2⟩ := hw
  show W p l e room_1 s m #[Value.ref b] below meth c H2 locs2 kc ks (lw_Z below #[Value.ref b] s) (F0 m 673 ls [.int r, .int r])
  exact lv_icmp_eq (tgt := 1328) hx hb dL_law_673 (by decide) (fun _ => kk τ2 σ2 H2 locs2 X2 hR2) (fun z => absurd rfl z)
set_option maxHeartbeats 2000000 in
theorem lc_loose (hL : L ≤ 3072) (hi : i + 6 ≤ L) (hk : kc ≤ 600000 ∧ ks ≤ 7302250) (C0 : lw_At p s m meth c b L xs) (hl : lv_has ls 4 [(3, .int (nI i)), (2, .ref (ad2 0)), (1, .ref (ad1 0)), (0, .ref b)]) (X : lwS s H locs D cA ad1 ad2 τ σ) (hR : R τ σ)
    (kk : ∀ τ2 σ2 H1 locs1, lwS s H1 locs1 D cA ad1 ad2 τ2 σ2 → R τ2 σ2 → W p l e room_1 s m #[Value.ref b] below meth c H1 locs1 kc ks (lw_Z below #[Value.ref b] s) (F0 m 1328 ls [])) : W p l e room_1 s m #[Value.ref b] below meth c H locs kc ks (lw_Z below #[Value.ref b] s) (F0 m 678 ls []) := by
  obtain ⟨hx, hb, hr, hml, hown, hts0, hX, hbl, hlocks, hgv⟩ := id C0
  have hts : ∀ w ∈ sk_ALL, w.before #[Value.ref b] s = true := fun w hw => hts0 w (sk_in_tbl w hw)
  have hbA : ¬ (fun q : Nat => s.heap.size ≤ q) b := Nat.not_le.mpr hbl
  have hS := X.2.2.2.2.2.2.2.1
  refine lv_aload_n hx hb dL_law_678 rfl (lv_at hl 2 rfl) ?_
  refine lv_aload_n hx hb dL_law_679 rfl (lv_at hl 3 rfl) ?_
  refine lv_iload_n hx hb dL_law_680 rfl (lv_at hl 0 rfl) ?_
  refine lv_iconst (v := 1) hx hb dL_law_681 (by decide) ?_
  refine lv_iadd hx hb dL_law_682 ?_
  refine va_sld hx hb hX hbl hbA hS (lw_vin hL hi 1 (by omega)) dL_law_683 ?_
  refine lw_callC [.int (xs (nI i + 1).toNatClampNeg)] [] hk hx hb hml hl.1 hown hts dL_law_684 mfX6_loose lkL_76 miX6_loose msX6_loose rfl rfl rfl (by decide) X (jLoose (d := 200) (e := 200) (by omega) (by omega) hR) (fun v τ2 H1 locs1 hv X1 => ?_)
  obtain ⟨r, rfl, hm⟩ := hv
  have hS := X1.2.2.2.2.2.2.2.1
  show W p l e room_1 s m #[Value.ref b] below meth c H1 locs1 kc ks (lw_Z below #[Value.ref b] s) (F0 m 687 ls [.int r])
  refine lv_aload_n hx hb dL_law_687 rfl (lv_at hl 1 rfl) ?_
  refine lv_aload_n hx hb dL_law_688 rfl (lv_at hl 3 rfl) ?_
  refine lv_iload_n hx hb dL_law_689 rfl (lv_at hl 0 rfl) ?_
  refine lv_iconst (v := 1) hx hb dL_law_690 (by decide) ?_
  refine lv_iadd hx hb dL_law_691 ?_
  refine va_sld hx hb hX hbl hbA hS (lw_vin hL hi 1 (by omega)) dL_law_692 ?_
  refine lw_callM [.int (xs (nI i + 1).toNatClampNeg)] [.int r] hk hx hb hml hl.1 hown hts dL_law_693 mfX7_loose lkL_79 miX7_loose msX7_loose rfl rfl rfl (Nat.le_of_ble_eq_true rfl) X1 hm (fun w σ2 H2 locs2 hw X2 => ?_)
  obtain ⟨rfl, hR2⟩ := hw
  show W p l e room_1 s m #[Value.ref b] below meth c H2 locs2 kc ks (lw_Z below #[Value.ref b] s) (F0 m 696 ls [.int r, .int r])
  exact lv_icmp_eq (tgt := 1328) hx hb dL_law_696 (by decide) (fun _ => kk τ2 σ2 H2 locs2 X2 hR2) (fun z => absurd rfl z)
set_option maxHeartbeats 2000000 in
theorem lc_seed (hL : L ≤ 3072) (hi : i + 6 ≤ L) (hk : kc ≤ 600000 ∧ ks ≤ 7302250) (C0 : lw_At p s m meth c b L xs) (hl : lv_has ls 4 [(3, .int (nI i)), (2, .ref (ad2 0)), (1, .ref (ad1 0)), (0, .ref b)]) (X : lwS s H locs D cA ad1 ad2 τ σ) (hR : R τ σ)
    (kk : ∀ τ2 σ2 H1 locs1, lwS s H1 locs1 D cA ad1 ad2 τ2 σ2 → R τ2 σ2 → W p l e room_1 s m #[Value.ref b] below meth c H1 locs1 kc ks (lw_Z below #[Value.ref b] s) (F0 m 1328 ls [])) : W p l e room_1 s m #[Value.ref b] below meth c H locs kc ks (lw_Z below #[Value.ref b] s) (F0 m 701 ls []) := by
  obtain ⟨hx, hb, hr, hml, hown, hts0, hX, hbl, hlocks, hgv⟩ := id C0
  have hts : ∀ w ∈ sk_ALL, w.before #[Value.ref b] s = true := fun w hw => hts0 w (sk_in_tbl w hw)
  have hbA : ¬ (fun q : Nat => s.heap.size ≤ q) b := Nat.not_le.mpr hbl
  have hS := X.2.2.2.2.2.2.2.1
  refine lv_aload_n hx hb dL_law_701 rfl (lv_at hl 2 rfl) ?_
  refine lv_aload_n hx hb dL_law_702 rfl (lv_at hl 3 rfl) ?_
  refine lv_iload_n hx hb dL_law_703 rfl (lv_at hl 0 rfl) ?_
  refine lv_iconst (v := 1) hx hb dL_law_704 (by decide) ?_
  refine lv_iadd hx hb dL_law_705 ?_
  refine va_sld hx hb hX hbl hbA hS (lw_vin hL hi 1 (by omega)) dL_law_706 ?_
  refine lw_callC [.int (xs (nI i + 1).toNatClampNeg)] [] hk hx hb hml hl.1 hown hts dL_law_707 mfX6_seed lkL_80 miX6_seed msX6_seed rfl rfl rfl (by decide) X (jSeed (d := 200) (e := 200) (by omega) (by omega) hR) (fun v τ2 H1 locs1 hv X1 => ?_)
  obtain ⟨r, rfl, hm⟩ := hv
  have hS := X1.2.2.2.2.2.2.2.1
  show W p l e room_1 s m #[Value.ref b] below meth c H1 locs1 kc ks (lw_Z below #[Value.ref b] s) (F0 m 710 ls [.int r])
  refine lv_aload_n hx hb dL_law_710 rfl (lv_at hl 1 rfl) ?_
  refine lv_aload_n hx hb dL_law_711 rfl (lv_at hl 3 rfl) ?_
  refine lv_iload_n hx hb dL_law_712 rfl (lv_at hl 0 rfl) ?_
  refine lv_iconst (v := 1) hx hb dL_law_713 (by decide) ?_
  refine lv_iadd hx hb dL_law_714 ?_
  refine va_sld hx hb hX hbl hbA hS (lw_vin hL hi 1 (by omega)) dL_law_715 ?_
  refine lw_callM [.int (xs (nI i + 1).toNatClampNeg)] [.int r] hk hx hb hml hl.1 hown hts dL_law_716 mfX7_seed lkL_83 miX7_seed msX7_seed rfl rfl rfl (Nat.le_of_ble_eq_true rfl) X1 hm (fun w σ2 H2 locs2 hw X2 => ?_)
  obtain ⟨rfl, hR2⟩ := hw
  show W p l e room_1 s m #[Value.ref b] below meth c H2 locs2 kc ks (lw_Z below #[Value.ref b] s) (F0 m 719 ls [.int r, .int r])
  exact lv_icmp_eq (tgt := 1328) hx hb dL_law_719 (by decide) (fun _ => kk τ2 σ2 H2 locs2 X2 hR2) (fun z => absurd rfl z)
set_option maxHeartbeats 2000000 in
theorem lc_dry (hL : L ≤ 3072) (hi : i + 6 ≤ L) (hk : kc ≤ 600000 ∧ ks ≤ 7302250) (C0 : lw_At p s m meth c b L xs) (hl : lv_has ls 4 [(3, .int (nI i)), (2, .ref (ad2 0)), (1, .ref (ad1 0)), (0, .ref b)]) (X : lwS s H locs D cA ad1 ad2 τ σ) (hR : R τ σ)
    (kk : ∀ τ2 σ2 H1 locs1, lwS s H1 locs1 D cA ad1 ad2 τ2 σ2 → R τ2 σ2 → W p l e room_1 s m #[Value.ref b] below meth c H1 locs1 kc ks (lw_Z below #[Value.ref b] s) (F0 m 1328 ls [])) : W p l e room_1 s m #[Value.ref b] below meth c H locs kc ks (lw_Z below #[Value.ref b] s) (F0 m 724 ls []) := by
  obtain ⟨hx, hb, hr, hml, hown, hts0, hX, hbl, hlocks, hgv⟩ := id C0
  have hts : ∀ w ∈ sk_ALL, w.before #[Value.ref b] s = true := fun w hw => hts0 w (sk_in_tbl w hw)
  have hbA : ¬ (fun q : Nat => s.heap.size ≤ q) b := Nat.not_le.mpr hbl
  have hS := X.2.2.2.2.2.2.2.1
  refine lv_aload_n hx hb dL_law_724 rfl (lv_at hl 2 rfl) ?_
  refine lv_aload_n hx hb dL_law_725 rfl (lv_at hl 3 rfl) ?_
  refine lv_iload_n hx hb dL_law_726 rfl (lv_at hl 0 rfl) ?_
  refine lv_iconst (v := 1) hx hb dL_law_727 (by decide) ?_
  refine lv_iadd hx hb dL_law_728 ?_
  refine va_sld hx hb hX hbl hbA hS (lw_vin hL hi 1 (by omega)) dL_law_729 ?_
  refine lw_callC [.int (xs (nI i + 1).toNatClampNeg)] [] hk hx hb hml hl.1 hown hts dL_law_730 mfX6_dry lkL_84 miX6_dry msX6_dry rfl rfl rfl (by decide) X (jDry (d := 200) (e := 200) (by omega) (by omega) hR) (fun v τ2 H1 locs1 hv X1 => ?_)
  obtain ⟨r, rfl, hm⟩ := hv
  have hS := X1.2.2.2.2.2.2.2.1
  show W p l e room_1 s m #[Value.ref b] below meth c H1 locs1 kc ks (lw_Z below #[Value.ref b] s) (F0 m 733 ls [.long r])
  refine lv_aload_n hx hb dL_law_733 rfl (lv_at hl 1 rfl) ?_
  refine lv_aload_n hx hb dL_law_734 rfl (lv_at hl 3 rfl) ?_
  refine lv_iload_n hx hb dL_law_735 rfl (lv_at hl 0 rfl) ?_
  refine lv_iconst (v := 1) hx hb dL_law_736 (by decide) ?_
  refine lv_iadd hx hb dL_law_737 ?_
  refine va_sld hx hb hX hbl hbA hS (lw_vin hL hi 1 (by omega)) dL_law_738 ?_
  refine lw_callM [.int (xs (nI i + 1).toNatClampNeg)] [.long r] hk hx hb hml hl.1 hown hts dL_law_739 mfX7_dry lkL_88 miX7_dry msX7_dry rfl rfl rfl (Nat.le_of_ble_eq_true rfl) X1 hm (fun w σ2 H2 locs2 hw X2 => ?_)
  obtain ⟨rfl, hR2⟩ := hw
  show W p l e room_1 s m #[Value.ref b] below meth c H2 locs2 kc ks (lw_Z below #[Value.ref b] s) (F0 m 742 ls [.long r, .long r])
  refine W.lcmp hx hb dL_law_742 ?_
  exact lv_if_eq (tgt := 1328) hx hb dL_law_743 (by decide) (fun _ => kk τ2 σ2 H2 locs2 X2 hR2) (fun z => absurd (lc_e.mpr rfl) z)
set_option maxHeartbeats 2000000 in
theorem lc_over (hL : L ≤ 3072) (hi : i + 6 ≤ L) (hk : kc ≤ 600000 ∧ ks ≤ 7302250) (C0 : lw_At p s m meth c b L xs) (hl : lv_has ls 4 [(3, .int (nI i)), (2, .ref (ad2 0)), (1, .ref (ad1 0)), (0, .ref b)]) (X : lwS s H locs D cA ad1 ad2 τ σ) (hR : R τ σ)
    (kk : ∀ τ2 σ2 H1 locs1, lwS s H1 locs1 D cA ad1 ad2 τ2 σ2 → R τ2 σ2 → W p l e room_1 s m #[Value.ref b] below meth c H1 locs1 kc ks (lw_Z below #[Value.ref b] s) (F0 m 1328 ls [])) : W p l e room_1 s m #[Value.ref b] below meth c H locs kc ks (lw_Z below #[Value.ref b] s) (F0 m 748 ls []) := by
  obtain ⟨hx, hb, hr, hml, hown, hts0, hX, hbl, hlocks, hgv⟩ := id C0
  have hts : ∀ w ∈ sk_ALL, w.before #[Value.ref b] s = true := fun w hw => hts0 w (sk_in_tbl w hw)
  have hbA : ¬ (fun q : Nat => s.heap.size ≤ q) b := Nat.not_le.mpr hbl
  have hS := X.2.2.2.2.2.2.2.1
  refine lv_aload_n hx hb dL_law_748 rfl (lv_at hl 2 rfl) ?_
  refine lv_aload_n hx hb dL_law_749 rfl (lv_at hl 3 rfl) ?_
  refine lv_iload_n hx hb dL_law_750 rfl (lv_at hl 0 rfl) ?_
  refine lv_iconst (v := 1) hx hb dL_law_751 (by decide) ?_
  refine lv_iadd hx hb dL_law_752 ?_
  refine va_sld hx hb hX hbl hbA hS (lw_vin hL hi 1 (by omega)) dL_law_753 ?_
  refine lv_aload_n hx hb dL_law_754 rfl (lv_at hl 3 rfl) ?_
  refine lv_iload_n hx hb dL_law_755 rfl (lv_at hl 0 rfl) ?_
  refine lv_iconst (v := 2) hx hb dL_law_756 (by decide) ?_
  refine lv_iadd hx hb dL_law_757 ?_
  refine va_sld hx hb hX hbl hbA hS (lw_vin hL hi 2 (by omega)) dL_law_758 ?_
  refine lw_callC [.int (xs (nI i + 1).toNatClampNeg), .int (xs (nI i + 2).toNatClampNeg)] [] hk hx hb hml hl.1 hown hts dL_law_759 mfX6_over lkL_89 miX6_over msX6_over rfl rfl rfl (by decide) X (jOver (d := 200) (e := 200) (by omega) (by omega) hR) (fun v τ2 H1 locs1 hv X1 => ?_)
  obtain ⟨r, rfl, hm⟩ := hv
  have hS := X1.2.2.2.2.2.2.2.1
  show W p l e room_1 s m #[Value.ref b] below meth c H1 locs1 kc ks (lw_Z below #[Value.ref b] s) (F0 m 762 ls [.int r])
  refine lv_aload_n hx hb dL_law_762 rfl (lv_at hl 1 rfl) ?_
  refine lv_aload_n hx hb dL_law_763 rfl (lv_at hl 3 rfl) ?_
  refine lv_iload_n hx hb dL_law_764 rfl (lv_at hl 0 rfl) ?_
  refine lv_iconst (v := 1) hx hb dL_law_765 (by decide) ?_
  refine lv_iadd hx hb dL_law_766 ?_
  refine va_sld hx hb hX hbl hbA hS (lw_vin hL hi 1 (by omega)) dL_law_767 ?_
  refine lv_aload_n hx hb dL_law_768 rfl (lv_at hl 3 rfl) ?_
  refine lv_iload_n hx hb dL_law_769 rfl (lv_at hl 0 rfl) ?_
  refine lv_iconst (v := 2) hx hb dL_law_770 (by decide) ?_
  refine lv_iadd hx hb dL_law_771 ?_
  refine va_sld hx hb hX hbl hbA hS (lw_vin hL hi 2 (by omega)) dL_law_772 ?_
  refine lw_callM [.int (xs (nI i + 1).toNatClampNeg), .int (xs (nI i + 2).toNatClampNeg)] [.int r] hk hx hb hml hl.1 hown hts dL_law_773 mfX7_over lkL_92 miX7_over msX7_over rfl rfl rfl (Nat.le_of_ble_eq_true rfl) X1 hm (fun w σ2 H2 locs2 hw X2 => ?_)
  obtain ⟨rfl, hR2⟩ := hw
  show W p l e room_1 s m #[Value.ref b] below meth c H2 locs2 kc ks (lw_Z below #[Value.ref b] s) (F0 m 776 ls [.int r, .int r])
  exact lv_icmp_eq (tgt := 1328) hx hb dL_law_776 (by decide) (fun _ => kk τ2 σ2 H2 locs2 X2 hR2) (fun z => absurd rfl z)
set_option maxHeartbeats 2000000 in
theorem lc_lifts (hL : L ≤ 3072) (hi : i + 6 ≤ L) (hk : kc ≤ 600000 ∧ ks ≤ 7302250) (C0 : lw_At p s m meth c b L xs) (hl : lv_has ls 4 [(3, .int (nI i)), (2, .ref (ad2 0)), (1, .ref (ad1 0)), (0, .ref b)]) (X : lwS s H locs D cA ad1 ad2 τ σ) (hR : R τ σ)
    (kk : ∀ τ2 σ2 H1 locs1, lwS s H1 locs1 D cA ad1 ad2 τ2 σ2 → R τ2 σ2 → W p l e room_1 s m #[Value.ref b] below meth c H1 locs1 kc ks (lw_Z below #[Value.ref b] s) (F0 m 1328 ls [])) : W p l e room_1 s m #[Value.ref b] below meth c H locs kc ks (lw_Z below #[Value.ref b] s) (F0 m 781 ls []) := by
  obtain ⟨hx, hb, hr, hml, hown, hts0, hX, hbl, hlocks, hgv⟩ := id C0
  have hts : ∀ w ∈ sk_ALL, w.before #[Value.ref b] s = true := fun w hw => hts0 w (sk_in_tbl w hw)
  have hbA : ¬ (fun q : Nat => s.heap.size ≤ q) b := Nat.not_le.mpr hbl
  have hS := X.2.2.2.2.2.2.2.1
  refine lv_aload_n hx hb dL_law_781 rfl (lv_at hl 2 rfl) ?_
  refine lv_aload_n hx hb dL_law_782 rfl (lv_at hl 3 rfl) ?_
  refine lv_iload_n hx hb dL_law_783 rfl (lv_at hl 0 rfl) ?_
  refine lv_iconst (v := 1) hx hb dL_law_784 (by decide) ?_
  refine lv_iadd hx hb dL_law_785 ?_
  refine va_sld hx hb hX hbl hbA hS (lw_vin hL hi 1 (by omega)) dL_law_786 ?_
  refine lv_aload_n hx hb dL_law_787 rfl (lv_at hl 3 rfl) ?_
  refine lv_iload_n hx hb dL_law_788 rfl (lv_at hl 0 rfl) ?_
  refine lv_iconst (v := 2) hx hb dL_law_789 (by decide) ?_
  refine lv_iadd hx hb dL_law_790 ?_
  refine va_sld hx hb hX hbl hbA hS (lw_vin hL hi 2 (by omega)) dL_law_791 ?_
  refine lw_callC [.int (xs (nI i + 1).toNatClampNeg), .int (xs (nI i + 2).toNatClampNeg)] [] hk hx hb hml hl.1 hown hts dL_law_792 mfX6_lifts lkL_93 miX6_lifts msX6_lifts rfl rfl rfl (by decide) X (jLifts (d := 200) (e := 200) (by omega) (by omega) hR) (fun v τ2 H1 locs1 hv X1 => ?_)
  obtain ⟨r, rfl, hm⟩ := hv
  have hS := X1.2.2.2.2.2.2.2.1
  show W p l e room_1 s m #[Value.ref b] below meth c H1 locs1 kc ks (lw_Z below #[Value.ref b] s) (F0 m 795 ls [.int r])
  refine lv_aload_n hx hb dL_law_795 rfl (lv_at hl 1 rfl) ?_
  refine lv_aload_n hx hb dL_law_796 rfl (lv_at hl 3 rfl) ?_
  refine lv_iload_n hx hb dL_law_797 rfl (lv_at hl 0 rfl) ?_
  refine lv_iconst (v := 1) hx hb dL_law_798 (by decide) ?_
  refine lv_iadd hx hb dL_law_799 ?_
  refine va_sld hx hb hX hbl hbA hS (lw_vin hL hi 1 (by omega)) dL_law_800 ?_
  refine lv_aload_n hx hb dL_law_801 rfl (lv_at hl 3 rfl) ?_
  refine lv_iload_n hx hb dL_law_802 rfl (lv_at hl 0 rfl) ?_
  refine lv_iconst (v := 2) hx hb dL_law_803 (by decide) ?_
  refine lv_iadd hx hb dL_law_804 ?_
  refine va_sld hx hb hX hbl hbA hS (lw_vin hL hi 2 (by omega)) dL_law_805 ?_
  refine lw_callM [.int (xs (nI i + 1).toNatClampNeg), .int (xs (nI i + 2).toNatClampNeg)] [.int r] hk hx hb hml hl.1 hown hts dL_law_806 mfX7_lifts lkL_96 miX7_lifts msX7_lifts rfl rfl rfl (Nat.le_of_ble_eq_true rfl) X1 hm (fun w σ2 H2 locs2 hw X2 => ?_)
  obtain ⟨rfl, hR2⟩ := hw
  show W p l e room_1 s m #[Value.ref b] below meth c H2 locs2 kc ks (lw_Z below #[Value.ref b] s) (F0 m 809 ls [.int r, .int r])
  exact lv_icmp_eq (tgt := 1328) hx hb dL_law_809 (by decide) (fun _ => kk τ2 σ2 H2 locs2 X2 hR2) (fun z => absurd rfl z)
set_option maxHeartbeats 2000000 in
theorem lc_fast (hL : L ≤ 3072) (hi : i + 6 ≤ L) (hk : kc ≤ 600000 ∧ ks ≤ 7302250) (C0 : lw_At p s m meth c b L xs) (hl : lv_has ls 4 [(3, .int (nI i)), (2, .ref (ad2 0)), (1, .ref (ad1 0)), (0, .ref b)]) (X : lwS s H locs D cA ad1 ad2 τ σ) (hR : R τ σ)
    (kk : ∀ τ2 σ2 H1 locs1, lwS s H1 locs1 D cA ad1 ad2 τ2 σ2 → R τ2 σ2 → W p l e room_1 s m #[Value.ref b] below meth c H1 locs1 kc ks (lw_Z below #[Value.ref b] s) (F0 m 1328 ls [])) : W p l e room_1 s m #[Value.ref b] below meth c H locs kc ks (lw_Z below #[Value.ref b] s) (F0 m 814 ls []) := by
  obtain ⟨hx, hb, hr, hml, hown, hts0, hX, hbl, hlocks, hgv⟩ := id C0
  have hts : ∀ w ∈ sk_ALL, w.before #[Value.ref b] s = true := fun w hw => hts0 w (sk_in_tbl w hw)
  have hbA : ¬ (fun q : Nat => s.heap.size ≤ q) b := Nat.not_le.mpr hbl
  have hS := X.2.2.2.2.2.2.2.1
  refine lv_aload_n hx hb dL_law_814 rfl (lv_at hl 2 rfl) ?_
  refine lv_aload_n hx hb dL_law_815 rfl (lv_at hl 3 rfl) ?_
  refine lv_iload_n hx hb dL_law_816 rfl (lv_at hl 0 rfl) ?_
  refine lv_iconst (v := 1) hx hb dL_law_817 (by decide) ?_
  refine lv_iadd hx hb dL_law_818 ?_
  refine va_sld hx hb hX hbl hbA hS (lw_vin hL hi 1 (by omega)) dL_law_819 ?_
  refine lv_aload_n hx hb dL_law_820 rfl (lv_at hl 3 rfl) ?_
  refine lv_iload_n hx hb dL_law_821 rfl (lv_at hl 0 rfl) ?_
  refine lv_iconst (v := 2) hx hb dL_law_822 (by decide) ?_
  refine lv_iadd hx hb dL_law_823 ?_
  refine va_sld hx hb hX hbl hbA hS (lw_vin hL hi 2 (by omega)) dL_law_824 ?_
  refine lw_callC [.int (xs (nI i + 1).toNatClampNeg), .int (xs (nI i + 2).toNatClampNeg)] [] hk hx hb hml hl.1 hown hts dL_law_825 mfX6_fast lkL_97 miX6_fast msX6_fast rfl rfl rfl (by decide) X (jFast (d := 200) (e := 200) (by omega) (by omega) hR) (fun v τ2 H1 locs1 hv X1 => ?_)
  obtain ⟨r, rfl, hm⟩ := hv
  have hS := X1.2.2.2.2.2.2.2.1
  show W p l e room_1 s m #[Value.ref b] below meth c H1 locs1 kc ks (lw_Z below #[Value.ref b] s) (F0 m 828 ls [.int r])
  refine lv_aload_n hx hb dL_law_828 rfl (lv_at hl 1 rfl) ?_
  refine lv_aload_n hx hb dL_law_829 rfl (lv_at hl 3 rfl) ?_
  refine lv_iload_n hx hb dL_law_830 rfl (lv_at hl 0 rfl) ?_
  refine lv_iconst (v := 1) hx hb dL_law_831 (by decide) ?_
  refine lv_iadd hx hb dL_law_832 ?_
  refine va_sld hx hb hX hbl hbA hS (lw_vin hL hi 1 (by omega)) dL_law_833 ?_
  refine lv_aload_n hx hb dL_law_834 rfl (lv_at hl 3 rfl) ?_
  refine lv_iload_n hx hb dL_law_835 rfl (lv_at hl 0 rfl) ?_
  refine lv_iconst (v := 2) hx hb dL_law_836 (by decide) ?_
  refine lv_iadd hx hb dL_law_837 ?_
  refine va_sld hx hb hX hbl hbA hS (lw_vin hL hi 2 (by omega)) dL_law_838 ?_
  refine lw_callM [.int (xs (nI i + 1).toNatClampNeg), .int (xs (nI i + 2).toNatClampNeg)] [.int r] hk hx hb hml hl.1 hown hts dL_law_839 mfX7_fast lkL_100 miX7_fast msX7_fast rfl rfl rfl (Nat.le_of_ble_eq_true rfl) X1 hm (fun w σ2 H2 locs2 hw X2 => ?_)
  obtain ⟨rfl, hR2⟩ := hw
  show W p l e room_1 s m #[Value.ref b] below meth c H2 locs2 kc ks (lw_Z below #[Value.ref b] s) (F0 m 842 ls [.int r, .int r])
  exact lv_icmp_eq (tgt := 1328) hx hb dL_law_842 (by decide) (fun _ => kk τ2 σ2 H2 locs2 X2 hR2) (fun z => absurd rfl z)
set_option maxHeartbeats 2000000 in
theorem lc_best (hL : L ≤ 3072) (hi : i + 6 ≤ L) (hk : kc ≤ 600000 ∧ ks ≤ 7302250) (C0 : lw_At p s m meth c b L xs) (hl : lv_has ls 4 [(3, .int (nI i)), (2, .ref (ad2 0)), (1, .ref (ad1 0)), (0, .ref b)]) (X : lwS s H locs D cA ad1 ad2 τ σ) (hR : R τ σ)
    (kk : ∀ τ2 σ2 H1 locs1, lwS s H1 locs1 D cA ad1 ad2 τ2 σ2 → R τ2 σ2 → W p l e room_1 s m #[Value.ref b] below meth c H1 locs1 kc ks (lw_Z below #[Value.ref b] s) (F0 m 1328 ls [])) : W p l e room_1 s m #[Value.ref b] below meth c H locs kc ks (lw_Z below #[Value.ref b] s) (F0 m 847 ls []) := by
  obtain ⟨hx, hb, hr, hml, hown, hts0, hX, hbl, hlocks, hgv⟩ := id C0
  have hts : ∀ w ∈ sk_ALL, w.before #[Value.ref b] s = true := fun w hw => hts0 w (sk_in_tbl w hw)
  have hbA : ¬ (fun q : Nat => s.heap.size ≤ q) b := Nat.not_le.mpr hbl
  have hS := X.2.2.2.2.2.2.2.1
  refine lv_aload_n hx hb dL_law_847 rfl (lv_at hl 2 rfl) ?_
  refine lv_aload_n hx hb dL_law_848 rfl (lv_at hl 3 rfl) ?_
  refine lv_iload_n hx hb dL_law_849 rfl (lv_at hl 0 rfl) ?_
  refine lv_iconst (v := 1) hx hb dL_law_850 (by decide) ?_
  refine lv_iadd hx hb dL_law_851 ?_
  refine va_sld hx hb hX hbl hbA hS (lw_vin hL hi 1 (by omega)) dL_law_852 ?_
  refine lv_aload_n hx hb dL_law_853 rfl (lv_at hl 3 rfl) ?_
  refine lv_iload_n hx hb dL_law_854 rfl (lv_at hl 0 rfl) ?_
  refine lv_iconst (v := 2) hx hb dL_law_855 (by decide) ?_
  refine lv_iadd hx hb dL_law_856 ?_
  refine va_sld hx hb hX hbl hbA hS (lw_vin hL hi 2 (by omega)) dL_law_857 ?_
  refine lw_callC [.int (xs (nI i + 1).toNatClampNeg), .int (xs (nI i + 2).toNatClampNeg)] [] hk hx hb hml hl.1 hown hts dL_law_858 mfX6_best lkL_101 miX6_best msX6_best rfl rfl rfl (by decide) X (jBest (d := 200) (e := 200) (by omega) (by omega) hR) (fun v τ2 H1 locs1 hv X1 => ?_)
  obtain ⟨r, rfl, hm⟩ := hv
  have hS := X1.2.2.2.2.2.2.2.1
  show W p l e room_1 s m #[Value.ref b] below meth c H1 locs1 kc ks (lw_Z below #[Value.ref b] s) (F0 m 861 ls [.int r])
  refine lv_aload_n hx hb dL_law_861 rfl (lv_at hl 1 rfl) ?_
  refine lv_aload_n hx hb dL_law_862 rfl (lv_at hl 3 rfl) ?_
  refine lv_iload_n hx hb dL_law_863 rfl (lv_at hl 0 rfl) ?_
  refine lv_iconst (v := 1) hx hb dL_law_864 (by decide) ?_
  refine lv_iadd hx hb dL_law_865 ?_
  refine va_sld hx hb hX hbl hbA hS (lw_vin hL hi 1 (by omega)) dL_law_866 ?_
  refine lv_aload_n hx hb dL_law_867 rfl (lv_at hl 3 rfl) ?_
  refine lv_iload_n hx hb dL_law_868 rfl (lv_at hl 0 rfl) ?_
  refine lv_iconst (v := 2) hx hb dL_law_869 (by decide) ?_
  refine lv_iadd hx hb dL_law_870 ?_
  refine va_sld hx hb hX hbl hbA hS (lw_vin hL hi 2 (by omega)) dL_law_871 ?_
  refine lw_callM [.int (xs (nI i + 1).toNatClampNeg), .int (xs (nI i + 2).toNatClampNeg)] [.int r] hk hx hb hml hl.1 hown hts dL_law_872 mfX7_best lkL_104 miX7_best msX7_best rfl rfl rfl (Nat.le_of_ble_eq_true rfl) X1 hm (fun w σ2 H2 locs2 hw X2 => ?_)
  obtain ⟨rfl, hR2⟩ := hw
  show W p l e room_1 s m #[Value.ref b] below meth c H2 locs2 kc ks (lw_Z below #[Value.ref b] s) (F0 m 875 ls [.int r, .int r])
  exact lv_icmp_eq (tgt := 1328) hx hb dL_law_875 (by decide) (fun _ => kk τ2 σ2 H2 locs2 X2 hR2) (fun z => absurd rfl z)
set_option maxHeartbeats 2000000 in
theorem lc_rings (hL : L ≤ 3072) (hi : i + 6 ≤ L) (hk : kc ≤ 600000 ∧ ks ≤ 7302250) (C0 : lw_At p s m meth c b L xs) (hl : lv_has ls 4 [(3, .int (nI i)), (2, .ref (ad2 0)), (1, .ref (ad1 0)), (0, .ref b)]) (X : lwS s H locs D cA ad1 ad2 τ σ) (hR : R τ σ)
    (kk : ∀ τ2 σ2 H1 locs1, lwS s H1 locs1 D cA ad1 ad2 τ2 σ2 → R τ2 σ2 → W p l e room_1 s m #[Value.ref b] below meth c H1 locs1 kc ks (lw_Z below #[Value.ref b] s) (F0 m 1328 ls [])) : W p l e room_1 s m #[Value.ref b] below meth c H locs kc ks (lw_Z below #[Value.ref b] s) (F0 m 880 ls []) := by
  obtain ⟨hx, hb, hr, hml, hown, hts0, hX, hbl, hlocks, hgv⟩ := id C0
  have hts : ∀ w ∈ sk_ALL, w.before #[Value.ref b] s = true := fun w hw => hts0 w (sk_in_tbl w hw)
  have hbA : ¬ (fun q : Nat => s.heap.size ≤ q) b := Nat.not_le.mpr hbl
  have hS := X.2.2.2.2.2.2.2.1
  refine lv_aload_n hx hb dL_law_880 rfl (lv_at hl 2 rfl) ?_
  refine lw_callC [] [] hk hx hb hml hl.1 hown hts dL_law_881 mfX6_rings lkL_105 miX6_rings msX6_rings rfl rfl rfl (by decide) X (jRings (d := 200) (e := 200) (by omega) (by omega) hR) (fun v τ2 H1 locs1 hv X1 => ?_)
  obtain ⟨r, rfl, hm⟩ := hv
  have hS := X1.2.2.2.2.2.2.2.1
  show W p l e room_1 s m #[Value.ref b] below meth c H1 locs1 kc ks (lw_Z below #[Value.ref b] s) (F0 m 884 ls [.int r])
  refine lv_aload_n hx hb dL_law_884 rfl (lv_at hl 1 rfl) ?_
  refine lw_callM [] [.int r] hk hx hb hml hl.1 hown hts dL_law_885 mfX7_rings lkL_109 miX7_rings msX7_rings rfl rfl rfl (Nat.le_of_ble_eq_true rfl) X1 hm (fun w σ2 H2 locs2 hw X2 => ?_)
  obtain ⟨rfl, hR2⟩ := hw
  show W p l e room_1 s m #[Value.ref b] below meth c H2 locs2 kc ks (lw_Z below #[Value.ref b] s) (F0 m 888 ls [.int r, .int r])
  exact lv_icmp_eq (tgt := 1328) hx hb dL_law_888 (by decide) (fun _ => kk τ2 σ2 H2 locs2 X2 hR2) (fun z => absurd rfl z)
set_option maxHeartbeats 2000000 in
theorem lc_odds (hL : L ≤ 3072) (hi : i + 6 ≤ L) (hk : kc ≤ 600000 ∧ ks ≤ 7302250) (C0 : lw_At p s m meth c b L xs) (hl : lv_has ls 4 [(3, .int (nI i)), (2, .ref (ad2 0)), (1, .ref (ad1 0)), (0, .ref b)]) (X : lwS s H locs D cA ad1 ad2 τ σ) (hR : R τ σ)
    (kk : ∀ τ2 σ2 H1 locs1, lwS s H1 locs1 D cA ad1 ad2 τ2 σ2 → R τ2 σ2 → W p l e room_1 s m #[Value.ref b] below meth c H1 locs1 kc ks (lw_Z below #[Value.ref b] s) (F0 m 1328 ls [])) : W p l e room_1 s m #[Value.ref b] below meth c H locs kc ks (lw_Z below #[Value.ref b] s) (F0 m 893 ls []) := by
  obtain ⟨hx, hb, hr, hml, hown, hts0, hX, hbl, hlocks, hgv⟩ := id C0
  have hts : ∀ w ∈ sk_ALL, w.before #[Value.ref b] s = true := fun w hw => hts0 w (sk_in_tbl w hw)
  have hbA : ¬ (fun q : Nat => s.heap.size ≤ q) b := Nat.not_le.mpr hbl
  have hS := X.2.2.2.2.2.2.2.1
  refine lv_aload_n hx hb dL_law_893 rfl (lv_at hl 2 rfl) ?_
  refine lv_aload_n hx hb dL_law_894 rfl (lv_at hl 3 rfl) ?_
  refine lv_iload_n hx hb dL_law_895 rfl (lv_at hl 0 rfl) ?_
  refine lv_iconst (v := 1) hx hb dL_law_896 (by decide) ?_
  refine lv_iadd hx hb dL_law_897 ?_
  refine va_sld hx hb hX hbl hbA hS (lw_vin hL hi 1 (by omega)) dL_law_898 ?_
  refine lv_aload_n hx hb dL_law_899 rfl (lv_at hl 3 rfl) ?_
  refine lv_iload_n hx hb dL_law_900 rfl (lv_at hl 0 rfl) ?_
  refine lv_iconst (v := 2) hx hb dL_law_901 (by decide) ?_
  refine lv_iadd hx hb dL_law_902 ?_
  refine va_sld hx hb hX hbl hbA hS (lw_vin hL hi 2 (by omega)) dL_law_903 ?_
  refine lw_callC [.int (xs (nI i + 1).toNatClampNeg), .int (xs (nI i + 2).toNatClampNeg)] [] hk hx hb hml hl.1 hown hts dL_law_904 mfX6_odds lkL_110 miX6_odds msX6_odds rfl rfl rfl (by decide) X (jOdds (d := 200) (e := 200) (by omega) (by omega) hR) (fun v τ2 H1 locs1 hv X1 => ?_)
  obtain ⟨r, rfl, hm⟩ := hv
  have hS := X1.2.2.2.2.2.2.2.1
  show W p l e room_1 s m #[Value.ref b] below meth c H1 locs1 kc ks (lw_Z below #[Value.ref b] s) (F0 m 907 ls [.int r])
  refine lv_aload_n hx hb dL_law_907 rfl (lv_at hl 1 rfl) ?_
  refine lv_aload_n hx hb dL_law_908 rfl (lv_at hl 3 rfl) ?_
  refine lv_iload_n hx hb dL_law_909 rfl (lv_at hl 0 rfl) ?_
  refine lv_iconst (v := 1) hx hb dL_law_910 (by decide) ?_
  refine lv_iadd hx hb dL_law_911 ?_
  refine va_sld hx hb hX hbl hbA hS (lw_vin hL hi 1 (by omega)) dL_law_912 ?_
  refine lv_aload_n hx hb dL_law_913 rfl (lv_at hl 3 rfl) ?_
  refine lv_iload_n hx hb dL_law_914 rfl (lv_at hl 0 rfl) ?_
  refine lv_iconst (v := 2) hx hb dL_law_915 (by decide) ?_
  refine lv_iadd hx hb dL_law_916 ?_
  refine va_sld hx hb hX hbl hbA hS (lw_vin hL hi 2 (by omega)) dL_law_917 ?_
  refine lw_callM [.int (xs (nI i + 1).toNatClampNeg), .int (xs (nI i + 2).toNatClampNeg)] [.int r] hk hx hb hml hl.1 hown hts dL_law_918 mfX7_odds lkL_113 miX7_odds msX7_odds rfl rfl rfl (Nat.le_of_ble_eq_true rfl) X1 hm (fun w σ2 H2 locs2 hw X2 => ?_)
  obtain ⟨rfl, hR2⟩ := hw
  show W p l e room_1 s m #[Value.ref b] below meth c H2 locs2 kc ks (lw_Z below #[Value.ref b] s) (F0 m 921 ls [.int r, .int r])
  exact lv_icmp_eq (tgt := 1328) hx hb dL_law_921 (by decide) (fun _ => kk τ2 σ2 H2 locs2 X2 hR2) (fun z => absurd rfl z)
set_option maxHeartbeats 2000000 in
theorem lc_fits (hL : L ≤ 3072) (hi : i + 6 ≤ L) (hk : kc ≤ 600000 ∧ ks ≤ 7302250) (C0 : lw_At p s m meth c b L xs) (hl : lv_has ls 4 [(3, .int (nI i)), (2, .ref (ad2 0)), (1, .ref (ad1 0)), (0, .ref b)]) (X : lwS s H locs D cA ad1 ad2 τ σ) (hR : R τ σ)
    (kk : ∀ τ2 σ2 H1 locs1, lwS s H1 locs1 D cA ad1 ad2 τ2 σ2 → R τ2 σ2 → W p l e room_1 s m #[Value.ref b] below meth c H1 locs1 kc ks (lw_Z below #[Value.ref b] s) (F0 m 1328 ls [])) : W p l e room_1 s m #[Value.ref b] below meth c H locs kc ks (lw_Z below #[Value.ref b] s) (F0 m 926 ls []) := by
  obtain ⟨hx, hb, hr, hml, hown, hts0, hX, hbl, hlocks, hgv⟩ := id C0
  have hts : ∀ w ∈ sk_ALL, w.before #[Value.ref b] s = true := fun w hw => hts0 w (sk_in_tbl w hw)
  have hbA : ¬ (fun q : Nat => s.heap.size ≤ q) b := Nat.not_le.mpr hbl
  have hS := X.2.2.2.2.2.2.2.1
  refine lv_aload_n hx hb dL_law_926 rfl (lv_at hl 2 rfl) ?_
  refine lv_aload_n hx hb dL_law_927 rfl (lv_at hl 3 rfl) ?_
  refine lv_iload_n hx hb dL_law_928 rfl (lv_at hl 0 rfl) ?_
  refine lv_iconst (v := 1) hx hb dL_law_929 (by decide) ?_
  refine lv_iadd hx hb dL_law_930 ?_
  refine va_sld hx hb hX hbl hbA hS (lw_vin hL hi 1 (by omega)) dL_law_931 ?_
  refine lv_aload_n hx hb dL_law_932 rfl (lv_at hl 3 rfl) ?_
  refine lv_iload_n hx hb dL_law_933 rfl (lv_at hl 0 rfl) ?_
  refine lv_iconst (v := 2) hx hb dL_law_934 (by decide) ?_
  refine lv_iadd hx hb dL_law_935 ?_
  refine va_sld hx hb hX hbl hbA hS (lw_vin hL hi 2 (by omega)) dL_law_936 ?_
  refine lw_callC [.int (xs (nI i + 1).toNatClampNeg), .int (xs (nI i + 2).toNatClampNeg)] [] hk hx hb hml hl.1 hown hts dL_law_937 mfX6_fits lkL_114 miX6_fits msX6_fits rfl rfl rfl (by decide) X (jFits (d := 200) (e := 200) (by omega) (by omega) hR) (fun v τ2 H1 locs1 hv X1 => ?_)
  obtain ⟨r, rfl, hm⟩ := hv
  have hS := X1.2.2.2.2.2.2.2.1
  show W p l e room_1 s m #[Value.ref b] below meth c H1 locs1 kc ks (lw_Z below #[Value.ref b] s) (F0 m 940 ls [.int r])
  refine lv_aload_n hx hb dL_law_940 rfl (lv_at hl 1 rfl) ?_
  refine lv_aload_n hx hb dL_law_941 rfl (lv_at hl 3 rfl) ?_
  refine lv_iload_n hx hb dL_law_942 rfl (lv_at hl 0 rfl) ?_
  refine lv_iconst (v := 1) hx hb dL_law_943 (by decide) ?_
  refine lv_iadd hx hb dL_law_944 ?_
  refine va_sld hx hb hX hbl hbA hS (lw_vin hL hi 1 (by omega)) dL_law_945 ?_
  refine lv_aload_n hx hb dL_law_946 rfl (lv_at hl 3 rfl) ?_
  refine lv_iload_n hx hb dL_law_947 rfl (lv_at hl 0 rfl) ?_
  refine lv_iconst (v := 2) hx hb dL_law_948 (by decide) ?_
  refine lv_iadd hx hb dL_law_949 ?_
  refine va_sld hx hb hX hbl hbA hS (lw_vin hL hi 2 (by omega)) dL_law_950 ?_
  refine lw_callM [.int (xs (nI i + 1).toNatClampNeg), .int (xs (nI i + 2).toNatClampNeg)] [.int r] hk hx hb hml hl.1 hown hts dL_law_951 mfX7_fits lkL_117 miX7_fits msX7_fits rfl rfl rfl (Nat.le_of_ble_eq_true rfl) X1 hm (fun w σ2 H2 locs2 hw X2 => ?_)
  obtain ⟨rfl, hR2⟩ := hw
  show W p l e room_1 s m #[Value.ref b] below meth c H2 locs2 kc ks (lw_Z below #[Value.ref b] s) (F0 m 954 ls [.int r, .int r])
  exact lv_icmp_eq (tgt := 1328) hx hb dL_law_954 (by decide) (fun _ => kk τ2 σ2 H2 locs2 X2 hR2) (fun z => absurd rfl z)
set_option maxHeartbeats 2000000 in
theorem lc_voice (hL : L ≤ 3072) (hi : i + 6 ≤ L) (hk : kc ≤ 600000 ∧ ks ≤ 7302250) (C0 : lw_At p s m meth c b L xs) (hl : lv_has ls 4 [(3, .int (nI i)), (2, .ref (ad2 0)), (1, .ref (ad1 0)), (0, .ref b)]) (X : lwS s H locs D cA ad1 ad2 τ σ) (hR : R τ σ)
    (kk : ∀ τ2 σ2 H1 locs1, lwS s H1 locs1 D cA ad1 ad2 τ2 σ2 → R τ2 σ2 → W p l e room_1 s m #[Value.ref b] below meth c H1 locs1 kc ks (lw_Z below #[Value.ref b] s) (F0 m 1328 ls [])) : W p l e room_1 s m #[Value.ref b] below meth c H locs kc ks (lw_Z below #[Value.ref b] s) (F0 m 959 ls []) := by
  obtain ⟨hx, hb, hr, hml, hown, hts0, hX, hbl, hlocks, hgv⟩ := id C0
  have hts : ∀ w ∈ sk_ALL, w.before #[Value.ref b] s = true := fun w hw => hts0 w (sk_in_tbl w hw)
  have hbA : ¬ (fun q : Nat => s.heap.size ≤ q) b := Nat.not_le.mpr hbl
  have hS := X.2.2.2.2.2.2.2.1
  refine lv_aload_n hx hb dL_law_959 rfl (lv_at hl 2 rfl) ?_
  refine lv_aload_n hx hb dL_law_960 rfl (lv_at hl 3 rfl) ?_
  refine lv_iload_n hx hb dL_law_961 rfl (lv_at hl 0 rfl) ?_
  refine lv_iconst (v := 1) hx hb dL_law_962 (by decide) ?_
  refine lv_iadd hx hb dL_law_963 ?_
  refine va_sld hx hb hX hbl hbA hS (lw_vin hL hi 1 (by omega)) dL_law_964 ?_
  refine lv_aload_n hx hb dL_law_965 rfl (lv_at hl 3 rfl) ?_
  refine lv_iload_n hx hb dL_law_966 rfl (lv_at hl 0 rfl) ?_
  refine lv_iconst (v := 2) hx hb dL_law_967 (by decide) ?_
  refine lv_iadd hx hb dL_law_968 ?_
  refine va_sld hx hb hX hbl hbA hS (lw_vin hL hi 2 (by omega)) dL_law_969 ?_
  refine lv_aload_n hx hb dL_law_970 rfl (lv_at hl 3 rfl) ?_
  refine lv_iload_n hx hb dL_law_971 rfl (lv_at hl 0 rfl) ?_
  refine lv_iconst (v := 3) hx hb dL_law_972 (by decide) ?_
  refine lv_iadd hx hb dL_law_973 ?_
  refine va_sld hx hb hX hbl hbA hS (lw_vin hL hi 3 (by omega)) dL_law_974 ?_
  refine lw_callC [.int (xs (nI i + 1).toNatClampNeg), .int (xs (nI i + 2).toNatClampNeg), .int (xs (nI i + 3).toNatClampNeg)] [] hk hx hb hml hl.1 hown hts dL_law_975 mfX6_voice lkL_118 miX6_voice msX6_voice rfl rfl rfl (by decide) X (jVoice (d := 200) (e := 200) (by omega) (by omega) hR) (fun v τ2 H1 locs1 hv X1 => ?_)
  obtain ⟨r, rfl, hm⟩ := hv
  have hS := X1.2.2.2.2.2.2.2.1
  show W p l e room_1 s m #[Value.ref b] below meth c H1 locs1 kc ks (lw_Z below #[Value.ref b] s) (F0 m 978 ls [.int r])
  refine lv_aload_n hx hb dL_law_978 rfl (lv_at hl 1 rfl) ?_
  refine lv_aload_n hx hb dL_law_979 rfl (lv_at hl 3 rfl) ?_
  refine lv_iload_n hx hb dL_law_980 rfl (lv_at hl 0 rfl) ?_
  refine lv_iconst (v := 1) hx hb dL_law_981 (by decide) ?_
  refine lv_iadd hx hb dL_law_982 ?_
  refine va_sld hx hb hX hbl hbA hS (lw_vin hL hi 1 (by omega)) dL_law_983 ?_
  refine lv_aload_n hx hb dL_law_984 rfl (lv_at hl 3 rfl) ?_
  refine lv_iload_n hx hb dL_law_985 rfl (lv_at hl 0 rfl) ?_
  refine lv_iconst (v := 2) hx hb dL_law_986 (by decide) ?_
  refine lv_iadd hx hb dL_law_987 ?_
  refine va_sld hx hb hX hbl hbA hS (lw_vin hL hi 2 (by omega)) dL_law_988 ?_
  refine lv_aload_n hx hb dL_law_989 rfl (lv_at hl 3 rfl) ?_
  refine lv_iload_n hx hb dL_law_990 rfl (lv_at hl 0 rfl) ?_
  refine lv_iconst (v := 3) hx hb dL_law_991 (by decide) ?_
  refine lv_iadd hx hb dL_law_992 ?_
  refine va_sld hx hb hX hbl hbA hS (lw_vin hL hi 3 (by omega)) dL_law_993 ?_
  refine lw_callM [.int (xs (nI i + 1).toNatClampNeg), .int (xs (nI i + 2).toNatClampNeg), .int (xs (nI i + 3).toNatClampNeg)] [.int r] hk hx hb hml hl.1 hown hts dL_law_994 mfX7_voice lkL_121 miX7_voice msX7_voice rfl rfl rfl (Nat.le_of_ble_eq_true rfl) X1 hm (fun w σ2 H2 locs2 hw X2 => ?_)
  obtain ⟨rfl, hR2⟩ := hw
  show W p l e room_1 s m #[Value.ref b] below meth c H2 locs2 kc ks (lw_Z below #[Value.ref b] s) (F0 m 997 ls [.int r, .int r])
  exact lv_icmp_eq (tgt := 1328) hx hb dL_law_997 (by decide) (fun _ => kk τ2 σ2 H2 locs2 X2 hR2) (fun z => absurd rfl z)
set_option maxHeartbeats 2000000 in
theorem lc_body (hL : L ≤ 3072) (hi : i + 6 ≤ L) (hk : kc ≤ 600000 ∧ ks ≤ 7302250) (C0 : lw_At p s m meth c b L xs) (hl : lv_has ls 4 [(3, .int (nI i)), (2, .ref (ad2 0)), (1, .ref (ad1 0)), (0, .ref b)]) (X : lwS s H locs D cA ad1 ad2 τ σ) (hR : R τ σ)
    (kk : ∀ τ2 σ2 H1 locs1, lwS s H1 locs1 D cA ad1 ad2 τ2 σ2 → R τ2 σ2 → W p l e room_1 s m #[Value.ref b] below meth c H1 locs1 kc ks (lw_Z below #[Value.ref b] s) (F0 m 1328 ls [])) : W p l e room_1 s m #[Value.ref b] below meth c H locs kc ks (lw_Z below #[Value.ref b] s) (F0 m 1002 ls []) := by
  obtain ⟨hx, hb, hr, hml, hown, hts0, hX, hbl, hlocks, hgv⟩ := id C0
  have hts : ∀ w ∈ sk_ALL, w.before #[Value.ref b] s = true := fun w hw => hts0 w (sk_in_tbl w hw)
  have hbA : ¬ (fun q : Nat => s.heap.size ≤ q) b := Nat.not_le.mpr hbl
  have hS := X.2.2.2.2.2.2.2.1
  refine lv_aload_n hx hb dL_law_1002 rfl (lv_at hl 2 rfl) ?_
  refine lv_aload_n hx hb dL_law_1003 rfl (lv_at hl 3 rfl) ?_
  refine lv_iload_n hx hb dL_law_1004 rfl (lv_at hl 0 rfl) ?_
  refine lv_iconst (v := 1) hx hb dL_law_1005 (by decide) ?_
  refine lv_iadd hx hb dL_law_1006 ?_
  refine va_sld hx hb hX hbl hbA hS (lw_vin hL hi 1 (by omega)) dL_law_1007 ?_
  refine lw_callC [.int (xs (nI i + 1).toNatClampNeg)] [] hk hx hb hml hl.1 hown hts dL_law_1008 mfX6_body lkL_122 miX6_body msX6_body rfl rfl rfl (by decide) X (jBody (d := 200) (e := 200) (by omega) (by omega) hR) (fun v τ2 H1 locs1 hv X1 => ?_)
  obtain ⟨r, rfl, hm⟩ := hv
  have hS := X1.2.2.2.2.2.2.2.1
  show W p l e room_1 s m #[Value.ref b] below meth c H1 locs1 kc ks (lw_Z below #[Value.ref b] s) (F0 m 1011 ls [.int r])
  refine lv_aload_n hx hb dL_law_1011 rfl (lv_at hl 1 rfl) ?_
  refine lv_aload_n hx hb dL_law_1012 rfl (lv_at hl 3 rfl) ?_
  refine lv_iload_n hx hb dL_law_1013 rfl (lv_at hl 0 rfl) ?_
  refine lv_iconst (v := 1) hx hb dL_law_1014 (by decide) ?_
  refine lv_iadd hx hb dL_law_1015 ?_
  refine va_sld hx hb hX hbl hbA hS (lw_vin hL hi 1 (by omega)) dL_law_1016 ?_
  refine lw_callM [.int (xs (nI i + 1).toNatClampNeg)] [.int r] hk hx hb hml hl.1 hown hts dL_law_1017 mfX7_body lkL_125 miX7_body msX7_body rfl rfl rfl (Nat.le_of_ble_eq_true rfl) X1 hm (fun w σ2 H2 locs2 hw X2 => ?_)
  obtain ⟨rfl, hR2⟩ := hw
  show W p l e room_1 s m #[Value.ref b] below meth c H2 locs2 kc ks (lw_Z below #[Value.ref b] s) (F0 m 1020 ls [.int r, .int r])
  exact lv_icmp_eq (tgt := 1328) hx hb dL_law_1020 (by decide) (fun _ => kk τ2 σ2 H2 locs2 X2 hR2) (fun z => absurd rfl z)
set_option maxHeartbeats 2000000 in
theorem lc_sheet (hL : L ≤ 3072) (hi : i + 6 ≤ L) (hk : kc ≤ 600000 ∧ ks ≤ 7302250) (C0 : lw_At p s m meth c b L xs) (hl : lv_has ls 4 [(3, .int (nI i)), (2, .ref (ad2 0)), (1, .ref (ad1 0)), (0, .ref b)]) (X : lwS s H locs D cA ad1 ad2 τ σ) (hR : R τ σ)
    (kk : ∀ τ2 σ2 H1 locs1, lwS s H1 locs1 D cA ad1 ad2 τ2 σ2 → R τ2 σ2 → W p l e room_1 s m #[Value.ref b] below meth c H1 locs1 kc ks (lw_Z below #[Value.ref b] s) (F0 m 1328 ls [])) : W p l e room_1 s m #[Value.ref b] below meth c H locs kc ks (lw_Z below #[Value.ref b] s) (F0 m 1025 ls []) := by
  obtain ⟨hx, hb, hr, hml, hown, hts0, hX, hbl, hlocks, hgv⟩ := id C0
  have hts : ∀ w ∈ sk_ALL, w.before #[Value.ref b] s = true := fun w hw => hts0 w (sk_in_tbl w hw)
  have hbA : ¬ (fun q : Nat => s.heap.size ≤ q) b := Nat.not_le.mpr hbl
  have hS := X.2.2.2.2.2.2.2.1
  refine lv_aload_n hx hb dL_law_1025 rfl (lv_at hl 2 rfl) ?_
  refine lv_aload_n hx hb dL_law_1026 rfl (lv_at hl 3 rfl) ?_
  refine lv_iload_n hx hb dL_law_1027 rfl (lv_at hl 0 rfl) ?_
  refine lv_iconst (v := 1) hx hb dL_law_1028 (by decide) ?_
  refine lv_iadd hx hb dL_law_1029 ?_
  refine va_sld hx hb hX hbl hbA hS (lw_vin hL hi 1 (by omega)) dL_law_1030 ?_
  refine lv_aload_n hx hb dL_law_1031 rfl (lv_at hl 3 rfl) ?_
  refine lv_iload_n hx hb dL_law_1032 rfl (lv_at hl 0 rfl) ?_
  refine lv_iconst (v := 2) hx hb dL_law_1033 (by decide) ?_
  refine lv_iadd hx hb dL_law_1034 ?_
  refine va_sld hx hb hX hbl hbA hS (lw_vin hL hi 2 (by omega)) dL_law_1035 ?_
  refine lv_aload_n hx hb dL_law_1036 rfl (lv_at hl 3 rfl) ?_
  refine lv_iload_n hx hb dL_law_1037 rfl (lv_at hl 0 rfl) ?_
  refine lv_iconst (v := 3) hx hb dL_law_1038 (by decide) ?_
  refine lv_iadd hx hb dL_law_1039 ?_
  refine va_sld hx hb hX hbl hbA hS (lw_vin hL hi 3 (by omega)) dL_law_1040 ?_
  refine lw_callC [.int (xs (nI i + 1).toNatClampNeg), .int (xs (nI i + 2).toNatClampNeg), .int (xs (nI i + 3).toNatClampNeg)] [] hk hx hb hml hl.1 hown hts dL_law_1041 mfX6_sheet lkL_126 miX6_sheet msX6_sheet rfl rfl rfl (by decide) X (jSheet (d := 200) (e := 200) (by omega) (by omega) hR) (fun v τ2 H1 locs1 hv X1 => ?_)
  obtain ⟨r, rfl, hm⟩ := hv
  have hS := X1.2.2.2.2.2.2.2.1
  show W p l e room_1 s m #[Value.ref b] below meth c H1 locs1 kc ks (lw_Z below #[Value.ref b] s) (F0 m 1044 ls [.int r])
  refine lv_aload_n hx hb dL_law_1044 rfl (lv_at hl 1 rfl) ?_
  refine lv_aload_n hx hb dL_law_1045 rfl (lv_at hl 3 rfl) ?_
  refine lv_iload_n hx hb dL_law_1046 rfl (lv_at hl 0 rfl) ?_
  refine lv_iconst (v := 1) hx hb dL_law_1047 (by decide) ?_
  refine lv_iadd hx hb dL_law_1048 ?_
  refine va_sld hx hb hX hbl hbA hS (lw_vin hL hi 1 (by omega)) dL_law_1049 ?_
  refine lv_aload_n hx hb dL_law_1050 rfl (lv_at hl 3 rfl) ?_
  refine lv_iload_n hx hb dL_law_1051 rfl (lv_at hl 0 rfl) ?_
  refine lv_iconst (v := 2) hx hb dL_law_1052 (by decide) ?_
  refine lv_iadd hx hb dL_law_1053 ?_
  refine va_sld hx hb hX hbl hbA hS (lw_vin hL hi 2 (by omega)) dL_law_1054 ?_
  refine lv_aload_n hx hb dL_law_1055 rfl (lv_at hl 3 rfl) ?_
  refine lv_iload_n hx hb dL_law_1056 rfl (lv_at hl 0 rfl) ?_
  refine lv_iconst (v := 3) hx hb dL_law_1057 (by decide) ?_
  refine lv_iadd hx hb dL_law_1058 ?_
  refine va_sld hx hb hX hbl hbA hS (lw_vin hL hi 3 (by omega)) dL_law_1059 ?_
  refine lw_callM [.int (xs (nI i + 1).toNatClampNeg), .int (xs (nI i + 2).toNatClampNeg), .int (xs (nI i + 3).toNatClampNeg)] [.int r] hk hx hb hml hl.1 hown hts dL_law_1060 mfX7_sheet lkL_129 miX7_sheet msX7_sheet rfl rfl rfl (Nat.le_of_ble_eq_true rfl) X1 hm (fun w σ2 H2 locs2 hw X2 => ?_)
  obtain ⟨rfl, hR2⟩ := hw
  show W p l e room_1 s m #[Value.ref b] below meth c H2 locs2 kc ks (lw_Z below #[Value.ref b] s) (F0 m 1063 ls [.int r, .int r])
  exact lv_icmp_eq (tgt := 1328) hx hb dL_law_1063 (by decide) (fun _ => kk τ2 σ2 H2 locs2 X2 hR2) (fun z => absurd rfl z)
set_option maxHeartbeats 2000000 in
theorem lc_put (hL : L ≤ 3072) (hi : i + 6 ≤ L) (hk : kc ≤ 600000 ∧ ks ≤ 7302250) (C0 : lw_At p s m meth c b L xs) (hl : lv_has ls 4 [(3, .int (nI i)), (2, .ref (ad2 0)), (1, .ref (ad1 0)), (0, .ref b)]) (X : lwS s H locs D cA ad1 ad2 τ σ) (hR : R τ σ)
    (kk : ∀ τ2 σ2 H1 locs1, lwS s H1 locs1 D cA ad1 ad2 τ2 σ2 → R τ2 σ2 → W p l e room_1 s m #[Value.ref b] below meth c H1 locs1 kc ks (lw_Z below #[Value.ref b] s) (F0 m 1328 ls [])) : W p l e room_1 s m #[Value.ref b] below meth c H locs kc ks (lw_Z below #[Value.ref b] s) (F0 m 1068 ls []) := by
  obtain ⟨hx, hb, hr, hml, hown, hts0, hX, hbl, hlocks, hgv⟩ := id C0
  have hts : ∀ w ∈ sk_ALL, w.before #[Value.ref b] s = true := fun w hw => hts0 w (sk_in_tbl w hw)
  have hbA : ¬ (fun q : Nat => s.heap.size ≤ q) b := Nat.not_le.mpr hbl
  have hS := X.2.2.2.2.2.2.2.1
  refine lv_aload_n hx hb dL_law_1068 rfl (lv_at hl 2 rfl) ?_
  refine lv_aload_n hx hb dL_law_1069 rfl (lv_at hl 3 rfl) ?_
  refine lv_iload_n hx hb dL_law_1070 rfl (lv_at hl 0 rfl) ?_
  refine lv_iconst (v := 1) hx hb dL_law_1071 (by decide) ?_
  refine lv_iadd hx hb dL_law_1072 ?_
  refine va_sld hx hb hX hbl hbA hS (lw_vin hL hi 1 (by omega)) dL_law_1073 ?_
  refine lv_aload_n hx hb dL_law_1074 rfl (lv_at hl 3 rfl) ?_
  refine lv_iload_n hx hb dL_law_1075 rfl (lv_at hl 0 rfl) ?_
  refine lv_iconst (v := 2) hx hb dL_law_1076 (by decide) ?_
  refine lv_iadd hx hb dL_law_1077 ?_
  refine va_sld hx hb hX hbl hbA hS (lw_vin hL hi 2 (by omega)) dL_law_1078 ?_
  refine lv_aload_n hx hb dL_law_1079 rfl (lv_at hl 3 rfl) ?_
  refine lv_iload_n hx hb dL_law_1080 rfl (lv_at hl 0 rfl) ?_
  refine lv_iconst (v := 3) hx hb dL_law_1081 (by decide) ?_
  refine lv_iadd hx hb dL_law_1082 ?_
  refine va_sld hx hb hX hbl hbA hS (lw_vin hL hi 3 (by omega)) dL_law_1083 ?_
  refine lw_callC [.int (xs (nI i + 1).toNatClampNeg), .int (xs (nI i + 2).toNatClampNeg), .int (xs (nI i + 3).toNatClampNeg)] [] hk hx hb hml hl.1 hown hts dL_law_1084 mfX6_put lkL_130 miX6_put msX6_put rfl rfl rfl (by decide) X (jPut (d := 200) (e := 200) (by omega) (by omega) hR) (fun v τ2 H1 locs1 hv X1 => ?_)
  obtain ⟨r, rfl, hm⟩ := hv
  have hS := X1.2.2.2.2.2.2.2.1
  show W p l e room_1 s m #[Value.ref b] below meth c H1 locs1 kc ks (lw_Z below #[Value.ref b] s) (F0 m 1087 ls [.int r])
  refine lv_aload_n hx hb dL_law_1087 rfl (lv_at hl 1 rfl) ?_
  refine lv_aload_n hx hb dL_law_1088 rfl (lv_at hl 3 rfl) ?_
  refine lv_iload_n hx hb dL_law_1089 rfl (lv_at hl 0 rfl) ?_
  refine lv_iconst (v := 1) hx hb dL_law_1090 (by decide) ?_
  refine lv_iadd hx hb dL_law_1091 ?_
  refine va_sld hx hb hX hbl hbA hS (lw_vin hL hi 1 (by omega)) dL_law_1092 ?_
  refine lv_aload_n hx hb dL_law_1093 rfl (lv_at hl 3 rfl) ?_
  refine lv_iload_n hx hb dL_law_1094 rfl (lv_at hl 0 rfl) ?_
  refine lv_iconst (v := 2) hx hb dL_law_1095 (by decide) ?_
  refine lv_iadd hx hb dL_law_1096 ?_
  refine va_sld hx hb hX hbl hbA hS (lw_vin hL hi 2 (by omega)) dL_law_1097 ?_
  refine lv_aload_n hx hb dL_law_1098 rfl (lv_at hl 3 rfl) ?_
  refine lv_iload_n hx hb dL_law_1099 rfl (lv_at hl 0 rfl) ?_
  refine lv_iconst (v := 3) hx hb dL_law_1100 (by decide) ?_
  refine lv_iadd hx hb dL_law_1101 ?_
  refine va_sld hx hb hX hbl hbA hS (lw_vin hL hi 3 (by omega)) dL_law_1102 ?_
  refine lw_callM [.int (xs (nI i + 1).toNatClampNeg), .int (xs (nI i + 2).toNatClampNeg), .int (xs (nI i + 3).toNatClampNeg)] [.int r] hk hx hb hml hl.1 hown hts dL_law_1103 mfX7_put lkL_133 miX7_put msX7_put rfl rfl rfl (Nat.le_of_ble_eq_true rfl) X1 hm (fun w σ2 H2 locs2 hw X2 => ?_)
  obtain ⟨rfl, hR2⟩ := hw
  show W p l e room_1 s m #[Value.ref b] below meth c H2 locs2 kc ks (lw_Z below #[Value.ref b] s) (F0 m 1106 ls [.int r, .int r])
  exact lv_icmp_eq (tgt := 1328) hx hb dL_law_1106 (by decide) (fun _ => kk τ2 σ2 H2 locs2 X2 hR2) (fun z => absurd rfl z)
set_option maxHeartbeats 2000000 in
theorem lc_move (hL : L ≤ 3072) (hi : i + 6 ≤ L) (hk : kc ≤ 600000 ∧ ks ≤ 7302250) (C0 : lw_At p s m meth c b L xs) (hl : lv_has ls 4 [(3, .int (nI i)), (2, .ref (ad2 0)), (1, .ref (ad1 0)), (0, .ref b)]) (X : lwS s H locs D cA ad1 ad2 τ σ) (hR : R τ σ)
    (kk : ∀ τ2 σ2 H1 locs1, lwS s H1 locs1 D cA ad1 ad2 τ2 σ2 → R τ2 σ2 → W p l e room_1 s m #[Value.ref b] below meth c H1 locs1 kc ks (lw_Z below #[Value.ref b] s) (F0 m 1328 ls [])) : W p l e room_1 s m #[Value.ref b] below meth c H locs kc ks (lw_Z below #[Value.ref b] s) (F0 m 1111 ls []) := by
  obtain ⟨hx, hb, hr, hml, hown, hts0, hX, hbl, hlocks, hgv⟩ := id C0
  have hts : ∀ w ∈ sk_ALL, w.before #[Value.ref b] s = true := fun w hw => hts0 w (sk_in_tbl w hw)
  have hbA : ¬ (fun q : Nat => s.heap.size ≤ q) b := Nat.not_le.mpr hbl
  have hS := X.2.2.2.2.2.2.2.1
  refine lv_aload_n hx hb dL_law_1111 rfl (lv_at hl 2 rfl) ?_
  refine lv_aload_n hx hb dL_law_1112 rfl (lv_at hl 3 rfl) ?_
  refine lv_iload_n hx hb dL_law_1113 rfl (lv_at hl 0 rfl) ?_
  refine lv_iconst (v := 1) hx hb dL_law_1114 (by decide) ?_
  refine lv_iadd hx hb dL_law_1115 ?_
  refine va_sld hx hb hX hbl hbA hS (lw_vin hL hi 1 (by omega)) dL_law_1116 ?_
  refine lv_aload_n hx hb dL_law_1117 rfl (lv_at hl 3 rfl) ?_
  refine lv_iload_n hx hb dL_law_1118 rfl (lv_at hl 0 rfl) ?_
  refine lv_iconst (v := 2) hx hb dL_law_1119 (by decide) ?_
  refine lv_iadd hx hb dL_law_1120 ?_
  refine va_sld hx hb hX hbl hbA hS (lw_vin hL hi 2 (by omega)) dL_law_1121 ?_
  refine lv_aload_n hx hb dL_law_1122 rfl (lv_at hl 3 rfl) ?_
  refine lv_iload_n hx hb dL_law_1123 rfl (lv_at hl 0 rfl) ?_
  refine lv_iconst (v := 3) hx hb dL_law_1124 (by decide) ?_
  refine lv_iadd hx hb dL_law_1125 ?_
  refine va_sld hx hb hX hbl hbA hS (lw_vin hL hi 3 (by omega)) dL_law_1126 ?_
  refine lv_aload_n hx hb dL_law_1127 rfl (lv_at hl 3 rfl) ?_
  refine lv_iload_n hx hb dL_law_1128 rfl (lv_at hl 0 rfl) ?_
  refine lv_iconst (v := 4) hx hb dL_law_1129 (by decide) ?_
  refine lv_iadd hx hb dL_law_1130 ?_
  refine va_sld hx hb hX hbl hbA hS (lw_vin hL hi 4 (by omega)) dL_law_1131 ?_
  refine lv_aload_n hx hb dL_law_1132 rfl (lv_at hl 3 rfl) ?_
  refine lv_iload_n hx hb dL_law_1133 rfl (lv_at hl 0 rfl) ?_
  refine lv_iconst (v := 5) hx hb dL_law_1134 (by decide) ?_
  refine lv_iadd hx hb dL_law_1135 ?_
  refine va_sld hx hb hX hbl hbA hS (lw_vin hL hi 5 (by omega)) dL_law_1136 ?_
  refine lw_callC [.int (xs (nI i + 1).toNatClampNeg), .int (xs (nI i + 2).toNatClampNeg), .int (xs (nI i + 3).toNatClampNeg), .int (xs (nI i + 4).toNatClampNeg), .int (xs (nI i + 5).toNatClampNeg)] [] hk hx hb hml hl.1 hown hts dL_law_1137 mfX6_move lkL_134 miX6_move msX6_move rfl rfl rfl (by decide) X (jMove (d := 200) (e := 200) (by omega) (by omega) hR) (fun v τ2 H1 locs1 hv X1 => ?_)
  obtain ⟨r, rfl, hm⟩ := hv
  have hS := X1.2.2.2.2.2.2.2.1
  show W p l e room_1 s m #[Value.ref b] below meth c H1 locs1 kc ks (lw_Z below #[Value.ref b] s) (F0 m 1140 ls [.int r])
  refine lv_aload_n hx hb dL_law_1140 rfl (lv_at hl 1 rfl) ?_
  refine lv_aload_n hx hb dL_law_1141 rfl (lv_at hl 3 rfl) ?_
  refine lv_iload_n hx hb dL_law_1142 rfl (lv_at hl 0 rfl) ?_
  refine lv_iconst (v := 1) hx hb dL_law_1143 (by decide) ?_
  refine lv_iadd hx hb dL_law_1144 ?_
  refine va_sld hx hb hX hbl hbA hS (lw_vin hL hi 1 (by omega)) dL_law_1145 ?_
  refine lv_aload_n hx hb dL_law_1146 rfl (lv_at hl 3 rfl) ?_
  refine lv_iload_n hx hb dL_law_1147 rfl (lv_at hl 0 rfl) ?_
  refine lv_iconst (v := 2) hx hb dL_law_1148 (by decide) ?_
  refine lv_iadd hx hb dL_law_1149 ?_
  refine va_sld hx hb hX hbl hbA hS (lw_vin hL hi 2 (by omega)) dL_law_1150 ?_
  refine lv_aload_n hx hb dL_law_1151 rfl (lv_at hl 3 rfl) ?_
  refine lv_iload_n hx hb dL_law_1152 rfl (lv_at hl 0 rfl) ?_
  refine lv_iconst (v := 3) hx hb dL_law_1153 (by decide) ?_
  refine lv_iadd hx hb dL_law_1154 ?_
  refine va_sld hx hb hX hbl hbA hS (lw_vin hL hi 3 (by omega)) dL_law_1155 ?_
  refine lv_aload_n hx hb dL_law_1156 rfl (lv_at hl 3 rfl) ?_
  refine lv_iload_n hx hb dL_law_1157 rfl (lv_at hl 0 rfl) ?_
  refine lv_iconst (v := 4) hx hb dL_law_1158 (by decide) ?_
  refine lv_iadd hx hb dL_law_1159 ?_
  refine va_sld hx hb hX hbl hbA hS (lw_vin hL hi 4 (by omega)) dL_law_1160 ?_
  refine lv_aload_n hx hb dL_law_1161 rfl (lv_at hl 3 rfl) ?_
  refine lv_iload_n hx hb dL_law_1162 rfl (lv_at hl 0 rfl) ?_
  refine lv_iconst (v := 5) hx hb dL_law_1163 (by decide) ?_
  refine lv_iadd hx hb dL_law_1164 ?_
  refine va_sld hx hb hX hbl hbA hS (lw_vin hL hi 5 (by omega)) dL_law_1165 ?_
  refine lw_callM [.int (xs (nI i + 1).toNatClampNeg), .int (xs (nI i + 2).toNatClampNeg), .int (xs (nI i + 3).toNatClampNeg), .int (xs (nI i + 4).toNatClampNeg), .int (xs (nI i + 5).toNatClampNeg)] [.int r] hk hx hb hml hl.1 hown hts dL_law_1166 mfX7_move lkL_138 miX7_move msX7_move rfl rfl rfl (Nat.le_of_ble_eq_true rfl) X1 hm (fun w σ2 H2 locs2 hw X2 => ?_)
  obtain ⟨rfl, hR2⟩ := hw
  show W p l e room_1 s m #[Value.ref b] below meth c H2 locs2 kc ks (lw_Z below #[Value.ref b] s) (F0 m 1169 ls [.int r, .int r])
  exact lv_icmp_eq (tgt := 1328) hx hb dL_law_1169 (by decide) (fun _ => kk τ2 σ2 H2 locs2 X2 hR2) (fun z => absurd rfl z)
set_option maxHeartbeats 2000000 in
theorem lc_nailed (hL : L ≤ 3072) (hi : i + 6 ≤ L) (hk : kc ≤ 600000 ∧ ks ≤ 7302250) (C0 : lw_At p s m meth c b L xs) (hl : lv_has ls 4 [(3, .int (nI i)), (2, .ref (ad2 0)), (1, .ref (ad1 0)), (0, .ref b)]) (X : lwS s H locs D cA ad1 ad2 τ σ) (hR : R τ σ)
    (kk : ∀ τ2 σ2 H1 locs1, lwS s H1 locs1 D cA ad1 ad2 τ2 σ2 → R τ2 σ2 → W p l e room_1 s m #[Value.ref b] below meth c H1 locs1 kc ks (lw_Z below #[Value.ref b] s) (F0 m 1328 ls [])) : W p l e room_1 s m #[Value.ref b] below meth c H locs kc ks (lw_Z below #[Value.ref b] s) (F0 m 1174 ls []) := by
  obtain ⟨hx, hb, hr, hml, hown, hts0, hX, hbl, hlocks, hgv⟩ := id C0
  have hts : ∀ w ∈ sk_ALL, w.before #[Value.ref b] s = true := fun w hw => hts0 w (sk_in_tbl w hw)
  have hbA : ¬ (fun q : Nat => s.heap.size ≤ q) b := Nat.not_le.mpr hbl
  have hS := X.2.2.2.2.2.2.2.1
  refine lv_aload_n hx hb dL_law_1174 rfl (lv_at hl 2 rfl) ?_
  refine lv_aload_n hx hb dL_law_1175 rfl (lv_at hl 3 rfl) ?_
  refine lv_iload_n hx hb dL_law_1176 rfl (lv_at hl 0 rfl) ?_
  refine lv_iconst (v := 1) hx hb dL_law_1177 (by decide) ?_
  refine lv_iadd hx hb dL_law_1178 ?_
  refine va_sld hx hb hX hbl hbA hS (lw_vin hL hi 1 (by omega)) dL_law_1179 ?_
  refine lw_callC [.int (xs (nI i + 1).toNatClampNeg)] [] hk hx hb hml hl.1 hown hts dL_law_1180 mfX6_nailed lkL_139 miX6_nailed msX6_nailed rfl rfl rfl (by decide) X (jNailed (d := 200) (e := 200) (by omega) (by omega) hR) (fun v τ2 H1 locs1 hv X1 => ?_)
  obtain ⟨r, rfl, hm⟩ := hv
  have hS := X1.2.2.2.2.2.2.2.1
  show W p l e room_1 s m #[Value.ref b] below meth c H1 locs1 kc ks (lw_Z below #[Value.ref b] s) (F0 m 1183 ls [.int r])
  refine lv_aload_n hx hb dL_law_1183 rfl (lv_at hl 1 rfl) ?_
  refine lv_aload_n hx hb dL_law_1184 rfl (lv_at hl 3 rfl) ?_
  refine lv_iload_n hx hb dL_law_1185 rfl (lv_at hl 0 rfl) ?_
  refine lv_iconst (v := 1) hx hb dL_law_1186 (by decide) ?_
  refine lv_iadd hx hb dL_law_1187 ?_
  refine va_sld hx hb hX hbl hbA hS (lw_vin hL hi 1 (by omega)) dL_law_1188 ?_
  refine lw_callM [.int (xs (nI i + 1).toNatClampNeg)] [.int r] hk hx hb hml hl.1 hown hts dL_law_1189 mfX7_nailed lkL_142 miX7_nailed msX7_nailed rfl rfl rfl (Nat.le_of_ble_eq_true rfl) X1 hm (fun w σ2 H2 locs2 hw X2 => ?_)
  obtain ⟨rfl, hR2⟩ := hw
  show W p l e room_1 s m #[Value.ref b] below meth c H2 locs2 kc ks (lw_Z below #[Value.ref b] s) (F0 m 1192 ls [.int r, .int r])
  exact lv_icmp_eq (tgt := 1328) hx hb dL_law_1192 (by decide) (fun _ => kk τ2 σ2 H2 locs2 X2 hR2) (fun z => absurd rfl z)
set_option maxHeartbeats 2000000 in
theorem lc_judge (hL : L ≤ 3072) (hi : i + 6 ≤ L) (hk : kc ≤ 600000 ∧ ks ≤ 7302250) (C0 : lw_At p s m meth c b L xs) (hl : lv_has ls 4 [(3, .int (nI i)), (2, .ref (ad2 0)), (1, .ref (ad1 0)), (0, .ref b)]) (X : lwS s H locs D cA ad1 ad2 τ σ) (hR : R τ σ)
    (kk : ∀ τ2 σ2 H1 locs1, lwS s H1 locs1 D cA ad1 ad2 τ2 σ2 → R τ2 σ2 → W p l e room_1 s m #[Value.ref b] below meth c H1 locs1 kc ks (lw_Z below #[Value.ref b] s) (F0 m 1328 ls [])) : W p l e room_1 s m #[Value.ref b] below meth c H locs kc ks (lw_Z below #[Value.ref b] s) (F0 m 1197 ls []) := by
  obtain ⟨hx, hb, hr, hml, hown, hts0, hX, hbl, hlocks, hgv⟩ := id C0
  have hts : ∀ w ∈ sk_ALL, w.before #[Value.ref b] s = true := fun w hw => hts0 w (sk_in_tbl w hw)
  have hbA : ¬ (fun q : Nat => s.heap.size ≤ q) b := Nat.not_le.mpr hbl
  have hS := X.2.2.2.2.2.2.2.1
  refine lv_aload_n hx hb dL_law_1197 rfl (lv_at hl 2 rfl) ?_
  refine lv_aload_n hx hb dL_law_1198 rfl (lv_at hl 3 rfl) ?_
  refine lv_iload_n hx hb dL_law_1199 rfl (lv_at hl 0 rfl) ?_
  refine lv_iconst (v := 1) hx hb dL_law_1200 (by decide) ?_
  refine lv_iadd hx hb dL_law_1201 ?_
  refine va_sld hx hb hX hbl hbA hS (lw_vin hL hi 1 (by omega)) dL_law_1202 ?_
  refine lw_callC [.int (xs (nI i + 1).toNatClampNeg)] [] hk hx hb hml hl.1 hown hts dL_law_1203 mfX6_judge lkL_143 miX6_judge msX6_judge rfl rfl rfl (by decide) X (jJudge (d := 200) (e := 200) (by omega) (by omega) hR) (fun v τ2 H1 locs1 hv X1 => ?_)
  obtain ⟨r, rfl, hm⟩ := hv
  have hS := X1.2.2.2.2.2.2.2.1
  show W p l e room_1 s m #[Value.ref b] below meth c H1 locs1 kc ks (lw_Z below #[Value.ref b] s) (F0 m 1206 ls [.int r])
  refine lv_aload_n hx hb dL_law_1206 rfl (lv_at hl 1 rfl) ?_
  refine lv_aload_n hx hb dL_law_1207 rfl (lv_at hl 3 rfl) ?_
  refine lv_iload_n hx hb dL_law_1208 rfl (lv_at hl 0 rfl) ?_
  refine lv_iconst (v := 1) hx hb dL_law_1209 (by decide) ?_
  refine lv_iadd hx hb dL_law_1210 ?_
  refine va_sld hx hb hX hbl hbA hS (lw_vin hL hi 1 (by omega)) dL_law_1211 ?_
  refine lw_callM [.int (xs (nI i + 1).toNatClampNeg)] [.int r] hk hx hb hml hl.1 hown hts dL_law_1212 mfX7_judge lkL_146 miX7_judge msX7_judge rfl rfl rfl (Nat.le_of_ble_eq_true rfl) X1 hm (fun w σ2 H2 locs2 hw X2 => ?_)
  obtain ⟨rfl, hR2⟩ := hw
  show W p l e room_1 s m #[Value.ref b] below meth c H2 locs2 kc ks (lw_Z below #[Value.ref b] s) (F0 m 1215 ls [.int r, .int r])
  exact lv_icmp_eq (tgt := 1328) hx hb dL_law_1215 (by decide) (fun _ => kk τ2 σ2 H2 locs2 X2 hR2) (fun z => absurd rfl z)
set_option maxHeartbeats 2000000 in
theorem lc_image (hL : L ≤ 3072) (hi : i + 6 ≤ L) (hk : kc ≤ 600000 ∧ ks ≤ 7302250) (C0 : lw_At p s m meth c b L xs) (hl : lv_has ls 4 [(3, .int (nI i)), (2, .ref (ad2 0)), (1, .ref (ad1 0)), (0, .ref b)]) (X : lwS s H locs D cA ad1 ad2 τ σ) (hR : R τ σ)
    (kk : ∀ τ2 σ2 H1 locs1, lwS s H1 locs1 D cA ad1 ad2 τ2 σ2 → R τ2 σ2 → W p l e room_1 s m #[Value.ref b] below meth c H1 locs1 kc ks (lw_Z below #[Value.ref b] s) (F0 m 1328 ls [])) : W p l e room_1 s m #[Value.ref b] below meth c H locs kc ks (lw_Z below #[Value.ref b] s) (F0 m 1220 ls []) := by
  obtain ⟨hx, hb, hr, hml, hown, hts0, hX, hbl, hlocks, hgv⟩ := id C0
  have hts : ∀ w ∈ sk_ALL, w.before #[Value.ref b] s = true := fun w hw => hts0 w (sk_in_tbl w hw)
  have hbA : ¬ (fun q : Nat => s.heap.size ≤ q) b := Nat.not_le.mpr hbl
  have hS := X.2.2.2.2.2.2.2.1
  refine lv_aload_n hx hb dL_law_1220 rfl (lv_at hl 2 rfl) ?_
  refine lw_callC [] [] hk hx hb hml hl.1 hown hts dL_law_1221 mfX6_image lkL_147 miX6_image msX6_image rfl rfl rfl (by decide) X (jImage (d := 200) (e := 200) (by omega) (by omega) hR) (fun v τ2 H1 locs1 hv X1 => ?_)
  obtain ⟨r, rfl, hm⟩ := hv
  have hS := X1.2.2.2.2.2.2.2.1
  show W p l e room_1 s m #[Value.ref b] below meth c H1 locs1 kc ks (lw_Z below #[Value.ref b] s) (F0 m 1224 ls [.int r])
  refine lv_aload_n hx hb dL_law_1224 rfl (lv_at hl 1 rfl) ?_
  refine lw_callM [] [.int r] hk hx hb hml hl.1 hown hts dL_law_1225 mfX7_image lkL_150 miX7_image msX7_image rfl rfl rfl (Nat.le_of_ble_eq_true rfl) X1 hm (fun w σ2 H2 locs2 hw X2 => ?_)
  obtain ⟨rfl, hR2⟩ := hw
  show W p l e room_1 s m #[Value.ref b] below meth c H2 locs2 kc ks (lw_Z below #[Value.ref b] s) (F0 m 1228 ls [.int r, .int r])
  exact lv_icmp_eq (tgt := 1328) hx hb dL_law_1228 (by decide) (fun _ => kk τ2 σ2 H2 locs2 X2 hR2) (fun z => absurd rfl z)
set_option maxHeartbeats 2000000 in
theorem lc_restore (hL : L ≤ 3072) (hi : i + 6 ≤ L) (hk : kc ≤ 600000 ∧ ks ≤ 7302250) (C0 : lw_At p s m meth c b L xs) (hl : lv_has ls 4 [(3, .int (nI i)), (2, .ref (ad2 0)), (1, .ref (ad1 0)), (0, .ref b)]) (X : lwS s H locs D cA ad1 ad2 τ σ) (hR : R τ σ)
    (kk : ∀ τ2 σ2 H1 locs1, lwS s H1 locs1 D cA ad1 ad2 τ2 σ2 → R τ2 σ2 → W p l e room_1 s m #[Value.ref b] below meth c H1 locs1 kc ks (lw_Z below #[Value.ref b] s) (F0 m 1328 ls [])) : W p l e room_1 s m #[Value.ref b] below meth c H locs kc ks (lw_Z below #[Value.ref b] s) (F0 m 1233 ls []) := by
  obtain ⟨hx, hb, hr, hml, hown, hts0, hX, hbl, hlocks, hgv⟩ := id C0
  have hts : ∀ w ∈ sk_ALL, w.before #[Value.ref b] s = true := fun w hw => hts0 w (sk_in_tbl w hw)
  have hbA : ¬ (fun q : Nat => s.heap.size ≤ q) b := Nat.not_le.mpr hbl
  have hS := X.2.2.2.2.2.2.2.1
  refine lv_aload_n hx hb dL_law_1233 rfl (lv_at hl 2 rfl) ?_
  refine lw_callC [] [] hk hx hb hml hl.1 hown hts dL_law_1234 mfX6_restore lkL_151 miX6_restore msX6_restore rfl rfl rfl (by decide) X (jRestore (d := 200) (e := 200) (by omega) (by omega) hR) (fun v τ2 H1 locs1 hv X1 => ?_)
  obtain ⟨r, rfl, hm⟩ := hv
  have hS := X1.2.2.2.2.2.2.2.1
  show W p l e room_1 s m #[Value.ref b] below meth c H1 locs1 kc ks (lw_Z below #[Value.ref b] s) (F0 m 1237 ls [.int r])
  refine lv_aload_n hx hb dL_law_1237 rfl (lv_at hl 1 rfl) ?_
  refine lw_callM [] [.int r] hk hx hb hml hl.1 hown hts dL_law_1238 mfX7_restore lkL_154 miX7_restore msX7_restore rfl rfl rfl (Nat.le_of_ble_eq_true rfl) X1 hm (fun w σ2 H2 locs2 hw X2 => ?_)
  obtain ⟨rfl, hR2⟩ := hw
  show W p l e room_1 s m #[Value.ref b] below meth c H2 locs2 kc ks (lw_Z below #[Value.ref b] s) (F0 m 1241 ls [.int r, .int r])
  exact lv_icmp_eq (tgt := 1328) hx hb dL_law_1241 (by decide) (fun _ => kk τ2 σ2 H2 locs2 X2 hR2) (fun z => absurd rfl z)
set_option maxHeartbeats 2000000 in
theorem lc_tell (hL : L ≤ 3072) (hi : i + 6 ≤ L) (hk : kc ≤ 600000 ∧ ks ≤ 7302250) (C0 : lw_At p s m meth c b L xs) (hl : lv_has ls 4 [(3, .int (nI i)), (2, .ref (ad2 0)), (1, .ref (ad1 0)), (0, .ref b)]) (X : lwS s H locs D cA ad1 ad2 τ σ) (hR : R τ σ)
    (kk : ∀ τ2 σ2 H1 locs1, lwS s H1 locs1 D cA ad1 ad2 τ2 σ2 → R τ2 σ2 → W p l e room_1 s m #[Value.ref b] below meth c H1 locs1 kc ks (lw_Z below #[Value.ref b] s) (F0 m 1328 ls [])) : W p l e room_1 s m #[Value.ref b] below meth c H locs kc ks (lw_Z below #[Value.ref b] s) (F0 m 1246 ls []) := by
  obtain ⟨hx, hb, hr, hml, hown, hts0, hX, hbl, hlocks, hgv⟩ := id C0
  have hts : ∀ w ∈ sk_ALL, w.before #[Value.ref b] s = true := fun w hw => hts0 w (sk_in_tbl w hw)
  have hbA : ¬ (fun q : Nat => s.heap.size ≤ q) b := Nat.not_le.mpr hbl
  have hS := X.2.2.2.2.2.2.2.1
  refine lv_aload_n hx hb dL_law_1246 rfl (lv_at hl 2 rfl) ?_
  refine lv_aload_n hx hb dL_law_1247 rfl (lv_at hl 3 rfl) ?_
  refine lv_iload_n hx hb dL_law_1248 rfl (lv_at hl 0 rfl) ?_
  refine lv_iconst (v := 1) hx hb dL_law_1249 (by decide) ?_
  refine lv_iadd hx hb dL_law_1250 ?_
  refine va_sld hx hb hX hbl hbA hS (lw_vin hL hi 1 (by omega)) dL_law_1251 ?_
  refine lw_callC [.int (xs (nI i + 1).toNatClampNeg)] [] hk hx hb hml hl.1 hown hts dL_law_1252 mfX6_tell lkL_155 miX6_tell msX6_tell rfl rfl rfl (by decide) X (jTell (d := 200) (e := 200) (by omega) (by omega) hR) (fun v τ2 H1 locs1 hv X1 => ?_)
  obtain ⟨r, rfl, hm⟩ := hv
  have hS := X1.2.2.2.2.2.2.2.1
  show W p l e room_1 s m #[Value.ref b] below meth c H1 locs1 kc ks (lw_Z below #[Value.ref b] s) (F0 m 1255 ls [.int r])
  refine lv_aload_n hx hb dL_law_1255 rfl (lv_at hl 1 rfl) ?_
  refine lv_aload_n hx hb dL_law_1256 rfl (lv_at hl 3 rfl) ?_
  refine lv_iload_n hx hb dL_law_1257 rfl (lv_at hl 0 rfl) ?_
  refine lv_iconst (v := 1) hx hb dL_law_1258 (by decide) ?_
  refine lv_iadd hx hb dL_law_1259 ?_
  refine va_sld hx hb hX hbl hbA hS (lw_vin hL hi 1 (by omega)) dL_law_1260 ?_
  refine lw_callM [.int (xs (nI i + 1).toNatClampNeg)] [.int r] hk hx hb hml hl.1 hown hts dL_law_1261 mfX7_tell lkL_158 miX7_tell msX7_tell rfl rfl rfl (Nat.le_of_ble_eq_true rfl) X1 hm (fun w σ2 H2 locs2 hw X2 => ?_)
  obtain ⟨rfl, hR2⟩ := hw
  show W p l e room_1 s m #[Value.ref b] below meth c H2 locs2 kc ks (lw_Z below #[Value.ref b] s) (F0 m 1264 ls [.int r, .int r])
  exact lv_icmp_eq (tgt := 1328) hx hb dL_law_1264 (by decide) (fun _ => kk τ2 σ2 H2 locs2 X2 hR2) (fun z => absurd rfl z)
set_option maxHeartbeats 2000000 in
theorem lc_check (hL : L ≤ 3072) (hi : i + 6 ≤ L) (hk : kc ≤ 600000 ∧ ks ≤ 7302250) (C0 : lw_At p s m meth c b L xs) (hl : lv_has ls 4 [(3, .int (nI i)), (2, .ref (ad2 0)), (1, .ref (ad1 0)), (0, .ref b)]) (X : lwS s H locs D cA ad1 ad2 τ σ) (hR : R τ σ)
    (kk : ∀ τ2 σ2 H1 locs1, lwS s H1 locs1 D cA ad1 ad2 τ2 σ2 → R τ2 σ2 → W p l e room_1 s m #[Value.ref b] below meth c H1 locs1 kc ks (lw_Z below #[Value.ref b] s) (F0 m 1328 ls [])) : W p l e room_1 s m #[Value.ref b] below meth c H locs kc ks (lw_Z below #[Value.ref b] s) (F0 m 1269 ls []) := by
  obtain ⟨hx, hb, hr, hml, hown, hts0, hX, hbl, hlocks, hgv⟩ := id C0
  have hts : ∀ w ∈ sk_ALL, w.before #[Value.ref b] s = true := fun w hw => hts0 w (sk_in_tbl w hw)
  have hbA : ¬ (fun q : Nat => s.heap.size ≤ q) b := Nat.not_le.mpr hbl
  have hS := X.2.2.2.2.2.2.2.1
  refine lv_aload_n hx hb dL_law_1269 rfl (lv_at hl 2 rfl) ?_
  refine lw_callC [] [] hk hx hb hml hl.1 hown hts dL_law_1270 mfX6_check lkL_159 miX6_check msX6_check rfl rfl rfl (by decide) X (jCheck (d := 200) (e := 200) (by omega) (by omega) hR) (fun v τ2 H1 locs1 hv X1 => ?_)
  obtain ⟨r, rfl, hm⟩ := hv
  have hS := X1.2.2.2.2.2.2.2.1
  show W p l e room_1 s m #[Value.ref b] below meth c H1 locs1 kc ks (lw_Z below #[Value.ref b] s) (F0 m 1273 ls [.int r])
  refine lv_aload_n hx hb dL_law_1273 rfl (lv_at hl 1 rfl) ?_
  refine lw_callM [] [.int r] hk hx hb hml hl.1 hown hts dL_law_1274 mfX7_check lkL_162 miX7_check msX7_check rfl rfl rfl (Nat.le_of_ble_eq_true rfl) X1 hm (fun w σ2 H2 locs2 hw X2 => ?_)
  obtain ⟨rfl, hR2⟩ := hw
  show W p l e room_1 s m #[Value.ref b] below meth c H2 locs2 kc ks (lw_Z below #[Value.ref b] s) (F0 m 1277 ls [.int r, .int r])
  exact lv_icmp_eq (tgt := 1328) hx hb dL_law_1277 (by decide) (fun _ => kk τ2 σ2 H2 locs2 X2 hR2) (fun z => absurd rfl z)
set_option maxHeartbeats 2000000 in
theorem lc_count (hL : L ≤ 3072) (hi : i + 6 ≤ L) (hk : kc ≤ 600000 ∧ ks ≤ 7302250) (C0 : lw_At p s m meth c b L xs) (hl : lv_has ls 4 [(3, .int (nI i)), (2, .ref (ad2 0)), (1, .ref (ad1 0)), (0, .ref b)]) (X : lwS s H locs D cA ad1 ad2 τ σ) (hR : R τ σ)
    (kk : ∀ τ2 σ2 H1 locs1, lwS s H1 locs1 D cA ad1 ad2 τ2 σ2 → R τ2 σ2 → W p l e room_1 s m #[Value.ref b] below meth c H1 locs1 kc ks (lw_Z below #[Value.ref b] s) (F0 m 1328 ls [])) : W p l e room_1 s m #[Value.ref b] below meth c H locs kc ks (lw_Z below #[Value.ref b] s) (F0 m 1282 ls []) := by
  obtain ⟨hx, hb, hr, hml, hown, hts0, hX, hbl, hlocks, hgv⟩ := id C0
  have hts : ∀ w ∈ sk_ALL, w.before #[Value.ref b] s = true := fun w hw => hts0 w (sk_in_tbl w hw)
  have hbA : ¬ (fun q : Nat => s.heap.size ≤ q) b := Nat.not_le.mpr hbl
  have hS := X.2.2.2.2.2.2.2.1
  refine lv_aload_n hx hb dL_law_1282 rfl (lv_at hl 2 rfl) ?_
  refine lv_aload_n hx hb dL_law_1283 rfl (lv_at hl 3 rfl) ?_
  refine lv_iload_n hx hb dL_law_1284 rfl (lv_at hl 0 rfl) ?_
  refine lv_iconst (v := 1) hx hb dL_law_1285 (by decide) ?_
  refine lv_iadd hx hb dL_law_1286 ?_
  refine va_sld hx hb hX hbl hbA hS (lw_vin hL hi 1 (by omega)) dL_law_1287 ?_
  refine lw_callC [.int (xs (nI i + 1).toNatClampNeg)] [] hk hx hb hml hl.1 hown hts dL_law_1288 mfX6_count lkL_163 miX6_count msX6_count rfl rfl rfl (by decide) X (jCount (d := 200) (e := 200) (by omega) (by omega) hR) (fun v τ2 H1 locs1 hv X1 => ?_)
  obtain ⟨r, rfl, hm⟩ := hv
  have hS := X1.2.2.2.2.2.2.2.1
  show W p l e room_1 s m #[Value.ref b] below meth c H1 locs1 kc ks (lw_Z below #[Value.ref b] s) (F0 m 1291 ls [.int r])
  refine lv_aload_n hx hb dL_law_1291 rfl (lv_at hl 1 rfl) ?_
  refine lv_aload_n hx hb dL_law_1292 rfl (lv_at hl 3 rfl) ?_
  refine lv_iload_n hx hb dL_law_1293 rfl (lv_at hl 0 rfl) ?_
  refine lv_iconst (v := 1) hx hb dL_law_1294 (by decide) ?_
  refine lv_iadd hx hb dL_law_1295 ?_
  refine va_sld hx hb hX hbl hbA hS (lw_vin hL hi 1 (by omega)) dL_law_1296 ?_
  refine lw_callM [.int (xs (nI i + 1).toNatClampNeg)] [.int r] hk hx hb hml hl.1 hown hts dL_law_1297 mfX7_count lkL_166 miX7_count msX7_count rfl rfl rfl (Nat.le_of_ble_eq_true rfl) X1 hm (fun w σ2 H2 locs2 hw X2 => ?_)
  obtain ⟨rfl, hR2⟩ := hw
  show W p l e room_1 s m #[Value.ref b] below meth c H2 locs2 kc ks (lw_Z below #[Value.ref b] s) (F0 m 1300 ls [.int r, .int r])
  exact lv_icmp_eq (tgt := 1328) hx hb dL_law_1300 (by decide) (fun _ => kk τ2 σ2 H2 locs2 X2 hR2) (fun z => absurd rfl z)
set_option maxHeartbeats 2000000 in
theorem lc_told (hL : L ≤ 3072) (hi : i + 6 ≤ L) (hk : kc ≤ 600000 ∧ ks ≤ 7302250) (C0 : lw_At p s m meth c b L xs) (hl : lv_has ls 4 [(3, .int (nI i)), (2, .ref (ad2 0)), (1, .ref (ad1 0)), (0, .ref b)]) (X : lwS s H locs D cA ad1 ad2 τ σ) (hR : R τ σ)
    (kk : ∀ τ2 σ2 H1 locs1, lwS s H1 locs1 D cA ad1 ad2 τ2 σ2 → R τ2 σ2 → W p l e room_1 s m #[Value.ref b] below meth c H1 locs1 kc ks (lw_Z below #[Value.ref b] s) (F0 m 1328 ls [])) : W p l e room_1 s m #[Value.ref b] below meth c H locs kc ks (lw_Z below #[Value.ref b] s) (F0 m 1305 ls []) := by
  obtain ⟨hx, hb, hr, hml, hown, hts0, hX, hbl, hlocks, hgv⟩ := id C0
  have hts : ∀ w ∈ sk_ALL, w.before #[Value.ref b] s = true := fun w hw => hts0 w (sk_in_tbl w hw)
  have hbA : ¬ (fun q : Nat => s.heap.size ≤ q) b := Nat.not_le.mpr hbl
  have hS := X.2.2.2.2.2.2.2.1
  refine lv_aload_n hx hb dL_law_1305 rfl (lv_at hl 2 rfl) ?_
  refine lv_aload_n hx hb dL_law_1306 rfl (lv_at hl 3 rfl) ?_
  refine lv_iload_n hx hb dL_law_1307 rfl (lv_at hl 0 rfl) ?_
  refine lv_iconst (v := 1) hx hb dL_law_1308 (by decide) ?_
  refine lv_iadd hx hb dL_law_1309 ?_
  refine va_sld hx hb hX hbl hbA hS (lw_vin hL hi 1 (by omega)) dL_law_1310 ?_
  refine lw_callC [.int (xs (nI i + 1).toNatClampNeg)] [] hk hx hb hml hl.1 hown hts dL_law_1311 mfX6_told lkL_167 miX6_told msX6_told rfl rfl rfl (by decide) X (jTold (d := 200) (e := 200) (by omega) (by omega) hR) (fun v τ2 H1 locs1 hv X1 => ?_)
  obtain ⟨r, rfl, hm⟩ := hv
  have hS := X1.2.2.2.2.2.2.2.1
  show W p l e room_1 s m #[Value.ref b] below meth c H1 locs1 kc ks (lw_Z below #[Value.ref b] s) (F0 m 1314 ls [.int r])
  refine lv_aload_n hx hb dL_law_1314 rfl (lv_at hl 1 rfl) ?_
  refine lv_aload_n hx hb dL_law_1315 rfl (lv_at hl 3 rfl) ?_
  refine lv_iload_n hx hb dL_law_1316 rfl (lv_at hl 0 rfl) ?_
  refine lv_iconst (v := 1) hx hb dL_law_1317 (by decide) ?_
  refine lv_iadd hx hb dL_law_1318 ?_
  refine va_sld hx hb hX hbl hbA hS (lw_vin hL hi 1 (by omega)) dL_law_1319 ?_
  refine lw_callM [.int (xs (nI i + 1).toNatClampNeg)] [.int r] hk hx hb hml hl.1 hown hts dL_law_1320 mfX7_told lkL_170 miX7_told msX7_told rfl rfl rfl (Nat.le_of_ble_eq_true rfl) X1 hm (fun w σ2 H2 locs2 hw X2 => ?_)
  obtain ⟨rfl, hR2⟩ := hw
  show W p l e room_1 s m #[Value.ref b] below meth c H2 locs2 kc ks (lw_Z below #[Value.ref b] s) (F0 m 1323 ls [.int r, .int r])
  exact lv_icmp_eq (tgt := 1328) hx hb dL_law_1323 (by decide) (fun _ => kk τ2 σ2 H2 locs2 X2 hR2) (fun z => absurd rfl z)
end
