/-! the law's cases -/
set_option maxHeartbeats 4000000 in
theorem lc_0 {p : Program} {l : Launch} {e : Env} {s : State} {m : MethodId} {below : List Frame} {meth : Method} {c : Code} {b L : Nat} {xs : Nat → Int32} {cI cZ cQ cG cJ : ClassId} {dC : Nat → ClassId} {dI : Nat → Nat → Nat} {ad : Nat → Nat} {ho sa : Nat} {h : zH} {H : Heap} {locs : List Loc} {cells slots i : Nat} {Q : State → Prop} {ls : Array Slot} (C0 : lw_At p s m meth c b L xs) (X : lwK l cI cZ cQ cG cJ dC dI ad ho sa s) (hI : lwI cI cZ cQ cG cJ dC dI ad ho s h H locs) (hsn : r0 h) (lw_c : cells + 10 ≤ 601024) (lw_s : slots + 100 ≤ 7293034) (hi : ∀ k : Nat, k ≤ 5 → vp_in (nI i + Int32.ofNat k) L) (hl : lv_has ls 7 [(4, .int (nI i)), (3, .ref ho), (2, .ref (ad 440)), (1, .ref (ad 406)), (0, .ref b)]) (kk : ∀ (h : zH) (H : Heap) (locs : List Loc) (ls : Array Slot), lwI cI cZ cQ cG cJ dC dI ad ho s h H locs → r0 h → lv_has ls 7 [(4, .int (nI i)), (3, .ref ho), (2, .ref (ad 440)), (1, .ref (ad 406)), (0, .ref b)] → W p l e room_1 s m #[Value.ref b] below meth c H locs (cells + 10) (slots + 100) Q (F0 m 1535 ls [])) : W p l e room_1 s m #[Value.ref b] below meth c H locs cells slots Q (F0 m 216 ls []) := by
  obtain ⟨hx, hb, hr, hml, hown0, hts0, hX, hbl, hlocks, hgv⟩ := id C0
  have hown : s.vm.findClass RL = some m.cls := hown0
  have hbA : ¬ (s.heap.size ≤ b) := Nat.not_le.mpr hbl
  refine lv_aload_n hx hb dL_law_216 rfl (lv_at hl 3 rfl) ?_
  refine lv_aload_n hx hb dL_law_217 rfl (lv_at hl 4 rfl) ?_
  refine lv_iload hx hb dL_law_218 (lv_at hl 0 rfl) ?_
  refine lv_iconst (v := 1) hx hb dL_law_220 (by decide) ?_
  refine lv_iadd hx hb dL_law_221 ?_
  refine va_sld (i := nI i + 1) hx hb hX hbl hbA hI.2.2.1 (hi 1 (by decide)) dL_law_222 ?_
  refine lv_aload_n hx hb dL_law_223 rfl (lv_at hl 4 rfl) ?_
  refine lv_iload hx hb dL_law_224 (lv_at hl 0 rfl) ?_
  refine lv_iconst (v := 2) hx hb dL_law_226 (by decide) ?_
  refine lv_iadd hx hb dL_law_227 ?_
  refine va_sld (i := nI i + 2) hx hb hX hbl hbA hI.2.2.1 (hi 2 (by decide)) dL_law_228 ?_
  refine lv_aload_n hx hb dL_law_229 rfl (lv_at hl 4 rfl) ?_
  refine lv_iload hx hb dL_law_230 (lv_at hl 0 rfl) ?_
  refine lv_iconst (v := 3) hx hb dL_law_232 (by decide) ?_
  refine lv_iadd hx hb dL_law_233 ?_
  refine va_sld (i := nI i + 3) hx hb hX hbl hbA hI.2.2.1 (hi 3 (by decide)) dL_law_234 ?_
  refine lv_aload_n hx hb dL_law_235 rfl (lv_at hl 4 rfl) ?_
  refine lv_iload hx hb dL_law_236 (lv_at hl 0 rfl) ?_
  refine lv_iconst (v := 4) hx hb dL_law_238 (by decide) ?_
  refine lv_iadd hx hb dL_law_239 ?_
  refine va_sld (i := nI i + 4) hx hb hX hbl hbA hI.2.2.1 (hi 4 (by decide)) dL_law_240 ?_
  refine lv_aload_n hx hb dL_law_241 rfl (lv_at hl 4 rfl) ?_
  refine lv_iload hx hb dL_law_242 (lv_at hl 0 rfl) ?_
  refine lv_iconst (v := 5) hx hb dL_law_244 (by decide) ?_
  refine lv_iadd hx hb dL_law_245 ?_
  refine va_sld (i := nI i + 5) hx hb hX hbl hbA hI.2.2.1 (hi 5 (by decide)) dL_law_246 ?_
  obtain ⟨h0, m1, x1, h1, m2, y1, h2, e0, i0, n1, i1, n2, i2, hR, hC⟩ := pr_feed hI.2.1 hsn (xs (nI i + 1).toNatClampNeg) (xs (nI i + 2).toNatClampNeg) (xs (nI i + 3).toNatClampNeg) (xs (nI i + 4).toNatClampNeg) (xs (nI i + 5).toNatClampNeg)
  have hC : x1 = y1 := hC
  subst hC
  have hI := lwI_cong hI e0 i0
  refine lw_call C0 X hI (by omega) (by omega) (as := [.inl (xs (nI i + 1).toNatClampNeg), .inl (xs (nI i + 2).toNatClampNeg), .inl (xs (nI i + 3).toNatClampNeg), .inl (xs (nI i + 4).toNatClampNeg), .inl (xs (nI i + 5).toNatClampNeg)]) (na := 6) (kc := 11) (rest := []) n1 i1 (by decide +kernel) (by decide) (yWat_in (i := 454) (by decide +kernel)) rfl rfl (Nat.le_of_ble_eq_true rfl) dL_law_247 rfl (Nat.le_of_ble_eq_true rfl) hl.1 (fun H locs hI => ?_)
  refine lv_aload_n hx hb dL_law_250 rfl (lv_at hl 2 rfl) ?_
  refine lv_aload_n hx hb dL_law_251 rfl (lv_at hl 4 rfl) ?_
  refine lv_iload hx hb dL_law_252 (lv_at hl 0 rfl) ?_
  refine lv_iconst (v := 1) hx hb dL_law_254 (by decide) ?_
  refine lv_iadd hx hb dL_law_255 ?_
  refine va_sld (i := nI i + 1) hx hb hX hbl hbA hI.2.2.1 (hi 1 (by decide)) dL_law_256 ?_
  refine lv_aload_n hx hb dL_law_257 rfl (lv_at hl 4 rfl) ?_
  refine lv_iload hx hb dL_law_258 (lv_at hl 0 rfl) ?_
  refine lv_iconst (v := 2) hx hb dL_law_260 (by decide) ?_
  refine lv_iadd hx hb dL_law_261 ?_
  refine va_sld (i := nI i + 2) hx hb hX hbl hbA hI.2.2.1 (hi 2 (by decide)) dL_law_262 ?_
  refine lv_aload_n hx hb dL_law_263 rfl (lv_at hl 4 rfl) ?_
  refine lv_iload hx hb dL_law_264 (lv_at hl 0 rfl) ?_
  refine lv_iconst (v := 3) hx hb dL_law_266 (by decide) ?_
  refine lv_iadd hx hb dL_law_267 ?_
  refine va_sld (i := nI i + 3) hx hb hX hbl hbA hI.2.2.1 (hi 3 (by decide)) dL_law_268 ?_
  refine lv_aload_n hx hb dL_law_269 rfl (lv_at hl 4 rfl) ?_
  refine lv_iload hx hb dL_law_270 (lv_at hl 0 rfl) ?_
  refine lv_iconst (v := 4) hx hb dL_law_272 (by decide) ?_
  refine lv_iadd hx hb dL_law_273 ?_
  refine va_sld (i := nI i + 4) hx hb hX hbl hbA hI.2.2.1 (hi 4 (by decide)) dL_law_274 ?_
  refine lv_aload_n hx hb dL_law_275 rfl (lv_at hl 4 rfl) ?_
  refine lv_iload hx hb dL_law_276 (lv_at hl 0 rfl) ?_
  refine lv_iconst (v := 5) hx hb dL_law_278 (by decide) ?_
  refine lv_iadd hx hb dL_law_279 ?_
  refine va_sld (i := nI i + 5) hx hb hX hbl hbA hI.2.2.1 (hi 5 (by decide)) dL_law_280 ?_
  refine lw_call C0 X hI (by omega) (by omega) (as := [.inl (xs (nI i + 1).toNatClampNeg), .inl (xs (nI i + 2).toNatClampNeg), .inl (xs (nI i + 3).toNatClampNeg), .inl (xs (nI i + 4).toNatClampNeg), .inl (xs (nI i + 5).toNatClampNeg)]) (na := 6) (kc := 12) (rest := [.int x1]) n2 i2 (by decide +kernel) (by decide) (yWat_in (i := 1134) (by decide +kernel)) rfl rfl (Nat.le_of_ble_eq_true rfl) dL_law_281 rfl (Nat.le_of_ble_eq_true rfl) hl.1 (fun H locs hI => ?_)
  have hsn := hR
  refine lv_icmp_eq (tgt := 1535) hx hb dL_law_284 (by decide) (fun _ => ?_) (fun c9 => absurd rfl c9)
  exact W.widen (k := cells + 10) (n := slots + 100) (by omega) (by omega) (kk _ _ _ _ hI hsn hl)
set_option maxHeartbeats 4000000 in
theorem lc_1 {p : Program} {l : Launch} {e : Env} {s : State} {m : MethodId} {below : List Frame} {meth : Method} {c : Code} {b L : Nat} {xs : Nat → Int32} {cI cZ cQ cG cJ : ClassId} {dC : Nat → ClassId} {dI : Nat → Nat → Nat} {ad : Nat → Nat} {ho sa : Nat} {h : zH} {H : Heap} {locs : List Loc} {cells slots i : Nat} {Q : State → Prop} {ls : Array Slot} (C0 : lw_At p s m meth c b L xs) (X : lwK l cI cZ cQ cG cJ dC dI ad ho sa s) (hI : lwI cI cZ cQ cG cJ dC dI ad ho s h H locs) (hsn : r0 h) (lw_c : cells + 10 ≤ 601024) (lw_s : slots + 100 ≤ 7293034) (hi : ∀ k : Nat, k ≤ 5 → vp_in (nI i + Int32.ofNat k) L) (hl : lv_has ls 7 [(4, .int (nI i)), (3, .ref ho), (2, .ref (ad 440)), (1, .ref (ad 406)), (0, .ref b)]) (kk : ∀ (h : zH) (H : Heap) (locs : List Loc) (ls : Array Slot), lwI cI cZ cQ cG cJ dC dI ad ho s h H locs → r0 h → lv_has ls 7 [(4, .int (nI i)), (3, .ref ho), (2, .ref (ad 440)), (1, .ref (ad 406)), (0, .ref b)] → W p l e room_1 s m #[Value.ref b] below meth c H locs (cells + 10) (slots + 100) Q (F0 m 1535 ls [])) : W p l e room_1 s m #[Value.ref b] below meth c H locs cells slots Q (F0 m 289 ls []) := by
  obtain ⟨hx, hb, hr, hml, hown0, hts0, hX, hbl, hlocks, hgv⟩ := id C0
  have hown : s.vm.findClass RL = some m.cls := hown0
  have hbA : ¬ (s.heap.size ≤ b) := Nat.not_le.mpr hbl
  refine lv_aload_n hx hb dL_law_289 rfl (lv_at hl 3 rfl) ?_
  refine lv_aload_n hx hb dL_law_290 rfl (lv_at hl 4 rfl) ?_
  refine lv_iload hx hb dL_law_291 (lv_at hl 0 rfl) ?_
  refine lv_iconst (v := 1) hx hb dL_law_293 (by decide) ?_
  refine lv_iadd hx hb dL_law_294 ?_
  refine va_sld (i := nI i + 1) hx hb hX hbl hbA hI.2.2.1 (hi 1 (by decide)) dL_law_295 ?_
  obtain ⟨h0, m1, x1, h1, m2, y1, h2, e0, i0, n1, i1, n2, i2, hR, hC⟩ := pr_end hI.2.1 hsn (xs (nI i + 1).toNatClampNeg)
  have hI := lwI_cong hI e0 i0
  refine lw_call C0 X hI (by omega) (by omega) (as := [.inl (xs (nI i + 1).toNatClampNeg)]) (na := 2) (kc := 11) (rest := []) n1 i1 (by decide +kernel) (by decide) (yWat_in (i := 465) (by decide +kernel)) rfl rfl (Nat.le_of_ble_eq_true rfl) dL_law_296 rfl (Nat.le_of_ble_eq_true rfl) hl.1 (fun H locs hI => ?_)
  refine lv_pop hx hb dL_law_299 rfl ?_
  refine lv_aload_n hx hb dL_law_300 rfl (lv_at hl 2 rfl) ?_
  refine lv_aload_n hx hb dL_law_301 rfl (lv_at hl 4 rfl) ?_
  refine lv_iload hx hb dL_law_302 (lv_at hl 0 rfl) ?_
  refine lv_iconst (v := 1) hx hb dL_law_304 (by decide) ?_
  refine lv_iadd hx hb dL_law_305 ?_
  refine va_sld (i := nI i + 1) hx hb hX hbl hbA hI.2.2.1 (hi 1 (by decide)) dL_law_306 ?_
  refine lw_call C0 X hI (by omega) (by omega) (as := [.inl (xs (nI i + 1).toNatClampNeg)]) (na := 2) (kc := 12) (rest := []) n2 i2 (by decide +kernel) (by decide) (yWat_in (i := 1141) (by decide +kernel)) rfl rfl (Nat.le_of_ble_eq_true rfl) dL_law_307 rfl (Nat.le_of_ble_eq_true rfl) hl.1 (fun H locs hI => ?_)
  have hsn := hR
  refine lv_pop hx hb dL_law_310 rfl ?_
  refine lv_goto (tgt := 1535) hx hb dL_law_311 (by decide) ?_
  exact W.widen (k := cells + 10) (n := slots + 100) (by omega) (by omega) (kk _ _ _ _ hI hsn hl)
set_option maxHeartbeats 4000000 in
theorem lc_2 {p : Program} {l : Launch} {e : Env} {s : State} {m : MethodId} {below : List Frame} {meth : Method} {c : Code} {b L : Nat} {xs : Nat → Int32} {cI cZ cQ cG cJ : ClassId} {dC : Nat → ClassId} {dI : Nat → Nat → Nat} {ad : Nat → Nat} {ho sa : Nat} {h : zH} {H : Heap} {locs : List Loc} {cells slots i : Nat} {Q : State → Prop} {ls : Array Slot} (C0 : lw_At p s m meth c b L xs) (X : lwK l cI cZ cQ cG cJ dC dI ad ho sa s) (hI : lwI cI cZ cQ cG cJ dC dI ad ho s h H locs) (hsn : r0 h) (lw_c : cells + 10 ≤ 601024) (lw_s : slots + 100 ≤ 7293034) (hi : ∀ k : Nat, k ≤ 5 → vp_in (nI i + Int32.ofNat k) L) (hl : lv_has ls 7 [(4, .int (nI i)), (3, .ref ho), (2, .ref (ad 440)), (1, .ref (ad 406)), (0, .ref b)]) (kk : ∀ (h : zH) (H : Heap) (locs : List Loc) (ls : Array Slot), lwI cI cZ cQ cG cJ dC dI ad ho s h H locs → r0 h → lv_has ls 7 [(4, .int (nI i)), (3, .ref ho), (2, .ref (ad 440)), (1, .ref (ad 406)), (0, .ref b)] → W p l e room_1 s m #[Value.ref b] below meth c H locs (cells + 10) (slots + 100) Q (F0 m 1535 ls [])) : W p l e room_1 s m #[Value.ref b] below meth c H locs cells slots Q (F0 m 314 ls []) := by
  obtain ⟨hx, hb, hr, hml, hown0, hts0, hX, hbl, hlocks, hgv⟩ := id C0
  have hown : s.vm.findClass RL = some m.cls := hown0
  have hbA : ¬ (s.heap.size ≤ b) := Nat.not_le.mpr hbl
  refine lv_aload_n hx hb dL_law_314 rfl (lv_at hl 3 rfl) ?_
  refine lv_aload_n hx hb dL_law_315 rfl (lv_at hl 4 rfl) ?_
  refine lv_iload hx hb dL_law_316 (lv_at hl 0 rfl) ?_
  refine lv_iconst (v := 1) hx hb dL_law_318 (by decide) ?_
  refine lv_iadd hx hb dL_law_319 ?_
  refine va_sld (i := nI i + 1) hx hb hX hbl hbA hI.2.2.1 (hi 1 (by decide)) dL_law_320 ?_
  refine lw_pubz C0 X hI hsn (by omega) (by omega) (as := [.inl (xs (nI i + 1).toNatClampNeg)]) (na := 2) (kc := 11) (rest := []) (zP_X11_fault hI.2.1 (xs (nI i + 1).toNatClampNeg)) (by decide +kernel) (by decide) (yWat_in (i := 469) (by decide +kernel)) rfl rfl (Nat.le_of_ble_eq_true rfl) dL_law_321 rfl (Nat.le_of_ble_eq_true rfl) hl.1 (fun x9 h H locs hI hsn => ?_)
  refine lv_pop hx hb dL_law_324 rfl ?_
  refine lv_aload_n hx hb dL_law_325 rfl (lv_at hl 2 rfl) ?_
  refine lv_aload_n hx hb dL_law_326 rfl (lv_at hl 4 rfl) ?_
  refine lv_iload hx hb dL_law_327 (lv_at hl 0 rfl) ?_
  refine lv_iconst (v := 1) hx hb dL_law_329 (by decide) ?_
  refine lv_iadd hx hb dL_law_330 ?_
  refine va_sld (i := nI i + 1) hx hb hX hbl hbA hI.2.2.1 (hi 1 (by decide)) dL_law_331 ?_
  refine lw_pubz C0 X hI hsn (by omega) (by omega) (as := [.inl (xs (nI i + 1).toNatClampNeg)]) (na := 2) (kc := 12) (rest := []) (zP_X12_fault hI.2.1 (xs (nI i + 1).toNatClampNeg)) (by decide +kernel) (by decide) (yWat_in (i := 1145) (by decide +kernel)) rfl rfl (Nat.le_of_ble_eq_true rfl) dL_law_332 rfl (Nat.le_of_ble_eq_true rfl) hl.1 (fun x9 h H locs hI hsn => ?_)
  refine lv_pop hx hb dL_law_335 rfl ?_
  refine lv_goto (tgt := 1535) hx hb dL_law_336 (by decide) ?_
  exact W.widen (k := cells + 10) (n := slots + 100) (by omega) (by omega) (kk _ _ _ _ hI hsn hl)
set_option maxHeartbeats 4000000 in
theorem lc_3 {p : Program} {l : Launch} {e : Env} {s : State} {m : MethodId} {below : List Frame} {meth : Method} {c : Code} {b L : Nat} {xs : Nat → Int32} {cI cZ cQ cG cJ : ClassId} {dC : Nat → ClassId} {dI : Nat → Nat → Nat} {ad : Nat → Nat} {ho sa : Nat} {h : zH} {H : Heap} {locs : List Loc} {cells slots i : Nat} {Q : State → Prop} {ls : Array Slot} (C0 : lw_At p s m meth c b L xs) (X : lwK l cI cZ cQ cG cJ dC dI ad ho sa s) (hI : lwI cI cZ cQ cG cJ dC dI ad ho s h H locs) (hsn : r0 h) (lw_c : cells + 10 ≤ 601024) (lw_s : slots + 100 ≤ 7293034) (hi : ∀ k : Nat, k ≤ 5 → vp_in (nI i + Int32.ofNat k) L) (hl : lv_has ls 7 [(4, .int (nI i)), (3, .ref ho), (2, .ref (ad 440)), (1, .ref (ad 406)), (0, .ref b)]) (kk : ∀ (h : zH) (H : Heap) (locs : List Loc) (ls : Array Slot), lwI cI cZ cQ cG cJ dC dI ad ho s h H locs → r0 h → lv_has ls 7 [(4, .int (nI i)), (3, .ref ho), (2, .ref (ad 440)), (1, .ref (ad 406)), (0, .ref b)] → W p l e room_1 s m #[Value.ref b] below meth c H locs (cells + 10) (slots + 100) Q (F0 m 1535 ls [])) : W p l e room_1 s m #[Value.ref b] below meth c H locs cells slots Q (F0 m 339 ls []) := by
  obtain ⟨hx, hb, hr, hml, hown0, hts0, hX, hbl, hlocks, hgv⟩ := id C0
  have hown : s.vm.findClass RL = some m.cls := hown0
  have hbA : ¬ (s.heap.size ≤ b) := Nat.not_le.mpr hbl
  refine lv_aload_n hx hb dL_law_339 rfl (lv_at hl 3 rfl) ?_
  refine lv_aload_n hx hb dL_law_340 rfl (lv_at hl 4 rfl) ?_
  refine lv_iload hx hb dL_law_341 (lv_at hl 0 rfl) ?_
  refine lv_iconst (v := 1) hx hb dL_law_343 (by decide) ?_
  refine lv_iadd hx hb dL_law_344 ?_
  refine va_sld (i := nI i + 1) hx hb hX hbl hbA hI.2.2.1 (hi 1 (by decide)) dL_law_345 ?_
  obtain ⟨h0, m1, x1, h1, m2, y1, h2, e0, i0, n1, i1, n2, i2, hR, hC⟩ := pr_text hI.2.1 hsn (xs (nI i + 1).toNatClampNeg)
  have hI := lwI_cong hI e0 i0
  refine lw_call C0 X hI (by omega) (by omega) (as := [.inl (xs (nI i + 1).toNatClampNeg)]) (na := 2) (kc := 11) (rest := []) n1 i1 (by decide +kernel) (by decide) (yWat_in (i := 628) (by decide +kernel)) rfl rfl (Nat.le_of_ble_eq_true rfl) dL_law_346 rfl (Nat.le_of_ble_eq_true rfl) hl.1 (fun H locs hI => ?_)
  refine lv_pop hx hb dL_law_349 rfl ?_
  refine lv_aload_n hx hb dL_law_350 rfl (lv_at hl 2 rfl) ?_
  refine lv_aload_n hx hb dL_law_351 rfl (lv_at hl 4 rfl) ?_
  refine lv_iload hx hb dL_law_352 (lv_at hl 0 rfl) ?_
  refine lv_iconst (v := 1) hx hb dL_law_354 (by decide) ?_
  refine lv_iadd hx hb dL_law_355 ?_
  refine va_sld (i := nI i + 1) hx hb hX hbl hbA hI.2.2.1 (hi 1 (by decide)) dL_law_356 ?_
  refine lw_call C0 X hI (by omega) (by omega) (as := [.inl (xs (nI i + 1).toNatClampNeg)]) (na := 2) (kc := 12) (rest := []) n2 i2 (by decide +kernel) (by decide) (yWat_in (i := 1245) (by decide +kernel)) rfl rfl (Nat.le_of_ble_eq_true rfl) dL_law_357 rfl (Nat.le_of_ble_eq_true rfl) hl.1 (fun H locs hI => ?_)
  have hsn := hR
  refine lv_pop hx hb dL_law_360 rfl ?_
  refine lv_goto (tgt := 1535) hx hb dL_law_361 (by decide) ?_
  exact W.widen (k := cells + 10) (n := slots + 100) (by omega) (by omega) (kk _ _ _ _ hI hsn hl)
set_option maxHeartbeats 4000000 in
theorem lc_4 {p : Program} {l : Launch} {e : Env} {s : State} {m : MethodId} {below : List Frame} {meth : Method} {c : Code} {b L : Nat} {xs : Nat → Int32} {cI cZ cQ cG cJ : ClassId} {dC : Nat → ClassId} {dI : Nat → Nat → Nat} {ad : Nat → Nat} {ho sa : Nat} {h : zH} {H : Heap} {locs : List Loc} {cells slots i : Nat} {Q : State → Prop} {ls : Array Slot} (C0 : lw_At p s m meth c b L xs) (X : lwK l cI cZ cQ cG cJ dC dI ad ho sa s) (hI : lwI cI cZ cQ cG cJ dC dI ad ho s h H locs) (hsn : r0 h) (lw_c : cells + 10 ≤ 601024) (lw_s : slots + 100 ≤ 7293034) (hi : ∀ k : Nat, k ≤ 5 → vp_in (nI i + Int32.ofNat k) L) (hl : lv_has ls 7 [(4, .int (nI i)), (3, .ref ho), (2, .ref (ad 440)), (1, .ref (ad 406)), (0, .ref b)]) (kk : ∀ (h : zH) (H : Heap) (locs : List Loc) (ls : Array Slot), lwI cI cZ cQ cG cJ dC dI ad ho s h H locs → r0 h → lv_has ls 7 [(4, .int (nI i)), (3, .ref ho), (2, .ref (ad 440)), (1, .ref (ad 406)), (0, .ref b)] → W p l e room_1 s m #[Value.ref b] below meth c H locs (cells + 10) (slots + 100) Q (F0 m 1535 ls [])) : W p l e room_1 s m #[Value.ref b] below meth c H locs cells slots Q (F0 m 364 ls []) := by
  obtain ⟨hx, hb, hr, hml, hown0, hts0, hX, hbl, hlocks, hgv⟩ := id C0
  have hown : s.vm.findClass RL = some m.cls := hown0
  have hbA : ¬ (s.heap.size ≤ b) := Nat.not_le.mpr hbl
  refine lv_aload_n hx hb dL_law_364 rfl (lv_at hl 3 rfl) ?_
  refine lv_aload_n hx hb dL_law_365 rfl (lv_at hl 4 rfl) ?_
  refine lv_iload hx hb dL_law_366 (lv_at hl 0 rfl) ?_
  refine lv_iconst (v := 1) hx hb dL_law_368 (by decide) ?_
  refine lv_iadd hx hb dL_law_369 ?_
  refine va_sld (i := nI i + 1) hx hb hX hbl hbA hI.2.2.1 (hi 1 (by decide)) dL_law_370 ?_
  refine lw_pubz C0 X hI hsn (by omega) (by omega) (as := [.inl (xs (nI i + 1).toNatClampNeg)]) (na := 2) (kc := 11) (rest := []) (zP_X11_rule hI.2.1 (xs (nI i + 1).toNatClampNeg)) (by decide +kernel) (by decide) (yWat_in (i := 649) (by decide +kernel)) rfl rfl (Nat.le_of_ble_eq_true rfl) dL_law_371 rfl (Nat.le_of_ble_eq_true rfl) hl.1 (fun x9 h H locs hI hsn => ?_)
  refine lv_pop hx hb dL_law_374 rfl ?_
  refine lv_aload_n hx hb dL_law_375 rfl (lv_at hl 2 rfl) ?_
  refine lv_aload_n hx hb dL_law_376 rfl (lv_at hl 4 rfl) ?_
  refine lv_iload hx hb dL_law_377 (lv_at hl 0 rfl) ?_
  refine lv_iconst (v := 1) hx hb dL_law_379 (by decide) ?_
  refine lv_iadd hx hb dL_law_380 ?_
  refine va_sld (i := nI i + 1) hx hb hX hbl hbA hI.2.2.1 (hi 1 (by decide)) dL_law_381 ?_
  refine lw_pubz C0 X hI hsn (by omega) (by omega) (as := [.inl (xs (nI i + 1).toNatClampNeg)]) (na := 2) (kc := 12) (rest := []) (zP_X12_rule hI.2.1 (xs (nI i + 1).toNatClampNeg)) (by decide +kernel) (by decide) (yWat_in (i := 1258) (by decide +kernel)) rfl rfl (Nat.le_of_ble_eq_true rfl) dL_law_382 rfl (Nat.le_of_ble_eq_true rfl) hl.1 (fun x9 h H locs hI hsn => ?_)
  refine lv_pop hx hb dL_law_385 rfl ?_
  refine lv_goto (tgt := 1535) hx hb dL_law_386 (by decide) ?_
  exact W.widen (k := cells + 10) (n := slots + 100) (by omega) (by omega) (kk _ _ _ _ hI hsn hl)
set_option maxHeartbeats 4000000 in
theorem lc_5 {p : Program} {l : Launch} {e : Env} {s : State} {m : MethodId} {below : List Frame} {meth : Method} {c : Code} {b L : Nat} {xs : Nat → Int32} {cI cZ cQ cG cJ : ClassId} {dC : Nat → ClassId} {dI : Nat → Nat → Nat} {ad : Nat → Nat} {ho sa : Nat} {h : zH} {H : Heap} {locs : List Loc} {cells slots i : Nat} {Q : State → Prop} {ls : Array Slot} (C0 : lw_At p s m meth c b L xs) (X : lwK l cI cZ cQ cG cJ dC dI ad ho sa s) (hI : lwI cI cZ cQ cG cJ dC dI ad ho s h H locs) (hsn : r0 h) (lw_c : cells + 10 ≤ 601024) (lw_s : slots + 100 ≤ 7293034) (hi : ∀ k : Nat, k ≤ 5 → vp_in (nI i + Int32.ofNat k) L) (hl : lv_has ls 7 [(4, .int (nI i)), (3, .ref ho), (2, .ref (ad 440)), (1, .ref (ad 406)), (0, .ref b)]) (kk : ∀ (h : zH) (H : Heap) (locs : List Loc) (ls : Array Slot), lwI cI cZ cQ cG cJ dC dI ad ho s h H locs → r0 h → lv_has ls 7 [(4, .int (nI i)), (3, .ref ho), (2, .ref (ad 440)), (1, .ref (ad 406)), (0, .ref b)] → W p l e room_1 s m #[Value.ref b] below meth c H locs (cells + 10) (slots + 100) Q (F0 m 1535 ls [])) : W p l e room_1 s m #[Value.ref b] below meth c H locs cells slots Q (F0 m 389 ls []) := by
  obtain ⟨hx, hb, hr, hml, hown0, hts0, hX, hbl, hlocks, hgv⟩ := id C0
  have hown : s.vm.findClass RL = some m.cls := hown0
  have hbA : ¬ (s.heap.size ≤ b) := Nat.not_le.mpr hbl
  refine lv_aload_n hx hb dL_law_389 rfl (lv_at hl 3 rfl) ?_
  refine lv_aload_n hx hb dL_law_390 rfl (lv_at hl 4 rfl) ?_
  refine lv_iload hx hb dL_law_391 (lv_at hl 0 rfl) ?_
  refine lv_iconst (v := 1) hx hb dL_law_393 (by decide) ?_
  refine lv_iadd hx hb dL_law_394 ?_
  refine va_sld (i := nI i + 1) hx hb hX hbl hbA hI.2.2.1 (hi 1 (by decide)) dL_law_395 ?_
  refine lv_aload_n hx hb dL_law_396 rfl (lv_at hl 4 rfl) ?_
  refine lv_iload hx hb dL_law_397 (lv_at hl 0 rfl) ?_
  refine lv_iconst (v := 2) hx hb dL_law_399 (by decide) ?_
  refine lv_iadd hx hb dL_law_400 ?_
  refine va_sld (i := nI i + 2) hx hb hX hbl hbA hI.2.2.1 (hi 2 (by decide)) dL_law_401 ?_
  refine lv_aload_n hx hb dL_law_402 rfl (lv_at hl 1 rfl) ?_
  have hm6 : (h.1 376 0).toInt ≤ 6 := lw_men hI.2.1
  refine lw_man C0 X hI (by omega) (by omega) hm6 (rest := []) (p0 := xs (nI i + 1).toNatClampNeg) (p1 := xs (nI i + 2).toNatClampNeg) dL_law_403 rfl (by decide) hl.1 (fun x9 H locs hI => ?_)
  refine lv_istore (lv' := [(5, .int x9), (4, .int (nI i)), (3, .ref ho), (2, .ref (ad 440)), (1, .ref (ad 406)), (0, .ref b)]) hx hb dL_law_406 hl (by decide) rfl (fun ls hl => ?_)
  have hl : lv_has ls 7 [(4, .int (nI i)), (3, .ref ho), (2, .ref (ad 440)), (1, .ref (ad 406)), (0, .ref b)] := lv_sub hl [1, 2, 3, 4, 5] rfl
  refine lv_aload_n hx hb dL_law_408 rfl (lv_at hl 2 rfl) ?_
  refine lv_aload_n hx hb dL_law_409 rfl (lv_at hl 4 rfl) ?_
  refine lv_iload hx hb dL_law_410 (lv_at hl 0 rfl) ?_
  refine lv_iconst (v := 1) hx hb dL_law_412 (by decide) ?_
  refine lv_iadd hx hb dL_law_413 ?_
  refine va_sld (i := nI i + 1) hx hb hX hbl hbA hI.2.2.1 (hi 1 (by decide)) dL_law_414 ?_
  refine lv_aload_n hx hb dL_law_415 rfl (lv_at hl 4 rfl) ?_
  refine lv_iload hx hb dL_law_416 (lv_at hl 0 rfl) ?_
  refine lv_iconst (v := 2) hx hb dL_law_418 (by decide) ?_
  refine lv_iadd hx hb dL_law_419 ?_
  refine va_sld (i := nI i + 2) hx hb hX hbl hbA hI.2.2.1 (hi 2 (by decide)) dL_law_420 ?_
  refine lw_pubz C0 X hI hsn (by omega) (by omega) (as := [.inl (xs (nI i + 1).toNatClampNeg), .inl (xs (nI i + 2).toNatClampNeg)]) (na := 3) (kc := 12) (rest := []) (zP_X12_man hI.2.1 (xs (nI i + 1).toNatClampNeg) (xs (nI i + 2).toNatClampNeg)) (by decide +kernel) (by decide) (yWat_in (i := 1262) (by decide +kernel)) rfl rfl (Nat.le_of_ble_eq_true rfl) dL_law_421 rfl (Nat.le_of_ble_eq_true rfl) hl.1 (fun x9 h H locs hI hsn => ?_)
  refine lv_istore (lv' := [(6, .int x9), (4, .int (nI i)), (3, .ref ho), (2, .ref (ad 440)), (1, .ref (ad 406)), (0, .ref b)]) hx hb dL_law_424 hl (by decide) rfl (fun ls hl => ?_)
  have hl : lv_has ls 7 [(4, .int (nI i)), (3, .ref ho), (2, .ref (ad 440)), (1, .ref (ad 406)), (0, .ref b)] := lv_sub hl [1, 2, 3, 4, 5] rfl
  refine lv_goto (tgt := 1535) hx hb dL_law_426 (by decide) ?_
  exact W.widen (k := cells + 10) (n := slots + 100) (by omega) (by omega) (kk _ _ _ _ hI hsn hl)
set_option maxHeartbeats 4000000 in
theorem lc_6 {p : Program} {l : Launch} {e : Env} {s : State} {m : MethodId} {below : List Frame} {meth : Method} {c : Code} {b L : Nat} {xs : Nat → Int32} {cI cZ cQ cG cJ : ClassId} {dC : Nat → ClassId} {dI : Nat → Nat → Nat} {ad : Nat → Nat} {ho sa : Nat} {h : zH} {H : Heap} {locs : List Loc} {cells slots i : Nat} {Q : State → Prop} {ls : Array Slot} (C0 : lw_At p s m meth c b L xs) (X : lwK l cI cZ cQ cG cJ dC dI ad ho sa s) (hI : lwI cI cZ cQ cG cJ dC dI ad ho s h H locs) (hsn : r0 h) (lw_c : cells + 10 ≤ 601024) (lw_s : slots + 100 ≤ 7293034) (hi : ∀ k : Nat, k ≤ 5 → vp_in (nI i + Int32.ofNat k) L) (hl : lv_has ls 7 [(4, .int (nI i)), (3, .ref ho), (2, .ref (ad 440)), (1, .ref (ad 406)), (0, .ref b)]) (kk : ∀ (h : zH) (H : Heap) (locs : List Loc) (ls : Array Slot), lwI cI cZ cQ cG cJ dC dI ad ho s h H locs → r0 h → lv_has ls 7 [(4, .int (nI i)), (3, .ref ho), (2, .ref (ad 440)), (1, .ref (ad 406)), (0, .ref b)] → W p l e room_1 s m #[Value.ref b] below meth c H locs (cells + 10) (slots + 100) Q (F0 m 1535 ls [])) : W p l e room_1 s m #[Value.ref b] below meth c H locs cells slots Q (F0 m 429 ls []) := by
  obtain ⟨hx, hb, hr, hml, hown0, hts0, hX, hbl, hlocks, hgv⟩ := id C0
  have hown : s.vm.findClass RL = some m.cls := hown0
  have hbA : ¬ (s.heap.size ≤ b) := Nat.not_le.mpr hbl
  refine lv_aload_n hx hb dL_law_429 rfl (lv_at hl 3 rfl) ?_
  refine lv_aload_n hx hb dL_law_430 rfl (lv_at hl 4 rfl) ?_
  refine lv_iload hx hb dL_law_431 (lv_at hl 0 rfl) ?_
  refine lv_iconst (v := 1) hx hb dL_law_433 (by decide) ?_
  refine lv_iadd hx hb dL_law_434 ?_
  refine va_sld (i := nI i + 1) hx hb hX hbl hbA hI.2.2.1 (hi 1 (by decide)) dL_law_435 ?_
  refine lw_pubz C0 X hI hsn (by omega) (by omega) (as := [.inl (xs (nI i + 1).toNatClampNeg)]) (na := 2) (kc := 11) (rest := []) (zP_X11_law hI.2.1 (xs (nI i + 1).toNatClampNeg)) (by decide +kernel) (by decide) (yWat_in (i := 656) (by decide +kernel)) rfl rfl (Nat.le_of_ble_eq_true rfl) dL_law_436 rfl (Nat.le_of_ble_eq_true rfl) hl.1 (fun x9 h H locs hI hsn => ?_)
  refine lv_pop hx hb dL_law_439 rfl ?_
  refine lv_aload_n hx hb dL_law_440 rfl (lv_at hl 2 rfl) ?_
  refine lv_aload_n hx hb dL_law_441 rfl (lv_at hl 4 rfl) ?_
  refine lv_iload hx hb dL_law_442 (lv_at hl 0 rfl) ?_
  refine lv_iconst (v := 1) hx hb dL_law_444 (by decide) ?_
  refine lv_iadd hx hb dL_law_445 ?_
  refine va_sld (i := nI i + 1) hx hb hX hbl hbA hI.2.2.1 (hi 1 (by decide)) dL_law_446 ?_
  refine lw_pubz C0 X hI hsn (by omega) (by omega) (as := [.inl (xs (nI i + 1).toNatClampNeg)]) (na := 2) (kc := 12) (rest := []) (zP_X12_law hI.2.1 (xs (nI i + 1).toNatClampNeg)) (by decide +kernel) (by decide) (yWat_in (i := 1269) (by decide +kernel)) rfl rfl (Nat.le_of_ble_eq_true rfl) dL_law_447 rfl (Nat.le_of_ble_eq_true rfl) hl.1 (fun x9 h H locs hI hsn => ?_)
  refine lv_pop hx hb dL_law_450 rfl ?_
  refine lv_goto (tgt := 1535) hx hb dL_law_451 (by decide) ?_
  exact W.widen (k := cells + 10) (n := slots + 100) (by omega) (by omega) (kk _ _ _ _ hI hsn hl)
set_option maxHeartbeats 4000000 in
theorem lc_7 {p : Program} {l : Launch} {e : Env} {s : State} {m : MethodId} {below : List Frame} {meth : Method} {c : Code} {b L : Nat} {xs : Nat → Int32} {cI cZ cQ cG cJ : ClassId} {dC : Nat → ClassId} {dI : Nat → Nat → Nat} {ad : Nat → Nat} {ho sa : Nat} {h : zH} {H : Heap} {locs : List Loc} {cells slots i : Nat} {Q : State → Prop} {ls : Array Slot} (C0 : lw_At p s m meth c b L xs) (X : lwK l cI cZ cQ cG cJ dC dI ad ho sa s) (hI : lwI cI cZ cQ cG cJ dC dI ad ho s h H locs) (hsn : r0 h) (lw_c : cells + 10 ≤ 601024) (lw_s : slots + 100 ≤ 7293034) (hi : ∀ k : Nat, k ≤ 5 → vp_in (nI i + Int32.ofNat k) L) (hl : lv_has ls 7 [(4, .int (nI i)), (3, .ref ho), (2, .ref (ad 440)), (1, .ref (ad 406)), (0, .ref b)]) (kk : ∀ (h : zH) (H : Heap) (locs : List Loc) (ls : Array Slot), lwI cI cZ cQ cG cJ dC dI ad ho s h H locs → r0 h → lv_has ls 7 [(4, .int (nI i)), (3, .ref ho), (2, .ref (ad 440)), (1, .ref (ad 406)), (0, .ref b)] → W p l e room_1 s m #[Value.ref b] below meth c H locs (cells + 10) (slots + 100) Q (F0 m 1535 ls [])) : W p l e room_1 s m #[Value.ref b] below meth c H locs cells slots Q (F0 m 454 ls []) := by
  obtain ⟨hx, hb, hr, hml, hown0, hts0, hX, hbl, hlocks, hgv⟩ := id C0
  have hown : s.vm.findClass RL = some m.cls := hown0
  have hbA : ¬ (s.heap.size ≤ b) := Nat.not_le.mpr hbl
  refine lv_aload_n hx hb dL_law_454 rfl (lv_at hl 3 rfl) ?_
  refine lv_aload_n hx hb dL_law_455 rfl (lv_at hl 4 rfl) ?_
  refine lv_iload hx hb dL_law_456 (lv_at hl 0 rfl) ?_
  refine lv_iconst (v := 1) hx hb dL_law_458 (by decide) ?_
  refine lv_iadd hx hb dL_law_459 ?_
  refine va_sld (i := nI i + 1) hx hb hX hbl hbA hI.2.2.1 (hi 1 (by decide)) dL_law_460 ?_
  refine lv_aload_n hx hb dL_law_461 rfl (lv_at hl 4 rfl) ?_
  refine lv_iload hx hb dL_law_462 (lv_at hl 0 rfl) ?_
  refine lv_iconst (v := 2) hx hb dL_law_464 (by decide) ?_
  refine lv_iadd hx hb dL_law_465 ?_
  refine va_sld (i := nI i + 2) hx hb hX hbl hbA hI.2.2.1 (hi 2 (by decide)) dL_law_466 ?_
  refine lw_pubz C0 X hI hsn (by omega) (by omega) (as := [.inl (xs (nI i + 1).toNatClampNeg), .inl (xs (nI i + 2).toNatClampNeg)]) (na := 3) (kc := 11) (rest := []) (zP_X11_bed hI.2.1 (xs (nI i + 1).toNatClampNeg) (xs (nI i + 2).toNatClampNeg)) (by decide +kernel) (by decide) (yWat_in (i := 660) (by decide +kernel)) rfl rfl (Nat.le_of_ble_eq_true rfl) dL_law_467 rfl (Nat.le_of_ble_eq_true rfl) hl.1 (fun x9 h H locs hI hsn => ?_)
  refine lv_pop hx hb dL_law_470 rfl ?_
  refine lv_aload_n hx hb dL_law_471 rfl (lv_at hl 2 rfl) ?_
  refine lv_aload_n hx hb dL_law_472 rfl (lv_at hl 4 rfl) ?_
  refine lv_iload hx hb dL_law_473 (lv_at hl 0 rfl) ?_
  refine lv_iconst (v := 1) hx hb dL_law_475 (by decide) ?_
  refine lv_iadd hx hb dL_law_476 ?_
  refine va_sld (i := nI i + 1) hx hb hX hbl hbA hI.2.2.1 (hi 1 (by decide)) dL_law_477 ?_
  refine lv_aload_n hx hb dL_law_478 rfl (lv_at hl 4 rfl) ?_
  refine lv_iload hx hb dL_law_479 (lv_at hl 0 rfl) ?_
  refine lv_iconst (v := 2) hx hb dL_law_481 (by decide) ?_
  refine lv_iadd hx hb dL_law_482 ?_
  refine va_sld (i := nI i + 2) hx hb hX hbl hbA hI.2.2.1 (hi 2 (by decide)) dL_law_483 ?_
  refine lw_pubz C0 X hI hsn (by omega) (by omega) (as := [.inl (xs (nI i + 1).toNatClampNeg), .inl (xs (nI i + 2).toNatClampNeg)]) (na := 3) (kc := 12) (rest := []) (zP_X12_bed hI.2.1 (xs (nI i + 1).toNatClampNeg) (xs (nI i + 2).toNatClampNeg)) (by decide +kernel) (by decide) (yWat_in (i := 1273) (by decide +kernel)) rfl rfl (Nat.le_of_ble_eq_true rfl) dL_law_484 rfl (Nat.le_of_ble_eq_true rfl) hl.1 (fun x9 h H locs hI hsn => ?_)
  refine lv_pop hx hb dL_law_487 rfl ?_
  refine lv_goto (tgt := 1535) hx hb dL_law_488 (by decide) ?_
  exact W.widen (k := cells + 10) (n := slots + 100) (by omega) (by omega) (kk _ _ _ _ hI hsn hl)
set_option maxHeartbeats 4000000 in
theorem lc_8 {p : Program} {l : Launch} {e : Env} {s : State} {m : MethodId} {below : List Frame} {meth : Method} {c : Code} {b L : Nat} {xs : Nat → Int32} {cI cZ cQ cG cJ : ClassId} {dC : Nat → ClassId} {dI : Nat → Nat → Nat} {ad : Nat → Nat} {ho sa : Nat} {h : zH} {H : Heap} {locs : List Loc} {cells slots i : Nat} {Q : State → Prop} {ls : Array Slot} (C0 : lw_At p s m meth c b L xs) (X : lwK l cI cZ cQ cG cJ dC dI ad ho sa s) (hI : lwI cI cZ cQ cG cJ dC dI ad ho s h H locs) (hsn : r0 h) (lw_c : cells + 10 ≤ 601024) (lw_s : slots + 100 ≤ 7293034) (hi : ∀ k : Nat, k ≤ 5 → vp_in (nI i + Int32.ofNat k) L) (hl : lv_has ls 7 [(4, .int (nI i)), (3, .ref ho), (2, .ref (ad 440)), (1, .ref (ad 406)), (0, .ref b)]) (kk : ∀ (h : zH) (H : Heap) (locs : List Loc) (ls : Array Slot), lwI cI cZ cQ cG cJ dC dI ad ho s h H locs → r0 h → lv_has ls 7 [(4, .int (nI i)), (3, .ref ho), (2, .ref (ad 440)), (1, .ref (ad 406)), (0, .ref b)] → W p l e room_1 s m #[Value.ref b] below meth c H locs (cells + 10) (slots + 100) Q (F0 m 1535 ls [])) : W p l e room_1 s m #[Value.ref b] below meth c H locs cells slots Q (F0 m 491 ls []) := by
  obtain ⟨hx, hb, hr, hml, hown0, hts0, hX, hbl, hlocks, hgv⟩ := id C0
  have hown : s.vm.findClass RL = some m.cls := hown0
  have hbA : ¬ (s.heap.size ≤ b) := Nat.not_le.mpr hbl
  refine lv_aload_n hx hb dL_law_491 rfl (lv_at hl 3 rfl) ?_
  refine lv_aload_n hx hb dL_law_492 rfl (lv_at hl 4 rfl) ?_
  refine lv_iload hx hb dL_law_493 (lv_at hl 0 rfl) ?_
  refine lv_iconst (v := 1) hx hb dL_law_495 (by decide) ?_
  refine lv_iadd hx hb dL_law_496 ?_
  refine va_sld (i := nI i + 1) hx hb hX hbl hbA hI.2.2.1 (hi 1 (by decide)) dL_law_497 ?_
  refine lw_pubz C0 X hI hsn (by omega) (by omega) (as := [.inl (xs (nI i + 1).toNatClampNeg)]) (na := 2) (kc := 11) (rest := []) (zP_X11_train hI.2.1 (xs (nI i + 1).toNatClampNeg)) (by decide +kernel) (by decide) (yWat_in (i := 680) (by decide +kernel)) rfl rfl (Nat.le_of_ble_eq_true rfl) dL_law_498 rfl (Nat.le_of_ble_eq_true rfl) hl.1 (fun x9 h H locs hI hsn => ?_)
  refine lv_pop hx hb dL_law_501 rfl ?_
  refine lv_aload_n hx hb dL_law_502 rfl (lv_at hl 2 rfl) ?_
  refine lv_aload_n hx hb dL_law_503 rfl (lv_at hl 4 rfl) ?_
  refine lv_iload hx hb dL_law_504 (lv_at hl 0 rfl) ?_
  refine lv_iconst (v := 1) hx hb dL_law_506 (by decide) ?_
  refine lv_iadd hx hb dL_law_507 ?_
  refine va_sld (i := nI i + 1) hx hb hX hbl hbA hI.2.2.1 (hi 1 (by decide)) dL_law_508 ?_
  refine lw_pubz C0 X hI hsn (by omega) (by omega) (as := [.inl (xs (nI i + 1).toNatClampNeg)]) (na := 2) (kc := 12) (rest := []) (zP_X12_train hI.2.1 (xs (nI i + 1).toNatClampNeg)) (by decide +kernel) (by decide) (yWat_in (i := 1286) (by decide +kernel)) rfl rfl (Nat.le_of_ble_eq_true rfl) dL_law_509 rfl (Nat.le_of_ble_eq_true rfl) hl.1 (fun x9 h H locs hI hsn => ?_)
  refine lv_pop hx hb dL_law_512 rfl ?_
  refine lv_goto (tgt := 1535) hx hb dL_law_513 (by decide) ?_
  exact W.widen (k := cells + 10) (n := slots + 100) (by omega) (by omega) (kk _ _ _ _ hI hsn hl)
set_option maxHeartbeats 4000000 in
theorem lc_9 {p : Program} {l : Launch} {e : Env} {s : State} {m : MethodId} {below : List Frame} {meth : Method} {c : Code} {b L : Nat} {xs : Nat → Int32} {cI cZ cQ cG cJ : ClassId} {dC : Nat → ClassId} {dI : Nat → Nat → Nat} {ad : Nat → Nat} {ho sa : Nat} {h : zH} {H : Heap} {locs : List Loc} {cells slots i : Nat} {Q : State → Prop} {ls : Array Slot} (C0 : lw_At p s m meth c b L xs) (X : lwK l cI cZ cQ cG cJ dC dI ad ho sa s) (hI : lwI cI cZ cQ cG cJ dC dI ad ho s h H locs) (hsn : r0 h) (lw_c : cells + 10 ≤ 601024) (lw_s : slots + 100 ≤ 7293034) (hi : ∀ k : Nat, k ≤ 5 → vp_in (nI i + Int32.ofNat k) L) (hl : lv_has ls 7 [(4, .int (nI i)), (3, .ref ho), (2, .ref (ad 440)), (1, .ref (ad 406)), (0, .ref b)]) (kk : ∀ (h : zH) (H : Heap) (locs : List Loc) (ls : Array Slot), lwI cI cZ cQ cG cJ dC dI ad ho s h H locs → r0 h → lv_has ls 7 [(4, .int (nI i)), (3, .ref ho), (2, .ref (ad 440)), (1, .ref (ad 406)), (0, .ref b)] → W p l e room_1 s m #[Value.ref b] below meth c H locs (cells + 10) (slots + 100) Q (F0 m 1535 ls [])) : W p l e room_1 s m #[Value.ref b] below meth c H locs cells slots Q (F0 m 516 ls []) := by
  obtain ⟨hx, hb, hr, hml, hown0, hts0, hX, hbl, hlocks, hgv⟩ := id C0
  have hown : s.vm.findClass RL = some m.cls := hown0
  have hbA : ¬ (s.heap.size ≤ b) := Nat.not_le.mpr hbl
  refine lv_aload_n hx hb dL_law_516 rfl (lv_at hl 3 rfl) ?_
  refine lv_aload_n hx hb dL_law_517 rfl (lv_at hl 4 rfl) ?_
  refine lv_iload hx hb dL_law_518 (lv_at hl 0 rfl) ?_
  refine lv_iconst (v := 1) hx hb dL_law_520 (by decide) ?_
  refine lv_iadd hx hb dL_law_521 ?_
  refine va_sld (i := nI i + 1) hx hb hX hbl hbA hI.2.2.1 (hi 1 (by decide)) dL_law_522 ?_
  refine lw_pubz C0 X hI hsn (by omega) (by omega) (as := [.inl (xs (nI i + 1).toNatClampNeg)]) (na := 2) (kc := 11) (rest := []) (zP_X11_dull hI.2.1 (xs (nI i + 1).toNatClampNeg)) (by decide +kernel) (by decide) (yWat_in (i := 684) (by decide +kernel)) rfl rfl (Nat.le_of_ble_eq_true rfl) dL_law_523 rfl (Nat.le_of_ble_eq_true rfl) hl.1 (fun x9 h H locs hI hsn => ?_)
  refine lv_pop hx hb dL_law_526 rfl ?_
  refine lv_aload_n hx hb dL_law_527 rfl (lv_at hl 2 rfl) ?_
  refine lv_aload_n hx hb dL_law_528 rfl (lv_at hl 4 rfl) ?_
  refine lv_iload hx hb dL_law_529 (lv_at hl 0 rfl) ?_
  refine lv_iconst (v := 1) hx hb dL_law_531 (by decide) ?_
  refine lv_iadd hx hb dL_law_532 ?_
  refine va_sld (i := nI i + 1) hx hb hX hbl hbA hI.2.2.1 (hi 1 (by decide)) dL_law_533 ?_
  refine lw_pubz C0 X hI hsn (by omega) (by omega) (as := [.inl (xs (nI i + 1).toNatClampNeg)]) (na := 2) (kc := 12) (rest := []) (zP_X12_dull hI.2.1 (xs (nI i + 1).toNatClampNeg)) (by decide +kernel) (by decide) (yWat_in (i := 1290) (by decide +kernel)) rfl rfl (Nat.le_of_ble_eq_true rfl) dL_law_534 rfl (Nat.le_of_ble_eq_true rfl) hl.1 (fun x9 h H locs hI hsn => ?_)
  refine lv_pop hx hb dL_law_537 rfl ?_
  refine lv_goto (tgt := 1535) hx hb dL_law_538 (by decide) ?_
  exact W.widen (k := cells + 10) (n := slots + 100) (by omega) (by omega) (kk _ _ _ _ hI hsn hl)
set_option maxHeartbeats 4000000 in
theorem lc_10 {p : Program} {l : Launch} {e : Env} {s : State} {m : MethodId} {below : List Frame} {meth : Method} {c : Code} {b L : Nat} {xs : Nat → Int32} {cI cZ cQ cG cJ : ClassId} {dC : Nat → ClassId} {dI : Nat → Nat → Nat} {ad : Nat → Nat} {ho sa : Nat} {h : zH} {H : Heap} {locs : List Loc} {cells slots i : Nat} {Q : State → Prop} {ls : Array Slot} (C0 : lw_At p s m meth c b L xs) (X : lwK l cI cZ cQ cG cJ dC dI ad ho sa s) (hI : lwI cI cZ cQ cG cJ dC dI ad ho s h H locs) (hsn : r0 h) (lw_c : cells + 10 ≤ 601024) (lw_s : slots + 100 ≤ 7293034) (hi : ∀ k : Nat, k ≤ 5 → vp_in (nI i + Int32.ofNat k) L) (hl : lv_has ls 7 [(4, .int (nI i)), (3, .ref ho), (2, .ref (ad 440)), (1, .ref (ad 406)), (0, .ref b)]) (kk : ∀ (h : zH) (H : Heap) (locs : List Loc) (ls : Array Slot), lwI cI cZ cQ cG cJ dC dI ad ho s h H locs → r0 h → lv_has ls 7 [(4, .int (nI i)), (3, .ref ho), (2, .ref (ad 440)), (1, .ref (ad 406)), (0, .ref b)] → W p l e room_1 s m #[Value.ref b] below meth c H locs (cells + 10) (slots + 100) Q (F0 m 1535 ls [])) : W p l e room_1 s m #[Value.ref b] below meth c H locs cells slots Q (F0 m 541 ls []) := by
  obtain ⟨hx, hb, hr, hml, hown0, hts0, hX, hbl, hlocks, hgv⟩ := id C0
  have hown : s.vm.findClass RL = some m.cls := hown0
  have hbA : ¬ (s.heap.size ≤ b) := Nat.not_le.mpr hbl
  refine lv_aload_n hx hb dL_law_541 rfl (lv_at hl 3 rfl) ?_
  refine lv_aload_n hx hb dL_law_542 rfl (lv_at hl 4 rfl) ?_
  refine lv_iload hx hb dL_law_543 (lv_at hl 0 rfl) ?_
  refine lv_iconst (v := 1) hx hb dL_law_545 (by decide) ?_
  refine lv_iadd hx hb dL_law_546 ?_
  refine va_sld (i := nI i + 1) hx hb hX hbl hbA hI.2.2.1 (hi 1 (by decide)) dL_law_547 ?_
  refine lv_aload_n hx hb dL_law_548 rfl (lv_at hl 4 rfl) ?_
  refine lv_iload hx hb dL_law_549 (lv_at hl 0 rfl) ?_
  refine lv_iconst (v := 2) hx hb dL_law_551 (by decide) ?_
  refine lv_iadd hx hb dL_law_552 ?_
  refine va_sld (i := nI i + 2) hx hb hX hbl hbA hI.2.2.1 (hi 2 (by decide)) dL_law_553 ?_
  refine lw_pubz C0 X hI hsn (by omega) (by omega) (as := [.inl (xs (nI i + 1).toNatClampNeg), .inl (xs (nI i + 2).toNatClampNeg)]) (na := 3) (kc := 11) (rest := []) (zP_X11_swap hI.2.1 (xs (nI i + 1).toNatClampNeg) (xs (nI i + 2).toNatClampNeg)) (by decide +kernel) (by decide) (yWat_in (i := 688) (by decide +kernel)) rfl rfl (Nat.le_of_ble_eq_true rfl) dL_law_554 rfl (Nat.le_of_ble_eq_true rfl) hl.1 (fun x9 h H locs hI hsn => ?_)
  refine lv_pop hx hb dL_law_557 rfl ?_
  refine lv_aload_n hx hb dL_law_558 rfl (lv_at hl 2 rfl) ?_
  refine lv_aload_n hx hb dL_law_559 rfl (lv_at hl 4 rfl) ?_
  refine lv_iload hx hb dL_law_560 (lv_at hl 0 rfl) ?_
  refine lv_iconst (v := 1) hx hb dL_law_562 (by decide) ?_
  refine lv_iadd hx hb dL_law_563 ?_
  refine va_sld (i := nI i + 1) hx hb hX hbl hbA hI.2.2.1 (hi 1 (by decide)) dL_law_564 ?_
  refine lv_aload_n hx hb dL_law_565 rfl (lv_at hl 4 rfl) ?_
  refine lv_iload hx hb dL_law_566 (lv_at hl 0 rfl) ?_
  refine lv_iconst (v := 2) hx hb dL_law_568 (by decide) ?_
  refine lv_iadd hx hb dL_law_569 ?_
  refine va_sld (i := nI i + 2) hx hb hX hbl hbA hI.2.2.1 (hi 2 (by decide)) dL_law_570 ?_
  refine lw_pubz C0 X hI hsn (by omega) (by omega) (as := [.inl (xs (nI i + 1).toNatClampNeg), .inl (xs (nI i + 2).toNatClampNeg)]) (na := 3) (kc := 12) (rest := []) (zP_X12_swap hI.2.1 (xs (nI i + 1).toNatClampNeg) (xs (nI i + 2).toNatClampNeg)) (by decide +kernel) (by decide) (yWat_in (i := 1294) (by decide +kernel)) rfl rfl (Nat.le_of_ble_eq_true rfl) dL_law_571 rfl (Nat.le_of_ble_eq_true rfl) hl.1 (fun x9 h H locs hI hsn => ?_)
  refine lv_pop hx hb dL_law_574 rfl ?_
  refine lv_goto (tgt := 1535) hx hb dL_law_575 (by decide) ?_
  exact W.widen (k := cells + 10) (n := slots + 100) (by omega) (by omega) (kk _ _ _ _ hI hsn hl)
set_option maxHeartbeats 4000000 in
theorem lc_11 {p : Program} {l : Launch} {e : Env} {s : State} {m : MethodId} {below : List Frame} {meth : Method} {c : Code} {b L : Nat} {xs : Nat → Int32} {cI cZ cQ cG cJ : ClassId} {dC : Nat → ClassId} {dI : Nat → Nat → Nat} {ad : Nat → Nat} {ho sa : Nat} {h : zH} {H : Heap} {locs : List Loc} {cells slots i : Nat} {Q : State → Prop} {ls : Array Slot} (C0 : lw_At p s m meth c b L xs) (X : lwK l cI cZ cQ cG cJ dC dI ad ho sa s) (hI : lwI cI cZ cQ cG cJ dC dI ad ho s h H locs) (hsn : r0 h) (lw_c : cells + 10 ≤ 601024) (lw_s : slots + 100 ≤ 7293034) (hi : ∀ k : Nat, k ≤ 5 → vp_in (nI i + Int32.ofNat k) L) (hl : lv_has ls 7 [(4, .int (nI i)), (3, .ref ho), (2, .ref (ad 440)), (1, .ref (ad 406)), (0, .ref b)]) (kk : ∀ (h : zH) (H : Heap) (locs : List Loc) (ls : Array Slot), lwI cI cZ cQ cG cJ dC dI ad ho s h H locs → r0 h → lv_has ls 7 [(4, .int (nI i)), (3, .ref ho), (2, .ref (ad 440)), (1, .ref (ad 406)), (0, .ref b)] → W p l e room_1 s m #[Value.ref b] below meth c H locs (cells + 10) (slots + 100) Q (F0 m 1535 ls [])) : W p l e room_1 s m #[Value.ref b] below meth c H locs cells slots Q (F0 m 578 ls []) := by
  obtain ⟨hx, hb, hr, hml, hown0, hts0, hX, hbl, hlocks, hgv⟩ := id C0
  have hown : s.vm.findClass RL = some m.cls := hown0
  have hbA : ¬ (s.heap.size ≤ b) := Nat.not_le.mpr hbl
  refine lv_aload_n hx hb dL_law_578 rfl (lv_at hl 3 rfl) ?_
  refine lv_aload_n hx hb dL_law_579 rfl (lv_at hl 4 rfl) ?_
  refine lv_iload hx hb dL_law_580 (lv_at hl 0 rfl) ?_
  refine lv_iconst (v := 1) hx hb dL_law_582 (by decide) ?_
  refine lv_iadd hx hb dL_law_583 ?_
  refine va_sld (i := nI i + 1) hx hb hX hbl hbA hI.2.2.1 (hi 1 (by decide)) dL_law_584 ?_
  refine lw_pubz C0 X hI hsn (by omega) (by omega) (as := [.inl (xs (nI i + 1).toNatClampNeg)]) (na := 2) (kc := 11) (rest := []) (zP_X11_nights hI.2.1 (xs (nI i + 1).toNatClampNeg)) (by decide +kernel) (by decide) (yWat_in (i := 695) (by decide +kernel)) rfl rfl (Nat.le_of_ble_eq_true rfl) dL_law_585 rfl (Nat.le_of_ble_eq_true rfl) hl.1 (fun x9 h H locs hI hsn => ?_)
  refine lv_pop hx hb dL_law_588 rfl ?_
  refine lv_aload_n hx hb dL_law_589 rfl (lv_at hl 2 rfl) ?_
  refine lv_aload_n hx hb dL_law_590 rfl (lv_at hl 4 rfl) ?_
  refine lv_iload hx hb dL_law_591 (lv_at hl 0 rfl) ?_
  refine lv_iconst (v := 1) hx hb dL_law_593 (by decide) ?_
  refine lv_iadd hx hb dL_law_594 ?_
  refine va_sld (i := nI i + 1) hx hb hX hbl hbA hI.2.2.1 (hi 1 (by decide)) dL_law_595 ?_
  refine lw_pubz C0 X hI hsn (by omega) (by omega) (as := [.inl (xs (nI i + 1).toNatClampNeg)]) (na := 2) (kc := 12) (rest := []) (zP_X12_nights hI.2.1 (xs (nI i + 1).toNatClampNeg)) (by decide +kernel) (by decide) (yWat_in (i := 1301) (by decide +kernel)) rfl rfl (Nat.le_of_ble_eq_true rfl) dL_law_596 rfl (Nat.le_of_ble_eq_true rfl) hl.1 (fun x9 h H locs hI hsn => ?_)
  refine lv_pop hx hb dL_law_599 rfl ?_
  refine lv_goto (tgt := 1535) hx hb dL_law_600 (by decide) ?_
  exact W.widen (k := cells + 10) (n := slots + 100) (by omega) (by omega) (kk _ _ _ _ hI hsn hl)
set_option maxHeartbeats 4000000 in
theorem lc_12 {p : Program} {l : Launch} {e : Env} {s : State} {m : MethodId} {below : List Frame} {meth : Method} {c : Code} {b L : Nat} {xs : Nat → Int32} {cI cZ cQ cG cJ : ClassId} {dC : Nat → ClassId} {dI : Nat → Nat → Nat} {ad : Nat → Nat} {ho sa : Nat} {h : zH} {H : Heap} {locs : List Loc} {cells slots i : Nat} {Q : State → Prop} {ls : Array Slot} (C0 : lw_At p s m meth c b L xs) (X : lwK l cI cZ cQ cG cJ dC dI ad ho sa s) (hI : lwI cI cZ cQ cG cJ dC dI ad ho s h H locs) (hsn : r0 h) (lw_c : cells + 10 ≤ 601024) (lw_s : slots + 100 ≤ 7293034) (hi : ∀ k : Nat, k ≤ 5 → vp_in (nI i + Int32.ofNat k) L) (hl : lv_has ls 7 [(4, .int (nI i)), (3, .ref ho), (2, .ref (ad 440)), (1, .ref (ad 406)), (0, .ref b)]) (kk : ∀ (h : zH) (H : Heap) (locs : List Loc) (ls : Array Slot), lwI cI cZ cQ cG cJ dC dI ad ho s h H locs → r0 h → lv_has ls 7 [(4, .int (nI i)), (3, .ref ho), (2, .ref (ad 440)), (1, .ref (ad 406)), (0, .ref b)] → W p l e room_1 s m #[Value.ref b] below meth c H locs (cells + 10) (slots + 100) Q (F0 m 1535 ls [])) : W p l e room_1 s m #[Value.ref b] below meth c H locs cells slots Q (F0 m 603 ls []) := by
  obtain ⟨hx, hb, hr, hml, hown0, hts0, hX, hbl, hlocks, hgv⟩ := id C0
  have hown : s.vm.findClass RL = some m.cls := hown0
  have hbA : ¬ (s.heap.size ≤ b) := Nat.not_le.mpr hbl
  refine lv_aload_n hx hb dL_law_603 rfl (lv_at hl 3 rfl) ?_
  refine lv_aload_n hx hb dL_law_604 rfl (lv_at hl 4 rfl) ?_
  refine lv_iload hx hb dL_law_605 (lv_at hl 0 rfl) ?_
  refine lv_iconst (v := 1) hx hb dL_law_607 (by decide) ?_
  refine lv_iadd hx hb dL_law_608 ?_
  refine va_sld (i := nI i + 1) hx hb hX hbl hbA hI.2.2.1 (hi 1 (by decide)) dL_law_609 ?_
  refine lw_pubz C0 X hI hsn (by omega) (by omega) (as := [.inl (xs (nI i + 1).toNatClampNeg)]) (na := 2) (kc := 11) (rest := []) (zP_X11_snow hI.2.1 (xs (nI i + 1).toNatClampNeg)) (by decide +kernel) (by decide) (yWat_in (i := 747) (by decide +kernel)) rfl rfl (Nat.le_of_ble_eq_true rfl) dL_law_610 rfl (Nat.le_of_ble_eq_true rfl) hl.1 (fun x9 h H locs hI hsn => ?_)
  refine lv_pop hx hb dL_law_613 rfl ?_
  refine lv_aload_n hx hb dL_law_614 rfl (lv_at hl 2 rfl) ?_
  refine lv_aload_n hx hb dL_law_615 rfl (lv_at hl 4 rfl) ?_
  refine lv_iload hx hb dL_law_616 (lv_at hl 0 rfl) ?_
  refine lv_iconst (v := 1) hx hb dL_law_618 (by decide) ?_
  refine lv_iadd hx hb dL_law_619 ?_
  refine va_sld (i := nI i + 1) hx hb hX hbl hbA hI.2.2.1 (hi 1 (by decide)) dL_law_620 ?_
  refine lw_pubz C0 X hI hsn (by omega) (by omega) (as := [.inl (xs (nI i + 1).toNatClampNeg)]) (na := 2) (kc := 12) (rest := []) (zP_X12_snow hI.2.1 (xs (nI i + 1).toNatClampNeg)) (by decide +kernel) (by decide) (yWat_in (i := 1354) (by decide +kernel)) rfl rfl (Nat.le_of_ble_eq_true rfl) dL_law_621 rfl (Nat.le_of_ble_eq_true rfl) hl.1 (fun x9 h H locs hI hsn => ?_)
  refine lv_pop hx hb dL_law_624 rfl ?_
  refine lv_goto (tgt := 1535) hx hb dL_law_625 (by decide) ?_
  exact W.widen (k := cells + 10) (n := slots + 100) (by omega) (by omega) (kk _ _ _ _ hI hsn hl)
set_option maxHeartbeats 4000000 in
theorem lc_13 {p : Program} {l : Launch} {e : Env} {s : State} {m : MethodId} {below : List Frame} {meth : Method} {c : Code} {b L : Nat} {xs : Nat → Int32} {cI cZ cQ cG cJ : ClassId} {dC : Nat → ClassId} {dI : Nat → Nat → Nat} {ad : Nat → Nat} {ho sa : Nat} {h : zH} {H : Heap} {locs : List Loc} {cells slots i : Nat} {Q : State → Prop} {ls : Array Slot} (C0 : lw_At p s m meth c b L xs) (X : lwK l cI cZ cQ cG cJ dC dI ad ho sa s) (hI : lwI cI cZ cQ cG cJ dC dI ad ho s h H locs) (hsn : r0 h) (lw_c : cells + 10 ≤ 601024) (lw_s : slots + 100 ≤ 7293034) (hi : ∀ k : Nat, k ≤ 5 → vp_in (nI i + Int32.ofNat k) L) (hl : lv_has ls 7 [(4, .int (nI i)), (3, .ref ho), (2, .ref (ad 440)), (1, .ref (ad 406)), (0, .ref b)]) (kk : ∀ (h : zH) (H : Heap) (locs : List Loc) (ls : Array Slot), lwI cI cZ cQ cG cJ dC dI ad ho s h H locs → r0 h → lv_has ls 7 [(4, .int (nI i)), (3, .ref ho), (2, .ref (ad 440)), (1, .ref (ad 406)), (0, .ref b)] → W p l e room_1 s m #[Value.ref b] below meth c H locs (cells + 10) (slots + 100) Q (F0 m 1535 ls [])) : W p l e room_1 s m #[Value.ref b] below meth c H locs cells slots Q (F0 m 628 ls []) := by
  obtain ⟨hx, hb, hr, hml, hown0, hts0, hX, hbl, hlocks, hgv⟩ := id C0
  have hown : s.vm.findClass RL = some m.cls := hown0
  have hbA : ¬ (s.heap.size ≤ b) := Nat.not_le.mpr hbl
  refine lv_aload_n hx hb dL_law_628 rfl (lv_at hl 3 rfl) ?_
  refine lv_aload_n hx hb dL_law_629 rfl (lv_at hl 4 rfl) ?_
  refine lv_iload hx hb dL_law_630 (lv_at hl 0 rfl) ?_
  refine lv_iconst (v := 1) hx hb dL_law_632 (by decide) ?_
  refine lv_iadd hx hb dL_law_633 ?_
  refine va_sld (i := nI i + 1) hx hb hX hbl hbA hI.2.2.1 (hi 1 (by decide)) dL_law_634 ?_
  refine lv_aload_n hx hb dL_law_635 rfl (lv_at hl 4 rfl) ?_
  refine lv_iload hx hb dL_law_636 (lv_at hl 0 rfl) ?_
  refine lv_iconst (v := 2) hx hb dL_law_638 (by decide) ?_
  refine lv_iadd hx hb dL_law_639 ?_
  refine va_sld (i := nI i + 2) hx hb hX hbl hbA hI.2.2.1 (hi 2 (by decide)) dL_law_640 ?_
  refine lv_i2l (v := (xs (nI i + 2).toNatClampNeg).toInt64) hx hb dL_law_641 rfl ?_
  refine lv_bipush (v := 32) hx hb dL_law_642 (by decide) ?_
  refine lv_lshl (v := ((xs (nI i + 2).toNatClampNeg).toInt64) <<< ((32 : Int32).toInt64 &&& 63)) hx hb dL_law_644 rfl ?_
  refine lv_aload_n hx hb dL_law_645 rfl (lv_at hl 4 rfl) ?_
  refine lv_iload hx hb dL_law_646 (lv_at hl 0 rfl) ?_
  refine lv_iconst (v := 3) hx hb dL_law_648 (by decide) ?_
  refine lv_iadd hx hb dL_law_649 ?_
  refine va_sld (i := nI i + 3) hx hb hX hbl hbA hI.2.2.1 (hi 3 (by decide)) dL_law_650 ?_
  refine lv_i2l (v := (xs (nI i + 3).toNatClampNeg).toInt64) hx hb dL_law_651 rfl ?_
  refine lv_ldc2 (own := RL) (v := (4294967295)) hx hb hown (hts0 (.constantLong RL 76 (4294967295)) (by decide +kernel)) dL_law_652 ?_
  refine lv_land hx hb dL_law_655 ?_
  refine lv_lor hx hb dL_law_656 ?_
  refine lw_pubz C0 X hI hsn (by omega) (by omega) (as := [.inl (xs (nI i + 1).toNatClampNeg), .inr (.inl ((((xs (nI i + 2).toNatClampNeg).toInt64) <<< ((32 : Int32).toInt64 &&& 63) ||| ((xs (nI i + 3).toNatClampNeg).toInt64 &&& 4294967295))))]) (na := 3) (kc := 11) (rest := []) (zP_X11_years hI.2.1 (xs (nI i + 1).toNatClampNeg) ((((xs (nI i + 2).toNatClampNeg).toInt64) <<< ((32 : Int32).toInt64 &&& 63) ||| ((xs (nI i + 3).toNatClampNeg).toInt64 &&& 4294967295)))) (by decide +kernel) (by decide) (yWat_in (i := 751) (by decide +kernel)) rfl rfl (Nat.le_of_ble_eq_true rfl) dL_law_657 rfl (Nat.le_of_ble_eq_true rfl) hl.1 (fun x9 h H locs hI hsn => ?_)
  refine lv_pop hx hb dL_law_660 rfl ?_
  refine lv_aload_n hx hb dL_law_661 rfl (lv_at hl 2 rfl) ?_
  refine lv_aload_n hx hb dL_law_662 rfl (lv_at hl 4 rfl) ?_
  refine lv_iload hx hb dL_law_663 (lv_at hl 0 rfl) ?_
  refine lv_iconst (v := 1) hx hb dL_law_665 (by decide) ?_
  refine lv_iadd hx hb dL_law_666 ?_
  refine va_sld (i := nI i + 1) hx hb hX hbl hbA hI.2.2.1 (hi 1 (by decide)) dL_law_667 ?_
  refine lv_aload_n hx hb dL_law_668 rfl (lv_at hl 4 rfl) ?_
  refine lv_iload hx hb dL_law_669 (lv_at hl 0 rfl) ?_
  refine lv_iconst (v := 2) hx hb dL_law_671 (by decide) ?_
  refine lv_iadd hx hb dL_law_672 ?_
  refine va_sld (i := nI i + 2) hx hb hX hbl hbA hI.2.2.1 (hi 2 (by decide)) dL_law_673 ?_
  refine lv_i2l (v := (xs (nI i + 2).toNatClampNeg).toInt64) hx hb dL_law_674 rfl ?_
  refine lv_bipush (v := 32) hx hb dL_law_675 (by decide) ?_
  refine lv_lshl (v := ((xs (nI i + 2).toNatClampNeg).toInt64) <<< ((32 : Int32).toInt64 &&& 63)) hx hb dL_law_677 rfl ?_
  refine lv_aload_n hx hb dL_law_678 rfl (lv_at hl 4 rfl) ?_
  refine lv_iload hx hb dL_law_679 (lv_at hl 0 rfl) ?_
  refine lv_iconst (v := 3) hx hb dL_law_681 (by decide) ?_
  refine lv_iadd hx hb dL_law_682 ?_
  refine va_sld (i := nI i + 3) hx hb hX hbl hbA hI.2.2.1 (hi 3 (by decide)) dL_law_683 ?_
  refine lv_i2l (v := (xs (nI i + 3).toNatClampNeg).toInt64) hx hb dL_law_684 rfl ?_
  refine lv_ldc2 (own := RL) (v := (4294967295)) hx hb hown (hts0 (.constantLong RL 76 (4294967295)) (by decide +kernel)) dL_law_685 ?_
  refine lv_land hx hb dL_law_688 ?_
  refine lv_lor hx hb dL_law_689 ?_
  refine lw_pubz C0 X hI hsn (by omega) (by omega) (as := [.inl (xs (nI i + 1).toNatClampNeg), .inr (.inl ((((xs (nI i + 2).toNatClampNeg).toInt64) <<< ((32 : Int32).toInt64 &&& 63) ||| ((xs (nI i + 3).toNatClampNeg).toInt64 &&& 4294967295))))]) (na := 3) (kc := 12) (rest := []) (zP_X12_years hI.2.1 (xs (nI i + 1).toNatClampNeg) ((((xs (nI i + 2).toNatClampNeg).toInt64) <<< ((32 : Int32).toInt64 &&& 63) ||| ((xs (nI i + 3).toNatClampNeg).toInt64 &&& 4294967295)))) (by decide +kernel) (by decide) (yWat_in (i := 1358) (by decide +kernel)) rfl rfl (Nat.le_of_ble_eq_true rfl) dL_law_690 rfl (Nat.le_of_ble_eq_true rfl) hl.1 (fun x9 h H locs hI hsn => ?_)
  refine lv_pop hx hb dL_law_693 rfl ?_
  refine lv_goto (tgt := 1535) hx hb dL_law_694 (by decide) ?_
  exact W.widen (k := cells + 10) (n := slots + 100) (by omega) (by omega) (kk _ _ _ _ hI hsn hl)
set_option maxHeartbeats 4000000 in
theorem lc_14 {p : Program} {l : Launch} {e : Env} {s : State} {m : MethodId} {below : List Frame} {meth : Method} {c : Code} {b L : Nat} {xs : Nat → Int32} {cI cZ cQ cG cJ : ClassId} {dC : Nat → ClassId} {dI : Nat → Nat → Nat} {ad : Nat → Nat} {ho sa : Nat} {h : zH} {H : Heap} {locs : List Loc} {cells slots i : Nat} {Q : State → Prop} {ls : Array Slot} (C0 : lw_At p s m meth c b L xs) (X : lwK l cI cZ cQ cG cJ dC dI ad ho sa s) (hI : lwI cI cZ cQ cG cJ dC dI ad ho s h H locs) (hsn : r0 h) (lw_c : cells + 10 ≤ 601024) (lw_s : slots + 100 ≤ 7293034) (hi : ∀ k : Nat, k ≤ 5 → vp_in (nI i + Int32.ofNat k) L) (hl : lv_has ls 7 [(4, .int (nI i)), (3, .ref ho), (2, .ref (ad 440)), (1, .ref (ad 406)), (0, .ref b)]) (kk : ∀ (h : zH) (H : Heap) (locs : List Loc) (ls : Array Slot), lwI cI cZ cQ cG cJ dC dI ad ho s h H locs → r0 h → lv_has ls 7 [(4, .int (nI i)), (3, .ref ho), (2, .ref (ad 440)), (1, .ref (ad 406)), (0, .ref b)] → W p l e room_1 s m #[Value.ref b] below meth c H locs (cells + 10) (slots + 100) Q (F0 m 1535 ls [])) : W p l e room_1 s m #[Value.ref b] below meth c H locs cells slots Q (F0 m 697 ls []) := by
  obtain ⟨hx, hb, hr, hml, hown0, hts0, hX, hbl, hlocks, hgv⟩ := id C0
  have hown : s.vm.findClass RL = some m.cls := hown0
  have hbA : ¬ (s.heap.size ≤ b) := Nat.not_le.mpr hbl
  refine lv_aload_n hx hb dL_law_697 rfl (lv_at hl 3 rfl) ?_
  refine lv_aload_n hx hb dL_law_698 rfl (lv_at hl 4 rfl) ?_
  refine lv_iload hx hb dL_law_699 (lv_at hl 0 rfl) ?_
  refine lv_iconst (v := 1) hx hb dL_law_701 (by decide) ?_
  refine lv_iadd hx hb dL_law_702 ?_
  refine va_sld (i := nI i + 1) hx hb hX hbl hbA hI.2.2.1 (hi 1 (by decide)) dL_law_703 ?_
  refine lw_pubz C0 X hI hsn (by omega) (by omega) (as := [.inl (xs (nI i + 1).toNatClampNeg)]) (na := 2) (kc := 11) (rest := []) (zP_X11_status hI.2.1 (xs (nI i + 1).toNatClampNeg)) (by decide +kernel) (by decide) (yWat_in (i := 766) (by decide +kernel)) rfl rfl (Nat.le_of_ble_eq_true rfl) dL_law_704 rfl (Nat.le_of_ble_eq_true rfl) hl.1 (fun x9 h H locs hI hsn => ?_)
  refine lv_pop hx hb dL_law_707 rfl ?_
  refine lv_aload_n hx hb dL_law_708 rfl (lv_at hl 2 rfl) ?_
  refine lv_aload_n hx hb dL_law_709 rfl (lv_at hl 4 rfl) ?_
  refine lv_iload hx hb dL_law_710 (lv_at hl 0 rfl) ?_
  refine lv_iconst (v := 1) hx hb dL_law_712 (by decide) ?_
  refine lv_iadd hx hb dL_law_713 ?_
  refine va_sld (i := nI i + 1) hx hb hX hbl hbA hI.2.2.1 (hi 1 (by decide)) dL_law_714 ?_
  refine lw_pubz C0 X hI hsn (by omega) (by omega) (as := [.inl (xs (nI i + 1).toNatClampNeg)]) (na := 2) (kc := 12) (rest := []) (zP_X12_status hI.2.1 (xs (nI i + 1).toNatClampNeg)) (by decide +kernel) (by decide) (yWat_in (i := 1367) (by decide +kernel)) rfl rfl (Nat.le_of_ble_eq_true rfl) dL_law_715 rfl (Nat.le_of_ble_eq_true rfl) hl.1 (fun x9 h H locs hI hsn => ?_)
  refine lv_pop hx hb dL_law_718 rfl ?_
  refine lv_goto (tgt := 1535) hx hb dL_law_719 (by decide) ?_
  exact W.widen (k := cells + 10) (n := slots + 100) (by omega) (by omega) (kk _ _ _ _ hI hsn hl)
set_option maxHeartbeats 4000000 in
theorem lc_15 {p : Program} {l : Launch} {e : Env} {s : State} {m : MethodId} {below : List Frame} {meth : Method} {c : Code} {b L : Nat} {xs : Nat → Int32} {cI cZ cQ cG cJ : ClassId} {dC : Nat → ClassId} {dI : Nat → Nat → Nat} {ad : Nat → Nat} {ho sa : Nat} {h : zH} {H : Heap} {locs : List Loc} {cells slots i : Nat} {Q : State → Prop} {ls : Array Slot} (C0 : lw_At p s m meth c b L xs) (X : lwK l cI cZ cQ cG cJ dC dI ad ho sa s) (hI : lwI cI cZ cQ cG cJ dC dI ad ho s h H locs) (hsn : r0 h) (lw_c : cells + 10 ≤ 601024) (lw_s : slots + 100 ≤ 7293034) (hi : ∀ k : Nat, k ≤ 5 → vp_in (nI i + Int32.ofNat k) L) (hl : lv_has ls 7 [(4, .int (nI i)), (3, .ref ho), (2, .ref (ad 440)), (1, .ref (ad 406)), (0, .ref b)]) (kk : ∀ (h : zH) (H : Heap) (locs : List Loc) (ls : Array Slot), lwI cI cZ cQ cG cJ dC dI ad ho s h H locs → r0 h → lv_has ls 7 [(4, .int (nI i)), (3, .ref ho), (2, .ref (ad 440)), (1, .ref (ad 406)), (0, .ref b)] → W p l e room_1 s m #[Value.ref b] below meth c H locs (cells + 10) (slots + 100) Q (F0 m 1535 ls [])) : W p l e room_1 s m #[Value.ref b] below meth c H locs cells slots Q (F0 m 722 ls []) := by
  obtain ⟨hx, hb, hr, hml, hown0, hts0, hX, hbl, hlocks, hgv⟩ := id C0
  have hown : s.vm.findClass RL = some m.cls := hown0
  have hbA : ¬ (s.heap.size ≤ b) := Nat.not_le.mpr hbl
  refine lv_aload_n hx hb dL_law_722 rfl (lv_at hl 3 rfl) ?_
  refine lw_pubz C0 X hI hsn (by omega) (by omega) (as := []) (na := 1) (kc := 11) (rest := []) (zP_X11_undo hI.2.1) (by decide +kernel) (by decide) (yWat_in (i := 770) (by decide +kernel)) rfl rfl (Nat.le_of_ble_eq_true rfl) dL_law_723 rfl (Nat.le_of_ble_eq_true rfl) hl.1 (fun x9 h H locs hI hsn => ?_)
  refine lv_pop hx hb dL_law_726 rfl ?_
  refine lv_aload_n hx hb dL_law_727 rfl (lv_at hl 2 rfl) ?_
  refine lw_pubz C0 X hI hsn (by omega) (by omega) (as := []) (na := 1) (kc := 12) (rest := []) (zP_X12_undo hI.2.1) (by decide +kernel) (by decide) (yWat_in (i := 1371) (by decide +kernel)) rfl rfl (Nat.le_of_ble_eq_true rfl) dL_law_728 rfl (Nat.le_of_ble_eq_true rfl) hl.1 (fun x9 h H locs hI hsn => ?_)
  refine lv_pop hx hb dL_law_731 rfl ?_
  refine lv_goto (tgt := 1535) hx hb dL_law_732 (by decide) ?_
  exact W.widen (k := cells + 10) (n := slots + 100) (by omega) (by omega) (kk _ _ _ _ hI hsn hl)
set_option maxHeartbeats 4000000 in
theorem lc_16 {p : Program} {l : Launch} {e : Env} {s : State} {m : MethodId} {below : List Frame} {meth : Method} {c : Code} {b L : Nat} {xs : Nat → Int32} {cI cZ cQ cG cJ : ClassId} {dC : Nat → ClassId} {dI : Nat → Nat → Nat} {ad : Nat → Nat} {ho sa : Nat} {h : zH} {H : Heap} {locs : List Loc} {cells slots i : Nat} {Q : State → Prop} {ls : Array Slot} (C0 : lw_At p s m meth c b L xs) (X : lwK l cI cZ cQ cG cJ dC dI ad ho sa s) (hI : lwI cI cZ cQ cG cJ dC dI ad ho s h H locs) (hsn : r0 h) (lw_c : cells + 10 ≤ 601024) (lw_s : slots + 100 ≤ 7293034) (hi : ∀ k : Nat, k ≤ 5 → vp_in (nI i + Int32.ofNat k) L) (hl : lv_has ls 7 [(4, .int (nI i)), (3, .ref ho), (2, .ref (ad 440)), (1, .ref (ad 406)), (0, .ref b)]) (kk : ∀ (h : zH) (H : Heap) (locs : List Loc) (ls : Array Slot), lwI cI cZ cQ cG cJ dC dI ad ho s h H locs → r0 h → lv_has ls 7 [(4, .int (nI i)), (3, .ref ho), (2, .ref (ad 440)), (1, .ref (ad 406)), (0, .ref b)] → W p l e room_1 s m #[Value.ref b] below meth c H locs (cells + 10) (slots + 100) Q (F0 m 1535 ls [])) : W p l e room_1 s m #[Value.ref b] below meth c H locs cells slots Q (F0 m 735 ls []) := by
  obtain ⟨hx, hb, hr, hml, hown0, hts0, hX, hbl, hlocks, hgv⟩ := id C0
  have hown : s.vm.findClass RL = some m.cls := hown0
  have hbA : ¬ (s.heap.size ≤ b) := Nat.not_le.mpr hbl
  refine lv_aload_n hx hb dL_law_735 rfl (lv_at hl 3 rfl) ?_
  refine lv_aload_n hx hb dL_law_736 rfl (lv_at hl 4 rfl) ?_
  refine lv_iload hx hb dL_law_737 (lv_at hl 0 rfl) ?_
  refine lv_iconst (v := 1) hx hb dL_law_739 (by decide) ?_
  refine lv_iadd hx hb dL_law_740 ?_
  refine va_sld (i := nI i + 1) hx hb hX hbl hbA hI.2.2.1 (hi 1 (by decide)) dL_law_741 ?_
  refine lv_aload_n hx hb dL_law_742 rfl (lv_at hl 4 rfl) ?_
  refine lv_iload hx hb dL_law_743 (lv_at hl 0 rfl) ?_
  refine lv_iconst (v := 2) hx hb dL_law_745 (by decide) ?_
  refine lv_iadd hx hb dL_law_746 ?_
  refine va_sld (i := nI i + 2) hx hb hX hbl hbA hI.2.2.1 (hi 2 (by decide)) dL_law_747 ?_
  refine lw_pubz C0 X hI hsn (by omega) (by omega) (as := [.inl (xs (nI i + 1).toNatClampNeg), .inl (xs (nI i + 2).toNatClampNeg)]) (na := 3) (kc := 11) (rest := []) (zP_X11_log hI.2.1 (xs (nI i + 1).toNatClampNeg) (xs (nI i + 2).toNatClampNeg)) (by decide +kernel) (by decide) (yWat_in (i := 778) (by decide +kernel)) rfl rfl (Nat.le_of_ble_eq_true rfl) dL_law_748 rfl (Nat.le_of_ble_eq_true rfl) hl.1 (fun x9 h H locs hI hsn => ?_)
  refine lv_pop hx hb dL_law_751 rfl ?_
  refine lv_aload_n hx hb dL_law_752 rfl (lv_at hl 2 rfl) ?_
  refine lv_aload_n hx hb dL_law_753 rfl (lv_at hl 4 rfl) ?_
  refine lv_iload hx hb dL_law_754 (lv_at hl 0 rfl) ?_
  refine lv_iconst (v := 1) hx hb dL_law_756 (by decide) ?_
  refine lv_iadd hx hb dL_law_757 ?_
  refine va_sld (i := nI i + 1) hx hb hX hbl hbA hI.2.2.1 (hi 1 (by decide)) dL_law_758 ?_
  refine lv_aload_n hx hb dL_law_759 rfl (lv_at hl 4 rfl) ?_
  refine lv_iload hx hb dL_law_760 (lv_at hl 0 rfl) ?_
  refine lv_iconst (v := 2) hx hb dL_law_762 (by decide) ?_
  refine lv_iadd hx hb dL_law_763 ?_
  refine va_sld (i := nI i + 2) hx hb hX hbl hbA hI.2.2.1 (hi 2 (by decide)) dL_law_764 ?_
  refine lw_pubz C0 X hI hsn (by omega) (by omega) (as := [.inl (xs (nI i + 1).toNatClampNeg), .inl (xs (nI i + 2).toNatClampNeg)]) (na := 3) (kc := 12) (rest := []) (zP_X12_log hI.2.1 (xs (nI i + 1).toNatClampNeg) (xs (nI i + 2).toNatClampNeg)) (by decide +kernel) (by decide) (yWat_in (i := 1375) (by decide +kernel)) rfl rfl (Nat.le_of_ble_eq_true rfl) dL_law_765 rfl (Nat.le_of_ble_eq_true rfl) hl.1 (fun x9 h H locs hI hsn => ?_)
  refine lv_pop hx hb dL_law_768 rfl ?_
  refine lv_goto (tgt := 1535) hx hb dL_law_769 (by decide) ?_
  exact W.widen (k := cells + 10) (n := slots + 100) (by omega) (by omega) (kk _ _ _ _ hI hsn hl)
set_option maxHeartbeats 4000000 in
theorem lc_17 {p : Program} {l : Launch} {e : Env} {s : State} {m : MethodId} {below : List Frame} {meth : Method} {c : Code} {b L : Nat} {xs : Nat → Int32} {cI cZ cQ cG cJ : ClassId} {dC : Nat → ClassId} {dI : Nat → Nat → Nat} {ad : Nat → Nat} {ho sa : Nat} {h : zH} {H : Heap} {locs : List Loc} {cells slots i : Nat} {Q : State → Prop} {ls : Array Slot} (C0 : lw_At p s m meth c b L xs) (X : lwK l cI cZ cQ cG cJ dC dI ad ho sa s) (hI : lwI cI cZ cQ cG cJ dC dI ad ho s h H locs) (hsn : r0 h) (lw_c : cells + 10 ≤ 601024) (lw_s : slots + 100 ≤ 7293034) (hi : ∀ k : Nat, k ≤ 5 → vp_in (nI i + Int32.ofNat k) L) (hl : lv_has ls 7 [(4, .int (nI i)), (3, .ref ho), (2, .ref (ad 440)), (1, .ref (ad 406)), (0, .ref b)]) (kk : ∀ (h : zH) (H : Heap) (locs : List Loc) (ls : Array Slot), lwI cI cZ cQ cG cJ dC dI ad ho s h H locs → r0 h → lv_has ls 7 [(4, .int (nI i)), (3, .ref ho), (2, .ref (ad 440)), (1, .ref (ad 406)), (0, .ref b)] → W p l e room_1 s m #[Value.ref b] below meth c H locs (cells + 10) (slots + 100) Q (F0 m 1535 ls [])) : W p l e room_1 s m #[Value.ref b] below meth c H locs cells slots Q (F0 m 772 ls []) := by
  obtain ⟨hx, hb, hr, hml, hown0, hts0, hX, hbl, hlocks, hgv⟩ := id C0
  have hown : s.vm.findClass RL = some m.cls := hown0
  have hbA : ¬ (s.heap.size ≤ b) := Nat.not_le.mpr hbl
  refine lv_aload_n hx hb dL_law_772 rfl (lv_at hl 3 rfl) ?_
  refine lv_aload_n hx hb dL_law_773 rfl (lv_at hl 4 rfl) ?_
  refine lv_iload hx hb dL_law_774 (lv_at hl 0 rfl) ?_
  refine lv_iconst (v := 1) hx hb dL_law_776 (by decide) ?_
  refine lv_iadd hx hb dL_law_777 ?_
  refine va_sld (i := nI i + 1) hx hb hX hbl hbA hI.2.2.1 (hi 1 (by decide)) dL_law_778 ?_
  refine lv_aload_n hx hb dL_law_779 rfl (lv_at hl 4 rfl) ?_
  refine lv_iload hx hb dL_law_780 (lv_at hl 0 rfl) ?_
  refine lv_iconst (v := 2) hx hb dL_law_782 (by decide) ?_
  refine lv_iadd hx hb dL_law_783 ?_
  refine va_sld (i := nI i + 2) hx hb hX hbl hbA hI.2.2.1 (hi 2 (by decide)) dL_law_784 ?_
  refine lw_pubz C0 X hI hsn (by omega) (by omega) (as := [.inl (xs (nI i + 1).toNatClampNeg), .inl (xs (nI i + 2).toNatClampNeg)]) (na := 3) (kc := 11) (rest := []) (zP_X11_sleeps hI.2.1 (xs (nI i + 1).toNatClampNeg) (xs (nI i + 2).toNatClampNeg)) (by decide +kernel) (by decide) (yWat_in (i := 786) (by decide +kernel)) rfl rfl (Nat.le_of_ble_eq_true rfl) dL_law_785 rfl (Nat.le_of_ble_eq_true rfl) hl.1 (fun x9 h H locs hI hsn => ?_)
  refine lv_pop hx hb dL_law_788 rfl ?_
  refine lv_aload_n hx hb dL_law_789 rfl (lv_at hl 2 rfl) ?_
  refine lv_aload_n hx hb dL_law_790 rfl (lv_at hl 4 rfl) ?_
  refine lv_iload hx hb dL_law_791 (lv_at hl 0 rfl) ?_
  refine lv_iconst (v := 1) hx hb dL_law_793 (by decide) ?_
  refine lv_iadd hx hb dL_law_794 ?_
  refine va_sld (i := nI i + 1) hx hb hX hbl hbA hI.2.2.1 (hi 1 (by decide)) dL_law_795 ?_
  refine lv_aload_n hx hb dL_law_796 rfl (lv_at hl 4 rfl) ?_
  refine lv_iload hx hb dL_law_797 (lv_at hl 0 rfl) ?_
  refine lv_iconst (v := 2) hx hb dL_law_799 (by decide) ?_
  refine lv_iadd hx hb dL_law_800 ?_
  refine va_sld (i := nI i + 2) hx hb hX hbl hbA hI.2.2.1 (hi 2 (by decide)) dL_law_801 ?_
  refine lw_pubz C0 X hI hsn (by omega) (by omega) (as := [.inl (xs (nI i + 1).toNatClampNeg), .inl (xs (nI i + 2).toNatClampNeg)]) (na := 3) (kc := 12) (rest := []) (zP_X12_sleeps hI.2.1 (xs (nI i + 1).toNatClampNeg) (xs (nI i + 2).toNatClampNeg)) (by decide +kernel) (by decide) (yWat_in (i := 1383) (by decide +kernel)) rfl rfl (Nat.le_of_ble_eq_true rfl) dL_law_802 rfl (Nat.le_of_ble_eq_true rfl) hl.1 (fun x9 h H locs hI hsn => ?_)
  refine lv_pop hx hb dL_law_805 rfl ?_
  refine lv_goto (tgt := 1535) hx hb dL_law_806 (by decide) ?_
  exact W.widen (k := cells + 10) (n := slots + 100) (by omega) (by omega) (kk _ _ _ _ hI hsn hl)
set_option maxHeartbeats 4000000 in
theorem lc_18 {p : Program} {l : Launch} {e : Env} {s : State} {m : MethodId} {below : List Frame} {meth : Method} {c : Code} {b L : Nat} {xs : Nat → Int32} {cI cZ cQ cG cJ : ClassId} {dC : Nat → ClassId} {dI : Nat → Nat → Nat} {ad : Nat → Nat} {ho sa : Nat} {h : zH} {H : Heap} {locs : List Loc} {cells slots i : Nat} {Q : State → Prop} {ls : Array Slot} (C0 : lw_At p s m meth c b L xs) (X : lwK l cI cZ cQ cG cJ dC dI ad ho sa s) (hI : lwI cI cZ cQ cG cJ dC dI ad ho s h H locs) (hsn : r0 h) (lw_c : cells + 10 ≤ 601024) (lw_s : slots + 100 ≤ 7293034) (hi : ∀ k : Nat, k ≤ 5 → vp_in (nI i + Int32.ofNat k) L) (hl : lv_has ls 7 [(4, .int (nI i)), (3, .ref ho), (2, .ref (ad 440)), (1, .ref (ad 406)), (0, .ref b)]) (kk : ∀ (h : zH) (H : Heap) (locs : List Loc) (ls : Array Slot), lwI cI cZ cQ cG cJ dC dI ad ho s h H locs → r0 h → lv_has ls 7 [(4, .int (nI i)), (3, .ref ho), (2, .ref (ad 440)), (1, .ref (ad 406)), (0, .ref b)] → W p l e room_1 s m #[Value.ref b] below meth c H locs (cells + 10) (slots + 100) Q (F0 m 1535 ls [])) : W p l e room_1 s m #[Value.ref b] below meth c H locs cells slots Q (F0 m 809 ls []) := by
  obtain ⟨hx, hb, hr, hml, hown0, hts0, hX, hbl, hlocks, hgv⟩ := id C0
  have hown : s.vm.findClass RL = some m.cls := hown0
  have hbA : ¬ (s.heap.size ≤ b) := Nat.not_le.mpr hbl
  refine lv_aload_n hx hb dL_law_809 rfl (lv_at hl 3 rfl) ?_
  refine lv_aload_n hx hb dL_law_810 rfl (lv_at hl 4 rfl) ?_
  refine lv_iload hx hb dL_law_811 (lv_at hl 0 rfl) ?_
  refine lv_iconst (v := 1) hx hb dL_law_813 (by decide) ?_
  refine lv_iadd hx hb dL_law_814 ?_
  refine va_sld (i := nI i + 1) hx hb hX hbl hbA hI.2.2.1 (hi 1 (by decide)) dL_law_815 ?_
  refine lv_aload_n hx hb dL_law_816 rfl (lv_at hl 4 rfl) ?_
  refine lv_iload hx hb dL_law_817 (lv_at hl 0 rfl) ?_
  refine lv_iconst (v := 2) hx hb dL_law_819 (by decide) ?_
  refine lv_iadd hx hb dL_law_820 ?_
  refine va_sld (i := nI i + 2) hx hb hX hbl hbA hI.2.2.1 (hi 2 (by decide)) dL_law_821 ?_
  refine lw_pubz C0 X hI hsn (by omega) (by omega) (as := [.inl (xs (nI i + 1).toNatClampNeg), .inl (xs (nI i + 2).toNatClampNeg)]) (na := 3) (kc := 11) (rest := []) (zP_X11_dream hI.2.1 (xs (nI i + 1).toNatClampNeg) (xs (nI i + 2).toNatClampNeg)) (by decide +kernel) (by decide) (yWat_in (i := 791) (by decide +kernel)) rfl rfl (Nat.le_of_ble_eq_true rfl) dL_law_822 rfl (Nat.le_of_ble_eq_true rfl) hl.1 (fun x9 h H locs hI hsn => ?_)
  refine lv_pop hx hb dL_law_825 rfl ?_
  refine lv_aload_n hx hb dL_law_826 rfl (lv_at hl 2 rfl) ?_
  refine lv_aload_n hx hb dL_law_827 rfl (lv_at hl 4 rfl) ?_
  refine lv_iload hx hb dL_law_828 (lv_at hl 0 rfl) ?_
  refine lv_iconst (v := 1) hx hb dL_law_830 (by decide) ?_
  refine lv_iadd hx hb dL_law_831 ?_
  refine va_sld (i := nI i + 1) hx hb hX hbl hbA hI.2.2.1 (hi 1 (by decide)) dL_law_832 ?_
  refine lv_aload_n hx hb dL_law_833 rfl (lv_at hl 4 rfl) ?_
  refine lv_iload hx hb dL_law_834 (lv_at hl 0 rfl) ?_
  refine lv_iconst (v := 2) hx hb dL_law_836 (by decide) ?_
  refine lv_iadd hx hb dL_law_837 ?_
  refine va_sld (i := nI i + 2) hx hb hX hbl hbA hI.2.2.1 (hi 2 (by decide)) dL_law_838 ?_
  refine lw_pubz C0 X hI hsn (by omega) (by omega) (as := [.inl (xs (nI i + 1).toNatClampNeg), .inl (xs (nI i + 2).toNatClampNeg)]) (na := 3) (kc := 12) (rest := []) (zP_X12_dream hI.2.1 (xs (nI i + 1).toNatClampNeg) (xs (nI i + 2).toNatClampNeg)) (by decide +kernel) (by decide) (yWat_in (i := 1379) (by decide +kernel)) rfl rfl (Nat.le_of_ble_eq_true rfl) dL_law_839 rfl (Nat.le_of_ble_eq_true rfl) hl.1 (fun x9 h H locs hI hsn => ?_)
  refine lv_pop hx hb dL_law_842 rfl ?_
  refine lv_goto (tgt := 1535) hx hb dL_law_843 (by decide) ?_
  exact W.widen (k := cells + 10) (n := slots + 100) (by omega) (by omega) (kk _ _ _ _ hI hsn hl)
set_option maxHeartbeats 4000000 in
theorem lc_19 {p : Program} {l : Launch} {e : Env} {s : State} {m : MethodId} {below : List Frame} {meth : Method} {c : Code} {b L : Nat} {xs : Nat → Int32} {cI cZ cQ cG cJ : ClassId} {dC : Nat → ClassId} {dI : Nat → Nat → Nat} {ad : Nat → Nat} {ho sa : Nat} {h : zH} {H : Heap} {locs : List Loc} {cells slots i : Nat} {Q : State → Prop} {ls : Array Slot} (C0 : lw_At p s m meth c b L xs) (X : lwK l cI cZ cQ cG cJ dC dI ad ho sa s) (hI : lwI cI cZ cQ cG cJ dC dI ad ho s h H locs) (hsn : r0 h) (lw_c : cells + 10 ≤ 601024) (lw_s : slots + 100 ≤ 7293034) (hi : ∀ k : Nat, k ≤ 5 → vp_in (nI i + Int32.ofNat k) L) (hl : lv_has ls 7 [(4, .int (nI i)), (3, .ref ho), (2, .ref (ad 440)), (1, .ref (ad 406)), (0, .ref b)]) (kk : ∀ (h : zH) (H : Heap) (locs : List Loc) (ls : Array Slot), lwI cI cZ cQ cG cJ dC dI ad ho s h H locs → r0 h → lv_has ls 7 [(4, .int (nI i)), (3, .ref ho), (2, .ref (ad 440)), (1, .ref (ad 406)), (0, .ref b)] → W p l e room_1 s m #[Value.ref b] below meth c H locs (cells + 10) (slots + 100) Q (F0 m 1535 ls [])) : W p l e room_1 s m #[Value.ref b] below meth c H locs cells slots Q (F0 m 846 ls []) := by
  obtain ⟨hx, hb, hr, hml, hown0, hts0, hX, hbl, hlocks, hgv⟩ := id C0
  have hown : s.vm.findClass RL = some m.cls := hown0
  have hbA : ¬ (s.heap.size ≤ b) := Nat.not_le.mpr hbl
  refine lv_aload_n hx hb dL_law_846 rfl (lv_at hl 3 rfl) ?_
  refine lv_aload_n hx hb dL_law_847 rfl (lv_at hl 4 rfl) ?_
  refine lv_iload hx hb dL_law_848 (lv_at hl 0 rfl) ?_
  refine lv_iconst (v := 1) hx hb dL_law_850 (by decide) ?_
  refine lv_iadd hx hb dL_law_851 ?_
  refine va_sld (i := nI i + 1) hx hb hX hbl hbA hI.2.2.1 (hi 1 (by decide)) dL_law_852 ?_
  refine lv_aload_n hx hb dL_law_853 rfl (lv_at hl 4 rfl) ?_
  refine lv_iload hx hb dL_law_854 (lv_at hl 0 rfl) ?_
  refine lv_iconst (v := 2) hx hb dL_law_856 (by decide) ?_
  refine lv_iadd hx hb dL_law_857 ?_
  refine va_sld (i := nI i + 2) hx hb hX hbl hbA hI.2.2.1 (hi 2 (by decide)) dL_law_858 ?_
  refine lw_pubz C0 X hI hsn (by omega) (by omega) (as := [.inl (xs (nI i + 1).toNatClampNeg), .inl (xs (nI i + 2).toNatClampNeg)]) (na := 3) (kc := 11) (rest := []) (zP_X11_slept hI.2.1 (xs (nI i + 1).toNatClampNeg) (xs (nI i + 2).toNatClampNeg)) (by decide +kernel) (by decide) (yWat_in (i := 795) (by decide +kernel)) rfl rfl (Nat.le_of_ble_eq_true rfl) dL_law_859 rfl (Nat.le_of_ble_eq_true rfl) hl.1 (fun x9 h H locs hI hsn => ?_)
  refine lv_pop hx hb dL_law_862 rfl ?_
  refine lv_aload_n hx hb dL_law_863 rfl (lv_at hl 2 rfl) ?_
  refine lv_aload_n hx hb dL_law_864 rfl (lv_at hl 4 rfl) ?_
  refine lv_iload hx hb dL_law_865 (lv_at hl 0 rfl) ?_
  refine lv_iconst (v := 1) hx hb dL_law_867 (by decide) ?_
  refine lv_iadd hx hb dL_law_868 ?_
  refine va_sld (i := nI i + 1) hx hb hX hbl hbA hI.2.2.1 (hi 1 (by decide)) dL_law_869 ?_
  refine lv_aload_n hx hb dL_law_870 rfl (lv_at hl 4 rfl) ?_
  refine lv_iload hx hb dL_law_871 (lv_at hl 0 rfl) ?_
  refine lv_iconst (v := 2) hx hb dL_law_873 (by decide) ?_
  refine lv_iadd hx hb dL_law_874 ?_
  refine va_sld (i := nI i + 2) hx hb hX hbl hbA hI.2.2.1 (hi 2 (by decide)) dL_law_875 ?_
  refine lw_pubz C0 X hI hsn (by omega) (by omega) (as := [.inl (xs (nI i + 1).toNatClampNeg), .inl (xs (nI i + 2).toNatClampNeg)]) (na := 3) (kc := 12) (rest := []) (zP_X12_slept hI.2.1 (xs (nI i + 1).toNatClampNeg) (xs (nI i + 2).toNatClampNeg)) (by decide +kernel) (by decide) (yWat_in (i := 1387) (by decide +kernel)) rfl rfl (Nat.le_of_ble_eq_true rfl) dL_law_876 rfl (Nat.le_of_ble_eq_true rfl) hl.1 (fun x9 h H locs hI hsn => ?_)
  refine lv_pop hx hb dL_law_879 rfl ?_
  refine lv_goto (tgt := 1535) hx hb dL_law_880 (by decide) ?_
  exact W.widen (k := cells + 10) (n := slots + 100) (by omega) (by omega) (kk _ _ _ _ hI hsn hl)
