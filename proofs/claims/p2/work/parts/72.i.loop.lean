/-! the law's loop -/
theorem lw_sub6 {L : Nat} (hL : L ≤ 3072) : (Int32.ofNat L - 6).toInt = (L : Int) - 6 := by
  rw [Int32.toInt_sub, show (Int32.ofNat L).toInt = (L : Int) from nI_toInt (by omega), show (6 : Int32).toInt = 6 from by decide]
  first
    | exact Int.bmod_eq_of_le (by omega) (by omega)
    | (unfold Int.bmod; omega)
theorem lw_in {i k L : Nat} (h : i + 6 ≤ L) (hL : L ≤ 3072) (hk : k ≤ 5) : vp_in (nI i + Int32.ofNat k) L := by
  have e : nI i + Int32.ofNat k = nI (i + k) := nI_add i k
  rw [e]
  exact nI_in (by omega) (by omega)
set_option maxHeartbeats 8000000 in
set_option maxRecDepth 100000 in
theorem lw_loop {p : Program} {l : Launch} {e : Env} {s : State} {m : MethodId} {below : List Frame} {meth : Method} {c : Code} {b L : Nat} {xs : Nat → Int32} {cI cZ cQ cG cJ : ClassId} {dC : Nat → ClassId} {dI : Nat → Nat → Nat} {ad : Nat → Nat} {ho sa : Nat} (C0 : lw_At p s m meth c b L xs) (hL : L ≤ 3072) (X : lwK l cI cZ cQ cG cJ dC dI ad ho sa s) : ∀ (n i : Nat), L ≤ i + n → i ≤ 3080 → ∀ (h : zH) (H : Heap) (locs : List Loc) (ls : Array Slot), lwI cI cZ cQ cG cJ dC dI ad ho s h H locs → r0 h → lv_has ls 7 [(4, .int (nI i)), (3, .ref ho), (2, .ref (ad 440)), (1, .ref (ad 406)), (0, .ref b)] → W p l e room_1 s m #[Value.ref b] below meth c H locs (1000 + 10 * i) (30000 + 100 * i) (lw_Z below #[Value.ref b] s) (F0 m 23 ls []) := by
  obtain ⟨hx, hb, hr, hml, hown0, hts0, hX, hbl, hlocks, hgv⟩ := id C0
  have hbA : ¬ (s.heap.size ≤ b) := Nat.not_le.mpr hbl
  intro n
  induction n with
  | zero =>
    intro i hn hi h H locs ls hI hsn hl
    refine lv_iload hx hb dL_law_23 (lv_at hl 0 rfl) ?_
    refine lv_aload_n hx hb dL_law_25 rfl (lv_at hl 4 rfl) ?_
    refine va_slen hx hb hX hbl hbA hI.2.2.1 dL_law_26 ?_
    refine lv_bipush (v := 6) hx hb dL_law_27 (by decide) ?_
    refine lv_isub hx hb dL_law_29 ?_
    refine lv_icmp_gt (tgt := 1541) hx hb dL_law_30 (by decide) (fun _ => ?_) (fun c9 => absurd (Int32.lt_iff_toInt_lt.mpr (by rw [lw_sub6 hL, nI_toInt (by omega)]; omega)) c9)
    refine lv_iconst (v := 1) hx hb dL_law_1541 (by decide) ?_
    refine va_forget (fun q hq => hI.2.2.1.2.2 q hq) ?_
    refine W.widen (k := 601024) (n := 7293034) (by omega) (by omega) ?_
    exact lw_ret hx hb hr hlocks dL_law_1542
  | succ n ih =>
    intro i hn hi h H locs ls hI hsn hl
    refine lv_iload hx hb dL_law_23 (lv_at hl 0 rfl) ?_
    refine lv_aload_n hx hb dL_law_25 rfl (lv_at hl 4 rfl) ?_
    refine va_slen hx hb hX hbl hbA hI.2.2.1 dL_law_26 ?_
    refine lv_bipush (v := 6) hx hb dL_law_27 (by decide) ?_
    refine lv_isub hx hb dL_law_29 ?_
    refine lv_icmp_gt (tgt := 1541) hx hb dL_law_30 (by decide) (fun _ => ?_) (fun c9 => ?_)
    · refine lv_iconst (v := 1) hx hb dL_law_1541 (by decide) ?_
      refine va_forget (fun q hq => hI.2.2.1.2.2 q hq) ?_
      refine W.widen (k := 601024) (n := 7293034) (by omega) (by omega) ?_
      exact lw_ret hx hb hr hlocks dL_law_1542
    have hle : i + 6 ≤ L := by
      have : ¬ ((Int32.ofNat L - 6).toInt < (nI i).toInt) := fun q => c9 (Int32.lt_iff_toInt_lt.mpr q)
      rw [lw_sub6 hL, nI_toInt (by omega)] at this
      omega
    have hin : ∀ k : Nat, k ≤ 5 → vp_in (nI i + Int32.ofNat k) L := fun k hk => lw_in hle hL hk
    have nxt : ∀ (h : zH) (H : Heap) (locs : List Loc) (ls : Array Slot), lwI cI cZ cQ cG cJ dC dI ad ho s h H locs → r0 h → lv_has ls 7 [(4, .int (nI i)), (3, .ref ho), (2, .ref (ad 440)), (1, .ref (ad 406)), (0, .ref b)] → W p l e room_1 s m #[Value.ref b] below meth c H locs (1000 + 10 * i + 10) (30000 + 100 * i + 100) (lw_Z below #[Value.ref b] s) (F0 m 1535 ls []) := by
      intro h H locs ls hI hsn hl
      refine lv_iinc (v := nI (i + 6)) (lv' := [(4, .int (nI (i + 6))), (3, .ref ho), (2, .ref (ad 440)), (1, .ref (ad 406)), (0, .ref b)]) hx hb dL_law_1535 hl (k := 0) rfl (nI_add i 6) (by decide) rfl (fun ls hl => ?_)
      refine lv_goto (tgt := 23) hx hb dL_law_1538 (by decide) ?_
      exact W.widen (by omega) (by omega) (ih (i + 6) (by omega) (by omega) h H locs ls hI hsn hl)
    refine lv_aload_n hx hb dL_law_33 rfl (lv_at hl 4 rfl) ?_
    refine lv_iload hx hb dL_law_34 (lv_at hl 0 rfl) ?_
    refine va_sld (i := nI i) hx hb hX hbl hbA hI.2.2.1 (nI_in (by omega) (by omega)) dL_law_36 ?_
    refine lv_bipush (v := 63) hx hb dL_law_37 (by decide) ?_
    refine lv_iand hx hb dL_law_39 ?_
    obtain ⟨j, hj, ej⟩ := pk_andE (xs (nI i).toNatClampNeg) (m := 63) 6 (by decide)
    rw [ej]
    match j, hj with
    | 0, _ => exact lv_tableIn (tgt := 216) (off := 176) hx hb dL_law_40 (by decide) (by decide) rfl (by decide) (lc_0 C0 X hI hsn (by omega) (by omega) hin hl nxt)
    | 1, _ => exact lv_tableIn (tgt := 289) (off := 249) hx hb dL_law_40 (by decide) (by decide) rfl (by decide) (lc_1 C0 X hI hsn (by omega) (by omega) hin hl nxt)
    | 2, _ => exact lv_tableIn (tgt := 314) (off := 274) hx hb dL_law_40 (by decide) (by decide) rfl (by decide) (lc_2 C0 X hI hsn (by omega) (by omega) hin hl nxt)
    | 3, _ => exact lv_tableIn (tgt := 339) (off := 299) hx hb dL_law_40 (by decide) (by decide) rfl (by decide) (lc_3 C0 X hI hsn (by omega) (by omega) hin hl nxt)
    | 4, _ => exact lv_tableIn (tgt := 364) (off := 324) hx hb dL_law_40 (by decide) (by decide) rfl (by decide) (lc_4 C0 X hI hsn (by omega) (by omega) hin hl nxt)
    | 5, _ => exact lv_tableIn (tgt := 389) (off := 349) hx hb dL_law_40 (by decide) (by decide) rfl (by decide) (lc_5 C0 X hI hsn (by omega) (by omega) hin hl nxt)
    | 6, _ => exact lv_tableIn (tgt := 429) (off := 389) hx hb dL_law_40 (by decide) (by decide) rfl (by decide) (lc_6 C0 X hI hsn (by omega) (by omega) hin hl nxt)
    | 7, _ => exact lv_tableIn (tgt := 454) (off := 414) hx hb dL_law_40 (by decide) (by decide) rfl (by decide) (lc_7 C0 X hI hsn (by omega) (by omega) hin hl nxt)
    | 8, _ => exact lv_tableIn (tgt := 491) (off := 451) hx hb dL_law_40 (by decide) (by decide) rfl (by decide) (lc_8 C0 X hI hsn (by omega) (by omega) hin hl nxt)
    | 9, _ => exact lv_tableIn (tgt := 516) (off := 476) hx hb dL_law_40 (by decide) (by decide) rfl (by decide) (lc_9 C0 X hI hsn (by omega) (by omega) hin hl nxt)
    | 10, _ => exact lv_tableIn (tgt := 541) (off := 501) hx hb dL_law_40 (by decide) (by decide) rfl (by decide) (lc_10 C0 X hI hsn (by omega) (by omega) hin hl nxt)
    | 11, _ => exact lv_tableIn (tgt := 578) (off := 538) hx hb dL_law_40 (by decide) (by decide) rfl (by decide) (lc_11 C0 X hI hsn (by omega) (by omega) hin hl nxt)
    | 12, _ => exact lv_tableIn (tgt := 603) (off := 563) hx hb dL_law_40 (by decide) (by decide) rfl (by decide) (lc_12 C0 X hI hsn (by omega) (by omega) hin hl nxt)
    | 13, _ => exact lv_tableIn (tgt := 628) (off := 588) hx hb dL_law_40 (by decide) (by decide) rfl (by decide) (lc_13 C0 X hI hsn (by omega) (by omega) hin hl nxt)
    | 14, _ => exact lv_tableIn (tgt := 697) (off := 657) hx hb dL_law_40 (by decide) (by decide) rfl (by decide) (lc_14 C0 X hI hsn (by omega) (by omega) hin hl nxt)
    | 15, _ => exact lv_tableIn (tgt := 722) (off := 682) hx hb dL_law_40 (by decide) (by decide) rfl (by decide) (lc_15 C0 X hI hsn (by omega) (by omega) hin hl nxt)
    | 16, _ => exact lv_tableIn (tgt := 735) (off := 695) hx hb dL_law_40 (by decide) (by decide) rfl (by decide) (lc_16 C0 X hI hsn (by omega) (by omega) hin hl nxt)
    | 17, _ => exact lv_tableIn (tgt := 772) (off := 732) hx hb dL_law_40 (by decide) (by decide) rfl (by decide) (lc_17 C0 X hI hsn (by omega) (by omega) hin hl nxt)
    | 18, _ => exact lv_tableIn (tgt := 809) (off := 769) hx hb dL_law_40 (by decide) (by decide) rfl (by decide) (lc_18 C0 X hI hsn (by omega) (by omega) hin hl nxt)
    | 19, _ => exact lv_tableIn (tgt := 846) (off := 806) hx hb dL_law_40 (by decide) (by decide) rfl (by decide) (lc_19 C0 X hI hsn (by omega) (by omega) hin hl nxt)
    | 20, _ => exact lv_tableIn (tgt := 883) (off := 843) hx hb dL_law_40 (by decide) (by decide) rfl (by decide) (lc_20 C0 X hI hsn (by omega) (by omega) hin hl nxt)
    | 21, _ => exact lv_tableIn (tgt := 908) (off := 868) hx hb dL_law_40 (by decide) (by decide) rfl (by decide) (lc_21 C0 X hI hsn (by omega) (by omega) hin hl nxt)
    | 22, _ => exact lv_tableIn (tgt := 933) (off := 893) hx hb dL_law_40 (by decide) (by decide) rfl (by decide) (lc_22 C0 X hI hsn (by omega) (by omega) hin hl nxt)
    | 23, _ => exact lv_tableIn (tgt := 958) (off := 918) hx hb dL_law_40 (by decide) (by decide) rfl (by decide) (lc_23 C0 X hI hsn (by omega) (by omega) hin hl nxt)
    | 24, _ => exact lv_tableIn (tgt := 995) (off := 955) hx hb dL_law_40 (by decide) (by decide) rfl (by decide) (lc_24 C0 X hI hsn (by omega) (by omega) hin hl nxt)
    | 25, _ => exact lv_tableIn (tgt := 1060) (off := 1020) hx hb dL_law_40 (by decide) (by decide) rfl (by decide) (lc_25 C0 X hI hsn (by omega) (by omega) hin hl nxt)
    | 26, _ => exact lv_tableIn (tgt := 1097) (off := 1057) hx hb dL_law_40 (by decide) (by decide) rfl (by decide) (lc_26 C0 X hI hsn (by omega) (by omega) hin hl nxt)
    | 27, _ => exact lv_tableIn (tgt := 1122) (off := 1082) hx hb dL_law_40 (by decide) (by decide) rfl (by decide) (lc_27 C0 X hI hsn (by omega) (by omega) hin hl nxt)
    | 28, _ => exact lv_tableIn (tgt := 1187) (off := 1147) hx hb dL_law_40 (by decide) (by decide) rfl (by decide) (lc_28 C0 X hI hsn (by omega) (by omega) hin hl nxt)
    | 29, _ => exact lv_tableIn (tgt := 1200) (off := 1160) hx hb dL_law_40 (by decide) (by decide) rfl (by decide) (lc_29 C0 X hI hsn (by omega) (by omega) hin hl nxt)
    | 30, _ => exact lv_tableIn (tgt := 1273) (off := 1233) hx hb dL_law_40 (by decide) (by decide) rfl (by decide) (lc_30 C0 X hI hsn (by omega) (by omega) hin hl nxt)
    | 31, _ => exact lv_tableIn (tgt := 1322) (off := 1282) hx hb dL_law_40 (by decide) (by decide) rfl (by decide) (lc_31 C0 X hI hsn (by omega) (by omega) hin hl nxt)
    | 32, _ => exact lv_tableIn (tgt := 1347) (off := 1307) hx hb dL_law_40 (by decide) (by decide) rfl (by decide) (lc_32 C0 X hI hsn (by omega) (by omega) hin hl nxt)
    | 33, _ => exact lv_tableIn (tgt := 1384) (off := 1344) hx hb dL_law_40 (by decide) (by decide) rfl (by decide) (lc_33 C0 X hI hsn (by omega) (by omega) hin hl nxt)
    | 34, _ => exact lv_tableIn (tgt := 1409) (off := 1369) hx hb dL_law_40 (by decide) (by decide) rfl (by decide) (lc_34 C0 X hI hsn (by omega) (by omega) hin hl nxt)
    | 35, _ => exact lv_tableIn (tgt := 1434) (off := 1394) hx hb dL_law_40 (by decide) (by decide) rfl (by decide) (lc_35 C0 X hI hsn (by omega) (by omega) hin hl nxt)
    | 36, _ => exact lv_tableIn (tgt := 1459) (off := 1419) hx hb dL_law_40 (by decide) (by decide) rfl (by decide) (lc_36 C0 X hI hsn (by omega) (by omega) hin hl nxt)
    | 37, _ => exact lv_tableIn (tgt := 1484) (off := 1444) hx hb dL_law_40 (by decide) (by decide) rfl (by decide) (lc_37 C0 X hI hsn (by omega) (by omega) hin hl nxt)
    | 38, _ => exact lv_tableIn (tgt := 1497) (off := 1457) hx hb dL_law_40 (by decide) (by decide) rfl (by decide) (lc_38 C0 X hI hsn (by omega) (by omega) hin hl nxt)
    | 39, _ => exact lv_tableIn (tgt := 1510) (off := 1470) hx hb dL_law_40 (by decide) (by decide) rfl (by decide) (lc_39 C0 X hI hsn (by omega) (by omega) hin hl nxt)
    | n + 40, hn => exact lv_tableOut (tgt := 1535) hx hb dL_law_40 (Or.inr (by rw [nI_toInt (by omega)]; omega)) (by decide) (W.widen (by omega) (by omega) (nxt h H locs ls hI hsn hl))
