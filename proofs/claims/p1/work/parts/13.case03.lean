set_option maxHeartbeats 4000000 in
set_option maxRecDepth 100000 in
theorem law_24 {p : Program} {l : Launch} {e : Env} {s : State} {m : MethodId} {below : List Frame} {meth : Method} {c : Code} {dC : Nat → ClassId} {dI : Nat → Nat → Nat} {cI cZ : ClassId} {A : Nat → Prop} {b tR sa : Nat} {xs : Nat → Int32} (hlt : l.stackTraces = false) (C0 : lw_At p s m meth c b 6 xs) (hA : ∀ q : Nat, s.heap.size ≤ q → A q) (hAs : ∀ q : Nat, A q → s.heap.size ≤ q) (hK : va_K (dC, dI) vwCl (zT cI cZ) s) (hG : zG s) (hSt : zSt tR A s) (hX9 : vk_R "DreamGuard" 196 zTx sa s ∧ vx_Zq Bundle.tN "UNASSIGNED_STACK" Bundle.steD A s s.heap ∧ vx_Zq Bundle.tN "SUPPRESSED_SENTINEL" Bundle.listD A s s.heap ∧ zF s) (ho : Nat) (h0 : Nat) (a1 : Nat) (a2 : Nat) (a3 : Nat) (a4 : Nat) (a5 : Nat) (a6 : Nat) (a7 : Nat) (a8 : Nat) (a9 : Nat) (a10 : Nat) (a11 : Nat) (a12 : Nat) (a13 : Nat) (a14 : Nat) (d6 : Value) (d7 : Value) (d10 : Value) (d13 : Value) (d14 : Value) (d16 : Value) (d17 : Value) (d19 : Value) (u2 : Value) (u3 : Value) (v1 : Value) (w0 : Value) (w1 : Value) (w2 : Value) (w3 : Value) (x3 : Value) (x4 : Value) (y0 : Value) (y1 : Value) (y2 : Value) (y5 : Value) (y6 : Value) (z0 : Value) (n0 : Value) (n1 : Value) (n2 : Value) (o0 : Value) (o1 : Value) (o2 : Value) (mh0 : Nat) (mq0 : Nat) (mq1 : Nat) (mq2 : Nat) (mq3 : Nat) (mq4 : Nat) (mq5 : Nat) (me0 : Value) (me3 : Value) (me4 : Value) (me5 : Value) (me6 : Value) (me7 : Value) (me10 : Value) (me11 : Value) (me12 : Value) (me14 : Value) (me15 : Value) (me16 : Value) (me18 : Value) (me19 : Value) (me20 : Value) (me21 : Value) (me27 : Value) (me28 : Value) (me29 : Value) (me30 : Value) (me31 : Value) (me32 : Value) (me33 : Value) (me34 : Value) (me35 : Value) (me36 : Value) (me37 : Value) (me38 : Value) (me40 : Value) (me41 : Value) (me42 : Value) (me43 : Value) (me44 : Value) (me45 : Value) (me46 : Value) (me48 : Value) (me49 : Value) (me50 : Value) (me51 : Value) (me52 : Value) (me54 : Value) {H : Heap} {locs : List Loc} {ls : Array Slot} (hP : va_P (dC, dI) vwCl [(h0, .inr (11, [.ref a1, .ref a3, .ref a5, .ref a6, .ref a7, .ref a8, d6, d7, .int 0, .ref a9, d10, .ref a10, .ref a11, d13, d14, .ref a12, d16, d17, .int 0, d19])), (a1, .inr (10, [.ref a2, .int 0, .int 0])), (a2, .inl (cI, 240, .inl (fun _ => 0))), (a3, .inr (2, [.ref a1, .ref a4, u2, u3, .int 0, .int 0])), (a4, .inl (cI, 4, .inl (fun _ => 0))), (a5, .inr (4, [.ref a1, v1, .int 0])), (a6, .inr (3, [w0, w1, w2, w3, .int 0, .int (-1)])), (a7, .inr (1, [.int 0, .int 0, .int 0, x3, x4])), (a8, .inr (8, [y0, y1, y2, .ref a13, .ref a14, y5, y6, .int 0, .int 0, .int 0])), (a9, .inr (0, [z0, .int 0, .int 0])), (a10, .inr (6, [n0, n1, n2, .int 0])), (a11, .inr (6, [o0, o1, o2, .int 0])), (a12, .inl (cI, 5, .inl (fun _ => 0))), (mh0, .inr (12, [me0, .ref mq0, .int 0, me3, me4, me5, me6, me7, .ref mq2, .ref mq3, me10, me11, me12, .int 0, me14, me15, me16, .ref mq1, me18, me19, me20, me21, .int 0, .ref mq4, .ref mq5, .int (-1), .int 0, me27, me28, me29, me30, me31, me32, me33, me34, me35, me36, me37, me38, .int 0, me40, me41, me42, me43, me44, me45, me46, .int 0, me48, me49, me50, me51, me52, .int 0, me54, .int 0])), (mq0, .inl (cI, 240, .inl (fun _ => 0))), (mq1, .inl (cI, 3, .inl (fun _ => 0))), (mq2, .inl (cI, 5, .inl (fun _ => 0))), (mq3, .inl (cI, 5, .inl (fun _ => 0))), (mq4, .inl (cI, 220, .inl (fun _ => 0))), (mq5, .inl (cI, 5, .inl (fun _ => 0)))] H) (hD : va_D A [(h0, .inr (11, [.ref a1, .ref a3, .ref a5, .ref a6, .ref a7, .ref a8, d6, d7, .int 0, .ref a9, d10, .ref a10, .ref a11, d13, d14, .ref a12, d16, d17, .int 0, d19])), (a1, .inr (10, [.ref a2, .int 0, .int 0])), (a2, .inl (cI, 240, .inl (fun _ => 0))), (a3, .inr (2, [.ref a1, .ref a4, u2, u3, .int 0, .int 0])), (a4, .inl (cI, 4, .inl (fun _ => 0))), (a5, .inr (4, [.ref a1, v1, .int 0])), (a6, .inr (3, [w0, w1, w2, w3, .int 0, .int (-1)])), (a7, .inr (1, [.int 0, .int 0, .int 0, x3, x4])), (a8, .inr (8, [y0, y1, y2, .ref a13, .ref a14, y5, y6, .int 0, .int 0, .int 0])), (a9, .inr (0, [z0, .int 0, .int 0])), (a10, .inr (6, [n0, n1, n2, .int 0])), (a11, .inr (6, [o0, o1, o2, .int 0])), (a12, .inl (cI, 5, .inl (fun _ => 0))), (mh0, .inr (12, [me0, .ref mq0, .int 0, me3, me4, me5, me6, me7, .ref mq2, .ref mq3, me10, me11, me12, .int 0, me14, me15, me16, .ref mq1, me18, me19, me20, me21, .int 0, .ref mq4, .ref mq5, .int (-1), .int 0, me27, me28, me29, me30, me31, me32, me33, me34, me35, me36, me37, me38, .int 0, me40, me41, me42, me43, me44, me45, me46, .int 0, me48, me49, me50, me51, me52, .int 0, me54, .int 0])), (mq0, .inl (cI, 240, .inl (fun _ => 0))), (mq1, .inl (cI, 3, .inl (fun _ => 0))), (mq2, .inl (cI, 5, .inl (fun _ => 0))), (mq3, .inl (cI, 5, .inl (fun _ => 0))), (mq4, .inl (cI, 220, .inl (fun _ => 0))), (mq5, .inl (cI, 5, .inl (fun _ => 0)))]) (hS : va_S A s.heap H locs) (hl : lv_has ls 7 [(4, .int 0), (3, .ref ho), (2, .ref mh0), (1, .ref h0), (0, .ref b)]) : W p l e room_1 s m #[Value.ref b] below meth c H locs 442 23958 (lw_Z below #[Value.ref b] s) (F0 m 1023 ls []) := by
  obtain ⟨hx, hb, hr, hml, hown0, hts0, hX, hbl, hlocks, hgv⟩ := id C0
  have hown : s.vm.findClass RL = some m.cls := hown0
  have hts := hts0
  have hbA : ¬ A b := fun h => absurd (hAs b h) (Nat.not_le.mpr hbl)
  refine lv_aload_n hx hb dL_law_1023 rfl (lv_at hl 3 rfl) ?_
  refine lv_aload_n hx hb dL_law_1024 rfl (lv_at hl 4 rfl) ?_
  refine lv_iload hx hb dL_law_1025 (lv_at hl 0 rfl) ?_
  refine lv_iconst (v := 1) hx hb dL_law_1027 (by decide) ?_
  refine lv_iadd hx hb dL_law_1028 ?_
  refine lv_topi (fun k1 ek1 => ?_)
  obtain rfl : k1 = 1 := ek1.trans (by decide)
  refine va_sld (i := 1) hx hb hX hbl hbA hS (show ¬ ((1 : Int32) < 0 ∨ 6 ≤ (1 : Int32).toNatClampNeg) by decide) dL_law_1029 ?_
  refine lv_topi (fun k2 ek2 => ?_)
  obtain rfl : k2 = xs 1 := ek2.trans (congrArg xs (show (1 : Int32).toNatClampNeg = 1 by decide))
  refine lv_aload_n hx hb dL_law_1030 rfl (lv_at hl 4 rfl) ?_
  refine lv_iload hx hb dL_law_1031 (lv_at hl 0 rfl) ?_
  refine lv_iconst (v := 2) hx hb dL_law_1033 (by decide) ?_
  refine lv_iadd hx hb dL_law_1034 ?_
  refine lv_topi (fun k3 ek3 => ?_)
  obtain rfl : k3 = 2 := ek3.trans (by decide)
  refine va_sld (i := 2) hx hb hX hbl hbA hS (show ¬ ((2 : Int32) < 0 ∨ 6 ≤ (2 : Int32).toNatClampNeg) by decide) dL_law_1035 ?_
  refine lv_topi (fun k4 ek4 => ?_)
  obtain rfl : k4 = xs 2 := ek4.trans (congrArg xs (show (2 : Int32).toNatClampNeg = 2 by decide))
  refine lv_aload_n hx hb dL_law_1036 rfl (lv_at hl 4 rfl) ?_
  refine lv_iload hx hb dL_law_1037 (lv_at hl 0 rfl) ?_
  refine lv_iconst (v := 3) hx hb dL_law_1039 (by decide) ?_
  refine lv_iadd hx hb dL_law_1040 ?_
  refine lv_topi (fun k5 ek5 => ?_)
  obtain rfl : k5 = 3 := ek5.trans (by decide)
  refine va_sld (i := 3) hx hb hX hbl hbA hS (show ¬ ((3 : Int32) < 0 ∨ 6 ≤ (3 : Int32).toNatClampNeg) by decide) dL_law_1041 ?_
  refine lv_topi (fun k6 ek6 => ?_)
  obtain rfl : k6 = xs 3 := ek6.trans (congrArg xs (show (3 : Int32).toNatClampNeg = 3 by decide))
  refine lv_if_eq (tgt := 1049) hx hb dL_law_1042 (by decide) (fun c7 => ?_) (fun c7 => ?_)
  · skip
    refine lv_iconst (v := 0) hx hb dL_law_1049 (by decide) ?_
    have hPc := hP.sub (ws' := [(h0, .inr (11, [.ref a1, .ref a3, .ref a5, .ref a6, .ref a7, .ref a8, d6, d7, .int 0, .ref a9, d10, .ref a10, .ref a11, d13, d14, .ref a12, d16, d17, .int 0, d19])), (a7, .inr (1, [.int 0, .int 0, .int 0, x3, x4]))]) [0, 7] rfl
    have hDc := hD.sub (ws' := [(h0, .inr (11, [.ref a1, .ref a3, .ref a5, .ref a6, .ref a7, .ref a8, d6, d7, .int 0, .ref a9, d10, .ref a10, .ref a11, d13, d14, .ref a12, d16, d17, .int 0, d19])), (a7, .inr (1, [.int 0, .int 0, .int 0, x3, x4]))]) [0, 7] (by decide) rfl
    refine va_calli (va_runV (As := [.int (xs 1), .int (xs 2), .int 0]) (rest := []) ⟨hx, hb, hml, hown, hts⟩ (c_X11_seen l dC dI cI cZ H.size h0 a7 (.ref a1) (.ref a3) (.ref a5) (.ref a6) (.ref a8) d6 d7 (.int 0) (.ref a9) d10 (.ref a10) (.ref a11) d13 d14 (.ref a12) d16 d17 (.int 0) d19 (.int 0) x3 x4 (xs 1) (xs 2) 0) (cwV 3 hts zg_X11_seen rfl rfl rfl (by decide +kernel) ⟨Nat.le_of_ble_eq_true rfl, Nat.le_of_ble_eq_true rfl⟩) (zPreV hPc hK hDc hG (ci := 11) (q0 := 0) rfl rfl) rfl rfl hl.1 rfl (lv_room (Nat.le_of_ble_eq_true rfl)) dL_law_1050 ⟨Nat.le_of_ble_eq_true rfl, Nat.le_of_ble_eq_true rfl⟩) hS (fun _ _ h => h.elim) (fun _ h => h.elim) (fun r8 u9 t9 H1 locs ht9 hvm hwr8 hB9 hz1 hk1 hS => ?_)
    replace hP := zKept hP hk1
    try clear hB9 hz1 hk1 hvm ht9 u9 hPc hDc
    generalize H1 = H at hP hS ⊢
    obtain rfl : r8 = s_X11_seen := hwr8
    refine lv_aload_n hx hb dL_law_1053 rfl (lv_at hl 2 rfl) ?_
    refine lv_aload_n hx hb dL_law_1054 rfl (lv_at hl 4 rfl) ?_
    refine lv_iload hx hb dL_law_1055 (lv_at hl 0 rfl) ?_
    refine lv_iconst (v := 1) hx hb dL_law_1057 (by decide) ?_
    refine lv_iadd hx hb dL_law_1058 ?_
    refine lv_topi (fun k9 ek9 => ?_)
    obtain rfl : k9 = 1 := ek9.trans (by decide)
    refine va_sld (i := 1) hx hb hX hbl hbA hS (show ¬ ((1 : Int32) < 0 ∨ 6 ≤ (1 : Int32).toNatClampNeg) by decide) dL_law_1059 ?_
    refine lv_topi (fun k10 ek10 => ?_)
    obtain rfl : k10 = xs 1 := ek10.trans (congrArg xs (show (1 : Int32).toNatClampNeg = 1 by decide))
    refine lv_aload_n hx hb dL_law_1060 rfl (lv_at hl 4 rfl) ?_
    refine lv_iload hx hb dL_law_1061 (lv_at hl 0 rfl) ?_
    refine lv_iconst (v := 2) hx hb dL_law_1063 (by decide) ?_
    refine lv_iadd hx hb dL_law_1064 ?_
    refine lv_topi (fun k11 ek11 => ?_)
    obtain rfl : k11 = 2 := ek11.trans (by decide)
    refine va_sld (i := 2) hx hb hX hbl hbA hS (show ¬ ((2 : Int32) < 0 ∨ 6 ≤ (2 : Int32).toNatClampNeg) by decide) dL_law_1065 ?_
    refine lv_topi (fun k12 ek12 => ?_)
    obtain rfl : k12 = xs 2 := ek12.trans (congrArg xs (show (2 : Int32).toNatClampNeg = 2 by decide))
    refine lv_aload_n hx hb dL_law_1066 rfl (lv_at hl 4 rfl) ?_
    refine lv_iload hx hb dL_law_1067 (lv_at hl 0 rfl) ?_
    refine lv_iconst (v := 3) hx hb dL_law_1069 (by decide) ?_
    refine lv_iadd hx hb dL_law_1070 ?_
    refine lv_topi (fun k13 ek13 => ?_)
    obtain rfl : k13 = 3 := ek13.trans (by decide)
    refine va_sld (i := 3) hx hb hX hbl hbA hS (show ¬ ((3 : Int32) < 0 ∨ 6 ≤ (3 : Int32).toNatClampNeg) by decide) dL_law_1071 ?_
    refine lv_topi (fun k14 ek14 => ?_)
    obtain rfl : k14 = xs 3 := ek14.trans (congrArg xs (show (3 : Int32).toNatClampNeg = 3 by decide))
    refine lv_if_eq (tgt := 1079) hx hb dL_law_1072 (by decide) (fun _ => ?_) (fun c9 => absurd c7 c9)
    refine lv_iconst (v := 0) hx hb dL_law_1079 (by decide) ?_
    have hPc := hP.sub (ws' := [(mh0, .inr (12, [me0, .ref mq0, .int 0, me3, me4, me5, me6, me7, .ref mq2, .ref mq3, me10, me11, me12, .int 0, me14, me15, me16, .ref mq1, me18, me19, me20, me21, .int 0, .ref mq4, .ref mq5, .int (-1), .int 0, me27, me28, me29, me30, me31, me32, me33, me34, me35, me36, me37, me38, .int 0, me40, me41, me42, me43, me44, me45, me46, .int 0, me48, me49, me50, me51, me52, .int 0, me54, .int 0]))]) [13] rfl
    have hDc := hD.sub (ws' := [(mh0, .inr (12, [me0, .ref mq0, .int 0, me3, me4, me5, me6, me7, .ref mq2, .ref mq3, me10, me11, me12, .int 0, me14, me15, me16, .ref mq1, me18, me19, me20, me21, .int 0, .ref mq4, .ref mq5, .int (-1), .int 0, me27, me28, me29, me30, me31, me32, me33, me34, me35, me36, me37, me38, .int 0, me40, me41, me42, me43, me44, me45, me46, .int 0, me48, me49, me50, me51, me52, .int 0, me54, .int 0]))]) [13] (by decide) rfl
    refine va_calli (va_runV (As := [.int (xs 1), .int (xs 2), .int 0]) (rest := [.int s_X11_seen]) ⟨hx, hb, hml, hown, hts⟩ (c_X12_seen l dC dI cI cZ H.size mh0 me0 (.ref mq0) (.int 0) me3 me4 me5 me6 me7 (.ref mq2) (.ref mq3) me10 me11 me12 (.int 0) me14 me15 me16 (.ref mq1) me18 me19 me20 me21 (.ref mq4) (.ref mq5) (.int (-1)) (.int 0) me27 me28 me29 me30 me31 me32 me33 me34 me35 me36 me37 me38 (.int 0) me40 me41 me42 me43 me44 me45 me46 (.int 0) me48 me49 me50 me51 me52 (.int 0) me54 (.int 0) (xs 1) (xs 2) 0) (cwV 3 hts zg_X12_seen rfl rfl rfl (by decide +kernel) ⟨Nat.le_of_ble_eq_true rfl, Nat.le_of_ble_eq_true rfl⟩) (zPreV hPc hK hDc hG (ci := 12) (q0 := 0) rfl rfl) rfl rfl hl.1 rfl (lv_room (Nat.le_of_ble_eq_true rfl)) dL_law_1080 ⟨Nat.le_of_ble_eq_true rfl, Nat.le_of_ble_eq_true rfl⟩) hS (fun _ _ h => h.elim) (fun _ h => h.elim) (fun r15 u9 t9 H1 locs ht9 hvm hwr15 hB9 hz1 hk1 hS => ?_)
    replace hP := zKept hP hk1
    try clear hB9 hz1 hk1 hvm ht9 u9 hPc hDc
    generalize H1 = H at hP hS ⊢
    obtain rfl : r15 = s_X12_seen := hwr15
    refine lv_icmp_eq (tgt := 1563) hx hb dL_law_1083 (by decide) (fun _ => ?_) (fun c9 => absurd zq_seen c9)
    exact law_end hlt C0 hA hAs hK hG hSt hX9 hS (by decide) (by decide) (lv_sub hl [0, 4] rfl)
  · skip
    refine lv_iconst (v := 1) hx hb dL_law_1045 (by decide) ?_
    refine lv_goto (tgt := 1050) hx hb dL_law_1046 (by decide) ?_
    have hPc := hP.sub (ws' := [(h0, .inr (11, [.ref a1, .ref a3, .ref a5, .ref a6, .ref a7, .ref a8, d6, d7, .int 0, .ref a9, d10, .ref a10, .ref a11, d13, d14, .ref a12, d16, d17, .int 0, d19])), (a7, .inr (1, [.int 0, .int 0, .int 0, x3, x4]))]) [0, 7] rfl
    have hDc := hD.sub (ws' := [(h0, .inr (11, [.ref a1, .ref a3, .ref a5, .ref a6, .ref a7, .ref a8, d6, d7, .int 0, .ref a9, d10, .ref a10, .ref a11, d13, d14, .ref a12, d16, d17, .int 0, d19])), (a7, .inr (1, [.int 0, .int 0, .int 0, x3, x4]))]) [0, 7] (by decide) rfl
    refine va_calli (va_runV (As := [.int (xs 1), .int (xs 2), .int 1]) (rest := []) ⟨hx, hb, hml, hown, hts⟩ (c_X11_seen l dC dI cI cZ H.size h0 a7 (.ref a1) (.ref a3) (.ref a5) (.ref a6) (.ref a8) d6 d7 (.int 0) (.ref a9) d10 (.ref a10) (.ref a11) d13 d14 (.ref a12) d16 d17 (.int 0) d19 (.int 0) x3 x4 (xs 1) (xs 2) 1) (cwV 3 hts zg_X11_seen rfl rfl rfl (by decide +kernel) ⟨Nat.le_of_ble_eq_true rfl, Nat.le_of_ble_eq_true rfl⟩) (zPreV hPc hK hDc hG (ci := 11) (q0 := 0) rfl rfl) rfl rfl hl.1 rfl (lv_room (Nat.le_of_ble_eq_true rfl)) dL_law_1050 ⟨Nat.le_of_ble_eq_true rfl, Nat.le_of_ble_eq_true rfl⟩) hS (fun _ _ h => h.elim) (fun _ h => h.elim) (fun r16 u9 t9 H1 locs ht9 hvm hwr16 hB9 hz1 hk1 hS => ?_)
    replace hP := zKept hP hk1
    try clear hB9 hz1 hk1 hvm ht9 u9 hPc hDc
    generalize H1 = H at hP hS ⊢
    obtain rfl : r16 = s_X11_seen := hwr16
    refine lv_aload_n hx hb dL_law_1053 rfl (lv_at hl 2 rfl) ?_
    refine lv_aload_n hx hb dL_law_1054 rfl (lv_at hl 4 rfl) ?_
    refine lv_iload hx hb dL_law_1055 (lv_at hl 0 rfl) ?_
    refine lv_iconst (v := 1) hx hb dL_law_1057 (by decide) ?_
    refine lv_iadd hx hb dL_law_1058 ?_
    refine lv_topi (fun k17 ek17 => ?_)
    obtain rfl : k17 = 1 := ek17.trans (by decide)
    refine va_sld (i := 1) hx hb hX hbl hbA hS (show ¬ ((1 : Int32) < 0 ∨ 6 ≤ (1 : Int32).toNatClampNeg) by decide) dL_law_1059 ?_
    refine lv_topi (fun k18 ek18 => ?_)
    obtain rfl : k18 = xs 1 := ek18.trans (congrArg xs (show (1 : Int32).toNatClampNeg = 1 by decide))
    refine lv_aload_n hx hb dL_law_1060 rfl (lv_at hl 4 rfl) ?_
    refine lv_iload hx hb dL_law_1061 (lv_at hl 0 rfl) ?_
    refine lv_iconst (v := 2) hx hb dL_law_1063 (by decide) ?_
    refine lv_iadd hx hb dL_law_1064 ?_
    refine lv_topi (fun k19 ek19 => ?_)
    obtain rfl : k19 = 2 := ek19.trans (by decide)
    refine va_sld (i := 2) hx hb hX hbl hbA hS (show ¬ ((2 : Int32) < 0 ∨ 6 ≤ (2 : Int32).toNatClampNeg) by decide) dL_law_1065 ?_
    refine lv_topi (fun k20 ek20 => ?_)
    obtain rfl : k20 = xs 2 := ek20.trans (congrArg xs (show (2 : Int32).toNatClampNeg = 2 by decide))
    refine lv_aload_n hx hb dL_law_1066 rfl (lv_at hl 4 rfl) ?_
    refine lv_iload hx hb dL_law_1067 (lv_at hl 0 rfl) ?_
    refine lv_iconst (v := 3) hx hb dL_law_1069 (by decide) ?_
    refine lv_iadd hx hb dL_law_1070 ?_
    refine lv_topi (fun k21 ek21 => ?_)
    obtain rfl : k21 = 3 := ek21.trans (by decide)
    refine va_sld (i := 3) hx hb hX hbl hbA hS (show ¬ ((3 : Int32) < 0 ∨ 6 ≤ (3 : Int32).toNatClampNeg) by decide) dL_law_1071 ?_
    refine lv_topi (fun k22 ek22 => ?_)
    obtain rfl : k22 = xs 3 := ek22.trans (congrArg xs (show (3 : Int32).toNatClampNeg = 3 by decide))
    refine lv_if_eq (tgt := 1079) hx hb dL_law_1072 (by decide) (fun c9 => absurd c9 c7) (fun _ => ?_)
    refine lv_iconst (v := 1) hx hb dL_law_1075 (by decide) ?_
    refine lv_goto (tgt := 1080) hx hb dL_law_1076 (by decide) ?_
    have hPc := hP.sub (ws' := [(mh0, .inr (12, [me0, .ref mq0, .int 0, me3, me4, me5, me6, me7, .ref mq2, .ref mq3, me10, me11, me12, .int 0, me14, me15, me16, .ref mq1, me18, me19, me20, me21, .int 0, .ref mq4, .ref mq5, .int (-1), .int 0, me27, me28, me29, me30, me31, me32, me33, me34, me35, me36, me37, me38, .int 0, me40, me41, me42, me43, me44, me45, me46, .int 0, me48, me49, me50, me51, me52, .int 0, me54, .int 0]))]) [13] rfl
    have hDc := hD.sub (ws' := [(mh0, .inr (12, [me0, .ref mq0, .int 0, me3, me4, me5, me6, me7, .ref mq2, .ref mq3, me10, me11, me12, .int 0, me14, me15, me16, .ref mq1, me18, me19, me20, me21, .int 0, .ref mq4, .ref mq5, .int (-1), .int 0, me27, me28, me29, me30, me31, me32, me33, me34, me35, me36, me37, me38, .int 0, me40, me41, me42, me43, me44, me45, me46, .int 0, me48, me49, me50, me51, me52, .int 0, me54, .int 0]))]) [13] (by decide) rfl
    refine va_calli (va_runV (As := [.int (xs 1), .int (xs 2), .int 1]) (rest := [.int s_X11_seen]) ⟨hx, hb, hml, hown, hts⟩ (c_X12_seen l dC dI cI cZ H.size mh0 me0 (.ref mq0) (.int 0) me3 me4 me5 me6 me7 (.ref mq2) (.ref mq3) me10 me11 me12 (.int 0) me14 me15 me16 (.ref mq1) me18 me19 me20 me21 (.ref mq4) (.ref mq5) (.int (-1)) (.int 0) me27 me28 me29 me30 me31 me32 me33 me34 me35 me36 me37 me38 (.int 0) me40 me41 me42 me43 me44 me45 me46 (.int 0) me48 me49 me50 me51 me52 (.int 0) me54 (.int 0) (xs 1) (xs 2) 1) (cwV 3 hts zg_X12_seen rfl rfl rfl (by decide +kernel) ⟨Nat.le_of_ble_eq_true rfl, Nat.le_of_ble_eq_true rfl⟩) (zPreV hPc hK hDc hG (ci := 12) (q0 := 0) rfl rfl) rfl rfl hl.1 rfl (lv_room (Nat.le_of_ble_eq_true rfl)) dL_law_1080 ⟨Nat.le_of_ble_eq_true rfl, Nat.le_of_ble_eq_true rfl⟩) hS (fun _ _ h => h.elim) (fun _ h => h.elim) (fun r23 u9 t9 H1 locs ht9 hvm hwr23 hB9 hz1 hk1 hS => ?_)
    replace hP := zKept hP hk1
    try clear hB9 hz1 hk1 hvm ht9 u9 hPc hDc
    generalize H1 = H at hP hS ⊢
    obtain rfl : r23 = s_X12_seen := hwr23
    refine lv_icmp_eq (tgt := 1563) hx hb dL_law_1083 (by decide) (fun _ => ?_) (fun c9 => absurd zq_seen c9)
    exact law_end hlt C0 hA hAs hK hG hSt hX9 hS (by decide) (by decide) (lv_sub hl [0, 4] rfl)

set_option maxHeartbeats 4000000 in
set_option maxRecDepth 100000 in
theorem law_25 {p : Program} {l : Launch} {e : Env} {s : State} {m : MethodId} {below : List Frame} {meth : Method} {c : Code} {dC : Nat → ClassId} {dI : Nat → Nat → Nat} {cI cZ : ClassId} {A : Nat → Prop} {b tR sa : Nat} {xs : Nat → Int32} (hlt : l.stackTraces = false) (C0 : lw_At p s m meth c b 6 xs) (hA : ∀ q : Nat, s.heap.size ≤ q → A q) (hAs : ∀ q : Nat, A q → s.heap.size ≤ q) (hK : va_K (dC, dI) vwCl (zT cI cZ) s) (hG : zG s) (hSt : zSt tR A s) (hX9 : vk_R "DreamGuard" 196 zTx sa s ∧ vx_Zq Bundle.tN "UNASSIGNED_STACK" Bundle.steD A s s.heap ∧ vx_Zq Bundle.tN "SUPPRESSED_SENTINEL" Bundle.listD A s s.heap ∧ zF s) (ho : Nat) (h0 : Nat) (a1 : Nat) (a2 : Nat) (a3 : Nat) (a4 : Nat) (a5 : Nat) (a6 : Nat) (a7 : Nat) (a8 : Nat) (a9 : Nat) (a10 : Nat) (a11 : Nat) (a12 : Nat) (a13 : Nat) (a14 : Nat) (d6 : Value) (d7 : Value) (d10 : Value) (d13 : Value) (d14 : Value) (d16 : Value) (d17 : Value) (d19 : Value) (u2 : Value) (u3 : Value) (v1 : Value) (w0 : Value) (w1 : Value) (w2 : Value) (w3 : Value) (x3 : Value) (x4 : Value) (y0 : Value) (y1 : Value) (y2 : Value) (y5 : Value) (y6 : Value) (z0 : Value) (n0 : Value) (n1 : Value) (n2 : Value) (o0 : Value) (o1 : Value) (o2 : Value) (mh0 : Nat) (mq0 : Nat) (mq1 : Nat) (mq2 : Nat) (mq3 : Nat) (mq4 : Nat) (mq5 : Nat) (me0 : Value) (me3 : Value) (me4 : Value) (me5 : Value) (me6 : Value) (me7 : Value) (me10 : Value) (me11 : Value) (me12 : Value) (me14 : Value) (me15 : Value) (me16 : Value) (me18 : Value) (me19 : Value) (me20 : Value) (me21 : Value) (me27 : Value) (me28 : Value) (me29 : Value) (me30 : Value) (me31 : Value) (me32 : Value) (me33 : Value) (me34 : Value) (me35 : Value) (me36 : Value) (me37 : Value) (me38 : Value) (me40 : Value) (me41 : Value) (me42 : Value) (me43 : Value) (me44 : Value) (me45 : Value) (me46 : Value) (me48 : Value) (me49 : Value) (me50 : Value) (me51 : Value) (me52 : Value) (me54 : Value) {H : Heap} {locs : List Loc} {ls : Array Slot} (hP : va_P (dC, dI) vwCl [(h0, .inr (11, [.ref a1, .ref a3, .ref a5, .ref a6, .ref a7, .ref a8, d6, d7, .int 0, .ref a9, d10, .ref a10, .ref a11, d13, d14, .ref a12, d16, d17, .int 0, d19])), (a1, .inr (10, [.ref a2, .int 0, .int 0])), (a2, .inl (cI, 240, .inl (fun _ => 0))), (a3, .inr (2, [.ref a1, .ref a4, u2, u3, .int 0, .int 0])), (a4, .inl (cI, 4, .inl (fun _ => 0))), (a5, .inr (4, [.ref a1, v1, .int 0])), (a6, .inr (3, [w0, w1, w2, w3, .int 0, .int (-1)])), (a7, .inr (1, [.int 0, .int 0, .int 0, x3, x4])), (a8, .inr (8, [y0, y1, y2, .ref a13, .ref a14, y5, y6, .int 0, .int 0, .int 0])), (a9, .inr (0, [z0, .int 0, .int 0])), (a10, .inr (6, [n0, n1, n2, .int 0])), (a11, .inr (6, [o0, o1, o2, .int 0])), (a12, .inl (cI, 5, .inl (fun _ => 0))), (mh0, .inr (12, [me0, .ref mq0, .int 0, me3, me4, me5, me6, me7, .ref mq2, .ref mq3, me10, me11, me12, .int 0, me14, me15, me16, .ref mq1, me18, me19, me20, me21, .int 0, .ref mq4, .ref mq5, .int (-1), .int 0, me27, me28, me29, me30, me31, me32, me33, me34, me35, me36, me37, me38, .int 0, me40, me41, me42, me43, me44, me45, me46, .int 0, me48, me49, me50, me51, me52, .int 0, me54, .int 0])), (mq0, .inl (cI, 240, .inl (fun _ => 0))), (mq1, .inl (cI, 3, .inl (fun _ => 0))), (mq2, .inl (cI, 5, .inl (fun _ => 0))), (mq3, .inl (cI, 5, .inl (fun _ => 0))), (mq4, .inl (cI, 220, .inl (fun _ => 0))), (mq5, .inl (cI, 5, .inl (fun _ => 0)))] H) (hD : va_D A [(h0, .inr (11, [.ref a1, .ref a3, .ref a5, .ref a6, .ref a7, .ref a8, d6, d7, .int 0, .ref a9, d10, .ref a10, .ref a11, d13, d14, .ref a12, d16, d17, .int 0, d19])), (a1, .inr (10, [.ref a2, .int 0, .int 0])), (a2, .inl (cI, 240, .inl (fun _ => 0))), (a3, .inr (2, [.ref a1, .ref a4, u2, u3, .int 0, .int 0])), (a4, .inl (cI, 4, .inl (fun _ => 0))), (a5, .inr (4, [.ref a1, v1, .int 0])), (a6, .inr (3, [w0, w1, w2, w3, .int 0, .int (-1)])), (a7, .inr (1, [.int 0, .int 0, .int 0, x3, x4])), (a8, .inr (8, [y0, y1, y2, .ref a13, .ref a14, y5, y6, .int 0, .int 0, .int 0])), (a9, .inr (0, [z0, .int 0, .int 0])), (a10, .inr (6, [n0, n1, n2, .int 0])), (a11, .inr (6, [o0, o1, o2, .int 0])), (a12, .inl (cI, 5, .inl (fun _ => 0))), (mh0, .inr (12, [me0, .ref mq0, .int 0, me3, me4, me5, me6, me7, .ref mq2, .ref mq3, me10, me11, me12, .int 0, me14, me15, me16, .ref mq1, me18, me19, me20, me21, .int 0, .ref mq4, .ref mq5, .int (-1), .int 0, me27, me28, me29, me30, me31, me32, me33, me34, me35, me36, me37, me38, .int 0, me40, me41, me42, me43, me44, me45, me46, .int 0, me48, me49, me50, me51, me52, .int 0, me54, .int 0])), (mq0, .inl (cI, 240, .inl (fun _ => 0))), (mq1, .inl (cI, 3, .inl (fun _ => 0))), (mq2, .inl (cI, 5, .inl (fun _ => 0))), (mq3, .inl (cI, 5, .inl (fun _ => 0))), (mq4, .inl (cI, 220, .inl (fun _ => 0))), (mq5, .inl (cI, 5, .inl (fun _ => 0)))]) (hS : va_S A s.heap H locs) (hl : lv_has ls 7 [(4, .int 0), (3, .ref ho), (2, .ref mh0), (1, .ref h0), (0, .ref b)]) : W p l e room_1 s m #[Value.ref b] below meth c H locs 442 23958 (lw_Z below #[Value.ref b] s) (F0 m 1088 ls []) := by
  obtain ⟨hx, hb, hr, hml, hown0, hts0, hX, hbl, hlocks, hgv⟩ := id C0
  have hown : s.vm.findClass RL = some m.cls := hown0
  have hts := hts0
  have hbA : ¬ A b := fun h => absurd (hAs b h) (Nat.not_le.mpr hbl)
  refine lv_aload_n hx hb dL_law_1088 rfl (lv_at hl 3 rfl) ?_
  refine lv_aload_n hx hb dL_law_1089 rfl (lv_at hl 4 rfl) ?_
  refine lv_iload hx hb dL_law_1090 (lv_at hl 0 rfl) ?_
  refine lv_iconst (v := 1) hx hb dL_law_1092 (by decide) ?_
  refine lv_iadd hx hb dL_law_1093 ?_
  refine lv_topi (fun k1 ek1 => ?_)
  obtain rfl : k1 = 1 := ek1.trans (by decide)
  refine va_sld (i := 1) hx hb hX hbl hbA hS (show ¬ ((1 : Int32) < 0 ∨ 6 ≤ (1 : Int32).toNatClampNeg) by decide) dL_law_1094 ?_
  refine lv_topi (fun k2 ek2 => ?_)
  obtain rfl : k2 = xs 1 := ek2.trans (congrArg xs (show (1 : Int32).toNatClampNeg = 1 by decide))
  refine lv_aload_n hx hb dL_law_1095 rfl (lv_at hl 4 rfl) ?_
  refine lv_iload hx hb dL_law_1096 (lv_at hl 0 rfl) ?_
  refine lv_iconst (v := 2) hx hb dL_law_1098 (by decide) ?_
  refine lv_iadd hx hb dL_law_1099 ?_
  refine lv_topi (fun k3 ek3 => ?_)
  obtain rfl : k3 = 2 := ek3.trans (by decide)
  refine va_sld (i := 2) hx hb hX hbl hbA hS (show ¬ ((2 : Int32) < 0 ∨ 6 ≤ (2 : Int32).toNatClampNeg) by decide) dL_law_1100 ?_
  refine lv_topi (fun k4 ek4 => ?_)
  obtain rfl : k4 = xs 2 := ek4.trans (congrArg xs (show (2 : Int32).toNatClampNeg = 2 by decide))
  have hPc := hP.sub (ws' := [(h0, .inr (11, [.ref a1, .ref a3, .ref a5, .ref a6, .ref a7, .ref a8, d6, d7, .int 0, .ref a9, d10, .ref a10, .ref a11, d13, d14, .ref a12, d16, d17, .int 0, d19])), (a7, .inr (1, [.int 0, .int 0, .int 0, x3, x4]))]) [0, 7] rfl
  have hDc := hD.sub (ws' := [(h0, .inr (11, [.ref a1, .ref a3, .ref a5, .ref a6, .ref a7, .ref a8, d6, d7, .int 0, .ref a9, d10, .ref a10, .ref a11, d13, d14, .ref a12, d16, d17, .int 0, d19])), (a7, .inr (1, [.int 0, .int 0, .int 0, x3, x4]))]) [0, 7] (by decide) rfl
  refine va_calli (va_runV (As := [.int (xs 1), .int (xs 2)]) (rest := []) ⟨hx, hb, hml, hown, hts⟩ (c_X11_who l dC dI cI cZ H.size h0 a7 (.ref a1) (.ref a3) (.ref a5) (.ref a6) (.ref a8) d6 d7 (.int 0) (.ref a9) d10 (.ref a10) (.ref a11) d13 d14 (.ref a12) d16 d17 (.int 0) d19 (.int 0) x3 x4 (xs 1) (xs 2)) (cwV 2 hts zg_X11_who rfl rfl rfl (by decide +kernel) ⟨Nat.le_of_ble_eq_true rfl, Nat.le_of_ble_eq_true rfl⟩) (zPreV hPc hK hDc hG (ci := 11) (q0 := 0) rfl rfl) rfl rfl hl.1 rfl (lv_room (Nat.le_of_ble_eq_true rfl)) dL_law_1101 ⟨Nat.le_of_ble_eq_true rfl, Nat.le_of_ble_eq_true rfl⟩) hS (fun _ _ h => h.elim) (fun _ h => h.elim) (fun r5 u9 t9 H1 locs ht9 hvm hwr5 hB9 hz1 hk1 hS => ?_)
  replace hP := zKept hP hk1
  try clear hB9 hz1 hk1 hvm ht9 u9 hPc hDc
  generalize H1 = H at hP hS ⊢
  obtain rfl : r5 = s_X11_who := hwr5
  refine lv_aload_n hx hb dL_law_1104 rfl (lv_at hl 2 rfl) ?_
  refine lv_aload_n hx hb dL_law_1105 rfl (lv_at hl 4 rfl) ?_
  refine lv_iload hx hb dL_law_1106 (lv_at hl 0 rfl) ?_
  refine lv_iconst (v := 1) hx hb dL_law_1108 (by decide) ?_
  refine lv_iadd hx hb dL_law_1109 ?_
  refine lv_topi (fun k6 ek6 => ?_)
  obtain rfl : k6 = 1 := ek6.trans (by decide)
  refine va_sld (i := 1) hx hb hX hbl hbA hS (show ¬ ((1 : Int32) < 0 ∨ 6 ≤ (1 : Int32).toNatClampNeg) by decide) dL_law_1110 ?_
  refine lv_topi (fun k7 ek7 => ?_)
  obtain rfl : k7 = xs 1 := ek7.trans (congrArg xs (show (1 : Int32).toNatClampNeg = 1 by decide))
  refine lv_aload_n hx hb dL_law_1111 rfl (lv_at hl 4 rfl) ?_
  refine lv_iload hx hb dL_law_1112 (lv_at hl 0 rfl) ?_
  refine lv_iconst (v := 2) hx hb dL_law_1114 (by decide) ?_
  refine lv_iadd hx hb dL_law_1115 ?_
  refine lv_topi (fun k8 ek8 => ?_)
  obtain rfl : k8 = 2 := ek8.trans (by decide)
  refine va_sld (i := 2) hx hb hX hbl hbA hS (show ¬ ((2 : Int32) < 0 ∨ 6 ≤ (2 : Int32).toNatClampNeg) by decide) dL_law_1116 ?_
  refine lv_topi (fun k9 ek9 => ?_)
  obtain rfl : k9 = xs 2 := ek9.trans (congrArg xs (show (2 : Int32).toNatClampNeg = 2 by decide))
  have hPc := hP.sub (ws' := [(mh0, .inr (12, [me0, .ref mq0, .int 0, me3, me4, me5, me6, me7, .ref mq2, .ref mq3, me10, me11, me12, .int 0, me14, me15, me16, .ref mq1, me18, me19, me20, me21, .int 0, .ref mq4, .ref mq5, .int (-1), .int 0, me27, me28, me29, me30, me31, me32, me33, me34, me35, me36, me37, me38, .int 0, me40, me41, me42, me43, me44, me45, me46, .int 0, me48, me49, me50, me51, me52, .int 0, me54, .int 0]))]) [13] rfl
  have hDc := hD.sub (ws' := [(mh0, .inr (12, [me0, .ref mq0, .int 0, me3, me4, me5, me6, me7, .ref mq2, .ref mq3, me10, me11, me12, .int 0, me14, me15, me16, .ref mq1, me18, me19, me20, me21, .int 0, .ref mq4, .ref mq5, .int (-1), .int 0, me27, me28, me29, me30, me31, me32, me33, me34, me35, me36, me37, me38, .int 0, me40, me41, me42, me43, me44, me45, me46, .int 0, me48, me49, me50, me51, me52, .int 0, me54, .int 0]))]) [13] (by decide) rfl
  refine va_calli (va_runV (As := [.int (xs 1), .int (xs 2)]) (rest := [.int s_X11_who]) ⟨hx, hb, hml, hown, hts⟩ (c_X12_who l dC dI cI cZ H.size mh0 me0 (.ref mq0) (.int 0) me3 me4 me5 me6 me7 (.ref mq2) (.ref mq3) me10 me11 me12 (.int 0) me14 me15 me16 (.ref mq1) me18 me19 me20 me21 (.ref mq4) (.ref mq5) (.int (-1)) (.int 0) me27 me28 me29 me30 me31 me32 me33 me34 me35 me36 me37 me38 (.int 0) me40 me41 me42 me43 me44 me45 me46 (.int 0) me48 me49 me50 me51 me52 (.int 0) me54 (.int 0) (xs 1) (xs 2)) (cwV 2 hts zg_X12_who rfl rfl rfl (by decide +kernel) ⟨Nat.le_of_ble_eq_true rfl, Nat.le_of_ble_eq_true rfl⟩) (zPreV hPc hK hDc hG (ci := 12) (q0 := 0) rfl rfl) rfl rfl hl.1 rfl (lv_room (Nat.le_of_ble_eq_true rfl)) dL_law_1117 ⟨Nat.le_of_ble_eq_true rfl, Nat.le_of_ble_eq_true rfl⟩) hS (fun _ _ h => h.elim) (fun _ h => h.elim) (fun r10 u9 t9 H1 locs ht9 hvm hwr10 hB9 hz1 hk1 hS => ?_)
  replace hP := zKept hP hk1
  try clear hB9 hz1 hk1 hvm ht9 u9 hPc hDc
  generalize H1 = H at hP hS ⊢
  obtain rfl : r10 = s_X12_who := hwr10
  refine lv_icmp_eq (tgt := 1563) hx hb dL_law_1120 (by decide) (fun _ => ?_) (fun c9 => absurd zq_who c9)
  exact law_end hlt C0 hA hAs hK hG hSt hX9 hS (by decide) (by decide) (lv_sub hl [0, 4] rfl)

set_option maxHeartbeats 4000000 in
set_option maxRecDepth 100000 in
theorem law_26 {p : Program} {l : Launch} {e : Env} {s : State} {m : MethodId} {below : List Frame} {meth : Method} {c : Code} {dC : Nat → ClassId} {dI : Nat → Nat → Nat} {cI cZ : ClassId} {A : Nat → Prop} {b tR sa : Nat} {xs : Nat → Int32} (hlt : l.stackTraces = false) (C0 : lw_At p s m meth c b 6 xs) (hA : ∀ q : Nat, s.heap.size ≤ q → A q) (hAs : ∀ q : Nat, A q → s.heap.size ≤ q) (hK : va_K (dC, dI) vwCl (zT cI cZ) s) (hG : zG s) (hSt : zSt tR A s) (hX9 : vk_R "DreamGuard" 196 zTx sa s ∧ vx_Zq Bundle.tN "UNASSIGNED_STACK" Bundle.steD A s s.heap ∧ vx_Zq Bundle.tN "SUPPRESSED_SENTINEL" Bundle.listD A s s.heap ∧ zF s) (ho : Nat) (h0 : Nat) (a1 : Nat) (a2 : Nat) (a3 : Nat) (a4 : Nat) (a5 : Nat) (a6 : Nat) (a7 : Nat) (a8 : Nat) (a9 : Nat) (a10 : Nat) (a11 : Nat) (a12 : Nat) (a13 : Nat) (a14 : Nat) (d6 : Value) (d7 : Value) (d10 : Value) (d13 : Value) (d14 : Value) (d16 : Value) (d17 : Value) (d19 : Value) (u2 : Value) (u3 : Value) (v1 : Value) (w0 : Value) (w1 : Value) (w2 : Value) (w3 : Value) (x3 : Value) (x4 : Value) (y0 : Value) (y1 : Value) (y2 : Value) (y5 : Value) (y6 : Value) (z0 : Value) (n0 : Value) (n1 : Value) (n2 : Value) (o0 : Value) (o1 : Value) (o2 : Value) (mh0 : Nat) (mq0 : Nat) (mq1 : Nat) (mq2 : Nat) (mq3 : Nat) (mq4 : Nat) (mq5 : Nat) (me0 : Value) (me3 : Value) (me4 : Value) (me5 : Value) (me6 : Value) (me7 : Value) (me10 : Value) (me11 : Value) (me12 : Value) (me14 : Value) (me15 : Value) (me16 : Value) (me18 : Value) (me19 : Value) (me20 : Value) (me21 : Value) (me27 : Value) (me28 : Value) (me29 : Value) (me30 : Value) (me31 : Value) (me32 : Value) (me33 : Value) (me34 : Value) (me35 : Value) (me36 : Value) (me37 : Value) (me38 : Value) (me40 : Value) (me41 : Value) (me42 : Value) (me43 : Value) (me44 : Value) (me45 : Value) (me46 : Value) (me48 : Value) (me49 : Value) (me50 : Value) (me51 : Value) (me52 : Value) (me54 : Value) {H : Heap} {locs : List Loc} {ls : Array Slot} (hP : va_P (dC, dI) vwCl [(h0, .inr (11, [.ref a1, .ref a3, .ref a5, .ref a6, .ref a7, .ref a8, d6, d7, .int 0, .ref a9, d10, .ref a10, .ref a11, d13, d14, .ref a12, d16, d17, .int 0, d19])), (a1, .inr (10, [.ref a2, .int 0, .int 0])), (a2, .inl (cI, 240, .inl (fun _ => 0))), (a3, .inr (2, [.ref a1, .ref a4, u2, u3, .int 0, .int 0])), (a4, .inl (cI, 4, .inl (fun _ => 0))), (a5, .inr (4, [.ref a1, v1, .int 0])), (a6, .inr (3, [w0, w1, w2, w3, .int 0, .int (-1)])), (a7, .inr (1, [.int 0, .int 0, .int 0, x3, x4])), (a8, .inr (8, [y0, y1, y2, .ref a13, .ref a14, y5, y6, .int 0, .int 0, .int 0])), (a9, .inr (0, [z0, .int 0, .int 0])), (a10, .inr (6, [n0, n1, n2, .int 0])), (a11, .inr (6, [o0, o1, o2, .int 0])), (a12, .inl (cI, 5, .inl (fun _ => 0))), (mh0, .inr (12, [me0, .ref mq0, .int 0, me3, me4, me5, me6, me7, .ref mq2, .ref mq3, me10, me11, me12, .int 0, me14, me15, me16, .ref mq1, me18, me19, me20, me21, .int 0, .ref mq4, .ref mq5, .int (-1), .int 0, me27, me28, me29, me30, me31, me32, me33, me34, me35, me36, me37, me38, .int 0, me40, me41, me42, me43, me44, me45, me46, .int 0, me48, me49, me50, me51, me52, .int 0, me54, .int 0])), (mq0, .inl (cI, 240, .inl (fun _ => 0))), (mq1, .inl (cI, 3, .inl (fun _ => 0))), (mq2, .inl (cI, 5, .inl (fun _ => 0))), (mq3, .inl (cI, 5, .inl (fun _ => 0))), (mq4, .inl (cI, 220, .inl (fun _ => 0))), (mq5, .inl (cI, 5, .inl (fun _ => 0)))] H) (hD : va_D A [(h0, .inr (11, [.ref a1, .ref a3, .ref a5, .ref a6, .ref a7, .ref a8, d6, d7, .int 0, .ref a9, d10, .ref a10, .ref a11, d13, d14, .ref a12, d16, d17, .int 0, d19])), (a1, .inr (10, [.ref a2, .int 0, .int 0])), (a2, .inl (cI, 240, .inl (fun _ => 0))), (a3, .inr (2, [.ref a1, .ref a4, u2, u3, .int 0, .int 0])), (a4, .inl (cI, 4, .inl (fun _ => 0))), (a5, .inr (4, [.ref a1, v1, .int 0])), (a6, .inr (3, [w0, w1, w2, w3, .int 0, .int (-1)])), (a7, .inr (1, [.int 0, .int 0, .int 0, x3, x4])), (a8, .inr (8, [y0, y1, y2, .ref a13, .ref a14, y5, y6, .int 0, .int 0, .int 0])), (a9, .inr (0, [z0, .int 0, .int 0])), (a10, .inr (6, [n0, n1, n2, .int 0])), (a11, .inr (6, [o0, o1, o2, .int 0])), (a12, .inl (cI, 5, .inl (fun _ => 0))), (mh0, .inr (12, [me0, .ref mq0, .int 0, me3, me4, me5, me6, me7, .ref mq2, .ref mq3, me10, me11, me12, .int 0, me14, me15, me16, .ref mq1, me18, me19, me20, me21, .int 0, .ref mq4, .ref mq5, .int (-1), .int 0, me27, me28, me29, me30, me31, me32, me33, me34, me35, me36, me37, me38, .int 0, me40, me41, me42, me43, me44, me45, me46, .int 0, me48, me49, me50, me51, me52, .int 0, me54, .int 0])), (mq0, .inl (cI, 240, .inl (fun _ => 0))), (mq1, .inl (cI, 3, .inl (fun _ => 0))), (mq2, .inl (cI, 5, .inl (fun _ => 0))), (mq3, .inl (cI, 5, .inl (fun _ => 0))), (mq4, .inl (cI, 220, .inl (fun _ => 0))), (mq5, .inl (cI, 5, .inl (fun _ => 0)))]) (hS : va_S A s.heap H locs) (hl : lv_has ls 7 [(4, .int 0), (3, .ref ho), (2, .ref mh0), (1, .ref h0), (0, .ref b)]) : W p l e room_1 s m #[Value.ref b] below meth c H locs 442 23958 (lw_Z below #[Value.ref b] s) (F0 m 1125 ls []) := by
  obtain ⟨hx, hb, hr, hml, hown0, hts0, hX, hbl, hlocks, hgv⟩ := id C0
  have hown : s.vm.findClass RL = some m.cls := hown0
  have hts := hts0
  have hbA : ¬ A b := fun h => absurd (hAs b h) (Nat.not_le.mpr hbl)
  refine lv_aload_n hx hb dL_law_1125 rfl (lv_at hl 3 rfl) ?_
  refine lv_aload_n hx hb dL_law_1126 rfl (lv_at hl 4 rfl) ?_
  refine lv_iload hx hb dL_law_1127 (lv_at hl 0 rfl) ?_
  refine lv_iconst (v := 1) hx hb dL_law_1129 (by decide) ?_
  refine lv_iadd hx hb dL_law_1130 ?_
  refine lv_topi (fun k1 ek1 => ?_)
  obtain rfl : k1 = 1 := ek1.trans (by decide)
  refine va_sld (i := 1) hx hb hX hbl hbA hS (show ¬ ((1 : Int32) < 0 ∨ 6 ≤ (1 : Int32).toNatClampNeg) by decide) dL_law_1131 ?_
  refine lv_topi (fun k2 ek2 => ?_)
  obtain rfl : k2 = xs 1 := ek2.trans (congrArg xs (show (1 : Int32).toNatClampNeg = 1 by decide))
  have hPc := hP.sub (ws' := [(h0, .inr (11, [.ref a1, .ref a3, .ref a5, .ref a6, .ref a7, .ref a8, d6, d7, .int 0, .ref a9, d10, .ref a10, .ref a11, d13, d14, .ref a12, d16, d17, .int 0, d19])), (a7, .inr (1, [.int 0, .int 0, .int 0, x3, x4]))]) [0, 7] rfl
  have hDc := hD.sub (ws' := [(h0, .inr (11, [.ref a1, .ref a3, .ref a5, .ref a6, .ref a7, .ref a8, d6, d7, .int 0, .ref a9, d10, .ref a10, .ref a11, d13, d14, .ref a12, d16, d17, .int 0, d19])), (a7, .inr (1, [.int 0, .int 0, .int 0, x3, x4]))]) [0, 7] (by decide) rfl
  refine va_calli (va_runV (As := [.int (xs 1)]) (rest := []) ⟨hx, hb, hml, hown, hts⟩ (c_X11_hourToAsk l dC dI cI cZ H.size h0 a7 (.ref a1) (.ref a3) (.ref a5) (.ref a6) (.ref a8) d6 d7 (.int 0) (.ref a9) d10 (.ref a10) (.ref a11) d13 d14 (.ref a12) d16 d17 (.int 0) d19 (.int 0) x3 x4 (xs 1)) (cwV 1 hts zg_X11_hourToAsk rfl rfl rfl (by decide +kernel) ⟨Nat.le_of_ble_eq_true rfl, Nat.le_of_ble_eq_true rfl⟩) (zPreV hPc hK hDc hG (ci := 11) (q0 := 0) rfl rfl) rfl rfl hl.1 rfl (lv_room (Nat.le_of_ble_eq_true rfl)) dL_law_1132 ⟨Nat.le_of_ble_eq_true rfl, Nat.le_of_ble_eq_true rfl⟩) hS (fun _ _ h => h.elim) (fun _ h => h.elim) (fun r3 u9 t9 H1 locs ht9 hvm hwr3 hB9 hz1 hk1 hS => ?_)
  replace hP := zKept hP hk1
  try clear hB9 hz1 hk1 hvm ht9 u9 hPc hDc
  generalize H1 = H at hP hS ⊢
  obtain rfl : r3 = s_X11_hourToAsk := hwr3
  refine lv_aload_n hx hb dL_law_1135 rfl (lv_at hl 2 rfl) ?_
  refine lv_aload_n hx hb dL_law_1136 rfl (lv_at hl 4 rfl) ?_
  refine lv_iload hx hb dL_law_1137 (lv_at hl 0 rfl) ?_
  refine lv_iconst (v := 1) hx hb dL_law_1139 (by decide) ?_
  refine lv_iadd hx hb dL_law_1140 ?_
  refine lv_topi (fun k4 ek4 => ?_)
  obtain rfl : k4 = 1 := ek4.trans (by decide)
  refine va_sld (i := 1) hx hb hX hbl hbA hS (show ¬ ((1 : Int32) < 0 ∨ 6 ≤ (1 : Int32).toNatClampNeg) by decide) dL_law_1141 ?_
  refine lv_topi (fun k5 ek5 => ?_)
  obtain rfl : k5 = xs 1 := ek5.trans (congrArg xs (show (1 : Int32).toNatClampNeg = 1 by decide))
  have hPc := hP.sub (ws' := [(mh0, .inr (12, [me0, .ref mq0, .int 0, me3, me4, me5, me6, me7, .ref mq2, .ref mq3, me10, me11, me12, .int 0, me14, me15, me16, .ref mq1, me18, me19, me20, me21, .int 0, .ref mq4, .ref mq5, .int (-1), .int 0, me27, me28, me29, me30, me31, me32, me33, me34, me35, me36, me37, me38, .int 0, me40, me41, me42, me43, me44, me45, me46, .int 0, me48, me49, me50, me51, me52, .int 0, me54, .int 0]))]) [13] rfl
  have hDc := hD.sub (ws' := [(mh0, .inr (12, [me0, .ref mq0, .int 0, me3, me4, me5, me6, me7, .ref mq2, .ref mq3, me10, me11, me12, .int 0, me14, me15, me16, .ref mq1, me18, me19, me20, me21, .int 0, .ref mq4, .ref mq5, .int (-1), .int 0, me27, me28, me29, me30, me31, me32, me33, me34, me35, me36, me37, me38, .int 0, me40, me41, me42, me43, me44, me45, me46, .int 0, me48, me49, me50, me51, me52, .int 0, me54, .int 0]))]) [13] (by decide) rfl
  refine va_calli (va_runV (As := [.int (xs 1)]) (rest := [.int s_X11_hourToAsk]) ⟨hx, hb, hml, hown, hts⟩ (c_X12_hourToAsk l dC dI cI cZ H.size mh0 me0 (.ref mq0) (.int 0) me3 me4 me5 me6 me7 (.ref mq2) (.ref mq3) me10 me11 me12 (.int 0) me14 me15 me16 (.ref mq1) me18 me19 me20 me21 (.ref mq4) (.ref mq5) (.int (-1)) (.int 0) me27 me28 me29 me30 me31 me32 me33 me34 me35 me36 me37 me38 (.int 0) me40 me41 me42 me43 me44 me45 me46 (.int 0) me48 me49 me50 me51 me52 (.int 0) me54 (.int 0) (xs 1)) (cwV 1 hts zg_X12_hourToAsk rfl rfl rfl (by decide +kernel) ⟨Nat.le_of_ble_eq_true rfl, Nat.le_of_ble_eq_true rfl⟩) (zPreV hPc hK hDc hG (ci := 12) (q0 := 0) rfl rfl) rfl rfl hl.1 rfl (lv_room (Nat.le_of_ble_eq_true rfl)) dL_law_1142 ⟨Nat.le_of_ble_eq_true rfl, Nat.le_of_ble_eq_true rfl⟩) hS (fun _ _ h => h.elim) (fun _ h => h.elim) (fun r6 u9 t9 H1 locs ht9 hvm hwr6 hB9 hz1 hk1 hS => ?_)
  replace hP := zKept hP hk1
  try clear hB9 hz1 hk1 hvm ht9 u9 hPc hDc
  generalize H1 = H at hP hS ⊢
  obtain rfl : r6 = s_X12_hourToAsk := hwr6
  refine lv_icmp_eq (tgt := 1563) hx hb dL_law_1145 (by decide) (fun _ => ?_) (fun c9 => absurd zq_hourToAsk c9)
  exact law_end hlt C0 hA hAs hK hG hSt hX9 hS (by decide) (by decide) (lv_sub hl [0, 4] rfl)

set_option maxHeartbeats 4000000 in
set_option maxRecDepth 100000 in
theorem law_27 {p : Program} {l : Launch} {e : Env} {s : State} {m : MethodId} {below : List Frame} {meth : Method} {c : Code} {dC : Nat → ClassId} {dI : Nat → Nat → Nat} {cI cZ : ClassId} {A : Nat → Prop} {b tR sa : Nat} {xs : Nat → Int32} (hlt : l.stackTraces = false) (C0 : lw_At p s m meth c b 6 xs) (hA : ∀ q : Nat, s.heap.size ≤ q → A q) (hAs : ∀ q : Nat, A q → s.heap.size ≤ q) (hK : va_K (dC, dI) vwCl (zT cI cZ) s) (hG : zG s) (hSt : zSt tR A s) (hX9 : vk_R "DreamGuard" 196 zTx sa s ∧ vx_Zq Bundle.tN "UNASSIGNED_STACK" Bundle.steD A s s.heap ∧ vx_Zq Bundle.tN "SUPPRESSED_SENTINEL" Bundle.listD A s s.heap ∧ zF s) (ho : Nat) (h0 : Nat) (a1 : Nat) (a2 : Nat) (a3 : Nat) (a4 : Nat) (a5 : Nat) (a6 : Nat) (a7 : Nat) (a8 : Nat) (a9 : Nat) (a10 : Nat) (a11 : Nat) (a12 : Nat) (a13 : Nat) (a14 : Nat) (d6 : Value) (d7 : Value) (d10 : Value) (d13 : Value) (d14 : Value) (d16 : Value) (d17 : Value) (d19 : Value) (u2 : Value) (u3 : Value) (v1 : Value) (w0 : Value) (w1 : Value) (w2 : Value) (w3 : Value) (x3 : Value) (x4 : Value) (y0 : Value) (y1 : Value) (y2 : Value) (y5 : Value) (y6 : Value) (z0 : Value) (n0 : Value) (n1 : Value) (n2 : Value) (o0 : Value) (o1 : Value) (o2 : Value) (mh0 : Nat) (mq0 : Nat) (mq1 : Nat) (mq2 : Nat) (mq3 : Nat) (mq4 : Nat) (mq5 : Nat) (me0 : Value) (me3 : Value) (me4 : Value) (me5 : Value) (me6 : Value) (me7 : Value) (me10 : Value) (me11 : Value) (me12 : Value) (me14 : Value) (me15 : Value) (me16 : Value) (me18 : Value) (me19 : Value) (me20 : Value) (me21 : Value) (me27 : Value) (me28 : Value) (me29 : Value) (me30 : Value) (me31 : Value) (me32 : Value) (me33 : Value) (me34 : Value) (me35 : Value) (me36 : Value) (me37 : Value) (me38 : Value) (me40 : Value) (me41 : Value) (me42 : Value) (me43 : Value) (me44 : Value) (me45 : Value) (me46 : Value) (me48 : Value) (me49 : Value) (me50 : Value) (me51 : Value) (me52 : Value) (me54 : Value) {H : Heap} {locs : List Loc} {ls : Array Slot} (hP : va_P (dC, dI) vwCl [(h0, .inr (11, [.ref a1, .ref a3, .ref a5, .ref a6, .ref a7, .ref a8, d6, d7, .int 0, .ref a9, d10, .ref a10, .ref a11, d13, d14, .ref a12, d16, d17, .int 0, d19])), (a1, .inr (10, [.ref a2, .int 0, .int 0])), (a2, .inl (cI, 240, .inl (fun _ => 0))), (a3, .inr (2, [.ref a1, .ref a4, u2, u3, .int 0, .int 0])), (a4, .inl (cI, 4, .inl (fun _ => 0))), (a5, .inr (4, [.ref a1, v1, .int 0])), (a6, .inr (3, [w0, w1, w2, w3, .int 0, .int (-1)])), (a7, .inr (1, [.int 0, .int 0, .int 0, x3, x4])), (a8, .inr (8, [y0, y1, y2, .ref a13, .ref a14, y5, y6, .int 0, .int 0, .int 0])), (a9, .inr (0, [z0, .int 0, .int 0])), (a10, .inr (6, [n0, n1, n2, .int 0])), (a11, .inr (6, [o0, o1, o2, .int 0])), (a12, .inl (cI, 5, .inl (fun _ => 0))), (mh0, .inr (12, [me0, .ref mq0, .int 0, me3, me4, me5, me6, me7, .ref mq2, .ref mq3, me10, me11, me12, .int 0, me14, me15, me16, .ref mq1, me18, me19, me20, me21, .int 0, .ref mq4, .ref mq5, .int (-1), .int 0, me27, me28, me29, me30, me31, me32, me33, me34, me35, me36, me37, me38, .int 0, me40, me41, me42, me43, me44, me45, me46, .int 0, me48, me49, me50, me51, me52, .int 0, me54, .int 0])), (mq0, .inl (cI, 240, .inl (fun _ => 0))), (mq1, .inl (cI, 3, .inl (fun _ => 0))), (mq2, .inl (cI, 5, .inl (fun _ => 0))), (mq3, .inl (cI, 5, .inl (fun _ => 0))), (mq4, .inl (cI, 220, .inl (fun _ => 0))), (mq5, .inl (cI, 5, .inl (fun _ => 0)))] H) (hD : va_D A [(h0, .inr (11, [.ref a1, .ref a3, .ref a5, .ref a6, .ref a7, .ref a8, d6, d7, .int 0, .ref a9, d10, .ref a10, .ref a11, d13, d14, .ref a12, d16, d17, .int 0, d19])), (a1, .inr (10, [.ref a2, .int 0, .int 0])), (a2, .inl (cI, 240, .inl (fun _ => 0))), (a3, .inr (2, [.ref a1, .ref a4, u2, u3, .int 0, .int 0])), (a4, .inl (cI, 4, .inl (fun _ => 0))), (a5, .inr (4, [.ref a1, v1, .int 0])), (a6, .inr (3, [w0, w1, w2, w3, .int 0, .int (-1)])), (a7, .inr (1, [.int 0, .int 0, .int 0, x3, x4])), (a8, .inr (8, [y0, y1, y2, .ref a13, .ref a14, y5, y6, .int 0, .int 0, .int 0])), (a9, .inr (0, [z0, .int 0, .int 0])), (a10, .inr (6, [n0, n1, n2, .int 0])), (a11, .inr (6, [o0, o1, o2, .int 0])), (a12, .inl (cI, 5, .inl (fun _ => 0))), (mh0, .inr (12, [me0, .ref mq0, .int 0, me3, me4, me5, me6, me7, .ref mq2, .ref mq3, me10, me11, me12, .int 0, me14, me15, me16, .ref mq1, me18, me19, me20, me21, .int 0, .ref mq4, .ref mq5, .int (-1), .int 0, me27, me28, me29, me30, me31, me32, me33, me34, me35, me36, me37, me38, .int 0, me40, me41, me42, me43, me44, me45, me46, .int 0, me48, me49, me50, me51, me52, .int 0, me54, .int 0])), (mq0, .inl (cI, 240, .inl (fun _ => 0))), (mq1, .inl (cI, 3, .inl (fun _ => 0))), (mq2, .inl (cI, 5, .inl (fun _ => 0))), (mq3, .inl (cI, 5, .inl (fun _ => 0))), (mq4, .inl (cI, 220, .inl (fun _ => 0))), (mq5, .inl (cI, 5, .inl (fun _ => 0)))]) (hS : va_S A s.heap H locs) (hl : lv_has ls 7 [(4, .int 0), (3, .ref ho), (2, .ref mh0), (1, .ref h0), (0, .ref b)]) : W p l e room_1 s m #[Value.ref b] below meth c H locs 442 23958 (lw_Z below #[Value.ref b] s) (F0 m 1150 ls []) := by
  obtain ⟨hx, hb, hr, hml, hown0, hts0, hX, hbl, hlocks, hgv⟩ := id C0
  have hown : s.vm.findClass RL = some m.cls := hown0
  have hts := hts0
  have hbA : ¬ A b := fun h => absurd (hAs b h) (Nat.not_le.mpr hbl)
  refine lv_aload_n hx hb dL_law_1150 rfl (lv_at hl 3 rfl) ?_
  refine lv_aload_n hx hb dL_law_1151 rfl (lv_at hl 4 rfl) ?_
  refine lv_iload hx hb dL_law_1152 (lv_at hl 0 rfl) ?_
  refine lv_iconst (v := 1) hx hb dL_law_1154 (by decide) ?_
  refine lv_iadd hx hb dL_law_1155 ?_
  refine lv_topi (fun k1 ek1 => ?_)
  obtain rfl : k1 = 1 := ek1.trans (by decide)
  refine va_sld (i := 1) hx hb hX hbl hbA hS (show ¬ ((1 : Int32) < 0 ∨ 6 ≤ (1 : Int32).toNatClampNeg) by decide) dL_law_1156 ?_
  refine lv_topi (fun k2 ek2 => ?_)
  obtain rfl : k2 = xs 1 := ek2.trans (congrArg xs (show (1 : Int32).toNatClampNeg = 1 by decide))
  refine lv_aload_n hx hb dL_law_1157 rfl (lv_at hl 4 rfl) ?_
  refine lv_iload hx hb dL_law_1158 (lv_at hl 0 rfl) ?_
  refine lv_iconst (v := 2) hx hb dL_law_1160 (by decide) ?_
  refine lv_iadd hx hb dL_law_1161 ?_
  refine lv_topi (fun k3 ek3 => ?_)
  obtain rfl : k3 = 2 := ek3.trans (by decide)
  refine va_sld (i := 2) hx hb hX hbl hbA hS (show ¬ ((2 : Int32) < 0 ∨ 6 ≤ (2 : Int32).toNatClampNeg) by decide) dL_law_1162 ?_
  refine lv_topi (fun k4 ek4 => ?_)
  obtain rfl : k4 = xs 2 := ek4.trans (congrArg xs (show (2 : Int32).toNatClampNeg = 2 by decide))
  refine lv_aload_n hx hb dL_law_1163 rfl (lv_at hl 4 rfl) ?_
  refine lv_iload hx hb dL_law_1164 (lv_at hl 0 rfl) ?_
  refine lv_iconst (v := 3) hx hb dL_law_1166 (by decide) ?_
  refine lv_iadd hx hb dL_law_1167 ?_
  refine lv_topi (fun k5 ek5 => ?_)
  obtain rfl : k5 = 3 := ek5.trans (by decide)
  refine va_sld (i := 3) hx hb hX hbl hbA hS (show ¬ ((3 : Int32) < 0 ∨ 6 ≤ (3 : Int32).toNatClampNeg) by decide) dL_law_1168 ?_
  refine lv_topi (fun k6 ek6 => ?_)
  obtain rfl : k6 = xs 3 := ek6.trans (congrArg xs (show (3 : Int32).toNatClampNeg = 3 by decide))
  refine lv_if_eq (tgt := 1176) hx hb dL_law_1169 (by decide) (fun c7 => ?_) (fun c7 => ?_)
  · skip
    refine lv_iconst (v := 0) hx hb dL_law_1176 (by decide) ?_
    have hPc := hP.sub (ws' := [(h0, .inr (11, [.ref a1, .ref a3, .ref a5, .ref a6, .ref a7, .ref a8, d6, d7, .int 0, .ref a9, d10, .ref a10, .ref a11, d13, d14, .ref a12, d16, d17, .int 0, d19])), (a7, .inr (1, [.int 0, .int 0, .int 0, x3, x4]))]) [0, 7] rfl
    have hDc := hD.sub (ws' := [(h0, .inr (11, [.ref a1, .ref a3, .ref a5, .ref a6, .ref a7, .ref a8, d6, d7, .int 0, .ref a9, d10, .ref a10, .ref a11, d13, d14, .ref a12, d16, d17, .int 0, d19])), (a7, .inr (1, [.int 0, .int 0, .int 0, x3, x4]))]) [0, 7] (by decide) rfl
    refine va_calli (va_runV (As := [.int (xs 1), .int (xs 2), .int 0]) (rest := []) ⟨hx, hb, hml, hown, hts⟩ (c_X11_said l dC dI cI cZ H.size h0 a7 (.ref a1) (.ref a3) (.ref a5) (.ref a6) (.ref a8) d6 d7 (.int 0) (.ref a9) d10 (.ref a10) (.ref a11) d13 d14 (.ref a12) d16 d17 (.int 0) d19 (.int 0) x3 x4 (xs 1) (xs 2) 0) (cwV 3 hts zg_X11_said rfl rfl rfl (by decide +kernel) ⟨Nat.le_of_ble_eq_true rfl, Nat.le_of_ble_eq_true rfl⟩) (zPreV hPc hK hDc hG (ci := 11) (q0 := 0) rfl rfl) rfl rfl hl.1 rfl (lv_room (Nat.le_of_ble_eq_true rfl)) dL_law_1177 ⟨Nat.le_of_ble_eq_true rfl, Nat.le_of_ble_eq_true rfl⟩) hS (fun _ _ h => h.elim) (fun _ h => h.elim) (fun r8 u9 t9 H1 locs ht9 hvm hwr8 hB9 hz1 hk1 hS => ?_)
    replace hP := zKept hP hk1
    try clear hB9 hz1 hk1 hvm ht9 u9 hPc hDc
    generalize H1 = H at hP hS ⊢
    obtain rfl : r8 = s_X11_said := hwr8
    refine lv_aload_n hx hb dL_law_1180 rfl (lv_at hl 2 rfl) ?_
    refine lv_aload_n hx hb dL_law_1181 rfl (lv_at hl 4 rfl) ?_
    refine lv_iload hx hb dL_law_1182 (lv_at hl 0 rfl) ?_
    refine lv_iconst (v := 1) hx hb dL_law_1184 (by decide) ?_
    refine lv_iadd hx hb dL_law_1185 ?_
    refine lv_topi (fun k9 ek9 => ?_)
    obtain rfl : k9 = 1 := ek9.trans (by decide)
    refine va_sld (i := 1) hx hb hX hbl hbA hS (show ¬ ((1 : Int32) < 0 ∨ 6 ≤ (1 : Int32).toNatClampNeg) by decide) dL_law_1186 ?_
    refine lv_topi (fun k10 ek10 => ?_)
    obtain rfl : k10 = xs 1 := ek10.trans (congrArg xs (show (1 : Int32).toNatClampNeg = 1 by decide))
    refine lv_aload_n hx hb dL_law_1187 rfl (lv_at hl 4 rfl) ?_
    refine lv_iload hx hb dL_law_1188 (lv_at hl 0 rfl) ?_
    refine lv_iconst (v := 2) hx hb dL_law_1190 (by decide) ?_
    refine lv_iadd hx hb dL_law_1191 ?_
    refine lv_topi (fun k11 ek11 => ?_)
    obtain rfl : k11 = 2 := ek11.trans (by decide)
    refine va_sld (i := 2) hx hb hX hbl hbA hS (show ¬ ((2 : Int32) < 0 ∨ 6 ≤ (2 : Int32).toNatClampNeg) by decide) dL_law_1192 ?_
    refine lv_topi (fun k12 ek12 => ?_)
    obtain rfl : k12 = xs 2 := ek12.trans (congrArg xs (show (2 : Int32).toNatClampNeg = 2 by decide))
    refine lv_aload_n hx hb dL_law_1193 rfl (lv_at hl 4 rfl) ?_
    refine lv_iload hx hb dL_law_1194 (lv_at hl 0 rfl) ?_
    refine lv_iconst (v := 3) hx hb dL_law_1196 (by decide) ?_
    refine lv_iadd hx hb dL_law_1197 ?_
    refine lv_topi (fun k13 ek13 => ?_)
    obtain rfl : k13 = 3 := ek13.trans (by decide)
    refine va_sld (i := 3) hx hb hX hbl hbA hS (show ¬ ((3 : Int32) < 0 ∨ 6 ≤ (3 : Int32).toNatClampNeg) by decide) dL_law_1198 ?_
    refine lv_topi (fun k14 ek14 => ?_)
    obtain rfl : k14 = xs 3 := ek14.trans (congrArg xs (show (3 : Int32).toNatClampNeg = 3 by decide))
    refine lv_if_eq (tgt := 1206) hx hb dL_law_1199 (by decide) (fun _ => ?_) (fun c9 => absurd c7 c9)
    refine lv_iconst (v := 0) hx hb dL_law_1206 (by decide) ?_
    have hPc := hP.sub (ws' := [(mh0, .inr (12, [me0, .ref mq0, .int 0, me3, me4, me5, me6, me7, .ref mq2, .ref mq3, me10, me11, me12, .int 0, me14, me15, me16, .ref mq1, me18, me19, me20, me21, .int 0, .ref mq4, .ref mq5, .int (-1), .int 0, me27, me28, me29, me30, me31, me32, me33, me34, me35, me36, me37, me38, .int 0, me40, me41, me42, me43, me44, me45, me46, .int 0, me48, me49, me50, me51, me52, .int 0, me54, .int 0]))]) [13] rfl
    have hDc := hD.sub (ws' := [(mh0, .inr (12, [me0, .ref mq0, .int 0, me3, me4, me5, me6, me7, .ref mq2, .ref mq3, me10, me11, me12, .int 0, me14, me15, me16, .ref mq1, me18, me19, me20, me21, .int 0, .ref mq4, .ref mq5, .int (-1), .int 0, me27, me28, me29, me30, me31, me32, me33, me34, me35, me36, me37, me38, .int 0, me40, me41, me42, me43, me44, me45, me46, .int 0, me48, me49, me50, me51, me52, .int 0, me54, .int 0]))]) [13] (by decide) rfl
    refine va_calli (va_runV (As := [.int (xs 1), .int (xs 2), .int 0]) (rest := [.int s_X11_said]) ⟨hx, hb, hml, hown, hts⟩ (c_X12_said l dC dI cI cZ H.size mh0 me0 (.ref mq0) (.int 0) me3 me4 me5 me6 me7 (.ref mq2) (.ref mq3) me10 me11 me12 (.int 0) me14 me15 me16 (.ref mq1) me18 me19 me20 me21 (.ref mq4) (.ref mq5) (.int (-1)) (.int 0) me27 me28 me29 me30 me31 me32 me33 me34 me35 me36 me37 me38 (.int 0) me40 me41 me42 me43 me44 me45 me46 (.int 0) me48 me49 me50 me51 me52 (.int 0) me54 (.int 0) (xs 1) (xs 2) 0) (cwV 3 hts zg_X12_said rfl rfl rfl (by decide +kernel) ⟨Nat.le_of_ble_eq_true rfl, Nat.le_of_ble_eq_true rfl⟩) (zPreV hPc hK hDc hG (ci := 12) (q0 := 0) rfl rfl) rfl rfl hl.1 rfl (lv_room (Nat.le_of_ble_eq_true rfl)) dL_law_1207 ⟨Nat.le_of_ble_eq_true rfl, Nat.le_of_ble_eq_true rfl⟩) hS (fun _ _ h => h.elim) (fun _ h => h.elim) (fun r15 u9 t9 H1 locs ht9 hvm hwr15 hB9 hz1 hk1 hS => ?_)
    replace hP := zKept hP hk1
    try clear hB9 hz1 hk1 hvm ht9 u9 hPc hDc
    generalize H1 = H at hP hS ⊢
    obtain rfl : r15 = s_X12_said := hwr15
    refine lv_icmp_eq (tgt := 1563) hx hb dL_law_1210 (by decide) (fun _ => ?_) (fun c9 => absurd zq_said c9)
    exact law_end hlt C0 hA hAs hK hG hSt hX9 hS (by decide) (by decide) (lv_sub hl [0, 4] rfl)
  · skip
    refine lv_iconst (v := 1) hx hb dL_law_1172 (by decide) ?_
    refine lv_goto (tgt := 1177) hx hb dL_law_1173 (by decide) ?_
    have hPc := hP.sub (ws' := [(h0, .inr (11, [.ref a1, .ref a3, .ref a5, .ref a6, .ref a7, .ref a8, d6, d7, .int 0, .ref a9, d10, .ref a10, .ref a11, d13, d14, .ref a12, d16, d17, .int 0, d19])), (a7, .inr (1, [.int 0, .int 0, .int 0, x3, x4]))]) [0, 7] rfl
    have hDc := hD.sub (ws' := [(h0, .inr (11, [.ref a1, .ref a3, .ref a5, .ref a6, .ref a7, .ref a8, d6, d7, .int 0, .ref a9, d10, .ref a10, .ref a11, d13, d14, .ref a12, d16, d17, .int 0, d19])), (a7, .inr (1, [.int 0, .int 0, .int 0, x3, x4]))]) [0, 7] (by decide) rfl
    refine va_calli (va_runV (As := [.int (xs 1), .int (xs 2), .int 1]) (rest := []) ⟨hx, hb, hml, hown, hts⟩ (c_X11_said l dC dI cI cZ H.size h0 a7 (.ref a1) (.ref a3) (.ref a5) (.ref a6) (.ref a8) d6 d7 (.int 0) (.ref a9) d10 (.ref a10) (.ref a11) d13 d14 (.ref a12) d16 d17 (.int 0) d19 (.int 0) x3 x4 (xs 1) (xs 2) 1) (cwV 3 hts zg_X11_said rfl rfl rfl (by decide +kernel) ⟨Nat.le_of_ble_eq_true rfl, Nat.le_of_ble_eq_true rfl⟩) (zPreV hPc hK hDc hG (ci := 11) (q0 := 0) rfl rfl) rfl rfl hl.1 rfl (lv_room (Nat.le_of_ble_eq_true rfl)) dL_law_1177 ⟨Nat.le_of_ble_eq_true rfl, Nat.le_of_ble_eq_true rfl⟩) hS (fun _ _ h => h.elim) (fun _ h => h.elim) (fun r16 u9 t9 H1 locs ht9 hvm hwr16 hB9 hz1 hk1 hS => ?_)
    replace hP := zKept hP hk1
    try clear hB9 hz1 hk1 hvm ht9 u9 hPc hDc
    generalize H1 = H at hP hS ⊢
    obtain rfl : r16 = s_X11_said := hwr16
    refine lv_aload_n hx hb dL_law_1180 rfl (lv_at hl 2 rfl) ?_
    refine lv_aload_n hx hb dL_law_1181 rfl (lv_at hl 4 rfl) ?_
    refine lv_iload hx hb dL_law_1182 (lv_at hl 0 rfl) ?_
    refine lv_iconst (v := 1) hx hb dL_law_1184 (by decide) ?_
    refine lv_iadd hx hb dL_law_1185 ?_
    refine lv_topi (fun k17 ek17 => ?_)
    obtain rfl : k17 = 1 := ek17.trans (by decide)
    refine va_sld (i := 1) hx hb hX hbl hbA hS (show ¬ ((1 : Int32) < 0 ∨ 6 ≤ (1 : Int32).toNatClampNeg) by decide) dL_law_1186 ?_
    refine lv_topi (fun k18 ek18 => ?_)
    obtain rfl : k18 = xs 1 := ek18.trans (congrArg xs (show (1 : Int32).toNatClampNeg = 1 by decide))
    refine lv_aload_n hx hb dL_law_1187 rfl (lv_at hl 4 rfl) ?_
    refine lv_iload hx hb dL_law_1188 (lv_at hl 0 rfl) ?_
    refine lv_iconst (v := 2) hx hb dL_law_1190 (by decide) ?_
    refine lv_iadd hx hb dL_law_1191 ?_
    refine lv_topi (fun k19 ek19 => ?_)
    obtain rfl : k19 = 2 := ek19.trans (by decide)
    refine va_sld (i := 2) hx hb hX hbl hbA hS (show ¬ ((2 : Int32) < 0 ∨ 6 ≤ (2 : Int32).toNatClampNeg) by decide) dL_law_1192 ?_
    refine lv_topi (fun k20 ek20 => ?_)
    obtain rfl : k20 = xs 2 := ek20.trans (congrArg xs (show (2 : Int32).toNatClampNeg = 2 by decide))
    refine lv_aload_n hx hb dL_law_1193 rfl (lv_at hl 4 rfl) ?_
    refine lv_iload hx hb dL_law_1194 (lv_at hl 0 rfl) ?_
    refine lv_iconst (v := 3) hx hb dL_law_1196 (by decide) ?_
    refine lv_iadd hx hb dL_law_1197 ?_
    refine lv_topi (fun k21 ek21 => ?_)
    obtain rfl : k21 = 3 := ek21.trans (by decide)
    refine va_sld (i := 3) hx hb hX hbl hbA hS (show ¬ ((3 : Int32) < 0 ∨ 6 ≤ (3 : Int32).toNatClampNeg) by decide) dL_law_1198 ?_
    refine lv_topi (fun k22 ek22 => ?_)
    obtain rfl : k22 = xs 3 := ek22.trans (congrArg xs (show (3 : Int32).toNatClampNeg = 3 by decide))
    refine lv_if_eq (tgt := 1206) hx hb dL_law_1199 (by decide) (fun c9 => absurd c9 c7) (fun _ => ?_)
    refine lv_iconst (v := 1) hx hb dL_law_1202 (by decide) ?_
    refine lv_goto (tgt := 1207) hx hb dL_law_1203 (by decide) ?_
    have hPc := hP.sub (ws' := [(mh0, .inr (12, [me0, .ref mq0, .int 0, me3, me4, me5, me6, me7, .ref mq2, .ref mq3, me10, me11, me12, .int 0, me14, me15, me16, .ref mq1, me18, me19, me20, me21, .int 0, .ref mq4, .ref mq5, .int (-1), .int 0, me27, me28, me29, me30, me31, me32, me33, me34, me35, me36, me37, me38, .int 0, me40, me41, me42, me43, me44, me45, me46, .int 0, me48, me49, me50, me51, me52, .int 0, me54, .int 0]))]) [13] rfl
    have hDc := hD.sub (ws' := [(mh0, .inr (12, [me0, .ref mq0, .int 0, me3, me4, me5, me6, me7, .ref mq2, .ref mq3, me10, me11, me12, .int 0, me14, me15, me16, .ref mq1, me18, me19, me20, me21, .int 0, .ref mq4, .ref mq5, .int (-1), .int 0, me27, me28, me29, me30, me31, me32, me33, me34, me35, me36, me37, me38, .int 0, me40, me41, me42, me43, me44, me45, me46, .int 0, me48, me49, me50, me51, me52, .int 0, me54, .int 0]))]) [13] (by decide) rfl
    refine va_calli (va_runV (As := [.int (xs 1), .int (xs 2), .int 1]) (rest := [.int s_X11_said]) ⟨hx, hb, hml, hown, hts⟩ (c_X12_said l dC dI cI cZ H.size mh0 me0 (.ref mq0) (.int 0) me3 me4 me5 me6 me7 (.ref mq2) (.ref mq3) me10 me11 me12 (.int 0) me14 me15 me16 (.ref mq1) me18 me19 me20 me21 (.ref mq4) (.ref mq5) (.int (-1)) (.int 0) me27 me28 me29 me30 me31 me32 me33 me34 me35 me36 me37 me38 (.int 0) me40 me41 me42 me43 me44 me45 me46 (.int 0) me48 me49 me50 me51 me52 (.int 0) me54 (.int 0) (xs 1) (xs 2) 1) (cwV 3 hts zg_X12_said rfl rfl rfl (by decide +kernel) ⟨Nat.le_of_ble_eq_true rfl, Nat.le_of_ble_eq_true rfl⟩) (zPreV hPc hK hDc hG (ci := 12) (q0 := 0) rfl rfl) rfl rfl hl.1 rfl (lv_room (Nat.le_of_ble_eq_true rfl)) dL_law_1207 ⟨Nat.le_of_ble_eq_true rfl, Nat.le_of_ble_eq_true rfl⟩) hS (fun _ _ h => h.elim) (fun _ h => h.elim) (fun r23 u9 t9 H1 locs ht9 hvm hwr23 hB9 hz1 hk1 hS => ?_)
    replace hP := zKept hP hk1
    try clear hB9 hz1 hk1 hvm ht9 u9 hPc hDc
    generalize H1 = H at hP hS ⊢
    obtain rfl : r23 = s_X12_said := hwr23
    refine lv_icmp_eq (tgt := 1563) hx hb dL_law_1210 (by decide) (fun _ => ?_) (fun c9 => absurd zq_said c9)
    exact law_end hlt C0 hA hAs hK hG hSt hX9 hS (by decide) (by decide) (lv_sub hl [0, 4] rfl)

set_option maxHeartbeats 4000000 in
set_option maxRecDepth 100000 in
theorem law_28 {p : Program} {l : Launch} {e : Env} {s : State} {m : MethodId} {below : List Frame} {meth : Method} {c : Code} {dC : Nat → ClassId} {dI : Nat → Nat → Nat} {cI cZ : ClassId} {A : Nat → Prop} {b tR sa : Nat} {xs : Nat → Int32} (hlt : l.stackTraces = false) (C0 : lw_At p s m meth c b 6 xs) (hA : ∀ q : Nat, s.heap.size ≤ q → A q) (hAs : ∀ q : Nat, A q → s.heap.size ≤ q) (hK : va_K (dC, dI) vwCl (zT cI cZ) s) (hG : zG s) (hSt : zSt tR A s) (hX9 : vk_R "DreamGuard" 196 zTx sa s ∧ vx_Zq Bundle.tN "UNASSIGNED_STACK" Bundle.steD A s s.heap ∧ vx_Zq Bundle.tN "SUPPRESSED_SENTINEL" Bundle.listD A s s.heap ∧ zF s) (ho : Nat) (h0 : Nat) (a1 : Nat) (a2 : Nat) (a3 : Nat) (a4 : Nat) (a5 : Nat) (a6 : Nat) (a7 : Nat) (a8 : Nat) (a9 : Nat) (a10 : Nat) (a11 : Nat) (a12 : Nat) (a13 : Nat) (a14 : Nat) (d6 : Value) (d7 : Value) (d10 : Value) (d13 : Value) (d14 : Value) (d16 : Value) (d17 : Value) (d19 : Value) (u2 : Value) (u3 : Value) (v1 : Value) (w0 : Value) (w1 : Value) (w2 : Value) (w3 : Value) (x3 : Value) (x4 : Value) (y0 : Value) (y1 : Value) (y2 : Value) (y5 : Value) (y6 : Value) (z0 : Value) (n0 : Value) (n1 : Value) (n2 : Value) (o0 : Value) (o1 : Value) (o2 : Value) (mh0 : Nat) (mq0 : Nat) (mq1 : Nat) (mq2 : Nat) (mq3 : Nat) (mq4 : Nat) (mq5 : Nat) (me0 : Value) (me3 : Value) (me4 : Value) (me5 : Value) (me6 : Value) (me7 : Value) (me10 : Value) (me11 : Value) (me12 : Value) (me14 : Value) (me15 : Value) (me16 : Value) (me18 : Value) (me19 : Value) (me20 : Value) (me21 : Value) (me27 : Value) (me28 : Value) (me29 : Value) (me30 : Value) (me31 : Value) (me32 : Value) (me33 : Value) (me34 : Value) (me35 : Value) (me36 : Value) (me37 : Value) (me38 : Value) (me40 : Value) (me41 : Value) (me42 : Value) (me43 : Value) (me44 : Value) (me45 : Value) (me46 : Value) (me48 : Value) (me49 : Value) (me50 : Value) (me51 : Value) (me52 : Value) (me54 : Value) {H : Heap} {locs : List Loc} {ls : Array Slot} (hP : va_P (dC, dI) vwCl [(h0, .inr (11, [.ref a1, .ref a3, .ref a5, .ref a6, .ref a7, .ref a8, d6, d7, .int 0, .ref a9, d10, .ref a10, .ref a11, d13, d14, .ref a12, d16, d17, .int 0, d19])), (a1, .inr (10, [.ref a2, .int 0, .int 0])), (a2, .inl (cI, 240, .inl (fun _ => 0))), (a3, .inr (2, [.ref a1, .ref a4, u2, u3, .int 0, .int 0])), (a4, .inl (cI, 4, .inl (fun _ => 0))), (a5, .inr (4, [.ref a1, v1, .int 0])), (a6, .inr (3, [w0, w1, w2, w3, .int 0, .int (-1)])), (a7, .inr (1, [.int 0, .int 0, .int 0, x3, x4])), (a8, .inr (8, [y0, y1, y2, .ref a13, .ref a14, y5, y6, .int 0, .int 0, .int 0])), (a9, .inr (0, [z0, .int 0, .int 0])), (a10, .inr (6, [n0, n1, n2, .int 0])), (a11, .inr (6, [o0, o1, o2, .int 0])), (a12, .inl (cI, 5, .inl (fun _ => 0))), (mh0, .inr (12, [me0, .ref mq0, .int 0, me3, me4, me5, me6, me7, .ref mq2, .ref mq3, me10, me11, me12, .int 0, me14, me15, me16, .ref mq1, me18, me19, me20, me21, .int 0, .ref mq4, .ref mq5, .int (-1), .int 0, me27, me28, me29, me30, me31, me32, me33, me34, me35, me36, me37, me38, .int 0, me40, me41, me42, me43, me44, me45, me46, .int 0, me48, me49, me50, me51, me52, .int 0, me54, .int 0])), (mq0, .inl (cI, 240, .inl (fun _ => 0))), (mq1, .inl (cI, 3, .inl (fun _ => 0))), (mq2, .inl (cI, 5, .inl (fun _ => 0))), (mq3, .inl (cI, 5, .inl (fun _ => 0))), (mq4, .inl (cI, 220, .inl (fun _ => 0))), (mq5, .inl (cI, 5, .inl (fun _ => 0)))] H) (hD : va_D A [(h0, .inr (11, [.ref a1, .ref a3, .ref a5, .ref a6, .ref a7, .ref a8, d6, d7, .int 0, .ref a9, d10, .ref a10, .ref a11, d13, d14, .ref a12, d16, d17, .int 0, d19])), (a1, .inr (10, [.ref a2, .int 0, .int 0])), (a2, .inl (cI, 240, .inl (fun _ => 0))), (a3, .inr (2, [.ref a1, .ref a4, u2, u3, .int 0, .int 0])), (a4, .inl (cI, 4, .inl (fun _ => 0))), (a5, .inr (4, [.ref a1, v1, .int 0])), (a6, .inr (3, [w0, w1, w2, w3, .int 0, .int (-1)])), (a7, .inr (1, [.int 0, .int 0, .int 0, x3, x4])), (a8, .inr (8, [y0, y1, y2, .ref a13, .ref a14, y5, y6, .int 0, .int 0, .int 0])), (a9, .inr (0, [z0, .int 0, .int 0])), (a10, .inr (6, [n0, n1, n2, .int 0])), (a11, .inr (6, [o0, o1, o2, .int 0])), (a12, .inl (cI, 5, .inl (fun _ => 0))), (mh0, .inr (12, [me0, .ref mq0, .int 0, me3, me4, me5, me6, me7, .ref mq2, .ref mq3, me10, me11, me12, .int 0, me14, me15, me16, .ref mq1, me18, me19, me20, me21, .int 0, .ref mq4, .ref mq5, .int (-1), .int 0, me27, me28, me29, me30, me31, me32, me33, me34, me35, me36, me37, me38, .int 0, me40, me41, me42, me43, me44, me45, me46, .int 0, me48, me49, me50, me51, me52, .int 0, me54, .int 0])), (mq0, .inl (cI, 240, .inl (fun _ => 0))), (mq1, .inl (cI, 3, .inl (fun _ => 0))), (mq2, .inl (cI, 5, .inl (fun _ => 0))), (mq3, .inl (cI, 5, .inl (fun _ => 0))), (mq4, .inl (cI, 220, .inl (fun _ => 0))), (mq5, .inl (cI, 5, .inl (fun _ => 0)))]) (hS : va_S A s.heap H locs) (hl : lv_has ls 7 [(4, .int 0), (3, .ref ho), (2, .ref mh0), (1, .ref h0), (0, .ref b)]) : W p l e room_1 s m #[Value.ref b] below meth c H locs 442 23958 (lw_Z below #[Value.ref b] s) (F0 m 1215 ls []) := by
  obtain ⟨hx, hb, hr, hml, hown0, hts0, hX, hbl, hlocks, hgv⟩ := id C0
  have hown : s.vm.findClass RL = some m.cls := hown0
  have hts := hts0
  have hbA : ¬ A b := fun h => absurd (hAs b h) (Nat.not_le.mpr hbl)
  refine lv_aload_n hx hb dL_law_1215 rfl (lv_at hl 3 rfl) ?_
  have hPc := hP.sub (ws' := [(h0, .inr (11, [.ref a1, .ref a3, .ref a5, .ref a6, .ref a7, .ref a8, d6, d7, .int 0, .ref a9, d10, .ref a10, .ref a11, d13, d14, .ref a12, d16, d17, .int 0, d19])), (a7, .inr (1, [.int 0, .int 0, .int 0, x3, x4]))]) [0, 7] rfl
  have hDc := hD.sub (ws' := [(h0, .inr (11, [.ref a1, .ref a3, .ref a5, .ref a6, .ref a7, .ref a8, d6, d7, .int 0, .ref a9, d10, .ref a10, .ref a11, d13, d14, .ref a12, d16, d17, .int 0, d19])), (a7, .inr (1, [.int 0, .int 0, .int 0, x3, x4]))]) [0, 7] (by decide) rfl
  refine va_calli (va_runV (As := []) (rest := []) ⟨hx, hb, hml, hown, hts⟩ (c_X11_liars l dC dI cI cZ H.size h0 a7 (.ref a1) (.ref a3) (.ref a5) (.ref a6) (.ref a8) d6 d7 (.int 0) (.ref a9) d10 (.ref a10) (.ref a11) d13 d14 (.ref a12) d16 d17 (.int 0) d19 (.int 0) x3 x4) (cwV 0 hts zg_X11_liars rfl rfl rfl (by decide +kernel) ⟨Nat.le_of_ble_eq_true rfl, Nat.le_of_ble_eq_true rfl⟩) (zPreV hPc hK hDc hG (ci := 11) (q0 := 0) rfl rfl) rfl rfl hl.1 rfl (lv_room (Nat.le_of_ble_eq_true rfl)) dL_law_1216 ⟨Nat.le_of_ble_eq_true rfl, Nat.le_of_ble_eq_true rfl⟩) hS (fun _ _ h => h.elim) (fun _ h => h.elim) (fun r1 u9 t9 H1 locs ht9 hvm hwr1 hB9 hz1 hk1 hS => ?_)
  replace hP := zKept hP hk1
  try clear hB9 hz1 hk1 hvm ht9 u9 hPc hDc
  generalize H1 = H at hP hS ⊢
  obtain rfl : r1 = s_X11_liars := hwr1
  refine lv_aload_n hx hb dL_law_1219 rfl (lv_at hl 2 rfl) ?_
  have hPc := hP.sub (ws' := [(mh0, .inr (12, [me0, .ref mq0, .int 0, me3, me4, me5, me6, me7, .ref mq2, .ref mq3, me10, me11, me12, .int 0, me14, me15, me16, .ref mq1, me18, me19, me20, me21, .int 0, .ref mq4, .ref mq5, .int (-1), .int 0, me27, me28, me29, me30, me31, me32, me33, me34, me35, me36, me37, me38, .int 0, me40, me41, me42, me43, me44, me45, me46, .int 0, me48, me49, me50, me51, me52, .int 0, me54, .int 0]))]) [13] rfl
  have hDc := hD.sub (ws' := [(mh0, .inr (12, [me0, .ref mq0, .int 0, me3, me4, me5, me6, me7, .ref mq2, .ref mq3, me10, me11, me12, .int 0, me14, me15, me16, .ref mq1, me18, me19, me20, me21, .int 0, .ref mq4, .ref mq5, .int (-1), .int 0, me27, me28, me29, me30, me31, me32, me33, me34, me35, me36, me37, me38, .int 0, me40, me41, me42, me43, me44, me45, me46, .int 0, me48, me49, me50, me51, me52, .int 0, me54, .int 0]))]) [13] (by decide) rfl
  refine va_calli (va_runV (As := []) (rest := [.int s_X11_liars]) ⟨hx, hb, hml, hown, hts⟩ (c_X12_liars l dC dI cI cZ H.size mh0 me0 (.ref mq0) (.int 0) me3 me4 me5 me6 me7 (.ref mq2) (.ref mq3) me10 me11 me12 (.int 0) me14 me15 me16 (.ref mq1) me18 me19 me20 me21 (.ref mq4) (.ref mq5) (.int (-1)) (.int 0) me27 me28 me29 me30 me31 me32 me33 me34 me35 me36 me37 me38 (.int 0) me40 me41 me42 me43 me44 me45 me46 (.int 0) me48 me49 me50 me51 me52 (.int 0) me54 (.int 0)) (cwV 0 hts zg_X12_liars rfl rfl rfl (by decide +kernel) ⟨Nat.le_of_ble_eq_true rfl, Nat.le_of_ble_eq_true rfl⟩) (zPreV hPc hK hDc hG (ci := 12) (q0 := 0) rfl rfl) rfl rfl hl.1 rfl (lv_room (Nat.le_of_ble_eq_true rfl)) dL_law_1220 ⟨Nat.le_of_ble_eq_true rfl, Nat.le_of_ble_eq_true rfl⟩) hS (fun _ _ h => h.elim) (fun _ h => h.elim) (fun r2 u9 t9 H1 locs ht9 hvm hwr2 hB9 hz1 hk1 hS => ?_)
  replace hP := zKept hP hk1
  try clear hB9 hz1 hk1 hvm ht9 u9 hPc hDc
  generalize H1 = H at hP hS ⊢
  obtain rfl : r2 = s_X12_liars := hwr2
  refine lv_icmp_eq (tgt := 1563) hx hb dL_law_1223 (by decide) (fun _ => ?_) (fun c9 => absurd zq_liars c9)
  exact law_end hlt C0 hA hAs hK hG hSt hX9 hS (by decide) (by decide) (lv_sub hl [0, 4] rfl)

set_option maxHeartbeats 4000000 in
set_option maxRecDepth 100000 in
theorem law_29 {p : Program} {l : Launch} {e : Env} {s : State} {m : MethodId} {below : List Frame} {meth : Method} {c : Code} {dC : Nat → ClassId} {dI : Nat → Nat → Nat} {cI cZ : ClassId} {A : Nat → Prop} {b tR sa : Nat} {xs : Nat → Int32} (hlt : l.stackTraces = false) (C0 : lw_At p s m meth c b 6 xs) (hA : ∀ q : Nat, s.heap.size ≤ q → A q) (hAs : ∀ q : Nat, A q → s.heap.size ≤ q) (hK : va_K (dC, dI) vwCl (zT cI cZ) s) (hG : zG s) (hSt : zSt tR A s) (hX9 : vk_R "DreamGuard" 196 zTx sa s ∧ vx_Zq Bundle.tN "UNASSIGNED_STACK" Bundle.steD A s s.heap ∧ vx_Zq Bundle.tN "SUPPRESSED_SENTINEL" Bundle.listD A s s.heap ∧ zF s) (ho : Nat) (h0 : Nat) (a1 : Nat) (a2 : Nat) (a3 : Nat) (a4 : Nat) (a5 : Nat) (a6 : Nat) (a7 : Nat) (a8 : Nat) (a9 : Nat) (a10 : Nat) (a11 : Nat) (a12 : Nat) (a13 : Nat) (a14 : Nat) (d6 : Value) (d7 : Value) (d10 : Value) (d13 : Value) (d14 : Value) (d16 : Value) (d17 : Value) (d19 : Value) (u2 : Value) (u3 : Value) (v1 : Value) (w0 : Value) (w1 : Value) (w2 : Value) (w3 : Value) (x3 : Value) (x4 : Value) (y0 : Value) (y1 : Value) (y2 : Value) (y5 : Value) (y6 : Value) (z0 : Value) (n0 : Value) (n1 : Value) (n2 : Value) (o0 : Value) (o1 : Value) (o2 : Value) (mh0 : Nat) (mq0 : Nat) (mq1 : Nat) (mq2 : Nat) (mq3 : Nat) (mq4 : Nat) (mq5 : Nat) (me0 : Value) (me3 : Value) (me4 : Value) (me5 : Value) (me6 : Value) (me7 : Value) (me10 : Value) (me11 : Value) (me12 : Value) (me14 : Value) (me15 : Value) (me16 : Value) (me18 : Value) (me19 : Value) (me20 : Value) (me21 : Value) (me27 : Value) (me28 : Value) (me29 : Value) (me30 : Value) (me31 : Value) (me32 : Value) (me33 : Value) (me34 : Value) (me35 : Value) (me36 : Value) (me37 : Value) (me38 : Value) (me40 : Value) (me41 : Value) (me42 : Value) (me43 : Value) (me44 : Value) (me45 : Value) (me46 : Value) (me48 : Value) (me49 : Value) (me50 : Value) (me51 : Value) (me52 : Value) (me54 : Value) {H : Heap} {locs : List Loc} {ls : Array Slot} (hP : va_P (dC, dI) vwCl [(h0, .inr (11, [.ref a1, .ref a3, .ref a5, .ref a6, .ref a7, .ref a8, d6, d7, .int 0, .ref a9, d10, .ref a10, .ref a11, d13, d14, .ref a12, d16, d17, .int 0, d19])), (a1, .inr (10, [.ref a2, .int 0, .int 0])), (a2, .inl (cI, 240, .inl (fun _ => 0))), (a3, .inr (2, [.ref a1, .ref a4, u2, u3, .int 0, .int 0])), (a4, .inl (cI, 4, .inl (fun _ => 0))), (a5, .inr (4, [.ref a1, v1, .int 0])), (a6, .inr (3, [w0, w1, w2, w3, .int 0, .int (-1)])), (a7, .inr (1, [.int 0, .int 0, .int 0, x3, x4])), (a8, .inr (8, [y0, y1, y2, .ref a13, .ref a14, y5, y6, .int 0, .int 0, .int 0])), (a9, .inr (0, [z0, .int 0, .int 0])), (a10, .inr (6, [n0, n1, n2, .int 0])), (a11, .inr (6, [o0, o1, o2, .int 0])), (a12, .inl (cI, 5, .inl (fun _ => 0))), (mh0, .inr (12, [me0, .ref mq0, .int 0, me3, me4, me5, me6, me7, .ref mq2, .ref mq3, me10, me11, me12, .int 0, me14, me15, me16, .ref mq1, me18, me19, me20, me21, .int 0, .ref mq4, .ref mq5, .int (-1), .int 0, me27, me28, me29, me30, me31, me32, me33, me34, me35, me36, me37, me38, .int 0, me40, me41, me42, me43, me44, me45, me46, .int 0, me48, me49, me50, me51, me52, .int 0, me54, .int 0])), (mq0, .inl (cI, 240, .inl (fun _ => 0))), (mq1, .inl (cI, 3, .inl (fun _ => 0))), (mq2, .inl (cI, 5, .inl (fun _ => 0))), (mq3, .inl (cI, 5, .inl (fun _ => 0))), (mq4, .inl (cI, 220, .inl (fun _ => 0))), (mq5, .inl (cI, 5, .inl (fun _ => 0)))] H) (hD : va_D A [(h0, .inr (11, [.ref a1, .ref a3, .ref a5, .ref a6, .ref a7, .ref a8, d6, d7, .int 0, .ref a9, d10, .ref a10, .ref a11, d13, d14, .ref a12, d16, d17, .int 0, d19])), (a1, .inr (10, [.ref a2, .int 0, .int 0])), (a2, .inl (cI, 240, .inl (fun _ => 0))), (a3, .inr (2, [.ref a1, .ref a4, u2, u3, .int 0, .int 0])), (a4, .inl (cI, 4, .inl (fun _ => 0))), (a5, .inr (4, [.ref a1, v1, .int 0])), (a6, .inr (3, [w0, w1, w2, w3, .int 0, .int (-1)])), (a7, .inr (1, [.int 0, .int 0, .int 0, x3, x4])), (a8, .inr (8, [y0, y1, y2, .ref a13, .ref a14, y5, y6, .int 0, .int 0, .int 0])), (a9, .inr (0, [z0, .int 0, .int 0])), (a10, .inr (6, [n0, n1, n2, .int 0])), (a11, .inr (6, [o0, o1, o2, .int 0])), (a12, .inl (cI, 5, .inl (fun _ => 0))), (mh0, .inr (12, [me0, .ref mq0, .int 0, me3, me4, me5, me6, me7, .ref mq2, .ref mq3, me10, me11, me12, .int 0, me14, me15, me16, .ref mq1, me18, me19, me20, me21, .int 0, .ref mq4, .ref mq5, .int (-1), .int 0, me27, me28, me29, me30, me31, me32, me33, me34, me35, me36, me37, me38, .int 0, me40, me41, me42, me43, me44, me45, me46, .int 0, me48, me49, me50, me51, me52, .int 0, me54, .int 0])), (mq0, .inl (cI, 240, .inl (fun _ => 0))), (mq1, .inl (cI, 3, .inl (fun _ => 0))), (mq2, .inl (cI, 5, .inl (fun _ => 0))), (mq3, .inl (cI, 5, .inl (fun _ => 0))), (mq4, .inl (cI, 220, .inl (fun _ => 0))), (mq5, .inl (cI, 5, .inl (fun _ => 0)))]) (hS : va_S A s.heap H locs) (hl : lv_has ls 7 [(4, .int 0), (3, .ref ho), (2, .ref mh0), (1, .ref h0), (0, .ref b)]) : W p l e room_1 s m #[Value.ref b] below meth c H locs 442 23958 (lw_Z below #[Value.ref b] s) (F0 m 1228 ls []) := by
  obtain ⟨hx, hb, hr, hml, hown0, hts0, hX, hbl, hlocks, hgv⟩ := id C0
  have hown : s.vm.findClass RL = some m.cls := hown0
  have hts := hts0
  have hbA : ¬ A b := fun h => absurd (hAs b h) (Nat.not_le.mpr hbl)
  refine lv_aload_n hx hb dL_law_1228 rfl (lv_at hl 3 rfl) ?_
  refine lv_aload_n hx hb dL_law_1229 rfl (lv_at hl 4 rfl) ?_
  refine lv_iload hx hb dL_law_1230 (lv_at hl 0 rfl) ?_
  refine lv_iconst (v := 1) hx hb dL_law_1232 (by decide) ?_
  refine lv_iadd hx hb dL_law_1233 ?_
  refine lv_topi (fun k1 ek1 => ?_)
  obtain rfl : k1 = 1 := ek1.trans (by decide)
  refine va_sld (i := 1) hx hb hX hbl hbA hS (show ¬ ((1 : Int32) < 0 ∨ 6 ≤ (1 : Int32).toNatClampNeg) by decide) dL_law_1234 ?_
  refine lv_topi (fun k2 ek2 => ?_)
  obtain rfl : k2 = xs 1 := ek2.trans (congrArg xs (show (1 : Int32).toNatClampNeg = 1 by decide))
  refine lv_aload_n hx hb dL_law_1235 rfl (lv_at hl 4 rfl) ?_
  refine lv_iload hx hb dL_law_1236 (lv_at hl 0 rfl) ?_
  refine lv_iconst (v := 2) hx hb dL_law_1238 (by decide) ?_
  refine lv_iadd hx hb dL_law_1239 ?_
  refine lv_topi (fun k3 ek3 => ?_)
  obtain rfl : k3 = 2 := ek3.trans (by decide)
  refine va_sld (i := 2) hx hb hX hbl hbA hS (show ¬ ((2 : Int32) < 0 ∨ 6 ≤ (2 : Int32).toNatClampNeg) by decide) dL_law_1240 ?_
  refine lv_topi (fun k4 ek4 => ?_)
  obtain rfl : k4 = xs 2 := ek4.trans (congrArg xs (show (2 : Int32).toNatClampNeg = 2 by decide))
  refine lv_aload_n hx hb dL_law_1241 rfl (lv_at hl 4 rfl) ?_
  refine lv_iload hx hb dL_law_1242 (lv_at hl 0 rfl) ?_
  refine lv_iconst (v := 3) hx hb dL_law_1244 (by decide) ?_
  refine lv_iadd hx hb dL_law_1245 ?_
  refine lv_topi (fun k5 ek5 => ?_)
  obtain rfl : k5 = 3 := ek5.trans (by decide)
  refine va_sld (i := 3) hx hb hX hbl hbA hS (show ¬ ((3 : Int32) < 0 ∨ 6 ≤ (3 : Int32).toNatClampNeg) by decide) dL_law_1246 ?_
  refine lv_topi (fun k6 ek6 => ?_)
  obtain rfl : k6 = xs 3 := ek6.trans (congrArg xs (show (3 : Int32).toNatClampNeg = 3 by decide))
  refine lv_aload_n hx hb dL_law_1247 rfl (lv_at hl 4 rfl) ?_
  refine lv_iload hx hb dL_law_1248 (lv_at hl 0 rfl) ?_
  refine lv_iconst (v := 4) hx hb dL_law_1250 (by decide) ?_
  refine lv_iadd hx hb dL_law_1251 ?_
  refine lv_topi (fun k7 ek7 => ?_)
  obtain rfl : k7 = 4 := ek7.trans (by decide)
  refine va_sld (i := 4) hx hb hX hbl hbA hS (show ¬ ((4 : Int32) < 0 ∨ 6 ≤ (4 : Int32).toNatClampNeg) by decide) dL_law_1252 ?_
  refine lv_topi (fun k8 ek8 => ?_)
  obtain rfl : k8 = xs 4 := ek8.trans (congrArg xs (show (4 : Int32).toNatClampNeg = 4 by decide))
  refine lv_aload_n hx hb dL_law_1253 rfl (lv_at hl 4 rfl) ?_
  refine lv_iload hx hb dL_law_1254 (lv_at hl 0 rfl) ?_
  refine lv_iconst (v := 5) hx hb dL_law_1256 (by decide) ?_
  refine lv_iadd hx hb dL_law_1257 ?_
  refine lv_topi (fun k9 ek9 => ?_)
  obtain rfl : k9 = 5 := ek9.trans (by decide)
  refine va_sld (i := 5) hx hb hX hbl hbA hS (show ¬ ((5 : Int32) < 0 ∨ 6 ≤ (5 : Int32).toNatClampNeg) by decide) dL_law_1258 ?_
  refine lv_topi (fun k10 ek10 => ?_)
  obtain rfl : k10 = xs 5 := ek10.trans (congrArg xs (show (5 : Int32).toNatClampNeg = 5 by decide))
  have hPc := hP.sub (ws' := [(h0, .inr (11, [.ref a1, .ref a3, .ref a5, .ref a6, .ref a7, .ref a8, d6, d7, .int 0, .ref a9, d10, .ref a10, .ref a11, d13, d14, .ref a12, d16, d17, .int 0, d19])), (a7, .inr (1, [.int 0, .int 0, .int 0, x3, x4]))]) [0, 7] rfl
  have hDc := hD.sub (ws' := [(h0, .inr (11, [.ref a1, .ref a3, .ref a5, .ref a6, .ref a7, .ref a8, d6, d7, .int 0, .ref a9, d10, .ref a10, .ref a11, d13, d14, .ref a12, d16, d17, .int 0, d19])), (a7, .inr (1, [.int 0, .int 0, .int 0, x3, x4]))]) [0, 7] (by decide) rfl
  refine va_calli (va_runV (As := [.int (xs 1), .int (xs 2), .int (xs 3), .int (xs 4), .int (xs 5)]) (rest := []) ⟨hx, hb, hml, hown, hts⟩ (c_X11_game l dC dI cI cZ H.size h0 a7 (.ref a1) (.ref a3) (.ref a5) (.ref a6) (.ref a8) d6 d7 (.int 0) (.ref a9) d10 (.ref a10) (.ref a11) d13 d14 (.ref a12) d16 d17 (.int 0) d19 (.int 0) x3 x4 (xs 1) (xs 2) (xs 3) (xs 4) (xs 5)) (cwV 5 hts zg_X11_game rfl rfl rfl (by decide +kernel) ⟨Nat.le_of_ble_eq_true rfl, Nat.le_of_ble_eq_true rfl⟩) (zPreV hPc hK hDc hG (ci := 11) (q0 := 0) rfl rfl) rfl rfl hl.1 rfl (lv_room (Nat.le_of_ble_eq_true rfl)) dL_law_1259 ⟨Nat.le_of_ble_eq_true rfl, Nat.le_of_ble_eq_true rfl⟩) hS (fun _ _ h => h.elim) (fun _ h => h.elim) (fun r11 u9 t9 H1 locs ht9 hvm hwr11 hB9 hz1 hk1 hS => ?_)
  replace hP := zKept hP hk1
  try clear hB9 hz1 hk1 hvm ht9 u9 hPc hDc
  generalize H1 = H at hP hS ⊢
  obtain rfl : r11 = s_X11_game := hwr11
  refine lv_aload_n hx hb dL_law_1262 rfl (lv_at hl 2 rfl) ?_
  refine lv_aload_n hx hb dL_law_1263 rfl (lv_at hl 4 rfl) ?_
  refine lv_iload hx hb dL_law_1264 (lv_at hl 0 rfl) ?_
  refine lv_iconst (v := 1) hx hb dL_law_1266 (by decide) ?_
  refine lv_iadd hx hb dL_law_1267 ?_
  refine lv_topi (fun k12 ek12 => ?_)
  obtain rfl : k12 = 1 := ek12.trans (by decide)
  refine va_sld (i := 1) hx hb hX hbl hbA hS (show ¬ ((1 : Int32) < 0 ∨ 6 ≤ (1 : Int32).toNatClampNeg) by decide) dL_law_1268 ?_
  refine lv_topi (fun k13 ek13 => ?_)
  obtain rfl : k13 = xs 1 := ek13.trans (congrArg xs (show (1 : Int32).toNatClampNeg = 1 by decide))
  refine lv_aload_n hx hb dL_law_1269 rfl (lv_at hl 4 rfl) ?_
  refine lv_iload hx hb dL_law_1270 (lv_at hl 0 rfl) ?_
  refine lv_iconst (v := 2) hx hb dL_law_1272 (by decide) ?_
  refine lv_iadd hx hb dL_law_1273 ?_
  refine lv_topi (fun k14 ek14 => ?_)
  obtain rfl : k14 = 2 := ek14.trans (by decide)
  refine va_sld (i := 2) hx hb hX hbl hbA hS (show ¬ ((2 : Int32) < 0 ∨ 6 ≤ (2 : Int32).toNatClampNeg) by decide) dL_law_1274 ?_
  refine lv_topi (fun k15 ek15 => ?_)
  obtain rfl : k15 = xs 2 := ek15.trans (congrArg xs (show (2 : Int32).toNatClampNeg = 2 by decide))
  refine lv_aload_n hx hb dL_law_1275 rfl (lv_at hl 4 rfl) ?_
  refine lv_iload hx hb dL_law_1276 (lv_at hl 0 rfl) ?_
  refine lv_iconst (v := 3) hx hb dL_law_1278 (by decide) ?_
  refine lv_iadd hx hb dL_law_1279 ?_
  refine lv_topi (fun k16 ek16 => ?_)
  obtain rfl : k16 = 3 := ek16.trans (by decide)
  refine va_sld (i := 3) hx hb hX hbl hbA hS (show ¬ ((3 : Int32) < 0 ∨ 6 ≤ (3 : Int32).toNatClampNeg) by decide) dL_law_1280 ?_
  refine lv_topi (fun k17 ek17 => ?_)
  obtain rfl : k17 = xs 3 := ek17.trans (congrArg xs (show (3 : Int32).toNatClampNeg = 3 by decide))
  refine lv_aload_n hx hb dL_law_1281 rfl (lv_at hl 4 rfl) ?_
  refine lv_iload hx hb dL_law_1282 (lv_at hl 0 rfl) ?_
  refine lv_iconst (v := 4) hx hb dL_law_1284 (by decide) ?_
  refine lv_iadd hx hb dL_law_1285 ?_
  refine lv_topi (fun k18 ek18 => ?_)
  obtain rfl : k18 = 4 := ek18.trans (by decide)
  refine va_sld (i := 4) hx hb hX hbl hbA hS (show ¬ ((4 : Int32) < 0 ∨ 6 ≤ (4 : Int32).toNatClampNeg) by decide) dL_law_1286 ?_
  refine lv_topi (fun k19 ek19 => ?_)
  obtain rfl : k19 = xs 4 := ek19.trans (congrArg xs (show (4 : Int32).toNatClampNeg = 4 by decide))
  refine lv_aload_n hx hb dL_law_1287 rfl (lv_at hl 4 rfl) ?_
  refine lv_iload hx hb dL_law_1288 (lv_at hl 0 rfl) ?_
  refine lv_iconst (v := 5) hx hb dL_law_1290 (by decide) ?_
  refine lv_iadd hx hb dL_law_1291 ?_
  refine lv_topi (fun k20 ek20 => ?_)
  obtain rfl : k20 = 5 := ek20.trans (by decide)
  refine va_sld (i := 5) hx hb hX hbl hbA hS (show ¬ ((5 : Int32) < 0 ∨ 6 ≤ (5 : Int32).toNatClampNeg) by decide) dL_law_1292 ?_
  refine lv_topi (fun k21 ek21 => ?_)
  obtain rfl : k21 = xs 5 := ek21.trans (congrArg xs (show (5 : Int32).toNatClampNeg = 5 by decide))
  have hPc := hP.sub (ws' := [(mh0, .inr (12, [me0, .ref mq0, .int 0, me3, me4, me5, me6, me7, .ref mq2, .ref mq3, me10, me11, me12, .int 0, me14, me15, me16, .ref mq1, me18, me19, me20, me21, .int 0, .ref mq4, .ref mq5, .int (-1), .int 0, me27, me28, me29, me30, me31, me32, me33, me34, me35, me36, me37, me38, .int 0, me40, me41, me42, me43, me44, me45, me46, .int 0, me48, me49, me50, me51, me52, .int 0, me54, .int 0]))]) [13] rfl
  have hDc := hD.sub (ws' := [(mh0, .inr (12, [me0, .ref mq0, .int 0, me3, me4, me5, me6, me7, .ref mq2, .ref mq3, me10, me11, me12, .int 0, me14, me15, me16, .ref mq1, me18, me19, me20, me21, .int 0, .ref mq4, .ref mq5, .int (-1), .int 0, me27, me28, me29, me30, me31, me32, me33, me34, me35, me36, me37, me38, .int 0, me40, me41, me42, me43, me44, me45, me46, .int 0, me48, me49, me50, me51, me52, .int 0, me54, .int 0]))]) [13] (by decide) rfl
  refine va_calli (va_runV (As := [.int (xs 1), .int (xs 2), .int (xs 3), .int (xs 4), .int (xs 5)]) (rest := [.int s_X11_game]) ⟨hx, hb, hml, hown, hts⟩ (c_X12_game l dC dI cI cZ H.size mh0 me0 (.ref mq0) (.int 0) me3 me4 me5 me6 me7 (.ref mq2) (.ref mq3) me10 me11 me12 (.int 0) me14 me15 me16 (.ref mq1) me18 me19 me20 me21 (.ref mq4) (.ref mq5) (.int (-1)) (.int 0) me27 me28 me29 me30 me31 me32 me33 me34 me35 me36 me37 me38 (.int 0) me40 me41 me42 me43 me44 me45 me46 (.int 0) me48 me49 me50 me51 me52 (.int 0) me54 (.int 0) (xs 1) (xs 2) (xs 3) (xs 4) (xs 5)) (cwV 5 hts zg_X12_game rfl rfl rfl (by decide +kernel) ⟨Nat.le_of_ble_eq_true rfl, Nat.le_of_ble_eq_true rfl⟩) (zPreV hPc hK hDc hG (ci := 12) (q0 := 0) rfl rfl) rfl rfl hl.1 rfl (lv_room (Nat.le_of_ble_eq_true rfl)) dL_law_1293 ⟨Nat.le_of_ble_eq_true rfl, Nat.le_of_ble_eq_true rfl⟩) hS (fun _ _ h => h.elim) (fun _ h => h.elim) (fun r22 u9 t9 H1 locs ht9 hvm hwr22 hB9 hz1 hk1 hS => ?_)
  replace hP := zKept hP hk1
  try clear hB9 hz1 hk1 hvm ht9 u9 hPc hDc
  generalize H1 = H at hP hS ⊢
  obtain rfl : r22 = s_X12_game := hwr22
  refine lv_icmp_eq (tgt := 1563) hx hb dL_law_1296 (by decide) (fun _ => ?_) (fun c9 => absurd zq_game c9)
  exact law_end hlt C0 hA hAs hK hG hSt hX9 hS (by decide) (by decide) (lv_sub hl [0, 4] rfl)

set_option maxHeartbeats 4000000 in
set_option maxRecDepth 100000 in
theorem law_30 {p : Program} {l : Launch} {e : Env} {s : State} {m : MethodId} {below : List Frame} {meth : Method} {c : Code} {dC : Nat → ClassId} {dI : Nat → Nat → Nat} {cI cZ : ClassId} {A : Nat → Prop} {b tR sa : Nat} {xs : Nat → Int32} (hlt : l.stackTraces = false) (C0 : lw_At p s m meth c b 6 xs) (hA : ∀ q : Nat, s.heap.size ≤ q → A q) (hAs : ∀ q : Nat, A q → s.heap.size ≤ q) (hK : va_K (dC, dI) vwCl (zT cI cZ) s) (hG : zG s) (hSt : zSt tR A s) (hX9 : vk_R "DreamGuard" 196 zTx sa s ∧ vx_Zq Bundle.tN "UNASSIGNED_STACK" Bundle.steD A s s.heap ∧ vx_Zq Bundle.tN "SUPPRESSED_SENTINEL" Bundle.listD A s s.heap ∧ zF s) (ho : Nat) (h0 : Nat) (a1 : Nat) (a2 : Nat) (a3 : Nat) (a4 : Nat) (a5 : Nat) (a6 : Nat) (a7 : Nat) (a8 : Nat) (a9 : Nat) (a10 : Nat) (a11 : Nat) (a12 : Nat) (a13 : Nat) (a14 : Nat) (d6 : Value) (d7 : Value) (d10 : Value) (d13 : Value) (d14 : Value) (d16 : Value) (d17 : Value) (d19 : Value) (u2 : Value) (u3 : Value) (v1 : Value) (w0 : Value) (w1 : Value) (w2 : Value) (w3 : Value) (x3 : Value) (x4 : Value) (y0 : Value) (y1 : Value) (y2 : Value) (y5 : Value) (y6 : Value) (z0 : Value) (n0 : Value) (n1 : Value) (n2 : Value) (o0 : Value) (o1 : Value) (o2 : Value) (mh0 : Nat) (mq0 : Nat) (mq1 : Nat) (mq2 : Nat) (mq3 : Nat) (mq4 : Nat) (mq5 : Nat) (me0 : Value) (me3 : Value) (me4 : Value) (me5 : Value) (me6 : Value) (me7 : Value) (me10 : Value) (me11 : Value) (me12 : Value) (me14 : Value) (me15 : Value) (me16 : Value) (me18 : Value) (me19 : Value) (me20 : Value) (me21 : Value) (me27 : Value) (me28 : Value) (me29 : Value) (me30 : Value) (me31 : Value) (me32 : Value) (me33 : Value) (me34 : Value) (me35 : Value) (me36 : Value) (me37 : Value) (me38 : Value) (me40 : Value) (me41 : Value) (me42 : Value) (me43 : Value) (me44 : Value) (me45 : Value) (me46 : Value) (me48 : Value) (me49 : Value) (me50 : Value) (me51 : Value) (me52 : Value) (me54 : Value) {H : Heap} {locs : List Loc} {ls : Array Slot} (hP : va_P (dC, dI) vwCl [(h0, .inr (11, [.ref a1, .ref a3, .ref a5, .ref a6, .ref a7, .ref a8, d6, d7, .int 0, .ref a9, d10, .ref a10, .ref a11, d13, d14, .ref a12, d16, d17, .int 0, d19])), (a1, .inr (10, [.ref a2, .int 0, .int 0])), (a2, .inl (cI, 240, .inl (fun _ => 0))), (a3, .inr (2, [.ref a1, .ref a4, u2, u3, .int 0, .int 0])), (a4, .inl (cI, 4, .inl (fun _ => 0))), (a5, .inr (4, [.ref a1, v1, .int 0])), (a6, .inr (3, [w0, w1, w2, w3, .int 0, .int (-1)])), (a7, .inr (1, [.int 0, .int 0, .int 0, x3, x4])), (a8, .inr (8, [y0, y1, y2, .ref a13, .ref a14, y5, y6, .int 0, .int 0, .int 0])), (a9, .inr (0, [z0, .int 0, .int 0])), (a10, .inr (6, [n0, n1, n2, .int 0])), (a11, .inr (6, [o0, o1, o2, .int 0])), (a12, .inl (cI, 5, .inl (fun _ => 0))), (mh0, .inr (12, [me0, .ref mq0, .int 0, me3, me4, me5, me6, me7, .ref mq2, .ref mq3, me10, me11, me12, .int 0, me14, me15, me16, .ref mq1, me18, me19, me20, me21, .int 0, .ref mq4, .ref mq5, .int (-1), .int 0, me27, me28, me29, me30, me31, me32, me33, me34, me35, me36, me37, me38, .int 0, me40, me41, me42, me43, me44, me45, me46, .int 0, me48, me49, me50, me51, me52, .int 0, me54, .int 0])), (mq0, .inl (cI, 240, .inl (fun _ => 0))), (mq1, .inl (cI, 3, .inl (fun _ => 0))), (mq2, .inl (cI, 5, .inl (fun _ => 0))), (mq3, .inl (cI, 5, .inl (fun _ => 0))), (mq4, .inl (cI, 220, .inl (fun _ => 0))), (mq5, .inl (cI, 5, .inl (fun _ => 0)))] H) (hD : va_D A [(h0, .inr (11, [.ref a1, .ref a3, .ref a5, .ref a6, .ref a7, .ref a8, d6, d7, .int 0, .ref a9, d10, .ref a10, .ref a11, d13, d14, .ref a12, d16, d17, .int 0, d19])), (a1, .inr (10, [.ref a2, .int 0, .int 0])), (a2, .inl (cI, 240, .inl (fun _ => 0))), (a3, .inr (2, [.ref a1, .ref a4, u2, u3, .int 0, .int 0])), (a4, .inl (cI, 4, .inl (fun _ => 0))), (a5, .inr (4, [.ref a1, v1, .int 0])), (a6, .inr (3, [w0, w1, w2, w3, .int 0, .int (-1)])), (a7, .inr (1, [.int 0, .int 0, .int 0, x3, x4])), (a8, .inr (8, [y0, y1, y2, .ref a13, .ref a14, y5, y6, .int 0, .int 0, .int 0])), (a9, .inr (0, [z0, .int 0, .int 0])), (a10, .inr (6, [n0, n1, n2, .int 0])), (a11, .inr (6, [o0, o1, o2, .int 0])), (a12, .inl (cI, 5, .inl (fun _ => 0))), (mh0, .inr (12, [me0, .ref mq0, .int 0, me3, me4, me5, me6, me7, .ref mq2, .ref mq3, me10, me11, me12, .int 0, me14, me15, me16, .ref mq1, me18, me19, me20, me21, .int 0, .ref mq4, .ref mq5, .int (-1), .int 0, me27, me28, me29, me30, me31, me32, me33, me34, me35, me36, me37, me38, .int 0, me40, me41, me42, me43, me44, me45, me46, .int 0, me48, me49, me50, me51, me52, .int 0, me54, .int 0])), (mq0, .inl (cI, 240, .inl (fun _ => 0))), (mq1, .inl (cI, 3, .inl (fun _ => 0))), (mq2, .inl (cI, 5, .inl (fun _ => 0))), (mq3, .inl (cI, 5, .inl (fun _ => 0))), (mq4, .inl (cI, 220, .inl (fun _ => 0))), (mq5, .inl (cI, 5, .inl (fun _ => 0)))]) (hS : va_S A s.heap H locs) (hl : lv_has ls 7 [(4, .int 0), (3, .ref ho), (2, .ref mh0), (1, .ref h0), (0, .ref b)]) : W p l e room_1 s m #[Value.ref b] below meth c H locs 442 23958 (lw_Z below #[Value.ref b] s) (F0 m 1301 ls []) := by
  obtain ⟨hx, hb, hr, hml, hown0, hts0, hX, hbl, hlocks, hgv⟩ := id C0
  have hown : s.vm.findClass RL = some m.cls := hown0
  have hts := hts0
  have hbA : ¬ A b := fun h => absurd (hAs b h) (Nat.not_le.mpr hbl)
  refine lv_aload_n hx hb dL_law_1301 rfl (lv_at hl 3 rfl) ?_
  refine lv_aload_n hx hb dL_law_1302 rfl (lv_at hl 4 rfl) ?_
  refine lv_iload hx hb dL_law_1303 (lv_at hl 0 rfl) ?_
  refine lv_iconst (v := 1) hx hb dL_law_1305 (by decide) ?_
  refine lv_iadd hx hb dL_law_1306 ?_
  refine lv_topi (fun k1 ek1 => ?_)
  obtain rfl : k1 = 1 := ek1.trans (by decide)
  refine va_sld (i := 1) hx hb hX hbl hbA hS (show ¬ ((1 : Int32) < 0 ∨ 6 ≤ (1 : Int32).toNatClampNeg) by decide) dL_law_1307 ?_
  refine lv_topi (fun k2 ek2 => ?_)
  obtain rfl : k2 = xs 1 := ek2.trans (congrArg xs (show (1 : Int32).toNatClampNeg = 1 by decide))
  refine lv_aload_n hx hb dL_law_1308 rfl (lv_at hl 4 rfl) ?_
  refine lv_iload hx hb dL_law_1309 (lv_at hl 0 rfl) ?_
  refine lv_iconst (v := 2) hx hb dL_law_1311 (by decide) ?_
  refine lv_iadd hx hb dL_law_1312 ?_
  refine lv_topi (fun k3 ek3 => ?_)
  obtain rfl : k3 = 2 := ek3.trans (by decide)
  refine va_sld (i := 2) hx hb hX hbl hbA hS (show ¬ ((2 : Int32) < 0 ∨ 6 ≤ (2 : Int32).toNatClampNeg) by decide) dL_law_1313 ?_
  refine lv_topi (fun k4 ek4 => ?_)
  obtain rfl : k4 = xs 2 := ek4.trans (congrArg xs (show (2 : Int32).toNatClampNeg = 2 by decide))
  refine lv_aload_n hx hb dL_law_1314 rfl (lv_at hl 4 rfl) ?_
  refine lv_iload hx hb dL_law_1315 (lv_at hl 0 rfl) ?_
  refine lv_iconst (v := 3) hx hb dL_law_1317 (by decide) ?_
  refine lv_iadd hx hb dL_law_1318 ?_
  refine lv_topi (fun k5 ek5 => ?_)
  obtain rfl : k5 = 3 := ek5.trans (by decide)
  refine va_sld (i := 3) hx hb hX hbl hbA hS (show ¬ ((3 : Int32) < 0 ∨ 6 ≤ (3 : Int32).toNatClampNeg) by decide) dL_law_1319 ?_
  refine lv_topi (fun k6 ek6 => ?_)
  obtain rfl : k6 = xs 3 := ek6.trans (congrArg xs (show (3 : Int32).toNatClampNeg = 3 by decide))
  have hPc := hP.sub (ws' := [(h0, .inr (11, [.ref a1, .ref a3, .ref a5, .ref a6, .ref a7, .ref a8, d6, d7, .int 0, .ref a9, d10, .ref a10, .ref a11, d13, d14, .ref a12, d16, d17, .int 0, d19])), (a7, .inr (1, [.int 0, .int 0, .int 0, x3, x4]))]) [0, 7] rfl
  have hDc := hD.sub (ws' := [(h0, .inr (11, [.ref a1, .ref a3, .ref a5, .ref a6, .ref a7, .ref a8, d6, d7, .int 0, .ref a9, d10, .ref a10, .ref a11, d13, d14, .ref a12, d16, d17, .int 0, d19])), (a7, .inr (1, [.int 0, .int 0, .int 0, x3, x4]))]) [0, 7] (by decide) rfl
  refine va_calli (va_runV (As := [.int (xs 1), .int (xs 2), .int (xs 3)]) (rest := []) ⟨hx, hb, hml, hown, hts⟩ (c_X11_rests l dC dI cI cZ H.size h0 a7 (.ref a1) (.ref a3) (.ref a5) (.ref a6) (.ref a8) d6 d7 (.int 0) (.ref a9) d10 (.ref a10) (.ref a11) d13 d14 (.ref a12) d16 d17 (.int 0) d19 (.int 0) x3 x4 (xs 1) (xs 2) (xs 3)) (cwV 3 hts zg_X11_rests rfl rfl rfl (by decide +kernel) ⟨Nat.le_of_ble_eq_true rfl, Nat.le_of_ble_eq_true rfl⟩) (zPreV hPc hK hDc hG (ci := 11) (q0 := 0) rfl rfl) rfl rfl hl.1 rfl (lv_room (Nat.le_of_ble_eq_true rfl)) dL_law_1320 ⟨Nat.le_of_ble_eq_true rfl, Nat.le_of_ble_eq_true rfl⟩) hS (fun _ _ h => h.elim) (fun _ h => h.elim) (fun r7 u9 t9 H1 locs ht9 hvm hwr7 hB9 hz1 hk1 hS => ?_)
  replace hP := zKept hP hk1
  try clear hB9 hz1 hk1 hvm ht9 u9 hPc hDc
  generalize H1 = H at hP hS ⊢
  obtain rfl : r7 = s_X11_rests := hwr7
  refine lv_aload_n hx hb dL_law_1323 rfl (lv_at hl 2 rfl) ?_
  refine lv_aload_n hx hb dL_law_1324 rfl (lv_at hl 4 rfl) ?_
  refine lv_iload hx hb dL_law_1325 (lv_at hl 0 rfl) ?_
  refine lv_iconst (v := 1) hx hb dL_law_1327 (by decide) ?_
  refine lv_iadd hx hb dL_law_1328 ?_
  refine lv_topi (fun k8 ek8 => ?_)
  obtain rfl : k8 = 1 := ek8.trans (by decide)
  refine va_sld (i := 1) hx hb hX hbl hbA hS (show ¬ ((1 : Int32) < 0 ∨ 6 ≤ (1 : Int32).toNatClampNeg) by decide) dL_law_1329 ?_
  refine lv_topi (fun k9 ek9 => ?_)
  obtain rfl : k9 = xs 1 := ek9.trans (congrArg xs (show (1 : Int32).toNatClampNeg = 1 by decide))
  refine lv_aload_n hx hb dL_law_1330 rfl (lv_at hl 4 rfl) ?_
  refine lv_iload hx hb dL_law_1331 (lv_at hl 0 rfl) ?_
  refine lv_iconst (v := 2) hx hb dL_law_1333 (by decide) ?_
  refine lv_iadd hx hb dL_law_1334 ?_
  refine lv_topi (fun k10 ek10 => ?_)
  obtain rfl : k10 = 2 := ek10.trans (by decide)
  refine va_sld (i := 2) hx hb hX hbl hbA hS (show ¬ ((2 : Int32) < 0 ∨ 6 ≤ (2 : Int32).toNatClampNeg) by decide) dL_law_1335 ?_
  refine lv_topi (fun k11 ek11 => ?_)
  obtain rfl : k11 = xs 2 := ek11.trans (congrArg xs (show (2 : Int32).toNatClampNeg = 2 by decide))
  refine lv_aload_n hx hb dL_law_1336 rfl (lv_at hl 4 rfl) ?_
  refine lv_iload hx hb dL_law_1337 (lv_at hl 0 rfl) ?_
  refine lv_iconst (v := 3) hx hb dL_law_1339 (by decide) ?_
  refine lv_iadd hx hb dL_law_1340 ?_
  refine lv_topi (fun k12 ek12 => ?_)
  obtain rfl : k12 = 3 := ek12.trans (by decide)
  refine va_sld (i := 3) hx hb hX hbl hbA hS (show ¬ ((3 : Int32) < 0 ∨ 6 ≤ (3 : Int32).toNatClampNeg) by decide) dL_law_1341 ?_
  refine lv_topi (fun k13 ek13 => ?_)
  obtain rfl : k13 = xs 3 := ek13.trans (congrArg xs (show (3 : Int32).toNatClampNeg = 3 by decide))
  have hPc := hP.sub (ws' := [(mh0, .inr (12, [me0, .ref mq0, .int 0, me3, me4, me5, me6, me7, .ref mq2, .ref mq3, me10, me11, me12, .int 0, me14, me15, me16, .ref mq1, me18, me19, me20, me21, .int 0, .ref mq4, .ref mq5, .int (-1), .int 0, me27, me28, me29, me30, me31, me32, me33, me34, me35, me36, me37, me38, .int 0, me40, me41, me42, me43, me44, me45, me46, .int 0, me48, me49, me50, me51, me52, .int 0, me54, .int 0]))]) [13] rfl
  have hDc := hD.sub (ws' := [(mh0, .inr (12, [me0, .ref mq0, .int 0, me3, me4, me5, me6, me7, .ref mq2, .ref mq3, me10, me11, me12, .int 0, me14, me15, me16, .ref mq1, me18, me19, me20, me21, .int 0, .ref mq4, .ref mq5, .int (-1), .int 0, me27, me28, me29, me30, me31, me32, me33, me34, me35, me36, me37, me38, .int 0, me40, me41, me42, me43, me44, me45, me46, .int 0, me48, me49, me50, me51, me52, .int 0, me54, .int 0]))]) [13] (by decide) rfl
  refine va_calli (va_runV (As := [.int (xs 1), .int (xs 2), .int (xs 3)]) (rest := [.int s_X11_rests]) ⟨hx, hb, hml, hown, hts⟩ (c_X12_rests l dC dI cI cZ H.size mh0 me0 (.ref mq0) (.int 0) me3 me4 me5 me6 me7 (.ref mq2) (.ref mq3) me10 me11 me12 (.int 0) me14 me15 me16 (.ref mq1) me18 me19 me20 me21 (.ref mq4) (.ref mq5) (.int (-1)) (.int 0) me27 me28 me29 me30 me31 me32 me33 me34 me35 me36 me37 me38 (.int 0) me40 me41 me42 me43 me44 me45 me46 (.int 0) me48 me49 me50 me51 me52 (.int 0) me54 (.int 0) (xs 1) (xs 2) (xs 3)) (cwV 3 hts zg_X12_rests rfl rfl rfl (by decide +kernel) ⟨Nat.le_of_ble_eq_true rfl, Nat.le_of_ble_eq_true rfl⟩) (zPreV hPc hK hDc hG (ci := 12) (q0 := 0) rfl rfl) rfl rfl hl.1 rfl (lv_room (Nat.le_of_ble_eq_true rfl)) dL_law_1342 ⟨Nat.le_of_ble_eq_true rfl, Nat.le_of_ble_eq_true rfl⟩) hS (fun _ _ h => h.elim) (fun _ h => h.elim) (fun r14 u9 t9 H1 locs ht9 hvm hwr14 hB9 hz1 hk1 hS => ?_)
  replace hP := zKept hP hk1
  try clear hB9 hz1 hk1 hvm ht9 u9 hPc hDc
  generalize H1 = H at hP hS ⊢
  obtain rfl : r14 = s_X12_rests := hwr14
  refine lv_icmp_eq (tgt := 1563) hx hb dL_law_1345 (by decide) (fun _ => ?_) (fun c9 => absurd zq_rests c9)
  exact law_end hlt C0 hA hAs hK hG hSt hX9 hS (by decide) (by decide) (lv_sub hl [0, 4] rfl)

set_option maxHeartbeats 4000000 in
set_option maxRecDepth 100000 in
theorem law_31 {p : Program} {l : Launch} {e : Env} {s : State} {m : MethodId} {below : List Frame} {meth : Method} {c : Code} {dC : Nat → ClassId} {dI : Nat → Nat → Nat} {cI cZ : ClassId} {A : Nat → Prop} {b tR sa : Nat} {xs : Nat → Int32} (hlt : l.stackTraces = false) (C0 : lw_At p s m meth c b 6 xs) (hA : ∀ q : Nat, s.heap.size ≤ q → A q) (hAs : ∀ q : Nat, A q → s.heap.size ≤ q) (hK : va_K (dC, dI) vwCl (zT cI cZ) s) (hG : zG s) (hSt : zSt tR A s) (hX9 : vk_R "DreamGuard" 196 zTx sa s ∧ vx_Zq Bundle.tN "UNASSIGNED_STACK" Bundle.steD A s s.heap ∧ vx_Zq Bundle.tN "SUPPRESSED_SENTINEL" Bundle.listD A s s.heap ∧ zF s) (ho : Nat) (h0 : Nat) (a1 : Nat) (a2 : Nat) (a3 : Nat) (a4 : Nat) (a5 : Nat) (a6 : Nat) (a7 : Nat) (a8 : Nat) (a9 : Nat) (a10 : Nat) (a11 : Nat) (a12 : Nat) (a13 : Nat) (a14 : Nat) (d6 : Value) (d7 : Value) (d10 : Value) (d13 : Value) (d14 : Value) (d16 : Value) (d17 : Value) (d19 : Value) (u2 : Value) (u3 : Value) (v1 : Value) (w0 : Value) (w1 : Value) (w2 : Value) (w3 : Value) (x3 : Value) (x4 : Value) (y0 : Value) (y1 : Value) (y2 : Value) (y5 : Value) (y6 : Value) (z0 : Value) (n0 : Value) (n1 : Value) (n2 : Value) (o0 : Value) (o1 : Value) (o2 : Value) (mh0 : Nat) (mq0 : Nat) (mq1 : Nat) (mq2 : Nat) (mq3 : Nat) (mq4 : Nat) (mq5 : Nat) (me0 : Value) (me3 : Value) (me4 : Value) (me5 : Value) (me6 : Value) (me7 : Value) (me10 : Value) (me11 : Value) (me12 : Value) (me14 : Value) (me15 : Value) (me16 : Value) (me18 : Value) (me19 : Value) (me20 : Value) (me21 : Value) (me27 : Value) (me28 : Value) (me29 : Value) (me30 : Value) (me31 : Value) (me32 : Value) (me33 : Value) (me34 : Value) (me35 : Value) (me36 : Value) (me37 : Value) (me38 : Value) (me40 : Value) (me41 : Value) (me42 : Value) (me43 : Value) (me44 : Value) (me45 : Value) (me46 : Value) (me48 : Value) (me49 : Value) (me50 : Value) (me51 : Value) (me52 : Value) (me54 : Value) {H : Heap} {locs : List Loc} {ls : Array Slot} (hP : va_P (dC, dI) vwCl [(h0, .inr (11, [.ref a1, .ref a3, .ref a5, .ref a6, .ref a7, .ref a8, d6, d7, .int 0, .ref a9, d10, .ref a10, .ref a11, d13, d14, .ref a12, d16, d17, .int 0, d19])), (a1, .inr (10, [.ref a2, .int 0, .int 0])), (a2, .inl (cI, 240, .inl (fun _ => 0))), (a3, .inr (2, [.ref a1, .ref a4, u2, u3, .int 0, .int 0])), (a4, .inl (cI, 4, .inl (fun _ => 0))), (a5, .inr (4, [.ref a1, v1, .int 0])), (a6, .inr (3, [w0, w1, w2, w3, .int 0, .int (-1)])), (a7, .inr (1, [.int 0, .int 0, .int 0, x3, x4])), (a8, .inr (8, [y0, y1, y2, .ref a13, .ref a14, y5, y6, .int 0, .int 0, .int 0])), (a9, .inr (0, [z0, .int 0, .int 0])), (a10, .inr (6, [n0, n1, n2, .int 0])), (a11, .inr (6, [o0, o1, o2, .int 0])), (a12, .inl (cI, 5, .inl (fun _ => 0))), (mh0, .inr (12, [me0, .ref mq0, .int 0, me3, me4, me5, me6, me7, .ref mq2, .ref mq3, me10, me11, me12, .int 0, me14, me15, me16, .ref mq1, me18, me19, me20, me21, .int 0, .ref mq4, .ref mq5, .int (-1), .int 0, me27, me28, me29, me30, me31, me32, me33, me34, me35, me36, me37, me38, .int 0, me40, me41, me42, me43, me44, me45, me46, .int 0, me48, me49, me50, me51, me52, .int 0, me54, .int 0])), (mq0, .inl (cI, 240, .inl (fun _ => 0))), (mq1, .inl (cI, 3, .inl (fun _ => 0))), (mq2, .inl (cI, 5, .inl (fun _ => 0))), (mq3, .inl (cI, 5, .inl (fun _ => 0))), (mq4, .inl (cI, 220, .inl (fun _ => 0))), (mq5, .inl (cI, 5, .inl (fun _ => 0)))] H) (hD : va_D A [(h0, .inr (11, [.ref a1, .ref a3, .ref a5, .ref a6, .ref a7, .ref a8, d6, d7, .int 0, .ref a9, d10, .ref a10, .ref a11, d13, d14, .ref a12, d16, d17, .int 0, d19])), (a1, .inr (10, [.ref a2, .int 0, .int 0])), (a2, .inl (cI, 240, .inl (fun _ => 0))), (a3, .inr (2, [.ref a1, .ref a4, u2, u3, .int 0, .int 0])), (a4, .inl (cI, 4, .inl (fun _ => 0))), (a5, .inr (4, [.ref a1, v1, .int 0])), (a6, .inr (3, [w0, w1, w2, w3, .int 0, .int (-1)])), (a7, .inr (1, [.int 0, .int 0, .int 0, x3, x4])), (a8, .inr (8, [y0, y1, y2, .ref a13, .ref a14, y5, y6, .int 0, .int 0, .int 0])), (a9, .inr (0, [z0, .int 0, .int 0])), (a10, .inr (6, [n0, n1, n2, .int 0])), (a11, .inr (6, [o0, o1, o2, .int 0])), (a12, .inl (cI, 5, .inl (fun _ => 0))), (mh0, .inr (12, [me0, .ref mq0, .int 0, me3, me4, me5, me6, me7, .ref mq2, .ref mq3, me10, me11, me12, .int 0, me14, me15, me16, .ref mq1, me18, me19, me20, me21, .int 0, .ref mq4, .ref mq5, .int (-1), .int 0, me27, me28, me29, me30, me31, me32, me33, me34, me35, me36, me37, me38, .int 0, me40, me41, me42, me43, me44, me45, me46, .int 0, me48, me49, me50, me51, me52, .int 0, me54, .int 0])), (mq0, .inl (cI, 240, .inl (fun _ => 0))), (mq1, .inl (cI, 3, .inl (fun _ => 0))), (mq2, .inl (cI, 5, .inl (fun _ => 0))), (mq3, .inl (cI, 5, .inl (fun _ => 0))), (mq4, .inl (cI, 220, .inl (fun _ => 0))), (mq5, .inl (cI, 5, .inl (fun _ => 0)))]) (hS : va_S A s.heap H locs) (hl : lv_has ls 7 [(4, .int 0), (3, .ref ho), (2, .ref mh0), (1, .ref h0), (0, .ref b)]) : W p l e room_1 s m #[Value.ref b] below meth c H locs 442 23958 (lw_Z below #[Value.ref b] s) (F0 m 1350 ls []) := by
  obtain ⟨hx, hb, hr, hml, hown0, hts0, hX, hbl, hlocks, hgv⟩ := id C0
  have hown : s.vm.findClass RL = some m.cls := hown0
  have hts := hts0
  have hbA : ¬ A b := fun h => absurd (hAs b h) (Nat.not_le.mpr hbl)
  refine lv_aload_n hx hb dL_law_1350 rfl (lv_at hl 3 rfl) ?_
  refine lv_aload_n hx hb dL_law_1351 rfl (lv_at hl 4 rfl) ?_
  refine lv_iload hx hb dL_law_1352 (lv_at hl 0 rfl) ?_
  refine lv_iconst (v := 1) hx hb dL_law_1354 (by decide) ?_
  refine lv_iadd hx hb dL_law_1355 ?_
  refine lv_topi (fun k1 ek1 => ?_)
  obtain rfl : k1 = 1 := ek1.trans (by decide)
  refine va_sld (i := 1) hx hb hX hbl hbA hS (show ¬ ((1 : Int32) < 0 ∨ 6 ≤ (1 : Int32).toNatClampNeg) by decide) dL_law_1356 ?_
  refine lv_topi (fun k2 ek2 => ?_)
  obtain rfl : k2 = xs 1 := ek2.trans (congrArg xs (show (1 : Int32).toNatClampNeg = 1 by decide))
  have hPc := hP.sub (ws' := [(h0, .inr (11, [.ref a1, .ref a3, .ref a5, .ref a6, .ref a7, .ref a8, d6, d7, .int 0, .ref a9, d10, .ref a10, .ref a11, d13, d14, .ref a12, d16, d17, .int 0, d19])), (a7, .inr (1, [.int 0, .int 0, .int 0, x3, x4]))]) [0, 7] rfl
  have hDc := hD.sub (ws' := [(h0, .inr (11, [.ref a1, .ref a3, .ref a5, .ref a6, .ref a7, .ref a8, d6, d7, .int 0, .ref a9, d10, .ref a10, .ref a11, d13, d14, .ref a12, d16, d17, .int 0, d19])), (a7, .inr (1, [.int 0, .int 0, .int 0, x3, x4]))]) [0, 7] (by decide) rfl
  refine va_calli (va_runV (As := [.int (xs 1)]) (rest := []) ⟨hx, hb, hml, hown, hts⟩ (c_X11_odds l dC dI cI cZ H.size h0 a7 (.ref a1) (.ref a3) (.ref a5) (.ref a6) (.ref a8) d6 d7 (.int 0) (.ref a9) d10 (.ref a10) (.ref a11) d13 d14 (.ref a12) d16 d17 (.int 0) d19 (.int 0) x3 x4 (xs 1)) (cwV 1 hts zg_X11_odds rfl rfl rfl (by decide +kernel) ⟨Nat.le_of_ble_eq_true rfl, Nat.le_of_ble_eq_true rfl⟩) (zPreV hPc hK hDc hG (ci := 11) (q0 := 0) rfl rfl) rfl rfl hl.1 rfl (lv_room (Nat.le_of_ble_eq_true rfl)) dL_law_1357 ⟨Nat.le_of_ble_eq_true rfl, Nat.le_of_ble_eq_true rfl⟩) hS (fun _ _ h => h.elim) (fun _ h => h.elim) (fun r3 u9 t9 H1 locs ht9 hvm hwr3 hB9 hz1 hk1 hS => ?_)
  replace hP := zKept hP hk1
  try clear hB9 hz1 hk1 hvm ht9 u9 hPc hDc
  generalize H1 = H at hP hS ⊢
  obtain rfl : r3 = s_X11_odds := hwr3
  refine lv_aload_n hx hb dL_law_1360 rfl (lv_at hl 2 rfl) ?_
  refine lv_aload_n hx hb dL_law_1361 rfl (lv_at hl 4 rfl) ?_
  refine lv_iload hx hb dL_law_1362 (lv_at hl 0 rfl) ?_
  refine lv_iconst (v := 1) hx hb dL_law_1364 (by decide) ?_
  refine lv_iadd hx hb dL_law_1365 ?_
  refine lv_topi (fun k4 ek4 => ?_)
  obtain rfl : k4 = 1 := ek4.trans (by decide)
  refine va_sld (i := 1) hx hb hX hbl hbA hS (show ¬ ((1 : Int32) < 0 ∨ 6 ≤ (1 : Int32).toNatClampNeg) by decide) dL_law_1366 ?_
  refine lv_topi (fun k5 ek5 => ?_)
  obtain rfl : k5 = xs 1 := ek5.trans (congrArg xs (show (1 : Int32).toNatClampNeg = 1 by decide))
  have hPc := hP.sub (ws' := [(mh0, .inr (12, [me0, .ref mq0, .int 0, me3, me4, me5, me6, me7, .ref mq2, .ref mq3, me10, me11, me12, .int 0, me14, me15, me16, .ref mq1, me18, me19, me20, me21, .int 0, .ref mq4, .ref mq5, .int (-1), .int 0, me27, me28, me29, me30, me31, me32, me33, me34, me35, me36, me37, me38, .int 0, me40, me41, me42, me43, me44, me45, me46, .int 0, me48, me49, me50, me51, me52, .int 0, me54, .int 0]))]) [13] rfl
  have hDc := hD.sub (ws' := [(mh0, .inr (12, [me0, .ref mq0, .int 0, me3, me4, me5, me6, me7, .ref mq2, .ref mq3, me10, me11, me12, .int 0, me14, me15, me16, .ref mq1, me18, me19, me20, me21, .int 0, .ref mq4, .ref mq5, .int (-1), .int 0, me27, me28, me29, me30, me31, me32, me33, me34, me35, me36, me37, me38, .int 0, me40, me41, me42, me43, me44, me45, me46, .int 0, me48, me49, me50, me51, me52, .int 0, me54, .int 0]))]) [13] (by decide) rfl
  refine va_calli (va_runV (As := [.int (xs 1)]) (rest := [.int s_X11_odds]) ⟨hx, hb, hml, hown, hts⟩ (c_X12_odds l dC dI cI cZ H.size mh0 me0 (.ref mq0) (.int 0) me3 me4 me5 me6 me7 (.ref mq2) (.ref mq3) me10 me11 me12 (.int 0) me14 me15 me16 (.ref mq1) me18 me19 me20 me21 (.ref mq4) (.ref mq5) (.int (-1)) (.int 0) me27 me28 me29 me30 me31 me32 me33 me34 me35 me36 me37 me38 (.int 0) me40 me41 me42 me43 me44 me45 me46 (.int 0) me48 me49 me50 me51 me52 (.int 0) me54 (.int 0) (xs 1)) (cwV 1 hts zg_X12_odds rfl rfl rfl (by decide +kernel) ⟨Nat.le_of_ble_eq_true rfl, Nat.le_of_ble_eq_true rfl⟩) (zPreV hPc hK hDc hG (ci := 12) (q0 := 0) rfl rfl) rfl rfl hl.1 rfl (lv_room (Nat.le_of_ble_eq_true rfl)) dL_law_1367 ⟨Nat.le_of_ble_eq_true rfl, Nat.le_of_ble_eq_true rfl⟩) hS (fun _ _ h => h.elim) (fun _ h => h.elim) (fun r6 u9 t9 H1 locs ht9 hvm hwr6 hB9 hz1 hk1 hS => ?_)
  replace hP := zKept hP hk1
  try clear hB9 hz1 hk1 hvm ht9 u9 hPc hDc
  generalize H1 = H at hP hS ⊢
  obtain rfl : r6 = s_X12_odds := hwr6
  refine lv_icmp_eq (tgt := 1563) hx hb dL_law_1370 (by decide) (fun _ => ?_) (fun c9 => absurd zq_odds c9)
  exact law_end hlt C0 hA hAs hK hG hSt hX9 hS (by decide) (by decide) (lv_sub hl [0, 4] rfl)
