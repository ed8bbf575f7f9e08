set_option maxHeartbeats 4000000 in
set_option maxRecDepth 100000 in
theorem law_16 {p : Program} {l : Launch} {e : Env} {s : State} {m : MethodId} {below : List Frame} {meth : Method} {c : Code} {dC : Nat → ClassId} {dI : Nat → Nat → Nat} {cI cZ : ClassId} {A : Nat → Prop} {b tR sa : Nat} {xs : Nat → Int32} (hlt : l.stackTraces = false) (C0 : lw_At p s m meth c b 6 xs) (hA : ∀ q : Nat, s.heap.size ≤ q → A q) (hAs : ∀ q : Nat, A q → s.heap.size ≤ q) (hK : va_K (dC, dI) vwCl (zT cI cZ) s) (hG : zG s) (hSt : zSt tR A s) (hX9 : vk_R "DreamGuard" 196 zTx sa s ∧ vx_Zq Bundle.tN "UNASSIGNED_STACK" Bundle.steD A s s.heap ∧ vx_Zq Bundle.tN "SUPPRESSED_SENTINEL" Bundle.listD A s s.heap ∧ zF s) (ho : Nat) (h0 : Nat) (a1 : Nat) (a2 : Nat) (a3 : Nat) (a4 : Nat) (a5 : Nat) (a6 : Nat) (a7 : Nat) (a8 : Nat) (a9 : Nat) (a10 : Nat) (a11 : Nat) (a12 : Nat) (a13 : Nat) (a14 : Nat) (d6 : Value) (d7 : Value) (d10 : Value) (d13 : Value) (d14 : Value) (d16 : Value) (d17 : Value) (d19 : Value) (u2 : Value) (u3 : Value) (v1 : Value) (w0 : Value) (w1 : Value) (w2 : Value) (w3 : Value) (x3 : Value) (x4 : Value) (y0 : Value) (y1 : Value) (y2 : Value) (y5 : Value) (y6 : Value) (z0 : Value) (n0 : Value) (n1 : Value) (n2 : Value) (o0 : Value) (o1 : Value) (o2 : Value) (mh0 : Nat) (mq0 : Nat) (mq1 : Nat) (mq2 : Nat) (mq3 : Nat) (mq4 : Nat) (mq5 : Nat) (me0 : Value) (me3 : Value) (me4 : Value) (me5 : Value) (me6 : Value) (me7 : Value) (me10 : Value) (me11 : Value) (me12 : Value) (me14 : Value) (me15 : Value) (me16 : Value) (me18 : Value) (me19 : Value) (me20 : Value) (me21 : Value) (me27 : Value) (me28 : Value) (me29 : Value) (me30 : Value) (me31 : Value) (me32 : Value) (me33 : Value) (me34 : Value) (me35 : Value) (me36 : Value) (me37 : Value) (me38 : Value) (me40 : Value) (me41 : Value) (me42 : Value) (me43 : Value) (me44 : Value) (me45 : Value) (me46 : Value) (me48 : Value) (me49 : Value) (me50 : Value) (me51 : Value) (me52 : Value) (me54 : Value) {H : Heap} {locs : List Loc} {ls : Array Slot} (hP : va_P (dC, dI) vwCl [(h0, .inr (11, [.ref a1, .ref a3, .ref a5, .ref a6, .ref a7, .ref a8, d6, d7, .int 0, .ref a9, d10, .ref a10, .ref a11, d13, d14, .ref a12, d16, d17, .int 0, d19])), (a1, .inr (10, [.ref a2, .int 0, .int 0])), (a2, .inl (cI, 240, .inl (fun _ => 0))), (a3, .inr (2, [.ref a1, .ref a4, u2, u3, .int 0, .int 0])), (a4, .inl (cI, 4, .inl (fun _ => 0))), (a5, .inr (4, [.ref a1, v1, .int 0])), (a6, .inr (3, [w0, w1, w2, w3, .int 0, .int (-1)])), (a7, .inr (1, [.int 0, .int 0, .int 0, x3, x4])), (a8, .inr (8, [y0, y1, y2, .ref a13, .ref a14, y5, y6, .int 0, .int 0, .int 0])), (a9, .inr (0, [z0, .int 0, .int 0])), (a10, .inr (6, [n0, n1, n2, .int 0])), (a11, .inr (6, [o0, o1, o2, .int 0])), (a12, .inl (cI, 5, .inl (fun _ => 0))), (mh0, .inr (12, [me0, .ref mq0, .int 0, me3, me4, me5, me6, me7, .ref mq2, .ref mq3, me10, me11, me12, .int 0, me14, me15, me16, .ref mq1, me18, me19, me20, me21, .int 0, .ref mq4, .ref mq5, .int (-1), .int 0, me27, me28, me29, me30, me31, me32, me33, me34, me35, me36, me37, me38, .int 0, me40, me41, me42, me43, me44, me45, me46, .int 0, me48, me49, me50, me51, me52, .int 0, me54, .int 0])), (mq0, .inl (cI, 240, .inl (fun _ => 0))), (mq1, .inl (cI, 3, .inl (fun _ => 0))), (mq2, .inl (cI, 5, .inl (fun _ => 0))), (mq3, .inl (cI, 5, .inl (fun _ => 0))), (mq4, .inl (cI, 220, .inl (fun _ => 0))), (mq5, .inl (cI, 5, .inl (fun _ => 0)))] H) (hD : va_D A [(h0, .inr (11, [.ref a1, .ref a3, .ref a5, .ref a6, .ref a7, .ref a8, d6, d7, .int 0, .ref a9, d10, .ref a10, .ref a11, d13, d14, .ref a12, d16, d17, .int 0, d19])), (a1, .inr (10, [.ref a2, .int 0, .int 0])), (a2, .inl (cI, 240, .inl (fun _ => 0))), (a3, .inr (2, [.ref a1, .ref a4, u2, u3, .int 0, .int 0])), (a4, .inl (cI, 4, .inl (fun _ => 0))), (a5, .inr (4, [.ref a1, v1, .int 0])), (a6, .inr (3, [w0, w1, w2, w3, .int 0, .int (-1)])), (a7, .inr (1, [.int 0, .int 0, .int 0, x3, x4])), (a8, .inr (8, [y0, y1, y2, .ref a13, .ref a14, y5, y6, .int 0, .int 0, .int 0])), (a9, .inr (0, [z0, .int 0, .int 0])), (a10, .inr (6, [n0, n1, n2, .int 0])), (a11, .inr (6, [o0, o1, o2, .int 0])), (a12, .inl (cI, 5, .inl (fun _ => 0))), (mh0, .inr (12, [me0, .ref mq0, .int 0, me3, me4, me5, me6, me7, .ref mq2, .ref mq3, me10, me11, me12, .int 0, me14, me15, me16, .ref mq1, me18, me19, me20, me21, .int 0, .ref mq4, .ref mq5, .int (-1), .int 0, me27, me28, me29, me30, me31, me32, me33, me34, me35, me36, me37, me38, .int 0, me40, me41, me42, me43, me44, me45, me46, .int 0, me48, me49, me50, me51, me52, .int 0, me54, .int 0])), (mq0, .inl (cI, 240, .inl (fun _ => 0))), (mq1, .inl (cI, 3, .inl (fun _ => 0))), (mq2, .inl (cI, 5, .inl (fun _ => 0))), (mq3, .inl (cI, 5, .inl (fun _ => 0))), (mq4, .inl (cI, 220, .inl (fun _ => 0))), (mq5, .inl (cI, 5, .inl (fun _ => 0)))]) (hS : va_S A s.heap H locs) (hl : lv_has ls 7 [(4, .int 0), (3, .ref ho), (2, .ref mh0), (1, .ref h0), (0, .ref b)]) : W p l e room_1 s m #[Value.ref b] below meth c H locs 442 23958 (lw_Z below #[Value.ref b] s) (F0 m 763 ls []) := by
  obtain ⟨hx, hb, hr, hml, hown0, hts0, hX, hbl, hlocks, hgv⟩ := id C0
  have hown : s.vm.findClass RL = some m.cls := hown0
  have hts := hts0
  have hbA : ¬ A b := fun h => absurd (hAs b h) (Nat.not_le.mpr hbl)
  refine lv_aload_n hx hb dL_law_763 rfl (lv_at hl 3 rfl) ?_
  refine lv_aload_n hx hb dL_law_764 rfl (lv_at hl 4 rfl) ?_
  refine lv_iload hx hb dL_law_765 (lv_at hl 0 rfl) ?_
  refine lv_iconst (v := 1) hx hb dL_law_767 (by decide) ?_
  refine lv_iadd hx hb dL_law_768 ?_
  refine lv_topi (fun k1 ek1 => ?_)
  obtain rfl : k1 = 1 := ek1.trans (by decide)
  refine va_sld (i := 1) hx hb hX hbl hbA hS (show ¬ ((1 : Int32) < 0 ∨ 6 ≤ (1 : Int32).toNatClampNeg) by decide) dL_law_769 ?_
  refine lv_topi (fun k2 ek2 => ?_)
  obtain rfl : k2 = xs 1 := ek2.trans (congrArg xs (show (1 : Int32).toNatClampNeg = 1 by decide))
  refine lv_aload_n hx hb dL_law_770 rfl (lv_at hl 4 rfl) ?_
  refine lv_iload hx hb dL_law_771 (lv_at hl 0 rfl) ?_
  refine lv_iconst (v := 2) hx hb dL_law_773 (by decide) ?_
  refine lv_iadd hx hb dL_law_774 ?_
  refine lv_topi (fun k3 ek3 => ?_)
  obtain rfl : k3 = 2 := ek3.trans (by decide)
  refine va_sld (i := 2) hx hb hX hbl hbA hS (show ¬ ((2 : Int32) < 0 ∨ 6 ≤ (2 : Int32).toNatClampNeg) by decide) dL_law_775 ?_
  refine lv_topi (fun k4 ek4 => ?_)
  obtain rfl : k4 = xs 2 := ek4.trans (congrArg xs (show (2 : Int32).toNatClampNeg = 2 by decide))
  have hPc := hP.sub (ws' := [(h0, .inr (11, [.ref a1, .ref a3, .ref a5, .ref a6, .ref a7, .ref a8, d6, d7, .int 0, .ref a9, d10, .ref a10, .ref a11, d13, d14, .ref a12, d16, d17, .int 0, d19])), (a8, .inr (8, [y0, y1, y2, .ref a13, .ref a14, y5, y6, .int 0, .int 0, .int 0]))]) [0, 8] rfl
  have hDc := hD.sub (ws' := [(h0, .inr (11, [.ref a1, .ref a3, .ref a5, .ref a6, .ref a7, .ref a8, d6, d7, .int 0, .ref a9, d10, .ref a10, .ref a11, d13, d14, .ref a12, d16, d17, .int 0, d19])), (a8, .inr (8, [y0, y1, y2, .ref a13, .ref a14, y5, y6, .int 0, .int 0, .int 0]))]) [0, 8] (by decide) rfl
  refine va_calli (va_runV (As := [.int (xs 1), .int (xs 2)]) (rest := []) ⟨hx, hb, hml, hown, hts⟩ (c_X11_log l dC dI cI cZ H.size h0 a8 (.ref a1) (.ref a3) (.ref a5) (.ref a6) (.ref a7) d6 d7 (.int 0) (.ref a9) d10 (.ref a10) (.ref a11) d13 d14 (.ref a12) d16 d17 (.int 0) d19 y0 y1 y2 (.ref a13) (.ref a14) y5 y6 (.int 0) (.int 0) (xs 1) (xs 2)) (cwV 2 hts zg_X11_log rfl rfl rfl (by decide +kernel) ⟨Nat.le_of_ble_eq_true rfl, Nat.le_of_ble_eq_true rfl⟩) (zPreV hPc hK hDc hG (ci := 11) (q0 := 0) rfl rfl) rfl rfl hl.1 rfl (lv_room (Nat.le_of_ble_eq_true rfl)) dL_law_776 ⟨Nat.le_of_ble_eq_true rfl, Nat.le_of_ble_eq_true rfl⟩) hS (fun _ _ h => h.elim) (fun _ h => h.elim) (fun r5 u9 t9 H1 locs ht9 hvm hwr5 hB9 hz1 hk1 hS => ?_)
  replace hP := zKept hP hk1
  try clear hB9 hz1 hk1 hvm ht9 u9 hPc hDc
  generalize H1 = H at hP hS ⊢
  obtain rfl : r5 = s_X11_log (xs 1) := hwr5
  refine lv_aload_n hx hb dL_law_779 rfl (lv_at hl 2 rfl) ?_
  refine lv_aload_n hx hb dL_law_780 rfl (lv_at hl 4 rfl) ?_
  refine lv_iload hx hb dL_law_781 (lv_at hl 0 rfl) ?_
  refine lv_iconst (v := 1) hx hb dL_law_783 (by decide) ?_
  refine lv_iadd hx hb dL_law_784 ?_
  refine lv_topi (fun k6 ek6 => ?_)
  obtain rfl : k6 = 1 := ek6.trans (by decide)
  refine va_sld (i := 1) hx hb hX hbl hbA hS (show ¬ ((1 : Int32) < 0 ∨ 6 ≤ (1 : Int32).toNatClampNeg) by decide) dL_law_785 ?_
  refine lv_topi (fun k7 ek7 => ?_)
  obtain rfl : k7 = xs 1 := ek7.trans (congrArg xs (show (1 : Int32).toNatClampNeg = 1 by decide))
  refine lv_aload_n hx hb dL_law_786 rfl (lv_at hl 4 rfl) ?_
  refine lv_iload hx hb dL_law_787 (lv_at hl 0 rfl) ?_
  refine lv_iconst (v := 2) hx hb dL_law_789 (by decide) ?_
  refine lv_iadd hx hb dL_law_790 ?_
  refine lv_topi (fun k8 ek8 => ?_)
  obtain rfl : k8 = 2 := ek8.trans (by decide)
  refine va_sld (i := 2) hx hb hX hbl hbA hS (show ¬ ((2 : Int32) < 0 ∨ 6 ≤ (2 : Int32).toNatClampNeg) by decide) dL_law_791 ?_
  refine lv_topi (fun k9 ek9 => ?_)
  obtain rfl : k9 = xs 2 := ek9.trans (congrArg xs (show (2 : Int32).toNatClampNeg = 2 by decide))
  have hPc := hP.sub (ws' := [(mh0, .inr (12, [me0, .ref mq0, .int 0, me3, me4, me5, me6, me7, .ref mq2, .ref mq3, me10, me11, me12, .int 0, me14, me15, me16, .ref mq1, me18, me19, me20, me21, .int 0, .ref mq4, .ref mq5, .int (-1), .int 0, me27, me28, me29, me30, me31, me32, me33, me34, me35, me36, me37, me38, .int 0, me40, me41, me42, me43, me44, me45, me46, .int 0, me48, me49, me50, me51, me52, .int 0, me54, .int 0])), (mq4, .inl (cI, 220, .inl (fun _ => 0)))]) [13, 18] rfl
  have hDc := hD.sub (ws' := [(mh0, .inr (12, [me0, .ref mq0, .int 0, me3, me4, me5, me6, me7, .ref mq2, .ref mq3, me10, me11, me12, .int 0, me14, me15, me16, .ref mq1, me18, me19, me20, me21, .int 0, .ref mq4, .ref mq5, .int (-1), .int 0, me27, me28, me29, me30, me31, me32, me33, me34, me35, me36, me37, me38, .int 0, me40, me41, me42, me43, me44, me45, me46, .int 0, me48, me49, me50, me51, me52, .int 0, me54, .int 0])), (mq4, .inl (cI, 220, .inl (fun _ => 0)))]) [13, 18] (by decide) rfl
  refine va_calli (va_runV (As := [.int (xs 1), .int (xs 2)]) (rest := [.int (s_X11_log (xs 1))]) ⟨hx, hb, hml, hown, hts⟩ (c_X12_log l dC dI cI cZ H.size mh0 mq4 me0 (.ref mq0) (.int 0) me3 me4 me5 me6 me7 (.ref mq2) (.ref mq3) me10 me11 me12 (.int 0) me14 me15 me16 (.ref mq1) me18 me19 me20 me21 (.int 0) (.ref mq5) (.int (-1)) (.int 0) me27 me28 me29 me30 me31 me32 me33 me34 me35 me36 me37 me38 (.int 0) me40 me41 me42 me43 me44 me45 me46 (.int 0) me48 me49 me50 me51 me52 (.int 0) me54 (.int 0) (xs 1) (xs 2)) (cwV 2 hts zg_X12_log rfl rfl rfl (by decide +kernel) ⟨Nat.le_of_ble_eq_true rfl, Nat.le_of_ble_eq_true rfl⟩) (zPreV hPc hK hDc hG (ci := 12) (q0 := 0) rfl rfl) rfl rfl hl.1 rfl (lv_room (Nat.le_of_ble_eq_true rfl)) dL_law_792 ⟨Nat.le_of_ble_eq_true rfl, Nat.le_of_ble_eq_true rfl⟩) hS (fun _ _ h => h.elim) (fun _ h => h.elim) (fun r10 u9 t9 H1 locs ht9 hvm hwr10 hB9 hz1 hk1 hS => ?_)
  replace hP := zKept hP hk1
  try clear hB9 hz1 hk1 hvm ht9 u9 hPc hDc
  generalize H1 = H at hP hS ⊢
  obtain rfl : r10 = s_X12_log := hwr10
  refine lv_icmp_eq (tgt := 1563) hx hb dL_law_795 (by decide) (fun _ => ?_) (fun c9 => absurd (zq_log (xs 1)) c9)
  exact law_end hlt C0 hA hAs hK hG hSt hX9 hS (by decide) (by decide) (lv_sub hl [0, 4] rfl)

set_option maxHeartbeats 4000000 in
set_option maxRecDepth 100000 in
theorem law_17 {p : Program} {l : Launch} {e : Env} {s : State} {m : MethodId} {below : List Frame} {meth : Method} {c : Code} {dC : Nat → ClassId} {dI : Nat → Nat → Nat} {cI cZ : ClassId} {A : Nat → Prop} {b tR sa : Nat} {xs : Nat → Int32} (hlt : l.stackTraces = false) (C0 : lw_At p s m meth c b 6 xs) (hA : ∀ q : Nat, s.heap.size ≤ q → A q) (hAs : ∀ q : Nat, A q → s.heap.size ≤ q) (hK : va_K (dC, dI) vwCl (zT cI cZ) s) (hG : zG s) (hSt : zSt tR A s) (hX9 : vk_R "DreamGuard" 196 zTx sa s ∧ vx_Zq Bundle.tN "UNASSIGNED_STACK" Bundle.steD A s s.heap ∧ vx_Zq Bundle.tN "SUPPRESSED_SENTINEL" Bundle.listD A s s.heap ∧ zF s) (ho : Nat) (h0 : Nat) (a1 : Nat) (a2 : Nat) (a3 : Nat) (a4 : Nat) (a5 : Nat) (a6 : Nat) (a7 : Nat) (a8 : Nat) (a9 : Nat) (a10 : Nat) (a11 : Nat) (a12 : Nat) (a13 : Nat) (a14 : Nat) (d6 : Value) (d7 : Value) (d10 : Value) (d13 : Value) (d14 : Value) (d16 : Value) (d17 : Value) (d19 : Value) (u2 : Value) (u3 : Value) (v1 : Value) (w0 : Value) (w1 : Value) (w2 : Value) (w3 : Value) (x3 : Value) (x4 : Value) (y0 : Value) (y1 : Value) (y2 : Value) (y5 : Value) (y6 : Value) (z0 : Value) (n0 : Value) (n1 : Value) (n2 : Value) (o0 : Value) (o1 : Value) (o2 : Value) (mh0 : Nat) (mq0 : Nat) (mq1 : Nat) (mq2 : Nat) (mq3 : Nat) (mq4 : Nat) (mq5 : Nat) (me0 : Value) (me3 : Value) (me4 : Value) (me5 : Value) (me6 : Value) (me7 : Value) (me10 : Value) (me11 : Value) (me12 : Value) (me14 : Value) (me15 : Value) (me16 : Value) (me18 : Value) (me19 : Value) (me20 : Value) (me21 : Value) (me27 : Value) (me28 : Value) (me29 : Value) (me30 : Value) (me31 : Value) (me32 : Value) (me33 : Value) (me34 : Value) (me35 : Value) (me36 : Value) (me37 : Value) (me38 : Value) (me40 : Value) (me41 : Value) (me42 : Value) (me43 : Value) (me44 : Value) (me45 : Value) (me46 : Value) (me48 : Value) (me49 : Value) (me50 : Value) (me51 : Value) (me52 : Value) (me54 : Value) {H : Heap} {locs : List Loc} {ls : Array Slot} (hP : va_P (dC, dI) vwCl [(h0, .inr (11, [.ref a1, .ref a3, .ref a5, .ref a6, .ref a7, .ref a8, d6, d7, .int 0, .ref a9, d10, .ref a10, .ref a11, d13, d14, .ref a12, d16, d17, .int 0, d19])), (a1, .inr (10, [.ref a2, .int 0, .int 0])), (a2, .inl (cI, 240, .inl (fun _ => 0))), (a3, .inr (2, [.ref a1, .ref a4, u2, u3, .int 0, .int 0])), (a4, .inl (cI, 4, .inl (fun _ => 0))), (a5, .inr (4, [.ref a1, v1, .int 0])), (a6, .inr (3, [w0, w1, w2, w3, .int 0, .int (-1)])), (a7, .inr (1, [.int 0, .int 0, .int 0, x3, x4])), (a8, .inr (8, [y0, y1, y2, .ref a13, .ref a14, y5, y6, .int 0, .int 0, .int 0])), (a9, .inr (0, [z0, .int 0, .int 0])), (a10, .inr (6, [n0, n1, n2, .int 0])), (a11, .inr (6, [o0, o1, o2, .int 0])), (a12, .inl (cI, 5, .inl (fun _ => 0))), (mh0, .inr (12, [me0, .ref mq0, .int 0, me3, me4, me5, me6, me7, .ref mq2, .ref mq3, me10, me11, me12, .int 0, me14, me15, me16, .ref mq1, me18, me19, me20, me21, .int 0, .ref mq4, .ref mq5, .int (-1), .int 0, me27, me28, me29, me30, me31, me32, me33, me34, me35, me36, me37, me38, .int 0, me40, me41, me42, me43, me44, me45, me46, .int 0, me48, me49, me50, me51, me52, .int 0, me54, .int 0])), (mq0, .inl (cI, 240, .inl (fun _ => 0))), (mq1, .inl (cI, 3, .inl (fun _ => 0))), (mq2, .inl (cI, 5, .inl (fun _ => 0))), (mq3, .inl (cI, 5, .inl (fun _ => 0))), (mq4, .inl (cI, 220, .inl (fun _ => 0))), (mq5, .inl (cI, 5, .inl (fun _ => 0)))] H) (hD : va_D A [(h0, .inr (11, [.ref a1, .ref a3, .ref a5, .ref a6, .ref a7, .ref a8, d6, d7, .int 0, .ref a9, d10, .ref a10, .ref a11, d13, d14, .ref a12, d16, d17, .int 0, d19])), (a1, .inr (10, [.ref a2, .int 0, .int 0])), (a2, .inl (cI, 240, .inl (fun _ => 0))), (a3, .inr (2, [.ref a1, .ref a4, u2, u3, .int 0, .int 0])), (a4, .inl (cI, 4, .inl (fun _ => 0))), (a5, .inr (4, [.ref a1, v1, .int 0])), (a6, .inr (3, [w0, w1, w2, w3, .int 0, .int (-1)])), (a7, .inr (1, [.int 0, .int 0, .int 0, x3, x4])), (a8, .inr (8, [y0, y1, y2, .ref a13, .ref a14, y5, y6, .int 0, .int 0, .int 0])), (a9, .inr (0, [z0, .int 0, .int 0])), (a10, .inr (6, [n0, n1, n2, .int 0])), (a11, .inr (6, [o0, o1, o2, .int 0])), (a12, .inl (cI, 5, .inl (fun _ => 0))), (mh0, .inr (12, [me0, .ref mq0, .int 0, me3, me4, me5, me6, me7, .ref mq2, .ref mq3, me10, me11, me12, .int 0, me14, me15, me16, .ref mq1, me18, me19, me20, me21, .int 0, .ref mq4, .ref mq5, .int (-1), .int 0, me27, me28, me29, me30, me31, me32, me33, me34, me35, me36, me37, me38, .int 0, me40, me41, me42, me43, me44, me45, me46, .int 0, me48, me49, me50, me51, me52, .int 0, me54, .int 0])), (mq0, .inl (cI, 240, .inl (fun _ => 0))), (mq1, .inl (cI, 3, .inl (fun _ => 0))), (mq2, .inl (cI, 5, .inl (fun _ => 0))), (mq3, .inl (cI, 5, .inl (fun _ => 0))), (mq4, .inl (cI, 220, .inl (fun _ => 0))), (mq5, .inl (cI, 5, .inl (fun _ => 0)))]) (hS : va_S A s.heap H locs) (hl : lv_has ls 7 [(4, .int 0), (3, .ref ho), (2, .ref mh0), (1, .ref h0), (0, .ref b)]) : W p l e room_1 s m #[Value.ref b] below meth c H locs 442 23958 (lw_Z below #[Value.ref b] s) (F0 m 800 ls []) := by
  obtain ⟨hx, hb, hr, hml, hown0, hts0, hX, hbl, hlocks, hgv⟩ := id C0
  have hown : s.vm.findClass RL = some m.cls := hown0
  have hts := hts0
  have hbA : ¬ A b := fun h => absurd (hAs b h) (Nat.not_le.mpr hbl)
  refine lv_aload_n hx hb dL_law_800 rfl (lv_at hl 3 rfl) ?_
  refine lv_aload_n hx hb dL_law_801 rfl (lv_at hl 4 rfl) ?_
  refine lv_iload hx hb dL_law_802 (lv_at hl 0 rfl) ?_
  refine lv_iconst (v := 1) hx hb dL_law_804 (by decide) ?_
  refine lv_iadd hx hb dL_law_805 ?_
  refine lv_topi (fun k1 ek1 => ?_)
  obtain rfl : k1 = 1 := ek1.trans (by decide)
  refine va_sld (i := 1) hx hb hX hbl hbA hS (show ¬ ((1 : Int32) < 0 ∨ 6 ≤ (1 : Int32).toNatClampNeg) by decide) dL_law_806 ?_
  refine lv_topi (fun k2 ek2 => ?_)
  obtain rfl : k2 = xs 1 := ek2.trans (congrArg xs (show (1 : Int32).toNatClampNeg = 1 by decide))
  refine lv_aload_n hx hb dL_law_807 rfl (lv_at hl 4 rfl) ?_
  refine lv_iload hx hb dL_law_808 (lv_at hl 0 rfl) ?_
  refine lv_iconst (v := 2) hx hb dL_law_810 (by decide) ?_
  refine lv_iadd hx hb dL_law_811 ?_
  refine lv_topi (fun k3 ek3 => ?_)
  obtain rfl : k3 = 2 := ek3.trans (by decide)
  refine va_sld (i := 2) hx hb hX hbl hbA hS (show ¬ ((2 : Int32) < 0 ∨ 6 ≤ (2 : Int32).toNatClampNeg) by decide) dL_law_812 ?_
  refine lv_topi (fun k4 ek4 => ?_)
  obtain rfl : k4 = xs 2 := ek4.trans (congrArg xs (show (2 : Int32).toNatClampNeg = 2 by decide))
  have hPc := hP.sub (ws' := [(h0, .inr (11, [.ref a1, .ref a3, .ref a5, .ref a6, .ref a7, .ref a8, d6, d7, .int 0, .ref a9, d10, .ref a10, .ref a11, d13, d14, .ref a12, d16, d17, .int 0, d19])), (a7, .inr (1, [.int 0, .int 0, .int 0, x3, x4]))]) [0, 7] rfl
  have hDc := hD.sub (ws' := [(h0, .inr (11, [.ref a1, .ref a3, .ref a5, .ref a6, .ref a7, .ref a8, d6, d7, .int 0, .ref a9, d10, .ref a10, .ref a11, d13, d14, .ref a12, d16, d17, .int 0, d19])), (a7, .inr (1, [.int 0, .int 0, .int 0, x3, x4]))]) [0, 7] (by decide) rfl
  refine va_calli (va_runV (As := [.int (xs 1), .int (xs 2)]) (rest := []) ⟨hx, hb, hml, hown, hts⟩ (c_X11_sleeps l dC dI cI cZ H.size h0 a7 (.ref a1) (.ref a3) (.ref a5) (.ref a6) (.ref a8) d6 d7 (.int 0) (.ref a9) d10 (.ref a10) (.ref a11) d13 d14 (.ref a12) d16 d17 (.int 0) d19 (.int 0) x3 x4 (xs 1) (xs 2)) (cwV 2 hts zg_X11_sleeps rfl rfl rfl (by decide +kernel) ⟨Nat.le_of_ble_eq_true rfl, Nat.le_of_ble_eq_true rfl⟩) (zPreV hPc hK hDc hG (ci := 11) (q0 := 0) rfl rfl) rfl rfl hl.1 rfl (lv_room (Nat.le_of_ble_eq_true rfl)) dL_law_813 ⟨Nat.le_of_ble_eq_true rfl, Nat.le_of_ble_eq_true rfl⟩) hS (fun _ _ h => h.elim) (fun _ h => h.elim) (fun r5 u9 t9 H1 locs ht9 hvm hwr5 hB9 hz1 hk1 hS => ?_)
  replace hP := zKept hP hk1
  try clear hB9 hz1 hk1 hvm ht9 u9 hPc hDc
  generalize H1 = H at hP hS ⊢
  obtain rfl : r5 = s_X11_sleeps := hwr5
  refine lv_aload_n hx hb dL_law_816 rfl (lv_at hl 2 rfl) ?_
  refine lv_aload_n hx hb dL_law_817 rfl (lv_at hl 4 rfl) ?_
  refine lv_iload hx hb dL_law_818 (lv_at hl 0 rfl) ?_
  refine lv_iconst (v := 1) hx hb dL_law_820 (by decide) ?_
  refine lv_iadd hx hb dL_law_821 ?_
  refine lv_topi (fun k6 ek6 => ?_)
  obtain rfl : k6 = 1 := ek6.trans (by decide)
  refine va_sld (i := 1) hx hb hX hbl hbA hS (show ¬ ((1 : Int32) < 0 ∨ 6 ≤ (1 : Int32).toNatClampNeg) by decide) dL_law_822 ?_
  refine lv_topi (fun k7 ek7 => ?_)
  obtain rfl : k7 = xs 1 := ek7.trans (congrArg xs (show (1 : Int32).toNatClampNeg = 1 by decide))
  refine lv_aload_n hx hb dL_law_823 rfl (lv_at hl 4 rfl) ?_
  refine lv_iload hx hb dL_law_824 (lv_at hl 0 rfl) ?_
  refine lv_iconst (v := 2) hx hb dL_law_826 (by decide) ?_
  refine lv_iadd hx hb dL_law_827 ?_
  refine lv_topi (fun k8 ek8 => ?_)
  obtain rfl : k8 = 2 := ek8.trans (by decide)
  refine va_sld (i := 2) hx hb hX hbl hbA hS (show ¬ ((2 : Int32) < 0 ∨ 6 ≤ (2 : Int32).toNatClampNeg) by decide) dL_law_828 ?_
  refine lv_topi (fun k9 ek9 => ?_)
  obtain rfl : k9 = xs 2 := ek9.trans (congrArg xs (show (2 : Int32).toNatClampNeg = 2 by decide))
  have hPc := hP.sub (ws' := [(mh0, .inr (12, [me0, .ref mq0, .int 0, me3, me4, me5, me6, me7, .ref mq2, .ref mq3, me10, me11, me12, .int 0, me14, me15, me16, .ref mq1, me18, me19, me20, me21, .int 0, .ref mq4, .ref mq5, .int (-1), .int 0, me27, me28, me29, me30, me31, me32, me33, me34, me35, me36, me37, me38, .int 0, me40, me41, me42, me43, me44, me45, me46, .int 0, me48, me49, me50, me51, me52, .int 0, me54, .int 0]))]) [13] rfl
  have hDc := hD.sub (ws' := [(mh0, .inr (12, [me0, .ref mq0, .int 0, me3, me4, me5, me6, me7, .ref mq2, .ref mq3, me10, me11, me12, .int 0, me14, me15, me16, .ref mq1, me18, me19, me20, me21, .int 0, .ref mq4, .ref mq5, .int (-1), .int 0, me27, me28, me29, me30, me31, me32, me33, me34, me35, me36, me37, me38, .int 0, me40, me41, me42, me43, me44, me45, me46, .int 0, me48, me49, me50, me51, me52, .int 0, me54, .int 0]))]) [13] (by decide) rfl
  refine va_calli (va_runV (As := [.int (xs 1), .int (xs 2)]) (rest := [.int s_X11_sleeps]) ⟨hx, hb, hml, hown, hts⟩ (c_X12_sleeps l dC dI cI cZ H.size mh0 me0 (.ref mq0) (.int 0) me3 me4 me5 me6 me7 (.ref mq2) (.ref mq3) me10 me11 me12 (.int 0) me14 me15 me16 (.ref mq1) me18 me19 me20 me21 (.ref mq4) (.ref mq5) (.int (-1)) (.int 0) me27 me28 me29 me30 me31 me32 me33 me34 me35 me36 me37 me38 (.int 0) me40 me41 me42 me43 me44 me45 me46 (.int 0) me48 me49 me50 me51 me52 (.int 0) me54 (.int 0) (xs 1) (xs 2)) (cwV 2 hts zg_X12_sleeps rfl rfl rfl (by decide +kernel) ⟨Nat.le_of_ble_eq_true rfl, Nat.le_of_ble_eq_true rfl⟩) (zPreV hPc hK hDc hG (ci := 12) (q0 := 0) rfl rfl) rfl rfl hl.1 rfl (lv_room (Nat.le_of_ble_eq_true rfl)) dL_law_829 ⟨Nat.le_of_ble_eq_true rfl, Nat.le_of_ble_eq_true rfl⟩) hS (fun _ _ h => h.elim) (fun _ h => h.elim) (fun r10 u9 t9 H1 locs ht9 hvm hwr10 hB9 hz1 hk1 hS => ?_)
  replace hP := zKept hP hk1
  try clear hB9 hz1 hk1 hvm ht9 u9 hPc hDc
  generalize H1 = H at hP hS ⊢
  obtain rfl : r10 = s_X12_sleeps := hwr10
  refine lv_icmp_eq (tgt := 1563) hx hb dL_law_832 (by decide) (fun _ => ?_) (fun c9 => absurd zq_sleeps c9)
  exact law_end hlt C0 hA hAs hK hG hSt hX9 hS (by decide) (by decide) (lv_sub hl [0, 4] rfl)

set_option maxHeartbeats 4000000 in
set_option maxRecDepth 100000 in
theorem law_18 {p : Program} {l : Launch} {e : Env} {s : State} {m : MethodId} {below : List Frame} {meth : Method} {c : Code} {dC : Nat → ClassId} {dI : Nat → Nat → Nat} {cI cZ : ClassId} {A : Nat → Prop} {b tR sa : Nat} {xs : Nat → Int32} (hlt : l.stackTraces = false) (C0 : lw_At p s m meth c b 6 xs) (hA : ∀ q : Nat, s.heap.size ≤ q → A q) (hAs : ∀ q : Nat, A q → s.heap.size ≤ q) (hK : va_K (dC, dI) vwCl (zT cI cZ) s) (hG : zG s) (hSt : zSt tR A s) (hX9 : vk_R "DreamGuard" 196 zTx sa s ∧ vx_Zq Bundle.tN "UNASSIGNED_STACK" Bundle.steD A s s.heap ∧ vx_Zq Bundle.tN "SUPPRESSED_SENTINEL" Bundle.listD A s s.heap ∧ zF s) (ho : Nat) (h0 : Nat) (a1 : Nat) (a2 : Nat) (a3 : Nat) (a4 : Nat) (a5 : Nat) (a6 : Nat) (a7 : Nat) (a8 : Nat) (a9 : Nat) (a10 : Nat) (a11 : Nat) (a12 : Nat) (a13 : Nat) (a14 : Nat) (d6 : Value) (d7 : Value) (d10 : Value) (d13 : Value) (d14 : Value) (d16 : Value) (d17 : Value) (d19 : Value) (u2 : Value) (u3 : Value) (v1 : Value) (w0 : Value) (w1 : Value) (w2 : Value) (w3 : Value) (x3 : Value) (x4 : Value) (y0 : Value) (y1 : Value) (y2 : Value) (y5 : Value) (y6 : Value) (z0 : Value) (n0 : Value) (n1 : Value) (n2 : Value) (o0 : Value) (o1 : Value) (o2 : Value) (mh0 : Nat) (mq0 : Nat) (mq1 : Nat) (mq2 : Nat) (mq3 : Nat) (mq4 : Nat) (mq5 : Nat) (me0 : Value) (me3 : Value) (me4 : Value) (me5 : Value) (me6 : Value) (me7 : Value) (me10 : Value) (me11 : Value) (me12 : Value) (me14 : Value) (me15 : Value) (me16 : Value) (me18 : Value) (me19 : Value) (me20 : Value) (me21 : Value) (me27 : Value) (me28 : Value) (me29 : Value) (me30 : Value) (me31 : Value) (me32 : Value) (me33 : Value) (me34 : Value) (me35 : Value) (me36 : Value) (me37 : Value) (me38 : Value) (me40 : Value) (me41 : Value) (me42 : Value) (me43 : Value) (me44 : Value) (me45 : Value) (me46 : Value) (me48 : Value) (me49 : Value) (me50 : Value) (me51 : Value) (me52 : Value) (me54 : Value) {H : Heap} {locs : List Loc} {ls : Array Slot} (hP : va_P (dC, dI) vwCl [(h0, .inr (11, [.ref a1, .ref a3, .ref a5, .ref a6, .ref a7, .ref a8, d6, d7, .int 0, .ref a9, d10, .ref a10, .ref a11, d13, d14, .ref a12, d16, d17, .int 0, d19])), (a1, .inr (10, [.ref a2, .int 0, .int 0])), (a2, .inl (cI, 240, .inl (fun _ => 0))), (a3, .inr (2, [.ref a1, .ref a4, u2, u3, .int 0, .int 0])), (a4, .inl (cI, 4, .inl (fun _ => 0))), (a5, .inr (4, [.ref a1, v1, .int 0])), (a6, .inr (3, [w0, w1, w2, w3, .int 0, .int (-1)])), (a7, .inr (1, [.int 0, .int 0, .int 0, x3, x4])), (a8, .inr (8, [y0, y1, y2, .ref a13, .ref a14, y5, y6, .int 0, .int 0, .int 0])), (a9, .inr (0, [z0, .int 0, .int 0])), (a10, .inr (6, [n0, n1, n2, .int 0])), (a11, .inr (6, [o0, o1, o2, .int 0])), (a12, .inl (cI, 5, .inl (fun _ => 0))), (mh0, .inr (12, [me0, .ref mq0, .int 0, me3, me4, me5, me6, me7, .ref mq2, .ref mq3, me10, me11, me12, .int 0, me14, me15, me16, .ref mq1, me18, me19, me20, me21, .int 0, .ref mq4, .ref mq5, .int (-1), .int 0, me27, me28, me29, me30, me31, me32, me33, me34, me35, me36, me37, me38, .int 0, me40, me41, me42, me43, me44, me45, me46, .int 0, me48, me49, me50, me51, me52, .int 0, me54, .int 0])), (mq0, .inl (cI, 240, .inl (fun _ => 0))), (mq1, .inl (cI, 3, .inl (fun _ => 0))), (mq2, .inl (cI, 5, .inl (fun _ => 0))), (mq3, .inl (cI, 5, .inl (fun _ => 0))), (mq4, .inl (cI, 220, .inl (fun _ => 0))), (mq5, .inl (cI, 5, .inl (fun _ => 0)))] H) (hD : va_D A [(h0, .inr (11, [.ref a1, .ref a3, .ref a5, .ref a6, .ref a7, .ref a8, d6, d7, .int 0, .ref a9, d10, .ref a10, .ref a11, d13, d14, .ref a12, d16, d17, .int 0, d19])), (a1, .inr (10, [.ref a2, .int 0, .int 0])), (a2, .inl (cI, 240, .inl (fun _ => 0))), (a3, .inr (2, [.ref a1, .ref a4, u2, u3, .int 0, .int 0])), (a4, .inl (cI, 4, .inl (fun _ => 0))), (a5, .inr (4, [.ref a1, v1, .int 0])), (a6, .inr (3, [w0, w1, w2, w3, .int 0, .int (-1)])), (a7, .inr (1, [.int 0, .int 0, .int 0, x3, x4])), (a8, .inr (8, [y0, y1, y2, .ref a13, .ref a14, y5, y6, .int 0, .int 0, .int 0])), (a9, .inr (0, [z0, .int 0, .int 0])), (a10, .inr (6, [n0, n1, n2, .int 0])), (a11, .inr (6, [o0, o1, o2, .int 0])), (a12, .inl (cI, 5, .inl (fun _ => 0))), (mh0, .inr (12, [me0, .ref mq0, .int 0, me3, me4, me5, me6, me7, .ref mq2, .ref mq3, me10, me11, me12, .int 0, me14, me15, me16, .ref mq1, me18, me19, me20, me21, .int 0, .ref mq4, .ref mq5, .int (-1), .int 0, me27, me28, me29, me30, me31, me32, me33, me34, me35, me36, me37, me38, .int 0, me40, me41, me42, me43, me44, me45, me46, .int 0, me48, me49, me50, me51, me52, .int 0, me54, .int 0])), (mq0, .inl (cI, 240, .inl (fun _ => 0))), (mq1, .inl (cI, 3, .inl (fun _ => 0))), (mq2, .inl (cI, 5, .inl (fun _ => 0))), (mq3, .inl (cI, 5, .inl (fun _ => 0))), (mq4, .inl (cI, 220, .inl (fun _ => 0))), (mq5, .inl (cI, 5, .inl (fun _ => 0)))]) (hS : va_S A s.heap H locs) (hl : lv_has ls 7 [(4, .int 0), (3, .ref ho), (2, .ref mh0), (1, .ref h0), (0, .ref b)]) : W p l e room_1 s m #[Value.ref b] below meth c H locs 442 23958 (lw_Z below #[Value.ref b] s) (F0 m 837 ls []) := by
  obtain ⟨hx, hb, hr, hml, hown0, hts0, hX, hbl, hlocks, hgv⟩ := id C0
  have hown : s.vm.findClass RL = some m.cls := hown0
  have hts := hts0
  have hbA : ¬ A b := fun h => absurd (hAs b h) (Nat.not_le.mpr hbl)
  refine lv_aload_n hx hb dL_law_837 rfl (lv_at hl 3 rfl) ?_
  refine lv_aload_n hx hb dL_law_838 rfl (lv_at hl 4 rfl) ?_
  refine lv_iload hx hb dL_law_839 (lv_at hl 0 rfl) ?_
  refine lv_iconst (v := 1) hx hb dL_law_841 (by decide) ?_
  refine lv_iadd hx hb dL_law_842 ?_
  refine lv_topi (fun k1 ek1 => ?_)
  obtain rfl : k1 = 1 := ek1.trans (by decide)
  refine va_sld (i := 1) hx hb hX hbl hbA hS (show ¬ ((1 : Int32) < 0 ∨ 6 ≤ (1 : Int32).toNatClampNeg) by decide) dL_law_843 ?_
  refine lv_topi (fun k2 ek2 => ?_)
  obtain rfl : k2 = xs 1 := ek2.trans (congrArg xs (show (1 : Int32).toNatClampNeg = 1 by decide))
  refine lv_aload_n hx hb dL_law_844 rfl (lv_at hl 4 rfl) ?_
  refine lv_iload hx hb dL_law_845 (lv_at hl 0 rfl) ?_
  refine lv_iconst (v := 2) hx hb dL_law_847 (by decide) ?_
  refine lv_iadd hx hb dL_law_848 ?_
  refine lv_topi (fun k3 ek3 => ?_)
  obtain rfl : k3 = 2 := ek3.trans (by decide)
  refine va_sld (i := 2) hx hb hX hbl hbA hS (show ¬ ((2 : Int32) < 0 ∨ 6 ≤ (2 : Int32).toNatClampNeg) by decide) dL_law_849 ?_
  refine lv_topi (fun k4 ek4 => ?_)
  obtain rfl : k4 = xs 2 := ek4.trans (congrArg xs (show (2 : Int32).toNatClampNeg = 2 by decide))
  have hPc := hP.sub (ws' := [(h0, .inr (11, [.ref a1, .ref a3, .ref a5, .ref a6, .ref a7, .ref a8, d6, d7, .int 0, .ref a9, d10, .ref a10, .ref a11, d13, d14, .ref a12, d16, d17, .int 0, d19])), (a7, .inr (1, [.int 0, .int 0, .int 0, x3, x4]))]) [0, 7] rfl
  have hDc := hD.sub (ws' := [(h0, .inr (11, [.ref a1, .ref a3, .ref a5, .ref a6, .ref a7, .ref a8, d6, d7, .int 0, .ref a9, d10, .ref a10, .ref a11, d13, d14, .ref a12, d16, d17, .int 0, d19])), (a7, .inr (1, [.int 0, .int 0, .int 0, x3, x4]))]) [0, 7] (by decide) rfl
  refine va_calli (va_runV (As := [.int (xs 1), .int (xs 2)]) (rest := []) ⟨hx, hb, hml, hown, hts⟩ (c_X11_dream l dC dI cI cZ H.size h0 a7 (.ref a1) (.ref a3) (.ref a5) (.ref a6) (.ref a8) d6 d7 (.int 0) (.ref a9) d10 (.ref a10) (.ref a11) d13 d14 (.ref a12) d16 d17 (.int 0) d19 (.int 0) x3 x4 (xs 1) (xs 2)) (cwV 2 hts zg_X11_dream rfl rfl rfl (by decide +kernel) ⟨Nat.le_of_ble_eq_true rfl, Nat.le_of_ble_eq_true rfl⟩) (zPreV hPc hK hDc hG (ci := 11) (q0 := 0) rfl rfl) rfl rfl hl.1 rfl (lv_room (Nat.le_of_ble_eq_true rfl)) dL_law_850 ⟨Nat.le_of_ble_eq_true rfl, Nat.le_of_ble_eq_true rfl⟩) hS (fun _ _ h => h.elim) (fun _ h => h.elim) (fun r5 u9 t9 H1 locs ht9 hvm hwr5 hB9 hz1 hk1 hS => ?_)
  replace hP := zKept hP hk1
  try clear hB9 hz1 hk1 hvm ht9 u9 hPc hDc
  generalize H1 = H at hP hS ⊢
  obtain rfl : r5 = s_X11_dream := hwr5
  refine lv_aload_n hx hb dL_law_853 rfl (lv_at hl 2 rfl) ?_
  refine lv_aload_n hx hb dL_law_854 rfl (lv_at hl 4 rfl) ?_
  refine lv_iload hx hb dL_law_855 (lv_at hl 0 rfl) ?_
  refine lv_iconst (v := 1) hx hb dL_law_857 (by decide) ?_
  refine lv_iadd hx hb dL_law_858 ?_
  refine lv_topi (fun k6 ek6 => ?_)
  obtain rfl : k6 = 1 := ek6.trans (by decide)
  refine va_sld (i := 1) hx hb hX hbl hbA hS (show ¬ ((1 : Int32) < 0 ∨ 6 ≤ (1 : Int32).toNatClampNeg) by decide) dL_law_859 ?_
  refine lv_topi (fun k7 ek7 => ?_)
  obtain rfl : k7 = xs 1 := ek7.trans (congrArg xs (show (1 : Int32).toNatClampNeg = 1 by decide))
  refine lv_aload_n hx hb dL_law_860 rfl (lv_at hl 4 rfl) ?_
  refine lv_iload hx hb dL_law_861 (lv_at hl 0 rfl) ?_
  refine lv_iconst (v := 2) hx hb dL_law_863 (by decide) ?_
  refine lv_iadd hx hb dL_law_864 ?_
  refine lv_topi (fun k8 ek8 => ?_)
  obtain rfl : k8 = 2 := ek8.trans (by decide)
  refine va_sld (i := 2) hx hb hX hbl hbA hS (show ¬ ((2 : Int32) < 0 ∨ 6 ≤ (2 : Int32).toNatClampNeg) by decide) dL_law_865 ?_
  refine lv_topi (fun k9 ek9 => ?_)
  obtain rfl : k9 = xs 2 := ek9.trans (congrArg xs (show (2 : Int32).toNatClampNeg = 2 by decide))
  have hPc := hP.sub (ws' := [(mh0, .inr (12, [me0, .ref mq0, .int 0, me3, me4, me5, me6, me7, .ref mq2, .ref mq3, me10, me11, me12, .int 0, me14, me15, me16, .ref mq1, me18, me19, me20, me21, .int 0, .ref mq4, .ref mq5, .int (-1), .int 0, me27, me28, me29, me30, me31, me32, me33, me34, me35, me36, me37, me38, .int 0, me40, me41, me42, me43, me44, me45, me46, .int 0, me48, me49, me50, me51, me52, .int 0, me54, .int 0]))]) [13] rfl
  have hDc := hD.sub (ws' := [(mh0, .inr (12, [me0, .ref mq0, .int 0, me3, me4, me5, me6, me7, .ref mq2, .ref mq3, me10, me11, me12, .int 0, me14, me15, me16, .ref mq1, me18, me19, me20, me21, .int 0, .ref mq4, .ref mq5, .int (-1), .int 0, me27, me28, me29, me30, me31, me32, me33, me34, me35, me36, me37, me38, .int 0, me40, me41, me42, me43, me44, me45, me46, .int 0, me48, me49, me50, me51, me52, .int 0, me54, .int 0]))]) [13] (by decide) rfl
  refine va_calli (va_runV (As := [.int (xs 1), .int (xs 2)]) (rest := [.int s_X11_dream]) ⟨hx, hb, hml, hown, hts⟩ (c_X12_dream l dC dI cI cZ H.size mh0 me0 (.ref mq0) (.int 0) me3 me4 me5 me6 me7 (.ref mq2) (.ref mq3) me10 me11 me12 (.int 0) me14 me15 me16 (.ref mq1) me18 me19 me20 me21 (.ref mq4) (.ref mq5) (.int (-1)) (.int 0) me27 me28 me29 me30 me31 me32 me33 me34 me35 me36 me37 me38 (.int 0) me40 me41 me42 me43 me44 me45 me46 (.int 0) me48 me49 me50 me51 me52 (.int 0) me54 (.int 0) (xs 1) (xs 2)) (cwV 2 hts zg_X12_dream rfl rfl rfl (by decide +kernel) ⟨Nat.le_of_ble_eq_true rfl, Nat.le_of_ble_eq_true rfl⟩) (zPreV hPc hK hDc hG (ci := 12) (q0 := 0) rfl rfl) rfl rfl hl.1 rfl (lv_room (Nat.le_of_ble_eq_true rfl)) dL_law_866 ⟨Nat.le_of_ble_eq_true rfl, Nat.le_of_ble_eq_true rfl⟩) hS (fun _ _ h => h.elim) (fun _ h => h.elim) (fun r10 u9 t9 H1 locs ht9 hvm hwr10 hB9 hz1 hk1 hS => ?_)
  replace hP := zKept hP hk1
  try clear hB9 hz1 hk1 hvm ht9 u9 hPc hDc
  generalize H1 = H at hP hS ⊢
  obtain rfl : r10 = s_X12_dream := hwr10
  refine lv_icmp_eq (tgt := 1563) hx hb dL_law_869 (by decide) (fun _ => ?_) (fun c9 => absurd zq_dream c9)
  exact law_end hlt C0 hA hAs hK hG hSt hX9 hS (by decide) (by decide) (lv_sub hl [0, 4] rfl)

set_option maxHeartbeats 4000000 in
set_option maxRecDepth 100000 in
theorem law_19 {p : Program} {l : Launch} {e : Env} {s : State} {m : MethodId} {below : List Frame} {meth : Method} {c : Code} {dC : Nat → ClassId} {dI : Nat → Nat → Nat} {cI cZ : ClassId} {A : Nat → Prop} {b tR sa : Nat} {xs : Nat → Int32} (hlt : l.stackTraces = false) (C0 : lw_At p s m meth c b 6 xs) (hA : ∀ q : Nat, s.heap.size ≤ q → A q) (hAs : ∀ q : Nat, A q → s.heap.size ≤ q) (hK : va_K (dC, dI) vwCl (zT cI cZ) s) (hG : zG s) (hSt : zSt tR A s) (hX9 : vk_R "DreamGuard" 196 zTx sa s ∧ vx_Zq Bundle.tN "UNASSIGNED_STACK" Bundle.steD A s s.heap ∧ vx_Zq Bundle.tN "SUPPRESSED_SENTINEL" Bundle.listD A s s.heap ∧ zF s) (ho : Nat) (h0 : Nat) (a1 : Nat) (a2 : Nat) (a3 : Nat) (a4 : Nat) (a5 : Nat) (a6 : Nat) (a7 : Nat) (a8 : Nat) (a9 : Nat) (a10 : Nat) (a11 : Nat) (a12 : Nat) (a13 : Nat) (a14 : Nat) (d6 : Value) (d7 : Value) (d10 : Value) (d13 : Value) (d14 : Value) (d16 : Value) (d17 : Value) (d19 : Value) (u2 : Value) (u3 : Value) (v1 : Value) (w0 : Value) (w1 : Value) (w2 : Value) (w3 : Value) (x3 : Value) (x4 : Value) (y0 : Value) (y1 : Value) (y2 : Value) (y5 : Value) (y6 : Value) (z0 : Value) (n0 : Value) (n1 : Value) (n2 : Value) (o0 : Value) (o1 : Value) (o2 : Value) (mh0 : Nat) (mq0 : Nat) (mq1 : Nat) (mq2 : Nat) (mq3 : Nat) (mq4 : Nat) (mq5 : Nat) (me0 : Value) (me3 : Value) (me4 : Value) (me5 : Value) (me6 : Value) (me7 : Value) (me10 : Value) (me11 : Value) (me12 : Value) (me14 : Value) (me15 : Value) (me16 : Value) (me18 : Value) (me19 : Value) (me20 : Value) (me21 : Value) (me27 : Value) (me28 : Value) (me29 : Value) (me30 : Value) (me31 : Value) (me32 : Value) (me33 : Value) (me34 : Value) (me35 : Value) (me36 : Value) (me37 : Value) (me38 : Value) (me40 : Value) (me41 : Value) (me42 : Value) (me43 : Value) (me44 : Value) (me45 : Value) (me46 : Value) (me48 : Value) (me49 : Value) (me50 : Value) (me51 : Value) (me52 : Value) (me54 : Value) {H : Heap} {locs : List Loc} {ls : Array Slot} (hP : va_P (dC, dI) vwCl [(h0, .inr (11, [.ref a1, .ref a3, .ref a5, .ref a6, .ref a7, .ref a8, d6, d7, .int 0, .ref a9, d10, .ref a10, .ref a11, d13, d14, .ref a12, d16, d17, .int 0, d19])), (a1, .inr (10, [.ref a2, .int 0, .int 0])), (a2, .inl (cI, 240, .inl (fun _ => 0))), (a3, .inr (2, [.ref a1, .ref a4, u2, u3, .int 0, .int 0])), (a4, .inl (cI, 4, .inl (fun _ => 0))), (a5, .inr (4, [.ref a1, v1, .int 0])), (a6, .inr (3, [w0, w1, w2, w3, .int 0, .int (-1)])), (a7, .inr (1, [.int 0, .int 0, .int 0, x3, x4])), (a8, .inr (8, [y0, y1, y2, .ref a13, .ref a14, y5, y6, .int 0, .int 0, .int 0])), (a9, .inr (0, [z0, .int 0, .int 0])), (a10, .inr (6, [n0, n1, n2, .int 0])), (a11, .inr (6, [o0, o1, o2, .int 0])), (a12, .inl (cI, 5, .inl (fun _ => 0))), (mh0, .inr (12, [me0, .ref mq0, .int 0, me3, me4, me5, me6, me7, .ref mq2, .ref mq3, me10, me11, me12, .int 0, me14, me15, me16, .ref mq1, me18, me19, me20, me21, .int 0, .ref mq4, .ref mq5, .int (-1), .int 0, me27, me28, me29, me30, me31, me32, me33, me34, me35, me36, me37, me38, .int 0, me40, me41, me42, me43, me44, me45, me46, .int 0, me48, me49, me50, me51, me52, .int 0, me54, .int 0])), (mq0, .inl (cI, 240, .inl (fun _ => 0))), (mq1, .inl (cI, 3, .inl (fun _ => 0))), (mq2, .inl (cI, 5, .inl (fun _ => 0))), (mq3, .inl (cI, 5, .inl (fun _ => 0))), (mq4, .inl (cI, 220, .inl (fun _ => 0))), (mq5, .inl (cI, 5, .inl (fun _ => 0)))] H) (hD : va_D A [(h0, .inr (11, [.ref a1, .ref a3, .ref a5, .ref a6, .ref a7, .ref a8, d6, d7, .int 0, .ref a9, d10, .ref a10, .ref a11, d13, d14, .ref a12, d16, d17, .int 0, d19])), (a1, .inr (10, [.ref a2, .int 0, .int 0])), (a2, .inl (cI, 240, .inl (fun _ => 0))), (a3, .inr (2, [.ref a1, .ref a4, u2, u3, .int 0, .int 0])), (a4, .inl (cI, 4, .inl (fun _ => 0))), (a5, .inr (4, [.ref a1, v1, .int 0])), (a6, .inr (3, [w0, w1, w2, w3, .int 0, .int (-1)])), (a7, .inr (1, [.int 0, .int 0, .int 0, x3, x4])), (a8, .inr (8, [y0, y1, y2, .ref a13, .ref a14, y5, y6, .int 0, .int 0, .int 0])), (a9, .inr (0, [z0, .int 0, .int 0])), (a10, .inr (6, [n0, n1, n2, .int 0])), (a11, .inr (6, [o0, o1, o2, .int 0])), (a12, .inl (cI, 5, .inl (fun _ => 0))), (mh0, .inr (12, [me0, .ref mq0, .int 0, me3, me4, me5, me6, me7, .ref mq2, .ref mq3, me10, me11, me12, .int 0, me14, me15, me16, .ref mq1, me18, me19, me20, me21, .int 0, .ref mq4, .ref mq5, .int (-1), .int 0, me27, me28, me29, me30, me31, me32, me33, me34, me35, me36, me37, me38, .int 0, me40, me41, me42, me43, me44, me45, me46, .int 0, me48, me49, me50, me51, me52, .int 0, me54, .int 0])), (mq0, .inl (cI, 240, .inl (fun _ => 0))), (mq1, .inl (cI, 3, .inl (fun _ => 0))), (mq2, .inl (cI, 5, .inl (fun _ => 0))), (mq3, .inl (cI, 5, .inl (fun _ => 0))), (mq4, .inl (cI, 220, .inl (fun _ => 0))), (mq5, .inl (cI, 5, .inl (fun _ => 0)))]) (hS : va_S A s.heap H locs) (hl : lv_has ls 7 [(4, .int 0), (3, .ref ho), (2, .ref mh0), (1, .ref h0), (0, .ref b)]) : W p l e room_1 s m #[Value.ref b] below meth c H locs 442 23958 (lw_Z below #[Value.ref b] s) (F0 m 874 ls []) := by
  obtain ⟨hx, hb, hr, hml, hown0, hts0, hX, hbl, hlocks, hgv⟩ := id C0
  have hown : s.vm.findClass RL = some m.cls := hown0
  have hts := hts0
  have hbA : ¬ A b := fun h => absurd (hAs b h) (Nat.not_le.mpr hbl)
  refine lv_aload_n hx hb dL_law_874 rfl (lv_at hl 3 rfl) ?_
  refine lv_aload_n hx hb dL_law_875 rfl (lv_at hl 4 rfl) ?_
  refine lv_iload hx hb dL_law_876 (lv_at hl 0 rfl) ?_
  refine lv_iconst (v := 1) hx hb dL_law_878 (by decide) ?_
  refine lv_iadd hx hb dL_law_879 ?_
  refine lv_topi (fun k1 ek1 => ?_)
  obtain rfl : k1 = 1 := ek1.trans (by decide)
  refine va_sld (i := 1) hx hb hX hbl hbA hS (show ¬ ((1 : Int32) < 0 ∨ 6 ≤ (1 : Int32).toNatClampNeg) by decide) dL_law_880 ?_
  refine lv_topi (fun k2 ek2 => ?_)
  obtain rfl : k2 = xs 1 := ek2.trans (congrArg xs (show (1 : Int32).toNatClampNeg = 1 by decide))
  refine lv_aload_n hx hb dL_law_881 rfl (lv_at hl 4 rfl) ?_
  refine lv_iload hx hb dL_law_882 (lv_at hl 0 rfl) ?_
  refine lv_iconst (v := 2) hx hb dL_law_884 (by decide) ?_
  refine lv_iadd hx hb dL_law_885 ?_
  refine lv_topi (fun k3 ek3 => ?_)
  obtain rfl : k3 = 2 := ek3.trans (by decide)
  refine va_sld (i := 2) hx hb hX hbl hbA hS (show ¬ ((2 : Int32) < 0 ∨ 6 ≤ (2 : Int32).toNatClampNeg) by decide) dL_law_886 ?_
  refine lv_topi (fun k4 ek4 => ?_)
  obtain rfl : k4 = xs 2 := ek4.trans (congrArg xs (show (2 : Int32).toNatClampNeg = 2 by decide))
  have hPc := hP.sub (ws' := [(h0, .inr (11, [.ref a1, .ref a3, .ref a5, .ref a6, .ref a7, .ref a8, d6, d7, .int 0, .ref a9, d10, .ref a10, .ref a11, d13, d14, .ref a12, d16, d17, .int 0, d19])), (a7, .inr (1, [.int 0, .int 0, .int 0, x3, x4]))]) [0, 7] rfl
  have hDc := hD.sub (ws' := [(h0, .inr (11, [.ref a1, .ref a3, .ref a5, .ref a6, .ref a7, .ref a8, d6, d7, .int 0, .ref a9, d10, .ref a10, .ref a11, d13, d14, .ref a12, d16, d17, .int 0, d19])), (a7, .inr (1, [.int 0, .int 0, .int 0, x3, x4]))]) [0, 7] (by decide) rfl
  refine va_calli (va_runV (As := [.int (xs 1), .int (xs 2)]) (rest := []) ⟨hx, hb, hml, hown, hts⟩ (c_X11_slept l dC dI cI cZ H.size h0 a7 (.ref a1) (.ref a3) (.ref a5) (.ref a6) (.ref a8) d6 d7 (.int 0) (.ref a9) d10 (.ref a10) (.ref a11) d13 d14 (.ref a12) d16 d17 (.int 0) d19 (.int 0) x3 x4 (xs 1) (xs 2)) (cwV 2 hts zg_X11_slept rfl rfl rfl (by decide +kernel) ⟨Nat.le_of_ble_eq_true rfl, Nat.le_of_ble_eq_true rfl⟩) (zPreV hPc hK hDc hG (ci := 11) (q0 := 0) rfl rfl) rfl rfl hl.1 rfl (lv_room (Nat.le_of_ble_eq_true rfl)) dL_law_887 ⟨Nat.le_of_ble_eq_true rfl, Nat.le_of_ble_eq_true rfl⟩) hS (fun _ _ h => h.elim) (fun _ h => h.elim) (fun r5 u9 t9 H1 locs ht9 hvm hwr5 hB9 hz1 hk1 hS => ?_)
  replace hP := zKept hP hk1
  try clear hB9 hz1 hk1 hvm ht9 u9 hPc hDc
  generalize H1 = H at hP hS ⊢
  obtain rfl : r5 = s_X11_slept := hwr5
  refine lv_aload_n hx hb dL_law_890 rfl (lv_at hl 2 rfl) ?_
  refine lv_aload_n hx hb dL_law_891 rfl (lv_at hl 4 rfl) ?_
  refine lv_iload hx hb dL_law_892 (lv_at hl 0 rfl) ?_
  refine lv_iconst (v := 1) hx hb dL_law_894 (by decide) ?_
  refine lv_iadd hx hb dL_law_895 ?_
  refine lv_topi (fun k6 ek6 => ?_)
  obtain rfl : k6 = 1 := ek6.trans (by decide)
  refine va_sld (i := 1) hx hb hX hbl hbA hS (show ¬ ((1 : Int32) < 0 ∨ 6 ≤ (1 : Int32).toNatClampNeg) by decide) dL_law_896 ?_
  refine lv_topi (fun k7 ek7 => ?_)
  obtain rfl : k7 = xs 1 := ek7.trans (congrArg xs (show (1 : Int32).toNatClampNeg = 1 by decide))
  refine lv_aload_n hx hb dL_law_897 rfl (lv_at hl 4 rfl) ?_
  refine lv_iload hx hb dL_law_898 (lv_at hl 0 rfl) ?_
  refine lv_iconst (v := 2) hx hb dL_law_900 (by decide) ?_
  refine lv_iadd hx hb dL_law_901 ?_
  refine lv_topi (fun k8 ek8 => ?_)
  obtain rfl : k8 = 2 := ek8.trans (by decide)
  refine va_sld (i := 2) hx hb hX hbl hbA hS (show ¬ ((2 : Int32) < 0 ∨ 6 ≤ (2 : Int32).toNatClampNeg) by decide) dL_law_902 ?_
  refine lv_topi (fun k9 ek9 => ?_)
  obtain rfl : k9 = xs 2 := ek9.trans (congrArg xs (show (2 : Int32).toNatClampNeg = 2 by decide))
  have hPc := hP.sub (ws' := [(mh0, .inr (12, [me0, .ref mq0, .int 0, me3, me4, me5, me6, me7, .ref mq2, .ref mq3, me10, me11, me12, .int 0, me14, me15, me16, .ref mq1, me18, me19, me20, me21, .int 0, .ref mq4, .ref mq5, .int (-1), .int 0, me27, me28, me29, me30, me31, me32, me33, me34, me35, me36, me37, me38, .int 0, me40, me41, me42, me43, me44, me45, me46, .int 0, me48, me49, me50, me51, me52, .int 0, me54, .int 0]))]) [13] rfl
  have hDc := hD.sub (ws' := [(mh0, .inr (12, [me0, .ref mq0, .int 0, me3, me4, me5, me6, me7, .ref mq2, .ref mq3, me10, me11, me12, .int 0, me14, me15, me16, .ref mq1, me18, me19, me20, me21, .int 0, .ref mq4, .ref mq5, .int (-1), .int 0, me27, me28, me29, me30, me31, me32, me33, me34, me35, me36, me37, me38, .int 0, me40, me41, me42, me43, me44, me45, me46, .int 0, me48, me49, me50, me51, me52, .int 0, me54, .int 0]))]) [13] (by decide) rfl
  refine va_calli (va_runV (As := [.int (xs 1), .int (xs 2)]) (rest := [.int s_X11_slept]) ⟨hx, hb, hml, hown, hts⟩ (c_X12_slept l dC dI cI cZ H.size mh0 me0 (.ref mq0) (.int 0) me3 me4 me5 me6 me7 (.ref mq2) (.ref mq3) me10 me11 me12 (.int 0) me14 me15 me16 (.ref mq1) me18 me19 me20 me21 (.ref mq4) (.ref mq5) (.int (-1)) (.int 0) me27 me28 me29 me30 me31 me32 me33 me34 me35 me36 me37 me38 (.int 0) me40 me41 me42 me43 me44 me45 me46 (.int 0) me48 me49 me50 me51 me52 (.int 0) me54 (.int 0) (xs 1) (xs 2)) (cwV 2 hts zg_X12_slept rfl rfl rfl (by decide +kernel) ⟨Nat.le_of_ble_eq_true rfl, Nat.le_of_ble_eq_true rfl⟩) (zPreV hPc hK hDc hG (ci := 12) (q0 := 0) rfl rfl) rfl rfl hl.1 rfl (lv_room (Nat.le_of_ble_eq_true rfl)) dL_law_903 ⟨Nat.le_of_ble_eq_true rfl, Nat.le_of_ble_eq_true rfl⟩) hS (fun _ _ h => h.elim) (fun _ h => h.elim) (fun r10 u9 t9 H1 locs ht9 hvm hwr10 hB9 hz1 hk1 hS => ?_)
  replace hP := zKept hP hk1
  try clear hB9 hz1 hk1 hvm ht9 u9 hPc hDc
  generalize H1 = H at hP hS ⊢
  obtain rfl : r10 = s_X12_slept := hwr10
  refine lv_icmp_eq (tgt := 1563) hx hb dL_law_906 (by decide) (fun _ => ?_) (fun c9 => absurd zq_slept c9)
  exact law_end hlt C0 hA hAs hK hG hSt hX9 hS (by decide) (by decide) (lv_sub hl [0, 4] rfl)

set_option maxHeartbeats 4000000 in
set_option maxRecDepth 100000 in
theorem law_20 {p : Program} {l : Launch} {e : Env} {s : State} {m : MethodId} {below : List Frame} {meth : Method} {c : Code} {dC : Nat → ClassId} {dI : Nat → Nat → Nat} {cI cZ : ClassId} {A : Nat → Prop} {b tR sa : Nat} {xs : Nat → Int32} (hlt : l.stackTraces = false) (C0 : lw_At p s m meth c b 6 xs) (hA : ∀ q : Nat, s.heap.size ≤ q → A q) (hAs : ∀ q : Nat, A q → s.heap.size ≤ q) (hK : va_K (dC, dI) vwCl (zT cI cZ) s) (hG : zG s) (hSt : zSt tR A s) (hX9 : vk_R "DreamGuard" 196 zTx sa s ∧ vx_Zq Bundle.tN "UNASSIGNED_STACK" Bundle.steD A s s.heap ∧ vx_Zq Bundle.tN "SUPPRESSED_SENTINEL" Bundle.listD A s s.heap ∧ zF s) (ho : Nat) (h0 : Nat) (a1 : Nat) (a2 : Nat) (a3 : Nat) (a4 : Nat) (a5 : Nat) (a6 : Nat) (a7 : Nat) (a8 : Nat) (a9 : Nat) (a10 : Nat) (a11 : Nat) (a12 : Nat) (a13 : Nat) (a14 : Nat) (d6 : Value) (d7 : Value) (d10 : Value) (d13 : Value) (d14 : Value) (d16 : Value) (d17 : Value) (d19 : Value) (u2 : Value) (u3 : Value) (v1 : Value) (w0 : Value) (w1 : Value) (w2 : Value) (w3 : Value) (x3 : Value) (x4 : Value) (y0 : Value) (y1 : Value) (y2 : Value) (y5 : Value) (y6 : Value) (z0 : Value) (n0 : Value) (n1 : Value) (n2 : Value) (o0 : Value) (o1 : Value) (o2 : Value) (mh0 : Nat) (mq0 : Nat) (mq1 : Nat) (mq2 : Nat) (mq3 : Nat) (mq4 : Nat) (mq5 : Nat) (me0 : Value) (me3 : Value) (me4 : Value) (me5 : Value) (me6 : Value) (me7 : Value) (me10 : Value) (me11 : Value) (me12 : Value) (me14 : Value) (me15 : Value) (me16 : Value) (me18 : Value) (me19 : Value) (me20 : Value) (me21 : Value) (me27 : Value) (me28 : Value) (me29 : Value) (me30 : Value) (me31 : Value) (me32 : Value) (me33 : Value) (me34 : Value) (me35 : Value) (me36 : Value) (me37 : Value) (me38 : Value) (me40 : Value) (me41 : Value) (me42 : Value) (me43 : Value) (me44 : Value) (me45 : Value) (me46 : Value) (me48 : Value) (me49 : Value) (me50 : Value) (me51 : Value) (me52 : Value) (me54 : Value) {H : Heap} {locs : List Loc} {ls : Array Slot} (hP : va_P (dC, dI) vwCl [(h0, .inr (11, [.ref a1, .ref a3, .ref a5, .ref a6, .ref a7, .ref a8, d6, d7, .int 0, .ref a9, d10, .ref a10, .ref a11, d13, d14, .ref a12, d16, d17, .int 0, d19])), (a1, .inr (10, [.ref a2, .int 0, .int 0])), (a2, .inl (cI, 240, .inl (fun _ => 0))), (a3, .inr (2, [.ref a1, .ref a4, u2, u3, .int 0, .int 0])), (a4, .inl (cI, 4, .inl (fun _ => 0))), (a5, .inr (4, [.ref a1, v1, .int 0])), (a6, .inr (3, [w0, w1, w2, w3, .int 0, .int (-1)])), (a7, .inr (1, [.int 0, .int 0, .int 0, x3, x4])), (a8, .inr (8, [y0, y1, y2, .ref a13, .ref a14, y5, y6, .int 0, .int 0, .int 0])), (a9, .inr (0, [z0, .int 0, .int 0])), (a10, .inr (6, [n0, n1, n2, .int 0])), (a11, .inr (6, [o0, o1, o2, .int 0])), (a12, .inl (cI, 5, .inl (fun _ => 0))), (mh0, .inr (12, [me0, .ref mq0, .int 0, me3, me4, me5, me6, me7, .ref mq2, .ref mq3, me10, me11, me12, .int 0, me14, me15, me16, .ref mq1, me18, me19, me20, me21, .int 0, .ref mq4, .ref mq5, .int (-1), .int 0, me27, me28, me29, me30, me31, me32, me33, me34, me35, me36, me37, me38, .int 0, me40, me41, me42, me43, me44, me45, me46, .int 0, me48, me49, me50, me51, me52, .int 0, me54, .int 0])), (mq0, .inl (cI, 240, .inl (fun _ => 0))), (mq1, .inl (cI, 3, .inl (fun _ => 0))), (mq2, .inl (cI, 5, .inl (fun _ => 0))), (mq3, .inl (cI, 5, .inl (fun _ => 0))), (mq4, .inl (cI, 220, .inl (fun _ => 0))), (mq5, .inl (cI, 5, .inl (fun _ => 0)))] H) (hD : va_D A [(h0, .inr (11, [.ref a1, .ref a3, .ref a5, .ref a6, .ref a7, .ref a8, d6, d7, .int 0, .ref a9, d10, .ref a10, .ref a11, d13, d14, .ref a12, d16, d17, .int 0, d19])), (a1, .inr (10, [.ref a2, .int 0, .int 0])), (a2, .inl (cI, 240, .inl (fun _ => 0))), (a3, .inr (2, [.ref a1, .ref a4, u2, u3, .int 0, .int 0])), (a4, .inl (cI, 4, .inl (fun _ => 0))), (a5, .inr (4, [.ref a1, v1, .int 0])), (a6, .inr (3, [w0, w1, w2, w3, .int 0, .int (-1)])), (a7, .inr (1, [.int 0, .int 0, .int 0, x3, x4])), (a8, .inr (8, [y0, y1, y2, .ref a13, .ref a14, y5, y6, .int 0, .int 0, .int 0])), (a9, .inr (0, [z0, .int 0, .int 0])), (a10, .inr (6, [n0, n1, n2, .int 0])), (a11, .inr (6, [o0, o1, o2, .int 0])), (a12, .inl (cI, 5, .inl (fun _ => 0))), (mh0, .inr (12, [me0, .ref mq0, .int 0, me3, me4, me5, me6, me7, .ref mq2, .ref mq3, me10, me11, me12, .int 0, me14, me15, me16, .ref mq1, me18, me19, me20, me21, .int 0, .ref mq4, .ref mq5, .int (-1), .int 0, me27, me28, me29, me30, me31, me32, me33, me34, me35, me36, me37, me38, .int 0, me40, me41, me42, me43, me44, me45, me46, .int 0, me48, me49, me50, me51, me52, .int 0, me54, .int 0])), (mq0, .inl (cI, 240, .inl (fun _ => 0))), (mq1, .inl (cI, 3, .inl (fun _ => 0))), (mq2, .inl (cI, 5, .inl (fun _ => 0))), (mq3, .inl (cI, 5, .inl (fun _ => 0))), (mq4, .inl (cI, 220, .inl (fun _ => 0))), (mq5, .inl (cI, 5, .inl (fun _ => 0)))]) (hS : va_S A s.heap H locs) (hl : lv_has ls 7 [(4, .int 0), (3, .ref ho), (2, .ref mh0), (1, .ref h0), (0, .ref b)]) : W p l e room_1 s m #[Value.ref b] below meth c H locs 442 23958 (lw_Z below #[Value.ref b] s) (F0 m 911 ls []) := by
  obtain ⟨hx, hb, hr, hml, hown0, hts0, hX, hbl, hlocks, hgv⟩ := id C0
  have hown : s.vm.findClass RL = some m.cls := hown0
  have hts := hts0
  have hbA : ¬ A b := fun h => absurd (hAs b h) (Nat.not_le.mpr hbl)
  refine lv_aload_n hx hb dL_law_911 rfl (lv_at hl 3 rfl) ?_
  refine lv_aload_n hx hb dL_law_912 rfl (lv_at hl 4 rfl) ?_
  refine lv_iload hx hb dL_law_913 (lv_at hl 0 rfl) ?_
  refine lv_iconst (v := 1) hx hb dL_law_915 (by decide) ?_
  refine lv_iadd hx hb dL_law_916 ?_
  refine lv_topi (fun k1 ek1 => ?_)
  obtain rfl : k1 = 1 := ek1.trans (by decide)
  refine va_sld (i := 1) hx hb hX hbl hbA hS (show ¬ ((1 : Int32) < 0 ∨ 6 ≤ (1 : Int32).toNatClampNeg) by decide) dL_law_917 ?_
  refine lv_topi (fun k2 ek2 => ?_)
  obtain rfl : k2 = xs 1 := ek2.trans (congrArg xs (show (1 : Int32).toNatClampNeg = 1 by decide))
  have hPc := hP.sub (ws' := [(h0, .inr (11, [.ref a1, .ref a3, .ref a5, .ref a6, .ref a7, .ref a8, d6, d7, .int 0, .ref a9, d10, .ref a10, .ref a11, d13, d14, .ref a12, d16, d17, .int 0, d19])), (a7, .inr (1, [.int 0, .int 0, .int 0, x3, x4]))]) [0, 7] rfl
  have hDc := hD.sub (ws' := [(h0, .inr (11, [.ref a1, .ref a3, .ref a5, .ref a6, .ref a7, .ref a8, d6, d7, .int 0, .ref a9, d10, .ref a10, .ref a11, d13, d14, .ref a12, d16, d17, .int 0, d19])), (a7, .inr (1, [.int 0, .int 0, .int 0, x3, x4]))]) [0, 7] (by decide) rfl
  refine va_calli (va_runV (As := [.int (xs 1)]) (rest := []) ⟨hx, hb, hml, hown, hts⟩ (c_X11_night l dC dI cI cZ H.size h0 a7 (.ref a1) (.ref a3) (.ref a5) (.ref a6) (.ref a8) d6 d7 (.int 0) (.ref a9) d10 (.ref a10) (.ref a11) d13 d14 (.ref a12) d16 d17 (.int 0) d19 (.int 0) x3 x4 (xs 1)) (cwV 1 hts zg_X11_night rfl rfl rfl (by decide +kernel) ⟨Nat.le_of_ble_eq_true rfl, Nat.le_of_ble_eq_true rfl⟩) (zPreV hPc hK hDc hG (ci := 11) (q0 := 0) rfl rfl) rfl rfl hl.1 rfl (lv_room (Nat.le_of_ble_eq_true rfl)) dL_law_918 ⟨Nat.le_of_ble_eq_true rfl, Nat.le_of_ble_eq_true rfl⟩) hS (fun _ _ h => h.elim) (fun _ h => h.elim) (fun r3 u9 t9 H1 locs ht9 hvm hwr3 hB9 hz1 hk1 hS => ?_)
  replace hP := zKept hP hk1
  try clear hB9 hz1 hk1 hvm ht9 u9 hPc hDc
  generalize H1 = H at hP hS ⊢
  obtain rfl : r3 = s_X11_night := hwr3
  refine lv_aload_n hx hb dL_law_921 rfl (lv_at hl 2 rfl) ?_
  refine lv_aload_n hx hb dL_law_922 rfl (lv_at hl 4 rfl) ?_
  refine lv_iload hx hb dL_law_923 (lv_at hl 0 rfl) ?_
  refine lv_iconst (v := 1) hx hb dL_law_925 (by decide) ?_
  refine lv_iadd hx hb dL_law_926 ?_
  refine lv_topi (fun k4 ek4 => ?_)
  obtain rfl : k4 = 1 := ek4.trans (by decide)
  refine va_sld (i := 1) hx hb hX hbl hbA hS (show ¬ ((1 : Int32) < 0 ∨ 6 ≤ (1 : Int32).toNatClampNeg) by decide) dL_law_927 ?_
  refine lv_topi (fun k5 ek5 => ?_)
  obtain rfl : k5 = xs 1 := ek5.trans (congrArg xs (show (1 : Int32).toNatClampNeg = 1 by decide))
  have hPc := hP.sub (ws' := [(mh0, .inr (12, [me0, .ref mq0, .int 0, me3, me4, me5, me6, me7, .ref mq2, .ref mq3, me10, me11, me12, .int 0, me14, me15, me16, .ref mq1, me18, me19, me20, me21, .int 0, .ref mq4, .ref mq5, .int (-1), .int 0, me27, me28, me29, me30, me31, me32, me33, me34, me35, me36, me37, me38, .int 0, me40, me41, me42, me43, me44, me45, me46, .int 0, me48, me49, me50, me51, me52, .int 0, me54, .int 0]))]) [13] rfl
  have hDc := hD.sub (ws' := [(mh0, .inr (12, [me0, .ref mq0, .int 0, me3, me4, me5, me6, me7, .ref mq2, .ref mq3, me10, me11, me12, .int 0, me14, me15, me16, .ref mq1, me18, me19, me20, me21, .int 0, .ref mq4, .ref mq5, .int (-1), .int 0, me27, me28, me29, me30, me31, me32, me33, me34, me35, me36, me37, me38, .int 0, me40, me41, me42, me43, me44, me45, me46, .int 0, me48, me49, me50, me51, me52, .int 0, me54, .int 0]))]) [13] (by decide) rfl
  refine va_calli (va_runV (As := [.int (xs 1)]) (rest := [.int s_X11_night]) ⟨hx, hb, hml, hown, hts⟩ (c_X12_night l dC dI cI cZ H.size mh0 me0 (.ref mq0) (.int 0) me3 me4 me5 me6 me7 (.ref mq2) (.ref mq3) me10 me11 me12 (.int 0) me14 me15 me16 (.ref mq1) me18 me19 me20 me21 (.ref mq4) (.ref mq5) (.int (-1)) (.int 0) me27 me28 me29 me30 me31 me32 me33 me34 me35 me36 me37 me38 (.int 0) me40 me41 me42 me43 me44 me45 me46 (.int 0) me48 me49 me50 me51 me52 (.int 0) me54 (.int 0) (xs 1)) (cwV 1 hts zg_X12_night rfl rfl rfl (by decide +kernel) ⟨Nat.le_of_ble_eq_true rfl, Nat.le_of_ble_eq_true rfl⟩) (zPreV hPc hK hDc hG (ci := 12) (q0 := 0) rfl rfl) rfl rfl hl.1 rfl (lv_room (Nat.le_of_ble_eq_true rfl)) dL_law_928 ⟨Nat.le_of_ble_eq_true rfl, Nat.le_of_ble_eq_true rfl⟩) hS (fun _ _ h => h.elim) (fun _ h => h.elim) (fun r6 u9 t9 H1 locs ht9 hvm hwr6 hB9 hz1 hk1 hS => ?_)
  replace hP := zKept hP hk1
  try clear hB9 hz1 hk1 hvm ht9 u9 hPc hDc
  generalize H1 = H at hP hS ⊢
  obtain rfl : r6 = s_X12_night := hwr6
  refine lv_icmp_eq (tgt := 1563) hx hb dL_law_931 (by decide) (fun _ => ?_) (fun c9 => absurd zq_night c9)
  exact law_end hlt C0 hA hAs hK hG hSt hX9 hS (by decide) (by decide) (lv_sub hl [0, 4] rfl)

set_option maxHeartbeats 4000000 in
set_option maxRecDepth 100000 in
theorem law_21 {p : Program} {l : Launch} {e : Env} {s : State} {m : MethodId} {below : List Frame} {meth : Method} {c : Code} {dC : Nat → ClassId} {dI : Nat → Nat → Nat} {cI cZ : ClassId} {A : Nat → Prop} {b tR sa : Nat} {xs : Nat → Int32} (hlt : l.stackTraces = false) (C0 : lw_At p s m meth c b 6 xs) (hA : ∀ q : Nat, s.heap.size ≤ q → A q) (hAs : ∀ q : Nat, A q → s.heap.size ≤ q) (hK : va_K (dC, dI) vwCl (zT cI cZ) s) (hG : zG s) (hSt : zSt tR A s) (hX9 : vk_R "DreamGuard" 196 zTx sa s ∧ vx_Zq Bundle.tN "UNASSIGNED_STACK" Bundle.steD A s s.heap ∧ vx_Zq Bundle.tN "SUPPRESSED_SENTINEL" Bundle.listD A s s.heap ∧ zF s) (ho : Nat) (h0 : Nat) (a1 : Nat) (a2 : Nat) (a3 : Nat) (a4 : Nat) (a5 : Nat) (a6 : Nat) (a7 : Nat) (a8 : Nat) (a9 : Nat) (a10 : Nat) (a11 : Nat) (a12 : Nat) (a13 : Nat) (a14 : Nat) (d6 : Value) (d7 : Value) (d10 : Value) (d13 : Value) (d14 : Value) (d16 : Value) (d17 : Value) (d19 : Value) (u2 : Value) (u3 : Value) (v1 : Value) (w0 : Value) (w1 : Value) (w2 : Value) (w3 : Value) (x3 : Value) (x4 : Value) (y0 : Value) (y1 : Value) (y2 : Value) (y5 : Value) (y6 : Value) (z0 : Value) (n0 : Value) (n1 : Value) (n2 : Value) (o0 : Value) (o1 : Value) (o2 : Value) (mh0 : Nat) (mq0 : Nat) (mq1 : Nat) (mq2 : Nat) (mq3 : Nat) (mq4 : Nat) (mq5 : Nat) (me0 : Value) (me3 : Value) (me4 : Value) (me5 : Value) (me6 : Value) (me7 : Value) (me10 : Value) (me11 : Value) (me12 : Value) (me14 : Value) (me15 : Value) (me16 : Value) (me18 : Value) (me19 : Value) (me20 : Value) (me21 : Value) (me27 : Value) (me28 : Value) (me29 : Value) (me30 : Value) (me31 : Value) (me32 : Value) (me33 : Value) (me34 : Value) (me35 : Value) (me36 : Value) (me37 : Value) (me38 : Value) (me40 : Value) (me41 : Value) (me42 : Value) (me43 : Value) (me44 : Value) (me45 : Value) (me46 : Value) (me48 : Value) (me49 : Value) (me50 : Value) (me51 : Value) (me52 : Value) (me54 : Value) {H : Heap} {locs : List Loc} {ls : Array Slot} (hP : va_P (dC, dI) vwCl [(h0, .inr (11, [.ref a1, .ref a3, .ref a5, .ref a6, .ref a7, .ref a8, d6, d7, .int 0, .ref a9, d10, .ref a10, .ref a11, d13, d14, .ref a12, d16, d17, .int 0, d19])), (a1, .inr (10, [.ref a2, .int 0, .int 0])), (a2, .inl (cI, 240, .inl (fun _ => 0))), (a3, .inr (2, [.ref a1, .ref a4, u2, u3, .int 0, .int 0])), (a4, .inl (cI, 4, .inl (fun _ => 0))), (a5, .inr (4, [.ref a1, v1, .int 0])), (a6, .inr (3, [w0, w1, w2, w3, .int 0, .int (-1)])), (a7, .inr (1, [.int 0, .int 0, .int 0, x3, x4])), (a8, .inr (8, [y0, y1, y2, .ref a13, .ref a14, y5, y6, .int 0, .int 0, .int 0])), (a9, .inr (0, [z0, .int 0, .int 0])), (a10, .inr (6, [n0, n1, n2, .int 0])), (a11, .inr (6, [o0, o1, o2, .int 0])), (a12, .inl (cI, 5, .inl (fun _ => 0))), (mh0, .inr (12, [me0, .ref mq0, .int 0, me3, me4, me5, me6, me7, .ref mq2, .ref mq3, me10, me11, me12, .int 0, me14, me15, me16, .ref mq1, me18, me19, me20, me21, .int 0, .ref mq4, .ref mq5, .int (-1), .int 0, me27, me28, me29, me30, me31, me32, me33, me34, me35, me36, me37, me38, .int 0, me40, me41, me42, me43, me44, me45, me46, .int 0, me48, me49, me50, me51, me52, .int 0, me54, .int 0])), (mq0, .inl (cI, 240, .inl (fun _ => 0))), (mq1, .inl (cI, 3, .inl (fun _ => 0))), (mq2, .inl (cI, 5, .inl (fun _ => 0))), (mq3, .inl (cI, 5, .inl (fun _ => 0))), (mq4, .inl (cI, 220, .inl (fun _ => 0))), (mq5, .inl (cI, 5, .inl (fun _ => 0)))] H) (hD : va_D A [(h0, .inr (11, [.ref a1, .ref a3, .ref a5, .ref a6, .ref a7, .ref a8, d6, d7, .int 0, .ref a9, d10, .ref a10, .ref a11, d13, d14, .ref a12, d16, d17, .int 0, d19])), (a1, .inr (10, [.ref a2, .int 0, .int 0])), (a2, .inl (cI, 240, .inl (fun _ => 0))), (a3, .inr (2, [.ref a1, .ref a4, u2, u3, .int 0, .int 0])), (a4, .inl (cI, 4, .inl (fun _ => 0))), (a5, .inr (4, [.ref a1, v1, .int 0])), (a6, .inr (3, [w0, w1, w2, w3, .int 0, .int (-1)])), (a7, .inr (1, [.int 0, .int 0, .int 0, x3, x4])), (a8, .inr (8, [y0, y1, y2, .ref a13, .ref a14, y5, y6, .int 0, .int 0, .int 0])), (a9, .inr (0, [z0, .int 0, .int 0])), (a10, .inr (6, [n0, n1, n2, .int 0])), (a11, .inr (6, [o0, o1, o2, .int 0])), (a12, .inl (cI, 5, .inl (fun _ => 0))), (mh0, .inr (12, [me0, .ref mq0, .int 0, me3, me4, me5, me6, me7, .ref mq2, .ref mq3, me10, me11, me12, .int 0, me14, me15, me16, .ref mq1, me18, me19, me20, me21, .int 0, .ref mq4, .ref mq5, .int (-1), .int 0, me27, me28, me29, me30, me31, me32, me33, me34, me35, me36, me37, me38, .int 0, me40, me41, me42, me43, me44, me45, me46, .int 0, me48, me49, me50, me51, me52, .int 0, me54, .int 0])), (mq0, .inl (cI, 240, .inl (fun _ => 0))), (mq1, .inl (cI, 3, .inl (fun _ => 0))), (mq2, .inl (cI, 5, .inl (fun _ => 0))), (mq3, .inl (cI, 5, .inl (fun _ => 0))), (mq4, .inl (cI, 220, .inl (fun _ => 0))), (mq5, .inl (cI, 5, .inl (fun _ => 0)))]) (hS : va_S A s.heap H locs) (hl : lv_has ls 7 [(4, .int 0), (3, .ref ho), (2, .ref mh0), (1, .ref h0), (0, .ref b)]) : W p l e room_1 s m #[Value.ref b] below meth c H locs 442 23958 (lw_Z below #[Value.ref b] s) (F0 m 936 ls []) := by
  obtain ⟨hx, hb, hr, hml, hown0, hts0, hX, hbl, hlocks, hgv⟩ := id C0
  have hown : s.vm.findClass RL = some m.cls := hown0
  have hts := hts0
  have hbA : ¬ A b := fun h => absurd (hAs b h) (Nat.not_le.mpr hbl)
  refine lv_aload_n hx hb dL_law_936 rfl (lv_at hl 3 rfl) ?_
  refine lv_aload_n hx hb dL_law_937 rfl (lv_at hl 4 rfl) ?_
  refine lv_iload hx hb dL_law_938 (lv_at hl 0 rfl) ?_
  refine lv_iconst (v := 1) hx hb dL_law_940 (by decide) ?_
  refine lv_iadd hx hb dL_law_941 ?_
  refine lv_topi (fun k1 ek1 => ?_)
  obtain rfl : k1 = 1 := ek1.trans (by decide)
  refine va_sld (i := 1) hx hb hX hbl hbA hS (show ¬ ((1 : Int32) < 0 ∨ 6 ≤ (1 : Int32).toNatClampNeg) by decide) dL_law_942 ?_
  refine lv_topi (fun k2 ek2 => ?_)
  obtain rfl : k2 = xs 1 := ek2.trans (congrArg xs (show (1 : Int32).toNatClampNeg = 1 by decide))
  have hPc := hP.sub (ws' := [(h0, .inr (11, [.ref a1, .ref a3, .ref a5, .ref a6, .ref a7, .ref a8, d6, d7, .int 0, .ref a9, d10, .ref a10, .ref a11, d13, d14, .ref a12, d16, d17, .int 0, d19])), (a7, .inr (1, [.int 0, .int 0, .int 0, x3, x4]))]) [0, 7] rfl
  have hDc := hD.sub (ws' := [(h0, .inr (11, [.ref a1, .ref a3, .ref a5, .ref a6, .ref a7, .ref a8, d6, d7, .int 0, .ref a9, d10, .ref a10, .ref a11, d13, d14, .ref a12, d16, d17, .int 0, d19])), (a7, .inr (1, [.int 0, .int 0, .int 0, x3, x4]))]) [0, 7] (by decide) rfl
  refine va_calli (va_runV (As := [.int (xs 1)]) (rest := []) ⟨hx, hb, hml, hown, hts⟩ (c_X11_stagger l dC dI cI cZ H.size h0 a7 (.ref a1) (.ref a3) (.ref a5) (.ref a6) (.ref a8) d6 d7 (.int 0) (.ref a9) d10 (.ref a10) (.ref a11) d13 d14 (.ref a12) d16 d17 (.int 0) d19 (.int 0) x3 x4 (xs 1)) (cwV 1 hts zg_X11_stagger rfl rfl rfl (by decide +kernel) ⟨Nat.le_of_ble_eq_true rfl, Nat.le_of_ble_eq_true rfl⟩) (zPreV hPc hK hDc hG (ci := 11) (q0 := 0) rfl rfl) rfl rfl hl.1 rfl (lv_room (Nat.le_of_ble_eq_true rfl)) dL_law_943 ⟨Nat.le_of_ble_eq_true rfl, Nat.le_of_ble_eq_true rfl⟩) hS (fun _ _ h => h.elim) (fun _ h => h.elim) (fun r3 u9 t9 H1 locs ht9 hvm hwr3 hB9 hz1 hk1 hS => ?_)
  replace hP := zKept hP hk1
  try clear hB9 hz1 hk1 hvm ht9 u9 hPc hDc
  generalize H1 = H at hP hS ⊢
  obtain rfl : r3 = s_X11_stagger := hwr3
  refine lv_aload_n hx hb dL_law_946 rfl (lv_at hl 2 rfl) ?_
  refine lv_aload_n hx hb dL_law_947 rfl (lv_at hl 4 rfl) ?_
  refine lv_iload hx hb dL_law_948 (lv_at hl 0 rfl) ?_
  refine lv_iconst (v := 1) hx hb dL_law_950 (by decide) ?_
  refine lv_iadd hx hb dL_law_951 ?_
  refine lv_topi (fun k4 ek4 => ?_)
  obtain rfl : k4 = 1 := ek4.trans (by decide)
  refine va_sld (i := 1) hx hb hX hbl hbA hS (show ¬ ((1 : Int32) < 0 ∨ 6 ≤ (1 : Int32).toNatClampNeg) by decide) dL_law_952 ?_
  refine lv_topi (fun k5 ek5 => ?_)
  obtain rfl : k5 = xs 1 := ek5.trans (congrArg xs (show (1 : Int32).toNatClampNeg = 1 by decide))
  have hPc := hP.sub (ws' := [(mh0, .inr (12, [me0, .ref mq0, .int 0, me3, me4, me5, me6, me7, .ref mq2, .ref mq3, me10, me11, me12, .int 0, me14, me15, me16, .ref mq1, me18, me19, me20, me21, .int 0, .ref mq4, .ref mq5, .int (-1), .int 0, me27, me28, me29, me30, me31, me32, me33, me34, me35, me36, me37, me38, .int 0, me40, me41, me42, me43, me44, me45, me46, .int 0, me48, me49, me50, me51, me52, .int 0, me54, .int 0]))]) [13] rfl
  have hDc := hD.sub (ws' := [(mh0, .inr (12, [me0, .ref mq0, .int 0, me3, me4, me5, me6, me7, .ref mq2, .ref mq3, me10, me11, me12, .int 0, me14, me15, me16, .ref mq1, me18, me19, me20, me21, .int 0, .ref mq4, .ref mq5, .int (-1), .int 0, me27, me28, me29, me30, me31, me32, me33, me34, me35, me36, me37, me38, .int 0, me40, me41, me42, me43, me44, me45, me46, .int 0, me48, me49, me50, me51, me52, .int 0, me54, .int 0]))]) [13] (by decide) rfl
  refine va_calli (va_runV (As := [.int (xs 1)]) (rest := [.int s_X11_stagger]) ⟨hx, hb, hml, hown, hts⟩ (c_X12_stagger l dC dI cI cZ H.size mh0 me0 (.ref mq0) (.int 0) me3 me4 me5 me6 me7 (.ref mq2) (.ref mq3) me10 me11 me12 (.int 0) me14 me15 me16 (.ref mq1) me18 me19 me20 me21 (.ref mq4) (.ref mq5) (.int (-1)) (.int 0) me27 me28 me29 me30 me31 me32 me33 me34 me35 me36 me37 me38 (.int 0) me40 me41 me42 me43 me44 me45 me46 (.int 0) me48 me49 me50 me51 me52 (.int 0) me54 (.int 0) (xs 1)) (cwV 1 hts zg_X12_stagger rfl rfl rfl (by decide +kernel) ⟨Nat.le_of_ble_eq_true rfl, Nat.le_of_ble_eq_true rfl⟩) (zPreV hPc hK hDc hG (ci := 12) (q0 := 0) rfl rfl) rfl rfl hl.1 rfl (lv_room (Nat.le_of_ble_eq_true rfl)) dL_law_953 ⟨Nat.le_of_ble_eq_true rfl, Nat.le_of_ble_eq_true rfl⟩) hS (fun _ _ h => h.elim) (fun _ h => h.elim) (fun r6 u9 t9 H1 locs ht9 hvm hwr6 hB9 hz1 hk1 hS => ?_)
  replace hP := zKept hP hk1
  try clear hB9 hz1 hk1 hvm ht9 u9 hPc hDc
  generalize H1 = H at hP hS ⊢
  obtain rfl : r6 = s_X12_stagger := hwr6
  refine lv_icmp_eq (tgt := 1563) hx hb dL_law_956 (by decide) (fun _ => ?_) (fun c9 => absurd zq_stagger c9)
  exact law_end hlt C0 hA hAs hK hG hSt hX9 hS (by decide) (by decide) (lv_sub hl [0, 4] rfl)

set_option maxHeartbeats 4000000 in
set_option maxRecDepth 100000 in
theorem law_22 {p : Program} {l : Launch} {e : Env} {s : State} {m : MethodId} {below : List Frame} {meth : Method} {c : Code} {dC : Nat → ClassId} {dI : Nat → Nat → Nat} {cI cZ : ClassId} {A : Nat → Prop} {b tR sa : Nat} {xs : Nat → Int32} (hlt : l.stackTraces = false) (C0 : lw_At p s m meth c b 6 xs) (hA : ∀ q : Nat, s.heap.size ≤ q → A q) (hAs : ∀ q : Nat, A q → s.heap.size ≤ q) (hK : va_K (dC, dI) vwCl (zT cI cZ) s) (hG : zG s) (hSt : zSt tR A s) (hX9 : vk_R "DreamGuard" 196 zTx sa s ∧ vx_Zq Bundle.tN "UNASSIGNED_STACK" Bundle.steD A s s.heap ∧ vx_Zq Bundle.tN "SUPPRESSED_SENTINEL" Bundle.listD A s s.heap ∧ zF s) (ho : Nat) (h0 : Nat) (a1 : Nat) (a2 : Nat) (a3 : Nat) (a4 : Nat) (a5 : Nat) (a6 : Nat) (a7 : Nat) (a8 : Nat) (a9 : Nat) (a10 : Nat) (a11 : Nat) (a12 : Nat) (a13 : Nat) (a14 : Nat) (d6 : Value) (d7 : Value) (d10 : Value) (d13 : Value) (d14 : Value) (d16 : Value) (d17 : Value) (d19 : Value) (u2 : Value) (u3 : Value) (v1 : Value) (w0 : Value) (w1 : Value) (w2 : Value) (w3 : Value) (x3 : Value) (x4 : Value) (y0 : Value) (y1 : Value) (y2 : Value) (y5 : Value) (y6 : Value) (z0 : Value) (n0 : Value) (n1 : Value) (n2 : Value) (o0 : Value) (o1 : Value) (o2 : Value) (mh0 : Nat) (mq0 : Nat) (mq1 : Nat) (mq2 : Nat) (mq3 : Nat) (mq4 : Nat) (mq5 : Nat) (me0 : Value) (me3 : Value) (me4 : Value) (me5 : Value) (me6 : Value) (me7 : Value) (me10 : Value) (me11 : Value) (me12 : Value) (me14 : Value) (me15 : Value) (me16 : Value) (me18 : Value) (me19 : Value) (me20 : Value) (me21 : Value) (me27 : Value) (me28 : Value) (me29 : Value) (me30 : Value) (me31 : Value) (me32 : Value) (me33 : Value) (me34 : Value) (me35 : Value) (me36 : Value) (me37 : Value) (me38 : Value) (me40 : Value) (me41 : Value) (me42 : Value) (me43 : Value) (me44 : Value) (me45 : Value) (me46 : Value) (me48 : Value) (me49 : Value) (me50 : Value) (me51 : Value) (me52 : Value) (me54 : Value) {H : Heap} {locs : List Loc} {ls : Array Slot} (hP : va_P (dC, dI) vwCl [(h0, .inr (11, [.ref a1, .ref a3, .ref a5, .ref a6, .ref a7, .ref a8, d6, d7, .int 0, .ref a9, d10, .ref a10, .ref a11, d13, d14, .ref a12, d16, d17, .int 0, d19])), (a1, .inr (10, [.ref a2, .int 0, .int 0])), (a2, .inl (cI, 240, .inl (fun _ => 0))), (a3, .inr (2, [.ref a1, .ref a4, u2, u3, .int 0, .int 0])), (a4, .inl (cI, 4, .inl (fun _ => 0))), (a5, .inr (4, [.ref a1, v1, .int 0])), (a6, .inr (3, [w0, w1, w2, w3, .int 0, .int (-1)])), (a7, .inr (1, [.int 0, .int 0, .int 0, x3, x4])), (a8, .inr (8, [y0, y1, y2, .ref a13, .ref a14, y5, y6, .int 0, .int 0, .int 0])), (a9, .inr (0, [z0, .int 0, .int 0])), (a10, .inr (6, [n0, n1, n2, .int 0])), (a11, .inr (6, [o0, o1, o2, .int 0])), (a12, .inl (cI, 5, .inl (fun _ => 0))), (mh0, .inr (12, [me0, .ref mq0, .int 0, me3, me4, me5, me6, me7, .ref mq2, .ref mq3, me10, me11, me12, .int 0, me14, me15, me16, .ref mq1, me18, me19, me20, me21, .int 0, .ref mq4, .ref mq5, .int (-1), .int 0, me27, me28, me29, me30, me31, me32, me33, me34, me35, me36, me37, me38, .int 0, me40, me41, me42, me43, me44, me45, me46, .int 0, me48, me49, me50, me51, me52, .int 0, me54, .int 0])), (mq0, .inl (cI, 240, .inl (fun _ => 0))), (mq1, .inl (cI, 3, .inl (fun _ => 0))), (mq2, .inl (cI, 5, .inl (fun _ => 0))), (mq3, .inl (cI, 5, .inl (fun _ => 0))), (mq4, .inl (cI, 220, .inl (fun _ => 0))), (mq5, .inl (cI, 5, .inl (fun _ => 0)))] H) (hD : va_D A [(h0, .inr (11, [.ref a1, .ref a3, .ref a5, .ref a6, .ref a7, .ref a8, d6, d7, .int 0, .ref a9, d10, .ref a10, .ref a11, d13, d14, .ref a12, d16, d17, .int 0, d19])), (a1, .inr (10, [.ref a2, .int 0, .int 0])), (a2, .inl (cI, 240, .inl (fun _ => 0))), (a3, .inr (2, [.ref a1, .ref a4, u2, u3, .int 0, .int 0])), (a4, .inl (cI, 4, .inl (fun _ => 0))), (a5, .inr (4, [.ref a1, v1, .int 0])), (a6, .inr (3, [w0, w1, w2, w3, .int 0, .int (-1)])), (a7, .inr (1, [.int 0, .int 0, .int 0, x3, x4])), (a8, .inr (8, [y0, y1, y2, .ref a13, .ref a14, y5, y6, .int 0, .int 0, .int 0])), (a9, .inr (0, [z0, .int 0, .int 0])), (a10, .inr (6, [n0, n1, n2, .int 0])), (a11, .inr (6, [o0, o1, o2, .int 0])), (a12, .inl (cI, 5, .inl (fun _ => 0))), (mh0, .inr (12, [me0, .ref mq0, .int 0, me3, me4, me5, me6, me7, .ref mq2, .ref mq3, me10, me11, me12, .int 0, me14, me15, me16, .ref mq1, me18, me19, me20, me21, .int 0, .ref mq4, .ref mq5, .int (-1), .int 0, me27, me28, me29, me30, me31, me32, me33, me34, me35, me36, me37, me38, .int 0, me40, me41, me42, me43, me44, me45, me46, .int 0, me48, me49, me50, me51, me52, .int 0, me54, .int 0])), (mq0, .inl (cI, 240, .inl (fun _ => 0))), (mq1, .inl (cI, 3, .inl (fun _ => 0))), (mq2, .inl (cI, 5, .inl (fun _ => 0))), (mq3, .inl (cI, 5, .inl (fun _ => 0))), (mq4, .inl (cI, 220, .inl (fun _ => 0))), (mq5, .inl (cI, 5, .inl (fun _ => 0)))]) (hS : va_S A s.heap H locs) (hl : lv_has ls 7 [(4, .int 0), (3, .ref ho), (2, .ref mh0), (1, .ref h0), (0, .ref b)]) : W p l e room_1 s m #[Value.ref b] below meth c H locs 442 23958 (lw_Z below #[Value.ref b] s) (F0 m 961 ls []) := by
  obtain ⟨hx, hb, hr, hml, hown0, hts0, hX, hbl, hlocks, hgv⟩ := id C0
  have hown : s.vm.findClass RL = some m.cls := hown0
  have hts := hts0
  have hbA : ¬ A b := fun h => absurd (hAs b h) (Nat.not_le.mpr hbl)
  refine lv_aload_n hx hb dL_law_961 rfl (lv_at hl 3 rfl) ?_
  refine lv_aload_n hx hb dL_law_962 rfl (lv_at hl 4 rfl) ?_
  refine lv_iload hx hb dL_law_963 (lv_at hl 0 rfl) ?_
  refine lv_iconst (v := 1) hx hb dL_law_965 (by decide) ?_
  refine lv_iadd hx hb dL_law_966 ?_
  refine lv_topi (fun k1 ek1 => ?_)
  obtain rfl : k1 = 1 := ek1.trans (by decide)
  refine va_sld (i := 1) hx hb hX hbl hbA hS (show ¬ ((1 : Int32) < 0 ∨ 6 ≤ (1 : Int32).toNatClampNeg) by decide) dL_law_967 ?_
  refine lv_topi (fun k2 ek2 => ?_)
  obtain rfl : k2 = xs 1 := ek2.trans (congrArg xs (show (1 : Int32).toNatClampNeg = 1 by decide))
  have hPc := hP.sub (ws' := [(h0, .inr (11, [.ref a1, .ref a3, .ref a5, .ref a6, .ref a7, .ref a8, d6, d7, .int 0, .ref a9, d10, .ref a10, .ref a11, d13, d14, .ref a12, d16, d17, .int 0, d19])), (a7, .inr (1, [.int 0, .int 0, .int 0, x3, x4]))]) [0, 7] rfl
  have hDc := hD.sub (ws' := [(h0, .inr (11, [.ref a1, .ref a3, .ref a5, .ref a6, .ref a7, .ref a8, d6, d7, .int 0, .ref a9, d10, .ref a10, .ref a11, d13, d14, .ref a12, d16, d17, .int 0, d19])), (a7, .inr (1, [.int 0, .int 0, .int 0, x3, x4]))]) [0, 7] (by decide) rfl
  refine va_calli (va_runV (As := [.int (xs 1)]) (rest := []) ⟨hx, hb, hml, hown, hts⟩ (c_X11_ring l dC dI cI cZ H.size h0 a7 (.ref a1) (.ref a3) (.ref a5) (.ref a6) (.ref a8) d6 d7 (.int 0) (.ref a9) d10 (.ref a10) (.ref a11) d13 d14 (.ref a12) d16 d17 (.int 0) d19 (.int 0) x3 x4 (xs 1)) (cwV 1 hts zg_X11_ring rfl rfl rfl (by decide +kernel) ⟨Nat.le_of_ble_eq_true rfl, Nat.le_of_ble_eq_true rfl⟩) (zPreV hPc hK hDc hG (ci := 11) (q0 := 0) rfl rfl) rfl rfl hl.1 rfl (lv_room (Nat.le_of_ble_eq_true rfl)) dL_law_968 ⟨Nat.le_of_ble_eq_true rfl, Nat.le_of_ble_eq_true rfl⟩) hS (fun _ _ h => h.elim) (fun _ h => h.elim) (fun r3 u9 t9 H1 locs ht9 hvm hwr3 hB9 hz1 hk1 hS => ?_)
  replace hP := zKept hP hk1
  try clear hB9 hz1 hk1 hvm ht9 u9 hPc hDc
  generalize H1 = H at hP hS ⊢
  obtain rfl : r3 = s_X11_ring := hwr3
  refine lv_aload_n hx hb dL_law_971 rfl (lv_at hl 2 rfl) ?_
  refine lv_aload_n hx hb dL_law_972 rfl (lv_at hl 4 rfl) ?_
  refine lv_iload hx hb dL_law_973 (lv_at hl 0 rfl) ?_
  refine lv_iconst (v := 1) hx hb dL_law_975 (by decide) ?_
  refine lv_iadd hx hb dL_law_976 ?_
  refine lv_topi (fun k4 ek4 => ?_)
  obtain rfl : k4 = 1 := ek4.trans (by decide)
  refine va_sld (i := 1) hx hb hX hbl hbA hS (show ¬ ((1 : Int32) < 0 ∨ 6 ≤ (1 : Int32).toNatClampNeg) by decide) dL_law_977 ?_
  refine lv_topi (fun k5 ek5 => ?_)
  obtain rfl : k5 = xs 1 := ek5.trans (congrArg xs (show (1 : Int32).toNatClampNeg = 1 by decide))
  have hPc := hP.sub (ws' := [(mh0, .inr (12, [me0, .ref mq0, .int 0, me3, me4, me5, me6, me7, .ref mq2, .ref mq3, me10, me11, me12, .int 0, me14, me15, me16, .ref mq1, me18, me19, me20, me21, .int 0, .ref mq4, .ref mq5, .int (-1), .int 0, me27, me28, me29, me30, me31, me32, me33, me34, me35, me36, me37, me38, .int 0, me40, me41, me42, me43, me44, me45, me46, .int 0, me48, me49, me50, me51, me52, .int 0, me54, .int 0]))]) [13] rfl
  have hDc := hD.sub (ws' := [(mh0, .inr (12, [me0, .ref mq0, .int 0, me3, me4, me5, me6, me7, .ref mq2, .ref mq3, me10, me11, me12, .int 0, me14, me15, me16, .ref mq1, me18, me19, me20, me21, .int 0, .ref mq4, .ref mq5, .int (-1), .int 0, me27, me28, me29, me30, me31, me32, me33, me34, me35, me36, me37, me38, .int 0, me40, me41, me42, me43, me44, me45, me46, .int 0, me48, me49, me50, me51, me52, .int 0, me54, .int 0]))]) [13] (by decide) rfl
  refine va_calli (va_runV (As := [.int (xs 1)]) (rest := [.int s_X11_ring]) ⟨hx, hb, hml, hown, hts⟩ (c_X12_ring l dC dI cI cZ H.size mh0 me0 (.ref mq0) (.int 0) me3 me4 me5 me6 me7 (.ref mq2) (.ref mq3) me10 me11 me12 (.int 0) me14 me15 me16 (.ref mq1) me18 me19 me20 me21 (.ref mq4) (.ref mq5) (.int (-1)) (.int 0) me27 me28 me29 me30 me31 me32 me33 me34 me35 me36 me37 me38 (.int 0) me40 me41 me42 me43 me44 me45 me46 (.int 0) me48 me49 me50 me51 me52 (.int 0) me54 (.int 0) (xs 1)) (cwV 1 hts zg_X12_ring rfl rfl rfl (by decide +kernel) ⟨Nat.le_of_ble_eq_true rfl, Nat.le_of_ble_eq_true rfl⟩) (zPreV hPc hK hDc hG (ci := 12) (q0 := 0) rfl rfl) rfl rfl hl.1 rfl (lv_room (Nat.le_of_ble_eq_true rfl)) dL_law_978 ⟨Nat.le_of_ble_eq_true rfl, Nat.le_of_ble_eq_true rfl⟩) hS (fun _ _ h => h.elim) (fun _ h => h.elim) (fun r6 u9 t9 H1 locs ht9 hvm hwr6 hB9 hz1 hk1 hS => ?_)
  replace hP := zKept hP hk1
  try clear hB9 hz1 hk1 hvm ht9 u9 hPc hDc
  generalize H1 = H at hP hS ⊢
  obtain rfl : r6 = s_X12_ring := hwr6
  refine lv_icmp_eq (tgt := 1563) hx hb dL_law_981 (by decide) (fun _ => ?_) (fun c9 => absurd zq_ring c9)
  exact law_end hlt C0 hA hAs hK hG hSt hX9 hS (by decide) (by decide) (lv_sub hl [0, 4] rfl)

set_option maxHeartbeats 4000000 in
set_option maxRecDepth 100000 in
theorem law_23 {p : Program} {l : Launch} {e : Env} {s : State} {m : MethodId} {below : List Frame} {meth : Method} {c : Code} {dC : Nat → ClassId} {dI : Nat → Nat → Nat} {cI cZ : ClassId} {A : Nat → Prop} {b tR sa : Nat} {xs : Nat → Int32} (hlt : l.stackTraces = false) (C0 : lw_At p s m meth c b 6 xs) (hA : ∀ q : Nat, s.heap.size ≤ q → A q) (hAs : ∀ q : Nat, A q → s.heap.size ≤ q) (hK : va_K (dC, dI) vwCl (zT cI cZ) s) (hG : zG s) (hSt : zSt tR A s) (hX9 : vk_R "DreamGuard" 196 zTx sa s ∧ vx_Zq Bundle.tN "UNASSIGNED_STACK" Bundle.steD A s s.heap ∧ vx_Zq Bundle.tN "SUPPRESSED_SENTINEL" Bundle.listD A s s.heap ∧ zF s) (ho : Nat) (h0 : Nat) (a1 : Nat) (a2 : Nat) (a3 : Nat) (a4 : Nat) (a5 : Nat) (a6 : Nat) (a7 : Nat) (a8 : Nat) (a9 : Nat) (a10 : Nat) (a11 : Nat) (a12 : Nat) (a13 : Nat) (a14 : Nat) (d6 : Value) (d7 : Value) (d10 : Value) (d13 : Value) (d14 : Value) (d16 : Value) (d17 : Value) (d19 : Value) (u2 : Value) (u3 : Value) (v1 : Value) (w0 : Value) (w1 : Value) (w2 : Value) (w3 : Value) (x3 : Value) (x4 : Value) (y0 : Value) (y1 : Value) (y2 : Value) (y5 : Value) (y6 : Value) (z0 : Value) (n0 : Value) (n1 : Value) (n2 : Value) (o0 : Value) (o1 : Value) (o2 : Value) (mh0 : Nat) (mq0 : Nat) (mq1 : Nat) (mq2 : Nat) (mq3 : Nat) (mq4 : Nat) (mq5 : Nat) (me0 : Value) (me3 : Value) (me4 : Value) (me5 : Value) (me6 : Value) (me7 : Value) (me10 : Value) (me11 : Value) (me12 : Value) (me14 : Value) (me15 : Value) (me16 : Value) (me18 : Value) (me19 : Value) (me20 : Value) (me21 : Value) (me27 : Value) (me28 : Value) (me29 : Value) (me30 : Value) (me31 : Value) (me32 : Value) (me33 : Value) (me34 : Value) (me35 : Value) (me36 : Value) (me37 : Value) (me38 : Value) (me40 : Value) (me41 : Value) (me42 : Value) (me43 : Value) (me44 : Value) (me45 : Value) (me46 : Value) (me48 : Value) (me49 : Value) (me50 : Value) (me51 : Value) (me52 : Value) (me54 : Value) {H : Heap} {locs : List Loc} {ls : Array Slot} (hP : va_P (dC, dI) vwCl [(h0, .inr (11, [.ref a1, .ref a3, .ref a5, .ref a6, .ref a7, .ref a8, d6, d7, .int 0, .ref a9, d10, .ref a10, .ref a11, d13, d14, .ref a12, d16, d17, .int 0, d19])), (a1, .inr (10, [.ref a2, .int 0, .int 0])), (a2, .inl (cI, 240, .inl (fun _ => 0))), (a3, .inr (2, [.ref a1, .ref a4, u2, u3, .int 0, .int 0])), (a4, .inl (cI, 4, .inl (fun _ => 0))), (a5, .inr (4, [.ref a1, v1, .int 0])), (a6, .inr (3, [w0, w1, w2, w3, .int 0, .int (-1)])), (a7, .inr (1, [.int 0, .int 0, .int 0, x3, x4])), (a8, .inr (8, [y0, y1, y2, .ref a13, .ref a14, y5, y6, .int 0, .int 0, .int 0])), (a9, .inr (0, [z0, .int 0, .int 0])), (a10, .inr (6, [n0, n1, n2, .int 0])), (a11, .inr (6, [o0, o1, o2, .int 0])), (a12, .inl (cI, 5, .inl (fun _ => 0))), (mh0, .inr (12, [me0, .ref mq0, .int 0, me3, me4, me5, me6, me7, .ref mq2, .ref mq3, me10, me11, me12, .int 0, me14, me15, me16, .ref mq1, me18, me19, me20, me21, .int 0, .ref mq4, .ref mq5, .int (-1), .int 0, me27, me28, me29, me30, me31, me32, me33, me34, me35, me36, me37, me38, .int 0, me40, me41, me42, me43, me44, me45, me46, .int 0, me48, me49, me50, me51, me52, .int 0, me54, .int 0])), (mq0, .inl (cI, 240, .inl (fun _ => 0))), (mq1, .inl (cI, 3, .inl (fun _ => 0))), (mq2, .inl (cI, 5, .inl (fun _ => 0))), (mq3, .inl (cI, 5, .inl (fun _ => 0))), (mq4, .inl (cI, 220, .inl (fun _ => 0))), (mq5, .inl (cI, 5, .inl (fun _ => 0)))] H) (hD : va_D A [(h0, .inr (11, [.ref a1, .ref a3, .ref a5, .ref a6, .ref a7, .ref a8, d6, d7, .int 0, .ref a9, d10, .ref a10, .ref a11, d13, d14, .ref a12, d16, d17, .int 0, d19])), (a1, .inr (10, [.ref a2, .int 0, .int 0])), (a2, .inl (cI, 240, .inl (fun _ => 0))), (a3, .inr (2, [.ref a1, .ref a4, u2, u3, .int 0, .int 0])), (a4, .inl (cI, 4, .inl (fun _ => 0))), (a5, .inr (4, [.ref a1, v1, .int 0])), (a6, .inr (3, [w0, w1, w2, w3, .int 0, .int (-1)])), (a7, .inr (1, [.int 0, .int 0, .int 0, x3, x4])), (a8, .inr (8, [y0, y1, y2, .ref a13, .ref a14, y5, y6, .int 0, .int 0, .int 0])), (a9, .inr (0, [z0, .int 0, .int 0])), (a10, .inr (6, [n0, n1, n2, .int 0])), (a11, .inr (6, [o0, o1, o2, .int 0])), (a12, .inl (cI, 5, .inl (fun _ => 0))), (mh0, .inr (12, [me0, .ref mq0, .int 0, me3, me4, me5, me6, me7, .ref mq2, .ref mq3, me10, me11, me12, .int 0, me14, me15, me16, .ref mq1, me18, me19, me20, me21, .int 0, .ref mq4, .ref mq5, .int (-1), .int 0, me27, me28, me29, me30, me31, me32, me33, me34, me35, me36, me37, me38, .int 0, me40, me41, me42, me43, me44, me45, me46, .int 0, me48, me49, me50, me51, me52, .int 0, me54, .int 0])), (mq0, .inl (cI, 240, .inl (fun _ => 0))), (mq1, .inl (cI, 3, .inl (fun _ => 0))), (mq2, .inl (cI, 5, .inl (fun _ => 0))), (mq3, .inl (cI, 5, .inl (fun _ => 0))), (mq4, .inl (cI, 220, .inl (fun _ => 0))), (mq5, .inl (cI, 5, .inl (fun _ => 0)))]) (hS : va_S A s.heap H locs) (hl : lv_has ls 7 [(4, .int 0), (3, .ref ho), (2, .ref mh0), (1, .ref h0), (0, .ref b)]) : W p l e room_1 s m #[Value.ref b] below meth c H locs 442 23958 (lw_Z below #[Value.ref b] s) (F0 m 986 ls []) := by
  obtain ⟨hx, hb, hr, hml, hown0, hts0, hX, hbl, hlocks, hgv⟩ := id C0
  have hown : s.vm.findClass RL = some m.cls := hown0
  have hts := hts0
  have hbA : ¬ A b := fun h => absurd (hAs b h) (Nat.not_le.mpr hbl)
  refine lv_aload_n hx hb dL_law_986 rfl (lv_at hl 3 rfl) ?_
  refine lv_aload_n hx hb dL_law_987 rfl (lv_at hl 4 rfl) ?_
  refine lv_iload hx hb dL_law_988 (lv_at hl 0 rfl) ?_
  refine lv_iconst (v := 1) hx hb dL_law_990 (by decide) ?_
  refine lv_iadd hx hb dL_law_991 ?_
  refine lv_topi (fun k1 ek1 => ?_)
  obtain rfl : k1 = 1 := ek1.trans (by decide)
  refine va_sld (i := 1) hx hb hX hbl hbA hS (show ¬ ((1 : Int32) < 0 ∨ 6 ≤ (1 : Int32).toNatClampNeg) by decide) dL_law_992 ?_
  refine lv_topi (fun k2 ek2 => ?_)
  obtain rfl : k2 = xs 1 := ek2.trans (congrArg xs (show (1 : Int32).toNatClampNeg = 1 by decide))
  refine lv_aload_n hx hb dL_law_993 rfl (lv_at hl 4 rfl) ?_
  refine lv_iload hx hb dL_law_994 (lv_at hl 0 rfl) ?_
  refine lv_iconst (v := 2) hx hb dL_law_996 (by decide) ?_
  refine lv_iadd hx hb dL_law_997 ?_
  refine lv_topi (fun k3 ek3 => ?_)
  obtain rfl : k3 = 2 := ek3.trans (by decide)
  refine va_sld (i := 2) hx hb hX hbl hbA hS (show ¬ ((2 : Int32) < 0 ∨ 6 ≤ (2 : Int32).toNatClampNeg) by decide) dL_law_998 ?_
  refine lv_topi (fun k4 ek4 => ?_)
  obtain rfl : k4 = xs 2 := ek4.trans (congrArg xs (show (2 : Int32).toNatClampNeg = 2 by decide))
  have hPc := hP.sub (ws' := [(h0, .inr (11, [.ref a1, .ref a3, .ref a5, .ref a6, .ref a7, .ref a8, d6, d7, .int 0, .ref a9, d10, .ref a10, .ref a11, d13, d14, .ref a12, d16, d17, .int 0, d19])), (a7, .inr (1, [.int 0, .int 0, .int 0, x3, x4]))]) [0, 7] rfl
  have hDc := hD.sub (ws' := [(h0, .inr (11, [.ref a1, .ref a3, .ref a5, .ref a6, .ref a7, .ref a8, d6, d7, .int 0, .ref a9, d10, .ref a10, .ref a11, d13, d14, .ref a12, d16, d17, .int 0, d19])), (a7, .inr (1, [.int 0, .int 0, .int 0, x3, x4]))]) [0, 7] (by decide) rfl
  refine va_calli (va_runV (As := [.int (xs 1), .int (xs 2)]) (rest := []) ⟨hx, hb, hml, hown, hts⟩ (c_X11_best l dC dI cI cZ H.size h0 a7 (.ref a1) (.ref a3) (.ref a5) (.ref a6) (.ref a8) d6 d7 (.int 0) (.ref a9) d10 (.ref a10) (.ref a11) d13 d14 (.ref a12) d16 d17 (.int 0) d19 (.int 0) x3 x4 (xs 1) (xs 2)) (cwV 2 hts zg_X11_best rfl rfl rfl (by decide +kernel) ⟨Nat.le_of_ble_eq_true rfl, Nat.le_of_ble_eq_true rfl⟩) (zPreV hPc hK hDc hG (ci := 11) (q0 := 0) rfl rfl) rfl rfl hl.1 rfl (lv_room (Nat.le_of_ble_eq_true rfl)) dL_law_999 ⟨Nat.le_of_ble_eq_true rfl, Nat.le_of_ble_eq_true rfl⟩) hS (fun _ _ h => h.elim) (fun _ h => h.elim) (fun r5 u9 t9 H1 locs ht9 hvm hwr5 hB9 hz1 hk1 hS => ?_)
  replace hP := zKept hP hk1
  try clear hB9 hz1 hk1 hvm ht9 u9 hPc hDc
  generalize H1 = H at hP hS ⊢
  obtain rfl : r5 = s_X11_best := hwr5
  refine lv_aload_n hx hb dL_law_1002 rfl (lv_at hl 2 rfl) ?_
  refine lv_aload_n hx hb dL_law_1003 rfl (lv_at hl 4 rfl) ?_
  refine lv_iload hx hb dL_law_1004 (lv_at hl 0 rfl) ?_
  refine lv_iconst (v := 1) hx hb dL_law_1006 (by decide) ?_
  refine lv_iadd hx hb dL_law_1007 ?_
  refine lv_topi (fun k6 ek6 => ?_)
  obtain rfl : k6 = 1 := ek6.trans (by decide)
  refine va_sld (i := 1) hx hb hX hbl hbA hS (show ¬ ((1 : Int32) < 0 ∨ 6 ≤ (1 : Int32).toNatClampNeg) by decide) dL_law_1008 ?_
  refine lv_topi (fun k7 ek7 => ?_)
  obtain rfl : k7 = xs 1 := ek7.trans (congrArg xs (show (1 : Int32).toNatClampNeg = 1 by decide))
  refine lv_aload_n hx hb dL_law_1009 rfl (lv_at hl 4 rfl) ?_
  refine lv_iload hx hb dL_law_1010 (lv_at hl 0 rfl) ?_
  refine lv_iconst (v := 2) hx hb dL_law_1012 (by decide) ?_
  refine lv_iadd hx hb dL_law_1013 ?_
  refine lv_topi (fun k8 ek8 => ?_)
  obtain rfl : k8 = 2 := ek8.trans (by decide)
  refine va_sld (i := 2) hx hb hX hbl hbA hS (show ¬ ((2 : Int32) < 0 ∨ 6 ≤ (2 : Int32).toNatClampNeg) by decide) dL_law_1014 ?_
  refine lv_topi (fun k9 ek9 => ?_)
  obtain rfl : k9 = xs 2 := ek9.trans (congrArg xs (show (2 : Int32).toNatClampNeg = 2 by decide))
  have hPc := hP.sub (ws' := [(mh0, .inr (12, [me0, .ref mq0, .int 0, me3, me4, me5, me6, me7, .ref mq2, .ref mq3, me10, me11, me12, .int 0, me14, me15, me16, .ref mq1, me18, me19, me20, me21, .int 0, .ref mq4, .ref mq5, .int (-1), .int 0, me27, me28, me29, me30, me31, me32, me33, me34, me35, me36, me37, me38, .int 0, me40, me41, me42, me43, me44, me45, me46, .int 0, me48, me49, me50, me51, me52, .int 0, me54, .int 0]))]) [13] rfl
  have hDc := hD.sub (ws' := [(mh0, .inr (12, [me0, .ref mq0, .int 0, me3, me4, me5, me6, me7, .ref mq2, .ref mq3, me10, me11, me12, .int 0, me14, me15, me16, .ref mq1, me18, me19, me20, me21, .int 0, .ref mq4, .ref mq5, .int (-1), .int 0, me27, me28, me29, me30, me31, me32, me33, me34, me35, me36, me37, me38, .int 0, me40, me41, me42, me43, me44, me45, me46, .int 0, me48, me49, me50, me51, me52, .int 0, me54, .int 0]))]) [13] (by decide) rfl
  refine va_calli (va_runV (As := [.int (xs 1), .int (xs 2)]) (rest := [.int s_X11_best]) ⟨hx, hb, hml, hown, hts⟩ (c_X12_best l dC dI cI cZ H.size mh0 me0 (.ref mq0) (.int 0) me3 me4 me5 me6 me7 (.ref mq2) (.ref mq3) me10 me11 me12 (.int 0) me14 me15 me16 (.ref mq1) me18 me19 me20 me21 (.ref mq4) (.ref mq5) (.int (-1)) (.int 0) me27 me28 me29 me30 me31 me32 me33 me34 me35 me36 me37 me38 (.int 0) me40 me41 me42 me43 me44 me45 me46 (.int 0) me48 me49 me50 me51 me52 (.int 0) me54 (.int 0) (xs 1) (xs 2)) (cwV 2 hts zg_X12_best rfl rfl rfl (by decide +kernel) ⟨Nat.le_of_ble_eq_true rfl, Nat.le_of_ble_eq_true rfl⟩) (zPreV hPc hK hDc hG (ci := 12) (q0 := 0) rfl rfl) rfl rfl hl.1 rfl (lv_room (Nat.le_of_ble_eq_true rfl)) dL_law_1015 ⟨Nat.le_of_ble_eq_true rfl, Nat.le_of_ble_eq_true rfl⟩) hS (fun _ _ h => h.elim) (fun _ h => h.elim) (fun r10 u9 t9 H1 locs ht9 hvm hwr10 hB9 hz1 hk1 hS => ?_)
  replace hP := zKept hP hk1
  try clear hB9 hz1 hk1 hvm ht9 u9 hPc hDc
  generalize H1 = H at hP hS ⊢
  obtain rfl : r10 = s_X12_best := hwr10
  refine lv_icmp_eq (tgt := 1563) hx hb dL_law_1018 (by decide) (fun _ => ?_) (fun c9 => absurd zq_best c9)
  exact law_end hlt C0 hA hAs hK hG hSt hX9 hS (by decide) (by decide) (lv_sub hl [0, 4] rfl)
