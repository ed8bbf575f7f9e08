/-! the law's cases -/
set_option maxHeartbeats 4000000 in
theorem lc_20 {p : Program} {l : Launch} {e : Env} {s : State} {m : MethodId} {below : List Frame} {meth : Method} {c : Code} {b L : Nat} {xs : Nat → Int32} {cI cZ cQ cG cJ : ClassId} {dC : Nat → ClassId} {dI : Nat → Nat → Nat} {ad : Nat → Nat} {ho sa : Nat} {h : zH} {H : Heap} {locs : List Loc} {cells slots i : Nat} {Q : State → Prop} {ls : Array Slot} (C0 : lw_At p s m meth c b L xs) (X : lwK l cI cZ cQ cG cJ dC dI ad ho sa s) (hI : lwI cI cZ cQ cG cJ dC dI ad ho s h H locs) (hsn : r0 h) (lw_c : cells + 10 ≤ 601024) (lw_s : slots + 100 ≤ 7293034) (hi : ∀ k : Nat, k ≤ 5 → vp_in (nI i + Int32.ofNat k) L) (hl : lv_has ls 7 [(4, .int (nI i)), (3, .ref ho), (2, .ref (ad 440)), (1, .ref (ad 406)), (0, .ref b)]) (kk : ∀ (h : zH) (H : Heap) (locs : List Loc) (ls : Array Slot), lwI cI cZ cQ cG cJ dC dI ad ho s h H locs → r0 h → lv_has ls 7 [(4, .int (nI i)), (3, .ref ho), (2, .ref (ad 440)), (1, .ref (ad 406)), (0, .ref b)] → W p l e room_1 s m #[Value.ref b] below meth c H locs (cells + 10) (slots + 100) Q (F0 m 1535 ls [])) : W p l e room_1 s m #[Value.ref b] below meth c H locs cells slots Q (F0 m 883 ls []) := by
  obtain ⟨hx, hb, hr, hml, hown0, hts0, hX, hbl, hlocks, hgv⟩ := id C0
  have hown : s.vm.findClass RL = some m.cls := hown0
  have hbA : ¬ (s.heap.size ≤ b) := Nat.not_le.mpr hbl
  refine lv_aload_n hx hb dL_law_883 rfl (lv_at hl 3 rfl) ?_
  refine lv_aload_n hx hb dL_law_884 rfl (lv_at hl 4 rfl) ?_
  refine lv_iload hx hb dL_law_885 (lv_at hl 0 rfl) ?_
  refine lv_iconst (v := 1) hx hb dL_law_887 (by decide) ?_
  refine lv_iadd hx hb dL_law_888 ?_
  refine va_sld (i := nI i + 1) hx hb hX hbl hbA hI.2.2.1 (hi 1 (by decide)) dL_law_889 ?_
  refine lw_pubz C0 X hI hsn (by omega) (by omega) (as := [.inl (xs (nI i + 1).toNatClampNeg)]) (na := 2) (kc := 11) (rest := []) (zP_X11_night hI.2.1 (xs (nI i + 1).toNatClampNeg)) (by decide +kernel) (by decide) (yWat_in (i := 800) (by decide +kernel)) rfl rfl (Nat.le_of_ble_eq_true rfl) dL_law_890 rfl (Nat.le_of_ble_eq_true rfl) hl.1 (fun x9 h H locs hI hsn => ?_)
  refine lv_pop hx hb dL_law_893 rfl ?_
  refine lv_aload_n hx hb dL_law_894 rfl (lv_at hl 2 rfl) ?_
  refine lv_aload_n hx hb dL_law_895 rfl (lv_at hl 4 rfl) ?_
  refine lv_iload hx hb dL_law_896 (lv_at hl 0 rfl) ?_
  refine lv_iconst (v := 1) hx hb dL_law_898 (by decide) ?_
  refine lv_iadd hx hb dL_law_899 ?_
  refine va_sld (i := nI i + 1) hx hb hX hbl hbA hI.2.2.1 (hi 1 (by decide)) dL_law_900 ?_
  refine lw_pubz C0 X hI hsn (by omega) (by omega) (as := [.inl (xs (nI i + 1).toNatClampNeg)]) (na := 2) (kc := 12) (rest := []) (zP_X12_night hI.2.1 (xs (nI i + 1).toNatClampNeg)) (by decide +kernel) (by decide) (yWat_in (i := 1399) (by decide +kernel)) rfl rfl (Nat.le_of_ble_eq_true rfl) dL_law_901 rfl (Nat.le_of_ble_eq_true rfl) hl.1 (fun x9 h H locs hI hsn => ?_)
  refine lv_pop hx hb dL_law_904 rfl ?_
  refine lv_goto (tgt := 1535) hx hb dL_law_905 (by decide) ?_
  exact W.widen (k := cells + 10) (n := slots + 100) (by omega) (by omega) (kk _ _ _ _ hI hsn hl)
set_option maxHeartbeats 4000000 in
theorem lc_21 {p : Program} {l : Launch} {e : Env} {s : State} {m : MethodId} {below : List Frame} {meth : Method} {c : Code} {b L : Nat} {xs : Nat → Int32} {cI cZ cQ cG cJ : ClassId} {dC : Nat → ClassId} {dI : Nat → Nat → Nat} {ad : Nat → Nat} {ho sa : Nat} {h : zH} {H : Heap} {locs : List Loc} {cells slots i : Nat} {Q : State → Prop} {ls : Array Slot} (C0 : lw_At p s m meth c b L xs) (X : lwK l cI cZ cQ cG cJ dC dI ad ho sa s) (hI : lwI cI cZ cQ cG cJ dC dI ad ho s h H locs) (hsn : r0 h) (lw_c : cells + 10 ≤ 601024) (lw_s : slots + 100 ≤ 7293034) (hi : ∀ k : Nat, k ≤ 5 → vp_in (nI i + Int32.ofNat k) L) (hl : lv_has ls 7 [(4, .int (nI i)), (3, .ref ho), (2, .ref (ad 440)), (1, .ref (ad 406)), (0, .ref b)]) (kk : ∀ (h : zH) (H : Heap) (locs : List Loc) (ls : Array Slot), lwI cI cZ cQ cG cJ dC dI ad ho s h H locs → r0 h → lv_has ls 7 [(4, .int (nI i)), (3, .ref ho), (2, .ref (ad 440)), (1, .ref (ad 406)), (0, .ref b)] → W p l e room_1 s m #[Value.ref b] below meth c H locs (cells + 10) (slots + 100) Q (F0 m 1535 ls [])) : W p l e room_1 s m #[Value.ref b] below meth c H locs cells slots Q (F0 m 908 ls []) := by
  obtain ⟨hx, hb, hr, hml, hown0, hts0, hX, hbl, hlocks, hgv⟩ := id C0
  have hown : s.vm.findClass RL = some m.cls := hown0
  have hbA : ¬ (s.heap.size ≤ b) := Nat.not_le.mpr hbl
  refine lv_aload_n hx hb dL_law_908 rfl (lv_at hl 3 rfl) ?_
  refine lv_aload_n hx hb dL_law_909 rfl (lv_at hl 4 rfl) ?_
  refine lv_iload hx hb dL_law_910 (lv_at hl 0 rfl) ?_
  refine lv_iconst (v := 1) hx hb dL_law_912 (by decide) ?_
  refine lv_iadd hx hb dL_law_913 ?_
  refine va_sld (i := nI i + 1) hx hb hX hbl hbA hI.2.2.1 (hi 1 (by decide)) dL_law_914 ?_
  refine lw_pubz C0 X hI hsn (by omega) (by omega) (as := [.inl (xs (nI i + 1).toNatClampNeg)]) (na := 2) (kc := 11) (rest := []) (zP_X11_stagger hI.2.1 (xs (nI i + 1).toNatClampNeg)) (by decide +kernel) (by decide) (yWat_in (i := 834) (by decide +kernel)) rfl rfl (Nat.le_of_ble_eq_true rfl) dL_law_915 rfl (Nat.le_of_ble_eq_true rfl) hl.1 (fun x9 h H locs hI hsn => ?_)
  refine lv_pop hx hb dL_law_918 rfl ?_
  refine lv_aload_n hx hb dL_law_919 rfl (lv_at hl 2 rfl) ?_
  refine lv_aload_n hx hb dL_law_920 rfl (lv_at hl 4 rfl) ?_
  refine lv_iload hx hb dL_law_921 (lv_at hl 0 rfl) ?_
  refine lv_iconst (v := 1) hx hb dL_law_923 (by decide) ?_
  refine lv_iadd hx hb dL_law_924 ?_
  refine va_sld (i := nI i + 1) hx hb hX hbl hbA hI.2.2.1 (hi 1 (by decide)) dL_law_925 ?_
  refine lw_pubz C0 X hI hsn (by omega) (by omega) (as := [.inl (xs (nI i + 1).toNatClampNeg)]) (na := 2) (kc := 12) (rest := []) (zP_X12_stagger hI.2.1 (xs (nI i + 1).toNatClampNeg)) (by decide +kernel) (by decide) (yWat_in (i := 1407) (by decide +kernel)) rfl rfl (Nat.le_of_ble_eq_true rfl) dL_law_926 rfl (Nat.le_of_ble_eq_true rfl) hl.1 (fun x9 h H locs hI hsn => ?_)
  refine lv_pop hx hb dL_law_929 rfl ?_
  refine lv_goto (tgt := 1535) hx hb dL_law_930 (by decide) ?_
  exact W.widen (k := cells + 10) (n := slots + 100) (by omega) (by omega) (kk _ _ _ _ hI hsn hl)
set_option maxHeartbeats 4000000 in
theorem lc_22 {p : Program} {l : Launch} {e : Env} {s : State} {m : MethodId} {below : List Frame} {meth : Method} {c : Code} {b L : Nat} {xs : Nat → Int32} {cI cZ cQ cG cJ : ClassId} {dC : Nat → ClassId} {dI : Nat → Nat → Nat} {ad : Nat → Nat} {ho sa : Nat} {h : zH} {H : Heap} {locs : List Loc} {cells slots i : Nat} {Q : State → Prop} {ls : Array Slot} (C0 : lw_At p s m meth c b L xs) (X : lwK l cI cZ cQ cG cJ dC dI ad ho sa s) (hI : lwI cI cZ cQ cG cJ dC dI ad ho s h H locs) (hsn : r0 h) (lw_c : cells + 10 ≤ 601024) (lw_s : slots + 100 ≤ 7293034) (hi : ∀ k : Nat, k ≤ 5 → vp_in (nI i + Int32.ofNat k) L) (hl : lv_has ls 7 [(4, .int (nI i)), (3, .ref ho), (2, .ref (ad 440)), (1, .ref (ad 406)), (0, .ref b)]) (kk : ∀ (h : zH) (H : Heap) (locs : List Loc) (ls : Array Slot), lwI cI cZ cQ cG cJ dC dI ad ho s h H locs → r0 h → lv_has ls 7 [(4, .int (nI i)), (3, .ref ho), (2, .ref (ad 440)), (1, .ref (ad 406)), (0, .ref b)] → W p l e room_1 s m #[Value.ref b] below meth c H locs (cells + 10) (slots + 100) Q (F0 m 1535 ls [])) : W p l e room_1 s m #[Value.ref b] below meth c H locs cells slots Q (F0 m 933 ls []) := by
  obtain ⟨hx, hb, hr, hml, hown0, hts0, hX, hbl, hlocks, hgv⟩ := id C0
  have hown : s.vm.findClass RL = some m.cls := hown0
  have hbA : ¬ (s.heap.size ≤ b) := Nat.not_le.mpr hbl
  refine lv_aload_n hx hb dL_law_933 rfl (lv_at hl 3 rfl) ?_
  refine lv_aload_n hx hb dL_law_934 rfl (lv_at hl 4 rfl) ?_
  refine lv_iload hx hb dL_law_935 (lv_at hl 0 rfl) ?_
  refine lv_iconst (v := 1) hx hb dL_law_937 (by decide) ?_
  refine lv_iadd hx hb dL_law_938 ?_
  refine va_sld (i := nI i + 1) hx hb hX hbl hbA hI.2.2.1 (hi 1 (by decide)) dL_law_939 ?_
  refine lw_pubz C0 X hI hsn (by omega) (by omega) (as := [.inl (xs (nI i + 1).toNatClampNeg)]) (na := 2) (kc := 11) (rest := []) (zP_X11_ring hI.2.1 (xs (nI i + 1).toNatClampNeg)) (by decide +kernel) (by decide) (yWat_in (i := 872) (by decide +kernel)) rfl rfl (Nat.le_of_ble_eq_true rfl) dL_law_940 rfl (Nat.le_of_ble_eq_true rfl) hl.1 (fun x9 h H locs hI hsn => ?_)
  refine lv_pop hx hb dL_law_943 rfl ?_
  refine lv_aload_n hx hb dL_law_944 rfl (lv_at hl 2 rfl) ?_
  refine lv_aload_n hx hb dL_law_945 rfl (lv_at hl 4 rfl) ?_
  refine lv_iload hx hb dL_law_946 (lv_at hl 0 rfl) ?_
  refine lv_iconst (v := 1) hx hb dL_law_948 (by decide) ?_
  refine lv_iadd hx hb dL_law_949 ?_
  refine va_sld (i := nI i + 1) hx hb hX hbl hbA hI.2.2.1 (hi 1 (by decide)) dL_law_950 ?_
  refine lw_pubz C0 X hI hsn (by omega) (by omega) (as := [.inl (xs (nI i + 1).toNatClampNeg)]) (na := 2) (kc := 12) (rest := []) (zP_X12_ring hI.2.1 (xs (nI i + 1).toNatClampNeg)) (by decide +kernel) (by decide) (yWat_in (i := 1423) (by decide +kernel)) rfl rfl (Nat.le_of_ble_eq_true rfl) dL_law_951 rfl (Nat.le_of_ble_eq_true rfl) hl.1 (fun x9 h H locs hI hsn => ?_)
  refine lv_pop hx hb dL_law_954 rfl ?_
  refine lv_goto (tgt := 1535) hx hb dL_law_955 (by decide) ?_
  exact W.widen (k := cells + 10) (n := slots + 100) (by omega) (by omega) (kk _ _ _ _ hI hsn hl)
set_option maxHeartbeats 4000000 in
theorem lc_23 {p : Program} {l : Launch} {e : Env} {s : State} {m : MethodId} {below : List Frame} {meth : Method} {c : Code} {b L : Nat} {xs : Nat → Int32} {cI cZ cQ cG cJ : ClassId} {dC : Nat → ClassId} {dI : Nat → Nat → Nat} {ad : Nat → Nat} {ho sa : Nat} {h : zH} {H : Heap} {locs : List Loc} {cells slots i : Nat} {Q : State → Prop} {ls : Array Slot} (C0 : lw_At p s m meth c b L xs) (X : lwK l cI cZ cQ cG cJ dC dI ad ho sa s) (hI : lwI cI cZ cQ cG cJ dC dI ad ho s h H locs) (hsn : r0 h) (lw_c : cells + 10 ≤ 601024) (lw_s : slots + 100 ≤ 7293034) (hi : ∀ k : Nat, k ≤ 5 → vp_in (nI i + Int32.ofNat k) L) (hl : lv_has ls 7 [(4, .int (nI i)), (3, .ref ho), (2, .ref (ad 440)), (1, .ref (ad 406)), (0, .ref b)]) (kk : ∀ (h : zH) (H : Heap) (locs : List Loc) (ls : Array Slot), lwI cI cZ cQ cG cJ dC dI ad ho s h H locs → r0 h → lv_has ls 7 [(4, .int (nI i)), (3, .ref ho), (2, .ref (ad 440)), (1, .ref (ad 406)), (0, .ref b)] → W p l e room_1 s m #[Value.ref b] below meth c H locs (cells + 10) (slots + 100) Q (F0 m 1535 ls [])) : W p l e room_1 s m #[Value.ref b] below meth c H locs cells slots Q (F0 m 958 ls []) := by
  obtain ⟨hx, hb, hr, hml, hown0, hts0, hX, hbl, hlocks, hgv⟩ := id C0
  have hown : s.vm.findClass RL = some m.cls := hown0
  have hbA : ¬ (s.heap.size ≤ b) := Nat.not_le.mpr hbl
  refine lv_aload_n hx hb dL_law_958 rfl (lv_at hl 3 rfl) ?_
  refine lv_aload_n hx hb dL_law_959 rfl (lv_at hl 4 rfl) ?_
  refine lv_iload hx hb dL_law_960 (lv_at hl 0 rfl) ?_
  refine lv_iconst (v := 1) hx hb dL_law_962 (by decide) ?_
  refine lv_iadd hx hb dL_law_963 ?_
  refine va_sld (i := nI i + 1) hx hb hX hbl hbA hI.2.2.1 (hi 1 (by decide)) dL_law_964 ?_
  refine lv_aload_n hx hb dL_law_965 rfl (lv_at hl 4 rfl) ?_
  refine lv_iload hx hb dL_law_966 (lv_at hl 0 rfl) ?_
  refine lv_iconst (v := 2) hx hb dL_law_968 (by decide) ?_
  refine lv_iadd hx hb dL_law_969 ?_
  refine va_sld (i := nI i + 2) hx hb hX hbl hbA hI.2.2.1 (hi 2 (by decide)) dL_law_970 ?_
  refine lw_pubz C0 X hI hsn (by omega) (by omega) (as := [.inl (xs (nI i + 1).toNatClampNeg), .inl (xs (nI i + 2).toNatClampNeg)]) (na := 3) (kc := 11) (rest := []) (zP_X11_best hI.2.1 (xs (nI i + 1).toNatClampNeg) (xs (nI i + 2).toNatClampNeg)) (by decide +kernel) (by decide) (yWat_in (i := 891) (by decide +kernel)) rfl rfl (Nat.le_of_ble_eq_true rfl) dL_law_971 rfl (Nat.le_of_ble_eq_true rfl) hl.1 (fun x9 h H locs hI hsn => ?_)
  refine lv_pop hx hb dL_law_974 rfl ?_
  refine lv_aload_n hx hb dL_law_975 rfl (lv_at hl 2 rfl) ?_
  refine lv_aload_n hx hb dL_law_976 rfl (lv_at hl 4 rfl) ?_
  refine lv_iload hx hb dL_law_977 (lv_at hl 0 rfl) ?_
  refine lv_iconst (v := 1) hx hb dL_law_979 (by decide) ?_
  refine lv_iadd hx hb dL_law_980 ?_
  refine va_sld (i := nI i + 1) hx hb hX hbl hbA hI.2.2.1 (hi 1 (by decide)) dL_law_981 ?_
  refine lv_aload_n hx hb dL_law_982 rfl (lv_at hl 4 rfl) ?_
  refine lv_iload hx hb dL_law_983 (lv_at hl 0 rfl) ?_
  refine lv_iconst (v := 2) hx hb dL_law_985 (by decide) ?_
  refine lv_iadd hx hb dL_law_986 ?_
  refine va_sld (i := nI i + 2) hx hb hX hbl hbA hI.2.2.1 (hi 2 (by decide)) dL_law_987 ?_
  refine lw_pubz C0 X hI hsn (by omega) (by omega) (as := [.inl (xs (nI i + 1).toNatClampNeg), .inl (xs (nI i + 2).toNatClampNeg)]) (na := 3) (kc := 12) (rest := []) (zP_X12_best hI.2.1 (xs (nI i + 1).toNatClampNeg) (xs (nI i + 2).toNatClampNeg)) (by decide +kernel) (by decide) (yWat_in (i := 1433) (by decide +kernel)) rfl rfl (Nat.le_of_ble_eq_true rfl) dL_law_988 rfl (Nat.le_of_ble_eq_true rfl) hl.1 (fun x9 h H locs hI hsn => ?_)
  refine lv_pop hx hb dL_law_991 rfl ?_
  refine lv_goto (tgt := 1535) hx hb dL_law_992 (by decide) ?_
  exact W.widen (k := cells + 10) (n := slots + 100) (by omega) (by omega) (kk _ _ _ _ hI hsn hl)
set_option maxHeartbeats 4000000 in
theorem lc_24 {p : Program} {l : Launch} {e : Env} {s : State} {m : MethodId} {below : List Frame} {meth : Method} {c : Code} {b L : Nat} {xs : Nat → Int32} {cI cZ cQ cG cJ : ClassId} {dC : Nat → ClassId} {dI : Nat → Nat → Nat} {ad : Nat → Nat} {ho sa : Nat} {h : zH} {H : Heap} {locs : List Loc} {cells slots i : Nat} {Q : State → Prop} {ls : Array Slot} (C0 : lw_At p s m meth c b L xs) (X : lwK l cI cZ cQ cG cJ dC dI ad ho sa s) (hI : lwI cI cZ cQ cG cJ dC dI ad ho s h H locs) (hsn : r0 h) (lw_c : cells + 10 ≤ 601024) (lw_s : slots + 100 ≤ 7293034) (hi : ∀ k : Nat, k ≤ 5 → vp_in (nI i + Int32.ofNat k) L) (hl : lv_has ls 7 [(4, .int (nI i)), (3, .ref ho), (2, .ref (ad 440)), (1, .ref (ad 406)), (0, .ref b)]) (kk : ∀ (h : zH) (H : Heap) (locs : List Loc) (ls : Array Slot), lwI cI cZ cQ cG cJ dC dI ad ho s h H locs → r0 h → lv_has ls 7 [(4, .int (nI i)), (3, .ref ho), (2, .ref (ad 440)), (1, .ref (ad 406)), (0, .ref b)] → W p l e room_1 s m #[Value.ref b] below meth c H locs (cells + 10) (slots + 100) Q (F0 m 1535 ls [])) : W p l e room_1 s m #[Value.ref b] below meth c H locs cells slots Q (F0 m 995 ls []) := by
  obtain ⟨hx, hb, hr, hml, hown0, hts0, hX, hbl, hlocks, hgv⟩ := id C0
  have hown : s.vm.findClass RL = some m.cls := hown0
  have hbA : ¬ (s.heap.size ≤ b) := Nat.not_le.mpr hbl
  refine lv_aload_n hx hb dL_law_995 rfl (lv_at hl 3 rfl) ?_
  refine lv_aload_n hx hb dL_law_996 rfl (lv_at hl 4 rfl) ?_
  refine lv_iload hx hb dL_law_997 (lv_at hl 0 rfl) ?_
  refine lv_iconst (v := 1) hx hb dL_law_999 (by decide) ?_
  refine lv_iadd hx hb dL_law_1000 ?_
  refine va_sld (i := nI i + 1) hx hb hX hbl hbA hI.2.2.1 (hi 1 (by decide)) dL_law_1001 ?_
  refine lv_aload_n hx hb dL_law_1002 rfl (lv_at hl 4 rfl) ?_
  refine lv_iload hx hb dL_law_1003 (lv_at hl 0 rfl) ?_
  refine lv_iconst (v := 2) hx hb dL_law_1005 (by decide) ?_
  refine lv_iadd hx hb dL_law_1006 ?_
  refine va_sld (i := nI i + 2) hx hb hX hbl hbA hI.2.2.1 (hi 2 (by decide)) dL_law_1007 ?_
  refine lv_aload_n hx hb dL_law_1008 rfl (lv_at hl 4 rfl) ?_
  refine lv_iload hx hb dL_law_1009 (lv_at hl 0 rfl) ?_
  refine lv_iconst (v := 3) hx hb dL_law_1011 (by decide) ?_
  refine lv_iadd hx hb dL_law_1012 ?_
  refine va_sld (i := nI i + 3) hx hb hX hbl hbA hI.2.2.1 (hi 3 (by decide)) dL_law_1013 ?_
  refine lv_if_eq (tgt := 1021) hx hb dL_law_1014 (by decide) (fun _ => ?_) (fun _ => ?_)
  · skip
    refine lv_iconst (v := 0) hx hb dL_law_1021 (by decide) ?_
    refine lw_pubz C0 X hI hsn (by omega) (by omega) (as := [.inl (xs (nI i + 1).toNatClampNeg), .inl (xs (nI i + 2).toNatClampNeg), .inl 0]) (na := 4) (kc := 11) (rest := []) (zP_X11_seen hI.2.1 (xs (nI i + 1).toNatClampNeg) (xs (nI i + 2).toNatClampNeg) 0 (by decide)) (by decide +kernel) (by decide) (yWat_in (i := 895) (by decide +kernel)) rfl rfl (Nat.le_of_ble_eq_true rfl) dL_law_1022 rfl (Nat.le_of_ble_eq_true rfl) hl.1 (fun x9 h H locs hI hsn => ?_)
    refine lv_pop hx hb dL_law_1025 rfl ?_
    refine lv_aload_n hx hb dL_law_1026 rfl (lv_at hl 2 rfl) ?_
    refine lv_aload_n hx hb dL_law_1027 rfl (lv_at hl 4 rfl) ?_
    refine lv_iload hx hb dL_law_1028 (lv_at hl 0 rfl) ?_
    refine lv_iconst (v := 1) hx hb dL_law_1030 (by decide) ?_
    refine lv_iadd hx hb dL_law_1031 ?_
    refine va_sld (i := nI i + 1) hx hb hX hbl hbA hI.2.2.1 (hi 1 (by decide)) dL_law_1032 ?_
    refine lv_aload_n hx hb dL_law_1033 rfl (lv_at hl 4 rfl) ?_
    refine lv_iload hx hb dL_law_1034 (lv_at hl 0 rfl) ?_
    refine lv_iconst (v := 2) hx hb dL_law_1036 (by decide) ?_
    refine lv_iadd hx hb dL_law_1037 ?_
    refine va_sld (i := nI i + 2) hx hb hX hbl hbA hI.2.2.1 (hi 2 (by decide)) dL_law_1038 ?_
    refine lv_aload_n hx hb dL_law_1039 rfl (lv_at hl 4 rfl) ?_
    refine lv_iload hx hb dL_law_1040 (lv_at hl 0 rfl) ?_
    refine lv_iconst (v := 3) hx hb dL_law_1042 (by decide) ?_
    refine lv_iadd hx hb dL_law_1043 ?_
    refine va_sld (i := nI i + 3) hx hb hX hbl hbA hI.2.2.1 (hi 3 (by decide)) dL_law_1044 ?_
    refine lv_if_eq (tgt := 1052) hx hb dL_law_1045 (by decide) (fun _ => ?_) (fun _ => ?_)
    · skip
      refine lv_iconst (v := 0) hx hb dL_law_1052 (by decide) ?_
      refine lw_pubz C0 X hI hsn (by omega) (by omega) (as := [.inl (xs (nI i + 1).toNatClampNeg), .inl (xs (nI i + 2).toNatClampNeg), .inl 0]) (na := 4) (kc := 12) (rest := []) (zP_X12_seen hI.2.1 (xs (nI i + 1).toNatClampNeg) (xs (nI i + 2).toNatClampNeg) 0 (by decide)) (by decide +kernel) (by decide) (yWat_in (i := 1437) (by decide +kernel)) rfl rfl (Nat.le_of_ble_eq_true rfl) dL_law_1053 rfl (Nat.le_of_ble_eq_true rfl) hl.1 (fun x9 h H locs hI hsn => ?_)
      refine lv_pop hx hb dL_law_1056 rfl ?_
      refine lv_goto (tgt := 1535) hx hb dL_law_1057 (by decide) ?_
      exact W.widen (k := cells + 10) (n := slots + 100) (by omega) (by omega) (kk _ _ _ _ hI hsn hl)
    · skip
      refine lv_iconst (v := 1) hx hb dL_law_1048 (by decide) ?_
      refine lv_goto (tgt := 1053) hx hb dL_law_1049 (by decide) ?_
      refine lw_pubz C0 X hI hsn (by omega) (by omega) (as := [.inl (xs (nI i + 1).toNatClampNeg), .inl (xs (nI i + 2).toNatClampNeg), .inl 1]) (na := 4) (kc := 12) (rest := []) (zP_X12_seen hI.2.1 (xs (nI i + 1).toNatClampNeg) (xs (nI i + 2).toNatClampNeg) 1 (by decide)) (by decide +kernel) (by decide) (yWat_in (i := 1437) (by decide +kernel)) rfl rfl (Nat.le_of_ble_eq_true rfl) dL_law_1053 rfl (Nat.le_of_ble_eq_true rfl) hl.1 (fun x9 h H locs hI hsn => ?_)
      refine lv_pop hx hb dL_law_1056 rfl ?_
      refine lv_goto (tgt := 1535) hx hb dL_law_1057 (by decide) ?_
      exact W.widen (k := cells + 10) (n := slots + 100) (by omega) (by omega) (kk _ _ _ _ hI hsn hl)
  · skip
    refine lv_iconst (v := 1) hx hb dL_law_1017 (by decide) ?_
    refine lv_goto (tgt := 1022) hx hb dL_law_1018 (by decide) ?_
    refine lw_pubz C0 X hI hsn (by omega) (by omega) (as := [.inl (xs (nI i + 1).toNatClampNeg), .inl (xs (nI i + 2).toNatClampNeg), .inl 1]) (na := 4) (kc := 11) (rest := []) (zP_X11_seen hI.2.1 (xs (nI i + 1).toNatClampNeg) (xs (nI i + 2).toNatClampNeg) 1 (by decide)) (by decide +kernel) (by decide) (yWat_in (i := 895) (by decide +kernel)) rfl rfl (Nat.le_of_ble_eq_true rfl) dL_law_1022 rfl (Nat.le_of_ble_eq_true rfl) hl.1 (fun x9 h H locs hI hsn => ?_)
    refine lv_pop hx hb dL_law_1025 rfl ?_
    refine lv_aload_n hx hb dL_law_1026 rfl (lv_at hl 2 rfl) ?_
    refine lv_aload_n hx hb dL_law_1027 rfl (lv_at hl 4 rfl) ?_
    refine lv_iload hx hb dL_law_1028 (lv_at hl 0 rfl) ?_
    refine lv_iconst (v := 1) hx hb dL_law_1030 (by decide) ?_
    refine lv_iadd hx hb dL_law_1031 ?_
    refine va_sld (i := nI i + 1) hx hb hX hbl hbA hI.2.2.1 (hi 1 (by decide)) dL_law_1032 ?_
    refine lv_aload_n hx hb dL_law_1033 rfl (lv_at hl 4 rfl) ?_
    refine lv_iload hx hb dL_law_1034 (lv_at hl 0 rfl) ?_
    refine lv_iconst (v := 2) hx hb dL_law_1036 (by decide) ?_
    refine lv_iadd hx hb dL_law_1037 ?_
    refine va_sld (i := nI i + 2) hx hb hX hbl hbA hI.2.2.1 (hi 2 (by decide)) dL_law_1038 ?_
    refine lv_aload_n hx hb dL_law_1039 rfl (lv_at hl 4 rfl) ?_
    refine lv_iload hx hb dL_law_1040 (lv_at hl 0 rfl) ?_
    refine lv_iconst (v := 3) hx hb dL_law_1042 (by decide) ?_
    refine lv_iadd hx hb dL_law_1043 ?_
    refine va_sld (i := nI i + 3) hx hb hX hbl hbA hI.2.2.1 (hi 3 (by decide)) dL_law_1044 ?_
    refine lv_if_eq (tgt := 1052) hx hb dL_law_1045 (by decide) (fun _ => ?_) (fun _ => ?_)
    · skip
      refine lv_iconst (v := 0) hx hb dL_law_1052 (by decide) ?_
      refine lw_pubz C0 X hI hsn (by omega) (by omega) (as := [.inl (xs (nI i + 1).toNatClampNeg), .inl (xs (nI i + 2).toNatClampNeg), .inl 0]) (na := 4) (kc := 12) (rest := []) (zP_X12_seen hI.2.1 (xs (nI i + 1).toNatClampNeg) (xs (nI i + 2).toNatClampNeg) 0 (by decide)) (by decide +kernel) (by decide) (yWat_in (i := 1437) (by decide +kernel)) rfl rfl (Nat.le_of_ble_eq_true rfl) dL_law_1053 rfl (Nat.le_of_ble_eq_true rfl) hl.1 (fun x9 h H locs hI hsn => ?_)
      refine lv_pop hx hb dL_law_1056 rfl ?_
      refine lv_goto (tgt := 1535) hx hb dL_law_1057 (by decide) ?_
      exact W.widen (k := cells + 10) (n := slots + 100) (by omega) (by omega) (kk _ _ _ _ hI hsn hl)
    · skip
      refine lv_iconst (v := 1) hx hb dL_law_1048 (by decide) ?_
      refine lv_goto (tgt := 1053) hx hb dL_law_1049 (by decide) ?_
      refine lw_pubz C0 X hI hsn (by omega) (by omega) (as := [.inl (xs (nI i + 1).toNatClampNeg), .inl (xs (nI i + 2).toNatClampNeg), .inl 1]) (na := 4) (kc := 12) (rest := []) (zP_X12_seen hI.2.1 (xs (nI i + 1).toNatClampNeg) (xs (nI i + 2).toNatClampNeg) 1 (by decide)) (by decide +kernel) (by decide) (yWat_in (i := 1437) (by decide +kernel)) rfl rfl (Nat.le_of_ble_eq_true rfl) dL_law_1053 rfl (Nat.le_of_ble_eq_true rfl) hl.1 (fun x9 h H locs hI hsn => ?_)
      refine lv_pop hx hb dL_law_1056 rfl ?_
      refine lv_goto (tgt := 1535) hx hb dL_law_1057 (by decide) ?_
      exact W.widen (k := cells + 10) (n := slots + 100) (by omega) (by omega) (kk _ _ _ _ hI hsn hl)
set_option maxHeartbeats 4000000 in
theorem lc_25 {p : Program} {l : Launch} {e : Env} {s : State} {m : MethodId} {below : List Frame} {meth : Method} {c : Code} {b L : Nat} {xs : Nat → Int32} {cI cZ cQ cG cJ : ClassId} {dC : Nat → ClassId} {dI : Nat → Nat → Nat} {ad : Nat → Nat} {ho sa : Nat} {h : zH} {H : Heap} {locs : List Loc} {cells slots i : Nat} {Q : State → Prop} {ls : Array Slot} (C0 : lw_At p s m meth c b L xs) (X : lwK l cI cZ cQ cG cJ dC dI ad ho sa s) (hI : lwI cI cZ cQ cG cJ dC dI ad ho s h H locs) (hsn : r0 h) (lw_c : cells + 10 ≤ 601024) (lw_s : slots + 100 ≤ 7293034) (hi : ∀ k : Nat, k ≤ 5 → vp_in (nI i + Int32.ofNat k) L) (hl : lv_has ls 7 [(4, .int (nI i)), (3, .ref ho), (2, .ref (ad 440)), (1, .ref (ad 406)), (0, .ref b)]) (kk : ∀ (h : zH) (H : Heap) (locs : List Loc) (ls : Array Slot), lwI cI cZ cQ cG cJ dC dI ad ho s h H locs → r0 h → lv_has ls 7 [(4, .int (nI i)), (3, .ref ho), (2, .ref (ad 440)), (1, .ref (ad 406)), (0, .ref b)] → W p l e room_1 s m #[Value.ref b] below meth c H locs (cells + 10) (slots + 100) Q (F0 m 1535 ls [])) : W p l e room_1 s m #[Value.ref b] below meth c H locs cells slots Q (F0 m 1060 ls []) := by
  obtain ⟨hx, hb, hr, hml, hown0, hts0, hX, hbl, hlocks, hgv⟩ := id C0
  have hown : s.vm.findClass RL = some m.cls := hown0
  have hbA : ¬ (s.heap.size ≤ b) := Nat.not_le.mpr hbl
  refine lv_aload_n hx hb dL_law_1060 rfl (lv_at hl 3 rfl) ?_
  refine lv_aload_n hx hb dL_law_1061 rfl (lv_at hl 4 rfl) ?_
  refine lv_iload hx hb dL_law_1062 (lv_at hl 0 rfl) ?_
  refine lv_iconst (v := 1) hx hb dL_law_1064 (by decide) ?_
  refine lv_iadd hx hb dL_law_1065 ?_
  refine va_sld (i := nI i + 1) hx hb hX hbl hbA hI.2.2.1 (hi 1 (by decide)) dL_law_1066 ?_
  refine lv_aload_n hx hb dL_law_1067 rfl (lv_at hl 4 rfl) ?_
  refine lv_iload hx hb dL_law_1068 (lv_at hl 0 rfl) ?_
  refine lv_iconst (v := 2) hx hb dL_law_1070 (by decide) ?_
  refine lv_iadd hx hb dL_law_1071 ?_
  refine va_sld (i := nI i + 2) hx hb hX hbl hbA hI.2.2.1 (hi 2 (by decide)) dL_law_1072 ?_
  refine lw_pubz C0 X hI hsn (by omega) (by omega) (as := [.inl (xs (nI i + 1).toNatClampNeg), .inl (xs (nI i + 2).toNatClampNeg)]) (na := 3) (kc := 11) (rest := []) (zP_X11_who hI.2.1 (xs (nI i + 1).toNatClampNeg) (xs (nI i + 2).toNatClampNeg)) (by decide +kernel) (by decide) (yWat_in (i := 903) (by decide +kernel)) rfl rfl (Nat.le_of_ble_eq_true rfl) dL_law_1073 rfl (Nat.le_of_ble_eq_true rfl) hl.1 (fun x9 h H locs hI hsn => ?_)
  refine lv_pop hx hb dL_law_1076 rfl ?_
  refine lv_aload_n hx hb dL_law_1077 rfl (lv_at hl 2 rfl) ?_
  refine lv_aload_n hx hb dL_law_1078 rfl (lv_at hl 4 rfl) ?_
  refine lv_iload hx hb dL_law_1079 (lv_at hl 0 rfl) ?_
  refine lv_iconst (v := 1) hx hb dL_law_1081 (by decide) ?_
  refine lv_iadd hx hb dL_law_1082 ?_
  refine va_sld (i := nI i + 1) hx hb hX hbl hbA hI.2.2.1 (hi 1 (by decide)) dL_law_1083 ?_
  refine lv_aload_n hx hb dL_law_1084 rfl (lv_at hl 4 rfl) ?_
  refine lv_iload hx hb dL_law_1085 (lv_at hl 0 rfl) ?_
  refine lv_iconst (v := 2) hx hb dL_law_1087 (by decide) ?_
  refine lv_iadd hx hb dL_law_1088 ?_
  refine va_sld (i := nI i + 2) hx hb hX hbl hbA hI.2.2.1 (hi 2 (by decide)) dL_law_1089 ?_
  refine lw_pubz C0 X hI hsn (by omega) (by omega) (as := [.inl (xs (nI i + 1).toNatClampNeg), .inl (xs (nI i + 2).toNatClampNeg)]) (na := 3) (kc := 12) (rest := []) (zP_X12_who hI.2.1 (xs (nI i + 1).toNatClampNeg) (xs (nI i + 2).toNatClampNeg)) (by decide +kernel) (by decide) (yWat_in (i := 1441) (by decide +kernel)) rfl rfl (Nat.le_of_ble_eq_true rfl) dL_law_1090 rfl (Nat.le_of_ble_eq_true rfl) hl.1 (fun x9 h H locs hI hsn => ?_)
  refine lv_pop hx hb dL_law_1093 rfl ?_
  refine lv_goto (tgt := 1535) hx hb dL_law_1094 (by decide) ?_
  exact W.widen (k := cells + 10) (n := slots + 100) (by omega) (by omega) (kk _ _ _ _ hI hsn hl)
set_option maxHeartbeats 4000000 in
theorem lc_26 {p : Program} {l : Launch} {e : Env} {s : State} {m : MethodId} {below : List Frame} {meth : Method} {c : Code} {b L : Nat} {xs : Nat → Int32} {cI cZ cQ cG cJ : ClassId} {dC : Nat → ClassId} {dI : Nat → Nat → Nat} {ad : Nat → Nat} {ho sa : Nat} {h : zH} {H : Heap} {locs : List Loc} {cells slots i : Nat} {Q : State → Prop} {ls : Array Slot} (C0 : lw_At p s m meth c b L xs) (X : lwK l cI cZ cQ cG cJ dC dI ad ho sa s) (hI : lwI cI cZ cQ cG cJ dC dI ad ho s h H locs) (hsn : r0 h) (lw_c : cells + 10 ≤ 601024) (lw_s : slots + 100 ≤ 7293034) (hi : ∀ k : Nat, k ≤ 5 → vp_in (nI i + Int32.ofNat k) L) (hl : lv_has ls 7 [(4, .int (nI i)), (3, .ref ho), (2, .ref (ad 440)), (1, .ref (ad 406)), (0, .ref b)]) (kk : ∀ (h : zH) (H : Heap) (locs : List Loc) (ls : Array Slot), lwI cI cZ cQ cG cJ dC dI ad ho s h H locs → r0 h → lv_has ls 7 [(4, .int (nI i)), (3, .ref ho), (2, .ref (ad 440)), (1, .ref (ad 406)), (0, .ref b)] → W p l e room_1 s m #[Value.ref b] below meth c H locs (cells + 10) (slots + 100) Q (F0 m 1535 ls [])) : W p l e room_1 s m #[Value.ref b] below meth c H locs cells slots Q (F0 m 1097 ls []) := by
  obtain ⟨hx, hb, hr, hml, hown0, hts0, hX, hbl, hlocks, hgv⟩ := id C0
  have hown : s.vm.findClass RL = some m.cls := hown0
  have hbA : ¬ (s.heap.size ≤ b) := Nat.not_le.mpr hbl
  refine lv_aload_n hx hb dL_law_1097 rfl (lv_at hl 3 rfl) ?_
  refine lv_aload_n hx hb dL_law_1098 rfl (lv_at hl 4 rfl) ?_
  refine lv_iload hx hb dL_law_1099 (lv_at hl 0 rfl) ?_
  refine lv_iconst (v := 1) hx hb dL_law_1101 (by decide) ?_
  refine lv_iadd hx hb dL_law_1102 ?_
  refine va_sld (i := nI i + 1) hx hb hX hbl hbA hI.2.2.1 (hi 1 (by decide)) dL_law_1103 ?_
  refine lw_pubz C0 X hI hsn (by omega) (by omega) (as := [.inl (xs (nI i + 1).toNatClampNeg)]) (na := 2) (kc := 11) (rest := []) (zP_X11_hourToAsk hI.2.1 (xs (nI i + 1).toNatClampNeg)) (by decide +kernel) (by decide) (yWat_in (i := 924) (by decide +kernel)) rfl rfl (Nat.le_of_ble_eq_true rfl) dL_law_1104 rfl (Nat.le_of_ble_eq_true rfl) hl.1 (fun x9 h H locs hI hsn => ?_)
  refine lv_pop hx hb dL_law_1107 rfl ?_
  refine lv_aload_n hx hb dL_law_1108 rfl (lv_at hl 2 rfl) ?_
  refine lv_aload_n hx hb dL_law_1109 rfl (lv_at hl 4 rfl) ?_
  refine lv_iload hx hb dL_law_1110 (lv_at hl 0 rfl) ?_
  refine lv_iconst (v := 1) hx hb dL_law_1112 (by decide) ?_
  refine lv_iadd hx hb dL_law_1113 ?_
  refine va_sld (i := nI i + 1) hx hb hX hbl hbA hI.2.2.1 (hi 1 (by decide)) dL_law_1114 ?_
  refine lw_pubz C0 X hI hsn (by omega) (by omega) (as := [.inl (xs (nI i + 1).toNatClampNeg)]) (na := 2) (kc := 12) (rest := []) (zP_X12_hourToAsk hI.2.1 (xs (nI i + 1).toNatClampNeg)) (by decide +kernel) (by decide) (yWat_in (i := 1457) (by decide +kernel)) rfl rfl (Nat.le_of_ble_eq_true rfl) dL_law_1115 rfl (Nat.le_of_ble_eq_true rfl) hl.1 (fun x9 h H locs hI hsn => ?_)
  refine lv_pop hx hb dL_law_1118 rfl ?_
  refine lv_goto (tgt := 1535) hx hb dL_law_1119 (by decide) ?_
  exact W.widen (k := cells + 10) (n := slots + 100) (by omega) (by omega) (kk _ _ _ _ hI hsn hl)
set_option maxHeartbeats 4000000 in
theorem lc_27 {p : Program} {l : Launch} {e : Env} {s : State} {m : MethodId} {below : List Frame} {meth : Method} {c : Code} {b L : Nat} {xs : Nat → Int32} {cI cZ cQ cG cJ : ClassId} {dC : Nat → ClassId} {dI : Nat → Nat → Nat} {ad : Nat → Nat} {ho sa : Nat} {h : zH} {H : Heap} {locs : List Loc} {cells slots i : Nat} {Q : State → Prop} {ls : Array Slot} (C0 : lw_At p s m meth c b L xs) (X : lwK l cI cZ cQ cG cJ dC dI ad ho sa s) (hI : lwI cI cZ cQ cG cJ dC dI ad ho s h H locs) (hsn : r0 h) (lw_c : cells + 10 ≤ 601024) (lw_s : slots + 100 ≤ 7293034) (hi : ∀ k : Nat, k ≤ 5 → vp_in (nI i + Int32.ofNat k) L) (hl : lv_has ls 7 [(4, .int (nI i)), (3, .ref ho), (2, .ref (ad 440)), (1, .ref (ad 406)), (0, .ref b)]) (kk : ∀ (h : zH) (H : Heap) (locs : List Loc) (ls : Array Slot), lwI cI cZ cQ cG cJ dC dI ad ho s h H locs → r0 h → lv_has ls 7 [(4, .int (nI i)), (3, .ref ho), (2, .ref (ad 440)), (1, .ref (ad 406)), (0, .ref b)] → W p l e room_1 s m #[Value.ref b] below meth c H locs (cells + 10) (slots + 100) Q (F0 m 1535 ls [])) : W p l e room_1 s m #[Value.ref b] below meth c H locs cells slots Q (F0 m 1122 ls []) := by
  obtain ⟨hx, hb, hr, hml, hown0, hts0, hX, hbl, hlocks, hgv⟩ := id C0
  have hown : s.vm.findClass RL = some m.cls := hown0
  have hbA : ¬ (s.heap.size ≤ b) := Nat.not_le.mpr hbl
  refine lv_aload_n hx hb dL_law_1122 rfl (lv_at hl 3 rfl) ?_
  refine lv_aload_n hx hb dL_law_1123 rfl (lv_at hl 4 rfl) ?_
  refine lv_iload hx hb dL_law_1124 (lv_at hl 0 rfl) ?_
  refine lv_iconst (v := 1) hx hb dL_law_1126 (by decide) ?_
  refine lv_iadd hx hb dL_law_1127 ?_
  refine va_sld (i := nI i + 1) hx hb hX hbl hbA hI.2.2.1 (hi 1 (by decide)) dL_law_1128 ?_
  refine lv_aload_n hx hb dL_law_1129 rfl (lv_at hl 4 rfl) ?_
  refine lv_iload hx hb dL_law_1130 (lv_at hl 0 rfl) ?_
  refine lv_iconst (v := 2) hx hb dL_law_1132 (by decide) ?_
  refine lv_iadd hx hb dL_law_1133 ?_
  refine va_sld (i := nI i + 2) hx hb hX hbl hbA hI.2.2.1 (hi 2 (by decide)) dL_law_1134 ?_
  refine lv_aload_n hx hb dL_law_1135 rfl (lv_at hl 4 rfl) ?_
  refine lv_iload hx hb dL_law_1136 (lv_at hl 0 rfl) ?_
  refine lv_iconst (v := 3) hx hb dL_law_1138 (by decide) ?_
  refine lv_iadd hx hb dL_law_1139 ?_
  refine va_sld (i := nI i + 3) hx hb hX hbl hbA hI.2.2.1 (hi 3 (by decide)) dL_law_1140 ?_
  refine lv_if_eq (tgt := 1148) hx hb dL_law_1141 (by decide) (fun _ => ?_) (fun _ => ?_)
  · skip
    refine lv_iconst (v := 0) hx hb dL_law_1148 (by decide) ?_
    refine lw_pubz C0 X hI hsn (by omega) (by omega) (as := [.inl (xs (nI i + 1).toNatClampNeg), .inl (xs (nI i + 2).toNatClampNeg), .inl 0]) (na := 4) (kc := 11) (rest := []) (zP_X11_said hI.2.1 (xs (nI i + 1).toNatClampNeg) (xs (nI i + 2).toNatClampNeg) 0 (by decide)) (by decide +kernel) (by decide) (yWat_in (i := 935) (by decide +kernel)) rfl rfl (Nat.le_of_ble_eq_true rfl) dL_law_1149 rfl (Nat.le_of_ble_eq_true rfl) hl.1 (fun x9 h H locs hI hsn => ?_)
    refine lv_pop hx hb dL_law_1152 rfl ?_
    refine lv_aload_n hx hb dL_law_1153 rfl (lv_at hl 2 rfl) ?_
    refine lv_aload_n hx hb dL_law_1154 rfl (lv_at hl 4 rfl) ?_
    refine lv_iload hx hb dL_law_1155 (lv_at hl 0 rfl) ?_
    refine lv_iconst (v := 1) hx hb dL_law_1157 (by decide) ?_
    refine lv_iadd hx hb dL_law_1158 ?_
    refine va_sld (i := nI i + 1) hx hb hX hbl hbA hI.2.2.1 (hi 1 (by decide)) dL_law_1159 ?_
    refine lv_aload_n hx hb dL_law_1160 rfl (lv_at hl 4 rfl) ?_
    refine lv_iload hx hb dL_law_1161 (lv_at hl 0 rfl) ?_
    refine lv_iconst (v := 2) hx hb dL_law_1163 (by decide) ?_
    refine lv_iadd hx hb dL_law_1164 ?_
    refine va_sld (i := nI i + 2) hx hb hX hbl hbA hI.2.2.1 (hi 2 (by decide)) dL_law_1165 ?_
    refine lv_aload_n hx hb dL_law_1166 rfl (lv_at hl 4 rfl) ?_
    refine lv_iload hx hb dL_law_1167 (lv_at hl 0 rfl) ?_
    refine lv_iconst (v := 3) hx hb dL_law_1169 (by decide) ?_
    refine lv_iadd hx hb dL_law_1170 ?_
    refine va_sld (i := nI i + 3) hx hb hX hbl hbA hI.2.2.1 (hi 3 (by decide)) dL_law_1171 ?_
    refine lv_if_eq (tgt := 1179) hx hb dL_law_1172 (by decide) (fun _ => ?_) (fun _ => ?_)
    · skip
      refine lv_iconst (v := 0) hx hb dL_law_1179 (by decide) ?_
      refine lw_pubz C0 X hI hsn (by omega) (by omega) (as := [.inl (xs (nI i + 1).toNatClampNeg), .inl (xs (nI i + 2).toNatClampNeg), .inl 0]) (na := 4) (kc := 12) (rest := []) (zP_X12_said hI.2.1 (xs (nI i + 1).toNatClampNeg) (xs (nI i + 2).toNatClampNeg) 0 (by decide)) (by decide +kernel) (by decide) (yWat_in (i := 1463) (by decide +kernel)) rfl rfl (Nat.le_of_ble_eq_true rfl) dL_law_1180 rfl (Nat.le_of_ble_eq_true rfl) hl.1 (fun x9 h H locs hI hsn => ?_)
      refine lv_pop hx hb dL_law_1183 rfl ?_
      refine lv_goto (tgt := 1535) hx hb dL_law_1184 (by decide) ?_
      exact W.widen (k := cells + 10) (n := slots + 100) (by omega) (by omega) (kk _ _ _ _ hI hsn hl)
    · skip
      refine lv_iconst (v := 1) hx hb dL_law_1175 (by decide) ?_
      refine lv_goto (tgt := 1180) hx hb dL_law_1176 (by decide) ?_
      refine lw_pubz C0 X hI hsn (by omega) (by omega) (as := [.inl (xs (nI i + 1).toNatClampNeg), .inl (xs (nI i + 2).toNatClampNeg), .inl 1]) (na := 4) (kc := 12) (rest := []) (zP_X12_said hI.2.1 (xs (nI i + 1).toNatClampNeg) (xs (nI i + 2).toNatClampNeg) 1 (by decide)) (by decide +kernel) (by decide) (yWat_in (i := 1463) (by decide +kernel)) rfl rfl (Nat.le_of_ble_eq_true rfl) dL_law_1180 rfl (Nat.le_of_ble_eq_true rfl) hl.1 (fun x9 h H locs hI hsn => ?_)
      refine lv_pop hx hb dL_law_1183 rfl ?_
      refine lv_goto (tgt := 1535) hx hb dL_law_1184 (by decide) ?_
      exact W.widen (k := cells + 10) (n := slots + 100) (by omega) (by omega) (kk _ _ _ _ hI hsn hl)
  · skip
    refine lv_iconst (v := 1) hx hb dL_law_1144 (by decide) ?_
    refine lv_goto (tgt := 1149) hx hb dL_law_1145 (by decide) ?_
    refine lw_pubz C0 X hI hsn (by omega) (by omega) (as := [.inl (xs (nI i + 1).toNatClampNeg), .inl (xs (nI i + 2).toNatClampNeg), .inl 1]) (na := 4) (kc := 11) (rest := []) (zP_X11_said hI.2.1 (xs (nI i + 1).toNatClampNeg) (xs (nI i + 2).toNatClampNeg) 1 (by decide)) (by decide +kernel) (by decide) (yWat_in (i := 935) (by decide +kernel)) rfl rfl (Nat.le_of_ble_eq_true rfl) dL_law_1149 rfl (Nat.le_of_ble_eq_true rfl) hl.1 (fun x9 h H locs hI hsn => ?_)
    refine lv_pop hx hb dL_law_1152 rfl ?_
    refine lv_aload_n hx hb dL_law_1153 rfl (lv_at hl 2 rfl) ?_
    refine lv_aload_n hx hb dL_law_1154 rfl (lv_at hl 4 rfl) ?_
    refine lv_iload hx hb dL_law_1155 (lv_at hl 0 rfl) ?_
    refine lv_iconst (v := 1) hx hb dL_law_1157 (by decide) ?_
    refine lv_iadd hx hb dL_law_1158 ?_
    refine va_sld (i := nI i + 1) hx hb hX hbl hbA hI.2.2.1 (hi 1 (by decide)) dL_law_1159 ?_
    refine lv_aload_n hx hb dL_law_1160 rfl (lv_at hl 4 rfl) ?_
    refine lv_iload hx hb dL_law_1161 (lv_at hl 0 rfl) ?_
    refine lv_iconst (v := 2) hx hb dL_law_1163 (by decide) ?_
    refine lv_iadd hx hb dL_law_1164 ?_
    refine va_sld (i := nI i + 2) hx hb hX hbl hbA hI.2.2.1 (hi 2 (by decide)) dL_law_1165 ?_
    refine lv_aload_n hx hb dL_law_1166 rfl (lv_at hl 4 rfl) ?_
    refine lv_iload hx hb dL_law_1167 (lv_at hl 0 rfl) ?_
    refine lv_iconst (v := 3) hx hb dL_law_1169 (by decide) ?_
    refine lv_iadd hx hb dL_law_1170 ?_
    refine va_sld (i := nI i + 3) hx hb hX hbl hbA hI.2.2.1 (hi 3 (by decide)) dL_law_1171 ?_
    refine lv_if_eq (tgt := 1179) hx hb dL_law_1172 (by decide) (fun _ => ?_) (fun _ => ?_)
    · skip
      refine lv_iconst (v := 0) hx hb dL_law_1179 (by decide) ?_
      refine lw_pubz C0 X hI hsn (by omega) (by omega) (as := [.inl (xs (nI i + 1).toNatClampNeg), .inl (xs (nI i + 2).toNatClampNeg), .inl 0]) (na := 4) (kc := 12) (rest := []) (zP_X12_said hI.2.1 (xs (nI i + 1).toNatClampNeg) (xs (nI i + 2).toNatClampNeg) 0 (by decide)) (by decide +kernel) (by decide) (yWat_in (i := 1463) (by decide +kernel)) rfl rfl (Nat.le_of_ble_eq_true rfl) dL_law_1180 rfl (Nat.le_of_ble_eq_true rfl) hl.1 (fun x9 h H locs hI hsn => ?_)
      refine lv_pop hx hb dL_law_1183 rfl ?_
      refine lv_goto (tgt := 1535) hx hb dL_law_1184 (by decide) ?_
      exact W.widen (k := cells + 10) (n := slots + 100) (by omega) (by omega) (kk _ _ _ _ hI hsn hl)
    · skip
      refine lv_iconst (v := 1) hx hb dL_law_1175 (by decide) ?_
      refine lv_goto (tgt := 1180) hx hb dL_law_1176 (by decide) ?_
      refine lw_pubz C0 X hI hsn (by omega) (by omega) (as := [.inl (xs (nI i + 1).toNatClampNeg), .inl (xs (nI i + 2).toNatClampNeg), .inl 1]) (na := 4) (kc := 12) (rest := []) (zP_X12_said hI.2.1 (xs (nI i + 1).toNatClampNeg) (xs (nI i + 2).toNatClampNeg) 1 (by decide)) (by decide +kernel) (by decide) (yWat_in (i := 1463) (by decide +kernel)) rfl rfl (Nat.le_of_ble_eq_true rfl) dL_law_1180 rfl (Nat.le_of_ble_eq_true rfl) hl.1 (fun x9 h H locs hI hsn => ?_)
      refine lv_pop hx hb dL_law_1183 rfl ?_
      refine lv_goto (tgt := 1535) hx hb dL_law_1184 (by decide) ?_
      exact W.widen (k := cells + 10) (n := slots + 100) (by omega) (by omega) (kk _ _ _ _ hI hsn hl)
set_option maxHeartbeats 4000000 in
theorem lc_28 {p : Program} {l : Launch} {e : Env} {s : State} {m : MethodId} {below : List Frame} {meth : Method} {c : Code} {b L : Nat} {xs : Nat → Int32} {cI cZ cQ cG cJ : ClassId} {dC : Nat → ClassId} {dI : Nat → Nat → Nat} {ad : Nat → Nat} {ho sa : Nat} {h : zH} {H : Heap} {locs : List Loc} {cells slots i : Nat} {Q : State → Prop} {ls : Array Slot} (C0 : lw_At p s m meth c b L xs) (X : lwK l cI cZ cQ cG cJ dC dI ad ho sa s) (hI : lwI cI cZ cQ cG cJ dC dI ad ho s h H locs) (hsn : r0 h) (lw_c : cells + 10 ≤ 601024) (lw_s : slots + 100 ≤ 7293034) (hi : ∀ k : Nat, k ≤ 5 → vp_in (nI i + Int32.ofNat k) L) (hl : lv_has ls 7 [(4, .int (nI i)), (3, .ref ho), (2, .ref (ad 440)), (1, .ref (ad 406)), (0, .ref b)]) (kk : ∀ (h : zH) (H : Heap) (locs : List Loc) (ls : Array Slot), lwI cI cZ cQ cG cJ dC dI ad ho s h H locs → r0 h → lv_has ls 7 [(4, .int (nI i)), (3, .ref ho), (2, .ref (ad 440)), (1, .ref (ad 406)), (0, .ref b)] → W p l e room_1 s m #[Value.ref b] below meth c H locs (cells + 10) (slots + 100) Q (F0 m 1535 ls [])) : W p l e room_1 s m #[Value.ref b] below meth c H locs cells slots Q (F0 m 1187 ls []) := by
  obtain ⟨hx, hb, hr, hml, hown0, hts0, hX, hbl, hlocks, hgv⟩ := id C0
  have hown : s.vm.findClass RL = some m.cls := hown0
  have hbA : ¬ (s.heap.size ≤ b) := Nat.not_le.mpr hbl
  refine lv_aload_n hx hb dL_law_1187 rfl (lv_at hl 3 rfl) ?_
  refine lw_pubz C0 X hI hsn (by omega) (by omega) (as := []) (na := 1) (kc := 11) (rest := []) (zP_X11_liars hI.2.1) (by decide +kernel) (by decide) (yWat_in (i := 942) (by decide +kernel)) rfl rfl (Nat.le_of_ble_eq_true rfl) dL_law_1188 rfl (Nat.le_of_ble_eq_true rfl) hl.1 (fun x9 h H locs hI hsn => ?_)
  refine lv_pop hx hb dL_law_1191 rfl ?_
  refine lv_aload_n hx hb dL_law_1192 rfl (lv_at hl 2 rfl) ?_
  refine lw_pubz C0 X hI hsn (by omega) (by omega) (as := []) (na := 1) (kc := 12) (rest := []) (zP_X12_liars hI.2.1) (by decide +kernel) (by decide) (yWat_in (i := 1470) (by decide +kernel)) rfl rfl (Nat.le_of_ble_eq_true rfl) dL_law_1193 rfl (Nat.le_of_ble_eq_true rfl) hl.1 (fun x9 h H locs hI hsn => ?_)
  refine lv_pop hx hb dL_law_1196 rfl ?_
  refine lv_goto (tgt := 1535) hx hb dL_law_1197 (by decide) ?_
  exact W.widen (k := cells + 10) (n := slots + 100) (by omega) (by omega) (kk _ _ _ _ hI hsn hl)
set_option maxHeartbeats 4000000 in
theorem lc_29 {p : Program} {l : Launch} {e : Env} {s : State} {m : MethodId} {below : List Frame} {meth : Method} {c : Code} {b L : Nat} {xs : Nat → Int32} {cI cZ cQ cG cJ : ClassId} {dC : Nat → ClassId} {dI : Nat → Nat → Nat} {ad : Nat → Nat} {ho sa : Nat} {h : zH} {H : Heap} {locs : List Loc} {cells slots i : Nat} {Q : State → Prop} {ls : Array Slot} (C0 : lw_At p s m meth c b L xs) (X : lwK l cI cZ cQ cG cJ dC dI ad ho sa s) (hI : lwI cI cZ cQ cG cJ dC dI ad ho s h H locs) (hsn : r0 h) (lw_c : cells + 10 ≤ 601024) (lw_s : slots + 100 ≤ 7293034) (hi : ∀ k : Nat, k ≤ 5 → vp_in (nI i + Int32.ofNat k) L) (hl : lv_has ls 7 [(4, .int (nI i)), (3, .ref ho), (2, .ref (ad 440)), (1, .ref (ad 406)), (0, .ref b)]) (kk : ∀ (h : zH) (H : Heap) (locs : List Loc) (ls : Array Slot), lwI cI cZ cQ cG cJ dC dI ad ho s h H locs → r0 h → lv_has ls 7 [(4, .int (nI i)), (3, .ref ho), (2, .ref (ad 440)), (1, .ref (ad 406)), (0, .ref b)] → W p l e room_1 s m #[Value.ref b] below meth c H locs (cells + 10) (slots + 100) Q (F0 m 1535 ls [])) : W p l e room_1 s m #[Value.ref b] below meth c H locs cells slots Q (F0 m 1200 ls []) := by
  obtain ⟨hx, hb, hr, hml, hown0, hts0, hX, hbl, hlocks, hgv⟩ := id C0
  have hown : s.vm.findClass RL = some m.cls := hown0
  have hbA : ¬ (s.heap.size ≤ b) := Nat.not_le.mpr hbl
  refine lv_aload_n hx hb dL_law_1200 rfl (lv_at hl 3 rfl) ?_
  refine lv_aload_n hx hb dL_law_1201 rfl (lv_at hl 4 rfl) ?_
  refine lv_iload hx hb dL_law_1202 (lv_at hl 0 rfl) ?_
  refine lv_iconst (v := 1) hx hb dL_law_1204 (by decide) ?_
  refine lv_iadd hx hb dL_law_1205 ?_
  refine va_sld (i := nI i + 1) hx hb hX hbl hbA hI.2.2.1 (hi 1 (by decide)) dL_law_1206 ?_
  refine lv_aload_n hx hb dL_law_1207 rfl (lv_at hl 4 rfl) ?_
  refine lv_iload hx hb dL_law_1208 (lv_at hl 0 rfl) ?_
  refine lv_iconst (v := 2) hx hb dL_law_1210 (by decide) ?_
  refine lv_iadd hx hb dL_law_1211 ?_
  refine va_sld (i := nI i + 2) hx hb hX hbl hbA hI.2.2.1 (hi 2 (by decide)) dL_law_1212 ?_
  refine lv_aload_n hx hb dL_law_1213 rfl (lv_at hl 4 rfl) ?_
  refine lv_iload hx hb dL_law_1214 (lv_at hl 0 rfl) ?_
  refine lv_iconst (v := 3) hx hb dL_law_1216 (by decide) ?_
  refine lv_iadd hx hb dL_law_1217 ?_
  refine va_sld (i := nI i + 3) hx hb hX hbl hbA hI.2.2.1 (hi 3 (by decide)) dL_law_1218 ?_
  refine lv_aload_n hx hb dL_law_1219 rfl (lv_at hl 4 rfl) ?_
  refine lv_iload hx hb dL_law_1220 (lv_at hl 0 rfl) ?_
  refine lv_iconst (v := 4) hx hb dL_law_1222 (by decide) ?_
  refine lv_iadd hx hb dL_law_1223 ?_
  refine va_sld (i := nI i + 4) hx hb hX hbl hbA hI.2.2.1 (hi 4 (by decide)) dL_law_1224 ?_
  refine lv_aload_n hx hb dL_law_1225 rfl (lv_at hl 4 rfl) ?_
  refine lv_iload hx hb dL_law_1226 (lv_at hl 0 rfl) ?_
  refine lv_iconst (v := 5) hx hb dL_law_1228 (by decide) ?_
  refine lv_iadd hx hb dL_law_1229 ?_
  refine va_sld (i := nI i + 5) hx hb hX hbl hbA hI.2.2.1 (hi 5 (by decide)) dL_law_1230 ?_
  refine lw_pubz C0 X hI hsn (by omega) (by omega) (as := [.inl (xs (nI i + 1).toNatClampNeg), .inl (xs (nI i + 2).toNatClampNeg), .inl (xs (nI i + 3).toNatClampNeg), .inl (xs (nI i + 4).toNatClampNeg), .inl (xs (nI i + 5).toNatClampNeg)]) (na := 6) (kc := 11) (rest := []) (zP_X11_game hI.2.1 (xs (nI i + 1).toNatClampNeg) (xs (nI i + 2).toNatClampNeg) (xs (nI i + 3).toNatClampNeg) (xs (nI i + 4).toNatClampNeg) (xs (nI i + 5).toNatClampNeg)) (by decide +kernel) (by decide) (yWat_in (i := 946) (by decide +kernel)) rfl rfl (Nat.le_of_ble_eq_true rfl) dL_law_1231 rfl (Nat.le_of_ble_eq_true rfl) hl.1 (fun x9 h H locs hI hsn => ?_)
  refine lv_pop hx hb dL_law_1234 rfl ?_
  refine lv_aload_n hx hb dL_law_1235 rfl (lv_at hl 2 rfl) ?_
  refine lv_aload_n hx hb dL_law_1236 rfl (lv_at hl 4 rfl) ?_
  refine lv_iload hx hb dL_law_1237 (lv_at hl 0 rfl) ?_
  refine lv_iconst (v := 1) hx hb dL_law_1239 (by decide) ?_
  refine lv_iadd hx hb dL_law_1240 ?_
  refine va_sld (i := nI i + 1) hx hb hX hbl hbA hI.2.2.1 (hi 1 (by decide)) dL_law_1241 ?_
  refine lv_aload_n hx hb dL_law_1242 rfl (lv_at hl 4 rfl) ?_
  refine lv_iload hx hb dL_law_1243 (lv_at hl 0 rfl) ?_
  refine lv_iconst (v := 2) hx hb dL_law_1245 (by decide) ?_
  refine lv_iadd hx hb dL_law_1246 ?_
  refine va_sld (i := nI i + 2) hx hb hX hbl hbA hI.2.2.1 (hi 2 (by decide)) dL_law_1247 ?_
  refine lv_aload_n hx hb dL_law_1248 rfl (lv_at hl 4 rfl) ?_
  refine lv_iload hx hb dL_law_1249 (lv_at hl 0 rfl) ?_
  refine lv_iconst (v := 3) hx hb dL_law_1251 (by decide) ?_
  refine lv_iadd hx hb dL_law_1252 ?_
  refine va_sld (i := nI i + 3) hx hb hX hbl hbA hI.2.2.1 (hi 3 (by decide)) dL_law_1253 ?_
  refine lv_aload_n hx hb dL_law_1254 rfl (lv_at hl 4 rfl) ?_
  refine lv_iload hx hb dL_law_1255 (lv_at hl 0 rfl) ?_
  refine lv_iconst (v := 4) hx hb dL_law_1257 (by decide) ?_
  refine lv_iadd hx hb dL_law_1258 ?_
  refine va_sld (i := nI i + 4) hx hb hX hbl hbA hI.2.2.1 (hi 4 (by decide)) dL_law_1259 ?_
  refine lv_aload_n hx hb dL_law_1260 rfl (lv_at hl 4 rfl) ?_
  refine lv_iload hx hb dL_law_1261 (lv_at hl 0 rfl) ?_
  refine lv_iconst (v := 5) hx hb dL_law_1263 (by decide) ?_
  refine lv_iadd hx hb dL_law_1264 ?_
  refine va_sld (i := nI i + 5) hx hb hX hbl hbA hI.2.2.1 (hi 5 (by decide)) dL_law_1265 ?_
  refine lw_pubz C0 X hI hsn (by omega) (by omega) (as := [.inl (xs (nI i + 1).toNatClampNeg), .inl (xs (nI i + 2).toNatClampNeg), .inl (xs (nI i + 3).toNatClampNeg), .inl (xs (nI i + 4).toNatClampNeg), .inl (xs (nI i + 5).toNatClampNeg)]) (na := 6) (kc := 12) (rest := []) (zP_X12_game hI.2.1 (xs (nI i + 1).toNatClampNeg) (xs (nI i + 2).toNatClampNeg) (xs (nI i + 3).toNatClampNeg) (xs (nI i + 4).toNatClampNeg) (xs (nI i + 5).toNatClampNeg)) (by decide +kernel) (by decide) (yWat_in (i := 1474) (by decide +kernel)) rfl rfl (Nat.le_of_ble_eq_true rfl) dL_law_1266 rfl (Nat.le_of_ble_eq_true rfl) hl.1 (fun x9 h H locs hI hsn => ?_)
  refine lv_pop hx hb dL_law_1269 rfl ?_
  refine lv_goto (tgt := 1535) hx hb dL_law_1270 (by decide) ?_
  exact W.widen (k := cells + 10) (n := slots + 100) (by omega) (by omega) (kk _ _ _ _ hI hsn hl)
set_option maxHeartbeats 4000000 in
theorem lc_30 {p : Program} {l : Launch} {e : Env} {s : State} {m : MethodId} {below : List Frame} {meth : Method} {c : Code} {b L : Nat} {xs : Nat → Int32} {cI cZ cQ cG cJ : ClassId} {dC : Nat → ClassId} {dI : Nat → Nat → Nat} {ad : Nat → Nat} {ho sa : Nat} {h : zH} {H : Heap} {locs : List Loc} {cells slots i : Nat} {Q : State → Prop} {ls : Array Slot} (C0 : lw_At p s m meth c b L xs) (X : lwK l cI cZ cQ cG cJ dC dI ad ho sa s) (hI : lwI cI cZ cQ cG cJ dC dI ad ho s h H locs) (hsn : r0 h) (lw_c : cells + 10 ≤ 601024) (lw_s : slots + 100 ≤ 7293034) (hi : ∀ k : Nat, k ≤ 5 → vp_in (nI i + Int32.ofNat k) L) (hl : lv_has ls 7 [(4, .int (nI i)), (3, .ref ho), (2, .ref (ad 440)), (1, .ref (ad 406)), (0, .ref b)]) (kk : ∀ (h : zH) (H : Heap) (locs : List Loc) (ls : Array Slot), lwI cI cZ cQ cG cJ dC dI ad ho s h H locs → r0 h → lv_has ls 7 [(4, .int (nI i)), (3, .ref ho), (2, .ref (ad 440)), (1, .ref (ad 406)), (0, .ref b)] → W p l e room_1 s m #[Value.ref b] below meth c H locs (cells + 10) (slots + 100) Q (F0 m 1535 ls [])) : W p l e room_1 s m #[Value.ref b] below meth c H locs cells slots Q (F0 m 1273 ls []) := by
  obtain ⟨hx, hb, hr, hml, hown0, hts0, hX, hbl, hlocks, hgv⟩ := id C0
  have hown : s.vm.findClass RL = some m.cls := hown0
  have hbA : ¬ (s.heap.size ≤ b) := Nat.not_le.mpr hbl
  refine lv_aload_n hx hb dL_law_1273 rfl (lv_at hl 3 rfl) ?_
  refine lv_aload_n hx hb dL_law_1274 rfl (lv_at hl 4 rfl) ?_
  refine lv_iload hx hb dL_law_1275 (lv_at hl 0 rfl) ?_
  refine lv_iconst (v := 1) hx hb dL_law_1277 (by decide) ?_
  refine lv_iadd hx hb dL_law_1278 ?_
  refine va_sld (i := nI i + 1) hx hb hX hbl hbA hI.2.2.1 (hi 1 (by decide)) dL_law_1279 ?_
  refine lv_aload_n hx hb dL_law_1280 rfl (lv_at hl 4 rfl) ?_
  refine lv_iload hx hb dL_law_1281 (lv_at hl 0 rfl) ?_
  refine lv_iconst (v := 2) hx hb dL_law_1283 (by decide) ?_
  refine lv_iadd hx hb dL_law_1284 ?_
  refine va_sld (i := nI i + 2) hx hb hX hbl hbA hI.2.2.1 (hi 2 (by decide)) dL_law_1285 ?_
  refine lv_aload_n hx hb dL_law_1286 rfl (lv_at hl 4 rfl) ?_
  refine lv_iload hx hb dL_law_1287 (lv_at hl 0 rfl) ?_
  refine lv_iconst (v := 3) hx hb dL_law_1289 (by decide) ?_
  refine lv_iadd hx hb dL_law_1290 ?_
  refine va_sld (i := nI i + 3) hx hb hX hbl hbA hI.2.2.1 (hi 3 (by decide)) dL_law_1291 ?_
  refine lw_pubz C0 X hI hsn (by omega) (by omega) (as := [.inl (xs (nI i + 1).toNatClampNeg), .inl (xs (nI i + 2).toNatClampNeg), .inl (xs (nI i + 3).toNatClampNeg)]) (na := 4) (kc := 11) (rest := []) (zP_X11_rests hI.2.1 (xs (nI i + 1).toNatClampNeg) (xs (nI i + 2).toNatClampNeg) (xs (nI i + 3).toNatClampNeg)) (by decide +kernel) (by decide) (yWat_in (i := 959) (by decide +kernel)) rfl rfl (Nat.le_of_ble_eq_true rfl) dL_law_1292 rfl (Nat.le_of_ble_eq_true rfl) hl.1 (fun x9 h H locs hI hsn => ?_)
  refine lv_pop hx hb dL_law_1295 rfl ?_
  refine lv_aload_n hx hb dL_law_1296 rfl (lv_at hl 2 rfl) ?_
  refine lv_aload_n hx hb dL_law_1297 rfl (lv_at hl 4 rfl) ?_
  refine lv_iload hx hb dL_law_1298 (lv_at hl 0 rfl) ?_
  refine lv_iconst (v := 1) hx hb dL_law_1300 (by decide) ?_
  refine lv_iadd hx hb dL_law_1301 ?_
  refine va_sld (i := nI i + 1) hx hb hX hbl hbA hI.2.2.1 (hi 1 (by decide)) dL_law_1302 ?_
  refine lv_aload_n hx hb dL_law_1303 rfl (lv_at hl 4 rfl) ?_
  refine lv_iload hx hb dL_law_1304 (lv_at hl 0 rfl) ?_
  refine lv_iconst (v := 2) hx hb dL_law_1306 (by decide) ?_
  refine lv_iadd hx hb dL_law_1307 ?_
  refine va_sld (i := nI i + 2) hx hb hX hbl hbA hI.2.2.1 (hi 2 (by decide)) dL_law_1308 ?_
  refine lv_aload_n hx hb dL_law_1309 rfl (lv_at hl 4 rfl) ?_
  refine lv_iload hx hb dL_law_1310 (lv_at hl 0 rfl) ?_
  refine lv_iconst (v := 3) hx hb dL_law_1312 (by decide) ?_
  refine lv_iadd hx hb dL_law_1313 ?_
  refine va_sld (i := nI i + 3) hx hb hX hbl hbA hI.2.2.1 (hi 3 (by decide)) dL_law_1314 ?_
  refine lw_pubz C0 X hI hsn (by omega) (by omega) (as := [.inl (xs (nI i + 1).toNatClampNeg), .inl (xs (nI i + 2).toNatClampNeg), .inl (xs (nI i + 3).toNatClampNeg)]) (na := 4) (kc := 12) (rest := []) (zP_X12_rests hI.2.1 (xs (nI i + 1).toNatClampNeg) (xs (nI i + 2).toNatClampNeg) (xs (nI i + 3).toNatClampNeg)) (by decide +kernel) (by decide) (yWat_in (i := 1481) (by decide +kernel)) rfl rfl (Nat.le_of_ble_eq_true rfl) dL_law_1315 rfl (Nat.le_of_ble_eq_true rfl) hl.1 (fun x9 h H locs hI hsn => ?_)
  refine lv_pop hx hb dL_law_1318 rfl ?_
  refine lv_goto (tgt := 1535) hx hb dL_law_1319 (by decide) ?_
  exact W.widen (k := cells + 10) (n := slots + 100) (by omega) (by omega) (kk _ _ _ _ hI hsn hl)
set_option maxHeartbeats 4000000 in
theorem lc_31 {p : Program} {l : Launch} {e : Env} {s : State} {m : MethodId} {below : List Frame} {meth : Method} {c : Code} {b L : Nat} {xs : Nat → Int32} {cI cZ cQ cG cJ : ClassId} {dC : Nat → ClassId} {dI : Nat → Nat → Nat} {ad : Nat → Nat} {ho sa : Nat} {h : zH} {H : Heap} {locs : List Loc} {cells slots i : Nat} {Q : State → Prop} {ls : Array Slot} (C0 : lw_At p s m meth c b L xs) (X : lwK l cI cZ cQ cG cJ dC dI ad ho sa s) (hI : lwI cI cZ cQ cG cJ dC dI ad ho s h H locs) (hsn : r0 h) (lw_c : cells + 10 ≤ 601024) (lw_s : slots + 100 ≤ 7293034) (hi : ∀ k : Nat, k ≤ 5 → vp_in (nI i + Int32.ofNat k) L) (hl : lv_has ls 7 [(4, .int (nI i)), (3, .ref ho), (2, .ref (ad 440)), (1, .ref (ad 406)), (0, .ref b)]) (kk : ∀ (h : zH) (H : Heap) (locs : List Loc) (ls : Array Slot), lwI cI cZ cQ cG cJ dC dI ad ho s h H locs → r0 h → lv_has ls 7 [(4, .int (nI i)), (3, .ref ho), (2, .ref (ad 440)), (1, .ref (ad 406)), (0, .ref b)] → W p l e room_1 s m #[Value.ref b] below meth c H locs (cells + 10) (slots + 100) Q (F0 m 1535 ls [])) : W p l e room_1 s m #[Value.ref b] below meth c H locs cells slots Q (F0 m 1322 ls []) := by
  obtain ⟨hx, hb, hr, hml, hown0, hts0, hX, hbl, hlocks, hgv⟩ := id C0
  have hown : s.vm.findClass RL = some m.cls := hown0
  have hbA : ¬ (s.heap.size ≤ b) := Nat.not_le.mpr hbl
  refine lv_aload_n hx hb dL_law_1322 rfl (lv_at hl 3 rfl) ?_
  refine lv_aload_n hx hb dL_law_1323 rfl (lv_at hl 4 rfl) ?_
  refine lv_iload hx hb dL_law_1324 (lv_at hl 0 rfl) ?_
  refine lv_iconst (v := 1) hx hb dL_law_1326 (by decide) ?_
  refine lv_iadd hx hb dL_law_1327 ?_
  refine va_sld (i := nI i + 1) hx hb hX hbl hbA hI.2.2.1 (hi 1 (by decide)) dL_law_1328 ?_
  refine lw_pubz C0 X hI hsn (by omega) (by omega) (as := [.inl (xs (nI i + 1).toNatClampNeg)]) (na := 2) (kc := 11) (rest := []) (zP_X11_odds hI.2.1 (xs (nI i + 1).toNatClampNeg)) (by decide +kernel) (by decide) (yWat_in (i := 828) (by decide +kernel)) rfl rfl (Nat.le_of_ble_eq_true rfl) dL_law_1329 rfl (Nat.le_of_ble_eq_true rfl) hl.1 (fun x9 h H locs hI hsn => ?_)
  refine lv_pop hx hb dL_law_1332 rfl ?_
  refine lv_aload_n hx hb dL_law_1333 rfl (lv_at hl 2 rfl) ?_
  refine lv_aload_n hx hb dL_law_1334 rfl (lv_at hl 4 rfl) ?_
  refine lv_iload hx hb dL_law_1335 (lv_at hl 0 rfl) ?_
  refine lv_iconst (v := 1) hx hb dL_law_1337 (by decide) ?_
  refine lv_iadd hx hb dL_law_1338 ?_
  refine va_sld (i := nI i + 1) hx hb hX hbl hbA hI.2.2.1 (hi 1 (by decide)) dL_law_1339 ?_
  refine lw_pubz C0 X hI hsn (by omega) (by omega) (as := [.inl (xs (nI i + 1).toNatClampNeg)]) (na := 2) (kc := 12) (rest := []) (zP_X12_odds hI.2.1 (xs (nI i + 1).toNatClampNeg)) (by decide +kernel) (by decide) (yWat_in (i := 1488) (by decide +kernel)) rfl rfl (Nat.le_of_ble_eq_true rfl) dL_law_1340 rfl (Nat.le_of_ble_eq_true rfl) hl.1 (fun x9 h H locs hI hsn => ?_)
  refine lv_pop hx hb dL_law_1343 rfl ?_
  refine lv_goto (tgt := 1535) hx hb dL_law_1344 (by decide) ?_
  exact W.widen (k := cells + 10) (n := slots + 100) (by omega) (by omega) (kk _ _ _ _ hI hsn hl)
set_option maxHeartbeats 4000000 in
theorem lc_32 {p : Program} {l : Launch} {e : Env} {s : State} {m : MethodId} {below : List Frame} {meth : Method} {c : Code} {b L : Nat} {xs : Nat → Int32} {cI cZ cQ cG cJ : ClassId} {dC : Nat → ClassId} {dI : Nat → Nat → Nat} {ad : Nat → Nat} {ho sa : Nat} {h : zH} {H : Heap} {locs : List Loc} {cells slots i : Nat} {Q : State → Prop} {ls : Array Slot} (C0 : lw_At p s m meth c b L xs) (X : lwK l cI cZ cQ cG cJ dC dI ad ho sa s) (hI : lwI cI cZ cQ cG cJ dC dI ad ho s h H locs) (hsn : r0 h) (lw_c : cells + 10 ≤ 601024) (lw_s : slots + 100 ≤ 7293034) (hi : ∀ k : Nat, k ≤ 5 → vp_in (nI i + Int32.ofNat k) L) (hl : lv_has ls 7 [(4, .int (nI i)), (3, .ref ho), (2, .ref (ad 440)), (1, .ref (ad 406)), (0, .ref b)]) (kk : ∀ (h : zH) (H : Heap) (locs : List Loc) (ls : Array Slot), lwI cI cZ cQ cG cJ dC dI ad ho s h H locs → r0 h → lv_has ls 7 [(4, .int (nI i)), (3, .ref ho), (2, .ref (ad 440)), (1, .ref (ad 406)), (0, .ref b)] → W p l e room_1 s m #[Value.ref b] below meth c H locs (cells + 10) (slots + 100) Q (F0 m 1535 ls [])) : W p l e room_1 s m #[Value.ref b] below meth c H locs cells slots Q (F0 m 1347 ls []) := by
  obtain ⟨hx, hb, hr, hml, hown0, hts0, hX, hbl, hlocks, hgv⟩ := id C0
  have hown : s.vm.findClass RL = some m.cls := hown0
  have hbA : ¬ (s.heap.size ≤ b) := Nat.not_le.mpr hbl
  refine lv_aload_n hx hb dL_law_1347 rfl (lv_at hl 3 rfl) ?_
  refine lv_aload_n hx hb dL_law_1348 rfl (lv_at hl 4 rfl) ?_
  refine lv_iload hx hb dL_law_1349 (lv_at hl 0 rfl) ?_
  refine lv_iconst (v := 1) hx hb dL_law_1351 (by decide) ?_
  refine lv_iadd hx hb dL_law_1352 ?_
  refine va_sld (i := nI i + 1) hx hb hX hbl hbA hI.2.2.1 (hi 1 (by decide)) dL_law_1353 ?_
  refine lv_aload_n hx hb dL_law_1354 rfl (lv_at hl 4 rfl) ?_
  refine lv_iload hx hb dL_law_1355 (lv_at hl 0 rfl) ?_
  refine lv_iconst (v := 2) hx hb dL_law_1357 (by decide) ?_
  refine lv_iadd hx hb dL_law_1358 ?_
  refine va_sld (i := nI i + 2) hx hb hX hbl hbA hI.2.2.1 (hi 2 (by decide)) dL_law_1359 ?_
  refine lw_pubz C0 X hI hsn (by omega) (by omega) (as := [.inl (xs (nI i + 1).toNatClampNeg), .inl (xs (nI i + 2).toNatClampNeg)]) (na := 3) (kc := 11) (rest := []) (zP_X11_shares hI.2.1 (xs (nI i + 1).toNatClampNeg) (xs (nI i + 2).toNatClampNeg)) (by decide +kernel) (by decide) (yWat_in (i := 969) (by decide +kernel)) rfl rfl (Nat.le_of_ble_eq_true rfl) dL_law_1360 rfl (Nat.le_of_ble_eq_true rfl) hl.1 (fun x9 h H locs hI hsn => ?_)
  refine lv_pop hx hb dL_law_1363 rfl ?_
  refine lv_aload_n hx hb dL_law_1364 rfl (lv_at hl 2 rfl) ?_
  refine lv_aload_n hx hb dL_law_1365 rfl (lv_at hl 4 rfl) ?_
  refine lv_iload hx hb dL_law_1366 (lv_at hl 0 rfl) ?_
  refine lv_iconst (v := 1) hx hb dL_law_1368 (by decide) ?_
  refine lv_iadd hx hb dL_law_1369 ?_
  refine va_sld (i := nI i + 1) hx hb hX hbl hbA hI.2.2.1 (hi 1 (by decide)) dL_law_1370 ?_
  refine lv_aload_n hx hb dL_law_1371 rfl (lv_at hl 4 rfl) ?_
  refine lv_iload hx hb dL_law_1372 (lv_at hl 0 rfl) ?_
  refine lv_iconst (v := 2) hx hb dL_law_1374 (by decide) ?_
  refine lv_iadd hx hb dL_law_1375 ?_
  refine va_sld (i := nI i + 2) hx hb hX hbl hbA hI.2.2.1 (hi 2 (by decide)) dL_law_1376 ?_
  refine lw_pubz C0 X hI hsn (by omega) (by omega) (as := [.inl (xs (nI i + 1).toNatClampNeg), .inl (xs (nI i + 2).toNatClampNeg)]) (na := 3) (kc := 12) (rest := []) (zP_X12_shares hI.2.1 (xs (nI i + 1).toNatClampNeg) (xs (nI i + 2).toNatClampNeg)) (by decide +kernel) (by decide) (yWat_in (i := 1494) (by decide +kernel)) rfl rfl (Nat.le_of_ble_eq_true rfl) dL_law_1377 rfl (Nat.le_of_ble_eq_true rfl) hl.1 (fun x9 h H locs hI hsn => ?_)
  refine lv_pop hx hb dL_law_1380 rfl ?_
  refine lv_goto (tgt := 1535) hx hb dL_law_1381 (by decide) ?_
  exact W.widen (k := cells + 10) (n := slots + 100) (by omega) (by omega) (kk _ _ _ _ hI hsn hl)
set_option maxHeartbeats 4000000 in
theorem lc_33 {p : Program} {l : Launch} {e : Env} {s : State} {m : MethodId} {below : List Frame} {meth : Method} {c : Code} {b L : Nat} {xs : Nat → Int32} {cI cZ cQ cG cJ : ClassId} {dC : Nat → ClassId} {dI : Nat → Nat → Nat} {ad : Nat → Nat} {ho sa : Nat} {h : zH} {H : Heap} {locs : List Loc} {cells slots i : Nat} {Q : State → Prop} {ls : Array Slot} (C0 : lw_At p s m meth c b L xs) (X : lwK l cI cZ cQ cG cJ dC dI ad ho sa s) (hI : lwI cI cZ cQ cG cJ dC dI ad ho s h H locs) (hsn : r0 h) (lw_c : cells + 10 ≤ 601024) (lw_s : slots + 100 ≤ 7293034) (hi : ∀ k : Nat, k ≤ 5 → vp_in (nI i + Int32.ofNat k) L) (hl : lv_has ls 7 [(4, .int (nI i)), (3, .ref ho), (2, .ref (ad 440)), (1, .ref (ad 406)), (0, .ref b)]) (kk : ∀ (h : zH) (H : Heap) (locs : List Loc) (ls : Array Slot), lwI cI cZ cQ cG cJ dC dI ad ho s h H locs → r0 h → lv_has ls 7 [(4, .int (nI i)), (3, .ref ho), (2, .ref (ad 440)), (1, .ref (ad 406)), (0, .ref b)] → W p l e room_1 s m #[Value.ref b] below meth c H locs (cells + 10) (slots + 100) Q (F0 m 1535 ls [])) : W p l e room_1 s m #[Value.ref b] below meth c H locs cells slots Q (F0 m 1384 ls []) := by
  obtain ⟨hx, hb, hr, hml, hown0, hts0, hX, hbl, hlocks, hgv⟩ := id C0
  have hown : s.vm.findClass RL = some m.cls := hown0
  have hbA : ¬ (s.heap.size ≤ b) := Nat.not_le.mpr hbl
  refine lv_aload_n hx hb dL_law_1384 rfl (lv_at hl 3 rfl) ?_
  refine lv_aload_n hx hb dL_law_1385 rfl (lv_at hl 4 rfl) ?_
  refine lv_iload hx hb dL_law_1386 (lv_at hl 0 rfl) ?_
  refine lv_iconst (v := 1) hx hb dL_law_1388 (by decide) ?_
  refine lv_iadd hx hb dL_law_1389 ?_
  refine va_sld (i := nI i + 1) hx hb hX hbl hbA hI.2.2.1 (hi 1 (by decide)) dL_law_1390 ?_
  refine lw_pubz C0 X hI hsn (by omega) (by omega) (as := [.inl (xs (nI i + 1).toNatClampNeg)]) (na := 2) (kc := 11) (rest := []) (zP_X11_watcher hI.2.1 (xs (nI i + 1).toNatClampNeg)) (by decide +kernel) (by decide) (yWat_in (i := 976) (by decide +kernel)) rfl rfl (Nat.le_of_ble_eq_true rfl) dL_law_1391 rfl (Nat.le_of_ble_eq_true rfl) hl.1 (fun x9 h H locs hI hsn => ?_)
  refine lv_pop hx hb dL_law_1394 rfl ?_
  refine lv_aload_n hx hb dL_law_1395 rfl (lv_at hl 2 rfl) ?_
  refine lv_aload_n hx hb dL_law_1396 rfl (lv_at hl 4 rfl) ?_
  refine lv_iload hx hb dL_law_1397 (lv_at hl 0 rfl) ?_
  refine lv_iconst (v := 1) hx hb dL_law_1399 (by decide) ?_
  refine lv_iadd hx hb dL_law_1400 ?_
  refine va_sld (i := nI i + 1) hx hb hX hbl hbA hI.2.2.1 (hi 1 (by decide)) dL_law_1401 ?_
  refine lw_pubz C0 X hI hsn (by omega) (by omega) (as := [.inl (xs (nI i + 1).toNatClampNeg)]) (na := 2) (kc := 12) (rest := []) (zP_X12_watcher hI.2.1 (xs (nI i + 1).toNatClampNeg)) (by decide +kernel) (by decide) (yWat_in (i := 1501) (by decide +kernel)) rfl rfl (Nat.le_of_ble_eq_true rfl) dL_law_1402 rfl (Nat.le_of_ble_eq_true rfl) hl.1 (fun x9 h H locs hI hsn => ?_)
  refine lv_pop hx hb dL_law_1405 rfl ?_
  refine lv_goto (tgt := 1535) hx hb dL_law_1406 (by decide) ?_
  exact W.widen (k := cells + 10) (n := slots + 100) (by omega) (by omega) (kk _ _ _ _ hI hsn hl)
set_option maxHeartbeats 4000000 in
theorem lc_34 {p : Program} {l : Launch} {e : Env} {s : State} {m : MethodId} {below : List Frame} {meth : Method} {c : Code} {b L : Nat} {xs : Nat → Int32} {cI cZ cQ cG cJ : ClassId} {dC : Nat → ClassId} {dI : Nat → Nat → Nat} {ad : Nat → Nat} {ho sa : Nat} {h : zH} {H : Heap} {locs : List Loc} {cells slots i : Nat} {Q : State → Prop} {ls : Array Slot} (C0 : lw_At p s m meth c b L xs) (X : lwK l cI cZ cQ cG cJ dC dI ad ho sa s) (hI : lwI cI cZ cQ cG cJ dC dI ad ho s h H locs) (hsn : r0 h) (lw_c : cells + 10 ≤ 601024) (lw_s : slots + 100 ≤ 7293034) (hi : ∀ k : Nat, k ≤ 5 → vp_in (nI i + Int32.ofNat k) L) (hl : lv_has ls 7 [(4, .int (nI i)), (3, .ref ho), (2, .ref (ad 440)), (1, .ref (ad 406)), (0, .ref b)]) (kk : ∀ (h : zH) (H : Heap) (locs : List Loc) (ls : Array Slot), lwI cI cZ cQ cG cJ dC dI ad ho s h H locs → r0 h → lv_has ls 7 [(4, .int (nI i)), (3, .ref ho), (2, .ref (ad 440)), (1, .ref (ad 406)), (0, .ref b)] → W p l e room_1 s m #[Value.ref b] below meth c H locs (cells + 10) (slots + 100) Q (F0 m 1535 ls [])) : W p l e room_1 s m #[Value.ref b] below meth c H locs cells slots Q (F0 m 1409 ls []) := by
  obtain ⟨hx, hb, hr, hml, hown0, hts0, hX, hbl, hlocks, hgv⟩ := id C0
  have hown : s.vm.findClass RL = some m.cls := hown0
  have hbA : ¬ (s.heap.size ≤ b) := Nat.not_le.mpr hbl
  refine lv_aload_n hx hb dL_law_1409 rfl (lv_at hl 3 rfl) ?_
  refine lv_aload_n hx hb dL_law_1410 rfl (lv_at hl 4 rfl) ?_
  refine lv_iload hx hb dL_law_1411 (lv_at hl 0 rfl) ?_
  refine lv_iconst (v := 1) hx hb dL_law_1413 (by decide) ?_
  refine lv_iadd hx hb dL_law_1414 ?_
  refine va_sld (i := nI i + 1) hx hb hX hbl hbA hI.2.2.1 (hi 1 (by decide)) dL_law_1415 ?_
  refine lw_pubz C0 X hI hsn (by omega) (by omega) (as := [.inl (xs (nI i + 1).toNatClampNeg)]) (na := 2) (kc := 11) (rest := []) (zP_X11_awake hI.2.1 (xs (nI i + 1).toNatClampNeg)) (by decide +kernel) (by decide) (yWat_in (i := 823) (by decide +kernel)) rfl rfl (Nat.le_of_ble_eq_true rfl) dL_law_1416 rfl (Nat.le_of_ble_eq_true rfl) hl.1 (fun x9 h H locs hI hsn => ?_)
  refine lv_pop hx hb dL_law_1419 rfl ?_
  refine lv_aload_n hx hb dL_law_1420 rfl (lv_at hl 2 rfl) ?_
  refine lv_aload_n hx hb dL_law_1421 rfl (lv_at hl 4 rfl) ?_
  refine lv_iload hx hb dL_law_1422 (lv_at hl 0 rfl) ?_
  refine lv_iconst (v := 1) hx hb dL_law_1424 (by decide) ?_
  refine lv_iadd hx hb dL_law_1425 ?_
  refine va_sld (i := nI i + 1) hx hb hX hbl hbA hI.2.2.1 (hi 1 (by decide)) dL_law_1426 ?_
  refine lw_pubz C0 X hI hsn (by omega) (by omega) (as := [.inl (xs (nI i + 1).toNatClampNeg)]) (na := 2) (kc := 12) (rest := []) (zP_X12_awake hI.2.1 (xs (nI i + 1).toNatClampNeg)) (by decide +kernel) (by decide) (yWat_in (i := 1392) (by decide +kernel)) rfl rfl (Nat.le_of_ble_eq_true rfl) dL_law_1427 rfl (Nat.le_of_ble_eq_true rfl) hl.1 (fun x9 h H locs hI hsn => ?_)
  refine lv_pop hx hb dL_law_1430 rfl ?_
  refine lv_goto (tgt := 1535) hx hb dL_law_1431 (by decide) ?_
  exact W.widen (k := cells + 10) (n := slots + 100) (by omega) (by omega) (kk _ _ _ _ hI hsn hl)
set_option maxHeartbeats 4000000 in
theorem lc_35 {p : Program} {l : Launch} {e : Env} {s : State} {m : MethodId} {below : List Frame} {meth : Method} {c : Code} {b L : Nat} {xs : Nat → Int32} {cI cZ cQ cG cJ : ClassId} {dC : Nat → ClassId} {dI : Nat → Nat → Nat} {ad : Nat → Nat} {ho sa : Nat} {h : zH} {H : Heap} {locs : List Loc} {cells slots i : Nat} {Q : State → Prop} {ls : Array Slot} (C0 : lw_At p s m meth c b L xs) (X : lwK l cI cZ cQ cG cJ dC dI ad ho sa s) (hI : lwI cI cZ cQ cG cJ dC dI ad ho s h H locs) (hsn : r0 h) (lw_c : cells + 10 ≤ 601024) (lw_s : slots + 100 ≤ 7293034) (hi : ∀ k : Nat, k ≤ 5 → vp_in (nI i + Int32.ofNat k) L) (hl : lv_has ls 7 [(4, .int (nI i)), (3, .ref ho), (2, .ref (ad 440)), (1, .ref (ad 406)), (0, .ref b)]) (kk : ∀ (h : zH) (H : Heap) (locs : List Loc) (ls : Array Slot), lwI cI cZ cQ cG cJ dC dI ad ho s h H locs → r0 h → lv_has ls 7 [(4, .int (nI i)), (3, .ref ho), (2, .ref (ad 440)), (1, .ref (ad 406)), (0, .ref b)] → W p l e room_1 s m #[Value.ref b] below meth c H locs (cells + 10) (slots + 100) Q (F0 m 1535 ls [])) : W p l e room_1 s m #[Value.ref b] below meth c H locs cells slots Q (F0 m 1434 ls []) := by
  obtain ⟨hx, hb, hr, hml, hown0, hts0, hX, hbl, hlocks, hgv⟩ := id C0
  have hown : s.vm.findClass RL = some m.cls := hown0
  have hbA : ¬ (s.heap.size ≤ b) := Nat.not_le.mpr hbl
  refine lv_aload_n hx hb dL_law_1434 rfl (lv_at hl 3 rfl) ?_
  refine lv_aload_n hx hb dL_law_1435 rfl (lv_at hl 4 rfl) ?_
  refine lv_iload hx hb dL_law_1436 (lv_at hl 0 rfl) ?_
  refine lv_iconst (v := 1) hx hb dL_law_1438 (by decide) ?_
  refine lv_iadd hx hb dL_law_1439 ?_
  refine va_sld (i := nI i + 1) hx hb hX hbl hbA hI.2.2.1 (hi 1 (by decide)) dL_law_1440 ?_
  refine lw_pubz C0 X hI hsn (by omega) (by omega) (as := [.inl (xs (nI i + 1).toNatClampNeg)]) (na := 2) (kc := 11) (rest := []) (zP_X11_most hI.2.1 (xs (nI i + 1).toNatClampNeg)) (by decide +kernel) (by decide) (yWat_in (i := 981) (by decide +kernel)) rfl rfl (Nat.le_of_ble_eq_true rfl) dL_law_1441 rfl (Nat.le_of_ble_eq_true rfl) hl.1 (fun x9 h H locs hI hsn => ?_)
  refine lv_pop hx hb dL_law_1444 rfl ?_
  refine lv_aload_n hx hb dL_law_1445 rfl (lv_at hl 2 rfl) ?_
  refine lv_aload_n hx hb dL_law_1446 rfl (lv_at hl 4 rfl) ?_
  refine lv_iload hx hb dL_law_1447 (lv_at hl 0 rfl) ?_
  refine lv_iconst (v := 1) hx hb dL_law_1449 (by decide) ?_
  refine lv_iadd hx hb dL_law_1450 ?_
  refine va_sld (i := nI i + 1) hx hb hX hbl hbA hI.2.2.1 (hi 1 (by decide)) dL_law_1451 ?_
  refine lw_pubz C0 X hI hsn (by omega) (by omega) (as := [.inl (xs (nI i + 1).toNatClampNeg)]) (na := 2) (kc := 12) (rest := []) (zP_X12_most hI.2.1 (xs (nI i + 1).toNatClampNeg)) (by decide +kernel) (by decide) (yWat_in (i := 1505) (by decide +kernel)) rfl rfl (Nat.le_of_ble_eq_true rfl) dL_law_1452 rfl (Nat.le_of_ble_eq_true rfl) hl.1 (fun x9 h H locs hI hsn => ?_)
  refine lv_pop hx hb dL_law_1455 rfl ?_
  refine lv_goto (tgt := 1535) hx hb dL_law_1456 (by decide) ?_
  exact W.widen (k := cells + 10) (n := slots + 100) (by omega) (by omega) (kk _ _ _ _ hI hsn hl)
set_option maxHeartbeats 4000000 in
theorem lc_36 {p : Program} {l : Launch} {e : Env} {s : State} {m : MethodId} {below : List Frame} {meth : Method} {c : Code} {b L : Nat} {xs : Nat → Int32} {cI cZ cQ cG cJ : ClassId} {dC : Nat → ClassId} {dI : Nat → Nat → Nat} {ad : Nat → Nat} {ho sa : Nat} {h : zH} {H : Heap} {locs : List Loc} {cells slots i : Nat} {Q : State → Prop} {ls : Array Slot} (C0 : lw_At p s m meth c b L xs) (X : lwK l cI cZ cQ cG cJ dC dI ad ho sa s) (hI : lwI cI cZ cQ cG cJ dC dI ad ho s h H locs) (hsn : r0 h) (lw_c : cells + 10 ≤ 601024) (lw_s : slots + 100 ≤ 7293034) (hi : ∀ k : Nat, k ≤ 5 → vp_in (nI i + Int32.ofNat k) L) (hl : lv_has ls 7 [(4, .int (nI i)), (3, .ref ho), (2, .ref (ad 440)), (1, .ref (ad 406)), (0, .ref b)]) (kk : ∀ (h : zH) (H : Heap) (locs : List Loc) (ls : Array Slot), lwI cI cZ cQ cG cJ dC dI ad ho s h H locs → r0 h → lv_has ls 7 [(4, .int (nI i)), (3, .ref ho), (2, .ref (ad 440)), (1, .ref (ad 406)), (0, .ref b)] → W p l e room_1 s m #[Value.ref b] below meth c H locs (cells + 10) (slots + 100) Q (F0 m 1535 ls [])) : W p l e room_1 s m #[Value.ref b] below meth c H locs cells slots Q (F0 m 1459 ls []) := by
  obtain ⟨hx, hb, hr, hml, hown0, hts0, hX, hbl, hlocks, hgv⟩ := id C0
  have hown : s.vm.findClass RL = some m.cls := hown0
  have hbA : ¬ (s.heap.size ≤ b) := Nat.not_le.mpr hbl
  refine lv_aload_n hx hb dL_law_1459 rfl (lv_at hl 3 rfl) ?_
  refine lv_aload_n hx hb dL_law_1460 rfl (lv_at hl 4 rfl) ?_
  refine lv_iload hx hb dL_law_1461 (lv_at hl 0 rfl) ?_
  refine lv_iconst (v := 1) hx hb dL_law_1463 (by decide) ?_
  refine lv_iadd hx hb dL_law_1464 ?_
  refine va_sld (i := nI i + 1) hx hb hX hbl hbA hI.2.2.1 (hi 1 (by decide)) dL_law_1465 ?_
  refine lw_pubz C0 X hI hsn (by omega) (by omega) (as := [.inl (xs (nI i + 1).toNatClampNeg)]) (na := 2) (kc := 11) (rest := []) (zP_X11_spare hI.2.1 (xs (nI i + 1).toNatClampNeg)) (by decide +kernel) (by decide) (yWat_in (i := 991) (by decide +kernel)) rfl rfl (Nat.le_of_ble_eq_true rfl) dL_law_1466 rfl (Nat.le_of_ble_eq_true rfl) hl.1 (fun x9 h H locs hI hsn => ?_)
  refine lv_pop hx hb dL_law_1469 rfl ?_
  refine lv_aload_n hx hb dL_law_1470 rfl (lv_at hl 2 rfl) ?_
  refine lv_aload_n hx hb dL_law_1471 rfl (lv_at hl 4 rfl) ?_
  refine lv_iload hx hb dL_law_1472 (lv_at hl 0 rfl) ?_
  refine lv_iconst (v := 1) hx hb dL_law_1474 (by decide) ?_
  refine lv_iadd hx hb dL_law_1475 ?_
  refine va_sld (i := nI i + 1) hx hb hX hbl hbA hI.2.2.1 (hi 1 (by decide)) dL_law_1476 ?_
  refine lw_pubz C0 X hI hsn (by omega) (by omega) (as := [.inl (xs (nI i + 1).toNatClampNeg)]) (na := 2) (kc := 12) (rest := []) (zP_X12_spare hI.2.1 (xs (nI i + 1).toNatClampNeg)) (by decide +kernel) (by decide) (yWat_in (i := 1515) (by decide +kernel)) rfl rfl (Nat.le_of_ble_eq_true rfl) dL_law_1477 rfl (Nat.le_of_ble_eq_true rfl) hl.1 (fun x9 h H locs hI hsn => ?_)
  refine lv_pop hx hb dL_law_1480 rfl ?_
  refine lv_goto (tgt := 1535) hx hb dL_law_1481 (by decide) ?_
  exact W.widen (k := cells + 10) (n := slots + 100) (by omega) (by omega) (kk _ _ _ _ hI hsn hl)
set_option maxHeartbeats 4000000 in
theorem lc_37 {p : Program} {l : Launch} {e : Env} {s : State} {m : MethodId} {below : List Frame} {meth : Method} {c : Code} {b L : Nat} {xs : Nat → Int32} {cI cZ cQ cG cJ : ClassId} {dC : Nat → ClassId} {dI : Nat → Nat → Nat} {ad : Nat → Nat} {ho sa : Nat} {h : zH} {H : Heap} {locs : List Loc} {cells slots i : Nat} {Q : State → Prop} {ls : Array Slot} (C0 : lw_At p s m meth c b L xs) (X : lwK l cI cZ cQ cG cJ dC dI ad ho sa s) (hI : lwI cI cZ cQ cG cJ dC dI ad ho s h H locs) (hsn : r0 h) (lw_c : cells + 10 ≤ 601024) (lw_s : slots + 100 ≤ 7293034) (hi : ∀ k : Nat, k ≤ 5 → vp_in (nI i + Int32.ofNat k) L) (hl : lv_has ls 7 [(4, .int (nI i)), (3, .ref ho), (2, .ref (ad 440)), (1, .ref (ad 406)), (0, .ref b)]) (kk : ∀ (h : zH) (H : Heap) (locs : List Loc) (ls : Array Slot), lwI cI cZ cQ cG cJ dC dI ad ho s h H locs → r0 h → lv_has ls 7 [(4, .int (nI i)), (3, .ref ho), (2, .ref (ad 440)), (1, .ref (ad 406)), (0, .ref b)] → W p l e room_1 s m #[Value.ref b] below meth c H locs (cells + 10) (slots + 100) Q (F0 m 1535 ls [])) : W p l e room_1 s m #[Value.ref b] below meth c H locs cells slots Q (F0 m 1484 ls []) := by
  obtain ⟨hx, hb, hr, hml, hown0, hts0, hX, hbl, hlocks, hgv⟩ := id C0
  have hown : s.vm.findClass RL = some m.cls := hown0
  have hbA : ¬ (s.heap.size ≤ b) := Nat.not_le.mpr hbl
  refine lv_aload_n hx hb dL_law_1484 rfl (lv_at hl 3 rfl) ?_
  refine lw_pubz C0 X hI hsn (by omega) (by omega) (as := []) (na := 1) (kc := 11) (rest := []) (zP_X11_image hI.2.1) (by decide +kernel) (by decide) (yWat_in (i := 995) (by decide +kernel)) rfl rfl (Nat.le_of_ble_eq_true rfl) dL_law_1485 rfl (Nat.le_of_ble_eq_true rfl) hl.1 (fun x9 h H locs hI hsn => ?_)
  refine lv_pop hx hb dL_law_1488 rfl ?_
  refine lv_aload_n hx hb dL_law_1489 rfl (lv_at hl 2 rfl) ?_
  refine lw_pubz C0 X hI hsn (by omega) (by omega) (as := []) (na := 1) (kc := 12) (rest := []) (zP_X12_image hI.2.1) (by decide +kernel) (by decide) (yWat_in (i := 1519) (by decide +kernel)) rfl rfl (Nat.le_of_ble_eq_true rfl) dL_law_1490 rfl (Nat.le_of_ble_eq_true rfl) hl.1 (fun x9 h H locs hI hsn => ?_)
  refine lv_pop hx hb dL_law_1493 rfl ?_
  refine lv_goto (tgt := 1535) hx hb dL_law_1494 (by decide) ?_
  exact W.widen (k := cells + 10) (n := slots + 100) (by omega) (by omega) (kk _ _ _ _ hI hsn hl)
set_option maxHeartbeats 4000000 in
theorem lc_38 {p : Program} {l : Launch} {e : Env} {s : State} {m : MethodId} {below : List Frame} {meth : Method} {c : Code} {b L : Nat} {xs : Nat → Int32} {cI cZ cQ cG cJ : ClassId} {dC : Nat → ClassId} {dI : Nat → Nat → Nat} {ad : Nat → Nat} {ho sa : Nat} {h : zH} {H : Heap} {locs : List Loc} {cells slots i : Nat} {Q : State → Prop} {ls : Array Slot} (C0 : lw_At p s m meth c b L xs) (X : lwK l cI cZ cQ cG cJ dC dI ad ho sa s) (hI : lwI cI cZ cQ cG cJ dC dI ad ho s h H locs) (hsn : r0 h) (lw_c : cells + 10 ≤ 601024) (lw_s : slots + 100 ≤ 7293034) (hi : ∀ k : Nat, k ≤ 5 → vp_in (nI i + Int32.ofNat k) L) (hl : lv_has ls 7 [(4, .int (nI i)), (3, .ref ho), (2, .ref (ad 440)), (1, .ref (ad 406)), (0, .ref b)]) (kk : ∀ (h : zH) (H : Heap) (locs : List Loc) (ls : Array Slot), lwI cI cZ cQ cG cJ dC dI ad ho s h H locs → r0 h → lv_has ls 7 [(4, .int (nI i)), (3, .ref ho), (2, .ref (ad 440)), (1, .ref (ad 406)), (0, .ref b)] → W p l e room_1 s m #[Value.ref b] below meth c H locs (cells + 10) (slots + 100) Q (F0 m 1535 ls [])) : W p l e room_1 s m #[Value.ref b] below meth c H locs cells slots Q (F0 m 1497 ls []) := by
  obtain ⟨hx, hb, hr, hml, hown0, hts0, hX, hbl, hlocks, hgv⟩ := id C0
  have hown : s.vm.findClass RL = some m.cls := hown0
  have hbA : ¬ (s.heap.size ≤ b) := Nat.not_le.mpr hbl
  refine lv_aload_n hx hb dL_law_1497 rfl (lv_at hl 3 rfl) ?_
  refine lw_pubz C0 X hI hsn (by omega) (by omega) (as := []) (na := 1) (kc := 11) (rest := []) (zP_X11_back hI.2.1) (by decide +kernel) (by decide) (yWat_in (i := 999) (by decide +kernel)) rfl rfl (Nat.le_of_ble_eq_true rfl) dL_law_1498 rfl (Nat.le_of_ble_eq_true rfl) hl.1 (fun x9 h H locs hI hsn => ?_)
  refine lv_pop hx hb dL_law_1501 rfl ?_
  refine lv_aload_n hx hb dL_law_1502 rfl (lv_at hl 2 rfl) ?_
  refine lw_pubz C0 X hI hsn (by omega) (by omega) (as := []) (na := 1) (kc := 12) (rest := []) (zP_X12_back hI.2.1) (by decide +kernel) (by decide) (yWat_in (i := 1523) (by decide +kernel)) rfl rfl (Nat.le_of_ble_eq_true rfl) dL_law_1503 rfl (Nat.le_of_ble_eq_true rfl) hl.1 (fun x9 h H locs hI hsn => ?_)
  refine lv_pop hx hb dL_law_1506 rfl ?_
  refine lv_goto (tgt := 1535) hx hb dL_law_1507 (by decide) ?_
  exact W.widen (k := cells + 10) (n := slots + 100) (by omega) (by omega) (kk _ _ _ _ hI hsn hl)
set_option maxHeartbeats 4000000 in
theorem lc_39 {p : Program} {l : Launch} {e : Env} {s : State} {m : MethodId} {below : List Frame} {meth : Method} {c : Code} {b L : Nat} {xs : Nat → Int32} {cI cZ cQ cG cJ : ClassId} {dC : Nat → ClassId} {dI : Nat → Nat → Nat} {ad : Nat → Nat} {ho sa : Nat} {h : zH} {H : Heap} {locs : List Loc} {cells slots i : Nat} {Q : State → Prop} {ls : Array Slot} (C0 : lw_At p s m meth c b L xs) (X : lwK l cI cZ cQ cG cJ dC dI ad ho sa s) (hI : lwI cI cZ cQ cG cJ dC dI ad ho s h H locs) (hsn : r0 h) (lw_c : cells + 10 ≤ 601024) (lw_s : slots + 100 ≤ 7293034) (hi : ∀ k : Nat, k ≤ 5 → vp_in (nI i + Int32.ofNat k) L) (hl : lv_has ls 7 [(4, .int (nI i)), (3, .ref ho), (2, .ref (ad 440)), (1, .ref (ad 406)), (0, .ref b)]) (kk : ∀ (h : zH) (H : Heap) (locs : List Loc) (ls : Array Slot), lwI cI cZ cQ cG cJ dC dI ad ho s h H locs → r0 h → lv_has ls 7 [(4, .int (nI i)), (3, .ref ho), (2, .ref (ad 440)), (1, .ref (ad 406)), (0, .ref b)] → W p l e room_1 s m #[Value.ref b] below meth c H locs (cells + 10) (slots + 100) Q (F0 m 1535 ls [])) : W p l e room_1 s m #[Value.ref b] below meth c H locs cells slots Q (F0 m 1510 ls []) := by
  obtain ⟨hx, hb, hr, hml, hown0, hts0, hX, hbl, hlocks, hgv⟩ := id C0
  have hown : s.vm.findClass RL = some m.cls := hown0
  have hbA : ¬ (s.heap.size ≤ b) := Nat.not_le.mpr hbl
  refine lv_aload_n hx hb dL_law_1510 rfl (lv_at hl 3 rfl) ?_
  refine lv_aload_n hx hb dL_law_1511 rfl (lv_at hl 4 rfl) ?_
  refine lv_iload hx hb dL_law_1512 (lv_at hl 0 rfl) ?_
  refine lv_iconst (v := 1) hx hb dL_law_1514 (by decide) ?_
  refine lv_iadd hx hb dL_law_1515 ?_
  refine va_sld (i := nI i + 1) hx hb hX hbl hbA hI.2.2.1 (hi 1 (by decide)) dL_law_1516 ?_
  refine lw_pubz C0 X hI hsn (by omega) (by omega) (as := [.inl (xs (nI i + 1).toNatClampNeg)]) (na := 2) (kc := 11) (rest := []) (zP_X11_count hI.2.1 (xs (nI i + 1).toNatClampNeg)) (by decide +kernel) (by decide) (yWat_in (i := 1003) (by decide +kernel)) rfl rfl (Nat.le_of_ble_eq_true rfl) dL_law_1517 rfl (Nat.le_of_ble_eq_true rfl) hl.1 (fun x9 h H locs hI hsn => ?_)
  refine lv_pop hx hb dL_law_1520 rfl ?_
  refine lv_aload_n hx hb dL_law_1521 rfl (lv_at hl 2 rfl) ?_
  refine lv_aload_n hx hb dL_law_1522 rfl (lv_at hl 4 rfl) ?_
  refine lv_iload hx hb dL_law_1523 (lv_at hl 0 rfl) ?_
  refine lv_iconst (v := 1) hx hb dL_law_1525 (by decide) ?_
  refine lv_iadd hx hb dL_law_1526 ?_
  refine va_sld (i := nI i + 1) hx hb hX hbl hbA hI.2.2.1 (hi 1 (by decide)) dL_law_1527 ?_
  refine lw_pubz C0 X hI hsn (by omega) (by omega) (as := [.inl (xs (nI i + 1).toNatClampNeg)]) (na := 2) (kc := 12) (rest := []) (zP_X12_count hI.2.1 (xs (nI i + 1).toNatClampNeg)) (by decide +kernel) (by decide) (yWat_in (i := 1527) (by decide +kernel)) rfl rfl (Nat.le_of_ble_eq_true rfl) dL_law_1528 rfl (Nat.le_of_ble_eq_true rfl) hl.1 (fun x9 h H locs hI hsn => ?_)
  refine lv_pop hx hb dL_law_1531 rfl ?_
  refine lv_goto (tgt := 1535) hx hb dL_law_1532 (by decide) ?_
  exact W.widen (k := cells + 10) (n := slots + 100) (by omega) (by omega) (kk _ _ _ _ hI hsn hl)
