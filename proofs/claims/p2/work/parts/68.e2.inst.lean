/-! constants, statics -/
noncomputable def yKiP : List (List Nat) := [[], [], [567, 563], [532], [], [820, 821, 822], [], [], [], [], [799], [1391], [], [738, 740], [], [], [], [], [], []]
noncomputable def yKlP : List (List Nat) := [[], [], [], [], [], [], [], [], [], [], [761, 762, 832, 833], [1344, 1345, 1365, 1366, 1492, 1493], [], [737, 739], [], [], [], [], [], []]
set_option maxRecDepth 20000 in
theorem yKi_ok : ytabk (fun c i v q => yhas q (.constant (yCn c) i v)) yKiL yKiP = true := by decide +kernel
set_option maxRecDepth 20000 in
theorem yKl_ok : ytabk (fun c i v q => yhas q (.constantLong (yCn c) i v)) yKlL yKlP = true := by decide +kernel
noncomputable def yGl : List (String × String × String × zV) := [("java/lang/String", "COMPACT_STRINGS", "Z", .inl 1), (RX2, "RULE_LOW", "[I", .inr (.inr 441)), (RX2, "RULE_HIGH", "[I", .inr (.inr 442)), (RX2, "RULE_FIRST", "[I", .inr (.inr 443)), (RX2, "MAN_LOW", "[I", .inr (.inr 444)), (RX2, "MAN_HIGH", "[I", .inr (.inr 445)), (RX2, "MAN_FIRST", "[I", .inr (.inr 446))]
noncomputable def ySl : List (String × Nat × String × Nat) := [(RX2, 65, "hnc", 448), (RX2, 80, "ndeb", 450), (RX4, 70, "diehwn", 452)]
noncomputable def yGsP : List (List Nat) := [[505], [], [], [], [], [], [], [], [], [], [], [], [477, 488, 489, 580, 581, 582], [], [], [], [], [], [], []]
set_option maxRecDepth 20000 in
theorem yGs_okk : ytabk (fun c i v q => yGl.any (fun z => decide (z.2.2.2 = v) && yhas q (.fieldLink (yCn c) i z.1 z.2.1 z.2.2.1))) yGsL yGsP = true := by decide +kernel
noncomputable def yLsP : List (List Nat) := [[], [], [], [], [], [], [], [], [], [], [], [], [0, 0], [], [0], [], [], [], [], []]
theorem yLs_ok : ytabk (fun c i v _ => ySl.any (fun z => decide (z.1 = yCn c) && (decide (z.2.1 = i) && decide (z.2.2.2 = v)))) yLsL yLsP = true := by decide +kernel
noncomputable def yFsP : List (List Nat) := [[1533, 1532], [], [], [], [], [], [], [], [], [], [], [], [], [], [], [], [], [], [], []]
theorem yFs_ok : ytabk (fun c i v q => yhas q (.fieldLink (yCn c) i "java/lang/String" (if v = 0 then "value" else "coder") (if v = 0 then "[B" else "B"))) yFsL yFsP = true := by decide +kernel
noncomputable def yAcP : List (List Nat) := [[], [], [], [], [], [], [], [], [], [], [], [], [478], [648], [], [], [], [863], [643], []]
set_option maxRecDepth 20000 in
theorem yAc_ok : ytabk (fun c i _ q => yhas q (.methodLink (yCn c) i arraycopyName)) yAcL yAcP = true := by decide +kernel
theorem yOk_L : zOkL yMY yFld yKI yKL yGst yLdS yFldS yAcp yALL yGl ySl := by
  intro m
  refine ⟨yOk_fl m, fun i v h => ?_, fun i v h => ?_, fun i v h => ?_, fun i v h => ?_, fun i v h => ?_, fun i h => ?_⟩
  · obtain ⟨h1, h2⟩ := yKi_fnd h
    obtain ⟨q, hq⟩ := ytabk_in yKi_ok h1 h2
    rw [yCls_mid (L := yCnL) rfl h1 rfl]
    exact yhas_in hq
  · obtain ⟨h1, h2⟩ := yKl_fnd h
    obtain ⟨q, hq⟩ := ytabk_in yKl_ok h1 h2
    rw [yCls_mid (L := yCnL) rfl h1 rfl]
    exact yhas_in hq
  · obtain ⟨h1, h2⟩ := yGs_fnd h
    obtain ⟨q, hq⟩ := ytabk_in yGs_okk h1 h2
    rw [yCls_mid (L := yCnL) rfl h1 rfl]
    obtain ⟨z, hz, hq⟩ := List.any_eq_true.mp hq
    rw [Bool.and_eq_true] at hq
    exact ⟨z, hz, of_decide_eq_true hq.1, yhas_in hq.2⟩
  · obtain ⟨h1, h2⟩ := yLs_fnd h
    obtain ⟨q, hq⟩ := ytabk_in yLs_ok h1 h2
    rw [yCls_mid (L := yCnL) rfl h1 rfl]
    obtain ⟨z, hz, hq⟩ := List.any_eq_true.mp hq
    simp only [Bool.and_eq_true, decide_eq_true_eq] at hq
    refine ⟨z.2.2.1, ?_⟩
    rw [← hq.1, ← hq.2.1, ← hq.2.2]
    exact hz
  · obtain ⟨h1, h2⟩ := yFs_fnd h
    obtain ⟨q, hq⟩ := ytabk_in yFs_ok h1 h2
    rw [yCls_mid (L := yCnL) rfl h1 rfl]
    exact yhas_in hq
  · unfold yAcp at h
    obtain ⟨v, hv⟩ := Option.isSome_iff_exists.mp h
    obtain ⟨h1, h2⟩ := yAc_fnd hv
    obtain ⟨q, hq⟩ := ytabk_in yAc_ok h1 h2
    rw [yCls_mid (L := yCnL) rfl h1 rfl]
    exact ⟨yhas_in hq, yWat_in (i := 480) (by decide +kernel), yWat_in (i := 479) (by decide +kernel), yWat_in (i := 122) (by decide +kernel)⟩
