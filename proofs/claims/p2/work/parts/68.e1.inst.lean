/-! the tables fit the words -/
noncomputable def yCnL : List String := [RJ0, RJ1, RJ11, RJ2, RJ3, RJ6, RJ9, RX0, RX1, RX10, RX11, RX12, RX2, RX3, RX4, RX5, RX6, RX7, RX8, RX9]
noncomputable def yCn (c : Nat) : String := yCnL.getD c ""
noncomputable def yMYL : List MethodName := [yJ0_checkBoundsBeginEnd_23922, yJ0_coder_7d493, yJ0_indexOf_0f7a4, yJ0_indexOf_7cf53, yJ0_isLatin1_aae02, yJ0_length_8abf5, yJ11_highSurrogate_5068e, yJ11_isValidCodePoint_9a6ad, yJ11_lowSurrogate_5068e, yJ1_canEncode_9a6ad, yJ1_indexOfChar_4cfef, yJ1_indexOf_4cfef, yJ2_checkBoundsBeginEnd_d044e, yJ2_getChar_3b067, yJ2_indexOfCharUnsafe_4cfef, yJ2_indexOfChar_4cfef, yJ2_indexOfSupplementary_4cfef, yJ2_indexOf_4cfef, yJ2_length_9d52b, yJ3_checkFromToIndex_8c36e, yJ6_bitCount_0f7a4, yJ9_abs_0f7a4, yJ9_max_7cf53, yJ9_max_f86c9, yJ9_min_7cf53, yJ9_min_f86c9, yX0_remember, yX0_takeBack, yX10_append, yX10_here, yX10_isDigit, yX10_peek, yX10_signsIn, yX10_take, yX10_takeNumber, yX11_areTwo, yX11_awake, yX11_back, yX11_bed, yX11_beginFort, yX11_best, yX11_changePlaces, yX11_count, yX11_digitsOfRow, yX11_draw, yX11_drawBed, yX11_drawPlaces, yX11_dream, yX11_dull, yX11_end, yX11_exchangeInRow, yX11_fault, yX11_feed, yX11_gainOf, yX11_game, yX11_hasFort, yX11_hourToAsk, yX11_image, yX11_isGrowth, yX11_isMove, yX11_law, yX11_layFirstRow, yX11_layNextRow, yX11_liars, yX11_log, yX11_man, yX11_manWith, yX11_most, yX11_night, yX11_nightmaresByRow, yX11_nights, yX11_nightsUntilRested, yX11_odds, yX11_play, yX11_playAll, yX11_refuse, yX11_rests, yX11_restsAt, yX11_ring, yX11_rule, yX11_said, yX11_seen, yX11_shares, yX11_sleeps, yX11_slept, yX11_snow, yX11_spare, yX11_stagger, yX11_status, yX11_sumOfMen, yX11_swap, yX11_text, yX11_train, yX11_undo, yX11_watcher, yX11_who, yX11_years, yX12_areApart, yX12_areNights, yX12_areTwo, yX12_atEnd, yX12_atom, yX12_awake, yX12_awakeIn, yX12_back, yX12_bad, yX12_bed, yX12_begin, yX12_best, yX12_bounded, yX12_byteOf, yX12_clause, yX12_closes, yX12_compare, yX12_condition, yX12_count, yX12_draw, yX12_dream, yX12_dreamOf, yX12_dull, yX12_end, yX12_fault, yX12_feed, yX12_fewest, yX12_game, yX12_gameOf, yX12_goOnAnd, yX12_goOnOr, yX12_has, yX12_here, yX12_highest, yX12_hourToAsk, yX12_image, yX12_in, yX12_isDigit, yX12_isGuarded, yX12_isHour, yX12_isInBed, yX12_isMan, yX12_isMore, yX12_isRefused, yX12_isRest, yX12_isSign, yX12_isSo, yX12_isWho, yX12_isWhole, yX12_itemOf, yX12_items, yX12_keep, yX12_law, yX12_layHour, yX12_layNight, yX12_layTold, yX12_letterOf, yX12_liars, yX12_live, yX12_log, yX12_look, yX12_lowest, yX12_man, yX12_manAt, yX12_most, yX12_mostBy, yX12_night, yX12_nights, yX12_number, yX12_odds, yX12_of, yX12_open, yX12_opens, yX12_passNight, yX12_plainNumber, yX12_put, yX12_readFort, yX12_readLaw, yX12_rested, yX12_rests, yX12_ring, yX12_rule, yX12_said, yX12_seen, yX12_shares, yX12_sleeps, yX12_slept, yX12_snow, yX12_spare, yX12_stagger, yX12_status, yX12_sum, yX12_sumOf, yX12_swap, yX12_swapNow, yX12_takeFort, yX12_term, yX12_text, yX12_train, yX12_tryBeds, yX12_tryRings, yX12_tryRingsFrom, yX12_tryRow, yX12_undo, yX12_unit, yX12_usual, yX12_watcher, yX12_watcherOf, yX12_who, yX12_workOut, yX12_worked, yX12_worthOf, yX12_years, yX1_hasHour, yX1_hasMan, yX2_isWhole, yX2_readClause, yX2_readFort, yX2_readItems, yX2_settle, yX3_add, yX3_held, yX3_reckon, yX3_valueOf, yX3_worth, yX4_emit, yX4_isComparison, yX4_readAtom, yX4_readClause, yX4_readCondition, yX4_readLaw, yX4_readNested, yX4_readSum, yX4_readTerm, yX4_readTruth, yX4_readUnit, yX5_allNightmares, yX5_awakeBits, yX5_clear, yX5_dreamOf, yX5_hourOfFewest, yX5_lieDown, yX5_pass, yX5_run, yX5_sleepOn, yX5_wokenBits, yX6_add, yX7_areApart, yX7_begin, yX7_changesBy, yX7_fewestChanges, yX7_fixLeastBed, yX7_goOn, yX7_goRound, yX7_goRoundFrom, yX7_leastRow, yX7_mayHave, yX8_copyFrom, yX8_logLength, yX8_watcherOf, yX9_consider, yX9_find, yX9_hourThatParts, yX9_isAsSeen]
noncomputable def yMY (m : Nat) : MethodName := yMYL.getD m ⟨"", "", ""⟩
noncomputable def yMCL : List ByteArray := [cJ0_checkBoundsBeginEnd_23922, cJ0_coder_7d493, cJ0_indexOf_0f7a4, cJ0_indexOf_7cf53, cJ0_isLatin1_aae02, cJ0_length_8abf5, cJ11_highSurrogate_5068e, cJ11_isValidCodePoint_9a6ad, cJ11_lowSurrogate_5068e, cJ1_canEncode_9a6ad, cJ1_indexOfChar_4cfef, cJ1_indexOf_4cfef, cJ2_checkBoundsBeginEnd_d044e, cJ2_getChar_3b067, cJ2_indexOfCharUnsafe_4cfef, cJ2_indexOfChar_4cfef, cJ2_indexOfSupplementary_4cfef, cJ2_indexOf_4cfef, cJ2_length_9d52b, cJ3_checkFromToIndex_8c36e, cJ6_bitCount_0f7a4, cJ9_abs_0f7a4, cJ9_max_7cf53, cJ9_max_f86c9, cJ9_min_7cf53, cJ9_min_f86c9, cX0_remember, cX0_takeBack, cX10_append, cX10_here, cX10_isDigit, cX10_peek, cX10_signsIn, cX10_take, cX10_takeNumber, cX11_areTwo, cX11_awake, cX11_back, cX11_bed, cX11_beginFort, cX11_best, cX11_changePlaces, cX11_count, cX11_digitsOfRow, cX11_draw, cX11_drawBed, cX11_drawPlaces, cX11_dream, cX11_dull, cX11_end, cX11_exchangeInRow, cX11_fault, cX11_feed, cX11_gainOf, cX11_game, cX11_hasFort, cX11_hourToAsk, cX11_image, cX11_isGrowth, cX11_isMove, cX11_law, cX11_layFirstRow, cX11_layNextRow, cX11_liars, cX11_log, cX11_man, cX11_manWith, cX11_most, cX11_night, cX11_nightmaresByRow, cX11_nights, cX11_nightsUntilRested, cX11_odds, cX11_play, cX11_playAll, cX11_refuse, cX11_rests, cX11_restsAt, cX11_ring, cX11_rule, cX11_said, cX11_seen, cX11_shares, cX11_sleeps, cX11_slept, cX11_snow, cX11_spare, cX11_stagger, cX11_status, cX11_sumOfMen, cX11_swap, cX11_text, cX11_train, cX11_undo, cX11_watcher, cX11_who, cX11_years, cX12_areApart, cX12_areNights, cX12_areTwo, cX12_atEnd, cX12_atom, cX12_awake, cX12_awakeIn, cX12_back, cX12_bad, cX12_bed, cX12_begin, cX12_best, cX12_bounded, cX12_byteOf, cX12_clause, cX12_closes, cX12_compare, cX12_condition, cX12_count, cX12_draw, cX12_dream, cX12_dreamOf, cX12_dull, cX12_end, cX12_fault, cX12_feed, cX12_fewest, cX12_game, cX12_gameOf, cX12_goOnAnd, cX12_goOnOr, cX12_has, cX12_here, cX12_highest, cX12_hourToAsk, cX12_image, cX12_in, cX12_isDigit, cX12_isGuarded, cX12_isHour, cX12_isInBed, cX12_isMan, cX12_isMore, cX12_isRefused, cX12_isRest, cX12_isSign, cX12_isSo, cX12_isWho, cX12_isWhole, cX12_itemOf, cX12_items, cX12_keep, cX12_law, cX12_layHour, cX12_layNight, cX12_layTold, cX12_letterOf, cX12_liars, cX12_live, cX12_log, cX12_look, cX12_lowest, cX12_man, cX12_manAt, cX12_most, cX12_mostBy, cX12_night, cX12_nights, cX12_number, cX12_odds, cX12_of, cX12_open, cX12_opens, cX12_passNight, cX12_plainNumber, cX12_put, cX12_readFort, cX12_readLaw, cX12_rested, cX12_rests, cX12_ring, cX12_rule, cX12_said, cX12_seen, cX12_shares, cX12_sleeps, cX12_slept, cX12_snow, cX12_spare, cX12_stagger, cX12_status, cX12_sum, cX12_sumOf, cX12_swap, cX12_swapNow, cX12_takeFort, cX12_term, cX12_text, cX12_train, cX12_tryBeds, cX12_tryRings, cX12_tryRingsFrom, cX12_tryRow, cX12_undo, cX12_unit, cX12_usual, cX12_watcher, cX12_watcherOf, cX12_who, cX12_workOut, cX12_worked, cX12_worthOf, cX12_years, cX1_hasHour, cX1_hasMan, cX2_isWhole, cX2_readClause, cX2_readFort, cX2_readItems, cX2_settle, cX3_add, cX3_held, cX3_reckon, cX3_valueOf, cX3_worth, cX4_emit, cX4_isComparison, cX4_readAtom, cX4_readClause, cX4_readCondition, cX4_readLaw, cX4_readNested, cX4_readSum, cX4_readTerm, cX4_readTruth, cX4_readUnit, cX5_allNightmares, cX5_awakeBits, cX5_clear, cX5_dreamOf, cX5_hourOfFewest, cX5_lieDown, cX5_pass, cX5_run, cX5_sleepOn, cX5_wokenBits, cX6_add, cX7_areApart, cX7_begin, cX7_changesBy, cX7_fewestChanges, cX7_fixLeastBed, cX7_goOn, cX7_goRound, cX7_goRoundFrom, cX7_leastRow, cX7_mayHave, cX8_copyFrom, cX8_logLength, cX8_watcherOf, cX9_consider, cX9_find, cX9_hourThatParts, cX9_isAsSeen]
noncomputable def yMC (m : Nat) : ByteArray := yMCL.getD m ⟨#[]⟩
theorem yMc_hi {m : Nat} (h : 261 ≤ m) : yMc m = 999 := by
  unfold yMc
  rw [List.getD_eq_getElem?_getD, List.getElem?_eq_none (by rw [show yMcL.length = 261 by decide +kernel]; exact h)]
  rfl
set_option maxRecDepth 20000 in
theorem yMY_cls {m : Nat} (h : m < 261) : (yMY m).cls = yCn (yMc m) := of_decide_eq_true (yAll (f := fun m => decide ((yMY m).cls = yCn (yMc m))) (n := 261) (by decide +kernel) h)
theorem yfnd0 {α : Type} {L : List (List (Nat × α))} {c i : Nat} {v : α} {p : Nat × α} (hf : (L.getD c []).find? (fun p => p.1 == i) = some p) (h2 : p.2 = v) : c < L.length ∧ (i, v) ∈ L.getD c [] := by
  have h1 : p.1 = i := by have := List.find?_some hf; simpa using this
  have h3 := List.mem_of_find?_eq_some hf
  have h4 : p = (i, v) := by rw [← h1, ← h2]
  rw [h4] at h3
  refine ⟨?_, h3⟩
  rcases Nat.lt_or_ge c L.length with q | q
  · exact q
  · rw [List.getD_eq_getElem?_getD, List.getElem?_eq_none q] at h3
    cases h3
theorem yFl_fnd {c i : Nat} {v : _} (h : yFlC c i = some v) : c < yFlL.length ∧ (i, v) ∈ yFlL.getD c [] := by
  unfold yFlC at h
  cases hf : (yFlL.getD c []).find? (fun p => p.1 == i) with
  | none => rw [hf] at h; cases h
  | some p =>
    rw [hf] at h
    exact yfnd0 hf (Option.some.inj h)
theorem yKi_fnd {c i : Nat} {v : _} (h : yKiC c i = some v) : c < yKiL.length ∧ (i, v) ∈ yKiL.getD c [] := by
  unfold yKiC at h
  cases hf : (yKiL.getD c []).find? (fun p => p.1 == i) with
  | none => rw [hf] at h; cases h
  | some p =>
    rw [hf] at h
    exact yfnd0 hf (Option.some.inj h)
theorem yKl_fnd {c i : Nat} {v : _} (h : yKlC c i = some v) : c < yKlL.length ∧ (i, v) ∈ yKlL.getD c [] := by
  unfold yKlC at h
  cases hf : (yKlL.getD c []).find? (fun p => p.1 == i) with
  | none => rw [hf] at h; cases h
  | some p =>
    rw [hf] at h
    exact yfnd0 hf (Option.some.inj h)
theorem yGs_fnd {c i : Nat} {v : _} (h : yGsC c i = some v) : c < yGsL.length ∧ (i, v) ∈ yGsL.getD c [] := by
  unfold yGsC at h
  cases hf : (yGsL.getD c []).find? (fun p => p.1 == i) with
  | none => rw [hf] at h; cases h
  | some p =>
    rw [hf] at h
    exact yfnd0 hf (Option.some.inj h)
theorem yLs_fnd {c i : Nat} {v : _} (h : yLsC c i = some v) : c < yLsL.length ∧ (i, v) ∈ yLsL.getD c [] := by
  unfold yLsC at h
  cases hf : (yLsL.getD c []).find? (fun p => p.1 == i) with
  | none => rw [hf] at h; cases h
  | some p =>
    rw [hf] at h
    exact yfnd0 hf (Option.some.inj h)
theorem yFs_fnd {c i : Nat} {v : _} (h : yFsC c i = some v) : c < yFsL.length ∧ (i, v) ∈ yFsL.getD c [] := by
  unfold yFsC at h
  cases hf : (yFsL.getD c []).find? (fun p => p.1 == i) with
  | none => rw [hf] at h; cases h
  | some p =>
    rw [hf] at h
    exact yfnd0 hf (Option.some.inj h)
theorem yAc_fnd {c i : Nat} {v : _} (h : yAcC c i = some v) : c < yAcL.length ∧ (i, v) ∈ yAcL.getD c [] := by
  unfold yAcC at h
  cases hf : (yAcL.getD c []).find? (fun p => p.1 == i) with
  | none => rw [hf] at h; cases h
  | some p =>
    rw [hf] at h
    exact yfnd0 hf (Option.some.inj h)
theorem yCa_fnd {c i : Nat} {v : _} (h : yCaC c i = some v) : c < yCaL.length ∧ (i, v) ∈ yCaL.getD c [] := by
  unfold yCaC at h
  cases hf : (yCaL.getD c []).find? (fun p => p.1 == i) with
  | none => rw [hf] at h; cases h
  | some p =>
    rw [hf] at h
    exact yfnd0 hf (Option.some.inj h)
/-- every row of a table has its word at its place -/
noncomputable def yrow {α : Type} (f : Nat → Nat → α → Nat → Bool) (c : Nat) : List (Nat × α) → List Nat → Bool
  | [], _ => true
  | p :: l, q :: r => f c p.1 p.2 q && yrow f c l r
  | _ :: _, [] => false
theorem yrow_in {α : Type} {f : Nat → Nat → α → Nat → Bool} {c : Nat} : ∀ {l : List (Nat × α)} {r : List Nat}, yrow f c l r = true → ∀ p ∈ l, ∃ q, f c p.1 p.2 q = true
  | [], _, _, p, hp => by cases hp
  | x :: l, [], h, _, _ => by cases h
  | x :: l, q :: r, h, p, hp => by
    unfold yrow at h
    rw [Bool.and_eq_true] at h
    rcases List.mem_cons.mp hp with rfl | hp
    · exact ⟨q, h.1⟩
    · exact yrow_in h.2 p hp
noncomputable def ytabk {α : Type} (f : Nat → Nat → α → Nat → Bool) (L : List (List (Nat × α))) (P : List (List Nat)) : Bool := (List.range L.length).all (fun c => yrow f c (L.getD c []) (P.getD c []))
theorem ytabk_in {α : Type} {f : Nat → Nat → α → Nat → Bool} {L : List (List (Nat × α))} {P : List (List Nat)} (h : ytabk f L P = true) {c i : Nat} {v : α} (hc : c < L.length) (hv : (i, v) ∈ L.getD c []) : ∃ q, f c i v q = true := yrow_in (List.all_eq_true.mp h c (List.mem_range.mpr hc)) (i, v) hv
theorem yCls_mid {m : Nat} {L : List String} (hL : L.length = 20) {c : Nat} (hc : c < L.length) (h : yMc m = c) : (yMY m).cls = yCn c := by
  have hm : m < 261 := by
    rcases Nat.lt_or_ge m 261 with q | q
    · exact q
    · rw [yMc_hi q] at h
      omega
  rw [yMY_cls hm, h]
set_option maxRecDepth 20000 in
theorem yu0 : ∀ w ∈ u_ws RX0 TX0 3, w ∈ yALL := by
  intro w hw
  obtain ⟨j, hj, rfl⟩ := List.mem_map.mp hw
  have := yAll (f := fun j => yhas (([310, 311, 312] : List Nat).getD j 0) (u_lay RX0 TX0 j)) (n := 3) (by decide +kernel) (List.mem_range.mp hj)
  exact yhas_in this
set_option maxRecDepth 20000 in
theorem yu1 : ∀ w ∈ u_ws RX1 TX1 5, w ∈ yALL := by
  intro w hw
  obtain ⟨j, hj, rfl⟩ := List.mem_map.mp hw
  have := yAll (f := fun j => yhas (([293, 294, 295, 296, 297] : List Nat).getD j 0) (u_lay RX1 TX1 j)) (n := 5) (by decide +kernel) (List.mem_range.mp hj)
  exact yhas_in this
set_option maxRecDepth 20000 in
theorem yu2 : ∀ w ∈ u_ws RX2 TX2 6, w ∈ yALL := by
  intro w hw
  obtain ⟨j, hj, rfl⟩ := List.mem_map.mp hw
  have := yAll (f := fun j => yhas (([168, 169, 170, 171, 172, 173] : List Nat).getD j 0) (u_lay RX2 TX2 j)) (n := 6) (by decide +kernel) (List.mem_range.mp hj)
  exact yhas_in this
set_option maxRecDepth 20000 in
theorem yu3 : ∀ w ∈ u_ws RX3 TX3 6, w ∈ yALL := by
  intro w hw
  obtain ⟨j, hj, rfl⟩ := List.mem_map.mp hw
  have := yAll (f := fun j => yhas (([205, 206, 207, 208, 209, 210] : List Nat).getD j 0) (u_lay RX3 TX3 j)) (n := 6) (by decide +kernel) (List.mem_range.mp hj)
  exact yhas_in this
set_option maxRecDepth 20000 in
theorem yu4 : ∀ w ∈ u_ws RX4 TX4 3, w ∈ yALL := by
  intro w hw
  obtain ⟨j, hj, rfl⟩ := List.mem_map.mp hw
  have := yAll (f := fun j => yhas (([186, 187, 188] : List Nat).getD j 0) (u_lay RX4 TX4 j)) (n := 3) (by decide +kernel) (List.mem_range.mp hj)
  exact yhas_in this
set_option maxRecDepth 20000 in
theorem yu5 : ∀ w ∈ u_ws RX5 TX5 12, w ∈ yALL := by
  intro w hw
  obtain ⟨j, hj, rfl⟩ := List.mem_map.mp hw
  have := yAll (f := fun j => yhas (([341, 342, 343, 344, 345, 346, 347, 348, 349, 350, 351, 352] : List Nat).getD j 0) (u_lay RX5 TX5 j)) (n := 12) (by decide +kernel) (List.mem_range.mp hj)
  exact yhas_in this
set_option maxRecDepth 20000 in
theorem yu6 : ∀ w ∈ u_ws RX6 TX6 4, w ∈ yALL := by
  intro w hw
  obtain ⟨j, hj, rfl⟩ := List.mem_map.mp hw
  have := yAll (f := fun j => yhas (([370, 371, 372, 373] : List Nat).getD j 0) (u_lay RX6 TX6 j)) (n := 4) (by decide +kernel) (List.mem_range.mp hj)
  exact yhas_in this
set_option maxRecDepth 20000 in
theorem yu7 : ∀ w ∈ u_ws RX7 TX7 6, w ∈ yALL := by
  intro w hw
  obtain ⟨j, hj, rfl⟩ := List.mem_map.mp hw
  have := yAll (f := fun j => yhas (([408, 409, 410, 411, 412, 413] : List Nat).getD j 0) (u_lay RX7 TX7 j)) (n := 6) (by decide +kernel) (List.mem_range.mp hj)
  exact yhas_in this
set_option maxRecDepth 20000 in
theorem yu8 : ∀ w ∈ u_ws RX8 TX8 10, w ∈ yALL := by
  intro w hw
  obtain ⟨j, hj, rfl⟩ := List.mem_map.mp hw
  have := yAll (f := fun j => yhas (([258, 259, 260, 261, 262, 263, 264, 265, 266, 267] : List Nat).getD j 0) (u_lay RX8 TX8 j)) (n := 10) (by decide +kernel) (List.mem_range.mp hj)
  exact yhas_in this
set_option maxRecDepth 20000 in
theorem yu9 : ∀ w ∈ u_ws RX9 TX9 7, w ∈ yALL := by
  intro w hw
  obtain ⟨j, hj, rfl⟩ := List.mem_map.mp hw
  have := yAll (f := fun j => yhas (([389, 390, 391, 392, 393, 394, 395] : List Nat).getD j 0) (u_lay RX9 TX9 j)) (n := 7) (by decide +kernel) (List.mem_range.mp hj)
  exact yhas_in this
set_option maxRecDepth 20000 in
theorem yu10 : ∀ w ∈ u_ws RX10 TX10 3, w ∈ yALL := by
  intro w hw
  obtain ⟨j, hj, rfl⟩ := List.mem_map.mp hw
  have := yAll (f := fun j => yhas (([151, 152, 153] : List Nat).getD j 0) (u_lay RX10 TX10 j)) (n := 3) (by decide +kernel) (List.mem_range.mp hj)
  exact yhas_in this
set_option maxRecDepth 20000 in
theorem yu11 : ∀ w ∈ u_ws RX11 TX11 20, w ∈ yALL := by
  intro w hw
  obtain ⟨j, hj, rfl⟩ := List.mem_map.mp hw
  have := yAll (f := fun j => yhas (([434, 435, 436, 437, 438, 439, 440, 441, 442, 443, 444, 445, 446, 447, 448, 449, 450, 451, 452, 453] : List Nat).getD j 0) (u_lay RX11 TX11 j)) (n := 20) (by decide +kernel) (List.mem_range.mp hj)
  exact yhas_in this
set_option maxRecDepth 20000 in
theorem yu12 : ∀ w ∈ u_ws RX12 TX12 56, w ∈ yALL := by
  intro w hw
  obtain ⟨j, hj, rfl⟩ := List.mem_map.mp hw
  have := yAll (f := fun j => yhas (([1078, 1079, 1080, 1081, 1082, 1083, 1084, 1085, 1086, 1087, 1088, 1089, 1090, 1091, 1092, 1093, 1094, 1095, 1096, 1097, 1098, 1099, 1100, 1101, 1102, 1103, 1104, 1105, 1106, 1107, 1108, 1109, 1110, 1111, 1112, 1113, 1114, 1115, 1116, 1117, 1118, 1119, 1120, 1121, 1122, 1123, 1124, 1125, 1126, 1127, 1128, 1129, 1130, 1131, 1132, 1133] : List Nat).getD j 0) (u_lay RX12 TX12 j)) (n := 56) (by decide +kernel) (List.mem_range.mp hj)
  exact yhas_in this
theorem yCls : ∀ (ci : Nat) (q : vw_C), vwCl[ci]? = some q → ∃ ty0, zCls yALL ci q.1 q.2.1 q.2.2 ty0 := by
  intro ci q hq
  match ci, hq with
  | 0, hq => cases hq; exact ⟨tyX0, rfl, yu0, tyX0_ok, nmX0⟩
  | 1, hq => cases hq; exact ⟨tyX1, rfl, yu1, tyX1_ok, nmX1⟩
  | 2, hq => cases hq; exact ⟨tyX2, rfl, yu2, tyX2_ok, nmX2⟩
  | 3, hq => cases hq; exact ⟨tyX3, rfl, yu3, tyX3_ok, nmX3⟩
  | 4, hq => cases hq; exact ⟨tyX4, rfl, yu4, tyX4_ok, nmX4⟩
  | 5, hq => cases hq; exact ⟨tyX5, rfl, yu5, tyX5_ok, nmX5⟩
  | 6, hq => cases hq; exact ⟨tyX6, rfl, yu6, tyX6_ok, nmX6⟩
  | 7, hq => cases hq; exact ⟨tyX7, rfl, yu7, tyX7_ok, nmX7⟩
  | 8, hq => cases hq; exact ⟨tyX8, rfl, yu8, tyX8_ok, nmX8⟩
  | 9, hq => cases hq; exact ⟨tyX9, rfl, yu9, tyX9_ok, nmX9⟩
  | 10, hq => cases hq; exact ⟨tyX10, rfl, yu10, tyX10_ok, nmX10⟩
  | 11, hq => cases hq; exact ⟨tyX11, rfl, yu11, tyX11_ok, nmX11⟩
  | 12, hq => cases hq; exact ⟨tyX12, rfl, yu12, tyX12_ok, nmX12⟩
  | k + 13, hq => simp [vwCl] at hq
noncomputable def yFlP : List (List Nat) := [[], [], [], [], [], [], [], [306, 307, 308], [268, 274], [144, 145, 147], [414, 415, 416, 417, 418, 419, 420, 421, 422, 423, 424, 425, 426, 427, 428, 429, 430, 431, 432, 433, 146, 150, 272, 201, 183, 185, 291, 309, 369, 279, 283, 250, 287, 234, 229, 224, 237, 240, 244, 204, 257, 247, 333, 335, 324, 327, 337, 339, 329, 388, 385, 363, 366, 360, 322, 331, 254], [1023, 1028, 1029, 1030, 1031, 1032, 1033, 1034, 1037, 1038, 1039, 1040, 1042, 1043, 1045, 1046, 1047, 1049, 1050, 1051, 1052, 1053, 1054, 1060, 1065, 1066, 1067, 1068, 1070, 1071, 1072, 1073, 1074, 1076, 1022, 1024, 1025, 1026, 1036, 1027, 1041, 1044, 1069, 1075, 1061, 1077, 1035, 1055, 1057, 1056, 1059, 1058, 1048, 1062, 1063, 1064], [163, 164, 165, 166, 167, 162, 148, 273, 278, 282, 292, 249, 286, 233, 228, 223, 243], [195, 196, 197, 198, 200, 202], [182, 184, 181, 149], [321, 323, 325, 328, 330, 332, 334, 336, 338, 340, 319, 320, 275, 270, 222, 285, 281, 227, 203, 232, 199, 256, 239, 236, 251, 253, 246], [358, 361, 364, 367], [404, 405, 406, 407, 402, 403, 271, 242, 276, 288, 225], [221, 226, 230, 235, 238, 241, 245, 248, 252, 255], [384, 386, 387, 380, 381, 382, 383, 269, 290, 231, 326, 368, 359, 362, 365, 277]]
noncomputable def yFlF (c i : Nat) (v : Nat × Nat × Nat) (q : Nat) : Bool := match vwCl[v.1]? with
  | some (_, T, Nf) => decide (v.2.1 < Nf) && (yhas q (.fieldLink (yCn c) i (T v.2.1).1 (T v.2.1).2.1 (T v.2.1).2.2.1) && (!decide (v.2.2 ≤ 2) || (decide ((T v.2.1).2.2.2 = false) && decide (parseFieldDescriptor (T v.2.1).2.2.1 = some (zFT v.2.2)))))
  | none => false
set_option maxRecDepth 20000 in
theorem yFl_ok : ytabk yFlF yFlL yFlP = true := by decide +kernel
theorem yOk_fl (m : Nat) : zFldOk yALL (yMY m).cls (yFld m) := by
  intro idx cj fi b h
  obtain ⟨h1, h2⟩ := yFl_fnd h
  obtain ⟨q, hq⟩ := ytabk_in yFl_ok h1 h2
  unfold yFlF at hq
  rw [yCls_mid (L := yCnL) rfl h1 rfl]
  split at hq
  case h_1 C T Nf hv =>
    simp only [Bool.and_eq_true, Bool.or_eq_true, Bool.not_eq_true', decide_eq_true_eq, decide_eq_false_iff_not] at hq
    obtain ⟨ty0, hc⟩ := yCls cj _ hv
    refine ⟨C, T, Nf, ty0, hc, hq.1, yhas_in hq.2.1, fun hb => ?_⟩
    rcases hq.2.2 with q9 | q9
    · exact absurd hb q9
    · exact q9
  case h_2 => cases hq
