/-! the tables fit the words -/
def yCnL : List String := [RJ0, RJ1, RJ11, RJ2, RJ3, RJ6, RJ9, RX0, RX1, RX10, RX11, RX12, RX2, RX3, RX4, RX5, RX6, RX7, RX8, RX9]
def yCn (c : Nat) : String := yCnL.getD c ""
def yMYL : List MethodName := [yJ0_checkBoundsBeginEnd_23922, yJ0_coder_7d493, yJ0_indexOf_0f7a4, yJ0_indexOf_7cf53, yJ0_isLatin1_aae02, yJ0_length_8abf5, yJ11_highSurrogate_5068e, yJ11_isValidCodePoint_9a6ad, yJ11_lowSurrogate_5068e, yJ1_canEncode_9a6ad, yJ1_indexOfChar_4cfef, yJ1_indexOf_4cfef, yJ2_checkBoundsBeginEnd_d044e, yJ2_getChar_3b067, yJ2_indexOfCharUnsafe_4cfef, yJ2_indexOfChar_4cfef, yJ2_indexOfSupplementary_4cfef, yJ2_indexOf_4cfef, yJ2_length_9d52b, yJ3_checkFromToIndex_8c36e, yJ6_bitCount_0f7a4, yJ9_abs_0f7a4, yJ9_max_7cf53, yJ9_max_f86c9, yJ9_min_7cf53, yJ9_min_f86c9, yX0_remember, yX0_takeBack, yX10_append, yX10_here, yX10_isDigit, yX10_peek, yX10_signsIn, yX10_take, yX10_takeNumber, yX11_areTwo, yX11_awake, yX11_back, yX11_bed, yX11_beginFort, yX11_best, yX11_changePlaces, yX11_count, yX11_digitsOfRow, yX11_draw, yX11_drawBed, yX11_drawPlaces, yX11_dream, yX11_dull, yX11_end, yX11_exchangeInRow, yX11_fault, yX11_feed, yX11_gainOf, yX11_game, yX11_hasFort, yX11_hourToAsk, yX11_image, yX11_isGrowth, yX11_isMove, yX11_law, yX11_layFirstRow, yX11_layNextRow, yX11_liars, yX11_log, yX11_man, yX11_manWith, yX11_most, yX11_night, yX11_nightmaresByRow, yX11_nights, yX11_nightsUntilRested, yX11_odds, yX11_play, yX11_playAll, yX11_refuse, yX11_rests, yX11_restsAt, yX11_ring, yX11_rule, yX11_said, yX11_seen, yX11_shares, yX11_sleeps, yX11_slept, yX11_snow, yX11_spare, yX11_stagger, yX11_status, yX11_sumOfMen, yX11_swap, yX11_text, yX11_train, yX11_undo, yX11_watcher, yX11_who, yX11_years, yX12_areApart, yX12_areNights, yX12_areTwo, yX12_atEnd, yX12_atom, yX12_awake, yX12_awakeIn, yX12_back, yX12_bad, yX12_bed, yX12_begin, yX12_best, yX12_bounded, yX12_byteOf, yX12_clause, yX12_closes, yX12_compare, yX12_condition, yX12_count, yX12_draw, yX12_dream, yX12_dreamOf, yX12_dull, yX12_end, yX12_fault, yX12_feed, yX12_fewest, yX12_game, yX12_gameOf, yX12_goOnAnd, yX12_goOnOr, yX12_has, yX12_here, yX12_highest, yX12_hourToAsk, yX12_image, yX12_in, yX12_isDigit, yX12_isGuarded, yX12_isHour, yX12_isInBed, yX12_isMan, yX12_isMore, yX12_isRefused, yX12_isRest, yX12_isSign, yX12_isSo, yX12_isWho, yX12_isWhole, yX12_itemOf, yX12_items, yX12_keep, yX12_law, yX12_layHour, yX12_layNight, yX12_layTold, yX12_letterOf, yX12_liars, yX12_live, yX12_log, yX12_look, yX12_lowest, yX12_man, yX12_manAt, yX12_most, yX12_mostBy, yX12_night, yX12_nights, yX12_number, yX12_odds, yX12_of, yX12_open, yX12_opens, yX12_passNight, yX12_plainNumber, yX12_put, yX12_readFort, yX12_readLaw, yX12_rested, yX12_rests, yX12_ring, yX12_rule, yX12_said, yX12_seen, yX12_shares, yX12_sleeps, yX12_slept, yX12_snow, yX12_spare, yX12_stagger, yX12_status, yX12_sum, yX12_sumOf, yX12_swap, yX12_swapNow, yX12_takeFort, yX12_term, yX12_text, yX12_train, yX12_tryBeds, yX12_tryRings, yX12_tryRingsFrom, yX12_tryRow, yX12_undo, yX12_unit, yX12_usual, yX12_watcher, yX12_watcherOf, yX12_who, yX12_workOut, yX12_worked, yX12_worthOf, yX12_years, yX1_hasHour, yX1_hasMan, yX2_isWhole, yX2_readClause, yX2_readFort, yX2_readItems, yX2_settle, yX3_add, yX3_held, yX3_reckon, yX3_valueOf, yX3_worth, yX4_emit, yX4_isComparison, yX4_readAtom, yX4_readClause, yX4_readCondition, yX4_readLaw, yX4_readNested, yX4_readSum, yX4_readTerm, yX4_readTruth, yX4_readUnit, yX5_allNightmares, yX5_awakeBits, yX5_clear, yX5_dreamOf, yX5_hourOfFewest, yX5_lieDown, yX5_pass, yX5_run, yX5_sleepOn, yX5_wokenBits, yX6_add, yX7_areApart, yX7_begin, yX7_changesBy, yX7_fewestChanges, yX7_fixLeastBed, yX7_goOn, yX7_goRound, yX7_goRoundFrom, yX7_leastRow, yX7_mayHave, yX8_copyFrom, yX8_logLength, yX8_watcherOf, yX9_consider, yX9_find, yX9_hourThatParts, yX9_isAsSeen]
def yMY (m : Nat) : MethodName := yMYL.getD m ⟨"", "", ""⟩
def yMCL : List ByteArray := [cJ0_checkBoundsBeginEnd_23922, cJ0_coder_7d493, cJ0_indexOf_0f7a4, cJ0_indexOf_7cf53, cJ0_isLatin1_aae02, cJ0_length_8abf5, cJ11_highSurrogate_5068e, cJ11_isValidCodePoint_9a6ad, cJ11_lowSurrogate_5068e, cJ1_canEncode_9a6ad, cJ1_indexOfChar_4cfef, cJ1_indexOf_4cfef, cJ2_checkBoundsBeginEnd_d044e, cJ2_getChar_3b067, cJ2_indexOfCharUnsafe_4cfef, cJ2_indexOfChar_4cfef, cJ2_indexOfSupplementary_4cfef, cJ2_indexOf_4cfef, cJ2_length_9d52b, cJ3_checkFromToIndex_8c36e, cJ6_bitCount_0f7a4, cJ9_abs_0f7a4, cJ9_max_7cf53, cJ9_max_f86c9, cJ9_min_7cf53, cJ9_min_f86c9, cX0_remember, cX0_takeBack, cX10_append, cX10_here, cX10_isDigit, cX10_peek, cX10_signsIn, cX10_take, cX10_takeNumber, cX11_areTwo, cX11_awake, cX11_back, cX11_bed, cX11_beginFort, cX11_best, cX11_changePlaces, cX11_count, cX11_digitsOfRow, cX11_draw, cX11_drawBed, cX11_drawPlaces, cX11_dream, cX11_dull, cX11_end, cX11_exchangeInRow, cX11_fault, cX11_feed, cX11_gainOf, cX11_game, cX11_hasFort, cX11_hourToAsk, cX11_image, cX11_isGrowth, cX11_isMove, cX11_law, cX11_layFirstRow, cX11_layNextRow, cX11_liars, cX11_log, cX11_man, cX11_manWith, cX11_most, cX11_night, cX11_nightmaresByRow, cX11_nights, cX11_nightsUntilRested, cX11_odds, cX11_play, cX11_playAll, cX11_refuse, cX11_rests, cX11_restsAt, cX11_ring, cX11_rule, cX11_said, cX11_seen, cX11_shares, cX11_sleeps, cX11_slept, cX11_snow, cX11_spare, cX11_stagger, cX11_status, cX11_sumOfMen, cX11_swap, cX11_text, cX11_train, cX11_undo, cX11_watcher, cX11_who, cX11_years, cX12_areApart, cX12_areNights, cX12_areTwo, cX12_atEnd, cX12_atom, cX12_awake, cX12_awakeIn, cX12_back, cX12_bad, cX12_bed, cX12_begin, cX12_best, cX12_bounded, cX12_byteOf, cX12_clause, cX12_closes, cX12_compare, cX12_condition, cX12_count, cX12_draw, cX12_dream, cX12_dreamOf, cX12_dull, cX12_end, cX12_fault, cX12_feed, cX12_fewest, cX12_game, cX12_gameOf, cX12_goOnAnd, cX12_goOnOr, cX12_has, cX12_here, cX12_highest, cX12_hourToAsk, cX12_image, cX12_in, cX12_isDigit, cX12_isGuarded, cX12_isHour, cX12_isInBed, cX12_isMan, cX12_isMore, cX12_isRefused, cX12_isRest, cX12_isSign, cX12_isSo, cX12_isWho, cX12_isWhole, cX12_itemOf, cX12_items, cX12_keep, cX12_law, cX12_layHour, cX12_layNight, cX12_layTold, cX12_letterOf, cX12_liars, cX12_live, cX12_log, cX12_look, cX12_lowest, cX12_man, cX12_manAt, cX12_most, cX12_mostBy, cX12_night, cX12_nights, cX12_number, cX12_odds, cX12_of, cX12_open, cX12_opens, cX12_passNight, cX12_plainNumber, cX12_put, cX12_readFort, cX12_readLaw, cX12_rested, cX12_rests, cX12_ring, cX12_rule, cX12_said, cX12_seen, cX12_shares, cX12_sleeps, cX12_slept, cX12_snow, cX12_spare, cX12_stagger, cX12_status, cX12_sum, cX12_sumOf, cX12_swap, cX12_swapNow, cX12_takeFort, cX12_term, cX12_text, cX12_train, cX12_tryBeds, cX12_tryRings, cX12_tryRingsFrom, cX12_tryRow, cX12_undo, cX12_unit, cX12_usual, cX12_watcher, cX12_watcherOf, cX12_who, cX12_workOut, cX12_worked, cX12_worthOf, cX12_years, cX1_hasHour, cX1_hasMan, cX2_isWhole, cX2_readClause, cX2_readFort, cX2_readItems, cX2_settle, cX3_add, cX3_held, cX3_reckon, cX3_valueOf, cX3_worth, cX4_emit, cX4_isComparison, cX4_readAtom, cX4_readClause, cX4_readCondition, cX4_readLaw, cX4_readNested, cX4_readSum, cX4_readTerm, cX4_readTruth, cX4_readUnit, cX5_allNightmares, cX5_awakeBits, cX5_clear, cX5_dreamOf, cX5_hourOfFewest, cX5_lieDown, cX5_pass, cX5_run, cX5_sleepOn, cX5_wokenBits, cX6_add, cX7_areApart, cX7_begin, cX7_changesBy, cX7_fewestChanges, cX7_fixLeastBed, cX7_goOn, cX7_goRound, cX7_goRoundFrom, cX7_leastRow, cX7_mayHave, cX8_copyFrom, cX8_logLength, cX8_watcherOf, cX9_consider, cX9_find, cX9_hourThatParts, cX9_isAsSeen]
def yMC (m : Nat) : ByteArray := yMCL.getD m ⟨#[]⟩
theorem yMc_hi {m : Nat} (h : 261 ≤ m) : yMc m = 999 := by
  unfold yMc
  rw [List.getD_eq_getElem?_getD, List.getElem?_eq_none (by rw [show yMcL.length = 261 by decide +kernel]; exact h)]
  rfl
set_option maxRecDepth 20000 in
theorem yMY_cls {m : Nat} (h : m < 261) : (yMY m).cls = yCn (yMc m) := of_decide_eq_true (yAll (f := fun m => decide ((yMY m).cls = yCn (yMc m))) (n := 261) (by decide +kernel) h)
theorem yfnd {α : Type} {L : List (List (Nat × α))} {c i : Nat} {v : α} (h : (match (L.getD c []).find? (fun p => p.1 == i) with
  | some p => some p.2
  | none => none) = some v) : c < L.length ∧ (i, v) ∈ L.getD c [] := by
  cases hf : (L.getD c []).find? (fun p => p.1 == i) with
  | none => rw [hf] at h; cases h
  | some p =>
    rw [hf] at h
    have h1 : p.1 = i := by have := List.find?_some hf; simpa using this
    have h2 : p.2 = v := Option.some.inj h
    have h3 := List.mem_of_find?_eq_some hf
    have h4 : p = (i, v) := by rw [← h1, ← h2]
    rw [h4] at h3
    refine ⟨?_, h3⟩
    rcases Nat.lt_or_ge c L.length with q | q
    · exact q
    · rw [List.getD_eq_getElem?_getD, List.getElem?_eq_none q] at h3
      cases h3
/-- every row of a table has its word at its place -/
def yrow {α : Type} (f : Nat → Nat → α → Nat → Bool) (c : Nat) : List (Nat × α) → List Nat → Bool
  | [], _ => true
  | p :: l, q :: r => f c p.1 p.2 q && yrow f c l r
  | _ :: _, [] => false
theorem yrow_in {α : Type} {f : Nat → Nat → α → Nat → Bool} {c : Nat} : ∀ {l : List (Nat × α)} {r : List Nat}, yrow f c l r = true → ∀ p ∈ l, ∃ q, f c p.1 p.2 q = true
  | [], _, _, p, hp => by cases hp
  | x :: l, [], h, _, _ => by cases h
  | x :: l, q :: r, h, p, hp => by
    unfold yrow at h
    rw [Bool.and_eq_true] at h
    rcases List.mem_cons.mp hp with rfl | hp
    · exact ⟨q, h.1⟩
    · exact yrow_in h.2 p hp
def ytabk {α : Type} (f : Nat → Nat → α → Nat → Bool) (L : List (List (Nat × α))) (P : List (List Nat)) : Bool := (List.range L.length).all (fun c => yrow f c (L.getD c []) (P.getD c []))
theorem ytabk_in {α : Type} {f : Nat → Nat → α → Nat → Bool} {L : List (List (Nat × α))} {P : List (List Nat)} (h : ytabk f L P = true) {c i : Nat} {v : α} (hc : c < L.length) (hv : (i, v) ∈ L.getD c []) : ∃ q, f c i v q = true := yrow_in (List.all_eq_true.mp h c (List.mem_range.mpr hc)) (i, v) hv
theorem yCls_mid {m : Nat} {L : List String} (hL : L.length = 20) {c : Nat} (hc : c < L.length) (h : yMc m = c) : (yMY m).cls = yCn c := by
  have hm : m < 261 := by
    rcases Nat.lt_or_ge m 261 with q | q
    · exact q
    · rw [yMc_hi q] at h
      omega
  rw [yMY_cls hm, h]
set_option maxRecDepth 20000 in
theorem yu0 : ∀ w ∈ u_ws RX0 TX0 3, w ∈ yALL := by
  intro w hw
  obtain ⟨j, hj, rfl⟩ := List.mem_map.mp hw
  have := yAll (f := fun j => yhas (([310, 311, 312] : List Nat).getD j 0) (u_lay RX0 TX0 j)) (n := 3) (by decide +kernel) (List.mem_range.mp hj)
  exact yhas_in this
set_option maxRecDepth 20000 in
theorem yu1 : ∀ w ∈ u_ws RX1 TX1 5, w ∈ yALL := by
  intro w hw
  obtain ⟨j, hj, rfl⟩ := List.mem_map.mp hw
  have := yAll (f := fun j => yhas (([293, 294, 295, 296, 297] : List Nat).getD j 0) (u_lay RX1 TX1 j)) (n := 5) (by decide +kernel) (List.mem_range.mp hj)
  exact yhas_in this
set_option maxRecDepth 20000 in
theorem yu2 : ∀ w ∈ u_ws RX2 TX2 6, w ∈ yALL := by
  intro w hw
  obtain ⟨j, hj, rfl⟩ := List.mem_map.mp hw
  have := yAll (f := fun j => yhas (([168, 169, 170, 171, 172, 173] : List Nat).getD j 0) (u_lay RX2 TX2 j)) (n := 6) (by decide +kernel) (List.mem_range.mp hj)
  exact yhas_in this
set_option maxRecDepth 20000 in
theorem yu3 : ∀ w ∈ u_ws RX3 TX3 6, w ∈ yALL := by
  intro w hw
  obtain ⟨j, hj, rfl⟩ := List.mem_map.mp hw
  have := yAll (f := fun j => yhas (([205, 206, 207, 208, 209, 210] : List Nat).getD j 0) (u_lay RX3 TX3 j)) (n := 6) (by decide +kernel) (List.mem_range.mp hj)
  exact yhas_in this
set_option maxRecDepth 20000 in
theorem yu4 : ∀ w ∈ u_ws RX4 TX4 3, w ∈ yALL := by
  intro w hw
  obtain ⟨j, hj, rfl⟩ := List.mem_map.mp hw
  have := yAll (f := fun j => yhas (([186, 187, 188] : List Nat).getD j 0) (u_lay RX4 TX4 j)) (n := 3) (by decide +kernel) (List.mem_range.mp hj)
  exact yhas_in this
set_option maxRecDepth 20000 in
theorem yu5 : ∀ w ∈ u_ws RX5 TX5 12, w ∈ yALL := by
  intro w hw
  obtain ⟨j, hj, rfl⟩ := List.mem_map.mp hw
  have := yAll (f := fun j => yhas (([341, 342, 343, 344, 345, 346, 347, 348, 349, 350, 351, 352] : List Nat).getD j 0) (u_lay RX5 TX5 j)) (n := 12) (by decide +kernel) (List.mem_range.mp hj)
  exact yhas_in this
set_option maxRecDepth 20000 in
theorem yu6 : ∀ w ∈ u_ws RX6 TX6 4, w ∈ yALL := by
  intro w hw
  obtain ⟨j, hj, rfl⟩ := List.mem_map.mp hw
  have := yAll (f := fun j => yhas (([370, 371, 372, 373] : List Nat).getD j 0) (u_lay RX6 TX6 j)) (n := 4) (by decide +kernel) (List.mem_range.mp hj)
  exact yhas_in this
set_option maxRecDepth 20000 in
theorem yu7 : ∀ w ∈ u_ws RX7 TX7 6, w ∈ yALL := by
  intro w hw
  obtain ⟨j, hj, rfl⟩ := List.mem_map.mp hw
  have := yAll (f := fun j => yhas (([408, 409, 410, 411, 412, 413] : List Nat).getD j 0) (u_lay RX7 TX7 j)) (n := 6) (by decide +kernel) (List.mem_range.mp hj)
  exact yhas_in this
set_option maxRecDepth 20000 in
theorem yu8 : ∀ w ∈ u_ws RX8 TX8 10, w ∈ yALL := by
  intro w hw
  obtain ⟨j, hj, rfl⟩ := List.mem_map.mp hw
  have := yAll (f := fun j => yhas (([258, 259, 260, 261, 262, 263, 264, 265, 266, 267] : List Nat).getD j 0) (u_lay RX8 TX8 j)) (n := 10) (by decide +kernel) (List.mem_range.mp hj)
  exact yhas_in this
set_option maxRecDepth 20000 in
theorem yu9 : ∀ w ∈ u_ws RX9 TX9 7, w ∈ yALL := by
  intro w hw
  obtain ⟨j, hj, rfl⟩ := List.mem_map.mp hw
  have := yAll (f := fun j => yhas (([389, 390, 391, 392, 393, 394, 395] : List Nat).getD j 0) (u_lay RX9 TX9 j)) (n := 7) (by decide +kernel) (List.mem_range.mp hj)
  exact yhas_in this
set_option maxRecDepth 20000 in
theorem yu10 : ∀ w ∈ u_ws RX10 TX10 3, w ∈ yALL := by
  intro w hw
  obtain ⟨j, hj, rfl⟩ := List.mem_map.mp hw
  have := yAll (f := fun j => yhas (([151, 152, 153] : List Nat).getD j 0) (u_lay RX10 TX10 j)) (n := 3) (by decide +kernel) (List.mem_range.mp hj)
  exact yhas_in this
set_option maxRecDepth 20000 in
theorem yu11 : ∀ w ∈ u_ws RX11 TX11 20, w ∈ yALL := by
  intro w hw
  obtain ⟨j, hj, rfl⟩ := List.mem_map.mp hw
  have := yAll (f := fun j => yhas (([434, 435, 436, 437, 438, 439, 440, 441, 442, 443, 444, 445, 446, 447, 448, 449, 450, 451, 452, 453] : List Nat).getD j 0) (u_lay RX11 TX11 j)) (n := 20) (by decide +kernel) (List.mem_range.mp hj)
  exact yhas_in this
set_option maxRecDepth 20000 in
theorem yu12 : ∀ w ∈ u_ws RX12 TX12 56, w ∈ yALL := by
  intro w hw
  obtain ⟨j, hj, rfl⟩ := List.mem_map.mp hw
  have := yAll (f := fun j => yhas (([1078, 1079, 1080, 1081, 1082, 1083, 1084, 1085, 1086, 1087, 1088, 1089, 1090, 1091, 1092, 1093, 1094, 1095, 1096, 1097, 1098, 1099, 1100, 1101, 1102, 1103, 1104, 1105, 1106, 1107, 1108, 1109, 1110, 1111, 1112, 1113, 1114, 1115, 1116, 1117, 1118, 1119, 1120, 1121, 1122, 1123, 1124, 1125, 1126, 1127, 1128, 1129, 1130, 1131, 1132, 1133] : List Nat).getD j 0) (u_lay RX12 TX12 j)) (n := 56) (by decide +kernel) (List.mem_range.mp hj)
  exact yhas_in this
theorem yCls : ∀ (ci : Nat) (q : vw_C), vwCl[ci]? = some q → ∃ ty0, zCls yALL ci q.1 q.2.1 q.2.2 ty0 := by
  intro ci q hq
  match ci, hq with
  | 0, hq => cases hq; exact ⟨tyX0, rfl, yu0, tyX0_ok, nmX0⟩
  | 1, hq => cases hq; exact ⟨tyX1, rfl, yu1, tyX1_ok, nmX1⟩
  | 2, hq => cases hq; exact ⟨tyX2, rfl, yu2, tyX2_ok, nmX2⟩
  | 3, hq => cases hq; exact ⟨tyX3, rfl, yu3, tyX3_ok, nmX3⟩
  | 4, hq => cases hq; exact ⟨tyX4, rfl, yu4, tyX4_ok, nmX4⟩
  | 5, hq => cases hq; exact ⟨tyX5, rfl, yu5, tyX5_ok, nmX5⟩
  | 6, hq => cases hq; exact ⟨tyX6, rfl, yu6, tyX6_ok, nmX6⟩
  | 7, hq => cases hq; exact ⟨tyX7, rfl, yu7, tyX7_ok, nmX7⟩
  | 8, hq => cases hq; exact ⟨tyX8, rfl, yu8, tyX8_ok, nmX8⟩
  | 9, hq => cases hq; exact ⟨tyX9, rfl, yu9, tyX9_ok, nmX9⟩
  | 10, hq => cases hq; exact ⟨tyX10, rfl, yu10, tyX10_ok, nmX10⟩
  | 11, hq => cases hq; exact ⟨tyX11, rfl, yu11, tyX11_ok, nmX11⟩
  | 12, hq => cases hq; exact ⟨tyX12, rfl, yu12, tyX12_ok, nmX12⟩
  | k + 13, hq => simp [vwCl] at hq
def yFlP : List (List Nat) := [[], [], [], [], [], [], [], [306, 307, 308], [268, 274], [144, 145, 147], [414, 415, 416, 417, 418, 419, 420, 421, 422, 423, 424, 425, 426, 427, 428, 429, 430, 431, 432, 433, 146, 150, 272, 201, 183, 185, 291, 309, 369, 279, 283, 250, 287, 234, 229, 224, 237, 240, 244, 204, 257, 247, 333, 335, 324, 327, 337, 339, 329, 388, 385, 363, 366, 360, 322, 331, 254], [1023, 1028, 1029, 1030, 1031, 1032, 1033, 1034, 1037, 1038, 1039, 1040, 1042, 1043, 1045, 1046, 1047, 1049, 1050, 1051, 1052, 1053, 1054, 1060, 1065, 1066, 1067, 1068, 1070, 1071, 1072, 1073, 1074, 1076, 1022, 1024, 1025, 1026, 1036, 1027, 1041, 1044, 1069, 1075, 1061, 1077, 1035, 1055, 1057, 1056, 1059, 1058, 1048, 1062, 1063, 1064], [163, 164, 165, 166, 167, 162, 148, 273, 278, 282, 292, 249, 286, 233, 228, 223, 243], [195, 196, 197, 198, 200, 202], [182, 184, 181, 149], [321, 323, 325, 328, 330, 332, 334, 336, 338, 340, 319, 320, 275, 270, 222, 285, 281, 227, 203, 232, 199, 256, 239, 236, 251, 253, 246], [358, 361, 364, 367], [404, 405, 406, 407, 402, 403, 271, 242, 276, 288, 225], [221, 226, 230, 235, 238, 241, 245, 248, 252, 255], [384, 386, 387, 380, 381, 382, 383, 269, 290, 231, 326, 368, 359, 362, 365, 277]]
def yFlF (c i : Nat) (v : Nat × Nat × Nat) (q : Nat) : Bool := match vwCl[v.1]? with
  | some (_, T, Nf) => decide (v.2.1 < Nf) && (yhas q (.fieldLink (yCn c) i (T v.2.1).1 (T v.2.1).2.1 (T v.2.1).2.2.1) && (!decide (v.2.2 ≤ 2) || (decide ((T v.2.1).2.2.2 = false) && decide (parseFieldDescriptor (T v.2.1).2.2.1 = some (zFT v.2.2)))))
  | none => false
set_option maxRecDepth 20000 in
theorem yFl_ok : ytabk yFlF yFlL yFlP = true := by decide +kernel
theorem yOk_fl (m : Nat) : zFldOk yALL (yMY m).cls (yFld m) := by
  intro idx cj fi b h
  obtain ⟨h1, h2⟩ := yfnd (L := yFlL) h
  obtain ⟨q, hq⟩ := ytabk_in yFl_ok h1 h2
  unfold yFlF at hq
  rw [yCls_mid (L := yCnL) rfl h1 rfl]
  simp only at hq
  split at hq
  case h_1 C T Nf hv =>
    simp only [Bool.and_eq_true, Bool.or_eq_true, Bool.not_eq_true', decide_eq_true_eq, decide_eq_false_iff_not] at hq
    obtain ⟨ty0, hc⟩ := yCls cj _ hv
    refine ⟨C, T, Nf, ty0, hc, hq.1, yhas_in hq.2.1, fun hb => ?_⟩
    rcases hq.2.2 with q9 | q9
    · exact absurd hb q9
    · exact q9
  case h_2 => cases hq
def yKiP : List (List Nat) := [[], [], [567, 563], [532], [], [820, 821, 822], [], [], [], [], [799], [1391], [], [738, 740], [], [], [], [], [], []]
def yKlP : List (List Nat) := [[], [], [], [], [], [], [], [], [], [], [761, 762, 832, 833], [1344, 1345, 1365, 1366, 1492, 1493], [], [737, 739], [], [], [], [], [], []]
set_option maxRecDepth 20000 in
theorem yKi_ok : ytabk (fun c i v q => yhas q (.constant (yCn c) i v)) yKiL yKiP = true := by decide +kernel
set_option maxRecDepth 20000 in
theorem yKl_ok : ytabk (fun c i v q => yhas q (.constantLong (yCn c) i v)) yKlL yKlP = true := by decide +kernel
def yGl : List (String × String × String × zV) := [("java/lang/String", "COMPACT_STRINGS", "Z", .inl 1), (RX2, "RULE_LOW", "[I", .inr (.inr 441)), (RX2, "RULE_HIGH", "[I", .inr (.inr 442)), (RX2, "RULE_FIRST", "[I", .inr (.inr 443)), (RX2, "MAN_LOW", "[I", .inr (.inr 444)), (RX2, "MAN_HIGH", "[I", .inr (.inr 445)), (RX2, "MAN_FIRST", "[I", .inr (.inr 446))]
def ySl : List (String × Nat × String × Nat) := [(RX2, 65, "hnc", 448), (RX2, 80, "ndeb", 450), (RX4, 70, "diehwn", 452)]
def yGsP : List (List Nat) := [[505], [], [], [], [], [], [], [], [], [], [], [], [477, 488, 489, 580, 581, 582], [], [], [], [], [], [], []]
set_option maxRecDepth 20000 in
theorem yGs_okk : ytabk (fun c i v q => yGl.any (fun z => decide (z.2.2.2 = v) && yhas q (.fieldLink (yCn c) i z.1 z.2.1 z.2.2.1))) yGsL yGsP = true := by decide +kernel
def yLsP : List (List Nat) := [[], [], [], [], [], [], [], [], [], [], [], [], [0, 0], [], [0], [], [], [], [], []]
theorem yLs_ok : ytabk (fun c i v _ => ySl.any (fun z => decide (z.1 = yCn c) && (decide (z.2.1 = i) && decide (z.2.2.2 = v)))) yLsL yLsP = true := by decide +kernel
def yFsP : List (List Nat) := [[1533, 1532], [], [], [], [], [], [], [], [], [], [], [], [], [], [], [], [], [], [], []]
theorem yFs_ok : ytabk (fun c i v q => yhas q (.fieldLink (yCn c) i "java/lang/String" (if v = 0 then "value" else "coder") (if v = 0 then "[B" else "B"))) yFsL yFsP = true := by decide +kernel
def yAcP : List (List Nat) := [[], [], [], [], [], [], [], [], [], [], [], [], [478], [648], [], [], [], [863], [643], []]
set_option maxRecDepth 20000 in
theorem yAc_ok : ytabk (fun c i _ q => yhas q (.methodLink (yCn c) i arraycopyName)) yAcL yAcP = true := by decide +kernel
theorem yOk_L : zOkL yMY yFld yKI yKL yGst yLdS yFldS yAcp yALL yGl ySl := by
  intro m
  refine ⟨yOk_fl m, fun i v h => ?_, fun i v h => ?_, fun i v h => ?_, fun i v h => ?_, fun i v h => ?_, fun i h => ?_⟩
  · obtain ⟨h1, h2⟩ := yfnd (L := yKiL) h
    obtain ⟨q, hq⟩ := ytabk_in yKi_ok h1 h2
    rw [yCls_mid (L := yCnL) rfl h1 rfl]
    exact yhas_in hq
  · obtain ⟨h1, h2⟩ := yfnd (L := yKlL) h
    obtain ⟨q, hq⟩ := ytabk_in yKl_ok h1 h2
    rw [yCls_mid (L := yCnL) rfl h1 rfl]
    exact yhas_in hq
  · obtain ⟨h1, h2⟩ := yfnd (L := yGsL) h
    obtain ⟨q, hq⟩ := ytabk_in yGs_okk h1 h2
    rw [yCls_mid (L := yCnL) rfl h1 rfl]
    obtain ⟨z, hz, hq⟩ := List.any_eq_true.mp hq
    rw [Bool.and_eq_true] at hq
    exact ⟨z, hz, of_decide_eq_true hq.1, yhas_in hq.2⟩
  · obtain ⟨h1, h2⟩ := yfnd (L := yLsL) h
    obtain ⟨q, hq⟩ := ytabk_in yLs_ok h1 h2
    rw [yCls_mid (L := yCnL) rfl h1 rfl]
    obtain ⟨z, hz, hq⟩ := List.any_eq_true.mp hq
    simp only [Bool.and_eq_true, decide_eq_true_eq] at hq
    refine ⟨z.2.2.1, ?_⟩
    rw [← hq.1, ← hq.2.1, ← hq.2.2]
    exact hz
  · obtain ⟨h1, h2⟩ := yfnd (L := yFsL) h
    obtain ⟨q, hq⟩ := ytabk_in yFs_ok h1 h2
    rw [yCls_mid (L := yCnL) rfl h1 rfl]
    exact yhas_in hq
  · unfold yAcp at h
    obtain ⟨v, hv⟩ := Option.isSome_iff_exists.mp h
    obtain ⟨h1, h2⟩ := yfnd (L := yAcL) hv
    obtain ⟨q, hq⟩ := ytabk_in yAc_ok h1 h2
    rw [yCls_mid (L := yCnL) rfl h1 rfl]
    exact ⟨yhas_in hq, yWat_in (i := 480) (by decide +kernel), yWat_in (i := 479) (by decide +kernel), yWat_in (i := 122) (by decide +kernel)⟩
/-! calls -/
/-- the places of a callee's words: its code, its class, static or not, its choice -/
def yCpL : List (Nat × Nat × Nat × Nat) := [(544, 123, 543, 543), (513, 123, 511, 512), (496, 123, 494, 495), (500, 123, 498, 499), (504, 123, 502, 503), (509, 123, 507, 508), (562, 128, 561, 561), (559, 128, 558, 558), (566, 128, 565, 565), (519, 124, 518, 518), (528, 124, 527, 527), (516, 124, 515, 515), (538, 126, 537, 537), (553, 126, 552, 552), (550, 126, 549, 549), (535, 126, 534, 534), (556, 126, 555, 555), (531, 126, 530, 530), (541, 126, 540, 540), (547, 127, 546, 546), (819, 130, 818, 818), (934, 125, 933, 933), (522, 125, 521, 521), (1351, 125, 1350, 1350), (525, 125, 524, 524), (1348, 125, 1347, 1347), (678, 116, 676, 677), (777, 116, 775, 776), (464, 110, 462, 463), (579, 110, 577, 578), (575, 110, 574, 574), (487, 110, 485, 486), (460, 110, 459, 459), (586, 110, 584, 585), (571, 110, 569, 570), (941, 109, 940, 39), (826, 109, 824, 825), (1002, 109, 1000, 1001), (663, 109, 661, 662), (638, 109, 637, 12), (894, 109, 892, 893), (694, 109, 693, 15), (1006, 109, 1004, 1005), (884, 109, 883, 34), (760, 109, 759, 22), (757, 109, 756, 21), (765, 109, 764, 23), (794, 109, 792, 793), (687, 109, 685, 686), (468, 109, 466, 467), (890, 109, 889, 36), (472, 109, 470, 471), (457, 109, 455, 456), (958, 109, 957, 41), (949, 109, 947, 948), (655, 109, 654, 13), (927, 109, 925, 926), (998, 109, 996, 997), (909, 109, 908, 908), (952, 109, 951, 951), (659, 109, 657, 658), (878, 109, 877, 32), (887, 109, 886, 35), (945, 109, 943, 944), (781, 109, 779, 780), (1014, 109, 1012, 1013), (987, 109, 986, 45), (984, 109, 982, 983), (803, 109, 801, 802), (881, 109, 880, 33), (698, 109, 696, 697), (990, 109, 989, 46), (831, 109, 829, 830), (955, 109, 954, 40), (965, 109, 964, 42), (670, 109, 669, 14), (962, 109, 960, 961), (968, 109, 967, 43), (875, 109, 873, 874), (652, 109, 650, 651), (938, 109, 936, 937), (898, 109, 896, 897), (972, 109, 970, 971), (789, 109, 787, 788), (798, 109, 796, 797), (750, 109, 748, 749), (994, 109, 992, 993), (837, 109, 835, 836), (769, 109, 767, 768), (975, 109, 974, 44), (691, 109, 689, 690), (631, 109, 629, 630), (683, 109, 681, 682), (773, 109, 771, 772), (979, 109, 977, 978), (906, 109, 904, 905), (754, 109, 752, 753), (1422, 121, 1421, 95), (1307, 121, 1306, 78), (1469, 121, 1468, 102), (1244, 121, 1243, 69), (1223, 121, 1222, 64), (1395, 121, 1393, 1394), (1398, 121, 1397, 90), (1526, 121, 1524, 1525), (1184, 121, 1183, 52), (1276, 121, 1274, 1275), (1254, 121, 1253, 71), (1436, 121, 1434, 1435), (1343, 121, 1342, 1342), (1140, 121, 1139, 1139), (1199, 121, 1198, 56), (1214, 121, 1213, 61), (1232, 121, 1231, 66), (1202, 121, 1201, 57), (1530, 121, 1528, 1529), (1364, 121, 1363, 89), (1382, 121, 1380, 1381), (1331, 121, 1330, 86), (1293, 121, 1291, 1292), (1144, 121, 1142, 1143), (1148, 121, 1146, 1147), (1137, 121, 1135, 1136), (1405, 121, 1404, 91), (1477, 121, 1475, 1476), (1480, 121, 1479, 103), (1238, 121, 1237, 67), (1241, 121, 1240, 68), (1169, 121, 1168, 1168), (1160, 121, 1159, 49), (1175, 121, 1174, 1174), (1460, 121, 1458, 1459), (1522, 121, 1520, 1521), (1187, 121, 1186, 1186), (1181, 121, 1180, 1180), (1419, 121, 1418, 94), (1279, 121, 1278, 74), (1322, 121, 1321, 83), (1268, 121, 1267, 73), (1447, 121, 1446, 98), (1282, 121, 1281, 75), (1487, 121, 1486, 104), (1235, 121, 1234, 1234), (1456, 121, 1455, 101), (1453, 121, 1452, 100), (1190, 121, 1189, 53), (1166, 121, 1165, 1165), (1163, 121, 1162, 50), (1285, 121, 1284, 76), (1272, 121, 1270, 1271), (1319, 121, 1318, 82), (1316, 121, 1315, 81), (1450, 121, 1449, 99), (1229, 121, 1228, 1228), (1473, 121, 1471, 1472), (1313, 121, 1312, 80), (1378, 121, 1376, 1377), (1157, 121, 1156, 48), (1172, 121, 1171, 1171), (1265, 121, 1263, 1264), (1328, 121, 1327, 85), (1508, 121, 1506, 1507), (1511, 121, 1510, 106), (1402, 121, 1400, 1401), (1304, 121, 1302, 1303), (1178, 121, 1177, 51), (1491, 121, 1489, 1490), (1257, 121, 1256, 72), (1196, 121, 1195, 55), (1208, 121, 1207, 59), (1310, 121, 1309, 79), (1226, 121, 1225, 65), (1211, 121, 1210, 60), (1151, 121, 1150, 47), (1193, 121, 1192, 54), (1514, 121, 1513, 107), (1484, 121, 1482, 1483), (1426, 121, 1424, 1425), (1261, 121, 1259, 1260), (1466, 121, 1464, 1465), (1440, 121, 1438, 1439), (1497, 121, 1495, 1496), (1386, 121, 1384, 1385), (1390, 121, 1388, 1389), (1357, 121, 1355, 1356), (1518, 121, 1516, 1517), (1410, 121, 1408, 1409), (1370, 121, 1368, 1369), (1217, 121, 1216, 62), (1500, 121, 1499, 105), (1297, 121, 1295, 1296), (1300, 121, 1299, 77), (1251, 121, 1250, 70), (1220, 121, 1219, 63), (1248, 121, 1246, 1247), (1289, 121, 1287, 1288), (1413, 121, 1412, 92), (1432, 121, 1431, 97), (1429, 121, 1428, 96), (1416, 121, 1415, 93), (1374, 121, 1372, 1373), (1205, 121, 1204, 58), (1154, 121, 1153, 1153), (1504, 121, 1502, 1503), (1325, 121, 1324, 84), (1444, 121, 1442, 1443), (1337, 121, 1336, 88), (1340, 121, 1339, 1339), (1334, 121, 1333, 87), (1361, 121, 1359, 1360), (674, 114, 672, 673), (667, 114, 665, 666), (589, 111, 588, 2), (483, 111, 482, 0), (476, 111, 474, 475), (492, 111, 491, 1), (635, 111, 633, 634), (647, 113, 645, 646), (736, 113, 735, 735), (733, 113, 732, 732), (730, 113, 729, 20), (727, 113, 725, 726), (611, 112, 610, 7), (615, 112, 614, 614), (607, 112, 606, 6), (596, 112, 595, 3), (618, 112, 617, 8), (593, 112, 591, 592), (627, 112, 626, 11), (601, 112, 600, 4), (604, 112, 603, 5), (621, 112, 620, 9), (624, 112, 623, 10), (807, 117, 805, 806), (816, 117, 814, 815), (709, 117, 708, 16), (723, 117, 722, 19), (812, 117, 810, 811), (716, 117, 715, 17), (702, 117, 700, 701), (706, 117, 704, 705), (720, 117, 719, 18), (746, 117, 744, 745), (902, 118, 900, 901), (862, 120, 861, 30), (844, 120, 843, 24), (856, 120, 855, 28), (841, 120, 839, 840), (871, 120, 870, 31), (859, 120, 858, 29), (847, 120, 846, 25), (853, 120, 852, 27), (868, 120, 866, 867), (850, 120, 849, 26), (642, 115, 640, 641), (785, 115, 783, 784), (713, 115, 711, 712), (917, 119, 916, 37), (913, 119, 911, 912), (931, 119, 929, 930), (921, 119, 920, 38)]
def yCp (m : Nat) : Nat × Nat × Nat × Nat := yCpL.getD m (0, 0, 0, 0)
def yCeF (m na kc : Nat) : Bool := decide (m < 261) && (yhas (yCp m).1 (.code (yMY m) (yMC m) (yMl m) (yMr m)) && (plainName (yMY m).cls && (decide (yMl m ≤ 21) && (yhas (yCp m).2.1 (.initialized (yMY m).cls) && (decide ((yMY m).cls ≠ "java/lang/invoke/MethodHandle") && (decide ((yMY m).cls ≠ "java/lang/invoke/VarHandle") &&
  (if kc = 100 then yhas (yCp m).2.2.1 (.static (yMY m)) && decide ((parseMethodDescriptor (yMY m).desc).map (fun d => d.parameters.length) = some na)
  else decide (0 < na) && (yhas (yCp m).2.2.1 (.instanceMethod (yMY m)) && (yhas (yCp m).2.2.2 (.selects (yMY m).cls (yMY m) (yMY m)) && (decide ((parseMethodDescriptor (yMY m).desc).map (fun d => d.parameters.length) = some (na - 1)) &&
    (if kc = 99 then decide ((yMY m).cls = "java/lang/String") else decide (kc < 99) && (match vwCl[kc]? with
      | some q => decide (q.1 = (yMY m).cls)
      | none => false)))))))))))))
def yCaP : List (List Nat) := [[510, 501, 506, 497, 514, 529, 545], [523, 517, 520, 526], [], [539, 551, 536, 560, 564, 557, 533, 554, 542, 548], [], [], [], [679], [], [572, 573, 576], [458, 461, 473, 590, 632, 636, 644, 639, 653, 664, 668, 671, 675, 692, 699, 755, 763, 758, 774, 782, 790, 804, 808, 809, 827, 838, 865, 876, 879, 882, 885, 888, 899, 907, 910, 928, 939, 950, 953, 956, 963, 966, 973, 980, 985, 988], [1138, 1158, 1182, 1155, 1179, 1224, 1209, 1227, 1206, 1215, 1212, 1221, 1218, 1233, 1203, 1200, 1230, 1236, 1239, 1194, 1197, 1242, 1346, 1349, 1341, 1338, 1335, 1185, 1152, 1164, 1167, 1170, 1173, 1176, 1161, 1188, 1149, 1191, 1255, 1252, 1249, 1326, 1323, 1332, 1352, 1353, 1320, 1329, 1317, 1314, 1311, 1266, 1277, 1280, 1283, 1298, 1305, 1308, 1362, 1396, 1406, 1403, 1420, 1414, 1417, 1411, 1430, 1427, 1451, 1445, 1448, 1454, 1461, 1462, 1467, 1478, 1485, 1498, 1509, 1512], [481, 583, 484, 587, 490, 493, 568], [728, 731, 734], [594, 609, 597, 598, 599, 613, 616, 619, 622, 625, 602, 605, 608, 612], [707, 714, 718, 710, 717, 721, 724, 703, 741, 742, 743, 813, 817], [], [842, 845, 869, 848, 851, 864, 854, 857, 860], [], [914, 915, 918, 919, 923, 922, 932]]
/-- the callees, each once -/
def yCeL : List (Nat × Nat × Nat) := [(0, 3, 100), (1, 1, 99), (2, 2, 99), (3, 3, 99), (4, 1, 99), (5, 1, 99), (6, 1, 100), (7, 1, 100), (8, 1, 100), (9, 1, 100), (10, 4, 100), (11, 4, 100), (12, 3, 100), (13, 2, 100), (14, 4, 100), (15, 4, 100), (16, 4, 100), (17, 4, 100), (18, 1, 100), (19, 4, 100), (20, 1, 100), (21, 1, 100), (22, 2, 100), (23, 2, 100), (24, 2, 100), (25, 2, 100), (26, 2, 0), (27, 2, 0), (28, 2, 10), (29, 1, 10), (30, 1, 100), (31, 1, 10), (32, 1, 100), (33, 2, 10), (34, 2, 10), (35, 3, 11), (36, 2, 11), (37, 1, 11), (38, 3, 11), (39, 1, 11), (40, 3, 11), (41, 3, 11), (42, 2, 11), (43, 1, 11), (44, 2, 11), (45, 1, 11), (46, 1, 11), (47, 3, 11), (48, 2, 11), (49, 2, 11), (50, 3, 11), (51, 2, 11), (52, 6, 11), (53, 3, 11), (54, 6, 11), (55, 1, 11), (56, 2, 11), (57, 1, 11), (58, 1, 100), (59, 1, 100), (60, 2, 11), (61, 1, 11), (62, 1, 11), (63, 1, 11), (64, 3, 11), (65, 3, 11), (66, 3, 11), (67, 2, 11), (68, 2, 11), (69, 1, 11), (70, 2, 11), (71, 1, 11), (72, 2, 11), (73, 5, 11), (74, 3, 11), (75, 2, 11), (76, 4, 11), (77, 3, 11), (78, 2, 11), (79, 2, 11), (80, 4, 11), (81, 4, 11), (82, 3, 11), (83, 3, 11), (84, 3, 11), (85, 2, 11), (86, 2, 11), (87, 2, 11), (88, 2, 11), (89, 2, 11), (90, 3, 11), (91, 2, 11), (92, 2, 11), (93, 1, 11), (94, 2, 11), (95, 3, 11), (96, 3, 11), (97, 3, 12), (98, 2, 12), (99, 3, 12), (100, 1, 12), (101, 1, 12), (102, 2, 12), (103, 2, 12), (104, 1, 12), (105, 1, 12), (106, 3, 12), (107, 1, 12), (108, 3, 12), (109, 1, 100), (110, 6, 100), (111, 1, 12), (112, 2, 12), (113, 1, 12), (114, 1, 12), (115, 2, 12), (116, 2, 12), (117, 3, 12), (118, 4, 12), (119, 2, 12), (120, 2, 12), (121, 2, 12), (122, 6, 12), (123, 1, 12), (124, 6, 12), (125, 5, 12), (126, 1, 12), (127, 1, 12), (128, 2, 100), (129, 1, 12), (130, 2, 100), (131, 2, 12), (132, 1, 12), (133, 3, 100), (134, 1, 100), (135, 2, 12), (136, 2, 12), (137, 3, 12), (138, 2, 12), (139, 2, 12), (140, 2, 12), (141, 5, 12), (142, 1, 100), (143, 2, 12), (144, 2, 12), (145, 1, 12), (146, 2, 100), (147, 5, 12), (148, 1, 12), (149, 2, 12), (150, 2, 12), (151, 1, 12), (152, 2, 12), (153, 1, 100), (154, 1, 12), (155, 1, 12), (156, 3, 12), (157, 1, 12), (158, 2, 100), (159, 3, 12), (160, 2, 12), (161, 2, 12), (162, 3, 12), (163, 2, 12), (164, 2, 12), (165, 3, 12), (166, 2, 12), (167, 3, 12), (168, 2, 12), (169, 1, 12), (170, 1, 12), (171, 1, 12), (172, 3, 12), (173, 1, 12), (174, 2, 12), (175, 1, 12), (176, 4, 12), (177, 2, 12), (178, 2, 12), (179, 4, 12), (180, 4, 12), (181, 3, 12), (182, 3, 12), (183, 3, 12), (184, 2, 12), (185, 2, 12), (186, 2, 12), (187, 2, 12), (188, 1, 12), (189, 2, 12), (190, 3, 12), (191, 3, 12), (192, 1, 12), (193, 1, 12), (194, 2, 12), (195, 2, 12), (196, 4, 12), (197, 4, 12), (198, 2, 12), (199, 3, 12), (200, 1, 12), (201, 1, 12), (202, 2, 100), (203, 2, 12), (204, 2, 12), (205, 3, 12), (206, 4, 12), (207, 3, 100), (208, 2, 12), (209, 3, 12), (210, 2, 1), (211, 2, 1), (212, 1, 2), (213, 1, 2), (214, 1, 2), (215, 5, 2), (216, 2, 2), (217, 3, 3), (218, 1, 100), (219, 3, 100), (220, 2, 3), (221, 1, 3), (222, 2, 4), (223, 1, 100), (224, 2, 4), (225, 1, 4), (226, 3, 4), (227, 1, 4), (228, 3, 4), (229, 2, 4), (230, 2, 4), (231, 3, 4), (232, 3, 4), (233, 1, 5), (234, 2, 5), (235, 2, 5), (236, 5, 5), (237, 1, 5), (238, 3, 5), (239, 2, 5), (240, 2, 5), (241, 5, 5), (242, 1, 5), (243, 4, 6), (244, 5, 7), (245, 1, 7), (246, 3, 7), (247, 1, 7), (248, 3, 7), (249, 3, 7), (250, 1, 7), (251, 2, 7), (252, 1, 7), (253, 3, 7), (254, 2, 8), (255, 1, 8), (256, 3, 8), (257, 2, 9), (258, 2, 9), (259, 1, 9), (260, 1, 9)]
set_option maxRecDepth 20000 in
theorem yCe_ok0 : ((yCeL.drop 0).take 40).all (fun q => yCeF q.1 q.2.1 q.2.2) = true := by decide +kernel
set_option maxRecDepth 20000 in
theorem yCe_ok1 : ((yCeL.drop 40).take 40).all (fun q => yCeF q.1 q.2.1 q.2.2) = true := by decide +kernel
set_option maxRecDepth 20000 in
theorem yCe_ok2 : ((yCeL.drop 80).take 40).all (fun q => yCeF q.1 q.2.1 q.2.2) = true := by decide +kernel
set_option maxRecDepth 20000 in
theorem yCe_ok3 : ((yCeL.drop 120).take 40).all (fun q => yCeF q.1 q.2.1 q.2.2) = true := by decide +kernel
set_option maxRecDepth 20000 in
theorem yCe_ok4 : ((yCeL.drop 160).take 40).all (fun q => yCeF q.1 q.2.1 q.2.2) = true := by decide +kernel
set_option maxRecDepth 20000 in
theorem yCe_ok5 : ((yCeL.drop 200).take 40).all (fun q => yCeF q.1 q.2.1 q.2.2) = true := by decide +kernel
set_option maxRecDepth 20000 in
theorem yCe_ok6 : ((yCeL.drop 240).take 40).all (fun q => yCeF q.1 q.2.1 q.2.2) = true := by decide +kernel
theorem ydt {α : Type} {p : α → Bool} (l : List α) (n : Nat) (h1 : ((l.drop 0).take n).all p = true) (h2 : ((l.drop n)).all p = true) : l.all p = true := by
  rw [← List.take_append_drop n l, List.all_append, h2, Bool.and_true]
  exact h1
theorem yds {α : Type} {p : α → Bool} {l : List α} {k n : Nat} (h1 : ((l.drop k).take n).all p = true) (h2 : (l.drop (k + n)).all p = true) : (l.drop k).all p = true := by
  have e : (l.drop k).drop n = l.drop (k + n) := by rw [List.drop_drop]
  rw [← List.take_append_drop n (l.drop k), List.all_append, e, h2, h1]
  rfl
theorem yCe_all : ∀ q ∈ yCeL, yCeF q.1 q.2.1 q.2.2 = true := by
  have h : (yCeL.drop 0).all (fun q => yCeF q.1 q.2.1 q.2.2) = true := (yds (k := 0) (n := 40) yCe_ok0 (yds (k := 40) (n := 40) yCe_ok1 (yds (k := 80) (n := 40) yCe_ok2 (yds (k := 120) (n := 40) yCe_ok3 (yds (k := 160) (n := 40) yCe_ok4 (yds (k := 200) (n := 40) yCe_ok5 (yds (k := 240) (n := 40) yCe_ok6 (show (yCeL.drop 280).all (fun q => yCeF q.1 q.2.1 q.2.2) = true from by rw [List.drop_eq_nil_of_le (by decide +kernel)]; rfl))))))))
  rw [List.drop_zero] at h
  exact List.all_eq_true.mp h
set_option maxRecDepth 20000 in
theorem yCa_ok : ytabk (fun c i v q => yhas q (.methodLink (yCn c) i (yMY v.1)) && yCeL.any (fun z => decide (z.1 = v.1) && (decide (z.2.1 = v.2.1) && decide (z.2.2 = v.2.2)))) yCaL yCaP = true := by decide +kernel
theorem yOk_C : zOkC yMY yMC yMl yMr yCal yALL := by
  intro mid idx callee na kc h
  obtain ⟨h1, h2⟩ := yfnd (L := yCaL) h
  obtain ⟨q, hq⟩ := ytabk_in yCa_ok h1 h2
  rw [yCls_mid (L := yCnL) rfl h1 rfl]
  rw [Bool.and_eq_true] at hq
  obtain ⟨z, hz, hz2⟩ := List.any_eq_true.mp hq.2
  simp only [Bool.and_eq_true, decide_eq_true_eq] at hz2
  have hc := yCe_all z hz
  rw [hz2.1, hz2.2.1, hz2.2.2] at hc
  unfold yCeF at hc
  simp only [Bool.and_eq_true, decide_eq_true_eq] at hc
  obtain ⟨-, c1, c2, c3, c4, c5, c6, c7⟩ := hc
  refine ⟨yhas_in c1, c2, c3, yhas_in hq.1, yhas_in c4, c5, c6, fun hk => ?_, fun hk => ?_⟩
  · rw [if_pos hk] at c7
    simp only [Bool.and_eq_true, decide_eq_true_eq] at c7
    exact ⟨yhas_in c7.1, c7.2⟩
  · rw [if_neg (by omega)] at c7
    simp only [Bool.and_eq_true, decide_eq_true_eq] at c7
    obtain ⟨d1, d2, d3, d4, d5⟩ := c7
    refine ⟨d1, yhas_in d2, yhas_in d3, d4, ?_⟩
    split at d5
    case isTrue h99 => exact Or.inl ⟨h99, of_decide_eq_true d5⟩
    case isFalse h99 =>
      rw [Bool.and_eq_true] at d5
      refine Or.inr ⟨of_decide_eq_true d5.1, ?_⟩
      have d6 := d5.2
      split at d6
      case h_1 q9 hq9 => exact ⟨q9, hq9, of_decide_eq_true d6⟩
      case h_2 => cases d6
