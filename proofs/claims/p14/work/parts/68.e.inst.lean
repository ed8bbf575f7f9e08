/-! the tables fit the words -/
def yCnL : List String := [RJ0, RJ1, RJ11, RJ2, RJ3, RJ6, RJ9, RX0, RX1, RX10, RX11, RX12, RX2, RX3, RX4, RX5, RX6, RX7, RX8, RX9]
def yCn (c : Nat) : String := yCnL.getD c ""
def yMYL : List MethodName := [yJ0_checkBoundsBeginEnd_23922, yJ0_coder_7d493, yJ0_indexOf_0f7a4, yJ0_indexOf_7cf53, yJ0_isLatin1_aae02, yJ0_length_8abf5, yJ11_highSurrogate_5068e, yJ11_isValidCodePoint_9a6ad, yJ11_lowSurrogate_5068e, yJ1_canEncode_9a6ad, yJ1_indexOfChar_4cfef, yJ1_indexOf_4cfef, yJ2_checkBoundsBeginEnd_d044e, yJ2_getChar_3b067, yJ2_indexOfCharUnsafe_4cfef, yJ2_indexOfChar_4cfef, yJ2_indexOfSupplementary_4cfef, yJ2_indexOf_4cfef, yJ2_length_9d52b, yJ3_checkFromToIndex_8c36e, yJ6_bitCount_0f7a4, yJ9_abs_0f7a4, yJ9_max_7cf53, yJ9_max_f86c9, yJ9_min_7cf53, yJ9_min_f86c9, yX0_remember, yX0_takeBack, yX10_append, yX10_here, yX10_isDigit, yX10_peek, yX10_signsIn, yX10_take, yX10_takeNumber, yX11_areTwo, yX11_awake, yX11_back, yX11_bed, yX11_beginFort, yX11_best, yX11_changePlaces, yX11_count, yX11_digitsOfRow, yX11_draw, yX11_drawBed, yX11_drawPlaces, yX11_dream, yX11_dull, yX11_end, yX11_exchangeInRow, yX11_fault, yX11_feed, yX11_gainOf, yX11_game, yX11_hasFort, yX11_hourToAsk, yX11_image, yX11_isGrowth, yX11_isMove, yX11_law, yX11_layFirstRow, yX11_layNextRow, yX11_liars, yX11_log, yX11_man, yX11_manWith, yX11_most, yX11_night, yX11_nightmaresByRow, yX11_nights, yX11_nightsUntilRested, yX11_odds, yX11_play, yX11_playAll, yX11_refuse, yX11_rests, yX11_restsAt, yX11_ring, yX11_rule, yX11_said, yX11_seen, yX11_shares, yX11_sleeps, yX11_slept, yX11_snow, yX11_spare, yX11_stagger, yX11_status, yX11_sumOfMen, yX11_swap, yX11_text, yX11_train, yX11_undo, yX11_watcher, yX11_who, yX11_years, yX12_areApart, yX12_areNights, yX12_areTwo, yX12_atEnd, yX12_atom, yX12_awake, yX12_awakeIn, yX12_back, yX12_bad, yX12_bed, yX12_begin, yX12_best, yX12_bounded, yX12_byteOf, yX12_clause, yX12_closes, yX12_compare, yX12_condition, yX12_count, yX12_draw, yX12_dream, yX12_dreamOf, yX12_dull, yX12_end, yX12_fault, yX12_feed, yX12_fewest, yX12_game, yX12_gameOf, yX12_goOnAnd, yX12_goOnOr, yX12_has, yX12_here, yX12_highest, yX12_hourToAsk, yX12_image, yX12_in, yX12_isDigit, yX12_isGuarded, yX12_isHour, yX12_isInBed, yX12_isMan, yX12_isMore, yX12_isRefused, yX12_isRest, yX12_isSign, yX12_isSo, yX12_isWho, yX12_isWhole, yX12_itemOf, yX12_items, yX12_keep, yX12_law, yX12_layHour, yX12_layNight, yX12_layTold, yX12_letterOf, yX12_liars, yX12_live, yX12_log, yX12_look, yX12_lowest, yX12_man, yX12_manAt, yX12_most, yX12_mostBy, yX12_night, yX12_nights, yX12_number, yX12_odds, yX12_of, yX12_open, yX12_opens, yX12_passNight, yX12_plainNumber, yX12_put, yX12_readFort, yX12_readLaw, yX12_rested, yX12_rests, yX12_ring, yX12_rule, yX12_said, yX12_seen, yX12_shares, yX12_sleeps, yX12_slept, yX12_snow, yX12_spare, yX12_stagger, yX12_status, yX12_sum, yX12_sumOf, yX12_swap, yX12_swapNow, yX12_takeFort, yX12_term, yX12_text, yX12_train, yX12_tryBeds, yX12_tryRings, yX12_tryRingsFrom, yX12_tryRow, yX12_undo, yX12_unit, yX12_usual, yX12_watcher, yX12_watcherOf, yX12_who, yX12_workOut, yX12_worked, yX12_worthOf, yX12_years, yX1_hasHour, yX1_hasMan, yX2_isWhole, yX2_readClause, yX2_readFort, yX2_readItems, yX2_settle, yX3_add, yX3_held, yX3_reckon, yX3_valueOf, yX3_worth, yX4_emit, yX4_isComparison, yX4_readAtom, yX4_readClause, yX4_readCondition, yX4_readLaw, yX4_readNested, yX4_readSum, yX4_readTerm, yX4_readTruth, yX4_readUnit, yX5_allNightmares, yX5_awakeBits, yX5_clear, yX5_dreamOf, yX5_hourOfFewest, yX5_lieDown, yX5_pass, yX5_run, yX5_sleepOn, yX5_wokenBits, yX6_add, yX7_areApart, yX7_begin, yX7_changesBy, yX7_fewestChanges, yX7_fixLeastBed, yX7_goOn, yX7_goRound, yX7_goRoundFrom, yX7_leastRow, yX7_mayHave, yX8_copyFrom, yX8_logLength, yX8_watcherOf, yX9_consider, yX9_find, yX9_hourThatParts, yX9_isAsSeen]
def yMY (m : Nat) : MethodName := yMYL.getD m ⟨"", "", ""⟩
def yMCL : List ByteArray := [cJ0_checkBoundsBeginEnd_23922, cJ0_coder_7d493, cJ0_indexOf_0f7a4, cJ0_indexOf_7cf53, cJ0_isLatin1_aae02, cJ0_length_8abf5, cJ11_highSurrogate_5068e, cJ11_isValidCodePoint_9a6ad, cJ11_lowSurrogate_5068e, cJ1_canEncode_9a6ad, cJ1_indexOfChar_4cfef, cJ1_indexOf_4cfef, cJ2_checkBoundsBeginEnd_d044e, cJ2_getChar_3b067, cJ2_indexOfCharUnsafe_4cfef, cJ2_indexOfChar_4cfef, cJ2_indexOfSupplementary_4cfef, cJ2_indexOf_4cfef, cJ2_length_9d52b, cJ3_checkFromToIndex_8c36e, cJ6_bitCount_0f7a4, cJ9_abs_0f7a4, cJ9_max_7cf53, cJ9_max_f86c9, cJ9_min_7cf53, cJ9_min_f86c9, cX0_remember, cX0_takeBack, cX10_append, cX10_here, cX10_isDigit, cX10_peek, cX10_signsIn, cX10_take, cX10_takeNumber, cX11_areTwo, cX11_awake, cX11_back, cX11_bed, cX11_beginFort, cX11_best, cX11_changePlaces, cX11_count, cX11_digitsOfRow, cX11_draw, cX11_drawBed, cX11_drawPlaces, cX11_dream, cX11_dull, cX11_end, cX11_exchangeInRow, cX11_fault, cX11_feed, cX11_gainOf, cX11_game, cX11_hasFort, cX11_hourToAsk, cX11_image, cX11_isGrowth, cX11_isMove, cX11_law, cX11_layFirstRow, cX11_layNextRow, cX11_liars, cX11_log, cX11_man, cX11_manWith, cX11_most, cX11_night, cX11_nightmaresByRow, cX11_nights, cX11_nightsUntilRested, cX11_odds, cX11_play, cX11_playAll, cX11_refuse, cX11_rests, cX11_restsAt, cX11_ring, cX11_rule, cX11_said, cX11_seen, cX11_shares, cX11_sleeps, cX11_slept, cX11_snow, cX11_spare, cX11_stagger, cX11_status, cX11_sumOfMen, cX11_swap, cX11_text, cX11_train, cX11_undo, cX11_watcher, cX11_who, cX11_years, cX12_areApart, cX12_areNights, cX12_areTwo, cX12_atEnd, cX12_atom, cX12_awake, cX12_awakeIn, cX12_back, cX12_bad, cX12_bed, cX12_begin, cX12_best, cX12_bounded, cX12_byteOf, cX12_clause, cX12_closes, cX12_compare, cX12_condition, cX12_count, cX12_draw, cX12_dream, cX12_dreamOf, cX12_dull, cX12_end, cX12_fault, cX12_feed, cX12_fewest, cX12_game, cX12_gameOf, cX12_goOnAnd, cX12_goOnOr, cX12_has, cX12_here, cX12_highest, cX12_hourToAsk, cX12_image, cX12_in, cX12_isDigit, cX12_isGuarded, cX12_isHour, cX12_isInBed, cX12_isMan, cX12_isMore, cX12_isRefused, cX12_isRest, cX12_isSign, cX12_isSo, cX12_isWho, cX12_isWhole, cX12_itemOf, cX12_items, cX12_keep, cX12_law, cX12_layHour, cX12_layNight, cX12_layTold, cX12_letterOf, cX12_liars, cX12_live, cX12_log, cX12_look, cX12_lowest, cX12_man, cX12_manAt, cX12_most, cX12_mostBy, cX12_night, cX12_nights, cX12_number, cX12_odds, cX12_of, cX12_open, cX12_opens, cX12_passNight, cX12_plainNumber, cX12_put, cX12_readFort, cX12_readLaw, cX12_rested, cX12_rests, cX12_ring, cX12_rule, cX12_said, cX12_seen, cX12_shares, cX12_sleeps, cX12_slept, cX12_snow, cX12_spare, cX12_stagger, cX12_status, cX12_sum, cX12_sumOf, cX12_swap, cX12_swapNow, cX12_takeFort, cX12_term, cX12_text, cX12_train, cX12_tryBeds, cX12_tryRings, cX12_tryRingsFrom, cX12_tryRow, cX12_undo, cX12_unit, cX12_usual, cX12_watcher, cX12_watcherOf, cX12_who, cX12_workOut, cX12_worked, cX12_worthOf, cX12_years, cX1_hasHour, cX1_hasMan, cX2_isWhole, cX2_readClause, cX2_readFort, cX2_readItems, cX2_settle, cX3_add, cX3_held, cX3_reckon, cX3_valueOf, cX3_worth, cX4_emit, cX4_isComparison, cX4_readAtom, cX4_readClause, cX4_readCondition, cX4_readLaw, cX4_readNested, cX4_readSum, cX4_readTerm, cX4_readTruth, cX4_readUnit, cX5_allNightmares, cX5_awakeBits, cX5_clear, cX5_dreamOf, cX5_hourOfFewest, cX5_lieDown, cX5_pass, cX5_run, cX5_sleepOn, cX5_wokenBits, cX6_add, cX7_areApart, cX7_begin, cX7_changesBy, cX7_fewestChanges, cX7_fixLeastBed, cX7_goOn, cX7_goRound, cX7_goRoundFrom, cX7_leastRow, cX7_mayHave, cX8_copyFrom, cX8_logLength, cX8_watcherOf, cX9_consider, cX9_find, cX9_hourThatParts, cX9_isAsSeen]
def yMC (m : Nat) : ByteArray := yMCL.getD m ⟨#[]⟩
theorem yMc_hi {m : Nat} (h : 261 ≤ m) : yMc m = 999 := by
  unfold yMc
  rw [List.getD_eq_getElem?_getD, List.getElem?_eq_none (by rw [show yMcL.length = 261 by decide +kernel]; exact h)]
  rfl
set_option maxRecDepth 20000 in
theorem yMY_cls {m : Nat} (h : m < 261) : (yMY m).cls = yCn (yMc m) := of_decide_eq_true (yAll (f := fun m => decide ((yMY m).cls = yCn (yMc m))) (n := 261) (by decide +kernel) h)
theorem yfnd {α : Type} {L : List (List (Nat × α))} {c i : Nat} {v : α} (h : (match (L.getD c []).find? (fun p => p.1 == i) with
  | some p => some p.2
  | none => none) = some v) : c < L.length ∧ (i, v) ∈ L.getD c [] := by
  cases hf : (L.getD c []).find? (fun p => p.1 == i) with
  | none => rw [hf] at h; cases h
  | some p =>
    rw [hf] at h
    have h1 : p.1 = i := by have := List.find?_some hf; simpa using this
    have h2 : p.2 = v := Option.some.inj h
    have h3 := List.mem_of_find?_eq_some hf
    have h4 : p = (i, v) := by rw [← h1, ← h2]
    rw [h4] at h3
    refine ⟨?_, h3⟩
    rcases Nat.lt_or_ge c L.length with q | q
    · exact q
    · rw [List.getD_eq_getElem?_getD, List.getElem?_eq_none q] at h3
      cases h3
/-- every row of a table has its word at its place -/
def yrow {α : Type} (f : Nat → Nat → α → Nat → Bool) (c : Nat) : List (Nat × α) → List Nat → Bool
  | [], _ => true
  | p :: l, q :: r => f c p.1 p.2 q && yrow f c l r
  | _ :: _, [] => false
theorem yrow_in {α : Type} {f : Nat → Nat → α → Nat → Bool} {c : Nat} : ∀ {l : List (Nat × α)} {r : List Nat}, yrow f c l r = true → ∀ p ∈ l, ∃ q, f c p.1 p.2 q = true
  | [], _, _, p, hp => by cases hp
  | x :: l, [], h, _, _ => by cases h
  | x :: l, q :: r, h, p, hp => by
    unfold yrow at h
    rw [Bool.and_eq_true] at h
    rcases List.mem_cons.mp hp with rfl | hp
    · exact ⟨q, h.1⟩
    · exact yrow_in h.2 p hp
def ytabk {α : Type} (f : Nat → Nat → α → Nat → Bool) (L : List (List (Nat × α))) (P : List (List Nat)) : Bool := (List.range L.length).all (fun c => yrow f c (L.getD c []) (P.getD c []))
theorem ytabk_in {α : Type} {f : Nat → Nat → α → Nat → Bool} {L : List (List (Nat × α))} {P : List (List Nat)} (h : ytabk f L P = true) {c i : Nat} {v : α} (hc : c < L.length) (hv : (i, v) ∈ L.getD c []) : ∃ q, f c i v q = true := yrow_in (List.all_eq_true.mp h c (List.mem_range.mpr hc)) (i, v) hv
theorem yCls_mid {m : Nat} {L : List String} (hL : L.length = 20) {c : Nat} (hc : c < L.length) (h : yMc m = c) : (yMY m).cls = yCn c := by
  have hm : m < 261 := by
    rcases Nat.lt_or_ge m 261 with q | q
    · exact q
    · rw [yMc_hi q] at h
      omega
  rw [yMY_cls hm, h]
set_option maxRecDepth 20000 in
theorem yu0 : ∀ w ∈ u_ws RX0 TX0 3, w ∈ yALL := by
  intro w hw
  obtain ⟨j, hj, rfl⟩ := List.mem_map.mp hw
  have := yAll (f := fun j => yhas (([306, 307, 308] : List Nat).getD j 0) (u_lay RX0 TX0 j)) (n := 3) (by decide +kernel) (List.mem_range.mp hj)
  exact yhas_in this
set_option maxRecDepth 20000 in
theorem yu1 : ∀ w ∈ u_ws RX1 TX1 5, w ∈ yALL := by
  intro w hw
  obtain ⟨j, hj, rfl⟩ := List.mem_map.mp hw
  have := yAll (f := fun j => yhas (([289, 290, 291, 292, 293] : List Nat).getD j 0) (u_lay RX1 TX1 j)) (n := 5) (by decide +kernel) (List.mem_range.mp hj)
  exact yhas_in this
set_option maxRecDepth 20000 in
theorem yu2 : ∀ w ∈ u_ws RX2 TX2 6, w ∈ yALL := by
  intro w hw
  obtain ⟨j, hj, rfl⟩ := List.mem_map.mp hw
  have := yAll (f := fun j => yhas (([164, 165, 166, 167, 168, 169] : List Nat).getD j 0) (u_lay RX2 TX2 j)) (n := 6) (by decide +kernel) (List.mem_range.mp hj)
  exact yhas_in this
set_option maxRecDepth 20000 in
theorem yu3 : ∀ w ∈ u_ws RX3 TX3 6, w ∈ yALL := by
  intro w hw
  obtain ⟨j, hj, rfl⟩ := List.mem_map.mp hw
  have := yAll (f := fun j => yhas (([201, 202, 203, 204, 205, 206] : List Nat).getD j 0) (u_lay RX3 TX3 j)) (n := 6) (by decide +kernel) (List.mem_range.mp hj)
  exact yhas_in this
set_option maxRecDepth 20000 in
theorem yu4 : ∀ w ∈ u_ws RX4 TX4 3, w ∈ yALL := by
  intro w hw
  obtain ⟨j, hj, rfl⟩ := List.mem_map.mp hw
  have := yAll (f := fun j => yhas (([182, 183, 184] : List Nat).getD j 0) (u_lay RX4 TX4 j)) (n := 3) (by decide +kernel) (List.mem_range.mp hj)
  exact yhas_in this
set_option maxRecDepth 20000 in
theorem yu5 : ∀ w ∈ u_ws RX5 TX5 12, w ∈ yALL := by
  intro w hw
  obtain ⟨j, hj, rfl⟩ := List.mem_map.mp hw
  have := yAll (f := fun j => yhas (([337, 338, 339, 340, 341, 342, 343, 344, 345, 346, 347, 348] : List Nat).getD j 0) (u_lay RX5 TX5 j)) (n := 12) (by decide +kernel) (List.mem_range.mp hj)
  exact yhas_in this
set_option maxRecDepth 20000 in
theorem yu6 : ∀ w ∈ u_ws RX6 TX6 4, w ∈ yALL := by
  intro w hw
  obtain ⟨j, hj, rfl⟩ := List.mem_map.mp hw
  have := yAll (f := fun j => yhas (([366, 367, 368, 369] : List Nat).getD j 0) (u_lay RX6 TX6 j)) (n := 4) (by decide +kernel) (List.mem_range.mp hj)
  exact yhas_in this
set_option maxRecDepth 20000 in
theorem yu7 : ∀ w ∈ u_ws RX7 TX7 6, w ∈ yALL := by
  intro w hw
  obtain ⟨j, hj, rfl⟩ := List.mem_map.mp hw
  have := yAll (f := fun j => yhas (([404, 405, 406, 407, 408, 409] : List Nat).getD j 0) (u_lay RX7 TX7 j)) (n := 6) (by decide +kernel) (List.mem_range.mp hj)
  exact yhas_in this
set_option maxRecDepth 20000 in
theorem yu8 : ∀ w ∈ u_ws RX8 TX8 10, w ∈ yALL := by
  intro w hw
  obtain ⟨j, hj, rfl⟩ := List.mem_map.mp hw
  have := yAll (f := fun j => yhas (([254, 255, 256, 257, 258, 259, 260, 261, 262, 263] : List Nat).getD j 0) (u_lay RX8 TX8 j)) (n := 10) (by decide +kernel) (List.mem_range.mp hj)
  exact yhas_in this
set_option maxRecDepth 20000 in
theorem yu9 : ∀ w ∈ u_ws RX9 TX9 7, w ∈ yALL := by
  intro w hw
  obtain ⟨j, hj, rfl⟩ := List.mem_map.mp hw
  have := yAll (f := fun j => yhas (([385, 386, 387, 388, 389, 390, 391] : List Nat).getD j 0) (u_lay RX9 TX9 j)) (n := 7) (by decide +kernel) (List.mem_range.mp hj)
  exact yhas_in this
set_option maxRecDepth 20000 in
theorem yu10 : ∀ w ∈ u_ws RX10 TX10 3, w ∈ yALL := by
  intro w hw
  obtain ⟨j, hj, rfl⟩ := List.mem_map.mp hw
  have := yAll (f := fun j => yhas (([147, 148, 149] : List Nat).getD j 0) (u_lay RX10 TX10 j)) (n := 3) (by decide +kernel) (List.mem_range.mp hj)
  exact yhas_in this
set_option maxRecDepth 20000 in
theorem yu11 : ∀ w ∈ u_ws RX11 TX11 20, w ∈ yALL := by
  intro w hw
  obtain ⟨j, hj, rfl⟩ := List.mem_map.mp hw
  have := yAll (f := fun j => yhas (([430, 431, 432, 433, 434, 435, 436, 437, 438, 439, 440, 441, 442, 443, 444, 445, 446, 447, 448, 449] : List Nat).getD j 0) (u_lay RX11 TX11 j)) (n := 20) (by decide +kernel) (List.mem_range.mp hj)
  exact yhas_in this
set_option maxRecDepth 20000 in
theorem yu12 : ∀ w ∈ u_ws RX12 TX12 56, w ∈ yALL := by
  intro w hw
  obtain ⟨j, hj, rfl⟩ := List.mem_map.mp hw
  have := yAll (f := fun j => yhas (([947, 948, 949, 950, 951, 952, 953, 954, 955, 956, 957, 958, 959, 960, 961, 962, 963, 964, 965, 966, 967, 968, 969, 970, 971, 972, 973, 974, 975, 976, 977, 978, 979, 980, 981, 982, 983, 984, 985, 986, 987, 988, 989, 990, 991, 992, 993, 994, 995, 996, 997, 998, 999, 1000, 1001, 1002] : List Nat).getD j 0) (u_lay RX12 TX12 j)) (n := 56) (by decide +kernel) (List.mem_range.mp hj)
  exact yhas_in this
theorem yCls : ∀ (ci : Nat) (q : vw_C), vwCl[ci]? = some q → ∃ ty0, zCls yALL ci q.1 q.2.1 q.2.2 ty0 := by
  intro ci q hq
  match ci, hq with
  | 0, hq => cases hq; exact ⟨tyX0, rfl, yu0, tyX0_ok, nmX0⟩
  | 1, hq => cases hq; exact ⟨tyX1, rfl, yu1, tyX1_ok, nmX1⟩
  | 2, hq => cases hq; exact ⟨tyX2, rfl, yu2, tyX2_ok, nmX2⟩
  | 3, hq => cases hq; exact ⟨tyX3, rfl, yu3, tyX3_ok, nmX3⟩
  | 4, hq => cases hq; exact ⟨tyX4, rfl, yu4, tyX4_ok, nmX4⟩
  | 5, hq => cases hq; exact ⟨tyX5, rfl, yu5, tyX5_ok, nmX5⟩
  | 6, hq => cases hq; exact ⟨tyX6, rfl, yu6, tyX6_ok, nmX6⟩
  | 7, hq => cases hq; exact ⟨tyX7, rfl, yu7, tyX7_ok, nmX7⟩
  | 8, hq => cases hq; exact ⟨tyX8, rfl, yu8, tyX8_ok, nmX8⟩
  | 9, hq => cases hq; exact ⟨tyX9, rfl, yu9, tyX9_ok, nmX9⟩
  | 10, hq => cases hq; exact ⟨tyX10, rfl, yu10, tyX10_ok, nmX10⟩
  | 11, hq => cases hq; exact ⟨tyX11, rfl, yu11, tyX11_ok, nmX11⟩
  | 12, hq => cases hq; exact ⟨tyX12, rfl, yu12, tyX12_ok, nmX12⟩
  | k + 13, hq => simp [vwCl] at hq
def yFlP : List (List Nat) := [[], [], [], [], [], [], [], [302, 303, 304], [264, 270], [140, 141, 143], [410, 411, 412, 413, 414, 415, 416, 417, 418, 419, 420, 421, 422, 423, 424, 425, 426, 427, 428, 429, 142, 146, 268, 197, 179, 181, 287, 305, 365, 275, 279, 246, 283, 230, 225, 220, 233, 236, 240, 200, 253, 243, 329, 331, 320, 323, 333, 335, 325, 384, 381, 359, 362, 356, 318, 327, 250], [892, 897, 898, 899, 900, 901, 902, 903, 906, 907, 908, 909, 911, 912, 914, 915, 916, 918, 919, 920, 921, 922, 923, 929, 934, 935, 936, 937, 939, 940, 941, 942, 943, 945, 891, 893, 894, 895, 905, 896, 910, 913, 938, 944, 930, 946, 904, 924, 926, 925, 928, 927, 917, 931, 932, 933], [159, 160, 161, 162, 163, 158, 144, 269, 274, 278, 288, 245, 282, 229, 224, 219, 239], [191, 192, 193, 194, 196, 198], [178, 180, 177, 145], [317, 319, 321, 324, 326, 328, 330, 332, 334, 336, 315, 316, 271, 266, 218, 281, 277, 223, 199, 228, 195, 252, 235, 232, 247, 249, 242], [354, 357, 360, 363], [400, 401, 402, 403, 398, 399, 267, 238, 272, 284, 221], [217, 222, 226, 231, 234, 237, 241, 244, 248, 251], [380, 382, 383, 376, 377, 378, 379, 265, 286, 227, 322, 364, 355, 358, 361, 273]]
def yFlF (c i : Nat) (v : Nat × Nat × Nat) (q : Nat) : Bool := match vwCl[v.1]? with
  | some (_, T, Nf) => decide (v.2.1 < Nf) && (yhas q (.fieldLink (yCn c) i (T v.2.1).1 (T v.2.1).2.1 (T v.2.1).2.2.1) && (!decide (v.2.2 ≤ 2) || (decide ((T v.2.1).2.2.2 = false) && decide (parseFieldDescriptor (T v.2.1).2.2.1 = some (zFT v.2.2)))))
  | none => false
set_option maxRecDepth 20000 in
theorem yFl_ok : ytabk yFlF yFlL yFlP = true := by decide +kernel
theorem yOk_fl (m : Nat) : zFldOk yALL (yMY m).cls (yFld m) := by
  intro idx cj fi b h
  obtain ⟨h1, h2⟩ := yfnd (L := yFlL) h
  obtain ⟨q, hq⟩ := ytabk_in yFl_ok h1 h2
  unfold yFlF at hq
  rw [yCls_mid (L := yCnL) rfl h1 rfl]
  simp only at hq
  split at hq
  case h_1 C T Nf hv =>
    simp only [Bool.and_eq_true, Bool.or_eq_true, Bool.not_eq_true', decide_eq_true_eq, decide_eq_false_iff_not] at hq
    obtain ⟨ty0, hc⟩ := yCls cj _ hv
    refine ⟨C, T, Nf, ty0, hc, hq.1, yhas_in hq.2.1, fun hb => ?_⟩
    rcases hq.2.2 with q9 | q9
    · exact absurd hb q9
    · exact q9
  case h_2 => cases hq
def yKiP : List (List Nat) := [[], [], [554, 550], [519], [], [756, 757, 758], [], [], [], [], [738], [1200], [], [701, 703], [], [], [], [], [], []]
def yKlP : List (List Nat) := [[], [], [], [], [], [], [], [], [], [], [718, 719, 762, 763], [1177, 1178, 1192, 1193, 1264, 1265], [], [700, 702], [], [], [], [], [], []]
set_option maxRecDepth 20000 in
theorem yKi_ok : ytabk (fun c i v q => yhas q (.constant (yCn c) i v)) yKiL yKiP = true := by decide +kernel
set_option maxRecDepth 20000 in
theorem yKl_ok : ytabk (fun c i v q => yhas q (.constantLong (yCn c) i v)) yKlL yKlP = true := by decide +kernel
def yGl : List (String × String × String × zV) := [("java/lang/String", "COMPACT_STRINGS", "Z", .inl 1), (RX2, "RULE_LOW", "[I", .inr (.inr 441)), (RX2, "RULE_HIGH", "[I", .inr (.inr 442)), (RX2, "RULE_FIRST", "[I", .inr (.inr 443)), (RX2, "MAN_LOW", "[I", .inr (.inr 444)), (RX2, "MAN_HIGH", "[I", .inr (.inr 445)), (RX2, "MAN_FIRST", "[I", .inr (.inr 446))]
def ySl : List (String × Nat × String × Nat) := [(RX2, 65, "hnc", 448), (RX2, 80, "ndeb", 450), (RX4, 70, "diehwn", 452)]
def yGsP : List (List Nat) := [[492], [], [], [], [], [], [], [], [], [], [], [], [464, 475, 476, 567, 568, 569], [], [], [], [], [], [], []]
set_option maxRecDepth 20000 in
theorem yGs_okk : ytabk (fun c i v q => yGl.any (fun z => decide (z.2.2.2 = v) && yhas q (.fieldLink (yCn c) i z.1 z.2.1 z.2.2.1))) yGsL yGsP = true := by decide +kernel
def yLsP : List (List Nat) := [[], [], [], [], [], [], [], [], [], [], [], [], [0, 0], [], [0], [], [], [], [], []]
theorem yLs_ok : ytabk (fun c i v _ => ySl.any (fun z => decide (z.1 = yCn c) && (decide (z.2.1 = i) && decide (z.2.2.2 = v)))) yLsL yLsP = true := by decide +kernel
def yFsP : List (List Nat) := [[1283, 1282], [], [], [], [], [], [], [], [], [], [], [], [], [], [], [], [], [], [], []]
theorem yFs_ok : ytabk (fun c i v q => yhas q (.fieldLink (yCn c) i "java/lang/String" (if v = 0 then "value" else "coder") (if v = 0 then "[B" else "B"))) yFsL yFsP = true := by decide +kernel
def yAcP : List (List Nat) := [[], [], [], [], [], [], [], [], [], [], [], [], [465], [632], [], [], [], [790], [627], []]
set_option maxRecDepth 20000 in
theorem yAc_ok : ytabk (fun c i _ q => yhas q (.methodLink (yCn c) i arraycopyName)) yAcL yAcP = true := by decide +kernel
theorem yOk_L : zOkL yMY yFld yKI yKL yGst yLdS yFldS yAcp yALL yGl ySl := by
  intro m
  refine ⟨yOk_fl m, fun i v h => ?_, fun i v h => ?_, fun i v h => ?_, fun i v h => ?_, fun i v h => ?_, fun i h => ?_⟩
  · obtain ⟨h1, h2⟩ := yfnd (L := yKiL) h
    obtain ⟨q, hq⟩ := ytabk_in yKi_ok h1 h2
    rw [yCls_mid (L := yCnL) rfl h1 rfl]
    exact yhas_in hq
  · obtain ⟨h1, h2⟩ := yfnd (L := yKlL) h
    obtain ⟨q, hq⟩ := ytabk_in yKl_ok h1 h2
    rw [yCls_mid (L := yCnL) rfl h1 rfl]
    exact yhas_in hq
  · obtain ⟨h1, h2⟩ := yfnd (L := yGsL) h
    obtain ⟨q, hq⟩ := ytabk_in yGs_okk h1 h2
    rw [yCls_mid (L := yCnL) rfl h1 rfl]
    obtain ⟨z, hz, hq⟩ := List.any_eq_true.mp hq
    rw [Bool.and_eq_true] at hq
    exact ⟨z, hz, of_decide_eq_true hq.1, yhas_in hq.2⟩
  · obtain ⟨h1, h2⟩ := yfnd (L := yLsL) h
    obtain ⟨q, hq⟩ := ytabk_in yLs_ok h1 h2
    rw [yCls_mid (L := yCnL) rfl h1 rfl]
    obtain ⟨z, hz, hq⟩ := List.any_eq_true.mp hq
    simp only [Bool.and_eq_true, decide_eq_true_eq] at hq
    refine ⟨z.2.2.1, ?_⟩
    rw [← hq.1, ← hq.2.1, ← hq.2.2]
    exact hz
  · obtain ⟨h1, h2⟩ := yfnd (L := yFsL) h
    obtain ⟨q, hq⟩ := ytabk_in yFs_ok h1 h2
    rw [yCls_mid (L := yCnL) rfl h1 rfl]
    exact yhas_in hq
  · unfold yAcp at h
    obtain ⟨v, hv⟩ := Option.isSome_iff_exists.mp h
    obtain ⟨h1, h2⟩ := yfnd (L := yAcL) hv
    obtain ⟨q, hq⟩ := ytabk_in yAc_ok h1 h2
    rw [yCls_mid (L := yCnL) rfl h1 rfl]
    exact ⟨yhas_in hq, yWat_in (i := 467) (by decide +kernel), yWat_in (i := 466) (by decide +kernel), yWat_in (i := 121) (by decide +kernel)⟩
/-! calls -/
/-- the places of a callee's words: its code, its class, static or not, its choice -/
def yCpL : List (Nat × Nat × Nat × Nat) := [(531, 122, 530, 530), (500, 122, 498, 499), (483, 122, 481, 482), (487, 122, 485, 486), (491, 122, 489, 490), (496, 122, 494, 495), (549, 127, 548, 548), (546, 127, 545, 545), (553, 127, 552, 552), (506, 123, 505, 505), (515, 123, 514, 514), (503, 123, 502, 502), (525, 125, 524, 524), (540, 125, 539, 539), (537, 125, 536, 536), (522, 125, 521, 521), (543, 125, 542, 542), (518, 125, 517, 517), (528, 125, 527, 527), (534, 126, 533, 533), (755, 128, 754, 754), (846, 124, 845, 845), (509, 124, 508, 508), (1184, 124, 1183, 1183), (512, 124, 511, 511), (1181, 124, 1180, 1180), (653, 115, 651, 652), (728, 115, 726, 727), (457, 109, 455, 456), (566, 109, 564, 565), (562, 109, 561, 561), (474, 109, 472, 473), (453, 109, 452, 452), (573, 109, 571, 572), (558, 109, 556, 557), (850, 108, 849, 39), (759, 9999, 9999, 9999), (884, 9999, 9999, 9999), (638, 9999, 9999, 9999), (622, 108, 621, 12), (815, 9999, 9999, 9999), (660, 108, 659, 15), (885, 9999, 9999, 9999), (808, 108, 807, 34), (717, 108, 716, 22), (714, 108, 713, 21), (722, 108, 721, 23), (736, 9999, 9999, 9999), (656, 9999, 9999, 9999), (458, 9999, 9999, 9999), (814, 108, 813, 36), (459, 9999, 9999, 9999), (450, 9999, 9999, 9999), (861, 108, 860, 41), (852, 9999, 9999, 9999), (636, 108, 635, 13), (839, 9999, 9999, 9999), (883, 9999, 9999, 9999), (824, 108, 823, 823), (855, 108, 854, 854), (637, 9999, 9999, 9999), (802, 108, 801, 32), (811, 108, 810, 35), (851, 9999, 9999, 9999), (729, 9999, 9999, 9999), (886, 9999, 9999, 9999), (878, 108, 877, 45), (875, 9999, 9999, 9999), (739, 9999, 9999, 9999), (805, 108, 804, 33), (661, 9999, 9999, 9999), (881, 108, 880, 46), (761, 9999, 9999, 9999), (858, 108, 857, 40), (865, 108, 864, 42), (645, 108, 644, 14), (862, 9999, 9999, 9999), (868, 108, 867, 43), (799, 9999, 9999, 9999), (633, 9999, 9999, 9999), (847, 9999, 9999, 9999), (816, 9999, 9999, 9999), (869, 9999, 9999, 9999), (734, 9999, 9999, 9999), (737, 9999, 9999, 9999), (710, 9999, 9999, 9999), (882, 9999, 9999, 9999), (764, 9999, 9999, 9999), (723, 9999, 9999, 9999), (872, 108, 871, 44), (657, 9999, 9999, 9999), (615, 9999, 9999, 9999), (655, 9999, 9999, 9999), (724, 9999, 9999, 9999), (873, 9999, 9999, 9999), (821, 9999, 9999, 9999), (711, 9999, 9999, 9999), (1222, 120, 1221, 95), (1140, 120, 1139, 78), (1253, 120, 1252, 102), (1104, 120, 1103, 69), (1083, 120, 1082, 64), (1201, 9999, 9999, 9999), (1204, 120, 1203, 90), (1280, 9999, 9999, 9999), (1044, 120, 1043, 52), (1121, 9999, 9999, 9999), (1111, 120, 1110, 71), (1230, 9999, 9999, 9999), (1176, 120, 1175, 1175), (1006, 120, 1005, 1005), (1059, 120, 1058, 56), (1074, 120, 1073, 61), (1092, 120, 1091, 66), (1062, 120, 1061, 57), (1281, 9999, 9999, 9999), (1191, 120, 1190, 89), (1197, 9999, 9999, 9999), (1164, 120, 1163, 86), (1132, 9999, 9999, 9999), (1007, 9999, 9999, 9999), (1008, 9999, 9999, 9999), (1003, 9999, 9999, 9999), (1208, 120, 1207, 91), (1255, 9999, 9999, 9999), (1258, 120, 1257, 103), (1098, 120, 1097, 67), (1101, 120, 1100, 68), (1029, 120, 1028, 1028), (1020, 120, 1019, 49), (1035, 120, 1034, 1034), (1247, 9999, 9999, 9999), (1279, 9999, 9999, 9999), (1047, 120, 1046, 1046), (1041, 120, 1040, 1040), (1219, 120, 1218, 94), (1124, 120, 1123, 74), (1155, 120, 1154, 83), (1119, 120, 1118, 73), (1237, 120, 1236, 98), (1127, 120, 1126, 75), (1262, 120, 1261, 104), (1095, 120, 1094, 1094), (1246, 120, 1245, 101), (1243, 120, 1242, 100), (1050, 120, 1049, 53), (1026, 120, 1025, 1025), (1023, 120, 1022, 50), (1130, 120, 1129, 76), (1120, 9999, 9999, 9999), (1152, 120, 1151, 82), (1149, 120, 1148, 81), (1240, 120, 1239, 99), (1089, 120, 1088, 1088), (1254, 9999, 9999, 9999), (1146, 120, 1145, 80), (1196, 9999, 9999, 9999), (1017, 120, 1016, 48), (1032, 120, 1031, 1031), (1116, 9999, 9999, 9999), (1161, 120, 1160, 85), (1271, 9999, 9999, 9999), (1274, 120, 1273, 106), (1205, 9999, 9999, 9999), (1137, 9999, 9999, 9999), (1038, 120, 1037, 51), (1263, 9999, 9999, 9999), (1114, 120, 1113, 72), (1056, 120, 1055, 55), (1068, 120, 1067, 59), (1143, 120, 1142, 79), (1086, 120, 1085, 65), (1071, 120, 1070, 60), (1011, 120, 1010, 47), (1053, 120, 1052, 54), (1277, 120, 1276, 107), (1259, 9999, 9999, 9999), (1223, 9999, 9999, 9999), (1115, 9999, 9999, 9999), (1250, 9999, 9999, 9999), (1231, 9999, 9999, 9999), (1266, 9999, 9999, 9999), (1198, 9999, 9999, 9999), (1199, 9999, 9999, 9999), (1187, 9999, 9999, 9999), (1278, 9999, 9999, 9999), (1210, 9999, 9999, 9999), (1194, 9999, 9999, 9999), (1077, 120, 1076, 62), (1269, 120, 1268, 105), (1133, 9999, 9999, 9999), (1136, 120, 1135, 77), (1108, 120, 1107, 70), (1080, 120, 1079, 63), (1105, 9999, 9999, 9999), (1131, 9999, 9999, 9999), (1213, 120, 1212, 92), (1229, 120, 1228, 97), (1226, 120, 1225, 96), (1216, 120, 1215, 93), (1195, 9999, 9999, 9999), (1065, 120, 1064, 58), (1014, 120, 1013, 1013), (1270, 9999, 9999, 9999), (1158, 120, 1157, 84), (1234, 120, 1232, 1233), (1170, 120, 1169, 88), (1173, 120, 1172, 1172), (1167, 120, 1166, 87), (1188, 9999, 9999, 9999), (649, 113, 647, 648), (642, 113, 640, 641), (576, 110, 575, 2), (470, 110, 469, 0), (463, 110, 461, 462), (479, 110, 478, 1), (619, 110, 617, 618), (631, 112, 629, 630), (699, 112, 698, 698), (696, 112, 695, 695), (693, 112, 692, 20), (690, 112, 688, 689), (598, 111, 597, 7), (602, 111, 601, 601), (594, 111, 593, 6), (583, 111, 582, 3), (605, 111, 604, 8), (580, 111, 578, 579), (614, 111, 613, 11), (588, 111, 587, 4), (591, 111, 590, 5), (608, 111, 607, 9), (611, 111, 610, 10), (743, 116, 741, 742), (752, 116, 750, 751), (672, 116, 671, 16), (686, 116, 685, 19), (748, 116, 746, 747), (679, 116, 678, 17), (665, 116, 663, 664), (669, 116, 667, 668), (683, 116, 682, 18), (709, 116, 707, 708), (820, 117, 818, 819), (789, 119, 788, 30), (771, 119, 770, 24), (783, 119, 782, 28), (768, 119, 766, 767), (798, 119, 797, 31), (786, 119, 785, 29), (774, 119, 773, 25), (780, 119, 779, 27), (795, 119, 793, 794), (777, 119, 776, 26), (626, 114, 624, 625), (733, 114, 731, 732), (676, 114, 674, 675), (832, 118, 831, 37), (828, 118, 826, 827), (843, 118, 841, 842), (836, 118, 835, 38)]
def yCp (m : Nat) : Nat × Nat × Nat × Nat := yCpL.getD m (0, 0, 0, 0)
def yCeF (m na kc : Nat) : Bool := decide (m < 261) && (yhas (yCp m).1 (.code (yMY m) (yMC m) (yMl m) (yMr m)) && (plainName (yMY m).cls && (decide (yMl m ≤ 21) && (yhas (yCp m).2.1 (.initialized (yMY m).cls) && (decide ((yMY m).cls ≠ "java/lang/invoke/MethodHandle") && (decide ((yMY m).cls ≠ "java/lang/invoke/VarHandle") &&
  (if kc = 100 then yhas (yCp m).2.2.1 (.static (yMY m)) && decide ((parseMethodDescriptor (yMY m).desc).map (fun d => d.parameters.length) = some na)
  else decide (0 < na) && (yhas (yCp m).2.2.1 (.instanceMethod (yMY m)) && (yhas (yCp m).2.2.2 (.selects (yMY m).cls (yMY m) (yMY m)) && (decide ((parseMethodDescriptor (yMY m).desc).map (fun d => d.parameters.length) = some (na - 1)) &&
    (if kc = 99 then decide ((yMY m).cls = "java/lang/String") else decide (kc < 99) && (match vwCl[kc]? with
      | some q => decide (q.1 = (yMY m).cls)
      | none => false)))))))))))))
def yCaP : List (List Nat) := [[497, 488, 493, 484, 501, 516, 532], [510, 504, 507, 513], [], [526, 538, 523, 547, 551, 544, 520, 541, 529, 535], [], [], [], [654], [], [559, 560, 563], [451, 454, 460, 577, 616, 620, 628, 623, 634, 639, 643, 646, 650, 658, 662, 712, 720, 715, 725, 730, 735, 740, 744, 745, 760, 765, 792, 800, 803, 806, 809, 812, 817, 822, 825, 840, 848, 853, 856, 859, 863, 866, 870, 874, 876, 879], [1004, 1018, 1042, 1015, 1039, 1084, 1069, 1087, 1066, 1075, 1072, 1081, 1078, 1093, 1063, 1060, 1090, 1096, 1099, 1054, 1057, 1102, 1179, 1182, 1174, 1171, 1168, 1045, 1012, 1024, 1027, 1030, 1033, 1036, 1021, 1048, 1009, 1051, 1112, 1109, 1106, 1159, 1156, 1165, 1185, 1186, 1153, 1162, 1150, 1147, 1144, 1117, 1122, 1125, 1128, 1134, 1138, 1141, 1189, 1202, 1209, 1206, 1220, 1214, 1217, 1211, 1227, 1224, 1241, 1235, 1238, 1244, 1248, 1249, 1251, 1256, 1260, 1267, 1272, 1275], [468, 570, 471, 574, 477, 480, 555], [691, 694, 697], [581, 596, 584, 585, 586, 600, 603, 606, 609, 612, 589, 592, 595, 599], [670, 677, 681, 673, 680, 684, 687, 666, 704, 705, 706, 749, 753], [], [769, 772, 796, 775, 778, 791, 781, 784, 787], [], [829, 830, 833, 834, 838, 837, 844]]
/-- the callees, each once -/
def yCeL : List (Nat × Nat × Nat) := [(0, 3, 100), (1, 1, 99), (2, 2, 99), (3, 3, 99), (4, 1, 99), (5, 1, 99), (6, 1, 100), (7, 1, 100), (8, 1, 100), (9, 1, 100), (10, 4, 100), (11, 4, 100), (12, 3, 100), (13, 2, 100), (14, 4, 100), (15, 4, 100), (16, 4, 100), (17, 4, 100), (18, 1, 100), (19, 4, 100), (20, 1, 100), (21, 1, 100), (22, 2, 100), (23, 2, 100), (24, 2, 100), (25, 2, 100), (26, 2, 0), (27, 2, 0), (28, 2, 10), (29, 1, 10), (30, 1, 100), (31, 1, 10), (32, 1, 100), (33, 2, 10), (34, 2, 10), (35, 3, 11), (39, 1, 11), (41, 3, 11), (43, 1, 11), (44, 2, 11), (45, 1, 11), (46, 1, 11), (50, 3, 11), (53, 3, 11), (55, 1, 11), (58, 1, 100), (59, 1, 100), (61, 1, 11), (62, 1, 11), (66, 3, 11), (69, 1, 11), (71, 1, 11), (73, 5, 11), (74, 3, 11), (75, 2, 11), (77, 3, 11), (89, 2, 11), (97, 3, 12), (98, 2, 12), (99, 3, 12), (100, 1, 12), (101, 1, 12), (103, 2, 12), (105, 1, 12), (107, 1, 12), (109, 1, 100), (110, 6, 100), (111, 1, 12), (112, 2, 12), (113, 1, 12), (114, 1, 12), (116, 2, 12), (118, 4, 12), (123, 1, 12), (125, 5, 12), (126, 1, 12), (127, 1, 12), (128, 2, 100), (129, 1, 12), (130, 2, 100), (133, 3, 100), (134, 1, 100), (135, 2, 12), (136, 2, 12), (137, 3, 12), (138, 2, 12), (139, 2, 12), (140, 2, 12), (141, 5, 12), (142, 1, 100), (143, 2, 12), (144, 2, 12), (145, 1, 12), (146, 2, 100), (147, 5, 12), (148, 1, 12), (150, 2, 12), (151, 1, 12), (152, 2, 12), (153, 1, 100), (155, 1, 12), (157, 1, 12), (158, 2, 100), (160, 2, 12), (162, 3, 12), (165, 3, 12), (167, 3, 12), (168, 2, 12), (169, 1, 12), (170, 1, 12), (171, 1, 12), (172, 3, 12), (173, 1, 12), (174, 2, 12), (175, 1, 12), (188, 1, 12), (189, 2, 12), (191, 3, 12), (192, 1, 12), (193, 1, 12), (196, 4, 12), (197, 4, 12), (198, 2, 12), (199, 3, 12), (201, 1, 12), (202, 2, 100), (204, 2, 12), (205, 3, 12), (206, 4, 12), (207, 3, 100), (208, 2, 12), (210, 2, 1), (211, 2, 1), (212, 1, 2), (213, 1, 2), (214, 1, 2), (215, 5, 2), (216, 2, 2), (217, 3, 3), (218, 1, 100), (219, 3, 100), (220, 2, 3), (221, 1, 3), (222, 2, 4), (223, 1, 100), (224, 2, 4), (225, 1, 4), (226, 3, 4), (227, 1, 4), (228, 3, 4), (229, 2, 4), (230, 2, 4), (231, 3, 4), (232, 3, 4), (233, 1, 5), (234, 2, 5), (235, 2, 5), (236, 5, 5), (237, 1, 5), (238, 3, 5), (239, 2, 5), (240, 2, 5), (241, 5, 5), (242, 1, 5), (243, 4, 6), (244, 5, 7), (245, 1, 7), (246, 3, 7), (247, 1, 7), (248, 3, 7), (249, 3, 7), (250, 1, 7), (251, 2, 7), (252, 1, 7), (253, 3, 7), (254, 2, 8), (255, 1, 8), (256, 3, 8), (257, 2, 9), (258, 2, 9), (259, 1, 9), (260, 1, 9)]
set_option maxRecDepth 20000 in
theorem yCe_ok0 : ((yCeL.drop 0).take 40).all (fun q => yCeF q.1 q.2.1 q.2.2) = true := by decide +kernel
set_option maxRecDepth 20000 in
theorem yCe_ok1 : ((yCeL.drop 40).take 40).all (fun q => yCeF q.1 q.2.1 q.2.2) = true := by decide +kernel
set_option maxRecDepth 20000 in
theorem yCe_ok2 : ((yCeL.drop 80).take 40).all (fun q => yCeF q.1 q.2.1 q.2.2) = true := by decide +kernel
set_option maxRecDepth 20000 in
theorem yCe_ok3 : ((yCeL.drop 120).take 40).all (fun q => yCeF q.1 q.2.1 q.2.2) = true := by decide +kernel
set_option maxRecDepth 20000 in
theorem yCe_ok4 : ((yCeL.drop 160).take 40).all (fun q => yCeF q.1 q.2.1 q.2.2) = true := by decide +kernel
theorem ydt {α : Type} {p : α → Bool} (l : List α) (n : Nat) (h1 : ((l.drop 0).take n).all p = true) (h2 : ((l.drop n)).all p = true) : l.all p = true := by
  rw [← List.take_append_drop n l, List.all_append, h2, Bool.and_true]
  exact h1
theorem yds {α : Type} {p : α → Bool} {l : List α} {k n : Nat} (h1 : ((l.drop k).take n).all p = true) (h2 : (l.drop (k + n)).all p = true) : (l.drop k).all p = true := by
  have e : (l.drop k).drop n = l.drop (k + n) := by rw [List.drop_drop]
  rw [← List.take_append_drop n (l.drop k), List.all_append, e, h2, h1]
  rfl
theorem yCe_all : ∀ q ∈ yCeL, yCeF q.1 q.2.1 q.2.2 = true := by
  have h : (yCeL.drop 0).all (fun q => yCeF q.1 q.2.1 q.2.2) = true := (yds (k := 0) (n := 40) yCe_ok0 (yds (k := 40) (n := 40) yCe_ok1 (yds (k := 80) (n := 40) yCe_ok2 (yds (k := 120) (n := 40) yCe_ok3 (yds (k := 160) (n := 40) yCe_ok4 (show (yCeL.drop 200).all (fun q => yCeF q.1 q.2.1 q.2.2) = true from by rw [List.drop_eq_nil_of_le (by decide +kernel)]; rfl))))))
  rw [List.drop_zero] at h
  exact List.all_eq_true.mp h
set_option maxRecDepth 20000 in
theorem yCa_ok : ytabk (fun c i v q => yhas q (.methodLink (yCn c) i (yMY v.1)) && yCeL.any (fun z => decide (z.1 = v.1) && (decide (z.2.1 = v.2.1) && decide (z.2.2 = v.2.2)))) yCaL yCaP = true := by decide +kernel
theorem yOk_C : zOkC yMY yMC yMl yMr yCal yALL := by
  intro mid idx callee na kc h
  obtain ⟨h1, h2⟩ := yfnd (L := yCaL) h
  obtain ⟨q, hq⟩ := ytabk_in yCa_ok h1 h2
  rw [yCls_mid (L := yCnL) rfl h1 rfl]
  rw [Bool.and_eq_true] at hq
  obtain ⟨z, hz, hz2⟩ := List.any_eq_true.mp hq.2
  simp only [Bool.and_eq_true, decide_eq_true_eq] at hz2
  have hc := yCe_all z hz
  rw [hz2.1, hz2.2.1, hz2.2.2] at hc
  unfold yCeF at hc
  simp only [Bool.and_eq_true, decide_eq_true_eq] at hc
  obtain ⟨-, c1, c2, c3, c4, c5, c6, c7⟩ := hc
  refine ⟨yhas_in c1, c2, c3, yhas_in hq.1, yhas_in c4, c5, c6, fun hk => ?_, fun hk => ?_⟩
  · rw [if_pos hk] at c7
    simp only [Bool.and_eq_true, decide_eq_true_eq] at c7
    exact ⟨yhas_in c7.1, c7.2⟩
  · rw [if_neg (by omega)] at c7
    simp only [Bool.and_eq_true, decide_eq_true_eq] at c7
    obtain ⟨d1, d2, d3, d4, d5⟩ := c7
    refine ⟨d1, yhas_in d2, yhas_in d3, d4, ?_⟩
    split at d5
    case isTrue h99 => exact Or.inl ⟨h99, of_decide_eq_true d5⟩
    case isFalse h99 =>
      rw [Bool.and_eq_true] at d5
      refine Or.inr ⟨of_decide_eq_true d5.1, ?_⟩
      have d6 := d5.2
      split at d6
      case h_1 q9 hq9 => exact ⟨q9, hq9, of_decide_eq_true d6⟩
      case h_2 => cases d6
