/-! worked, bounded -/
/-- J9_max_f86c9 (None,) -/
noncomputable def yQ_w0 : sQ := (23, ([], [(1, 0, (0, [])), (1, 2, (0, []))], [((-1000000), (-1000000)), ((-9223372036854775808), 1000000)], [], [(0, 0), (1, 1)], (0, [])), [(some (1, (0, [(1, 1)])), [], [], [((-999999), [(1, (-1))]), (1, [(0, 1), (1, (-1))])], []), (some (1, (0, [(0, 1)])), [], [], [(1000001, [(1, 1)]), (1, [(0, (-1)), (1, 1)])], []), (some (1, (0, [(0, 1)])), [], [], [(1000000, [(1, 1)]), ((-1000000), [(1, (-1))]), (0, [(0, (-1)), (1, 1)]), (0, [(0, 1), (1, (-1))])], [])], [], 0)
noncomputable def yL_w0 : List (Nat × List sAp) := []
noncomputable def yP_w0 : List (sE × List Int) := []
theorem yS_w0 {gv : Nat → zH → Int} (hg : sGv yReg yGu gv) : ySum gv yQ_w0 := yOk hg (F := 500) (sp := yP_w0) (L := yL_w0) (Qs := []) (by decide +kernel) yNil
/-- J9_min_f86c9 (None,) -/
noncomputable def yQ_w1 : sQ := (25, ([], [(1, 0, (0, [])), (1, 2, (0, []))], [(1000000, 1000000), ((-9223372036854775808), 9223372036854775807)], [], [(0, 0), (1, 1)], (0, [])), [(some (1, (0, [(0, 1)])), [], [], [(1000001, [(1, (-1))]), (1, [(0, 1), (1, (-1))])], []), (some (1, (0, [(1, 1)])), [], [], [((-999999), [(1, 1)]), (1, [(0, (-1)), (1, 1)])], []), (some (1, (0, [(0, 1)])), [], [], [((-1000000), [(1, 1)]), (1000000, [(1, (-1))]), (0, [(0, (-1)), (1, 1)]), (0, [(0, 1), (1, (-1))])], [])], [], 0)
noncomputable def yL_w1 : List (Nat × List sAp) := []
noncomputable def yP_w1 : List (sE × List Int) := []
theorem yS_w1 {gv : Nat → zH → Int} (hg : sGv yReg yGu gv) : ySum gv yQ_w1 := yOk hg (F := 500) (sp := yP_w1) (L := yL_w1) (Qs := []) (by decide +kernel) yNil
/-- X12_bounded (None,) -/
noncomputable def yQ_w2 : sQ := (109, ([], [(1, 0, (0, []))], [((-9223372036854775808), 9223372036854775807)], [], [(0, 0)], (0, [])), [(some (0, (1000000, [])), [], [], [(1000001, [(0, (-1))])], []), (some (0, (1000000, [])), [], [], [((-1000000), [(0, 1)]), (1000000, [(0, (-1))])], []), (some (0, (0, [(0, 1)])), [], [], [((-999999), [(0, 1)]), ((-999999), [(0, (-1))])], []), (some (0, ((-1000000), [])), [], [], [(1000000, [(0, 1)]), ((-1000000), [(0, (-1))])], []), (some (0, ((-1000000), [])), [], [], [(1000001, [(0, 1)])], [])], [], 1)
noncomputable def yL_w2 : List (Nat × List sAp) := []
noncomputable def yP_w2 : List (sE × List Int) := []
theorem yS_w2 {gv : Nat → zH → Int} (hg : sGv yReg yGu gv) : ySum gv yQ_w2 := yOk hg (F := 500) (sp := yP_w2) (L := yL_w2) (Qs := [yQ_w0, yQ_w1]) (by decide +kernel) (yCons (yS_w0 hg) (yCons (yS_w1 hg) yNil))
/-- X12_worked (None,) -/
noncomputable def yQ_w3 : sQ := (207, ([], [(0, 0, (0, [])), (1, 1, (0, [])), (1, 3, (0, []))], [(2, 11), ((-2147483648), 2147483647), ((-2147483648), 2147483647)], [], [(0, 0), (1, 1), (2, 2)], (0, [])), [(some (0, (0, [(3, 1)])), [], [((-1000000), 1000000)], [((-5), [(0, 1)])], [0]), (some (0, (1, [])), [], [], [(6, [(0, (-1))])], []), (some (0, (0, [])), [], [], [(5, [(0, (-1))])], [])], [], 2)
noncomputable def yL_w3 : List (Nat × List sAp) := []
noncomputable def yP_w3 : List (sE × List Int) := []
theorem yS_w3 {gv : Nat → zH → Int} (hg : sGv yReg yGu gv) : ySum gv yQ_w3 := yOk hg (F := 500) (sp := yP_w3) (L := yL_w3) (Qs := [yQ_w2]) (by decide +kernel) (yCons (yS_w2 hg) yNil)
