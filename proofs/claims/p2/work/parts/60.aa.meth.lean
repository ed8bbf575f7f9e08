/-! methods told of -/
/-- J0_coder_7d493 t.diehwn None -/
noncomputable def yQ0 : sQ := (1, ([(0, 132)], [], [], [], [], (0, [])), [(some (0, (0, [])), [], [], [], [])], [], 0)
noncomputable def yL0 : List (Nat × List sAp) := []
noncomputable def yP0 : List (sE × List Int) := []
theorem yS0 {gv : Nat → zH → Int} (hg : sGv yReg yGu gv) : ySum gv yQ0 := yOk hg (F := 500) (sp := yP0) (L := yL0) (Qs := []) (by decide +kernel) yNil
/-- J0_coder_7d493 t.hnc None -/
noncomputable def yQ1 : sQ := (1, ([(0, 128)], [], [], [], [], (0, [])), [(some (0, (0, [])), [], [], [], [])], [], 0)
noncomputable def yL1 : List (Nat × List sAp) := []
noncomputable def yP1 : List (sE × List Int) := []
theorem yS1 {gv : Nat → zH → Int} (hg : sGv yReg yGu gv) : ySum gv yQ1 := yOk hg (F := 500) (sp := yP1) (L := yL1) (Qs := []) (by decide +kernel) yNil
/-- J0_coder_7d493 t.ndeb None -/
noncomputable def yQ2 : sQ := (1, ([(0, 130)], [], [], [], [], (0, [])), [(some (0, (0, [])), [], [], [], [])], [], 0)
noncomputable def yL2 : List (Nat × List sAp) := []
noncomputable def yP2 : List (sE × List Int) := []
theorem yS2 {gv : Nat → zH → Int} (hg : sGv yReg yGu gv) : ySum gv yQ2 := yOk hg (F := 500) (sp := yP2) (L := yL2) (Qs := []) (by decide +kernel) yNil
/-- J0_isLatin1_aae02 t.diehwn None -/
noncomputable def yQ3 : sQ := (4, ([(0, 132)], [], [], [], [], (0, [])), [(some (0, (1, [])), [], [], [], [])], [], 0)
noncomputable def yL3 : List (Nat × List sAp) := []
noncomputable def yP3 : List (sE × List Int) := []
theorem yS3 {gv : Nat → zH → Int} (hg : sGv yReg yGu gv) : ySum gv yQ3 := yOk hg (F := 500) (sp := yP3) (L := yL3) (Qs := []) (by decide +kernel) yNil
/-- J0_length_8abf5 t.diehwn None -/
noncomputable def yQ4 : sQ := (5, ([(0, 132)], [], [], [], [], (0, [])), [(some (0, (6, [])), [], [], [], [])], [], 1)
noncomputable def yL4 : List (Nat × List sAp) := []
noncomputable def yP4 : List (sE × List Int) := []
theorem yS4 {gv : Nat → zH → Int} (hg : sGv yReg yGu gv) : ySum gv yQ4 := yOk hg (F := 500) (sp := yP4) (L := yL4) (Qs := [yQ0]) (by decide +kernel) (yCons (yS0 hg) yNil)
/-- J1_canEncode_9a6ad None None -/
noncomputable def yQ5 : sQ := (9, ([], [(0, 0, (0, []))], [((-2147483648), 2147483647)], [], [(0, 0)], (0, [])), [(some (0, (0, [])), [], [], [(1, [(0, 1)])], []), (some (0, (0, [])), [], [], [(256, [(0, (-1))])], []), (some (0, (1, [])), [], [], [((-255), [(0, 1)]), (0, [(0, (-1))])], [])], [], 0)
noncomputable def yL5 : List (Nat × List sAp) := []
noncomputable def yP5 : List (sE × List Int) := []
theorem yS5 {gv : Nat → zH → Int} (hg : sGv yReg yGu gv) : ySum gv yQ5 := yOk hg (F := 500) (sp := yP5) (L := yL5) (Qs := []) (by decide +kernel) yNil
/-- J1_indexOfChar_4cfef t.diehwn.v None None None None 0 -/
noncomputable def yQ6 : sQ := (10, ([(0, 131)], [(0, 1, (0, [])), (0, 2, (0, [])), (0, 3, (0, []))], [(0, 0), (0, 0), (6, 6)], [], [(0, 0), (1, 1), (2, 2)], (7, [])), [(some (0, ((-1), [])), [], [], [], [])], [], 0)
noncomputable def yL6 : List (Nat × List sAp) := [(7, [(([(0, 131)], [(0, 1, (0, [])), (0, 2, (0, [])), (0, 3, (0, [])), (0, 4, (0, [])), (0, 5, (0, []))], [(0, 0), (0, 0), (6, 6), (0, 0), (0, 6)], [], [(0, 0), (1, 1), (2, 2)], (6, [(4, (-1))])), [])])]
noncomputable def yP6 : List (sE × List Int) := []
theorem yS6 {gv : Nat → zH → Int} (hg : sGv yReg yGu gv) : ySum gv yQ6 := yOk hg (F := 500) (sp := yP6) (L := yL6) (Qs := []) (by decide +kernel) yNil
/-- J9_max_7cf53 None None None -/
noncomputable def yQ7 : sQ := (22, ([], [(0, 0, (0, [])), (0, 1, (0, []))], [(0, 0), ((-2147483648), 2147483647)], [], [(0, 0), (1, 1)], (0, [])), [(some (0, (0, [(1, 1)])), [], [], [(1, [(1, (-1))]), (1, [(0, 1), (1, (-1))])], []), (some (0, (0, [(0, 1)])), [], [], [(0, [(1, 1)]), (0, [(0, (-1)), (1, 1)])], [])], [], 0)
noncomputable def yL7 : List (Nat × List sAp) := []
noncomputable def yP7 : List (sE × List Int) := []
theorem yS7 {gv : Nat → zH → Int} (hg : sGv yReg yGu gv) : ySum gv yQ7 := yOk hg (F := 500) (sp := yP7) (L := yL7) (Qs := []) (by decide +kernel) yNil
/-- J9_min_7cf53 None None None -/
noncomputable def yQ8 : sQ := (24, ([], [(0, 0, (0, [])), (0, 1, (0, []))], [((-2147483648), 9999), ((-2147483648), 2147483647)], [], [(0, 0), (1, 1)], (0, [])), [(some (0, (0, [(1, 1)])), [], [], [((-2147483647), [(0, (-1))]), ((-9998), [(1, 1)]), (1, [(0, (-1)), (1, 1)])], []), (some (0, (0, [(0, 1)])), [], [], [(0, [(0, 1), (1, (-1))])], [])], [], 0)
noncomputable def yL8 : List (Nat × List sAp) := []
noncomputable def yP8 : List (sE × List Int) := []
theorem yS8 {gv : Nat → zH → Int} (hg : sGv yReg yGu gv) : ySum gv yQ8 := yOk hg (F := 500) (sp := yP8) (L := yL8) (Qs := []) (by decide +kernel) yNil
/-- J1_indexOf_4cfef t.diehwn.v None None None None 0 -/
noncomputable def yQ9 : sQ := (11, ([(0, 131)], [(0, 1, (0, [])), (0, 2, (0, [])), (0, 3, (0, []))], [(0, 0), (0, 0), (6, 6)], [], [(0, 0), (1, 1), (2, 2)], (0, [])), [(some (0, ((-1), [])), [], [], [], [])], [], 1)
noncomputable def yL9 : List (Nat × List sAp) := []
noncomputable def yP9 : List (sE × List Int) := []
theorem yS9 {gv : Nat → zH → Int} (hg : sGv yReg yGu gv) : ySum gv yQ9 := yOk hg (F := 500) (sp := yP9) (L := yL9) (Qs := [yQ6, yQ7, yQ8, yQ5]) (by decide +kernel) (yCons (yS6 hg) (yCons (yS7 hg) (yCons (yS8 hg) (yCons (yS5 hg) yNil))))
/-- J0_indexOf_7cf53 t.diehwn None None None 0 -/
noncomputable def yQ10 : sQ := (3, ([(0, 132)], [(0, 1, (0, [])), (0, 2, (0, []))], [(0, 0), (0, 0)], [], [(0, 0), (1, 1)], (0, [])), [(some (0, ((-1), [])), [], [], [], [])], [], 2)
noncomputable def yL10 : List (Nat × List sAp) := []
noncomputable def yP10 : List (sE × List Int) := []
theorem yS10 {gv : Nat → zH → Int} (hg : sGv yReg yGu gv) : ySum gv yQ10 := yOk hg (F := 500) (sp := yP10) (L := yL10) (Qs := [yQ9, yQ3, yQ4]) (by decide +kernel) (yCons (yS9 hg) (yCons (yS3 hg) (yCons (yS4 hg) yNil)))
/-- J0_indexOf_0f7a4 t.diehwn None None 0 -/
noncomputable def yQ11 : sQ := (2, ([(0, 132)], [(0, 1, (0, []))], [(0, 0)], [], [(0, 0)], (0, [])), [(some (0, ((-1), [])), [], [], [], [])], [], 3)
noncomputable def yL11 : List (Nat × List sAp) := []
noncomputable def yP11 : List (sE × List Int) := []
theorem yS11 {gv : Nat → zH → Int} (hg : sGv yReg yGu gv) : ySum gv yQ11 := yOk hg (F := 500) (sp := yP11) (L := yL11) (Qs := [yQ10]) (by decide +kernel) (yCons (yS10 hg) yNil)
/-- J1_indexOfChar_4cfef t.diehwn.v None None None None None -/
noncomputable def yQ12 : sQ := (10, ([(0, 131)], [(0, 1, (0, [])), (0, 2, (0, [])), (0, 3, (0, []))], [(0, 255), (0, 0), (6, 6)], [], [(0, 0), (1, 1), (2, 2)], (7, [])), [(some (0, ((-1), [])), [], [], [], []), (some (0, (0, [(3, 1)])), [], [(0, 5)], [(1, [(2, (-1)), (3, 1)])], [0])], [], 0)
noncomputable def yL12 : List (Nat × List sAp) := [(7, [(([(0, 131)], [(0, 1, (0, [])), (0, 2, (0, [])), (0, 3, (0, [])), (0, 4, (0, [])), (0, 5, (0, []))], [(0, 255), (0, 0), (6, 6), ((-2147483648), 2147483647), (0, 6)], [], [(0, 0), (1, 1), (2, 2)], (6, [(4, (-1))])), [])])]
noncomputable def yP12 : List (sE × List Int) := []
theorem yS12 {gv : Nat → zH → Int} (hg : sGv yReg yGu gv) : ySum gv yQ12 := yOk hg (F := 500) (sp := yP12) (L := yL12) (Qs := []) (by decide +kernel) yNil
/-- J1_indexOf_4cfef t.diehwn.v None None None None None -/
noncomputable def yQ13 : sQ := (11, ([(0, 131)], [(0, 1, (0, [])), (0, 2, (0, [])), (0, 3, (0, []))], [((-2147483648), 2147483647), (0, 0), (6, 6)], [], [(0, 0), (1, 1), (2, 2)], (0, [])), [(some (0, ((-1), [])), [], [], [(1, [(0, 1)])], []), (some (0, ((-1), [])), [], [], [((-255), [(0, 1)]), (0, [(0, (-1))])], []), (some (0, (0, [(3, 1)])), [], [(0, 5)], [((-255), [(0, 1)]), (0, [(0, (-1))])], [0]), (some (0, ((-1), [])), [], [], [(256, [(0, (-1))])], [])], [], 1)
noncomputable def yL13 : List (Nat × List sAp) := []
noncomputable def yP13 : List (sE × List Int) := []
theorem yS13 {gv : Nat → zH → Int} (hg : sGv yReg yGu gv) : ySum gv yQ13 := yOk hg (F := 500) (sp := yP13) (L := yL13) (Qs := [yQ12, yQ7, yQ8, yQ5]) (by decide +kernel) (yCons (yS12 hg) (yCons (yS7 hg) (yCons (yS8 hg) (yCons (yS5 hg) yNil))))
/-- J0_indexOf_7cf53 t.diehwn None None None None -/
noncomputable def yQ14 : sQ := (3, ([(0, 132)], [(0, 1, (0, [])), (0, 2, (0, []))], [((-2147483648), 2147483647), (0, 0)], [], [(0, 0), (1, 1)], (0, [])), [(some (0, ((-1), [])), [], [], [(1, [(0, 1)])], []), (some (0, ((-1), [])), [], [], [(256, [(0, (-1))])], []), (some (0, (0, [(2, 1)])), [], [(0, 5)], [((-255), [(0, 1)]), (0, [(0, (-1))])], [0]), (some (0, ((-1), [])), [], [], [((-255), [(0, 1)]), (0, [(0, (-1))])], [])], [], 2)
noncomputable def yL14 : List (Nat × List sAp) := []
noncomputable def yP14 : List (sE × List Int) := []
theorem yS14 {gv : Nat → zH → Int} (hg : sGv yReg yGu gv) : ySum gv yQ14 := yOk hg (F := 500) (sp := yP14) (L := yL14) (Qs := [yQ13, yQ3, yQ4]) (by decide +kernel) (yCons (yS13 hg) (yCons (yS3 hg) (yCons (yS4 hg) yNil)))
/-- J0_indexOf_0f7a4 t.diehwn None None None -/
noncomputable def yQ15 : sQ := (2, ([(0, 132)], [(0, 1, (0, []))], [((-2147483648), 2147483647)], [], [(0, 0)], (0, [])), [(some (0, ((-1), [])), [], [], [(1, [(0, 1)])], []), (some (0, ((-1), [])), [], [], [((-255), [(0, 1)]), (0, [(0, (-1))])], []), (some (0, (0, [(1, 1)])), [], [(0, 5)], [((-255), [(0, 1)]), (0, [(0, (-1))])], [0]), (some (0, ((-1), [])), [], [], [(256, [(0, (-1))])], [])], [], 3)
noncomputable def yL15 : List (Nat × List sAp) := []
noncomputable def yP15 : List (sE × List Int) := []
theorem yS15 {gv : Nat → zH → Int} (hg : sGv yReg yGu gv) : ySum gv yQ15 := yOk hg (F := 500) (sp := yP15) (L := yL15) (Qs := [yQ14]) (by decide +kernel) (yCons (yS14 hg) yNil)
/-- J0_isLatin1_aae02 t.hnc None -/
noncomputable def yQ16 : sQ := (4, ([(0, 128)], [], [], [], [], (0, [])), [(some (0, (1, [])), [], [], [], [])], [], 0)
noncomputable def yL16 : List (Nat × List sAp) := []
noncomputable def yP16 : List (sE × List Int) := []
theorem yS16 {gv : Nat → zH → Int} (hg : sGv yReg yGu gv) : ySum gv yQ16 := yOk hg (F := 500) (sp := yP16) (L := yL16) (Qs := []) (by decide +kernel) yNil
/-- J0_length_8abf5 t.hnc None -/
noncomputable def yQ17 : sQ := (5, ([(0, 128)], [], [], [], [], (0, [])), [(some (0, (3, [])), [], [], [], [])], [], 1)
noncomputable def yL17 : List (Nat × List sAp) := []
noncomputable def yP17 : List (sE × List Int) := []
theorem yS17 {gv : Nat → zH → Int} (hg : sGv yReg yGu gv) : ySum gv yQ17 := yOk hg (F := 500) (sp := yP17) (L := yL17) (Qs := [yQ1]) (by decide +kernel) (yCons (yS1 hg) yNil)
/-- J1_indexOfChar_4cfef t.hnc.v None None None None 0 -/
noncomputable def yQ18 : sQ := (10, ([(0, 127)], [(0, 1, (0, [])), (0, 2, (0, [])), (0, 3, (0, []))], [(0, 0), (0, 0), (3, 3)], [], [(0, 0), (1, 1), (2, 2)], (4, [])), [(some (0, ((-1), [])), [], [], [], [])], [], 0)
noncomputable def yL18 : List (Nat × List sAp) := [(7, [(([(0, 127)], [(0, 1, (0, [])), (0, 2, (0, [])), (0, 3, (0, [])), (0, 4, (0, [])), (0, 5, (0, []))], [(0, 0), (0, 0), (3, 3), (0, 0), (0, 3)], [], [(0, 0), (1, 1), (2, 2)], (3, [(4, (-1))])), [])])]
noncomputable def yP18 : List (sE × List Int) := []
theorem yS18 {gv : Nat → zH → Int} (hg : sGv yReg yGu gv) : ySum gv yQ18 := yOk hg (F := 500) (sp := yP18) (L := yL18) (Qs := []) (by decide +kernel) yNil
/-- J1_indexOf_4cfef t.hnc.v None None None None 0 -/
noncomputable def yQ19 : sQ := (11, ([(0, 127)], [(0, 1, (0, [])), (0, 2, (0, [])), (0, 3, (0, []))], [(0, 0), (0, 0), (3, 3)], [], [(0, 0), (1, 1), (2, 2)], (0, [])), [(some (0, ((-1), [])), [], [], [], [])], [], 1)
noncomputable def yL19 : List (Nat × List sAp) := []
noncomputable def yP19 : List (sE × List Int) := []
theorem yS19 {gv : Nat → zH → Int} (hg : sGv yReg yGu gv) : ySum gv yQ19 := yOk hg (F := 500) (sp := yP19) (L := yL19) (Qs := [yQ18, yQ7, yQ8, yQ5]) (by decide +kernel) (yCons (yS18 hg) (yCons (yS7 hg) (yCons (yS8 hg) (yCons (yS5 hg) yNil))))
/-- J0_indexOf_7cf53 t.hnc None None None 0 -/
noncomputable def yQ20 : sQ := (3, ([(0, 128)], [(0, 1, (0, [])), (0, 2, (0, []))], [(0, 0), (0, 0)], [], [(0, 0), (1, 1)], (0, [])), [(some (0, ((-1), [])), [], [], [], [])], [], 2)
noncomputable def yL20 : List (Nat × List sAp) := []
noncomputable def yP20 : List (sE × List Int) := []
theorem yS20 {gv : Nat → zH → Int} (hg : sGv yReg yGu gv) : ySum gv yQ20 := yOk hg (F := 500) (sp := yP20) (L := yL20) (Qs := [yQ19, yQ16, yQ17]) (by decide +kernel) (yCons (yS19 hg) (yCons (yS16 hg) (yCons (yS17 hg) yNil)))
/-- J0_indexOf_0f7a4 t.hnc None None 0 -/
noncomputable def yQ21 : sQ := (2, ([(0, 128)], [(0, 1, (0, []))], [(0, 0)], [], [(0, 0)], (0, [])), [(some (0, ((-1), [])), [], [], [], [])], [], 3)
noncomputable def yL21 : List (Nat × List sAp) := []
noncomputable def yP21 : List (sE × List Int) := []
theorem yS21 {gv : Nat → zH → Int} (hg : sGv yReg yGu gv) : ySum gv yQ21 := yOk hg (F := 500) (sp := yP21) (L := yL21) (Qs := [yQ20]) (by decide +kernel) (yCons (yS20 hg) yNil)
/-- J1_indexOfChar_4cfef t.hnc.v None None None None None -/
noncomputable def yQ22 : sQ := (10, ([(0, 127)], [(0, 1, (0, [])), (0, 2, (0, [])), (0, 3, (0, []))], [(0, 255), (0, 0), (3, 3)], [], [(0, 0), (1, 1), (2, 2)], (4, [])), [(some (0, ((-1), [])), [], [], [], []), (some (0, (0, [(3, 1)])), [], [(0, 2)], [(1, [(2, (-1)), (3, 1)])], [0])], [], 0)
noncomputable def yL22 : List (Nat × List sAp) := [(7, [(([(0, 127)], [(0, 1, (0, [])), (0, 2, (0, [])), (0, 3, (0, [])), (0, 4, (0, [])), (0, 5, (0, []))], [(0, 255), (0, 0), (3, 3), ((-2147483648), 2147483647), (0, 3)], [], [(0, 0), (1, 1), (2, 2)], (3, [(4, (-1))])), [])])]
noncomputable def yP22 : List (sE × List Int) := []
theorem yS22 {gv : Nat → zH → Int} (hg : sGv yReg yGu gv) : ySum gv yQ22 := yOk hg (F := 500) (sp := yP22) (L := yL22) (Qs := []) (by decide +kernel) yNil
/-- J1_indexOf_4cfef t.hnc.v None None None None None -/
noncomputable def yQ23 : sQ := (11, ([(0, 127)], [(0, 1, (0, [])), (0, 2, (0, [])), (0, 3, (0, []))], [((-2147483648), 2147483647), (0, 0), (3, 3)], [], [(0, 0), (1, 1), (2, 2)], (0, [])), [(some (0, ((-1), [])), [], [], [(1, [(0, 1)])], []), (some (0, ((-1), [])), [], [], [((-255), [(0, 1)]), (0, [(0, (-1))])], []), (some (0, (0, [(3, 1)])), [], [(0, 2)], [((-255), [(0, 1)]), (0, [(0, (-1))])], [0]), (some (0, ((-1), [])), [], [], [(256, [(0, (-1))])], [])], [], 1)
noncomputable def yL23 : List (Nat × List sAp) := []
noncomputable def yP23 : List (sE × List Int) := []
theorem yS23 {gv : Nat → zH → Int} (hg : sGv yReg yGu gv) : ySum gv yQ23 := yOk hg (F := 500) (sp := yP23) (L := yL23) (Qs := [yQ22, yQ7, yQ8, yQ5]) (by decide +kernel) (yCons (yS22 hg) (yCons (yS7 hg) (yCons (yS8 hg) (yCons (yS5 hg) yNil))))
/-- J0_indexOf_7cf53 t.hnc None None None None -/
noncomputable def yQ24 : sQ := (3, ([(0, 128)], [(0, 1, (0, [])), (0, 2, (0, []))], [((-2147483648), 2147483647), (0, 0)], [], [(0, 0), (1, 1)], (0, [])), [(some (0, ((-1), [])), [], [], [(1, [(0, 1)])], []), (some (0, ((-1), [])), [], [], [(256, [(0, (-1))])], []), (some (0, (0, [(2, 1)])), [], [(0, 2)], [((-255), [(0, 1)]), (0, [(0, (-1))])], [0]), (some (0, ((-1), [])), [], [], [((-255), [(0, 1)]), (0, [(0, (-1))])], [])], [], 2)
noncomputable def yL24 : List (Nat × List sAp) := []
noncomputable def yP24 : List (sE × List Int) := []
theorem yS24 {gv : Nat → zH → Int} (hg : sGv yReg yGu gv) : ySum gv yQ24 := yOk hg (F := 500) (sp := yP24) (L := yL24) (Qs := [yQ23, yQ16, yQ17]) (by decide +kernel) (yCons (yS23 hg) (yCons (yS16 hg) (yCons (yS17 hg) yNil)))
/-- J0_indexOf_0f7a4 t.hnc None None None -/
noncomputable def yQ25 : sQ := (2, ([(0, 128)], [(0, 1, (0, []))], [((-2147483648), 2147483647)], [], [(0, 0)], (0, [])), [(some (0, ((-1), [])), [], [], [(1, [(0, 1)])], []), (some (0, ((-1), [])), [], [], [((-255), [(0, 1)]), (0, [(0, (-1))])], []), (some (0, (0, [(1, 1)])), [], [(0, 2)], [((-255), [(0, 1)]), (0, [(0, (-1))])], [0]), (some (0, ((-1), [])), [], [], [(256, [(0, (-1))])], [])], [], 3)
noncomputable def yL25 : List (Nat × List sAp) := []
noncomputable def yP25 : List (sE × List Int) := []
theorem yS25 {gv : Nat → zH → Int} (hg : sGv yReg yGu gv) : ySum gv yQ25 := yOk hg (F := 500) (sp := yP25) (L := yL25) (Qs := [yQ24]) (by decide +kernel) (yCons (yS24 hg) yNil)
/-- J0_isLatin1_aae02 t.ndeb None -/
noncomputable def yQ26 : sQ := (4, ([(0, 130)], [], [], [], [], (0, [])), [(some (0, (1, [])), [], [], [], [])], [], 0)
noncomputable def yL26 : List (Nat × List sAp) := []
noncomputable def yP26 : List (sE × List Int) := []
theorem yS26 {gv : Nat → zH → Int} (hg : sGv yReg yGu gv) : ySum gv yQ26 := yOk hg (F := 500) (sp := yP26) (L := yL26) (Qs := []) (by decide +kernel) yNil
/-- J0_length_8abf5 t.ndeb None -/
noncomputable def yQ27 : sQ := (5, ([(0, 130)], [], [], [], [], (0, [])), [(some (0, (4, [])), [], [], [], [])], [], 1)
noncomputable def yL27 : List (Nat × List sAp) := []
noncomputable def yP27 : List (sE × List Int) := []
theorem yS27 {gv : Nat → zH → Int} (hg : sGv yReg yGu gv) : ySum gv yQ27 := yOk hg (F := 500) (sp := yP27) (L := yL27) (Qs := [yQ2]) (by decide +kernel) (yCons (yS2 hg) yNil)
/-- J1_indexOfChar_4cfef t.ndeb.v None None None None 0 -/
noncomputable def yQ28 : sQ := (10, ([(0, 129)], [(0, 1, (0, [])), (0, 2, (0, [])), (0, 3, (0, []))], [(0, 0), (0, 0), (4, 4)], [], [(0, 0), (1, 1), (2, 2)], (5, [])), [(some (0, ((-1), [])), [], [], [], [])], [], 0)
noncomputable def yL28 : List (Nat × List sAp) := [(7, [(([(0, 129)], [(0, 1, (0, [])), (0, 2, (0, [])), (0, 3, (0, [])), (0, 4, (0, [])), (0, 5, (0, []))], [(0, 0), (0, 0), (4, 4), (0, 0), (0, 4)], [], [(0, 0), (1, 1), (2, 2)], (4, [(4, (-1))])), [])])]
noncomputable def yP28 : List (sE × List Int) := []
theorem yS28 {gv : Nat → zH → Int} (hg : sGv yReg yGu gv) : ySum gv yQ28 := yOk hg (F := 500) (sp := yP28) (L := yL28) (Qs := []) (by decide +kernel) yNil
/-- J1_indexOf_4cfef t.ndeb.v None None None None 0 -/
noncomputable def yQ29 : sQ := (11, ([(0, 129)], [(0, 1, (0, [])), (0, 2, (0, [])), (0, 3, (0, []))], [(0, 0), (0, 0), (4, 4)], [], [(0, 0), (1, 1), (2, 2)], (0, [])), [(some (0, ((-1), [])), [], [], [], [])], [], 1)
noncomputable def yL29 : List (Nat × List sAp) := []
noncomputable def yP29 : List (sE × List Int) := []
theorem yS29 {gv : Nat → zH → Int} (hg : sGv yReg yGu gv) : ySum gv yQ29 := yOk hg (F := 500) (sp := yP29) (L := yL29) (Qs := [yQ28, yQ7, yQ8, yQ5]) (by decide +kernel) (yCons (yS28 hg) (yCons (yS7 hg) (yCons (yS8 hg) (yCons (yS5 hg) yNil))))
/-- J0_indexOf_7cf53 t.ndeb None None None 0 -/
noncomputable def yQ30 : sQ := (3, ([(0, 130)], [(0, 1, (0, [])), (0, 2, (0, []))], [(0, 0), (0, 0)], [], [(0, 0), (1, 1)], (0, [])), [(some (0, ((-1), [])), [], [], [], [])], [], 2)
noncomputable def yL30 : List (Nat × List sAp) := []
noncomputable def yP30 : List (sE × List Int) := []
theorem yS30 {gv : Nat → zH → Int} (hg : sGv yReg yGu gv) : ySum gv yQ30 := yOk hg (F := 500) (sp := yP30) (L := yL30) (Qs := [yQ29, yQ26, yQ27]) (by decide +kernel) (yCons (yS29 hg) (yCons (yS26 hg) (yCons (yS27 hg) yNil)))
/-- J0_indexOf_0f7a4 t.ndeb None None 0 -/
noncomputable def yQ31 : sQ := (2, ([(0, 130)], [(0, 1, (0, []))], [(0, 0)], [], [(0, 0)], (0, [])), [(some (0, ((-1), [])), [], [], [], [])], [], 3)
noncomputable def yL31 : List (Nat × List sAp) := []
noncomputable def yP31 : List (sE × List Int) := []
theorem yS31 {gv : Nat → zH → Int} (hg : sGv yReg yGu gv) : ySum gv yQ31 := yOk hg (F := 500) (sp := yP31) (L := yL31) (Qs := [yQ30]) (by decide +kernel) (yCons (yS30 hg) yNil)
/-- J1_indexOfChar_4cfef t.ndeb.v None None None None None -/
noncomputable def yQ32 : sQ := (10, ([(0, 129)], [(0, 1, (0, [])), (0, 2, (0, [])), (0, 3, (0, []))], [(0, 255), (0, 0), (4, 4)], [], [(0, 0), (1, 1), (2, 2)], (5, [])), [(some (0, ((-1), [])), [], [], [], []), (some (0, (0, [(3, 1)])), [], [(0, 3)], [(1, [(2, (-1)), (3, 1)])], [0])], [], 0)
noncomputable def yL32 : List (Nat × List sAp) := [(7, [(([(0, 129)], [(0, 1, (0, [])), (0, 2, (0, [])), (0, 3, (0, [])), (0, 4, (0, [])), (0, 5, (0, []))], [(0, 255), (0, 0), (4, 4), ((-2147483648), 2147483647), (0, 4)], [], [(0, 0), (1, 1), (2, 2)], (4, [(4, (-1))])), [])])]
noncomputable def yP32 : List (sE × List Int) := []
theorem yS32 {gv : Nat → zH → Int} (hg : sGv yReg yGu gv) : ySum gv yQ32 := yOk hg (F := 500) (sp := yP32) (L := yL32) (Qs := []) (by decide +kernel) yNil
/-- J1_indexOf_4cfef t.ndeb.v None None None None None -/
noncomputable def yQ33 : sQ := (11, ([(0, 129)], [(0, 1, (0, [])), (0, 2, (0, [])), (0, 3, (0, []))], [((-2147483648), 2147483647), (0, 0), (4, 4)], [], [(0, 0), (1, 1), (2, 2)], (0, [])), [(some (0, ((-1), [])), [], [], [(1, [(0, 1)])], []), (some (0, ((-1), [])), [], [], [((-255), [(0, 1)]), (0, [(0, (-1))])], []), (some (0, (0, [(3, 1)])), [], [(0, 3)], [((-255), [(0, 1)]), (0, [(0, (-1))])], [0]), (some (0, ((-1), [])), [], [], [(256, [(0, (-1))])], [])], [], 1)
noncomputable def yL33 : List (Nat × List sAp) := []
noncomputable def yP33 : List (sE × List Int) := []
theorem yS33 {gv : Nat → zH → Int} (hg : sGv yReg yGu gv) : ySum gv yQ33 := yOk hg (F := 500) (sp := yP33) (L := yL33) (Qs := [yQ32, yQ7, yQ8, yQ5]) (by decide +kernel) (yCons (yS32 hg) (yCons (yS7 hg) (yCons (yS8 hg) (yCons (yS5 hg) yNil))))
/-- J0_indexOf_7cf53 t.ndeb None None None None -/
noncomputable def yQ34 : sQ := (3, ([(0, 130)], [(0, 1, (0, [])), (0, 2, (0, []))], [((-2147483648), 2147483647), (0, 0)], [], [(0, 0), (1, 1)], (0, [])), [(some (0, ((-1), [])), [], [], [(1, [(0, 1)])], []), (some (0, ((-1), [])), [], [], [(256, [(0, (-1))])], []), (some (0, (0, [(2, 1)])), [], [(0, 3)], [((-255), [(0, 1)]), (0, [(0, (-1))])], [0]), (some (0, ((-1), [])), [], [], [((-255), [(0, 1)]), (0, [(0, (-1))])], [])], [], 2)
noncomputable def yL34 : List (Nat × List sAp) := []
noncomputable def yP34 : List (sE × List Int) := []
theorem yS34 {gv : Nat → zH → Int} (hg : sGv yReg yGu gv) : ySum gv yQ34 := yOk hg (F := 500) (sp := yP34) (L := yL34) (Qs := [yQ33, yQ26, yQ27]) (by decide +kernel) (yCons (yS33 hg) (yCons (yS26 hg) (yCons (yS27 hg) yNil)))
/-- J0_indexOf_0f7a4 t.ndeb None None None -/
noncomputable def yQ35 : sQ := (2, ([(0, 130)], [(0, 1, (0, []))], [((-2147483648), 2147483647)], [], [(0, 0)], (0, [])), [(some (0, ((-1), [])), [], [], [(1, [(0, 1)])], []), (some (0, ((-1), [])), [], [], [((-255), [(0, 1)]), (0, [(0, (-1))])], []), (some (0, (0, [(1, 1)])), [], [(0, 3)], [((-255), [(0, 1)]), (0, [(0, (-1))])], [0]), (some (0, ((-1), [])), [], [], [(256, [(0, (-1))])], [])], [], 3)
noncomputable def yL35 : List (Nat × List sAp) := []
noncomputable def yP35 : List (sE × List Int) := []
theorem yS35 {gv : Nat → zH → Int} (hg : sGv yReg yGu gv) : ySum gv yQ35 := yOk hg (F := 500) (sp := yP35) (L := yL35) (Qs := [yQ34]) (by decide +kernel) (yCons (yS34 hg) yNil)
/-- J6_bitCount_0f7a4 None None -/
noncomputable def yQ36 : sQ := (20, ([], [(0, 0, (0, []))], [((-2147483648), 2147483647)], [], [(0, 0)], (0, [])), [(some (0, (0, [(1, 1)])), [], [(0, 63)], [], [0])], [], 0)
noncomputable def yL36 : List (Nat × List sAp) := []
noncomputable def yP36 : List (sE × List Int) := []
theorem yS36 {gv : Nat → zH → Int} (hg : sGv yReg yGu gv) : ySum gv yQ36 := yOk hg (F := 500) (sp := yP36) (L := yL36) (Qs := []) (by decide +kernel) yNil
/-- J9_abs_0f7a4 None None -/
noncomputable def yQ37 : sQ := (21, ([], [(0, 0, (0, []))], [((-2147483648), 2147483647)], [], [(0, 0)], (0, [])), [(some (0, (0, [(0, 1)])), [], [], [(0, [(0, (-1))])], []), (some (0, (0, [(1, 1)])), [], [((-2147483648), 2147483647)], [(1, [(0, 1)])], [0])], [], 0)
noncomputable def yL37 : List (Nat × List sAp) := []
noncomputable def yP37 : List (sE × List Int) := []
theorem yS37 {gv : Nat → zH → Int} (hg : sGv yReg yGu gv) : ySum gv yQ37 := yOk hg (F := 500) (sp := yP37) (L := yL37) (Qs := []) (by decide +kernel) yNil
/-- X8_copyFrom B now None -/
noncomputable def yQ38 : sQ := (254, ([(0, 39), (1, 7)], [], [], [], [], (0, [])), [(none, [], [], [], [])], [(39, 7, 9), (32, 0, 5), (34, 0, 5), (36, 0, 5), (33, 0, 5), (38, 0, 59), (37, 0, 5), (35, 0, 5)], 0)
noncomputable def yL38 : List (Nat × List sAp) := []
noncomputable def yP38 : List (sE × List Int) := []
theorem yS38 {gv : Nat → zH → Int} (hg : sGv yReg yGu gv) : ySum gv yQ38 := yOk hg (F := 500) (sp := yP38) (L := yL38) (Qs := []) (by decide +kernel) yNil
/-- X0_remember A now None -/
noncomputable def yQ39 : sQ := (26, ([(0, 58), (1, 7)], [], [], [], [], (0, [])), [(none, [], [], [], [])], [(58, 1, 2), (39, 7, 9), (32, 0, 5), (34, 0, 5), (36, 0, 5), (33, 0, 5), (38, 0, 59), (37, 0, 5), (35, 0, 5)], 1)
noncomputable def yL39 : List (Nat × List sAp) := []
noncomputable def yP39 : List (sE × List Int) := []
theorem yS39 {gv : Nat → zH → Int} (hg : sGv yReg yGu gv) : ySum gv yQ39 := yOk hg (F := 500) (sp := yP39) (L := yL39) (Qs := [yQ38]) (by decide +kernel) (yCons (yS38 hg) yNil)
/-- X8_copyFrom now B None -/
noncomputable def yQ40 : sQ := (254, ([(0, 7), (1, 39)], [], [], [], [], (0, [])), [(none, [], [], [], [])], [(7, 7, 9), (0, 0, 5), (2, 0, 5), (4, 0, 5), (1, 0, 5), (6, 0, 59), (5, 0, 5), (3, 0, 5)], 0)
noncomputable def yL40 : List (Nat × List sAp) := []
noncomputable def yP40 : List (sE × List Int) := []
theorem yS40 {gv : Nat → zH → Int} (hg : sGv yReg yGu gv) : ySum gv yQ40 := yOk hg (F := 500) (sp := yP40) (L := yL40) (Qs := []) (by decide +kernel) yNil
/-- X0_takeBack A now None -/
noncomputable def yQ41 : sQ := (27, ([(0, 58), (1, 7)], [], [], [], [], (0, [])), [(none, [], [], [], [])], [(58, 1, 2), (7, 7, 9), (0, 0, 5), (2, 0, 5), (4, 0, 5), (1, 0, 5), (6, 0, 59), (5, 0, 5), (3, 0, 5)], 1)
noncomputable def yL41 : List (Nat × List sAp) := []
noncomputable def yP41 : List (sE × List Int) := []
theorem yS41 {gv : Nat → zH → Int} (hg : sGv yReg yGu gv) : ySum gv yQ41 := yOk hg (F := 500) (sp := yP41) (L := yL41) (Qs := [yQ40]) (by decide +kernel) (yCons (yS40 hg) yNil)
/-- X10_append T None None -/
noncomputable def yQ42 : sQ := (28, ([(0, 41)], [(0, 1, (0, []))], [((-2147483648), 2147483647)], [], [(0, 0)], (33, [])), [(none, [], [], [], [])], [(41, 1, 1), (40, 0, 239)], 0)
noncomputable def yL42 : List (Nat × List sAp) := [(3, [(([(0, 41)], [(0, 1, (0, [])), (0, 2, (0, []))], [((-2147483648), 2147483647), ((-8), 24)], [], [(0, 0)], (8, [(1, 1)])), [])])]
noncomputable def yP42 : List (sE × List Int) := []
theorem yS42 {gv : Nat → zH → Int} (hg : sGv yReg yGu gv) : ySum gv yQ42 := yOk hg (F := 500) (sp := yP42) (L := yL42) (Qs := []) (by decide +kernel) yNil
/-- X10_here T None -/
noncomputable def yQ43 : sQ := (29, ([(0, 41)], [(2, 41, (2, [])), (2, 41, (1, []))], [(1, 240), (2, 240)], [], [(0, 0), (1, 1)], (0, [])), [(some (0, (0, [])), [], [], [(2, [(0, (-1))]), (0, [(0, (-1)), (1, 1)])], []), (some (0, (0, [(2, 1)])), [], [((-2147483648), 2147483647)], [((-239), [(0, 1)]), (1, [(0, 1), (1, (-1))])], [0])], [], 0)
noncomputable def yL43 : List (Nat × List sAp) := []
noncomputable def yP43 : List (sE × List Int) := []
theorem yS43 {gv : Nat → zH → Int} (hg : sGv yReg yGu gv) : ySum gv yQ43 := yOk hg (F := 500) (sp := yP43) (L := yL43) (Qs := []) (by decide +kernel) yNil
/-- X10_isDigit None None -/
noncomputable def yQ44 : sQ := (30, ([], [(0, 0, (0, []))], [((-2147483648), 2147483647)], [], [(0, 0)], (0, [])), [(some (0, (0, [])), [], [], [((-47), [(0, 1)])], []), (some (0, (0, [])), [], [], [(58, [(0, (-1))])], []), (some (0, (1, [])), [], [], [((-57), [(0, 1)]), (48, [(0, (-1))])], [])], [], 0)
noncomputable def yL44 : List (Nat × List sAp) := []
noncomputable def yP44 : List (sE × List Int) := []
theorem yS44 {gv : Nat → zH → Int} (hg : sGv yReg yGu gv) : ySum gv yQ44 := yOk hg (F := 500) (sp := yP44) (L := yL44) (Qs := []) (by decide +kernel) yNil
/-- X10_peek T None -/
noncomputable def yQ45 : sQ := (31, ([(0, 41)], [(2, 41, (2, [])), (2, 41, (1, []))], [(0, 240), (0, 240)], [], [(0, 0), (1, 1)], (241, [])), [(some (0, (0, [])), [(41, (2, []), (0, [(2, 1)]))], [(0, 240)], [(0, [(1, 1), (2, (-1))]), (0, [(0, 1), (2, (-1))])], [1]), (some (0, (0, [(2, 1)])), [(41, (2, []), (0, [(3, 1)]))], [((-2147483648), 2147483647), (0, 239)], [(1, [(1, (-1))]), (1, [(1, (-1)), (3, 1)]), (0, [(0, 1), (3, (-1))])], [0, 1])], [(41, 2, 2)], 0)
noncomputable def yL45 : List (Nat × List sAp) := [(0, [(([(0, 41)], [(2, 41, (2, [])), (2, 41, (1, [])), (3, 0, (0, []))], [(0, 240), (0, 240), (0, 240)], [(0, [(0, (-1)), (2, 1)])], [(1, 1), (0, 2)], (240, [(0, (-1))])), [])])]
noncomputable def yP45 : List (sE × List Int) := []
theorem yS45 {gv : Nat → zH → Int} (hg : sGv yReg yGu gv) : ySum gv yQ45 := yOk hg (F := 500) (sp := yP45) (L := yL45) (Qs := []) (by decide +kernel) yNil
/-- X10_signsIn None None -/
noncomputable def yQ46 : sQ := (32, ([], [(0, 0, (0, []))], [((-2147483648), 2147483647)], [], [(0, 0)], (33, [])), [(some (0, (0, [(1, 1)])), [], [((-2147483648), 2147483647)], [], [0])], [], 0)
noncomputable def yL46 : List (Nat × List sAp) := [(5, [(([], [(0, 0, (0, [])), (0, 1, (0, [])), (0, 2, (0, []))], [((-2147483648), 2147483647), ((-2147483648), 2147483647), ((-8), 24)], [], [(0, 0)], (8, [(2, 1)])), [])])]
noncomputable def yP46 : List (sE × List Int) := []
theorem yS46 {gv : Nat → zH → Int} (hg : sGv yReg yGu gv) : ySum gv yQ46 := yOk hg (F := 500) (sp := yP46) (L := yL46) (Qs := []) (by decide +kernel) yNil
/-- X10_take T None None -/
noncomputable def yQ47 : sQ := (33, ([(0, 41)], [(0, 1, (0, [])), (2, 41, (2, [])), (2, 41, (1, []))], [(30, 140), (0, 240), (0, 240)], [], [(0, 0), (1, 1), (2, 2)], (0, [])), [(some (0, (0, [])), [(41, (2, []), (0, [(3, 1)]))], [(0, 240)], [(0, [(1, 1), (3, (-1))]), (0, [(2, 1), (3, (-1))])], [1]), (some (0, (1, [])), [(41, (2, []), (0, [(3, 1)]))], [(1, 240)], [((-239), [(1, 1)]), (1, [(2, (-1))]), (0, [(1, 1), (3, (-1))])], [1]), (some (0, (0, [])), [(41, (2, []), (0, [(3, 1)]))], [(0, 239)], [((-239), [(1, 1)]), (1, [(2, (-1))]), (0, [(1, 1), (3, (-1))]), (1, [(2, (-1)), (3, 1)])], [1])], [(41, 2, 2)], 1)
noncomputable def yL47 : List (Nat × List sAp) := []
noncomputable def yP47 : List (sE × List Int) := []
theorem yS47 {gv : Nat → zH → Int} (hg : sGv yReg yGu gv) : ySum gv yQ47 := yOk hg (F := 500) (sp := yP47) (L := yL47) (Qs := [yQ45]) (by decide +kernel) (yCons (yS45 hg) yNil)
/-- X10_takeNumber T None None -/
noncomputable def yQ48 : sQ := (34, ([(0, 41)], [(0, 1, (0, [])), (2, 41, (2, [])), (2, 41, (1, []))], [(2, 4), (1, 240), (1, 240)], [], [(0, 0), (1, 1), (2, 2)], (5, [])), [(some (0, ((-1), [])), [(41, (2, []), (0, [(3, 1)]))], [(1, 240)], [(0, [(1, 1), (3, (-1))]), (0, [(2, 1), (3, (-1))])], [1]), (some (0, ((-1), [])), [(41, (2, []), (0, [(3, 1)]))], [(1, 239)], [((-239), [(1, 1)]), (0, [(1, 1), (3, (-1))]), (1, [(2, (-1)), (3, 1)])], [1]), (some (0, (0, [(3, 1)])), [(41, (2, []), (0, [(4, 1)]))], [((-2147483648), 2147483647), (2, 240)], [((-239), [(1, 1)]), (2, [(2, (-1))]), (0, [(2, 1), (4, (-1))]), (0, [(1, 1), (4, (-1))])], [0, 1]), (some (0, (0, [(3, 1)])), [(41, (2, []), (0, [(4, 1)]))], [((-2147483648), 2147483647), (1, 239)], [((-239), [(1, 1)]), (2, [(2, (-1))]), (1, [(2, (-1)), (4, 1)]), (0, [(1, 1), (4, (-1))])], [0, 1]), (some (0, ((-1), [])), [(41, (2, []), (0, [(3, 1)]))], [(1, 239)], [((-239), [(1, 1)]), (2, [(2, (-1))]), (1, [(2, (-1)), (3, 1)]), (0, [(1, 1), (3, (-1))])], [1])], [(41, 2, 2)], 1)
noncomputable def yL48 : List (Nat × List sAp) := [(16, [(([(0, 41)], [(0, 1, (0, [])), (0, 2, (0, [])), (0, 3, (0, [])), (2, 41, (2, [])), (2, 41, (1, [])), (3, 1, (0, []))], [(2, 4), ((-2147483648), 2147483647), (0, 4), (1, 240), (2, 240), (1, 239)], [(0, [(3, (-1)), (5, 1)])], [(0, 0), (2, 4), (1, 5)], (4, [(2, (-1))])), [])])]
noncomputable def yP48 : List (sE × List Int) := []
theorem yS48 {gv : Nat → zH → Int} (hg : sGv yReg yGu gv) : ySum gv yQ48 := yOk hg (F := 500) (sp := yP48) (L := yL48) (Qs := [yQ43, yQ45, yQ44]) (by decide +kernel) (yCons (yS43 hg) (yCons (yS45 hg) (yCons (yS44 hg) yNil)))
/-- X1_hasMan F None None -/
noncomputable def yQ49 : sQ := (211, ([(0, 56)], [(0, 1, (0, [])), (2, 56, (0, []))], [((-2147483648), 2147483647), (0, 6)], [], [(0, 0), (1, 1)], (0, [])), [(some (0, (0, [])), [], [], [(1, [(0, 1)])], []), (some (0, (0, [])), [], [], [(0, [(0, (-1))]), (0, [(0, (-1)), (1, 1)])], []), (some (0, (1, [])), [], [], [((-5), [(0, 1)]), (0, [(0, (-1))]), (1, [(1, (-1))]), (1, [(0, 1), (1, (-1))])], [])], [], 0)
noncomputable def yL49 : List (Nat × List sAp) := []
noncomputable def yP49 : List (sE × List Int) := []
theorem yS49 {gv : Nat → zH → Int} (hg : sGv yReg yGu gv) : ySum gv yQ49 := yOk hg (F := 500) (sp := yP49) (L := yL49) (Qs := []) (by decide +kernel) yNil
/-- X11_areTwo G None None None -/
noncomputable def yQ50 : sQ := (35, ([(0, 86)], [(0, 1, (0, [])), (0, 2, (0, [])), (2, 56, (0, []))], [((-2147483648), 2147483647), ((-2147483648), 2147483647), (0, 6)], [], [(0, 0), (1, 1), (2, 2)], (0, [])), [(some (0, (0, [])), [], [], [(1, [(0, 1)])], []), (some (0, (0, [])), [], [], [((-5), [(0, 1)]), (0, [(0, (-1))]), (1, [(1, 1)]), (1, [(2, (-1))]), (1, [(0, 1), (2, (-1))])], []), (some (0, (0, [])), [], [], [((-5), [(0, 1)]), (0, [(0, (-1))]), ((-5), [(1, 1)]), (0, [(1, (-1))]), (1, [(2, (-1))]), (0, [(0, (-1)), (1, 1)]), (0, [(0, 1), (1, (-1))]), (1, [(1, 1), (2, (-1))]), (1, [(0, 1), (2, (-1))])], []), (some (0, (1, [])), [], [], [((-5), [(0, 1)]), (0, [(0, (-1))]), ((-5), [(1, 1)]), (0, [(1, (-1))]), (1, [(2, (-1))]), (1, [(1, 1), (2, (-1))]), (1, [(0, 1), (2, (-1))])], []), (some (0, (0, [])), [], [], [((-5), [(0, 1)]), (0, [(0, (-1))]), (1, [(1, (-1))]), (1, [(2, (-1))]), (0, [(1, (-1)), (2, 1)]), (1, [(0, 1), (2, (-1))])], []), (some (0, (0, [])), [], [], [(0, [(0, (-1))]), (0, [(0, (-1)), (2, 1)])], [])], [], 1)
noncomputable def yL50 : List (Nat × List sAp) := []
noncomputable def yP50 : List (sE × List Int) := []
theorem yS50 {gv : Nat → zH → Int} (hg : sGv yReg yGu gv) : ySum gv yQ50 := yOk hg (F := 500) (sp := yP50) (L := yL50) (Qs := [yQ49]) (by decide +kernel) (yCons (yS49 hg) yNil)
/-- X1_hasHour F None None -/
noncomputable def yQ51 : sQ := (210, ([(0, 56)], [(0, 1, (0, []))], [((-2147483648), 2147483647)], [], [(0, 0)], (0, [])), [(some (0, (0, [])), [], [], [(1, [(0, 1)])], []), (some (0, (0, [])), [], [], [(0, [(0, (-1))])], []), (some (0, (1, [])), [], [], [((-9), [(0, 1)]), (0, [(0, (-1))])], [])], [], 0)
noncomputable def yL51 : List (Nat × List sAp) := []
noncomputable def yP51 : List (sE × List Int) := []
theorem yS51 {gv : Nat → zH → Int} (hg : sGv yReg yGu gv) : ySum gv yQ51 := yOk hg (F := 500) (sp := yP51) (L := yL51) (Qs := []) (by decide +kernel) yNil
/-- X5_awakeBits N None None -/
noncomputable def yQ52 : sQ := (234, ([(0, 66)], [(0, 1, (0, [])), (2, 56, (0, []))], [(0, 9), (0, 6)], [], [(0, 0), (1, 1)], (7, [])), [(some (0, (0, [(2, 1)])), [], [((-2147483648), 2147483647)], [], [0])], [], 0)
noncomputable def yL52 : List (Nat × List sAp) := [(4, [(([(0, 66)], [(0, 1, (0, [])), (0, 2, (0, [])), (0, 3, (0, [])), (2, 56, (0, []))], [(0, 9), ((-2147483648), 2147483647), (0, 6), (0, 6)], [], [(0, 0), (1, 3)], (6, [(2, (-1))])), [])])]
noncomputable def yP52 : List (sE × List Int) := []
theorem yS52 {gv : Nat → zH → Int} (hg : sGv yReg yGu gv) : ySum gv yQ52 := yOk hg (F := 500) (sp := yP52) (L := yL52) (Qs := []) (by decide +kernel) yNil
/-- X8_watcherOf now None None None -/
noncomputable def yQ53 : sQ := (256, ([(0, 7)], [(0, 1, (0, [])), (0, 2, (0, []))], [(0, 5), (1, 6)], [], [(0, 0), (1, 1)], (7, [])), [(some (0, ((-1), [])), [], [], [], []), (some (0, (0, [(2, 1)])), [], [(0, 5)], [(1, [(1, (-1)), (2, 1)])], [0])], [], 0)
noncomputable def yL53 : List (Nat × List sAp) := [(27, [(([(0, 7)], [(0, 1, (0, [])), (0, 2, (0, [])), (0, 3, (0, [])), (0, 4, (0, []))], [(0, 5), (1, 6), ((-2147483648), 2147483647), (0, 6)], [], [(0, 0), (1, 1)], (6, [(3, (-1))])), [])])]
noncomputable def yP53 : List (sE × List Int) := []
theorem yS53 {gv : Nat → zH → Int} (hg : sGv yReg yGu gv) : ySum gv yQ53 := yOk hg (F := 500) (sp := yP53) (L := yL53) (Qs := []) (by decide +kernel) yNil
/-- X5_clear N now None -/
noncomputable def yQ54 : sQ := (235, ([(0, 66), (1, 7)], [(2, 56, (0, []))], [(0, 6)], [], [(0, 0)], (7, [])), [(none, [], [], [], [])], [(66, 9, 11), (62, 0, 5), (63, 0, 5), (60, 0, 5), (59, 0, 5), (61, 0, 5)], 1)
noncomputable def yL54 : List (Nat × List sAp) := [(17, [(([(0, 66), (1, 7)], [(0, 2, (0, [])), (2, 56, (0, [])), (2, 66, (11, [])), (2, 66, (10, [])), (2, 66, (9, []))], [(0, 6), (0, 6), (0, 0), (0, 0), (0, 0)], [], [(0, 1)], (6, [(0, (-1))])), [])])]
noncomputable def yP54 : List (sE × List Int) := []
theorem yS54 {gv : Nat → zH → Int} (hg : sGv yReg yGu gv) : ySum gv yQ54 := yOk hg (F := 500) (sp := yP54) (L := yL54) (Qs := [yQ53]) (by decide +kernel) (yCons (yS53 hg) yNil)
/-- X5_lieDown N now None None -/
noncomputable def yQ55 : sQ := (238, ([(0, 66), (1, 7)], [(0, 2, (0, [])), (2, 56, (0, []))], [(0, 9), (0, 6)], [], [(0, 0), (1, 1)], (14, [])), [(none, [], [], [], [])], [(65, 0, 59), (64, 0, 59)], 1)
noncomputable def yL55 : List (Nat × List sAp) := [(8, [(([(0, 66), (1, 7)], [(0, 2, (0, [])), (0, 3, (0, [])), (0, 4, (0, [])), (2, 56, (0, []))], [(0, 9), (0, 54), (0, 6), (0, 6)], [], [(0, 0), (1, 3)], (13, [(2, (-1))])), [])]), (107, [(([(0, 66), (1, 7)], [(0, 2, (0, [])), (0, 3, (0, [])), (0, 4, (0, [])), (2, 56, (0, []))], [(0, 9), (0, 54), (0, 6), (0, 6)], [], [(0, 0), (1, 3)], (6, [(2, (-1))])), [])])]
noncomputable def yP55 : List (sE × List Int) := []
theorem yS55 {gv : Nat → zH → Int} (hg : sGv yReg yGu gv) : ySum gv yQ55 := yOk hg (F := 500) (sp := yP55) (L := yL55) (Qs := [yQ49]) (by decide +kernel) (yCons (yS49 hg) yNil)
/-- X3_held None None -/
noncomputable def yQ56 : sQ := (218, ([], [(1, 0, (0, []))], [((-9223372036854775808), 9223372036854775807)], [], [(0, 0)], (0, [])), [(some (0, ((-1000000), [])), [], [], [(1000001, [(0, 1)])], []), (some (0, (0, [(0, 1)])), [], [], [((-999999), [(0, 1)]), ((-999999), [(0, (-1))])], []), (some (0, (0, [(0, 1)])), [], [], [(1000000, [(0, 1)]), ((-1000000), [(0, (-1))])], []), (some (0, (1000000, [])), [], [], [(1000001, [(0, (-1))])], []), (some (0, (0, [(0, 1)])), [], [], [((-1000000), [(0, 1)]), (1000000, [(0, (-1))])], [])], [], 0)
noncomputable def yL56 : List (Nat × List sAp) := []
noncomputable def yP56 : List (sE × List Int) := []
theorem yS56 {gv : Nat → zH → Int} (hg : sGv yReg yGu gv) : ySum gv yQ56 := yOk hg (F := 500) (sp := yP56) (L := yL56) (Qs := []) (by decide +kernel) yNil
/-- X3_reckon None None None None -/
noncomputable def yQ57 : sQ := (219, ([], [(0, 0, (0, [])), (1, 1, (0, [])), (1, 3, (0, []))], [((-2147483648), 2147483647), ((-2147483648), 2147483647), ((-2147483648), 2147483647)], [], [(0, 0), (1, 1), (2, 2)], (0, [])), [(some (1, (1, [])), [], [], [((-124), [(0, 1)]), (38, [(0, (-1))])], []), (some (1, (0, [])), [], [], [], []), (some (1, (0, [(3, 1)])), [], [((-9223372036854775808), 9223372036854775807)], [((-47), [(0, 1)]), (42, [(0, (-1))])], [0])], [], 0)
noncomputable def yL57 : List (Nat × List sAp) := []
noncomputable def yP57 : List (sE × List Int) := []
theorem yS57 {gv : Nat → zH → Int} (hg : sGv yReg yGu gv) : ySum gv yQ57 := yOk hg (F := 500) (sp := yP57) (L := yL57) (Qs := []) (by decide +kernel) yNil
/-- X3_valueOf LB None None -/
noncomputable def yQ58 : sQ := (220, ([(0, 54)], [(0, 1, (0, []))], [(0, 2147483647)], [], [(0, 0)], (0, [])), [(some (0, (0, [(0, 1)])), [], [], [((-9999), [(0, 1)])], []), (some (0, (0, [(0, 1)])), [], [], [(10006, [(0, (-1))])], []), (some (0, (0, [(1, 1)])), [], [((-2147483648), 2147483647)], [((-10005), [(0, 1)]), (10000, [(0, (-1))])], [0])], [], 0)
noncomputable def yL58 : List (Nat × List sAp) := []
noncomputable def yP58 : List (sE × List Int) := []
theorem yS58 {gv : Nat → zH → Int} (hg : sGv yReg yGu gv) : ySum gv yQ58 := yOk hg (F := 500) (sp := yP58) (L := yL58) (Qs := []) (by decide +kernel) yNil
/-- X3_worth LB None -/
noncomputable def yQ59 : sQ := (221, ([(0, 54)], [], [], [], [], (243, [])), [(some (0, (0, [])), [], [], [], []), (some (0, (0, [(0, 1)])), [], [((-2147483648), 2147483647)], [], [0])], [(52, 0, 63)], 1)
noncomputable def yL59 : List (Nat × List sAp) := [(37, [(([(0, 54), (1, 49)], [(0, 2, (0, [])), (0, 3, (0, [])), (0, 4, (0, [])), (2, 54, (4, [])), (2, 54, (5, []))], [(0, 64), (0, 1), (0, 242), (1, 4), (0, 3)], [], [], (242, [(2, (-1))])), [])])]
noncomputable def yP59 : List (sE × List Int) := []
theorem yS59 {gv : Nat → zH → Int} (hg : sGv yReg yGu gv) : ySum gv yQ59 := yOk hg (F := 500) (sp := yP59) (L := yL59) (Qs := [yQ57, yQ56, yQ58]) (by decide +kernel) (yCons (yS57 hg) (yCons (yS56 hg) (yCons (yS58 hg) yNil)))
/-- X5_dreamOf N now None None None None -/
noncomputable def yQ60 : sQ := (236, ([(0, 66), (1, 7)], [(0, 2, (0, [])), (0, 3, (0, [])), (0, 4, (0, [])), (2, 56, (0, []))], [(0, 5), (0, 9), ((-2147483648), 2147483647), (1, 6)], [], [(0, 0), (1, 1), (2, 2), (3, 3)], (0, [])), [(some (0, (0, [])), [], [], [], []), (some (0, (0, [(4, 1)])), [], [(0, 20)], [], [0]), (some (0, (20, [])), [], [], [], []), (some (0, (0, [])), [], [], [((-2), [(2, 1)]), (2, [(2, (-1))])], []), (some (0, (0, [(4, 1)])), [], [(0, 20)], [((-2), [(2, 1)]), (2, [(2, (-1))])], [0]), (some (0, (20, [])), [], [], [((-2), [(2, 1)]), (2, [(2, (-1))])], [])], [(53, 0, 5), (52, 0, 63)], 2)
noncomputable def yL60 : List (Nat × List sAp) := []
noncomputable def yP60 : List (sE × List Int) := []
theorem yS60 {gv : Nat → zH → Int} (hg : sGv yReg yGu gv) : ySum gv yQ60 := yOk hg (F := 500) (sp := yP60) (L := yL60) (Qs := [yQ49, yQ59]) (by decide +kernel) (yCons (yS49 hg) (yCons (yS59 hg) yNil))
/-- X5_sleepOn N now None None None None -/
noncomputable def yQ61 : sQ := (241, ([(0, 66), (1, 7)], [(0, 2, (0, [])), (0, 3, (0, [])), (0, 4, (0, [])), (2, 56, (0, []))], [(0, 5), (0, 9), ((-2147483648), 2147483647), (1, 6)], [], [(0, 0), (1, 1), (2, 2), (3, 3)], (0, [])), [(none, [], [], [], []), (none, [], [], [((-2), [(2, 1)]), (2, [(2, (-1))])], []), (none, [], [], [((-1), [(2, 1)]), (1, [(2, (-1))])], [])], [(53, 0, 5), (52, 0, 63), (66, 9, 10), (65, 0, 59), (62, 0, 5), (63, 0, 5), (60, 0, 5), (61, 0, 5)], 3)
noncomputable def yL61 : List (Nat × List sAp) := []
noncomputable def yP61 : List (sE × List Int) := []
theorem yS61 {gv : Nat → zH → Int} (hg : sGv yReg yGu gv) : ySum gv yQ61 := yOk hg (F := 500) (sp := yP61) (L := yL61) (Qs := [yQ60]) (by decide +kernel) (yCons (yS60 hg) yNil)
/-- X5_run N now None -/
noncomputable def yQ62 : sQ := (240, ([(0, 66), (1, 7)], [(2, 56, (0, []))], [(0, 6)], [], [(0, 0)], (88, [])), [(none, [], [], [], [])], [(53, 0, 5), (52, 0, 63), (66, 9, 11), (65, 0, 59), (62, 0, 5), (63, 0, 5), (60, 0, 5), (64, 0, 59), (59, 0, 5), (61, 0, 5)], 4)
noncomputable def yL62 : List (Nat × List sAp) := [(7, [(([(0, 66), (1, 7)], [(0, 2, (0, [])), (2, 56, (0, []))], [(0, 10), (0, 6)], [], [(0, 1)], (87, [(0, (-8))])), [])]), (35, [(([(0, 66), (1, 7)], [(0, 2, (0, [])), (0, 3, (0, [])), (0, 4, (0, [])), (0, 5, (0, [])), (2, 56, (0, [])), (2, 56, (1, []))], [(0, 9), ((-2147483648), 2147483647), ((-2147483648), 2147483647), (0, 6), (0, 6), (1, 10)], [], [(0, 4)], (86, [(0, (-8)), (3, (-1))])), [])])]
noncomputable def yP62 : List (sE × List Int) := []
theorem yS62 {gv : Nat → zH → Int} (hg : sGv yReg yGu gv) : ySum gv yQ62 := yOk hg (F := 500) (sp := yP62) (L := yL62) (Qs := [yQ61, yQ55, yQ54]) (by decide +kernel) (yCons (yS61 hg) (yCons (yS55 hg) (yCons (yS54 hg) yNil)))
/-- X11_awake G None None -/
noncomputable def yQ63 : sQ := (36, ([(0, 86)], [(0, 1, (0, []))], [((-2147483648), 2147483647)], [], [(0, 0)], (0, [])), [(some (0, ((-1), [])), [], [], [(1, [(0, 1)])], []), (some (0, (0, [(1, 1)])), [], [((-2147483648), 2147483647)], [((-9), [(0, 1)]), (0, [(0, (-1))])], [0]), (some (0, ((-1), [])), [], [], [(0, [(0, (-1))])], [])], [(53, 0, 5), (52, 0, 63), (66, 9, 11), (65, 0, 59), (62, 0, 5), (63, 0, 5), (60, 0, 5), (64, 0, 59), (59, 0, 5), (61, 0, 5)], 5)
noncomputable def yL63 : List (Nat × List sAp) := []
noncomputable def yP63 : List (sE × List Int) := []
theorem yS63 {gv : Nat → zH → Int} (hg : sGv yReg yGu gv) : ySum gv yQ63 := yOk hg (F := 500) (sp := yP63) (L := yL63) (Qs := [yQ52, yQ51, yQ62]) (by decide +kernel) (yCons (yS52 hg) (yCons (yS51 hg) (yCons (yS62 hg) yNil)))
/-- X8_copyFrom now kept None -/
noncomputable def yQ64 : sQ := (254, ([(0, 7), (1, 23)], [], [], [], [], (0, [])), [(none, [], [], [], [])], [(7, 7, 9), (0, 0, 5), (2, 0, 5), (4, 0, 5), (1, 0, 5), (6, 0, 59), (5, 0, 5), (3, 0, 5)], 0)
noncomputable def yL64 : List (Nat × List sAp) := []
noncomputable def yP64 : List (sE × List Int) := []
theorem yS64 {gv : Nat → zH → Int} (hg : sGv yReg yGu gv) : ySum gv yQ64 := yOk hg (F := 500) (sp := yP64) (L := yL64) (Qs := []) (by decide +kernel) yNil
/-- X11_back G None -/
noncomputable def yQ65 : sQ := (37, ([(0, 86)], [], [], [], [], (0, [])), [(some (0, (0, [(0, 1)])), [], [((-2147483648), 2147483647)], [], [0]), (some (0, ((-1), [])), [], [], [], [])], [(58, 2, 2), (7, 7, 9), (0, 0, 5), (2, 0, 5), (4, 0, 5), (1, 0, 5), (6, 0, 59), (5, 0, 5), (3, 0, 5)], 1)
noncomputable def yL65 : List (Nat × List sAp) := []
noncomputable def yP65 : List (sE × List Int) := []
theorem yS65 {gv : Nat → zH → Int} (hg : sGv yReg yGu gv) : ySum gv yQ65 := yOk hg (F := 500) (sp := yP65) (L := yL65) (Qs := [yQ64]) (by decide +kernel) (yCons (yS64 hg) yNil)
/-- X11_refuse G None None -/
noncomputable def yQ66 : sQ := (75, ([(0, 86)], [(0, 1, (0, []))], [(0, 4)], [], [(0, 0)], (0, [])), [(some (0, ((-1), [])), [], [], [], [])], [(83, 0, 4)], 0)
noncomputable def yL66 : List (Nat × List sAp) := []
noncomputable def yP66 : List (sE × List Int) := []
theorem yS66 {gv : Nat → zH → Int} (hg : sGv yReg yGu gv) : ySum gv yQ66 := yOk hg (F := 500) (sp := yP66) (L := yL66) (Qs := []) (by decide +kernel) yNil
/-- X11_bed G None None None -/
noncomputable def yQ67 : sQ := (38, ([(0, 86)], [(0, 1, (0, [])), (0, 2, (0, []))], [((-2147483648), 2147483647), ((-2147483648), 2147483647)], [], [(0, 0), (1, 1)], (0, [])), [(some (0, ((-1), [])), [], [], [(1, [(0, 1)])], []), (some (0, ((-1), [])), [], [], [((-5), [(0, 1)]), (0, [(0, (-1))]), (1, [(1, 1)])], []), (some (0, (0, [(2, 1)])), [], [((-2147483648), 2147483647)], [((-5), [(0, 1)]), (0, [(0, (-1))]), ((-9), [(1, 1)]), (0, [(1, (-1))])], [0]), (some (0, ((-1), [])), [], [], [((-5), [(0, 1)]), (0, [(0, (-1))]), ((-9), [(1, 1)]), (0, [(1, (-1))])], []), (some (0, ((-1), [])), [], [], [((-5), [(0, 1)]), (0, [(0, (-1))]), (0, [(1, (-1))])], []), (some (0, ((-1), [])), [], [], [(0, [(0, (-1))])], [])], [(58, 1, 2), (39, 7, 9), (32, 0, 5), (34, 0, 5), (36, 0, 5), (33, 0, 5), (38, 0, 59), (37, 0, 5), (35, 0, 5), (83, 0, 4), (0, 0, 5)], 2)
noncomputable def yL67 : List (Nat × List sAp) := []
noncomputable def yP67 : List (sE × List Int) := []
theorem yS67 {gv : Nat → zH → Int} (hg : sGv yReg yGu gv) : ySum gv yQ67 := yOk hg (F := 500) (sp := yP67) (L := yL67) (Qs := [yQ49, yQ51, yQ66, yQ39]) (by decide +kernel) (yCons (yS49 hg) (yCons (yS51 hg) (yCons (yS66 hg) (yCons (yS39 hg) yNil))))
/-- X8_copyFrom now told None -/
noncomputable def yQ68 : sQ := (254, ([(0, 7), (1, 31)], [], [], [], [], (0, [])), [(none, [], [], [], [])], [(7, 7, 9), (0, 0, 5), (2, 0, 5), (4, 0, 5), (1, 0, 5), (6, 0, 59), (5, 0, 5), (3, 0, 5)], 0)
noncomputable def yL68 : List (Nat × List sAp) := []
noncomputable def yP68 : List (sE × List Int) := []
theorem yS68 {gv : Nat → zH → Int} (hg : sGv yReg yGu gv) : ySum gv yQ68 := yOk hg (F := 500) (sp := yP68) (L := yL68) (Qs := []) (by decide +kernel) yNil
/-- X11_beginFort G None -/
noncomputable def yQ69 : sQ := (39, ([(0, 86)], [], [], [], [], (0, [])), [(none, [], [], [], [])], [(58, 2, 2), (86, 8, 8), (70, 3, 3), (74, 3, 3), (7, 7, 9), (0, 0, 5), (2, 0, 5), (4, 0, 5), (1, 0, 5), (6, 0, 59), (5, 0, 5), (3, 0, 5)], 1)
noncomputable def yL69 : List (Nat × List sAp) := []
noncomputable def yP69 : List (sE × List Int) := []
theorem yS69 {gv : Nat → zH → Int} (hg : sGv yReg yGu gv) : ySum gv yQ69 := yOk hg (F := 500) (sp := yP69) (L := yL69) (Qs := [yQ68]) (by decide +kernel) (yCons (yS68 hg) yNil)
/-- X8_watcherOf trial None None None -/
noncomputable def yQ70 : sQ := (256, ([(0, 15)], [(0, 1, (0, [])), (0, 2, (0, []))], [(0, 5), (1, 6)], [], [(0, 0), (1, 1)], (7, [])), [(some (0, ((-1), [])), [], [], [], []), (some (0, (0, [(2, 1)])), [], [(0, 5)], [(1, [(1, (-1)), (2, 1)])], [0])], [], 0)
noncomputable def yL70 : List (Nat × List sAp) := [(27, [(([(0, 15)], [(0, 1, (0, [])), (0, 2, (0, [])), (0, 3, (0, [])), (0, 4, (0, []))], [(0, 5), (1, 6), ((-2147483648), 2147483647), (0, 6)], [], [(0, 0), (1, 1)], (6, [(3, (-1))])), [])])]
noncomputable def yP70 : List (sE × List Int) := []
theorem yS70 {gv : Nat → zH → Int} (hg : sGv yReg yGu gv) : ySum gv yQ70 := yOk hg (F := 500) (sp := yP70) (L := yL70) (Qs := []) (by decide +kernel) yNil
/-- X5_clear N trial None -/
noncomputable def yQ71 : sQ := (235, ([(0, 66), (1, 15)], [(2, 56, (0, []))], [(0, 6)], [], [(0, 0)], (7, [])), [(none, [], [], [], [])], [(66, 9, 11), (62, 0, 5), (63, 0, 5), (60, 0, 5), (59, 0, 5), (61, 0, 5)], 1)
noncomputable def yL71 : List (Nat × List sAp) := [(17, [(([(0, 66), (1, 15)], [(0, 2, (0, [])), (2, 56, (0, [])), (2, 66, (11, [])), (2, 66, (10, [])), (2, 66, (9, []))], [(0, 6), (0, 6), (0, 0), (0, 0), (0, 0)], [], [(0, 1)], (6, [(0, (-1))])), [])])]
noncomputable def yP71 : List (sE × List Int) := []
theorem yS71 {gv : Nat → zH → Int} (hg : sGv yReg yGu gv) : ySum gv yQ71 := yOk hg (F := 500) (sp := yP71) (L := yL71) (Qs := [yQ70]) (by decide +kernel) (yCons (yS70 hg) yNil)
/-- X5_lieDown N trial None None -/
noncomputable def yQ72 : sQ := (238, ([(0, 66), (1, 15)], [(0, 2, (0, [])), (2, 56, (0, []))], [(0, 9), (0, 6)], [], [(0, 0), (1, 1)], (14, [])), [(none, [], [], [], [])], [(65, 0, 59), (64, 0, 59)], 1)
noncomputable def yL72 : List (Nat × List sAp) := [(8, [(([(0, 66), (1, 15)], [(0, 2, (0, [])), (0, 3, (0, [])), (0, 4, (0, [])), (2, 56, (0, []))], [(0, 9), (0, 54), (0, 6), (0, 6)], [], [(0, 0), (1, 3)], (13, [(2, (-1))])), [])]), (107, [(([(0, 66), (1, 15)], [(0, 2, (0, [])), (0, 3, (0, [])), (0, 4, (0, [])), (2, 56, (0, []))], [(0, 9), (0, 54), (0, 6), (0, 6)], [], [(0, 0), (1, 3)], (6, [(2, (-1))])), [])])]
noncomputable def yP72 : List (sE × List Int) := []
theorem yS72 {gv : Nat → zH → Int} (hg : sGv yReg yGu gv) : ySum gv yQ72 := yOk hg (F := 500) (sp := yP72) (L := yL72) (Qs := [yQ49]) (by decide +kernel) (yCons (yS49 hg) yNil)
/-- X5_dreamOf N trial None None None None -/
noncomputable def yQ73 : sQ := (236, ([(0, 66), (1, 15)], [(0, 2, (0, [])), (0, 3, (0, [])), (0, 4, (0, [])), (2, 56, (0, []))], [(0, 5), (0, 9), ((-2147483648), 2147483647), (1, 6)], [], [(0, 0), (1, 1), (2, 2), (3, 3)], (0, [])), [(some (0, (0, [])), [], [], [], []), (some (0, (0, [(4, 1)])), [], [(0, 20)], [], [0]), (some (0, (20, [])), [], [], [], []), (some (0, (0, [])), [], [], [((-2), [(2, 1)]), (2, [(2, (-1))])], []), (some (0, (0, [(4, 1)])), [], [(0, 20)], [((-2), [(2, 1)]), (2, [(2, (-1))])], [0]), (some (0, (20, [])), [], [], [((-2), [(2, 1)]), (2, [(2, (-1))])], [])], [(53, 0, 5), (52, 0, 63)], 2)
noncomputable def yL73 : List (Nat × List sAp) := []
noncomputable def yP73 : List (sE × List Int) := []
theorem yS73 {gv : Nat → zH → Int} (hg : sGv yReg yGu gv) : ySum gv yQ73 := yOk hg (F := 500) (sp := yP73) (L := yL73) (Qs := [yQ49, yQ59]) (by decide +kernel) (yCons (yS49 hg) (yCons (yS59 hg) yNil))
/-- X5_sleepOn N trial None None None None -/
noncomputable def yQ74 : sQ := (241, ([(0, 66), (1, 15)], [(0, 2, (0, [])), (0, 3, (0, [])), (0, 4, (0, [])), (2, 56, (0, []))], [(0, 5), (0, 9), ((-2147483648), 2147483647), (1, 6)], [], [(0, 0), (1, 1), (2, 2), (3, 3)], (0, [])), [(none, [], [], [], []), (none, [], [], [((-2), [(2, 1)]), (2, [(2, (-1))])], []), (none, [], [], [((-1), [(2, 1)]), (1, [(2, (-1))])], [])], [(53, 0, 5), (52, 0, 63), (66, 9, 10), (65, 0, 59), (62, 0, 5), (63, 0, 5), (60, 0, 5), (61, 0, 5)], 3)
noncomputable def yL74 : List (Nat × List sAp) := []
noncomputable def yP74 : List (sE × List Int) := []
theorem yS74 {gv : Nat → zH → Int} (hg : sGv yReg yGu gv) : ySum gv yQ74 := yOk hg (F := 500) (sp := yP74) (L := yL74) (Qs := [yQ73]) (by decide +kernel) (yCons (yS73 hg) yNil)
/-- X5_run N trial None -/
noncomputable def yQ75 : sQ := (240, ([(0, 66), (1, 15)], [(2, 56, (0, []))], [(0, 6)], [], [(0, 0)], (88, [])), [(none, [], [], [], [])], [(53, 0, 5), (52, 0, 63), (66, 9, 11), (65, 0, 59), (62, 0, 5), (63, 0, 5), (60, 0, 5), (64, 0, 59), (59, 0, 5), (61, 0, 5)], 4)
noncomputable def yL75 : List (Nat × List sAp) := [(7, [(([(0, 66), (1, 15)], [(0, 2, (0, [])), (2, 56, (0, []))], [(0, 10), (0, 6)], [], [(0, 1)], (87, [(0, (-8))])), [])]), (35, [(([(0, 66), (1, 15)], [(0, 2, (0, [])), (0, 3, (0, [])), (0, 4, (0, [])), (0, 5, (0, [])), (2, 56, (0, [])), (2, 56, (1, []))], [(0, 9), ((-2147483648), 2147483647), ((-2147483648), 2147483647), (0, 6), (0, 6), (1, 10)], [], [(0, 4)], (86, [(0, (-8)), (3, (-1))])), [])])]
noncomputable def yP75 : List (sE × List Int) := []
theorem yS75 {gv : Nat → zH → Int} (hg : sGv yReg yGu gv) : ySum gv yQ75 := yOk hg (F := 500) (sp := yP75) (L := yL75) (Qs := [yQ74, yQ72, yQ71]) (by decide +kernel) (yCons (yS74 hg) (yCons (yS72 hg) (yCons (yS71 hg) yNil)))
/-- X8_copyFrom trial now None -/
noncomputable def yQ76 : sQ := (254, ([(0, 15), (1, 7)], [], [], [], [], (0, [])), [(none, [], [], [], [])], [(15, 7, 9), (8, 0, 5), (10, 0, 5), (12, 0, 5), (9, 0, 5), (14, 0, 59), (13, 0, 5), (11, 0, 5)], 0)
noncomputable def yL76 : List (Nat × List sAp) := []
noncomputable def yP76 : List (sE × List Int) := []
theorem yS76 {gv : Nat → zH → Int} (hg : sGv yReg yGu gv) : ySum gv yQ76 := yOk hg (F := 500) (sp := yP76) (L := yL76) (Qs := []) (by decide +kernel) yNil
/-- X11_best G None None None -/
noncomputable def yQ77 : sQ := (40, ([(0, 86)], [(0, 1, (0, [])), (0, 2, (0, []))], [((-2147483648), 2147483647), ((-2147483648), 2147483647)], [], [(0, 0), (1, 1)], (11, [])), [(some (0, ((-1), [])), [], [], [(1, [(0, 1)])], []), (some (0, ((-1), [])), [], [], [((-5), [(0, 1)]), (0, [(0, (-1))]), (1, [(1, 1)])], []), (some (0, ((-1), [])), [], [], [((-5), [(0, 1)]), (0, [(0, (-1))]), (2, [(1, (-1))])], []), (some (0, ((-1), [])), [], [], [(0, [(0, (-1))])], []), (some (0, (0, [(2, 1)])), [], [((-2147483648), 2147483647)], [((-5), [(0, 1)]), (0, [(0, (-1))]), ((-1), [(1, 1)]), (1, [(1, (-1))])], [0]), (some (0, (0, [(2, 1)])), [], [((-1), 9)], [((-5), [(0, 1)]), (0, [(0, (-1))]), (0, [(1, 1)]), (0, [(1, (-1))])], [0])], [(53, 0, 5), (52, 0, 63), (66, 9, 11), (65, 0, 59), (62, 0, 5), (63, 0, 5), (60, 0, 5), (64, 0, 59), (59, 0, 5), (61, 0, 5), (15, 7, 9), (8, 0, 5), (10, 0, 5), (12, 0, 5), (9, 0, 5), (14, 0, 59), (13, 0, 5), (11, 0, 5)], 5)
noncomputable def yL77 : List (Nat × List sAp) := [(41, [(([(0, 86)], [(0, 1, (0, [])), (0, 2, (0, [])), (0, 3, (0, [])), (0, 4, (0, [])), (0, 5, (0, [])), (2, 56, (0, []))], [(0, 5), (0, 1), ((-1), 9), ((-2147483648), 2147483647), (0, 10), (1, 6)], [], [(0, 0), (1, 1)], (10, [(4, (-1))])), [])])]
noncomputable def yP77 : List (sE × List Int) := []
theorem yS77 {gv : Nat → zH → Int} (hg : sGv yReg yGu gv) : ySum gv yQ77 := yOk hg (F := 500) (sp := yP77) (L := yL77) (Qs := [yQ49, yQ75, yQ76]) (by decide +kernel) (yCons (yS49 hg) (yCons (yS75 hg) (yCons (yS76 hg) yNil)))
/-- X11_changePlaces G None None None -/
noncomputable def yQ78 : sQ := (41, ([(0, 86)], [(0, 1, (0, [])), (0, 2, (0, []))], [(0, 5), (0, 5)], [], [(0, 0), (1, 1)], (0, [])), [(none, [], [], [], [])], [(5, 0, 5)], 0)
noncomputable def yL78 : List (Nat × List sAp) := []
noncomputable def yP78 : List (sE × List Int) := []
theorem yS78 {gv : Nat → zH → Int} (hg : sGv yReg yGu gv) : ySum gv yQ78 := yOk hg (F := 500) (sp := yP78) (L := yL78) (Qs := []) (by decide +kernel) yNil
/-- X11_sumOfMen G now.dreamt None -/
noncomputable def yQ79 : sQ := (89, ([(0, 86), (1, 4)], [], [], [], [], (7, [])), [(some (0, (0, [(0, 1)])), [], [((-2147483648), 2147483647)], [], [0])], [], 0)
noncomputable def yL79 : List (Nat × List sAp) := [(4, [(([(0, 86), (1, 4)], [(0, 2, (0, [])), (0, 3, (0, []))], [((-2147483648), 2147483647), (0, 6)], [], [], (6, [(1, (-1))])), [])])]
noncomputable def yP79 : List (sE × List Int) := []
theorem yS79 {gv : Nat → zH → Int} (hg : sGv yReg yGu gv) : ySum gv yQ79 := yOk hg (F := 500) (sp := yP79) (L := yL79) (Qs := []) (by decide +kernel) yNil
/-- X11_sumOfMen G now.tired None -/
noncomputable def yQ80 : sQ := (89, ([(0, 86), (1, 3)], [], [], [], [], (7, [])), [(some (0, (0, [(0, 1)])), [], [((-2147483648), 2147483647)], [], [0])], [], 0)
noncomputable def yL80 : List (Nat × List sAp) := [(4, [(([(0, 86), (1, 3)], [(0, 2, (0, [])), (0, 3, (0, []))], [((-2147483648), 2147483647), (0, 6)], [], [], (6, [(1, (-1))])), [])])]
noncomputable def yP80 : List (sE × List Int) := []
theorem yS80 {gv : Nat → zH → Int} (hg : sGv yReg yGu gv) : ySum gv yQ80 := yOk hg (F := 500) (sp := yP80) (L := yL80) (Qs := []) (by decide +kernel) yNil
/-- X8_logLength now None -/
noncomputable def yQ81 : sQ := (255, ([(0, 7)], [(2, 7, (9, []))], [((-2147483648), 2147483647)], [], [(0, 0)], (0, [])), [(some (0, (60, [])), [], [], [(60, [(0, (-1))])], []), (some (0, (0, [(0, 1)])), [], [], [((-59), [(0, 1)])], [])], [], 0)
noncomputable def yL81 : List (Nat × List sAp) := []
noncomputable def yP81 : List (sE × List Int) := []
theorem yS81 {gv : Nat → zH → Int} (hg : sGv yReg yGu gv) : ySum gv yQ81 := yOk hg (F := 500) (sp := yP81) (L := yL81) (Qs := []) (by decide +kernel) yNil
/-- X11_count G None None -/
noncomputable def yQ82 : sQ := (42, ([(0, 86)], [(0, 1, (0, []))], [((-2147483648), 2147483647)], [], [(0, 0)], (0, [])), [(some (0, (0, [(1, 1)])), [], [((-2147483648), 2147483647)], [], [0])], [], 1)
noncomputable def yL82 : List (Nat × List sAp) := []
noncomputable def yP82 : List (sE × List Int) := []
theorem yS82 {gv : Nat → zH → Int} (hg : sGv yReg yGu gv) : ySum gv yQ82 := yOk hg (F := 500) (sp := yP82) (L := yL82) (Qs := [yQ81, yQ79, yQ80]) (by decide +kernel) (yCons (yS81 hg) (yCons (yS79 hg) (yCons (yS80 hg) yNil)))
/-- X11_digitsOfRow G None -/
noncomputable def yQ83 : sQ := (43, ([(0, 86)], [], [], [], [], (7, [])), [(some (0, (0, [(0, 1)])), [], [((-2147483648), 2147483647)], [], [0])], [], 0)
noncomputable def yL83 : List (Nat × List sAp) := [(4, [(([(0, 86)], [(0, 1, (0, [])), (0, 2, (0, []))], [((-2147483648), 2147483647), (0, 6)], [], [], (6, [(1, (-1))])), [])])]
noncomputable def yP83 : List (sE × List Int) := []
theorem yS83 {gv : Nat → zH → Int} (hg : sGv yReg yGu gv) : ySum gv yQ83 := yOk hg (F := 500) (sp := yP83) (L := yL83) (Qs := []) (by decide +kernel) yNil
/-- X11_draw G None None -/
noncomputable def yQ84 : sQ := (44, ([(0, 86)], [(0, 1, (0, []))], [(0, 10)], [], [(0, 0)], (0, [])), [(some (0, (0, [])), [], [], [(0, [(0, 1)])], []), (some (0, (0, [(1, 1)])), [], [(0, 9)], [(1, [(0, (-1))]), (1, [(0, (-1)), (1, 1)])], [0])], [(86, 19, 19)], 0)
noncomputable def yL84 : List (Nat × List sAp) := []
noncomputable def yP84 : List (sE × List Int) := []
theorem yS84 {gv : Nat → zH → Int} (hg : sGv yReg yGu gv) : ySum gv yQ84 := yOk hg (F := 500) (sp := yP84) (L := yL84) (Qs := []) (by decide +kernel) yNil
/-- X11_drawBed G None -/
noncomputable def yQ85 : sQ := (45, ([(0, 86)], [], [], [], [], (0, [])), [(none, [], [], [], [])], [(86, 19, 19), (0, 0, 5)], 1)
noncomputable def yL85 : List (Nat × List sAp) := []
noncomputable def yP85 : List (sE × List Int) := []
theorem yS85 {gv : Nat → zH → Int} (hg : sGv yReg yGu gv) : ySum gv yQ85 := yOk hg (F := 500) (sp := yP85) (L := yL85) (Qs := [yQ49, yQ84]) (by decide +kernel) (yCons (yS49 hg) (yCons (yS84 hg) yNil))
/-- X11_drawPlaces G None -/
noncomputable def yQ86 : sQ := (46, ([(0, 86)], [], [], [], [], (0, [])), [(none, [], [], [], [])], [(86, 19, 19), (5, 0, 5)], 1)
noncomputable def yL86 : List (Nat × List sAp) := []
noncomputable def yP86 : List (sE × List Int) := []
theorem yS86 {gv : Nat → zH → Int} (hg : sGv yReg yGu gv) : ySum gv yQ86 := yOk hg (F := 500) (sp := yP86) (L := yL86) (Qs := [yQ49, yQ78, yQ84]) (by decide +kernel) (yCons (yS49 hg) (yCons (yS78 hg) (yCons (yS84 hg) yNil)))
/-- X11_dream G None None None -/
noncomputable def yQ87 : sQ := (47, ([(0, 86)], [(0, 1, (0, [])), (0, 2, (0, []))], [((-2147483648), 2147483647), ((-2147483648), 2147483647)], [], [(0, 0), (1, 1)], (0, [])), [(some (0, ((-1), [])), [], [], [(1, [(0, 1)])], []), (some (0, ((-1), [])), [], [], [((-5), [(0, 1)]), (0, [(0, (-1))]), (1, [(1, 1)])], []), (some (0, (0, [(2, 1)])), [], [((-2147483648), 2147483647)], [((-5), [(0, 1)]), (0, [(0, (-1))]), ((-9), [(1, 1)]), (0, [(1, (-1))])], [0]), (some (0, ((-1), [])), [], [], [((-5), [(0, 1)]), (0, [(0, (-1))]), (0, [(1, (-1))])], []), (some (0, ((-1), [])), [], [], [(0, [(0, (-1))])], [])], [(53, 0, 5), (52, 0, 63), (66, 9, 11), (65, 0, 59), (62, 0, 5), (63, 0, 5), (60, 0, 5), (64, 0, 59), (59, 0, 5), (61, 0, 5)], 5)
noncomputable def yL87 : List (Nat × List sAp) := []
noncomputable def yP87 : List (sE × List Int) := []
theorem yS87 {gv : Nat → zH → Int} (hg : sGv yReg yGu gv) : ySum gv yQ87 := yOk hg (F := 500) (sp := yP87) (L := yL87) (Qs := [yQ49, yQ51, yQ62]) (by decide +kernel) (yCons (yS49 hg) (yCons (yS51 hg) (yCons (yS62 hg) yNil)))
/-- X11_dull G None None -/
noncomputable def yQ88 : sQ := (48, ([(0, 86)], [(0, 1, (0, []))], [((-2147483648), 2147483647)], [], [(0, 0)], (0, [])), [(some (0, ((-1), [])), [], [], [(1, [(0, 1)])], []), (some (0, (0, [(1, 1)])), [], [(0, 2147483646)], [((-5), [(0, 1)]), (0, [(0, (-1))])], [0]), (some (0, ((-1), [])), [], [], [((-5), [(0, 1)]), (0, [(0, (-1))])], []), (some (0, ((-1), [])), [], [], [(0, [(0, (-1))])], [])], [(58, 1, 2), (39, 7, 9), (32, 0, 5), (34, 0, 5), (36, 0, 5), (33, 0, 5), (38, 0, 59), (37, 0, 5), (35, 0, 5), (83, 0, 4), (7, 7, 7), (2, 0, 5)], 2)
noncomputable def yL88 : List (Nat × List sAp) := []
noncomputable def yP88 : List (sE × List Int) := []
theorem yS88 {gv : Nat → zH → Int} (hg : sGv yReg yGu gv) : ySum gv yQ88 := yOk hg (F := 500) (sp := yP88) (L := yL88) (Qs := [yQ49, yQ66, yQ39]) (by decide +kernel) (yCons (yS49 hg) (yCons (yS66 hg) (yCons (yS39 hg) yNil)))
/-- X11_end G None None -/
noncomputable def yQ89 : sQ := (49, ([(0, 86)], [(0, 1, (0, []))], [((-2147483648), 2147483647)], [], [(0, 0)], (0, [])), [(some (0, (0, [])), [], [], [(1, [(0, 1)])], []), (some (0, (1, [])), [], [], [((-240), [(0, 1)]), (0, [(0, (-1))])], []), (some (0, (0, [])), [], [], [(1, [(0, (-1))])], [])], [(41, 1, 1)], 0)
noncomputable def yL89 : List (Nat × List sAp) := []
noncomputable def yP89 : List (sE × List Int) := []
theorem yS89 {gv : Nat → zH → Int} (hg : sGv yReg yGu gv) : ySum gv yQ89 := yOk hg (F := 500) (sp := yP89) (L := yL89) (Qs := []) (by decide +kernel) yNil
