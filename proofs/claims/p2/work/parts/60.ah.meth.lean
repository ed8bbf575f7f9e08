/-! methods told of -/
/-- X12_fewest M None -/
noncomputable def yQ356 : sQ := (123, ([(0, 120)], [(2, 120, (22, []))], [(1, 6)], [], [(0, 0)], (10, [])), [(some (0, (0, [(1, 1)])), [], [(0, 9)], [], [0])], [], 1)
noncomputable def yL356 : List (Nat × List sAp) := [(4, [(([(0, 120)], [(0, 1, (0, [])), (0, 2, (0, [])), (2, 120, (22, []))], [(0, 9), (1, 10), (1, 6)], [], [(0, 2)], (10, [(1, (-1))])), [])])]
noncomputable def yP356 : List (sE × List Int) := []
theorem yS356 {gv : Nat → zH → Int} (hg : sGv yReg yGu gv) : ySum gv yQ356 := yOk hg (F := 500) (sp := yP356) (L := yL356) (Qs := [yQ36, yQ276]) (by decide +kernel) (yCons (yS36 hg) (yCons (yS276 hg) yNil))
/-- X12_gameOf M None None None None None -/
noncomputable def yQ357 : sQ := (125, ([(0, 120)], [(0, 1, (0, [])), (0, 2, (0, [])), (0, 3, (0, [])), (0, 4, (0, [])), (2, 120, (22, [])), (2, 1004, (0, [])), (2, 1005, (0, []))], [(0, 5), (0, 5), (0, 3), (0, 3), (1, 6), (1, 1), (1, 1)], [], [(0, 0), (1, 1), (2, 2), (3, 3), (4, 4), (5, 5), (6, 6)], (0, [])), [(some (0, (0, [(7, 1)])), [], [((-2147483648), 2147483647)], [], [0])], [(120, 33, 37), (103, 0, 59), (106, 0, 5), (95, 0, 5), (107, 0, 5), (101, 6, 11), (105, 0, 5), (96, 0, 79), (104, 0, 9), (108, 0, 5)], 10)
noncomputable def yL357 : List (Nat × List sAp) := []
noncomputable def yP357 : List (sE × List Int) := []
theorem yS357 {gv : Nat → zH → Int} (hg : sGv yReg yGu gv) (hp : yHy gv 8) : ySum gv yQ357 := yOk hg (F := 500) (sp := yP357) (L := yL357) (Qs := [yT7, yQ284]) (by decide +kernel) (yCons (hp 7 _ (by decide) rfl) (yCons (yS284 hg (yHy_le (by decide) hp)) yNil))
/-- X12_game M None None None None None None -/
noncomputable def yQ358 : sQ := (124, ([(0, 120)], [(0, 1, (0, [])), (0, 2, (0, [])), (0, 3, (0, [])), (0, 4, (0, [])), (0, 5, (0, [])), (2, 120, (22, [])), (2, 1004, (0, [])), (2, 1005, (0, []))], [((-2147483648), 2147483647), ((-2147483648), 2147483647), ((-2147483648), 2147483647), ((-2147483648), 2147483647), ((-2147483648), 2147483647), (0, 6), (1, 1), (1, 1)], [], [(0, 0), (1, 1), (2, 2), (3, 3), (4, 4), (5, 5), (6, 6), (7, 7)], (0, [])), [(some (0, (0, [(8, 1)])), [], [((-2147483648), 2147483647)], [], [0])], [(120, 33, 37), (103, 0, 59), (106, 0, 5), (95, 0, 5), (107, 0, 5), (101, 6, 11), (105, 0, 5), (96, 0, 79), (104, 0, 9), (108, 0, 5)], 11)
noncomputable def yL358 : List (Nat × List sAp) := []
noncomputable def yP358 : List (sE × List Int) := []
theorem yS358 {gv : Nat → zH → Int} (hg : sGv yReg yGu gv) (hp : yHy gv 8) : ySum gv yQ358 := yOk hg (F := 500) (sp := yP358) (L := yL358) (Qs := [yQ357, yQ221, yQ227]) (by decide +kernel) (yCons (yS357 hg (yHy_le (by decide) hp)) (yCons (yS221 hg) (yCons (yS227 hg) yNil)))
/-- X12_has None None None 0 None -/
noncomputable def yQ359 : sQ := (128, ([], [(0, 0, (0, [])), (0, 1, (0, []))], [(0, 0), (0, 3)], [], [(0, 0), (1, 1)], (0, [])), [(some (0, (0, [])), [], [], [], []), (some (0, (1, [])), [], [], [], [])], [], 0)
noncomputable def yL359 : List (Nat × List sAp) := []
noncomputable def yP359 : List (sE × List Int) := []
theorem yS359 {gv : Nat → zH → Int} (hg : sGv yReg yGu gv) : ySum gv yQ359 := yOk hg (F := 500) (sp := yP359) (L := yL359) (Qs := []) (by decide +kernel) yNil
/-- X12_has None None None 1 0 -/
noncomputable def yQ360 : sQ := (128, ([], [(0, 0, (0, [])), (0, 1, (0, []))], [(1, 1), (0, 0)], [], [(0, 0), (1, 1)], (0, [])), [(some (0, (1, [])), [], [], [], [])], [], 0)
noncomputable def yL360 : List (Nat × List sAp) := []
noncomputable def yP360 : List (sE × List Int) := []
theorem yS360 {gv : Nat → zH → Int} (hg : sGv yReg yGu gv) : ySum gv yQ360 := yOk hg (F := 500) (sp := yP360) (L := yL360) (Qs := []) (by decide +kernel) yNil
/-- X12_has None None None 1 1 -/
noncomputable def yQ361 : sQ := (128, ([], [(0, 0, (0, [])), (0, 1, (0, []))], [(1, 1), (1, 1)], [], [(0, 0), (1, 1)], (0, [])), [(some (0, (0, [])), [], [], [], [])], [], 0)
noncomputable def yL361 : List (Nat × List sAp) := []
noncomputable def yP361 : List (sE × List Int) := []
theorem yS361 {gv : Nat → zH → Int} (hg : sGv yReg yGu gv) : ySum gv yQ361 := yOk hg (F := 500) (sp := yP361) (L := yL361) (Qs := []) (by decide +kernel) yNil
/-- X12_has None None None 1 2 -/
noncomputable def yQ362 : sQ := (128, ([], [(0, 0, (0, [])), (0, 1, (0, []))], [(1, 1), (2, 2)], [], [(0, 0), (1, 1)], (0, [])), [(some (0, (0, [])), [], [], [], [])], [], 0)
noncomputable def yL362 : List (Nat × List sAp) := []
noncomputable def yP362 : List (sE × List Int) := []
theorem yS362 {gv : Nat → zH → Int} (hg : sGv yReg yGu gv) : ySum gv yQ362 := yOk hg (F := 500) (sp := yP362) (L := yL362) (Qs := []) (by decide +kernel) yNil
/-- X12_has None None None 1 3 -/
noncomputable def yQ363 : sQ := (128, ([], [(0, 0, (0, [])), (0, 1, (0, []))], [(1, 1), (3, 3)], [], [(0, 0), (1, 1)], (0, [])), [(some (0, (0, [])), [], [], [], [])], [], 0)
noncomputable def yL363 : List (Nat × List sAp) := []
noncomputable def yP363 : List (sE × List Int) := []
theorem yS363 {gv : Nat → zH → Int} (hg : sGv yReg yGu gv) : ySum gv yQ363 := yOk hg (F := 500) (sp := yP363) (L := yL363) (Qs := []) (by decide +kernel) yNil
/-- X12_has None None None 1 4 -/
noncomputable def yQ364 : sQ := (128, ([], [(0, 0, (0, [])), (0, 1, (0, []))], [(1, 1), (4, 4)], [], [(0, 0), (1, 1)], (0, [])), [(some (0, (0, [])), [], [], [], [])], [], 0)
noncomputable def yL364 : List (Nat × List sAp) := []
noncomputable def yP364 : List (sE × List Int) := []
theorem yS364 {gv : Nat → zH → Int} (hg : sGv yReg yGu gv) : ySum gv yQ364 := yOk hg (F := 500) (sp := yP364) (L := yL364) (Qs := []) (by decide +kernel) yNil
/-- X12_has None None None 1 5 -/
noncomputable def yQ365 : sQ := (128, ([], [(0, 0, (0, [])), (0, 1, (0, []))], [(1, 1), (5, 5)], [], [(0, 0), (1, 1)], (0, [])), [(some (0, (0, [])), [], [], [], [])], [], 0)
noncomputable def yL365 : List (Nat × List sAp) := []
noncomputable def yP365 : List (sE × List Int) := []
theorem yS365 {gv : Nat → zH → Int} (hg : sGv yReg yGu gv) : ySum gv yQ365 := yOk hg (F := 500) (sp := yP365) (L := yL365) (Qs := []) (by decide +kernel) yNil
/-- X12_has None None None 10 0 -/
noncomputable def yQ366 : sQ := (128, ([], [(0, 0, (0, [])), (0, 1, (0, []))], [(10, 10), (0, 0)], [], [(0, 0), (1, 1)], (0, [])), [(some (0, (0, [])), [], [], [], [])], [], 0)
noncomputable def yL366 : List (Nat × List sAp) := []
noncomputable def yP366 : List (sE × List Int) := []
theorem yS366 {gv : Nat → zH → Int} (hg : sGv yReg yGu gv) : ySum gv yQ366 := yOk hg (F := 500) (sp := yP366) (L := yL366) (Qs := []) (by decide +kernel) yNil
/-- X12_has None None None 10 1 -/
noncomputable def yQ367 : sQ := (128, ([], [(0, 0, (0, [])), (0, 1, (0, []))], [(10, 10), (1, 1)], [], [(0, 0), (1, 1)], (0, [])), [(some (0, (1, [])), [], [], [], [])], [], 0)
noncomputable def yL367 : List (Nat × List sAp) := []
noncomputable def yP367 : List (sE × List Int) := []
theorem yS367 {gv : Nat → zH → Int} (hg : sGv yReg yGu gv) : ySum gv yQ367 := yOk hg (F := 500) (sp := yP367) (L := yL367) (Qs := []) (by decide +kernel) yNil
/-- X12_has None None None 10 2 -/
noncomputable def yQ368 : sQ := (128, ([], [(0, 0, (0, [])), (0, 1, (0, []))], [(10, 10), (2, 2)], [], [(0, 0), (1, 1)], (0, [])), [(some (0, (0, [])), [], [], [], [])], [], 0)
noncomputable def yL368 : List (Nat × List sAp) := []
noncomputable def yP368 : List (sE × List Int) := []
theorem yS368 {gv : Nat → zH → Int} (hg : sGv yReg yGu gv) : ySum gv yQ368 := yOk hg (F := 500) (sp := yP368) (L := yL368) (Qs := []) (by decide +kernel) yNil
/-- X12_has None None None 10 3 -/
noncomputable def yQ369 : sQ := (128, ([], [(0, 0, (0, [])), (0, 1, (0, []))], [(10, 10), (3, 3)], [], [(0, 0), (1, 1)], (0, [])), [(some (0, (1, [])), [], [], [], [])], [], 0)
noncomputable def yL369 : List (Nat × List sAp) := []
noncomputable def yP369 : List (sE × List Int) := []
theorem yS369 {gv : Nat → zH → Int} (hg : sGv yReg yGu gv) : ySum gv yQ369 := yOk hg (F := 500) (sp := yP369) (L := yL369) (Qs := []) (by decide +kernel) yNil
/-- X12_has None None None 10 4 -/
noncomputable def yQ370 : sQ := (128, ([], [(0, 0, (0, [])), (0, 1, (0, []))], [(10, 10), (4, 4)], [], [(0, 0), (1, 1)], (0, [])), [(some (0, (0, [])), [], [], [], [])], [], 0)
noncomputable def yL370 : List (Nat × List sAp) := []
noncomputable def yP370 : List (sE × List Int) := []
theorem yS370 {gv : Nat → zH → Int} (hg : sGv yReg yGu gv) : ySum gv yQ370 := yOk hg (F := 500) (sp := yP370) (L := yL370) (Qs := []) (by decide +kernel) yNil
/-- X12_has None None None 10 5 -/
noncomputable def yQ371 : sQ := (128, ([], [(0, 0, (0, [])), (0, 1, (0, []))], [(10, 10), (5, 5)], [], [(0, 0), (1, 1)], (0, [])), [(some (0, (0, [])), [], [], [], [])], [], 0)
noncomputable def yL371 : List (Nat × List sAp) := []
noncomputable def yP371 : List (sE × List Int) := []
theorem yS371 {gv : Nat → zH → Int} (hg : sGv yReg yGu gv) : ySum gv yQ371 := yOk hg (F := 500) (sp := yP371) (L := yL371) (Qs := []) (by decide +kernel) yNil
/-- X12_has None None None 11 0 -/
noncomputable def yQ372 : sQ := (128, ([], [(0, 0, (0, [])), (0, 1, (0, []))], [(11, 11), (0, 0)], [], [(0, 0), (1, 1)], (0, [])), [(some (0, (1, [])), [], [], [], [])], [], 0)
noncomputable def yL372 : List (Nat × List sAp) := []
noncomputable def yP372 : List (sE × List Int) := []
theorem yS372 {gv : Nat → zH → Int} (hg : sGv yReg yGu gv) : ySum gv yQ372 := yOk hg (F := 500) (sp := yP372) (L := yL372) (Qs := []) (by decide +kernel) yNil
/-- X12_has None None None 11 1 -/
noncomputable def yQ373 : sQ := (128, ([], [(0, 0, (0, [])), (0, 1, (0, []))], [(11, 11), (1, 1)], [], [(0, 0), (1, 1)], (0, [])), [(some (0, (1, [])), [], [], [], [])], [], 0)
noncomputable def yL373 : List (Nat × List sAp) := []
noncomputable def yP373 : List (sE × List Int) := []
theorem yS373 {gv : Nat → zH → Int} (hg : sGv yReg yGu gv) : ySum gv yQ373 := yOk hg (F := 500) (sp := yP373) (L := yL373) (Qs := []) (by decide +kernel) yNil
/-- X12_has None None None 11 2 -/
noncomputable def yQ374 : sQ := (128, ([], [(0, 0, (0, [])), (0, 1, (0, []))], [(11, 11), (2, 2)], [], [(0, 0), (1, 1)], (0, [])), [(some (0, (0, [])), [], [], [], [])], [], 0)
noncomputable def yL374 : List (Nat × List sAp) := []
noncomputable def yP374 : List (sE × List Int) := []
theorem yS374 {gv : Nat → zH → Int} (hg : sGv yReg yGu gv) : ySum gv yQ374 := yOk hg (F := 500) (sp := yP374) (L := yL374) (Qs := []) (by decide +kernel) yNil
/-- X12_has None None None 11 3 -/
noncomputable def yQ375 : sQ := (128, ([], [(0, 0, (0, [])), (0, 1, (0, []))], [(11, 11), (3, 3)], [], [(0, 0), (1, 1)], (0, [])), [(some (0, (1, [])), [], [], [], [])], [], 0)
noncomputable def yL375 : List (Nat × List sAp) := []
noncomputable def yP375 : List (sE × List Int) := []
theorem yS375 {gv : Nat → zH → Int} (hg : sGv yReg yGu gv) : ySum gv yQ375 := yOk hg (F := 500) (sp := yP375) (L := yL375) (Qs := []) (by decide +kernel) yNil
/-- X12_has None None None 11 4 -/
noncomputable def yQ376 : sQ := (128, ([], [(0, 0, (0, [])), (0, 1, (0, []))], [(11, 11), (4, 4)], [], [(0, 0), (1, 1)], (0, [])), [(some (0, (0, [])), [], [], [], [])], [], 0)
noncomputable def yL376 : List (Nat × List sAp) := []
noncomputable def yP376 : List (sE × List Int) := []
theorem yS376 {gv : Nat → zH → Int} (hg : sGv yReg yGu gv) : ySum gv yQ376 := yOk hg (F := 500) (sp := yP376) (L := yL376) (Qs := []) (by decide +kernel) yNil
/-- X12_has None None None 11 5 -/
noncomputable def yQ377 : sQ := (128, ([], [(0, 0, (0, [])), (0, 1, (0, []))], [(11, 11), (5, 5)], [], [(0, 0), (1, 1)], (0, [])), [(some (0, (0, [])), [], [], [], [])], [], 0)
noncomputable def yL377 : List (Nat × List sAp) := []
noncomputable def yP377 : List (sE × List Int) := []
theorem yS377 {gv : Nat → zH → Int} (hg : sGv yReg yGu gv) : ySum gv yQ377 := yOk hg (F := 500) (sp := yP377) (L := yL377) (Qs := []) (by decide +kernel) yNil
/-- X12_has None None None 12 0 -/
noncomputable def yQ378 : sQ := (128, ([], [(0, 0, (0, [])), (0, 1, (0, []))], [(12, 12), (0, 0)], [], [(0, 0), (1, 1)], (0, [])), [(some (0, (0, [])), [], [], [], [])], [], 0)
noncomputable def yL378 : List (Nat × List sAp) := []
noncomputable def yP378 : List (sE × List Int) := []
theorem yS378 {gv : Nat → zH → Int} (hg : sGv yReg yGu gv) : ySum gv yQ378 := yOk hg (F := 500) (sp := yP378) (L := yL378) (Qs := []) (by decide +kernel) yNil
/-- X12_has None None None 12 1 -/
noncomputable def yQ379 : sQ := (128, ([], [(0, 0, (0, [])), (0, 1, (0, []))], [(12, 12), (1, 1)], [], [(0, 0), (1, 1)], (0, [])), [(some (0, (0, [])), [], [], [], [])], [], 0)
noncomputable def yL379 : List (Nat × List sAp) := []
noncomputable def yP379 : List (sE × List Int) := []
theorem yS379 {gv : Nat → zH → Int} (hg : sGv yReg yGu gv) : ySum gv yQ379 := yOk hg (F := 500) (sp := yP379) (L := yL379) (Qs := []) (by decide +kernel) yNil
/-- X12_has None None None 12 2 -/
noncomputable def yQ380 : sQ := (128, ([], [(0, 0, (0, [])), (0, 1, (0, []))], [(12, 12), (2, 2)], [], [(0, 0), (1, 1)], (0, [])), [(some (0, (1, [])), [], [], [], [])], [], 0)
noncomputable def yL380 : List (Nat × List sAp) := []
noncomputable def yP380 : List (sE × List Int) := []
theorem yS380 {gv : Nat → zH → Int} (hg : sGv yReg yGu gv) : ySum gv yQ380 := yOk hg (F := 500) (sp := yP380) (L := yL380) (Qs := []) (by decide +kernel) yNil
/-- X12_has None None None 12 3 -/
noncomputable def yQ381 : sQ := (128, ([], [(0, 0, (0, [])), (0, 1, (0, []))], [(12, 12), (3, 3)], [], [(0, 0), (1, 1)], (0, [])), [(some (0, (1, [])), [], [], [], [])], [], 0)
noncomputable def yL381 : List (Nat × List sAp) := []
noncomputable def yP381 : List (sE × List Int) := []
theorem yS381 {gv : Nat → zH → Int} (hg : sGv yReg yGu gv) : ySum gv yQ381 := yOk hg (F := 500) (sp := yP381) (L := yL381) (Qs := []) (by decide +kernel) yNil
/-- X12_has None None None 12 4 -/
noncomputable def yQ382 : sQ := (128, ([], [(0, 0, (0, [])), (0, 1, (0, []))], [(12, 12), (4, 4)], [], [(0, 0), (1, 1)], (0, [])), [(some (0, (0, [])), [], [], [], [])], [], 0)
noncomputable def yL382 : List (Nat × List sAp) := []
noncomputable def yP382 : List (sE × List Int) := []
theorem yS382 {gv : Nat → zH → Int} (hg : sGv yReg yGu gv) : ySum gv yQ382 := yOk hg (F := 500) (sp := yP382) (L := yL382) (Qs := []) (by decide +kernel) yNil
/-- X12_has None None None 12 5 -/
noncomputable def yQ383 : sQ := (128, ([], [(0, 0, (0, [])), (0, 1, (0, []))], [(12, 12), (5, 5)], [], [(0, 0), (1, 1)], (0, [])), [(some (0, (0, [])), [], [], [], [])], [], 0)
noncomputable def yL383 : List (Nat × List sAp) := []
noncomputable def yP383 : List (sE × List Int) := []
theorem yS383 {gv : Nat → zH → Int} (hg : sGv yReg yGu gv) : ySum gv yQ383 := yOk hg (F := 500) (sp := yP383) (L := yL383) (Qs := []) (by decide +kernel) yNil
/-- X12_has None None None 13 0 -/
noncomputable def yQ384 : sQ := (128, ([], [(0, 0, (0, [])), (0, 1, (0, []))], [(13, 13), (0, 0)], [], [(0, 0), (1, 1)], (0, [])), [(some (0, (1, [])), [], [], [], [])], [], 0)
noncomputable def yL384 : List (Nat × List sAp) := []
noncomputable def yP384 : List (sE × List Int) := []
theorem yS384 {gv : Nat → zH → Int} (hg : sGv yReg yGu gv) : ySum gv yQ384 := yOk hg (F := 500) (sp := yP384) (L := yL384) (Qs := []) (by decide +kernel) yNil
/-- X12_has None None None 13 1 -/
noncomputable def yQ385 : sQ := (128, ([], [(0, 0, (0, [])), (0, 1, (0, []))], [(13, 13), (1, 1)], [], [(0, 0), (1, 1)], (0, [])), [(some (0, (0, [])), [], [], [], [])], [], 0)
noncomputable def yL385 : List (Nat × List sAp) := []
noncomputable def yP385 : List (sE × List Int) := []
theorem yS385 {gv : Nat → zH → Int} (hg : sGv yReg yGu gv) : ySum gv yQ385 := yOk hg (F := 500) (sp := yP385) (L := yL385) (Qs := []) (by decide +kernel) yNil
/-- X12_has None None None 13 2 -/
noncomputable def yQ386 : sQ := (128, ([], [(0, 0, (0, [])), (0, 1, (0, []))], [(13, 13), (2, 2)], [], [(0, 0), (1, 1)], (0, [])), [(some (0, (1, [])), [], [], [], [])], [], 0)
noncomputable def yL386 : List (Nat × List sAp) := []
noncomputable def yP386 : List (sE × List Int) := []
theorem yS386 {gv : Nat → zH → Int} (hg : sGv yReg yGu gv) : ySum gv yQ386 := yOk hg (F := 500) (sp := yP386) (L := yL386) (Qs := []) (by decide +kernel) yNil
/-- X12_has None None None 13 3 -/
noncomputable def yQ387 : sQ := (128, ([], [(0, 0, (0, [])), (0, 1, (0, []))], [(13, 13), (3, 3)], [], [(0, 0), (1, 1)], (0, [])), [(some (0, (1, [])), [], [], [], [])], [], 0)
noncomputable def yL387 : List (Nat × List sAp) := []
noncomputable def yP387 : List (sE × List Int) := []
theorem yS387 {gv : Nat → zH → Int} (hg : sGv yReg yGu gv) : ySum gv yQ387 := yOk hg (F := 500) (sp := yP387) (L := yL387) (Qs := []) (by decide +kernel) yNil
/-- X12_has None None None 13 4 -/
noncomputable def yQ388 : sQ := (128, ([], [(0, 0, (0, [])), (0, 1, (0, []))], [(13, 13), (4, 4)], [], [(0, 0), (1, 1)], (0, [])), [(some (0, (0, [])), [], [], [], [])], [], 0)
noncomputable def yL388 : List (Nat × List sAp) := []
noncomputable def yP388 : List (sE × List Int) := []
theorem yS388 {gv : Nat → zH → Int} (hg : sGv yReg yGu gv) : ySum gv yQ388 := yOk hg (F := 500) (sp := yP388) (L := yL388) (Qs := []) (by decide +kernel) yNil
/-- X12_has None None None 13 5 -/
noncomputable def yQ389 : sQ := (128, ([], [(0, 0, (0, [])), (0, 1, (0, []))], [(13, 13), (5, 5)], [], [(0, 0), (1, 1)], (0, [])), [(some (0, (0, [])), [], [], [], [])], [], 0)
noncomputable def yL389 : List (Nat × List sAp) := []
noncomputable def yP389 : List (sE × List Int) := []
theorem yS389 {gv : Nat → zH → Int} (hg : sGv yReg yGu gv) : ySum gv yQ389 := yOk hg (F := 500) (sp := yP389) (L := yL389) (Qs := []) (by decide +kernel) yNil
/-- X12_has None None None 14 0 -/
noncomputable def yQ390 : sQ := (128, ([], [(0, 0, (0, [])), (0, 1, (0, []))], [(14, 14), (0, 0)], [], [(0, 0), (1, 1)], (0, [])), [(some (0, (0, [])), [], [], [], [])], [], 0)
noncomputable def yL390 : List (Nat × List sAp) := []
noncomputable def yP390 : List (sE × List Int) := []
theorem yS390 {gv : Nat → zH → Int} (hg : sGv yReg yGu gv) : ySum gv yQ390 := yOk hg (F := 500) (sp := yP390) (L := yL390) (Qs := []) (by decide +kernel) yNil
/-- X12_has None None None 14 1 -/
noncomputable def yQ391 : sQ := (128, ([], [(0, 0, (0, [])), (0, 1, (0, []))], [(14, 14), (1, 1)], [], [(0, 0), (1, 1)], (0, [])), [(some (0, (1, [])), [], [], [], [])], [], 0)
noncomputable def yL391 : List (Nat × List sAp) := []
noncomputable def yP391 : List (sE × List Int) := []
theorem yS391 {gv : Nat → zH → Int} (hg : sGv yReg yGu gv) : ySum gv yQ391 := yOk hg (F := 500) (sp := yP391) (L := yL391) (Qs := []) (by decide +kernel) yNil
/-- X12_has None None None 14 2 -/
noncomputable def yQ392 : sQ := (128, ([], [(0, 0, (0, [])), (0, 1, (0, []))], [(14, 14), (2, 2)], [], [(0, 0), (1, 1)], (0, [])), [(some (0, (1, [])), [], [], [], [])], [], 0)
noncomputable def yL392 : List (Nat × List sAp) := []
noncomputable def yP392 : List (sE × List Int) := []
theorem yS392 {gv : Nat → zH → Int} (hg : sGv yReg yGu gv) : ySum gv yQ392 := yOk hg (F := 500) (sp := yP392) (L := yL392) (Qs := []) (by decide +kernel) yNil
/-- X12_has None None None 14 3 -/
noncomputable def yQ393 : sQ := (128, ([], [(0, 0, (0, [])), (0, 1, (0, []))], [(14, 14), (3, 3)], [], [(0, 0), (1, 1)], (0, [])), [(some (0, (1, [])), [], [], [], [])], [], 0)
noncomputable def yL393 : List (Nat × List sAp) := []
noncomputable def yP393 : List (sE × List Int) := []
theorem yS393 {gv : Nat → zH → Int} (hg : sGv yReg yGu gv) : ySum gv yQ393 := yOk hg (F := 500) (sp := yP393) (L := yL393) (Qs := []) (by decide +kernel) yNil
/-- X12_has None None None 14 4 -/
noncomputable def yQ394 : sQ := (128, ([], [(0, 0, (0, [])), (0, 1, (0, []))], [(14, 14), (4, 4)], [], [(0, 0), (1, 1)], (0, [])), [(some (0, (0, [])), [], [], [], [])], [], 0)
noncomputable def yL394 : List (Nat × List sAp) := []
noncomputable def yP394 : List (sE × List Int) := []
theorem yS394 {gv : Nat → zH → Int} (hg : sGv yReg yGu gv) : ySum gv yQ394 := yOk hg (F := 500) (sp := yP394) (L := yL394) (Qs := []) (by decide +kernel) yNil
/-- X12_has None None None 14 5 -/
noncomputable def yQ395 : sQ := (128, ([], [(0, 0, (0, [])), (0, 1, (0, []))], [(14, 14), (5, 5)], [], [(0, 0), (1, 1)], (0, [])), [(some (0, (0, [])), [], [], [], [])], [], 0)
noncomputable def yL395 : List (Nat × List sAp) := []
noncomputable def yP395 : List (sE × List Int) := []
theorem yS395 {gv : Nat → zH → Int} (hg : sGv yReg yGu gv) : ySum gv yQ395 := yOk hg (F := 500) (sp := yP395) (L := yL395) (Qs := []) (by decide +kernel) yNil
/-- X12_has None None None 15 0 -/
noncomputable def yQ396 : sQ := (128, ([], [(0, 0, (0, [])), (0, 1, (0, []))], [(15, 15), (0, 0)], [], [(0, 0), (1, 1)], (0, [])), [(some (0, (1, [])), [], [], [], [])], [], 0)
noncomputable def yL396 : List (Nat × List sAp) := []
noncomputable def yP396 : List (sE × List Int) := []
theorem yS396 {gv : Nat → zH → Int} (hg : sGv yReg yGu gv) : ySum gv yQ396 := yOk hg (F := 500) (sp := yP396) (L := yL396) (Qs := []) (by decide +kernel) yNil
/-- X12_has None None None 15 1 -/
noncomputable def yQ397 : sQ := (128, ([], [(0, 0, (0, [])), (0, 1, (0, []))], [(15, 15), (1, 1)], [], [(0, 0), (1, 1)], (0, [])), [(some (0, (1, [])), [], [], [], [])], [], 0)
noncomputable def yL397 : List (Nat × List sAp) := []
noncomputable def yP397 : List (sE × List Int) := []
theorem yS397 {gv : Nat → zH → Int} (hg : sGv yReg yGu gv) : ySum gv yQ397 := yOk hg (F := 500) (sp := yP397) (L := yL397) (Qs := []) (by decide +kernel) yNil
/-- X12_has None None None 15 2 -/
noncomputable def yQ398 : sQ := (128, ([], [(0, 0, (0, [])), (0, 1, (0, []))], [(15, 15), (2, 2)], [], [(0, 0), (1, 1)], (0, [])), [(some (0, (1, [])), [], [], [], [])], [], 0)
noncomputable def yL398 : List (Nat × List sAp) := []
noncomputable def yP398 : List (sE × List Int) := []
theorem yS398 {gv : Nat → zH → Int} (hg : sGv yReg yGu gv) : ySum gv yQ398 := yOk hg (F := 500) (sp := yP398) (L := yL398) (Qs := []) (by decide +kernel) yNil
/-- X12_has None None None 15 3 -/
noncomputable def yQ399 : sQ := (128, ([], [(0, 0, (0, [])), (0, 1, (0, []))], [(15, 15), (3, 3)], [], [(0, 0), (1, 1)], (0, [])), [(some (0, (1, [])), [], [], [], [])], [], 0)
noncomputable def yL399 : List (Nat × List sAp) := []
noncomputable def yP399 : List (sE × List Int) := []
theorem yS399 {gv : Nat → zH → Int} (hg : sGv yReg yGu gv) : ySum gv yQ399 := yOk hg (F := 500) (sp := yP399) (L := yL399) (Qs := []) (by decide +kernel) yNil
/-- X12_has None None None 15 4 -/
noncomputable def yQ400 : sQ := (128, ([], [(0, 0, (0, [])), (0, 1, (0, []))], [(15, 15), (4, 4)], [], [(0, 0), (1, 1)], (0, [])), [(some (0, (0, [])), [], [], [], [])], [], 0)
noncomputable def yL400 : List (Nat × List sAp) := []
noncomputable def yP400 : List (sE × List Int) := []
theorem yS400 {gv : Nat → zH → Int} (hg : sGv yReg yGu gv) : ySum gv yQ400 := yOk hg (F := 500) (sp := yP400) (L := yL400) (Qs := []) (by decide +kernel) yNil
/-- X12_has None None None 15 5 -/
noncomputable def yQ401 : sQ := (128, ([], [(0, 0, (0, [])), (0, 1, (0, []))], [(15, 15), (5, 5)], [], [(0, 0), (1, 1)], (0, [])), [(some (0, (0, [])), [], [], [], [])], [], 0)
noncomputable def yL401 : List (Nat × List sAp) := []
noncomputable def yP401 : List (sE × List Int) := []
theorem yS401 {gv : Nat → zH → Int} (hg : sGv yReg yGu gv) : ySum gv yQ401 := yOk hg (F := 500) (sp := yP401) (L := yL401) (Qs := []) (by decide +kernel) yNil
/-- X12_has None None None 16 0 -/
noncomputable def yQ402 : sQ := (128, ([], [(0, 0, (0, [])), (0, 1, (0, []))], [(16, 16), (0, 0)], [], [(0, 0), (1, 1)], (0, [])), [(some (0, (0, [])), [], [], [], [])], [], 0)
noncomputable def yL402 : List (Nat × List sAp) := []
noncomputable def yP402 : List (sE × List Int) := []
theorem yS402 {gv : Nat → zH → Int} (hg : sGv yReg yGu gv) : ySum gv yQ402 := yOk hg (F := 500) (sp := yP402) (L := yL402) (Qs := []) (by decide +kernel) yNil
/-- X12_has None None None 16 1 -/
noncomputable def yQ403 : sQ := (128, ([], [(0, 0, (0, [])), (0, 1, (0, []))], [(16, 16), (1, 1)], [], [(0, 0), (1, 1)], (0, [])), [(some (0, (0, [])), [], [], [], [])], [], 0)
noncomputable def yL403 : List (Nat × List sAp) := []
noncomputable def yP403 : List (sE × List Int) := []
theorem yS403 {gv : Nat → zH → Int} (hg : sGv yReg yGu gv) : ySum gv yQ403 := yOk hg (F := 500) (sp := yP403) (L := yL403) (Qs := []) (by decide +kernel) yNil
/-- X12_has None None None 16 2 -/
noncomputable def yQ404 : sQ := (128, ([], [(0, 0, (0, [])), (0, 1, (0, []))], [(16, 16), (2, 2)], [], [(0, 0), (1, 1)], (0, [])), [(some (0, (0, [])), [], [], [], [])], [], 0)
noncomputable def yL404 : List (Nat × List sAp) := []
noncomputable def yP404 : List (sE × List Int) := []
theorem yS404 {gv : Nat → zH → Int} (hg : sGv yReg yGu gv) : ySum gv yQ404 := yOk hg (F := 500) (sp := yP404) (L := yL404) (Qs := []) (by decide +kernel) yNil
/-- X12_has None None None 16 3 -/
noncomputable def yQ405 : sQ := (128, ([], [(0, 0, (0, [])), (0, 1, (0, []))], [(16, 16), (3, 3)], [], [(0, 0), (1, 1)], (0, [])), [(some (0, (0, [])), [], [], [], [])], [], 0)
noncomputable def yL405 : List (Nat × List sAp) := []
noncomputable def yP405 : List (sE × List Int) := []
theorem yS405 {gv : Nat → zH → Int} (hg : sGv yReg yGu gv) : ySum gv yQ405 := yOk hg (F := 500) (sp := yP405) (L := yL405) (Qs := []) (by decide +kernel) yNil
/-- X12_has None None None 16 4 -/
noncomputable def yQ406 : sQ := (128, ([], [(0, 0, (0, [])), (0, 1, (0, []))], [(16, 16), (4, 4)], [], [(0, 0), (1, 1)], (0, [])), [(some (0, (1, [])), [], [], [], [])], [], 0)
noncomputable def yL406 : List (Nat × List sAp) := []
noncomputable def yP406 : List (sE × List Int) := []
theorem yS406 {gv : Nat → zH → Int} (hg : sGv yReg yGu gv) : ySum gv yQ406 := yOk hg (F := 500) (sp := yP406) (L := yL406) (Qs := []) (by decide +kernel) yNil
/-- X12_has None None None 16 5 -/
noncomputable def yQ407 : sQ := (128, ([], [(0, 0, (0, [])), (0, 1, (0, []))], [(16, 16), (5, 5)], [], [(0, 0), (1, 1)], (0, [])), [(some (0, (0, [])), [], [], [], [])], [], 0)
noncomputable def yL407 : List (Nat × List sAp) := []
noncomputable def yP407 : List (sE × List Int) := []
theorem yS407 {gv : Nat → zH → Int} (hg : sGv yReg yGu gv) : ySum gv yQ407 := yOk hg (F := 500) (sp := yP407) (L := yL407) (Qs := []) (by decide +kernel) yNil
/-- X12_has None None None 17 0 -/
noncomputable def yQ408 : sQ := (128, ([], [(0, 0, (0, [])), (0, 1, (0, []))], [(17, 17), (0, 0)], [], [(0, 0), (1, 1)], (0, [])), [(some (0, (1, [])), [], [], [], [])], [], 0)
noncomputable def yL408 : List (Nat × List sAp) := []
noncomputable def yP408 : List (sE × List Int) := []
theorem yS408 {gv : Nat → zH → Int} (hg : sGv yReg yGu gv) : ySum gv yQ408 := yOk hg (F := 500) (sp := yP408) (L := yL408) (Qs := []) (by decide +kernel) yNil
/-- X12_has None None None 17 1 -/
noncomputable def yQ409 : sQ := (128, ([], [(0, 0, (0, [])), (0, 1, (0, []))], [(17, 17), (1, 1)], [], [(0, 0), (1, 1)], (0, [])), [(some (0, (0, [])), [], [], [], [])], [], 0)
noncomputable def yL409 : List (Nat × List sAp) := []
noncomputable def yP409 : List (sE × List Int) := []
theorem yS409 {gv : Nat → zH → Int} (hg : sGv yReg yGu gv) : ySum gv yQ409 := yOk hg (F := 500) (sp := yP409) (L := yL409) (Qs := []) (by decide +kernel) yNil
/-- X12_has None None None 17 2 -/
noncomputable def yQ410 : sQ := (128, ([], [(0, 0, (0, [])), (0, 1, (0, []))], [(17, 17), (2, 2)], [], [(0, 0), (1, 1)], (0, [])), [(some (0, (0, [])), [], [], [], [])], [], 0)
noncomputable def yL410 : List (Nat × List sAp) := []
noncomputable def yP410 : List (sE × List Int) := []
theorem yS410 {gv : Nat → zH → Int} (hg : sGv yReg yGu gv) : ySum gv yQ410 := yOk hg (F := 500) (sp := yP410) (L := yL410) (Qs := []) (by decide +kernel) yNil
/-- X12_has None None None 17 3 -/
noncomputable def yQ411 : sQ := (128, ([], [(0, 0, (0, [])), (0, 1, (0, []))], [(17, 17), (3, 3)], [], [(0, 0), (1, 1)], (0, [])), [(some (0, (0, [])), [], [], [], [])], [], 0)
noncomputable def yL411 : List (Nat × List sAp) := []
noncomputable def yP411 : List (sE × List Int) := []
theorem yS411 {gv : Nat → zH → Int} (hg : sGv yReg yGu gv) : ySum gv yQ411 := yOk hg (F := 500) (sp := yP411) (L := yL411) (Qs := []) (by decide +kernel) yNil
/-- X12_has None None None 17 4 -/
noncomputable def yQ412 : sQ := (128, ([], [(0, 0, (0, [])), (0, 1, (0, []))], [(17, 17), (4, 4)], [], [(0, 0), (1, 1)], (0, [])), [(some (0, (1, [])), [], [], [], [])], [], 0)
noncomputable def yL412 : List (Nat × List sAp) := []
noncomputable def yP412 : List (sE × List Int) := []
theorem yS412 {gv : Nat → zH → Int} (hg : sGv yReg yGu gv) : ySum gv yQ412 := yOk hg (F := 500) (sp := yP412) (L := yL412) (Qs := []) (by decide +kernel) yNil
/-- X12_has None None None 17 5 -/
noncomputable def yQ413 : sQ := (128, ([], [(0, 0, (0, [])), (0, 1, (0, []))], [(17, 17), (5, 5)], [], [(0, 0), (1, 1)], (0, [])), [(some (0, (0, [])), [], [], [], [])], [], 0)
noncomputable def yL413 : List (Nat × List sAp) := []
noncomputable def yP413 : List (sE × List Int) := []
theorem yS413 {gv : Nat → zH → Int} (hg : sGv yReg yGu gv) : ySum gv yQ413 := yOk hg (F := 500) (sp := yP413) (L := yL413) (Qs := []) (by decide +kernel) yNil
/-- X12_has None None None 18 0 -/
noncomputable def yQ414 : sQ := (128, ([], [(0, 0, (0, [])), (0, 1, (0, []))], [(18, 18), (0, 0)], [], [(0, 0), (1, 1)], (0, [])), [(some (0, (0, [])), [], [], [], [])], [], 0)
noncomputable def yL414 : List (Nat × List sAp) := []
noncomputable def yP414 : List (sE × List Int) := []
theorem yS414 {gv : Nat → zH → Int} (hg : sGv yReg yGu gv) : ySum gv yQ414 := yOk hg (F := 500) (sp := yP414) (L := yL414) (Qs := []) (by decide +kernel) yNil
/-- X12_has None None None 18 1 -/
noncomputable def yQ415 : sQ := (128, ([], [(0, 0, (0, [])), (0, 1, (0, []))], [(18, 18), (1, 1)], [], [(0, 0), (1, 1)], (0, [])), [(some (0, (1, [])), [], [], [], [])], [], 0)
noncomputable def yL415 : List (Nat × List sAp) := []
noncomputable def yP415 : List (sE × List Int) := []
theorem yS415 {gv : Nat → zH → Int} (hg : sGv yReg yGu gv) : ySum gv yQ415 := yOk hg (F := 500) (sp := yP415) (L := yL415) (Qs := []) (by decide +kernel) yNil
/-- X12_has None None None 18 2 -/
noncomputable def yQ416 : sQ := (128, ([], [(0, 0, (0, [])), (0, 1, (0, []))], [(18, 18), (2, 2)], [], [(0, 0), (1, 1)], (0, [])), [(some (0, (0, [])), [], [], [], [])], [], 0)
noncomputable def yL416 : List (Nat × List sAp) := []
noncomputable def yP416 : List (sE × List Int) := []
theorem yS416 {gv : Nat → zH → Int} (hg : sGv yReg yGu gv) : ySum gv yQ416 := yOk hg (F := 500) (sp := yP416) (L := yL416) (Qs := []) (by decide +kernel) yNil
/-- X12_has None None None 18 3 -/
noncomputable def yQ417 : sQ := (128, ([], [(0, 0, (0, [])), (0, 1, (0, []))], [(18, 18), (3, 3)], [], [(0, 0), (1, 1)], (0, [])), [(some (0, (0, [])), [], [], [], [])], [], 0)
noncomputable def yL417 : List (Nat × List sAp) := []
noncomputable def yP417 : List (sE × List Int) := []
theorem yS417 {gv : Nat → zH → Int} (hg : sGv yReg yGu gv) : ySum gv yQ417 := yOk hg (F := 500) (sp := yP417) (L := yL417) (Qs := []) (by decide +kernel) yNil
/-- X12_has None None None 18 4 -/
noncomputable def yQ418 : sQ := (128, ([], [(0, 0, (0, [])), (0, 1, (0, []))], [(18, 18), (4, 4)], [], [(0, 0), (1, 1)], (0, [])), [(some (0, (1, [])), [], [], [], [])], [], 0)
noncomputable def yL418 : List (Nat × List sAp) := []
noncomputable def yP418 : List (sE × List Int) := []
theorem yS418 {gv : Nat → zH → Int} (hg : sGv yReg yGu gv) : ySum gv yQ418 := yOk hg (F := 500) (sp := yP418) (L := yL418) (Qs := []) (by decide +kernel) yNil
/-- X12_has None None None 18 5 -/
noncomputable def yQ419 : sQ := (128, ([], [(0, 0, (0, [])), (0, 1, (0, []))], [(18, 18), (5, 5)], [], [(0, 0), (1, 1)], (0, [])), [(some (0, (0, [])), [], [], [], [])], [], 0)
noncomputable def yL419 : List (Nat × List sAp) := []
noncomputable def yP419 : List (sE × List Int) := []
theorem yS419 {gv : Nat → zH → Int} (hg : sGv yReg yGu gv) : ySum gv yQ419 := yOk hg (F := 500) (sp := yP419) (L := yL419) (Qs := []) (by decide +kernel) yNil
/-- X12_has None None None 19 0 -/
noncomputable def yQ420 : sQ := (128, ([], [(0, 0, (0, [])), (0, 1, (0, []))], [(19, 19), (0, 0)], [], [(0, 0), (1, 1)], (0, [])), [(some (0, (1, [])), [], [], [], [])], [], 0)
noncomputable def yL420 : List (Nat × List sAp) := []
noncomputable def yP420 : List (sE × List Int) := []
theorem yS420 {gv : Nat → zH → Int} (hg : sGv yReg yGu gv) : ySum gv yQ420 := yOk hg (F := 500) (sp := yP420) (L := yL420) (Qs := []) (by decide +kernel) yNil
/-- X12_has None None None 19 1 -/
noncomputable def yQ421 : sQ := (128, ([], [(0, 0, (0, [])), (0, 1, (0, []))], [(19, 19), (1, 1)], [], [(0, 0), (1, 1)], (0, [])), [(some (0, (1, [])), [], [], [], [])], [], 0)
noncomputable def yL421 : List (Nat × List sAp) := []
noncomputable def yP421 : List (sE × List Int) := []
theorem yS421 {gv : Nat → zH → Int} (hg : sGv yReg yGu gv) : ySum gv yQ421 := yOk hg (F := 500) (sp := yP421) (L := yL421) (Qs := []) (by decide +kernel) yNil
/-- X12_has None None None 19 2 -/
noncomputable def yQ422 : sQ := (128, ([], [(0, 0, (0, [])), (0, 1, (0, []))], [(19, 19), (2, 2)], [], [(0, 0), (1, 1)], (0, [])), [(some (0, (0, [])), [], [], [], [])], [], 0)
noncomputable def yL422 : List (Nat × List sAp) := []
noncomputable def yP422 : List (sE × List Int) := []
theorem yS422 {gv : Nat → zH → Int} (hg : sGv yReg yGu gv) : ySum gv yQ422 := yOk hg (F := 500) (sp := yP422) (L := yL422) (Qs := []) (by decide +kernel) yNil
/-- X12_has None None None 19 3 -/
noncomputable def yQ423 : sQ := (128, ([], [(0, 0, (0, [])), (0, 1, (0, []))], [(19, 19), (3, 3)], [], [(0, 0), (1, 1)], (0, [])), [(some (0, (0, [])), [], [], [], [])], [], 0)
noncomputable def yL423 : List (Nat × List sAp) := []
noncomputable def yP423 : List (sE × List Int) := []
theorem yS423 {gv : Nat → zH → Int} (hg : sGv yReg yGu gv) : ySum gv yQ423 := yOk hg (F := 500) (sp := yP423) (L := yL423) (Qs := []) (by decide +kernel) yNil
/-- X12_has None None None 19 4 -/
noncomputable def yQ424 : sQ := (128, ([], [(0, 0, (0, [])), (0, 1, (0, []))], [(19, 19), (4, 4)], [], [(0, 0), (1, 1)], (0, [])), [(some (0, (1, [])), [], [], [], [])], [], 0)
noncomputable def yL424 : List (Nat × List sAp) := []
noncomputable def yP424 : List (sE × List Int) := []
theorem yS424 {gv : Nat → zH → Int} (hg : sGv yReg yGu gv) : ySum gv yQ424 := yOk hg (F := 500) (sp := yP424) (L := yL424) (Qs := []) (by decide +kernel) yNil
/-- X12_has None None None 19 5 -/
noncomputable def yQ425 : sQ := (128, ([], [(0, 0, (0, [])), (0, 1, (0, []))], [(19, 19), (5, 5)], [], [(0, 0), (1, 1)], (0, [])), [(some (0, (0, [])), [], [], [], [])], [], 0)
noncomputable def yL425 : List (Nat × List sAp) := []
noncomputable def yP425 : List (sE × List Int) := []
theorem yS425 {gv : Nat → zH → Int} (hg : sGv yReg yGu gv) : ySum gv yQ425 := yOk hg (F := 500) (sp := yP425) (L := yL425) (Qs := []) (by decide +kernel) yNil
/-- X12_has None None None 2 0 -/
noncomputable def yQ426 : sQ := (128, ([], [(0, 0, (0, [])), (0, 1, (0, []))], [(2, 2), (0, 0)], [], [(0, 0), (1, 1)], (0, [])), [(some (0, (0, [])), [], [], [], [])], [], 0)
noncomputable def yL426 : List (Nat × List sAp) := []
noncomputable def yP426 : List (sE × List Int) := []
theorem yS426 {gv : Nat → zH → Int} (hg : sGv yReg yGu gv) : ySum gv yQ426 := yOk hg (F := 500) (sp := yP426) (L := yL426) (Qs := []) (by decide +kernel) yNil
/-- X12_has None None None 2 1 -/
noncomputable def yQ427 : sQ := (128, ([], [(0, 0, (0, [])), (0, 1, (0, []))], [(2, 2), (1, 1)], [], [(0, 0), (1, 1)], (0, [])), [(some (0, (1, [])), [], [], [], [])], [], 0)
noncomputable def yL427 : List (Nat × List sAp) := []
noncomputable def yP427 : List (sE × List Int) := []
theorem yS427 {gv : Nat → zH → Int} (hg : sGv yReg yGu gv) : ySum gv yQ427 := yOk hg (F := 500) (sp := yP427) (L := yL427) (Qs := []) (by decide +kernel) yNil
/-- X12_has None None None 2 2 -/
noncomputable def yQ428 : sQ := (128, ([], [(0, 0, (0, [])), (0, 1, (0, []))], [(2, 2), (2, 2)], [], [(0, 0), (1, 1)], (0, [])), [(some (0, (0, [])), [], [], [], [])], [], 0)
noncomputable def yL428 : List (Nat × List sAp) := []
noncomputable def yP428 : List (sE × List Int) := []
theorem yS428 {gv : Nat → zH → Int} (hg : sGv yReg yGu gv) : ySum gv yQ428 := yOk hg (F := 500) (sp := yP428) (L := yL428) (Qs := []) (by decide +kernel) yNil
/-- X12_has None None None 2 3 -/
noncomputable def yQ429 : sQ := (128, ([], [(0, 0, (0, [])), (0, 1, (0, []))], [(2, 2), (3, 3)], [], [(0, 0), (1, 1)], (0, [])), [(some (0, (0, [])), [], [], [], [])], [], 0)
noncomputable def yL429 : List (Nat × List sAp) := []
noncomputable def yP429 : List (sE × List Int) := []
theorem yS429 {gv : Nat → zH → Int} (hg : sGv yReg yGu gv) : ySum gv yQ429 := yOk hg (F := 500) (sp := yP429) (L := yL429) (Qs := []) (by decide +kernel) yNil
/-- X12_has None None None 2 4 -/
noncomputable def yQ430 : sQ := (128, ([], [(0, 0, (0, [])), (0, 1, (0, []))], [(2, 2), (4, 4)], [], [(0, 0), (1, 1)], (0, [])), [(some (0, (0, [])), [], [], [], [])], [], 0)
noncomputable def yL430 : List (Nat × List sAp) := []
noncomputable def yP430 : List (sE × List Int) := []
theorem yS430 {gv : Nat → zH → Int} (hg : sGv yReg yGu gv) : ySum gv yQ430 := yOk hg (F := 500) (sp := yP430) (L := yL430) (Qs := []) (by decide +kernel) yNil
/-- X12_has None None None 2 5 -/
noncomputable def yQ431 : sQ := (128, ([], [(0, 0, (0, [])), (0, 1, (0, []))], [(2, 2), (5, 5)], [], [(0, 0), (1, 1)], (0, [])), [(some (0, (0, [])), [], [], [], [])], [], 0)
noncomputable def yL431 : List (Nat × List sAp) := []
noncomputable def yP431 : List (sE × List Int) := []
theorem yS431 {gv : Nat → zH → Int} (hg : sGv yReg yGu gv) : ySum gv yQ431 := yOk hg (F := 500) (sp := yP431) (L := yL431) (Qs := []) (by decide +kernel) yNil
/-- X12_has None None None 20 0 -/
noncomputable def yQ432 : sQ := (128, ([], [(0, 0, (0, [])), (0, 1, (0, []))], [(20, 20), (0, 0)], [], [(0, 0), (1, 1)], (0, [])), [(some (0, (0, [])), [], [], [], [])], [], 0)
noncomputable def yL432 : List (Nat × List sAp) := []
noncomputable def yP432 : List (sE × List Int) := []
theorem yS432 {gv : Nat → zH → Int} (hg : sGv yReg yGu gv) : ySum gv yQ432 := yOk hg (F := 500) (sp := yP432) (L := yL432) (Qs := []) (by decide +kernel) yNil
/-- X12_has None None None 20 1 -/
noncomputable def yQ433 : sQ := (128, ([], [(0, 0, (0, [])), (0, 1, (0, []))], [(20, 20), (1, 1)], [], [(0, 0), (1, 1)], (0, [])), [(some (0, (0, [])), [], [], [], [])], [], 0)
noncomputable def yL433 : List (Nat × List sAp) := []
noncomputable def yP433 : List (sE × List Int) := []
theorem yS433 {gv : Nat → zH → Int} (hg : sGv yReg yGu gv) : ySum gv yQ433 := yOk hg (F := 500) (sp := yP433) (L := yL433) (Qs := []) (by decide +kernel) yNil
/-- X12_has None None None 20 2 -/
noncomputable def yQ434 : sQ := (128, ([], [(0, 0, (0, [])), (0, 1, (0, []))], [(20, 20), (2, 2)], [], [(0, 0), (1, 1)], (0, [])), [(some (0, (1, [])), [], [], [], [])], [], 0)
noncomputable def yL434 : List (Nat × List sAp) := []
noncomputable def yP434 : List (sE × List Int) := []
theorem yS434 {gv : Nat → zH → Int} (hg : sGv yReg yGu gv) : ySum gv yQ434 := yOk hg (F := 500) (sp := yP434) (L := yL434) (Qs := []) (by decide +kernel) yNil
/-- X12_has None None None 20 3 -/
noncomputable def yQ435 : sQ := (128, ([], [(0, 0, (0, [])), (0, 1, (0, []))], [(20, 20), (3, 3)], [], [(0, 0), (1, 1)], (0, [])), [(some (0, (0, [])), [], [], [], [])], [], 0)
noncomputable def yL435 : List (Nat × List sAp) := []
noncomputable def yP435 : List (sE × List Int) := []
theorem yS435 {gv : Nat → zH → Int} (hg : sGv yReg yGu gv) : ySum gv yQ435 := yOk hg (F := 500) (sp := yP435) (L := yL435) (Qs := []) (by decide +kernel) yNil
/-- X12_has None None None 20 4 -/
noncomputable def yQ436 : sQ := (128, ([], [(0, 0, (0, [])), (0, 1, (0, []))], [(20, 20), (4, 4)], [], [(0, 0), (1, 1)], (0, [])), [(some (0, (1, [])), [], [], [], [])], [], 0)
noncomputable def yL436 : List (Nat × List sAp) := []
noncomputable def yP436 : List (sE × List Int) := []
theorem yS436 {gv : Nat → zH → Int} (hg : sGv yReg yGu gv) : ySum gv yQ436 := yOk hg (F := 500) (sp := yP436) (L := yL436) (Qs := []) (by decide +kernel) yNil
/-- X12_has None None None 20 5 -/
noncomputable def yQ437 : sQ := (128, ([], [(0, 0, (0, [])), (0, 1, (0, []))], [(20, 20), (5, 5)], [], [(0, 0), (1, 1)], (0, [])), [(some (0, (0, [])), [], [], [], [])], [], 0)
noncomputable def yL437 : List (Nat × List sAp) := []
noncomputable def yP437 : List (sE × List Int) := []
theorem yS437 {gv : Nat → zH → Int} (hg : sGv yReg yGu gv) : ySum gv yQ437 := yOk hg (F := 500) (sp := yP437) (L := yL437) (Qs := []) (by decide +kernel) yNil
/-- X12_has None None None 21 0 -/
noncomputable def yQ438 : sQ := (128, ([], [(0, 0, (0, [])), (0, 1, (0, []))], [(21, 21), (0, 0)], [], [(0, 0), (1, 1)], (0, [])), [(some (0, (1, [])), [], [], [], [])], [], 0)
noncomputable def yL438 : List (Nat × List sAp) := []
noncomputable def yP438 : List (sE × List Int) := []
theorem yS438 {gv : Nat → zH → Int} (hg : sGv yReg yGu gv) : ySum gv yQ438 := yOk hg (F := 500) (sp := yP438) (L := yL438) (Qs := []) (by decide +kernel) yNil
/-- X12_has None None None 21 1 -/
noncomputable def yQ439 : sQ := (128, ([], [(0, 0, (0, [])), (0, 1, (0, []))], [(21, 21), (1, 1)], [], [(0, 0), (1, 1)], (0, [])), [(some (0, (0, [])), [], [], [], [])], [], 0)
noncomputable def yL439 : List (Nat × List sAp) := []
noncomputable def yP439 : List (sE × List Int) := []
theorem yS439 {gv : Nat → zH → Int} (hg : sGv yReg yGu gv) : ySum gv yQ439 := yOk hg (F := 500) (sp := yP439) (L := yL439) (Qs := []) (by decide +kernel) yNil
/-- X12_has None None None 21 2 -/
noncomputable def yQ440 : sQ := (128, ([], [(0, 0, (0, [])), (0, 1, (0, []))], [(21, 21), (2, 2)], [], [(0, 0), (1, 1)], (0, [])), [(some (0, (1, [])), [], [], [], [])], [], 0)
noncomputable def yL440 : List (Nat × List sAp) := []
noncomputable def yP440 : List (sE × List Int) := []
theorem yS440 {gv : Nat → zH → Int} (hg : sGv yReg yGu gv) : ySum gv yQ440 := yOk hg (F := 500) (sp := yP440) (L := yL440) (Qs := []) (by decide +kernel) yNil
/-- X12_has None None None 21 3 -/
noncomputable def yQ441 : sQ := (128, ([], [(0, 0, (0, [])), (0, 1, (0, []))], [(21, 21), (3, 3)], [], [(0, 0), (1, 1)], (0, [])), [(some (0, (0, [])), [], [], [], [])], [], 0)
noncomputable def yL441 : List (Nat × List sAp) := []
noncomputable def yP441 : List (sE × List Int) := []
theorem yS441 {gv : Nat → zH → Int} (hg : sGv yReg yGu gv) : ySum gv yQ441 := yOk hg (F := 500) (sp := yP441) (L := yL441) (Qs := []) (by decide +kernel) yNil
/-- X12_has None None None 21 4 -/
noncomputable def yQ442 : sQ := (128, ([], [(0, 0, (0, [])), (0, 1, (0, []))], [(21, 21), (4, 4)], [], [(0, 0), (1, 1)], (0, [])), [(some (0, (1, [])), [], [], [], [])], [], 0)
noncomputable def yL442 : List (Nat × List sAp) := []
noncomputable def yP442 : List (sE × List Int) := []
theorem yS442 {gv : Nat → zH → Int} (hg : sGv yReg yGu gv) : ySum gv yQ442 := yOk hg (F := 500) (sp := yP442) (L := yL442) (Qs := []) (by decide +kernel) yNil
/-- X12_has None None None 21 5 -/
noncomputable def yQ443 : sQ := (128, ([], [(0, 0, (0, [])), (0, 1, (0, []))], [(21, 21), (5, 5)], [], [(0, 0), (1, 1)], (0, [])), [(some (0, (0, [])), [], [], [], [])], [], 0)
noncomputable def yL443 : List (Nat × List sAp) := []
noncomputable def yP443 : List (sE × List Int) := []
theorem yS443 {gv : Nat → zH → Int} (hg : sGv yReg yGu gv) : ySum gv yQ443 := yOk hg (F := 500) (sp := yP443) (L := yL443) (Qs := []) (by decide +kernel) yNil
/-- X12_has None None None 22 0 -/
noncomputable def yQ444 : sQ := (128, ([], [(0, 0, (0, [])), (0, 1, (0, []))], [(22, 22), (0, 0)], [], [(0, 0), (1, 1)], (0, [])), [(some (0, (0, [])), [], [], [], [])], [], 0)
noncomputable def yL444 : List (Nat × List sAp) := []
noncomputable def yP444 : List (sE × List Int) := []
theorem yS444 {gv : Nat → zH → Int} (hg : sGv yReg yGu gv) : ySum gv yQ444 := yOk hg (F := 500) (sp := yP444) (L := yL444) (Qs := []) (by decide +kernel) yNil
/-- X12_has None None None 22 1 -/
noncomputable def yQ445 : sQ := (128, ([], [(0, 0, (0, [])), (0, 1, (0, []))], [(22, 22), (1, 1)], [], [(0, 0), (1, 1)], (0, [])), [(some (0, (1, [])), [], [], [], [])], [], 0)
noncomputable def yL445 : List (Nat × List sAp) := []
noncomputable def yP445 : List (sE × List Int) := []
theorem yS445 {gv : Nat → zH → Int} (hg : sGv yReg yGu gv) : ySum gv yQ445 := yOk hg (F := 500) (sp := yP445) (L := yL445) (Qs := []) (by decide +kernel) yNil
