/-! methods told of -/
/-- X12_has None None None 22 2 -/
noncomputable def yQ446 : sQ := (128, ([], [(0, 0, (0, [])), (0, 1, (0, []))], [(22, 22), (2, 2)], [], [(0, 0), (1, 1)], (0, [])), [(some (0, (1, [])), [], [], [], [])], [], 0)
noncomputable def yL446 : List (Nat × List sAp) := []
noncomputable def yP446 : List (sE × List Int) := []
theorem yS446 {gv : Nat → zH → Int} (hg : sGv yReg yGu gv) : ySum gv yQ446 := yOk hg (F := 500) (sp := yP446) (L := yL446) (Qs := []) (by decide +kernel) yNil
/-- X12_has None None None 22 3 -/
noncomputable def yQ447 : sQ := (128, ([], [(0, 0, (0, [])), (0, 1, (0, []))], [(22, 22), (3, 3)], [], [(0, 0), (1, 1)], (0, [])), [(some (0, (0, [])), [], [], [], [])], [], 0)
noncomputable def yL447 : List (Nat × List sAp) := []
noncomputable def yP447 : List (sE × List Int) := []
theorem yS447 {gv : Nat → zH → Int} (hg : sGv yReg yGu gv) : ySum gv yQ447 := yOk hg (F := 500) (sp := yP447) (L := yL447) (Qs := []) (by decide +kernel) yNil
/-- X12_has None None None 22 4 -/
noncomputable def yQ448 : sQ := (128, ([], [(0, 0, (0, [])), (0, 1, (0, []))], [(22, 22), (4, 4)], [], [(0, 0), (1, 1)], (0, [])), [(some (0, (1, [])), [], [], [], [])], [], 0)
noncomputable def yL448 : List (Nat × List sAp) := []
noncomputable def yP448 : List (sE × List Int) := []
theorem yS448 {gv : Nat → zH → Int} (hg : sGv yReg yGu gv) : ySum gv yQ448 := yOk hg (F := 500) (sp := yP448) (L := yL448) (Qs := []) (by decide +kernel) yNil
/-- X12_has None None None 22 5 -/
noncomputable def yQ449 : sQ := (128, ([], [(0, 0, (0, [])), (0, 1, (0, []))], [(22, 22), (5, 5)], [], [(0, 0), (1, 1)], (0, [])), [(some (0, (0, [])), [], [], [], [])], [], 0)
noncomputable def yL449 : List (Nat × List sAp) := []
noncomputable def yP449 : List (sE × List Int) := []
theorem yS449 {gv : Nat → zH → Int} (hg : sGv yReg yGu gv) : ySum gv yQ449 := yOk hg (F := 500) (sp := yP449) (L := yL449) (Qs := []) (by decide +kernel) yNil
/-- X12_has None None None 23 0 -/
noncomputable def yQ450 : sQ := (128, ([], [(0, 0, (0, [])), (0, 1, (0, []))], [(23, 23), (0, 0)], [], [(0, 0), (1, 1)], (0, [])), [(some (0, (1, [])), [], [], [], [])], [], 0)
noncomputable def yL450 : List (Nat × List sAp) := []
noncomputable def yP450 : List (sE × List Int) := []
theorem yS450 {gv : Nat → zH → Int} (hg : sGv yReg yGu gv) : ySum gv yQ450 := yOk hg (F := 500) (sp := yP450) (L := yL450) (Qs := []) (by decide +kernel) yNil
/-- X12_has None None None 23 1 -/
noncomputable def yQ451 : sQ := (128, ([], [(0, 0, (0, [])), (0, 1, (0, []))], [(23, 23), (1, 1)], [], [(0, 0), (1, 1)], (0, [])), [(some (0, (1, [])), [], [], [], [])], [], 0)
noncomputable def yL451 : List (Nat × List sAp) := []
noncomputable def yP451 : List (sE × List Int) := []
theorem yS451 {gv : Nat → zH → Int} (hg : sGv yReg yGu gv) : ySum gv yQ451 := yOk hg (F := 500) (sp := yP451) (L := yL451) (Qs := []) (by decide +kernel) yNil
/-- X12_has None None None 23 2 -/
noncomputable def yQ452 : sQ := (128, ([], [(0, 0, (0, [])), (0, 1, (0, []))], [(23, 23), (2, 2)], [], [(0, 0), (1, 1)], (0, [])), [(some (0, (1, [])), [], [], [], [])], [], 0)
noncomputable def yL452 : List (Nat × List sAp) := []
noncomputable def yP452 : List (sE × List Int) := []
theorem yS452 {gv : Nat → zH → Int} (hg : sGv yReg yGu gv) : ySum gv yQ452 := yOk hg (F := 500) (sp := yP452) (L := yL452) (Qs := []) (by decide +kernel) yNil
/-- X12_has None None None 23 3 -/
noncomputable def yQ453 : sQ := (128, ([], [(0, 0, (0, [])), (0, 1, (0, []))], [(23, 23), (3, 3)], [], [(0, 0), (1, 1)], (0, [])), [(some (0, (0, [])), [], [], [], [])], [], 0)
noncomputable def yL453 : List (Nat × List sAp) := []
noncomputable def yP453 : List (sE × List Int) := []
theorem yS453 {gv : Nat → zH → Int} (hg : sGv yReg yGu gv) : ySum gv yQ453 := yOk hg (F := 500) (sp := yP453) (L := yL453) (Qs := []) (by decide +kernel) yNil
/-- X12_has None None None 23 4 -/
noncomputable def yQ454 : sQ := (128, ([], [(0, 0, (0, [])), (0, 1, (0, []))], [(23, 23), (4, 4)], [], [(0, 0), (1, 1)], (0, [])), [(some (0, (1, [])), [], [], [], [])], [], 0)
noncomputable def yL454 : List (Nat × List sAp) := []
noncomputable def yP454 : List (sE × List Int) := []
theorem yS454 {gv : Nat → zH → Int} (hg : sGv yReg yGu gv) : ySum gv yQ454 := yOk hg (F := 500) (sp := yP454) (L := yL454) (Qs := []) (by decide +kernel) yNil
/-- X12_has None None None 23 5 -/
noncomputable def yQ455 : sQ := (128, ([], [(0, 0, (0, [])), (0, 1, (0, []))], [(23, 23), (5, 5)], [], [(0, 0), (1, 1)], (0, [])), [(some (0, (0, [])), [], [], [], [])], [], 0)
noncomputable def yL455 : List (Nat × List sAp) := []
noncomputable def yP455 : List (sE × List Int) := []
theorem yS455 {gv : Nat → zH → Int} (hg : sGv yReg yGu gv) : ySum gv yQ455 := yOk hg (F := 500) (sp := yP455) (L := yL455) (Qs := []) (by decide +kernel) yNil
/-- X12_has None None None 24 0 -/
noncomputable def yQ456 : sQ := (128, ([], [(0, 0, (0, [])), (0, 1, (0, []))], [(24, 24), (0, 0)], [], [(0, 0), (1, 1)], (0, [])), [(some (0, (0, [])), [], [], [], [])], [], 0)
noncomputable def yL456 : List (Nat × List sAp) := []
noncomputable def yP456 : List (sE × List Int) := []
theorem yS456 {gv : Nat → zH → Int} (hg : sGv yReg yGu gv) : ySum gv yQ456 := yOk hg (F := 500) (sp := yP456) (L := yL456) (Qs := []) (by decide +kernel) yNil
/-- X12_has None None None 24 1 -/
noncomputable def yQ457 : sQ := (128, ([], [(0, 0, (0, [])), (0, 1, (0, []))], [(24, 24), (1, 1)], [], [(0, 0), (1, 1)], (0, [])), [(some (0, (0, [])), [], [], [], [])], [], 0)
noncomputable def yL457 : List (Nat × List sAp) := []
noncomputable def yP457 : List (sE × List Int) := []
theorem yS457 {gv : Nat → zH → Int} (hg : sGv yReg yGu gv) : ySum gv yQ457 := yOk hg (F := 500) (sp := yP457) (L := yL457) (Qs := []) (by decide +kernel) yNil
/-- X12_has None None None 24 2 -/
noncomputable def yQ458 : sQ := (128, ([], [(0, 0, (0, [])), (0, 1, (0, []))], [(24, 24), (2, 2)], [], [(0, 0), (1, 1)], (0, [])), [(some (0, (0, [])), [], [], [], [])], [], 0)
noncomputable def yL458 : List (Nat × List sAp) := []
noncomputable def yP458 : List (sE × List Int) := []
theorem yS458 {gv : Nat → zH → Int} (hg : sGv yReg yGu gv) : ySum gv yQ458 := yOk hg (F := 500) (sp := yP458) (L := yL458) (Qs := []) (by decide +kernel) yNil
/-- X12_has None None None 24 3 -/
noncomputable def yQ459 : sQ := (128, ([], [(0, 0, (0, [])), (0, 1, (0, []))], [(24, 24), (3, 3)], [], [(0, 0), (1, 1)], (0, [])), [(some (0, (1, [])), [], [], [], [])], [], 0)
noncomputable def yL459 : List (Nat × List sAp) := []
noncomputable def yP459 : List (sE × List Int) := []
theorem yS459 {gv : Nat → zH → Int} (hg : sGv yReg yGu gv) : ySum gv yQ459 := yOk hg (F := 500) (sp := yP459) (L := yL459) (Qs := []) (by decide +kernel) yNil
/-- X12_has None None None 24 4 -/
noncomputable def yQ460 : sQ := (128, ([], [(0, 0, (0, [])), (0, 1, (0, []))], [(24, 24), (4, 4)], [], [(0, 0), (1, 1)], (0, [])), [(some (0, (1, [])), [], [], [], [])], [], 0)
noncomputable def yL460 : List (Nat × List sAp) := []
noncomputable def yP460 : List (sE × List Int) := []
theorem yS460 {gv : Nat → zH → Int} (hg : sGv yReg yGu gv) : ySum gv yQ460 := yOk hg (F := 500) (sp := yP460) (L := yL460) (Qs := []) (by decide +kernel) yNil
/-- X12_has None None None 24 5 -/
noncomputable def yQ461 : sQ := (128, ([], [(0, 0, (0, [])), (0, 1, (0, []))], [(24, 24), (5, 5)], [], [(0, 0), (1, 1)], (0, [])), [(some (0, (0, [])), [], [], [], [])], [], 0)
noncomputable def yL461 : List (Nat × List sAp) := []
noncomputable def yP461 : List (sE × List Int) := []
theorem yS461 {gv : Nat → zH → Int} (hg : sGv yReg yGu gv) : ySum gv yQ461 := yOk hg (F := 500) (sp := yP461) (L := yL461) (Qs := []) (by decide +kernel) yNil
/-- X12_has None None None 25 0 -/
noncomputable def yQ462 : sQ := (128, ([], [(0, 0, (0, [])), (0, 1, (0, []))], [(25, 25), (0, 0)], [], [(0, 0), (1, 1)], (0, [])), [(some (0, (1, [])), [], [], [], [])], [], 0)
noncomputable def yL462 : List (Nat × List sAp) := []
noncomputable def yP462 : List (sE × List Int) := []
theorem yS462 {gv : Nat → zH → Int} (hg : sGv yReg yGu gv) : ySum gv yQ462 := yOk hg (F := 500) (sp := yP462) (L := yL462) (Qs := []) (by decide +kernel) yNil
/-- X12_has None None None 25 1 -/
noncomputable def yQ463 : sQ := (128, ([], [(0, 0, (0, [])), (0, 1, (0, []))], [(25, 25), (1, 1)], [], [(0, 0), (1, 1)], (0, [])), [(some (0, (0, [])), [], [], [], [])], [], 0)
noncomputable def yL463 : List (Nat × List sAp) := []
noncomputable def yP463 : List (sE × List Int) := []
theorem yS463 {gv : Nat → zH → Int} (hg : sGv yReg yGu gv) : ySum gv yQ463 := yOk hg (F := 500) (sp := yP463) (L := yL463) (Qs := []) (by decide +kernel) yNil
/-- X12_has None None None 25 2 -/
noncomputable def yQ464 : sQ := (128, ([], [(0, 0, (0, [])), (0, 1, (0, []))], [(25, 25), (2, 2)], [], [(0, 0), (1, 1)], (0, [])), [(some (0, (0, [])), [], [], [], [])], [], 0)
noncomputable def yL464 : List (Nat × List sAp) := []
noncomputable def yP464 : List (sE × List Int) := []
theorem yS464 {gv : Nat → zH → Int} (hg : sGv yReg yGu gv) : ySum gv yQ464 := yOk hg (F := 500) (sp := yP464) (L := yL464) (Qs := []) (by decide +kernel) yNil
/-- X12_has None None None 25 3 -/
noncomputable def yQ465 : sQ := (128, ([], [(0, 0, (0, [])), (0, 1, (0, []))], [(25, 25), (3, 3)], [], [(0, 0), (1, 1)], (0, [])), [(some (0, (1, [])), [], [], [], [])], [], 0)
noncomputable def yL465 : List (Nat × List sAp) := []
noncomputable def yP465 : List (sE × List Int) := []
theorem yS465 {gv : Nat → zH → Int} (hg : sGv yReg yGu gv) : ySum gv yQ465 := yOk hg (F := 500) (sp := yP465) (L := yL465) (Qs := []) (by decide +kernel) yNil
/-- X12_has None None None 25 4 -/
noncomputable def yQ466 : sQ := (128, ([], [(0, 0, (0, [])), (0, 1, (0, []))], [(25, 25), (4, 4)], [], [(0, 0), (1, 1)], (0, [])), [(some (0, (1, [])), [], [], [], [])], [], 0)
noncomputable def yL466 : List (Nat × List sAp) := []
noncomputable def yP466 : List (sE × List Int) := []
theorem yS466 {gv : Nat → zH → Int} (hg : sGv yReg yGu gv) : ySum gv yQ466 := yOk hg (F := 500) (sp := yP466) (L := yL466) (Qs := []) (by decide +kernel) yNil
/-- X12_has None None None 25 5 -/
noncomputable def yQ467 : sQ := (128, ([], [(0, 0, (0, [])), (0, 1, (0, []))], [(25, 25), (5, 5)], [], [(0, 0), (1, 1)], (0, [])), [(some (0, (0, [])), [], [], [], [])], [], 0)
noncomputable def yL467 : List (Nat × List sAp) := []
noncomputable def yP467 : List (sE × List Int) := []
theorem yS467 {gv : Nat → zH → Int} (hg : sGv yReg yGu gv) : ySum gv yQ467 := yOk hg (F := 500) (sp := yP467) (L := yL467) (Qs := []) (by decide +kernel) yNil
/-- X12_has None None None 26 0 -/
noncomputable def yQ468 : sQ := (128, ([], [(0, 0, (0, [])), (0, 1, (0, []))], [(26, 26), (0, 0)], [], [(0, 0), (1, 1)], (0, [])), [(some (0, (0, [])), [], [], [], [])], [], 0)
noncomputable def yL468 : List (Nat × List sAp) := []
noncomputable def yP468 : List (sE × List Int) := []
theorem yS468 {gv : Nat → zH → Int} (hg : sGv yReg yGu gv) : ySum gv yQ468 := yOk hg (F := 500) (sp := yP468) (L := yL468) (Qs := []) (by decide +kernel) yNil
/-- X12_has None None None 26 1 -/
noncomputable def yQ469 : sQ := (128, ([], [(0, 0, (0, [])), (0, 1, (0, []))], [(26, 26), (1, 1)], [], [(0, 0), (1, 1)], (0, [])), [(some (0, (1, [])), [], [], [], [])], [], 0)
noncomputable def yL469 : List (Nat × List sAp) := []
noncomputable def yP469 : List (sE × List Int) := []
theorem yS469 {gv : Nat → zH → Int} (hg : sGv yReg yGu gv) : ySum gv yQ469 := yOk hg (F := 500) (sp := yP469) (L := yL469) (Qs := []) (by decide +kernel) yNil
/-- X12_has None None None 26 2 -/
noncomputable def yQ470 : sQ := (128, ([], [(0, 0, (0, [])), (0, 1, (0, []))], [(26, 26), (2, 2)], [], [(0, 0), (1, 1)], (0, [])), [(some (0, (0, [])), [], [], [], [])], [], 0)
noncomputable def yL470 : List (Nat × List sAp) := []
noncomputable def yP470 : List (sE × List Int) := []
theorem yS470 {gv : Nat → zH → Int} (hg : sGv yReg yGu gv) : ySum gv yQ470 := yOk hg (F := 500) (sp := yP470) (L := yL470) (Qs := []) (by decide +kernel) yNil
/-- X12_has None None None 26 3 -/
noncomputable def yQ471 : sQ := (128, ([], [(0, 0, (0, [])), (0, 1, (0, []))], [(26, 26), (3, 3)], [], [(0, 0), (1, 1)], (0, [])), [(some (0, (1, [])), [], [], [], [])], [], 0)
noncomputable def yL471 : List (Nat × List sAp) := []
noncomputable def yP471 : List (sE × List Int) := []
theorem yS471 {gv : Nat → zH → Int} (hg : sGv yReg yGu gv) : ySum gv yQ471 := yOk hg (F := 500) (sp := yP471) (L := yL471) (Qs := []) (by decide +kernel) yNil
/-- X12_has None None None 26 4 -/
noncomputable def yQ472 : sQ := (128, ([], [(0, 0, (0, [])), (0, 1, (0, []))], [(26, 26), (4, 4)], [], [(0, 0), (1, 1)], (0, [])), [(some (0, (1, [])), [], [], [], [])], [], 0)
noncomputable def yL472 : List (Nat × List sAp) := []
noncomputable def yP472 : List (sE × List Int) := []
theorem yS472 {gv : Nat → zH → Int} (hg : sGv yReg yGu gv) : ySum gv yQ472 := yOk hg (F := 500) (sp := yP472) (L := yL472) (Qs := []) (by decide +kernel) yNil
/-- X12_has None None None 26 5 -/
noncomputable def yQ473 : sQ := (128, ([], [(0, 0, (0, [])), (0, 1, (0, []))], [(26, 26), (5, 5)], [], [(0, 0), (1, 1)], (0, [])), [(some (0, (0, [])), [], [], [], [])], [], 0)
noncomputable def yL473 : List (Nat × List sAp) := []
noncomputable def yP473 : List (sE × List Int) := []
theorem yS473 {gv : Nat → zH → Int} (hg : sGv yReg yGu gv) : ySum gv yQ473 := yOk hg (F := 500) (sp := yP473) (L := yL473) (Qs := []) (by decide +kernel) yNil
/-- X12_has None None None 27 0 -/
noncomputable def yQ474 : sQ := (128, ([], [(0, 0, (0, [])), (0, 1, (0, []))], [(27, 27), (0, 0)], [], [(0, 0), (1, 1)], (0, [])), [(some (0, (1, [])), [], [], [], [])], [], 0)
noncomputable def yL474 : List (Nat × List sAp) := []
noncomputable def yP474 : List (sE × List Int) := []
theorem yS474 {gv : Nat → zH → Int} (hg : sGv yReg yGu gv) : ySum gv yQ474 := yOk hg (F := 500) (sp := yP474) (L := yL474) (Qs := []) (by decide +kernel) yNil
/-- X12_has None None None 27 1 -/
noncomputable def yQ475 : sQ := (128, ([], [(0, 0, (0, [])), (0, 1, (0, []))], [(27, 27), (1, 1)], [], [(0, 0), (1, 1)], (0, [])), [(some (0, (1, [])), [], [], [], [])], [], 0)
noncomputable def yL475 : List (Nat × List sAp) := []
noncomputable def yP475 : List (sE × List Int) := []
theorem yS475 {gv : Nat → zH → Int} (hg : sGv yReg yGu gv) : ySum gv yQ475 := yOk hg (F := 500) (sp := yP475) (L := yL475) (Qs := []) (by decide +kernel) yNil
/-- X12_has None None None 27 2 -/
noncomputable def yQ476 : sQ := (128, ([], [(0, 0, (0, [])), (0, 1, (0, []))], [(27, 27), (2, 2)], [], [(0, 0), (1, 1)], (0, [])), [(some (0, (0, [])), [], [], [], [])], [], 0)
noncomputable def yL476 : List (Nat × List sAp) := []
noncomputable def yP476 : List (sE × List Int) := []
theorem yS476 {gv : Nat → zH → Int} (hg : sGv yReg yGu gv) : ySum gv yQ476 := yOk hg (F := 500) (sp := yP476) (L := yL476) (Qs := []) (by decide +kernel) yNil
/-- X12_has None None None 27 3 -/
noncomputable def yQ477 : sQ := (128, ([], [(0, 0, (0, [])), (0, 1, (0, []))], [(27, 27), (3, 3)], [], [(0, 0), (1, 1)], (0, [])), [(some (0, (1, [])), [], [], [], [])], [], 0)
noncomputable def yL477 : List (Nat × List sAp) := []
noncomputable def yP477 : List (sE × List Int) := []
theorem yS477 {gv : Nat → zH → Int} (hg : sGv yReg yGu gv) : ySum gv yQ477 := yOk hg (F := 500) (sp := yP477) (L := yL477) (Qs := []) (by decide +kernel) yNil
/-- X12_has None None None 27 4 -/
noncomputable def yQ478 : sQ := (128, ([], [(0, 0, (0, [])), (0, 1, (0, []))], [(27, 27), (4, 4)], [], [(0, 0), (1, 1)], (0, [])), [(some (0, (1, [])), [], [], [], [])], [], 0)
noncomputable def yL478 : List (Nat × List sAp) := []
noncomputable def yP478 : List (sE × List Int) := []
theorem yS478 {gv : Nat → zH → Int} (hg : sGv yReg yGu gv) : ySum gv yQ478 := yOk hg (F := 500) (sp := yP478) (L := yL478) (Qs := []) (by decide +kernel) yNil
/-- X12_has None None None 27 5 -/
noncomputable def yQ479 : sQ := (128, ([], [(0, 0, (0, [])), (0, 1, (0, []))], [(27, 27), (5, 5)], [], [(0, 0), (1, 1)], (0, [])), [(some (0, (0, [])), [], [], [], [])], [], 0)
noncomputable def yL479 : List (Nat × List sAp) := []
noncomputable def yP479 : List (sE × List Int) := []
theorem yS479 {gv : Nat → zH → Int} (hg : sGv yReg yGu gv) : ySum gv yQ479 := yOk hg (F := 500) (sp := yP479) (L := yL479) (Qs := []) (by decide +kernel) yNil
/-- X12_has None None None 28 0 -/
noncomputable def yQ480 : sQ := (128, ([], [(0, 0, (0, [])), (0, 1, (0, []))], [(28, 28), (0, 0)], [], [(0, 0), (1, 1)], (0, [])), [(some (0, (0, [])), [], [], [], [])], [], 0)
noncomputable def yL480 : List (Nat × List sAp) := []
noncomputable def yP480 : List (sE × List Int) := []
theorem yS480 {gv : Nat → zH → Int} (hg : sGv yReg yGu gv) : ySum gv yQ480 := yOk hg (F := 500) (sp := yP480) (L := yL480) (Qs := []) (by decide +kernel) yNil
/-- X12_has None None None 28 1 -/
noncomputable def yQ481 : sQ := (128, ([], [(0, 0, (0, [])), (0, 1, (0, []))], [(28, 28), (1, 1)], [], [(0, 0), (1, 1)], (0, [])), [(some (0, (0, [])), [], [], [], [])], [], 0)
noncomputable def yL481 : List (Nat × List sAp) := []
noncomputable def yP481 : List (sE × List Int) := []
theorem yS481 {gv : Nat → zH → Int} (hg : sGv yReg yGu gv) : ySum gv yQ481 := yOk hg (F := 500) (sp := yP481) (L := yL481) (Qs := []) (by decide +kernel) yNil
/-- X12_has None None None 28 2 -/
noncomputable def yQ482 : sQ := (128, ([], [(0, 0, (0, [])), (0, 1, (0, []))], [(28, 28), (2, 2)], [], [(0, 0), (1, 1)], (0, [])), [(some (0, (1, [])), [], [], [], [])], [], 0)
noncomputable def yL482 : List (Nat × List sAp) := []
noncomputable def yP482 : List (sE × List Int) := []
theorem yS482 {gv : Nat → zH → Int} (hg : sGv yReg yGu gv) : ySum gv yQ482 := yOk hg (F := 500) (sp := yP482) (L := yL482) (Qs := []) (by decide +kernel) yNil
/-- X12_has None None None 28 3 -/
noncomputable def yQ483 : sQ := (128, ([], [(0, 0, (0, [])), (0, 1, (0, []))], [(28, 28), (3, 3)], [], [(0, 0), (1, 1)], (0, [])), [(some (0, (1, [])), [], [], [], [])], [], 0)
noncomputable def yL483 : List (Nat × List sAp) := []
noncomputable def yP483 : List (sE × List Int) := []
theorem yS483 {gv : Nat → zH → Int} (hg : sGv yReg yGu gv) : ySum gv yQ483 := yOk hg (F := 500) (sp := yP483) (L := yL483) (Qs := []) (by decide +kernel) yNil
/-- X12_has None None None 28 4 -/
noncomputable def yQ484 : sQ := (128, ([], [(0, 0, (0, [])), (0, 1, (0, []))], [(28, 28), (4, 4)], [], [(0, 0), (1, 1)], (0, [])), [(some (0, (1, [])), [], [], [], [])], [], 0)
noncomputable def yL484 : List (Nat × List sAp) := []
noncomputable def yP484 : List (sE × List Int) := []
theorem yS484 {gv : Nat → zH → Int} (hg : sGv yReg yGu gv) : ySum gv yQ484 := yOk hg (F := 500) (sp := yP484) (L := yL484) (Qs := []) (by decide +kernel) yNil
/-- X12_has None None None 28 5 -/
noncomputable def yQ485 : sQ := (128, ([], [(0, 0, (0, [])), (0, 1, (0, []))], [(28, 28), (5, 5)], [], [(0, 0), (1, 1)], (0, [])), [(some (0, (0, [])), [], [], [], [])], [], 0)
noncomputable def yL485 : List (Nat × List sAp) := []
noncomputable def yP485 : List (sE × List Int) := []
theorem yS485 {gv : Nat → zH → Int} (hg : sGv yReg yGu gv) : ySum gv yQ485 := yOk hg (F := 500) (sp := yP485) (L := yL485) (Qs := []) (by decide +kernel) yNil
/-- X12_has None None None 29 0 -/
noncomputable def yQ486 : sQ := (128, ([], [(0, 0, (0, [])), (0, 1, (0, []))], [(29, 29), (0, 0)], [], [(0, 0), (1, 1)], (0, [])), [(some (0, (1, [])), [], [], [], [])], [], 0)
noncomputable def yL486 : List (Nat × List sAp) := []
noncomputable def yP486 : List (sE × List Int) := []
theorem yS486 {gv : Nat → zH → Int} (hg : sGv yReg yGu gv) : ySum gv yQ486 := yOk hg (F := 500) (sp := yP486) (L := yL486) (Qs := []) (by decide +kernel) yNil
/-- X12_has None None None 29 1 -/
noncomputable def yQ487 : sQ := (128, ([], [(0, 0, (0, [])), (0, 1, (0, []))], [(29, 29), (1, 1)], [], [(0, 0), (1, 1)], (0, [])), [(some (0, (0, [])), [], [], [], [])], [], 0)
noncomputable def yL487 : List (Nat × List sAp) := []
noncomputable def yP487 : List (sE × List Int) := []
theorem yS487 {gv : Nat → zH → Int} (hg : sGv yReg yGu gv) : ySum gv yQ487 := yOk hg (F := 500) (sp := yP487) (L := yL487) (Qs := []) (by decide +kernel) yNil
/-- X12_has None None None 29 2 -/
noncomputable def yQ488 : sQ := (128, ([], [(0, 0, (0, [])), (0, 1, (0, []))], [(29, 29), (2, 2)], [], [(0, 0), (1, 1)], (0, [])), [(some (0, (1, [])), [], [], [], [])], [], 0)
noncomputable def yL488 : List (Nat × List sAp) := []
noncomputable def yP488 : List (sE × List Int) := []
theorem yS488 {gv : Nat → zH → Int} (hg : sGv yReg yGu gv) : ySum gv yQ488 := yOk hg (F := 500) (sp := yP488) (L := yL488) (Qs := []) (by decide +kernel) yNil
/-- X12_has None None None 29 3 -/
noncomputable def yQ489 : sQ := (128, ([], [(0, 0, (0, [])), (0, 1, (0, []))], [(29, 29), (3, 3)], [], [(0, 0), (1, 1)], (0, [])), [(some (0, (1, [])), [], [], [], [])], [], 0)
noncomputable def yL489 : List (Nat × List sAp) := []
noncomputable def yP489 : List (sE × List Int) := []
theorem yS489 {gv : Nat → zH → Int} (hg : sGv yReg yGu gv) : ySum gv yQ489 := yOk hg (F := 500) (sp := yP489) (L := yL489) (Qs := []) (by decide +kernel) yNil
/-- X12_has None None None 29 4 -/
noncomputable def yQ490 : sQ := (128, ([], [(0, 0, (0, [])), (0, 1, (0, []))], [(29, 29), (4, 4)], [], [(0, 0), (1, 1)], (0, [])), [(some (0, (1, [])), [], [], [], [])], [], 0)
noncomputable def yL490 : List (Nat × List sAp) := []
noncomputable def yP490 : List (sE × List Int) := []
theorem yS490 {gv : Nat → zH → Int} (hg : sGv yReg yGu gv) : ySum gv yQ490 := yOk hg (F := 500) (sp := yP490) (L := yL490) (Qs := []) (by decide +kernel) yNil
/-- X12_has None None None 29 5 -/
noncomputable def yQ491 : sQ := (128, ([], [(0, 0, (0, [])), (0, 1, (0, []))], [(29, 29), (5, 5)], [], [(0, 0), (1, 1)], (0, [])), [(some (0, (0, [])), [], [], [], [])], [], 0)
noncomputable def yL491 : List (Nat × List sAp) := []
noncomputable def yP491 : List (sE × List Int) := []
theorem yS491 {gv : Nat → zH → Int} (hg : sGv yReg yGu gv) : ySum gv yQ491 := yOk hg (F := 500) (sp := yP491) (L := yL491) (Qs := []) (by decide +kernel) yNil
/-- X12_has None None None 3 0 -/
noncomputable def yQ492 : sQ := (128, ([], [(0, 0, (0, [])), (0, 1, (0, []))], [(3, 3), (0, 0)], [], [(0, 0), (1, 1)], (0, [])), [(some (0, (1, [])), [], [], [], [])], [], 0)
noncomputable def yL492 : List (Nat × List sAp) := []
noncomputable def yP492 : List (sE × List Int) := []
theorem yS492 {gv : Nat → zH → Int} (hg : sGv yReg yGu gv) : ySum gv yQ492 := yOk hg (F := 500) (sp := yP492) (L := yL492) (Qs := []) (by decide +kernel) yNil
/-- X12_has None None None 3 1 -/
noncomputable def yQ493 : sQ := (128, ([], [(0, 0, (0, [])), (0, 1, (0, []))], [(3, 3), (1, 1)], [], [(0, 0), (1, 1)], (0, [])), [(some (0, (1, [])), [], [], [], [])], [], 0)
noncomputable def yL493 : List (Nat × List sAp) := []
noncomputable def yP493 : List (sE × List Int) := []
theorem yS493 {gv : Nat → zH → Int} (hg : sGv yReg yGu gv) : ySum gv yQ493 := yOk hg (F := 500) (sp := yP493) (L := yL493) (Qs := []) (by decide +kernel) yNil
/-- X12_has None None None 3 2 -/
noncomputable def yQ494 : sQ := (128, ([], [(0, 0, (0, [])), (0, 1, (0, []))], [(3, 3), (2, 2)], [], [(0, 0), (1, 1)], (0, [])), [(some (0, (0, [])), [], [], [], [])], [], 0)
noncomputable def yL494 : List (Nat × List sAp) := []
noncomputable def yP494 : List (sE × List Int) := []
theorem yS494 {gv : Nat → zH → Int} (hg : sGv yReg yGu gv) : ySum gv yQ494 := yOk hg (F := 500) (sp := yP494) (L := yL494) (Qs := []) (by decide +kernel) yNil
/-- X12_has None None None 3 3 -/
noncomputable def yQ495 : sQ := (128, ([], [(0, 0, (0, [])), (0, 1, (0, []))], [(3, 3), (3, 3)], [], [(0, 0), (1, 1)], (0, [])), [(some (0, (0, [])), [], [], [], [])], [], 0)
noncomputable def yL495 : List (Nat × List sAp) := []
noncomputable def yP495 : List (sE × List Int) := []
theorem yS495 {gv : Nat → zH → Int} (hg : sGv yReg yGu gv) : ySum gv yQ495 := yOk hg (F := 500) (sp := yP495) (L := yL495) (Qs := []) (by decide +kernel) yNil
/-- X12_has None None None 3 4 -/
noncomputable def yQ496 : sQ := (128, ([], [(0, 0, (0, [])), (0, 1, (0, []))], [(3, 3), (4, 4)], [], [(0, 0), (1, 1)], (0, [])), [(some (0, (0, [])), [], [], [], [])], [], 0)
noncomputable def yL496 : List (Nat × List sAp) := []
noncomputable def yP496 : List (sE × List Int) := []
theorem yS496 {gv : Nat → zH → Int} (hg : sGv yReg yGu gv) : ySum gv yQ496 := yOk hg (F := 500) (sp := yP496) (L := yL496) (Qs := []) (by decide +kernel) yNil
/-- X12_has None None None 3 5 -/
noncomputable def yQ497 : sQ := (128, ([], [(0, 0, (0, [])), (0, 1, (0, []))], [(3, 3), (5, 5)], [], [(0, 0), (1, 1)], (0, [])), [(some (0, (0, [])), [], [], [], [])], [], 0)
noncomputable def yL497 : List (Nat × List sAp) := []
noncomputable def yP497 : List (sE × List Int) := []
theorem yS497 {gv : Nat → zH → Int} (hg : sGv yReg yGu gv) : ySum gv yQ497 := yOk hg (F := 500) (sp := yP497) (L := yL497) (Qs := []) (by decide +kernel) yNil
/-- X12_has None None None 30 0 -/
noncomputable def yQ498 : sQ := (128, ([], [(0, 0, (0, [])), (0, 1, (0, []))], [(30, 30), (0, 0)], [], [(0, 0), (1, 1)], (0, [])), [(some (0, (0, [])), [], [], [], [])], [], 0)
noncomputable def yL498 : List (Nat × List sAp) := []
noncomputable def yP498 : List (sE × List Int) := []
theorem yS498 {gv : Nat → zH → Int} (hg : sGv yReg yGu gv) : ySum gv yQ498 := yOk hg (F := 500) (sp := yP498) (L := yL498) (Qs := []) (by decide +kernel) yNil
/-- X12_has None None None 30 1 -/
noncomputable def yQ499 : sQ := (128, ([], [(0, 0, (0, [])), (0, 1, (0, []))], [(30, 30), (1, 1)], [], [(0, 0), (1, 1)], (0, [])), [(some (0, (1, [])), [], [], [], [])], [], 0)
noncomputable def yL499 : List (Nat × List sAp) := []
noncomputable def yP499 : List (sE × List Int) := []
theorem yS499 {gv : Nat → zH → Int} (hg : sGv yReg yGu gv) : ySum gv yQ499 := yOk hg (F := 500) (sp := yP499) (L := yL499) (Qs := []) (by decide +kernel) yNil
/-- X12_has None None None 30 2 -/
noncomputable def yQ500 : sQ := (128, ([], [(0, 0, (0, [])), (0, 1, (0, []))], [(30, 30), (2, 2)], [], [(0, 0), (1, 1)], (0, [])), [(some (0, (1, [])), [], [], [], [])], [], 0)
noncomputable def yL500 : List (Nat × List sAp) := []
noncomputable def yP500 : List (sE × List Int) := []
theorem yS500 {gv : Nat → zH → Int} (hg : sGv yReg yGu gv) : ySum gv yQ500 := yOk hg (F := 500) (sp := yP500) (L := yL500) (Qs := []) (by decide +kernel) yNil
/-- X12_has None None None 30 3 -/
noncomputable def yQ501 : sQ := (128, ([], [(0, 0, (0, [])), (0, 1, (0, []))], [(30, 30), (3, 3)], [], [(0, 0), (1, 1)], (0, [])), [(some (0, (1, [])), [], [], [], [])], [], 0)
noncomputable def yL501 : List (Nat × List sAp) := []
noncomputable def yP501 : List (sE × List Int) := []
theorem yS501 {gv : Nat → zH → Int} (hg : sGv yReg yGu gv) : ySum gv yQ501 := yOk hg (F := 500) (sp := yP501) (L := yL501) (Qs := []) (by decide +kernel) yNil
/-- X12_has None None None 30 4 -/
noncomputable def yQ502 : sQ := (128, ([], [(0, 0, (0, [])), (0, 1, (0, []))], [(30, 30), (4, 4)], [], [(0, 0), (1, 1)], (0, [])), [(some (0, (1, [])), [], [], [], [])], [], 0)
noncomputable def yL502 : List (Nat × List sAp) := []
noncomputable def yP502 : List (sE × List Int) := []
theorem yS502 {gv : Nat → zH → Int} (hg : sGv yReg yGu gv) : ySum gv yQ502 := yOk hg (F := 500) (sp := yP502) (L := yL502) (Qs := []) (by decide +kernel) yNil
/-- X12_has None None None 30 5 -/
noncomputable def yQ503 : sQ := (128, ([], [(0, 0, (0, [])), (0, 1, (0, []))], [(30, 30), (5, 5)], [], [(0, 0), (1, 1)], (0, [])), [(some (0, (0, [])), [], [], [], [])], [], 0)
noncomputable def yL503 : List (Nat × List sAp) := []
noncomputable def yP503 : List (sE × List Int) := []
theorem yS503 {gv : Nat → zH → Int} (hg : sGv yReg yGu gv) : ySum gv yQ503 := yOk hg (F := 500) (sp := yP503) (L := yL503) (Qs := []) (by decide +kernel) yNil
/-- X12_has None None None 31 0 -/
noncomputable def yQ504 : sQ := (128, ([], [(0, 0, (0, [])), (0, 1, (0, []))], [(31, 31), (0, 0)], [], [(0, 0), (1, 1)], (0, [])), [(some (0, (1, [])), [], [], [], [])], [], 0)
noncomputable def yL504 : List (Nat × List sAp) := []
noncomputable def yP504 : List (sE × List Int) := []
theorem yS504 {gv : Nat → zH → Int} (hg : sGv yReg yGu gv) : ySum gv yQ504 := yOk hg (F := 500) (sp := yP504) (L := yL504) (Qs := []) (by decide +kernel) yNil
/-- X12_has None None None 31 1 -/
noncomputable def yQ505 : sQ := (128, ([], [(0, 0, (0, [])), (0, 1, (0, []))], [(31, 31), (1, 1)], [], [(0, 0), (1, 1)], (0, [])), [(some (0, (1, [])), [], [], [], [])], [], 0)
noncomputable def yL505 : List (Nat × List sAp) := []
noncomputable def yP505 : List (sE × List Int) := []
theorem yS505 {gv : Nat → zH → Int} (hg : sGv yReg yGu gv) : ySum gv yQ505 := yOk hg (F := 500) (sp := yP505) (L := yL505) (Qs := []) (by decide +kernel) yNil
/-- X12_has None None None 31 2 -/
noncomputable def yQ506 : sQ := (128, ([], [(0, 0, (0, [])), (0, 1, (0, []))], [(31, 31), (2, 2)], [], [(0, 0), (1, 1)], (0, [])), [(some (0, (1, [])), [], [], [], [])], [], 0)
noncomputable def yL506 : List (Nat × List sAp) := []
noncomputable def yP506 : List (sE × List Int) := []
theorem yS506 {gv : Nat → zH → Int} (hg : sGv yReg yGu gv) : ySum gv yQ506 := yOk hg (F := 500) (sp := yP506) (L := yL506) (Qs := []) (by decide +kernel) yNil
/-- X12_has None None None 31 3 -/
noncomputable def yQ507 : sQ := (128, ([], [(0, 0, (0, [])), (0, 1, (0, []))], [(31, 31), (3, 3)], [], [(0, 0), (1, 1)], (0, [])), [(some (0, (1, [])), [], [], [], [])], [], 0)
noncomputable def yL507 : List (Nat × List sAp) := []
noncomputable def yP507 : List (sE × List Int) := []
theorem yS507 {gv : Nat → zH → Int} (hg : sGv yReg yGu gv) : ySum gv yQ507 := yOk hg (F := 500) (sp := yP507) (L := yL507) (Qs := []) (by decide +kernel) yNil
/-- X12_has None None None 31 4 -/
noncomputable def yQ508 : sQ := (128, ([], [(0, 0, (0, [])), (0, 1, (0, []))], [(31, 31), (4, 4)], [], [(0, 0), (1, 1)], (0, [])), [(some (0, (1, [])), [], [], [], [])], [], 0)
noncomputable def yL508 : List (Nat × List sAp) := []
noncomputable def yP508 : List (sE × List Int) := []
theorem yS508 {gv : Nat → zH → Int} (hg : sGv yReg yGu gv) : ySum gv yQ508 := yOk hg (F := 500) (sp := yP508) (L := yL508) (Qs := []) (by decide +kernel) yNil
/-- X12_has None None None 31 5 -/
noncomputable def yQ509 : sQ := (128, ([], [(0, 0, (0, [])), (0, 1, (0, []))], [(31, 31), (5, 5)], [], [(0, 0), (1, 1)], (0, [])), [(some (0, (0, [])), [], [], [], [])], [], 0)
noncomputable def yL509 : List (Nat × List sAp) := []
noncomputable def yP509 : List (sE × List Int) := []
theorem yS509 {gv : Nat → zH → Int} (hg : sGv yReg yGu gv) : ySum gv yQ509 := yOk hg (F := 500) (sp := yP509) (L := yL509) (Qs := []) (by decide +kernel) yNil
/-- X12_has None None None 32 0 -/
noncomputable def yQ510 : sQ := (128, ([], [(0, 0, (0, [])), (0, 1, (0, []))], [(32, 32), (0, 0)], [], [(0, 0), (1, 1)], (0, [])), [(some (0, (0, [])), [], [], [], [])], [], 0)
noncomputable def yL510 : List (Nat × List sAp) := []
noncomputable def yP510 : List (sE × List Int) := []
theorem yS510 {gv : Nat → zH → Int} (hg : sGv yReg yGu gv) : ySum gv yQ510 := yOk hg (F := 500) (sp := yP510) (L := yL510) (Qs := []) (by decide +kernel) yNil
/-- X12_has None None None 32 1 -/
noncomputable def yQ511 : sQ := (128, ([], [(0, 0, (0, [])), (0, 1, (0, []))], [(32, 32), (1, 1)], [], [(0, 0), (1, 1)], (0, [])), [(some (0, (0, [])), [], [], [], [])], [], 0)
noncomputable def yL511 : List (Nat × List sAp) := []
noncomputable def yP511 : List (sE × List Int) := []
theorem yS511 {gv : Nat → zH → Int} (hg : sGv yReg yGu gv) : ySum gv yQ511 := yOk hg (F := 500) (sp := yP511) (L := yL511) (Qs := []) (by decide +kernel) yNil
/-- X12_has None None None 32 2 -/
noncomputable def yQ512 : sQ := (128, ([], [(0, 0, (0, [])), (0, 1, (0, []))], [(32, 32), (2, 2)], [], [(0, 0), (1, 1)], (0, [])), [(some (0, (0, [])), [], [], [], [])], [], 0)
noncomputable def yL512 : List (Nat × List sAp) := []
noncomputable def yP512 : List (sE × List Int) := []
theorem yS512 {gv : Nat → zH → Int} (hg : sGv yReg yGu gv) : ySum gv yQ512 := yOk hg (F := 500) (sp := yP512) (L := yL512) (Qs := []) (by decide +kernel) yNil
/-- X12_has None None None 32 3 -/
noncomputable def yQ513 : sQ := (128, ([], [(0, 0, (0, [])), (0, 1, (0, []))], [(32, 32), (3, 3)], [], [(0, 0), (1, 1)], (0, [])), [(some (0, (0, [])), [], [], [], [])], [], 0)
noncomputable def yL513 : List (Nat × List sAp) := []
noncomputable def yP513 : List (sE × List Int) := []
theorem yS513 {gv : Nat → zH → Int} (hg : sGv yReg yGu gv) : ySum gv yQ513 := yOk hg (F := 500) (sp := yP513) (L := yL513) (Qs := []) (by decide +kernel) yNil
/-- X12_has None None None 32 4 -/
noncomputable def yQ514 : sQ := (128, ([], [(0, 0, (0, [])), (0, 1, (0, []))], [(32, 32), (4, 4)], [], [(0, 0), (1, 1)], (0, [])), [(some (0, (0, [])), [], [], [], [])], [], 0)
noncomputable def yL514 : List (Nat × List sAp) := []
noncomputable def yP514 : List (sE × List Int) := []
theorem yS514 {gv : Nat → zH → Int} (hg : sGv yReg yGu gv) : ySum gv yQ514 := yOk hg (F := 500) (sp := yP514) (L := yL514) (Qs := []) (by decide +kernel) yNil
/-- X12_has None None None 32 5 -/
noncomputable def yQ515 : sQ := (128, ([], [(0, 0, (0, [])), (0, 1, (0, []))], [(32, 32), (5, 5)], [], [(0, 0), (1, 1)], (0, [])), [(some (0, (1, [])), [], [], [], [])], [], 0)
noncomputable def yL515 : List (Nat × List sAp) := []
noncomputable def yP515 : List (sE × List Int) := []
theorem yS515 {gv : Nat → zH → Int} (hg : sGv yReg yGu gv) : ySum gv yQ515 := yOk hg (F := 500) (sp := yP515) (L := yL515) (Qs := []) (by decide +kernel) yNil
/-- X12_has None None None 33 0 -/
noncomputable def yQ516 : sQ := (128, ([], [(0, 0, (0, [])), (0, 1, (0, []))], [(33, 33), (0, 0)], [], [(0, 0), (1, 1)], (0, [])), [(some (0, (1, [])), [], [], [], [])], [], 0)
noncomputable def yL516 : List (Nat × List sAp) := []
noncomputable def yP516 : List (sE × List Int) := []
theorem yS516 {gv : Nat → zH → Int} (hg : sGv yReg yGu gv) : ySum gv yQ516 := yOk hg (F := 500) (sp := yP516) (L := yL516) (Qs := []) (by decide +kernel) yNil
/-- X12_has None None None 33 1 -/
noncomputable def yQ517 : sQ := (128, ([], [(0, 0, (0, [])), (0, 1, (0, []))], [(33, 33), (1, 1)], [], [(0, 0), (1, 1)], (0, [])), [(some (0, (0, [])), [], [], [], [])], [], 0)
noncomputable def yL517 : List (Nat × List sAp) := []
noncomputable def yP517 : List (sE × List Int) := []
theorem yS517 {gv : Nat → zH → Int} (hg : sGv yReg yGu gv) : ySum gv yQ517 := yOk hg (F := 500) (sp := yP517) (L := yL517) (Qs := []) (by decide +kernel) yNil
/-- X12_has None None None 33 2 -/
noncomputable def yQ518 : sQ := (128, ([], [(0, 0, (0, [])), (0, 1, (0, []))], [(33, 33), (2, 2)], [], [(0, 0), (1, 1)], (0, [])), [(some (0, (0, [])), [], [], [], [])], [], 0)
noncomputable def yL518 : List (Nat × List sAp) := []
noncomputable def yP518 : List (sE × List Int) := []
theorem yS518 {gv : Nat → zH → Int} (hg : sGv yReg yGu gv) : ySum gv yQ518 := yOk hg (F := 500) (sp := yP518) (L := yL518) (Qs := []) (by decide +kernel) yNil
/-- X12_has None None None 33 3 -/
noncomputable def yQ519 : sQ := (128, ([], [(0, 0, (0, [])), (0, 1, (0, []))], [(33, 33), (3, 3)], [], [(0, 0), (1, 1)], (0, [])), [(some (0, (0, [])), [], [], [], [])], [], 0)
noncomputable def yL519 : List (Nat × List sAp) := []
noncomputable def yP519 : List (sE × List Int) := []
theorem yS519 {gv : Nat → zH → Int} (hg : sGv yReg yGu gv) : ySum gv yQ519 := yOk hg (F := 500) (sp := yP519) (L := yL519) (Qs := []) (by decide +kernel) yNil
/-- X12_has None None None 33 4 -/
noncomputable def yQ520 : sQ := (128, ([], [(0, 0, (0, [])), (0, 1, (0, []))], [(33, 33), (4, 4)], [], [(0, 0), (1, 1)], (0, [])), [(some (0, (0, [])), [], [], [], [])], [], 0)
noncomputable def yL520 : List (Nat × List sAp) := []
noncomputable def yP520 : List (sE × List Int) := []
theorem yS520 {gv : Nat → zH → Int} (hg : sGv yReg yGu gv) : ySum gv yQ520 := yOk hg (F := 500) (sp := yP520) (L := yL520) (Qs := []) (by decide +kernel) yNil
/-- X12_has None None None 33 5 -/
noncomputable def yQ521 : sQ := (128, ([], [(0, 0, (0, [])), (0, 1, (0, []))], [(33, 33), (5, 5)], [], [(0, 0), (1, 1)], (0, [])), [(some (0, (1, [])), [], [], [], [])], [], 0)
noncomputable def yL521 : List (Nat × List sAp) := []
noncomputable def yP521 : List (sE × List Int) := []
theorem yS521 {gv : Nat → zH → Int} (hg : sGv yReg yGu gv) : ySum gv yQ521 := yOk hg (F := 500) (sp := yP521) (L := yL521) (Qs := []) (by decide +kernel) yNil
/-- X12_has None None None 34 0 -/
noncomputable def yQ522 : sQ := (128, ([], [(0, 0, (0, [])), (0, 1, (0, []))], [(34, 34), (0, 0)], [], [(0, 0), (1, 1)], (0, [])), [(some (0, (0, [])), [], [], [], [])], [], 0)
noncomputable def yL522 : List (Nat × List sAp) := []
noncomputable def yP522 : List (sE × List Int) := []
theorem yS522 {gv : Nat → zH → Int} (hg : sGv yReg yGu gv) : ySum gv yQ522 := yOk hg (F := 500) (sp := yP522) (L := yL522) (Qs := []) (by decide +kernel) yNil
/-- X12_has None None None 34 1 -/
noncomputable def yQ523 : sQ := (128, ([], [(0, 0, (0, [])), (0, 1, (0, []))], [(34, 34), (1, 1)], [], [(0, 0), (1, 1)], (0, [])), [(some (0, (1, [])), [], [], [], [])], [], 0)
noncomputable def yL523 : List (Nat × List sAp) := []
noncomputable def yP523 : List (sE × List Int) := []
theorem yS523 {gv : Nat → zH → Int} (hg : sGv yReg yGu gv) : ySum gv yQ523 := yOk hg (F := 500) (sp := yP523) (L := yL523) (Qs := []) (by decide +kernel) yNil
/-- X12_has None None None 34 2 -/
noncomputable def yQ524 : sQ := (128, ([], [(0, 0, (0, [])), (0, 1, (0, []))], [(34, 34), (2, 2)], [], [(0, 0), (1, 1)], (0, [])), [(some (0, (0, [])), [], [], [], [])], [], 0)
noncomputable def yL524 : List (Nat × List sAp) := []
noncomputable def yP524 : List (sE × List Int) := []
theorem yS524 {gv : Nat → zH → Int} (hg : sGv yReg yGu gv) : ySum gv yQ524 := yOk hg (F := 500) (sp := yP524) (L := yL524) (Qs := []) (by decide +kernel) yNil
/-- X12_has None None None 34 3 -/
noncomputable def yQ525 : sQ := (128, ([], [(0, 0, (0, [])), (0, 1, (0, []))], [(34, 34), (3, 3)], [], [(0, 0), (1, 1)], (0, [])), [(some (0, (0, [])), [], [], [], [])], [], 0)
noncomputable def yL525 : List (Nat × List sAp) := []
noncomputable def yP525 : List (sE × List Int) := []
theorem yS525 {gv : Nat → zH → Int} (hg : sGv yReg yGu gv) : ySum gv yQ525 := yOk hg (F := 500) (sp := yP525) (L := yL525) (Qs := []) (by decide +kernel) yNil
/-- X12_has None None None 34 4 -/
noncomputable def yQ526 : sQ := (128, ([], [(0, 0, (0, [])), (0, 1, (0, []))], [(34, 34), (4, 4)], [], [(0, 0), (1, 1)], (0, [])), [(some (0, (0, [])), [], [], [], [])], [], 0)
noncomputable def yL526 : List (Nat × List sAp) := []
noncomputable def yP526 : List (sE × List Int) := []
theorem yS526 {gv : Nat → zH → Int} (hg : sGv yReg yGu gv) : ySum gv yQ526 := yOk hg (F := 500) (sp := yP526) (L := yL526) (Qs := []) (by decide +kernel) yNil
/-- X12_has None None None 34 5 -/
noncomputable def yQ527 : sQ := (128, ([], [(0, 0, (0, [])), (0, 1, (0, []))], [(34, 34), (5, 5)], [], [(0, 0), (1, 1)], (0, [])), [(some (0, (1, [])), [], [], [], [])], [], 0)
noncomputable def yL527 : List (Nat × List sAp) := []
noncomputable def yP527 : List (sE × List Int) := []
theorem yS527 {gv : Nat → zH → Int} (hg : sGv yReg yGu gv) : ySum gv yQ527 := yOk hg (F := 500) (sp := yP527) (L := yL527) (Qs := []) (by decide +kernel) yNil
/-- X12_has None None None 35 0 -/
noncomputable def yQ528 : sQ := (128, ([], [(0, 0, (0, [])), (0, 1, (0, []))], [(35, 35), (0, 0)], [], [(0, 0), (1, 1)], (0, [])), [(some (0, (1, [])), [], [], [], [])], [], 0)
noncomputable def yL528 : List (Nat × List sAp) := []
noncomputable def yP528 : List (sE × List Int) := []
theorem yS528 {gv : Nat → zH → Int} (hg : sGv yReg yGu gv) : ySum gv yQ528 := yOk hg (F := 500) (sp := yP528) (L := yL528) (Qs := []) (by decide +kernel) yNil
/-- X12_has None None None 35 1 -/
noncomputable def yQ529 : sQ := (128, ([], [(0, 0, (0, [])), (0, 1, (0, []))], [(35, 35), (1, 1)], [], [(0, 0), (1, 1)], (0, [])), [(some (0, (1, [])), [], [], [], [])], [], 0)
noncomputable def yL529 : List (Nat × List sAp) := []
noncomputable def yP529 : List (sE × List Int) := []
theorem yS529 {gv : Nat → zH → Int} (hg : sGv yReg yGu gv) : ySum gv yQ529 := yOk hg (F := 500) (sp := yP529) (L := yL529) (Qs := []) (by decide +kernel) yNil
/-- X12_has None None None 35 2 -/
noncomputable def yQ530 : sQ := (128, ([], [(0, 0, (0, [])), (0, 1, (0, []))], [(35, 35), (2, 2)], [], [(0, 0), (1, 1)], (0, [])), [(some (0, (0, [])), [], [], [], [])], [], 0)
noncomputable def yL530 : List (Nat × List sAp) := []
noncomputable def yP530 : List (sE × List Int) := []
theorem yS530 {gv : Nat → zH → Int} (hg : sGv yReg yGu gv) : ySum gv yQ530 := yOk hg (F := 500) (sp := yP530) (L := yL530) (Qs := []) (by decide +kernel) yNil
/-- X12_has None None None 35 3 -/
noncomputable def yQ531 : sQ := (128, ([], [(0, 0, (0, [])), (0, 1, (0, []))], [(35, 35), (3, 3)], [], [(0, 0), (1, 1)], (0, [])), [(some (0, (0, [])), [], [], [], [])], [], 0)
noncomputable def yL531 : List (Nat × List sAp) := []
noncomputable def yP531 : List (sE × List Int) := []
theorem yS531 {gv : Nat → zH → Int} (hg : sGv yReg yGu gv) : ySum gv yQ531 := yOk hg (F := 500) (sp := yP531) (L := yL531) (Qs := []) (by decide +kernel) yNil
/-- X12_has None None None 35 4 -/
noncomputable def yQ532 : sQ := (128, ([], [(0, 0, (0, [])), (0, 1, (0, []))], [(35, 35), (4, 4)], [], [(0, 0), (1, 1)], (0, [])), [(some (0, (0, [])), [], [], [], [])], [], 0)
noncomputable def yL532 : List (Nat × List sAp) := []
noncomputable def yP532 : List (sE × List Int) := []
theorem yS532 {gv : Nat → zH → Int} (hg : sGv yReg yGu gv) : ySum gv yQ532 := yOk hg (F := 500) (sp := yP532) (L := yL532) (Qs := []) (by decide +kernel) yNil
/-- X12_has None None None 35 5 -/
noncomputable def yQ533 : sQ := (128, ([], [(0, 0, (0, [])), (0, 1, (0, []))], [(35, 35), (5, 5)], [], [(0, 0), (1, 1)], (0, [])), [(some (0, (1, [])), [], [], [], [])], [], 0)
noncomputable def yL533 : List (Nat × List sAp) := []
noncomputable def yP533 : List (sE × List Int) := []
theorem yS533 {gv : Nat → zH → Int} (hg : sGv yReg yGu gv) : ySum gv yQ533 := yOk hg (F := 500) (sp := yP533) (L := yL533) (Qs := []) (by decide +kernel) yNil
/-- X12_has None None None 36 0 -/
noncomputable def yQ534 : sQ := (128, ([], [(0, 0, (0, [])), (0, 1, (0, []))], [(36, 36), (0, 0)], [], [(0, 0), (1, 1)], (0, [])), [(some (0, (0, [])), [], [], [], [])], [], 0)
noncomputable def yL534 : List (Nat × List sAp) := []
noncomputable def yP534 : List (sE × List Int) := []
theorem yS534 {gv : Nat → zH → Int} (hg : sGv yReg yGu gv) : ySum gv yQ534 := yOk hg (F := 500) (sp := yP534) (L := yL534) (Qs := []) (by decide +kernel) yNil
/-- X12_has None None None 36 1 -/
noncomputable def yQ535 : sQ := (128, ([], [(0, 0, (0, [])), (0, 1, (0, []))], [(36, 36), (1, 1)], [], [(0, 0), (1, 1)], (0, [])), [(some (0, (0, [])), [], [], [], [])], [], 0)
noncomputable def yL535 : List (Nat × List sAp) := []
noncomputable def yP535 : List (sE × List Int) := []
theorem yS535 {gv : Nat → zH → Int} (hg : sGv yReg yGu gv) : ySum gv yQ535 := yOk hg (F := 500) (sp := yP535) (L := yL535) (Qs := []) (by decide +kernel) yNil
