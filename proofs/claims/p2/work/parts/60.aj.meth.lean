/-! methods told of -/
/-- X12_has None None None 36 2 -/
noncomputable def yQ536 : sQ := (128, ([], [(0, 0, (0, [])), (0, 1, (0, []))], [(36, 36), (2, 2)], [], [(0, 0), (1, 1)], (0, [])), [(some (0, (1, [])), [], [], [], [])], [], 0)
noncomputable def yL536 : List (Nat × List sAp) := []
noncomputable def yP536 : List (sE × List Int) := []
theorem yS536 {gv : Nat → zH → Int} (hg : sGv yReg yGu gv) : ySum gv yQ536 := yOk hg (F := 500) (sp := yP536) (L := yL536) (Qs := []) (by decide +kernel) yNil
/-- X12_has None None None 36 3 -/
noncomputable def yQ537 : sQ := (128, ([], [(0, 0, (0, [])), (0, 1, (0, []))], [(36, 36), (3, 3)], [], [(0, 0), (1, 1)], (0, [])), [(some (0, (0, [])), [], [], [], [])], [], 0)
noncomputable def yL537 : List (Nat × List sAp) := []
noncomputable def yP537 : List (sE × List Int) := []
theorem yS537 {gv : Nat → zH → Int} (hg : sGv yReg yGu gv) : ySum gv yQ537 := yOk hg (F := 500) (sp := yP537) (L := yL537) (Qs := []) (by decide +kernel) yNil
/-- X12_has None None None 36 4 -/
noncomputable def yQ538 : sQ := (128, ([], [(0, 0, (0, [])), (0, 1, (0, []))], [(36, 36), (4, 4)], [], [(0, 0), (1, 1)], (0, [])), [(some (0, (0, [])), [], [], [], [])], [], 0)
noncomputable def yL538 : List (Nat × List sAp) := []
noncomputable def yP538 : List (sE × List Int) := []
theorem yS538 {gv : Nat → zH → Int} (hg : sGv yReg yGu gv) : ySum gv yQ538 := yOk hg (F := 500) (sp := yP538) (L := yL538) (Qs := []) (by decide +kernel) yNil
/-- X12_has None None None 36 5 -/
noncomputable def yQ539 : sQ := (128, ([], [(0, 0, (0, [])), (0, 1, (0, []))], [(36, 36), (5, 5)], [], [(0, 0), (1, 1)], (0, [])), [(some (0, (1, [])), [], [], [], [])], [], 0)
noncomputable def yL539 : List (Nat × List sAp) := []
noncomputable def yP539 : List (sE × List Int) := []
theorem yS539 {gv : Nat → zH → Int} (hg : sGv yReg yGu gv) : ySum gv yQ539 := yOk hg (F := 500) (sp := yP539) (L := yL539) (Qs := []) (by decide +kernel) yNil
/-- X12_has None None None 37 0 -/
noncomputable def yQ540 : sQ := (128, ([], [(0, 0, (0, [])), (0, 1, (0, []))], [(37, 37), (0, 0)], [], [(0, 0), (1, 1)], (0, [])), [(some (0, (1, [])), [], [], [], [])], [], 0)
noncomputable def yL540 : List (Nat × List sAp) := []
noncomputable def yP540 : List (sE × List Int) := []
theorem yS540 {gv : Nat → zH → Int} (hg : sGv yReg yGu gv) : ySum gv yQ540 := yOk hg (F := 500) (sp := yP540) (L := yL540) (Qs := []) (by decide +kernel) yNil
/-- X12_has None None None 37 1 -/
noncomputable def yQ541 : sQ := (128, ([], [(0, 0, (0, [])), (0, 1, (0, []))], [(37, 37), (1, 1)], [], [(0, 0), (1, 1)], (0, [])), [(some (0, (0, [])), [], [], [], [])], [], 0)
noncomputable def yL541 : List (Nat × List sAp) := []
noncomputable def yP541 : List (sE × List Int) := []
theorem yS541 {gv : Nat → zH → Int} (hg : sGv yReg yGu gv) : ySum gv yQ541 := yOk hg (F := 500) (sp := yP541) (L := yL541) (Qs := []) (by decide +kernel) yNil
/-- X12_has None None None 37 2 -/
noncomputable def yQ542 : sQ := (128, ([], [(0, 0, (0, [])), (0, 1, (0, []))], [(37, 37), (2, 2)], [], [(0, 0), (1, 1)], (0, [])), [(some (0, (1, [])), [], [], [], [])], [], 0)
noncomputable def yL542 : List (Nat × List sAp) := []
noncomputable def yP542 : List (sE × List Int) := []
theorem yS542 {gv : Nat → zH → Int} (hg : sGv yReg yGu gv) : ySum gv yQ542 := yOk hg (F := 500) (sp := yP542) (L := yL542) (Qs := []) (by decide +kernel) yNil
/-- X12_has None None None 37 3 -/
noncomputable def yQ543 : sQ := (128, ([], [(0, 0, (0, [])), (0, 1, (0, []))], [(37, 37), (3, 3)], [], [(0, 0), (1, 1)], (0, [])), [(some (0, (0, [])), [], [], [], [])], [], 0)
noncomputable def yL543 : List (Nat × List sAp) := []
noncomputable def yP543 : List (sE × List Int) := []
theorem yS543 {gv : Nat → zH → Int} (hg : sGv yReg yGu gv) : ySum gv yQ543 := yOk hg (F := 500) (sp := yP543) (L := yL543) (Qs := []) (by decide +kernel) yNil
/-- X12_has None None None 37 4 -/
noncomputable def yQ544 : sQ := (128, ([], [(0, 0, (0, [])), (0, 1, (0, []))], [(37, 37), (4, 4)], [], [(0, 0), (1, 1)], (0, [])), [(some (0, (0, [])), [], [], [], [])], [], 0)
noncomputable def yL544 : List (Nat × List sAp) := []
noncomputable def yP544 : List (sE × List Int) := []
theorem yS544 {gv : Nat → zH → Int} (hg : sGv yReg yGu gv) : ySum gv yQ544 := yOk hg (F := 500) (sp := yP544) (L := yL544) (Qs := []) (by decide +kernel) yNil
/-- X12_has None None None 37 5 -/
noncomputable def yQ545 : sQ := (128, ([], [(0, 0, (0, [])), (0, 1, (0, []))], [(37, 37), (5, 5)], [], [(0, 0), (1, 1)], (0, [])), [(some (0, (1, [])), [], [], [], [])], [], 0)
noncomputable def yL545 : List (Nat × List sAp) := []
noncomputable def yP545 : List (sE × List Int) := []
theorem yS545 {gv : Nat → zH → Int} (hg : sGv yReg yGu gv) : ySum gv yQ545 := yOk hg (F := 500) (sp := yP545) (L := yL545) (Qs := []) (by decide +kernel) yNil
/-- X12_has None None None 38 0 -/
noncomputable def yQ546 : sQ := (128, ([], [(0, 0, (0, [])), (0, 1, (0, []))], [(38, 38), (0, 0)], [], [(0, 0), (1, 1)], (0, [])), [(some (0, (0, [])), [], [], [], [])], [], 0)
noncomputable def yL546 : List (Nat × List sAp) := []
noncomputable def yP546 : List (sE × List Int) := []
theorem yS546 {gv : Nat → zH → Int} (hg : sGv yReg yGu gv) : ySum gv yQ546 := yOk hg (F := 500) (sp := yP546) (L := yL546) (Qs := []) (by decide +kernel) yNil
/-- X12_has None None None 38 1 -/
noncomputable def yQ547 : sQ := (128, ([], [(0, 0, (0, [])), (0, 1, (0, []))], [(38, 38), (1, 1)], [], [(0, 0), (1, 1)], (0, [])), [(some (0, (1, [])), [], [], [], [])], [], 0)
noncomputable def yL547 : List (Nat × List sAp) := []
noncomputable def yP547 : List (sE × List Int) := []
theorem yS547 {gv : Nat → zH → Int} (hg : sGv yReg yGu gv) : ySum gv yQ547 := yOk hg (F := 500) (sp := yP547) (L := yL547) (Qs := []) (by decide +kernel) yNil
/-- X12_has None None None 38 2 -/
noncomputable def yQ548 : sQ := (128, ([], [(0, 0, (0, [])), (0, 1, (0, []))], [(38, 38), (2, 2)], [], [(0, 0), (1, 1)], (0, [])), [(some (0, (1, [])), [], [], [], [])], [], 0)
noncomputable def yL548 : List (Nat × List sAp) := []
noncomputable def yP548 : List (sE × List Int) := []
theorem yS548 {gv : Nat → zH → Int} (hg : sGv yReg yGu gv) : ySum gv yQ548 := yOk hg (F := 500) (sp := yP548) (L := yL548) (Qs := []) (by decide +kernel) yNil
/-- X12_has None None None 38 3 -/
noncomputable def yQ549 : sQ := (128, ([], [(0, 0, (0, [])), (0, 1, (0, []))], [(38, 38), (3, 3)], [], [(0, 0), (1, 1)], (0, [])), [(some (0, (0, [])), [], [], [], [])], [], 0)
noncomputable def yL549 : List (Nat × List sAp) := []
noncomputable def yP549 : List (sE × List Int) := []
theorem yS549 {gv : Nat → zH → Int} (hg : sGv yReg yGu gv) : ySum gv yQ549 := yOk hg (F := 500) (sp := yP549) (L := yL549) (Qs := []) (by decide +kernel) yNil
/-- X12_has None None None 38 4 -/
noncomputable def yQ550 : sQ := (128, ([], [(0, 0, (0, [])), (0, 1, (0, []))], [(38, 38), (4, 4)], [], [(0, 0), (1, 1)], (0, [])), [(some (0, (0, [])), [], [], [], [])], [], 0)
noncomputable def yL550 : List (Nat × List sAp) := []
noncomputable def yP550 : List (sE × List Int) := []
theorem yS550 {gv : Nat → zH → Int} (hg : sGv yReg yGu gv) : ySum gv yQ550 := yOk hg (F := 500) (sp := yP550) (L := yL550) (Qs := []) (by decide +kernel) yNil
/-- X12_has None None None 38 5 -/
noncomputable def yQ551 : sQ := (128, ([], [(0, 0, (0, [])), (0, 1, (0, []))], [(38, 38), (5, 5)], [], [(0, 0), (1, 1)], (0, [])), [(some (0, (1, [])), [], [], [], [])], [], 0)
noncomputable def yL551 : List (Nat × List sAp) := []
noncomputable def yP551 : List (sE × List Int) := []
theorem yS551 {gv : Nat → zH → Int} (hg : sGv yReg yGu gv) : ySum gv yQ551 := yOk hg (F := 500) (sp := yP551) (L := yL551) (Qs := []) (by decide +kernel) yNil
/-- X12_has None None None 39 0 -/
noncomputable def yQ552 : sQ := (128, ([], [(0, 0, (0, [])), (0, 1, (0, []))], [(39, 39), (0, 0)], [], [(0, 0), (1, 1)], (0, [])), [(some (0, (1, [])), [], [], [], [])], [], 0)
noncomputable def yL552 : List (Nat × List sAp) := []
noncomputable def yP552 : List (sE × List Int) := []
theorem yS552 {gv : Nat → zH → Int} (hg : sGv yReg yGu gv) : ySum gv yQ552 := yOk hg (F := 500) (sp := yP552) (L := yL552) (Qs := []) (by decide +kernel) yNil
/-- X12_has None None None 39 1 -/
noncomputable def yQ553 : sQ := (128, ([], [(0, 0, (0, [])), (0, 1, (0, []))], [(39, 39), (1, 1)], [], [(0, 0), (1, 1)], (0, [])), [(some (0, (1, [])), [], [], [], [])], [], 0)
noncomputable def yL553 : List (Nat × List sAp) := []
noncomputable def yP553 : List (sE × List Int) := []
theorem yS553 {gv : Nat → zH → Int} (hg : sGv yReg yGu gv) : ySum gv yQ553 := yOk hg (F := 500) (sp := yP553) (L := yL553) (Qs := []) (by decide +kernel) yNil
/-- X12_has None None None 39 2 -/
noncomputable def yQ554 : sQ := (128, ([], [(0, 0, (0, [])), (0, 1, (0, []))], [(39, 39), (2, 2)], [], [(0, 0), (1, 1)], (0, [])), [(some (0, (1, [])), [], [], [], [])], [], 0)
noncomputable def yL554 : List (Nat × List sAp) := []
noncomputable def yP554 : List (sE × List Int) := []
theorem yS554 {gv : Nat → zH → Int} (hg : sGv yReg yGu gv) : ySum gv yQ554 := yOk hg (F := 500) (sp := yP554) (L := yL554) (Qs := []) (by decide +kernel) yNil
/-- X12_has None None None 39 3 -/
noncomputable def yQ555 : sQ := (128, ([], [(0, 0, (0, [])), (0, 1, (0, []))], [(39, 39), (3, 3)], [], [(0, 0), (1, 1)], (0, [])), [(some (0, (0, [])), [], [], [], [])], [], 0)
noncomputable def yL555 : List (Nat × List sAp) := []
noncomputable def yP555 : List (sE × List Int) := []
theorem yS555 {gv : Nat → zH → Int} (hg : sGv yReg yGu gv) : ySum gv yQ555 := yOk hg (F := 500) (sp := yP555) (L := yL555) (Qs := []) (by decide +kernel) yNil
/-- X12_has None None None 39 4 -/
noncomputable def yQ556 : sQ := (128, ([], [(0, 0, (0, [])), (0, 1, (0, []))], [(39, 39), (4, 4)], [], [(0, 0), (1, 1)], (0, [])), [(some (0, (0, [])), [], [], [], [])], [], 0)
noncomputable def yL556 : List (Nat × List sAp) := []
noncomputable def yP556 : List (sE × List Int) := []
theorem yS556 {gv : Nat → zH → Int} (hg : sGv yReg yGu gv) : ySum gv yQ556 := yOk hg (F := 500) (sp := yP556) (L := yL556) (Qs := []) (by decide +kernel) yNil
/-- X12_has None None None 39 5 -/
noncomputable def yQ557 : sQ := (128, ([], [(0, 0, (0, [])), (0, 1, (0, []))], [(39, 39), (5, 5)], [], [(0, 0), (1, 1)], (0, [])), [(some (0, (1, [])), [], [], [], [])], [], 0)
noncomputable def yL557 : List (Nat × List sAp) := []
noncomputable def yP557 : List (sE × List Int) := []
theorem yS557 {gv : Nat → zH → Int} (hg : sGv yReg yGu gv) : ySum gv yQ557 := yOk hg (F := 500) (sp := yP557) (L := yL557) (Qs := []) (by decide +kernel) yNil
/-- X12_has None None None 4 0 -/
noncomputable def yQ558 : sQ := (128, ([], [(0, 0, (0, [])), (0, 1, (0, []))], [(4, 4), (0, 0)], [], [(0, 0), (1, 1)], (0, [])), [(some (0, (0, [])), [], [], [], [])], [], 0)
noncomputable def yL558 : List (Nat × List sAp) := []
noncomputable def yP558 : List (sE × List Int) := []
theorem yS558 {gv : Nat → zH → Int} (hg : sGv yReg yGu gv) : ySum gv yQ558 := yOk hg (F := 500) (sp := yP558) (L := yL558) (Qs := []) (by decide +kernel) yNil
/-- X12_has None None None 4 1 -/
noncomputable def yQ559 : sQ := (128, ([], [(0, 0, (0, [])), (0, 1, (0, []))], [(4, 4), (1, 1)], [], [(0, 0), (1, 1)], (0, [])), [(some (0, (0, [])), [], [], [], [])], [], 0)
noncomputable def yL559 : List (Nat × List sAp) := []
noncomputable def yP559 : List (sE × List Int) := []
theorem yS559 {gv : Nat → zH → Int} (hg : sGv yReg yGu gv) : ySum gv yQ559 := yOk hg (F := 500) (sp := yP559) (L := yL559) (Qs := []) (by decide +kernel) yNil
/-- X12_has None None None 4 2 -/
noncomputable def yQ560 : sQ := (128, ([], [(0, 0, (0, [])), (0, 1, (0, []))], [(4, 4), (2, 2)], [], [(0, 0), (1, 1)], (0, [])), [(some (0, (1, [])), [], [], [], [])], [], 0)
noncomputable def yL560 : List (Nat × List sAp) := []
noncomputable def yP560 : List (sE × List Int) := []
theorem yS560 {gv : Nat → zH → Int} (hg : sGv yReg yGu gv) : ySum gv yQ560 := yOk hg (F := 500) (sp := yP560) (L := yL560) (Qs := []) (by decide +kernel) yNil
/-- X12_has None None None 4 3 -/
noncomputable def yQ561 : sQ := (128, ([], [(0, 0, (0, [])), (0, 1, (0, []))], [(4, 4), (3, 3)], [], [(0, 0), (1, 1)], (0, [])), [(some (0, (0, [])), [], [], [], [])], [], 0)
noncomputable def yL561 : List (Nat × List sAp) := []
noncomputable def yP561 : List (sE × List Int) := []
theorem yS561 {gv : Nat → zH → Int} (hg : sGv yReg yGu gv) : ySum gv yQ561 := yOk hg (F := 500) (sp := yP561) (L := yL561) (Qs := []) (by decide +kernel) yNil
/-- X12_has None None None 4 4 -/
noncomputable def yQ562 : sQ := (128, ([], [(0, 0, (0, [])), (0, 1, (0, []))], [(4, 4), (4, 4)], [], [(0, 0), (1, 1)], (0, [])), [(some (0, (0, [])), [], [], [], [])], [], 0)
noncomputable def yL562 : List (Nat × List sAp) := []
noncomputable def yP562 : List (sE × List Int) := []
theorem yS562 {gv : Nat → zH → Int} (hg : sGv yReg yGu gv) : ySum gv yQ562 := yOk hg (F := 500) (sp := yP562) (L := yL562) (Qs := []) (by decide +kernel) yNil
/-- X12_has None None None 4 5 -/
noncomputable def yQ563 : sQ := (128, ([], [(0, 0, (0, [])), (0, 1, (0, []))], [(4, 4), (5, 5)], [], [(0, 0), (1, 1)], (0, [])), [(some (0, (0, [])), [], [], [], [])], [], 0)
noncomputable def yL563 : List (Nat × List sAp) := []
noncomputable def yP563 : List (sE × List Int) := []
theorem yS563 {gv : Nat → zH → Int} (hg : sGv yReg yGu gv) : ySum gv yQ563 := yOk hg (F := 500) (sp := yP563) (L := yL563) (Qs := []) (by decide +kernel) yNil
/-- X12_has None None None 40 0 -/
noncomputable def yQ564 : sQ := (128, ([], [(0, 0, (0, [])), (0, 1, (0, []))], [(40, 40), (0, 0)], [], [(0, 0), (1, 1)], (0, [])), [(some (0, (0, [])), [], [], [], [])], [], 0)
noncomputable def yL564 : List (Nat × List sAp) := []
noncomputable def yP564 : List (sE × List Int) := []
theorem yS564 {gv : Nat → zH → Int} (hg : sGv yReg yGu gv) : ySum gv yQ564 := yOk hg (F := 500) (sp := yP564) (L := yL564) (Qs := []) (by decide +kernel) yNil
/-- X12_has None None None 40 1 -/
noncomputable def yQ565 : sQ := (128, ([], [(0, 0, (0, [])), (0, 1, (0, []))], [(40, 40), (1, 1)], [], [(0, 0), (1, 1)], (0, [])), [(some (0, (0, [])), [], [], [], [])], [], 0)
noncomputable def yL565 : List (Nat × List sAp) := []
noncomputable def yP565 : List (sE × List Int) := []
theorem yS565 {gv : Nat → zH → Int} (hg : sGv yReg yGu gv) : ySum gv yQ565 := yOk hg (F := 500) (sp := yP565) (L := yL565) (Qs := []) (by decide +kernel) yNil
/-- X12_has None None None 40 2 -/
noncomputable def yQ566 : sQ := (128, ([], [(0, 0, (0, [])), (0, 1, (0, []))], [(40, 40), (2, 2)], [], [(0, 0), (1, 1)], (0, [])), [(some (0, (0, [])), [], [], [], [])], [], 0)
noncomputable def yL566 : List (Nat × List sAp) := []
noncomputable def yP566 : List (sE × List Int) := []
theorem yS566 {gv : Nat → zH → Int} (hg : sGv yReg yGu gv) : ySum gv yQ566 := yOk hg (F := 500) (sp := yP566) (L := yL566) (Qs := []) (by decide +kernel) yNil
/-- X12_has None None None 40 3 -/
noncomputable def yQ567 : sQ := (128, ([], [(0, 0, (0, [])), (0, 1, (0, []))], [(40, 40), (3, 3)], [], [(0, 0), (1, 1)], (0, [])), [(some (0, (1, [])), [], [], [], [])], [], 0)
noncomputable def yL567 : List (Nat × List sAp) := []
noncomputable def yP567 : List (sE × List Int) := []
theorem yS567 {gv : Nat → zH → Int} (hg : sGv yReg yGu gv) : ySum gv yQ567 := yOk hg (F := 500) (sp := yP567) (L := yL567) (Qs := []) (by decide +kernel) yNil
/-- X12_has None None None 40 4 -/
noncomputable def yQ568 : sQ := (128, ([], [(0, 0, (0, [])), (0, 1, (0, []))], [(40, 40), (4, 4)], [], [(0, 0), (1, 1)], (0, [])), [(some (0, (0, [])), [], [], [], [])], [], 0)
noncomputable def yL568 : List (Nat × List sAp) := []
noncomputable def yP568 : List (sE × List Int) := []
theorem yS568 {gv : Nat → zH → Int} (hg : sGv yReg yGu gv) : ySum gv yQ568 := yOk hg (F := 500) (sp := yP568) (L := yL568) (Qs := []) (by decide +kernel) yNil
/-- X12_has None None None 40 5 -/
noncomputable def yQ569 : sQ := (128, ([], [(0, 0, (0, [])), (0, 1, (0, []))], [(40, 40), (5, 5)], [], [(0, 0), (1, 1)], (0, [])), [(some (0, (1, [])), [], [], [], [])], [], 0)
noncomputable def yL569 : List (Nat × List sAp) := []
noncomputable def yP569 : List (sE × List Int) := []
theorem yS569 {gv : Nat → zH → Int} (hg : sGv yReg yGu gv) : ySum gv yQ569 := yOk hg (F := 500) (sp := yP569) (L := yL569) (Qs := []) (by decide +kernel) yNil
/-- X12_has None None None 41 0 -/
noncomputable def yQ570 : sQ := (128, ([], [(0, 0, (0, [])), (0, 1, (0, []))], [(41, 41), (0, 0)], [], [(0, 0), (1, 1)], (0, [])), [(some (0, (1, [])), [], [], [], [])], [], 0)
noncomputable def yL570 : List (Nat × List sAp) := []
noncomputable def yP570 : List (sE × List Int) := []
theorem yS570 {gv : Nat → zH → Int} (hg : sGv yReg yGu gv) : ySum gv yQ570 := yOk hg (F := 500) (sp := yP570) (L := yL570) (Qs := []) (by decide +kernel) yNil
/-- X12_has None None None 41 1 -/
noncomputable def yQ571 : sQ := (128, ([], [(0, 0, (0, [])), (0, 1, (0, []))], [(41, 41), (1, 1)], [], [(0, 0), (1, 1)], (0, [])), [(some (0, (0, [])), [], [], [], [])], [], 0)
noncomputable def yL571 : List (Nat × List sAp) := []
noncomputable def yP571 : List (sE × List Int) := []
theorem yS571 {gv : Nat → zH → Int} (hg : sGv yReg yGu gv) : ySum gv yQ571 := yOk hg (F := 500) (sp := yP571) (L := yL571) (Qs := []) (by decide +kernel) yNil
/-- X12_has None None None 41 2 -/
noncomputable def yQ572 : sQ := (128, ([], [(0, 0, (0, [])), (0, 1, (0, []))], [(41, 41), (2, 2)], [], [(0, 0), (1, 1)], (0, [])), [(some (0, (0, [])), [], [], [], [])], [], 0)
noncomputable def yL572 : List (Nat × List sAp) := []
noncomputable def yP572 : List (sE × List Int) := []
theorem yS572 {gv : Nat → zH → Int} (hg : sGv yReg yGu gv) : ySum gv yQ572 := yOk hg (F := 500) (sp := yP572) (L := yL572) (Qs := []) (by decide +kernel) yNil
/-- X12_has None None None 41 3 -/
noncomputable def yQ573 : sQ := (128, ([], [(0, 0, (0, [])), (0, 1, (0, []))], [(41, 41), (3, 3)], [], [(0, 0), (1, 1)], (0, [])), [(some (0, (1, [])), [], [], [], [])], [], 0)
noncomputable def yL573 : List (Nat × List sAp) := []
noncomputable def yP573 : List (sE × List Int) := []
theorem yS573 {gv : Nat → zH → Int} (hg : sGv yReg yGu gv) : ySum gv yQ573 := yOk hg (F := 500) (sp := yP573) (L := yL573) (Qs := []) (by decide +kernel) yNil
/-- X12_has None None None 41 4 -/
noncomputable def yQ574 : sQ := (128, ([], [(0, 0, (0, [])), (0, 1, (0, []))], [(41, 41), (4, 4)], [], [(0, 0), (1, 1)], (0, [])), [(some (0, (0, [])), [], [], [], [])], [], 0)
noncomputable def yL574 : List (Nat × List sAp) := []
noncomputable def yP574 : List (sE × List Int) := []
theorem yS574 {gv : Nat → zH → Int} (hg : sGv yReg yGu gv) : ySum gv yQ574 := yOk hg (F := 500) (sp := yP574) (L := yL574) (Qs := []) (by decide +kernel) yNil
/-- X12_has None None None 41 5 -/
noncomputable def yQ575 : sQ := (128, ([], [(0, 0, (0, [])), (0, 1, (0, []))], [(41, 41), (5, 5)], [], [(0, 0), (1, 1)], (0, [])), [(some (0, (1, [])), [], [], [], [])], [], 0)
noncomputable def yL575 : List (Nat × List sAp) := []
noncomputable def yP575 : List (sE × List Int) := []
theorem yS575 {gv : Nat → zH → Int} (hg : sGv yReg yGu gv) : ySum gv yQ575 := yOk hg (F := 500) (sp := yP575) (L := yL575) (Qs := []) (by decide +kernel) yNil
/-- X12_has None None None 42 0 -/
noncomputable def yQ576 : sQ := (128, ([], [(0, 0, (0, [])), (0, 1, (0, []))], [(42, 42), (0, 0)], [], [(0, 0), (1, 1)], (0, [])), [(some (0, (0, [])), [], [], [], [])], [], 0)
noncomputable def yL576 : List (Nat × List sAp) := []
noncomputable def yP576 : List (sE × List Int) := []
theorem yS576 {gv : Nat → zH → Int} (hg : sGv yReg yGu gv) : ySum gv yQ576 := yOk hg (F := 500) (sp := yP576) (L := yL576) (Qs := []) (by decide +kernel) yNil
/-- X12_has None None None 42 1 -/
noncomputable def yQ577 : sQ := (128, ([], [(0, 0, (0, [])), (0, 1, (0, []))], [(42, 42), (1, 1)], [], [(0, 0), (1, 1)], (0, [])), [(some (0, (1, [])), [], [], [], [])], [], 0)
noncomputable def yL577 : List (Nat × List sAp) := []
noncomputable def yP577 : List (sE × List Int) := []
theorem yS577 {gv : Nat → zH → Int} (hg : sGv yReg yGu gv) : ySum gv yQ577 := yOk hg (F := 500) (sp := yP577) (L := yL577) (Qs := []) (by decide +kernel) yNil
/-- X12_has None None None 42 2 -/
noncomputable def yQ578 : sQ := (128, ([], [(0, 0, (0, [])), (0, 1, (0, []))], [(42, 42), (2, 2)], [], [(0, 0), (1, 1)], (0, [])), [(some (0, (0, [])), [], [], [], [])], [], 0)
noncomputable def yL578 : List (Nat × List sAp) := []
noncomputable def yP578 : List (sE × List Int) := []
theorem yS578 {gv : Nat → zH → Int} (hg : sGv yReg yGu gv) : ySum gv yQ578 := yOk hg (F := 500) (sp := yP578) (L := yL578) (Qs := []) (by decide +kernel) yNil
/-- X12_has None None None 42 3 -/
noncomputable def yQ579 : sQ := (128, ([], [(0, 0, (0, [])), (0, 1, (0, []))], [(42, 42), (3, 3)], [], [(0, 0), (1, 1)], (0, [])), [(some (0, (1, [])), [], [], [], [])], [], 0)
noncomputable def yL579 : List (Nat × List sAp) := []
noncomputable def yP579 : List (sE × List Int) := []
theorem yS579 {gv : Nat → zH → Int} (hg : sGv yReg yGu gv) : ySum gv yQ579 := yOk hg (F := 500) (sp := yP579) (L := yL579) (Qs := []) (by decide +kernel) yNil
/-- X12_has None None None 42 4 -/
noncomputable def yQ580 : sQ := (128, ([], [(0, 0, (0, [])), (0, 1, (0, []))], [(42, 42), (4, 4)], [], [(0, 0), (1, 1)], (0, [])), [(some (0, (0, [])), [], [], [], [])], [], 0)
noncomputable def yL580 : List (Nat × List sAp) := []
noncomputable def yP580 : List (sE × List Int) := []
theorem yS580 {gv : Nat → zH → Int} (hg : sGv yReg yGu gv) : ySum gv yQ580 := yOk hg (F := 500) (sp := yP580) (L := yL580) (Qs := []) (by decide +kernel) yNil
/-- X12_has None None None 42 5 -/
noncomputable def yQ581 : sQ := (128, ([], [(0, 0, (0, [])), (0, 1, (0, []))], [(42, 42), (5, 5)], [], [(0, 0), (1, 1)], (0, [])), [(some (0, (1, [])), [], [], [], [])], [], 0)
noncomputable def yL581 : List (Nat × List sAp) := []
noncomputable def yP581 : List (sE × List Int) := []
theorem yS581 {gv : Nat → zH → Int} (hg : sGv yReg yGu gv) : ySum gv yQ581 := yOk hg (F := 500) (sp := yP581) (L := yL581) (Qs := []) (by decide +kernel) yNil
/-- X12_has None None None 43 0 -/
noncomputable def yQ582 : sQ := (128, ([], [(0, 0, (0, [])), (0, 1, (0, []))], [(43, 43), (0, 0)], [], [(0, 0), (1, 1)], (0, [])), [(some (0, (1, [])), [], [], [], [])], [], 0)
noncomputable def yL582 : List (Nat × List sAp) := []
noncomputable def yP582 : List (sE × List Int) := []
theorem yS582 {gv : Nat → zH → Int} (hg : sGv yReg yGu gv) : ySum gv yQ582 := yOk hg (F := 500) (sp := yP582) (L := yL582) (Qs := []) (by decide +kernel) yNil
/-- X12_has None None None 43 1 -/
noncomputable def yQ583 : sQ := (128, ([], [(0, 0, (0, [])), (0, 1, (0, []))], [(43, 43), (1, 1)], [], [(0, 0), (1, 1)], (0, [])), [(some (0, (1, [])), [], [], [], [])], [], 0)
noncomputable def yL583 : List (Nat × List sAp) := []
noncomputable def yP583 : List (sE × List Int) := []
theorem yS583 {gv : Nat → zH → Int} (hg : sGv yReg yGu gv) : ySum gv yQ583 := yOk hg (F := 500) (sp := yP583) (L := yL583) (Qs := []) (by decide +kernel) yNil
/-- X12_has None None None 43 2 -/
noncomputable def yQ584 : sQ := (128, ([], [(0, 0, (0, [])), (0, 1, (0, []))], [(43, 43), (2, 2)], [], [(0, 0), (1, 1)], (0, [])), [(some (0, (0, [])), [], [], [], [])], [], 0)
noncomputable def yL584 : List (Nat × List sAp) := []
noncomputable def yP584 : List (sE × List Int) := []
theorem yS584 {gv : Nat → zH → Int} (hg : sGv yReg yGu gv) : ySum gv yQ584 := yOk hg (F := 500) (sp := yP584) (L := yL584) (Qs := []) (by decide +kernel) yNil
/-- X12_has None None None 43 3 -/
noncomputable def yQ585 : sQ := (128, ([], [(0, 0, (0, [])), (0, 1, (0, []))], [(43, 43), (3, 3)], [], [(0, 0), (1, 1)], (0, [])), [(some (0, (1, [])), [], [], [], [])], [], 0)
noncomputable def yL585 : List (Nat × List sAp) := []
noncomputable def yP585 : List (sE × List Int) := []
theorem yS585 {gv : Nat → zH → Int} (hg : sGv yReg yGu gv) : ySum gv yQ585 := yOk hg (F := 500) (sp := yP585) (L := yL585) (Qs := []) (by decide +kernel) yNil
/-- X12_has None None None 43 4 -/
noncomputable def yQ586 : sQ := (128, ([], [(0, 0, (0, [])), (0, 1, (0, []))], [(43, 43), (4, 4)], [], [(0, 0), (1, 1)], (0, [])), [(some (0, (0, [])), [], [], [], [])], [], 0)
noncomputable def yL586 : List (Nat × List sAp) := []
noncomputable def yP586 : List (sE × List Int) := []
theorem yS586 {gv : Nat → zH → Int} (hg : sGv yReg yGu gv) : ySum gv yQ586 := yOk hg (F := 500) (sp := yP586) (L := yL586) (Qs := []) (by decide +kernel) yNil
/-- X12_has None None None 43 5 -/
noncomputable def yQ587 : sQ := (128, ([], [(0, 0, (0, [])), (0, 1, (0, []))], [(43, 43), (5, 5)], [], [(0, 0), (1, 1)], (0, [])), [(some (0, (1, [])), [], [], [], [])], [], 0)
noncomputable def yL587 : List (Nat × List sAp) := []
noncomputable def yP587 : List (sE × List Int) := []
theorem yS587 {gv : Nat → zH → Int} (hg : sGv yReg yGu gv) : ySum gv yQ587 := yOk hg (F := 500) (sp := yP587) (L := yL587) (Qs := []) (by decide +kernel) yNil
/-- X12_has None None None 44 0 -/
noncomputable def yQ588 : sQ := (128, ([], [(0, 0, (0, [])), (0, 1, (0, []))], [(44, 44), (0, 0)], [], [(0, 0), (1, 1)], (0, [])), [(some (0, (0, [])), [], [], [], [])], [], 0)
noncomputable def yL588 : List (Nat × List sAp) := []
noncomputable def yP588 : List (sE × List Int) := []
theorem yS588 {gv : Nat → zH → Int} (hg : sGv yReg yGu gv) : ySum gv yQ588 := yOk hg (F := 500) (sp := yP588) (L := yL588) (Qs := []) (by decide +kernel) yNil
/-- X12_has None None None 44 1 -/
noncomputable def yQ589 : sQ := (128, ([], [(0, 0, (0, [])), (0, 1, (0, []))], [(44, 44), (1, 1)], [], [(0, 0), (1, 1)], (0, [])), [(some (0, (0, [])), [], [], [], [])], [], 0)
noncomputable def yL589 : List (Nat × List sAp) := []
noncomputable def yP589 : List (sE × List Int) := []
theorem yS589 {gv : Nat → zH → Int} (hg : sGv yReg yGu gv) : ySum gv yQ589 := yOk hg (F := 500) (sp := yP589) (L := yL589) (Qs := []) (by decide +kernel) yNil
/-- X12_has None None None 44 2 -/
noncomputable def yQ590 : sQ := (128, ([], [(0, 0, (0, [])), (0, 1, (0, []))], [(44, 44), (2, 2)], [], [(0, 0), (1, 1)], (0, [])), [(some (0, (1, [])), [], [], [], [])], [], 0)
noncomputable def yL590 : List (Nat × List sAp) := []
noncomputable def yP590 : List (sE × List Int) := []
theorem yS590 {gv : Nat → zH → Int} (hg : sGv yReg yGu gv) : ySum gv yQ590 := yOk hg (F := 500) (sp := yP590) (L := yL590) (Qs := []) (by decide +kernel) yNil
/-- X12_has None None None 44 3 -/
noncomputable def yQ591 : sQ := (128, ([], [(0, 0, (0, [])), (0, 1, (0, []))], [(44, 44), (3, 3)], [], [(0, 0), (1, 1)], (0, [])), [(some (0, (1, [])), [], [], [], [])], [], 0)
noncomputable def yL591 : List (Nat × List sAp) := []
noncomputable def yP591 : List (sE × List Int) := []
theorem yS591 {gv : Nat → zH → Int} (hg : sGv yReg yGu gv) : ySum gv yQ591 := yOk hg (F := 500) (sp := yP591) (L := yL591) (Qs := []) (by decide +kernel) yNil
/-- X12_has None None None 44 4 -/
noncomputable def yQ592 : sQ := (128, ([], [(0, 0, (0, [])), (0, 1, (0, []))], [(44, 44), (4, 4)], [], [(0, 0), (1, 1)], (0, [])), [(some (0, (0, [])), [], [], [], [])], [], 0)
noncomputable def yL592 : List (Nat × List sAp) := []
noncomputable def yP592 : List (sE × List Int) := []
theorem yS592 {gv : Nat → zH → Int} (hg : sGv yReg yGu gv) : ySum gv yQ592 := yOk hg (F := 500) (sp := yP592) (L := yL592) (Qs := []) (by decide +kernel) yNil
/-- X12_has None None None 44 5 -/
noncomputable def yQ593 : sQ := (128, ([], [(0, 0, (0, [])), (0, 1, (0, []))], [(44, 44), (5, 5)], [], [(0, 0), (1, 1)], (0, [])), [(some (0, (1, [])), [], [], [], [])], [], 0)
noncomputable def yL593 : List (Nat × List sAp) := []
noncomputable def yP593 : List (sE × List Int) := []
theorem yS593 {gv : Nat → zH → Int} (hg : sGv yReg yGu gv) : ySum gv yQ593 := yOk hg (F := 500) (sp := yP593) (L := yL593) (Qs := []) (by decide +kernel) yNil
/-- X12_has None None None 45 0 -/
noncomputable def yQ594 : sQ := (128, ([], [(0, 0, (0, [])), (0, 1, (0, []))], [(45, 45), (0, 0)], [], [(0, 0), (1, 1)], (0, [])), [(some (0, (1, [])), [], [], [], [])], [], 0)
noncomputable def yL594 : List (Nat × List sAp) := []
noncomputable def yP594 : List (sE × List Int) := []
theorem yS594 {gv : Nat → zH → Int} (hg : sGv yReg yGu gv) : ySum gv yQ594 := yOk hg (F := 500) (sp := yP594) (L := yL594) (Qs := []) (by decide +kernel) yNil
/-- X12_has None None None 45 1 -/
noncomputable def yQ595 : sQ := (128, ([], [(0, 0, (0, [])), (0, 1, (0, []))], [(45, 45), (1, 1)], [], [(0, 0), (1, 1)], (0, [])), [(some (0, (0, [])), [], [], [], [])], [], 0)
noncomputable def yL595 : List (Nat × List sAp) := []
noncomputable def yP595 : List (sE × List Int) := []
theorem yS595 {gv : Nat → zH → Int} (hg : sGv yReg yGu gv) : ySum gv yQ595 := yOk hg (F := 500) (sp := yP595) (L := yL595) (Qs := []) (by decide +kernel) yNil
/-- X12_has None None None 45 2 -/
noncomputable def yQ596 : sQ := (128, ([], [(0, 0, (0, [])), (0, 1, (0, []))], [(45, 45), (2, 2)], [], [(0, 0), (1, 1)], (0, [])), [(some (0, (1, [])), [], [], [], [])], [], 0)
noncomputable def yL596 : List (Nat × List sAp) := []
noncomputable def yP596 : List (sE × List Int) := []
theorem yS596 {gv : Nat → zH → Int} (hg : sGv yReg yGu gv) : ySum gv yQ596 := yOk hg (F := 500) (sp := yP596) (L := yL596) (Qs := []) (by decide +kernel) yNil
/-- X12_has None None None 45 3 -/
noncomputable def yQ597 : sQ := (128, ([], [(0, 0, (0, [])), (0, 1, (0, []))], [(45, 45), (3, 3)], [], [(0, 0), (1, 1)], (0, [])), [(some (0, (1, [])), [], [], [], [])], [], 0)
noncomputable def yL597 : List (Nat × List sAp) := []
noncomputable def yP597 : List (sE × List Int) := []
theorem yS597 {gv : Nat → zH → Int} (hg : sGv yReg yGu gv) : ySum gv yQ597 := yOk hg (F := 500) (sp := yP597) (L := yL597) (Qs := []) (by decide +kernel) yNil
/-- X12_has None None None 45 4 -/
noncomputable def yQ598 : sQ := (128, ([], [(0, 0, (0, [])), (0, 1, (0, []))], [(45, 45), (4, 4)], [], [(0, 0), (1, 1)], (0, [])), [(some (0, (0, [])), [], [], [], [])], [], 0)
noncomputable def yL598 : List (Nat × List sAp) := []
noncomputable def yP598 : List (sE × List Int) := []
theorem yS598 {gv : Nat → zH → Int} (hg : sGv yReg yGu gv) : ySum gv yQ598 := yOk hg (F := 500) (sp := yP598) (L := yL598) (Qs := []) (by decide +kernel) yNil
/-- X12_has None None None 45 5 -/
noncomputable def yQ599 : sQ := (128, ([], [(0, 0, (0, [])), (0, 1, (0, []))], [(45, 45), (5, 5)], [], [(0, 0), (1, 1)], (0, [])), [(some (0, (1, [])), [], [], [], [])], [], 0)
noncomputable def yL599 : List (Nat × List sAp) := []
noncomputable def yP599 : List (sE × List Int) := []
theorem yS599 {gv : Nat → zH → Int} (hg : sGv yReg yGu gv) : ySum gv yQ599 := yOk hg (F := 500) (sp := yP599) (L := yL599) (Qs := []) (by decide +kernel) yNil
/-- X12_has None None None 46 0 -/
noncomputable def yQ600 : sQ := (128, ([], [(0, 0, (0, [])), (0, 1, (0, []))], [(46, 46), (0, 0)], [], [(0, 0), (1, 1)], (0, [])), [(some (0, (0, [])), [], [], [], [])], [], 0)
noncomputable def yL600 : List (Nat × List sAp) := []
noncomputable def yP600 : List (sE × List Int) := []
theorem yS600 {gv : Nat → zH → Int} (hg : sGv yReg yGu gv) : ySum gv yQ600 := yOk hg (F := 500) (sp := yP600) (L := yL600) (Qs := []) (by decide +kernel) yNil
/-- X12_has None None None 46 1 -/
noncomputable def yQ601 : sQ := (128, ([], [(0, 0, (0, [])), (0, 1, (0, []))], [(46, 46), (1, 1)], [], [(0, 0), (1, 1)], (0, [])), [(some (0, (1, [])), [], [], [], [])], [], 0)
noncomputable def yL601 : List (Nat × List sAp) := []
noncomputable def yP601 : List (sE × List Int) := []
theorem yS601 {gv : Nat → zH → Int} (hg : sGv yReg yGu gv) : ySum gv yQ601 := yOk hg (F := 500) (sp := yP601) (L := yL601) (Qs := []) (by decide +kernel) yNil
/-- X12_has None None None 46 2 -/
noncomputable def yQ602 : sQ := (128, ([], [(0, 0, (0, [])), (0, 1, (0, []))], [(46, 46), (2, 2)], [], [(0, 0), (1, 1)], (0, [])), [(some (0, (1, [])), [], [], [], [])], [], 0)
noncomputable def yL602 : List (Nat × List sAp) := []
noncomputable def yP602 : List (sE × List Int) := []
theorem yS602 {gv : Nat → zH → Int} (hg : sGv yReg yGu gv) : ySum gv yQ602 := yOk hg (F := 500) (sp := yP602) (L := yL602) (Qs := []) (by decide +kernel) yNil
/-- X12_has None None None 46 3 -/
noncomputable def yQ603 : sQ := (128, ([], [(0, 0, (0, [])), (0, 1, (0, []))], [(46, 46), (3, 3)], [], [(0, 0), (1, 1)], (0, [])), [(some (0, (1, [])), [], [], [], [])], [], 0)
noncomputable def yL603 : List (Nat × List sAp) := []
noncomputable def yP603 : List (sE × List Int) := []
theorem yS603 {gv : Nat → zH → Int} (hg : sGv yReg yGu gv) : ySum gv yQ603 := yOk hg (F := 500) (sp := yP603) (L := yL603) (Qs := []) (by decide +kernel) yNil
/-- X12_has None None None 46 4 -/
noncomputable def yQ604 : sQ := (128, ([], [(0, 0, (0, [])), (0, 1, (0, []))], [(46, 46), (4, 4)], [], [(0, 0), (1, 1)], (0, [])), [(some (0, (0, [])), [], [], [], [])], [], 0)
noncomputable def yL604 : List (Nat × List sAp) := []
noncomputable def yP604 : List (sE × List Int) := []
theorem yS604 {gv : Nat → zH → Int} (hg : sGv yReg yGu gv) : ySum gv yQ604 := yOk hg (F := 500) (sp := yP604) (L := yL604) (Qs := []) (by decide +kernel) yNil
/-- X12_has None None None 46 5 -/
noncomputable def yQ605 : sQ := (128, ([], [(0, 0, (0, [])), (0, 1, (0, []))], [(46, 46), (5, 5)], [], [(0, 0), (1, 1)], (0, [])), [(some (0, (1, [])), [], [], [], [])], [], 0)
noncomputable def yL605 : List (Nat × List sAp) := []
noncomputable def yP605 : List (sE × List Int) := []
theorem yS605 {gv : Nat → zH → Int} (hg : sGv yReg yGu gv) : ySum gv yQ605 := yOk hg (F := 500) (sp := yP605) (L := yL605) (Qs := []) (by decide +kernel) yNil
/-- X12_has None None None 47 0 -/
noncomputable def yQ606 : sQ := (128, ([], [(0, 0, (0, [])), (0, 1, (0, []))], [(47, 47), (0, 0)], [], [(0, 0), (1, 1)], (0, [])), [(some (0, (1, [])), [], [], [], [])], [], 0)
noncomputable def yL606 : List (Nat × List sAp) := []
noncomputable def yP606 : List (sE × List Int) := []
theorem yS606 {gv : Nat → zH → Int} (hg : sGv yReg yGu gv) : ySum gv yQ606 := yOk hg (F := 500) (sp := yP606) (L := yL606) (Qs := []) (by decide +kernel) yNil
/-- X12_has None None None 47 1 -/
noncomputable def yQ607 : sQ := (128, ([], [(0, 0, (0, [])), (0, 1, (0, []))], [(47, 47), (1, 1)], [], [(0, 0), (1, 1)], (0, [])), [(some (0, (1, [])), [], [], [], [])], [], 0)
noncomputable def yL607 : List (Nat × List sAp) := []
noncomputable def yP607 : List (sE × List Int) := []
theorem yS607 {gv : Nat → zH → Int} (hg : sGv yReg yGu gv) : ySum gv yQ607 := yOk hg (F := 500) (sp := yP607) (L := yL607) (Qs := []) (by decide +kernel) yNil
/-- X12_has None None None 47 2 -/
noncomputable def yQ608 : sQ := (128, ([], [(0, 0, (0, [])), (0, 1, (0, []))], [(47, 47), (2, 2)], [], [(0, 0), (1, 1)], (0, [])), [(some (0, (1, [])), [], [], [], [])], [], 0)
noncomputable def yL608 : List (Nat × List sAp) := []
noncomputable def yP608 : List (sE × List Int) := []
theorem yS608 {gv : Nat → zH → Int} (hg : sGv yReg yGu gv) : ySum gv yQ608 := yOk hg (F := 500) (sp := yP608) (L := yL608) (Qs := []) (by decide +kernel) yNil
/-- X12_has None None None 47 3 -/
noncomputable def yQ609 : sQ := (128, ([], [(0, 0, (0, [])), (0, 1, (0, []))], [(47, 47), (3, 3)], [], [(0, 0), (1, 1)], (0, [])), [(some (0, (1, [])), [], [], [], [])], [], 0)
noncomputable def yL609 : List (Nat × List sAp) := []
noncomputable def yP609 : List (sE × List Int) := []
theorem yS609 {gv : Nat → zH → Int} (hg : sGv yReg yGu gv) : ySum gv yQ609 := yOk hg (F := 500) (sp := yP609) (L := yL609) (Qs := []) (by decide +kernel) yNil
/-- X12_has None None None 47 4 -/
noncomputable def yQ610 : sQ := (128, ([], [(0, 0, (0, [])), (0, 1, (0, []))], [(47, 47), (4, 4)], [], [(0, 0), (1, 1)], (0, [])), [(some (0, (0, [])), [], [], [], [])], [], 0)
noncomputable def yL610 : List (Nat × List sAp) := []
noncomputable def yP610 : List (sE × List Int) := []
theorem yS610 {gv : Nat → zH → Int} (hg : sGv yReg yGu gv) : ySum gv yQ610 := yOk hg (F := 500) (sp := yP610) (L := yL610) (Qs := []) (by decide +kernel) yNil
/-- X12_has None None None 47 5 -/
noncomputable def yQ611 : sQ := (128, ([], [(0, 0, (0, [])), (0, 1, (0, []))], [(47, 47), (5, 5)], [], [(0, 0), (1, 1)], (0, [])), [(some (0, (1, [])), [], [], [], [])], [], 0)
noncomputable def yL611 : List (Nat × List sAp) := []
noncomputable def yP611 : List (sE × List Int) := []
theorem yS611 {gv : Nat → zH → Int} (hg : sGv yReg yGu gv) : ySum gv yQ611 := yOk hg (F := 500) (sp := yP611) (L := yL611) (Qs := []) (by decide +kernel) yNil
/-- X12_has None None None 48 0 -/
noncomputable def yQ612 : sQ := (128, ([], [(0, 0, (0, [])), (0, 1, (0, []))], [(48, 48), (0, 0)], [], [(0, 0), (1, 1)], (0, [])), [(some (0, (0, [])), [], [], [], [])], [], 0)
noncomputable def yL612 : List (Nat × List sAp) := []
noncomputable def yP612 : List (sE × List Int) := []
theorem yS612 {gv : Nat → zH → Int} (hg : sGv yReg yGu gv) : ySum gv yQ612 := yOk hg (F := 500) (sp := yP612) (L := yL612) (Qs := []) (by decide +kernel) yNil
/-- X12_has None None None 48 1 -/
noncomputable def yQ613 : sQ := (128, ([], [(0, 0, (0, [])), (0, 1, (0, []))], [(48, 48), (1, 1)], [], [(0, 0), (1, 1)], (0, [])), [(some (0, (0, [])), [], [], [], [])], [], 0)
noncomputable def yL613 : List (Nat × List sAp) := []
noncomputable def yP613 : List (sE × List Int) := []
theorem yS613 {gv : Nat → zH → Int} (hg : sGv yReg yGu gv) : ySum gv yQ613 := yOk hg (F := 500) (sp := yP613) (L := yL613) (Qs := []) (by decide +kernel) yNil
/-- X12_has None None None 48 2 -/
noncomputable def yQ614 : sQ := (128, ([], [(0, 0, (0, [])), (0, 1, (0, []))], [(48, 48), (2, 2)], [], [(0, 0), (1, 1)], (0, [])), [(some (0, (0, [])), [], [], [], [])], [], 0)
noncomputable def yL614 : List (Nat × List sAp) := []
noncomputable def yP614 : List (sE × List Int) := []
theorem yS614 {gv : Nat → zH → Int} (hg : sGv yReg yGu gv) : ySum gv yQ614 := yOk hg (F := 500) (sp := yP614) (L := yL614) (Qs := []) (by decide +kernel) yNil
/-- X12_has None None None 48 3 -/
noncomputable def yQ615 : sQ := (128, ([], [(0, 0, (0, [])), (0, 1, (0, []))], [(48, 48), (3, 3)], [], [(0, 0), (1, 1)], (0, [])), [(some (0, (0, [])), [], [], [], [])], [], 0)
noncomputable def yL615 : List (Nat × List sAp) := []
noncomputable def yP615 : List (sE × List Int) := []
theorem yS615 {gv : Nat → zH → Int} (hg : sGv yReg yGu gv) : ySum gv yQ615 := yOk hg (F := 500) (sp := yP615) (L := yL615) (Qs := []) (by decide +kernel) yNil
/-- X12_has None None None 48 4 -/
noncomputable def yQ616 : sQ := (128, ([], [(0, 0, (0, [])), (0, 1, (0, []))], [(48, 48), (4, 4)], [], [(0, 0), (1, 1)], (0, [])), [(some (0, (1, [])), [], [], [], [])], [], 0)
noncomputable def yL616 : List (Nat × List sAp) := []
noncomputable def yP616 : List (sE × List Int) := []
theorem yS616 {gv : Nat → zH → Int} (hg : sGv yReg yGu gv) : ySum gv yQ616 := yOk hg (F := 500) (sp := yP616) (L := yL616) (Qs := []) (by decide +kernel) yNil
/-- X12_has None None None 48 5 -/
noncomputable def yQ617 : sQ := (128, ([], [(0, 0, (0, [])), (0, 1, (0, []))], [(48, 48), (5, 5)], [], [(0, 0), (1, 1)], (0, [])), [(some (0, (1, [])), [], [], [], [])], [], 0)
noncomputable def yL617 : List (Nat × List sAp) := []
noncomputable def yP617 : List (sE × List Int) := []
theorem yS617 {gv : Nat → zH → Int} (hg : sGv yReg yGu gv) : ySum gv yQ617 := yOk hg (F := 500) (sp := yP617) (L := yL617) (Qs := []) (by decide +kernel) yNil
/-- X12_has None None None 49 0 -/
noncomputable def yQ618 : sQ := (128, ([], [(0, 0, (0, [])), (0, 1, (0, []))], [(49, 49), (0, 0)], [], [(0, 0), (1, 1)], (0, [])), [(some (0, (1, [])), [], [], [], [])], [], 0)
noncomputable def yL618 : List (Nat × List sAp) := []
noncomputable def yP618 : List (sE × List Int) := []
theorem yS618 {gv : Nat → zH → Int} (hg : sGv yReg yGu gv) : ySum gv yQ618 := yOk hg (F := 500) (sp := yP618) (L := yL618) (Qs := []) (by decide +kernel) yNil
/-- X12_has None None None 49 1 -/
noncomputable def yQ619 : sQ := (128, ([], [(0, 0, (0, [])), (0, 1, (0, []))], [(49, 49), (1, 1)], [], [(0, 0), (1, 1)], (0, [])), [(some (0, (0, [])), [], [], [], [])], [], 0)
noncomputable def yL619 : List (Nat × List sAp) := []
noncomputable def yP619 : List (sE × List Int) := []
theorem yS619 {gv : Nat → zH → Int} (hg : sGv yReg yGu gv) : ySum gv yQ619 := yOk hg (F := 500) (sp := yP619) (L := yL619) (Qs := []) (by decide +kernel) yNil
/-- X12_has None None None 49 2 -/
noncomputable def yQ620 : sQ := (128, ([], [(0, 0, (0, [])), (0, 1, (0, []))], [(49, 49), (2, 2)], [], [(0, 0), (1, 1)], (0, [])), [(some (0, (0, [])), [], [], [], [])], [], 0)
noncomputable def yL620 : List (Nat × List sAp) := []
noncomputable def yP620 : List (sE × List Int) := []
theorem yS620 {gv : Nat → zH → Int} (hg : sGv yReg yGu gv) : ySum gv yQ620 := yOk hg (F := 500) (sp := yP620) (L := yL620) (Qs := []) (by decide +kernel) yNil
/-- X12_has None None None 49 3 -/
noncomputable def yQ621 : sQ := (128, ([], [(0, 0, (0, [])), (0, 1, (0, []))], [(49, 49), (3, 3)], [], [(0, 0), (1, 1)], (0, [])), [(some (0, (0, [])), [], [], [], [])], [], 0)
noncomputable def yL621 : List (Nat × List sAp) := []
noncomputable def yP621 : List (sE × List Int) := []
theorem yS621 {gv : Nat → zH → Int} (hg : sGv yReg yGu gv) : ySum gv yQ621 := yOk hg (F := 500) (sp := yP621) (L := yL621) (Qs := []) (by decide +kernel) yNil
/-- X12_has None None None 49 4 -/
noncomputable def yQ622 : sQ := (128, ([], [(0, 0, (0, [])), (0, 1, (0, []))], [(49, 49), (4, 4)], [], [(0, 0), (1, 1)], (0, [])), [(some (0, (1, [])), [], [], [], [])], [], 0)
noncomputable def yL622 : List (Nat × List sAp) := []
noncomputable def yP622 : List (sE × List Int) := []
theorem yS622 {gv : Nat → zH → Int} (hg : sGv yReg yGu gv) : ySum gv yQ622 := yOk hg (F := 500) (sp := yP622) (L := yL622) (Qs := []) (by decide +kernel) yNil
/-- X12_has None None None 49 5 -/
noncomputable def yQ623 : sQ := (128, ([], [(0, 0, (0, [])), (0, 1, (0, []))], [(49, 49), (5, 5)], [], [(0, 0), (1, 1)], (0, [])), [(some (0, (1, [])), [], [], [], [])], [], 0)
noncomputable def yL623 : List (Nat × List sAp) := []
noncomputable def yP623 : List (sE × List Int) := []
theorem yS623 {gv : Nat → zH → Int} (hg : sGv yReg yGu gv) : ySum gv yQ623 := yOk hg (F := 500) (sp := yP623) (L := yL623) (Qs := []) (by decide +kernel) yNil
/-- X12_has None None None 5 0 -/
noncomputable def yQ624 : sQ := (128, ([], [(0, 0, (0, [])), (0, 1, (0, []))], [(5, 5), (0, 0)], [], [(0, 0), (1, 1)], (0, [])), [(some (0, (1, [])), [], [], [], [])], [], 0)
noncomputable def yL624 : List (Nat × List sAp) := []
noncomputable def yP624 : List (sE × List Int) := []
theorem yS624 {gv : Nat → zH → Int} (hg : sGv yReg yGu gv) : ySum gv yQ624 := yOk hg (F := 500) (sp := yP624) (L := yL624) (Qs := []) (by decide +kernel) yNil
/-- X12_has None None None 5 1 -/
noncomputable def yQ625 : sQ := (128, ([], [(0, 0, (0, [])), (0, 1, (0, []))], [(5, 5), (1, 1)], [], [(0, 0), (1, 1)], (0, [])), [(some (0, (0, [])), [], [], [], [])], [], 0)
noncomputable def yL625 : List (Nat × List sAp) := []
noncomputable def yP625 : List (sE × List Int) := []
theorem yS625 {gv : Nat → zH → Int} (hg : sGv yReg yGu gv) : ySum gv yQ625 := yOk hg (F := 500) (sp := yP625) (L := yL625) (Qs := []) (by decide +kernel) yNil
