/-! methods told of -/
/-- X12_has None None None 5 2 -/
noncomputable def yQ626 : sQ := (128, ([], [(0, 0, (0, [])), (0, 1, (0, []))], [(5, 5), (2, 2)], [], [(0, 0), (1, 1)], (0, [])), [(some (0, (1, [])), [], [], [], [])], [], 0)
noncomputable def yL626 : List (Nat × List sAp) := []
noncomputable def yP626 : List (sE × List Int) := []
theorem yS626 {gv : Nat → zH → Int} (hg : sGv yReg yGu gv) : ySum gv yQ626 := yOk hg (F := 500) (sp := yP626) (L := yL626) (Qs := []) (by decide +kernel) yNil
/-- X12_has None None None 5 3 -/
noncomputable def yQ627 : sQ := (128, ([], [(0, 0, (0, [])), (0, 1, (0, []))], [(5, 5), (3, 3)], [], [(0, 0), (1, 1)], (0, [])), [(some (0, (0, [])), [], [], [], [])], [], 0)
noncomputable def yL627 : List (Nat × List sAp) := []
noncomputable def yP627 : List (sE × List Int) := []
theorem yS627 {gv : Nat → zH → Int} (hg : sGv yReg yGu gv) : ySum gv yQ627 := yOk hg (F := 500) (sp := yP627) (L := yL627) (Qs := []) (by decide +kernel) yNil
/-- X12_has None None None 5 4 -/
noncomputable def yQ628 : sQ := (128, ([], [(0, 0, (0, [])), (0, 1, (0, []))], [(5, 5), (4, 4)], [], [(0, 0), (1, 1)], (0, [])), [(some (0, (0, [])), [], [], [], [])], [], 0)
noncomputable def yL628 : List (Nat × List sAp) := []
noncomputable def yP628 : List (sE × List Int) := []
theorem yS628 {gv : Nat → zH → Int} (hg : sGv yReg yGu gv) : ySum gv yQ628 := yOk hg (F := 500) (sp := yP628) (L := yL628) (Qs := []) (by decide +kernel) yNil
/-- X12_has None None None 5 5 -/
noncomputable def yQ629 : sQ := (128, ([], [(0, 0, (0, [])), (0, 1, (0, []))], [(5, 5), (5, 5)], [], [(0, 0), (1, 1)], (0, [])), [(some (0, (0, [])), [], [], [], [])], [], 0)
noncomputable def yL629 : List (Nat × List sAp) := []
noncomputable def yP629 : List (sE × List Int) := []
theorem yS629 {gv : Nat → zH → Int} (hg : sGv yReg yGu gv) : ySum gv yQ629 := yOk hg (F := 500) (sp := yP629) (L := yL629) (Qs := []) (by decide +kernel) yNil
/-- X12_has None None None 50 0 -/
noncomputable def yQ630 : sQ := (128, ([], [(0, 0, (0, [])), (0, 1, (0, []))], [(50, 50), (0, 0)], [], [(0, 0), (1, 1)], (0, [])), [(some (0, (0, [])), [], [], [], [])], [], 0)
noncomputable def yL630 : List (Nat × List sAp) := []
noncomputable def yP630 : List (sE × List Int) := []
theorem yS630 {gv : Nat → zH → Int} (hg : sGv yReg yGu gv) : ySum gv yQ630 := yOk hg (F := 500) (sp := yP630) (L := yL630) (Qs := []) (by decide +kernel) yNil
/-- X12_has None None None 50 1 -/
noncomputable def yQ631 : sQ := (128, ([], [(0, 0, (0, [])), (0, 1, (0, []))], [(50, 50), (1, 1)], [], [(0, 0), (1, 1)], (0, [])), [(some (0, (1, [])), [], [], [], [])], [], 0)
noncomputable def yL631 : List (Nat × List sAp) := []
noncomputable def yP631 : List (sE × List Int) := []
theorem yS631 {gv : Nat → zH → Int} (hg : sGv yReg yGu gv) : ySum gv yQ631 := yOk hg (F := 500) (sp := yP631) (L := yL631) (Qs := []) (by decide +kernel) yNil
/-- X12_has None None None 50 2 -/
noncomputable def yQ632 : sQ := (128, ([], [(0, 0, (0, [])), (0, 1, (0, []))], [(50, 50), (2, 2)], [], [(0, 0), (1, 1)], (0, [])), [(some (0, (0, [])), [], [], [], [])], [], 0)
noncomputable def yL632 : List (Nat × List sAp) := []
noncomputable def yP632 : List (sE × List Int) := []
theorem yS632 {gv : Nat → zH → Int} (hg : sGv yReg yGu gv) : ySum gv yQ632 := yOk hg (F := 500) (sp := yP632) (L := yL632) (Qs := []) (by decide +kernel) yNil
/-- X12_has None None None 50 3 -/
noncomputable def yQ633 : sQ := (128, ([], [(0, 0, (0, [])), (0, 1, (0, []))], [(50, 50), (3, 3)], [], [(0, 0), (1, 1)], (0, [])), [(some (0, (0, [])), [], [], [], [])], [], 0)
noncomputable def yL633 : List (Nat × List sAp) := []
noncomputable def yP633 : List (sE × List Int) := []
theorem yS633 {gv : Nat → zH → Int} (hg : sGv yReg yGu gv) : ySum gv yQ633 := yOk hg (F := 500) (sp := yP633) (L := yL633) (Qs := []) (by decide +kernel) yNil
/-- X12_has None None None 50 4 -/
noncomputable def yQ634 : sQ := (128, ([], [(0, 0, (0, [])), (0, 1, (0, []))], [(50, 50), (4, 4)], [], [(0, 0), (1, 1)], (0, [])), [(some (0, (1, [])), [], [], [], [])], [], 0)
noncomputable def yL634 : List (Nat × List sAp) := []
noncomputable def yP634 : List (sE × List Int) := []
theorem yS634 {gv : Nat → zH → Int} (hg : sGv yReg yGu gv) : ySum gv yQ634 := yOk hg (F := 500) (sp := yP634) (L := yL634) (Qs := []) (by decide +kernel) yNil
/-- X12_has None None None 50 5 -/
noncomputable def yQ635 : sQ := (128, ([], [(0, 0, (0, [])), (0, 1, (0, []))], [(50, 50), (5, 5)], [], [(0, 0), (1, 1)], (0, [])), [(some (0, (1, [])), [], [], [], [])], [], 0)
noncomputable def yL635 : List (Nat × List sAp) := []
noncomputable def yP635 : List (sE × List Int) := []
theorem yS635 {gv : Nat → zH → Int} (hg : sGv yReg yGu gv) : ySum gv yQ635 := yOk hg (F := 500) (sp := yP635) (L := yL635) (Qs := []) (by decide +kernel) yNil
/-- X12_has None None None 51 0 -/
noncomputable def yQ636 : sQ := (128, ([], [(0, 0, (0, [])), (0, 1, (0, []))], [(51, 51), (0, 0)], [], [(0, 0), (1, 1)], (0, [])), [(some (0, (1, [])), [], [], [], [])], [], 0)
noncomputable def yL636 : List (Nat × List sAp) := []
noncomputable def yP636 : List (sE × List Int) := []
theorem yS636 {gv : Nat → zH → Int} (hg : sGv yReg yGu gv) : ySum gv yQ636 := yOk hg (F := 500) (sp := yP636) (L := yL636) (Qs := []) (by decide +kernel) yNil
/-- X12_has None None None 51 1 -/
noncomputable def yQ637 : sQ := (128, ([], [(0, 0, (0, [])), (0, 1, (0, []))], [(51, 51), (1, 1)], [], [(0, 0), (1, 1)], (0, [])), [(some (0, (1, [])), [], [], [], [])], [], 0)
noncomputable def yL637 : List (Nat × List sAp) := []
noncomputable def yP637 : List (sE × List Int) := []
theorem yS637 {gv : Nat → zH → Int} (hg : sGv yReg yGu gv) : ySum gv yQ637 := yOk hg (F := 500) (sp := yP637) (L := yL637) (Qs := []) (by decide +kernel) yNil
/-- X12_has None None None 51 2 -/
noncomputable def yQ638 : sQ := (128, ([], [(0, 0, (0, [])), (0, 1, (0, []))], [(51, 51), (2, 2)], [], [(0, 0), (1, 1)], (0, [])), [(some (0, (0, [])), [], [], [], [])], [], 0)
noncomputable def yL638 : List (Nat × List sAp) := []
noncomputable def yP638 : List (sE × List Int) := []
theorem yS638 {gv : Nat → zH → Int} (hg : sGv yReg yGu gv) : ySum gv yQ638 := yOk hg (F := 500) (sp := yP638) (L := yL638) (Qs := []) (by decide +kernel) yNil
/-- X12_has None None None 51 3 -/
noncomputable def yQ639 : sQ := (128, ([], [(0, 0, (0, [])), (0, 1, (0, []))], [(51, 51), (3, 3)], [], [(0, 0), (1, 1)], (0, [])), [(some (0, (0, [])), [], [], [], [])], [], 0)
noncomputable def yL639 : List (Nat × List sAp) := []
noncomputable def yP639 : List (sE × List Int) := []
theorem yS639 {gv : Nat → zH → Int} (hg : sGv yReg yGu gv) : ySum gv yQ639 := yOk hg (F := 500) (sp := yP639) (L := yL639) (Qs := []) (by decide +kernel) yNil
/-- X12_has None None None 51 4 -/
noncomputable def yQ640 : sQ := (128, ([], [(0, 0, (0, [])), (0, 1, (0, []))], [(51, 51), (4, 4)], [], [(0, 0), (1, 1)], (0, [])), [(some (0, (1, [])), [], [], [], [])], [], 0)
noncomputable def yL640 : List (Nat × List sAp) := []
noncomputable def yP640 : List (sE × List Int) := []
theorem yS640 {gv : Nat → zH → Int} (hg : sGv yReg yGu gv) : ySum gv yQ640 := yOk hg (F := 500) (sp := yP640) (L := yL640) (Qs := []) (by decide +kernel) yNil
/-- X12_has None None None 51 5 -/
noncomputable def yQ641 : sQ := (128, ([], [(0, 0, (0, [])), (0, 1, (0, []))], [(51, 51), (5, 5)], [], [(0, 0), (1, 1)], (0, [])), [(some (0, (1, [])), [], [], [], [])], [], 0)
noncomputable def yL641 : List (Nat × List sAp) := []
noncomputable def yP641 : List (sE × List Int) := []
theorem yS641 {gv : Nat → zH → Int} (hg : sGv yReg yGu gv) : ySum gv yQ641 := yOk hg (F := 500) (sp := yP641) (L := yL641) (Qs := []) (by decide +kernel) yNil
/-- X12_has None None None 52 0 -/
noncomputable def yQ642 : sQ := (128, ([], [(0, 0, (0, [])), (0, 1, (0, []))], [(52, 52), (0, 0)], [], [(0, 0), (1, 1)], (0, [])), [(some (0, (0, [])), [], [], [], [])], [], 0)
noncomputable def yL642 : List (Nat × List sAp) := []
noncomputable def yP642 : List (sE × List Int) := []
theorem yS642 {gv : Nat → zH → Int} (hg : sGv yReg yGu gv) : ySum gv yQ642 := yOk hg (F := 500) (sp := yP642) (L := yL642) (Qs := []) (by decide +kernel) yNil
/-- X12_has None None None 52 1 -/
noncomputable def yQ643 : sQ := (128, ([], [(0, 0, (0, [])), (0, 1, (0, []))], [(52, 52), (1, 1)], [], [(0, 0), (1, 1)], (0, [])), [(some (0, (0, [])), [], [], [], [])], [], 0)
noncomputable def yL643 : List (Nat × List sAp) := []
noncomputable def yP643 : List (sE × List Int) := []
theorem yS643 {gv : Nat → zH → Int} (hg : sGv yReg yGu gv) : ySum gv yQ643 := yOk hg (F := 500) (sp := yP643) (L := yL643) (Qs := []) (by decide +kernel) yNil
/-- X12_has None None None 52 2 -/
noncomputable def yQ644 : sQ := (128, ([], [(0, 0, (0, [])), (0, 1, (0, []))], [(52, 52), (2, 2)], [], [(0, 0), (1, 1)], (0, [])), [(some (0, (1, [])), [], [], [], [])], [], 0)
noncomputable def yL644 : List (Nat × List sAp) := []
noncomputable def yP644 : List (sE × List Int) := []
theorem yS644 {gv : Nat → zH → Int} (hg : sGv yReg yGu gv) : ySum gv yQ644 := yOk hg (F := 500) (sp := yP644) (L := yL644) (Qs := []) (by decide +kernel) yNil
/-- X12_has None None None 52 3 -/
noncomputable def yQ645 : sQ := (128, ([], [(0, 0, (0, [])), (0, 1, (0, []))], [(52, 52), (3, 3)], [], [(0, 0), (1, 1)], (0, [])), [(some (0, (0, [])), [], [], [], [])], [], 0)
noncomputable def yL645 : List (Nat × List sAp) := []
noncomputable def yP645 : List (sE × List Int) := []
theorem yS645 {gv : Nat → zH → Int} (hg : sGv yReg yGu gv) : ySum gv yQ645 := yOk hg (F := 500) (sp := yP645) (L := yL645) (Qs := []) (by decide +kernel) yNil
/-- X12_has None None None 52 4 -/
noncomputable def yQ646 : sQ := (128, ([], [(0, 0, (0, [])), (0, 1, (0, []))], [(52, 52), (4, 4)], [], [(0, 0), (1, 1)], (0, [])), [(some (0, (1, [])), [], [], [], [])], [], 0)
noncomputable def yL646 : List (Nat × List sAp) := []
noncomputable def yP646 : List (sE × List Int) := []
theorem yS646 {gv : Nat → zH → Int} (hg : sGv yReg yGu gv) : ySum gv yQ646 := yOk hg (F := 500) (sp := yP646) (L := yL646) (Qs := []) (by decide +kernel) yNil
/-- X12_has None None None 52 5 -/
noncomputable def yQ647 : sQ := (128, ([], [(0, 0, (0, [])), (0, 1, (0, []))], [(52, 52), (5, 5)], [], [(0, 0), (1, 1)], (0, [])), [(some (0, (1, [])), [], [], [], [])], [], 0)
noncomputable def yL647 : List (Nat × List sAp) := []
noncomputable def yP647 : List (sE × List Int) := []
theorem yS647 {gv : Nat → zH → Int} (hg : sGv yReg yGu gv) : ySum gv yQ647 := yOk hg (F := 500) (sp := yP647) (L := yL647) (Qs := []) (by decide +kernel) yNil
/-- X12_has None None None 53 0 -/
noncomputable def yQ648 : sQ := (128, ([], [(0, 0, (0, [])), (0, 1, (0, []))], [(53, 53), (0, 0)], [], [(0, 0), (1, 1)], (0, [])), [(some (0, (1, [])), [], [], [], [])], [], 0)
noncomputable def yL648 : List (Nat × List sAp) := []
noncomputable def yP648 : List (sE × List Int) := []
theorem yS648 {gv : Nat → zH → Int} (hg : sGv yReg yGu gv) : ySum gv yQ648 := yOk hg (F := 500) (sp := yP648) (L := yL648) (Qs := []) (by decide +kernel) yNil
/-- X12_has None None None 53 1 -/
noncomputable def yQ649 : sQ := (128, ([], [(0, 0, (0, [])), (0, 1, (0, []))], [(53, 53), (1, 1)], [], [(0, 0), (1, 1)], (0, [])), [(some (0, (0, [])), [], [], [], [])], [], 0)
noncomputable def yL649 : List (Nat × List sAp) := []
noncomputable def yP649 : List (sE × List Int) := []
theorem yS649 {gv : Nat → zH → Int} (hg : sGv yReg yGu gv) : ySum gv yQ649 := yOk hg (F := 500) (sp := yP649) (L := yL649) (Qs := []) (by decide +kernel) yNil
/-- X12_has None None None 53 2 -/
noncomputable def yQ650 : sQ := (128, ([], [(0, 0, (0, [])), (0, 1, (0, []))], [(53, 53), (2, 2)], [], [(0, 0), (1, 1)], (0, [])), [(some (0, (1, [])), [], [], [], [])], [], 0)
noncomputable def yL650 : List (Nat × List sAp) := []
noncomputable def yP650 : List (sE × List Int) := []
theorem yS650 {gv : Nat → zH → Int} (hg : sGv yReg yGu gv) : ySum gv yQ650 := yOk hg (F := 500) (sp := yP650) (L := yL650) (Qs := []) (by decide +kernel) yNil
/-- X12_has None None None 53 3 -/
noncomputable def yQ651 : sQ := (128, ([], [(0, 0, (0, [])), (0, 1, (0, []))], [(53, 53), (3, 3)], [], [(0, 0), (1, 1)], (0, [])), [(some (0, (0, [])), [], [], [], [])], [], 0)
noncomputable def yL651 : List (Nat × List sAp) := []
noncomputable def yP651 : List (sE × List Int) := []
theorem yS651 {gv : Nat → zH → Int} (hg : sGv yReg yGu gv) : ySum gv yQ651 := yOk hg (F := 500) (sp := yP651) (L := yL651) (Qs := []) (by decide +kernel) yNil
/-- X12_has None None None 53 4 -/
noncomputable def yQ652 : sQ := (128, ([], [(0, 0, (0, [])), (0, 1, (0, []))], [(53, 53), (4, 4)], [], [(0, 0), (1, 1)], (0, [])), [(some (0, (1, [])), [], [], [], [])], [], 0)
noncomputable def yL652 : List (Nat × List sAp) := []
noncomputable def yP652 : List (sE × List Int) := []
theorem yS652 {gv : Nat → zH → Int} (hg : sGv yReg yGu gv) : ySum gv yQ652 := yOk hg (F := 500) (sp := yP652) (L := yL652) (Qs := []) (by decide +kernel) yNil
/-- X12_has None None None 53 5 -/
noncomputable def yQ653 : sQ := (128, ([], [(0, 0, (0, [])), (0, 1, (0, []))], [(53, 53), (5, 5)], [], [(0, 0), (1, 1)], (0, [])), [(some (0, (1, [])), [], [], [], [])], [], 0)
noncomputable def yL653 : List (Nat × List sAp) := []
noncomputable def yP653 : List (sE × List Int) := []
theorem yS653 {gv : Nat → zH → Int} (hg : sGv yReg yGu gv) : ySum gv yQ653 := yOk hg (F := 500) (sp := yP653) (L := yL653) (Qs := []) (by decide +kernel) yNil
/-- X12_has None None None 54 0 -/
noncomputable def yQ654 : sQ := (128, ([], [(0, 0, (0, [])), (0, 1, (0, []))], [(54, 54), (0, 0)], [], [(0, 0), (1, 1)], (0, [])), [(some (0, (0, [])), [], [], [], [])], [], 0)
noncomputable def yL654 : List (Nat × List sAp) := []
noncomputable def yP654 : List (sE × List Int) := []
theorem yS654 {gv : Nat → zH → Int} (hg : sGv yReg yGu gv) : ySum gv yQ654 := yOk hg (F := 500) (sp := yP654) (L := yL654) (Qs := []) (by decide +kernel) yNil
/-- X12_has None None None 54 1 -/
noncomputable def yQ655 : sQ := (128, ([], [(0, 0, (0, [])), (0, 1, (0, []))], [(54, 54), (1, 1)], [], [(0, 0), (1, 1)], (0, [])), [(some (0, (1, [])), [], [], [], [])], [], 0)
noncomputable def yL655 : List (Nat × List sAp) := []
noncomputable def yP655 : List (sE × List Int) := []
theorem yS655 {gv : Nat → zH → Int} (hg : sGv yReg yGu gv) : ySum gv yQ655 := yOk hg (F := 500) (sp := yP655) (L := yL655) (Qs := []) (by decide +kernel) yNil
/-- X12_has None None None 54 2 -/
noncomputable def yQ656 : sQ := (128, ([], [(0, 0, (0, [])), (0, 1, (0, []))], [(54, 54), (2, 2)], [], [(0, 0), (1, 1)], (0, [])), [(some (0, (1, [])), [], [], [], [])], [], 0)
noncomputable def yL656 : List (Nat × List sAp) := []
noncomputable def yP656 : List (sE × List Int) := []
theorem yS656 {gv : Nat → zH → Int} (hg : sGv yReg yGu gv) : ySum gv yQ656 := yOk hg (F := 500) (sp := yP656) (L := yL656) (Qs := []) (by decide +kernel) yNil
/-- X12_has None None None 54 3 -/
noncomputable def yQ657 : sQ := (128, ([], [(0, 0, (0, [])), (0, 1, (0, []))], [(54, 54), (3, 3)], [], [(0, 0), (1, 1)], (0, [])), [(some (0, (0, [])), [], [], [], [])], [], 0)
noncomputable def yL657 : List (Nat × List sAp) := []
noncomputable def yP657 : List (sE × List Int) := []
theorem yS657 {gv : Nat → zH → Int} (hg : sGv yReg yGu gv) : ySum gv yQ657 := yOk hg (F := 500) (sp := yP657) (L := yL657) (Qs := []) (by decide +kernel) yNil
/-- X12_has None None None 54 4 -/
noncomputable def yQ658 : sQ := (128, ([], [(0, 0, (0, [])), (0, 1, (0, []))], [(54, 54), (4, 4)], [], [(0, 0), (1, 1)], (0, [])), [(some (0, (1, [])), [], [], [], [])], [], 0)
noncomputable def yL658 : List (Nat × List sAp) := []
noncomputable def yP658 : List (sE × List Int) := []
theorem yS658 {gv : Nat → zH → Int} (hg : sGv yReg yGu gv) : ySum gv yQ658 := yOk hg (F := 500) (sp := yP658) (L := yL658) (Qs := []) (by decide +kernel) yNil
/-- X12_has None None None 54 5 -/
noncomputable def yQ659 : sQ := (128, ([], [(0, 0, (0, [])), (0, 1, (0, []))], [(54, 54), (5, 5)], [], [(0, 0), (1, 1)], (0, [])), [(some (0, (1, [])), [], [], [], [])], [], 0)
noncomputable def yL659 : List (Nat × List sAp) := []
noncomputable def yP659 : List (sE × List Int) := []
theorem yS659 {gv : Nat → zH → Int} (hg : sGv yReg yGu gv) : ySum gv yQ659 := yOk hg (F := 500) (sp := yP659) (L := yL659) (Qs := []) (by decide +kernel) yNil
/-- X12_has None None None 55 0 -/
noncomputable def yQ660 : sQ := (128, ([], [(0, 0, (0, [])), (0, 1, (0, []))], [(55, 55), (0, 0)], [], [(0, 0), (1, 1)], (0, [])), [(some (0, (1, [])), [], [], [], [])], [], 0)
noncomputable def yL660 : List (Nat × List sAp) := []
noncomputable def yP660 : List (sE × List Int) := []
theorem yS660 {gv : Nat → zH → Int} (hg : sGv yReg yGu gv) : ySum gv yQ660 := yOk hg (F := 500) (sp := yP660) (L := yL660) (Qs := []) (by decide +kernel) yNil
/-- X12_has None None None 55 1 -/
noncomputable def yQ661 : sQ := (128, ([], [(0, 0, (0, [])), (0, 1, (0, []))], [(55, 55), (1, 1)], [], [(0, 0), (1, 1)], (0, [])), [(some (0, (1, [])), [], [], [], [])], [], 0)
noncomputable def yL661 : List (Nat × List sAp) := []
noncomputable def yP661 : List (sE × List Int) := []
theorem yS661 {gv : Nat → zH → Int} (hg : sGv yReg yGu gv) : ySum gv yQ661 := yOk hg (F := 500) (sp := yP661) (L := yL661) (Qs := []) (by decide +kernel) yNil
/-- X12_has None None None 55 2 -/
noncomputable def yQ662 : sQ := (128, ([], [(0, 0, (0, [])), (0, 1, (0, []))], [(55, 55), (2, 2)], [], [(0, 0), (1, 1)], (0, [])), [(some (0, (1, [])), [], [], [], [])], [], 0)
noncomputable def yL662 : List (Nat × List sAp) := []
noncomputable def yP662 : List (sE × List Int) := []
theorem yS662 {gv : Nat → zH → Int} (hg : sGv yReg yGu gv) : ySum gv yQ662 := yOk hg (F := 500) (sp := yP662) (L := yL662) (Qs := []) (by decide +kernel) yNil
/-- X12_has None None None 55 3 -/
noncomputable def yQ663 : sQ := (128, ([], [(0, 0, (0, [])), (0, 1, (0, []))], [(55, 55), (3, 3)], [], [(0, 0), (1, 1)], (0, [])), [(some (0, (0, [])), [], [], [], [])], [], 0)
noncomputable def yL663 : List (Nat × List sAp) := []
noncomputable def yP663 : List (sE × List Int) := []
theorem yS663 {gv : Nat → zH → Int} (hg : sGv yReg yGu gv) : ySum gv yQ663 := yOk hg (F := 500) (sp := yP663) (L := yL663) (Qs := []) (by decide +kernel) yNil
/-- X12_has None None None 55 4 -/
noncomputable def yQ664 : sQ := (128, ([], [(0, 0, (0, [])), (0, 1, (0, []))], [(55, 55), (4, 4)], [], [(0, 0), (1, 1)], (0, [])), [(some (0, (1, [])), [], [], [], [])], [], 0)
noncomputable def yL664 : List (Nat × List sAp) := []
noncomputable def yP664 : List (sE × List Int) := []
theorem yS664 {gv : Nat → zH → Int} (hg : sGv yReg yGu gv) : ySum gv yQ664 := yOk hg (F := 500) (sp := yP664) (L := yL664) (Qs := []) (by decide +kernel) yNil
/-- X12_has None None None 55 5 -/
noncomputable def yQ665 : sQ := (128, ([], [(0, 0, (0, [])), (0, 1, (0, []))], [(55, 55), (5, 5)], [], [(0, 0), (1, 1)], (0, [])), [(some (0, (1, [])), [], [], [], [])], [], 0)
noncomputable def yL665 : List (Nat × List sAp) := []
noncomputable def yP665 : List (sE × List Int) := []
theorem yS665 {gv : Nat → zH → Int} (hg : sGv yReg yGu gv) : ySum gv yQ665 := yOk hg (F := 500) (sp := yP665) (L := yL665) (Qs := []) (by decide +kernel) yNil
/-- X12_has None None None 56 0 -/
noncomputable def yQ666 : sQ := (128, ([], [(0, 0, (0, [])), (0, 1, (0, []))], [(56, 56), (0, 0)], [], [(0, 0), (1, 1)], (0, [])), [(some (0, (0, [])), [], [], [], [])], [], 0)
noncomputable def yL666 : List (Nat × List sAp) := []
noncomputable def yP666 : List (sE × List Int) := []
theorem yS666 {gv : Nat → zH → Int} (hg : sGv yReg yGu gv) : ySum gv yQ666 := yOk hg (F := 500) (sp := yP666) (L := yL666) (Qs := []) (by decide +kernel) yNil
/-- X12_has None None None 56 1 -/
noncomputable def yQ667 : sQ := (128, ([], [(0, 0, (0, [])), (0, 1, (0, []))], [(56, 56), (1, 1)], [], [(0, 0), (1, 1)], (0, [])), [(some (0, (0, [])), [], [], [], [])], [], 0)
noncomputable def yL667 : List (Nat × List sAp) := []
noncomputable def yP667 : List (sE × List Int) := []
theorem yS667 {gv : Nat → zH → Int} (hg : sGv yReg yGu gv) : ySum gv yQ667 := yOk hg (F := 500) (sp := yP667) (L := yL667) (Qs := []) (by decide +kernel) yNil
/-- X12_has None None None 56 2 -/
noncomputable def yQ668 : sQ := (128, ([], [(0, 0, (0, [])), (0, 1, (0, []))], [(56, 56), (2, 2)], [], [(0, 0), (1, 1)], (0, [])), [(some (0, (0, [])), [], [], [], [])], [], 0)
noncomputable def yL668 : List (Nat × List sAp) := []
noncomputable def yP668 : List (sE × List Int) := []
theorem yS668 {gv : Nat → zH → Int} (hg : sGv yReg yGu gv) : ySum gv yQ668 := yOk hg (F := 500) (sp := yP668) (L := yL668) (Qs := []) (by decide +kernel) yNil
/-- X12_has None None None 56 3 -/
noncomputable def yQ669 : sQ := (128, ([], [(0, 0, (0, [])), (0, 1, (0, []))], [(56, 56), (3, 3)], [], [(0, 0), (1, 1)], (0, [])), [(some (0, (1, [])), [], [], [], [])], [], 0)
noncomputable def yL669 : List (Nat × List sAp) := []
noncomputable def yP669 : List (sE × List Int) := []
theorem yS669 {gv : Nat → zH → Int} (hg : sGv yReg yGu gv) : ySum gv yQ669 := yOk hg (F := 500) (sp := yP669) (L := yL669) (Qs := []) (by decide +kernel) yNil
/-- X12_has None None None 56 4 -/
noncomputable def yQ670 : sQ := (128, ([], [(0, 0, (0, [])), (0, 1, (0, []))], [(56, 56), (4, 4)], [], [(0, 0), (1, 1)], (0, [])), [(some (0, (1, [])), [], [], [], [])], [], 0)
noncomputable def yL670 : List (Nat × List sAp) := []
noncomputable def yP670 : List (sE × List Int) := []
theorem yS670 {gv : Nat → zH → Int} (hg : sGv yReg yGu gv) : ySum gv yQ670 := yOk hg (F := 500) (sp := yP670) (L := yL670) (Qs := []) (by decide +kernel) yNil
/-- X12_has None None None 56 5 -/
noncomputable def yQ671 : sQ := (128, ([], [(0, 0, (0, [])), (0, 1, (0, []))], [(56, 56), (5, 5)], [], [(0, 0), (1, 1)], (0, [])), [(some (0, (1, [])), [], [], [], [])], [], 0)
noncomputable def yL671 : List (Nat × List sAp) := []
noncomputable def yP671 : List (sE × List Int) := []
theorem yS671 {gv : Nat → zH → Int} (hg : sGv yReg yGu gv) : ySum gv yQ671 := yOk hg (F := 500) (sp := yP671) (L := yL671) (Qs := []) (by decide +kernel) yNil
/-- X12_has None None None 57 0 -/
noncomputable def yQ672 : sQ := (128, ([], [(0, 0, (0, [])), (0, 1, (0, []))], [(57, 57), (0, 0)], [], [(0, 0), (1, 1)], (0, [])), [(some (0, (1, [])), [], [], [], [])], [], 0)
noncomputable def yL672 : List (Nat × List sAp) := []
noncomputable def yP672 : List (sE × List Int) := []
theorem yS672 {gv : Nat → zH → Int} (hg : sGv yReg yGu gv) : ySum gv yQ672 := yOk hg (F := 500) (sp := yP672) (L := yL672) (Qs := []) (by decide +kernel) yNil
/-- X12_has None None None 57 1 -/
noncomputable def yQ673 : sQ := (128, ([], [(0, 0, (0, [])), (0, 1, (0, []))], [(57, 57), (1, 1)], [], [(0, 0), (1, 1)], (0, [])), [(some (0, (0, [])), [], [], [], [])], [], 0)
noncomputable def yL673 : List (Nat × List sAp) := []
noncomputable def yP673 : List (sE × List Int) := []
theorem yS673 {gv : Nat → zH → Int} (hg : sGv yReg yGu gv) : ySum gv yQ673 := yOk hg (F := 500) (sp := yP673) (L := yL673) (Qs := []) (by decide +kernel) yNil
/-- X12_has None None None 57 2 -/
noncomputable def yQ674 : sQ := (128, ([], [(0, 0, (0, [])), (0, 1, (0, []))], [(57, 57), (2, 2)], [], [(0, 0), (1, 1)], (0, [])), [(some (0, (0, [])), [], [], [], [])], [], 0)
noncomputable def yL674 : List (Nat × List sAp) := []
noncomputable def yP674 : List (sE × List Int) := []
theorem yS674 {gv : Nat → zH → Int} (hg : sGv yReg yGu gv) : ySum gv yQ674 := yOk hg (F := 500) (sp := yP674) (L := yL674) (Qs := []) (by decide +kernel) yNil
/-- X12_has None None None 57 3 -/
noncomputable def yQ675 : sQ := (128, ([], [(0, 0, (0, [])), (0, 1, (0, []))], [(57, 57), (3, 3)], [], [(0, 0), (1, 1)], (0, [])), [(some (0, (1, [])), [], [], [], [])], [], 0)
noncomputable def yL675 : List (Nat × List sAp) := []
noncomputable def yP675 : List (sE × List Int) := []
theorem yS675 {gv : Nat → zH → Int} (hg : sGv yReg yGu gv) : ySum gv yQ675 := yOk hg (F := 500) (sp := yP675) (L := yL675) (Qs := []) (by decide +kernel) yNil
/-- X12_has None None None 57 4 -/
noncomputable def yQ676 : sQ := (128, ([], [(0, 0, (0, [])), (0, 1, (0, []))], [(57, 57), (4, 4)], [], [(0, 0), (1, 1)], (0, [])), [(some (0, (1, [])), [], [], [], [])], [], 0)
noncomputable def yL676 : List (Nat × List sAp) := []
noncomputable def yP676 : List (sE × List Int) := []
theorem yS676 {gv : Nat → zH → Int} (hg : sGv yReg yGu gv) : ySum gv yQ676 := yOk hg (F := 500) (sp := yP676) (L := yL676) (Qs := []) (by decide +kernel) yNil
/-- X12_has None None None 57 5 -/
noncomputable def yQ677 : sQ := (128, ([], [(0, 0, (0, [])), (0, 1, (0, []))], [(57, 57), (5, 5)], [], [(0, 0), (1, 1)], (0, [])), [(some (0, (1, [])), [], [], [], [])], [], 0)
noncomputable def yL677 : List (Nat × List sAp) := []
noncomputable def yP677 : List (sE × List Int) := []
theorem yS677 {gv : Nat → zH → Int} (hg : sGv yReg yGu gv) : ySum gv yQ677 := yOk hg (F := 500) (sp := yP677) (L := yL677) (Qs := []) (by decide +kernel) yNil
/-- X12_has None None None 58 0 -/
noncomputable def yQ678 : sQ := (128, ([], [(0, 0, (0, [])), (0, 1, (0, []))], [(58, 58), (0, 0)], [], [(0, 0), (1, 1)], (0, [])), [(some (0, (0, [])), [], [], [], [])], [], 0)
noncomputable def yL678 : List (Nat × List sAp) := []
noncomputable def yP678 : List (sE × List Int) := []
theorem yS678 {gv : Nat → zH → Int} (hg : sGv yReg yGu gv) : ySum gv yQ678 := yOk hg (F := 500) (sp := yP678) (L := yL678) (Qs := []) (by decide +kernel) yNil
/-- X12_has None None None 58 1 -/
noncomputable def yQ679 : sQ := (128, ([], [(0, 0, (0, [])), (0, 1, (0, []))], [(58, 58), (1, 1)], [], [(0, 0), (1, 1)], (0, [])), [(some (0, (1, [])), [], [], [], [])], [], 0)
noncomputable def yL679 : List (Nat × List sAp) := []
noncomputable def yP679 : List (sE × List Int) := []
theorem yS679 {gv : Nat → zH → Int} (hg : sGv yReg yGu gv) : ySum gv yQ679 := yOk hg (F := 500) (sp := yP679) (L := yL679) (Qs := []) (by decide +kernel) yNil
/-- X12_has None None None 58 2 -/
noncomputable def yQ680 : sQ := (128, ([], [(0, 0, (0, [])), (0, 1, (0, []))], [(58, 58), (2, 2)], [], [(0, 0), (1, 1)], (0, [])), [(some (0, (0, [])), [], [], [], [])], [], 0)
noncomputable def yL680 : List (Nat × List sAp) := []
noncomputable def yP680 : List (sE × List Int) := []
theorem yS680 {gv : Nat → zH → Int} (hg : sGv yReg yGu gv) : ySum gv yQ680 := yOk hg (F := 500) (sp := yP680) (L := yL680) (Qs := []) (by decide +kernel) yNil
/-- X12_has None None None 58 3 -/
noncomputable def yQ681 : sQ := (128, ([], [(0, 0, (0, [])), (0, 1, (0, []))], [(58, 58), (3, 3)], [], [(0, 0), (1, 1)], (0, [])), [(some (0, (1, [])), [], [], [], [])], [], 0)
noncomputable def yL681 : List (Nat × List sAp) := []
noncomputable def yP681 : List (sE × List Int) := []
theorem yS681 {gv : Nat → zH → Int} (hg : sGv yReg yGu gv) : ySum gv yQ681 := yOk hg (F := 500) (sp := yP681) (L := yL681) (Qs := []) (by decide +kernel) yNil
/-- X12_has None None None 58 4 -/
noncomputable def yQ682 : sQ := (128, ([], [(0, 0, (0, [])), (0, 1, (0, []))], [(58, 58), (4, 4)], [], [(0, 0), (1, 1)], (0, [])), [(some (0, (1, [])), [], [], [], [])], [], 0)
noncomputable def yL682 : List (Nat × List sAp) := []
noncomputable def yP682 : List (sE × List Int) := []
theorem yS682 {gv : Nat → zH → Int} (hg : sGv yReg yGu gv) : ySum gv yQ682 := yOk hg (F := 500) (sp := yP682) (L := yL682) (Qs := []) (by decide +kernel) yNil
/-- X12_has None None None 58 5 -/
noncomputable def yQ683 : sQ := (128, ([], [(0, 0, (0, [])), (0, 1, (0, []))], [(58, 58), (5, 5)], [], [(0, 0), (1, 1)], (0, [])), [(some (0, (1, [])), [], [], [], [])], [], 0)
noncomputable def yL683 : List (Nat × List sAp) := []
noncomputable def yP683 : List (sE × List Int) := []
theorem yS683 {gv : Nat → zH → Int} (hg : sGv yReg yGu gv) : ySum gv yQ683 := yOk hg (F := 500) (sp := yP683) (L := yL683) (Qs := []) (by decide +kernel) yNil
/-- X12_has None None None 59 0 -/
noncomputable def yQ684 : sQ := (128, ([], [(0, 0, (0, [])), (0, 1, (0, []))], [(59, 59), (0, 0)], [], [(0, 0), (1, 1)], (0, [])), [(some (0, (1, [])), [], [], [], [])], [], 0)
noncomputable def yL684 : List (Nat × List sAp) := []
noncomputable def yP684 : List (sE × List Int) := []
theorem yS684 {gv : Nat → zH → Int} (hg : sGv yReg yGu gv) : ySum gv yQ684 := yOk hg (F := 500) (sp := yP684) (L := yL684) (Qs := []) (by decide +kernel) yNil
/-- X12_has None None None 59 1 -/
noncomputable def yQ685 : sQ := (128, ([], [(0, 0, (0, [])), (0, 1, (0, []))], [(59, 59), (1, 1)], [], [(0, 0), (1, 1)], (0, [])), [(some (0, (1, [])), [], [], [], [])], [], 0)
noncomputable def yL685 : List (Nat × List sAp) := []
noncomputable def yP685 : List (sE × List Int) := []
theorem yS685 {gv : Nat → zH → Int} (hg : sGv yReg yGu gv) : ySum gv yQ685 := yOk hg (F := 500) (sp := yP685) (L := yL685) (Qs := []) (by decide +kernel) yNil
/-- X12_has None None None 59 2 -/
noncomputable def yQ686 : sQ := (128, ([], [(0, 0, (0, [])), (0, 1, (0, []))], [(59, 59), (2, 2)], [], [(0, 0), (1, 1)], (0, [])), [(some (0, (0, [])), [], [], [], [])], [], 0)
noncomputable def yL686 : List (Nat × List sAp) := []
noncomputable def yP686 : List (sE × List Int) := []
theorem yS686 {gv : Nat → zH → Int} (hg : sGv yReg yGu gv) : ySum gv yQ686 := yOk hg (F := 500) (sp := yP686) (L := yL686) (Qs := []) (by decide +kernel) yNil
/-- X12_has None None None 59 3 -/
noncomputable def yQ687 : sQ := (128, ([], [(0, 0, (0, [])), (0, 1, (0, []))], [(59, 59), (3, 3)], [], [(0, 0), (1, 1)], (0, [])), [(some (0, (1, [])), [], [], [], [])], [], 0)
noncomputable def yL687 : List (Nat × List sAp) := []
noncomputable def yP687 : List (sE × List Int) := []
theorem yS687 {gv : Nat → zH → Int} (hg : sGv yReg yGu gv) : ySum gv yQ687 := yOk hg (F := 500) (sp := yP687) (L := yL687) (Qs := []) (by decide +kernel) yNil
/-- X12_has None None None 59 4 -/
noncomputable def yQ688 : sQ := (128, ([], [(0, 0, (0, [])), (0, 1, (0, []))], [(59, 59), (4, 4)], [], [(0, 0), (1, 1)], (0, [])), [(some (0, (1, [])), [], [], [], [])], [], 0)
noncomputable def yL688 : List (Nat × List sAp) := []
noncomputable def yP688 : List (sE × List Int) := []
theorem yS688 {gv : Nat → zH → Int} (hg : sGv yReg yGu gv) : ySum gv yQ688 := yOk hg (F := 500) (sp := yP688) (L := yL688) (Qs := []) (by decide +kernel) yNil
/-- X12_has None None None 59 5 -/
noncomputable def yQ689 : sQ := (128, ([], [(0, 0, (0, [])), (0, 1, (0, []))], [(59, 59), (5, 5)], [], [(0, 0), (1, 1)], (0, [])), [(some (0, (1, [])), [], [], [], [])], [], 0)
noncomputable def yL689 : List (Nat × List sAp) := []
noncomputable def yP689 : List (sE × List Int) := []
theorem yS689 {gv : Nat → zH → Int} (hg : sGv yReg yGu gv) : ySum gv yQ689 := yOk hg (F := 500) (sp := yP689) (L := yL689) (Qs := []) (by decide +kernel) yNil
/-- X12_has None None None 6 0 -/
noncomputable def yQ690 : sQ := (128, ([], [(0, 0, (0, [])), (0, 1, (0, []))], [(6, 6), (0, 0)], [], [(0, 0), (1, 1)], (0, [])), [(some (0, (0, [])), [], [], [], [])], [], 0)
noncomputable def yL690 : List (Nat × List sAp) := []
noncomputable def yP690 : List (sE × List Int) := []
theorem yS690 {gv : Nat → zH → Int} (hg : sGv yReg yGu gv) : ySum gv yQ690 := yOk hg (F := 500) (sp := yP690) (L := yL690) (Qs := []) (by decide +kernel) yNil
/-- X12_has None None None 6 1 -/
noncomputable def yQ691 : sQ := (128, ([], [(0, 0, (0, [])), (0, 1, (0, []))], [(6, 6), (1, 1)], [], [(0, 0), (1, 1)], (0, [])), [(some (0, (1, [])), [], [], [], [])], [], 0)
noncomputable def yL691 : List (Nat × List sAp) := []
noncomputable def yP691 : List (sE × List Int) := []
theorem yS691 {gv : Nat → zH → Int} (hg : sGv yReg yGu gv) : ySum gv yQ691 := yOk hg (F := 500) (sp := yP691) (L := yL691) (Qs := []) (by decide +kernel) yNil
/-- X12_has None None None 6 2 -/
noncomputable def yQ692 : sQ := (128, ([], [(0, 0, (0, [])), (0, 1, (0, []))], [(6, 6), (2, 2)], [], [(0, 0), (1, 1)], (0, [])), [(some (0, (1, [])), [], [], [], [])], [], 0)
noncomputable def yL692 : List (Nat × List sAp) := []
noncomputable def yP692 : List (sE × List Int) := []
theorem yS692 {gv : Nat → zH → Int} (hg : sGv yReg yGu gv) : ySum gv yQ692 := yOk hg (F := 500) (sp := yP692) (L := yL692) (Qs := []) (by decide +kernel) yNil
/-- X12_has None None None 6 3 -/
noncomputable def yQ693 : sQ := (128, ([], [(0, 0, (0, [])), (0, 1, (0, []))], [(6, 6), (3, 3)], [], [(0, 0), (1, 1)], (0, [])), [(some (0, (0, [])), [], [], [], [])], [], 0)
noncomputable def yL693 : List (Nat × List sAp) := []
noncomputable def yP693 : List (sE × List Int) := []
theorem yS693 {gv : Nat → zH → Int} (hg : sGv yReg yGu gv) : ySum gv yQ693 := yOk hg (F := 500) (sp := yP693) (L := yL693) (Qs := []) (by decide +kernel) yNil
/-- X12_has None None None 6 4 -/
noncomputable def yQ694 : sQ := (128, ([], [(0, 0, (0, [])), (0, 1, (0, []))], [(6, 6), (4, 4)], [], [(0, 0), (1, 1)], (0, [])), [(some (0, (0, [])), [], [], [], [])], [], 0)
noncomputable def yL694 : List (Nat × List sAp) := []
noncomputable def yP694 : List (sE × List Int) := []
theorem yS694 {gv : Nat → zH → Int} (hg : sGv yReg yGu gv) : ySum gv yQ694 := yOk hg (F := 500) (sp := yP694) (L := yL694) (Qs := []) (by decide +kernel) yNil
/-- X12_has None None None 6 5 -/
noncomputable def yQ695 : sQ := (128, ([], [(0, 0, (0, [])), (0, 1, (0, []))], [(6, 6), (5, 5)], [], [(0, 0), (1, 1)], (0, [])), [(some (0, (0, [])), [], [], [], [])], [], 0)
noncomputable def yL695 : List (Nat × List sAp) := []
noncomputable def yP695 : List (sE × List Int) := []
theorem yS695 {gv : Nat → zH → Int} (hg : sGv yReg yGu gv) : ySum gv yQ695 := yOk hg (F := 500) (sp := yP695) (L := yL695) (Qs := []) (by decide +kernel) yNil
/-- X12_has None None None 60 0 -/
noncomputable def yQ696 : sQ := (128, ([], [(0, 0, (0, [])), (0, 1, (0, []))], [(60, 60), (0, 0)], [], [(0, 0), (1, 1)], (0, [])), [(some (0, (0, [])), [], [], [], [])], [], 0)
noncomputable def yL696 : List (Nat × List sAp) := []
noncomputable def yP696 : List (sE × List Int) := []
theorem yS696 {gv : Nat → zH → Int} (hg : sGv yReg yGu gv) : ySum gv yQ696 := yOk hg (F := 500) (sp := yP696) (L := yL696) (Qs := []) (by decide +kernel) yNil
/-- X12_has None None None 60 1 -/
noncomputable def yQ697 : sQ := (128, ([], [(0, 0, (0, [])), (0, 1, (0, []))], [(60, 60), (1, 1)], [], [(0, 0), (1, 1)], (0, [])), [(some (0, (0, [])), [], [], [], [])], [], 0)
noncomputable def yL697 : List (Nat × List sAp) := []
noncomputable def yP697 : List (sE × List Int) := []
theorem yS697 {gv : Nat → zH → Int} (hg : sGv yReg yGu gv) : ySum gv yQ697 := yOk hg (F := 500) (sp := yP697) (L := yL697) (Qs := []) (by decide +kernel) yNil
/-- X12_has None None None 60 2 -/
noncomputable def yQ698 : sQ := (128, ([], [(0, 0, (0, [])), (0, 1, (0, []))], [(60, 60), (2, 2)], [], [(0, 0), (1, 1)], (0, [])), [(some (0, (1, [])), [], [], [], [])], [], 0)
noncomputable def yL698 : List (Nat × List sAp) := []
noncomputable def yP698 : List (sE × List Int) := []
theorem yS698 {gv : Nat → zH → Int} (hg : sGv yReg yGu gv) : ySum gv yQ698 := yOk hg (F := 500) (sp := yP698) (L := yL698) (Qs := []) (by decide +kernel) yNil
/-- X12_has None None None 60 3 -/
noncomputable def yQ699 : sQ := (128, ([], [(0, 0, (0, [])), (0, 1, (0, []))], [(60, 60), (3, 3)], [], [(0, 0), (1, 1)], (0, [])), [(some (0, (1, [])), [], [], [], [])], [], 0)
noncomputable def yL699 : List (Nat × List sAp) := []
noncomputable def yP699 : List (sE × List Int) := []
theorem yS699 {gv : Nat → zH → Int} (hg : sGv yReg yGu gv) : ySum gv yQ699 := yOk hg (F := 500) (sp := yP699) (L := yL699) (Qs := []) (by decide +kernel) yNil
/-- X12_has None None None 60 4 -/
noncomputable def yQ700 : sQ := (128, ([], [(0, 0, (0, [])), (0, 1, (0, []))], [(60, 60), (4, 4)], [], [(0, 0), (1, 1)], (0, [])), [(some (0, (1, [])), [], [], [], [])], [], 0)
noncomputable def yL700 : List (Nat × List sAp) := []
noncomputable def yP700 : List (sE × List Int) := []
theorem yS700 {gv : Nat → zH → Int} (hg : sGv yReg yGu gv) : ySum gv yQ700 := yOk hg (F := 500) (sp := yP700) (L := yL700) (Qs := []) (by decide +kernel) yNil
/-- X12_has None None None 60 5 -/
noncomputable def yQ701 : sQ := (128, ([], [(0, 0, (0, [])), (0, 1, (0, []))], [(60, 60), (5, 5)], [], [(0, 0), (1, 1)], (0, [])), [(some (0, (1, [])), [], [], [], [])], [], 0)
noncomputable def yL701 : List (Nat × List sAp) := []
noncomputable def yP701 : List (sE × List Int) := []
theorem yS701 {gv : Nat → zH → Int} (hg : sGv yReg yGu gv) : ySum gv yQ701 := yOk hg (F := 500) (sp := yP701) (L := yL701) (Qs := []) (by decide +kernel) yNil
/-- X12_has None None None 61 0 -/
noncomputable def yQ702 : sQ := (128, ([], [(0, 0, (0, [])), (0, 1, (0, []))], [(61, 61), (0, 0)], [], [(0, 0), (1, 1)], (0, [])), [(some (0, (1, [])), [], [], [], [])], [], 0)
noncomputable def yL702 : List (Nat × List sAp) := []
noncomputable def yP702 : List (sE × List Int) := []
theorem yS702 {gv : Nat → zH → Int} (hg : sGv yReg yGu gv) : ySum gv yQ702 := yOk hg (F := 500) (sp := yP702) (L := yL702) (Qs := []) (by decide +kernel) yNil
/-- X12_has None None None 61 1 -/
noncomputable def yQ703 : sQ := (128, ([], [(0, 0, (0, [])), (0, 1, (0, []))], [(61, 61), (1, 1)], [], [(0, 0), (1, 1)], (0, [])), [(some (0, (0, [])), [], [], [], [])], [], 0)
noncomputable def yL703 : List (Nat × List sAp) := []
noncomputable def yP703 : List (sE × List Int) := []
theorem yS703 {gv : Nat → zH → Int} (hg : sGv yReg yGu gv) : ySum gv yQ703 := yOk hg (F := 500) (sp := yP703) (L := yL703) (Qs := []) (by decide +kernel) yNil
/-- X12_has None None None 61 2 -/
noncomputable def yQ704 : sQ := (128, ([], [(0, 0, (0, [])), (0, 1, (0, []))], [(61, 61), (2, 2)], [], [(0, 0), (1, 1)], (0, [])), [(some (0, (1, [])), [], [], [], [])], [], 0)
noncomputable def yL704 : List (Nat × List sAp) := []
noncomputable def yP704 : List (sE × List Int) := []
theorem yS704 {gv : Nat → zH → Int} (hg : sGv yReg yGu gv) : ySum gv yQ704 := yOk hg (F := 500) (sp := yP704) (L := yL704) (Qs := []) (by decide +kernel) yNil
/-- X12_has None None None 61 3 -/
noncomputable def yQ705 : sQ := (128, ([], [(0, 0, (0, [])), (0, 1, (0, []))], [(61, 61), (3, 3)], [], [(0, 0), (1, 1)], (0, [])), [(some (0, (1, [])), [], [], [], [])], [], 0)
noncomputable def yL705 : List (Nat × List sAp) := []
noncomputable def yP705 : List (sE × List Int) := []
theorem yS705 {gv : Nat → zH → Int} (hg : sGv yReg yGu gv) : ySum gv yQ705 := yOk hg (F := 500) (sp := yP705) (L := yL705) (Qs := []) (by decide +kernel) yNil
/-- X12_has None None None 61 4 -/
noncomputable def yQ706 : sQ := (128, ([], [(0, 0, (0, [])), (0, 1, (0, []))], [(61, 61), (4, 4)], [], [(0, 0), (1, 1)], (0, [])), [(some (0, (1, [])), [], [], [], [])], [], 0)
noncomputable def yL706 : List (Nat × List sAp) := []
noncomputable def yP706 : List (sE × List Int) := []
theorem yS706 {gv : Nat → zH → Int} (hg : sGv yReg yGu gv) : ySum gv yQ706 := yOk hg (F := 500) (sp := yP706) (L := yL706) (Qs := []) (by decide +kernel) yNil
/-- X12_has None None None 61 5 -/
noncomputable def yQ707 : sQ := (128, ([], [(0, 0, (0, [])), (0, 1, (0, []))], [(61, 61), (5, 5)], [], [(0, 0), (1, 1)], (0, [])), [(some (0, (1, [])), [], [], [], [])], [], 0)
noncomputable def yL707 : List (Nat × List sAp) := []
noncomputable def yP707 : List (sE × List Int) := []
theorem yS707 {gv : Nat → zH → Int} (hg : sGv yReg yGu gv) : ySum gv yQ707 := yOk hg (F := 500) (sp := yP707) (L := yL707) (Qs := []) (by decide +kernel) yNil
/-- X12_has None None None 62 0 -/
noncomputable def yQ708 : sQ := (128, ([], [(0, 0, (0, [])), (0, 1, (0, []))], [(62, 62), (0, 0)], [], [(0, 0), (1, 1)], (0, [])), [(some (0, (0, [])), [], [], [], [])], [], 0)
noncomputable def yL708 : List (Nat × List sAp) := []
noncomputable def yP708 : List (sE × List Int) := []
theorem yS708 {gv : Nat → zH → Int} (hg : sGv yReg yGu gv) : ySum gv yQ708 := yOk hg (F := 500) (sp := yP708) (L := yL708) (Qs := []) (by decide +kernel) yNil
/-- X12_has None None None 62 1 -/
noncomputable def yQ709 : sQ := (128, ([], [(0, 0, (0, [])), (0, 1, (0, []))], [(62, 62), (1, 1)], [], [(0, 0), (1, 1)], (0, [])), [(some (0, (1, [])), [], [], [], [])], [], 0)
noncomputable def yL709 : List (Nat × List sAp) := []
noncomputable def yP709 : List (sE × List Int) := []
theorem yS709 {gv : Nat → zH → Int} (hg : sGv yReg yGu gv) : ySum gv yQ709 := yOk hg (F := 500) (sp := yP709) (L := yL709) (Qs := []) (by decide +kernel) yNil
/-- X12_has None None None 62 2 -/
noncomputable def yQ710 : sQ := (128, ([], [(0, 0, (0, [])), (0, 1, (0, []))], [(62, 62), (2, 2)], [], [(0, 0), (1, 1)], (0, [])), [(some (0, (1, [])), [], [], [], [])], [], 0)
noncomputable def yL710 : List (Nat × List sAp) := []
noncomputable def yP710 : List (sE × List Int) := []
theorem yS710 {gv : Nat → zH → Int} (hg : sGv yReg yGu gv) : ySum gv yQ710 := yOk hg (F := 500) (sp := yP710) (L := yL710) (Qs := []) (by decide +kernel) yNil
/-- X12_has None None None 62 3 -/
noncomputable def yQ711 : sQ := (128, ([], [(0, 0, (0, [])), (0, 1, (0, []))], [(62, 62), (3, 3)], [], [(0, 0), (1, 1)], (0, [])), [(some (0, (1, [])), [], [], [], [])], [], 0)
noncomputable def yL711 : List (Nat × List sAp) := []
noncomputable def yP711 : List (sE × List Int) := []
theorem yS711 {gv : Nat → zH → Int} (hg : sGv yReg yGu gv) : ySum gv yQ711 := yOk hg (F := 500) (sp := yP711) (L := yL711) (Qs := []) (by decide +kernel) yNil
/-- X12_has None None None 62 4 -/
noncomputable def yQ712 : sQ := (128, ([], [(0, 0, (0, [])), (0, 1, (0, []))], [(62, 62), (4, 4)], [], [(0, 0), (1, 1)], (0, [])), [(some (0, (1, [])), [], [], [], [])], [], 0)
noncomputable def yL712 : List (Nat × List sAp) := []
noncomputable def yP712 : List (sE × List Int) := []
theorem yS712 {gv : Nat → zH → Int} (hg : sGv yReg yGu gv) : ySum gv yQ712 := yOk hg (F := 500) (sp := yP712) (L := yL712) (Qs := []) (by decide +kernel) yNil
/-- X12_has None None None 62 5 -/
noncomputable def yQ713 : sQ := (128, ([], [(0, 0, (0, [])), (0, 1, (0, []))], [(62, 62), (5, 5)], [], [(0, 0), (1, 1)], (0, [])), [(some (0, (1, [])), [], [], [], [])], [], 0)
noncomputable def yL713 : List (Nat × List sAp) := []
noncomputable def yP713 : List (sE × List Int) := []
theorem yS713 {gv : Nat → zH → Int} (hg : sGv yReg yGu gv) : ySum gv yQ713 := yOk hg (F := 500) (sp := yP713) (L := yL713) (Qs := []) (by decide +kernel) yNil
/-- X12_has None None None 7 0 -/
noncomputable def yQ714 : sQ := (128, ([], [(0, 0, (0, [])), (0, 1, (0, []))], [(7, 7), (0, 0)], [], [(0, 0), (1, 1)], (0, [])), [(some (0, (1, [])), [], [], [], [])], [], 0)
noncomputable def yL714 : List (Nat × List sAp) := []
noncomputable def yP714 : List (sE × List Int) := []
theorem yS714 {gv : Nat → zH → Int} (hg : sGv yReg yGu gv) : ySum gv yQ714 := yOk hg (F := 500) (sp := yP714) (L := yL714) (Qs := []) (by decide +kernel) yNil
/-- X12_has None None None 7 1 -/
noncomputable def yQ715 : sQ := (128, ([], [(0, 0, (0, [])), (0, 1, (0, []))], [(7, 7), (1, 1)], [], [(0, 0), (1, 1)], (0, [])), [(some (0, (1, [])), [], [], [], [])], [], 0)
noncomputable def yL715 : List (Nat × List sAp) := []
noncomputable def yP715 : List (sE × List Int) := []
theorem yS715 {gv : Nat → zH → Int} (hg : sGv yReg yGu gv) : ySum gv yQ715 := yOk hg (F := 500) (sp := yP715) (L := yL715) (Qs := []) (by decide +kernel) yNil
