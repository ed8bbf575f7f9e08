/-! methods told of -/
/-- X12_fewest M None -/
def yQ354 : sQ := (123, ([(0, 120)], [(2, 120, (22, []))], [(1, 6)], [], [(0, 0)], (10, [])), [(some (0, (0, [(1, 1)])), [], [(0, 9)], [], [0])], [], 1)
def yL354 : List (Nat × List sAp) := [(4, [(([(0, 120)], [(0, 1, (0, [])), (0, 2, (0, [])), (2, 120, (22, []))], [(0, 9), (1, 10), (1, 6)], [], [(0, 2)], (10, [(1, (-1))])), [])])]
def yP354 : List (sE × List Int) := []
theorem yS354 {gv : Nat → zH → Int} (hg : sGv yReg yGu gv) : ySum gv yQ354 := yOk hg (F := 500) (sp := yP354) (L := yL354) (Qs := [yQ36, yQ276]) (by decide +kernel) (yCons (yS36 hg) (yCons (yS276 hg) yNil))
/-- X12_gameOf M None None None None None -/
def yQ355 : sQ := (125, ([(0, 120)], [(0, 1, (0, [])), (0, 2, (0, [])), (0, 3, (0, [])), (0, 4, (0, [])), (2, 120, (22, [])), (2, 1004, (0, [])), (2, 1005, (0, []))], [(0, 5), (0, 5), (0, 3), (0, 3), (1, 6), (1, 1), (1, 1)], [], [(0, 0), (1, 1), (2, 2), (3, 3), (4, 4), (5, 5), (6, 6)], (0, [])), [(some (0, (0, [(7, 1)])), [], [((-2147483648), 2147483647)], [], [0])], [(120, 33, 37), (103, 0, 59), (106, 0, 5), (95, 0, 5), (107, 0, 5), (101, 6, 11), (105, 0, 5), (96, 0, 79), (104, 0, 9), (108, 0, 5)], 10)
def yL355 : List (Nat × List sAp) := []
def yP355 : List (sE × List Int) := []
theorem yS355 {gv : Nat → zH → Int} (hg : sGv yReg yGu gv) (hp : yHy gv 8) : ySum gv yQ355 := yOk hg (F := 500) (sp := yP355) (L := yL355) (Qs := [yT7, yQ284]) (by decide +kernel) (yCons (hp 7 _ (by decide) rfl) (yCons (yS284 hg (yHy_le (by decide) hp)) yNil))
/-- X12_game M None None None None None None -/
def yQ356 : sQ := (124, ([(0, 120)], [(0, 1, (0, [])), (0, 2, (0, [])), (0, 3, (0, [])), (0, 4, (0, [])), (0, 5, (0, [])), (2, 120, (22, [])), (2, 1004, (0, [])), (2, 1005, (0, []))], [((-2147483648), 2147483647), ((-2147483648), 2147483647), ((-2147483648), 2147483647), ((-2147483648), 2147483647), ((-2147483648), 2147483647), (0, 6), (1, 1), (1, 1)], [], [(0, 0), (1, 1), (2, 2), (3, 3), (4, 4), (5, 5), (6, 6), (7, 7)], (0, [])), [(some (0, (0, [(8, 1)])), [], [((-2147483648), 2147483647)], [], [0])], [(120, 33, 37), (103, 0, 59), (106, 0, 5), (95, 0, 5), (107, 0, 5), (101, 6, 11), (105, 0, 5), (96, 0, 79), (104, 0, 9), (108, 0, 5)], 11)
def yL356 : List (Nat × List sAp) := []
def yP356 : List (sE × List Int) := []
theorem yS356 {gv : Nat → zH → Int} (hg : sGv yReg yGu gv) (hp : yHy gv 8) : ySum gv yQ356 := yOk hg (F := 500) (sp := yP356) (L := yL356) (Qs := [yQ355, yQ221, yQ227]) (by decide +kernel) (yCons (yS355 hg (yHy_le (by decide) hp)) (yCons (yS221 hg) (yCons (yS227 hg) yNil)))
/-- X12_has None None None 0 None -/
def yQ357 : sQ := (128, ([], [(0, 0, (0, [])), (0, 1, (0, []))], [(0, 0), (0, 3)], [], [(0, 0), (1, 1)], (0, [])), [(some (0, (0, [])), [], [], [], []), (some (0, (1, [])), [], [], [], [])], [], 0)
def yL357 : List (Nat × List sAp) := []
def yP357 : List (sE × List Int) := []
theorem yS357 {gv : Nat → zH → Int} (hg : sGv yReg yGu gv) : ySum gv yQ357 := yOk hg (F := 500) (sp := yP357) (L := yL357) (Qs := []) (by decide +kernel) yNil
/-- X12_has None None None 1 0 -/
def yQ358 : sQ := (128, ([], [(0, 0, (0, [])), (0, 1, (0, []))], [(1, 1), (0, 0)], [], [(0, 0), (1, 1)], (0, [])), [(some (0, (1, [])), [], [], [], [])], [], 0)
def yL358 : List (Nat × List sAp) := []
def yP358 : List (sE × List Int) := []
theorem yS358 {gv : Nat → zH → Int} (hg : sGv yReg yGu gv) : ySum gv yQ358 := yOk hg (F := 500) (sp := yP358) (L := yL358) (Qs := []) (by decide +kernel) yNil
/-- X12_has None None None 1 1 -/
def yQ359 : sQ := (128, ([], [(0, 0, (0, [])), (0, 1, (0, []))], [(1, 1), (1, 1)], [], [(0, 0), (1, 1)], (0, [])), [(some (0, (0, [])), [], [], [], [])], [], 0)
def yL359 : List (Nat × List sAp) := []
def yP359 : List (sE × List Int) := []
theorem yS359 {gv : Nat → zH → Int} (hg : sGv yReg yGu gv) : ySum gv yQ359 := yOk hg (F := 500) (sp := yP359) (L := yL359) (Qs := []) (by decide +kernel) yNil
