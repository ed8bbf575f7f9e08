/-! names of helpers -/
abbrev yQ_clauseL : sQ := yQ331
abbrev yL_clauseL : List (Nat × List sAp) := yL331
abbrev yQ_layToldL : sQ := yQ742
theorem yS_layToldL {gv : Nat → zH → Int} (hg : sGv yReg yGu gv) (hp : yHy gv 11) : ySum gv yQ_layToldL := yS742 hg hp
abbrev yQ_readLawL : sQ := yQ756
theorem yS_readLawL {gv : Nat → zH → Int} (hg : sGv yReg yGu gv) (hp : yHy gv 34) : ySum gv yQ_readLawL := yS756 hg hp
abbrev yQ_restedL : sQ := yQ757
theorem yS_restedL {gv : Nat → zH → Int} (hg : sGv yReg yGu gv) (hp : yHy gv 7) : ySum gv yQ_restedL := yS757 hg hp
abbrev yQ_ringL : sQ := yQ881
theorem yS_ringL {gv : Nat → zH → Int} (hg : sGv yReg yGu gv) (hp : yHy gv 8) : ySum gv yQ_ringL := yS881 hg hp
