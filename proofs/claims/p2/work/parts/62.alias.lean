/-! names of helpers -/
noncomputable abbrev yQ_clauseL : sQ := yQ331
noncomputable abbrev yL_clauseL : List (Nat × List sAp) := yL331
noncomputable abbrev yQ_clauseL1 : sQ := yQ332
noncomputable abbrev yQ_clauseL2 : sQ := yQ333
noncomputable abbrev yQ_layToldL : sQ := yQ744
theorem yS_layToldL {gv : Nat → zH → Int} (hg : sGv yReg yGu gv) (hp : yHy gv 11) : ySum gv yQ_layToldL := yS744 hg hp
noncomputable abbrev yQ_readLawL : sQ := yQ758
theorem yS_readLawL {gv : Nat → zH → Int} (hg : sGv yReg yGu gv) (hp : yHy gv 34) : ySum gv yQ_readLawL := yS758 hg hp
noncomputable abbrev yQ_restedL : sQ := yQ759
theorem yS_restedL {gv : Nat → zH → Int} (hg : sGv yReg yGu gv) (hp : yHy gv 7) : ySum gv yQ_restedL := yS759 hg hp
noncomputable abbrev yQ_ringL : sQ := yQ883
theorem yS_ringL {gv : Nat → zH → Int} (hg : sGv yReg yGu gv) (hp : yHy gv 8) : ySum gv yQ_ringL := yS883 hg hp
