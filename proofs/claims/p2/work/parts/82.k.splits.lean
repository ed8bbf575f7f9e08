/-! rules that split -/
section SRUL
variable {gv : Nat → Int → Int → zH → Prop}

theorem qR_zsnow_ok : pRulQ pReg qG gv qR_zsnow := qrul (by decide +kernel) (fun h ρ hG hm hb hc => by
  have b0 : (0 : Int) ≤ ρ 0 ∧ ρ 0 ≤ 59 := hb 0 (0, 59) rfl
  have b1 : (0 : Int) ≤ ρ 1 ∧ ρ 1 ≤ 98 := hb 1 (0, 98) rfl
  by_cases z0 : (1 + (1 * ρ 0 + ((-1) * ρ 1 + 0)) : Int) ≤ 0
  · exact ⟨_, List.mem_of_getElem? (i := 0) rfl, rfl, rfl, (pAll1 (show (1 + (1 * ρ 0 + ((-1) * ρ 1 + 0)) : Int) ≤ 0 by omega) pAll0), pAll0⟩
  · skip
    by_cases z1 : (0 + (1 * ρ 0 + ((-1) * ρ 1 + 0)) : Int) ≤ 0 ∧ (0 + ((-1) * ρ 0 + (1 * ρ 1 + 0)) : Int) ≤ 0
    · exact ⟨_, List.mem_of_getElem? (i := 1) rfl, rfl, rfl, (pAll1 (show (0 + (1 * ρ 0 + ((-1) * ρ 1 + 0)) : Int) ≤ 0 by omega) (pAll1 (show (0 + ((-1) * ρ 0 + (1 * ρ 1 + 0)) : Int) ≤ 0 by omega) pAll0)), pAll0⟩
    · skip
      by_cases z2 : (1 + ((-1) * ρ 0 + (1 * ρ 1 + 0)) : Int) ≤ 0
      · exact ⟨_, List.mem_of_getElem? (i := 2) rfl, rfl, rfl, (pAll1 (show (1 + ((-1) * ρ 0 + (1 * ρ 1 + 0)) : Int) ≤ 0 by omega) pAll0), pAll0⟩
      · exfalso
        omega)

theorem qR_ksA_ok : pRulQ pReg qG gv qR_ksA := qrul (by decide +kernel) (fun h ρ hG hm hb hc => by
  have b0 : (0 : Int) ≤ ρ 0 ∧ ρ 0 ≤ 176 := hb 0 (0, 176) rfl
  have b1 : (3 : Int) ≤ ρ 1 ∧ ρ 1 ≤ 179 := hb 1 (3, 179) rfl
  by_cases z0 : ((-2) + ((-1) * ρ 0 + (1 * ρ 1 + 0)) : Int) ≤ 0
  · exact ⟨_, List.mem_of_getElem? (i := 0) rfl, rfl, rfl, (pAll1 (show ((-2) + ((-1) * ρ 0 + (1 * ρ 1 + 0)) : Int) ≤ 0 by omega) pAll0), pAll0⟩
  · skip
    by_cases z1 : ((-3) + ((-1) * ρ 0 + (1 * ρ 1 + 0)) : Int) ≤ 0 ∧ (3 + (1 * ρ 0 + ((-1) * ρ 1 + 0)) : Int) ≤ 0
    · exact ⟨_, List.mem_of_getElem? (i := 1) rfl, rfl, rfl, (pAll1 (show ((-3) + ((-1) * ρ 0 + (1 * ρ 1 + 0)) : Int) ≤ 0 by omega) (pAll1 (show (3 + (1 * ρ 0 + ((-1) * ρ 1 + 0)) : Int) ≤ 0 by omega) pAll0)), pAll0⟩
    · skip
      by_cases z2 : (4 + (1 * ρ 0 + ((-1) * ρ 1 + 0)) : Int) ≤ 0
      · exact ⟨_, List.mem_of_getElem? (i := 2) rfl, rfl, rfl, (pAll1 (show (4 + (1 * ρ 0 + ((-1) * ρ 1 + 0)) : Int) ≤ 0 by omega) pAll0), pAll0⟩
      · exfalso
        omega)

theorem qR_kzA_ok : pRulQ pReg qG gv qR_kzA := qrul (by decide +kernel) (fun h ρ hG hm hb hc => by
  have b0 : (0 : Int) ≤ ρ 0 ∧ ρ 0 ≤ 176 := hb 0 (0, 176) rfl
  have b1 : (40 : Int) ≤ ρ 1 ∧ ρ 1 ≤ 217 := hb 1 (40, 217) rfl
  by_cases z0 : (41 + (1 * ρ 0 + ((-1) * ρ 1 + 0)) : Int) ≤ 0
  · exact ⟨_, List.mem_of_getElem? (i := 0) rfl, rfl, rfl, (pAll1 (show (41 + (1 * ρ 0 + ((-1) * ρ 1 + 0)) : Int) ≤ 0 by omega) pAll0), pAll0⟩
  · skip
    by_cases z1 : ((-40) + ((-1) * ρ 0 + (1 * ρ 1 + 0)) : Int) ≤ 0 ∧ (40 + (1 * ρ 0 + ((-1) * ρ 1 + 0)) : Int) ≤ 0
    · exact ⟨_, List.mem_of_getElem? (i := 1) rfl, rfl, rfl, (pAll1 (show ((-40) + ((-1) * ρ 0 + (1 * ρ 1 + 0)) : Int) ≤ 0 by omega) (pAll1 (show (40 + (1 * ρ 0 + ((-1) * ρ 1 + 0)) : Int) ≤ 0 by omega) pAll0)), pAll0⟩
    · skip
      by_cases z2 : ((-39) + ((-1) * ρ 0 + (1 * ρ 1 + 0)) : Int) ≤ 0 ∧ (39 + (1 * ρ 0 + ((-1) * ρ 1 + 0)) : Int) ≤ 0
      · exact ⟨_, List.mem_of_getElem? (i := 2) rfl, rfl, rfl, (pAll1 (show ((-39) + ((-1) * ρ 0 + (1 * ρ 1 + 0)) : Int) ≤ 0 by omega) (pAll1 (show (39 + (1 * ρ 0 + ((-1) * ρ 1 + 0)) : Int) ≤ 0 by omega) pAll0)), pAll0⟩
      · skip
        by_cases z3 : ((-38) + ((-1) * ρ 0 + (1 * ρ 1 + 0)) : Int) ≤ 0 ∧ (38 + (1 * ρ 0 + ((-1) * ρ 1 + 0)) : Int) ≤ 0
        · exact ⟨_, List.mem_of_getElem? (i := 3) rfl, rfl, rfl, (pAll1 (show ((-38) + ((-1) * ρ 0 + (1 * ρ 1 + 0)) : Int) ≤ 0 by omega) (pAll1 (show (38 + (1 * ρ 0 + ((-1) * ρ 1 + 0)) : Int) ≤ 0 by omega) pAll0)), pAll0⟩
        · skip
          by_cases z4 : ((-37) + ((-1) * ρ 0 + (1 * ρ 1 + 0)) : Int) ≤ 0
          · exact ⟨_, List.mem_of_getElem? (i := 4) rfl, rfl, rfl, (pAll1 (show ((-37) + ((-1) * ρ 0 + (1 * ρ 1 + 0)) : Int) ≤ 0 by omega) pAll0), pAll0⟩
          · exfalso
            omega)

theorem qR_kzB_ok : pRulQ pReg qG gv qR_kzB := qrul (by decide +kernel) (fun h ρ hG hm hb hc => by
  have b0 : (177 : Int) ≤ ρ 0 ∧ ρ 0 ≤ 179 := hb 0 (177, 179) rfl
  have b1 : (40 : Int) ≤ ρ 1 ∧ ρ 1 ≤ 217 := hb 1 (40, 217) rfl
  by_cases z0 : (41 + (1 * ρ 0 + ((-1) * ρ 1 + 0)) : Int) ≤ 0
  · exact ⟨_, List.mem_of_getElem? (i := 0) rfl, rfl, rfl, (pAll1 (show (41 + (1 * ρ 0 + ((-1) * ρ 1 + 0)) : Int) ≤ 0 by omega) pAll0), pAll0⟩
  · skip
    by_cases z1 : ((-40) + ((-1) * ρ 0 + (1 * ρ 1 + 0)) : Int) ≤ 0 ∧ (40 + (1 * ρ 0 + ((-1) * ρ 1 + 0)) : Int) ≤ 0
    · exact ⟨_, List.mem_of_getElem? (i := 1) rfl, rfl, rfl, (pAll1 (show ((-40) + ((-1) * ρ 0 + (1 * ρ 1 + 0)) : Int) ≤ 0 by omega) (pAll1 (show (40 + (1 * ρ 0 + ((-1) * ρ 1 + 0)) : Int) ≤ 0 by omega) pAll0)), pAll0⟩
    · skip
      by_cases z2 : ((-39) + ((-1) * ρ 0 + (1 * ρ 1 + 0)) : Int) ≤ 0 ∧ (39 + (1 * ρ 0 + ((-1) * ρ 1 + 0)) : Int) ≤ 0
      · exact ⟨_, List.mem_of_getElem? (i := 2) rfl, rfl, rfl, (pAll1 (show ((-39) + ((-1) * ρ 0 + (1 * ρ 1 + 0)) : Int) ≤ 0 by omega) (pAll1 (show (39 + (1 * ρ 0 + ((-1) * ρ 1 + 0)) : Int) ≤ 0 by omega) pAll0)), pAll0⟩
      · skip
        by_cases z3 : ((-38) + ((-1) * ρ 0 + (1 * ρ 1 + 0)) : Int) ≤ 0 ∧ (38 + (1 * ρ 0 + ((-1) * ρ 1 + 0)) : Int) ≤ 0
        · exact ⟨_, List.mem_of_getElem? (i := 3) rfl, rfl, rfl, (pAll1 (show ((-38) + ((-1) * ρ 0 + (1 * ρ 1 + 0)) : Int) ≤ 0 by omega) (pAll1 (show (38 + (1 * ρ 0 + ((-1) * ρ 1 + 0)) : Int) ≤ 0 by omega) pAll0)), pAll0⟩
        · skip
          by_cases z4 : ((-37) + ((-1) * ρ 0 + (1 * ρ 1 + 0)) : Int) ≤ 0
          · exact ⟨_, List.mem_of_getElem? (i := 4) rfl, rfl, rfl, (pAll1 (show ((-37) + ((-1) * ρ 0 + (1 * ρ 1 + 0)) : Int) ≤ 0 by omega) pAll0), pAll0⟩
          · exfalso
            omega)

theorem qR_kp1_ok : pRulQ pReg qG gv qR_kp1 := qrul (by decide +kernel) (fun h ρ hG hm hb hc => by
  have b0 : (0 : Int) ≤ ρ 0 ∧ ρ 0 ≤ 38 := hb 0 (0, 38) rfl
  by_cases z0 : ((-29) + (1 * ρ 0 + 0) : Int) ≤ 0
  · exact ⟨_, List.mem_of_getElem? (i := 0) rfl, rfl, rfl, (pAll1 (show ((-29) + (1 * ρ 0 + 0) : Int) ≤ 0 by omega) pAll0), pAll0⟩
  · skip
    by_cases z1 : (30 + ((-1) * ρ 0 + 0) : Int) ≤ 0 ∧ ((-35) + (1 * ρ 0 + 0) : Int) ≤ 0
    · exact ⟨_, List.mem_of_getElem? (i := 1) rfl, rfl, rfl, (pAll1 (show (30 + ((-1) * ρ 0 + 0) : Int) ≤ 0 by omega) (pAll1 (show ((-35) + (1 * ρ 0 + 0) : Int) ≤ 0 by omega) pAll0)), pAll0⟩
    · skip
      by_cases z2 : (36 + ((-1) * ρ 0 + 0) : Int) ≤ 0
      · exact ⟨_, List.mem_of_getElem? (i := 2) rfl, rfl, rfl, (pAll1 (show (36 + ((-1) * ρ 0 + 0) : Int) ≤ 0 by omega) pAll0), pAll0⟩
      · exfalso
        omega)

theorem qR_kp2_ok : pRulQ pReg qG gv qR_kp2 := qrul (by decide +kernel) (fun h ρ hG hm hb hc => by
  have b0 : (0 : Int) ≤ ρ 0 ∧ ρ 0 ≤ 38 := hb 0 (0, 38) rfl
  by_cases z0 : ((-29) + (1 * ρ 0 + 0) : Int) ≤ 0
  · exact ⟨_, List.mem_of_getElem? (i := 0) rfl, rfl, rfl, (pAll1 (show ((-29) + (1 * ρ 0 + 0) : Int) ≤ 0 by omega) pAll0), pAll0⟩
  · skip
    by_cases z1 : (30 + ((-1) * ρ 0 + 0) : Int) ≤ 0 ∧ ((-35) + (1 * ρ 0 + 0) : Int) ≤ 0
    · exact ⟨_, List.mem_of_getElem? (i := 1) rfl, rfl, rfl, (pAll1 (show (30 + ((-1) * ρ 0 + 0) : Int) ≤ 0 by omega) (pAll1 (show ((-35) + (1 * ρ 0 + 0) : Int) ≤ 0 by omega) pAll0)), pAll0⟩
    · skip
      by_cases z2 : (36 + ((-1) * ρ 0 + 0) : Int) ≤ 0
      · exact ⟨_, List.mem_of_getElem? (i := 2) rfl, rfl, rfl, (pAll1 (show (36 + ((-1) * ρ 0 + 0) : Int) ≤ 0 by omega) pAll0), pAll0⟩
      · exfalso
        omega)

theorem qR_kp3_ok : pRulQ pReg qG gv qR_kp3 := qrul (by decide +kernel) (fun h ρ hG hm hb hc => by
  have b0 : (0 : Int) ≤ ρ 0 ∧ ρ 0 ≤ 38 := hb 0 (0, 38) rfl
  by_cases z0 : ((-29) + (1 * ρ 0 + 0) : Int) ≤ 0
  · exact ⟨_, List.mem_of_getElem? (i := 0) rfl, rfl, rfl, (pAll1 (show ((-29) + (1 * ρ 0 + 0) : Int) ≤ 0 by omega) pAll0), pAll0⟩
  · skip
    by_cases z1 : (30 + ((-1) * ρ 0 + 0) : Int) ≤ 0 ∧ ((-35) + (1 * ρ 0 + 0) : Int) ≤ 0
    · exact ⟨_, List.mem_of_getElem? (i := 1) rfl, rfl, rfl, (pAll1 (show (30 + ((-1) * ρ 0 + 0) : Int) ≤ 0 by omega) (pAll1 (show ((-35) + (1 * ρ 0 + 0) : Int) ≤ 0 by omega) pAll0)), pAll0⟩
    · skip
      by_cases z2 : (36 + ((-1) * ρ 0 + 0) : Int) ≤ 0
      · exact ⟨_, List.mem_of_getElem? (i := 2) rfl, rfl, rfl, (pAll1 (show (36 + ((-1) * ρ 0 + 0) : Int) ≤ 0 by omega) pAll0), pAll0⟩
      · exfalso
        omega)

theorem qR_zd1_ok : pRulQ pReg qG gv qR_zd1 := qrul (by decide +kernel) (fun h ρ hG hm hb hc => by
  have b0 : (0 : Int) ≤ ρ 0 ∧ ρ 0 ≤ 219 := hb 0 (0, 219) rfl
  have b1 : ((-2147483648) : Int) ≤ ρ 1 ∧ ρ 1 ≤ 2147483647 := hb 1 ((-2147483648), 2147483647) rfl
  by_cases z0 : (1 + (1 * ρ 0 + ((-1) * ρ 1 + 0)) : Int) ≤ 0
  · exact ⟨_, List.mem_of_getElem? (i := 0) rfl, rfl, rfl, (pAll1 (show (1 + (1 * ρ 0 + ((-1) * ρ 1 + 0)) : Int) ≤ 0 by omega) pAll0), pAll0⟩
  · skip
    by_cases z1 : (0 + (1 * ρ 0 + ((-1) * ρ 1 + 0)) : Int) ≤ 0 ∧ (0 + ((-1) * ρ 0 + (1 * ρ 1 + 0)) : Int) ≤ 0
    · exact ⟨_, List.mem_of_getElem? (i := 1) rfl, rfl, rfl, (pAll1 (show (0 + (1 * ρ 0 + ((-1) * ρ 1 + 0)) : Int) ≤ 0 by omega) (pAll1 (show (0 + ((-1) * ρ 0 + (1 * ρ 1 + 0)) : Int) ≤ 0 by omega) pAll0)), pAll0⟩
    · skip
      by_cases z2 : (1 + ((-1) * ρ 0 + (1 * ρ 1 + 0)) : Int) ≤ 0
      · exact ⟨_, List.mem_of_getElem? (i := 2) rfl, rfl, rfl, (pAll1 (show (1 + ((-1) * ρ 0 + (1 * ρ 1 + 0)) : Int) ≤ 0 by omega) pAll0), pAll0⟩
      · exfalso
        omega)

theorem qR_mj_ok : pRulQ pReg qG gv qR_mj := qrul (by decide +kernel) (fun h ρ hG hm hb hc => by
  have b0 : (0 : Int) ≤ ρ 0 ∧ ρ 0 ≤ 219 := hb 0 (0, 219) rfl
  have b1 : (0 : Int) ≤ ρ 1 ∧ ρ 1 ≤ 5 := hb 1 (0, 5) rfl
  have b2 : (0 : Int) ≤ ρ 2 ∧ ρ 2 ≤ 5 := hb 2 (0, 5) rfl
  by_cases z0 : (1 + ((-1) * ρ 1 + (1 * ρ 2 + 0)) : Int) ≤ 0
  · exact ⟨_, List.mem_of_getElem? (i := 0) rfl, rfl, rfl, (pAll1 (show (1 + ((-1) * ρ 1 + (1 * ρ 2 + 0)) : Int) ≤ 0 by omega) pAll0), pAll0⟩
  · skip
    by_cases z1 : (0 + ((-1) * ρ 1 + (1 * ρ 2 + 0)) : Int) ≤ 0 ∧ (0 + (1 * ρ 1 + ((-1) * ρ 2 + 0)) : Int) ≤ 0
    · exact ⟨_, List.mem_of_getElem? (i := 1) rfl, rfl, rfl, (pAll1 (show (0 + ((-1) * ρ 1 + (1 * ρ 2 + 0)) : Int) ≤ 0 by omega) (pAll1 (show (0 + (1 * ρ 1 + ((-1) * ρ 2 + 0)) : Int) ≤ 0 by omega) pAll0)), pAll0⟩
    · skip
      by_cases z2 : (1 + (1 * ρ 1 + ((-1) * ρ 2 + 0)) : Int) ≤ 0
      · exact ⟨_, List.mem_of_getElem? (i := 2) rfl, rfl, rfl, (pAll1 (show (1 + (1 * ρ 1 + ((-1) * ρ 2 + 0)) : Int) ≤ 0 by omega) pAll0), pAll0⟩
      · exfalso
        omega)

theorem qR_zr2_ok : pRulQ pReg qG gv qR_zr2 := qrul (by decide +kernel) (fun h ρ hG hm hb hc => by
  have b0 : (0 : Int) ≤ ρ 0 ∧ ρ 0 ≤ 5 := hb 0 (0, 5) rfl
  have b1 : (0 : Int) ≤ ρ 1 ∧ ρ 1 ≤ 5 := hb 1 (0, 5) rfl
  by_cases z0 : (1 + (1 * ρ 0 + ((-1) * ρ 1 + 0)) : Int) ≤ 0
  · exact ⟨_, List.mem_of_getElem? (i := 0) rfl, rfl, rfl, (pAll1 (show (1 + (1 * ρ 0 + ((-1) * ρ 1 + 0)) : Int) ≤ 0 by omega) pAll0), pAll0⟩
  · skip
    by_cases z1 : (0 + (1 * ρ 0 + ((-1) * ρ 1 + 0)) : Int) ≤ 0 ∧ (0 + ((-1) * ρ 0 + (1 * ρ 1 + 0)) : Int) ≤ 0
    · exact ⟨_, List.mem_of_getElem? (i := 1) rfl, rfl, rfl, (pAll1 (show (0 + (1 * ρ 0 + ((-1) * ρ 1 + 0)) : Int) ≤ 0 by omega) (pAll1 (show (0 + ((-1) * ρ 0 + (1 * ρ 1 + 0)) : Int) ≤ 0 by omega) pAll0)), pAll0⟩
    · skip
      by_cases z2 : (1 + ((-1) * ρ 0 + (1 * ρ 1 + 0)) : Int) ≤ 0
      · exact ⟨_, List.mem_of_getElem? (i := 2) rfl, rfl, rfl, (pAll1 (show (1 + ((-1) * ρ 0 + (1 * ρ 1 + 0)) : Int) ≤ 0 by omega) pAll0), pAll0⟩
      · exfalso
        omega)

theorem qR_zr3_ok : pRulQ pReg qG gv qR_zr3 := qrul (by decide +kernel) (fun h ρ hG hm hb hc => by
  have b0 : (0 : Int) ≤ ρ 0 ∧ ρ 0 ≤ 5 := hb 0 (0, 5) rfl
  have b1 : (0 : Int) ≤ ρ 1 ∧ ρ 1 ≤ 5 := hb 1 (0, 5) rfl
  have b2 : (0 : Int) ≤ ρ 2 ∧ ρ 2 ≤ 5 := hb 2 (0, 5) rfl
  by_cases z0 : (1 + (1 * ρ 0 + ((-1) * ρ 2 + 0)) : Int) ≤ 0
  · exact ⟨_, List.mem_of_getElem? (i := 0) rfl, rfl, rfl, (pAll1 (show (1 + (1 * ρ 0 + ((-1) * ρ 2 + 0)) : Int) ≤ 0 by omega) pAll0), pAll0⟩
  · skip
    by_cases z1 : (0 + (1 * ρ 0 + ((-1) * ρ 2 + 0)) : Int) ≤ 0 ∧ (0 + ((-1) * ρ 0 + (1 * ρ 2 + 0)) : Int) ≤ 0
    · exact ⟨_, List.mem_of_getElem? (i := 1) rfl, rfl, rfl, (pAll1 (show (0 + (1 * ρ 0 + ((-1) * ρ 2 + 0)) : Int) ≤ 0 by omega) (pAll1 (show (0 + ((-1) * ρ 0 + (1 * ρ 2 + 0)) : Int) ≤ 0 by omega) pAll0)), pAll0⟩
    · skip
      by_cases z2 : (1 + ((-1) * ρ 0 + (1 * ρ 2 + 0)) : Int) ≤ 0
      · exact ⟨_, List.mem_of_getElem? (i := 2) rfl, rfl, rfl, (pAll1 (show (1 + ((-1) * ρ 0 + (1 * ρ 2 + 0)) : Int) ≤ 0 by omega) pAll0), pAll0⟩
      · exfalso
        omega)

theorem qR_zb_ok : pRulQ pReg qG gv qR_zb := qrul (by decide +kernel) (fun h ρ hG hm hb hc => by
  have b0 : (0 : Int) ≤ ρ 0 ∧ ρ 0 ≤ 219 := hb 0 (0, 219) rfl
  have b1 : (0 : Int) ≤ ρ 1 ∧ ρ 1 ≤ 6 := hb 1 (0, 6) rfl
  by_cases z0 : (1 + (1 * ρ 0 + ((-1) * ρ 1 + 0)) : Int) ≤ 0
  · exact ⟨_, List.mem_of_getElem? (i := 0) rfl, rfl, rfl, (pAll1 (show (1 + (1 * ρ 0 + ((-1) * ρ 1 + 0)) : Int) ≤ 0 by omega) pAll0), pAll0⟩
  · skip
    by_cases z1 : (0 + (1 * ρ 0 + ((-1) * ρ 1 + 0)) : Int) ≤ 0 ∧ (0 + ((-1) * ρ 0 + (1 * ρ 1 + 0)) : Int) ≤ 0
    · exact ⟨_, List.mem_of_getElem? (i := 1) rfl, rfl, rfl, (pAll1 (show (0 + (1 * ρ 0 + ((-1) * ρ 1 + 0)) : Int) ≤ 0 by omega) (pAll1 (show (0 + ((-1) * ρ 0 + (1 * ρ 1 + 0)) : Int) ≤ 0 by omega) pAll0)), pAll0⟩
    · skip
      by_cases z2 : (1 + ((-1) * ρ 0 + (1 * ρ 1 + 0)) : Int) ≤ 0
      · exact ⟨_, List.mem_of_getElem? (i := 2) rfl, rfl, rfl, (pAll1 (show (1 + ((-1) * ρ 0 + (1 * ρ 1 + 0)) : Int) ≤ 0 by omega) pAll0), pAll0⟩
      · exfalso
        omega)

theorem qR_zkA1_ok : pRulQ pReg qG gv qR_zkA1 := qrul (by decide +kernel) (fun h ρ hG hm hb hc => by
  have b0 : (0 : Int) ≤ ρ 0 ∧ ρ 0 ≤ 29 := hb 0 (0, 29) rfl
  have b1 : (0 : Int) ≤ ρ 1 ∧ ρ 1 ≤ 38 := hb 1 (0, 38) rfl
  by_cases z0 : (1 + (1 * ρ 0 + ((-1) * ρ 1 + 0)) : Int) ≤ 0
  · exact ⟨_, List.mem_of_getElem? (i := 0) rfl, rfl, rfl, (pAll1 (show (1 + (1 * ρ 0 + ((-1) * ρ 1 + 0)) : Int) ≤ 0 by omega) pAll0), pAll0⟩
  · skip
    by_cases z1 : (0 + (1 * ρ 0 + ((-1) * ρ 1 + 0)) : Int) ≤ 0 ∧ (0 + ((-1) * ρ 0 + (1 * ρ 1 + 0)) : Int) ≤ 0
    · exact ⟨_, List.mem_of_getElem? (i := 1) rfl, rfl, rfl, (pAll1 (show (0 + (1 * ρ 0 + ((-1) * ρ 1 + 0)) : Int) ≤ 0 by omega) (pAll1 (show (0 + ((-1) * ρ 0 + (1 * ρ 1 + 0)) : Int) ≤ 0 by omega) pAll0)), pAll0⟩
    · skip
      by_cases z2 : (1 + ((-1) * ρ 0 + (1 * ρ 1 + 0)) : Int) ≤ 0
      · exact ⟨_, List.mem_of_getElem? (i := 2) rfl, rfl, rfl, (pAll1 (show (1 + ((-1) * ρ 0 + (1 * ρ 1 + 0)) : Int) ≤ 0 by omega) pAll0), pAll0⟩
      · exfalso
        omega)

theorem qR_zkA2_ok : pRulQ pReg qG gv qR_zkA2 := qrul (by decide +kernel) (fun h ρ hG hm hb hc => by
  have b0 : (30 : Int) ≤ ρ 0 ∧ ρ 0 ≤ 35 := hb 0 (30, 35) rfl
  have b1 : (0 : Int) ≤ ρ 1 ∧ ρ 1 ≤ 38 := hb 1 (0, 38) rfl
  by_cases z0 : (1 + (1 * ρ 0 + ((-1) * ρ 1 + 0)) : Int) ≤ 0
  · exact ⟨_, List.mem_of_getElem? (i := 0) rfl, rfl, rfl, (pAll1 (show (1 + (1 * ρ 0 + ((-1) * ρ 1 + 0)) : Int) ≤ 0 by omega) pAll0), pAll0⟩
  · skip
    by_cases z1 : (0 + (1 * ρ 0 + ((-1) * ρ 1 + 0)) : Int) ≤ 0 ∧ (0 + ((-1) * ρ 0 + (1 * ρ 1 + 0)) : Int) ≤ 0
    · exact ⟨_, List.mem_of_getElem? (i := 1) rfl, rfl, rfl, (pAll1 (show (0 + (1 * ρ 0 + ((-1) * ρ 1 + 0)) : Int) ≤ 0 by omega) (pAll1 (show (0 + ((-1) * ρ 0 + (1 * ρ 1 + 0)) : Int) ≤ 0 by omega) pAll0)), pAll0⟩
    · skip
      by_cases z2 : (1 + ((-1) * ρ 0 + (1 * ρ 1 + 0)) : Int) ≤ 0
      · exact ⟨_, List.mem_of_getElem? (i := 2) rfl, rfl, rfl, (pAll1 (show (1 + ((-1) * ρ 0 + (1 * ρ 1 + 0)) : Int) ≤ 0 by omega) pAll0), pAll0⟩
      · exfalso
        omega)

theorem qR_zkA3_ok : pRulQ pReg qG gv qR_zkA3 := qrul (by decide +kernel) (fun h ρ hG hm hb hc => by
  have b0 : (36 : Int) ≤ ρ 0 ∧ ρ 0 ≤ 38 := hb 0 (36, 38) rfl
  have b1 : (0 : Int) ≤ ρ 1 ∧ ρ 1 ≤ 38 := hb 1 (0, 38) rfl
  by_cases z0 : (1 + (1 * ρ 0 + ((-1) * ρ 1 + 0)) : Int) ≤ 0
  · exact ⟨_, List.mem_of_getElem? (i := 0) rfl, rfl, rfl, (pAll1 (show (1 + (1 * ρ 0 + ((-1) * ρ 1 + 0)) : Int) ≤ 0 by omega) pAll0), pAll0⟩
  · skip
    by_cases z1 : (0 + (1 * ρ 0 + ((-1) * ρ 1 + 0)) : Int) ≤ 0 ∧ (0 + ((-1) * ρ 0 + (1 * ρ 1 + 0)) : Int) ≤ 0
    · exact ⟨_, List.mem_of_getElem? (i := 1) rfl, rfl, rfl, (pAll1 (show (0 + (1 * ρ 0 + ((-1) * ρ 1 + 0)) : Int) ≤ 0 by omega) (pAll1 (show (0 + ((-1) * ρ 0 + (1 * ρ 1 + 0)) : Int) ≤ 0 by omega) pAll0)), pAll0⟩
    · skip
      by_cases z2 : (1 + ((-1) * ρ 0 + (1 * ρ 1 + 0)) : Int) ≤ 0
      · exact ⟨_, List.mem_of_getElem? (i := 2) rfl, rfl, rfl, (pAll1 (show (1 + ((-1) * ρ 0 + (1 * ρ 1 + 0)) : Int) ≤ 0 by omega) pAll0), pAll0⟩
      · exfalso
        omega)

theorem qR_zl1A1_ok : pRulQ pReg qG gv qR_zl1A1 := qrul (by decide +kernel) (fun h ρ hG hm hb hc => by
  have b0 : (0 : Int) ≤ ρ 0 ∧ ρ 0 ≤ 29 := hb 0 (0, 29) rfl
  have b1 : (0 : Int) ≤ ρ 1 ∧ ρ 1 ≤ 38 := hb 1 (0, 38) rfl
  by_cases z0 : (1 + (1 * ρ 0 + ((-1) * ρ 1 + 0)) : Int) ≤ 0
  · exact ⟨_, List.mem_of_getElem? (i := 0) rfl, rfl, rfl, (pAll1 (show (1 + (1 * ρ 0 + ((-1) * ρ 1 + 0)) : Int) ≤ 0 by omega) pAll0), pAll0⟩
  · skip
    by_cases z1 : (0 + (1 * ρ 0 + ((-1) * ρ 1 + 0)) : Int) ≤ 0 ∧ (0 + ((-1) * ρ 0 + (1 * ρ 1 + 0)) : Int) ≤ 0
    · exact ⟨_, List.mem_of_getElem? (i := 1) rfl, rfl, rfl, (pAll1 (show (0 + (1 * ρ 0 + ((-1) * ρ 1 + 0)) : Int) ≤ 0 by omega) (pAll1 (show (0 + ((-1) * ρ 0 + (1 * ρ 1 + 0)) : Int) ≤ 0 by omega) pAll0)), pAll0⟩
    · skip
      by_cases z2 : (1 + ((-1) * ρ 0 + (1 * ρ 1 + 0)) : Int) ≤ 0
      · exact ⟨_, List.mem_of_getElem? (i := 2) rfl, rfl, rfl, (pAll1 (show (1 + ((-1) * ρ 0 + (1 * ρ 1 + 0)) : Int) ≤ 0 by omega) pAll0), pAll0⟩
      · exfalso
        omega)

theorem qR_zl3A1_ok : pRulQ pReg qG gv qR_zl3A1 := qrul (by decide +kernel) (fun h ρ hG hm hb hc => by
  have b0 : (0 : Int) ≤ ρ 0 ∧ ρ 0 ≤ 29 := hb 0 (0, 29) rfl
  have b1 : (0 : Int) ≤ ρ 1 ∧ ρ 1 ≤ 38 := hb 1 (0, 38) rfl
  by_cases z0 : (1 + (1 * ρ 0 + ((-1) * ρ 1 + 0)) : Int) ≤ 0
  · exact ⟨_, List.mem_of_getElem? (i := 0) rfl, rfl, rfl, (pAll1 (show (1 + (1 * ρ 0 + ((-1) * ρ 1 + 0)) : Int) ≤ 0 by omega) pAll0), pAll0⟩
  · skip
    by_cases z1 : (0 + (1 * ρ 0 + ((-1) * ρ 1 + 0)) : Int) ≤ 0 ∧ (0 + ((-1) * ρ 0 + (1 * ρ 1 + 0)) : Int) ≤ 0
    · exact ⟨_, List.mem_of_getElem? (i := 1) rfl, rfl, rfl, (pAll1 (show (0 + (1 * ρ 0 + ((-1) * ρ 1 + 0)) : Int) ≤ 0 by omega) (pAll1 (show (0 + ((-1) * ρ 0 + (1 * ρ 1 + 0)) : Int) ≤ 0 by omega) pAll0)), pAll0⟩
    · skip
      by_cases z2 : (1 + ((-1) * ρ 0 + (1 * ρ 1 + 0)) : Int) ≤ 0
      · exact ⟨_, List.mem_of_getElem? (i := 2) rfl, rfl, rfl, (pAll1 (show (1 + ((-1) * ρ 0 + (1 * ρ 1 + 0)) : Int) ≤ 0 by omega) pAll0), pAll0⟩
      · exfalso
        omega)

theorem qR_zl1A2_ok : pRulQ pReg qG gv qR_zl1A2 := qrul (by decide +kernel) (fun h ρ hG hm hb hc => by
  have b0 : (30 : Int) ≤ ρ 0 ∧ ρ 0 ≤ 35 := hb 0 (30, 35) rfl
  have b1 : (0 : Int) ≤ ρ 1 ∧ ρ 1 ≤ 38 := hb 1 (0, 38) rfl
  by_cases z0 : (1 + (1 * ρ 0 + ((-1) * ρ 1 + 0)) : Int) ≤ 0
  · exact ⟨_, List.mem_of_getElem? (i := 0) rfl, rfl, rfl, (pAll1 (show (1 + (1 * ρ 0 + ((-1) * ρ 1 + 0)) : Int) ≤ 0 by omega) pAll0), pAll0⟩
  · skip
    by_cases z1 : (0 + (1 * ρ 0 + ((-1) * ρ 1 + 0)) : Int) ≤ 0 ∧ (0 + ((-1) * ρ 0 + (1 * ρ 1 + 0)) : Int) ≤ 0
    · exact ⟨_, List.mem_of_getElem? (i := 1) rfl, rfl, rfl, (pAll1 (show (0 + (1 * ρ 0 + ((-1) * ρ 1 + 0)) : Int) ≤ 0 by omega) (pAll1 (show (0 + ((-1) * ρ 0 + (1 * ρ 1 + 0)) : Int) ≤ 0 by omega) pAll0)), pAll0⟩
    · skip
      by_cases z2 : (1 + ((-1) * ρ 0 + (1 * ρ 1 + 0)) : Int) ≤ 0
      · exact ⟨_, List.mem_of_getElem? (i := 2) rfl, rfl, rfl, (pAll1 (show (1 + ((-1) * ρ 0 + (1 * ρ 1 + 0)) : Int) ≤ 0 by omega) pAll0), pAll0⟩
      · exfalso
        omega)

theorem qR_zl3A2_ok : pRulQ pReg qG gv qR_zl3A2 := qrul (by decide +kernel) (fun h ρ hG hm hb hc => by
  have b0 : (30 : Int) ≤ ρ 0 ∧ ρ 0 ≤ 35 := hb 0 (30, 35) rfl
  have b1 : (0 : Int) ≤ ρ 1 ∧ ρ 1 ≤ 38 := hb 1 (0, 38) rfl
  by_cases z0 : (1 + (1 * ρ 0 + ((-1) * ρ 1 + 0)) : Int) ≤ 0
  · exact ⟨_, List.mem_of_getElem? (i := 0) rfl, rfl, rfl, (pAll1 (show (1 + (1 * ρ 0 + ((-1) * ρ 1 + 0)) : Int) ≤ 0 by omega) pAll0), pAll0⟩
  · skip
    by_cases z1 : (0 + (1 * ρ 0 + ((-1) * ρ 1 + 0)) : Int) ≤ 0 ∧ (0 + ((-1) * ρ 0 + (1 * ρ 1 + 0)) : Int) ≤ 0
    · exact ⟨_, List.mem_of_getElem? (i := 1) rfl, rfl, rfl, (pAll1 (show (0 + (1 * ρ 0 + ((-1) * ρ 1 + 0)) : Int) ≤ 0 by omega) (pAll1 (show (0 + ((-1) * ρ 0 + (1 * ρ 1 + 0)) : Int) ≤ 0 by omega) pAll0)), pAll0⟩
    · skip
      by_cases z2 : (1 + ((-1) * ρ 0 + (1 * ρ 1 + 0)) : Int) ≤ 0
      · exact ⟨_, List.mem_of_getElem? (i := 2) rfl, rfl, rfl, (pAll1 (show (1 + ((-1) * ρ 0 + (1 * ρ 1 + 0)) : Int) ≤ 0 by omega) pAll0), pAll0⟩
      · exfalso
        omega)

theorem qR_zl1A3_ok : pRulQ pReg qG gv qR_zl1A3 := qrul (by decide +kernel) (fun h ρ hG hm hb hc => by
  have b0 : (36 : Int) ≤ ρ 0 ∧ ρ 0 ≤ 38 := hb 0 (36, 38) rfl
  have b1 : (0 : Int) ≤ ρ 1 ∧ ρ 1 ≤ 38 := hb 1 (0, 38) rfl
  by_cases z0 : (1 + (1 * ρ 0 + ((-1) * ρ 1 + 0)) : Int) ≤ 0
  · exact ⟨_, List.mem_of_getElem? (i := 0) rfl, rfl, rfl, (pAll1 (show (1 + (1 * ρ 0 + ((-1) * ρ 1 + 0)) : Int) ≤ 0 by omega) pAll0), pAll0⟩
  · skip
    by_cases z1 : (0 + (1 * ρ 0 + ((-1) * ρ 1 + 0)) : Int) ≤ 0 ∧ (0 + ((-1) * ρ 0 + (1 * ρ 1 + 0)) : Int) ≤ 0
    · exact ⟨_, List.mem_of_getElem? (i := 1) rfl, rfl, rfl, (pAll1 (show (0 + (1 * ρ 0 + ((-1) * ρ 1 + 0)) : Int) ≤ 0 by omega) (pAll1 (show (0 + ((-1) * ρ 0 + (1 * ρ 1 + 0)) : Int) ≤ 0 by omega) pAll0)), pAll0⟩
    · skip
      by_cases z2 : (1 + ((-1) * ρ 0 + (1 * ρ 1 + 0)) : Int) ≤ 0
      · exact ⟨_, List.mem_of_getElem? (i := 2) rfl, rfl, rfl, (pAll1 (show (1 + ((-1) * ρ 0 + (1 * ρ 1 + 0)) : Int) ≤ 0 by omega) pAll0), pAll0⟩
      · exfalso
        omega)

theorem qR_zl3A3_ok : pRulQ pReg qG gv qR_zl3A3 := qrul (by decide +kernel) (fun h ρ hG hm hb hc => by
  have b0 : (36 : Int) ≤ ρ 0 ∧ ρ 0 ≤ 38 := hb 0 (36, 38) rfl
  have b1 : (0 : Int) ≤ ρ 1 ∧ ρ 1 ≤ 38 := hb 1 (0, 38) rfl
  by_cases z0 : (1 + (1 * ρ 0 + ((-1) * ρ 1 + 0)) : Int) ≤ 0
  · exact ⟨_, List.mem_of_getElem? (i := 0) rfl, rfl, rfl, (pAll1 (show (1 + (1 * ρ 0 + ((-1) * ρ 1 + 0)) : Int) ≤ 0 by omega) pAll0), pAll0⟩
  · skip
    by_cases z1 : (0 + (1 * ρ 0 + ((-1) * ρ 1 + 0)) : Int) ≤ 0 ∧ (0 + ((-1) * ρ 0 + (1 * ρ 1 + 0)) : Int) ≤ 0
    · exact ⟨_, List.mem_of_getElem? (i := 1) rfl, rfl, rfl, (pAll1 (show (0 + (1 * ρ 0 + ((-1) * ρ 1 + 0)) : Int) ≤ 0 by omega) (pAll1 (show (0 + ((-1) * ρ 0 + (1 * ρ 1 + 0)) : Int) ≤ 0 by omega) pAll0)), pAll0⟩
    · skip
      by_cases z2 : (1 + ((-1) * ρ 0 + (1 * ρ 1 + 0)) : Int) ≤ 0
      · exact ⟨_, List.mem_of_getElem? (i := 2) rfl, rfl, rfl, (pAll1 (show (1 + ((-1) * ρ 0 + (1 * ρ 1 + 0)) : Int) ≤ 0 by omega) pAll0), pAll0⟩
      · exfalso
        omega)

theorem qR_kq_ok : pRulQ pReg qG gv qR_kq := qrul (by decide +kernel) (fun h ρ hG hm hb hc => by
  have b0 : (0 : Int) ≤ ρ 0 ∧ ρ 0 ≤ 219 := hb 0 (0, 219) rfl
  have b1 : (0 : Int) ≤ ρ 1 ∧ ρ 1 ≤ 219 := hb 1 (0, 219) rfl
  by_cases z0 : (1 + (1 * ρ 0 + ((-1) * ρ 1 + 0)) : Int) ≤ 0
  · exact ⟨_, List.mem_of_getElem? (i := 0) rfl, rfl, rfl, (pAll1 (show (1 + (1 * ρ 0 + ((-1) * ρ 1 + 0)) : Int) ≤ 0 by omega) pAll0), pAll0⟩
  · skip
    by_cases z1 : (0 + (1 * ρ 0 + ((-1) * ρ 1 + 0)) : Int) ≤ 0 ∧ (0 + ((-1) * ρ 0 + (1 * ρ 1 + 0)) : Int) ≤ 0
    · exact ⟨_, List.mem_of_getElem? (i := 1) rfl, rfl, rfl, (pAll1 (show (0 + (1 * ρ 0 + ((-1) * ρ 1 + 0)) : Int) ≤ 0 by omega) (pAll1 (show (0 + ((-1) * ρ 0 + (1 * ρ 1 + 0)) : Int) ≤ 0 by omega) pAll0)), pAll0⟩
    · skip
      by_cases z2 : (1 + ((-1) * ρ 0 + (1 * ρ 1 + 0)) : Int) ≤ 0
      · exact ⟨_, List.mem_of_getElem? (i := 2) rfl, rfl, rfl, (pAll1 (show (1 + ((-1) * ρ 0 + (1 * ρ 1 + 0)) : Int) ≤ 0 by omega) pAll0), pAll0⟩
      · exfalso
        omega)

theorem qR_kz_ok : pRulQ pReg qG gv qR_kz := qrul (by decide +kernel) (fun h ρ hG hm hb hc => by
  have b0 : (0 : Int) ≤ ρ 0 ∧ ρ 0 ≤ 8579 := hb 0 (0, 8579) rfl
  have b1 : (220 : Int) ≤ ρ 1 ∧ ρ 1 ≤ 8799 := hb 1 (220, 8799) rfl
  by_cases z0 : ((-219) + ((-1) * ρ 0 + (1 * ρ 1 + 0)) : Int) ≤ 0
  · exact ⟨_, List.mem_of_getElem? (i := 0) rfl, rfl, rfl, (pAll1 (show ((-219) + ((-1) * ρ 0 + (1 * ρ 1 + 0)) : Int) ≤ 0 by omega) pAll0), pAll0⟩
  · skip
    by_cases z1 : ((-220) + ((-1) * ρ 0 + (1 * ρ 1 + 0)) : Int) ≤ 0 ∧ (220 + (1 * ρ 0 + ((-1) * ρ 1 + 0)) : Int) ≤ 0
    · exact ⟨_, List.mem_of_getElem? (i := 1) rfl, rfl, rfl, (pAll1 (show ((-220) + ((-1) * ρ 0 + (1 * ρ 1 + 0)) : Int) ≤ 0 by omega) (pAll1 (show (220 + (1 * ρ 0 + ((-1) * ρ 1 + 0)) : Int) ≤ 0 by omega) pAll0)), pAll0⟩
    · skip
      by_cases z2 : (221 + (1 * ρ 0 + ((-1) * ρ 1 + 0)) : Int) ≤ 0
      · exact ⟨_, List.mem_of_getElem? (i := 2) rfl, rfl, rfl, (pAll1 (show (221 + (1 * ρ 0 + ((-1) * ρ 1 + 0)) : Int) ≤ 0 by omega) pAll0), pAll0⟩
      · exfalso
        omega)

end SRUL
