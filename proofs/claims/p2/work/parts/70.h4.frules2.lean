/-! rules of the fort, 2 -/
noncomputable def rBITm_0 : sX := (none, [], [], [(0, [(1, 1)]), (0, [(1, (-1))]), (0, [(2, 1)]), (0, [(2, (-1))]), (0, [(3, 1)]), (0, [(3, (-1))]), (0, [(4, 1)]), (0, [(4, (-1))]), (0, [(5, 1)]), (0, [(5, (-1))])], [])
noncomputable def rBITm_1 : sX := (none, [], [], [((-1), [(1, 1)]), (1, [(1, (-1))]), ((-1), [(2, 1)]), (1, [(2, (-1))]), (0, [(3, 1)]), (0, [(3, (-1))]), (0, [(4, 1)]), (0, [(4, (-1))]), (0, [(5, 1)]), (0, [(5, (-1))])], [])
noncomputable def rBITm_2 : sX := (none, [], [], [((-2), [(1, 1)]), (2, [(1, (-1))]), (0, [(2, 1)]), (0, [(2, (-1))]), ((-1), [(3, 1)]), (1, [(3, (-1))]), (0, [(4, 1)]), (0, [(4, (-1))]), (0, [(5, 1)]), (0, [(5, (-1))])], [])
noncomputable def rBITm_3 : sX := (none, [], [], [((-3), [(1, 1)]), (3, [(1, (-1))]), ((-1), [(2, 1)]), (1, [(2, (-1))]), ((-1), [(3, 1)]), (1, [(3, (-1))]), (0, [(4, 1)]), (0, [(4, (-1))]), (0, [(5, 1)]), (0, [(5, (-1))])], [])
noncomputable def rBITm_4 : sX := (none, [], [], [((-4), [(1, 1)]), (4, [(1, (-1))]), (0, [(2, 1)]), (0, [(2, (-1))]), (0, [(3, 1)]), (0, [(3, (-1))]), ((-1), [(4, 1)]), (1, [(4, (-1))]), (0, [(5, 1)]), (0, [(5, (-1))])], [])
noncomputable def rBITm_5 : sX := (none, [], [], [((-5), [(1, 1)]), (5, [(1, (-1))]), ((-1), [(2, 1)]), (1, [(2, (-1))]), (0, [(3, 1)]), (0, [(3, (-1))]), ((-1), [(4, 1)]), (1, [(4, (-1))]), (0, [(5, 1)]), (0, [(5, (-1))])], [])
noncomputable def rBITm_6 : sX := (none, [], [], [((-6), [(1, 1)]), (6, [(1, (-1))]), (0, [(2, 1)]), (0, [(2, (-1))]), ((-1), [(3, 1)]), (1, [(3, (-1))]), ((-1), [(4, 1)]), (1, [(4, (-1))]), (0, [(5, 1)]), (0, [(5, (-1))])], [])
noncomputable def rBITm_7 : sX := (none, [], [], [((-7), [(1, 1)]), (7, [(1, (-1))]), ((-1), [(2, 1)]), (1, [(2, (-1))]), ((-1), [(3, 1)]), (1, [(3, (-1))]), ((-1), [(4, 1)]), (1, [(4, (-1))]), (0, [(5, 1)]), (0, [(5, (-1))])], [])
noncomputable def rBITm_8 : sX := (none, [], [], [((-8), [(1, 1)]), (8, [(1, (-1))]), (0, [(2, 1)]), (0, [(2, (-1))]), (0, [(3, 1)]), (0, [(3, (-1))]), (0, [(4, 1)]), (0, [(4, (-1))]), ((-1), [(5, 1)]), (1, [(5, (-1))])], [])
noncomputable def rBITm_9 : sX := (none, [], [], [((-9), [(1, 1)]), (9, [(1, (-1))]), ((-1), [(2, 1)]), (1, [(2, (-1))]), (0, [(3, 1)]), (0, [(3, (-1))]), (0, [(4, 1)]), (0, [(4, (-1))]), ((-1), [(5, 1)]), (1, [(5, (-1))])], [])
noncomputable def rBITm_10 : sX := (none, [], [], [((-10), [(1, 1)]), (10, [(1, (-1))]), (0, [(2, 1)]), (0, [(2, (-1))]), ((-1), [(3, 1)]), (1, [(3, (-1))]), (0, [(4, 1)]), (0, [(4, (-1))]), ((-1), [(5, 1)]), (1, [(5, (-1))])], [])
noncomputable def rBITm_11 : sX := (none, [], [], [((-11), [(1, 1)]), (11, [(1, (-1))]), ((-1), [(2, 1)]), (1, [(2, (-1))]), ((-1), [(3, 1)]), (1, [(3, (-1))]), (0, [(4, 1)]), (0, [(4, (-1))]), ((-1), [(5, 1)]), (1, [(5, (-1))])], [])
noncomputable def rBITm_12 : sX := (none, [], [], [((-12), [(1, 1)]), (12, [(1, (-1))]), (0, [(2, 1)]), (0, [(2, (-1))]), (0, [(3, 1)]), (0, [(3, (-1))]), ((-1), [(4, 1)]), (1, [(4, (-1))]), ((-1), [(5, 1)]), (1, [(5, (-1))])], [])
noncomputable def rBITm_13 : sX := (none, [], [], [((-13), [(1, 1)]), (13, [(1, (-1))]), ((-1), [(2, 1)]), (1, [(2, (-1))]), (0, [(3, 1)]), (0, [(3, (-1))]), ((-1), [(4, 1)]), (1, [(4, (-1))]), ((-1), [(5, 1)]), (1, [(5, (-1))])], [])
noncomputable def rBITm_14 : sX := (none, [], [], [((-14), [(1, 1)]), (14, [(1, (-1))]), (0, [(2, 1)]), (0, [(2, (-1))]), ((-1), [(3, 1)]), (1, [(3, (-1))]), ((-1), [(4, 1)]), (1, [(4, (-1))]), ((-1), [(5, 1)]), (1, [(5, (-1))])], [])
noncomputable def rBITm_15 : sX := (none, [], [], [((-15), [(1, 1)]), (15, [(1, (-1))]), ((-1), [(2, 1)]), (1, [(2, (-1))]), ((-1), [(3, 1)]), (1, [(3, (-1))]), ((-1), [(4, 1)]), (1, [(4, (-1))]), ((-1), [(5, 1)]), (1, [(5, (-1))])], [])
noncomputable def rBITm : sQ := (0, ([], [(2, 1020, (0, [])), (0, 5, (0, [])), (2, 534, (0, [(1, 1)])), (2, 535, (0, [(1, 1)])), (2, 536, (0, [(1, 1)])), (2, 537, (0, [(1, 1)]))], [(1, 1), (0, 15), (0, 1), (0, 1), (0, 1), (0, 1)], [], [(0, 0), (1, 1), (2, 2), (3, 3), (4, 4), (5, 5)], (0, [])), [rBITm_0, rBITm_1, rBITm_2, rBITm_3, rBITm_4, rBITm_5, rBITm_6, rBITm_7, rBITm_8, rBITm_9, rBITm_10, rBITm_11, rBITm_12, rBITm_13, rBITm_14, rBITm_15], [], 0)
theorem rBITm_ok : pRul pReg pG pgv (rBITm) := by
  intro loc h ρ ρ0 hG hM
  have hM : sMt pReg pgv ρ ρ0 (sAs (rBITm).2.1) loc [] h := hM
  have q0 : ρ0 1 = ρ 0 := (hM.2.2.2.2.2 (1, sY 0) (List.mem_of_getElem? (i := 1) rfl)).trans (sY_v ρ 0)
  have q1 : ρ0 2 = ρ 1 := (hM.2.2.2.2.2 (2, sY 1) (List.mem_of_getElem? (i := 2) rfl)).trans (sY_v ρ 1)
  have q2 : ρ0 3 = ρ 2 := (hM.2.2.2.2.2 (3, sY 2) (List.mem_of_getElem? (i := 3) rfl)).trans (sY_v ρ 2)
  have q3 : ρ0 4 = ρ 3 := (hM.2.2.2.2.2 (4, sY 3) (List.mem_of_getElem? (i := 4) rfl)).trans (sY_v ρ 3)
  have q4 : ρ0 5 = ρ 4 := (hM.2.2.2.2.2 (5, sY 4) (List.mem_of_getElem? (i := 5) rfl)).trans (sY_v ρ 4)
  have q5 : ρ0 6 = ρ 5 := (hM.2.2.2.2.2 (6, sY 5) (List.mem_of_getElem? (i := 6) rfl)).trans (sY_v ρ 5)
  have hL : ∀ j, j < 6 → pL [ρ 0, ρ 1, ρ 2, ρ 3, ρ 4, ρ 5] j = ρ0 (j + 1) := by
    intro j hj
    match j, hj with
    | 0, _ => exact q0.symm
    | 1, _ => exact q1.symm
    | 2, _ => exact q2.symm
    | 3, _ => exact q3.symm
    | 4, _ => exact q4.symm
    | 5, _ => exact q5.symm
    | k + 6, hj => omega
  have b0 : (1 : Int) ≤ ρ 0 ∧ ρ 0 ≤ 1 := hM.2.2.2.1 0 (1, 1) rfl
  have b1 : (0 : Int) ≤ ρ 1 ∧ ρ 1 ≤ 15 := hM.2.2.2.1 1 (0, 15) rfl
  have b2 : (0 : Int) ≤ ρ 2 ∧ ρ 2 ≤ 1 := hM.2.2.2.1 2 (0, 1) rfl
  have b3 : (0 : Int) ≤ ρ 3 ∧ ρ 3 ≤ 1 := hM.2.2.2.1 3 (0, 1) rfl
  have b4 : (0 : Int) ≤ ρ 4 ∧ ρ 4 ≤ 1 := hM.2.2.2.1 4 (0, 1) rfl
  have b5 : (0 : Int) ≤ ρ 5 ∧ ρ 5 ≤ 1 := hM.2.2.2.1 5 (0, 1) rfl
  obtain ⟨ho, hh, hf⟩ := pTold20 hM 0 (0, []) rfl b0.1
  have hn := ho.1
  obtain ⟨g, eg⟩ : ∃ g : Nat, ρ 1 = (g : Int) := ⟨(ρ 1).toNat, by omega⟩
  have hg : g < 16 := by omega
  have eb0 : ρ 2 = (fBt g 0 : Int) := (pfF hM hf 2 534 (0, [(1, 1)]) rfl (by decide) (by decide) (g) (by omega) (by show (0 + (1 * ρ 1 + 0) : Int) = _; omega)).trans (fA_B (k := 0) (by decide))
  have eb1 : ρ 3 = (fBt g 1 : Int) := (pfF hM hf 3 535 (0, [(1, 1)]) rfl (by decide) (by decide) (g) (by omega) (by show (0 + (1 * ρ 1 + 0) : Int) = _; omega)).trans (fA_B (k := 1) (by decide))
  have eb2 : ρ 4 = (fBt g 2 : Int) := (pfF hM hf 4 536 (0, [(1, 1)]) rfl (by decide) (by decide) (g) (by omega) (by show (0 + (1 * ρ 1 + 0) : Int) = _; omega)).trans (fA_B (k := 2) (by decide))
  have eb3 : ρ 5 = (fBt g 3 : Int) := (pfF hM hf 5 537 (0, [(1, 1)]) rfl (by decide) (by decide) (g) (by omega) (by show (0 + (1 * ρ 1 + 0) : Int) = _; omega)).trans (fA_B (k := 3) (by decide))
  rcases (show g = 0 ∨ g = 1 ∨ g = 2 ∨ g = 3 ∨ g = 4 ∨ g = 5 ∨ g = 6 ∨ g = 7 ∨ g = 8 ∨ g = 9 ∨ g = 10 ∨ g = 11 ∨ g = 12 ∨ g = 13 ∨ g = 14 ∨ g = 15 by omega) with rfl | rfl | rfl | rfl | rfl | rfl | rfl | rfl | rfl | rfl | rfl | rfl | rfl | rfl | rfl | rfl
  · have x0 : fBt 0 0 = 0 := rfl
    rw [x0] at eb0
    have x1 : fBt 0 1 = 0 := rfl
    rw [x1] at eb1
    have x2 : fBt 0 2 = 0 := rfl
    rw [x2] at eb2
    have x3 : fBt 0 3 = 0 := rfl
    rw [x3] at eb3
    refine ⟨rBITm_0, List.mem_of_getElem? (i := 0) rfl, pEnd [ρ 0, ρ 1, ρ 2, ρ 3, ρ 4, ρ 5] rfl ?_ ?_ ?_ ?_⟩
    · exact hL
    · intro k b hk
      cases hk
    · exact pAll1 (show (0 + (1 * ρ 1 + 0) : Int) ≤ 0 by omega) (pAll1 (show (0 + ((-1) * ρ 1 + 0) : Int) ≤ 0 by omega) (pAll1 (show (0 + (1 * ρ 2 + 0) : Int) ≤ 0 by omega) (pAll1 (show (0 + ((-1) * ρ 2 + 0) : Int) ≤ 0 by omega) (pAll1 (show (0 + (1 * ρ 3 + 0) : Int) ≤ 0 by omega) (pAll1 (show (0 + ((-1) * ρ 3 + 0) : Int) ≤ 0 by omega) (pAll1 (show (0 + (1 * ρ 4 + 0) : Int) ≤ 0 by omega) (pAll1 (show (0 + ((-1) * ρ 4 + 0) : Int) ≤ 0 by omega) (pAll1 (show (0 + (1 * ρ 5 + 0) : Int) ≤ 0 by omega) (pAll1 (show (0 + ((-1) * ρ 5 + 0) : Int) ≤ 0 by omega) (pAll0))))))))))
    · exact pAll0
  · have x0 : fBt 1 0 = 1 := rfl
    rw [x0] at eb0
    have x1 : fBt 1 1 = 0 := rfl
    rw [x1] at eb1
    have x2 : fBt 1 2 = 0 := rfl
    rw [x2] at eb2
    have x3 : fBt 1 3 = 0 := rfl
    rw [x3] at eb3
    refine ⟨rBITm_1, List.mem_of_getElem? (i := 1) rfl, pEnd [ρ 0, ρ 1, ρ 2, ρ 3, ρ 4, ρ 5] rfl ?_ ?_ ?_ ?_⟩
    · exact hL
    · intro k b hk
      cases hk
    · exact pAll1 (show ((-1) + (1 * ρ 1 + 0) : Int) ≤ 0 by omega) (pAll1 (show (1 + ((-1) * ρ 1 + 0) : Int) ≤ 0 by omega) (pAll1 (show ((-1) + (1 * ρ 2 + 0) : Int) ≤ 0 by omega) (pAll1 (show (1 + ((-1) * ρ 2 + 0) : Int) ≤ 0 by omega) (pAll1 (show (0 + (1 * ρ 3 + 0) : Int) ≤ 0 by omega) (pAll1 (show (0 + ((-1) * ρ 3 + 0) : Int) ≤ 0 by omega) (pAll1 (show (0 + (1 * ρ 4 + 0) : Int) ≤ 0 by omega) (pAll1 (show (0 + ((-1) * ρ 4 + 0) : Int) ≤ 0 by omega) (pAll1 (show (0 + (1 * ρ 5 + 0) : Int) ≤ 0 by omega) (pAll1 (show (0 + ((-1) * ρ 5 + 0) : Int) ≤ 0 by omega) (pAll0))))))))))
    · exact pAll0
  · have x0 : fBt 2 0 = 0 := rfl
    rw [x0] at eb0
    have x1 : fBt 2 1 = 1 := rfl
    rw [x1] at eb1
    have x2 : fBt 2 2 = 0 := rfl
    rw [x2] at eb2
    have x3 : fBt 2 3 = 0 := rfl
    rw [x3] at eb3
    refine ⟨rBITm_2, List.mem_of_getElem? (i := 2) rfl, pEnd [ρ 0, ρ 1, ρ 2, ρ 3, ρ 4, ρ 5] rfl ?_ ?_ ?_ ?_⟩
    · exact hL
    · intro k b hk
      cases hk
    · exact pAll1 (show ((-2) + (1 * ρ 1 + 0) : Int) ≤ 0 by omega) (pAll1 (show (2 + ((-1) * ρ 1 + 0) : Int) ≤ 0 by omega) (pAll1 (show (0 + (1 * ρ 2 + 0) : Int) ≤ 0 by omega) (pAll1 (show (0 + ((-1) * ρ 2 + 0) : Int) ≤ 0 by omega) (pAll1 (show ((-1) + (1 * ρ 3 + 0) : Int) ≤ 0 by omega) (pAll1 (show (1 + ((-1) * ρ 3 + 0) : Int) ≤ 0 by omega) (pAll1 (show (0 + (1 * ρ 4 + 0) : Int) ≤ 0 by omega) (pAll1 (show (0 + ((-1) * ρ 4 + 0) : Int) ≤ 0 by omega) (pAll1 (show (0 + (1 * ρ 5 + 0) : Int) ≤ 0 by omega) (pAll1 (show (0 + ((-1) * ρ 5 + 0) : Int) ≤ 0 by omega) (pAll0))))))))))
    · exact pAll0
  · have x0 : fBt 3 0 = 1 := rfl
    rw [x0] at eb0
    have x1 : fBt 3 1 = 1 := rfl
    rw [x1] at eb1
    have x2 : fBt 3 2 = 0 := rfl
    rw [x2] at eb2
    have x3 : fBt 3 3 = 0 := rfl
    rw [x3] at eb3
    refine ⟨rBITm_3, List.mem_of_getElem? (i := 3) rfl, pEnd [ρ 0, ρ 1, ρ 2, ρ 3, ρ 4, ρ 5] rfl ?_ ?_ ?_ ?_⟩
    · exact hL
    · intro k b hk
      cases hk
    · exact pAll1 (show ((-3) + (1 * ρ 1 + 0) : Int) ≤ 0 by omega) (pAll1 (show (3 + ((-1) * ρ 1 + 0) : Int) ≤ 0 by omega) (pAll1 (show ((-1) + (1 * ρ 2 + 0) : Int) ≤ 0 by omega) (pAll1 (show (1 + ((-1) * ρ 2 + 0) : Int) ≤ 0 by omega) (pAll1 (show ((-1) + (1 * ρ 3 + 0) : Int) ≤ 0 by omega) (pAll1 (show (1 + ((-1) * ρ 3 + 0) : Int) ≤ 0 by omega) (pAll1 (show (0 + (1 * ρ 4 + 0) : Int) ≤ 0 by omega) (pAll1 (show (0 + ((-1) * ρ 4 + 0) : Int) ≤ 0 by omega) (pAll1 (show (0 + (1 * ρ 5 + 0) : Int) ≤ 0 by omega) (pAll1 (show (0 + ((-1) * ρ 5 + 0) : Int) ≤ 0 by omega) (pAll0))))))))))
    · exact pAll0
  · have x0 : fBt 4 0 = 0 := rfl
    rw [x0] at eb0
    have x1 : fBt 4 1 = 0 := rfl
    rw [x1] at eb1
    have x2 : fBt 4 2 = 1 := rfl
    rw [x2] at eb2
    have x3 : fBt 4 3 = 0 := rfl
    rw [x3] at eb3
    refine ⟨rBITm_4, List.mem_of_getElem? (i := 4) rfl, pEnd [ρ 0, ρ 1, ρ 2, ρ 3, ρ 4, ρ 5] rfl ?_ ?_ ?_ ?_⟩
    · exact hL
    · intro k b hk
      cases hk
    · exact pAll1 (show ((-4) + (1 * ρ 1 + 0) : Int) ≤ 0 by omega) (pAll1 (show (4 + ((-1) * ρ 1 + 0) : Int) ≤ 0 by omega) (pAll1 (show (0 + (1 * ρ 2 + 0) : Int) ≤ 0 by omega) (pAll1 (show (0 + ((-1) * ρ 2 + 0) : Int) ≤ 0 by omega) (pAll1 (show (0 + (1 * ρ 3 + 0) : Int) ≤ 0 by omega) (pAll1 (show (0 + ((-1) * ρ 3 + 0) : Int) ≤ 0 by omega) (pAll1 (show ((-1) + (1 * ρ 4 + 0) : Int) ≤ 0 by omega) (pAll1 (show (1 + ((-1) * ρ 4 + 0) : Int) ≤ 0 by omega) (pAll1 (show (0 + (1 * ρ 5 + 0) : Int) ≤ 0 by omega) (pAll1 (show (0 + ((-1) * ρ 5 + 0) : Int) ≤ 0 by omega) (pAll0))))))))))
    · exact pAll0
  · have x0 : fBt 5 0 = 1 := rfl
    rw [x0] at eb0
    have x1 : fBt 5 1 = 0 := rfl
    rw [x1] at eb1
    have x2 : fBt 5 2 = 1 := rfl
    rw [x2] at eb2
    have x3 : fBt 5 3 = 0 := rfl
    rw [x3] at eb3
    refine ⟨rBITm_5, List.mem_of_getElem? (i := 5) rfl, pEnd [ρ 0, ρ 1, ρ 2, ρ 3, ρ 4, ρ 5] rfl ?_ ?_ ?_ ?_⟩
    · exact hL
    · intro k b hk
      cases hk
    · exact pAll1 (show ((-5) + (1 * ρ 1 + 0) : Int) ≤ 0 by omega) (pAll1 (show (5 + ((-1) * ρ 1 + 0) : Int) ≤ 0 by omega) (pAll1 (show ((-1) + (1 * ρ 2 + 0) : Int) ≤ 0 by omega) (pAll1 (show (1 + ((-1) * ρ 2 + 0) : Int) ≤ 0 by omega) (pAll1 (show (0 + (1 * ρ 3 + 0) : Int) ≤ 0 by omega) (pAll1 (show (0 + ((-1) * ρ 3 + 0) : Int) ≤ 0 by omega) (pAll1 (show ((-1) + (1 * ρ 4 + 0) : Int) ≤ 0 by omega) (pAll1 (show (1 + ((-1) * ρ 4 + 0) : Int) ≤ 0 by omega) (pAll1 (show (0 + (1 * ρ 5 + 0) : Int) ≤ 0 by omega) (pAll1 (show (0 + ((-1) * ρ 5 + 0) : Int) ≤ 0 by omega) (pAll0))))))))))
    · exact pAll0
  · have x0 : fBt 6 0 = 0 := rfl
    rw [x0] at eb0
    have x1 : fBt 6 1 = 1 := rfl
    rw [x1] at eb1
    have x2 : fBt 6 2 = 1 := rfl
    rw [x2] at eb2
    have x3 : fBt 6 3 = 0 := rfl
    rw [x3] at eb3
    refine ⟨rBITm_6, List.mem_of_getElem? (i := 6) rfl, pEnd [ρ 0, ρ 1, ρ 2, ρ 3, ρ 4, ρ 5] rfl ?_ ?_ ?_ ?_⟩
    · exact hL
    · intro k b hk
      cases hk
    · exact pAll1 (show ((-6) + (1 * ρ 1 + 0) : Int) ≤ 0 by omega) (pAll1 (show (6 + ((-1) * ρ 1 + 0) : Int) ≤ 0 by omega) (pAll1 (show (0 + (1 * ρ 2 + 0) : Int) ≤ 0 by omega) (pAll1 (show (0 + ((-1) * ρ 2 + 0) : Int) ≤ 0 by omega) (pAll1 (show ((-1) + (1 * ρ 3 + 0) : Int) ≤ 0 by omega) (pAll1 (show (1 + ((-1) * ρ 3 + 0) : Int) ≤ 0 by omega) (pAll1 (show ((-1) + (1 * ρ 4 + 0) : Int) ≤ 0 by omega) (pAll1 (show (1 + ((-1) * ρ 4 + 0) : Int) ≤ 0 by omega) (pAll1 (show (0 + (1 * ρ 5 + 0) : Int) ≤ 0 by omega) (pAll1 (show (0 + ((-1) * ρ 5 + 0) : Int) ≤ 0 by omega) (pAll0))))))))))
    · exact pAll0
  · have x0 : fBt 7 0 = 1 := rfl
    rw [x0] at eb0
    have x1 : fBt 7 1 = 1 := rfl
    rw [x1] at eb1
    have x2 : fBt 7 2 = 1 := rfl
    rw [x2] at eb2
    have x3 : fBt 7 3 = 0 := rfl
    rw [x3] at eb3
    refine ⟨rBITm_7, List.mem_of_getElem? (i := 7) rfl, pEnd [ρ 0, ρ 1, ρ 2, ρ 3, ρ 4, ρ 5] rfl ?_ ?_ ?_ ?_⟩
    · exact hL
    · intro k b hk
      cases hk
    · exact pAll1 (show ((-7) + (1 * ρ 1 + 0) : Int) ≤ 0 by omega) (pAll1 (show (7 + ((-1) * ρ 1 + 0) : Int) ≤ 0 by omega) (pAll1 (show ((-1) + (1 * ρ 2 + 0) : Int) ≤ 0 by omega) (pAll1 (show (1 + ((-1) * ρ 2 + 0) : Int) ≤ 0 by omega) (pAll1 (show ((-1) + (1 * ρ 3 + 0) : Int) ≤ 0 by omega) (pAll1 (show (1 + ((-1) * ρ 3 + 0) : Int) ≤ 0 by omega) (pAll1 (show ((-1) + (1 * ρ 4 + 0) : Int) ≤ 0 by omega) (pAll1 (show (1 + ((-1) * ρ 4 + 0) : Int) ≤ 0 by omega) (pAll1 (show (0 + (1 * ρ 5 + 0) : Int) ≤ 0 by omega) (pAll1 (show (0 + ((-1) * ρ 5 + 0) : Int) ≤ 0 by omega) (pAll0))))))))))
    · exact pAll0
  · have x0 : fBt 8 0 = 0 := rfl
    rw [x0] at eb0
    have x1 : fBt 8 1 = 0 := rfl
    rw [x1] at eb1
    have x2 : fBt 8 2 = 0 := rfl
    rw [x2] at eb2
    have x3 : fBt 8 3 = 1 := rfl
    rw [x3] at eb3
    refine ⟨rBITm_8, List.mem_of_getElem? (i := 8) rfl, pEnd [ρ 0, ρ 1, ρ 2, ρ 3, ρ 4, ρ 5] rfl ?_ ?_ ?_ ?_⟩
    · exact hL
    · intro k b hk
      cases hk
    · exact pAll1 (show ((-8) + (1 * ρ 1 + 0) : Int) ≤ 0 by omega) (pAll1 (show (8 + ((-1) * ρ 1 + 0) : Int) ≤ 0 by omega) (pAll1 (show (0 + (1 * ρ 2 + 0) : Int) ≤ 0 by omega) (pAll1 (show (0 + ((-1) * ρ 2 + 0) : Int) ≤ 0 by omega) (pAll1 (show (0 + (1 * ρ 3 + 0) : Int) ≤ 0 by omega) (pAll1 (show (0 + ((-1) * ρ 3 + 0) : Int) ≤ 0 by omega) (pAll1 (show (0 + (1 * ρ 4 + 0) : Int) ≤ 0 by omega) (pAll1 (show (0 + ((-1) * ρ 4 + 0) : Int) ≤ 0 by omega) (pAll1 (show ((-1) + (1 * ρ 5 + 0) : Int) ≤ 0 by omega) (pAll1 (show (1 + ((-1) * ρ 5 + 0) : Int) ≤ 0 by omega) (pAll0))))))))))
    · exact pAll0
  · have x0 : fBt 9 0 = 1 := rfl
    rw [x0] at eb0
    have x1 : fBt 9 1 = 0 := rfl
    rw [x1] at eb1
    have x2 : fBt 9 2 = 0 := rfl
    rw [x2] at eb2
    have x3 : fBt 9 3 = 1 := rfl
    rw [x3] at eb3
    refine ⟨rBITm_9, List.mem_of_getElem? (i := 9) rfl, pEnd [ρ 0, ρ 1, ρ 2, ρ 3, ρ 4, ρ 5] rfl ?_ ?_ ?_ ?_⟩
    · exact hL
    · intro k b hk
      cases hk
    · exact pAll1 (show ((-9) + (1 * ρ 1 + 0) : Int) ≤ 0 by omega) (pAll1 (show (9 + ((-1) * ρ 1 + 0) : Int) ≤ 0 by omega) (pAll1 (show ((-1) + (1 * ρ 2 + 0) : Int) ≤ 0 by omega) (pAll1 (show (1 + ((-1) * ρ 2 + 0) : Int) ≤ 0 by omega) (pAll1 (show (0 + (1 * ρ 3 + 0) : Int) ≤ 0 by omega) (pAll1 (show (0 + ((-1) * ρ 3 + 0) : Int) ≤ 0 by omega) (pAll1 (show (0 + (1 * ρ 4 + 0) : Int) ≤ 0 by omega) (pAll1 (show (0 + ((-1) * ρ 4 + 0) : Int) ≤ 0 by omega) (pAll1 (show ((-1) + (1 * ρ 5 + 0) : Int) ≤ 0 by omega) (pAll1 (show (1 + ((-1) * ρ 5 + 0) : Int) ≤ 0 by omega) (pAll0))))))))))
    · exact pAll0
  · have x0 : fBt 10 0 = 0 := rfl
    rw [x0] at eb0
    have x1 : fBt 10 1 = 1 := rfl
    rw [x1] at eb1
    have x2 : fBt 10 2 = 0 := rfl
    rw [x2] at eb2
    have x3 : fBt 10 3 = 1 := rfl
    rw [x3] at eb3
    refine ⟨rBITm_10, List.mem_of_getElem? (i := 10) rfl, pEnd [ρ 0, ρ 1, ρ 2, ρ 3, ρ 4, ρ 5] rfl ?_ ?_ ?_ ?_⟩
    · exact hL
    · intro k b hk
      cases hk
    · exact pAll1 (show ((-10) + (1 * ρ 1 + 0) : Int) ≤ 0 by omega) (pAll1 (show (10 + ((-1) * ρ 1 + 0) : Int) ≤ 0 by omega) (pAll1 (show (0 + (1 * ρ 2 + 0) : Int) ≤ 0 by omega) (pAll1 (show (0 + ((-1) * ρ 2 + 0) : Int) ≤ 0 by omega) (pAll1 (show ((-1) + (1 * ρ 3 + 0) : Int) ≤ 0 by omega) (pAll1 (show (1 + ((-1) * ρ 3 + 0) : Int) ≤ 0 by omega) (pAll1 (show (0 + (1 * ρ 4 + 0) : Int) ≤ 0 by omega) (pAll1 (show (0 + ((-1) * ρ 4 + 0) : Int) ≤ 0 by omega) (pAll1 (show ((-1) + (1 * ρ 5 + 0) : Int) ≤ 0 by omega) (pAll1 (show (1 + ((-1) * ρ 5 + 0) : Int) ≤ 0 by omega) (pAll0))))))))))
    · exact pAll0
  · have x0 : fBt 11 0 = 1 := rfl
    rw [x0] at eb0
    have x1 : fBt 11 1 = 1 := rfl
    rw [x1] at eb1
    have x2 : fBt 11 2 = 0 := rfl
    rw [x2] at eb2
    have x3 : fBt 11 3 = 1 := rfl
    rw [x3] at eb3
    refine ⟨rBITm_11, List.mem_of_getElem? (i := 11) rfl, pEnd [ρ 0, ρ 1, ρ 2, ρ 3, ρ 4, ρ 5] rfl ?_ ?_ ?_ ?_⟩
    · exact hL
    · intro k b hk
      cases hk
    · exact pAll1 (show ((-11) + (1 * ρ 1 + 0) : Int) ≤ 0 by omega) (pAll1 (show (11 + ((-1) * ρ 1 + 0) : Int) ≤ 0 by omega) (pAll1 (show ((-1) + (1 * ρ 2 + 0) : Int) ≤ 0 by omega) (pAll1 (show (1 + ((-1) * ρ 2 + 0) : Int) ≤ 0 by omega) (pAll1 (show ((-1) + (1 * ρ 3 + 0) : Int) ≤ 0 by omega) (pAll1 (show (1 + ((-1) * ρ 3 + 0) : Int) ≤ 0 by omega) (pAll1 (show (0 + (1 * ρ 4 + 0) : Int) ≤ 0 by omega) (pAll1 (show (0 + ((-1) * ρ 4 + 0) : Int) ≤ 0 by omega) (pAll1 (show ((-1) + (1 * ρ 5 + 0) : Int) ≤ 0 by omega) (pAll1 (show (1 + ((-1) * ρ 5 + 0) : Int) ≤ 0 by omega) (pAll0))))))))))
    · exact pAll0
  · have x0 : fBt 12 0 = 0 := rfl
    rw [x0] at eb0
    have x1 : fBt 12 1 = 0 := rfl
    rw [x1] at eb1
    have x2 : fBt 12 2 = 1 := rfl
    rw [x2] at eb2
    have x3 : fBt 12 3 = 1 := rfl
    rw [x3] at eb3
    refine ⟨rBITm_12, List.mem_of_getElem? (i := 12) rfl, pEnd [ρ 0, ρ 1, ρ 2, ρ 3, ρ 4, ρ 5] rfl ?_ ?_ ?_ ?_⟩
    · exact hL
    · intro k b hk
      cases hk
    · exact pAll1 (show ((-12) + (1 * ρ 1 + 0) : Int) ≤ 0 by omega) (pAll1 (show (12 + ((-1) * ρ 1 + 0) : Int) ≤ 0 by omega) (pAll1 (show (0 + (1 * ρ 2 + 0) : Int) ≤ 0 by omega) (pAll1 (show (0 + ((-1) * ρ 2 + 0) : Int) ≤ 0 by omega) (pAll1 (show (0 + (1 * ρ 3 + 0) : Int) ≤ 0 by omega) (pAll1 (show (0 + ((-1) * ρ 3 + 0) : Int) ≤ 0 by omega) (pAll1 (show ((-1) + (1 * ρ 4 + 0) : Int) ≤ 0 by omega) (pAll1 (show (1 + ((-1) * ρ 4 + 0) : Int) ≤ 0 by omega) (pAll1 (show ((-1) + (1 * ρ 5 + 0) : Int) ≤ 0 by omega) (pAll1 (show (1 + ((-1) * ρ 5 + 0) : Int) ≤ 0 by omega) (pAll0))))))))))
    · exact pAll0
  · have x0 : fBt 13 0 = 1 := rfl
    rw [x0] at eb0
    have x1 : fBt 13 1 = 0 := rfl
    rw [x1] at eb1
    have x2 : fBt 13 2 = 1 := rfl
    rw [x2] at eb2
    have x3 : fBt 13 3 = 1 := rfl
    rw [x3] at eb3
    refine ⟨rBITm_13, List.mem_of_getElem? (i := 13) rfl, pEnd [ρ 0, ρ 1, ρ 2, ρ 3, ρ 4, ρ 5] rfl ?_ ?_ ?_ ?_⟩
    · exact hL
    · intro k b hk
      cases hk
    · exact pAll1 (show ((-13) + (1 * ρ 1 + 0) : Int) ≤ 0 by omega) (pAll1 (show (13 + ((-1) * ρ 1 + 0) : Int) ≤ 0 by omega) (pAll1 (show ((-1) + (1 * ρ 2 + 0) : Int) ≤ 0 by omega) (pAll1 (show (1 + ((-1) * ρ 2 + 0) : Int) ≤ 0 by omega) (pAll1 (show (0 + (1 * ρ 3 + 0) : Int) ≤ 0 by omega) (pAll1 (show (0 + ((-1) * ρ 3 + 0) : Int) ≤ 0 by omega) (pAll1 (show ((-1) + (1 * ρ 4 + 0) : Int) ≤ 0 by omega) (pAll1 (show (1 + ((-1) * ρ 4 + 0) : Int) ≤ 0 by omega) (pAll1 (show ((-1) + (1 * ρ 5 + 0) : Int) ≤ 0 by omega) (pAll1 (show (1 + ((-1) * ρ 5 + 0) : Int) ≤ 0 by omega) (pAll0))))))))))
    · exact pAll0
  · have x0 : fBt 14 0 = 0 := rfl
    rw [x0] at eb0
    have x1 : fBt 14 1 = 1 := rfl
    rw [x1] at eb1
    have x2 : fBt 14 2 = 1 := rfl
    rw [x2] at eb2
    have x3 : fBt 14 3 = 1 := rfl
    rw [x3] at eb3
    refine ⟨rBITm_14, List.mem_of_getElem? (i := 14) rfl, pEnd [ρ 0, ρ 1, ρ 2, ρ 3, ρ 4, ρ 5] rfl ?_ ?_ ?_ ?_⟩
    · exact hL
    · intro k b hk
      cases hk
    · exact pAll1 (show ((-14) + (1 * ρ 1 + 0) : Int) ≤ 0 by omega) (pAll1 (show (14 + ((-1) * ρ 1 + 0) : Int) ≤ 0 by omega) (pAll1 (show (0 + (1 * ρ 2 + 0) : Int) ≤ 0 by omega) (pAll1 (show (0 + ((-1) * ρ 2 + 0) : Int) ≤ 0 by omega) (pAll1 (show ((-1) + (1 * ρ 3 + 0) : Int) ≤ 0 by omega) (pAll1 (show (1 + ((-1) * ρ 3 + 0) : Int) ≤ 0 by omega) (pAll1 (show ((-1) + (1 * ρ 4 + 0) : Int) ≤ 0 by omega) (pAll1 (show (1 + ((-1) * ρ 4 + 0) : Int) ≤ 0 by omega) (pAll1 (show ((-1) + (1 * ρ 5 + 0) : Int) ≤ 0 by omega) (pAll1 (show (1 + ((-1) * ρ 5 + 0) : Int) ≤ 0 by omega) (pAll0))))))))))
    · exact pAll0
  · have x0 : fBt 15 0 = 1 := rfl
    rw [x0] at eb0
    have x1 : fBt 15 1 = 1 := rfl
    rw [x1] at eb1
    have x2 : fBt 15 2 = 1 := rfl
    rw [x2] at eb2
    have x3 : fBt 15 3 = 1 := rfl
    rw [x3] at eb3
    refine ⟨rBITm_15, List.mem_of_getElem? (i := 15) rfl, pEnd [ρ 0, ρ 1, ρ 2, ρ 3, ρ 4, ρ 5] rfl ?_ ?_ ?_ ?_⟩
    · exact hL
    · intro k b hk
      cases hk
    · exact pAll1 (show ((-15) + (1 * ρ 1 + 0) : Int) ≤ 0 by omega) (pAll1 (show (15 + ((-1) * ρ 1 + 0) : Int) ≤ 0 by omega) (pAll1 (show ((-1) + (1 * ρ 2 + 0) : Int) ≤ 0 by omega) (pAll1 (show (1 + ((-1) * ρ 2 + 0) : Int) ≤ 0 by omega) (pAll1 (show ((-1) + (1 * ρ 3 + 0) : Int) ≤ 0 by omega) (pAll1 (show (1 + ((-1) * ρ 3 + 0) : Int) ≤ 0 by omega) (pAll1 (show ((-1) + (1 * ρ 4 + 0) : Int) ≤ 0 by omega) (pAll1 (show (1 + ((-1) * ρ 4 + 0) : Int) ≤ 0 by omega) (pAll1 (show ((-1) + (1 * ρ 5 + 0) : Int) ≤ 0 by omega) (pAll1 (show (1 + ((-1) * ρ 5 + 0) : Int) ≤ 0 by omega) (pAll0))))))))))
    · exact pAll0
noncomputable def rBITl_0 : sX := (none, [], [], [(0, [(1, 1)]), (0, [(1, (-1))]), (0, [(2, 1)]), (0, [(2, (-1))]), (0, [(3, 1)]), (0, [(3, (-1))]), (0, [(4, 1)]), (0, [(4, (-1))]), (0, [(5, 1)]), (0, [(5, (-1))])], [])
noncomputable def rBITl_1 : sX := (none, [], [], [((-1), [(1, 1)]), (1, [(1, (-1))]), ((-1), [(2, 1)]), (1, [(2, (-1))]), (0, [(3, 1)]), (0, [(3, (-1))]), (0, [(4, 1)]), (0, [(4, (-1))]), (0, [(5, 1)]), (0, [(5, (-1))])], [])
noncomputable def rBITl_2 : sX := (none, [], [], [((-2), [(1, 1)]), (2, [(1, (-1))]), (0, [(2, 1)]), (0, [(2, (-1))]), ((-1), [(3, 1)]), (1, [(3, (-1))]), (0, [(4, 1)]), (0, [(4, (-1))]), (0, [(5, 1)]), (0, [(5, (-1))])], [])
noncomputable def rBITl_3 : sX := (none, [], [], [((-3), [(1, 1)]), (3, [(1, (-1))]), ((-1), [(2, 1)]), (1, [(2, (-1))]), ((-1), [(3, 1)]), (1, [(3, (-1))]), (0, [(4, 1)]), (0, [(4, (-1))]), (0, [(5, 1)]), (0, [(5, (-1))])], [])
noncomputable def rBITl_4 : sX := (none, [], [], [((-4), [(1, 1)]), (4, [(1, (-1))]), (0, [(2, 1)]), (0, [(2, (-1))]), (0, [(3, 1)]), (0, [(3, (-1))]), ((-1), [(4, 1)]), (1, [(4, (-1))]), (0, [(5, 1)]), (0, [(5, (-1))])], [])
noncomputable def rBITl_5 : sX := (none, [], [], [((-5), [(1, 1)]), (5, [(1, (-1))]), ((-1), [(2, 1)]), (1, [(2, (-1))]), (0, [(3, 1)]), (0, [(3, (-1))]), ((-1), [(4, 1)]), (1, [(4, (-1))]), (0, [(5, 1)]), (0, [(5, (-1))])], [])
noncomputable def rBITl_6 : sX := (none, [], [], [((-6), [(1, 1)]), (6, [(1, (-1))]), (0, [(2, 1)]), (0, [(2, (-1))]), ((-1), [(3, 1)]), (1, [(3, (-1))]), ((-1), [(4, 1)]), (1, [(4, (-1))]), (0, [(5, 1)]), (0, [(5, (-1))])], [])
noncomputable def rBITl_7 : sX := (none, [], [], [((-7), [(1, 1)]), (7, [(1, (-1))]), ((-1), [(2, 1)]), (1, [(2, (-1))]), ((-1), [(3, 1)]), (1, [(3, (-1))]), ((-1), [(4, 1)]), (1, [(4, (-1))]), (0, [(5, 1)]), (0, [(5, (-1))])], [])
noncomputable def rBITl_8 : sX := (none, [], [], [((-8), [(1, 1)]), (8, [(1, (-1))]), (0, [(2, 1)]), (0, [(2, (-1))]), (0, [(3, 1)]), (0, [(3, (-1))]), (0, [(4, 1)]), (0, [(4, (-1))]), ((-1), [(5, 1)]), (1, [(5, (-1))])], [])
noncomputable def rBITl_9 : sX := (none, [], [], [((-9), [(1, 1)]), (9, [(1, (-1))]), ((-1), [(2, 1)]), (1, [(2, (-1))]), (0, [(3, 1)]), (0, [(3, (-1))]), (0, [(4, 1)]), (0, [(4, (-1))]), ((-1), [(5, 1)]), (1, [(5, (-1))])], [])
noncomputable def rBITl_10 : sX := (none, [], [], [((-10), [(1, 1)]), (10, [(1, (-1))]), (0, [(2, 1)]), (0, [(2, (-1))]), ((-1), [(3, 1)]), (1, [(3, (-1))]), (0, [(4, 1)]), (0, [(4, (-1))]), ((-1), [(5, 1)]), (1, [(5, (-1))])], [])
noncomputable def rBITl_11 : sX := (none, [], [], [((-11), [(1, 1)]), (11, [(1, (-1))]), ((-1), [(2, 1)]), (1, [(2, (-1))]), ((-1), [(3, 1)]), (1, [(3, (-1))]), (0, [(4, 1)]), (0, [(4, (-1))]), ((-1), [(5, 1)]), (1, [(5, (-1))])], [])
noncomputable def rBITl_12 : sX := (none, [], [], [((-12), [(1, 1)]), (12, [(1, (-1))]), (0, [(2, 1)]), (0, [(2, (-1))]), (0, [(3, 1)]), (0, [(3, (-1))]), ((-1), [(4, 1)]), (1, [(4, (-1))]), ((-1), [(5, 1)]), (1, [(5, (-1))])], [])
noncomputable def rBITl_13 : sX := (none, [], [], [((-13), [(1, 1)]), (13, [(1, (-1))]), ((-1), [(2, 1)]), (1, [(2, (-1))]), (0, [(3, 1)]), (0, [(3, (-1))]), ((-1), [(4, 1)]), (1, [(4, (-1))]), ((-1), [(5, 1)]), (1, [(5, (-1))])], [])
noncomputable def rBITl_14 : sX := (none, [], [], [((-14), [(1, 1)]), (14, [(1, (-1))]), (0, [(2, 1)]), (0, [(2, (-1))]), ((-1), [(3, 1)]), (1, [(3, (-1))]), ((-1), [(4, 1)]), (1, [(4, (-1))]), ((-1), [(5, 1)]), (1, [(5, (-1))])], [])
noncomputable def rBITl_15 : sX := (none, [], [], [((-15), [(1, 1)]), (15, [(1, (-1))]), ((-1), [(2, 1)]), (1, [(2, (-1))]), ((-1), [(3, 1)]), (1, [(3, (-1))]), ((-1), [(4, 1)]), (1, [(4, (-1))]), ((-1), [(5, 1)]), (1, [(5, (-1))])], [])
noncomputable def rBITl : sQ := (0, ([], [(2, 1020, (0, [])), (0, 0, (0, [])), (2, 534, (0, [(1, 1)])), (2, 535, (0, [(1, 1)])), (2, 536, (0, [(1, 1)])), (2, 537, (0, [(1, 1)]))], [(1, 1), (0, 15), (0, 1), (0, 1), (0, 1), (0, 1)], [], [(0, 0), (1, 1), (2, 2), (3, 3), (4, 4), (5, 5)], (0, [])), [rBITl_0, rBITl_1, rBITl_2, rBITl_3, rBITl_4, rBITl_5, rBITl_6, rBITl_7, rBITl_8, rBITl_9, rBITl_10, rBITl_11, rBITl_12, rBITl_13, rBITl_14, rBITl_15], [], 0)
theorem rBITl_ok : pRul pReg pG pgv (rBITl) := by
  intro loc h ρ ρ0 hG hM
  have hM : sMt pReg pgv ρ ρ0 (sAs (rBITl).2.1) loc [] h := hM
  have q0 : ρ0 1 = ρ 0 := (hM.2.2.2.2.2 (1, sY 0) (List.mem_of_getElem? (i := 1) rfl)).trans (sY_v ρ 0)
  have q1 : ρ0 2 = ρ 1 := (hM.2.2.2.2.2 (2, sY 1) (List.mem_of_getElem? (i := 2) rfl)).trans (sY_v ρ 1)
  have q2 : ρ0 3 = ρ 2 := (hM.2.2.2.2.2 (3, sY 2) (List.mem_of_getElem? (i := 3) rfl)).trans (sY_v ρ 2)
  have q3 : ρ0 4 = ρ 3 := (hM.2.2.2.2.2 (4, sY 3) (List.mem_of_getElem? (i := 4) rfl)).trans (sY_v ρ 3)
  have q4 : ρ0 5 = ρ 4 := (hM.2.2.2.2.2 (5, sY 4) (List.mem_of_getElem? (i := 5) rfl)).trans (sY_v ρ 4)
  have q5 : ρ0 6 = ρ 5 := (hM.2.2.2.2.2 (6, sY 5) (List.mem_of_getElem? (i := 6) rfl)).trans (sY_v ρ 5)
  have hL : ∀ j, j < 6 → pL [ρ 0, ρ 1, ρ 2, ρ 3, ρ 4, ρ 5] j = ρ0 (j + 1) := by
    intro j hj
    match j, hj with
    | 0, _ => exact q0.symm
    | 1, _ => exact q1.symm
    | 2, _ => exact q2.symm
    | 3, _ => exact q3.symm
    | 4, _ => exact q4.symm
    | 5, _ => exact q5.symm
    | k + 6, hj => omega
  have b0 : (1 : Int) ≤ ρ 0 ∧ ρ 0 ≤ 1 := hM.2.2.2.1 0 (1, 1) rfl
  have b1 : (0 : Int) ≤ ρ 1 ∧ ρ 1 ≤ 15 := hM.2.2.2.1 1 (0, 15) rfl
  have b2 : (0 : Int) ≤ ρ 2 ∧ ρ 2 ≤ 1 := hM.2.2.2.1 2 (0, 1) rfl
  have b3 : (0 : Int) ≤ ρ 3 ∧ ρ 3 ≤ 1 := hM.2.2.2.1 3 (0, 1) rfl
  have b4 : (0 : Int) ≤ ρ 4 ∧ ρ 4 ≤ 1 := hM.2.2.2.1 4 (0, 1) rfl
  have b5 : (0 : Int) ≤ ρ 5 ∧ ρ 5 ≤ 1 := hM.2.2.2.1 5 (0, 1) rfl
  obtain ⟨ho, hh, hf⟩ := pTold20 hM 0 (0, []) rfl b0.1
  have hn := ho.1
  obtain ⟨g, eg⟩ : ∃ g : Nat, ρ 1 = (g : Int) := ⟨(ρ 1).toNat, by omega⟩
  have hg : g < 16 := by omega
  have eb0 : ρ 2 = (fBt g 0 : Int) := (pfF hM hf 2 534 (0, [(1, 1)]) rfl (by decide) (by decide) (g) (by omega) (by show (0 + (1 * ρ 1 + 0) : Int) = _; omega)).trans (fA_B (k := 0) (by decide))
  have eb1 : ρ 3 = (fBt g 1 : Int) := (pfF hM hf 3 535 (0, [(1, 1)]) rfl (by decide) (by decide) (g) (by omega) (by show (0 + (1 * ρ 1 + 0) : Int) = _; omega)).trans (fA_B (k := 1) (by decide))
  have eb2 : ρ 4 = (fBt g 2 : Int) := (pfF hM hf 4 536 (0, [(1, 1)]) rfl (by decide) (by decide) (g) (by omega) (by show (0 + (1 * ρ 1 + 0) : Int) = _; omega)).trans (fA_B (k := 2) (by decide))
  have eb3 : ρ 5 = (fBt g 3 : Int) := (pfF hM hf 5 537 (0, [(1, 1)]) rfl (by decide) (by decide) (g) (by omega) (by show (0 + (1 * ρ 1 + 0) : Int) = _; omega)).trans (fA_B (k := 3) (by decide))
  rcases (show g = 0 ∨ g = 1 ∨ g = 2 ∨ g = 3 ∨ g = 4 ∨ g = 5 ∨ g = 6 ∨ g = 7 ∨ g = 8 ∨ g = 9 ∨ g = 10 ∨ g = 11 ∨ g = 12 ∨ g = 13 ∨ g = 14 ∨ g = 15 by omega) with rfl | rfl | rfl | rfl | rfl | rfl | rfl | rfl | rfl | rfl | rfl | rfl | rfl | rfl | rfl | rfl
  · have x0 : fBt 0 0 = 0 := rfl
    rw [x0] at eb0
    have x1 : fBt 0 1 = 0 := rfl
    rw [x1] at eb1
    have x2 : fBt 0 2 = 0 := rfl
    rw [x2] at eb2
    have x3 : fBt 0 3 = 0 := rfl
    rw [x3] at eb3
    refine ⟨rBITl_0, List.mem_of_getElem? (i := 0) rfl, pEnd [ρ 0, ρ 1, ρ 2, ρ 3, ρ 4, ρ 5] rfl ?_ ?_ ?_ ?_⟩
    · exact hL
    · intro k b hk
      cases hk
    · exact pAll1 (show (0 + (1 * ρ 1 + 0) : Int) ≤ 0 by omega) (pAll1 (show (0 + ((-1) * ρ 1 + 0) : Int) ≤ 0 by omega) (pAll1 (show (0 + (1 * ρ 2 + 0) : Int) ≤ 0 by omega) (pAll1 (show (0 + ((-1) * ρ 2 + 0) : Int) ≤ 0 by omega) (pAll1 (show (0 + (1 * ρ 3 + 0) : Int) ≤ 0 by omega) (pAll1 (show (0 + ((-1) * ρ 3 + 0) : Int) ≤ 0 by omega) (pAll1 (show (0 + (1 * ρ 4 + 0) : Int) ≤ 0 by omega) (pAll1 (show (0 + ((-1) * ρ 4 + 0) : Int) ≤ 0 by omega) (pAll1 (show (0 + (1 * ρ 5 + 0) : Int) ≤ 0 by omega) (pAll1 (show (0 + ((-1) * ρ 5 + 0) : Int) ≤ 0 by omega) (pAll0))))))))))
    · exact pAll0
  · have x0 : fBt 1 0 = 1 := rfl
    rw [x0] at eb0
    have x1 : fBt 1 1 = 0 := rfl
    rw [x1] at eb1
    have x2 : fBt 1 2 = 0 := rfl
    rw [x2] at eb2
    have x3 : fBt 1 3 = 0 := rfl
    rw [x3] at eb3
    refine ⟨rBITl_1, List.mem_of_getElem? (i := 1) rfl, pEnd [ρ 0, ρ 1, ρ 2, ρ 3, ρ 4, ρ 5] rfl ?_ ?_ ?_ ?_⟩
    · exact hL
    · intro k b hk
      cases hk
    · exact pAll1 (show ((-1) + (1 * ρ 1 + 0) : Int) ≤ 0 by omega) (pAll1 (show (1 + ((-1) * ρ 1 + 0) : Int) ≤ 0 by omega) (pAll1 (show ((-1) + (1 * ρ 2 + 0) : Int) ≤ 0 by omega) (pAll1 (show (1 + ((-1) * ρ 2 + 0) : Int) ≤ 0 by omega) (pAll1 (show (0 + (1 * ρ 3 + 0) : Int) ≤ 0 by omega) (pAll1 (show (0 + ((-1) * ρ 3 + 0) : Int) ≤ 0 by omega) (pAll1 (show (0 + (1 * ρ 4 + 0) : Int) ≤ 0 by omega) (pAll1 (show (0 + ((-1) * ρ 4 + 0) : Int) ≤ 0 by omega) (pAll1 (show (0 + (1 * ρ 5 + 0) : Int) ≤ 0 by omega) (pAll1 (show (0 + ((-1) * ρ 5 + 0) : Int) ≤ 0 by omega) (pAll0))))))))))
    · exact pAll0
  · have x0 : fBt 2 0 = 0 := rfl
    rw [x0] at eb0
    have x1 : fBt 2 1 = 1 := rfl
    rw [x1] at eb1
    have x2 : fBt 2 2 = 0 := rfl
    rw [x2] at eb2
    have x3 : fBt 2 3 = 0 := rfl
    rw [x3] at eb3
    refine ⟨rBITl_2, List.mem_of_getElem? (i := 2) rfl, pEnd [ρ 0, ρ 1, ρ 2, ρ 3, ρ 4, ρ 5] rfl ?_ ?_ ?_ ?_⟩
    · exact hL
    · intro k b hk
      cases hk
    · exact pAll1 (show ((-2) + (1 * ρ 1 + 0) : Int) ≤ 0 by omega) (pAll1 (show (2 + ((-1) * ρ 1 + 0) : Int) ≤ 0 by omega) (pAll1 (show (0 + (1 * ρ 2 + 0) : Int) ≤ 0 by omega) (pAll1 (show (0 + ((-1) * ρ 2 + 0) : Int) ≤ 0 by omega) (pAll1 (show ((-1) + (1 * ρ 3 + 0) : Int) ≤ 0 by omega) (pAll1 (show (1 + ((-1) * ρ 3 + 0) : Int) ≤ 0 by omega) (pAll1 (show (0 + (1 * ρ 4 + 0) : Int) ≤ 0 by omega) (pAll1 (show (0 + ((-1) * ρ 4 + 0) : Int) ≤ 0 by omega) (pAll1 (show (0 + (1 * ρ 5 + 0) : Int) ≤ 0 by omega) (pAll1 (show (0 + ((-1) * ρ 5 + 0) : Int) ≤ 0 by omega) (pAll0))))))))))
    · exact pAll0
  · have x0 : fBt 3 0 = 1 := rfl
    rw [x0] at eb0
    have x1 : fBt 3 1 = 1 := rfl
    rw [x1] at eb1
    have x2 : fBt 3 2 = 0 := rfl
    rw [x2] at eb2
    have x3 : fBt 3 3 = 0 := rfl
    rw [x3] at eb3
    refine ⟨rBITl_3, List.mem_of_getElem? (i := 3) rfl, pEnd [ρ 0, ρ 1, ρ 2, ρ 3, ρ 4, ρ 5] rfl ?_ ?_ ?_ ?_⟩
    · exact hL
    · intro k b hk
      cases hk
    · exact pAll1 (show ((-3) + (1 * ρ 1 + 0) : Int) ≤ 0 by omega) (pAll1 (show (3 + ((-1) * ρ 1 + 0) : Int) ≤ 0 by omega) (pAll1 (show ((-1) + (1 * ρ 2 + 0) : Int) ≤ 0 by omega) (pAll1 (show (1 + ((-1) * ρ 2 + 0) : Int) ≤ 0 by omega) (pAll1 (show ((-1) + (1 * ρ 3 + 0) : Int) ≤ 0 by omega) (pAll1 (show (1 + ((-1) * ρ 3 + 0) : Int) ≤ 0 by omega) (pAll1 (show (0 + (1 * ρ 4 + 0) : Int) ≤ 0 by omega) (pAll1 (show (0 + ((-1) * ρ 4 + 0) : Int) ≤ 0 by omega) (pAll1 (show (0 + (1 * ρ 5 + 0) : Int) ≤ 0 by omega) (pAll1 (show (0 + ((-1) * ρ 5 + 0) : Int) ≤ 0 by omega) (pAll0))))))))))
    · exact pAll0
  · have x0 : fBt 4 0 = 0 := rfl
    rw [x0] at eb0
    have x1 : fBt 4 1 = 0 := rfl
    rw [x1] at eb1
    have x2 : fBt 4 2 = 1 := rfl
    rw [x2] at eb2
    have x3 : fBt 4 3 = 0 := rfl
    rw [x3] at eb3
    refine ⟨rBITl_4, List.mem_of_getElem? (i := 4) rfl, pEnd [ρ 0, ρ 1, ρ 2, ρ 3, ρ 4, ρ 5] rfl ?_ ?_ ?_ ?_⟩
    · exact hL
    · intro k b hk
      cases hk
    · exact pAll1 (show ((-4) + (1 * ρ 1 + 0) : Int) ≤ 0 by omega) (pAll1 (show (4 + ((-1) * ρ 1 + 0) : Int) ≤ 0 by omega) (pAll1 (show (0 + (1 * ρ 2 + 0) : Int) ≤ 0 by omega) (pAll1 (show (0 + ((-1) * ρ 2 + 0) : Int) ≤ 0 by omega) (pAll1 (show (0 + (1 * ρ 3 + 0) : Int) ≤ 0 by omega) (pAll1 (show (0 + ((-1) * ρ 3 + 0) : Int) ≤ 0 by omega) (pAll1 (show ((-1) + (1 * ρ 4 + 0) : Int) ≤ 0 by omega) (pAll1 (show (1 + ((-1) * ρ 4 + 0) : Int) ≤ 0 by omega) (pAll1 (show (0 + (1 * ρ 5 + 0) : Int) ≤ 0 by omega) (pAll1 (show (0 + ((-1) * ρ 5 + 0) : Int) ≤ 0 by omega) (pAll0))))))))))
    · exact pAll0
  · have x0 : fBt 5 0 = 1 := rfl
    rw [x0] at eb0
    have x1 : fBt 5 1 = 0 := rfl
    rw [x1] at eb1
    have x2 : fBt 5 2 = 1 := rfl
    rw [x2] at eb2
    have x3 : fBt 5 3 = 0 := rfl
    rw [x3] at eb3
    refine ⟨rBITl_5, List.mem_of_getElem? (i := 5) rfl, pEnd [ρ 0, ρ 1, ρ 2, ρ 3, ρ 4, ρ 5] rfl ?_ ?_ ?_ ?_⟩
    · exact hL
    · intro k b hk
      cases hk
    · exact pAll1 (show ((-5) + (1 * ρ 1 + 0) : Int) ≤ 0 by omega) (pAll1 (show (5 + ((-1) * ρ 1 + 0) : Int) ≤ 0 by omega) (pAll1 (show ((-1) + (1 * ρ 2 + 0) : Int) ≤ 0 by omega) (pAll1 (show (1 + ((-1) * ρ 2 + 0) : Int) ≤ 0 by omega) (pAll1 (show (0 + (1 * ρ 3 + 0) : Int) ≤ 0 by omega) (pAll1 (show (0 + ((-1) * ρ 3 + 0) : Int) ≤ 0 by omega) (pAll1 (show ((-1) + (1 * ρ 4 + 0) : Int) ≤ 0 by omega) (pAll1 (show (1 + ((-1) * ρ 4 + 0) : Int) ≤ 0 by omega) (pAll1 (show (0 + (1 * ρ 5 + 0) : Int) ≤ 0 by omega) (pAll1 (show (0 + ((-1) * ρ 5 + 0) : Int) ≤ 0 by omega) (pAll0))))))))))
    · exact pAll0
  · have x0 : fBt 6 0 = 0 := rfl
    rw [x0] at eb0
    have x1 : fBt 6 1 = 1 := rfl
    rw [x1] at eb1
    have x2 : fBt 6 2 = 1 := rfl
    rw [x2] at eb2
    have x3 : fBt 6 3 = 0 := rfl
    rw [x3] at eb3
    refine ⟨rBITl_6, List.mem_of_getElem? (i := 6) rfl, pEnd [ρ 0, ρ 1, ρ 2, ρ 3, ρ 4, ρ 5] rfl ?_ ?_ ?_ ?_⟩
    · exact hL
    · intro k b hk
      cases hk
    · exact pAll1 (show ((-6) + (1 * ρ 1 + 0) : Int) ≤ 0 by omega) (pAll1 (show (6 + ((-1) * ρ 1 + 0) : Int) ≤ 0 by omega) (pAll1 (show (0 + (1 * ρ 2 + 0) : Int) ≤ 0 by omega) (pAll1 (show (0 + ((-1) * ρ 2 + 0) : Int) ≤ 0 by omega) (pAll1 (show ((-1) + (1 * ρ 3 + 0) : Int) ≤ 0 by omega) (pAll1 (show (1 + ((-1) * ρ 3 + 0) : Int) ≤ 0 by omega) (pAll1 (show ((-1) + (1 * ρ 4 + 0) : Int) ≤ 0 by omega) (pAll1 (show (1 + ((-1) * ρ 4 + 0) : Int) ≤ 0 by omega) (pAll1 (show (0 + (1 * ρ 5 + 0) : Int) ≤ 0 by omega) (pAll1 (show (0 + ((-1) * ρ 5 + 0) : Int) ≤ 0 by omega) (pAll0))))))))))
    · exact pAll0
  · have x0 : fBt 7 0 = 1 := rfl
    rw [x0] at eb0
    have x1 : fBt 7 1 = 1 := rfl
    rw [x1] at eb1
    have x2 : fBt 7 2 = 1 := rfl
    rw [x2] at eb2
    have x3 : fBt 7 3 = 0 := rfl
    rw [x3] at eb3
    refine ⟨rBITl_7, List.mem_of_getElem? (i := 7) rfl, pEnd [ρ 0, ρ 1, ρ 2, ρ 3, ρ 4, ρ 5] rfl ?_ ?_ ?_ ?_⟩
    · exact hL
    · intro k b hk
      cases hk
    · exact pAll1 (show ((-7) + (1 * ρ 1 + 0) : Int) ≤ 0 by omega) (pAll1 (show (7 + ((-1) * ρ 1 + 0) : Int) ≤ 0 by omega) (pAll1 (show ((-1) + (1 * ρ 2 + 0) : Int) ≤ 0 by omega) (pAll1 (show (1 + ((-1) * ρ 2 + 0) : Int) ≤ 0 by omega) (pAll1 (show ((-1) + (1 * ρ 3 + 0) : Int) ≤ 0 by omega) (pAll1 (show (1 + ((-1) * ρ 3 + 0) : Int) ≤ 0 by omega) (pAll1 (show ((-1) + (1 * ρ 4 + 0) : Int) ≤ 0 by omega) (pAll1 (show (1 + ((-1) * ρ 4 + 0) : Int) ≤ 0 by omega) (pAll1 (show (0 + (1 * ρ 5 + 0) : Int) ≤ 0 by omega) (pAll1 (show (0 + ((-1) * ρ 5 + 0) : Int) ≤ 0 by omega) (pAll0))))))))))
    · exact pAll0
  · have x0 : fBt 8 0 = 0 := rfl
    rw [x0] at eb0
    have x1 : fBt 8 1 = 0 := rfl
    rw [x1] at eb1
    have x2 : fBt 8 2 = 0 := rfl
    rw [x2] at eb2
    have x3 : fBt 8 3 = 1 := rfl
    rw [x3] at eb3
    refine ⟨rBITl_8, List.mem_of_getElem? (i := 8) rfl, pEnd [ρ 0, ρ 1, ρ 2, ρ 3, ρ 4, ρ 5] rfl ?_ ?_ ?_ ?_⟩
    · exact hL
    · intro k b hk
      cases hk
    · exact pAll1 (show ((-8) + (1 * ρ 1 + 0) : Int) ≤ 0 by omega) (pAll1 (show (8 + ((-1) * ρ 1 + 0) : Int) ≤ 0 by omega) (pAll1 (show (0 + (1 * ρ 2 + 0) : Int) ≤ 0 by omega) (pAll1 (show (0 + ((-1) * ρ 2 + 0) : Int) ≤ 0 by omega) (pAll1 (show (0 + (1 * ρ 3 + 0) : Int) ≤ 0 by omega) (pAll1 (show (0 + ((-1) * ρ 3 + 0) : Int) ≤ 0 by omega) (pAll1 (show (0 + (1 * ρ 4 + 0) : Int) ≤ 0 by omega) (pAll1 (show (0 + ((-1) * ρ 4 + 0) : Int) ≤ 0 by omega) (pAll1 (show ((-1) + (1 * ρ 5 + 0) : Int) ≤ 0 by omega) (pAll1 (show (1 + ((-1) * ρ 5 + 0) : Int) ≤ 0 by omega) (pAll0))))))))))
    · exact pAll0
  · have x0 : fBt 9 0 = 1 := rfl
    rw [x0] at eb0
    have x1 : fBt 9 1 = 0 := rfl
    rw [x1] at eb1
    have x2 : fBt 9 2 = 0 := rfl
    rw [x2] at eb2
    have x3 : fBt 9 3 = 1 := rfl
    rw [x3] at eb3
    refine ⟨rBITl_9, List.mem_of_getElem? (i := 9) rfl, pEnd [ρ 0, ρ 1, ρ 2, ρ 3, ρ 4, ρ 5] rfl ?_ ?_ ?_ ?_⟩
    · exact hL
    · intro k b hk
      cases hk
    · exact pAll1 (show ((-9) + (1 * ρ 1 + 0) : Int) ≤ 0 by omega) (pAll1 (show (9 + ((-1) * ρ 1 + 0) : Int) ≤ 0 by omega) (pAll1 (show ((-1) + (1 * ρ 2 + 0) : Int) ≤ 0 by omega) (pAll1 (show (1 + ((-1) * ρ 2 + 0) : Int) ≤ 0 by omega) (pAll1 (show (0 + (1 * ρ 3 + 0) : Int) ≤ 0 by omega) (pAll1 (show (0 + ((-1) * ρ 3 + 0) : Int) ≤ 0 by omega) (pAll1 (show (0 + (1 * ρ 4 + 0) : Int) ≤ 0 by omega) (pAll1 (show (0 + ((-1) * ρ 4 + 0) : Int) ≤ 0 by omega) (pAll1 (show ((-1) + (1 * ρ 5 + 0) : Int) ≤ 0 by omega) (pAll1 (show (1 + ((-1) * ρ 5 + 0) : Int) ≤ 0 by omega) (pAll0))))))))))
    · exact pAll0
  · have x0 : fBt 10 0 = 0 := rfl
    rw [x0] at eb0
    have x1 : fBt 10 1 = 1 := rfl
    rw [x1] at eb1
    have x2 : fBt 10 2 = 0 := rfl
    rw [x2] at eb2
    have x3 : fBt 10 3 = 1 := rfl
    rw [x3] at eb3
    refine ⟨rBITl_10, List.mem_of_getElem? (i := 10) rfl, pEnd [ρ 0, ρ 1, ρ 2, ρ 3, ρ 4, ρ 5] rfl ?_ ?_ ?_ ?_⟩
    · exact hL
    · intro k b hk
      cases hk
    · exact pAll1 (show ((-10) + (1 * ρ 1 + 0) : Int) ≤ 0 by omega) (pAll1 (show (10 + ((-1) * ρ 1 + 0) : Int) ≤ 0 by omega) (pAll1 (show (0 + (1 * ρ 2 + 0) : Int) ≤ 0 by omega) (pAll1 (show (0 + ((-1) * ρ 2 + 0) : Int) ≤ 0 by omega) (pAll1 (show ((-1) + (1 * ρ 3 + 0) : Int) ≤ 0 by omega) (pAll1 (show (1 + ((-1) * ρ 3 + 0) : Int) ≤ 0 by omega) (pAll1 (show (0 + (1 * ρ 4 + 0) : Int) ≤ 0 by omega) (pAll1 (show (0 + ((-1) * ρ 4 + 0) : Int) ≤ 0 by omega) (pAll1 (show ((-1) + (1 * ρ 5 + 0) : Int) ≤ 0 by omega) (pAll1 (show (1 + ((-1) * ρ 5 + 0) : Int) ≤ 0 by omega) (pAll0))))))))))
    · exact pAll0
  · have x0 : fBt 11 0 = 1 := rfl
    rw [x0] at eb0
    have x1 : fBt 11 1 = 1 := rfl
    rw [x1] at eb1
    have x2 : fBt 11 2 = 0 := rfl
    rw [x2] at eb2
    have x3 : fBt 11 3 = 1 := rfl
    rw [x3] at eb3
    refine ⟨rBITl_11, List.mem_of_getElem? (i := 11) rfl, pEnd [ρ 0, ρ 1, ρ 2, ρ 3, ρ 4, ρ 5] rfl ?_ ?_ ?_ ?_⟩
    · exact hL
    · intro k b hk
      cases hk
    · exact pAll1 (show ((-11) + (1 * ρ 1 + 0) : Int) ≤ 0 by omega) (pAll1 (show (11 + ((-1) * ρ 1 + 0) : Int) ≤ 0 by omega) (pAll1 (show ((-1) + (1 * ρ 2 + 0) : Int) ≤ 0 by omega) (pAll1 (show (1 + ((-1) * ρ 2 + 0) : Int) ≤ 0 by omega) (pAll1 (show ((-1) + (1 * ρ 3 + 0) : Int) ≤ 0 by omega) (pAll1 (show (1 + ((-1) * ρ 3 + 0) : Int) ≤ 0 by omega) (pAll1 (show (0 + (1 * ρ 4 + 0) : Int) ≤ 0 by omega) (pAll1 (show (0 + ((-1) * ρ 4 + 0) : Int) ≤ 0 by omega) (pAll1 (show ((-1) + (1 * ρ 5 + 0) : Int) ≤ 0 by omega) (pAll1 (show (1 + ((-1) * ρ 5 + 0) : Int) ≤ 0 by omega) (pAll0))))))))))
    · exact pAll0
  · have x0 : fBt 12 0 = 0 := rfl
    rw [x0] at eb0
    have x1 : fBt 12 1 = 0 := rfl
    rw [x1] at eb1
    have x2 : fBt 12 2 = 1 := rfl
    rw [x2] at eb2
    have x3 : fBt 12 3 = 1 := rfl
    rw [x3] at eb3
    refine ⟨rBITl_12, List.mem_of_getElem? (i := 12) rfl, pEnd [ρ 0, ρ 1, ρ 2, ρ 3, ρ 4, ρ 5] rfl ?_ ?_ ?_ ?_⟩
    · exact hL
    · intro k b hk
      cases hk
    · exact pAll1 (show ((-12) + (1 * ρ 1 + 0) : Int) ≤ 0 by omega) (pAll1 (show (12 + ((-1) * ρ 1 + 0) : Int) ≤ 0 by omega) (pAll1 (show (0 + (1 * ρ 2 + 0) : Int) ≤ 0 by omega) (pAll1 (show (0 + ((-1) * ρ 2 + 0) : Int) ≤ 0 by omega) (pAll1 (show (0 + (1 * ρ 3 + 0) : Int) ≤ 0 by omega) (pAll1 (show (0 + ((-1) * ρ 3 + 0) : Int) ≤ 0 by omega) (pAll1 (show ((-1) + (1 * ρ 4 + 0) : Int) ≤ 0 by omega) (pAll1 (show (1 + ((-1) * ρ 4 + 0) : Int) ≤ 0 by omega) (pAll1 (show ((-1) + (1 * ρ 5 + 0) : Int) ≤ 0 by omega) (pAll1 (show (1 + ((-1) * ρ 5 + 0) : Int) ≤ 0 by omega) (pAll0))))))))))
    · exact pAll0
  · have x0 : fBt 13 0 = 1 := rfl
    rw [x0] at eb0
    have x1 : fBt 13 1 = 0 := rfl
    rw [x1] at eb1
    have x2 : fBt 13 2 = 1 := rfl
    rw [x2] at eb2
    have x3 : fBt 13 3 = 1 := rfl
    rw [x3] at eb3
    refine ⟨rBITl_13, List.mem_of_getElem? (i := 13) rfl, pEnd [ρ 0, ρ 1, ρ 2, ρ 3, ρ 4, ρ 5] rfl ?_ ?_ ?_ ?_⟩
    · exact hL
    · intro k b hk
      cases hk
    · exact pAll1 (show ((-13) + (1 * ρ 1 + 0) : Int) ≤ 0 by omega) (pAll1 (show (13 + ((-1) * ρ 1 + 0) : Int) ≤ 0 by omega) (pAll1 (show ((-1) + (1 * ρ 2 + 0) : Int) ≤ 0 by omega) (pAll1 (show (1 + ((-1) * ρ 2 + 0) : Int) ≤ 0 by omega) (pAll1 (show (0 + (1 * ρ 3 + 0) : Int) ≤ 0 by omega) (pAll1 (show (0 + ((-1) * ρ 3 + 0) : Int) ≤ 0 by omega) (pAll1 (show ((-1) + (1 * ρ 4 + 0) : Int) ≤ 0 by omega) (pAll1 (show (1 + ((-1) * ρ 4 + 0) : Int) ≤ 0 by omega) (pAll1 (show ((-1) + (1 * ρ 5 + 0) : Int) ≤ 0 by omega) (pAll1 (show (1 + ((-1) * ρ 5 + 0) : Int) ≤ 0 by omega) (pAll0))))))))))
    · exact pAll0
  · have x0 : fBt 14 0 = 0 := rfl
    rw [x0] at eb0
    have x1 : fBt 14 1 = 1 := rfl
    rw [x1] at eb1
    have x2 : fBt 14 2 = 1 := rfl
    rw [x2] at eb2
    have x3 : fBt 14 3 = 1 := rfl
    rw [x3] at eb3
    refine ⟨rBITl_14, List.mem_of_getElem? (i := 14) rfl, pEnd [ρ 0, ρ 1, ρ 2, ρ 3, ρ 4, ρ 5] rfl ?_ ?_ ?_ ?_⟩
    · exact hL
    · intro k b hk
      cases hk
    · exact pAll1 (show ((-14) + (1 * ρ 1 + 0) : Int) ≤ 0 by omega) (pAll1 (show (14 + ((-1) * ρ 1 + 0) : Int) ≤ 0 by omega) (pAll1 (show (0 + (1 * ρ 2 + 0) : Int) ≤ 0 by omega) (pAll1 (show (0 + ((-1) * ρ 2 + 0) : Int) ≤ 0 by omega) (pAll1 (show ((-1) + (1 * ρ 3 + 0) : Int) ≤ 0 by omega) (pAll1 (show (1 + ((-1) * ρ 3 + 0) : Int) ≤ 0 by omega) (pAll1 (show ((-1) + (1 * ρ 4 + 0) : Int) ≤ 0 by omega) (pAll1 (show (1 + ((-1) * ρ 4 + 0) : Int) ≤ 0 by omega) (pAll1 (show ((-1) + (1 * ρ 5 + 0) : Int) ≤ 0 by omega) (pAll1 (show (1 + ((-1) * ρ 5 + 0) : Int) ≤ 0 by omega) (pAll0))))))))))
    · exact pAll0
  · have x0 : fBt 15 0 = 1 := rfl
    rw [x0] at eb0
    have x1 : fBt 15 1 = 1 := rfl
    rw [x1] at eb1
    have x2 : fBt 15 2 = 1 := rfl
    rw [x2] at eb2
    have x3 : fBt 15 3 = 1 := rfl
    rw [x3] at eb3
    refine ⟨rBITl_15, List.mem_of_getElem? (i := 15) rfl, pEnd [ρ 0, ρ 1, ρ 2, ρ 3, ρ 4, ρ 5] rfl ?_ ?_ ?_ ?_⟩
    · exact hL
    · intro k b hk
      cases hk
    · exact pAll1 (show ((-15) + (1 * ρ 1 + 0) : Int) ≤ 0 by omega) (pAll1 (show (15 + ((-1) * ρ 1 + 0) : Int) ≤ 0 by omega) (pAll1 (show ((-1) + (1 * ρ 2 + 0) : Int) ≤ 0 by omega) (pAll1 (show (1 + ((-1) * ρ 2 + 0) : Int) ≤ 0 by omega) (pAll1 (show ((-1) + (1 * ρ 3 + 0) : Int) ≤ 0 by omega) (pAll1 (show (1 + ((-1) * ρ 3 + 0) : Int) ≤ 0 by omega) (pAll1 (show ((-1) + (1 * ρ 4 + 0) : Int) ≤ 0 by omega) (pAll1 (show (1 + ((-1) * ρ 4 + 0) : Int) ≤ 0 by omega) (pAll1 (show ((-1) + (1 * ρ 5 + 0) : Int) ≤ 0 by omega) (pAll1 (show (1 + ((-1) * ρ 5 + 0) : Int) ≤ 0 by omega) (pAll0))))))))))
    · exact pAll0
noncomputable def rII0m_0 : sX := (none, [(500, (0, [(8, 1)]), (0, [(8, 1)])), (530, (0, [(8, 16)]), (0, [(4, 1)])), (560, (8, [(8, 1600)]), (0, [(5, 1)])), (561, (7, [(8, 1600)]), (0, [(6, 1)])), (562, (20, [(8, 1600)]), (0, [(7, 1)]))], [], [(0, [(3, 1), (8, (-1))]), (0, [(2, (-1)), (8, 1)])], [])
noncomputable def rII0m : sQ := (0, ([], [(2, 1013, (0, [])), (2, 1020, (0, [])), (2, 120, (2, [])), (2, 120, (3, [])), (2, 530, (0, [(3, 16)])), (2, 560, (8, [(3, 1600)])), (2, 561, (7, [(3, 1600)])), (2, 562, (20, [(3, 1600)])), (2, 500, (0, [(3, 1)]))], [(1, 1), (1, 1), (0, 240), (0, 240), ((-241), 240), (0, 99), (0, 99), (0, 99), (0, 240)], [(0, [(2, (-1)), (3, 1)])], [(0, 0), (1, 1), (2, 2), (3, 3), (4, 4), (5, 5), (6, 6), (7, 7), (8, 8)], (0, [])), [rII0m_0], [], 0)
theorem rII0m_ok : pRul pReg pG pgv (rII0m) := by
  intro loc h ρ ρ0 hG hM
  have hM : sMt pReg pgv ρ ρ0 (sAs (rII0m).2.1) loc [] h := hM
  have q0 : ρ0 1 = ρ 0 := (hM.2.2.2.2.2 (1, sY 0) (List.mem_of_getElem? (i := 1) rfl)).trans (sY_v ρ 0)
  have q1 : ρ0 2 = ρ 1 := (hM.2.2.2.2.2 (2, sY 1) (List.mem_of_getElem? (i := 2) rfl)).trans (sY_v ρ 1)
  have q2 : ρ0 3 = ρ 2 := (hM.2.2.2.2.2 (3, sY 2) (List.mem_of_getElem? (i := 3) rfl)).trans (sY_v ρ 2)
  have q3 : ρ0 4 = ρ 3 := (hM.2.2.2.2.2 (4, sY 3) (List.mem_of_getElem? (i := 4) rfl)).trans (sY_v ρ 3)
  have q4 : ρ0 5 = ρ 4 := (hM.2.2.2.2.2 (5, sY 4) (List.mem_of_getElem? (i := 5) rfl)).trans (sY_v ρ 4)
  have q5 : ρ0 6 = ρ 5 := (hM.2.2.2.2.2 (6, sY 5) (List.mem_of_getElem? (i := 6) rfl)).trans (sY_v ρ 5)
  have q6 : ρ0 7 = ρ 6 := (hM.2.2.2.2.2 (7, sY 6) (List.mem_of_getElem? (i := 7) rfl)).trans (sY_v ρ 6)
  have q7 : ρ0 8 = ρ 7 := (hM.2.2.2.2.2 (8, sY 7) (List.mem_of_getElem? (i := 8) rfl)).trans (sY_v ρ 7)
  have q8 : ρ0 9 = ρ 8 := (hM.2.2.2.2.2 (9, sY 8) (List.mem_of_getElem? (i := 9) rfl)).trans (sY_v ρ 8)
  have hL : ∀ j, j < 9 → pL [ρ 0, ρ 1, ρ 2, ρ 3, ρ 4, ρ 5, ρ 6, ρ 7, ρ 8] j = ρ0 (j + 1) := by
    intro j hj
    match j, hj with
    | 0, _ => exact q0.symm
    | 1, _ => exact q1.symm
    | 2, _ => exact q2.symm
    | 3, _ => exact q3.symm
    | 4, _ => exact q4.symm
    | 5, _ => exact q5.symm
    | 6, _ => exact q6.symm
    | 7, _ => exact q7.symm
    | 8, _ => exact q8.symm
    | k + 9, hj => omega
  have b0 : (1 : Int) ≤ ρ 0 ∧ ρ 0 ≤ 1 := hM.2.2.2.1 0 (1, 1) rfl
  have b1 : (1 : Int) ≤ ρ 1 ∧ ρ 1 ≤ 1 := hM.2.2.2.1 1 (1, 1) rfl
  have b2 : (0 : Int) ≤ ρ 2 ∧ ρ 2 ≤ 240 := hM.2.2.2.1 2 (0, 240) rfl
  have b3 : (0 : Int) ≤ ρ 3 ∧ ρ 3 ≤ 240 := hM.2.2.2.1 3 (0, 240) rfl
  have b4 : ((-241) : Int) ≤ ρ 4 ∧ ρ 4 ≤ 240 := hM.2.2.2.1 4 ((-241), 240) rfl
  have b5 : (0 : Int) ≤ ρ 5 ∧ ρ 5 ≤ 99 := hM.2.2.2.1 5 (0, 99) rfl
  have b6 : (0 : Int) ≤ ρ 6 ∧ ρ 6 ≤ 99 := hM.2.2.2.1 6 (0, 99) rfl
  have b7 : (0 : Int) ≤ ρ 7 ∧ ρ 7 ≤ 99 := hM.2.2.2.1 7 (0, 99) rfl
  have b8 : (0 : Int) ≤ ρ 8 ∧ ρ 8 ≤ 240 := hM.2.2.2.1 8 (0, 240) rfl
  have c0 : (0 + ((-1) * ρ 2 + (1 * ρ 3 + 0)) : Int) ≤ 0 := hM.2.2.2.2.1 (0, [(2, (-1)), (3, 1)]) (List.mem_of_getElem? (i := 0) rfl)
  obtain ⟨ho, hs, hh⟩ := pTold13 hM 0 (0, []) rfl b0.1
  have hn := ho.1
  obtain ⟨-, -, hf⟩ := pTold20 hM 1 (0, []) rfl b1.1
  have en : ρ 2 = (wN h : Int) := (pPl hM 2 120 (2, []) rfl (by omega) 440 2 (by decide +kernel) rfl).symm.trans hs.1
  obtain ⟨p, ep⟩ : ∃ p : Nat, ρ 3 = (p : Int) := ⟨(ρ 3).toNat, by omega⟩
  have hp : p ≤ wN h := by omega
  obtain ⟨s1, s2⟩ := wSk_le (B := wB h) hp
  have er : ρ 4 = (fI (wN h) (wB h) 0 (0) (p)) := (pfF hM hf 4 530 (0, [(3, 16)]) rfl (by decide) (by decide) (16 * p + 0) (by omega) (by show (0 + (16 * ρ 3 + 0) : Int) = _; omega)).trans (fA_IT0 (g := 0) (by decide) hp hn)
  have ef0 : ρ 5 = (fV (wN h) (wB h) 0 0 (0) (p) ((8 : Nat) : Int)) := (pfF hM hf 5 560 (8, [(3, 1600)]) rfl (by decide) (by decide) (1600 * p + 100 * 0 + 8) (by omega) (by show (8 + (1600 * ρ 3 + 0) : Int) = _; omega)).trans (fA_I (s := 0) (j := 0) (r := 560) (g := 0) (v := 8) (Or.inl ⟨rfl, rfl, by decide⟩) (by decide) hp (by omega))
  have ef1 : ρ 6 = (fV (wN h) (wB h) 0 1 (0) (p) ((7 : Nat) : Int)) := (pfF hM hf 6 561 (7, [(3, 1600)]) rfl (by decide) (by decide) (1600 * p + 100 * 0 + 7) (by omega) (by show (7 + (1600 * ρ 3 + 0) : Int) = _; omega)).trans (fA_I (s := 0) (j := 1) (r := 561) (g := 0) (v := 7) (Or.inl ⟨rfl, rfl, by decide⟩) (by decide) hp (by omega))
  have ef2 : ρ 7 = (fV (wN h) (wB h) 0 2 (0) (p) ((20 : Nat) : Int)) := (pfF hM hf 7 562 (20, [(3, 1600)]) rfl (by decide) (by decide) (1600 * p + 100 * 0 + 20) (by omega) (by show (20 + (1600 * ρ 3 + 0) : Int) = _; omega)).trans (fA_I (s := 0) (j := 2) (r := 562) (g := 0) (v := 20) (Or.inl ⟨rfl, rfl, by decide⟩) (by decide) hp (by omega))
  have eq : ρ 8 = ((wSk (wN h) (wB h) (p)) : Int) := pfS hM ho hh 8 (0, [(3, 1)]) rfl (p := p) (by omega) (by show (0 + (1 * ρ 3 + 0) : Int) = _; omega)
  have hi := wSk_id (B := wB h) hp
  rw [← fI_id 0 0 hp (by decide)] at er
  rw [← fV_id 0 0 0 hp (by decide)] at ef0
  rw [← fV_id 0 1 0 hp (by decide)] at ef1
  rw [← fV_id 0 2 0 hp (by decide)] at ef2
  refine ⟨rII0m_0, List.mem_of_getElem? (i := 0) rfl, pEnd [ρ 0, ρ 1, ρ 2, ρ 3, ρ 4, ρ 5, ρ 6, ρ 7, ρ 8] rfl ?_ ?_ ?_ ?_⟩
  · exact hL
  · intro k b hk
    cases hk
  · exact pAll1 (show (0 + (1 * ρ 3 + ((-1) * ρ 8 + 0)) : Int) ≤ 0 by omega) (pAll1 (show (0 + ((-1) * ρ 2 + (1 * ρ 8 + 0)) : Int) ≤ 0 by omega) (pAll0))
  · exact pAll1 (pgS ho hh ((wSk (wN h) (wB h) (p))) (by omega) (show (0 + (1 * ρ 8 + 0) : Int) = _ by omega) (show (0 + (1 * ρ 8 + 0) : Int) = _ by omega)) (pAll1 (pgF hf 530 (by decide) (by decide) (16 * (wSk (wN h) (wB h) (p)) + 0) (by omega) (show (0 + (16 * ρ 8 + 0) : Int) = _ by omega) (show (0 + (1 * ρ 4 + 0) : Int) = _ by rw [fA_IT0 (g := 0) (by decide) s2 hn]; omega)) (pAll1 (pgF hf 560 (by decide) (by decide) (1600 * (wSk (wN h) (wB h) (p)) + 100 * 0 + 8) (by omega) (show (8 + (1600 * ρ 8 + 0) : Int) = _ by omega) (show (0 + (1 * ρ 5 + 0) : Int) = _ by rw [fA_I (s := 0) (j := 0) (r := 560) (g := 0) (v := 8) (Or.inl ⟨rfl, rfl, by decide⟩) (by decide) s2 (by omega)]; omega)) (pAll1 (pgF hf 561 (by decide) (by decide) (1600 * (wSk (wN h) (wB h) (p)) + 100 * 0 + 7) (by omega) (show (7 + (1600 * ρ 8 + 0) : Int) = _ by omega) (show (0 + (1 * ρ 6 + 0) : Int) = _ by rw [fA_I (s := 0) (j := 1) (r := 561) (g := 0) (v := 7) (Or.inl ⟨rfl, rfl, by decide⟩) (by decide) s2 (by omega)]; omega)) (pAll1 (pgF hf 562 (by decide) (by decide) (1600 * (wSk (wN h) (wB h) (p)) + 100 * 0 + 20) (by omega) (show (20 + (1600 * ρ 8 + 0) : Int) = _ by omega) (show (0 + (1 * ρ 7 + 0) : Int) = _ by rw [fA_I (s := 0) (j := 2) (r := 562) (g := 0) (v := 20) (Or.inl ⟨rfl, rfl, by decide⟩) (by decide) s2 (by omega)]; omega)) (pAll0)))))
noncomputable def rIJ0m_0 : sX := (none, [(500, (0, [(12, 1)]), (0, [(12, 1)])), (530, (0, [(4, 1), (12, 16)]), (0, [(11, 1)])), (560, (0, [(4, 100), (5, 1), (12, 1600)]), (0, [(8, 1)])), (561, (0, [(4, 100), (6, 1), (12, 1600)]), (0, [(9, 1)])), (562, (0, [(4, 100), (7, 1), (12, 1600)]), (0, [(10, 1)]))], [], [(0, [(3, 1), (12, (-1))]), (0, [(2, (-1)), (12, 1)])], [])
noncomputable def rIJ0m : sQ := (0, ([], [(2, 1013, (0, [])), (2, 1020, (0, [])), (2, 120, (2, [])), (2, 120, (3, [])), (0, 5, (0, [])), (2, 97, (0, [])), (2, 97, (1, [])), (2, 97, (2, [])), (2, 560, (0, [(3, 1600), (4, 100), (5, 1)])), (2, 561, (0, [(3, 1600), (4, 100), (6, 1)])), (2, 562, (0, [(3, 1600), (4, 100), (7, 1)])), (2, 530, (0, [(3, 16), (4, 1)])), (2, 500, (0, [(3, 1)]))], [(1, 1), (1, 1), (0, 240), (0, 240), (0, 15), (0, 99), (0, 99), (0, 99), (0, 99), (0, 99), (0, 99), ((-241), 240), (0, 240)], [(0, [(2, (-1)), (3, 1)])], [(0, 0), (1, 1), (2, 2), (3, 3), (4, 4), (5, 5), (6, 6), (7, 7), (8, 8), (9, 9), (10, 10), (11, 11), (12, 12)], (0, [])), [rIJ0m_0], [], 0)
theorem rIJ0m_ok : pRul pReg pG pgv (rIJ0m) := by
  intro loc h ρ ρ0 hG hM
  have hM : sMt pReg pgv ρ ρ0 (sAs (rIJ0m).2.1) loc [] h := hM
  have q0 : ρ0 1 = ρ 0 := (hM.2.2.2.2.2 (1, sY 0) (List.mem_of_getElem? (i := 1) rfl)).trans (sY_v ρ 0)
  have q1 : ρ0 2 = ρ 1 := (hM.2.2.2.2.2 (2, sY 1) (List.mem_of_getElem? (i := 2) rfl)).trans (sY_v ρ 1)
  have q2 : ρ0 3 = ρ 2 := (hM.2.2.2.2.2 (3, sY 2) (List.mem_of_getElem? (i := 3) rfl)).trans (sY_v ρ 2)
  have q3 : ρ0 4 = ρ 3 := (hM.2.2.2.2.2 (4, sY 3) (List.mem_of_getElem? (i := 4) rfl)).trans (sY_v ρ 3)
  have q4 : ρ0 5 = ρ 4 := (hM.2.2.2.2.2 (5, sY 4) (List.mem_of_getElem? (i := 5) rfl)).trans (sY_v ρ 4)
  have q5 : ρ0 6 = ρ 5 := (hM.2.2.2.2.2 (6, sY 5) (List.mem_of_getElem? (i := 6) rfl)).trans (sY_v ρ 5)
  have q6 : ρ0 7 = ρ 6 := (hM.2.2.2.2.2 (7, sY 6) (List.mem_of_getElem? (i := 7) rfl)).trans (sY_v ρ 6)
  have q7 : ρ0 8 = ρ 7 := (hM.2.2.2.2.2 (8, sY 7) (List.mem_of_getElem? (i := 8) rfl)).trans (sY_v ρ 7)
  have q8 : ρ0 9 = ρ 8 := (hM.2.2.2.2.2 (9, sY 8) (List.mem_of_getElem? (i := 9) rfl)).trans (sY_v ρ 8)
  have q9 : ρ0 10 = ρ 9 := (hM.2.2.2.2.2 (10, sY 9) (List.mem_of_getElem? (i := 10) rfl)).trans (sY_v ρ 9)
  have q10 : ρ0 11 = ρ 10 := (hM.2.2.2.2.2 (11, sY 10) (List.mem_of_getElem? (i := 11) rfl)).trans (sY_v ρ 10)
  have q11 : ρ0 12 = ρ 11 := (hM.2.2.2.2.2 (12, sY 11) (List.mem_of_getElem? (i := 12) rfl)).trans (sY_v ρ 11)
  have q12 : ρ0 13 = ρ 12 := (hM.2.2.2.2.2 (13, sY 12) (List.mem_of_getElem? (i := 13) rfl)).trans (sY_v ρ 12)
  have hL : ∀ j, j < 13 → pL [ρ 0, ρ 1, ρ 2, ρ 3, ρ 4, ρ 5, ρ 6, ρ 7, ρ 8, ρ 9, ρ 10, ρ 11, ρ 12] j = ρ0 (j + 1) := by
    intro j hj
    match j, hj with
    | 0, _ => exact q0.symm
    | 1, _ => exact q1.symm
    | 2, _ => exact q2.symm
    | 3, _ => exact q3.symm
    | 4, _ => exact q4.symm
    | 5, _ => exact q5.symm
    | 6, _ => exact q6.symm
    | 7, _ => exact q7.symm
    | 8, _ => exact q8.symm
    | 9, _ => exact q9.symm
    | 10, _ => exact q10.symm
    | 11, _ => exact q11.symm
    | 12, _ => exact q12.symm
    | k + 13, hj => omega
  have b0 : (1 : Int) ≤ ρ 0 ∧ ρ 0 ≤ 1 := hM.2.2.2.1 0 (1, 1) rfl
  have b1 : (1 : Int) ≤ ρ 1 ∧ ρ 1 ≤ 1 := hM.2.2.2.1 1 (1, 1) rfl
  have b2 : (0 : Int) ≤ ρ 2 ∧ ρ 2 ≤ 240 := hM.2.2.2.1 2 (0, 240) rfl
  have b3 : (0 : Int) ≤ ρ 3 ∧ ρ 3 ≤ 240 := hM.2.2.2.1 3 (0, 240) rfl
  have b4 : (0 : Int) ≤ ρ 4 ∧ ρ 4 ≤ 15 := hM.2.2.2.1 4 (0, 15) rfl
  have b5 : (0 : Int) ≤ ρ 5 ∧ ρ 5 ≤ 99 := hM.2.2.2.1 5 (0, 99) rfl
  have b6 : (0 : Int) ≤ ρ 6 ∧ ρ 6 ≤ 99 := hM.2.2.2.1 6 (0, 99) rfl
  have b7 : (0 : Int) ≤ ρ 7 ∧ ρ 7 ≤ 99 := hM.2.2.2.1 7 (0, 99) rfl
  have b8 : (0 : Int) ≤ ρ 8 ∧ ρ 8 ≤ 99 := hM.2.2.2.1 8 (0, 99) rfl
  have b9 : (0 : Int) ≤ ρ 9 ∧ ρ 9 ≤ 99 := hM.2.2.2.1 9 (0, 99) rfl
  have b10 : (0 : Int) ≤ ρ 10 ∧ ρ 10 ≤ 99 := hM.2.2.2.1 10 (0, 99) rfl
  have b11 : ((-241) : Int) ≤ ρ 11 ∧ ρ 11 ≤ 240 := hM.2.2.2.1 11 ((-241), 240) rfl
  have b12 : (0 : Int) ≤ ρ 12 ∧ ρ 12 ≤ 240 := hM.2.2.2.1 12 (0, 240) rfl
  have c0 : (0 + ((-1) * ρ 2 + (1 * ρ 3 + 0)) : Int) ≤ 0 := hM.2.2.2.2.1 (0, [(2, (-1)), (3, 1)]) (List.mem_of_getElem? (i := 0) rfl)
  obtain ⟨ho, hs, hh⟩ := pTold13 hM 0 (0, []) rfl b0.1
  have hn := ho.1
  obtain ⟨-, -, hf⟩ := pTold20 hM 1 (0, []) rfl b1.1
  have en : ρ 2 = (wN h : Int) := (pPl hM 2 120 (2, []) rfl (by omega) 440 2 (by decide +kernel) rfl).symm.trans hs.1
  obtain ⟨p, ep⟩ : ∃ p : Nat, ρ 3 = (p : Int) := ⟨(ρ 3).toNat, by omega⟩
  have hp : p ≤ wN h := by omega
  obtain ⟨s1, s2⟩ := wSk_le (B := wB h) hp
  obtain ⟨g, eg⟩ : ∃ g : Nat, ρ 4 = (g : Int) := ⟨(ρ 4).toNat, by omega⟩
  have hg : g < 16 := by omega
  obtain ⟨v0, ev0⟩ : ∃ v0 : Nat, ρ 5 = (v0 : Int) := ⟨(ρ 5).toNat, by omega⟩
  obtain ⟨v1, ev1⟩ : ∃ v1 : Nat, ρ 6 = (v1 : Int) := ⟨(ρ 6).toNat, by omega⟩
  obtain ⟨v2, ev2⟩ : ∃ v2 : Nat, ρ 7 = (v2 : Int) := ⟨(ρ 7).toNat, by omega⟩
  have er : ρ 11 = (fI (wN h) (wB h) 0 (g) (p)) := (pfF hM hf 11 530 (0, [(3, 16), (4, 1)]) rfl (by decide) (by decide) (16 * p + g) (by omega) (by show (0 + (16 * ρ 3 + (1 * ρ 4 + 0)) : Int) = _; omega)).trans (fA_IT0 (g := g) hg hp hn)
  have ef0 : ρ 8 = (fV (wN h) (wB h) 0 0 (g) (p) ((v0 : Nat) : Int)) := (pfF hM hf 8 560 (0, [(3, 1600), (4, 100), (5, 1)]) rfl (by decide) (by decide) (1600 * p + 100 * g + v0) (by omega) (by show (0 + (1600 * ρ 3 + (100 * ρ 4 + (1 * ρ 5 + 0))) : Int) = _; omega)).trans (fA_I (s := 0) (j := 0) (r := 560) (g := g) (v := v0) (Or.inl ⟨rfl, rfl, by decide⟩) hg hp (by omega))
  have ef1 : ρ 9 = (fV (wN h) (wB h) 0 1 (g) (p) ((v1 : Nat) : Int)) := (pfF hM hf 9 561 (0, [(3, 1600), (4, 100), (6, 1)]) rfl (by decide) (by decide) (1600 * p + 100 * g + v1) (by omega) (by show (0 + (1600 * ρ 3 + (100 * ρ 4 + (1 * ρ 6 + 0))) : Int) = _; omega)).trans (fA_I (s := 0) (j := 1) (r := 561) (g := g) (v := v1) (Or.inl ⟨rfl, rfl, by decide⟩) hg hp (by omega))
  have ef2 : ρ 10 = (fV (wN h) (wB h) 0 2 (g) (p) ((v2 : Nat) : Int)) := (pfF hM hf 10 562 (0, [(3, 1600), (4, 100), (7, 1)]) rfl (by decide) (by decide) (1600 * p + 100 * g + v2) (by omega) (by show (0 + (1600 * ρ 3 + (100 * ρ 4 + (1 * ρ 7 + 0))) : Int) = _; omega)).trans (fA_I (s := 0) (j := 2) (r := 562) (g := g) (v := v2) (Or.inl ⟨rfl, rfl, by decide⟩) hg hp (by omega))
  have eq : ρ 12 = ((wSk (wN h) (wB h) (p)) : Int) := pfS hM ho hh 12 (0, [(3, 1)]) rfl (p := p) (by omega) (by show (0 + (1 * ρ 3 + 0) : Int) = _; omega)
  have hi := wSk_id (B := wB h) hp
  rw [← fI_id 0 g hp hg] at er
  rw [← fV_id 0 0 g hp hg] at ef0
  rw [← fV_id 0 1 g hp hg] at ef1
  rw [← fV_id 0 2 g hp hg] at ef2
  refine ⟨rIJ0m_0, List.mem_of_getElem? (i := 0) rfl, pEnd [ρ 0, ρ 1, ρ 2, ρ 3, ρ 4, ρ 5, ρ 6, ρ 7, ρ 8, ρ 9, ρ 10, ρ 11, ρ 12] rfl ?_ ?_ ?_ ?_⟩
  · exact hL
  · intro k b hk
    cases hk
  · exact pAll1 (show (0 + (1 * ρ 3 + ((-1) * ρ 12 + 0)) : Int) ≤ 0 by omega) (pAll1 (show (0 + ((-1) * ρ 2 + (1 * ρ 12 + 0)) : Int) ≤ 0 by omega) (pAll0))
  · exact pAll1 (pgS ho hh ((wSk (wN h) (wB h) (p))) (by omega) (show (0 + (1 * ρ 12 + 0) : Int) = _ by omega) (show (0 + (1 * ρ 12 + 0) : Int) = _ by omega)) (pAll1 (pgF hf 530 (by decide) (by decide) (16 * (wSk (wN h) (wB h) (p)) + g) (by omega) (show (0 + (1 * ρ 4 + (16 * ρ 12 + 0)) : Int) = _ by omega) (show (0 + (1 * ρ 11 + 0) : Int) = _ by rw [fA_IT0 (g := g) hg s2 hn]; omega)) (pAll1 (pgF hf 560 (by decide) (by decide) (1600 * (wSk (wN h) (wB h) (p)) + 100 * g + v0) (by omega) (show (0 + (100 * ρ 4 + (1 * ρ 5 + (1600 * ρ 12 + 0))) : Int) = _ by omega) (show (0 + (1 * ρ 8 + 0) : Int) = _ by rw [fA_I (s := 0) (j := 0) (r := 560) (g := g) (v := v0) (Or.inl ⟨rfl, rfl, by decide⟩) hg s2 (by omega)]; omega)) (pAll1 (pgF hf 561 (by decide) (by decide) (1600 * (wSk (wN h) (wB h) (p)) + 100 * g + v1) (by omega) (show (0 + (100 * ρ 4 + (1 * ρ 6 + (1600 * ρ 12 + 0))) : Int) = _ by omega) (show (0 + (1 * ρ 9 + 0) : Int) = _ by rw [fA_I (s := 0) (j := 1) (r := 561) (g := g) (v := v1) (Or.inl ⟨rfl, rfl, by decide⟩) hg s2 (by omega)]; omega)) (pAll1 (pgF hf 562 (by decide) (by decide) (1600 * (wSk (wN h) (wB h) (p)) + 100 * g + v2) (by omega) (show (0 + (100 * ρ 4 + (1 * ρ 7 + (1600 * ρ 12 + 0))) : Int) = _ by omega) (show (0 + (1 * ρ 10 + 0) : Int) = _ by rw [fA_I (s := 0) (j := 2) (r := 562) (g := g) (v := v2) (Or.inl ⟨rfl, rfl, by decide⟩) hg s2 (by omega)]; omega)) (pAll0)))))
noncomputable def rII1m_0 : sX := (none, [(500, (0, [(9, 1)]), (0, [(9, 1)])), (531, (0, [(9, 16)]), (0, [(4, 1)])), (563, (3, [(9, 1600)]), (0, [(5, 1)])), (564, (3, [(9, 1600)]), (0, [(6, 1)])), (565, (5, [(9, 1600)]), (0, [(7, 1)])), (566, (0, [(9, 1600)]), (0, [(8, 1)]))], [], [(0, [(3, 1), (9, (-1))]), (0, [(2, (-1)), (9, 1)])], [])
noncomputable def rII1m : sQ := (0, ([], [(2, 1013, (0, [])), (2, 1020, (0, [])), (2, 120, (2, [])), (2, 120, (3, [])), (2, 531, (0, [(3, 16)])), (2, 563, (3, [(3, 1600)])), (2, 564, (3, [(3, 1600)])), (2, 565, (5, [(3, 1600)])), (2, 566, (0, [(3, 1600)])), (2, 500, (0, [(3, 1)]))], [(1, 1), (1, 1), (0, 240), (0, 240), ((-241), 240), (0, 99), (0, 99), (0, 99), (0, 99), (0, 240)], [(0, [(2, (-1)), (3, 1)])], [(0, 0), (1, 1), (2, 2), (3, 3), (4, 4), (5, 5), (6, 6), (7, 7), (8, 8), (9, 9)], (0, [])), [rII1m_0], [], 0)
theorem rII1m_ok : pRul pReg pG pgv (rII1m) := by
  intro loc h ρ ρ0 hG hM
  have hM : sMt pReg pgv ρ ρ0 (sAs (rII1m).2.1) loc [] h := hM
  have q0 : ρ0 1 = ρ 0 := (hM.2.2.2.2.2 (1, sY 0) (List.mem_of_getElem? (i := 1) rfl)).trans (sY_v ρ 0)
  have q1 : ρ0 2 = ρ 1 := (hM.2.2.2.2.2 (2, sY 1) (List.mem_of_getElem? (i := 2) rfl)).trans (sY_v ρ 1)
  have q2 : ρ0 3 = ρ 2 := (hM.2.2.2.2.2 (3, sY 2) (List.mem_of_getElem? (i := 3) rfl)).trans (sY_v ρ 2)
  have q3 : ρ0 4 = ρ 3 := (hM.2.2.2.2.2 (4, sY 3) (List.mem_of_getElem? (i := 4) rfl)).trans (sY_v ρ 3)
  have q4 : ρ0 5 = ρ 4 := (hM.2.2.2.2.2 (5, sY 4) (List.mem_of_getElem? (i := 5) rfl)).trans (sY_v ρ 4)
  have q5 : ρ0 6 = ρ 5 := (hM.2.2.2.2.2 (6, sY 5) (List.mem_of_getElem? (i := 6) rfl)).trans (sY_v ρ 5)
  have q6 : ρ0 7 = ρ 6 := (hM.2.2.2.2.2 (7, sY 6) (List.mem_of_getElem? (i := 7) rfl)).trans (sY_v ρ 6)
  have q7 : ρ0 8 = ρ 7 := (hM.2.2.2.2.2 (8, sY 7) (List.mem_of_getElem? (i := 8) rfl)).trans (sY_v ρ 7)
  have q8 : ρ0 9 = ρ 8 := (hM.2.2.2.2.2 (9, sY 8) (List.mem_of_getElem? (i := 9) rfl)).trans (sY_v ρ 8)
  have q9 : ρ0 10 = ρ 9 := (hM.2.2.2.2.2 (10, sY 9) (List.mem_of_getElem? (i := 10) rfl)).trans (sY_v ρ 9)
  have hL : ∀ j, j < 10 → pL [ρ 0, ρ 1, ρ 2, ρ 3, ρ 4, ρ 5, ρ 6, ρ 7, ρ 8, ρ 9] j = ρ0 (j + 1) := by
    intro j hj
    match j, hj with
    | 0, _ => exact q0.symm
    | 1, _ => exact q1.symm
    | 2, _ => exact q2.symm
    | 3, _ => exact q3.symm
    | 4, _ => exact q4.symm
    | 5, _ => exact q5.symm
    | 6, _ => exact q6.symm
    | 7, _ => exact q7.symm
    | 8, _ => exact q8.symm
    | 9, _ => exact q9.symm
    | k + 10, hj => omega
  have b0 : (1 : Int) ≤ ρ 0 ∧ ρ 0 ≤ 1 := hM.2.2.2.1 0 (1, 1) rfl
  have b1 : (1 : Int) ≤ ρ 1 ∧ ρ 1 ≤ 1 := hM.2.2.2.1 1 (1, 1) rfl
  have b2 : (0 : Int) ≤ ρ 2 ∧ ρ 2 ≤ 240 := hM.2.2.2.1 2 (0, 240) rfl
  have b3 : (0 : Int) ≤ ρ 3 ∧ ρ 3 ≤ 240 := hM.2.2.2.1 3 (0, 240) rfl
  have b4 : ((-241) : Int) ≤ ρ 4 ∧ ρ 4 ≤ 240 := hM.2.2.2.1 4 ((-241), 240) rfl
  have b5 : (0 : Int) ≤ ρ 5 ∧ ρ 5 ≤ 99 := hM.2.2.2.1 5 (0, 99) rfl
  have b6 : (0 : Int) ≤ ρ 6 ∧ ρ 6 ≤ 99 := hM.2.2.2.1 6 (0, 99) rfl
  have b7 : (0 : Int) ≤ ρ 7 ∧ ρ 7 ≤ 99 := hM.2.2.2.1 7 (0, 99) rfl
  have b8 : (0 : Int) ≤ ρ 8 ∧ ρ 8 ≤ 99 := hM.2.2.2.1 8 (0, 99) rfl
  have b9 : (0 : Int) ≤ ρ 9 ∧ ρ 9 ≤ 240 := hM.2.2.2.1 9 (0, 240) rfl
  have c0 : (0 + ((-1) * ρ 2 + (1 * ρ 3 + 0)) : Int) ≤ 0 := hM.2.2.2.2.1 (0, [(2, (-1)), (3, 1)]) (List.mem_of_getElem? (i := 0) rfl)
  obtain ⟨ho, hs, hh⟩ := pTold13 hM 0 (0, []) rfl b0.1
  have hn := ho.1
  obtain ⟨-, -, hf⟩ := pTold20 hM 1 (0, []) rfl b1.1
  have en : ρ 2 = (wN h : Int) := (pPl hM 2 120 (2, []) rfl (by omega) 440 2 (by decide +kernel) rfl).symm.trans hs.1
  obtain ⟨p, ep⟩ : ∃ p : Nat, ρ 3 = (p : Int) := ⟨(ρ 3).toNat, by omega⟩
  have hp : p ≤ wN h := by omega
  obtain ⟨s1, s2⟩ := wSk_le (B := wB h) hp
  have er : ρ 4 = (fI (wN h) (wB h) 1 (0) (p)) := (pfF hM hf 4 531 (0, [(3, 16)]) rfl (by decide) (by decide) (16 * p + 0) (by omega) (by show (0 + (16 * ρ 3 + 0) : Int) = _; omega)).trans (fA_IT1 (g := 0) (by decide) hp hn)
  have ef0 : ρ 5 = (fV (wN h) (wB h) 1 0 (0) (p) ((3 : Nat) : Int)) := (pfF hM hf 5 563 (3, [(3, 1600)]) rfl (by decide) (by decide) (1600 * p + 100 * 0 + 3) (by omega) (by show (3 + (1600 * ρ 3 + 0) : Int) = _; omega)).trans (fA_I (s := 1) (j := 0) (r := 563) (g := 0) (v := 3) (Or.inr ⟨rfl, rfl, by decide⟩) (by decide) hp (by omega))
  have ef1 : ρ 6 = (fV (wN h) (wB h) 1 1 (0) (p) ((3 : Nat) : Int)) := (pfF hM hf 6 564 (3, [(3, 1600)]) rfl (by decide) (by decide) (1600 * p + 100 * 0 + 3) (by omega) (by show (3 + (1600 * ρ 3 + 0) : Int) = _; omega)).trans (fA_I (s := 1) (j := 1) (r := 564) (g := 0) (v := 3) (Or.inr ⟨rfl, rfl, by decide⟩) (by decide) hp (by omega))
  have ef2 : ρ 7 = (fV (wN h) (wB h) 1 2 (0) (p) ((5 : Nat) : Int)) := (pfF hM hf 7 565 (5, [(3, 1600)]) rfl (by decide) (by decide) (1600 * p + 100 * 0 + 5) (by omega) (by show (5 + (1600 * ρ 3 + 0) : Int) = _; omega)).trans (fA_I (s := 1) (j := 2) (r := 565) (g := 0) (v := 5) (Or.inr ⟨rfl, rfl, by decide⟩) (by decide) hp (by omega))
  have ef3 : ρ 8 = (fV (wN h) (wB h) 1 3 (0) (p) ((0 : Nat) : Int)) := (pfF hM hf 8 566 (0, [(3, 1600)]) rfl (by decide) (by decide) (1600 * p + 100 * 0 + 0) (by omega) (by show (0 + (1600 * ρ 3 + 0) : Int) = _; omega)).trans (fA_I (s := 1) (j := 3) (r := 566) (g := 0) (v := 0) (Or.inr ⟨rfl, rfl, by decide⟩) (by decide) hp (by omega))
  have eq : ρ 9 = ((wSk (wN h) (wB h) (p)) : Int) := pfS hM ho hh 9 (0, [(3, 1)]) rfl (p := p) (by omega) (by show (0 + (1 * ρ 3 + 0) : Int) = _; omega)
  have hi := wSk_id (B := wB h) hp
  rw [← fI_id 1 0 hp (by decide)] at er
  rw [← fV_id 1 0 0 hp (by decide)] at ef0
  rw [← fV_id 1 1 0 hp (by decide)] at ef1
  rw [← fV_id 1 2 0 hp (by decide)] at ef2
  rw [← fV_id 1 3 0 hp (by decide)] at ef3
  refine ⟨rII1m_0, List.mem_of_getElem? (i := 0) rfl, pEnd [ρ 0, ρ 1, ρ 2, ρ 3, ρ 4, ρ 5, ρ 6, ρ 7, ρ 8, ρ 9] rfl ?_ ?_ ?_ ?_⟩
  · exact hL
  · intro k b hk
    cases hk
  · exact pAll1 (show (0 + (1 * ρ 3 + ((-1) * ρ 9 + 0)) : Int) ≤ 0 by omega) (pAll1 (show (0 + ((-1) * ρ 2 + (1 * ρ 9 + 0)) : Int) ≤ 0 by omega) (pAll0))
  · exact pAll1 (pgS ho hh ((wSk (wN h) (wB h) (p))) (by omega) (show (0 + (1 * ρ 9 + 0) : Int) = _ by omega) (show (0 + (1 * ρ 9 + 0) : Int) = _ by omega)) (pAll1 (pgF hf 531 (by decide) (by decide) (16 * (wSk (wN h) (wB h) (p)) + 0) (by omega) (show (0 + (16 * ρ 9 + 0) : Int) = _ by omega) (show (0 + (1 * ρ 4 + 0) : Int) = _ by rw [fA_IT1 (g := 0) (by decide) s2 hn]; omega)) (pAll1 (pgF hf 563 (by decide) (by decide) (1600 * (wSk (wN h) (wB h) (p)) + 100 * 0 + 3) (by omega) (show (3 + (1600 * ρ 9 + 0) : Int) = _ by omega) (show (0 + (1 * ρ 5 + 0) : Int) = _ by rw [fA_I (s := 1) (j := 0) (r := 563) (g := 0) (v := 3) (Or.inr ⟨rfl, rfl, by decide⟩) (by decide) s2 (by omega)]; omega)) (pAll1 (pgF hf 564 (by decide) (by decide) (1600 * (wSk (wN h) (wB h) (p)) + 100 * 0 + 3) (by omega) (show (3 + (1600 * ρ 9 + 0) : Int) = _ by omega) (show (0 + (1 * ρ 6 + 0) : Int) = _ by rw [fA_I (s := 1) (j := 1) (r := 564) (g := 0) (v := 3) (Or.inr ⟨rfl, rfl, by decide⟩) (by decide) s2 (by omega)]; omega)) (pAll1 (pgF hf 565 (by decide) (by decide) (1600 * (wSk (wN h) (wB h) (p)) + 100 * 0 + 5) (by omega) (show (5 + (1600 * ρ 9 + 0) : Int) = _ by omega) (show (0 + (1 * ρ 7 + 0) : Int) = _ by rw [fA_I (s := 1) (j := 2) (r := 565) (g := 0) (v := 5) (Or.inr ⟨rfl, rfl, by decide⟩) (by decide) s2 (by omega)]; omega)) (pAll1 (pgF hf 566 (by decide) (by decide) (1600 * (wSk (wN h) (wB h) (p)) + 100 * 0 + 0) (by omega) (show (0 + (1600 * ρ 9 + 0) : Int) = _ by omega) (show (0 + (1 * ρ 8 + 0) : Int) = _ by rw [fA_I (s := 1) (j := 3) (r := 566) (g := 0) (v := 0) (Or.inr ⟨rfl, rfl, by decide⟩) (by decide) s2 (by omega)]; omega)) (pAll0))))))
noncomputable def rIJ1m_0 : sX := (none, [(500, (0, [(14, 1)]), (0, [(14, 1)])), (531, (0, [(4, 1), (14, 16)]), (0, [(13, 1)])), (563, (0, [(4, 100), (5, 1), (14, 1600)]), (0, [(9, 1)])), (564, (0, [(4, 100), (6, 1), (14, 1600)]), (0, [(10, 1)])), (565, (0, [(4, 100), (7, 1), (14, 1600)]), (0, [(11, 1)])), (566, (0, [(4, 100), (8, 1), (14, 1600)]), (0, [(12, 1)]))], [], [(0, [(3, 1), (14, (-1))]), (0, [(2, (-1)), (14, 1)])], [])
noncomputable def rIJ1m (b : Int) : sQ := (0, ([], [(2, 1013, (0, [])), (2, 1020, (0, [])), (2, 120, (2, [])), (2, 120, (3, [])), (0, 5, (0, [])), (2, 98, (b + 0, [])), (2, 98, (b + 1, [])), (2, 98, (b + 2, [])), (2, 98, (b + 3, [])), (2, 563, (0, [(3, 1600), (4, 100), (5, 1)])), (2, 564, (0, [(3, 1600), (4, 100), (6, 1)])), (2, 565, (0, [(3, 1600), (4, 100), (7, 1)])), (2, 566, (0, [(3, 1600), (4, 100), (8, 1)])), (2, 531, (0, [(3, 16), (4, 1)])), (2, 500, (0, [(3, 1)]))], [(1, 1), (1, 1), (0, 240), (0, 240), (0, 15), (0, 99), (0, 99), (0, 99), (0, 99), (0, 99), (0, 99), (0, 99), (0, 99), ((-241), 240), (0, 240)], [(0, [(2, (-1)), (3, 1)])], [(0, 0), (1, 1), (2, 2), (3, 3), (4, 4), (5, 5), (6, 6), (7, 7), (8, 8), (9, 9), (10, 10), (11, 11), (12, 12), (13, 13), (14, 14)], (0, [])), [rIJ1m_0], [], 0)
theorem rIJ1m_ok (b : Int) : pRul pReg pG pgv (rIJ1m b) := by
  intro loc h ρ ρ0 hG hM
  have hM : sMt pReg pgv ρ ρ0 (sAs (rIJ1m b).2.1) loc [] h := hM
  have q0 : ρ0 1 = ρ 0 := (hM.2.2.2.2.2 (1, sY 0) (List.mem_of_getElem? (i := 1) rfl)).trans (sY_v ρ 0)
  have q1 : ρ0 2 = ρ 1 := (hM.2.2.2.2.2 (2, sY 1) (List.mem_of_getElem? (i := 2) rfl)).trans (sY_v ρ 1)
  have q2 : ρ0 3 = ρ 2 := (hM.2.2.2.2.2 (3, sY 2) (List.mem_of_getElem? (i := 3) rfl)).trans (sY_v ρ 2)
  have q3 : ρ0 4 = ρ 3 := (hM.2.2.2.2.2 (4, sY 3) (List.mem_of_getElem? (i := 4) rfl)).trans (sY_v ρ 3)
  have q4 : ρ0 5 = ρ 4 := (hM.2.2.2.2.2 (5, sY 4) (List.mem_of_getElem? (i := 5) rfl)).trans (sY_v ρ 4)
  have q5 : ρ0 6 = ρ 5 := (hM.2.2.2.2.2 (6, sY 5) (List.mem_of_getElem? (i := 6) rfl)).trans (sY_v ρ 5)
  have q6 : ρ0 7 = ρ 6 := (hM.2.2.2.2.2 (7, sY 6) (List.mem_of_getElem? (i := 7) rfl)).trans (sY_v ρ 6)
  have q7 : ρ0 8 = ρ 7 := (hM.2.2.2.2.2 (8, sY 7) (List.mem_of_getElem? (i := 8) rfl)).trans (sY_v ρ 7)
  have q8 : ρ0 9 = ρ 8 := (hM.2.2.2.2.2 (9, sY 8) (List.mem_of_getElem? (i := 9) rfl)).trans (sY_v ρ 8)
  have q9 : ρ0 10 = ρ 9 := (hM.2.2.2.2.2 (10, sY 9) (List.mem_of_getElem? (i := 10) rfl)).trans (sY_v ρ 9)
  have q10 : ρ0 11 = ρ 10 := (hM.2.2.2.2.2 (11, sY 10) (List.mem_of_getElem? (i := 11) rfl)).trans (sY_v ρ 10)
  have q11 : ρ0 12 = ρ 11 := (hM.2.2.2.2.2 (12, sY 11) (List.mem_of_getElem? (i := 12) rfl)).trans (sY_v ρ 11)
  have q12 : ρ0 13 = ρ 12 := (hM.2.2.2.2.2 (13, sY 12) (List.mem_of_getElem? (i := 13) rfl)).trans (sY_v ρ 12)
  have q13 : ρ0 14 = ρ 13 := (hM.2.2.2.2.2 (14, sY 13) (List.mem_of_getElem? (i := 14) rfl)).trans (sY_v ρ 13)
  have q14 : ρ0 15 = ρ 14 := (hM.2.2.2.2.2 (15, sY 14) (List.mem_of_getElem? (i := 15) rfl)).trans (sY_v ρ 14)
  have hL : ∀ j, j < 15 → pL [ρ 0, ρ 1, ρ 2, ρ 3, ρ 4, ρ 5, ρ 6, ρ 7, ρ 8, ρ 9, ρ 10, ρ 11, ρ 12, ρ 13, ρ 14] j = ρ0 (j + 1) := by
    intro j hj
    match j, hj with
    | 0, _ => exact q0.symm
    | 1, _ => exact q1.symm
    | 2, _ => exact q2.symm
    | 3, _ => exact q3.symm
    | 4, _ => exact q4.symm
    | 5, _ => exact q5.symm
    | 6, _ => exact q6.symm
    | 7, _ => exact q7.symm
    | 8, _ => exact q8.symm
    | 9, _ => exact q9.symm
    | 10, _ => exact q10.symm
    | 11, _ => exact q11.symm
    | 12, _ => exact q12.symm
    | 13, _ => exact q13.symm
    | 14, _ => exact q14.symm
    | k + 15, hj => omega
  have b0 : (1 : Int) ≤ ρ 0 ∧ ρ 0 ≤ 1 := hM.2.2.2.1 0 (1, 1) rfl
  have b1 : (1 : Int) ≤ ρ 1 ∧ ρ 1 ≤ 1 := hM.2.2.2.1 1 (1, 1) rfl
  have b2 : (0 : Int) ≤ ρ 2 ∧ ρ 2 ≤ 240 := hM.2.2.2.1 2 (0, 240) rfl
  have b3 : (0 : Int) ≤ ρ 3 ∧ ρ 3 ≤ 240 := hM.2.2.2.1 3 (0, 240) rfl
  have b4 : (0 : Int) ≤ ρ 4 ∧ ρ 4 ≤ 15 := hM.2.2.2.1 4 (0, 15) rfl
  have b5 : (0 : Int) ≤ ρ 5 ∧ ρ 5 ≤ 99 := hM.2.2.2.1 5 (0, 99) rfl
  have b6 : (0 : Int) ≤ ρ 6 ∧ ρ 6 ≤ 99 := hM.2.2.2.1 6 (0, 99) rfl
  have b7 : (0 : Int) ≤ ρ 7 ∧ ρ 7 ≤ 99 := hM.2.2.2.1 7 (0, 99) rfl
  have b8 : (0 : Int) ≤ ρ 8 ∧ ρ 8 ≤ 99 := hM.2.2.2.1 8 (0, 99) rfl
  have b9 : (0 : Int) ≤ ρ 9 ∧ ρ 9 ≤ 99 := hM.2.2.2.1 9 (0, 99) rfl
  have b10 : (0 : Int) ≤ ρ 10 ∧ ρ 10 ≤ 99 := hM.2.2.2.1 10 (0, 99) rfl
  have b11 : (0 : Int) ≤ ρ 11 ∧ ρ 11 ≤ 99 := hM.2.2.2.1 11 (0, 99) rfl
  have b12 : (0 : Int) ≤ ρ 12 ∧ ρ 12 ≤ 99 := hM.2.2.2.1 12 (0, 99) rfl
  have b13 : ((-241) : Int) ≤ ρ 13 ∧ ρ 13 ≤ 240 := hM.2.2.2.1 13 ((-241), 240) rfl
  have b14 : (0 : Int) ≤ ρ 14 ∧ ρ 14 ≤ 240 := hM.2.2.2.1 14 (0, 240) rfl
  have c0 : (0 + ((-1) * ρ 2 + (1 * ρ 3 + 0)) : Int) ≤ 0 := hM.2.2.2.2.1 (0, [(2, (-1)), (3, 1)]) (List.mem_of_getElem? (i := 0) rfl)
  obtain ⟨ho, hs, hh⟩ := pTold13 hM 0 (0, []) rfl b0.1
  have hn := ho.1
  obtain ⟨-, -, hf⟩ := pTold20 hM 1 (0, []) rfl b1.1
  have en : ρ 2 = (wN h : Int) := (pPl hM 2 120 (2, []) rfl (by omega) 440 2 (by decide +kernel) rfl).symm.trans hs.1
  obtain ⟨p, ep⟩ : ∃ p : Nat, ρ 3 = (p : Int) := ⟨(ρ 3).toNat, by omega⟩
  have hp : p ≤ wN h := by omega
  obtain ⟨s1, s2⟩ := wSk_le (B := wB h) hp
  obtain ⟨g, eg⟩ : ∃ g : Nat, ρ 4 = (g : Int) := ⟨(ρ 4).toNat, by omega⟩
  have hg : g < 16 := by omega
  obtain ⟨v0, ev0⟩ : ∃ v0 : Nat, ρ 5 = (v0 : Int) := ⟨(ρ 5).toNat, by omega⟩
  obtain ⟨v1, ev1⟩ : ∃ v1 : Nat, ρ 6 = (v1 : Int) := ⟨(ρ 6).toNat, by omega⟩
  obtain ⟨v2, ev2⟩ : ∃ v2 : Nat, ρ 7 = (v2 : Int) := ⟨(ρ 7).toNat, by omega⟩
  obtain ⟨v3, ev3⟩ : ∃ v3 : Nat, ρ 8 = (v3 : Int) := ⟨(ρ 8).toNat, by omega⟩
  have er : ρ 13 = (fI (wN h) (wB h) 1 (g) (p)) := (pfF hM hf 13 531 (0, [(3, 16), (4, 1)]) rfl (by decide) (by decide) (16 * p + g) (by omega) (by show (0 + (16 * ρ 3 + (1 * ρ 4 + 0)) : Int) = _; omega)).trans (fA_IT1 (g := g) hg hp hn)
  have ef0 : ρ 9 = (fV (wN h) (wB h) 1 0 (g) (p) ((v0 : Nat) : Int)) := (pfF hM hf 9 563 (0, [(3, 1600), (4, 100), (5, 1)]) rfl (by decide) (by decide) (1600 * p + 100 * g + v0) (by omega) (by show (0 + (1600 * ρ 3 + (100 * ρ 4 + (1 * ρ 5 + 0))) : Int) = _; omega)).trans (fA_I (s := 1) (j := 0) (r := 563) (g := g) (v := v0) (Or.inr ⟨rfl, rfl, by decide⟩) hg hp (by omega))
  have ef1 : ρ 10 = (fV (wN h) (wB h) 1 1 (g) (p) ((v1 : Nat) : Int)) := (pfF hM hf 10 564 (0, [(3, 1600), (4, 100), (6, 1)]) rfl (by decide) (by decide) (1600 * p + 100 * g + v1) (by omega) (by show (0 + (1600 * ρ 3 + (100 * ρ 4 + (1 * ρ 6 + 0))) : Int) = _; omega)).trans (fA_I (s := 1) (j := 1) (r := 564) (g := g) (v := v1) (Or.inr ⟨rfl, rfl, by decide⟩) hg hp (by omega))
  have ef2 : ρ 11 = (fV (wN h) (wB h) 1 2 (g) (p) ((v2 : Nat) : Int)) := (pfF hM hf 11 565 (0, [(3, 1600), (4, 100), (7, 1)]) rfl (by decide) (by decide) (1600 * p + 100 * g + v2) (by omega) (by show (0 + (1600 * ρ 3 + (100 * ρ 4 + (1 * ρ 7 + 0))) : Int) = _; omega)).trans (fA_I (s := 1) (j := 2) (r := 565) (g := g) (v := v2) (Or.inr ⟨rfl, rfl, by decide⟩) hg hp (by omega))
  have ef3 : ρ 12 = (fV (wN h) (wB h) 1 3 (g) (p) ((v3 : Nat) : Int)) := (pfF hM hf 12 566 (0, [(3, 1600), (4, 100), (8, 1)]) rfl (by decide) (by decide) (1600 * p + 100 * g + v3) (by omega) (by show (0 + (1600 * ρ 3 + (100 * ρ 4 + (1 * ρ 8 + 0))) : Int) = _; omega)).trans (fA_I (s := 1) (j := 3) (r := 566) (g := g) (v := v3) (Or.inr ⟨rfl, rfl, by decide⟩) hg hp (by omega))
  have eq : ρ 14 = ((wSk (wN h) (wB h) (p)) : Int) := pfS hM ho hh 14 (0, [(3, 1)]) rfl (p := p) (by omega) (by show (0 + (1 * ρ 3 + 0) : Int) = _; omega)
  have hi := wSk_id (B := wB h) hp
  rw [← fI_id 1 g hp hg] at er
  rw [← fV_id 1 0 g hp hg] at ef0
  rw [← fV_id 1 1 g hp hg] at ef1
  rw [← fV_id 1 2 g hp hg] at ef2
  rw [← fV_id 1 3 g hp hg] at ef3
  refine ⟨rIJ1m_0, List.mem_of_getElem? (i := 0) rfl, pEnd [ρ 0, ρ 1, ρ 2, ρ 3, ρ 4, ρ 5, ρ 6, ρ 7, ρ 8, ρ 9, ρ 10, ρ 11, ρ 12, ρ 13, ρ 14] rfl ?_ ?_ ?_ ?_⟩
  · exact hL
  · intro k b hk
    cases hk
  · exact pAll1 (show (0 + (1 * ρ 3 + ((-1) * ρ 14 + 0)) : Int) ≤ 0 by omega) (pAll1 (show (0 + ((-1) * ρ 2 + (1 * ρ 14 + 0)) : Int) ≤ 0 by omega) (pAll0))
  · exact pAll1 (pgS ho hh ((wSk (wN h) (wB h) (p))) (by omega) (show (0 + (1 * ρ 14 + 0) : Int) = _ by omega) (show (0 + (1 * ρ 14 + 0) : Int) = _ by omega)) (pAll1 (pgF hf 531 (by decide) (by decide) (16 * (wSk (wN h) (wB h) (p)) + g) (by omega) (show (0 + (1 * ρ 4 + (16 * ρ 14 + 0)) : Int) = _ by omega) (show (0 + (1 * ρ 13 + 0) : Int) = _ by rw [fA_IT1 (g := g) hg s2 hn]; omega)) (pAll1 (pgF hf 563 (by decide) (by decide) (1600 * (wSk (wN h) (wB h) (p)) + 100 * g + v0) (by omega) (show (0 + (100 * ρ 4 + (1 * ρ 5 + (1600 * ρ 14 + 0))) : Int) = _ by omega) (show (0 + (1 * ρ 9 + 0) : Int) = _ by rw [fA_I (s := 1) (j := 0) (r := 563) (g := g) (v := v0) (Or.inr ⟨rfl, rfl, by decide⟩) hg s2 (by omega)]; omega)) (pAll1 (pgF hf 564 (by decide) (by decide) (1600 * (wSk (wN h) (wB h) (p)) + 100 * g + v1) (by omega) (show (0 + (100 * ρ 4 + (1 * ρ 6 + (1600 * ρ 14 + 0))) : Int) = _ by omega) (show (0 + (1 * ρ 10 + 0) : Int) = _ by rw [fA_I (s := 1) (j := 1) (r := 564) (g := g) (v := v1) (Or.inr ⟨rfl, rfl, by decide⟩) hg s2 (by omega)]; omega)) (pAll1 (pgF hf 565 (by decide) (by decide) (1600 * (wSk (wN h) (wB h) (p)) + 100 * g + v2) (by omega) (show (0 + (100 * ρ 4 + (1 * ρ 7 + (1600 * ρ 14 + 0))) : Int) = _ by omega) (show (0 + (1 * ρ 11 + 0) : Int) = _ by rw [fA_I (s := 1) (j := 2) (r := 565) (g := g) (v := v2) (Or.inr ⟨rfl, rfl, by decide⟩) hg s2 (by omega)]; omega)) (pAll1 (pgF hf 566 (by decide) (by decide) (1600 * (wSk (wN h) (wB h) (p)) + 100 * g + v3) (by omega) (show (0 + (100 * ρ 4 + (1 * ρ 8 + (1600 * ρ 14 + 0))) : Int) = _ by omega) (show (0 + (1 * ρ 12 + 0) : Int) = _ by rw [fA_I (s := 1) (j := 3) (r := 566) (g := g) (v := v3) (Or.inr ⟨rfl, rfl, by decide⟩) hg s2 (by omega)]; omega)) (pAll0))))))
noncomputable def rFTc_0 : sX := (none, [], [], [(0, [(3, 1), (8, (-1))]), (0, [(2, (-1)), (8, 1)]), ((-108), [(9, 1)]), (1, [(7, 1), (8, 1)]), ((-1), [(7, (-1)), (8, (-1))])], [])
noncomputable def rFTc_1 : sX := (none, [], [], [(0, [(3, 1), (8, (-1))]), (0, [(2, (-1)), (8, 1)]), (110, [(9, (-1))]), ((-114), [(9, 1)]), (1, [(7, 1), (8, 1)]), ((-1), [(7, (-1)), (8, (-1))])], [])
noncomputable def rFTc_2 : sX := (none, [], [], [(0, [(3, 1), (8, (-1))]), (0, [(2, (-1)), (8, 1)]), (116, [(9, (-1))]), (1, [(7, 1), (8, 1)]), ((-1), [(7, (-1)), (8, (-1))])], [])
noncomputable def rFTc_3 : sX := (none, [], [], [(0, [(3, 1), (8, (-1))]), (0, [(2, (-1)), (8, 1)]), ((-115), [(9, 1)]), (115, [(9, (-1))]), ((-1), [(4, 1)]), (1, [(4, (-1))]), (1, [(7, 1), (8, 1)]), ((-1), [(7, (-1)), (8, (-1))])], [])
noncomputable def rFTc_4 : sX := (none, [], [], [(0, [(3, 1), (8, (-1))]), (0, [(2, (-1)), (8, 1)]), ((-109), [(9, 1)]), (109, [(9, (-1))]), ((-6), [(5, 1)]), (6, [(5, (-1))]), (1, [(7, 1), (8, 1)]), ((-1), [(7, (-1)), (8, (-1))])], [])
noncomputable def rFTc_5 : sX := (none, [(530, (16, [(8, 16)]), (0, [(18, 1)]))], [((-241), (-1))], [(0, [(3, 1), (8, (-1))]), (0, [(2, (-1)), (8, 1)]), (1, [(2, (-1)), (8, 1)]), (1, [(9, (-1))]), ((-115), [(9, 1)]), (115, [(9, (-1))]), (0, [(4, 1)]), (0, [(4, (-1))]), (0, [(7, 1), (18, (-1))]), (0, [(7, (-1)), (18, 1)])], [])
noncomputable def rFTc_6 : sX := (none, [(530, (16, [(8, 16)]), (0, [(18, 1)])), (500, (0, [(18, 1)]), (0, [(19, 1)])), (501, (0, [(19, 1)]), (0, [(20, 1)])), (500, (0, [(19, 1)]), (0, [(19, 1)])), (560, (1608, [(8, 1600)]), (0, [(10, 1)])), (561, (1607, [(8, 1600)]), (0, [(11, 1)])), (562, (1620, [(8, 1600)]), (0, [(12, 1)])), (532, (21, [(5, 1), (19, 14)]), (1, []))], [(0, 240), (0, 240), (59, 59)], [(0, [(3, 1), (8, (-1))]), (0, [(2, (-1)), (8, 1)]), (1, [(2, (-1)), (8, 1)]), (1, [(9, (-1))]), ((-115), [(9, 1)]), (115, [(9, (-1))]), (0, [(4, 1)]), (0, [(4, (-1))]), (1, [(8, 1), (18, (-1))]), (0, [(18, 1), (19, (-1))]), (0, [(2, (-1)), (19, 1)]), (1, [(2, (-1)), (19, 1)])], [])
noncomputable def rFTc_7 : sX := (none, [(530, (16, [(8, 16)]), (0, [(18, 1)])), (500, (0, [(18, 1)]), (0, [(19, 1)])), (501, (0, [(19, 1)]), (0, [(20, 1)])), (500, (0, [(19, 1)]), (0, [(19, 1)])), (560, (1608, [(8, 1600)]), (0, [(10, 1)])), (561, (1607, [(8, 1600)]), (0, [(11, 1)])), (562, (1620, [(8, 1600)]), (0, [(12, 1)]))], [(0, 240), (0, 240), (0, 0)], [(0, [(3, 1), (8, (-1))]), (0, [(2, (-1)), (8, 1)]), (1, [(2, (-1)), (8, 1)]), (1, [(9, (-1))]), ((-115), [(9, 1)]), (115, [(9, (-1))]), (0, [(4, 1)]), (0, [(4, (-1))]), (1, [(8, 1), (18, (-1))]), (0, [(18, 1), (19, (-1))]), (0, [(2, (-1)), (19, 1)]), (0, [(2, (-1)), (19, 1)]), (0, [(2, 1), (19, (-1))]), (0, [(7, 1), (19, (-1))]), (0, [(7, (-1)), (19, 1)]), (0, [(5, (-1)), (17, 1)]), (0, [(5, 1), (17, (-1))])], [])
noncomputable def rFTc_8 : sX := (none, [(530, (16, [(8, 16)]), (0, [(18, 1)])), (500, (0, [(18, 1)]), (0, [(19, 1)])), (501, (0, [(19, 1)]), (0, [(20, 1)])), (500, (0, [(19, 1)]), (0, [(19, 1)])), (560, (1608, [(8, 1600)]), (0, [(10, 1)])), (561, (1607, [(8, 1600)]), (0, [(11, 1)])), (562, (1620, [(8, 1600)]), (0, [(12, 1)]))], [(0, 240), (0, 240), (1, 58)], [(0, [(3, 1), (8, (-1))]), (0, [(2, (-1)), (8, 1)]), (1, [(2, (-1)), (8, 1)]), (1, [(9, (-1))]), ((-115), [(9, 1)]), (115, [(9, (-1))]), (0, [(4, 1)]), (0, [(4, (-1))]), (1, [(8, 1), (18, (-1))]), (0, [(18, 1), (19, (-1))]), (0, [(2, (-1)), (19, 1)]), (1, [(2, (-1)), (19, 1)]), (1, [(7, 1), (19, 1)]), ((-1), [(7, (-1)), (19, (-1))])], [])
noncomputable def rFTc_9 : sX := (none, [(530, (16, [(8, 16)]), (0, [(18, 1)])), (500, (0, [(18, 1)]), (0, [(19, 1)])), (501, (0, [(19, 1)]), (0, [(20, 1)])), (500, (0, [(19, 1)]), (0, [(19, 1)])), (560, (1608, [(8, 1600)]), (0, [(10, 1)])), (561, (1607, [(8, 1600)]), (0, [(11, 1)])), (562, (1620, [(8, 1600)]), (0, [(12, 1)]))], [(0, 240), (0, 240), (60, 255)], [(0, [(3, 1), (8, (-1))]), (0, [(2, (-1)), (8, 1)]), (1, [(2, (-1)), (8, 1)]), (1, [(9, (-1))]), ((-115), [(9, 1)]), (115, [(9, (-1))]), (0, [(4, 1)]), (0, [(4, (-1))]), (1, [(8, 1), (18, (-1))]), (0, [(18, 1), (19, (-1))]), (0, [(2, (-1)), (19, 1)]), (1, [(2, (-1)), (19, 1)]), (1, [(7, 1), (19, 1)]), ((-1), [(7, (-1)), (19, (-1))])], [])
noncomputable def rFTc_10 : sX := (none, [(531, (16, [(8, 16)]), (0, [(18, 1)]))], [((-241), (-1))], [(0, [(3, 1), (8, (-1))]), (0, [(2, (-1)), (8, 1)]), (1, [(2, (-1)), (8, 1)]), (1, [(9, (-1))]), ((-109), [(9, 1)]), (109, [(9, (-1))]), ((-5), [(5, 1)]), (0, [(7, 1), (18, (-1))]), (0, [(7, (-1)), (18, 1)])], [])
noncomputable def rFTc_11 : sX := (none, [(531, (16, [(8, 16)]), (0, [(18, 1)])), (500, (0, [(18, 1)]), (0, [(19, 1)])), (501, (0, [(19, 1)]), (0, [(20, 1)])), (500, (0, [(19, 1)]), (0, [(19, 1)])), (563, (1603, [(8, 1600)]), (0, [(13, 1)])), (564, (1603, [(8, 1600)]), (0, [(14, 1)])), (565, (1605, [(8, 1600)]), (0, [(15, 1)])), (566, (1600, [(8, 1600)]), (0, [(16, 1)])), (532, (15, [(4, 7), (5, 1), (19, 14)]), (1, []))], [(0, 240), (0, 240), (59, 59)], [(0, [(3, 1), (8, (-1))]), (0, [(2, (-1)), (8, 1)]), (1, [(2, (-1)), (8, 1)]), (1, [(9, (-1))]), ((-109), [(9, 1)]), (109, [(9, (-1))]), ((-5), [(5, 1)]), (1, [(8, 1), (18, (-1))]), (0, [(18, 1), (19, (-1))]), (0, [(2, (-1)), (19, 1)]), (1, [(2, (-1)), (19, 1)])], [])
noncomputable def rFTc_12 : sX := (none, [(531, (16, [(8, 16)]), (0, [(18, 1)])), (500, (0, [(18, 1)]), (0, [(19, 1)])), (501, (0, [(19, 1)]), (0, [(20, 1)])), (500, (0, [(19, 1)]), (0, [(19, 1)])), (563, (1603, [(8, 1600)]), (0, [(13, 1)])), (564, (1603, [(8, 1600)]), (0, [(14, 1)])), (565, (1605, [(8, 1600)]), (0, [(15, 1)])), (566, (1600, [(8, 1600)]), (0, [(16, 1)]))], [(0, 240), (0, 240), (0, 0)], [(0, [(3, 1), (8, (-1))]), (0, [(2, (-1)), (8, 1)]), (1, [(2, (-1)), (8, 1)]), (1, [(9, (-1))]), ((-109), [(9, 1)]), (109, [(9, (-1))]), ((-5), [(5, 1)]), (1, [(8, 1), (18, (-1))]), (0, [(18, 1), (19, (-1))]), (0, [(2, (-1)), (19, 1)]), (0, [(2, (-1)), (19, 1)]), (0, [(2, 1), (19, (-1))]), (0, [(7, 1), (19, (-1))]), (0, [(7, (-1)), (19, 1)]), ((-1), [(5, (-1)), (17, 1)]), (1, [(5, 1), (17, (-1))]), ((-1), [(4, 1)]), (1, [(4, (-1))])], [])
noncomputable def rFTc_13 : sX := (none, [(531, (16, [(8, 16)]), (0, [(18, 1)])), (500, (0, [(18, 1)]), (0, [(19, 1)])), (501, (0, [(19, 1)]), (0, [(20, 1)])), (500, (0, [(19, 1)]), (0, [(19, 1)])), (563, (1603, [(8, 1600)]), (0, [(13, 1)])), (564, (1603, [(8, 1600)]), (0, [(14, 1)])), (565, (1605, [(8, 1600)]), (0, [(15, 1)])), (566, (1600, [(8, 1600)]), (0, [(16, 1)]))], [(0, 240), (0, 240), (0, 0)], [(0, [(3, 1), (8, (-1))]), (0, [(2, (-1)), (8, 1)]), (1, [(2, (-1)), (8, 1)]), (1, [(9, (-1))]), ((-109), [(9, 1)]), (109, [(9, (-1))]), ((-5), [(5, 1)]), (1, [(8, 1), (18, (-1))]), (0, [(18, 1), (19, (-1))]), (0, [(2, (-1)), (19, 1)]), (0, [(2, (-1)), (19, 1)]), (0, [(2, 1), (19, (-1))]), (0, [(7, 1), (19, (-1))]), (0, [(7, (-1)), (19, 1)]), ((-1), [(5, (-1)), (17, 1)]), (1, [(5, 1), (17, (-1))]), (0, [(4, 1)]), (0, [(4, (-1))]), ((-8), [(10, 1)]), (8, [(10, (-1))]), ((-7), [(11, 1)]), (7, [(11, (-1))]), ((-20), [(12, 1)]), (20, [(12, (-1))])], [])
noncomputable def rFTc_14 : sX := (none, [(531, (16, [(8, 16)]), (0, [(18, 1)])), (500, (0, [(18, 1)]), (0, [(19, 1)])), (501, (0, [(19, 1)]), (0, [(20, 1)])), (500, (0, [(19, 1)]), (0, [(19, 1)])), (563, (1603, [(8, 1600)]), (0, [(13, 1)])), (564, (1603, [(8, 1600)]), (0, [(14, 1)])), (565, (1605, [(8, 1600)]), (0, [(15, 1)])), (566, (1600, [(8, 1600)]), (0, [(16, 1)]))], [(0, 240), (0, 240), (1, 58)], [(0, [(3, 1), (8, (-1))]), (0, [(2, (-1)), (8, 1)]), (1, [(2, (-1)), (8, 1)]), (1, [(9, (-1))]), ((-109), [(9, 1)]), (109, [(9, (-1))]), ((-5), [(5, 1)]), (1, [(8, 1), (18, (-1))]), (0, [(18, 1), (19, (-1))]), (0, [(2, (-1)), (19, 1)]), (1, [(2, (-1)), (19, 1)]), (1, [(7, 1), (19, 1)]), ((-1), [(7, (-1)), (19, (-1))])], [])
noncomputable def rFTc_15 : sX := (none, [(531, (16, [(8, 16)]), (0, [(18, 1)])), (500, (0, [(18, 1)]), (0, [(19, 1)])), (501, (0, [(19, 1)]), (0, [(20, 1)])), (500, (0, [(19, 1)]), (0, [(19, 1)])), (563, (1603, [(8, 1600)]), (0, [(13, 1)])), (564, (1603, [(8, 1600)]), (0, [(14, 1)])), (565, (1605, [(8, 1600)]), (0, [(15, 1)])), (566, (1600, [(8, 1600)]), (0, [(16, 1)]))], [(0, 240), (0, 240), (60, 255)], [(0, [(3, 1), (8, (-1))]), (0, [(2, (-1)), (8, 1)]), (1, [(2, (-1)), (8, 1)]), (1, [(9, (-1))]), ((-109), [(9, 1)]), (109, [(9, (-1))]), ((-5), [(5, 1)]), (1, [(8, 1), (18, (-1))]), (0, [(18, 1), (19, (-1))]), (0, [(2, (-1)), (19, 1)]), (1, [(2, (-1)), (19, 1)]), (1, [(7, 1), (19, 1)]), ((-1), [(7, (-1)), (19, (-1))])], [])
noncomputable def rFTc : sQ := (0, ([], [(2, 1000, (0, [])), (2, 1020, (0, [])), (2, 41, (1, [])), (2, 41, (2, [])), (2, 46, (5, [])), (2, 46, (4, [])), (2, 532, (0, [(3, 14), (4, 7), (5, 1)])), (2, 533, (0, [])), (2, 500, (0, [(3, 1)])), (2, 501, (0, [(8, 1)])), (2, 539, (0, [])), (2, 539, (1, [])), (2, 539, (2, [])), (2, 538, (0, [(5, 4)])), (2, 538, (1, [(5, 4)])), (2, 538, (2, [(5, 4)])), (2, 538, (3, [(5, 4)])), (2, 540, (0, []))], [(1, 1), (1, 1), (0, 240), (0, 240), (0, 1), (0, 6), (1, 1), ((-241), 240), (0, 240), (0, 255), (0, 99), (0, 99), (0, 99), (0, 99), (0, 99), (0, 99), (0, 99), (0, 6)], [(0, [(2, (-1)), (3, 1)])], [(0, 0), (1, 1), (2, 2), (3, 3), (4, 4), (5, 5), (6, 6), (7, 7), (8, 8), (9, 9), (10, 10), (11, 11), (12, 12), (13, 13), (14, 14), (15, 15), (16, 16), (17, 17)], (0, [])), [rFTc_0, rFTc_1, rFTc_2, rFTc_3, rFTc_4, rFTc_5, rFTc_6, rFTc_7, rFTc_8, rFTc_9, rFTc_10, rFTc_11, rFTc_12, rFTc_13, rFTc_14, rFTc_15], [], 0)
set_option maxHeartbeats 8000000 in
theorem rFTc_ok : pRul pReg pG pgv (rFTc) := by
  intro loc h ρ ρ0 hG hM
  have hM : sMt pReg pgv ρ ρ0 (sAs (rFTc).2.1) loc [] h := hM
  have q0 : ρ0 1 = ρ 0 := (hM.2.2.2.2.2 (1, sY 0) (List.mem_of_getElem? (i := 1) rfl)).trans (sY_v ρ 0)
  have q1 : ρ0 2 = ρ 1 := (hM.2.2.2.2.2 (2, sY 1) (List.mem_of_getElem? (i := 2) rfl)).trans (sY_v ρ 1)
  have q2 : ρ0 3 = ρ 2 := (hM.2.2.2.2.2 (3, sY 2) (List.mem_of_getElem? (i := 3) rfl)).trans (sY_v ρ 2)
  have q3 : ρ0 4 = ρ 3 := (hM.2.2.2.2.2 (4, sY 3) (List.mem_of_getElem? (i := 4) rfl)).trans (sY_v ρ 3)
  have q4 : ρ0 5 = ρ 4 := (hM.2.2.2.2.2 (5, sY 4) (List.mem_of_getElem? (i := 5) rfl)).trans (sY_v ρ 4)
  have q5 : ρ0 6 = ρ 5 := (hM.2.2.2.2.2 (6, sY 5) (List.mem_of_getElem? (i := 6) rfl)).trans (sY_v ρ 5)
  have q6 : ρ0 7 = ρ 6 := (hM.2.2.2.2.2 (7, sY 6) (List.mem_of_getElem? (i := 7) rfl)).trans (sY_v ρ 6)
  have q7 : ρ0 8 = ρ 7 := (hM.2.2.2.2.2 (8, sY 7) (List.mem_of_getElem? (i := 8) rfl)).trans (sY_v ρ 7)
  have q8 : ρ0 9 = ρ 8 := (hM.2.2.2.2.2 (9, sY 8) (List.mem_of_getElem? (i := 9) rfl)).trans (sY_v ρ 8)
  have q9 : ρ0 10 = ρ 9 := (hM.2.2.2.2.2 (10, sY 9) (List.mem_of_getElem? (i := 10) rfl)).trans (sY_v ρ 9)
  have q10 : ρ0 11 = ρ 10 := (hM.2.2.2.2.2 (11, sY 10) (List.mem_of_getElem? (i := 11) rfl)).trans (sY_v ρ 10)
  have q11 : ρ0 12 = ρ 11 := (hM.2.2.2.2.2 (12, sY 11) (List.mem_of_getElem? (i := 12) rfl)).trans (sY_v ρ 11)
  have q12 : ρ0 13 = ρ 12 := (hM.2.2.2.2.2 (13, sY 12) (List.mem_of_getElem? (i := 13) rfl)).trans (sY_v ρ 12)
  have q13 : ρ0 14 = ρ 13 := (hM.2.2.2.2.2 (14, sY 13) (List.mem_of_getElem? (i := 14) rfl)).trans (sY_v ρ 13)
  have q14 : ρ0 15 = ρ 14 := (hM.2.2.2.2.2 (15, sY 14) (List.mem_of_getElem? (i := 15) rfl)).trans (sY_v ρ 14)
  have q15 : ρ0 16 = ρ 15 := (hM.2.2.2.2.2 (16, sY 15) (List.mem_of_getElem? (i := 16) rfl)).trans (sY_v ρ 15)
  have q16 : ρ0 17 = ρ 16 := (hM.2.2.2.2.2 (17, sY 16) (List.mem_of_getElem? (i := 17) rfl)).trans (sY_v ρ 16)
  have q17 : ρ0 18 = ρ 17 := (hM.2.2.2.2.2 (18, sY 17) (List.mem_of_getElem? (i := 18) rfl)).trans (sY_v ρ 17)
  have hL : ∀ j, j < 18 → pL [ρ 0, ρ 1, ρ 2, ρ 3, ρ 4, ρ 5, ρ 6, ρ 7, ρ 8, ρ 9, ρ 10, ρ 11, ρ 12, ρ 13, ρ 14, ρ 15, ρ 16, ρ 17] j = ρ0 (j + 1) := by
    intro j hj
    match j, hj with
    | 0, _ => exact q0.symm
    | 1, _ => exact q1.symm
    | 2, _ => exact q2.symm
    | 3, _ => exact q3.symm
    | 4, _ => exact q4.symm
    | 5, _ => exact q5.symm
    | 6, _ => exact q6.symm
    | 7, _ => exact q7.symm
    | 8, _ => exact q8.symm
    | 9, _ => exact q9.symm
    | 10, _ => exact q10.symm
    | 11, _ => exact q11.symm
    | 12, _ => exact q12.symm
    | 13, _ => exact q13.symm
    | 14, _ => exact q14.symm
    | 15, _ => exact q15.symm
    | 16, _ => exact q16.symm
    | 17, _ => exact q17.symm
    | k + 18, hj => omega
  have b0 : (1 : Int) ≤ ρ 0 ∧ ρ 0 ≤ 1 := hM.2.2.2.1 0 (1, 1) rfl
  have b1 : (1 : Int) ≤ ρ 1 ∧ ρ 1 ≤ 1 := hM.2.2.2.1 1 (1, 1) rfl
  have b2 : (0 : Int) ≤ ρ 2 ∧ ρ 2 ≤ 240 := hM.2.2.2.1 2 (0, 240) rfl
  have b3 : (0 : Int) ≤ ρ 3 ∧ ρ 3 ≤ 240 := hM.2.2.2.1 3 (0, 240) rfl
  have b4 : (0 : Int) ≤ ρ 4 ∧ ρ 4 ≤ 1 := hM.2.2.2.1 4 (0, 1) rfl
  have b5 : (0 : Int) ≤ ρ 5 ∧ ρ 5 ≤ 6 := hM.2.2.2.1 5 (0, 6) rfl
  have b6 : (1 : Int) ≤ ρ 6 ∧ ρ 6 ≤ 1 := hM.2.2.2.1 6 (1, 1) rfl
  have b7 : ((-241) : Int) ≤ ρ 7 ∧ ρ 7 ≤ 240 := hM.2.2.2.1 7 ((-241), 240) rfl
  have b8 : (0 : Int) ≤ ρ 8 ∧ ρ 8 ≤ 240 := hM.2.2.2.1 8 (0, 240) rfl
  have b9 : (0 : Int) ≤ ρ 9 ∧ ρ 9 ≤ 255 := hM.2.2.2.1 9 (0, 255) rfl
  have b10 : (0 : Int) ≤ ρ 10 ∧ ρ 10 ≤ 99 := hM.2.2.2.1 10 (0, 99) rfl
  have b11 : (0 : Int) ≤ ρ 11 ∧ ρ 11 ≤ 99 := hM.2.2.2.1 11 (0, 99) rfl
  have b12 : (0 : Int) ≤ ρ 12 ∧ ρ 12 ≤ 99 := hM.2.2.2.1 12 (0, 99) rfl
  have b13 : (0 : Int) ≤ ρ 13 ∧ ρ 13 ≤ 99 := hM.2.2.2.1 13 (0, 99) rfl
  have b14 : (0 : Int) ≤ ρ 14 ∧ ρ 14 ≤ 99 := hM.2.2.2.1 14 (0, 99) rfl
  have b15 : (0 : Int) ≤ ρ 15 ∧ ρ 15 ≤ 99 := hM.2.2.2.1 15 (0, 99) rfl
  have b16 : (0 : Int) ≤ ρ 16 ∧ ρ 16 ≤ 99 := hM.2.2.2.1 16 (0, 99) rfl
  have b17 : (0 : Int) ≤ ρ 17 ∧ ρ 17 ≤ 6 := hM.2.2.2.1 17 (0, 6) rfl
  have c0 : (0 + ((-1) * ρ 2 + (1 * ρ 3 + 0)) : Int) ≤ 0 := hM.2.2.2.2.1 (0, [(2, (-1)), (3, 1)]) (List.mem_of_getElem? (i := 0) rfl)
  obtain ⟨ho, hs, hh⟩ := pTold0 hM 0 (0, []) rfl b0.1
  have hn := ho.1
  obtain ⟨-, -, hf⟩ := pTold20 hM 1 (0, []) rfl b1.1
  have en : ρ 2 = (wN h : Int) := (pPl hM 2 41 (1, []) rfl (by omega) 353 1 (by decide +kernel) rfl).symm.trans hs.1
  obtain ⟨p, ep⟩ : ∃ p : Nat, ρ 3 = (p : Int) := ⟨(ρ 3).toNat, by omega⟩
  have hp : p ≤ wN h := by omega
  obtain ⟨s1, s2⟩ := wSk_le (B := wB h) hp
  obtain ⟨hr, ehr⟩ : ∃ hr : Nat, ρ 4 = (hr : Int) := ⟨(ρ 4).toNat, by omega⟩
  obtain ⟨m, em⟩ : ∃ m : Nat, ρ 5 = (m : Int) := ⟨(ρ 5).toNat, by omega⟩
  have eq : ρ 8 = ((wSk (wN h) (wB h) (p)) : Int) := pfS hM ho hh 8 (0, [(3, 1)]) rfl (p := p) (by omega) (by show (0 + (1 * ρ 3 + 0) : Int) = _; omega)
  have ec : ρ 9 = (wCh (wN h) (wB h) ((wSk (wN h) (wB h) (p)))) := pfC hM ho hh 9 (0, [(8, 1)]) rfl (p := (wSk (wN h) (wB h) (p))) (by omega) (by show (0 + (1 * ρ 8 + 0) : Int) = _; omega)
  have cbc := wCh_bd ho ((wSk (wN h) (wB h) (p)))
  have clc : (wCh (wN h) (wB h) ((wSk (wN h) (wB h) (p)))) ≠ 0 → (wSk (wN h) (wB h) (p)) < wN h := wCh_lt
  have eo : ρ 6 = yB (fOn (wN h) (wB h) hr m p) := (pfF hM hf 6 532 (0, [(3, 14), (4, 7), (5, 1)]) rfl (by decide) (by decide) (14 * p + 7 * hr + m) (by omega) (by show (0 + (14 * ρ 3 + (7 * ρ 4 + (1 * ρ 5 + 0))) : Int) = _; omega)).trans (fA_ON (by omega) (by omega))
  have hon : fOn (wN h) (wB h) hr m p := yB_p eo.symm b6.1
  have er : ρ 7 = (fW (wN h) (wB h) 0 0 0).1 := (pfF hM hf 7 533 (0, []) rfl (by decide) (by decide) (0) (by omega) (by show (0 + 0 : Int) = _; omega)).trans (fA_FT hn)
  have eR0 : ρ 10 = fRV (wN h) (wB h) 0 := (pfF hM hf 10 539 (0, []) rfl (by decide) (by decide) (0) (by omega) (by show (0 + 0 : Int) = _; omega)).trans (fA_RV (k := 0) (by decide))
  have eR1 : ρ 11 = fRV (wN h) (wB h) 1 := (pfF hM hf 11 539 (1, []) rfl (by decide) (by decide) (1) (by omega) (by show (1 + 0 : Int) = _; omega)).trans (fA_RV (k := 1) (by decide))
  have eR2 : ρ 12 = fRV (wN h) (wB h) 2 := (pfF hM hf 12 539 (2, []) rfl (by decide) (by decide) (2) (by omega) (by show (2 + 0 : Int) = _; omega)).trans (fA_RV (k := 2) (by decide))
  have eV0 : ρ 13 = fMV (wN h) (wB h) m 0 := (pfF hM hf 13 538 (0, [(5, 4)]) rfl (by decide) (by decide) (4 * m + 0) (by omega) (by show (0 + (4 * ρ 5 + 0) : Int) = _; omega)).trans (fA_MV (i := m) (k := 0) (by omega) (by decide))
  have eV1 : ρ 14 = fMV (wN h) (wB h) m 1 := (pfF hM hf 14 538 (1, [(5, 4)]) rfl (by decide) (by decide) (4 * m + 1) (by omega) (by show (1 + (4 * ρ 5 + 0) : Int) = _; omega)).trans (fA_MV (i := m) (k := 1) (by omega) (by decide))
  have eV2 : ρ 15 = fMV (wN h) (wB h) m 2 := (pfF hM hf 15 538 (2, [(5, 4)]) rfl (by decide) (by decide) (4 * m + 2) (by omega) (by show (2 + (4 * ρ 5 + 0) : Int) = _; omega)).trans (fA_MV (i := m) (k := 2) (by omega) (by decide))
  have eV3 : ρ 16 = fMV (wN h) (wB h) m 3 := (pfF hM hf 16 538 (3, [(5, 4)]) rfl (by decide) (by decide) (4 * m + 3) (by omega) (by show (3 + (4 * ρ 5 + 0) : Int) = _; omega)).trans (fA_MV (i := m) (k := 3) (by omega) (by decide))
  have efm : ρ 17 = ((fW (wN h) (wB h) 0 0 0).2.1 : Int) := (pfF hM hf 17 540 (0, []) rfl (by decide) (by decide) (0) (by omega) (by show (0 + 0 : Int) = _; omega)).trans (fA_FM)
  have hz : ∀ x, x < wN h → wCh (wN h) (wB h) x ≠ 0 := fun x hx => by have := (wCh_bd ho x).2.2 hx; omega
  rcases fFt_cs hr m p hp (by omega) (by omega) hz hon with ⟨x1, x2, x3⟩ | ⟨x1, x2, hq, x3⟩ | ⟨x1, x2, x0, hq, x3⟩
  · rw [x3] at er
    unfold wFl at er
    have hu : (wCh (wN h) (wB h) ((wSk (wN h) (wB h) (p)))) ≤ 108 ∨ (110 ≤ (wCh (wN h) (wB h) ((wSk (wN h) (wB h) (p)))) ∧ (wCh (wN h) (wB h) ((wSk (wN h) (wB h) (p)))) ≤ 114) ∨ 116 ≤ (wCh (wN h) (wB h) ((wSk (wN h) (wB h) (p)))) ∨ ((wCh (wN h) (wB h) ((wSk (wN h) (wB h) (p)))) = 115 ∧ hr = 1) ∨ ((wCh (wN h) (wB h) ((wSk (wN h) (wB h) (p)))) = 109 ∧ m = 6) := by omega
    rcases hu with hu | hu | hu | hu | hu
    · refine ⟨rFTc_0, List.mem_of_getElem? (i := 0) rfl, pEnd [ρ 0, ρ 1, ρ 2, ρ 3, ρ 4, ρ 5, ρ 6, ρ 7, ρ 8, ρ 9, ρ 10, ρ 11, ρ 12, ρ 13, ρ 14, ρ 15, ρ 16, ρ 17] rfl ?_ ?_ ?_ ?_⟩
      · exact hL
      · intro k b hk
        cases hk
      · exact pAll1 (show (0 + (1 * ρ 3 + ((-1) * ρ 8 + 0)) : Int) ≤ 0 by omega) (pAll1 (show (0 + ((-1) * ρ 2 + (1 * ρ 8 + 0)) : Int) ≤ 0 by omega) (pAll1 (show ((-108) + (1 * ρ 9 + 0) : Int) ≤ 0 by omega) (pAll1 (show (1 + (1 * ρ 7 + (1 * ρ 8 + 0)) : Int) ≤ 0 by omega) (pAll1 (show ((-1) + ((-1) * ρ 7 + ((-1) * ρ 8 + 0)) : Int) ≤ 0 by omega) (pAll0)))))
      · exact pAll0
    · refine ⟨rFTc_1, List.mem_of_getElem? (i := 1) rfl, pEnd [ρ 0, ρ 1, ρ 2, ρ 3, ρ 4, ρ 5, ρ 6, ρ 7, ρ 8, ρ 9, ρ 10, ρ 11, ρ 12, ρ 13, ρ 14, ρ 15, ρ 16, ρ 17] rfl ?_ ?_ ?_ ?_⟩
      · exact hL
      · intro k b hk
        cases hk
      · exact pAll1 (show (0 + (1 * ρ 3 + ((-1) * ρ 8 + 0)) : Int) ≤ 0 by omega) (pAll1 (show (0 + ((-1) * ρ 2 + (1 * ρ 8 + 0)) : Int) ≤ 0 by omega) (pAll1 (show (110 + ((-1) * ρ 9 + 0) : Int) ≤ 0 by omega) (pAll1 (show ((-114) + (1 * ρ 9 + 0) : Int) ≤ 0 by omega) (pAll1 (show (1 + (1 * ρ 7 + (1 * ρ 8 + 0)) : Int) ≤ 0 by omega) (pAll1 (show ((-1) + ((-1) * ρ 7 + ((-1) * ρ 8 + 0)) : Int) ≤ 0 by omega) (pAll0))))))
      · exact pAll0
    · refine ⟨rFTc_2, List.mem_of_getElem? (i := 2) rfl, pEnd [ρ 0, ρ 1, ρ 2, ρ 3, ρ 4, ρ 5, ρ 6, ρ 7, ρ 8, ρ 9, ρ 10, ρ 11, ρ 12, ρ 13, ρ 14, ρ 15, ρ 16, ρ 17] rfl ?_ ?_ ?_ ?_⟩
      · exact hL
      · intro k b hk
        cases hk
      · exact pAll1 (show (0 + (1 * ρ 3 + ((-1) * ρ 8 + 0)) : Int) ≤ 0 by omega) (pAll1 (show (0 + ((-1) * ρ 2 + (1 * ρ 8 + 0)) : Int) ≤ 0 by omega) (pAll1 (show (116 + ((-1) * ρ 9 + 0) : Int) ≤ 0 by omega) (pAll1 (show (1 + (1 * ρ 7 + (1 * ρ 8 + 0)) : Int) ≤ 0 by omega) (pAll1 (show ((-1) + ((-1) * ρ 7 + ((-1) * ρ 8 + 0)) : Int) ≤ 0 by omega) (pAll0)))))
      · exact pAll0
    · refine ⟨rFTc_3, List.mem_of_getElem? (i := 3) rfl, pEnd [ρ 0, ρ 1, ρ 2, ρ 3, ρ 4, ρ 5, ρ 6, ρ 7, ρ 8, ρ 9, ρ 10, ρ 11, ρ 12, ρ 13, ρ 14, ρ 15, ρ 16, ρ 17] rfl ?_ ?_ ?_ ?_⟩
      · exact hL
      · intro k b hk
        cases hk
      · exact pAll1 (show (0 + (1 * ρ 3 + ((-1) * ρ 8 + 0)) : Int) ≤ 0 by omega) (pAll1 (show (0 + ((-1) * ρ 2 + (1 * ρ 8 + 0)) : Int) ≤ 0 by omega) (pAll1 (show ((-115) + (1 * ρ 9 + 0) : Int) ≤ 0 by omega) (pAll1 (show (115 + ((-1) * ρ 9 + 0) : Int) ≤ 0 by omega) (pAll1 (show ((-1) + (1 * ρ 4 + 0) : Int) ≤ 0 by omega) (pAll1 (show (1 + ((-1) * ρ 4 + 0) : Int) ≤ 0 by omega) (pAll1 (show (1 + (1 * ρ 7 + (1 * ρ 8 + 0)) : Int) ≤ 0 by omega) (pAll1 (show ((-1) + ((-1) * ρ 7 + ((-1) * ρ 8 + 0)) : Int) ≤ 0 by omega) (pAll0))))))))
      · exact pAll0
    · refine ⟨rFTc_4, List.mem_of_getElem? (i := 4) rfl, pEnd [ρ 0, ρ 1, ρ 2, ρ 3, ρ 4, ρ 5, ρ 6, ρ 7, ρ 8, ρ 9, ρ 10, ρ 11, ρ 12, ρ 13, ρ 14, ρ 15, ρ 16, ρ 17] rfl ?_ ?_ ?_ ?_⟩
      · exact hL
      · intro k b hk
        cases hk
      · exact pAll1 (show (0 + (1 * ρ 3 + ((-1) * ρ 8 + 0)) : Int) ≤ 0 by omega) (pAll1 (show (0 + ((-1) * ρ 2 + (1 * ρ 8 + 0)) : Int) ≤ 0 by omega) (pAll1 (show ((-109) + (1 * ρ 9 + 0) : Int) ≤ 0 by omega) (pAll1 (show (109 + ((-1) * ρ 9 + 0) : Int) ≤ 0 by omega) (pAll1 (show ((-6) + (1 * ρ 5 + 0) : Int) ≤ 0 by omega) (pAll1 (show (6 + ((-1) * ρ 5 + 0) : Int) ≤ 0 by omega) (pAll1 (show (1 + (1 * ρ 7 + (1 * ρ 8 + 0)) : Int) ≤ 0 by omega) (pAll1 (show ((-1) + ((-1) * ρ 7 + ((-1) * ρ 8 + 0)) : Int) ≤ 0 by omega) (pAll0))))))))
      · exact pAll0
  · rcases x3 with ⟨a1, a2⟩ | ⟨a, a1, a2, a3, a4, a5⟩
    · have gd := (fI_gd (n := wN h) (B := wB h) 0 0 ((wSk (wN h) (wB h) (p)) + 1) (by omega)).1 a1
      rw [a2] at er
      refine ⟨rFTc_5, List.mem_of_getElem? (i := 5) rfl, pEnd [ρ 0, ρ 1, ρ 2, ρ 3, ρ 4, ρ 5, ρ 6, ρ 7, ρ 8, ρ 9, ρ 10, ρ 11, ρ 12, ρ 13, ρ 14, ρ 15, ρ 16, ρ 17, (fI (wN h) (wB h) 0 (0) ((wSk (wN h) (wB h) (p)) + 1))] rfl ?_ ?_ ?_ ?_⟩
      · intro j hj
        match j, hj with
        | 0, _ => exact q0.symm
        | 1, _ => exact q1.symm
        | 2, _ => exact q2.symm
        | 3, _ => exact q3.symm
        | 4, _ => exact q4.symm
        | 5, _ => exact q5.symm
        | 6, _ => exact q6.symm
        | 7, _ => exact q7.symm
        | 8, _ => exact q8.symm
        | 9, _ => exact q9.symm
        | 10, _ => exact q10.symm
        | 11, _ => exact q11.symm
        | 12, _ => exact q12.symm
        | 13, _ => exact q13.symm
        | 14, _ => exact q14.symm
        | 15, _ => exact q15.symm
        | 16, _ => exact q16.symm
        | 17, _ => exact q17.symm
        | k + 18, hj => exact absurd hj (by show ¬ (k + 18 < 18); omega)
      · intro k b hk
        match k, hk with
        | 0, hk => cases hk; exact (show ((-241) : Int) ≤ (fI (wN h) (wB h) 0 (0) ((wSk (wN h) (wB h) (p)) + 1)) ∧ (fI (wN h) (wB h) 0 (0) ((wSk (wN h) (wB h) (p)) + 1)) ≤ ((-1) : Int) by omega)
        | k + 1, hk => cases hk
      · exact pAll1 (show (0 + (1 * ρ 3 + ((-1) * ρ 8 + 0)) : Int) ≤ 0 by omega) (pAll1 (show (0 + ((-1) * ρ 2 + (1 * ρ 8 + 0)) : Int) ≤ 0 by omega) (pAll1 (show (1 + ((-1) * ρ 2 + (1 * ρ 8 + 0)) : Int) ≤ 0 by omega) (pAll1 (show (1 + ((-1) * ρ 9 + 0) : Int) ≤ 0 by omega) (pAll1 (show ((-115) + (1 * ρ 9 + 0) : Int) ≤ 0 by omega) (pAll1 (show (115 + ((-1) * ρ 9 + 0) : Int) ≤ 0 by omega) (pAll1 (show (0 + (1 * ρ 4 + 0) : Int) ≤ 0 by omega) (pAll1 (show (0 + ((-1) * ρ 4 + 0) : Int) ≤ 0 by omega) (pAll1 (show (0 + (1 * ρ 7 + ((-1) * (fI (wN h) (wB h) 0 (0) ((wSk (wN h) (wB h) (p)) + 1)) + 0)) : Int) ≤ 0 by omega) (pAll1 (show (0 + ((-1) * ρ 7 + (1 * (fI (wN h) (wB h) 0 (0) ((wSk (wN h) (wB h) (p)) + 1)) + 0)) : Int) ≤ 0 by omega) (pAll0))))))))))
      · exact pAll1 (pgF hf 530 (by decide) (by decide) (16 * ((wSk (wN h) (wB h) (p)) + 1) + 0) (by omega) (show (16 + (16 * ρ 8 + 0) : Int) = _ by omega) (show (0 + (1 * (fI (wN h) (wB h) 0 (0) ((wSk (wN h) (wB h) (p)) + 1)) + 0) : Int) = _ by rw [fA_IT0 (g := 0) (p := (wSk (wN h) (wB h) (p)) + 1) (by decide) (by omega) hn]; omega)) (pAll0)
    · obtain ⟨t1, t2⟩ := wSk_le (B := wB h) a3
      have cs := wCh_bd ho (wSk (wN h) (wB h) (a))
      have hi := wSk_id (B := wB h) a3
      have y0 : (fV (wN h) (wB h) 0 0 (0) ((wSk (wN h) (wB h) (p)) + 1) ((8 : Nat) : Int)) = fRV (wN h) (wB h) 0 := a4 0
      have y1 : (fV (wN h) (wB h) 0 1 (0) ((wSk (wN h) (wB h) (p)) + 1) ((7 : Nat) : Int)) = fRV (wN h) (wB h) 1 := a4 1
      have y2 : (fV (wN h) (wB h) 0 2 (0) ((wSk (wN h) (wB h) (p)) + 1) ((20 : Nat) : Int)) = fRV (wN h) (wB h) 2 := a4 2
      rcases a5 with ⟨f1, f2, f3⟩ | ⟨f1, f2, f3, f4⟩ | ⟨f1, f2, f3, f4⟩
      · refine ⟨rFTc_6, List.mem_of_getElem? (i := 6) rfl, pEnd [ρ 0, ρ 1, ρ 2, ρ 3, ρ 4, ρ 5, ρ 6, ρ 7, ρ 8, ρ 9, ρ 10, ρ 11, ρ 12, ρ 13, ρ 14, ρ 15, ρ 16, ρ 17, (a : Int), ((wSk (wN h) (wB h) (a)) : Int), (wCh (wN h) (wB h) ((wSk (wN h) (wB h) (a))))] rfl ?_ ?_ ?_ ?_⟩
        · intro j hj
          match j, hj with
          | 0, _ => exact q0.symm
          | 1, _ => exact q1.symm
          | 2, _ => exact q2.symm
          | 3, _ => exact q3.symm
          | 4, _ => exact q4.symm
          | 5, _ => exact q5.symm
          | 6, _ => exact q6.symm
          | 7, _ => exact q7.symm
          | 8, _ => exact q8.symm
          | 9, _ => exact q9.symm
          | 10, _ => exact q10.symm
          | 11, _ => exact q11.symm
          | 12, _ => exact q12.symm
          | 13, _ => exact q13.symm
          | 14, _ => exact q14.symm
          | 15, _ => exact q15.symm
          | 16, _ => exact q16.symm
          | 17, _ => exact q17.symm
          | k + 18, hj => exact absurd hj (by show ¬ (k + 18 < 18); omega)
        · intro k b hk
          match k, hk with
          | 0, hk => cases hk; exact (show (0 : Int) ≤ (a : Int) ∧ (a : Int) ≤ (240 : Int) by omega)
          | 1, hk => cases hk; exact (show (0 : Int) ≤ ((wSk (wN h) (wB h) (a)) : Int) ∧ ((wSk (wN h) (wB h) (a)) : Int) ≤ (240 : Int) by omega)
          | 2, hk => cases hk; exact (show (59 : Int) ≤ (wCh (wN h) (wB h) ((wSk (wN h) (wB h) (a)))) ∧ (wCh (wN h) (wB h) ((wSk (wN h) (wB h) (a)))) ≤ (59 : Int) by omega)
          | k + 3, hk => cases hk
        · exact pAll1 (show (0 + (1 * ρ 3 + ((-1) * ρ 8 + 0)) : Int) ≤ 0 by omega) (pAll1 (show (0 + ((-1) * ρ 2 + (1 * ρ 8 + 0)) : Int) ≤ 0 by omega) (pAll1 (show (1 + ((-1) * ρ 2 + (1 * ρ 8 + 0)) : Int) ≤ 0 by omega) (pAll1 (show (1 + ((-1) * ρ 9 + 0) : Int) ≤ 0 by omega) (pAll1 (show ((-115) + (1 * ρ 9 + 0) : Int) ≤ 0 by omega) (pAll1 (show (115 + ((-1) * ρ 9 + 0) : Int) ≤ 0 by omega) (pAll1 (show (0 + (1 * ρ 4 + 0) : Int) ≤ 0 by omega) (pAll1 (show (0 + ((-1) * ρ 4 + 0) : Int) ≤ 0 by omega) (pAll1 (show (1 + (1 * ρ 8 + ((-1) * (a : Int) + 0)) : Int) ≤ 0 by omega) (pAll1 (show (0 + (1 * (a : Int) + ((-1) * ((wSk (wN h) (wB h) (a)) : Int) + 0)) : Int) ≤ 0 by omega) (pAll1 (show (0 + ((-1) * ρ 2 + (1 * ((wSk (wN h) (wB h) (a)) : Int) + 0)) : Int) ≤ 0 by omega) (pAll1 (show (1 + ((-1) * ρ 2 + (1 * ((wSk (wN h) (wB h) (a)) : Int) + 0)) : Int) ≤ 0 by omega) (pAll0))))))))))))
        · exact pAll1 (pgF hf 530 (by decide) (by decide) (16 * ((wSk (wN h) (wB h) (p)) + 1) + 0) (by omega) (show (16 + (16 * ρ 8 + 0) : Int) = _ by omega) (show (0 + (1 * (a : Int) + 0) : Int) = _ by rw [fA_IT0 (g := 0) (p := (wSk (wN h) (wB h) (p)) + 1) (by decide) (by omega) hn]; omega)) (pAll1 (pgS ho hh (a) (by omega) (show (0 + (1 * (a : Int) + 0) : Int) = _ by omega) (show (0 + (1 * ((wSk (wN h) (wB h) (a)) : Int) + 0) : Int) = _ by omega)) (pAll1 (pgC ho hh ((wSk (wN h) (wB h) (a))) (by omega) (show (0 + (1 * ((wSk (wN h) (wB h) (a)) : Int) + 0) : Int) = _ by omega) (show (0 + (1 * (wCh (wN h) (wB h) ((wSk (wN h) (wB h) (a)))) + 0) : Int) = _ by omega)) (pAll1 (pgS ho hh ((wSk (wN h) (wB h) (a))) (by omega) (show (0 + (1 * ((wSk (wN h) (wB h) (a)) : Int) + 0) : Int) = _ by omega) (show (0 + (1 * ((wSk (wN h) (wB h) (a)) : Int) + 0) : Int) = _ by omega)) (pAll1 (pgF hf 560 (by decide) (by decide) (1600 * ((wSk (wN h) (wB h) (p)) + 1) + 100 * 0 + 8) (by omega) (show (1608 + (1600 * ρ 8 + 0) : Int) = _ by omega) (show (0 + (1 * ρ 10 + 0) : Int) = _ by rw [fA_I (s := 0) (j := 0) (r := 560) (g := 0) (v := 8) (Or.inl ⟨rfl, rfl, by decide⟩) (by decide) (by omega) (by decide), y0]; omega)) (pAll1 (pgF hf 561 (by decide) (by decide) (1600 * ((wSk (wN h) (wB h) (p)) + 1) + 100 * 0 + 7) (by omega) (show (1607 + (1600 * ρ 8 + 0) : Int) = _ by omega) (show (0 + (1 * ρ 11 + 0) : Int) = _ by rw [fA_I (s := 0) (j := 1) (r := 561) (g := 0) (v := 7) (Or.inl ⟨rfl, rfl, by decide⟩) (by decide) (by omega) (by decide), y1]; omega)) (pAll1 (pgF hf 562 (by decide) (by decide) (1600 * ((wSk (wN h) (wB h) (p)) + 1) + 100 * 0 + 20) (by omega) (show (1620 + (1600 * ρ 8 + 0) : Int) = _ by omega) (show (0 + (1 * ρ 12 + 0) : Int) = _ by rw [fA_I (s := 0) (j := 2) (r := 562) (g := 0) (v := 20) (Or.inl ⟨rfl, rfl, by decide⟩) (by decide) (by omega) (by decide), y2]; omega)) (pAll1 (pgF hf 532 (by decide) (by decide) (14 * ((wSk (wN h) (wB h) (a)) + 1) + 7 * 1 + m) (by omega) (show (21 + (1 * ρ 5 + (14 * ((wSk (wN h) (wB h) (a)) : Int) + 0)) : Int) = _ by omega) (show (1 + 0 : Int) = _ by rw [fA_ON (by omega) (by omega), yB_1.mpr f3]; omega)) (pAll0))))))))
      · rw [f3] at er
        rw [f4] at efm
        refine ⟨rFTc_7, List.mem_of_getElem? (i := 7) rfl, pEnd [ρ 0, ρ 1, ρ 2, ρ 3, ρ 4, ρ 5, ρ 6, ρ 7, ρ 8, ρ 9, ρ 10, ρ 11, ρ 12, ρ 13, ρ 14, ρ 15, ρ 16, ρ 17, (a : Int), ((wSk (wN h) (wB h) (a)) : Int), (wCh (wN h) (wB h) ((wSk (wN h) (wB h) (a))))] rfl ?_ ?_ ?_ ?_⟩
        · intro j hj
          match j, hj with
          | 0, _ => exact q0.symm
          | 1, _ => exact q1.symm
          | 2, _ => exact q2.symm
          | 3, _ => exact q3.symm
          | 4, _ => exact q4.symm
          | 5, _ => exact q5.symm
          | 6, _ => exact q6.symm
          | 7, _ => exact q7.symm
          | 8, _ => exact q8.symm
          | 9, _ => exact q9.symm
          | 10, _ => exact q10.symm
          | 11, _ => exact q11.symm
          | 12, _ => exact q12.symm
          | 13, _ => exact q13.symm
          | 14, _ => exact q14.symm
          | 15, _ => exact q15.symm
          | 16, _ => exact q16.symm
          | 17, _ => exact q17.symm
          | k + 18, hj => exact absurd hj (by show ¬ (k + 18 < 18); omega)
        · intro k b hk
          match k, hk with
          | 0, hk => cases hk; exact (show (0 : Int) ≤ (a : Int) ∧ (a : Int) ≤ (240 : Int) by omega)
          | 1, hk => cases hk; exact (show (0 : Int) ≤ ((wSk (wN h) (wB h) (a)) : Int) ∧ ((wSk (wN h) (wB h) (a)) : Int) ≤ (240 : Int) by omega)
          | 2, hk => cases hk; exact (show (0 : Int) ≤ (wCh (wN h) (wB h) ((wSk (wN h) (wB h) (a)))) ∧ (wCh (wN h) (wB h) ((wSk (wN h) (wB h) (a)))) ≤ (0 : Int) by omega)
          | k + 3, hk => cases hk
        · exact pAll1 (show (0 + (1 * ρ 3 + ((-1) * ρ 8 + 0)) : Int) ≤ 0 by omega) (pAll1 (show (0 + ((-1) * ρ 2 + (1 * ρ 8 + 0)) : Int) ≤ 0 by omega) (pAll1 (show (1 + ((-1) * ρ 2 + (1 * ρ 8 + 0)) : Int) ≤ 0 by omega) (pAll1 (show (1 + ((-1) * ρ 9 + 0) : Int) ≤ 0 by omega) (pAll1 (show ((-115) + (1 * ρ 9 + 0) : Int) ≤ 0 by omega) (pAll1 (show (115 + ((-1) * ρ 9 + 0) : Int) ≤ 0 by omega) (pAll1 (show (0 + (1 * ρ 4 + 0) : Int) ≤ 0 by omega) (pAll1 (show (0 + ((-1) * ρ 4 + 0) : Int) ≤ 0 by omega) (pAll1 (show (1 + (1 * ρ 8 + ((-1) * (a : Int) + 0)) : Int) ≤ 0 by omega) (pAll1 (show (0 + (1 * (a : Int) + ((-1) * ((wSk (wN h) (wB h) (a)) : Int) + 0)) : Int) ≤ 0 by omega) (pAll1 (show (0 + ((-1) * ρ 2 + (1 * ((wSk (wN h) (wB h) (a)) : Int) + 0)) : Int) ≤ 0 by omega) (pAll1 (show (0 + ((-1) * ρ 2 + (1 * ((wSk (wN h) (wB h) (a)) : Int) + 0)) : Int) ≤ 0 by omega) (pAll1 (show (0 + (1 * ρ 2 + ((-1) * ((wSk (wN h) (wB h) (a)) : Int) + 0)) : Int) ≤ 0 by omega) (pAll1 (show (0 + (1 * ρ 7 + ((-1) * ((wSk (wN h) (wB h) (a)) : Int) + 0)) : Int) ≤ 0 by omega) (pAll1 (show (0 + ((-1) * ρ 7 + (1 * ((wSk (wN h) (wB h) (a)) : Int) + 0)) : Int) ≤ 0 by omega) (pAll1 (show (0 + ((-1) * ρ 5 + (1 * ρ 17 + 0)) : Int) ≤ 0 by omega) (pAll1 (show (0 + (1 * ρ 5 + ((-1) * ρ 17 + 0)) : Int) ≤ 0 by omega) (pAll0)))))))))))))))))
        · exact pAll1 (pgF hf 530 (by decide) (by decide) (16 * ((wSk (wN h) (wB h) (p)) + 1) + 0) (by omega) (show (16 + (16 * ρ 8 + 0) : Int) = _ by omega) (show (0 + (1 * (a : Int) + 0) : Int) = _ by rw [fA_IT0 (g := 0) (p := (wSk (wN h) (wB h) (p)) + 1) (by decide) (by omega) hn]; omega)) (pAll1 (pgS ho hh (a) (by omega) (show (0 + (1 * (a : Int) + 0) : Int) = _ by omega) (show (0 + (1 * ((wSk (wN h) (wB h) (a)) : Int) + 0) : Int) = _ by omega)) (pAll1 (pgC ho hh ((wSk (wN h) (wB h) (a))) (by omega) (show (0 + (1 * ((wSk (wN h) (wB h) (a)) : Int) + 0) : Int) = _ by omega) (show (0 + (1 * (wCh (wN h) (wB h) ((wSk (wN h) (wB h) (a)))) + 0) : Int) = _ by omega)) (pAll1 (pgS ho hh ((wSk (wN h) (wB h) (a))) (by omega) (show (0 + (1 * ((wSk (wN h) (wB h) (a)) : Int) + 0) : Int) = _ by omega) (show (0 + (1 * ((wSk (wN h) (wB h) (a)) : Int) + 0) : Int) = _ by omega)) (pAll1 (pgF hf 560 (by decide) (by decide) (1600 * ((wSk (wN h) (wB h) (p)) + 1) + 100 * 0 + 8) (by omega) (show (1608 + (1600 * ρ 8 + 0) : Int) = _ by omega) (show (0 + (1 * ρ 10 + 0) : Int) = _ by rw [fA_I (s := 0) (j := 0) (r := 560) (g := 0) (v := 8) (Or.inl ⟨rfl, rfl, by decide⟩) (by decide) (by omega) (by decide), y0]; omega)) (pAll1 (pgF hf 561 (by decide) (by decide) (1600 * ((wSk (wN h) (wB h) (p)) + 1) + 100 * 0 + 7) (by omega) (show (1607 + (1600 * ρ 8 + 0) : Int) = _ by omega) (show (0 + (1 * ρ 11 + 0) : Int) = _ by rw [fA_I (s := 0) (j := 1) (r := 561) (g := 0) (v := 7) (Or.inl ⟨rfl, rfl, by decide⟩) (by decide) (by omega) (by decide), y1]; omega)) (pAll1 (pgF hf 562 (by decide) (by decide) (1600 * ((wSk (wN h) (wB h) (p)) + 1) + 100 * 0 + 20) (by omega) (show (1620 + (1600 * ρ 8 + 0) : Int) = _ by omega) (show (0 + (1 * ρ 12 + 0) : Int) = _ by rw [fA_I (s := 0) (j := 2) (r := 562) (g := 0) (v := 20) (Or.inl ⟨rfl, rfl, by decide⟩) (by decide) (by omega) (by decide), y2]; omega)) (pAll0)))))))
      · rw [f4] at er
        unfold wFl at er
        have hu : (wCh (wN h) (wB h) ((wSk (wN h) (wB h) (a)))) ≤ 58 ∨ 60 ≤ (wCh (wN h) (wB h) ((wSk (wN h) (wB h) (a)))) := by omega
        rcases hu with hu | hu
        · refine ⟨rFTc_8, List.mem_of_getElem? (i := 8) rfl, pEnd [ρ 0, ρ 1, ρ 2, ρ 3, ρ 4, ρ 5, ρ 6, ρ 7, ρ 8, ρ 9, ρ 10, ρ 11, ρ 12, ρ 13, ρ 14, ρ 15, ρ 16, ρ 17, (a : Int), ((wSk (wN h) (wB h) (a)) : Int), (wCh (wN h) (wB h) ((wSk (wN h) (wB h) (a))))] rfl ?_ ?_ ?_ ?_⟩
          · intro j hj
            match j, hj with
            | 0, _ => exact q0.symm
            | 1, _ => exact q1.symm
            | 2, _ => exact q2.symm
            | 3, _ => exact q3.symm
            | 4, _ => exact q4.symm
            | 5, _ => exact q5.symm
            | 6, _ => exact q6.symm
            | 7, _ => exact q7.symm
            | 8, _ => exact q8.symm
            | 9, _ => exact q9.symm
            | 10, _ => exact q10.symm
            | 11, _ => exact q11.symm
            | 12, _ => exact q12.symm
            | 13, _ => exact q13.symm
            | 14, _ => exact q14.symm
            | 15, _ => exact q15.symm
            | 16, _ => exact q16.symm
            | 17, _ => exact q17.symm
            | k + 18, hj => exact absurd hj (by show ¬ (k + 18 < 18); omega)
          · intro k b hk
            match k, hk with
            | 0, hk => cases hk; exact (show (0 : Int) ≤ (a : Int) ∧ (a : Int) ≤ (240 : Int) by omega)
            | 1, hk => cases hk; exact (show (0 : Int) ≤ ((wSk (wN h) (wB h) (a)) : Int) ∧ ((wSk (wN h) (wB h) (a)) : Int) ≤ (240 : Int) by omega)
            | 2, hk => cases hk; exact (show (1 : Int) ≤ (wCh (wN h) (wB h) ((wSk (wN h) (wB h) (a)))) ∧ (wCh (wN h) (wB h) ((wSk (wN h) (wB h) (a)))) ≤ (58 : Int) by omega)
            | k + 3, hk => cases hk
          · exact pAll1 (show (0 + (1 * ρ 3 + ((-1) * ρ 8 + 0)) : Int) ≤ 0 by omega) (pAll1 (show (0 + ((-1) * ρ 2 + (1 * ρ 8 + 0)) : Int) ≤ 0 by omega) (pAll1 (show (1 + ((-1) * ρ 2 + (1 * ρ 8 + 0)) : Int) ≤ 0 by omega) (pAll1 (show (1 + ((-1) * ρ 9 + 0) : Int) ≤ 0 by omega) (pAll1 (show ((-115) + (1 * ρ 9 + 0) : Int) ≤ 0 by omega) (pAll1 (show (115 + ((-1) * ρ 9 + 0) : Int) ≤ 0 by omega) (pAll1 (show (0 + (1 * ρ 4 + 0) : Int) ≤ 0 by omega) (pAll1 (show (0 + ((-1) * ρ 4 + 0) : Int) ≤ 0 by omega) (pAll1 (show (1 + (1 * ρ 8 + ((-1) * (a : Int) + 0)) : Int) ≤ 0 by omega) (pAll1 (show (0 + (1 * (a : Int) + ((-1) * ((wSk (wN h) (wB h) (a)) : Int) + 0)) : Int) ≤ 0 by omega) (pAll1 (show (0 + ((-1) * ρ 2 + (1 * ((wSk (wN h) (wB h) (a)) : Int) + 0)) : Int) ≤ 0 by omega) (pAll1 (show (1 + ((-1) * ρ 2 + (1 * ((wSk (wN h) (wB h) (a)) : Int) + 0)) : Int) ≤ 0 by omega) (pAll1 (show (1 + (1 * ρ 7 + (1 * ((wSk (wN h) (wB h) (a)) : Int) + 0)) : Int) ≤ 0 by omega) (pAll1 (show ((-1) + ((-1) * ρ 7 + ((-1) * ((wSk (wN h) (wB h) (a)) : Int) + 0)) : Int) ≤ 0 by omega) (pAll0))))))))))))))
          · exact pAll1 (pgF hf 530 (by decide) (by decide) (16 * ((wSk (wN h) (wB h) (p)) + 1) + 0) (by omega) (show (16 + (16 * ρ 8 + 0) : Int) = _ by omega) (show (0 + (1 * (a : Int) + 0) : Int) = _ by rw [fA_IT0 (g := 0) (p := (wSk (wN h) (wB h) (p)) + 1) (by decide) (by omega) hn]; omega)) (pAll1 (pgS ho hh (a) (by omega) (show (0 + (1 * (a : Int) + 0) : Int) = _ by omega) (show (0 + (1 * ((wSk (wN h) (wB h) (a)) : Int) + 0) : Int) = _ by omega)) (pAll1 (pgC ho hh ((wSk (wN h) (wB h) (a))) (by omega) (show (0 + (1 * ((wSk (wN h) (wB h) (a)) : Int) + 0) : Int) = _ by omega) (show (0 + (1 * (wCh (wN h) (wB h) ((wSk (wN h) (wB h) (a)))) + 0) : Int) = _ by omega)) (pAll1 (pgS ho hh ((wSk (wN h) (wB h) (a))) (by omega) (show (0 + (1 * ((wSk (wN h) (wB h) (a)) : Int) + 0) : Int) = _ by omega) (show (0 + (1 * ((wSk (wN h) (wB h) (a)) : Int) + 0) : Int) = _ by omega)) (pAll1 (pgF hf 560 (by decide) (by decide) (1600 * ((wSk (wN h) (wB h) (p)) + 1) + 100 * 0 + 8) (by omega) (show (1608 + (1600 * ρ 8 + 0) : Int) = _ by omega) (show (0 + (1 * ρ 10 + 0) : Int) = _ by rw [fA_I (s := 0) (j := 0) (r := 560) (g := 0) (v := 8) (Or.inl ⟨rfl, rfl, by decide⟩) (by decide) (by omega) (by decide), y0]; omega)) (pAll1 (pgF hf 561 (by decide) (by decide) (1600 * ((wSk (wN h) (wB h) (p)) + 1) + 100 * 0 + 7) (by omega) (show (1607 + (1600 * ρ 8 + 0) : Int) = _ by omega) (show (0 + (1 * ρ 11 + 0) : Int) = _ by rw [fA_I (s := 0) (j := 1) (r := 561) (g := 0) (v := 7) (Or.inl ⟨rfl, rfl, by decide⟩) (by decide) (by omega) (by decide), y1]; omega)) (pAll1 (pgF hf 562 (by decide) (by decide) (1600 * ((wSk (wN h) (wB h) (p)) + 1) + 100 * 0 + 20) (by omega) (show (1620 + (1600 * ρ 8 + 0) : Int) = _ by omega) (show (0 + (1 * ρ 12 + 0) : Int) = _ by rw [fA_I (s := 0) (j := 2) (r := 562) (g := 0) (v := 20) (Or.inl ⟨rfl, rfl, by decide⟩) (by decide) (by omega) (by decide), y2]; omega)) (pAll0)))))))
        · refine ⟨rFTc_9, List.mem_of_getElem? (i := 9) rfl, pEnd [ρ 0, ρ 1, ρ 2, ρ 3, ρ 4, ρ 5, ρ 6, ρ 7, ρ 8, ρ 9, ρ 10, ρ 11, ρ 12, ρ 13, ρ 14, ρ 15, ρ 16, ρ 17, (a : Int), ((wSk (wN h) (wB h) (a)) : Int), (wCh (wN h) (wB h) ((wSk (wN h) (wB h) (a))))] rfl ?_ ?_ ?_ ?_⟩
          · intro j hj
            match j, hj with
            | 0, _ => exact q0.symm
            | 1, _ => exact q1.symm
            | 2, _ => exact q2.symm
            | 3, _ => exact q3.symm
            | 4, _ => exact q4.symm
            | 5, _ => exact q5.symm
            | 6, _ => exact q6.symm
            | 7, _ => exact q7.symm
            | 8, _ => exact q8.symm
            | 9, _ => exact q9.symm
            | 10, _ => exact q10.symm
            | 11, _ => exact q11.symm
            | 12, _ => exact q12.symm
            | 13, _ => exact q13.symm
            | 14, _ => exact q14.symm
            | 15, _ => exact q15.symm
            | 16, _ => exact q16.symm
            | 17, _ => exact q17.symm
            | k + 18, hj => exact absurd hj (by show ¬ (k + 18 < 18); omega)
          · intro k b hk
            match k, hk with
            | 0, hk => cases hk; exact (show (0 : Int) ≤ (a : Int) ∧ (a : Int) ≤ (240 : Int) by omega)
            | 1, hk => cases hk; exact (show (0 : Int) ≤ ((wSk (wN h) (wB h) (a)) : Int) ∧ ((wSk (wN h) (wB h) (a)) : Int) ≤ (240 : Int) by omega)
            | 2, hk => cases hk; exact (show (60 : Int) ≤ (wCh (wN h) (wB h) ((wSk (wN h) (wB h) (a)))) ∧ (wCh (wN h) (wB h) ((wSk (wN h) (wB h) (a)))) ≤ (255 : Int) by omega)
            | k + 3, hk => cases hk
          · exact pAll1 (show (0 + (1 * ρ 3 + ((-1) * ρ 8 + 0)) : Int) ≤ 0 by omega) (pAll1 (show (0 + ((-1) * ρ 2 + (1 * ρ 8 + 0)) : Int) ≤ 0 by omega) (pAll1 (show (1 + ((-1) * ρ 2 + (1 * ρ 8 + 0)) : Int) ≤ 0 by omega) (pAll1 (show (1 + ((-1) * ρ 9 + 0) : Int) ≤ 0 by omega) (pAll1 (show ((-115) + (1 * ρ 9 + 0) : Int) ≤ 0 by omega) (pAll1 (show (115 + ((-1) * ρ 9 + 0) : Int) ≤ 0 by omega) (pAll1 (show (0 + (1 * ρ 4 + 0) : Int) ≤ 0 by omega) (pAll1 (show (0 + ((-1) * ρ 4 + 0) : Int) ≤ 0 by omega) (pAll1 (show (1 + (1 * ρ 8 + ((-1) * (a : Int) + 0)) : Int) ≤ 0 by omega) (pAll1 (show (0 + (1 * (a : Int) + ((-1) * ((wSk (wN h) (wB h) (a)) : Int) + 0)) : Int) ≤ 0 by omega) (pAll1 (show (0 + ((-1) * ρ 2 + (1 * ((wSk (wN h) (wB h) (a)) : Int) + 0)) : Int) ≤ 0 by omega) (pAll1 (show (1 + ((-1) * ρ 2 + (1 * ((wSk (wN h) (wB h) (a)) : Int) + 0)) : Int) ≤ 0 by omega) (pAll1 (show (1 + (1 * ρ 7 + (1 * ((wSk (wN h) (wB h) (a)) : Int) + 0)) : Int) ≤ 0 by omega) (pAll1 (show ((-1) + ((-1) * ρ 7 + ((-1) * ((wSk (wN h) (wB h) (a)) : Int) + 0)) : Int) ≤ 0 by omega) (pAll0))))))))))))))
          · exact pAll1 (pgF hf 530 (by decide) (by decide) (16 * ((wSk (wN h) (wB h) (p)) + 1) + 0) (by omega) (show (16 + (16 * ρ 8 + 0) : Int) = _ by omega) (show (0 + (1 * (a : Int) + 0) : Int) = _ by rw [fA_IT0 (g := 0) (p := (wSk (wN h) (wB h) (p)) + 1) (by decide) (by omega) hn]; omega)) (pAll1 (pgS ho hh (a) (by omega) (show (0 + (1 * (a : Int) + 0) : Int) = _ by omega) (show (0 + (1 * ((wSk (wN h) (wB h) (a)) : Int) + 0) : Int) = _ by omega)) (pAll1 (pgC ho hh ((wSk (wN h) (wB h) (a))) (by omega) (show (0 + (1 * ((wSk (wN h) (wB h) (a)) : Int) + 0) : Int) = _ by omega) (show (0 + (1 * (wCh (wN h) (wB h) ((wSk (wN h) (wB h) (a)))) + 0) : Int) = _ by omega)) (pAll1 (pgS ho hh ((wSk (wN h) (wB h) (a))) (by omega) (show (0 + (1 * ((wSk (wN h) (wB h) (a)) : Int) + 0) : Int) = _ by omega) (show (0 + (1 * ((wSk (wN h) (wB h) (a)) : Int) + 0) : Int) = _ by omega)) (pAll1 (pgF hf 560 (by decide) (by decide) (1600 * ((wSk (wN h) (wB h) (p)) + 1) + 100 * 0 + 8) (by omega) (show (1608 + (1600 * ρ 8 + 0) : Int) = _ by omega) (show (0 + (1 * ρ 10 + 0) : Int) = _ by rw [fA_I (s := 0) (j := 0) (r := 560) (g := 0) (v := 8) (Or.inl ⟨rfl, rfl, by decide⟩) (by decide) (by omega) (by decide), y0]; omega)) (pAll1 (pgF hf 561 (by decide) (by decide) (1600 * ((wSk (wN h) (wB h) (p)) + 1) + 100 * 0 + 7) (by omega) (show (1607 + (1600 * ρ 8 + 0) : Int) = _ by omega) (show (0 + (1 * ρ 11 + 0) : Int) = _ by rw [fA_I (s := 0) (j := 1) (r := 561) (g := 0) (v := 7) (Or.inl ⟨rfl, rfl, by decide⟩) (by decide) (by omega) (by decide), y1]; omega)) (pAll1 (pgF hf 562 (by decide) (by decide) (1600 * ((wSk (wN h) (wB h) (p)) + 1) + 100 * 0 + 20) (by omega) (show (1620 + (1600 * ρ 8 + 0) : Int) = _ by omega) (show (0 + (1 * ρ 12 + 0) : Int) = _ by rw [fA_I (s := 0) (j := 2) (r := 562) (g := 0) (v := 20) (Or.inl ⟨rfl, rfl, by decide⟩) (by decide) (by omega) (by decide), y2]; omega)) (pAll0)))))))
  · rcases x3 with ⟨a1, a2⟩ | ⟨a, a1, a2, a3, a4, a5⟩
    · have gd := (fI_gd (n := wN h) (B := wB h) 1 0 ((wSk (wN h) (wB h) (p)) + 1) (by omega)).1 a1
      rw [a2] at er
      refine ⟨rFTc_10, List.mem_of_getElem? (i := 10) rfl, pEnd [ρ 0, ρ 1, ρ 2, ρ 3, ρ 4, ρ 5, ρ 6, ρ 7, ρ 8, ρ 9, ρ 10, ρ 11, ρ 12, ρ 13, ρ 14, ρ 15, ρ 16, ρ 17, (fI (wN h) (wB h) 1 (0) ((wSk (wN h) (wB h) (p)) + 1))] rfl ?_ ?_ ?_ ?_⟩
      · intro j hj
        match j, hj with
        | 0, _ => exact q0.symm
        | 1, _ => exact q1.symm
        | 2, _ => exact q2.symm
        | 3, _ => exact q3.symm
        | 4, _ => exact q4.symm
        | 5, _ => exact q5.symm
        | 6, _ => exact q6.symm
        | 7, _ => exact q7.symm
        | 8, _ => exact q8.symm
        | 9, _ => exact q9.symm
        | 10, _ => exact q10.symm
        | 11, _ => exact q11.symm
        | 12, _ => exact q12.symm
        | 13, _ => exact q13.symm
        | 14, _ => exact q14.symm
        | 15, _ => exact q15.symm
        | 16, _ => exact q16.symm
        | 17, _ => exact q17.symm
        | k + 18, hj => exact absurd hj (by show ¬ (k + 18 < 18); omega)
      · intro k b hk
        match k, hk with
        | 0, hk => cases hk; exact (show ((-241) : Int) ≤ (fI (wN h) (wB h) 1 (0) ((wSk (wN h) (wB h) (p)) + 1)) ∧ (fI (wN h) (wB h) 1 (0) ((wSk (wN h) (wB h) (p)) + 1)) ≤ ((-1) : Int) by omega)
        | k + 1, hk => cases hk
      · exact pAll1 (show (0 + (1 * ρ 3 + ((-1) * ρ 8 + 0)) : Int) ≤ 0 by omega) (pAll1 (show (0 + ((-1) * ρ 2 + (1 * ρ 8 + 0)) : Int) ≤ 0 by omega) (pAll1 (show (1 + ((-1) * ρ 2 + (1 * ρ 8 + 0)) : Int) ≤ 0 by omega) (pAll1 (show (1 + ((-1) * ρ 9 + 0) : Int) ≤ 0 by omega) (pAll1 (show ((-109) + (1 * ρ 9 + 0) : Int) ≤ 0 by omega) (pAll1 (show (109 + ((-1) * ρ 9 + 0) : Int) ≤ 0 by omega) (pAll1 (show ((-5) + (1 * ρ 5 + 0) : Int) ≤ 0 by omega) (pAll1 (show (0 + (1 * ρ 7 + ((-1) * (fI (wN h) (wB h) 1 (0) ((wSk (wN h) (wB h) (p)) + 1)) + 0)) : Int) ≤ 0 by omega) (pAll1 (show (0 + ((-1) * ρ 7 + (1 * (fI (wN h) (wB h) 1 (0) ((wSk (wN h) (wB h) (p)) + 1)) + 0)) : Int) ≤ 0 by omega) (pAll0)))))))))
      · exact pAll1 (pgF hf 531 (by decide) (by decide) (16 * ((wSk (wN h) (wB h) (p)) + 1) + 0) (by omega) (show (16 + (16 * ρ 8 + 0) : Int) = _ by omega) (show (0 + (1 * (fI (wN h) (wB h) 1 (0) ((wSk (wN h) (wB h) (p)) + 1)) + 0) : Int) = _ by rw [fA_IT1 (g := 0) (p := (wSk (wN h) (wB h) (p)) + 1) (by decide) (by omega) hn]; omega)) (pAll0)
    · obtain ⟨t1, t2⟩ := wSk_le (B := wB h) a3
      have cs := wCh_bd ho (wSk (wN h) (wB h) (a))
      have hi := wSk_id (B := wB h) a3
      have y0 : (fV (wN h) (wB h) 1 0 (0) ((wSk (wN h) (wB h) (p)) + 1) ((3 : Nat) : Int)) = fMV (wN h) (wB h) m 0 := a4 0
      have y1 : (fV (wN h) (wB h) 1 1 (0) ((wSk (wN h) (wB h) (p)) + 1) ((3 : Nat) : Int)) = fMV (wN h) (wB h) m 1 := a4 1
      have y2 : (fV (wN h) (wB h) 1 2 (0) ((wSk (wN h) (wB h) (p)) + 1) ((5 : Nat) : Int)) = fMV (wN h) (wB h) m 2 := a4 2
      have y3 : (fV (wN h) (wB h) 1 3 (0) ((wSk (wN h) (wB h) (p)) + 1) ((0 : Nat) : Int)) = fMV (wN h) (wB h) m 3 := a4 3
      rcases a5 with ⟨f1, f2, f3⟩ | ⟨f1, f2, f3, f4, f5⟩ | ⟨f1, f2, f3, f4⟩
      · refine ⟨rFTc_11, List.mem_of_getElem? (i := 11) rfl, pEnd [ρ 0, ρ 1, ρ 2, ρ 3, ρ 4, ρ 5, ρ 6, ρ 7, ρ 8, ρ 9, ρ 10, ρ 11, ρ 12, ρ 13, ρ 14, ρ 15, ρ 16, ρ 17, (a : Int), ((wSk (wN h) (wB h) (a)) : Int), (wCh (wN h) (wB h) ((wSk (wN h) (wB h) (a))))] rfl ?_ ?_ ?_ ?_⟩
        · intro j hj
          match j, hj with
          | 0, _ => exact q0.symm
          | 1, _ => exact q1.symm
          | 2, _ => exact q2.symm
          | 3, _ => exact q3.symm
          | 4, _ => exact q4.symm
          | 5, _ => exact q5.symm
          | 6, _ => exact q6.symm
          | 7, _ => exact q7.symm
          | 8, _ => exact q8.symm
          | 9, _ => exact q9.symm
          | 10, _ => exact q10.symm
          | 11, _ => exact q11.symm
          | 12, _ => exact q12.symm
          | 13, _ => exact q13.symm
          | 14, _ => exact q14.symm
          | 15, _ => exact q15.symm
          | 16, _ => exact q16.symm
          | 17, _ => exact q17.symm
          | k + 18, hj => exact absurd hj (by show ¬ (k + 18 < 18); omega)
        · intro k b hk
          match k, hk with
          | 0, hk => cases hk; exact (show (0 : Int) ≤ (a : Int) ∧ (a : Int) ≤ (240 : Int) by omega)
          | 1, hk => cases hk; exact (show (0 : Int) ≤ ((wSk (wN h) (wB h) (a)) : Int) ∧ ((wSk (wN h) (wB h) (a)) : Int) ≤ (240 : Int) by omega)
          | 2, hk => cases hk; exact (show (59 : Int) ≤ (wCh (wN h) (wB h) ((wSk (wN h) (wB h) (a)))) ∧ (wCh (wN h) (wB h) ((wSk (wN h) (wB h) (a)))) ≤ (59 : Int) by omega)
          | k + 3, hk => cases hk
        · exact pAll1 (show (0 + (1 * ρ 3 + ((-1) * ρ 8 + 0)) : Int) ≤ 0 by omega) (pAll1 (show (0 + ((-1) * ρ 2 + (1 * ρ 8 + 0)) : Int) ≤ 0 by omega) (pAll1 (show (1 + ((-1) * ρ 2 + (1 * ρ 8 + 0)) : Int) ≤ 0 by omega) (pAll1 (show (1 + ((-1) * ρ 9 + 0) : Int) ≤ 0 by omega) (pAll1 (show ((-109) + (1 * ρ 9 + 0) : Int) ≤ 0 by omega) (pAll1 (show (109 + ((-1) * ρ 9 + 0) : Int) ≤ 0 by omega) (pAll1 (show ((-5) + (1 * ρ 5 + 0) : Int) ≤ 0 by omega) (pAll1 (show (1 + (1 * ρ 8 + ((-1) * (a : Int) + 0)) : Int) ≤ 0 by omega) (pAll1 (show (0 + (1 * (a : Int) + ((-1) * ((wSk (wN h) (wB h) (a)) : Int) + 0)) : Int) ≤ 0 by omega) (pAll1 (show (0 + ((-1) * ρ 2 + (1 * ((wSk (wN h) (wB h) (a)) : Int) + 0)) : Int) ≤ 0 by omega) (pAll1 (show (1 + ((-1) * ρ 2 + (1 * ((wSk (wN h) (wB h) (a)) : Int) + 0)) : Int) ≤ 0 by omega) (pAll0)))))))))))
        · exact pAll1 (pgF hf 531 (by decide) (by decide) (16 * ((wSk (wN h) (wB h) (p)) + 1) + 0) (by omega) (show (16 + (16 * ρ 8 + 0) : Int) = _ by omega) (show (0 + (1 * (a : Int) + 0) : Int) = _ by rw [fA_IT1 (g := 0) (p := (wSk (wN h) (wB h) (p)) + 1) (by decide) (by omega) hn]; omega)) (pAll1 (pgS ho hh (a) (by omega) (show (0 + (1 * (a : Int) + 0) : Int) = _ by omega) (show (0 + (1 * ((wSk (wN h) (wB h) (a)) : Int) + 0) : Int) = _ by omega)) (pAll1 (pgC ho hh ((wSk (wN h) (wB h) (a))) (by omega) (show (0 + (1 * ((wSk (wN h) (wB h) (a)) : Int) + 0) : Int) = _ by omega) (show (0 + (1 * (wCh (wN h) (wB h) ((wSk (wN h) (wB h) (a)))) + 0) : Int) = _ by omega)) (pAll1 (pgS ho hh ((wSk (wN h) (wB h) (a))) (by omega) (show (0 + (1 * ((wSk (wN h) (wB h) (a)) : Int) + 0) : Int) = _ by omega) (show (0 + (1 * ((wSk (wN h) (wB h) (a)) : Int) + 0) : Int) = _ by omega)) (pAll1 (pgF hf 563 (by decide) (by decide) (1600 * ((wSk (wN h) (wB h) (p)) + 1) + 100 * 0 + 3) (by omega) (show (1603 + (1600 * ρ 8 + 0) : Int) = _ by omega) (show (0 + (1 * ρ 13 + 0) : Int) = _ by rw [fA_I (s := 1) (j := 0) (r := 563) (g := 0) (v := 3) (Or.inr ⟨rfl, rfl, by decide⟩) (by decide) (by omega) (by decide), y0]; omega)) (pAll1 (pgF hf 564 (by decide) (by decide) (1600 * ((wSk (wN h) (wB h) (p)) + 1) + 100 * 0 + 3) (by omega) (show (1603 + (1600 * ρ 8 + 0) : Int) = _ by omega) (show (0 + (1 * ρ 14 + 0) : Int) = _ by rw [fA_I (s := 1) (j := 1) (r := 564) (g := 0) (v := 3) (Or.inr ⟨rfl, rfl, by decide⟩) (by decide) (by omega) (by decide), y1]; omega)) (pAll1 (pgF hf 565 (by decide) (by decide) (1600 * ((wSk (wN h) (wB h) (p)) + 1) + 100 * 0 + 5) (by omega) (show (1605 + (1600 * ρ 8 + 0) : Int) = _ by omega) (show (0 + (1 * ρ 15 + 0) : Int) = _ by rw [fA_I (s := 1) (j := 2) (r := 565) (g := 0) (v := 5) (Or.inr ⟨rfl, rfl, by decide⟩) (by decide) (by omega) (by decide), y2]; omega)) (pAll1 (pgF hf 566 (by decide) (by decide) (1600 * ((wSk (wN h) (wB h) (p)) + 1) + 100 * 0 + 0) (by omega) (show (1600 + (1600 * ρ 8 + 0) : Int) = _ by omega) (show (0 + (1 * ρ 16 + 0) : Int) = _ by rw [fA_I (s := 1) (j := 3) (r := 566) (g := 0) (v := 0) (Or.inr ⟨rfl, rfl, by decide⟩) (by decide) (by omega) (by decide), y3]; omega)) (pAll1 (pgF hf 532 (by decide) (by decide) (14 * ((wSk (wN h) (wB h) (a)) + 1) + 7 * hr + (m + 1)) (by omega) (show (15 + (7 * ρ 4 + (1 * ρ 5 + (14 * ((wSk (wN h) (wB h) (a)) : Int) + 0))) : Int) = _ by omega) (show (1 + 0 : Int) = _ by rw [fA_ON (by omega) (by omega), yB_1.mpr f3]; omega)) (pAll0)))))))))
      · rw [f3] at er
        rw [f4] at efm
        rcases (show hr = 1 ∨ hr = 0 by omega) with hu | hu
        · refine ⟨rFTc_12, List.mem_of_getElem? (i := 12) rfl, pEnd [ρ 0, ρ 1, ρ 2, ρ 3, ρ 4, ρ 5, ρ 6, ρ 7, ρ 8, ρ 9, ρ 10, ρ 11, ρ 12, ρ 13, ρ 14, ρ 15, ρ 16, ρ 17, (a : Int), ((wSk (wN h) (wB h) (a)) : Int), (wCh (wN h) (wB h) ((wSk (wN h) (wB h) (a))))] rfl ?_ ?_ ?_ ?_⟩
          · intro j hj
            match j, hj with
            | 0, _ => exact q0.symm
            | 1, _ => exact q1.symm
            | 2, _ => exact q2.symm
            | 3, _ => exact q3.symm
            | 4, _ => exact q4.symm
            | 5, _ => exact q5.symm
            | 6, _ => exact q6.symm
            | 7, _ => exact q7.symm
            | 8, _ => exact q8.symm
            | 9, _ => exact q9.symm
            | 10, _ => exact q10.symm
            | 11, _ => exact q11.symm
            | 12, _ => exact q12.symm
            | 13, _ => exact q13.symm
            | 14, _ => exact q14.symm
            | 15, _ => exact q15.symm
            | 16, _ => exact q16.symm
            | 17, _ => exact q17.symm
            | k + 18, hj => exact absurd hj (by show ¬ (k + 18 < 18); omega)
          · intro k b hk
            match k, hk with
            | 0, hk => cases hk; exact (show (0 : Int) ≤ (a : Int) ∧ (a : Int) ≤ (240 : Int) by omega)
            | 1, hk => cases hk; exact (show (0 : Int) ≤ ((wSk (wN h) (wB h) (a)) : Int) ∧ ((wSk (wN h) (wB h) (a)) : Int) ≤ (240 : Int) by omega)
            | 2, hk => cases hk; exact (show (0 : Int) ≤ (wCh (wN h) (wB h) ((wSk (wN h) (wB h) (a)))) ∧ (wCh (wN h) (wB h) ((wSk (wN h) (wB h) (a)))) ≤ (0 : Int) by omega)
            | k + 3, hk => cases hk
          · exact pAll1 (show (0 + (1 * ρ 3 + ((-1) * ρ 8 + 0)) : Int) ≤ 0 by omega) (pAll1 (show (0 + ((-1) * ρ 2 + (1 * ρ 8 + 0)) : Int) ≤ 0 by omega) (pAll1 (show (1 + ((-1) * ρ 2 + (1 * ρ 8 + 0)) : Int) ≤ 0 by omega) (pAll1 (show (1 + ((-1) * ρ 9 + 0) : Int) ≤ 0 by omega) (pAll1 (show ((-109) + (1 * ρ 9 + 0) : Int) ≤ 0 by omega) (pAll1 (show (109 + ((-1) * ρ 9 + 0) : Int) ≤ 0 by omega) (pAll1 (show ((-5) + (1 * ρ 5 + 0) : Int) ≤ 0 by omega) (pAll1 (show (1 + (1 * ρ 8 + ((-1) * (a : Int) + 0)) : Int) ≤ 0 by omega) (pAll1 (show (0 + (1 * (a : Int) + ((-1) * ((wSk (wN h) (wB h) (a)) : Int) + 0)) : Int) ≤ 0 by omega) (pAll1 (show (0 + ((-1) * ρ 2 + (1 * ((wSk (wN h) (wB h) (a)) : Int) + 0)) : Int) ≤ 0 by omega) (pAll1 (show (0 + ((-1) * ρ 2 + (1 * ((wSk (wN h) (wB h) (a)) : Int) + 0)) : Int) ≤ 0 by omega) (pAll1 (show (0 + (1 * ρ 2 + ((-1) * ((wSk (wN h) (wB h) (a)) : Int) + 0)) : Int) ≤ 0 by omega) (pAll1 (show (0 + (1 * ρ 7 + ((-1) * ((wSk (wN h) (wB h) (a)) : Int) + 0)) : Int) ≤ 0 by omega) (pAll1 (show (0 + ((-1) * ρ 7 + (1 * ((wSk (wN h) (wB h) (a)) : Int) + 0)) : Int) ≤ 0 by omega) (pAll1 (show ((-1) + ((-1) * ρ 5 + (1 * ρ 17 + 0)) : Int) ≤ 0 by omega) (pAll1 (show (1 + (1 * ρ 5 + ((-1) * ρ 17 + 0)) : Int) ≤ 0 by omega) (pAll1 (show ((-1) + (1 * ρ 4 + 0) : Int) ≤ 0 by omega) (pAll1 (show (1 + ((-1) * ρ 4 + 0) : Int) ≤ 0 by omega) (pAll0))))))))))))))))))
          · exact pAll1 (pgF hf 531 (by decide) (by decide) (16 * ((wSk (wN h) (wB h) (p)) + 1) + 0) (by omega) (show (16 + (16 * ρ 8 + 0) : Int) = _ by omega) (show (0 + (1 * (a : Int) + 0) : Int) = _ by rw [fA_IT1 (g := 0) (p := (wSk (wN h) (wB h) (p)) + 1) (by decide) (by omega) hn]; omega)) (pAll1 (pgS ho hh (a) (by omega) (show (0 + (1 * (a : Int) + 0) : Int) = _ by omega) (show (0 + (1 * ((wSk (wN h) (wB h) (a)) : Int) + 0) : Int) = _ by omega)) (pAll1 (pgC ho hh ((wSk (wN h) (wB h) (a))) (by omega) (show (0 + (1 * ((wSk (wN h) (wB h) (a)) : Int) + 0) : Int) = _ by omega) (show (0 + (1 * (wCh (wN h) (wB h) ((wSk (wN h) (wB h) (a)))) + 0) : Int) = _ by omega)) (pAll1 (pgS ho hh ((wSk (wN h) (wB h) (a))) (by omega) (show (0 + (1 * ((wSk (wN h) (wB h) (a)) : Int) + 0) : Int) = _ by omega) (show (0 + (1 * ((wSk (wN h) (wB h) (a)) : Int) + 0) : Int) = _ by omega)) (pAll1 (pgF hf 563 (by decide) (by decide) (1600 * ((wSk (wN h) (wB h) (p)) + 1) + 100 * 0 + 3) (by omega) (show (1603 + (1600 * ρ 8 + 0) : Int) = _ by omega) (show (0 + (1 * ρ 13 + 0) : Int) = _ by rw [fA_I (s := 1) (j := 0) (r := 563) (g := 0) (v := 3) (Or.inr ⟨rfl, rfl, by decide⟩) (by decide) (by omega) (by decide), y0]; omega)) (pAll1 (pgF hf 564 (by decide) (by decide) (1600 * ((wSk (wN h) (wB h) (p)) + 1) + 100 * 0 + 3) (by omega) (show (1603 + (1600 * ρ 8 + 0) : Int) = _ by omega) (show (0 + (1 * ρ 14 + 0) : Int) = _ by rw [fA_I (s := 1) (j := 1) (r := 564) (g := 0) (v := 3) (Or.inr ⟨rfl, rfl, by decide⟩) (by decide) (by omega) (by decide), y1]; omega)) (pAll1 (pgF hf 565 (by decide) (by decide) (1600 * ((wSk (wN h) (wB h) (p)) + 1) + 100 * 0 + 5) (by omega) (show (1605 + (1600 * ρ 8 + 0) : Int) = _ by omega) (show (0 + (1 * ρ 15 + 0) : Int) = _ by rw [fA_I (s := 1) (j := 2) (r := 565) (g := 0) (v := 5) (Or.inr ⟨rfl, rfl, by decide⟩) (by decide) (by omega) (by decide), y2]; omega)) (pAll1 (pgF hf 566 (by decide) (by decide) (1600 * ((wSk (wN h) (wB h) (p)) + 1) + 100 * 0 + 0) (by omega) (show (1600 + (1600 * ρ 8 + 0) : Int) = _ by omega) (show (0 + (1 * ρ 16 + 0) : Int) = _ by rw [fA_I (s := 1) (j := 3) (r := 566) (g := 0) (v := 0) (Or.inr ⟨rfl, rfl, by decide⟩) (by decide) (by omega) (by decide), y3]; omega)) (pAll0))))))))
        · have z0 : fRV (wN h) (wB h) 0 = 8 := f5 hu 0
          rw [z0] at eR0
          have z1 : fRV (wN h) (wB h) 1 = 7 := f5 hu 1
          rw [z1] at eR1
          have z2 : fRV (wN h) (wB h) 2 = 20 := f5 hu 2
          rw [z2] at eR2
          refine ⟨rFTc_13, List.mem_of_getElem? (i := 13) rfl, pEnd [ρ 0, ρ 1, ρ 2, ρ 3, ρ 4, ρ 5, ρ 6, ρ 7, ρ 8, ρ 9, ρ 10, ρ 11, ρ 12, ρ 13, ρ 14, ρ 15, ρ 16, ρ 17, (a : Int), ((wSk (wN h) (wB h) (a)) : Int), (wCh (wN h) (wB h) ((wSk (wN h) (wB h) (a))))] rfl ?_ ?_ ?_ ?_⟩
          · intro j hj
            match j, hj with
            | 0, _ => exact q0.symm
            | 1, _ => exact q1.symm
            | 2, _ => exact q2.symm
            | 3, _ => exact q3.symm
            | 4, _ => exact q4.symm
            | 5, _ => exact q5.symm
            | 6, _ => exact q6.symm
            | 7, _ => exact q7.symm
            | 8, _ => exact q8.symm
            | 9, _ => exact q9.symm
            | 10, _ => exact q10.symm
            | 11, _ => exact q11.symm
            | 12, _ => exact q12.symm
            | 13, _ => exact q13.symm
            | 14, _ => exact q14.symm
            | 15, _ => exact q15.symm
            | 16, _ => exact q16.symm
            | 17, _ => exact q17.symm
            | k + 18, hj => exact absurd hj (by show ¬ (k + 18 < 18); omega)
          · intro k b hk
            match k, hk with
            | 0, hk => cases hk; exact (show (0 : Int) ≤ (a : Int) ∧ (a : Int) ≤ (240 : Int) by omega)
            | 1, hk => cases hk; exact (show (0 : Int) ≤ ((wSk (wN h) (wB h) (a)) : Int) ∧ ((wSk (wN h) (wB h) (a)) : Int) ≤ (240 : Int) by omega)
            | 2, hk => cases hk; exact (show (0 : Int) ≤ (wCh (wN h) (wB h) ((wSk (wN h) (wB h) (a)))) ∧ (wCh (wN h) (wB h) ((wSk (wN h) (wB h) (a)))) ≤ (0 : Int) by omega)
            | k + 3, hk => cases hk
          · exact pAll1 (show (0 + (1 * ρ 3 + ((-1) * ρ 8 + 0)) : Int) ≤ 0 by omega) (pAll1 (show (0 + ((-1) * ρ 2 + (1 * ρ 8 + 0)) : Int) ≤ 0 by omega) (pAll1 (show (1 + ((-1) * ρ 2 + (1 * ρ 8 + 0)) : Int) ≤ 0 by omega) (pAll1 (show (1 + ((-1) * ρ 9 + 0) : Int) ≤ 0 by omega) (pAll1 (show ((-109) + (1 * ρ 9 + 0) : Int) ≤ 0 by omega) (pAll1 (show (109 + ((-1) * ρ 9 + 0) : Int) ≤ 0 by omega) (pAll1 (show ((-5) + (1 * ρ 5 + 0) : Int) ≤ 0 by omega) (pAll1 (show (1 + (1 * ρ 8 + ((-1) * (a : Int) + 0)) : Int) ≤ 0 by omega) (pAll1 (show (0 + (1 * (a : Int) + ((-1) * ((wSk (wN h) (wB h) (a)) : Int) + 0)) : Int) ≤ 0 by omega) (pAll1 (show (0 + ((-1) * ρ 2 + (1 * ((wSk (wN h) (wB h) (a)) : Int) + 0)) : Int) ≤ 0 by omega) (pAll1 (show (0 + ((-1) * ρ 2 + (1 * ((wSk (wN h) (wB h) (a)) : Int) + 0)) : Int) ≤ 0 by omega) (pAll1 (show (0 + (1 * ρ 2 + ((-1) * ((wSk (wN h) (wB h) (a)) : Int) + 0)) : Int) ≤ 0 by omega) (pAll1 (show (0 + (1 * ρ 7 + ((-1) * ((wSk (wN h) (wB h) (a)) : Int) + 0)) : Int) ≤ 0 by omega) (pAll1 (show (0 + ((-1) * ρ 7 + (1 * ((wSk (wN h) (wB h) (a)) : Int) + 0)) : Int) ≤ 0 by omega) (pAll1 (show ((-1) + ((-1) * ρ 5 + (1 * ρ 17 + 0)) : Int) ≤ 0 by omega) (pAll1 (show (1 + (1 * ρ 5 + ((-1) * ρ 17 + 0)) : Int) ≤ 0 by omega) (pAll1 (show (0 + (1 * ρ 4 + 0) : Int) ≤ 0 by omega) (pAll1 (show (0 + ((-1) * ρ 4 + 0) : Int) ≤ 0 by omega) (pAll1 (show ((-8) + (1 * ρ 10 + 0) : Int) ≤ 0 by omega) (pAll1 (show (8 + ((-1) * ρ 10 + 0) : Int) ≤ 0 by omega) (pAll1 (show ((-7) + (1 * ρ 11 + 0) : Int) ≤ 0 by omega) (pAll1 (show (7 + ((-1) * ρ 11 + 0) : Int) ≤ 0 by omega) (pAll1 (show ((-20) + (1 * ρ 12 + 0) : Int) ≤ 0 by omega) (pAll1 (show (20 + ((-1) * ρ 12 + 0) : Int) ≤ 0 by omega) (pAll0))))))))))))))))))))))))
          · exact pAll1 (pgF hf 531 (by decide) (by decide) (16 * ((wSk (wN h) (wB h) (p)) + 1) + 0) (by omega) (show (16 + (16 * ρ 8 + 0) : Int) = _ by omega) (show (0 + (1 * (a : Int) + 0) : Int) = _ by rw [fA_IT1 (g := 0) (p := (wSk (wN h) (wB h) (p)) + 1) (by decide) (by omega) hn]; omega)) (pAll1 (pgS ho hh (a) (by omega) (show (0 + (1 * (a : Int) + 0) : Int) = _ by omega) (show (0 + (1 * ((wSk (wN h) (wB h) (a)) : Int) + 0) : Int) = _ by omega)) (pAll1 (pgC ho hh ((wSk (wN h) (wB h) (a))) (by omega) (show (0 + (1 * ((wSk (wN h) (wB h) (a)) : Int) + 0) : Int) = _ by omega) (show (0 + (1 * (wCh (wN h) (wB h) ((wSk (wN h) (wB h) (a)))) + 0) : Int) = _ by omega)) (pAll1 (pgS ho hh ((wSk (wN h) (wB h) (a))) (by omega) (show (0 + (1 * ((wSk (wN h) (wB h) (a)) : Int) + 0) : Int) = _ by omega) (show (0 + (1 * ((wSk (wN h) (wB h) (a)) : Int) + 0) : Int) = _ by omega)) (pAll1 (pgF hf 563 (by decide) (by decide) (1600 * ((wSk (wN h) (wB h) (p)) + 1) + 100 * 0 + 3) (by omega) (show (1603 + (1600 * ρ 8 + 0) : Int) = _ by omega) (show (0 + (1 * ρ 13 + 0) : Int) = _ by rw [fA_I (s := 1) (j := 0) (r := 563) (g := 0) (v := 3) (Or.inr ⟨rfl, rfl, by decide⟩) (by decide) (by omega) (by decide), y0]; omega)) (pAll1 (pgF hf 564 (by decide) (by decide) (1600 * ((wSk (wN h) (wB h) (p)) + 1) + 100 * 0 + 3) (by omega) (show (1603 + (1600 * ρ 8 + 0) : Int) = _ by omega) (show (0 + (1 * ρ 14 + 0) : Int) = _ by rw [fA_I (s := 1) (j := 1) (r := 564) (g := 0) (v := 3) (Or.inr ⟨rfl, rfl, by decide⟩) (by decide) (by omega) (by decide), y1]; omega)) (pAll1 (pgF hf 565 (by decide) (by decide) (1600 * ((wSk (wN h) (wB h) (p)) + 1) + 100 * 0 + 5) (by omega) (show (1605 + (1600 * ρ 8 + 0) : Int) = _ by omega) (show (0 + (1 * ρ 15 + 0) : Int) = _ by rw [fA_I (s := 1) (j := 2) (r := 565) (g := 0) (v := 5) (Or.inr ⟨rfl, rfl, by decide⟩) (by decide) (by omega) (by decide), y2]; omega)) (pAll1 (pgF hf 566 (by decide) (by decide) (1600 * ((wSk (wN h) (wB h) (p)) + 1) + 100 * 0 + 0) (by omega) (show (1600 + (1600 * ρ 8 + 0) : Int) = _ by omega) (show (0 + (1 * ρ 16 + 0) : Int) = _ by rw [fA_I (s := 1) (j := 3) (r := 566) (g := 0) (v := 0) (Or.inr ⟨rfl, rfl, by decide⟩) (by decide) (by omega) (by decide), y3]; omega)) (pAll0))))))))
      · rw [f4] at er
        unfold wFl at er
        have hu : (wCh (wN h) (wB h) ((wSk (wN h) (wB h) (a)))) ≤ 58 ∨ 60 ≤ (wCh (wN h) (wB h) ((wSk (wN h) (wB h) (a)))) := by omega
        rcases hu with hu | hu
        · refine ⟨rFTc_14, List.mem_of_getElem? (i := 14) rfl, pEnd [ρ 0, ρ 1, ρ 2, ρ 3, ρ 4, ρ 5, ρ 6, ρ 7, ρ 8, ρ 9, ρ 10, ρ 11, ρ 12, ρ 13, ρ 14, ρ 15, ρ 16, ρ 17, (a : Int), ((wSk (wN h) (wB h) (a)) : Int), (wCh (wN h) (wB h) ((wSk (wN h) (wB h) (a))))] rfl ?_ ?_ ?_ ?_⟩
          · intro j hj
            match j, hj with
            | 0, _ => exact q0.symm
            | 1, _ => exact q1.symm
            | 2, _ => exact q2.symm
            | 3, _ => exact q3.symm
            | 4, _ => exact q4.symm
            | 5, _ => exact q5.symm
            | 6, _ => exact q6.symm
            | 7, _ => exact q7.symm
            | 8, _ => exact q8.symm
            | 9, _ => exact q9.symm
            | 10, _ => exact q10.symm
            | 11, _ => exact q11.symm
            | 12, _ => exact q12.symm
            | 13, _ => exact q13.symm
            | 14, _ => exact q14.symm
            | 15, _ => exact q15.symm
            | 16, _ => exact q16.symm
            | 17, _ => exact q17.symm
            | k + 18, hj => exact absurd hj (by show ¬ (k + 18 < 18); omega)
          · intro k b hk
            match k, hk with
            | 0, hk => cases hk; exact (show (0 : Int) ≤ (a : Int) ∧ (a : Int) ≤ (240 : Int) by omega)
            | 1, hk => cases hk; exact (show (0 : Int) ≤ ((wSk (wN h) (wB h) (a)) : Int) ∧ ((wSk (wN h) (wB h) (a)) : Int) ≤ (240 : Int) by omega)
            | 2, hk => cases hk; exact (show (1 : Int) ≤ (wCh (wN h) (wB h) ((wSk (wN h) (wB h) (a)))) ∧ (wCh (wN h) (wB h) ((wSk (wN h) (wB h) (a)))) ≤ (58 : Int) by omega)
            | k + 3, hk => cases hk
          · exact pAll1 (show (0 + (1 * ρ 3 + ((-1) * ρ 8 + 0)) : Int) ≤ 0 by omega) (pAll1 (show (0 + ((-1) * ρ 2 + (1 * ρ 8 + 0)) : Int) ≤ 0 by omega) (pAll1 (show (1 + ((-1) * ρ 2 + (1 * ρ 8 + 0)) : Int) ≤ 0 by omega) (pAll1 (show (1 + ((-1) * ρ 9 + 0) : Int) ≤ 0 by omega) (pAll1 (show ((-109) + (1 * ρ 9 + 0) : Int) ≤ 0 by omega) (pAll1 (show (109 + ((-1) * ρ 9 + 0) : Int) ≤ 0 by omega) (pAll1 (show ((-5) + (1 * ρ 5 + 0) : Int) ≤ 0 by omega) (pAll1 (show (1 + (1 * ρ 8 + ((-1) * (a : Int) + 0)) : Int) ≤ 0 by omega) (pAll1 (show (0 + (1 * (a : Int) + ((-1) * ((wSk (wN h) (wB h) (a)) : Int) + 0)) : Int) ≤ 0 by omega) (pAll1 (show (0 + ((-1) * ρ 2 + (1 * ((wSk (wN h) (wB h) (a)) : Int) + 0)) : Int) ≤ 0 by omega) (pAll1 (show (1 + ((-1) * ρ 2 + (1 * ((wSk (wN h) (wB h) (a)) : Int) + 0)) : Int) ≤ 0 by omega) (pAll1 (show (1 + (1 * ρ 7 + (1 * ((wSk (wN h) (wB h) (a)) : Int) + 0)) : Int) ≤ 0 by omega) (pAll1 (show ((-1) + ((-1) * ρ 7 + ((-1) * ((wSk (wN h) (wB h) (a)) : Int) + 0)) : Int) ≤ 0 by omega) (pAll0)))))))))))))
          · exact pAll1 (pgF hf 531 (by decide) (by decide) (16 * ((wSk (wN h) (wB h) (p)) + 1) + 0) (by omega) (show (16 + (16 * ρ 8 + 0) : Int) = _ by omega) (show (0 + (1 * (a : Int) + 0) : Int) = _ by rw [fA_IT1 (g := 0) (p := (wSk (wN h) (wB h) (p)) + 1) (by decide) (by omega) hn]; omega)) (pAll1 (pgS ho hh (a) (by omega) (show (0 + (1 * (a : Int) + 0) : Int) = _ by omega) (show (0 + (1 * ((wSk (wN h) (wB h) (a)) : Int) + 0) : Int) = _ by omega)) (pAll1 (pgC ho hh ((wSk (wN h) (wB h) (a))) (by omega) (show (0 + (1 * ((wSk (wN h) (wB h) (a)) : Int) + 0) : Int) = _ by omega) (show (0 + (1 * (wCh (wN h) (wB h) ((wSk (wN h) (wB h) (a)))) + 0) : Int) = _ by omega)) (pAll1 (pgS ho hh ((wSk (wN h) (wB h) (a))) (by omega) (show (0 + (1 * ((wSk (wN h) (wB h) (a)) : Int) + 0) : Int) = _ by omega) (show (0 + (1 * ((wSk (wN h) (wB h) (a)) : Int) + 0) : Int) = _ by omega)) (pAll1 (pgF hf 563 (by decide) (by decide) (1600 * ((wSk (wN h) (wB h) (p)) + 1) + 100 * 0 + 3) (by omega) (show (1603 + (1600 * ρ 8 + 0) : Int) = _ by omega) (show (0 + (1 * ρ 13 + 0) : Int) = _ by rw [fA_I (s := 1) (j := 0) (r := 563) (g := 0) (v := 3) (Or.inr ⟨rfl, rfl, by decide⟩) (by decide) (by omega) (by decide), y0]; omega)) (pAll1 (pgF hf 564 (by decide) (by decide) (1600 * ((wSk (wN h) (wB h) (p)) + 1) + 100 * 0 + 3) (by omega) (show (1603 + (1600 * ρ 8 + 0) : Int) = _ by omega) (show (0 + (1 * ρ 14 + 0) : Int) = _ by rw [fA_I (s := 1) (j := 1) (r := 564) (g := 0) (v := 3) (Or.inr ⟨rfl, rfl, by decide⟩) (by decide) (by omega) (by decide), y1]; omega)) (pAll1 (pgF hf 565 (by decide) (by decide) (1600 * ((wSk (wN h) (wB h) (p)) + 1) + 100 * 0 + 5) (by omega) (show (1605 + (1600 * ρ 8 + 0) : Int) = _ by omega) (show (0 + (1 * ρ 15 + 0) : Int) = _ by rw [fA_I (s := 1) (j := 2) (r := 565) (g := 0) (v := 5) (Or.inr ⟨rfl, rfl, by decide⟩) (by decide) (by omega) (by decide), y2]; omega)) (pAll1 (pgF hf 566 (by decide) (by decide) (1600 * ((wSk (wN h) (wB h) (p)) + 1) + 100 * 0 + 0) (by omega) (show (1600 + (1600 * ρ 8 + 0) : Int) = _ by omega) (show (0 + (1 * ρ 16 + 0) : Int) = _ by rw [fA_I (s := 1) (j := 3) (r := 566) (g := 0) (v := 0) (Or.inr ⟨rfl, rfl, by decide⟩) (by decide) (by omega) (by decide), y3]; omega)) (pAll0))))))))
        · refine ⟨rFTc_15, List.mem_of_getElem? (i := 15) rfl, pEnd [ρ 0, ρ 1, ρ 2, ρ 3, ρ 4, ρ 5, ρ 6, ρ 7, ρ 8, ρ 9, ρ 10, ρ 11, ρ 12, ρ 13, ρ 14, ρ 15, ρ 16, ρ 17, (a : Int), ((wSk (wN h) (wB h) (a)) : Int), (wCh (wN h) (wB h) ((wSk (wN h) (wB h) (a))))] rfl ?_ ?_ ?_ ?_⟩
          · intro j hj
            match j, hj with
            | 0, _ => exact q0.symm
            | 1, _ => exact q1.symm
            | 2, _ => exact q2.symm
            | 3, _ => exact q3.symm
            | 4, _ => exact q4.symm
            | 5, _ => exact q5.symm
            | 6, _ => exact q6.symm
            | 7, _ => exact q7.symm
            | 8, _ => exact q8.symm
            | 9, _ => exact q9.symm
            | 10, _ => exact q10.symm
            | 11, _ => exact q11.symm
            | 12, _ => exact q12.symm
            | 13, _ => exact q13.symm
            | 14, _ => exact q14.symm
            | 15, _ => exact q15.symm
            | 16, _ => exact q16.symm
            | 17, _ => exact q17.symm
            | k + 18, hj => exact absurd hj (by show ¬ (k + 18 < 18); omega)
          · intro k b hk
            match k, hk with
            | 0, hk => cases hk; exact (show (0 : Int) ≤ (a : Int) ∧ (a : Int) ≤ (240 : Int) by omega)
            | 1, hk => cases hk; exact (show (0 : Int) ≤ ((wSk (wN h) (wB h) (a)) : Int) ∧ ((wSk (wN h) (wB h) (a)) : Int) ≤ (240 : Int) by omega)
            | 2, hk => cases hk; exact (show (60 : Int) ≤ (wCh (wN h) (wB h) ((wSk (wN h) (wB h) (a)))) ∧ (wCh (wN h) (wB h) ((wSk (wN h) (wB h) (a)))) ≤ (255 : Int) by omega)
            | k + 3, hk => cases hk
          · exact pAll1 (show (0 + (1 * ρ 3 + ((-1) * ρ 8 + 0)) : Int) ≤ 0 by omega) (pAll1 (show (0 + ((-1) * ρ 2 + (1 * ρ 8 + 0)) : Int) ≤ 0 by omega) (pAll1 (show (1 + ((-1) * ρ 2 + (1 * ρ 8 + 0)) : Int) ≤ 0 by omega) (pAll1 (show (1 + ((-1) * ρ 9 + 0) : Int) ≤ 0 by omega) (pAll1 (show ((-109) + (1 * ρ 9 + 0) : Int) ≤ 0 by omega) (pAll1 (show (109 + ((-1) * ρ 9 + 0) : Int) ≤ 0 by omega) (pAll1 (show ((-5) + (1 * ρ 5 + 0) : Int) ≤ 0 by omega) (pAll1 (show (1 + (1 * ρ 8 + ((-1) * (a : Int) + 0)) : Int) ≤ 0 by omega) (pAll1 (show (0 + (1 * (a : Int) + ((-1) * ((wSk (wN h) (wB h) (a)) : Int) + 0)) : Int) ≤ 0 by omega) (pAll1 (show (0 + ((-1) * ρ 2 + (1 * ((wSk (wN h) (wB h) (a)) : Int) + 0)) : Int) ≤ 0 by omega) (pAll1 (show (1 + ((-1) * ρ 2 + (1 * ((wSk (wN h) (wB h) (a)) : Int) + 0)) : Int) ≤ 0 by omega) (pAll1 (show (1 + (1 * ρ 7 + (1 * ((wSk (wN h) (wB h) (a)) : Int) + 0)) : Int) ≤ 0 by omega) (pAll1 (show ((-1) + ((-1) * ρ 7 + ((-1) * ((wSk (wN h) (wB h) (a)) : Int) + 0)) : Int) ≤ 0 by omega) (pAll0)))))))))))))
          · exact pAll1 (pgF hf 531 (by decide) (by decide) (16 * ((wSk (wN h) (wB h) (p)) + 1) + 0) (by omega) (show (16 + (16 * ρ 8 + 0) : Int) = _ by omega) (show (0 + (1 * (a : Int) + 0) : Int) = _ by rw [fA_IT1 (g := 0) (p := (wSk (wN h) (wB h) (p)) + 1) (by decide) (by omega) hn]; omega)) (pAll1 (pgS ho hh (a) (by omega) (show (0 + (1 * (a : Int) + 0) : Int) = _ by omega) (show (0 + (1 * ((wSk (wN h) (wB h) (a)) : Int) + 0) : Int) = _ by omega)) (pAll1 (pgC ho hh ((wSk (wN h) (wB h) (a))) (by omega) (show (0 + (1 * ((wSk (wN h) (wB h) (a)) : Int) + 0) : Int) = _ by omega) (show (0 + (1 * (wCh (wN h) (wB h) ((wSk (wN h) (wB h) (a)))) + 0) : Int) = _ by omega)) (pAll1 (pgS ho hh ((wSk (wN h) (wB h) (a))) (by omega) (show (0 + (1 * ((wSk (wN h) (wB h) (a)) : Int) + 0) : Int) = _ by omega) (show (0 + (1 * ((wSk (wN h) (wB h) (a)) : Int) + 0) : Int) = _ by omega)) (pAll1 (pgF hf 563 (by decide) (by decide) (1600 * ((wSk (wN h) (wB h) (p)) + 1) + 100 * 0 + 3) (by omega) (show (1603 + (1600 * ρ 8 + 0) : Int) = _ by omega) (show (0 + (1 * ρ 13 + 0) : Int) = _ by rw [fA_I (s := 1) (j := 0) (r := 563) (g := 0) (v := 3) (Or.inr ⟨rfl, rfl, by decide⟩) (by decide) (by omega) (by decide), y0]; omega)) (pAll1 (pgF hf 564 (by decide) (by decide) (1600 * ((wSk (wN h) (wB h) (p)) + 1) + 100 * 0 + 3) (by omega) (show (1603 + (1600 * ρ 8 + 0) : Int) = _ by omega) (show (0 + (1 * ρ 14 + 0) : Int) = _ by rw [fA_I (s := 1) (j := 1) (r := 564) (g := 0) (v := 3) (Or.inr ⟨rfl, rfl, by decide⟩) (by decide) (by omega) (by decide), y1]; omega)) (pAll1 (pgF hf 565 (by decide) (by decide) (1600 * ((wSk (wN h) (wB h) (p)) + 1) + 100 * 0 + 5) (by omega) (show (1605 + (1600 * ρ 8 + 0) : Int) = _ by omega) (show (0 + (1 * ρ 15 + 0) : Int) = _ by rw [fA_I (s := 1) (j := 2) (r := 565) (g := 0) (v := 5) (Or.inr ⟨rfl, rfl, by decide⟩) (by decide) (by omega) (by decide), y2]; omega)) (pAll1 (pgF hf 566 (by decide) (by decide) (1600 * ((wSk (wN h) (wB h) (p)) + 1) + 100 * 0 + 0) (by omega) (show (1600 + (1600 * ρ 8 + 0) : Int) = _ by omega) (show (0 + (1 * ρ 16 + 0) : Int) = _ by rw [fA_I (s := 1) (j := 3) (r := 566) (g := 0) (v := 0) (Or.inr ⟨rfl, rfl, by decide⟩) (by decide) (by omega) (by decide), y3]; omega)) (pAll0))))))))
noncomputable def rFTm_0 : sX := (none, [], [], [(0, [(3, 1), (8, (-1))]), (0, [(2, (-1)), (8, 1)]), ((-108), [(9, 1)]), (1, [(7, 1), (8, 1)]), ((-1), [(7, (-1)), (8, (-1))])], [])
noncomputable def rFTm_1 : sX := (none, [], [], [(0, [(3, 1), (8, (-1))]), (0, [(2, (-1)), (8, 1)]), (110, [(9, (-1))]), ((-114), [(9, 1)]), (1, [(7, 1), (8, 1)]), ((-1), [(7, (-1)), (8, (-1))])], [])
noncomputable def rFTm_2 : sX := (none, [], [], [(0, [(3, 1), (8, (-1))]), (0, [(2, (-1)), (8, 1)]), (116, [(9, (-1))]), (1, [(7, 1), (8, 1)]), ((-1), [(7, (-1)), (8, (-1))])], [])
noncomputable def rFTm_3 : sX := (none, [], [], [(0, [(3, 1), (8, (-1))]), (0, [(2, (-1)), (8, 1)]), ((-115), [(9, 1)]), (115, [(9, (-1))]), ((-1), [(4, 1)]), (1, [(4, (-1))]), (1, [(7, 1), (8, 1)]), ((-1), [(7, (-1)), (8, (-1))])], [])
noncomputable def rFTm_4 : sX := (none, [], [], [(0, [(3, 1), (8, (-1))]), (0, [(2, (-1)), (8, 1)]), ((-109), [(9, 1)]), (109, [(9, (-1))]), ((-6), [(5, 1)]), (6, [(5, (-1))]), (1, [(7, 1), (8, 1)]), ((-1), [(7, (-1)), (8, (-1))])], [])
noncomputable def rFTm_5 : sX := (none, [(530, (16, [(8, 16)]), (0, [(18, 1)]))], [((-241), (-1))], [(0, [(3, 1), (8, (-1))]), (0, [(2, (-1)), (8, 1)]), (1, [(2, (-1)), (8, 1)]), (1, [(9, (-1))]), ((-115), [(9, 1)]), (115, [(9, (-1))]), (0, [(4, 1)]), (0, [(4, (-1))]), (0, [(7, 1), (18, (-1))]), (0, [(7, (-1)), (18, 1)])], [])
noncomputable def rFTm_6 : sX := (none, [(530, (16, [(8, 16)]), (0, [(18, 1)])), (500, (0, [(18, 1)]), (0, [(19, 1)])), (501, (0, [(19, 1)]), (0, [(20, 1)])), (500, (0, [(19, 1)]), (0, [(19, 1)])), (560, (1608, [(8, 1600)]), (0, [(10, 1)])), (561, (1607, [(8, 1600)]), (0, [(11, 1)])), (562, (1620, [(8, 1600)]), (0, [(12, 1)])), (532, (21, [(5, 1), (19, 14)]), (1, []))], [(0, 240), (0, 240), (59, 59)], [(0, [(3, 1), (8, (-1))]), (0, [(2, (-1)), (8, 1)]), (1, [(2, (-1)), (8, 1)]), (1, [(9, (-1))]), ((-115), [(9, 1)]), (115, [(9, (-1))]), (0, [(4, 1)]), (0, [(4, (-1))]), (1, [(8, 1), (18, (-1))]), (0, [(18, 1), (19, (-1))]), (0, [(2, (-1)), (19, 1)]), (1, [(2, (-1)), (19, 1)])], [])
noncomputable def rFTm_7 : sX := (none, [(530, (16, [(8, 16)]), (0, [(18, 1)])), (500, (0, [(18, 1)]), (0, [(19, 1)])), (501, (0, [(19, 1)]), (0, [(20, 1)])), (500, (0, [(19, 1)]), (0, [(19, 1)])), (560, (1608, [(8, 1600)]), (0, [(10, 1)])), (561, (1607, [(8, 1600)]), (0, [(11, 1)])), (562, (1620, [(8, 1600)]), (0, [(12, 1)]))], [(0, 240), (0, 240), (0, 0)], [(0, [(3, 1), (8, (-1))]), (0, [(2, (-1)), (8, 1)]), (1, [(2, (-1)), (8, 1)]), (1, [(9, (-1))]), ((-115), [(9, 1)]), (115, [(9, (-1))]), (0, [(4, 1)]), (0, [(4, (-1))]), (1, [(8, 1), (18, (-1))]), (0, [(18, 1), (19, (-1))]), (0, [(2, (-1)), (19, 1)]), (0, [(2, (-1)), (19, 1)]), (0, [(2, 1), (19, (-1))]), (0, [(7, 1), (19, (-1))]), (0, [(7, (-1)), (19, 1)]), (0, [(5, (-1)), (17, 1)]), (0, [(5, 1), (17, (-1))])], [])
noncomputable def rFTm_8 : sX := (none, [(530, (16, [(8, 16)]), (0, [(18, 1)])), (500, (0, [(18, 1)]), (0, [(19, 1)])), (501, (0, [(19, 1)]), (0, [(20, 1)])), (500, (0, [(19, 1)]), (0, [(19, 1)])), (560, (1608, [(8, 1600)]), (0, [(10, 1)])), (561, (1607, [(8, 1600)]), (0, [(11, 1)])), (562, (1620, [(8, 1600)]), (0, [(12, 1)]))], [(0, 240), (0, 240), (1, 58)], [(0, [(3, 1), (8, (-1))]), (0, [(2, (-1)), (8, 1)]), (1, [(2, (-1)), (8, 1)]), (1, [(9, (-1))]), ((-115), [(9, 1)]), (115, [(9, (-1))]), (0, [(4, 1)]), (0, [(4, (-1))]), (1, [(8, 1), (18, (-1))]), (0, [(18, 1), (19, (-1))]), (0, [(2, (-1)), (19, 1)]), (1, [(2, (-1)), (19, 1)]), (1, [(7, 1), (19, 1)]), ((-1), [(7, (-1)), (19, (-1))])], [])
noncomputable def rFTm_9 : sX := (none, [(530, (16, [(8, 16)]), (0, [(18, 1)])), (500, (0, [(18, 1)]), (0, [(19, 1)])), (501, (0, [(19, 1)]), (0, [(20, 1)])), (500, (0, [(19, 1)]), (0, [(19, 1)])), (560, (1608, [(8, 1600)]), (0, [(10, 1)])), (561, (1607, [(8, 1600)]), (0, [(11, 1)])), (562, (1620, [(8, 1600)]), (0, [(12, 1)]))], [(0, 240), (0, 240), (60, 255)], [(0, [(3, 1), (8, (-1))]), (0, [(2, (-1)), (8, 1)]), (1, [(2, (-1)), (8, 1)]), (1, [(9, (-1))]), ((-115), [(9, 1)]), (115, [(9, (-1))]), (0, [(4, 1)]), (0, [(4, (-1))]), (1, [(8, 1), (18, (-1))]), (0, [(18, 1), (19, (-1))]), (0, [(2, (-1)), (19, 1)]), (1, [(2, (-1)), (19, 1)]), (1, [(7, 1), (19, 1)]), ((-1), [(7, (-1)), (19, (-1))])], [])
noncomputable def rFTm_10 : sX := (none, [(531, (16, [(8, 16)]), (0, [(18, 1)]))], [((-241), (-1))], [(0, [(3, 1), (8, (-1))]), (0, [(2, (-1)), (8, 1)]), (1, [(2, (-1)), (8, 1)]), (1, [(9, (-1))]), ((-109), [(9, 1)]), (109, [(9, (-1))]), ((-5), [(5, 1)]), (0, [(7, 1), (18, (-1))]), (0, [(7, (-1)), (18, 1)])], [])
noncomputable def rFTm_11 : sX := (none, [(531, (16, [(8, 16)]), (0, [(18, 1)])), (500, (0, [(18, 1)]), (0, [(19, 1)])), (501, (0, [(19, 1)]), (0, [(20, 1)])), (500, (0, [(19, 1)]), (0, [(19, 1)])), (563, (1603, [(8, 1600)]), (0, [(13, 1)])), (564, (1603, [(8, 1600)]), (0, [(14, 1)])), (565, (1605, [(8, 1600)]), (0, [(15, 1)])), (566, (1600, [(8, 1600)]), (0, [(16, 1)])), (532, (15, [(4, 7), (5, 1), (19, 14)]), (1, []))], [(0, 240), (0, 240), (59, 59)], [(0, [(3, 1), (8, (-1))]), (0, [(2, (-1)), (8, 1)]), (1, [(2, (-1)), (8, 1)]), (1, [(9, (-1))]), ((-109), [(9, 1)]), (109, [(9, (-1))]), ((-5), [(5, 1)]), (1, [(8, 1), (18, (-1))]), (0, [(18, 1), (19, (-1))]), (0, [(2, (-1)), (19, 1)]), (1, [(2, (-1)), (19, 1)])], [])
noncomputable def rFTm_12 : sX := (none, [(531, (16, [(8, 16)]), (0, [(18, 1)])), (500, (0, [(18, 1)]), (0, [(19, 1)])), (501, (0, [(19, 1)]), (0, [(20, 1)])), (500, (0, [(19, 1)]), (0, [(19, 1)])), (563, (1603, [(8, 1600)]), (0, [(13, 1)])), (564, (1603, [(8, 1600)]), (0, [(14, 1)])), (565, (1605, [(8, 1600)]), (0, [(15, 1)])), (566, (1600, [(8, 1600)]), (0, [(16, 1)]))], [(0, 240), (0, 240), (0, 0)], [(0, [(3, 1), (8, (-1))]), (0, [(2, (-1)), (8, 1)]), (1, [(2, (-1)), (8, 1)]), (1, [(9, (-1))]), ((-109), [(9, 1)]), (109, [(9, (-1))]), ((-5), [(5, 1)]), (1, [(8, 1), (18, (-1))]), (0, [(18, 1), (19, (-1))]), (0, [(2, (-1)), (19, 1)]), (0, [(2, (-1)), (19, 1)]), (0, [(2, 1), (19, (-1))]), (0, [(7, 1), (19, (-1))]), (0, [(7, (-1)), (19, 1)]), ((-1), [(5, (-1)), (17, 1)]), (1, [(5, 1), (17, (-1))]), ((-1), [(4, 1)]), (1, [(4, (-1))])], [])
noncomputable def rFTm_13 : sX := (none, [(531, (16, [(8, 16)]), (0, [(18, 1)])), (500, (0, [(18, 1)]), (0, [(19, 1)])), (501, (0, [(19, 1)]), (0, [(20, 1)])), (500, (0, [(19, 1)]), (0, [(19, 1)])), (563, (1603, [(8, 1600)]), (0, [(13, 1)])), (564, (1603, [(8, 1600)]), (0, [(14, 1)])), (565, (1605, [(8, 1600)]), (0, [(15, 1)])), (566, (1600, [(8, 1600)]), (0, [(16, 1)]))], [(0, 240), (0, 240), (0, 0)], [(0, [(3, 1), (8, (-1))]), (0, [(2, (-1)), (8, 1)]), (1, [(2, (-1)), (8, 1)]), (1, [(9, (-1))]), ((-109), [(9, 1)]), (109, [(9, (-1))]), ((-5), [(5, 1)]), (1, [(8, 1), (18, (-1))]), (0, [(18, 1), (19, (-1))]), (0, [(2, (-1)), (19, 1)]), (0, [(2, (-1)), (19, 1)]), (0, [(2, 1), (19, (-1))]), (0, [(7, 1), (19, (-1))]), (0, [(7, (-1)), (19, 1)]), ((-1), [(5, (-1)), (17, 1)]), (1, [(5, 1), (17, (-1))]), (0, [(4, 1)]), (0, [(4, (-1))]), ((-8), [(10, 1)]), (8, [(10, (-1))]), ((-7), [(11, 1)]), (7, [(11, (-1))]), ((-20), [(12, 1)]), (20, [(12, (-1))])], [])
noncomputable def rFTm_14 : sX := (none, [(531, (16, [(8, 16)]), (0, [(18, 1)])), (500, (0, [(18, 1)]), (0, [(19, 1)])), (501, (0, [(19, 1)]), (0, [(20, 1)])), (500, (0, [(19, 1)]), (0, [(19, 1)])), (563, (1603, [(8, 1600)]), (0, [(13, 1)])), (564, (1603, [(8, 1600)]), (0, [(14, 1)])), (565, (1605, [(8, 1600)]), (0, [(15, 1)])), (566, (1600, [(8, 1600)]), (0, [(16, 1)]))], [(0, 240), (0, 240), (1, 58)], [(0, [(3, 1), (8, (-1))]), (0, [(2, (-1)), (8, 1)]), (1, [(2, (-1)), (8, 1)]), (1, [(9, (-1))]), ((-109), [(9, 1)]), (109, [(9, (-1))]), ((-5), [(5, 1)]), (1, [(8, 1), (18, (-1))]), (0, [(18, 1), (19, (-1))]), (0, [(2, (-1)), (19, 1)]), (1, [(2, (-1)), (19, 1)]), (1, [(7, 1), (19, 1)]), ((-1), [(7, (-1)), (19, (-1))])], [])
noncomputable def rFTm_15 : sX := (none, [(531, (16, [(8, 16)]), (0, [(18, 1)])), (500, (0, [(18, 1)]), (0, [(19, 1)])), (501, (0, [(19, 1)]), (0, [(20, 1)])), (500, (0, [(19, 1)]), (0, [(19, 1)])), (563, (1603, [(8, 1600)]), (0, [(13, 1)])), (564, (1603, [(8, 1600)]), (0, [(14, 1)])), (565, (1605, [(8, 1600)]), (0, [(15, 1)])), (566, (1600, [(8, 1600)]), (0, [(16, 1)]))], [(0, 240), (0, 240), (60, 255)], [(0, [(3, 1), (8, (-1))]), (0, [(2, (-1)), (8, 1)]), (1, [(2, (-1)), (8, 1)]), (1, [(9, (-1))]), ((-109), [(9, 1)]), (109, [(9, (-1))]), ((-5), [(5, 1)]), (1, [(8, 1), (18, (-1))]), (0, [(18, 1), (19, (-1))]), (0, [(2, (-1)), (19, 1)]), (1, [(2, (-1)), (19, 1)]), (1, [(7, 1), (19, 1)]), ((-1), [(7, (-1)), (19, (-1))])], [])
noncomputable def rFTm : sQ := (0, ([], [(2, 1013, (0, [])), (2, 1020, (0, [])), (2, 120, (2, [])), (2, 120, (3, [])), (0, 1, (0, [])), (2, 120, (19, [])), (2, 532, (0, [(3, 14), (4, 7), (5, 1)])), (2, 533, (0, [])), (2, 500, (0, [(3, 1)])), (2, 501, (0, [(8, 1)])), (2, 539, (0, [])), (2, 539, (1, [])), (2, 539, (2, [])), (2, 538, (0, [(5, 4)])), (2, 538, (1, [(5, 4)])), (2, 538, (2, [(5, 4)])), (2, 538, (3, [(5, 4)])), (2, 540, (0, []))], [(1, 1), (1, 1), (0, 240), (0, 240), (0, 1), (0, 6), (1, 1), ((-241), 240), (0, 240), (0, 255), (0, 99), (0, 99), (0, 99), (0, 99), (0, 99), (0, 99), (0, 99), (0, 6)], [(0, [(2, (-1)), (3, 1)])], [(0, 0), (1, 1), (2, 2), (3, 3), (4, 4), (5, 5), (6, 6), (7, 7), (8, 8), (9, 9), (10, 10), (11, 11), (12, 12), (13, 13), (14, 14), (15, 15), (16, 16), (17, 17)], (0, [])), [rFTm_0, rFTm_1, rFTm_2, rFTm_3, rFTm_4, rFTm_5, rFTm_6, rFTm_7, rFTm_8, rFTm_9, rFTm_10, rFTm_11, rFTm_12, rFTm_13, rFTm_14, rFTm_15], [], 0)
set_option maxHeartbeats 8000000 in
theorem rFTm_ok : pRul pReg pG pgv (rFTm) := by
  intro loc h ρ ρ0 hG hM
  have hM : sMt pReg pgv ρ ρ0 (sAs (rFTm).2.1) loc [] h := hM
  have q0 : ρ0 1 = ρ 0 := (hM.2.2.2.2.2 (1, sY 0) (List.mem_of_getElem? (i := 1) rfl)).trans (sY_v ρ 0)
  have q1 : ρ0 2 = ρ 1 := (hM.2.2.2.2.2 (2, sY 1) (List.mem_of_getElem? (i := 2) rfl)).trans (sY_v ρ 1)
  have q2 : ρ0 3 = ρ 2 := (hM.2.2.2.2.2 (3, sY 2) (List.mem_of_getElem? (i := 3) rfl)).trans (sY_v ρ 2)
  have q3 : ρ0 4 = ρ 3 := (hM.2.2.2.2.2 (4, sY 3) (List.mem_of_getElem? (i := 4) rfl)).trans (sY_v ρ 3)
  have q4 : ρ0 5 = ρ 4 := (hM.2.2.2.2.2 (5, sY 4) (List.mem_of_getElem? (i := 5) rfl)).trans (sY_v ρ 4)
  have q5 : ρ0 6 = ρ 5 := (hM.2.2.2.2.2 (6, sY 5) (List.mem_of_getElem? (i := 6) rfl)).trans (sY_v ρ 5)
  have q6 : ρ0 7 = ρ 6 := (hM.2.2.2.2.2 (7, sY 6) (List.mem_of_getElem? (i := 7) rfl)).trans (sY_v ρ 6)
  have q7 : ρ0 8 = ρ 7 := (hM.2.2.2.2.2 (8, sY 7) (List.mem_of_getElem? (i := 8) rfl)).trans (sY_v ρ 7)
  have q8 : ρ0 9 = ρ 8 := (hM.2.2.2.2.2 (9, sY 8) (List.mem_of_getElem? (i := 9) rfl)).trans (sY_v ρ 8)
  have q9 : ρ0 10 = ρ 9 := (hM.2.2.2.2.2 (10, sY 9) (List.mem_of_getElem? (i := 10) rfl)).trans (sY_v ρ 9)
  have q10 : ρ0 11 = ρ 10 := (hM.2.2.2.2.2 (11, sY 10) (List.mem_of_getElem? (i := 11) rfl)).trans (sY_v ρ 10)
  have q11 : ρ0 12 = ρ 11 := (hM.2.2.2.2.2 (12, sY 11) (List.mem_of_getElem? (i := 12) rfl)).trans (sY_v ρ 11)
  have q12 : ρ0 13 = ρ 12 := (hM.2.2.2.2.2 (13, sY 12) (List.mem_of_getElem? (i := 13) rfl)).trans (sY_v ρ 12)
  have q13 : ρ0 14 = ρ 13 := (hM.2.2.2.2.2 (14, sY 13) (List.mem_of_getElem? (i := 14) rfl)).trans (sY_v ρ 13)
  have q14 : ρ0 15 = ρ 14 := (hM.2.2.2.2.2 (15, sY 14) (List.mem_of_getElem? (i := 15) rfl)).trans (sY_v ρ 14)
  have q15 : ρ0 16 = ρ 15 := (hM.2.2.2.2.2 (16, sY 15) (List.mem_of_getElem? (i := 16) rfl)).trans (sY_v ρ 15)
  have q16 : ρ0 17 = ρ 16 := (hM.2.2.2.2.2 (17, sY 16) (List.mem_of_getElem? (i := 17) rfl)).trans (sY_v ρ 16)
  have q17 : ρ0 18 = ρ 17 := (hM.2.2.2.2.2 (18, sY 17) (List.mem_of_getElem? (i := 18) rfl)).trans (sY_v ρ 17)
  have hL : ∀ j, j < 18 → pL [ρ 0, ρ 1, ρ 2, ρ 3, ρ 4, ρ 5, ρ 6, ρ 7, ρ 8, ρ 9, ρ 10, ρ 11, ρ 12, ρ 13, ρ 14, ρ 15, ρ 16, ρ 17] j = ρ0 (j + 1) := by
    intro j hj
    match j, hj with
    | 0, _ => exact q0.symm
    | 1, _ => exact q1.symm
    | 2, _ => exact q2.symm
    | 3, _ => exact q3.symm
    | 4, _ => exact q4.symm
    | 5, _ => exact q5.symm
    | 6, _ => exact q6.symm
    | 7, _ => exact q7.symm
    | 8, _ => exact q8.symm
    | 9, _ => exact q9.symm
    | 10, _ => exact q10.symm
    | 11, _ => exact q11.symm
    | 12, _ => exact q12.symm
    | 13, _ => exact q13.symm
    | 14, _ => exact q14.symm
    | 15, _ => exact q15.symm
    | 16, _ => exact q16.symm
    | 17, _ => exact q17.symm
    | k + 18, hj => omega
  have b0 : (1 : Int) ≤ ρ 0 ∧ ρ 0 ≤ 1 := hM.2.2.2.1 0 (1, 1) rfl
  have b1 : (1 : Int) ≤ ρ 1 ∧ ρ 1 ≤ 1 := hM.2.2.2.1 1 (1, 1) rfl
  have b2 : (0 : Int) ≤ ρ 2 ∧ ρ 2 ≤ 240 := hM.2.2.2.1 2 (0, 240) rfl
  have b3 : (0 : Int) ≤ ρ 3 ∧ ρ 3 ≤ 240 := hM.2.2.2.1 3 (0, 240) rfl
  have b4 : (0 : Int) ≤ ρ 4 ∧ ρ 4 ≤ 1 := hM.2.2.2.1 4 (0, 1) rfl
  have b5 : (0 : Int) ≤ ρ 5 ∧ ρ 5 ≤ 6 := hM.2.2.2.1 5 (0, 6) rfl
  have b6 : (1 : Int) ≤ ρ 6 ∧ ρ 6 ≤ 1 := hM.2.2.2.1 6 (1, 1) rfl
  have b7 : ((-241) : Int) ≤ ρ 7 ∧ ρ 7 ≤ 240 := hM.2.2.2.1 7 ((-241), 240) rfl
  have b8 : (0 : Int) ≤ ρ 8 ∧ ρ 8 ≤ 240 := hM.2.2.2.1 8 (0, 240) rfl
  have b9 : (0 : Int) ≤ ρ 9 ∧ ρ 9 ≤ 255 := hM.2.2.2.1 9 (0, 255) rfl
  have b10 : (0 : Int) ≤ ρ 10 ∧ ρ 10 ≤ 99 := hM.2.2.2.1 10 (0, 99) rfl
  have b11 : (0 : Int) ≤ ρ 11 ∧ ρ 11 ≤ 99 := hM.2.2.2.1 11 (0, 99) rfl
  have b12 : (0 : Int) ≤ ρ 12 ∧ ρ 12 ≤ 99 := hM.2.2.2.1 12 (0, 99) rfl
  have b13 : (0 : Int) ≤ ρ 13 ∧ ρ 13 ≤ 99 := hM.2.2.2.1 13 (0, 99) rfl
  have b14 : (0 : Int) ≤ ρ 14 ∧ ρ 14 ≤ 99 := hM.2.2.2.1 14 (0, 99) rfl
  have b15 : (0 : Int) ≤ ρ 15 ∧ ρ 15 ≤ 99 := hM.2.2.2.1 15 (0, 99) rfl
  have b16 : (0 : Int) ≤ ρ 16 ∧ ρ 16 ≤ 99 := hM.2.2.2.1 16 (0, 99) rfl
  have b17 : (0 : Int) ≤ ρ 17 ∧ ρ 17 ≤ 6 := hM.2.2.2.1 17 (0, 6) rfl
  have c0 : (0 + ((-1) * ρ 2 + (1 * ρ 3 + 0)) : Int) ≤ 0 := hM.2.2.2.2.1 (0, [(2, (-1)), (3, 1)]) (List.mem_of_getElem? (i := 0) rfl)
  obtain ⟨ho, hs, hh⟩ := pTold13 hM 0 (0, []) rfl b0.1
  have hn := ho.1
  obtain ⟨-, -, hf⟩ := pTold20 hM 1 (0, []) rfl b1.1
  have en : ρ 2 = (wN h : Int) := (pPl hM 2 120 (2, []) rfl (by omega) 440 2 (by decide +kernel) rfl).symm.trans hs.1
  obtain ⟨p, ep⟩ : ∃ p : Nat, ρ 3 = (p : Int) := ⟨(ρ 3).toNat, by omega⟩
  have hp : p ≤ wN h := by omega
  obtain ⟨s1, s2⟩ := wSk_le (B := wB h) hp
  obtain ⟨hr, ehr⟩ : ∃ hr : Nat, ρ 4 = (hr : Int) := ⟨(ρ 4).toNat, by omega⟩
  obtain ⟨m, em⟩ : ∃ m : Nat, ρ 5 = (m : Int) := ⟨(ρ 5).toNat, by omega⟩
  have eq : ρ 8 = ((wSk (wN h) (wB h) (p)) : Int) := pfS hM ho hh 8 (0, [(3, 1)]) rfl (p := p) (by omega) (by show (0 + (1 * ρ 3 + 0) : Int) = _; omega)
  have ec : ρ 9 = (wCh (wN h) (wB h) ((wSk (wN h) (wB h) (p)))) := pfC hM ho hh 9 (0, [(8, 1)]) rfl (p := (wSk (wN h) (wB h) (p))) (by omega) (by show (0 + (1 * ρ 8 + 0) : Int) = _; omega)
  have cbc := wCh_bd ho ((wSk (wN h) (wB h) (p)))
  have clc : (wCh (wN h) (wB h) ((wSk (wN h) (wB h) (p)))) ≠ 0 → (wSk (wN h) (wB h) (p)) < wN h := wCh_lt
  have eo : ρ 6 = yB (fOn (wN h) (wB h) hr m p) := (pfF hM hf 6 532 (0, [(3, 14), (4, 7), (5, 1)]) rfl (by decide) (by decide) (14 * p + 7 * hr + m) (by omega) (by show (0 + (14 * ρ 3 + (7 * ρ 4 + (1 * ρ 5 + 0))) : Int) = _; omega)).trans (fA_ON (by omega) (by omega))
  have hon : fOn (wN h) (wB h) hr m p := yB_p eo.symm b6.1
  have er : ρ 7 = (fW (wN h) (wB h) 0 0 0).1 := (pfF hM hf 7 533 (0, []) rfl (by decide) (by decide) (0) (by omega) (by show (0 + 0 : Int) = _; omega)).trans (fA_FT hn)
  have eR0 : ρ 10 = fRV (wN h) (wB h) 0 := (pfF hM hf 10 539 (0, []) rfl (by decide) (by decide) (0) (by omega) (by show (0 + 0 : Int) = _; omega)).trans (fA_RV (k := 0) (by decide))
  have eR1 : ρ 11 = fRV (wN h) (wB h) 1 := (pfF hM hf 11 539 (1, []) rfl (by decide) (by decide) (1) (by omega) (by show (1 + 0 : Int) = _; omega)).trans (fA_RV (k := 1) (by decide))
  have eR2 : ρ 12 = fRV (wN h) (wB h) 2 := (pfF hM hf 12 539 (2, []) rfl (by decide) (by decide) (2) (by omega) (by show (2 + 0 : Int) = _; omega)).trans (fA_RV (k := 2) (by decide))
  have eV0 : ρ 13 = fMV (wN h) (wB h) m 0 := (pfF hM hf 13 538 (0, [(5, 4)]) rfl (by decide) (by decide) (4 * m + 0) (by omega) (by show (0 + (4 * ρ 5 + 0) : Int) = _; omega)).trans (fA_MV (i := m) (k := 0) (by omega) (by decide))
  have eV1 : ρ 14 = fMV (wN h) (wB h) m 1 := (pfF hM hf 14 538 (1, [(5, 4)]) rfl (by decide) (by decide) (4 * m + 1) (by omega) (by show (1 + (4 * ρ 5 + 0) : Int) = _; omega)).trans (fA_MV (i := m) (k := 1) (by omega) (by decide))
  have eV2 : ρ 15 = fMV (wN h) (wB h) m 2 := (pfF hM hf 15 538 (2, [(5, 4)]) rfl (by decide) (by decide) (4 * m + 2) (by omega) (by show (2 + (4 * ρ 5 + 0) : Int) = _; omega)).trans (fA_MV (i := m) (k := 2) (by omega) (by decide))
  have eV3 : ρ 16 = fMV (wN h) (wB h) m 3 := (pfF hM hf 16 538 (3, [(5, 4)]) rfl (by decide) (by decide) (4 * m + 3) (by omega) (by show (3 + (4 * ρ 5 + 0) : Int) = _; omega)).trans (fA_MV (i := m) (k := 3) (by omega) (by decide))
  have efm : ρ 17 = ((fW (wN h) (wB h) 0 0 0).2.1 : Int) := (pfF hM hf 17 540 (0, []) rfl (by decide) (by decide) (0) (by omega) (by show (0 + 0 : Int) = _; omega)).trans (fA_FM)
  have hz : ∀ x, x < wN h → wCh (wN h) (wB h) x ≠ 0 := fun x hx => by have := (wCh_bd ho x).2.2 hx; omega
  rcases fFt_cs hr m p hp (by omega) (by omega) hz hon with ⟨x1, x2, x3⟩ | ⟨x1, x2, hq, x3⟩ | ⟨x1, x2, x0, hq, x3⟩
  · rw [x3] at er
    unfold wFl at er
    have hu : (wCh (wN h) (wB h) ((wSk (wN h) (wB h) (p)))) ≤ 108 ∨ (110 ≤ (wCh (wN h) (wB h) ((wSk (wN h) (wB h) (p)))) ∧ (wCh (wN h) (wB h) ((wSk (wN h) (wB h) (p)))) ≤ 114) ∨ 116 ≤ (wCh (wN h) (wB h) ((wSk (wN h) (wB h) (p)))) ∨ ((wCh (wN h) (wB h) ((wSk (wN h) (wB h) (p)))) = 115 ∧ hr = 1) ∨ ((wCh (wN h) (wB h) ((wSk (wN h) (wB h) (p)))) = 109 ∧ m = 6) := by omega
    rcases hu with hu | hu | hu | hu | hu
    · refine ⟨rFTm_0, List.mem_of_getElem? (i := 0) rfl, pEnd [ρ 0, ρ 1, ρ 2, ρ 3, ρ 4, ρ 5, ρ 6, ρ 7, ρ 8, ρ 9, ρ 10, ρ 11, ρ 12, ρ 13, ρ 14, ρ 15, ρ 16, ρ 17] rfl ?_ ?_ ?_ ?_⟩
      · exact hL
      · intro k b hk
        cases hk
      · exact pAll1 (show (0 + (1 * ρ 3 + ((-1) * ρ 8 + 0)) : Int) ≤ 0 by omega) (pAll1 (show (0 + ((-1) * ρ 2 + (1 * ρ 8 + 0)) : Int) ≤ 0 by omega) (pAll1 (show ((-108) + (1 * ρ 9 + 0) : Int) ≤ 0 by omega) (pAll1 (show (1 + (1 * ρ 7 + (1 * ρ 8 + 0)) : Int) ≤ 0 by omega) (pAll1 (show ((-1) + ((-1) * ρ 7 + ((-1) * ρ 8 + 0)) : Int) ≤ 0 by omega) (pAll0)))))
      · exact pAll0
    · refine ⟨rFTm_1, List.mem_of_getElem? (i := 1) rfl, pEnd [ρ 0, ρ 1, ρ 2, ρ 3, ρ 4, ρ 5, ρ 6, ρ 7, ρ 8, ρ 9, ρ 10, ρ 11, ρ 12, ρ 13, ρ 14, ρ 15, ρ 16, ρ 17] rfl ?_ ?_ ?_ ?_⟩
      · exact hL
      · intro k b hk
        cases hk
      · exact pAll1 (show (0 + (1 * ρ 3 + ((-1) * ρ 8 + 0)) : Int) ≤ 0 by omega) (pAll1 (show (0 + ((-1) * ρ 2 + (1 * ρ 8 + 0)) : Int) ≤ 0 by omega) (pAll1 (show (110 + ((-1) * ρ 9 + 0) : Int) ≤ 0 by omega) (pAll1 (show ((-114) + (1 * ρ 9 + 0) : Int) ≤ 0 by omega) (pAll1 (show (1 + (1 * ρ 7 + (1 * ρ 8 + 0)) : Int) ≤ 0 by omega) (pAll1 (show ((-1) + ((-1) * ρ 7 + ((-1) * ρ 8 + 0)) : Int) ≤ 0 by omega) (pAll0))))))
      · exact pAll0
    · refine ⟨rFTm_2, List.mem_of_getElem? (i := 2) rfl, pEnd [ρ 0, ρ 1, ρ 2, ρ 3, ρ 4, ρ 5, ρ 6, ρ 7, ρ 8, ρ 9, ρ 10, ρ 11, ρ 12, ρ 13, ρ 14, ρ 15, ρ 16, ρ 17] rfl ?_ ?_ ?_ ?_⟩
      · exact hL
      · intro k b hk
        cases hk
      · exact pAll1 (show (0 + (1 * ρ 3 + ((-1) * ρ 8 + 0)) : Int) ≤ 0 by omega) (pAll1 (show (0 + ((-1) * ρ 2 + (1 * ρ 8 + 0)) : Int) ≤ 0 by omega) (pAll1 (show (116 + ((-1) * ρ 9 + 0) : Int) ≤ 0 by omega) (pAll1 (show (1 + (1 * ρ 7 + (1 * ρ 8 + 0)) : Int) ≤ 0 by omega) (pAll1 (show ((-1) + ((-1) * ρ 7 + ((-1) * ρ 8 + 0)) : Int) ≤ 0 by omega) (pAll0)))))
      · exact pAll0
    · refine ⟨rFTm_3, List.mem_of_getElem? (i := 3) rfl, pEnd [ρ 0, ρ 1, ρ 2, ρ 3, ρ 4, ρ 5, ρ 6, ρ 7, ρ 8, ρ 9, ρ 10, ρ 11, ρ 12, ρ 13, ρ 14, ρ 15, ρ 16, ρ 17] rfl ?_ ?_ ?_ ?_⟩
      · exact hL
      · intro k b hk
        cases hk
      · exact pAll1 (show (0 + (1 * ρ 3 + ((-1) * ρ 8 + 0)) : Int) ≤ 0 by omega) (pAll1 (show (0 + ((-1) * ρ 2 + (1 * ρ 8 + 0)) : Int) ≤ 0 by omega) (pAll1 (show ((-115) + (1 * ρ 9 + 0) : Int) ≤ 0 by omega) (pAll1 (show (115 + ((-1) * ρ 9 + 0) : Int) ≤ 0 by omega) (pAll1 (show ((-1) + (1 * ρ 4 + 0) : Int) ≤ 0 by omega) (pAll1 (show (1 + ((-1) * ρ 4 + 0) : Int) ≤ 0 by omega) (pAll1 (show (1 + (1 * ρ 7 + (1 * ρ 8 + 0)) : Int) ≤ 0 by omega) (pAll1 (show ((-1) + ((-1) * ρ 7 + ((-1) * ρ 8 + 0)) : Int) ≤ 0 by omega) (pAll0))))))))
      · exact pAll0
    · refine ⟨rFTm_4, List.mem_of_getElem? (i := 4) rfl, pEnd [ρ 0, ρ 1, ρ 2, ρ 3, ρ 4, ρ 5, ρ 6, ρ 7, ρ 8, ρ 9, ρ 10, ρ 11, ρ 12, ρ 13, ρ 14, ρ 15, ρ 16, ρ 17] rfl ?_ ?_ ?_ ?_⟩
      · exact hL
      · intro k b hk
        cases hk
      · exact pAll1 (show (0 + (1 * ρ 3 + ((-1) * ρ 8 + 0)) : Int) ≤ 0 by omega) (pAll1 (show (0 + ((-1) * ρ 2 + (1 * ρ 8 + 0)) : Int) ≤ 0 by omega) (pAll1 (show ((-109) + (1 * ρ 9 + 0) : Int) ≤ 0 by omega) (pAll1 (show (109 + ((-1) * ρ 9 + 0) : Int) ≤ 0 by omega) (pAll1 (show ((-6) + (1 * ρ 5 + 0) : Int) ≤ 0 by omega) (pAll1 (show (6 + ((-1) * ρ 5 + 0) : Int) ≤ 0 by omega) (pAll1 (show (1 + (1 * ρ 7 + (1 * ρ 8 + 0)) : Int) ≤ 0 by omega) (pAll1 (show ((-1) + ((-1) * ρ 7 + ((-1) * ρ 8 + 0)) : Int) ≤ 0 by omega) (pAll0))))))))
      · exact pAll0
  · rcases x3 with ⟨a1, a2⟩ | ⟨a, a1, a2, a3, a4, a5⟩
    · have gd := (fI_gd (n := wN h) (B := wB h) 0 0 ((wSk (wN h) (wB h) (p)) + 1) (by omega)).1 a1
      rw [a2] at er
      refine ⟨rFTm_5, List.mem_of_getElem? (i := 5) rfl, pEnd [ρ 0, ρ 1, ρ 2, ρ 3, ρ 4, ρ 5, ρ 6, ρ 7, ρ 8, ρ 9, ρ 10, ρ 11, ρ 12, ρ 13, ρ 14, ρ 15, ρ 16, ρ 17, (fI (wN h) (wB h) 0 (0) ((wSk (wN h) (wB h) (p)) + 1))] rfl ?_ ?_ ?_ ?_⟩
      · intro j hj
        match j, hj with
        | 0, _ => exact q0.symm
        | 1, _ => exact q1.symm
        | 2, _ => exact q2.symm
        | 3, _ => exact q3.symm
        | 4, _ => exact q4.symm
        | 5, _ => exact q5.symm
        | 6, _ => exact q6.symm
        | 7, _ => exact q7.symm
        | 8, _ => exact q8.symm
        | 9, _ => exact q9.symm
        | 10, _ => exact q10.symm
        | 11, _ => exact q11.symm
        | 12, _ => exact q12.symm
        | 13, _ => exact q13.symm
        | 14, _ => exact q14.symm
        | 15, _ => exact q15.symm
        | 16, _ => exact q16.symm
        | 17, _ => exact q17.symm
        | k + 18, hj => exact absurd hj (by show ¬ (k + 18 < 18); omega)
      · intro k b hk
        match k, hk with
        | 0, hk => cases hk; exact (show ((-241) : Int) ≤ (fI (wN h) (wB h) 0 (0) ((wSk (wN h) (wB h) (p)) + 1)) ∧ (fI (wN h) (wB h) 0 (0) ((wSk (wN h) (wB h) (p)) + 1)) ≤ ((-1) : Int) by omega)
        | k + 1, hk => cases hk
      · exact pAll1 (show (0 + (1 * ρ 3 + ((-1) * ρ 8 + 0)) : Int) ≤ 0 by omega) (pAll1 (show (0 + ((-1) * ρ 2 + (1 * ρ 8 + 0)) : Int) ≤ 0 by omega) (pAll1 (show (1 + ((-1) * ρ 2 + (1 * ρ 8 + 0)) : Int) ≤ 0 by omega) (pAll1 (show (1 + ((-1) * ρ 9 + 0) : Int) ≤ 0 by omega) (pAll1 (show ((-115) + (1 * ρ 9 + 0) : Int) ≤ 0 by omega) (pAll1 (show (115 + ((-1) * ρ 9 + 0) : Int) ≤ 0 by omega) (pAll1 (show (0 + (1 * ρ 4 + 0) : Int) ≤ 0 by omega) (pAll1 (show (0 + ((-1) * ρ 4 + 0) : Int) ≤ 0 by omega) (pAll1 (show (0 + (1 * ρ 7 + ((-1) * (fI (wN h) (wB h) 0 (0) ((wSk (wN h) (wB h) (p)) + 1)) + 0)) : Int) ≤ 0 by omega) (pAll1 (show (0 + ((-1) * ρ 7 + (1 * (fI (wN h) (wB h) 0 (0) ((wSk (wN h) (wB h) (p)) + 1)) + 0)) : Int) ≤ 0 by omega) (pAll0))))))))))
      · exact pAll1 (pgF hf 530 (by decide) (by decide) (16 * ((wSk (wN h) (wB h) (p)) + 1) + 0) (by omega) (show (16 + (16 * ρ 8 + 0) : Int) = _ by omega) (show (0 + (1 * (fI (wN h) (wB h) 0 (0) ((wSk (wN h) (wB h) (p)) + 1)) + 0) : Int) = _ by rw [fA_IT0 (g := 0) (p := (wSk (wN h) (wB h) (p)) + 1) (by decide) (by omega) hn]; omega)) (pAll0)
    · obtain ⟨t1, t2⟩ := wSk_le (B := wB h) a3
      have cs := wCh_bd ho (wSk (wN h) (wB h) (a))
      have hi := wSk_id (B := wB h) a3
      have y0 : (fV (wN h) (wB h) 0 0 (0) ((wSk (wN h) (wB h) (p)) + 1) ((8 : Nat) : Int)) = fRV (wN h) (wB h) 0 := a4 0
      have y1 : (fV (wN h) (wB h) 0 1 (0) ((wSk (wN h) (wB h) (p)) + 1) ((7 : Nat) : Int)) = fRV (wN h) (wB h) 1 := a4 1
      have y2 : (fV (wN h) (wB h) 0 2 (0) ((wSk (wN h) (wB h) (p)) + 1) ((20 : Nat) : Int)) = fRV (wN h) (wB h) 2 := a4 2
      rcases a5 with ⟨f1, f2, f3⟩ | ⟨f1, f2, f3, f4⟩ | ⟨f1, f2, f3, f4⟩
      · refine ⟨rFTm_6, List.mem_of_getElem? (i := 6) rfl, pEnd [ρ 0, ρ 1, ρ 2, ρ 3, ρ 4, ρ 5, ρ 6, ρ 7, ρ 8, ρ 9, ρ 10, ρ 11, ρ 12, ρ 13, ρ 14, ρ 15, ρ 16, ρ 17, (a : Int), ((wSk (wN h) (wB h) (a)) : Int), (wCh (wN h) (wB h) ((wSk (wN h) (wB h) (a))))] rfl ?_ ?_ ?_ ?_⟩
        · intro j hj
          match j, hj with
          | 0, _ => exact q0.symm
          | 1, _ => exact q1.symm
          | 2, _ => exact q2.symm
          | 3, _ => exact q3.symm
          | 4, _ => exact q4.symm
          | 5, _ => exact q5.symm
          | 6, _ => exact q6.symm
          | 7, _ => exact q7.symm
          | 8, _ => exact q8.symm
          | 9, _ => exact q9.symm
          | 10, _ => exact q10.symm
          | 11, _ => exact q11.symm
          | 12, _ => exact q12.symm
          | 13, _ => exact q13.symm
          | 14, _ => exact q14.symm
          | 15, _ => exact q15.symm
          | 16, _ => exact q16.symm
          | 17, _ => exact q17.symm
          | k + 18, hj => exact absurd hj (by show ¬ (k + 18 < 18); omega)
        · intro k b hk
          match k, hk with
          | 0, hk => cases hk; exact (show (0 : Int) ≤ (a : Int) ∧ (a : Int) ≤ (240 : Int) by omega)
          | 1, hk => cases hk; exact (show (0 : Int) ≤ ((wSk (wN h) (wB h) (a)) : Int) ∧ ((wSk (wN h) (wB h) (a)) : Int) ≤ (240 : Int) by omega)
          | 2, hk => cases hk; exact (show (59 : Int) ≤ (wCh (wN h) (wB h) ((wSk (wN h) (wB h) (a)))) ∧ (wCh (wN h) (wB h) ((wSk (wN h) (wB h) (a)))) ≤ (59 : Int) by omega)
          | k + 3, hk => cases hk
        · exact pAll1 (show (0 + (1 * ρ 3 + ((-1) * ρ 8 + 0)) : Int) ≤ 0 by omega) (pAll1 (show (0 + ((-1) * ρ 2 + (1 * ρ 8 + 0)) : Int) ≤ 0 by omega) (pAll1 (show (1 + ((-1) * ρ 2 + (1 * ρ 8 + 0)) : Int) ≤ 0 by omega) (pAll1 (show (1 + ((-1) * ρ 9 + 0) : Int) ≤ 0 by omega) (pAll1 (show ((-115) + (1 * ρ 9 + 0) : Int) ≤ 0 by omega) (pAll1 (show (115 + ((-1) * ρ 9 + 0) : Int) ≤ 0 by omega) (pAll1 (show (0 + (1 * ρ 4 + 0) : Int) ≤ 0 by omega) (pAll1 (show (0 + ((-1) * ρ 4 + 0) : Int) ≤ 0 by omega) (pAll1 (show (1 + (1 * ρ 8 + ((-1) * (a : Int) + 0)) : Int) ≤ 0 by omega) (pAll1 (show (0 + (1 * (a : Int) + ((-1) * ((wSk (wN h) (wB h) (a)) : Int) + 0)) : Int) ≤ 0 by omega) (pAll1 (show (0 + ((-1) * ρ 2 + (1 * ((wSk (wN h) (wB h) (a)) : Int) + 0)) : Int) ≤ 0 by omega) (pAll1 (show (1 + ((-1) * ρ 2 + (1 * ((wSk (wN h) (wB h) (a)) : Int) + 0)) : Int) ≤ 0 by omega) (pAll0))))))))))))
        · exact pAll1 (pgF hf 530 (by decide) (by decide) (16 * ((wSk (wN h) (wB h) (p)) + 1) + 0) (by omega) (show (16 + (16 * ρ 8 + 0) : Int) = _ by omega) (show (0 + (1 * (a : Int) + 0) : Int) = _ by rw [fA_IT0 (g := 0) (p := (wSk (wN h) (wB h) (p)) + 1) (by decide) (by omega) hn]; omega)) (pAll1 (pgS ho hh (a) (by omega) (show (0 + (1 * (a : Int) + 0) : Int) = _ by omega) (show (0 + (1 * ((wSk (wN h) (wB h) (a)) : Int) + 0) : Int) = _ by omega)) (pAll1 (pgC ho hh ((wSk (wN h) (wB h) (a))) (by omega) (show (0 + (1 * ((wSk (wN h) (wB h) (a)) : Int) + 0) : Int) = _ by omega) (show (0 + (1 * (wCh (wN h) (wB h) ((wSk (wN h) (wB h) (a)))) + 0) : Int) = _ by omega)) (pAll1 (pgS ho hh ((wSk (wN h) (wB h) (a))) (by omega) (show (0 + (1 * ((wSk (wN h) (wB h) (a)) : Int) + 0) : Int) = _ by omega) (show (0 + (1 * ((wSk (wN h) (wB h) (a)) : Int) + 0) : Int) = _ by omega)) (pAll1 (pgF hf 560 (by decide) (by decide) (1600 * ((wSk (wN h) (wB h) (p)) + 1) + 100 * 0 + 8) (by omega) (show (1608 + (1600 * ρ 8 + 0) : Int) = _ by omega) (show (0 + (1 * ρ 10 + 0) : Int) = _ by rw [fA_I (s := 0) (j := 0) (r := 560) (g := 0) (v := 8) (Or.inl ⟨rfl, rfl, by decide⟩) (by decide) (by omega) (by decide), y0]; omega)) (pAll1 (pgF hf 561 (by decide) (by decide) (1600 * ((wSk (wN h) (wB h) (p)) + 1) + 100 * 0 + 7) (by omega) (show (1607 + (1600 * ρ 8 + 0) : Int) = _ by omega) (show (0 + (1 * ρ 11 + 0) : Int) = _ by rw [fA_I (s := 0) (j := 1) (r := 561) (g := 0) (v := 7) (Or.inl ⟨rfl, rfl, by decide⟩) (by decide) (by omega) (by decide), y1]; omega)) (pAll1 (pgF hf 562 (by decide) (by decide) (1600 * ((wSk (wN h) (wB h) (p)) + 1) + 100 * 0 + 20) (by omega) (show (1620 + (1600 * ρ 8 + 0) : Int) = _ by omega) (show (0 + (1 * ρ 12 + 0) : Int) = _ by rw [fA_I (s := 0) (j := 2) (r := 562) (g := 0) (v := 20) (Or.inl ⟨rfl, rfl, by decide⟩) (by decide) (by omega) (by decide), y2]; omega)) (pAll1 (pgF hf 532 (by decide) (by decide) (14 * ((wSk (wN h) (wB h) (a)) + 1) + 7 * 1 + m) (by omega) (show (21 + (1 * ρ 5 + (14 * ((wSk (wN h) (wB h) (a)) : Int) + 0)) : Int) = _ by omega) (show (1 + 0 : Int) = _ by rw [fA_ON (by omega) (by omega), yB_1.mpr f3]; omega)) (pAll0))))))))
      · rw [f3] at er
        rw [f4] at efm
        refine ⟨rFTm_7, List.mem_of_getElem? (i := 7) rfl, pEnd [ρ 0, ρ 1, ρ 2, ρ 3, ρ 4, ρ 5, ρ 6, ρ 7, ρ 8, ρ 9, ρ 10, ρ 11, ρ 12, ρ 13, ρ 14, ρ 15, ρ 16, ρ 17, (a : Int), ((wSk (wN h) (wB h) (a)) : Int), (wCh (wN h) (wB h) ((wSk (wN h) (wB h) (a))))] rfl ?_ ?_ ?_ ?_⟩
        · intro j hj
          match j, hj with
          | 0, _ => exact q0.symm
          | 1, _ => exact q1.symm
          | 2, _ => exact q2.symm
          | 3, _ => exact q3.symm
          | 4, _ => exact q4.symm
          | 5, _ => exact q5.symm
          | 6, _ => exact q6.symm
          | 7, _ => exact q7.symm
          | 8, _ => exact q8.symm
          | 9, _ => exact q9.symm
          | 10, _ => exact q10.symm
          | 11, _ => exact q11.symm
          | 12, _ => exact q12.symm
          | 13, _ => exact q13.symm
          | 14, _ => exact q14.symm
          | 15, _ => exact q15.symm
          | 16, _ => exact q16.symm
          | 17, _ => exact q17.symm
          | k + 18, hj => exact absurd hj (by show ¬ (k + 18 < 18); omega)
        · intro k b hk
          match k, hk with
          | 0, hk => cases hk; exact (show (0 : Int) ≤ (a : Int) ∧ (a : Int) ≤ (240 : Int) by omega)
          | 1, hk => cases hk; exact (show (0 : Int) ≤ ((wSk (wN h) (wB h) (a)) : Int) ∧ ((wSk (wN h) (wB h) (a)) : Int) ≤ (240 : Int) by omega)
          | 2, hk => cases hk; exact (show (0 : Int) ≤ (wCh (wN h) (wB h) ((wSk (wN h) (wB h) (a)))) ∧ (wCh (wN h) (wB h) ((wSk (wN h) (wB h) (a)))) ≤ (0 : Int) by omega)
          | k + 3, hk => cases hk
        · exact pAll1 (show (0 + (1 * ρ 3 + ((-1) * ρ 8 + 0)) : Int) ≤ 0 by omega) (pAll1 (show (0 + ((-1) * ρ 2 + (1 * ρ 8 + 0)) : Int) ≤ 0 by omega) (pAll1 (show (1 + ((-1) * ρ 2 + (1 * ρ 8 + 0)) : Int) ≤ 0 by omega) (pAll1 (show (1 + ((-1) * ρ 9 + 0) : Int) ≤ 0 by omega) (pAll1 (show ((-115) + (1 * ρ 9 + 0) : Int) ≤ 0 by omega) (pAll1 (show (115 + ((-1) * ρ 9 + 0) : Int) ≤ 0 by omega) (pAll1 (show (0 + (1 * ρ 4 + 0) : Int) ≤ 0 by omega) (pAll1 (show (0 + ((-1) * ρ 4 + 0) : Int) ≤ 0 by omega) (pAll1 (show (1 + (1 * ρ 8 + ((-1) * (a : Int) + 0)) : Int) ≤ 0 by omega) (pAll1 (show (0 + (1 * (a : Int) + ((-1) * ((wSk (wN h) (wB h) (a)) : Int) + 0)) : Int) ≤ 0 by omega) (pAll1 (show (0 + ((-1) * ρ 2 + (1 * ((wSk (wN h) (wB h) (a)) : Int) + 0)) : Int) ≤ 0 by omega) (pAll1 (show (0 + ((-1) * ρ 2 + (1 * ((wSk (wN h) (wB h) (a)) : Int) + 0)) : Int) ≤ 0 by omega) (pAll1 (show (0 + (1 * ρ 2 + ((-1) * ((wSk (wN h) (wB h) (a)) : Int) + 0)) : Int) ≤ 0 by omega) (pAll1 (show (0 + (1 * ρ 7 + ((-1) * ((wSk (wN h) (wB h) (a)) : Int) + 0)) : Int) ≤ 0 by omega) (pAll1 (show (0 + ((-1) * ρ 7 + (1 * ((wSk (wN h) (wB h) (a)) : Int) + 0)) : Int) ≤ 0 by omega) (pAll1 (show (0 + ((-1) * ρ 5 + (1 * ρ 17 + 0)) : Int) ≤ 0 by omega) (pAll1 (show (0 + (1 * ρ 5 + ((-1) * ρ 17 + 0)) : Int) ≤ 0 by omega) (pAll0)))))))))))))))))
        · exact pAll1 (pgF hf 530 (by decide) (by decide) (16 * ((wSk (wN h) (wB h) (p)) + 1) + 0) (by omega) (show (16 + (16 * ρ 8 + 0) : Int) = _ by omega) (show (0 + (1 * (a : Int) + 0) : Int) = _ by rw [fA_IT0 (g := 0) (p := (wSk (wN h) (wB h) (p)) + 1) (by decide) (by omega) hn]; omega)) (pAll1 (pgS ho hh (a) (by omega) (show (0 + (1 * (a : Int) + 0) : Int) = _ by omega) (show (0 + (1 * ((wSk (wN h) (wB h) (a)) : Int) + 0) : Int) = _ by omega)) (pAll1 (pgC ho hh ((wSk (wN h) (wB h) (a))) (by omega) (show (0 + (1 * ((wSk (wN h) (wB h) (a)) : Int) + 0) : Int) = _ by omega) (show (0 + (1 * (wCh (wN h) (wB h) ((wSk (wN h) (wB h) (a)))) + 0) : Int) = _ by omega)) (pAll1 (pgS ho hh ((wSk (wN h) (wB h) (a))) (by omega) (show (0 + (1 * ((wSk (wN h) (wB h) (a)) : Int) + 0) : Int) = _ by omega) (show (0 + (1 * ((wSk (wN h) (wB h) (a)) : Int) + 0) : Int) = _ by omega)) (pAll1 (pgF hf 560 (by decide) (by decide) (1600 * ((wSk (wN h) (wB h) (p)) + 1) + 100 * 0 + 8) (by omega) (show (1608 + (1600 * ρ 8 + 0) : Int) = _ by omega) (show (0 + (1 * ρ 10 + 0) : Int) = _ by rw [fA_I (s := 0) (j := 0) (r := 560) (g := 0) (v := 8) (Or.inl ⟨rfl, rfl, by decide⟩) (by decide) (by omega) (by decide), y0]; omega)) (pAll1 (pgF hf 561 (by decide) (by decide) (1600 * ((wSk (wN h) (wB h) (p)) + 1) + 100 * 0 + 7) (by omega) (show (1607 + (1600 * ρ 8 + 0) : Int) = _ by omega) (show (0 + (1 * ρ 11 + 0) : Int) = _ by rw [fA_I (s := 0) (j := 1) (r := 561) (g := 0) (v := 7) (Or.inl ⟨rfl, rfl, by decide⟩) (by decide) (by omega) (by decide), y1]; omega)) (pAll1 (pgF hf 562 (by decide) (by decide) (1600 * ((wSk (wN h) (wB h) (p)) + 1) + 100 * 0 + 20) (by omega) (show (1620 + (1600 * ρ 8 + 0) : Int) = _ by omega) (show (0 + (1 * ρ 12 + 0) : Int) = _ by rw [fA_I (s := 0) (j := 2) (r := 562) (g := 0) (v := 20) (Or.inl ⟨rfl, rfl, by decide⟩) (by decide) (by omega) (by decide), y2]; omega)) (pAll0)))))))
      · rw [f4] at er
        unfold wFl at er
        have hu : (wCh (wN h) (wB h) ((wSk (wN h) (wB h) (a)))) ≤ 58 ∨ 60 ≤ (wCh (wN h) (wB h) ((wSk (wN h) (wB h) (a)))) := by omega
        rcases hu with hu | hu
        · refine ⟨rFTm_8, List.mem_of_getElem? (i := 8) rfl, pEnd [ρ 0, ρ 1, ρ 2, ρ 3, ρ 4, ρ 5, ρ 6, ρ 7, ρ 8, ρ 9, ρ 10, ρ 11, ρ 12, ρ 13, ρ 14, ρ 15, ρ 16, ρ 17, (a : Int), ((wSk (wN h) (wB h) (a)) : Int), (wCh (wN h) (wB h) ((wSk (wN h) (wB h) (a))))] rfl ?_ ?_ ?_ ?_⟩
          · intro j hj
            match j, hj with
            | 0, _ => exact q0.symm
            | 1, _ => exact q1.symm
            | 2, _ => exact q2.symm
            | 3, _ => exact q3.symm
            | 4, _ => exact q4.symm
            | 5, _ => exact q5.symm
            | 6, _ => exact q6.symm
            | 7, _ => exact q7.symm
            | 8, _ => exact q8.symm
            | 9, _ => exact q9.symm
            | 10, _ => exact q10.symm
            | 11, _ => exact q11.symm
            | 12, _ => exact q12.symm
            | 13, _ => exact q13.symm
            | 14, _ => exact q14.symm
            | 15, _ => exact q15.symm
            | 16, _ => exact q16.symm
            | 17, _ => exact q17.symm
            | k + 18, hj => exact absurd hj (by show ¬ (k + 18 < 18); omega)
          · intro k b hk
            match k, hk with
            | 0, hk => cases hk; exact (show (0 : Int) ≤ (a : Int) ∧ (a : Int) ≤ (240 : Int) by omega)
            | 1, hk => cases hk; exact (show (0 : Int) ≤ ((wSk (wN h) (wB h) (a)) : Int) ∧ ((wSk (wN h) (wB h) (a)) : Int) ≤ (240 : Int) by omega)
            | 2, hk => cases hk; exact (show (1 : Int) ≤ (wCh (wN h) (wB h) ((wSk (wN h) (wB h) (a)))) ∧ (wCh (wN h) (wB h) ((wSk (wN h) (wB h) (a)))) ≤ (58 : Int) by omega)
            | k + 3, hk => cases hk
          · exact pAll1 (show (0 + (1 * ρ 3 + ((-1) * ρ 8 + 0)) : Int) ≤ 0 by omega) (pAll1 (show (0 + ((-1) * ρ 2 + (1 * ρ 8 + 0)) : Int) ≤ 0 by omega) (pAll1 (show (1 + ((-1) * ρ 2 + (1 * ρ 8 + 0)) : Int) ≤ 0 by omega) (pAll1 (show (1 + ((-1) * ρ 9 + 0) : Int) ≤ 0 by omega) (pAll1 (show ((-115) + (1 * ρ 9 + 0) : Int) ≤ 0 by omega) (pAll1 (show (115 + ((-1) * ρ 9 + 0) : Int) ≤ 0 by omega) (pAll1 (show (0 + (1 * ρ 4 + 0) : Int) ≤ 0 by omega) (pAll1 (show (0 + ((-1) * ρ 4 + 0) : Int) ≤ 0 by omega) (pAll1 (show (1 + (1 * ρ 8 + ((-1) * (a : Int) + 0)) : Int) ≤ 0 by omega) (pAll1 (show (0 + (1 * (a : Int) + ((-1) * ((wSk (wN h) (wB h) (a)) : Int) + 0)) : Int) ≤ 0 by omega) (pAll1 (show (0 + ((-1) * ρ 2 + (1 * ((wSk (wN h) (wB h) (a)) : Int) + 0)) : Int) ≤ 0 by omega) (pAll1 (show (1 + ((-1) * ρ 2 + (1 * ((wSk (wN h) (wB h) (a)) : Int) + 0)) : Int) ≤ 0 by omega) (pAll1 (show (1 + (1 * ρ 7 + (1 * ((wSk (wN h) (wB h) (a)) : Int) + 0)) : Int) ≤ 0 by omega) (pAll1 (show ((-1) + ((-1) * ρ 7 + ((-1) * ((wSk (wN h) (wB h) (a)) : Int) + 0)) : Int) ≤ 0 by omega) (pAll0))))))))))))))
          · exact pAll1 (pgF hf 530 (by decide) (by decide) (16 * ((wSk (wN h) (wB h) (p)) + 1) + 0) (by omega) (show (16 + (16 * ρ 8 + 0) : Int) = _ by omega) (show (0 + (1 * (a : Int) + 0) : Int) = _ by rw [fA_IT0 (g := 0) (p := (wSk (wN h) (wB h) (p)) + 1) (by decide) (by omega) hn]; omega)) (pAll1 (pgS ho hh (a) (by omega) (show (0 + (1 * (a : Int) + 0) : Int) = _ by omega) (show (0 + (1 * ((wSk (wN h) (wB h) (a)) : Int) + 0) : Int) = _ by omega)) (pAll1 (pgC ho hh ((wSk (wN h) (wB h) (a))) (by omega) (show (0 + (1 * ((wSk (wN h) (wB h) (a)) : Int) + 0) : Int) = _ by omega) (show (0 + (1 * (wCh (wN h) (wB h) ((wSk (wN h) (wB h) (a)))) + 0) : Int) = _ by omega)) (pAll1 (pgS ho hh ((wSk (wN h) (wB h) (a))) (by omega) (show (0 + (1 * ((wSk (wN h) (wB h) (a)) : Int) + 0) : Int) = _ by omega) (show (0 + (1 * ((wSk (wN h) (wB h) (a)) : Int) + 0) : Int) = _ by omega)) (pAll1 (pgF hf 560 (by decide) (by decide) (1600 * ((wSk (wN h) (wB h) (p)) + 1) + 100 * 0 + 8) (by omega) (show (1608 + (1600 * ρ 8 + 0) : Int) = _ by omega) (show (0 + (1 * ρ 10 + 0) : Int) = _ by rw [fA_I (s := 0) (j := 0) (r := 560) (g := 0) (v := 8) (Or.inl ⟨rfl, rfl, by decide⟩) (by decide) (by omega) (by decide), y0]; omega)) (pAll1 (pgF hf 561 (by decide) (by decide) (1600 * ((wSk (wN h) (wB h) (p)) + 1) + 100 * 0 + 7) (by omega) (show (1607 + (1600 * ρ 8 + 0) : Int) = _ by omega) (show (0 + (1 * ρ 11 + 0) : Int) = _ by rw [fA_I (s := 0) (j := 1) (r := 561) (g := 0) (v := 7) (Or.inl ⟨rfl, rfl, by decide⟩) (by decide) (by omega) (by decide), y1]; omega)) (pAll1 (pgF hf 562 (by decide) (by decide) (1600 * ((wSk (wN h) (wB h) (p)) + 1) + 100 * 0 + 20) (by omega) (show (1620 + (1600 * ρ 8 + 0) : Int) = _ by omega) (show (0 + (1 * ρ 12 + 0) : Int) = _ by rw [fA_I (s := 0) (j := 2) (r := 562) (g := 0) (v := 20) (Or.inl ⟨rfl, rfl, by decide⟩) (by decide) (by omega) (by decide), y2]; omega)) (pAll0)))))))
        · refine ⟨rFTm_9, List.mem_of_getElem? (i := 9) rfl, pEnd [ρ 0, ρ 1, ρ 2, ρ 3, ρ 4, ρ 5, ρ 6, ρ 7, ρ 8, ρ 9, ρ 10, ρ 11, ρ 12, ρ 13, ρ 14, ρ 15, ρ 16, ρ 17, (a : Int), ((wSk (wN h) (wB h) (a)) : Int), (wCh (wN h) (wB h) ((wSk (wN h) (wB h) (a))))] rfl ?_ ?_ ?_ ?_⟩
          · intro j hj
            match j, hj with
            | 0, _ => exact q0.symm
            | 1, _ => exact q1.symm
            | 2, _ => exact q2.symm
            | 3, _ => exact q3.symm
            | 4, _ => exact q4.symm
            | 5, _ => exact q5.symm
            | 6, _ => exact q6.symm
            | 7, _ => exact q7.symm
            | 8, _ => exact q8.symm
            | 9, _ => exact q9.symm
            | 10, _ => exact q10.symm
            | 11, _ => exact q11.symm
            | 12, _ => exact q12.symm
            | 13, _ => exact q13.symm
            | 14, _ => exact q14.symm
            | 15, _ => exact q15.symm
            | 16, _ => exact q16.symm
            | 17, _ => exact q17.symm
            | k + 18, hj => exact absurd hj (by show ¬ (k + 18 < 18); omega)
          · intro k b hk
            match k, hk with
            | 0, hk => cases hk; exact (show (0 : Int) ≤ (a : Int) ∧ (a : Int) ≤ (240 : Int) by omega)
            | 1, hk => cases hk; exact (show (0 : Int) ≤ ((wSk (wN h) (wB h) (a)) : Int) ∧ ((wSk (wN h) (wB h) (a)) : Int) ≤ (240 : Int) by omega)
            | 2, hk => cases hk; exact (show (60 : Int) ≤ (wCh (wN h) (wB h) ((wSk (wN h) (wB h) (a)))) ∧ (wCh (wN h) (wB h) ((wSk (wN h) (wB h) (a)))) ≤ (255 : Int) by omega)
            | k + 3, hk => cases hk
          · exact pAll1 (show (0 + (1 * ρ 3 + ((-1) * ρ 8 + 0)) : Int) ≤ 0 by omega) (pAll1 (show (0 + ((-1) * ρ 2 + (1 * ρ 8 + 0)) : Int) ≤ 0 by omega) (pAll1 (show (1 + ((-1) * ρ 2 + (1 * ρ 8 + 0)) : Int) ≤ 0 by omega) (pAll1 (show (1 + ((-1) * ρ 9 + 0) : Int) ≤ 0 by omega) (pAll1 (show ((-115) + (1 * ρ 9 + 0) : Int) ≤ 0 by omega) (pAll1 (show (115 + ((-1) * ρ 9 + 0) : Int) ≤ 0 by omega) (pAll1 (show (0 + (1 * ρ 4 + 0) : Int) ≤ 0 by omega) (pAll1 (show (0 + ((-1) * ρ 4 + 0) : Int) ≤ 0 by omega) (pAll1 (show (1 + (1 * ρ 8 + ((-1) * (a : Int) + 0)) : Int) ≤ 0 by omega) (pAll1 (show (0 + (1 * (a : Int) + ((-1) * ((wSk (wN h) (wB h) (a)) : Int) + 0)) : Int) ≤ 0 by omega) (pAll1 (show (0 + ((-1) * ρ 2 + (1 * ((wSk (wN h) (wB h) (a)) : Int) + 0)) : Int) ≤ 0 by omega) (pAll1 (show (1 + ((-1) * ρ 2 + (1 * ((wSk (wN h) (wB h) (a)) : Int) + 0)) : Int) ≤ 0 by omega) (pAll1 (show (1 + (1 * ρ 7 + (1 * ((wSk (wN h) (wB h) (a)) : Int) + 0)) : Int) ≤ 0 by omega) (pAll1 (show ((-1) + ((-1) * ρ 7 + ((-1) * ((wSk (wN h) (wB h) (a)) : Int) + 0)) : Int) ≤ 0 by omega) (pAll0))))))))))))))
          · exact pAll1 (pgF hf 530 (by decide) (by decide) (16 * ((wSk (wN h) (wB h) (p)) + 1) + 0) (by omega) (show (16 + (16 * ρ 8 + 0) : Int) = _ by omega) (show (0 + (1 * (a : Int) + 0) : Int) = _ by rw [fA_IT0 (g := 0) (p := (wSk (wN h) (wB h) (p)) + 1) (by decide) (by omega) hn]; omega)) (pAll1 (pgS ho hh (a) (by omega) (show (0 + (1 * (a : Int) + 0) : Int) = _ by omega) (show (0 + (1 * ((wSk (wN h) (wB h) (a)) : Int) + 0) : Int) = _ by omega)) (pAll1 (pgC ho hh ((wSk (wN h) (wB h) (a))) (by omega) (show (0 + (1 * ((wSk (wN h) (wB h) (a)) : Int) + 0) : Int) = _ by omega) (show (0 + (1 * (wCh (wN h) (wB h) ((wSk (wN h) (wB h) (a)))) + 0) : Int) = _ by omega)) (pAll1 (pgS ho hh ((wSk (wN h) (wB h) (a))) (by omega) (show (0 + (1 * ((wSk (wN h) (wB h) (a)) : Int) + 0) : Int) = _ by omega) (show (0 + (1 * ((wSk (wN h) (wB h) (a)) : Int) + 0) : Int) = _ by omega)) (pAll1 (pgF hf 560 (by decide) (by decide) (1600 * ((wSk (wN h) (wB h) (p)) + 1) + 100 * 0 + 8) (by omega) (show (1608 + (1600 * ρ 8 + 0) : Int) = _ by omega) (show (0 + (1 * ρ 10 + 0) : Int) = _ by rw [fA_I (s := 0) (j := 0) (r := 560) (g := 0) (v := 8) (Or.inl ⟨rfl, rfl, by decide⟩) (by decide) (by omega) (by decide), y0]; omega)) (pAll1 (pgF hf 561 (by decide) (by decide) (1600 * ((wSk (wN h) (wB h) (p)) + 1) + 100 * 0 + 7) (by omega) (show (1607 + (1600 * ρ 8 + 0) : Int) = _ by omega) (show (0 + (1 * ρ 11 + 0) : Int) = _ by rw [fA_I (s := 0) (j := 1) (r := 561) (g := 0) (v := 7) (Or.inl ⟨rfl, rfl, by decide⟩) (by decide) (by omega) (by decide), y1]; omega)) (pAll1 (pgF hf 562 (by decide) (by decide) (1600 * ((wSk (wN h) (wB h) (p)) + 1) + 100 * 0 + 20) (by omega) (show (1620 + (1600 * ρ 8 + 0) : Int) = _ by omega) (show (0 + (1 * ρ 12 + 0) : Int) = _ by rw [fA_I (s := 0) (j := 2) (r := 562) (g := 0) (v := 20) (Or.inl ⟨rfl, rfl, by decide⟩) (by decide) (by omega) (by decide), y2]; omega)) (pAll0)))))))
  · rcases x3 with ⟨a1, a2⟩ | ⟨a, a1, a2, a3, a4, a5⟩
    · have gd := (fI_gd (n := wN h) (B := wB h) 1 0 ((wSk (wN h) (wB h) (p)) + 1) (by omega)).1 a1
      rw [a2] at er
      refine ⟨rFTm_10, List.mem_of_getElem? (i := 10) rfl, pEnd [ρ 0, ρ 1, ρ 2, ρ 3, ρ 4, ρ 5, ρ 6, ρ 7, ρ 8, ρ 9, ρ 10, ρ 11, ρ 12, ρ 13, ρ 14, ρ 15, ρ 16, ρ 17, (fI (wN h) (wB h) 1 (0) ((wSk (wN h) (wB h) (p)) + 1))] rfl ?_ ?_ ?_ ?_⟩
      · intro j hj
        match j, hj with
        | 0, _ => exact q0.symm
        | 1, _ => exact q1.symm
        | 2, _ => exact q2.symm
        | 3, _ => exact q3.symm
        | 4, _ => exact q4.symm
        | 5, _ => exact q5.symm
        | 6, _ => exact q6.symm
        | 7, _ => exact q7.symm
        | 8, _ => exact q8.symm
        | 9, _ => exact q9.symm
        | 10, _ => exact q10.symm
        | 11, _ => exact q11.symm
        | 12, _ => exact q12.symm
        | 13, _ => exact q13.symm
        | 14, _ => exact q14.symm
        | 15, _ => exact q15.symm
        | 16, _ => exact q16.symm
        | 17, _ => exact q17.symm
        | k + 18, hj => exact absurd hj (by show ¬ (k + 18 < 18); omega)
      · intro k b hk
        match k, hk with
        | 0, hk => cases hk; exact (show ((-241) : Int) ≤ (fI (wN h) (wB h) 1 (0) ((wSk (wN h) (wB h) (p)) + 1)) ∧ (fI (wN h) (wB h) 1 (0) ((wSk (wN h) (wB h) (p)) + 1)) ≤ ((-1) : Int) by omega)
        | k + 1, hk => cases hk
      · exact pAll1 (show (0 + (1 * ρ 3 + ((-1) * ρ 8 + 0)) : Int) ≤ 0 by omega) (pAll1 (show (0 + ((-1) * ρ 2 + (1 * ρ 8 + 0)) : Int) ≤ 0 by omega) (pAll1 (show (1 + ((-1) * ρ 2 + (1 * ρ 8 + 0)) : Int) ≤ 0 by omega) (pAll1 (show (1 + ((-1) * ρ 9 + 0) : Int) ≤ 0 by omega) (pAll1 (show ((-109) + (1 * ρ 9 + 0) : Int) ≤ 0 by omega) (pAll1 (show (109 + ((-1) * ρ 9 + 0) : Int) ≤ 0 by omega) (pAll1 (show ((-5) + (1 * ρ 5 + 0) : Int) ≤ 0 by omega) (pAll1 (show (0 + (1 * ρ 7 + ((-1) * (fI (wN h) (wB h) 1 (0) ((wSk (wN h) (wB h) (p)) + 1)) + 0)) : Int) ≤ 0 by omega) (pAll1 (show (0 + ((-1) * ρ 7 + (1 * (fI (wN h) (wB h) 1 (0) ((wSk (wN h) (wB h) (p)) + 1)) + 0)) : Int) ≤ 0 by omega) (pAll0)))))))))
      · exact pAll1 (pgF hf 531 (by decide) (by decide) (16 * ((wSk (wN h) (wB h) (p)) + 1) + 0) (by omega) (show (16 + (16 * ρ 8 + 0) : Int) = _ by omega) (show (0 + (1 * (fI (wN h) (wB h) 1 (0) ((wSk (wN h) (wB h) (p)) + 1)) + 0) : Int) = _ by rw [fA_IT1 (g := 0) (p := (wSk (wN h) (wB h) (p)) + 1) (by decide) (by omega) hn]; omega)) (pAll0)
    · obtain ⟨t1, t2⟩ := wSk_le (B := wB h) a3
      have cs := wCh_bd ho (wSk (wN h) (wB h) (a))
      have hi := wSk_id (B := wB h) a3
      have y0 : (fV (wN h) (wB h) 1 0 (0) ((wSk (wN h) (wB h) (p)) + 1) ((3 : Nat) : Int)) = fMV (wN h) (wB h) m 0 := a4 0
      have y1 : (fV (wN h) (wB h) 1 1 (0) ((wSk (wN h) (wB h) (p)) + 1) ((3 : Nat) : Int)) = fMV (wN h) (wB h) m 1 := a4 1
      have y2 : (fV (wN h) (wB h) 1 2 (0) ((wSk (wN h) (wB h) (p)) + 1) ((5 : Nat) : Int)) = fMV (wN h) (wB h) m 2 := a4 2
      have y3 : (fV (wN h) (wB h) 1 3 (0) ((wSk (wN h) (wB h) (p)) + 1) ((0 : Nat) : Int)) = fMV (wN h) (wB h) m 3 := a4 3
      rcases a5 with ⟨f1, f2, f3⟩ | ⟨f1, f2, f3, f4, f5⟩ | ⟨f1, f2, f3, f4⟩
      · refine ⟨rFTm_11, List.mem_of_getElem? (i := 11) rfl, pEnd [ρ 0, ρ 1, ρ 2, ρ 3, ρ 4, ρ 5, ρ 6, ρ 7, ρ 8, ρ 9, ρ 10, ρ 11, ρ 12, ρ 13, ρ 14, ρ 15, ρ 16, ρ 17, (a : Int), ((wSk (wN h) (wB h) (a)) : Int), (wCh (wN h) (wB h) ((wSk (wN h) (wB h) (a))))] rfl ?_ ?_ ?_ ?_⟩
        · intro j hj
          match j, hj with
          | 0, _ => exact q0.symm
          | 1, _ => exact q1.symm
          | 2, _ => exact q2.symm
          | 3, _ => exact q3.symm
          | 4, _ => exact q4.symm
          | 5, _ => exact q5.symm
          | 6, _ => exact q6.symm
          | 7, _ => exact q7.symm
          | 8, _ => exact q8.symm
          | 9, _ => exact q9.symm
          | 10, _ => exact q10.symm
          | 11, _ => exact q11.symm
          | 12, _ => exact q12.symm
          | 13, _ => exact q13.symm
          | 14, _ => exact q14.symm
          | 15, _ => exact q15.symm
          | 16, _ => exact q16.symm
          | 17, _ => exact q17.symm
          | k + 18, hj => exact absurd hj (by show ¬ (k + 18 < 18); omega)
        · intro k b hk
          match k, hk with
          | 0, hk => cases hk; exact (show (0 : Int) ≤ (a : Int) ∧ (a : Int) ≤ (240 : Int) by omega)
          | 1, hk => cases hk; exact (show (0 : Int) ≤ ((wSk (wN h) (wB h) (a)) : Int) ∧ ((wSk (wN h) (wB h) (a)) : Int) ≤ (240 : Int) by omega)
          | 2, hk => cases hk; exact (show (59 : Int) ≤ (wCh (wN h) (wB h) ((wSk (wN h) (wB h) (a)))) ∧ (wCh (wN h) (wB h) ((wSk (wN h) (wB h) (a)))) ≤ (59 : Int) by omega)
          | k + 3, hk => cases hk
        · exact pAll1 (show (0 + (1 * ρ 3 + ((-1) * ρ 8 + 0)) : Int) ≤ 0 by omega) (pAll1 (show (0 + ((-1) * ρ 2 + (1 * ρ 8 + 0)) : Int) ≤ 0 by omega) (pAll1 (show (1 + ((-1) * ρ 2 + (1 * ρ 8 + 0)) : Int) ≤ 0 by omega) (pAll1 (show (1 + ((-1) * ρ 9 + 0) : Int) ≤ 0 by omega) (pAll1 (show ((-109) + (1 * ρ 9 + 0) : Int) ≤ 0 by omega) (pAll1 (show (109 + ((-1) * ρ 9 + 0) : Int) ≤ 0 by omega) (pAll1 (show ((-5) + (1 * ρ 5 + 0) : Int) ≤ 0 by omega) (pAll1 (show (1 + (1 * ρ 8 + ((-1) * (a : Int) + 0)) : Int) ≤ 0 by omega) (pAll1 (show (0 + (1 * (a : Int) + ((-1) * ((wSk (wN h) (wB h) (a)) : Int) + 0)) : Int) ≤ 0 by omega) (pAll1 (show (0 + ((-1) * ρ 2 + (1 * ((wSk (wN h) (wB h) (a)) : Int) + 0)) : Int) ≤ 0 by omega) (pAll1 (show (1 + ((-1) * ρ 2 + (1 * ((wSk (wN h) (wB h) (a)) : Int) + 0)) : Int) ≤ 0 by omega) (pAll0)))))))))))
        · exact pAll1 (pgF hf 531 (by decide) (by decide) (16 * ((wSk (wN h) (wB h) (p)) + 1) + 0) (by omega) (show (16 + (16 * ρ 8 + 0) : Int) = _ by omega) (show (0 + (1 * (a : Int) + 0) : Int) = _ by rw [fA_IT1 (g := 0) (p := (wSk (wN h) (wB h) (p)) + 1) (by decide) (by omega) hn]; omega)) (pAll1 (pgS ho hh (a) (by omega) (show (0 + (1 * (a : Int) + 0) : Int) = _ by omega) (show (0 + (1 * ((wSk (wN h) (wB h) (a)) : Int) + 0) : Int) = _ by omega)) (pAll1 (pgC ho hh ((wSk (wN h) (wB h) (a))) (by omega) (show (0 + (1 * ((wSk (wN h) (wB h) (a)) : Int) + 0) : Int) = _ by omega) (show (0 + (1 * (wCh (wN h) (wB h) ((wSk (wN h) (wB h) (a)))) + 0) : Int) = _ by omega)) (pAll1 (pgS ho hh ((wSk (wN h) (wB h) (a))) (by omega) (show (0 + (1 * ((wSk (wN h) (wB h) (a)) : Int) + 0) : Int) = _ by omega) (show (0 + (1 * ((wSk (wN h) (wB h) (a)) : Int) + 0) : Int) = _ by omega)) (pAll1 (pgF hf 563 (by decide) (by decide) (1600 * ((wSk (wN h) (wB h) (p)) + 1) + 100 * 0 + 3) (by omega) (show (1603 + (1600 * ρ 8 + 0) : Int) = _ by omega) (show (0 + (1 * ρ 13 + 0) : Int) = _ by rw [fA_I (s := 1) (j := 0) (r := 563) (g := 0) (v := 3) (Or.inr ⟨rfl, rfl, by decide⟩) (by decide) (by omega) (by decide), y0]; omega)) (pAll1 (pgF hf 564 (by decide) (by decide) (1600 * ((wSk (wN h) (wB h) (p)) + 1) + 100 * 0 + 3) (by omega) (show (1603 + (1600 * ρ 8 + 0) : Int) = _ by omega) (show (0 + (1 * ρ 14 + 0) : Int) = _ by rw [fA_I (s := 1) (j := 1) (r := 564) (g := 0) (v := 3) (Or.inr ⟨rfl, rfl, by decide⟩) (by decide) (by omega) (by decide), y1]; omega)) (pAll1 (pgF hf 565 (by decide) (by decide) (1600 * ((wSk (wN h) (wB h) (p)) + 1) + 100 * 0 + 5) (by omega) (show (1605 + (1600 * ρ 8 + 0) : Int) = _ by omega) (show (0 + (1 * ρ 15 + 0) : Int) = _ by rw [fA_I (s := 1) (j := 2) (r := 565) (g := 0) (v := 5) (Or.inr ⟨rfl, rfl, by decide⟩) (by decide) (by omega) (by decide), y2]; omega)) (pAll1 (pgF hf 566 (by decide) (by decide) (1600 * ((wSk (wN h) (wB h) (p)) + 1) + 100 * 0 + 0) (by omega) (show (1600 + (1600 * ρ 8 + 0) : Int) = _ by omega) (show (0 + (1 * ρ 16 + 0) : Int) = _ by rw [fA_I (s := 1) (j := 3) (r := 566) (g := 0) (v := 0) (Or.inr ⟨rfl, rfl, by decide⟩) (by decide) (by omega) (by decide), y3]; omega)) (pAll1 (pgF hf 532 (by decide) (by decide) (14 * ((wSk (wN h) (wB h) (a)) + 1) + 7 * hr + (m + 1)) (by omega) (show (15 + (7 * ρ 4 + (1 * ρ 5 + (14 * ((wSk (wN h) (wB h) (a)) : Int) + 0))) : Int) = _ by omega) (show (1 + 0 : Int) = _ by rw [fA_ON (by omega) (by omega), yB_1.mpr f3]; omega)) (pAll0)))))))))
      · rw [f3] at er
        rw [f4] at efm
        rcases (show hr = 1 ∨ hr = 0 by omega) with hu | hu
        · refine ⟨rFTm_12, List.mem_of_getElem? (i := 12) rfl, pEnd [ρ 0, ρ 1, ρ 2, ρ 3, ρ 4, ρ 5, ρ 6, ρ 7, ρ 8, ρ 9, ρ 10, ρ 11, ρ 12, ρ 13, ρ 14, ρ 15, ρ 16, ρ 17, (a : Int), ((wSk (wN h) (wB h) (a)) : Int), (wCh (wN h) (wB h) ((wSk (wN h) (wB h) (a))))] rfl ?_ ?_ ?_ ?_⟩
          · intro j hj
            match j, hj with
            | 0, _ => exact q0.symm
            | 1, _ => exact q1.symm
            | 2, _ => exact q2.symm
            | 3, _ => exact q3.symm
            | 4, _ => exact q4.symm
            | 5, _ => exact q5.symm
            | 6, _ => exact q6.symm
            | 7, _ => exact q7.symm
            | 8, _ => exact q8.symm
            | 9, _ => exact q9.symm
            | 10, _ => exact q10.symm
            | 11, _ => exact q11.symm
            | 12, _ => exact q12.symm
            | 13, _ => exact q13.symm
            | 14, _ => exact q14.symm
            | 15, _ => exact q15.symm
            | 16, _ => exact q16.symm
            | 17, _ => exact q17.symm
            | k + 18, hj => exact absurd hj (by show ¬ (k + 18 < 18); omega)
          · intro k b hk
            match k, hk with
            | 0, hk => cases hk; exact (show (0 : Int) ≤ (a : Int) ∧ (a : Int) ≤ (240 : Int) by omega)
            | 1, hk => cases hk; exact (show (0 : Int) ≤ ((wSk (wN h) (wB h) (a)) : Int) ∧ ((wSk (wN h) (wB h) (a)) : Int) ≤ (240 : Int) by omega)
            | 2, hk => cases hk; exact (show (0 : Int) ≤ (wCh (wN h) (wB h) ((wSk (wN h) (wB h) (a)))) ∧ (wCh (wN h) (wB h) ((wSk (wN h) (wB h) (a)))) ≤ (0 : Int) by omega)
            | k + 3, hk => cases hk
          · exact pAll1 (show (0 + (1 * ρ 3 + ((-1) * ρ 8 + 0)) : Int) ≤ 0 by omega) (pAll1 (show (0 + ((-1) * ρ 2 + (1 * ρ 8 + 0)) : Int) ≤ 0 by omega) (pAll1 (show (1 + ((-1) * ρ 2 + (1 * ρ 8 + 0)) : Int) ≤ 0 by omega) (pAll1 (show (1 + ((-1) * ρ 9 + 0) : Int) ≤ 0 by omega) (pAll1 (show ((-109) + (1 * ρ 9 + 0) : Int) ≤ 0 by omega) (pAll1 (show (109 + ((-1) * ρ 9 + 0) : Int) ≤ 0 by omega) (pAll1 (show ((-5) + (1 * ρ 5 + 0) : Int) ≤ 0 by omega) (pAll1 (show (1 + (1 * ρ 8 + ((-1) * (a : Int) + 0)) : Int) ≤ 0 by omega) (pAll1 (show (0 + (1 * (a : Int) + ((-1) * ((wSk (wN h) (wB h) (a)) : Int) + 0)) : Int) ≤ 0 by omega) (pAll1 (show (0 + ((-1) * ρ 2 + (1 * ((wSk (wN h) (wB h) (a)) : Int) + 0)) : Int) ≤ 0 by omega) (pAll1 (show (0 + ((-1) * ρ 2 + (1 * ((wSk (wN h) (wB h) (a)) : Int) + 0)) : Int) ≤ 0 by omega) (pAll1 (show (0 + (1 * ρ 2 + ((-1) * ((wSk (wN h) (wB h) (a)) : Int) + 0)) : Int) ≤ 0 by omega) (pAll1 (show (0 + (1 * ρ 7 + ((-1) * ((wSk (wN h) (wB h) (a)) : Int) + 0)) : Int) ≤ 0 by omega) (pAll1 (show (0 + ((-1) * ρ 7 + (1 * ((wSk (wN h) (wB h) (a)) : Int) + 0)) : Int) ≤ 0 by omega) (pAll1 (show ((-1) + ((-1) * ρ 5 + (1 * ρ 17 + 0)) : Int) ≤ 0 by omega) (pAll1 (show (1 + (1 * ρ 5 + ((-1) * ρ 17 + 0)) : Int) ≤ 0 by omega) (pAll1 (show ((-1) + (1 * ρ 4 + 0) : Int) ≤ 0 by omega) (pAll1 (show (1 + ((-1) * ρ 4 + 0) : Int) ≤ 0 by omega) (pAll0))))))))))))))))))
          · exact pAll1 (pgF hf 531 (by decide) (by decide) (16 * ((wSk (wN h) (wB h) (p)) + 1) + 0) (by omega) (show (16 + (16 * ρ 8 + 0) : Int) = _ by omega) (show (0 + (1 * (a : Int) + 0) : Int) = _ by rw [fA_IT1 (g := 0) (p := (wSk (wN h) (wB h) (p)) + 1) (by decide) (by omega) hn]; omega)) (pAll1 (pgS ho hh (a) (by omega) (show (0 + (1 * (a : Int) + 0) : Int) = _ by omega) (show (0 + (1 * ((wSk (wN h) (wB h) (a)) : Int) + 0) : Int) = _ by omega)) (pAll1 (pgC ho hh ((wSk (wN h) (wB h) (a))) (by omega) (show (0 + (1 * ((wSk (wN h) (wB h) (a)) : Int) + 0) : Int) = _ by omega) (show (0 + (1 * (wCh (wN h) (wB h) ((wSk (wN h) (wB h) (a)))) + 0) : Int) = _ by omega)) (pAll1 (pgS ho hh ((wSk (wN h) (wB h) (a))) (by omega) (show (0 + (1 * ((wSk (wN h) (wB h) (a)) : Int) + 0) : Int) = _ by omega) (show (0 + (1 * ((wSk (wN h) (wB h) (a)) : Int) + 0) : Int) = _ by omega)) (pAll1 (pgF hf 563 (by decide) (by decide) (1600 * ((wSk (wN h) (wB h) (p)) + 1) + 100 * 0 + 3) (by omega) (show (1603 + (1600 * ρ 8 + 0) : Int) = _ by omega) (show (0 + (1 * ρ 13 + 0) : Int) = _ by rw [fA_I (s := 1) (j := 0) (r := 563) (g := 0) (v := 3) (Or.inr ⟨rfl, rfl, by decide⟩) (by decide) (by omega) (by decide), y0]; omega)) (pAll1 (pgF hf 564 (by decide) (by decide) (1600 * ((wSk (wN h) (wB h) (p)) + 1) + 100 * 0 + 3) (by omega) (show (1603 + (1600 * ρ 8 + 0) : Int) = _ by omega) (show (0 + (1 * ρ 14 + 0) : Int) = _ by rw [fA_I (s := 1) (j := 1) (r := 564) (g := 0) (v := 3) (Or.inr ⟨rfl, rfl, by decide⟩) (by decide) (by omega) (by decide), y1]; omega)) (pAll1 (pgF hf 565 (by decide) (by decide) (1600 * ((wSk (wN h) (wB h) (p)) + 1) + 100 * 0 + 5) (by omega) (show (1605 + (1600 * ρ 8 + 0) : Int) = _ by omega) (show (0 + (1 * ρ 15 + 0) : Int) = _ by rw [fA_I (s := 1) (j := 2) (r := 565) (g := 0) (v := 5) (Or.inr ⟨rfl, rfl, by decide⟩) (by decide) (by omega) (by decide), y2]; omega)) (pAll1 (pgF hf 566 (by decide) (by decide) (1600 * ((wSk (wN h) (wB h) (p)) + 1) + 100 * 0 + 0) (by omega) (show (1600 + (1600 * ρ 8 + 0) : Int) = _ by omega) (show (0 + (1 * ρ 16 + 0) : Int) = _ by rw [fA_I (s := 1) (j := 3) (r := 566) (g := 0) (v := 0) (Or.inr ⟨rfl, rfl, by decide⟩) (by decide) (by omega) (by decide), y3]; omega)) (pAll0))))))))
        · have z0 : fRV (wN h) (wB h) 0 = 8 := f5 hu 0
          rw [z0] at eR0
          have z1 : fRV (wN h) (wB h) 1 = 7 := f5 hu 1
          rw [z1] at eR1
          have z2 : fRV (wN h) (wB h) 2 = 20 := f5 hu 2
          rw [z2] at eR2
          refine ⟨rFTm_13, List.mem_of_getElem? (i := 13) rfl, pEnd [ρ 0, ρ 1, ρ 2, ρ 3, ρ 4, ρ 5, ρ 6, ρ 7, ρ 8, ρ 9, ρ 10, ρ 11, ρ 12, ρ 13, ρ 14, ρ 15, ρ 16, ρ 17, (a : Int), ((wSk (wN h) (wB h) (a)) : Int), (wCh (wN h) (wB h) ((wSk (wN h) (wB h) (a))))] rfl ?_ ?_ ?_ ?_⟩
          · intro j hj
            match j, hj with
            | 0, _ => exact q0.symm
            | 1, _ => exact q1.symm
            | 2, _ => exact q2.symm
            | 3, _ => exact q3.symm
            | 4, _ => exact q4.symm
            | 5, _ => exact q5.symm
            | 6, _ => exact q6.symm
            | 7, _ => exact q7.symm
            | 8, _ => exact q8.symm
            | 9, _ => exact q9.symm
            | 10, _ => exact q10.symm
            | 11, _ => exact q11.symm
            | 12, _ => exact q12.symm
            | 13, _ => exact q13.symm
            | 14, _ => exact q14.symm
            | 15, _ => exact q15.symm
            | 16, _ => exact q16.symm
            | 17, _ => exact q17.symm
            | k + 18, hj => exact absurd hj (by show ¬ (k + 18 < 18); omega)
          · intro k b hk
            match k, hk with
            | 0, hk => cases hk; exact (show (0 : Int) ≤ (a : Int) ∧ (a : Int) ≤ (240 : Int) by omega)
            | 1, hk => cases hk; exact (show (0 : Int) ≤ ((wSk (wN h) (wB h) (a)) : Int) ∧ ((wSk (wN h) (wB h) (a)) : Int) ≤ (240 : Int) by omega)
            | 2, hk => cases hk; exact (show (0 : Int) ≤ (wCh (wN h) (wB h) ((wSk (wN h) (wB h) (a)))) ∧ (wCh (wN h) (wB h) ((wSk (wN h) (wB h) (a)))) ≤ (0 : Int) by omega)
            | k + 3, hk => cases hk
          · exact pAll1 (show (0 + (1 * ρ 3 + ((-1) * ρ 8 + 0)) : Int) ≤ 0 by omega) (pAll1 (show (0 + ((-1) * ρ 2 + (1 * ρ 8 + 0)) : Int) ≤ 0 by omega) (pAll1 (show (1 + ((-1) * ρ 2 + (1 * ρ 8 + 0)) : Int) ≤ 0 by omega) (pAll1 (show (1 + ((-1) * ρ 9 + 0) : Int) ≤ 0 by omega) (pAll1 (show ((-109) + (1 * ρ 9 + 0) : Int) ≤ 0 by omega) (pAll1 (show (109 + ((-1) * ρ 9 + 0) : Int) ≤ 0 by omega) (pAll1 (show ((-5) + (1 * ρ 5 + 0) : Int) ≤ 0 by omega) (pAll1 (show (1 + (1 * ρ 8 + ((-1) * (a : Int) + 0)) : Int) ≤ 0 by omega) (pAll1 (show (0 + (1 * (a : Int) + ((-1) * ((wSk (wN h) (wB h) (a)) : Int) + 0)) : Int) ≤ 0 by omega) (pAll1 (show (0 + ((-1) * ρ 2 + (1 * ((wSk (wN h) (wB h) (a)) : Int) + 0)) : Int) ≤ 0 by omega) (pAll1 (show (0 + ((-1) * ρ 2 + (1 * ((wSk (wN h) (wB h) (a)) : Int) + 0)) : Int) ≤ 0 by omega) (pAll1 (show (0 + (1 * ρ 2 + ((-1) * ((wSk (wN h) (wB h) (a)) : Int) + 0)) : Int) ≤ 0 by omega) (pAll1 (show (0 + (1 * ρ 7 + ((-1) * ((wSk (wN h) (wB h) (a)) : Int) + 0)) : Int) ≤ 0 by omega) (pAll1 (show (0 + ((-1) * ρ 7 + (1 * ((wSk (wN h) (wB h) (a)) : Int) + 0)) : Int) ≤ 0 by omega) (pAll1 (show ((-1) + ((-1) * ρ 5 + (1 * ρ 17 + 0)) : Int) ≤ 0 by omega) (pAll1 (show (1 + (1 * ρ 5 + ((-1) * ρ 17 + 0)) : Int) ≤ 0 by omega) (pAll1 (show (0 + (1 * ρ 4 + 0) : Int) ≤ 0 by omega) (pAll1 (show (0 + ((-1) * ρ 4 + 0) : Int) ≤ 0 by omega) (pAll1 (show ((-8) + (1 * ρ 10 + 0) : Int) ≤ 0 by omega) (pAll1 (show (8 + ((-1) * ρ 10 + 0) : Int) ≤ 0 by omega) (pAll1 (show ((-7) + (1 * ρ 11 + 0) : Int) ≤ 0 by omega) (pAll1 (show (7 + ((-1) * ρ 11 + 0) : Int) ≤ 0 by omega) (pAll1 (show ((-20) + (1 * ρ 12 + 0) : Int) ≤ 0 by omega) (pAll1 (show (20 + ((-1) * ρ 12 + 0) : Int) ≤ 0 by omega) (pAll0))))))))))))))))))))))))
          · exact pAll1 (pgF hf 531 (by decide) (by decide) (16 * ((wSk (wN h) (wB h) (p)) + 1) + 0) (by omega) (show (16 + (16 * ρ 8 + 0) : Int) = _ by omega) (show (0 + (1 * (a : Int) + 0) : Int) = _ by rw [fA_IT1 (g := 0) (p := (wSk (wN h) (wB h) (p)) + 1) (by decide) (by omega) hn]; omega)) (pAll1 (pgS ho hh (a) (by omega) (show (0 + (1 * (a : Int) + 0) : Int) = _ by omega) (show (0 + (1 * ((wSk (wN h) (wB h) (a)) : Int) + 0) : Int) = _ by omega)) (pAll1 (pgC ho hh ((wSk (wN h) (wB h) (a))) (by omega) (show (0 + (1 * ((wSk (wN h) (wB h) (a)) : Int) + 0) : Int) = _ by omega) (show (0 + (1 * (wCh (wN h) (wB h) ((wSk (wN h) (wB h) (a)))) + 0) : Int) = _ by omega)) (pAll1 (pgS ho hh ((wSk (wN h) (wB h) (a))) (by omega) (show (0 + (1 * ((wSk (wN h) (wB h) (a)) : Int) + 0) : Int) = _ by omega) (show (0 + (1 * ((wSk (wN h) (wB h) (a)) : Int) + 0) : Int) = _ by omega)) (pAll1 (pgF hf 563 (by decide) (by decide) (1600 * ((wSk (wN h) (wB h) (p)) + 1) + 100 * 0 + 3) (by omega) (show (1603 + (1600 * ρ 8 + 0) : Int) = _ by omega) (show (0 + (1 * ρ 13 + 0) : Int) = _ by rw [fA_I (s := 1) (j := 0) (r := 563) (g := 0) (v := 3) (Or.inr ⟨rfl, rfl, by decide⟩) (by decide) (by omega) (by decide), y0]; omega)) (pAll1 (pgF hf 564 (by decide) (by decide) (1600 * ((wSk (wN h) (wB h) (p)) + 1) + 100 * 0 + 3) (by omega) (show (1603 + (1600 * ρ 8 + 0) : Int) = _ by omega) (show (0 + (1 * ρ 14 + 0) : Int) = _ by rw [fA_I (s := 1) (j := 1) (r := 564) (g := 0) (v := 3) (Or.inr ⟨rfl, rfl, by decide⟩) (by decide) (by omega) (by decide), y1]; omega)) (pAll1 (pgF hf 565 (by decide) (by decide) (1600 * ((wSk (wN h) (wB h) (p)) + 1) + 100 * 0 + 5) (by omega) (show (1605 + (1600 * ρ 8 + 0) : Int) = _ by omega) (show (0 + (1 * ρ 15 + 0) : Int) = _ by rw [fA_I (s := 1) (j := 2) (r := 565) (g := 0) (v := 5) (Or.inr ⟨rfl, rfl, by decide⟩) (by decide) (by omega) (by decide), y2]; omega)) (pAll1 (pgF hf 566 (by decide) (by decide) (1600 * ((wSk (wN h) (wB h) (p)) + 1) + 100 * 0 + 0) (by omega) (show (1600 + (1600 * ρ 8 + 0) : Int) = _ by omega) (show (0 + (1 * ρ 16 + 0) : Int) = _ by rw [fA_I (s := 1) (j := 3) (r := 566) (g := 0) (v := 0) (Or.inr ⟨rfl, rfl, by decide⟩) (by decide) (by omega) (by decide), y3]; omega)) (pAll0))))))))
      · rw [f4] at er
        unfold wFl at er
        have hu : (wCh (wN h) (wB h) ((wSk (wN h) (wB h) (a)))) ≤ 58 ∨ 60 ≤ (wCh (wN h) (wB h) ((wSk (wN h) (wB h) (a)))) := by omega
        rcases hu with hu | hu
        · refine ⟨rFTm_14, List.mem_of_getElem? (i := 14) rfl, pEnd [ρ 0, ρ 1, ρ 2, ρ 3, ρ 4, ρ 5, ρ 6, ρ 7, ρ 8, ρ 9, ρ 10, ρ 11, ρ 12, ρ 13, ρ 14, ρ 15, ρ 16, ρ 17, (a : Int), ((wSk (wN h) (wB h) (a)) : Int), (wCh (wN h) (wB h) ((wSk (wN h) (wB h) (a))))] rfl ?_ ?_ ?_ ?_⟩
          · intro j hj
            match j, hj with
            | 0, _ => exact q0.symm
            | 1, _ => exact q1.symm
            | 2, _ => exact q2.symm
            | 3, _ => exact q3.symm
            | 4, _ => exact q4.symm
            | 5, _ => exact q5.symm
            | 6, _ => exact q6.symm
            | 7, _ => exact q7.symm
            | 8, _ => exact q8.symm
            | 9, _ => exact q9.symm
            | 10, _ => exact q10.symm
            | 11, _ => exact q11.symm
            | 12, _ => exact q12.symm
            | 13, _ => exact q13.symm
            | 14, _ => exact q14.symm
            | 15, _ => exact q15.symm
            | 16, _ => exact q16.symm
            | 17, _ => exact q17.symm
            | k + 18, hj => exact absurd hj (by show ¬ (k + 18 < 18); omega)
          · intro k b hk
            match k, hk with
            | 0, hk => cases hk; exact (show (0 : Int) ≤ (a : Int) ∧ (a : Int) ≤ (240 : Int) by omega)
            | 1, hk => cases hk; exact (show (0 : Int) ≤ ((wSk (wN h) (wB h) (a)) : Int) ∧ ((wSk (wN h) (wB h) (a)) : Int) ≤ (240 : Int) by omega)
            | 2, hk => cases hk; exact (show (1 : Int) ≤ (wCh (wN h) (wB h) ((wSk (wN h) (wB h) (a)))) ∧ (wCh (wN h) (wB h) ((wSk (wN h) (wB h) (a)))) ≤ (58 : Int) by omega)
            | k + 3, hk => cases hk
          · exact pAll1 (show (0 + (1 * ρ 3 + ((-1) * ρ 8 + 0)) : Int) ≤ 0 by omega) (pAll1 (show (0 + ((-1) * ρ 2 + (1 * ρ 8 + 0)) : Int) ≤ 0 by omega) (pAll1 (show (1 + ((-1) * ρ 2 + (1 * ρ 8 + 0)) : Int) ≤ 0 by omega) (pAll1 (show (1 + ((-1) * ρ 9 + 0) : Int) ≤ 0 by omega) (pAll1 (show ((-109) + (1 * ρ 9 + 0) : Int) ≤ 0 by omega) (pAll1 (show (109 + ((-1) * ρ 9 + 0) : Int) ≤ 0 by omega) (pAll1 (show ((-5) + (1 * ρ 5 + 0) : Int) ≤ 0 by omega) (pAll1 (show (1 + (1 * ρ 8 + ((-1) * (a : Int) + 0)) : Int) ≤ 0 by omega) (pAll1 (show (0 + (1 * (a : Int) + ((-1) * ((wSk (wN h) (wB h) (a)) : Int) + 0)) : Int) ≤ 0 by omega) (pAll1 (show (0 + ((-1) * ρ 2 + (1 * ((wSk (wN h) (wB h) (a)) : Int) + 0)) : Int) ≤ 0 by omega) (pAll1 (show (1 + ((-1) * ρ 2 + (1 * ((wSk (wN h) (wB h) (a)) : Int) + 0)) : Int) ≤ 0 by omega) (pAll1 (show (1 + (1 * ρ 7 + (1 * ((wSk (wN h) (wB h) (a)) : Int) + 0)) : Int) ≤ 0 by omega) (pAll1 (show ((-1) + ((-1) * ρ 7 + ((-1) * ((wSk (wN h) (wB h) (a)) : Int) + 0)) : Int) ≤ 0 by omega) (pAll0)))))))))))))
          · exact pAll1 (pgF hf 531 (by decide) (by decide) (16 * ((wSk (wN h) (wB h) (p)) + 1) + 0) (by omega) (show (16 + (16 * ρ 8 + 0) : Int) = _ by omega) (show (0 + (1 * (a : Int) + 0) : Int) = _ by rw [fA_IT1 (g := 0) (p := (wSk (wN h) (wB h) (p)) + 1) (by decide) (by omega) hn]; omega)) (pAll1 (pgS ho hh (a) (by omega) (show (0 + (1 * (a : Int) + 0) : Int) = _ by omega) (show (0 + (1 * ((wSk (wN h) (wB h) (a)) : Int) + 0) : Int) = _ by omega)) (pAll1 (pgC ho hh ((wSk (wN h) (wB h) (a))) (by omega) (show (0 + (1 * ((wSk (wN h) (wB h) (a)) : Int) + 0) : Int) = _ by omega) (show (0 + (1 * (wCh (wN h) (wB h) ((wSk (wN h) (wB h) (a)))) + 0) : Int) = _ by omega)) (pAll1 (pgS ho hh ((wSk (wN h) (wB h) (a))) (by omega) (show (0 + (1 * ((wSk (wN h) (wB h) (a)) : Int) + 0) : Int) = _ by omega) (show (0 + (1 * ((wSk (wN h) (wB h) (a)) : Int) + 0) : Int) = _ by omega)) (pAll1 (pgF hf 563 (by decide) (by decide) (1600 * ((wSk (wN h) (wB h) (p)) + 1) + 100 * 0 + 3) (by omega) (show (1603 + (1600 * ρ 8 + 0) : Int) = _ by omega) (show (0 + (1 * ρ 13 + 0) : Int) = _ by rw [fA_I (s := 1) (j := 0) (r := 563) (g := 0) (v := 3) (Or.inr ⟨rfl, rfl, by decide⟩) (by decide) (by omega) (by decide), y0]; omega)) (pAll1 (pgF hf 564 (by decide) (by decide) (1600 * ((wSk (wN h) (wB h) (p)) + 1) + 100 * 0 + 3) (by omega) (show (1603 + (1600 * ρ 8 + 0) : Int) = _ by omega) (show (0 + (1 * ρ 14 + 0) : Int) = _ by rw [fA_I (s := 1) (j := 1) (r := 564) (g := 0) (v := 3) (Or.inr ⟨rfl, rfl, by decide⟩) (by decide) (by omega) (by decide), y1]; omega)) (pAll1 (pgF hf 565 (by decide) (by decide) (1600 * ((wSk (wN h) (wB h) (p)) + 1) + 100 * 0 + 5) (by omega) (show (1605 + (1600 * ρ 8 + 0) : Int) = _ by omega) (show (0 + (1 * ρ 15 + 0) : Int) = _ by rw [fA_I (s := 1) (j := 2) (r := 565) (g := 0) (v := 5) (Or.inr ⟨rfl, rfl, by decide⟩) (by decide) (by omega) (by decide), y2]; omega)) (pAll1 (pgF hf 566 (by decide) (by decide) (1600 * ((wSk (wN h) (wB h) (p)) + 1) + 100 * 0 + 0) (by omega) (show (1600 + (1600 * ρ 8 + 0) : Int) = _ by omega) (show (0 + (1 * ρ 16 + 0) : Int) = _ by rw [fA_I (s := 1) (j := 3) (r := 566) (g := 0) (v := 0) (Or.inr ⟨rfl, rfl, by decide⟩) (by decide) (by omega) (by decide), y3]; omega)) (pAll0))))))))
        · refine ⟨rFTm_15, List.mem_of_getElem? (i := 15) rfl, pEnd [ρ 0, ρ 1, ρ 2, ρ 3, ρ 4, ρ 5, ρ 6, ρ 7, ρ 8, ρ 9, ρ 10, ρ 11, ρ 12, ρ 13, ρ 14, ρ 15, ρ 16, ρ 17, (a : Int), ((wSk (wN h) (wB h) (a)) : Int), (wCh (wN h) (wB h) ((wSk (wN h) (wB h) (a))))] rfl ?_ ?_ ?_ ?_⟩
          · intro j hj
            match j, hj with
            | 0, _ => exact q0.symm
            | 1, _ => exact q1.symm
            | 2, _ => exact q2.symm
            | 3, _ => exact q3.symm
            | 4, _ => exact q4.symm
            | 5, _ => exact q5.symm
            | 6, _ => exact q6.symm
            | 7, _ => exact q7.symm
            | 8, _ => exact q8.symm
            | 9, _ => exact q9.symm
            | 10, _ => exact q10.symm
            | 11, _ => exact q11.symm
            | 12, _ => exact q12.symm
            | 13, _ => exact q13.symm
            | 14, _ => exact q14.symm
            | 15, _ => exact q15.symm
            | 16, _ => exact q16.symm
            | 17, _ => exact q17.symm
            | k + 18, hj => exact absurd hj (by show ¬ (k + 18 < 18); omega)
          · intro k b hk
            match k, hk with
            | 0, hk => cases hk; exact (show (0 : Int) ≤ (a : Int) ∧ (a : Int) ≤ (240 : Int) by omega)
            | 1, hk => cases hk; exact (show (0 : Int) ≤ ((wSk (wN h) (wB h) (a)) : Int) ∧ ((wSk (wN h) (wB h) (a)) : Int) ≤ (240 : Int) by omega)
            | 2, hk => cases hk; exact (show (60 : Int) ≤ (wCh (wN h) (wB h) ((wSk (wN h) (wB h) (a)))) ∧ (wCh (wN h) (wB h) ((wSk (wN h) (wB h) (a)))) ≤ (255 : Int) by omega)
            | k + 3, hk => cases hk
          · exact pAll1 (show (0 + (1 * ρ 3 + ((-1) * ρ 8 + 0)) : Int) ≤ 0 by omega) (pAll1 (show (0 + ((-1) * ρ 2 + (1 * ρ 8 + 0)) : Int) ≤ 0 by omega) (pAll1 (show (1 + ((-1) * ρ 2 + (1 * ρ 8 + 0)) : Int) ≤ 0 by omega) (pAll1 (show (1 + ((-1) * ρ 9 + 0) : Int) ≤ 0 by omega) (pAll1 (show ((-109) + (1 * ρ 9 + 0) : Int) ≤ 0 by omega) (pAll1 (show (109 + ((-1) * ρ 9 + 0) : Int) ≤ 0 by omega) (pAll1 (show ((-5) + (1 * ρ 5 + 0) : Int) ≤ 0 by omega) (pAll1 (show (1 + (1 * ρ 8 + ((-1) * (a : Int) + 0)) : Int) ≤ 0 by omega) (pAll1 (show (0 + (1 * (a : Int) + ((-1) * ((wSk (wN h) (wB h) (a)) : Int) + 0)) : Int) ≤ 0 by omega) (pAll1 (show (0 + ((-1) * ρ 2 + (1 * ((wSk (wN h) (wB h) (a)) : Int) + 0)) : Int) ≤ 0 by omega) (pAll1 (show (1 + ((-1) * ρ 2 + (1 * ((wSk (wN h) (wB h) (a)) : Int) + 0)) : Int) ≤ 0 by omega) (pAll1 (show (1 + (1 * ρ 7 + (1 * ((wSk (wN h) (wB h) (a)) : Int) + 0)) : Int) ≤ 0 by omega) (pAll1 (show ((-1) + ((-1) * ρ 7 + ((-1) * ((wSk (wN h) (wB h) (a)) : Int) + 0)) : Int) ≤ 0 by omega) (pAll0)))))))))))))
          · exact pAll1 (pgF hf 531 (by decide) (by decide) (16 * ((wSk (wN h) (wB h) (p)) + 1) + 0) (by omega) (show (16 + (16 * ρ 8 + 0) : Int) = _ by omega) (show (0 + (1 * (a : Int) + 0) : Int) = _ by rw [fA_IT1 (g := 0) (p := (wSk (wN h) (wB h) (p)) + 1) (by decide) (by omega) hn]; omega)) (pAll1 (pgS ho hh (a) (by omega) (show (0 + (1 * (a : Int) + 0) : Int) = _ by omega) (show (0 + (1 * ((wSk (wN h) (wB h) (a)) : Int) + 0) : Int) = _ by omega)) (pAll1 (pgC ho hh ((wSk (wN h) (wB h) (a))) (by omega) (show (0 + (1 * ((wSk (wN h) (wB h) (a)) : Int) + 0) : Int) = _ by omega) (show (0 + (1 * (wCh (wN h) (wB h) ((wSk (wN h) (wB h) (a)))) + 0) : Int) = _ by omega)) (pAll1 (pgS ho hh ((wSk (wN h) (wB h) (a))) (by omega) (show (0 + (1 * ((wSk (wN h) (wB h) (a)) : Int) + 0) : Int) = _ by omega) (show (0 + (1 * ((wSk (wN h) (wB h) (a)) : Int) + 0) : Int) = _ by omega)) (pAll1 (pgF hf 563 (by decide) (by decide) (1600 * ((wSk (wN h) (wB h) (p)) + 1) + 100 * 0 + 3) (by omega) (show (1603 + (1600 * ρ 8 + 0) : Int) = _ by omega) (show (0 + (1 * ρ 13 + 0) : Int) = _ by rw [fA_I (s := 1) (j := 0) (r := 563) (g := 0) (v := 3) (Or.inr ⟨rfl, rfl, by decide⟩) (by decide) (by omega) (by decide), y0]; omega)) (pAll1 (pgF hf 564 (by decide) (by decide) (1600 * ((wSk (wN h) (wB h) (p)) + 1) + 100 * 0 + 3) (by omega) (show (1603 + (1600 * ρ 8 + 0) : Int) = _ by omega) (show (0 + (1 * ρ 14 + 0) : Int) = _ by rw [fA_I (s := 1) (j := 1) (r := 564) (g := 0) (v := 3) (Or.inr ⟨rfl, rfl, by decide⟩) (by decide) (by omega) (by decide), y1]; omega)) (pAll1 (pgF hf 565 (by decide) (by decide) (1600 * ((wSk (wN h) (wB h) (p)) + 1) + 100 * 0 + 5) (by omega) (show (1605 + (1600 * ρ 8 + 0) : Int) = _ by omega) (show (0 + (1 * ρ 15 + 0) : Int) = _ by rw [fA_I (s := 1) (j := 2) (r := 565) (g := 0) (v := 5) (Or.inr ⟨rfl, rfl, by decide⟩) (by decide) (by omega) (by decide), y2]; omega)) (pAll1 (pgF hf 566 (by decide) (by decide) (1600 * ((wSk (wN h) (wB h) (p)) + 1) + 100 * 0 + 0) (by omega) (show (1600 + (1600 * ρ 8 + 0) : Int) = _ by omega) (show (0 + (1 * ρ 16 + 0) : Int) = _ by rw [fA_I (s := 1) (j := 3) (r := 566) (g := 0) (v := 0) (Or.inr ⟨rfl, rfl, by decide⟩) (by decide) (by omega) (by decide), y3]; omega)) (pAll0))))))))
noncomputable def rRA0c_0 : sX := (none, [(1001, (0, []), (1, []))], [], [], [])
noncomputable def rRA0c : sQ := (0, ([], [(2, 951, (0, [])), (2, 951, (1, [])), (2, 951, (2, [])), (2, 951, (3, [])), (2, 538, (0, [])), (2, 538, (1, [])), (2, 538, (2, [])), (2, 538, (3, []))], [(0, 99), (0, 99), (0, 99), (0, 99), (0, 99), (0, 99), (0, 99), (0, 99)], [(0, [(0, 1), (4, (-1))]), (0, [(0, (-1)), (4, 1)]), (0, [(1, 1), (5, (-1))]), (0, [(1, (-1)), (5, 1)]), (0, [(2, 1), (6, (-1))]), (0, [(2, (-1)), (6, 1)]), (0, [(3, 1), (7, (-1))]), (0, [(3, (-1)), (7, 1)])], [(0, 0), (1, 1), (2, 2), (3, 3), (4, 4), (5, 5), (6, 6), (7, 7)], (0, [])), [rRA0c_0], [], 0)
theorem rRA0c_ok : pRul pReg pG pgv (rRA0c) := by
  intro loc h ρ ρ0 hG hM
  have hM : sMt pReg pgv ρ ρ0 (sAs (rRA0c).2.1) loc [] h := hM
  have q0 : ρ0 1 = ρ 0 := (hM.2.2.2.2.2 (1, sY 0) (List.mem_of_getElem? (i := 1) rfl)).trans (sY_v ρ 0)
  have q1 : ρ0 2 = ρ 1 := (hM.2.2.2.2.2 (2, sY 1) (List.mem_of_getElem? (i := 2) rfl)).trans (sY_v ρ 1)
  have q2 : ρ0 3 = ρ 2 := (hM.2.2.2.2.2 (3, sY 2) (List.mem_of_getElem? (i := 3) rfl)).trans (sY_v ρ 2)
  have q3 : ρ0 4 = ρ 3 := (hM.2.2.2.2.2 (4, sY 3) (List.mem_of_getElem? (i := 4) rfl)).trans (sY_v ρ 3)
  have q4 : ρ0 5 = ρ 4 := (hM.2.2.2.2.2 (5, sY 4) (List.mem_of_getElem? (i := 5) rfl)).trans (sY_v ρ 4)
  have q5 : ρ0 6 = ρ 5 := (hM.2.2.2.2.2 (6, sY 5) (List.mem_of_getElem? (i := 6) rfl)).trans (sY_v ρ 5)
  have q6 : ρ0 7 = ρ 6 := (hM.2.2.2.2.2 (7, sY 6) (List.mem_of_getElem? (i := 7) rfl)).trans (sY_v ρ 6)
  have q7 : ρ0 8 = ρ 7 := (hM.2.2.2.2.2 (8, sY 7) (List.mem_of_getElem? (i := 8) rfl)).trans (sY_v ρ 7)
  have hL : ∀ j, j < 8 → pL [ρ 0, ρ 1, ρ 2, ρ 3, ρ 4, ρ 5, ρ 6, ρ 7] j = ρ0 (j + 1) := by
    intro j hj
    match j, hj with
    | 0, _ => exact q0.symm
    | 1, _ => exact q1.symm
    | 2, _ => exact q2.symm
    | 3, _ => exact q3.symm
    | 4, _ => exact q4.symm
    | 5, _ => exact q5.symm
    | 6, _ => exact q6.symm
    | 7, _ => exact q7.symm
    | k + 8, hj => omega
  have b0 : (0 : Int) ≤ ρ 0 ∧ ρ 0 ≤ 99 := hM.2.2.2.1 0 (0, 99) rfl
  have b1 : (0 : Int) ≤ ρ 1 ∧ ρ 1 ≤ 99 := hM.2.2.2.1 1 (0, 99) rfl
  have b2 : (0 : Int) ≤ ρ 2 ∧ ρ 2 ≤ 99 := hM.2.2.2.1 2 (0, 99) rfl
  have b3 : (0 : Int) ≤ ρ 3 ∧ ρ 3 ≤ 99 := hM.2.2.2.1 3 (0, 99) rfl
  have b4 : (0 : Int) ≤ ρ 4 ∧ ρ 4 ≤ 99 := hM.2.2.2.1 4 (0, 99) rfl
  have b5 : (0 : Int) ≤ ρ 5 ∧ ρ 5 ≤ 99 := hM.2.2.2.1 5 (0, 99) rfl
  have b6 : (0 : Int) ≤ ρ 6 ∧ ρ 6 ≤ 99 := hM.2.2.2.1 6 (0, 99) rfl
  have b7 : (0 : Int) ≤ ρ 7 ∧ ρ 7 ≤ 99 := hM.2.2.2.1 7 (0, 99) rfl
  have c0 : (0 + (1 * ρ 0 + ((-1) * ρ 4 + 0)) : Int) ≤ 0 := hM.2.2.2.2.1 (0, [(0, 1), (4, (-1))]) (List.mem_of_getElem? (i := 0) rfl)
  have c1 : (0 + ((-1) * ρ 0 + (1 * ρ 4 + 0)) : Int) ≤ 0 := hM.2.2.2.2.1 (0, [(0, (-1)), (4, 1)]) (List.mem_of_getElem? (i := 1) rfl)
  have c2 : (0 + (1 * ρ 1 + ((-1) * ρ 5 + 0)) : Int) ≤ 0 := hM.2.2.2.2.1 (0, [(1, 1), (5, (-1))]) (List.mem_of_getElem? (i := 2) rfl)
  have c3 : (0 + ((-1) * ρ 1 + (1 * ρ 5 + 0)) : Int) ≤ 0 := hM.2.2.2.2.1 (0, [(1, (-1)), (5, 1)]) (List.mem_of_getElem? (i := 3) rfl)
  have c4 : (0 + (1 * ρ 2 + ((-1) * ρ 6 + 0)) : Int) ≤ 0 := hM.2.2.2.2.1 (0, [(2, 1), (6, (-1))]) (List.mem_of_getElem? (i := 4) rfl)
  have c5 : (0 + ((-1) * ρ 2 + (1 * ρ 6 + 0)) : Int) ≤ 0 := hM.2.2.2.2.1 (0, [(2, (-1)), (6, 1)]) (List.mem_of_getElem? (i := 5) rfl)
  have c6 : (0 + (1 * ρ 3 + ((-1) * ρ 7 + 0)) : Int) ≤ 0 := hM.2.2.2.2.1 (0, [(3, 1), (7, (-1))]) (List.mem_of_getElem? (i := 6) rfl)
  have c7 : (0 + ((-1) * ρ 3 + (1 * ρ 7 + 0)) : Int) ≤ 0 := hM.2.2.2.2.1 (0, [(3, (-1)), (7, 1)]) (List.mem_of_getElem? (i := 7) rfl)
  have z0 : (h.1 (355 + 0) 0).toInt = ρ 0 := pPl hM 0 951 (0, []) rfl (by decide) (355 + 0) 0 (by decide +kernel) rfl
  have t0 : (h.1 538 0).toInt = ρ 4 := pPl hM 4 538 (0, []) rfl (by decide) 538 0 (by decide +kernel) rfl
  have z1 : (h.1 (355 + 0) 1).toInt = ρ 1 := pPl hM 1 951 (1, []) rfl (by decide) (355 + 0) 1 (by decide +kernel) rfl
  have t1 : (h.1 538 1).toInt = ρ 5 := pPl hM 5 538 (1, []) rfl (by decide) 538 1 (by decide +kernel) rfl
  have z2 : (h.1 (355 + 0) 2).toInt = ρ 2 := pPl hM 2 951 (2, []) rfl (by decide) (355 + 0) 2 (by decide +kernel) rfl
  have t2 : (h.1 538 2).toInt = ρ 6 := pPl hM 6 538 (2, []) rfl (by decide) 538 2 (by decide +kernel) rfl
  have z3 : (h.1 (355 + 0) 3).toInt = ρ 3 := pPl hM 3 951 (3, []) rfl (by decide) (355 + 0) 3 (by decide +kernel) rfl
  have t3 : (h.1 538 3).toInt = ρ 7 := pPl hM 7 538 (3, []) rfl (by decide) 538 3 (by decide +kernel) rfl
  have hn : aC 1 h := by
    intro i k hi hk
    obtain rfl : i = 0 := by omega
    rcases (show k = 0 ∨ k = 1 ∨ k = 2 ∨ k = 3 by omega) with rfl | rfl | rfl | rfl
    · exact z0.trans ((show ρ 0 = ρ 4 by omega).trans t0.symm)
    · exact z1.trans ((show ρ 1 = ρ 5 by omega).trans t1.symm)
    · exact z2.trans ((show ρ 2 = ρ 6 by omega).trans t2.symm)
    · exact z3.trans ((show ρ 3 = ρ 7 by omega).trans t3.symm)
  refine ⟨rRA0c_0, List.mem_of_getElem? (i := 0) rfl, pEnd [ρ 0, ρ 1, ρ 2, ρ 3, ρ 4, ρ 5, ρ 6, ρ 7] rfl ?_ ?_ ?_ ?_⟩
  · exact hL
  · intro k b hk
    cases hk
  · exact pAll0
  · exact pAll1 (pgTl 1 (show pgv 1 h = (1 + 0 : Int) by rw [pgv_C (a := 1) (by decide), yB_1.mpr hn]; rfl)) (pAll0)
noncomputable def rRA1c_0 : sX := (none, [(1002, (0, []), (1, []))], [], [], [])
noncomputable def rRA1c : sQ := (0, ([], [(2, 1001, (0, [])), (2, 952, (0, [])), (2, 952, (1, [])), (2, 952, (2, [])), (2, 952, (3, [])), (2, 538, (4, [])), (2, 538, (5, [])), (2, 538, (6, [])), (2, 538, (7, []))], [(1, 1), (0, 99), (0, 99), (0, 99), (0, 99), (0, 99), (0, 99), (0, 99), (0, 99)], [(0, [(1, 1), (5, (-1))]), (0, [(1, (-1)), (5, 1)]), (0, [(2, 1), (6, (-1))]), (0, [(2, (-1)), (6, 1)]), (0, [(3, 1), (7, (-1))]), (0, [(3, (-1)), (7, 1)]), (0, [(4, 1), (8, (-1))]), (0, [(4, (-1)), (8, 1)])], [(0, 0), (1, 1), (2, 2), (3, 3), (4, 4), (5, 5), (6, 6), (7, 7), (8, 8)], (0, [])), [rRA1c_0], [], 0)
theorem rRA1c_ok : pRul pReg pG pgv (rRA1c) := by
  intro loc h ρ ρ0 hG hM
  have hM : sMt pReg pgv ρ ρ0 (sAs (rRA1c).2.1) loc [] h := hM
  have q0 : ρ0 1 = ρ 0 := (hM.2.2.2.2.2 (1, sY 0) (List.mem_of_getElem? (i := 1) rfl)).trans (sY_v ρ 0)
  have q1 : ρ0 2 = ρ 1 := (hM.2.2.2.2.2 (2, sY 1) (List.mem_of_getElem? (i := 2) rfl)).trans (sY_v ρ 1)
  have q2 : ρ0 3 = ρ 2 := (hM.2.2.2.2.2 (3, sY 2) (List.mem_of_getElem? (i := 3) rfl)).trans (sY_v ρ 2)
  have q3 : ρ0 4 = ρ 3 := (hM.2.2.2.2.2 (4, sY 3) (List.mem_of_getElem? (i := 4) rfl)).trans (sY_v ρ 3)
  have q4 : ρ0 5 = ρ 4 := (hM.2.2.2.2.2 (5, sY 4) (List.mem_of_getElem? (i := 5) rfl)).trans (sY_v ρ 4)
  have q5 : ρ0 6 = ρ 5 := (hM.2.2.2.2.2 (6, sY 5) (List.mem_of_getElem? (i := 6) rfl)).trans (sY_v ρ 5)
  have q6 : ρ0 7 = ρ 6 := (hM.2.2.2.2.2 (7, sY 6) (List.mem_of_getElem? (i := 7) rfl)).trans (sY_v ρ 6)
  have q7 : ρ0 8 = ρ 7 := (hM.2.2.2.2.2 (8, sY 7) (List.mem_of_getElem? (i := 8) rfl)).trans (sY_v ρ 7)
  have q8 : ρ0 9 = ρ 8 := (hM.2.2.2.2.2 (9, sY 8) (List.mem_of_getElem? (i := 9) rfl)).trans (sY_v ρ 8)
  have hL : ∀ j, j < 9 → pL [ρ 0, ρ 1, ρ 2, ρ 3, ρ 4, ρ 5, ρ 6, ρ 7, ρ 8] j = ρ0 (j + 1) := by
    intro j hj
    match j, hj with
    | 0, _ => exact q0.symm
    | 1, _ => exact q1.symm
    | 2, _ => exact q2.symm
    | 3, _ => exact q3.symm
    | 4, _ => exact q4.symm
    | 5, _ => exact q5.symm
    | 6, _ => exact q6.symm
    | 7, _ => exact q7.symm
    | 8, _ => exact q8.symm
    | k + 9, hj => omega
  have b0 : (1 : Int) ≤ ρ 0 ∧ ρ 0 ≤ 1 := hM.2.2.2.1 0 (1, 1) rfl
  have b1 : (0 : Int) ≤ ρ 1 ∧ ρ 1 ≤ 99 := hM.2.2.2.1 1 (0, 99) rfl
  have b2 : (0 : Int) ≤ ρ 2 ∧ ρ 2 ≤ 99 := hM.2.2.2.1 2 (0, 99) rfl
  have b3 : (0 : Int) ≤ ρ 3 ∧ ρ 3 ≤ 99 := hM.2.2.2.1 3 (0, 99) rfl
  have b4 : (0 : Int) ≤ ρ 4 ∧ ρ 4 ≤ 99 := hM.2.2.2.1 4 (0, 99) rfl
  have b5 : (0 : Int) ≤ ρ 5 ∧ ρ 5 ≤ 99 := hM.2.2.2.1 5 (0, 99) rfl
  have b6 : (0 : Int) ≤ ρ 6 ∧ ρ 6 ≤ 99 := hM.2.2.2.1 6 (0, 99) rfl
  have b7 : (0 : Int) ≤ ρ 7 ∧ ρ 7 ≤ 99 := hM.2.2.2.1 7 (0, 99) rfl
  have b8 : (0 : Int) ≤ ρ 8 ∧ ρ 8 ≤ 99 := hM.2.2.2.1 8 (0, 99) rfl
  have c0 : (0 + (1 * ρ 1 + ((-1) * ρ 5 + 0)) : Int) ≤ 0 := hM.2.2.2.2.1 (0, [(1, 1), (5, (-1))]) (List.mem_of_getElem? (i := 0) rfl)
  have c1 : (0 + ((-1) * ρ 1 + (1 * ρ 5 + 0)) : Int) ≤ 0 := hM.2.2.2.2.1 (0, [(1, (-1)), (5, 1)]) (List.mem_of_getElem? (i := 1) rfl)
  have c2 : (0 + (1 * ρ 2 + ((-1) * ρ 6 + 0)) : Int) ≤ 0 := hM.2.2.2.2.1 (0, [(2, 1), (6, (-1))]) (List.mem_of_getElem? (i := 2) rfl)
  have c3 : (0 + ((-1) * ρ 2 + (1 * ρ 6 + 0)) : Int) ≤ 0 := hM.2.2.2.2.1 (0, [(2, (-1)), (6, 1)]) (List.mem_of_getElem? (i := 3) rfl)
  have c4 : (0 + (1 * ρ 3 + ((-1) * ρ 7 + 0)) : Int) ≤ 0 := hM.2.2.2.2.1 (0, [(3, 1), (7, (-1))]) (List.mem_of_getElem? (i := 4) rfl)
  have c5 : (0 + ((-1) * ρ 3 + (1 * ρ 7 + 0)) : Int) ≤ 0 := hM.2.2.2.2.1 (0, [(3, (-1)), (7, 1)]) (List.mem_of_getElem? (i := 5) rfl)
  have c6 : (0 + (1 * ρ 4 + ((-1) * ρ 8 + 0)) : Int) ≤ 0 := hM.2.2.2.2.1 (0, [(4, 1), (8, (-1))]) (List.mem_of_getElem? (i := 6) rfl)
  have c7 : (0 + ((-1) * ρ 4 + (1 * ρ 8 + 0)) : Int) ≤ 0 := hM.2.2.2.2.1 (0, [(4, (-1)), (8, 1)]) (List.mem_of_getElem? (i := 7) rfl)
  have ha : aC 1 h := pToldC hM 0 1 (by decide) (0, []) rfl b0.1
  have z0 : (h.1 (355 + 1) 0).toInt = ρ 1 := pPl hM 1 952 (0, []) rfl (by decide) (355 + 1) 0 (by decide +kernel) rfl
  have t0 : (h.1 538 4).toInt = ρ 5 := pPl hM 5 538 (4, []) rfl (by decide) 538 4 (by decide +kernel) rfl
  have z1 : (h.1 (355 + 1) 1).toInt = ρ 2 := pPl hM 2 952 (1, []) rfl (by decide) (355 + 1) 1 (by decide +kernel) rfl
  have t1 : (h.1 538 5).toInt = ρ 6 := pPl hM 6 538 (5, []) rfl (by decide) 538 5 (by decide +kernel) rfl
  have z2 : (h.1 (355 + 1) 2).toInt = ρ 3 := pPl hM 3 952 (2, []) rfl (by decide) (355 + 1) 2 (by decide +kernel) rfl
  have t2 : (h.1 538 6).toInt = ρ 7 := pPl hM 7 538 (6, []) rfl (by decide) 538 6 (by decide +kernel) rfl
  have z3 : (h.1 (355 + 1) 3).toInt = ρ 4 := pPl hM 4 952 (3, []) rfl (by decide) (355 + 1) 3 (by decide +kernel) rfl
  have t3 : (h.1 538 7).toInt = ρ 8 := pPl hM 8 538 (7, []) rfl (by decide) 538 7 (by decide +kernel) rfl
  have hn : aC 2 h := by
    intro i k hi hk
    by_cases q : i < 1
    · exact ha i k q hk
    obtain rfl : i = 1 := by omega
    rcases (show k = 0 ∨ k = 1 ∨ k = 2 ∨ k = 3 by omega) with rfl | rfl | rfl | rfl
    · exact z0.trans ((show ρ 1 = ρ 5 by omega).trans t0.symm)
    · exact z1.trans ((show ρ 2 = ρ 6 by omega).trans t1.symm)
    · exact z2.trans ((show ρ 3 = ρ 7 by omega).trans t2.symm)
    · exact z3.trans ((show ρ 4 = ρ 8 by omega).trans t3.symm)
  refine ⟨rRA1c_0, List.mem_of_getElem? (i := 0) rfl, pEnd [ρ 0, ρ 1, ρ 2, ρ 3, ρ 4, ρ 5, ρ 6, ρ 7, ρ 8] rfl ?_ ?_ ?_ ?_⟩
  · exact hL
  · intro k b hk
    cases hk
  · exact pAll0
  · exact pAll1 (pgTl 2 (show pgv 2 h = (1 + 0 : Int) by rw [pgv_C (a := 2) (by decide), yB_1.mpr hn]; rfl)) (pAll0)
noncomputable def rRA2c_0 : sX := (none, [(1003, (0, []), (1, []))], [], [], [])
noncomputable def rRA2c : sQ := (0, ([], [(2, 1002, (0, [])), (2, 953, (0, [])), (2, 953, (1, [])), (2, 953, (2, [])), (2, 953, (3, [])), (2, 538, (8, [])), (2, 538, (9, [])), (2, 538, (10, [])), (2, 538, (11, []))], [(1, 1), (0, 99), (0, 99), (0, 99), (0, 99), (0, 99), (0, 99), (0, 99), (0, 99)], [(0, [(1, 1), (5, (-1))]), (0, [(1, (-1)), (5, 1)]), (0, [(2, 1), (6, (-1))]), (0, [(2, (-1)), (6, 1)]), (0, [(3, 1), (7, (-1))]), (0, [(3, (-1)), (7, 1)]), (0, [(4, 1), (8, (-1))]), (0, [(4, (-1)), (8, 1)])], [(0, 0), (1, 1), (2, 2), (3, 3), (4, 4), (5, 5), (6, 6), (7, 7), (8, 8)], (0, [])), [rRA2c_0], [], 0)
theorem rRA2c_ok : pRul pReg pG pgv (rRA2c) := by
  intro loc h ρ ρ0 hG hM
  have hM : sMt pReg pgv ρ ρ0 (sAs (rRA2c).2.1) loc [] h := hM
  have q0 : ρ0 1 = ρ 0 := (hM.2.2.2.2.2 (1, sY 0) (List.mem_of_getElem? (i := 1) rfl)).trans (sY_v ρ 0)
  have q1 : ρ0 2 = ρ 1 := (hM.2.2.2.2.2 (2, sY 1) (List.mem_of_getElem? (i := 2) rfl)).trans (sY_v ρ 1)
  have q2 : ρ0 3 = ρ 2 := (hM.2.2.2.2.2 (3, sY 2) (List.mem_of_getElem? (i := 3) rfl)).trans (sY_v ρ 2)
  have q3 : ρ0 4 = ρ 3 := (hM.2.2.2.2.2 (4, sY 3) (List.mem_of_getElem? (i := 4) rfl)).trans (sY_v ρ 3)
  have q4 : ρ0 5 = ρ 4 := (hM.2.2.2.2.2 (5, sY 4) (List.mem_of_getElem? (i := 5) rfl)).trans (sY_v ρ 4)
  have q5 : ρ0 6 = ρ 5 := (hM.2.2.2.2.2 (6, sY 5) (List.mem_of_getElem? (i := 6) rfl)).trans (sY_v ρ 5)
  have q6 : ρ0 7 = ρ 6 := (hM.2.2.2.2.2 (7, sY 6) (List.mem_of_getElem? (i := 7) rfl)).trans (sY_v ρ 6)
  have q7 : ρ0 8 = ρ 7 := (hM.2.2.2.2.2 (8, sY 7) (List.mem_of_getElem? (i := 8) rfl)).trans (sY_v ρ 7)
  have q8 : ρ0 9 = ρ 8 := (hM.2.2.2.2.2 (9, sY 8) (List.mem_of_getElem? (i := 9) rfl)).trans (sY_v ρ 8)
  have hL : ∀ j, j < 9 → pL [ρ 0, ρ 1, ρ 2, ρ 3, ρ 4, ρ 5, ρ 6, ρ 7, ρ 8] j = ρ0 (j + 1) := by
    intro j hj
    match j, hj with
    | 0, _ => exact q0.symm
    | 1, _ => exact q1.symm
    | 2, _ => exact q2.symm
    | 3, _ => exact q3.symm
    | 4, _ => exact q4.symm
    | 5, _ => exact q5.symm
    | 6, _ => exact q6.symm
    | 7, _ => exact q7.symm
    | 8, _ => exact q8.symm
    | k + 9, hj => omega
  have b0 : (1 : Int) ≤ ρ 0 ∧ ρ 0 ≤ 1 := hM.2.2.2.1 0 (1, 1) rfl
  have b1 : (0 : Int) ≤ ρ 1 ∧ ρ 1 ≤ 99 := hM.2.2.2.1 1 (0, 99) rfl
  have b2 : (0 : Int) ≤ ρ 2 ∧ ρ 2 ≤ 99 := hM.2.2.2.1 2 (0, 99) rfl
  have b3 : (0 : Int) ≤ ρ 3 ∧ ρ 3 ≤ 99 := hM.2.2.2.1 3 (0, 99) rfl
  have b4 : (0 : Int) ≤ ρ 4 ∧ ρ 4 ≤ 99 := hM.2.2.2.1 4 (0, 99) rfl
  have b5 : (0 : Int) ≤ ρ 5 ∧ ρ 5 ≤ 99 := hM.2.2.2.1 5 (0, 99) rfl
  have b6 : (0 : Int) ≤ ρ 6 ∧ ρ 6 ≤ 99 := hM.2.2.2.1 6 (0, 99) rfl
  have b7 : (0 : Int) ≤ ρ 7 ∧ ρ 7 ≤ 99 := hM.2.2.2.1 7 (0, 99) rfl
  have b8 : (0 : Int) ≤ ρ 8 ∧ ρ 8 ≤ 99 := hM.2.2.2.1 8 (0, 99) rfl
  have c0 : (0 + (1 * ρ 1 + ((-1) * ρ 5 + 0)) : Int) ≤ 0 := hM.2.2.2.2.1 (0, [(1, 1), (5, (-1))]) (List.mem_of_getElem? (i := 0) rfl)
  have c1 : (0 + ((-1) * ρ 1 + (1 * ρ 5 + 0)) : Int) ≤ 0 := hM.2.2.2.2.1 (0, [(1, (-1)), (5, 1)]) (List.mem_of_getElem? (i := 1) rfl)
  have c2 : (0 + (1 * ρ 2 + ((-1) * ρ 6 + 0)) : Int) ≤ 0 := hM.2.2.2.2.1 (0, [(2, 1), (6, (-1))]) (List.mem_of_getElem? (i := 2) rfl)
  have c3 : (0 + ((-1) * ρ 2 + (1 * ρ 6 + 0)) : Int) ≤ 0 := hM.2.2.2.2.1 (0, [(2, (-1)), (6, 1)]) (List.mem_of_getElem? (i := 3) rfl)
  have c4 : (0 + (1 * ρ 3 + ((-1) * ρ 7 + 0)) : Int) ≤ 0 := hM.2.2.2.2.1 (0, [(3, 1), (7, (-1))]) (List.mem_of_getElem? (i := 4) rfl)
  have c5 : (0 + ((-1) * ρ 3 + (1 * ρ 7 + 0)) : Int) ≤ 0 := hM.2.2.2.2.1 (0, [(3, (-1)), (7, 1)]) (List.mem_of_getElem? (i := 5) rfl)
  have c6 : (0 + (1 * ρ 4 + ((-1) * ρ 8 + 0)) : Int) ≤ 0 := hM.2.2.2.2.1 (0, [(4, 1), (8, (-1))]) (List.mem_of_getElem? (i := 6) rfl)
  have c7 : (0 + ((-1) * ρ 4 + (1 * ρ 8 + 0)) : Int) ≤ 0 := hM.2.2.2.2.1 (0, [(4, (-1)), (8, 1)]) (List.mem_of_getElem? (i := 7) rfl)
  have ha : aC 2 h := pToldC hM 0 2 (by decide) (0, []) rfl b0.1
  have z0 : (h.1 (355 + 2) 0).toInt = ρ 1 := pPl hM 1 953 (0, []) rfl (by decide) (355 + 2) 0 (by decide +kernel) rfl
  have t0 : (h.1 538 8).toInt = ρ 5 := pPl hM 5 538 (8, []) rfl (by decide) 538 8 (by decide +kernel) rfl
  have z1 : (h.1 (355 + 2) 1).toInt = ρ 2 := pPl hM 2 953 (1, []) rfl (by decide) (355 + 2) 1 (by decide +kernel) rfl
  have t1 : (h.1 538 9).toInt = ρ 6 := pPl hM 6 538 (9, []) rfl (by decide) 538 9 (by decide +kernel) rfl
  have z2 : (h.1 (355 + 2) 2).toInt = ρ 3 := pPl hM 3 953 (2, []) rfl (by decide) (355 + 2) 2 (by decide +kernel) rfl
  have t2 : (h.1 538 10).toInt = ρ 7 := pPl hM 7 538 (10, []) rfl (by decide) 538 10 (by decide +kernel) rfl
  have z3 : (h.1 (355 + 2) 3).toInt = ρ 4 := pPl hM 4 953 (3, []) rfl (by decide) (355 + 2) 3 (by decide +kernel) rfl
  have t3 : (h.1 538 11).toInt = ρ 8 := pPl hM 8 538 (11, []) rfl (by decide) 538 11 (by decide +kernel) rfl
  have hn : aC 3 h := by
    intro i k hi hk
    by_cases q : i < 2
    · exact ha i k q hk
    obtain rfl : i = 2 := by omega
    rcases (show k = 0 ∨ k = 1 ∨ k = 2 ∨ k = 3 by omega) with rfl | rfl | rfl | rfl
    · exact z0.trans ((show ρ 1 = ρ 5 by omega).trans t0.symm)
    · exact z1.trans ((show ρ 2 = ρ 6 by omega).trans t1.symm)
    · exact z2.trans ((show ρ 3 = ρ 7 by omega).trans t2.symm)
    · exact z3.trans ((show ρ 4 = ρ 8 by omega).trans t3.symm)
  refine ⟨rRA2c_0, List.mem_of_getElem? (i := 0) rfl, pEnd [ρ 0, ρ 1, ρ 2, ρ 3, ρ 4, ρ 5, ρ 6, ρ 7, ρ 8] rfl ?_ ?_ ?_ ?_⟩
  · exact hL
  · intro k b hk
    cases hk
  · exact pAll0
  · exact pAll1 (pgTl 3 (show pgv 3 h = (1 + 0 : Int) by rw [pgv_C (a := 3) (by decide), yB_1.mpr hn]; rfl)) (pAll0)
noncomputable def rRA3c_0 : sX := (none, [(1004, (0, []), (1, []))], [], [], [])
noncomputable def rRA3c : sQ := (0, ([], [(2, 1003, (0, [])), (2, 954, (0, [])), (2, 954, (1, [])), (2, 954, (2, [])), (2, 954, (3, [])), (2, 538, (12, [])), (2, 538, (13, [])), (2, 538, (14, [])), (2, 538, (15, []))], [(1, 1), (0, 99), (0, 99), (0, 99), (0, 99), (0, 99), (0, 99), (0, 99), (0, 99)], [(0, [(1, 1), (5, (-1))]), (0, [(1, (-1)), (5, 1)]), (0, [(2, 1), (6, (-1))]), (0, [(2, (-1)), (6, 1)]), (0, [(3, 1), (7, (-1))]), (0, [(3, (-1)), (7, 1)]), (0, [(4, 1), (8, (-1))]), (0, [(4, (-1)), (8, 1)])], [(0, 0), (1, 1), (2, 2), (3, 3), (4, 4), (5, 5), (6, 6), (7, 7), (8, 8)], (0, [])), [rRA3c_0], [], 0)
theorem rRA3c_ok : pRul pReg pG pgv (rRA3c) := by
  intro loc h ρ ρ0 hG hM
  have hM : sMt pReg pgv ρ ρ0 (sAs (rRA3c).2.1) loc [] h := hM
  have q0 : ρ0 1 = ρ 0 := (hM.2.2.2.2.2 (1, sY 0) (List.mem_of_getElem? (i := 1) rfl)).trans (sY_v ρ 0)
  have q1 : ρ0 2 = ρ 1 := (hM.2.2.2.2.2 (2, sY 1) (List.mem_of_getElem? (i := 2) rfl)).trans (sY_v ρ 1)
  have q2 : ρ0 3 = ρ 2 := (hM.2.2.2.2.2 (3, sY 2) (List.mem_of_getElem? (i := 3) rfl)).trans (sY_v ρ 2)
  have q3 : ρ0 4 = ρ 3 := (hM.2.2.2.2.2 (4, sY 3) (List.mem_of_getElem? (i := 4) rfl)).trans (sY_v ρ 3)
  have q4 : ρ0 5 = ρ 4 := (hM.2.2.2.2.2 (5, sY 4) (List.mem_of_getElem? (i := 5) rfl)).trans (sY_v ρ 4)
  have q5 : ρ0 6 = ρ 5 := (hM.2.2.2.2.2 (6, sY 5) (List.mem_of_getElem? (i := 6) rfl)).trans (sY_v ρ 5)
  have q6 : ρ0 7 = ρ 6 := (hM.2.2.2.2.2 (7, sY 6) (List.mem_of_getElem? (i := 7) rfl)).trans (sY_v ρ 6)
  have q7 : ρ0 8 = ρ 7 := (hM.2.2.2.2.2 (8, sY 7) (List.mem_of_getElem? (i := 8) rfl)).trans (sY_v ρ 7)
  have q8 : ρ0 9 = ρ 8 := (hM.2.2.2.2.2 (9, sY 8) (List.mem_of_getElem? (i := 9) rfl)).trans (sY_v ρ 8)
  have hL : ∀ j, j < 9 → pL [ρ 0, ρ 1, ρ 2, ρ 3, ρ 4, ρ 5, ρ 6, ρ 7, ρ 8] j = ρ0 (j + 1) := by
    intro j hj
    match j, hj with
    | 0, _ => exact q0.symm
    | 1, _ => exact q1.symm
    | 2, _ => exact q2.symm
    | 3, _ => exact q3.symm
    | 4, _ => exact q4.symm
    | 5, _ => exact q5.symm
    | 6, _ => exact q6.symm
    | 7, _ => exact q7.symm
    | 8, _ => exact q8.symm
    | k + 9, hj => omega
  have b0 : (1 : Int) ≤ ρ 0 ∧ ρ 0 ≤ 1 := hM.2.2.2.1 0 (1, 1) rfl
  have b1 : (0 : Int) ≤ ρ 1 ∧ ρ 1 ≤ 99 := hM.2.2.2.1 1 (0, 99) rfl
  have b2 : (0 : Int) ≤ ρ 2 ∧ ρ 2 ≤ 99 := hM.2.2.2.1 2 (0, 99) rfl
  have b3 : (0 : Int) ≤ ρ 3 ∧ ρ 3 ≤ 99 := hM.2.2.2.1 3 (0, 99) rfl
  have b4 : (0 : Int) ≤ ρ 4 ∧ ρ 4 ≤ 99 := hM.2.2.2.1 4 (0, 99) rfl
  have b5 : (0 : Int) ≤ ρ 5 ∧ ρ 5 ≤ 99 := hM.2.2.2.1 5 (0, 99) rfl
  have b6 : (0 : Int) ≤ ρ 6 ∧ ρ 6 ≤ 99 := hM.2.2.2.1 6 (0, 99) rfl
  have b7 : (0 : Int) ≤ ρ 7 ∧ ρ 7 ≤ 99 := hM.2.2.2.1 7 (0, 99) rfl
  have b8 : (0 : Int) ≤ ρ 8 ∧ ρ 8 ≤ 99 := hM.2.2.2.1 8 (0, 99) rfl
  have c0 : (0 + (1 * ρ 1 + ((-1) * ρ 5 + 0)) : Int) ≤ 0 := hM.2.2.2.2.1 (0, [(1, 1), (5, (-1))]) (List.mem_of_getElem? (i := 0) rfl)
  have c1 : (0 + ((-1) * ρ 1 + (1 * ρ 5 + 0)) : Int) ≤ 0 := hM.2.2.2.2.1 (0, [(1, (-1)), (5, 1)]) (List.mem_of_getElem? (i := 1) rfl)
  have c2 : (0 + (1 * ρ 2 + ((-1) * ρ 6 + 0)) : Int) ≤ 0 := hM.2.2.2.2.1 (0, [(2, 1), (6, (-1))]) (List.mem_of_getElem? (i := 2) rfl)
  have c3 : (0 + ((-1) * ρ 2 + (1 * ρ 6 + 0)) : Int) ≤ 0 := hM.2.2.2.2.1 (0, [(2, (-1)), (6, 1)]) (List.mem_of_getElem? (i := 3) rfl)
  have c4 : (0 + (1 * ρ 3 + ((-1) * ρ 7 + 0)) : Int) ≤ 0 := hM.2.2.2.2.1 (0, [(3, 1), (7, (-1))]) (List.mem_of_getElem? (i := 4) rfl)
  have c5 : (0 + ((-1) * ρ 3 + (1 * ρ 7 + 0)) : Int) ≤ 0 := hM.2.2.2.2.1 (0, [(3, (-1)), (7, 1)]) (List.mem_of_getElem? (i := 5) rfl)
  have c6 : (0 + (1 * ρ 4 + ((-1) * ρ 8 + 0)) : Int) ≤ 0 := hM.2.2.2.2.1 (0, [(4, 1), (8, (-1))]) (List.mem_of_getElem? (i := 6) rfl)
  have c7 : (0 + ((-1) * ρ 4 + (1 * ρ 8 + 0)) : Int) ≤ 0 := hM.2.2.2.2.1 (0, [(4, (-1)), (8, 1)]) (List.mem_of_getElem? (i := 7) rfl)
  have ha : aC 3 h := pToldC hM 0 3 (by decide) (0, []) rfl b0.1
  have z0 : (h.1 (355 + 3) 0).toInt = ρ 1 := pPl hM 1 954 (0, []) rfl (by decide) (355 + 3) 0 (by decide +kernel) rfl
  have t0 : (h.1 538 12).toInt = ρ 5 := pPl hM 5 538 (12, []) rfl (by decide) 538 12 (by decide +kernel) rfl
  have z1 : (h.1 (355 + 3) 1).toInt = ρ 2 := pPl hM 2 954 (1, []) rfl (by decide) (355 + 3) 1 (by decide +kernel) rfl
  have t1 : (h.1 538 13).toInt = ρ 6 := pPl hM 6 538 (13, []) rfl (by decide) 538 13 (by decide +kernel) rfl
  have z2 : (h.1 (355 + 3) 2).toInt = ρ 3 := pPl hM 3 954 (2, []) rfl (by decide) (355 + 3) 2 (by decide +kernel) rfl
  have t2 : (h.1 538 14).toInt = ρ 7 := pPl hM 7 538 (14, []) rfl (by decide) 538 14 (by decide +kernel) rfl
  have z3 : (h.1 (355 + 3) 3).toInt = ρ 4 := pPl hM 4 954 (3, []) rfl (by decide) (355 + 3) 3 (by decide +kernel) rfl
  have t3 : (h.1 538 15).toInt = ρ 8 := pPl hM 8 538 (15, []) rfl (by decide) 538 15 (by decide +kernel) rfl
  have hn : aC 4 h := by
    intro i k hi hk
    by_cases q : i < 3
    · exact ha i k q hk
    obtain rfl : i = 3 := by omega
    rcases (show k = 0 ∨ k = 1 ∨ k = 2 ∨ k = 3 by omega) with rfl | rfl | rfl | rfl
    · exact z0.trans ((show ρ 1 = ρ 5 by omega).trans t0.symm)
    · exact z1.trans ((show ρ 2 = ρ 6 by omega).trans t1.symm)
    · exact z2.trans ((show ρ 3 = ρ 7 by omega).trans t2.symm)
    · exact z3.trans ((show ρ 4 = ρ 8 by omega).trans t3.symm)
  refine ⟨rRA3c_0, List.mem_of_getElem? (i := 0) rfl, pEnd [ρ 0, ρ 1, ρ 2, ρ 3, ρ 4, ρ 5, ρ 6, ρ 7, ρ 8] rfl ?_ ?_ ?_ ?_⟩
  · exact hL
  · intro k b hk
    cases hk
  · exact pAll0
  · exact pAll1 (pgTl 4 (show pgv 4 h = (1 + 0 : Int) by rw [pgv_C (a := 4) (by decide), yB_1.mpr hn]; rfl)) (pAll0)
noncomputable def rRA4c_0 : sX := (none, [(1005, (0, []), (1, []))], [], [], [])
noncomputable def rRA4c : sQ := (0, ([], [(2, 1004, (0, [])), (2, 955, (0, [])), (2, 955, (1, [])), (2, 955, (2, [])), (2, 955, (3, [])), (2, 538, (16, [])), (2, 538, (17, [])), (2, 538, (18, [])), (2, 538, (19, []))], [(1, 1), (0, 99), (0, 99), (0, 99), (0, 99), (0, 99), (0, 99), (0, 99), (0, 99)], [(0, [(1, 1), (5, (-1))]), (0, [(1, (-1)), (5, 1)]), (0, [(2, 1), (6, (-1))]), (0, [(2, (-1)), (6, 1)]), (0, [(3, 1), (7, (-1))]), (0, [(3, (-1)), (7, 1)]), (0, [(4, 1), (8, (-1))]), (0, [(4, (-1)), (8, 1)])], [(0, 0), (1, 1), (2, 2), (3, 3), (4, 4), (5, 5), (6, 6), (7, 7), (8, 8)], (0, [])), [rRA4c_0], [], 0)
theorem rRA4c_ok : pRul pReg pG pgv (rRA4c) := by
  intro loc h ρ ρ0 hG hM
  have hM : sMt pReg pgv ρ ρ0 (sAs (rRA4c).2.1) loc [] h := hM
  have q0 : ρ0 1 = ρ 0 := (hM.2.2.2.2.2 (1, sY 0) (List.mem_of_getElem? (i := 1) rfl)).trans (sY_v ρ 0)
  have q1 : ρ0 2 = ρ 1 := (hM.2.2.2.2.2 (2, sY 1) (List.mem_of_getElem? (i := 2) rfl)).trans (sY_v ρ 1)
  have q2 : ρ0 3 = ρ 2 := (hM.2.2.2.2.2 (3, sY 2) (List.mem_of_getElem? (i := 3) rfl)).trans (sY_v ρ 2)
  have q3 : ρ0 4 = ρ 3 := (hM.2.2.2.2.2 (4, sY 3) (List.mem_of_getElem? (i := 4) rfl)).trans (sY_v ρ 3)
  have q4 : ρ0 5 = ρ 4 := (hM.2.2.2.2.2 (5, sY 4) (List.mem_of_getElem? (i := 5) rfl)).trans (sY_v ρ 4)
  have q5 : ρ0 6 = ρ 5 := (hM.2.2.2.2.2 (6, sY 5) (List.mem_of_getElem? (i := 6) rfl)).trans (sY_v ρ 5)
  have q6 : ρ0 7 = ρ 6 := (hM.2.2.2.2.2 (7, sY 6) (List.mem_of_getElem? (i := 7) rfl)).trans (sY_v ρ 6)
  have q7 : ρ0 8 = ρ 7 := (hM.2.2.2.2.2 (8, sY 7) (List.mem_of_getElem? (i := 8) rfl)).trans (sY_v ρ 7)
  have q8 : ρ0 9 = ρ 8 := (hM.2.2.2.2.2 (9, sY 8) (List.mem_of_getElem? (i := 9) rfl)).trans (sY_v ρ 8)
  have hL : ∀ j, j < 9 → pL [ρ 0, ρ 1, ρ 2, ρ 3, ρ 4, ρ 5, ρ 6, ρ 7, ρ 8] j = ρ0 (j + 1) := by
    intro j hj
    match j, hj with
    | 0, _ => exact q0.symm
    | 1, _ => exact q1.symm
    | 2, _ => exact q2.symm
    | 3, _ => exact q3.symm
    | 4, _ => exact q4.symm
    | 5, _ => exact q5.symm
    | 6, _ => exact q6.symm
    | 7, _ => exact q7.symm
    | 8, _ => exact q8.symm
    | k + 9, hj => omega
  have b0 : (1 : Int) ≤ ρ 0 ∧ ρ 0 ≤ 1 := hM.2.2.2.1 0 (1, 1) rfl
  have b1 : (0 : Int) ≤ ρ 1 ∧ ρ 1 ≤ 99 := hM.2.2.2.1 1 (0, 99) rfl
  have b2 : (0 : Int) ≤ ρ 2 ∧ ρ 2 ≤ 99 := hM.2.2.2.1 2 (0, 99) rfl
  have b3 : (0 : Int) ≤ ρ 3 ∧ ρ 3 ≤ 99 := hM.2.2.2.1 3 (0, 99) rfl
  have b4 : (0 : Int) ≤ ρ 4 ∧ ρ 4 ≤ 99 := hM.2.2.2.1 4 (0, 99) rfl
  have b5 : (0 : Int) ≤ ρ 5 ∧ ρ 5 ≤ 99 := hM.2.2.2.1 5 (0, 99) rfl
  have b6 : (0 : Int) ≤ ρ 6 ∧ ρ 6 ≤ 99 := hM.2.2.2.1 6 (0, 99) rfl
  have b7 : (0 : Int) ≤ ρ 7 ∧ ρ 7 ≤ 99 := hM.2.2.2.1 7 (0, 99) rfl
  have b8 : (0 : Int) ≤ ρ 8 ∧ ρ 8 ≤ 99 := hM.2.2.2.1 8 (0, 99) rfl
  have c0 : (0 + (1 * ρ 1 + ((-1) * ρ 5 + 0)) : Int) ≤ 0 := hM.2.2.2.2.1 (0, [(1, 1), (5, (-1))]) (List.mem_of_getElem? (i := 0) rfl)
  have c1 : (0 + ((-1) * ρ 1 + (1 * ρ 5 + 0)) : Int) ≤ 0 := hM.2.2.2.2.1 (0, [(1, (-1)), (5, 1)]) (List.mem_of_getElem? (i := 1) rfl)
  have c2 : (0 + (1 * ρ 2 + ((-1) * ρ 6 + 0)) : Int) ≤ 0 := hM.2.2.2.2.1 (0, [(2, 1), (6, (-1))]) (List.mem_of_getElem? (i := 2) rfl)
  have c3 : (0 + ((-1) * ρ 2 + (1 * ρ 6 + 0)) : Int) ≤ 0 := hM.2.2.2.2.1 (0, [(2, (-1)), (6, 1)]) (List.mem_of_getElem? (i := 3) rfl)
  have c4 : (0 + (1 * ρ 3 + ((-1) * ρ 7 + 0)) : Int) ≤ 0 := hM.2.2.2.2.1 (0, [(3, 1), (7, (-1))]) (List.mem_of_getElem? (i := 4) rfl)
  have c5 : (0 + ((-1) * ρ 3 + (1 * ρ 7 + 0)) : Int) ≤ 0 := hM.2.2.2.2.1 (0, [(3, (-1)), (7, 1)]) (List.mem_of_getElem? (i := 5) rfl)
  have c6 : (0 + (1 * ρ 4 + ((-1) * ρ 8 + 0)) : Int) ≤ 0 := hM.2.2.2.2.1 (0, [(4, 1), (8, (-1))]) (List.mem_of_getElem? (i := 6) rfl)
  have c7 : (0 + ((-1) * ρ 4 + (1 * ρ 8 + 0)) : Int) ≤ 0 := hM.2.2.2.2.1 (0, [(4, (-1)), (8, 1)]) (List.mem_of_getElem? (i := 7) rfl)
  have ha : aC 4 h := pToldC hM 0 4 (by decide) (0, []) rfl b0.1
  have z0 : (h.1 (355 + 4) 0).toInt = ρ 1 := pPl hM 1 955 (0, []) rfl (by decide) (355 + 4) 0 (by decide +kernel) rfl
  have t0 : (h.1 538 16).toInt = ρ 5 := pPl hM 5 538 (16, []) rfl (by decide) 538 16 (by decide +kernel) rfl
  have z1 : (h.1 (355 + 4) 1).toInt = ρ 2 := pPl hM 2 955 (1, []) rfl (by decide) (355 + 4) 1 (by decide +kernel) rfl
  have t1 : (h.1 538 17).toInt = ρ 6 := pPl hM 6 538 (17, []) rfl (by decide) 538 17 (by decide +kernel) rfl
  have z2 : (h.1 (355 + 4) 2).toInt = ρ 3 := pPl hM 3 955 (2, []) rfl (by decide) (355 + 4) 2 (by decide +kernel) rfl
  have t2 : (h.1 538 18).toInt = ρ 7 := pPl hM 7 538 (18, []) rfl (by decide) 538 18 (by decide +kernel) rfl
  have z3 : (h.1 (355 + 4) 3).toInt = ρ 4 := pPl hM 4 955 (3, []) rfl (by decide) (355 + 4) 3 (by decide +kernel) rfl
  have t3 : (h.1 538 19).toInt = ρ 8 := pPl hM 8 538 (19, []) rfl (by decide) 538 19 (by decide +kernel) rfl
  have hn : aC 5 h := by
    intro i k hi hk
    by_cases q : i < 4
    · exact ha i k q hk
    obtain rfl : i = 4 := by omega
    rcases (show k = 0 ∨ k = 1 ∨ k = 2 ∨ k = 3 by omega) with rfl | rfl | rfl | rfl
    · exact z0.trans ((show ρ 1 = ρ 5 by omega).trans t0.symm)
    · exact z1.trans ((show ρ 2 = ρ 6 by omega).trans t1.symm)
    · exact z2.trans ((show ρ 3 = ρ 7 by omega).trans t2.symm)
    · exact z3.trans ((show ρ 4 = ρ 8 by omega).trans t3.symm)
  refine ⟨rRA4c_0, List.mem_of_getElem? (i := 0) rfl, pEnd [ρ 0, ρ 1, ρ 2, ρ 3, ρ 4, ρ 5, ρ 6, ρ 7, ρ 8] rfl ?_ ?_ ?_ ?_⟩
  · exact hL
  · intro k b hk
    cases hk
  · exact pAll0
  · exact pAll1 (pgTl 5 (show pgv 5 h = (1 + 0 : Int) by rw [pgv_C (a := 5) (by decide), yB_1.mpr hn]; rfl)) (pAll0)
noncomputable def rRA5c_0 : sX := (none, [(1006, (0, []), (1, []))], [], [], [])
noncomputable def rRA5c : sQ := (0, ([], [(2, 1005, (0, [])), (2, 956, (0, [])), (2, 956, (1, [])), (2, 956, (2, [])), (2, 956, (3, [])), (2, 538, (20, [])), (2, 538, (21, [])), (2, 538, (22, [])), (2, 538, (23, []))], [(1, 1), (0, 99), (0, 99), (0, 99), (0, 99), (0, 99), (0, 99), (0, 99), (0, 99)], [(0, [(1, 1), (5, (-1))]), (0, [(1, (-1)), (5, 1)]), (0, [(2, 1), (6, (-1))]), (0, [(2, (-1)), (6, 1)]), (0, [(3, 1), (7, (-1))]), (0, [(3, (-1)), (7, 1)]), (0, [(4, 1), (8, (-1))]), (0, [(4, (-1)), (8, 1)])], [(0, 0), (1, 1), (2, 2), (3, 3), (4, 4), (5, 5), (6, 6), (7, 7), (8, 8)], (0, [])), [rRA5c_0], [], 0)
theorem rRA5c_ok : pRul pReg pG pgv (rRA5c) := by
  intro loc h ρ ρ0 hG hM
  have hM : sMt pReg pgv ρ ρ0 (sAs (rRA5c).2.1) loc [] h := hM
  have q0 : ρ0 1 = ρ 0 := (hM.2.2.2.2.2 (1, sY 0) (List.mem_of_getElem? (i := 1) rfl)).trans (sY_v ρ 0)
  have q1 : ρ0 2 = ρ 1 := (hM.2.2.2.2.2 (2, sY 1) (List.mem_of_getElem? (i := 2) rfl)).trans (sY_v ρ 1)
  have q2 : ρ0 3 = ρ 2 := (hM.2.2.2.2.2 (3, sY 2) (List.mem_of_getElem? (i := 3) rfl)).trans (sY_v ρ 2)
  have q3 : ρ0 4 = ρ 3 := (hM.2.2.2.2.2 (4, sY 3) (List.mem_of_getElem? (i := 4) rfl)).trans (sY_v ρ 3)
  have q4 : ρ0 5 = ρ 4 := (hM.2.2.2.2.2 (5, sY 4) (List.mem_of_getElem? (i := 5) rfl)).trans (sY_v ρ 4)
  have q5 : ρ0 6 = ρ 5 := (hM.2.2.2.2.2 (6, sY 5) (List.mem_of_getElem? (i := 6) rfl)).trans (sY_v ρ 5)
  have q6 : ρ0 7 = ρ 6 := (hM.2.2.2.2.2 (7, sY 6) (List.mem_of_getElem? (i := 7) rfl)).trans (sY_v ρ 6)
  have q7 : ρ0 8 = ρ 7 := (hM.2.2.2.2.2 (8, sY 7) (List.mem_of_getElem? (i := 8) rfl)).trans (sY_v ρ 7)
  have q8 : ρ0 9 = ρ 8 := (hM.2.2.2.2.2 (9, sY 8) (List.mem_of_getElem? (i := 9) rfl)).trans (sY_v ρ 8)
  have hL : ∀ j, j < 9 → pL [ρ 0, ρ 1, ρ 2, ρ 3, ρ 4, ρ 5, ρ 6, ρ 7, ρ 8] j = ρ0 (j + 1) := by
    intro j hj
    match j, hj with
    | 0, _ => exact q0.symm
    | 1, _ => exact q1.symm
    | 2, _ => exact q2.symm
    | 3, _ => exact q3.symm
    | 4, _ => exact q4.symm
    | 5, _ => exact q5.symm
    | 6, _ => exact q6.symm
    | 7, _ => exact q7.symm
    | 8, _ => exact q8.symm
    | k + 9, hj => omega
  have b0 : (1 : Int) ≤ ρ 0 ∧ ρ 0 ≤ 1 := hM.2.2.2.1 0 (1, 1) rfl
  have b1 : (0 : Int) ≤ ρ 1 ∧ ρ 1 ≤ 99 := hM.2.2.2.1 1 (0, 99) rfl
  have b2 : (0 : Int) ≤ ρ 2 ∧ ρ 2 ≤ 99 := hM.2.2.2.1 2 (0, 99) rfl
  have b3 : (0 : Int) ≤ ρ 3 ∧ ρ 3 ≤ 99 := hM.2.2.2.1 3 (0, 99) rfl
  have b4 : (0 : Int) ≤ ρ 4 ∧ ρ 4 ≤ 99 := hM.2.2.2.1 4 (0, 99) rfl
  have b5 : (0 : Int) ≤ ρ 5 ∧ ρ 5 ≤ 99 := hM.2.2.2.1 5 (0, 99) rfl
  have b6 : (0 : Int) ≤ ρ 6 ∧ ρ 6 ≤ 99 := hM.2.2.2.1 6 (0, 99) rfl
  have b7 : (0 : Int) ≤ ρ 7 ∧ ρ 7 ≤ 99 := hM.2.2.2.1 7 (0, 99) rfl
  have b8 : (0 : Int) ≤ ρ 8 ∧ ρ 8 ≤ 99 := hM.2.2.2.1 8 (0, 99) rfl
  have c0 : (0 + (1 * ρ 1 + ((-1) * ρ 5 + 0)) : Int) ≤ 0 := hM.2.2.2.2.1 (0, [(1, 1), (5, (-1))]) (List.mem_of_getElem? (i := 0) rfl)
  have c1 : (0 + ((-1) * ρ 1 + (1 * ρ 5 + 0)) : Int) ≤ 0 := hM.2.2.2.2.1 (0, [(1, (-1)), (5, 1)]) (List.mem_of_getElem? (i := 1) rfl)
  have c2 : (0 + (1 * ρ 2 + ((-1) * ρ 6 + 0)) : Int) ≤ 0 := hM.2.2.2.2.1 (0, [(2, 1), (6, (-1))]) (List.mem_of_getElem? (i := 2) rfl)
  have c3 : (0 + ((-1) * ρ 2 + (1 * ρ 6 + 0)) : Int) ≤ 0 := hM.2.2.2.2.1 (0, [(2, (-1)), (6, 1)]) (List.mem_of_getElem? (i := 3) rfl)
  have c4 : (0 + (1 * ρ 3 + ((-1) * ρ 7 + 0)) : Int) ≤ 0 := hM.2.2.2.2.1 (0, [(3, 1), (7, (-1))]) (List.mem_of_getElem? (i := 4) rfl)
  have c5 : (0 + ((-1) * ρ 3 + (1 * ρ 7 + 0)) : Int) ≤ 0 := hM.2.2.2.2.1 (0, [(3, (-1)), (7, 1)]) (List.mem_of_getElem? (i := 5) rfl)
  have c6 : (0 + (1 * ρ 4 + ((-1) * ρ 8 + 0)) : Int) ≤ 0 := hM.2.2.2.2.1 (0, [(4, 1), (8, (-1))]) (List.mem_of_getElem? (i := 6) rfl)
  have c7 : (0 + ((-1) * ρ 4 + (1 * ρ 8 + 0)) : Int) ≤ 0 := hM.2.2.2.2.1 (0, [(4, (-1)), (8, 1)]) (List.mem_of_getElem? (i := 7) rfl)
  have ha : aC 5 h := pToldC hM 0 5 (by decide) (0, []) rfl b0.1
  have z0 : (h.1 (355 + 5) 0).toInt = ρ 1 := pPl hM 1 956 (0, []) rfl (by decide) (355 + 5) 0 (by decide +kernel) rfl
  have t0 : (h.1 538 20).toInt = ρ 5 := pPl hM 5 538 (20, []) rfl (by decide) 538 20 (by decide +kernel) rfl
  have z1 : (h.1 (355 + 5) 1).toInt = ρ 2 := pPl hM 2 956 (1, []) rfl (by decide) (355 + 5) 1 (by decide +kernel) rfl
  have t1 : (h.1 538 21).toInt = ρ 6 := pPl hM 6 538 (21, []) rfl (by decide) 538 21 (by decide +kernel) rfl
  have z2 : (h.1 (355 + 5) 2).toInt = ρ 3 := pPl hM 3 956 (2, []) rfl (by decide) (355 + 5) 2 (by decide +kernel) rfl
  have t2 : (h.1 538 22).toInt = ρ 7 := pPl hM 7 538 (22, []) rfl (by decide) 538 22 (by decide +kernel) rfl
  have z3 : (h.1 (355 + 5) 3).toInt = ρ 4 := pPl hM 4 956 (3, []) rfl (by decide) (355 + 5) 3 (by decide +kernel) rfl
  have t3 : (h.1 538 23).toInt = ρ 8 := pPl hM 8 538 (23, []) rfl (by decide) 538 23 (by decide +kernel) rfl
  have hn : aC 6 h := by
    intro i k hi hk
    by_cases q : i < 5
    · exact ha i k q hk
    obtain rfl : i = 5 := by omega
    rcases (show k = 0 ∨ k = 1 ∨ k = 2 ∨ k = 3 by omega) with rfl | rfl | rfl | rfl
    · exact z0.trans ((show ρ 1 = ρ 5 by omega).trans t0.symm)
    · exact z1.trans ((show ρ 2 = ρ 6 by omega).trans t1.symm)
    · exact z2.trans ((show ρ 3 = ρ 7 by omega).trans t2.symm)
    · exact z3.trans ((show ρ 4 = ρ 8 by omega).trans t3.symm)
  refine ⟨rRA5c_0, List.mem_of_getElem? (i := 0) rfl, pEnd [ρ 0, ρ 1, ρ 2, ρ 3, ρ 4, ρ 5, ρ 6, ρ 7, ρ 8] rfl ?_ ?_ ?_ ?_⟩
  · exact hL
  · intro k b hk
    cases hk
  · exact pAll0
  · exact pAll1 (pgTl 6 (show pgv 6 h = (1 + 0 : Int) by rw [pgv_C (a := 6) (by decide), yB_1.mpr hn]; rfl)) (pAll0)
noncomputable def rWH0c_0 : sX := (none, [], [], [(0, [(3, 1)]), (0, [(3, (-1))])], [])
noncomputable def rWH0c : sQ := (0, ([], [(2, 1020, (0, [])), (2, 42, (0, [])), (2, 539, (0, [])), (2, 541, (0, [])), (2, 540, (0, []))], [(1, 1), (0, 99), (0, 99), (0, 1), (0, 0)], [(0, [(1, 1), (2, (-1))]), (0, [(1, (-1)), (2, 1)])], [(0, 0), (1, 1), (2, 2), (3, 3), (4, 4)], (0, [])), [rWH0c_0], [], 0)
set_option maxHeartbeats 4000000 in
theorem rWH0c_ok : pRul pReg pG pgv (rWH0c) := by
  intro loc h ρ ρ0 hG hM
  have hM : sMt pReg pgv ρ ρ0 (sAs (rWH0c).2.1) loc [] h := hM
  have q0 : ρ0 1 = ρ 0 := (hM.2.2.2.2.2 (1, sY 0) (List.mem_of_getElem? (i := 1) rfl)).trans (sY_v ρ 0)
  have q1 : ρ0 2 = ρ 1 := (hM.2.2.2.2.2 (2, sY 1) (List.mem_of_getElem? (i := 2) rfl)).trans (sY_v ρ 1)
  have q2 : ρ0 3 = ρ 2 := (hM.2.2.2.2.2 (3, sY 2) (List.mem_of_getElem? (i := 3) rfl)).trans (sY_v ρ 2)
  have q3 : ρ0 4 = ρ 3 := (hM.2.2.2.2.2 (4, sY 3) (List.mem_of_getElem? (i := 4) rfl)).trans (sY_v ρ 3)
  have q4 : ρ0 5 = ρ 4 := (hM.2.2.2.2.2 (5, sY 4) (List.mem_of_getElem? (i := 5) rfl)).trans (sY_v ρ 4)
  have hL : ∀ j, j < 5 → pL [ρ 0, ρ 1, ρ 2, ρ 3, ρ 4] j = ρ0 (j + 1) := by
    intro j hj
    match j, hj with
    | 0, _ => exact q0.symm
    | 1, _ => exact q1.symm
    | 2, _ => exact q2.symm
    | 3, _ => exact q3.symm
    | 4, _ => exact q4.symm
    | k + 5, hj => omega
  have b0 : (1 : Int) ≤ ρ 0 ∧ ρ 0 ≤ 1 := hM.2.2.2.1 0 (1, 1) rfl
  have b1 : (0 : Int) ≤ ρ 1 ∧ ρ 1 ≤ 99 := hM.2.2.2.1 1 (0, 99) rfl
  have b2 : (0 : Int) ≤ ρ 2 ∧ ρ 2 ≤ 99 := hM.2.2.2.1 2 (0, 99) rfl
  have b3 : (0 : Int) ≤ ρ 3 ∧ ρ 3 ≤ 1 := hM.2.2.2.1 3 (0, 1) rfl
  have b4 : (0 : Int) ≤ ρ 4 ∧ ρ 4 ≤ 0 := hM.2.2.2.1 4 (0, 0) rfl
  have c0 : (0 + (1 * ρ 1 + ((-1) * ρ 2 + 0)) : Int) ≤ 0 := hM.2.2.2.2.1 (0, [(1, 1), (2, (-1))]) (List.mem_of_getElem? (i := 0) rfl)
  have c1 : (0 + ((-1) * ρ 1 + (1 * ρ 2 + 0)) : Int) ≤ 0 := hM.2.2.2.2.1 (0, [(1, (-1)), (2, 1)]) (List.mem_of_getElem? (i := 1) rfl)
  obtain ⟨ho, hh, hf⟩ := pTold20 hM 0 (0, []) rfl b0.1
  have hn := ho.1
  have ey : ρ 2 = fRV (wN h) (wB h) 0 := (pfF hM hf 2 539 (0, []) rfl (by decide) (by decide) (0) (by omega) (by show (0 + 0 : Int) = _; omega)).trans (fA_RV (k := 0) (by decide))
  have eW : ρ 3 = yB (fWh (wN h) (wB h)) := (pfF hM hf 3 541 (0, []) rfl (by decide) (by decide) (0) (by omega) (by show (0 + 0 : Int) = _; omega)).trans (fA_WH)
  have efm : ρ 4 = ((fW (wN h) (wB h) 0 0 0).2.1 : Int) := (pfF hM hf 4 540 (0, []) rfl (by decide) (by decide) (0) (by omega) (by show (0 + 0 : Int) = _; omega)).trans (fA_FM)
  have em : (fW (wN h) (wB h) 0 0 0).2.1 = 0 := by omega
  have hw : ¬ fWh (wN h) (wB h) := fun z => by have := z.1; omega
  rw [yB_0 hw] at eW
  refine ⟨rWH0c_0, List.mem_of_getElem? (i := 0) rfl, pEnd [ρ 0, ρ 1, ρ 2, ρ 3, ρ 4] rfl ?_ ?_ ?_ ?_⟩
  · exact hL
  · intro k b hk
    cases hk
  · exact pAll1 (show (0 + (1 * ρ 3 + 0) : Int) ≤ 0 by omega) (pAll1 (show (0 + ((-1) * ρ 3 + 0) : Int) ≤ 0 by omega) (pAll0))
  · exact pAll0
noncomputable def rWH1c_0 : sX := (none, [], [], [(0, [(4, 1)]), (0, [(4, (-1))])], [])
noncomputable def rWH1c : sQ := (0, ([], [(2, 1020, (0, [])), (2, 1001, (0, [])), (2, 42, (0, [])), (2, 539, (0, [])), (2, 541, (0, [])), (2, 540, (0, []))], [(1, 1), (1, 1), (0, 99), (0, 99), (0, 1), (1, 1)], [(0, [(2, 1), (3, (-1))]), (0, [(2, (-1)), (3, 1)])], [(0, 0), (1, 1), (2, 2), (3, 3), (4, 4), (5, 5)], (0, [])), [rWH1c_0], [], 0)
set_option maxHeartbeats 4000000 in
theorem rWH1c_ok : pRul pReg pG pgv (rWH1c) := by
  intro loc h ρ ρ0 hG hM
  have hM : sMt pReg pgv ρ ρ0 (sAs (rWH1c).2.1) loc [] h := hM
  have q0 : ρ0 1 = ρ 0 := (hM.2.2.2.2.2 (1, sY 0) (List.mem_of_getElem? (i := 1) rfl)).trans (sY_v ρ 0)
  have q1 : ρ0 2 = ρ 1 := (hM.2.2.2.2.2 (2, sY 1) (List.mem_of_getElem? (i := 2) rfl)).trans (sY_v ρ 1)
  have q2 : ρ0 3 = ρ 2 := (hM.2.2.2.2.2 (3, sY 2) (List.mem_of_getElem? (i := 3) rfl)).trans (sY_v ρ 2)
  have q3 : ρ0 4 = ρ 3 := (hM.2.2.2.2.2 (4, sY 3) (List.mem_of_getElem? (i := 4) rfl)).trans (sY_v ρ 3)
  have q4 : ρ0 5 = ρ 4 := (hM.2.2.2.2.2 (5, sY 4) (List.mem_of_getElem? (i := 5) rfl)).trans (sY_v ρ 4)
  have q5 : ρ0 6 = ρ 5 := (hM.2.2.2.2.2 (6, sY 5) (List.mem_of_getElem? (i := 6) rfl)).trans (sY_v ρ 5)
  have hL : ∀ j, j < 6 → pL [ρ 0, ρ 1, ρ 2, ρ 3, ρ 4, ρ 5] j = ρ0 (j + 1) := by
    intro j hj
    match j, hj with
    | 0, _ => exact q0.symm
    | 1, _ => exact q1.symm
    | 2, _ => exact q2.symm
    | 3, _ => exact q3.symm
    | 4, _ => exact q4.symm
    | 5, _ => exact q5.symm
    | k + 6, hj => omega
  have b0 : (1 : Int) ≤ ρ 0 ∧ ρ 0 ≤ 1 := hM.2.2.2.1 0 (1, 1) rfl
  have b1 : (1 : Int) ≤ ρ 1 ∧ ρ 1 ≤ 1 := hM.2.2.2.1 1 (1, 1) rfl
  have b2 : (0 : Int) ≤ ρ 2 ∧ ρ 2 ≤ 99 := hM.2.2.2.1 2 (0, 99) rfl
  have b3 : (0 : Int) ≤ ρ 3 ∧ ρ 3 ≤ 99 := hM.2.2.2.1 3 (0, 99) rfl
  have b4 : (0 : Int) ≤ ρ 4 ∧ ρ 4 ≤ 1 := hM.2.2.2.1 4 (0, 1) rfl
  have b5 : (1 : Int) ≤ ρ 5 ∧ ρ 5 ≤ 1 := hM.2.2.2.1 5 (1, 1) rfl
  have c0 : (0 + (1 * ρ 2 + ((-1) * ρ 3 + 0)) : Int) ≤ 0 := hM.2.2.2.2.1 (0, [(2, 1), (3, (-1))]) (List.mem_of_getElem? (i := 0) rfl)
  have c1 : (0 + ((-1) * ρ 2 + (1 * ρ 3 + 0)) : Int) ≤ 0 := hM.2.2.2.2.1 (0, [(2, (-1)), (3, 1)]) (List.mem_of_getElem? (i := 1) rfl)
  obtain ⟨ho, hh, hf⟩ := pTold20 hM 0 (0, []) rfl b0.1
  have hn := ho.1
  have ha : aC 1 h := pToldC hM 1 1 (by decide) (0, []) rfl b1.1
  have ey : ρ 3 = fRV (wN h) (wB h) 0 := (pfF hM hf 3 539 (0, []) rfl (by decide) (by decide) (0) (by omega) (by show (0 + 0 : Int) = _; omega)).trans (fA_RV (k := 0) (by decide))
  have eW : ρ 4 = yB (fWh (wN h) (wB h)) := (pfF hM hf 4 541 (0, []) rfl (by decide) (by decide) (0) (by omega) (by show (0 + 0 : Int) = _; omega)).trans (fA_WH)
  have efm : ρ 5 = ((fW (wN h) (wB h) 0 0 0).2.1 : Int) := (pfF hM hf 5 540 (0, []) rfl (by decide) (by decide) (0) (by omega) (by show (0 + 0 : Int) = _; omega)).trans (fA_FM)
  have em : (fW (wN h) (wB h) 0 0 0).2.1 = 1 := by omega
  have hw : ¬ fWh (wN h) (wB h) := fun z => by have := z.1; omega
  rw [yB_0 hw] at eW
  refine ⟨rWH1c_0, List.mem_of_getElem? (i := 0) rfl, pEnd [ρ 0, ρ 1, ρ 2, ρ 3, ρ 4, ρ 5] rfl ?_ ?_ ?_ ?_⟩
  · exact hL
  · intro k b hk
    cases hk
  · exact pAll1 (show (0 + (1 * ρ 4 + 0) : Int) ≤ 0 by omega) (pAll1 (show (0 + ((-1) * ρ 4 + 0) : Int) ≤ 0 by omega) (pAll0))
  · exact pAll0
noncomputable def rWH2c_0 : sX := (none, [(951, (0, []), (0, [(6, 1)])), (951, (3, []), (0, [(7, 1)])), (952, (0, []), (0, [(8, 1)])), (952, (3, []), (0, [(9, 1)]))], [(0, 99), (0, 99), (0, 99), (0, 99)], [((-1), [(4, 1)]), (1, [(4, (-1))]), (0, [(2, (-1)), (6, 1)]), (1, [(2, (-1)), (7, 1)]), (0, [(2, (-1)), (8, 1)]), (1, [(2, (-1)), (9, 1)])], [])
noncomputable def rWH2c_1 : sX := (none, [(951, (0, []), (0, [(6, 1)]))], [(0, 99)], [(0, [(4, 1)]), (0, [(4, (-1))]), (1, [(2, 1), (6, (-1))])], [])
noncomputable def rWH2c_2 : sX := (none, [(951, (0, []), (0, [(6, 1)])), (951, (3, []), (0, [(7, 1)]))], [(0, 99), (0, 99)], [(0, [(4, 1)]), (0, [(4, (-1))]), (0, [(2, (-1)), (6, 1)]), (0, [(2, 1), (7, (-1))])], [])
noncomputable def rWH2c_3 : sX := (none, [(951, (0, []), (0, [(6, 1)])), (951, (3, []), (0, [(7, 1)])), (952, (0, []), (0, [(8, 1)]))], [(0, 99), (0, 99), (0, 99)], [(0, [(4, 1)]), (0, [(4, (-1))]), (0, [(2, (-1)), (6, 1)]), (1, [(2, (-1)), (7, 1)]), (1, [(2, 1), (8, (-1))])], [])
noncomputable def rWH2c_4 : sX := (none, [(951, (0, []), (0, [(6, 1)])), (951, (3, []), (0, [(7, 1)])), (952, (0, []), (0, [(8, 1)])), (952, (3, []), (0, [(9, 1)]))], [(0, 99), (0, 99), (0, 99), (0, 99)], [(0, [(4, 1)]), (0, [(4, (-1))]), (0, [(2, (-1)), (6, 1)]), (1, [(2, (-1)), (7, 1)]), (0, [(2, (-1)), (8, 1)]), (0, [(2, 1), (9, (-1))])], [])
noncomputable def rWH2c : sQ := (0, ([], [(2, 1020, (0, [])), (2, 1002, (0, [])), (2, 42, (0, [])), (2, 539, (0, [])), (2, 541, (0, [])), (2, 540, (0, []))], [(1, 1), (1, 1), (0, 99), (0, 99), (0, 1), (2, 2)], [(0, [(2, 1), (3, (-1))]), (0, [(2, (-1)), (3, 1)])], [(0, 0), (1, 1), (2, 2), (3, 3), (4, 4), (5, 5)], (0, [])), [rWH2c_0, rWH2c_1, rWH2c_2, rWH2c_3, rWH2c_4], [], 0)
set_option maxHeartbeats 4000000 in
theorem rWH2c_ok : pRul pReg pG pgv (rWH2c) := by
  intro loc h ρ ρ0 hG hM
  have hM : sMt pReg pgv ρ ρ0 (sAs (rWH2c).2.1) loc [] h := hM
  have q0 : ρ0 1 = ρ 0 := (hM.2.2.2.2.2 (1, sY 0) (List.mem_of_getElem? (i := 1) rfl)).trans (sY_v ρ 0)
  have q1 : ρ0 2 = ρ 1 := (hM.2.2.2.2.2 (2, sY 1) (List.mem_of_getElem? (i := 2) rfl)).trans (sY_v ρ 1)
  have q2 : ρ0 3 = ρ 2 := (hM.2.2.2.2.2 (3, sY 2) (List.mem_of_getElem? (i := 3) rfl)).trans (sY_v ρ 2)
  have q3 : ρ0 4 = ρ 3 := (hM.2.2.2.2.2 (4, sY 3) (List.mem_of_getElem? (i := 4) rfl)).trans (sY_v ρ 3)
  have q4 : ρ0 5 = ρ 4 := (hM.2.2.2.2.2 (5, sY 4) (List.mem_of_getElem? (i := 5) rfl)).trans (sY_v ρ 4)
  have q5 : ρ0 6 = ρ 5 := (hM.2.2.2.2.2 (6, sY 5) (List.mem_of_getElem? (i := 6) rfl)).trans (sY_v ρ 5)
  have hL : ∀ j, j < 6 → pL [ρ 0, ρ 1, ρ 2, ρ 3, ρ 4, ρ 5] j = ρ0 (j + 1) := by
    intro j hj
    match j, hj with
    | 0, _ => exact q0.symm
    | 1, _ => exact q1.symm
    | 2, _ => exact q2.symm
    | 3, _ => exact q3.symm
    | 4, _ => exact q4.symm
    | 5, _ => exact q5.symm
    | k + 6, hj => omega
  have b0 : (1 : Int) ≤ ρ 0 ∧ ρ 0 ≤ 1 := hM.2.2.2.1 0 (1, 1) rfl
  have b1 : (1 : Int) ≤ ρ 1 ∧ ρ 1 ≤ 1 := hM.2.2.2.1 1 (1, 1) rfl
  have b2 : (0 : Int) ≤ ρ 2 ∧ ρ 2 ≤ 99 := hM.2.2.2.1 2 (0, 99) rfl
  have b3 : (0 : Int) ≤ ρ 3 ∧ ρ 3 ≤ 99 := hM.2.2.2.1 3 (0, 99) rfl
  have b4 : (0 : Int) ≤ ρ 4 ∧ ρ 4 ≤ 1 := hM.2.2.2.1 4 (0, 1) rfl
  have b5 : (2 : Int) ≤ ρ 5 ∧ ρ 5 ≤ 2 := hM.2.2.2.1 5 (2, 2) rfl
  have c0 : (0 + (1 * ρ 2 + ((-1) * ρ 3 + 0)) : Int) ≤ 0 := hM.2.2.2.2.1 (0, [(2, 1), (3, (-1))]) (List.mem_of_getElem? (i := 0) rfl)
  have c1 : (0 + ((-1) * ρ 2 + (1 * ρ 3 + 0)) : Int) ≤ 0 := hM.2.2.2.2.1 (0, [(2, (-1)), (3, 1)]) (List.mem_of_getElem? (i := 1) rfl)
  obtain ⟨ho, hh, hf⟩ := pTold20 hM 0 (0, []) rfl b0.1
  have hn := ho.1
  have ha : aC 2 h := pToldC hM 1 2 (by decide) (0, []) rfl b1.1
  have ey : ρ 3 = fRV (wN h) (wB h) 0 := (pfF hM hf 3 539 (0, []) rfl (by decide) (by decide) (0) (by omega) (by show (0 + 0 : Int) = _; omega)).trans (fA_RV (k := 0) (by decide))
  have eW : ρ 4 = yB (fWh (wN h) (wB h)) := (pfF hM hf 4 541 (0, []) rfl (by decide) (by decide) (0) (by omega) (by show (0 + 0 : Int) = _; omega)).trans (fA_WH)
  have efm : ρ 5 = ((fW (wN h) (wB h) 0 0 0).2.1 : Int) := (pfF hM hf 5 540 (0, []) rfl (by decide) (by decide) (0) (by omega) (by show (0 + 0 : Int) = _; omega)).trans (fA_FM)
  have em : (fW (wN h) (wB h) 0 0 0).2.1 = 2 := by omega
  have r00 : (h.1 (355 + 0) 0).toInt = (fMV (wN h) (wB h) 0 0) := (ha 0 0 (by decide) (by decide)).trans ((hf 538 (by decide) (by decide) 0 (by decide)).trans (fA_MV (i := 0) (k := 0) (by decide) (by decide)))
  have m00 := fMV_bd (n := wN h) (B := wB h) 0 0
  have r03 : (h.1 (355 + 0) 3).toInt = (fMV (wN h) (wB h) 0 3) := (ha 0 3 (by decide) (by decide)).trans ((hf 538 (by decide) (by decide) 3 (by decide)).trans (fA_MV (i := 0) (k := 3) (by decide) (by decide)))
  have m03 := fMV_bd (n := wN h) (B := wB h) 0 3
  have r10 : (h.1 (355 + 1) 0).toInt = (fMV (wN h) (wB h) 1 0) := (ha 1 0 (by decide) (by decide)).trans ((hf 538 (by decide) (by decide) 4 (by decide)).trans (fA_MV (i := 1) (k := 0) (by decide) (by decide)))
  have m10 := fMV_bd (n := wN h) (B := wB h) 1 0
  have r13 : (h.1 (355 + 1) 3).toInt = (fMV (wN h) (wB h) 1 3) := (ha 1 3 (by decide) (by decide)).trans ((hf 538 (by decide) (by decide) 7 (by decide)).trans (fA_MV (i := 1) (k := 3) (by decide) (by decide)))
  have m13 := fMV_bd (n := wN h) (B := wB h) 1 3
  by_cases g0 : (fMV (wN h) (wB h) 0 0) ≤ fRV (wN h) (wB h) 0
  · by_cases k0 : (fMV (wN h) (wB h) 0 3) < fRV (wN h) (wB h) 0
    · by_cases g1 : (fMV (wN h) (wB h) 1 0) ≤ fRV (wN h) (wB h) 0
      · by_cases k1 : (fMV (wN h) (wB h) 1 3) < fRV (wN h) (wB h) 0
        · have hw : fWh (wN h) (wB h) := by
            refine ⟨by omega, fun i hi => ?_⟩
            rw [em] at hi
            rcases (show i = 0 ∨ i = 1 by omega) with rfl | rfl
            · exact ⟨g0, k0⟩
            · exact ⟨g1, k1⟩
          rw [yB_1.mpr hw] at eW
          refine ⟨rWH2c_0, List.mem_of_getElem? (i := 0) rfl, pEnd [ρ 0, ρ 1, ρ 2, ρ 3, ρ 4, ρ 5, (fMV (wN h) (wB h) 0 0), (fMV (wN h) (wB h) 0 3), (fMV (wN h) (wB h) 1 0), (fMV (wN h) (wB h) 1 3)] rfl ?_ ?_ ?_ ?_⟩
          · intro j hj
            match j, hj with
            | 0, _ => exact q0.symm
            | 1, _ => exact q1.symm
            | 2, _ => exact q2.symm
            | 3, _ => exact q3.symm
            | 4, _ => exact q4.symm
            | 5, _ => exact q5.symm
            | k + 6, hj => exact absurd hj (by show ¬ (k + 6 < 6); omega)
          · intro k b hk
            match k, hk with
            | 0, hk => cases hk; exact (show (0 : Int) ≤ (fMV (wN h) (wB h) 0 0) ∧ (fMV (wN h) (wB h) 0 0) ≤ (99 : Int) by omega)
            | 1, hk => cases hk; exact (show (0 : Int) ≤ (fMV (wN h) (wB h) 0 3) ∧ (fMV (wN h) (wB h) 0 3) ≤ (99 : Int) by omega)
            | 2, hk => cases hk; exact (show (0 : Int) ≤ (fMV (wN h) (wB h) 1 0) ∧ (fMV (wN h) (wB h) 1 0) ≤ (99 : Int) by omega)
            | 3, hk => cases hk; exact (show (0 : Int) ≤ (fMV (wN h) (wB h) 1 3) ∧ (fMV (wN h) (wB h) 1 3) ≤ (99 : Int) by omega)
            | k + 4, hk => cases hk
          · exact pAll1 (show ((-1) + (1 * ρ 4 + 0) : Int) ≤ 0 by omega) (pAll1 (show (1 + ((-1) * ρ 4 + 0) : Int) ≤ 0 by omega) (pAll1 (show (0 + ((-1) * ρ 2 + (1 * (fMV (wN h) (wB h) 0 0) + 0)) : Int) ≤ 0 by omega) (pAll1 (show (1 + ((-1) * ρ 2 + (1 * (fMV (wN h) (wB h) 0 3) + 0)) : Int) ≤ 0 by omega) (pAll1 (show (0 + ((-1) * ρ 2 + (1 * (fMV (wN h) (wB h) 1 0) + 0)) : Int) ≤ 0 by omega) (pAll1 (show (1 + ((-1) * ρ 2 + (1 * (fMV (wN h) (wB h) 1 3) + 0)) : Int) ≤ 0 by omega) (pAll0))))))
          · exact pAll1 (pgP 951 (355 + 0) (by decide) (by decide +kernel) (by decide +kernel) 0 (show (0 + 0 : Int) = _ by omega) (show (0 + (1 * (fMV (wN h) (wB h) 0 0) + 0) : Int) = _ by omega)) (pAll1 (pgP 951 (355 + 0) (by decide) (by decide +kernel) (by decide +kernel) 3 (show (3 + 0 : Int) = _ by omega) (show (0 + (1 * (fMV (wN h) (wB h) 0 3) + 0) : Int) = _ by omega)) (pAll1 (pgP 952 (355 + 1) (by decide) (by decide +kernel) (by decide +kernel) 0 (show (0 + 0 : Int) = _ by omega) (show (0 + (1 * (fMV (wN h) (wB h) 1 0) + 0) : Int) = _ by omega)) (pAll1 (pgP 952 (355 + 1) (by decide) (by decide +kernel) (by decide +kernel) 3 (show (3 + 0 : Int) = _ by omega) (show (0 + (1 * (fMV (wN h) (wB h) 1 3) + 0) : Int) = _ by omega)) (pAll0))))
        · have hw : ¬ fWh (wN h) (wB h) := fun z => k1 (z.2 1 (by omega)).2
          rw [yB_0 hw] at eW
          refine ⟨rWH2c_4, List.mem_of_getElem? (i := 4) rfl, pEnd [ρ 0, ρ 1, ρ 2, ρ 3, ρ 4, ρ 5, (fMV (wN h) (wB h) 0 0), (fMV (wN h) (wB h) 0 3), (fMV (wN h) (wB h) 1 0), (fMV (wN h) (wB h) 1 3)] rfl ?_ ?_ ?_ ?_⟩
          · intro j hj
            match j, hj with
            | 0, _ => exact q0.symm
            | 1, _ => exact q1.symm
            | 2, _ => exact q2.symm
            | 3, _ => exact q3.symm
            | 4, _ => exact q4.symm
            | 5, _ => exact q5.symm
            | k + 6, hj => exact absurd hj (by show ¬ (k + 6 < 6); omega)
          · intro k b hk
            match k, hk with
            | 0, hk => cases hk; exact (show (0 : Int) ≤ (fMV (wN h) (wB h) 0 0) ∧ (fMV (wN h) (wB h) 0 0) ≤ (99 : Int) by omega)
            | 1, hk => cases hk; exact (show (0 : Int) ≤ (fMV (wN h) (wB h) 0 3) ∧ (fMV (wN h) (wB h) 0 3) ≤ (99 : Int) by omega)
            | 2, hk => cases hk; exact (show (0 : Int) ≤ (fMV (wN h) (wB h) 1 0) ∧ (fMV (wN h) (wB h) 1 0) ≤ (99 : Int) by omega)
            | 3, hk => cases hk; exact (show (0 : Int) ≤ (fMV (wN h) (wB h) 1 3) ∧ (fMV (wN h) (wB h) 1 3) ≤ (99 : Int) by omega)
            | k + 4, hk => cases hk
          · exact pAll1 (show (0 + (1 * ρ 4 + 0) : Int) ≤ 0 by omega) (pAll1 (show (0 + ((-1) * ρ 4 + 0) : Int) ≤ 0 by omega) (pAll1 (show (0 + ((-1) * ρ 2 + (1 * (fMV (wN h) (wB h) 0 0) + 0)) : Int) ≤ 0 by omega) (pAll1 (show (1 + ((-1) * ρ 2 + (1 * (fMV (wN h) (wB h) 0 3) + 0)) : Int) ≤ 0 by omega) (pAll1 (show (0 + ((-1) * ρ 2 + (1 * (fMV (wN h) (wB h) 1 0) + 0)) : Int) ≤ 0 by omega) (pAll1 (show (0 + (1 * ρ 2 + ((-1) * (fMV (wN h) (wB h) 1 3) + 0)) : Int) ≤ 0 by omega) (pAll0))))))
          · exact pAll1 (pgP 951 (355 + 0) (by decide) (by decide +kernel) (by decide +kernel) 0 (show (0 + 0 : Int) = _ by omega) (show (0 + (1 * (fMV (wN h) (wB h) 0 0) + 0) : Int) = _ by omega)) (pAll1 (pgP 951 (355 + 0) (by decide) (by decide +kernel) (by decide +kernel) 3 (show (3 + 0 : Int) = _ by omega) (show (0 + (1 * (fMV (wN h) (wB h) 0 3) + 0) : Int) = _ by omega)) (pAll1 (pgP 952 (355 + 1) (by decide) (by decide +kernel) (by decide +kernel) 0 (show (0 + 0 : Int) = _ by omega) (show (0 + (1 * (fMV (wN h) (wB h) 1 0) + 0) : Int) = _ by omega)) (pAll1 (pgP 952 (355 + 1) (by decide) (by decide +kernel) (by decide +kernel) 3 (show (3 + 0 : Int) = _ by omega) (show (0 + (1 * (fMV (wN h) (wB h) 1 3) + 0) : Int) = _ by omega)) (pAll0))))
      · have hw : ¬ fWh (wN h) (wB h) := fun z => g1 (z.2 1 (by omega)).1
        rw [yB_0 hw] at eW
        refine ⟨rWH2c_3, List.mem_of_getElem? (i := 3) rfl, pEnd [ρ 0, ρ 1, ρ 2, ρ 3, ρ 4, ρ 5, (fMV (wN h) (wB h) 0 0), (fMV (wN h) (wB h) 0 3), (fMV (wN h) (wB h) 1 0)] rfl ?_ ?_ ?_ ?_⟩
        · intro j hj
          match j, hj with
          | 0, _ => exact q0.symm
          | 1, _ => exact q1.symm
          | 2, _ => exact q2.symm
          | 3, _ => exact q3.symm
          | 4, _ => exact q4.symm
          | 5, _ => exact q5.symm
          | k + 6, hj => exact absurd hj (by show ¬ (k + 6 < 6); omega)
        · intro k b hk
          match k, hk with
          | 0, hk => cases hk; exact (show (0 : Int) ≤ (fMV (wN h) (wB h) 0 0) ∧ (fMV (wN h) (wB h) 0 0) ≤ (99 : Int) by omega)
          | 1, hk => cases hk; exact (show (0 : Int) ≤ (fMV (wN h) (wB h) 0 3) ∧ (fMV (wN h) (wB h) 0 3) ≤ (99 : Int) by omega)
          | 2, hk => cases hk; exact (show (0 : Int) ≤ (fMV (wN h) (wB h) 1 0) ∧ (fMV (wN h) (wB h) 1 0) ≤ (99 : Int) by omega)
          | k + 3, hk => cases hk
        · exact pAll1 (show (0 + (1 * ρ 4 + 0) : Int) ≤ 0 by omega) (pAll1 (show (0 + ((-1) * ρ 4 + 0) : Int) ≤ 0 by omega) (pAll1 (show (0 + ((-1) * ρ 2 + (1 * (fMV (wN h) (wB h) 0 0) + 0)) : Int) ≤ 0 by omega) (pAll1 (show (1 + ((-1) * ρ 2 + (1 * (fMV (wN h) (wB h) 0 3) + 0)) : Int) ≤ 0 by omega) (pAll1 (show (1 + (1 * ρ 2 + ((-1) * (fMV (wN h) (wB h) 1 0) + 0)) : Int) ≤ 0 by omega) (pAll0)))))
        · exact pAll1 (pgP 951 (355 + 0) (by decide) (by decide +kernel) (by decide +kernel) 0 (show (0 + 0 : Int) = _ by omega) (show (0 + (1 * (fMV (wN h) (wB h) 0 0) + 0) : Int) = _ by omega)) (pAll1 (pgP 951 (355 + 0) (by decide) (by decide +kernel) (by decide +kernel) 3 (show (3 + 0 : Int) = _ by omega) (show (0 + (1 * (fMV (wN h) (wB h) 0 3) + 0) : Int) = _ by omega)) (pAll1 (pgP 952 (355 + 1) (by decide) (by decide +kernel) (by decide +kernel) 0 (show (0 + 0 : Int) = _ by omega) (show (0 + (1 * (fMV (wN h) (wB h) 1 0) + 0) : Int) = _ by omega)) (pAll0)))
    · have hw : ¬ fWh (wN h) (wB h) := fun z => k0 (z.2 0 (by omega)).2
      rw [yB_0 hw] at eW
      refine ⟨rWH2c_2, List.mem_of_getElem? (i := 2) rfl, pEnd [ρ 0, ρ 1, ρ 2, ρ 3, ρ 4, ρ 5, (fMV (wN h) (wB h) 0 0), (fMV (wN h) (wB h) 0 3)] rfl ?_ ?_ ?_ ?_⟩
      · intro j hj
        match j, hj with
        | 0, _ => exact q0.symm
        | 1, _ => exact q1.symm
        | 2, _ => exact q2.symm
        | 3, _ => exact q3.symm
        | 4, _ => exact q4.symm
        | 5, _ => exact q5.symm
        | k + 6, hj => exact absurd hj (by show ¬ (k + 6 < 6); omega)
      · intro k b hk
        match k, hk with
        | 0, hk => cases hk; exact (show (0 : Int) ≤ (fMV (wN h) (wB h) 0 0) ∧ (fMV (wN h) (wB h) 0 0) ≤ (99 : Int) by omega)
        | 1, hk => cases hk; exact (show (0 : Int) ≤ (fMV (wN h) (wB h) 0 3) ∧ (fMV (wN h) (wB h) 0 3) ≤ (99 : Int) by omega)
        | k + 2, hk => cases hk
      · exact pAll1 (show (0 + (1 * ρ 4 + 0) : Int) ≤ 0 by omega) (pAll1 (show (0 + ((-1) * ρ 4 + 0) : Int) ≤ 0 by omega) (pAll1 (show (0 + ((-1) * ρ 2 + (1 * (fMV (wN h) (wB h) 0 0) + 0)) : Int) ≤ 0 by omega) (pAll1 (show (0 + (1 * ρ 2 + ((-1) * (fMV (wN h) (wB h) 0 3) + 0)) : Int) ≤ 0 by omega) (pAll0))))
      · exact pAll1 (pgP 951 (355 + 0) (by decide) (by decide +kernel) (by decide +kernel) 0 (show (0 + 0 : Int) = _ by omega) (show (0 + (1 * (fMV (wN h) (wB h) 0 0) + 0) : Int) = _ by omega)) (pAll1 (pgP 951 (355 + 0) (by decide) (by decide +kernel) (by decide +kernel) 3 (show (3 + 0 : Int) = _ by omega) (show (0 + (1 * (fMV (wN h) (wB h) 0 3) + 0) : Int) = _ by omega)) (pAll0))
  · have hw : ¬ fWh (wN h) (wB h) := fun z => g0 (z.2 0 (by omega)).1
    rw [yB_0 hw] at eW
    refine ⟨rWH2c_1, List.mem_of_getElem? (i := 1) rfl, pEnd [ρ 0, ρ 1, ρ 2, ρ 3, ρ 4, ρ 5, (fMV (wN h) (wB h) 0 0)] rfl ?_ ?_ ?_ ?_⟩
    · intro j hj
      match j, hj with
      | 0, _ => exact q0.symm
      | 1, _ => exact q1.symm
      | 2, _ => exact q2.symm
      | 3, _ => exact q3.symm
      | 4, _ => exact q4.symm
      | 5, _ => exact q5.symm
      | k + 6, hj => exact absurd hj (by show ¬ (k + 6 < 6); omega)
    · intro k b hk
      match k, hk with
      | 0, hk => cases hk; exact (show (0 : Int) ≤ (fMV (wN h) (wB h) 0 0) ∧ (fMV (wN h) (wB h) 0 0) ≤ (99 : Int) by omega)
      | k + 1, hk => cases hk
    · exact pAll1 (show (0 + (1 * ρ 4 + 0) : Int) ≤ 0 by omega) (pAll1 (show (0 + ((-1) * ρ 4 + 0) : Int) ≤ 0 by omega) (pAll1 (show (1 + (1 * ρ 2 + ((-1) * (fMV (wN h) (wB h) 0 0) + 0)) : Int) ≤ 0 by omega) (pAll0)))
    · exact pAll1 (pgP 951 (355 + 0) (by decide) (by decide +kernel) (by decide +kernel) 0 (show (0 + 0 : Int) = _ by omega) (show (0 + (1 * (fMV (wN h) (wB h) 0 0) + 0) : Int) = _ by omega)) (pAll0)
noncomputable def rWH3c_0 : sX := (none, [(951, (0, []), (0, [(6, 1)])), (951, (3, []), (0, [(7, 1)])), (952, (0, []), (0, [(8, 1)])), (952, (3, []), (0, [(9, 1)])), (953, (0, []), (0, [(10, 1)])), (953, (3, []), (0, [(11, 1)]))], [(0, 99), (0, 99), (0, 99), (0, 99), (0, 99), (0, 99)], [((-1), [(4, 1)]), (1, [(4, (-1))]), (0, [(2, (-1)), (6, 1)]), (1, [(2, (-1)), (7, 1)]), (0, [(2, (-1)), (8, 1)]), (1, [(2, (-1)), (9, 1)]), (0, [(2, (-1)), (10, 1)]), (1, [(2, (-1)), (11, 1)])], [])
noncomputable def rWH3c_1 : sX := (none, [(951, (0, []), (0, [(6, 1)]))], [(0, 99)], [(0, [(4, 1)]), (0, [(4, (-1))]), (1, [(2, 1), (6, (-1))])], [])
noncomputable def rWH3c_2 : sX := (none, [(951, (0, []), (0, [(6, 1)])), (951, (3, []), (0, [(7, 1)]))], [(0, 99), (0, 99)], [(0, [(4, 1)]), (0, [(4, (-1))]), (0, [(2, (-1)), (6, 1)]), (0, [(2, 1), (7, (-1))])], [])
noncomputable def rWH3c_3 : sX := (none, [(951, (0, []), (0, [(6, 1)])), (951, (3, []), (0, [(7, 1)])), (952, (0, []), (0, [(8, 1)]))], [(0, 99), (0, 99), (0, 99)], [(0, [(4, 1)]), (0, [(4, (-1))]), (0, [(2, (-1)), (6, 1)]), (1, [(2, (-1)), (7, 1)]), (1, [(2, 1), (8, (-1))])], [])
noncomputable def rWH3c_4 : sX := (none, [(951, (0, []), (0, [(6, 1)])), (951, (3, []), (0, [(7, 1)])), (952, (0, []), (0, [(8, 1)])), (952, (3, []), (0, [(9, 1)]))], [(0, 99), (0, 99), (0, 99), (0, 99)], [(0, [(4, 1)]), (0, [(4, (-1))]), (0, [(2, (-1)), (6, 1)]), (1, [(2, (-1)), (7, 1)]), (0, [(2, (-1)), (8, 1)]), (0, [(2, 1), (9, (-1))])], [])
noncomputable def rWH3c_5 : sX := (none, [(951, (0, []), (0, [(6, 1)])), (951, (3, []), (0, [(7, 1)])), (952, (0, []), (0, [(8, 1)])), (952, (3, []), (0, [(9, 1)])), (953, (0, []), (0, [(10, 1)]))], [(0, 99), (0, 99), (0, 99), (0, 99), (0, 99)], [(0, [(4, 1)]), (0, [(4, (-1))]), (0, [(2, (-1)), (6, 1)]), (1, [(2, (-1)), (7, 1)]), (0, [(2, (-1)), (8, 1)]), (1, [(2, (-1)), (9, 1)]), (1, [(2, 1), (10, (-1))])], [])
noncomputable def rWH3c_6 : sX := (none, [(951, (0, []), (0, [(6, 1)])), (951, (3, []), (0, [(7, 1)])), (952, (0, []), (0, [(8, 1)])), (952, (3, []), (0, [(9, 1)])), (953, (0, []), (0, [(10, 1)])), (953, (3, []), (0, [(11, 1)]))], [(0, 99), (0, 99), (0, 99), (0, 99), (0, 99), (0, 99)], [(0, [(4, 1)]), (0, [(4, (-1))]), (0, [(2, (-1)), (6, 1)]), (1, [(2, (-1)), (7, 1)]), (0, [(2, (-1)), (8, 1)]), (1, [(2, (-1)), (9, 1)]), (0, [(2, (-1)), (10, 1)]), (0, [(2, 1), (11, (-1))])], [])
noncomputable def rWH3c : sQ := (0, ([], [(2, 1020, (0, [])), (2, 1003, (0, [])), (2, 42, (0, [])), (2, 539, (0, [])), (2, 541, (0, [])), (2, 540, (0, []))], [(1, 1), (1, 1), (0, 99), (0, 99), (0, 1), (3, 3)], [(0, [(2, 1), (3, (-1))]), (0, [(2, (-1)), (3, 1)])], [(0, 0), (1, 1), (2, 2), (3, 3), (4, 4), (5, 5)], (0, [])), [rWH3c_0, rWH3c_1, rWH3c_2, rWH3c_3, rWH3c_4, rWH3c_5, rWH3c_6], [], 0)
set_option maxHeartbeats 4000000 in
theorem rWH3c_ok : pRul pReg pG pgv (rWH3c) := by
  intro loc h ρ ρ0 hG hM
  have hM : sMt pReg pgv ρ ρ0 (sAs (rWH3c).2.1) loc [] h := hM
  have q0 : ρ0 1 = ρ 0 := (hM.2.2.2.2.2 (1, sY 0) (List.mem_of_getElem? (i := 1) rfl)).trans (sY_v ρ 0)
  have q1 : ρ0 2 = ρ 1 := (hM.2.2.2.2.2 (2, sY 1) (List.mem_of_getElem? (i := 2) rfl)).trans (sY_v ρ 1)
  have q2 : ρ0 3 = ρ 2 := (hM.2.2.2.2.2 (3, sY 2) (List.mem_of_getElem? (i := 3) rfl)).trans (sY_v ρ 2)
  have q3 : ρ0 4 = ρ 3 := (hM.2.2.2.2.2 (4, sY 3) (List.mem_of_getElem? (i := 4) rfl)).trans (sY_v ρ 3)
  have q4 : ρ0 5 = ρ 4 := (hM.2.2.2.2.2 (5, sY 4) (List.mem_of_getElem? (i := 5) rfl)).trans (sY_v ρ 4)
  have q5 : ρ0 6 = ρ 5 := (hM.2.2.2.2.2 (6, sY 5) (List.mem_of_getElem? (i := 6) rfl)).trans (sY_v ρ 5)
  have hL : ∀ j, j < 6 → pL [ρ 0, ρ 1, ρ 2, ρ 3, ρ 4, ρ 5] j = ρ0 (j + 1) := by
    intro j hj
    match j, hj with
    | 0, _ => exact q0.symm
    | 1, _ => exact q1.symm
    | 2, _ => exact q2.symm
    | 3, _ => exact q3.symm
    | 4, _ => exact q4.symm
    | 5, _ => exact q5.symm
    | k + 6, hj => omega
  have b0 : (1 : Int) ≤ ρ 0 ∧ ρ 0 ≤ 1 := hM.2.2.2.1 0 (1, 1) rfl
  have b1 : (1 : Int) ≤ ρ 1 ∧ ρ 1 ≤ 1 := hM.2.2.2.1 1 (1, 1) rfl
  have b2 : (0 : Int) ≤ ρ 2 ∧ ρ 2 ≤ 99 := hM.2.2.2.1 2 (0, 99) rfl
  have b3 : (0 : Int) ≤ ρ 3 ∧ ρ 3 ≤ 99 := hM.2.2.2.1 3 (0, 99) rfl
  have b4 : (0 : Int) ≤ ρ 4 ∧ ρ 4 ≤ 1 := hM.2.2.2.1 4 (0, 1) rfl
  have b5 : (3 : Int) ≤ ρ 5 ∧ ρ 5 ≤ 3 := hM.2.2.2.1 5 (3, 3) rfl
  have c0 : (0 + (1 * ρ 2 + ((-1) * ρ 3 + 0)) : Int) ≤ 0 := hM.2.2.2.2.1 (0, [(2, 1), (3, (-1))]) (List.mem_of_getElem? (i := 0) rfl)
  have c1 : (0 + ((-1) * ρ 2 + (1 * ρ 3 + 0)) : Int) ≤ 0 := hM.2.2.2.2.1 (0, [(2, (-1)), (3, 1)]) (List.mem_of_getElem? (i := 1) rfl)
  obtain ⟨ho, hh, hf⟩ := pTold20 hM 0 (0, []) rfl b0.1
  have hn := ho.1
  have ha : aC 3 h := pToldC hM 1 3 (by decide) (0, []) rfl b1.1
  have ey : ρ 3 = fRV (wN h) (wB h) 0 := (pfF hM hf 3 539 (0, []) rfl (by decide) (by decide) (0) (by omega) (by show (0 + 0 : Int) = _; omega)).trans (fA_RV (k := 0) (by decide))
  have eW : ρ 4 = yB (fWh (wN h) (wB h)) := (pfF hM hf 4 541 (0, []) rfl (by decide) (by decide) (0) (by omega) (by show (0 + 0 : Int) = _; omega)).trans (fA_WH)
  have efm : ρ 5 = ((fW (wN h) (wB h) 0 0 0).2.1 : Int) := (pfF hM hf 5 540 (0, []) rfl (by decide) (by decide) (0) (by omega) (by show (0 + 0 : Int) = _; omega)).trans (fA_FM)
  have em : (fW (wN h) (wB h) 0 0 0).2.1 = 3 := by omega
  have r00 : (h.1 (355 + 0) 0).toInt = (fMV (wN h) (wB h) 0 0) := (ha 0 0 (by decide) (by decide)).trans ((hf 538 (by decide) (by decide) 0 (by decide)).trans (fA_MV (i := 0) (k := 0) (by decide) (by decide)))
  have m00 := fMV_bd (n := wN h) (B := wB h) 0 0
  have r03 : (h.1 (355 + 0) 3).toInt = (fMV (wN h) (wB h) 0 3) := (ha 0 3 (by decide) (by decide)).trans ((hf 538 (by decide) (by decide) 3 (by decide)).trans (fA_MV (i := 0) (k := 3) (by decide) (by decide)))
  have m03 := fMV_bd (n := wN h) (B := wB h) 0 3
  have r10 : (h.1 (355 + 1) 0).toInt = (fMV (wN h) (wB h) 1 0) := (ha 1 0 (by decide) (by decide)).trans ((hf 538 (by decide) (by decide) 4 (by decide)).trans (fA_MV (i := 1) (k := 0) (by decide) (by decide)))
  have m10 := fMV_bd (n := wN h) (B := wB h) 1 0
  have r13 : (h.1 (355 + 1) 3).toInt = (fMV (wN h) (wB h) 1 3) := (ha 1 3 (by decide) (by decide)).trans ((hf 538 (by decide) (by decide) 7 (by decide)).trans (fA_MV (i := 1) (k := 3) (by decide) (by decide)))
  have m13 := fMV_bd (n := wN h) (B := wB h) 1 3
  have r20 : (h.1 (355 + 2) 0).toInt = (fMV (wN h) (wB h) 2 0) := (ha 2 0 (by decide) (by decide)).trans ((hf 538 (by decide) (by decide) 8 (by decide)).trans (fA_MV (i := 2) (k := 0) (by decide) (by decide)))
  have m20 := fMV_bd (n := wN h) (B := wB h) 2 0
  have r23 : (h.1 (355 + 2) 3).toInt = (fMV (wN h) (wB h) 2 3) := (ha 2 3 (by decide) (by decide)).trans ((hf 538 (by decide) (by decide) 11 (by decide)).trans (fA_MV (i := 2) (k := 3) (by decide) (by decide)))
  have m23 := fMV_bd (n := wN h) (B := wB h) 2 3
  by_cases g0 : (fMV (wN h) (wB h) 0 0) ≤ fRV (wN h) (wB h) 0
  · by_cases k0 : (fMV (wN h) (wB h) 0 3) < fRV (wN h) (wB h) 0
    · by_cases g1 : (fMV (wN h) (wB h) 1 0) ≤ fRV (wN h) (wB h) 0
      · by_cases k1 : (fMV (wN h) (wB h) 1 3) < fRV (wN h) (wB h) 0
        · by_cases g2 : (fMV (wN h) (wB h) 2 0) ≤ fRV (wN h) (wB h) 0
          · by_cases k2 : (fMV (wN h) (wB h) 2 3) < fRV (wN h) (wB h) 0
            · have hw : fWh (wN h) (wB h) := by
                refine ⟨by omega, fun i hi => ?_⟩
                rw [em] at hi
                rcases (show i = 0 ∨ i = 1 ∨ i = 2 by omega) with rfl | rfl | rfl
                · exact ⟨g0, k0⟩
                · exact ⟨g1, k1⟩
                · exact ⟨g2, k2⟩
              rw [yB_1.mpr hw] at eW
              refine ⟨rWH3c_0, List.mem_of_getElem? (i := 0) rfl, pEnd [ρ 0, ρ 1, ρ 2, ρ 3, ρ 4, ρ 5, (fMV (wN h) (wB h) 0 0), (fMV (wN h) (wB h) 0 3), (fMV (wN h) (wB h) 1 0), (fMV (wN h) (wB h) 1 3), (fMV (wN h) (wB h) 2 0), (fMV (wN h) (wB h) 2 3)] rfl ?_ ?_ ?_ ?_⟩
              · intro j hj
                match j, hj with
                | 0, _ => exact q0.symm
                | 1, _ => exact q1.symm
                | 2, _ => exact q2.symm
                | 3, _ => exact q3.symm
                | 4, _ => exact q4.symm
                | 5, _ => exact q5.symm
                | k + 6, hj => exact absurd hj (by show ¬ (k + 6 < 6); omega)
              · intro k b hk
                match k, hk with
                | 0, hk => cases hk; exact (show (0 : Int) ≤ (fMV (wN h) (wB h) 0 0) ∧ (fMV (wN h) (wB h) 0 0) ≤ (99 : Int) by omega)
                | 1, hk => cases hk; exact (show (0 : Int) ≤ (fMV (wN h) (wB h) 0 3) ∧ (fMV (wN h) (wB h) 0 3) ≤ (99 : Int) by omega)
                | 2, hk => cases hk; exact (show (0 : Int) ≤ (fMV (wN h) (wB h) 1 0) ∧ (fMV (wN h) (wB h) 1 0) ≤ (99 : Int) by omega)
                | 3, hk => cases hk; exact (show (0 : Int) ≤ (fMV (wN h) (wB h) 1 3) ∧ (fMV (wN h) (wB h) 1 3) ≤ (99 : Int) by omega)
                | 4, hk => cases hk; exact (show (0 : Int) ≤ (fMV (wN h) (wB h) 2 0) ∧ (fMV (wN h) (wB h) 2 0) ≤ (99 : Int) by omega)
                | 5, hk => cases hk; exact (show (0 : Int) ≤ (fMV (wN h) (wB h) 2 3) ∧ (fMV (wN h) (wB h) 2 3) ≤ (99 : Int) by omega)
                | k + 6, hk => cases hk
              · exact pAll1 (show ((-1) + (1 * ρ 4 + 0) : Int) ≤ 0 by omega) (pAll1 (show (1 + ((-1) * ρ 4 + 0) : Int) ≤ 0 by omega) (pAll1 (show (0 + ((-1) * ρ 2 + (1 * (fMV (wN h) (wB h) 0 0) + 0)) : Int) ≤ 0 by omega) (pAll1 (show (1 + ((-1) * ρ 2 + (1 * (fMV (wN h) (wB h) 0 3) + 0)) : Int) ≤ 0 by omega) (pAll1 (show (0 + ((-1) * ρ 2 + (1 * (fMV (wN h) (wB h) 1 0) + 0)) : Int) ≤ 0 by omega) (pAll1 (show (1 + ((-1) * ρ 2 + (1 * (fMV (wN h) (wB h) 1 3) + 0)) : Int) ≤ 0 by omega) (pAll1 (show (0 + ((-1) * ρ 2 + (1 * (fMV (wN h) (wB h) 2 0) + 0)) : Int) ≤ 0 by omega) (pAll1 (show (1 + ((-1) * ρ 2 + (1 * (fMV (wN h) (wB h) 2 3) + 0)) : Int) ≤ 0 by omega) (pAll0))))))))
              · exact pAll1 (pgP 951 (355 + 0) (by decide) (by decide +kernel) (by decide +kernel) 0 (show (0 + 0 : Int) = _ by omega) (show (0 + (1 * (fMV (wN h) (wB h) 0 0) + 0) : Int) = _ by omega)) (pAll1 (pgP 951 (355 + 0) (by decide) (by decide +kernel) (by decide +kernel) 3 (show (3 + 0 : Int) = _ by omega) (show (0 + (1 * (fMV (wN h) (wB h) 0 3) + 0) : Int) = _ by omega)) (pAll1 (pgP 952 (355 + 1) (by decide) (by decide +kernel) (by decide +kernel) 0 (show (0 + 0 : Int) = _ by omega) (show (0 + (1 * (fMV (wN h) (wB h) 1 0) + 0) : Int) = _ by omega)) (pAll1 (pgP 952 (355 + 1) (by decide) (by decide +kernel) (by decide +kernel) 3 (show (3 + 0 : Int) = _ by omega) (show (0 + (1 * (fMV (wN h) (wB h) 1 3) + 0) : Int) = _ by omega)) (pAll1 (pgP 953 (355 + 2) (by decide) (by decide +kernel) (by decide +kernel) 0 (show (0 + 0 : Int) = _ by omega) (show (0 + (1 * (fMV (wN h) (wB h) 2 0) + 0) : Int) = _ by omega)) (pAll1 (pgP 953 (355 + 2) (by decide) (by decide +kernel) (by decide +kernel) 3 (show (3 + 0 : Int) = _ by omega) (show (0 + (1 * (fMV (wN h) (wB h) 2 3) + 0) : Int) = _ by omega)) (pAll0))))))
            · have hw : ¬ fWh (wN h) (wB h) := fun z => k2 (z.2 2 (by omega)).2
              rw [yB_0 hw] at eW
              refine ⟨rWH3c_6, List.mem_of_getElem? (i := 6) rfl, pEnd [ρ 0, ρ 1, ρ 2, ρ 3, ρ 4, ρ 5, (fMV (wN h) (wB h) 0 0), (fMV (wN h) (wB h) 0 3), (fMV (wN h) (wB h) 1 0), (fMV (wN h) (wB h) 1 3), (fMV (wN h) (wB h) 2 0), (fMV (wN h) (wB h) 2 3)] rfl ?_ ?_ ?_ ?_⟩
              · intro j hj
                match j, hj with
                | 0, _ => exact q0.symm
                | 1, _ => exact q1.symm
                | 2, _ => exact q2.symm
                | 3, _ => exact q3.symm
                | 4, _ => exact q4.symm
                | 5, _ => exact q5.symm
                | k + 6, hj => exact absurd hj (by show ¬ (k + 6 < 6); omega)
              · intro k b hk
                match k, hk with
                | 0, hk => cases hk; exact (show (0 : Int) ≤ (fMV (wN h) (wB h) 0 0) ∧ (fMV (wN h) (wB h) 0 0) ≤ (99 : Int) by omega)
                | 1, hk => cases hk; exact (show (0 : Int) ≤ (fMV (wN h) (wB h) 0 3) ∧ (fMV (wN h) (wB h) 0 3) ≤ (99 : Int) by omega)
                | 2, hk => cases hk; exact (show (0 : Int) ≤ (fMV (wN h) (wB h) 1 0) ∧ (fMV (wN h) (wB h) 1 0) ≤ (99 : Int) by omega)
                | 3, hk => cases hk; exact (show (0 : Int) ≤ (fMV (wN h) (wB h) 1 3) ∧ (fMV (wN h) (wB h) 1 3) ≤ (99 : Int) by omega)
                | 4, hk => cases hk; exact (show (0 : Int) ≤ (fMV (wN h) (wB h) 2 0) ∧ (fMV (wN h) (wB h) 2 0) ≤ (99 : Int) by omega)
                | 5, hk => cases hk; exact (show (0 : Int) ≤ (fMV (wN h) (wB h) 2 3) ∧ (fMV (wN h) (wB h) 2 3) ≤ (99 : Int) by omega)
                | k + 6, hk => cases hk
              · exact pAll1 (show (0 + (1 * ρ 4 + 0) : Int) ≤ 0 by omega) (pAll1 (show (0 + ((-1) * ρ 4 + 0) : Int) ≤ 0 by omega) (pAll1 (show (0 + ((-1) * ρ 2 + (1 * (fMV (wN h) (wB h) 0 0) + 0)) : Int) ≤ 0 by omega) (pAll1 (show (1 + ((-1) * ρ 2 + (1 * (fMV (wN h) (wB h) 0 3) + 0)) : Int) ≤ 0 by omega) (pAll1 (show (0 + ((-1) * ρ 2 + (1 * (fMV (wN h) (wB h) 1 0) + 0)) : Int) ≤ 0 by omega) (pAll1 (show (1 + ((-1) * ρ 2 + (1 * (fMV (wN h) (wB h) 1 3) + 0)) : Int) ≤ 0 by omega) (pAll1 (show (0 + ((-1) * ρ 2 + (1 * (fMV (wN h) (wB h) 2 0) + 0)) : Int) ≤ 0 by omega) (pAll1 (show (0 + (1 * ρ 2 + ((-1) * (fMV (wN h) (wB h) 2 3) + 0)) : Int) ≤ 0 by omega) (pAll0))))))))
              · exact pAll1 (pgP 951 (355 + 0) (by decide) (by decide +kernel) (by decide +kernel) 0 (show (0 + 0 : Int) = _ by omega) (show (0 + (1 * (fMV (wN h) (wB h) 0 0) + 0) : Int) = _ by omega)) (pAll1 (pgP 951 (355 + 0) (by decide) (by decide +kernel) (by decide +kernel) 3 (show (3 + 0 : Int) = _ by omega) (show (0 + (1 * (fMV (wN h) (wB h) 0 3) + 0) : Int) = _ by omega)) (pAll1 (pgP 952 (355 + 1) (by decide) (by decide +kernel) (by decide +kernel) 0 (show (0 + 0 : Int) = _ by omega) (show (0 + (1 * (fMV (wN h) (wB h) 1 0) + 0) : Int) = _ by omega)) (pAll1 (pgP 952 (355 + 1) (by decide) (by decide +kernel) (by decide +kernel) 3 (show (3 + 0 : Int) = _ by omega) (show (0 + (1 * (fMV (wN h) (wB h) 1 3) + 0) : Int) = _ by omega)) (pAll1 (pgP 953 (355 + 2) (by decide) (by decide +kernel) (by decide +kernel) 0 (show (0 + 0 : Int) = _ by omega) (show (0 + (1 * (fMV (wN h) (wB h) 2 0) + 0) : Int) = _ by omega)) (pAll1 (pgP 953 (355 + 2) (by decide) (by decide +kernel) (by decide +kernel) 3 (show (3 + 0 : Int) = _ by omega) (show (0 + (1 * (fMV (wN h) (wB h) 2 3) + 0) : Int) = _ by omega)) (pAll0))))))
          · have hw : ¬ fWh (wN h) (wB h) := fun z => g2 (z.2 2 (by omega)).1
            rw [yB_0 hw] at eW
            refine ⟨rWH3c_5, List.mem_of_getElem? (i := 5) rfl, pEnd [ρ 0, ρ 1, ρ 2, ρ 3, ρ 4, ρ 5, (fMV (wN h) (wB h) 0 0), (fMV (wN h) (wB h) 0 3), (fMV (wN h) (wB h) 1 0), (fMV (wN h) (wB h) 1 3), (fMV (wN h) (wB h) 2 0)] rfl ?_ ?_ ?_ ?_⟩
            · intro j hj
              match j, hj with
              | 0, _ => exact q0.symm
              | 1, _ => exact q1.symm
              | 2, _ => exact q2.symm
              | 3, _ => exact q3.symm
              | 4, _ => exact q4.symm
              | 5, _ => exact q5.symm
              | k + 6, hj => exact absurd hj (by show ¬ (k + 6 < 6); omega)
            · intro k b hk
              match k, hk with
              | 0, hk => cases hk; exact (show (0 : Int) ≤ (fMV (wN h) (wB h) 0 0) ∧ (fMV (wN h) (wB h) 0 0) ≤ (99 : Int) by omega)
              | 1, hk => cases hk; exact (show (0 : Int) ≤ (fMV (wN h) (wB h) 0 3) ∧ (fMV (wN h) (wB h) 0 3) ≤ (99 : Int) by omega)
              | 2, hk => cases hk; exact (show (0 : Int) ≤ (fMV (wN h) (wB h) 1 0) ∧ (fMV (wN h) (wB h) 1 0) ≤ (99 : Int) by omega)
              | 3, hk => cases hk; exact (show (0 : Int) ≤ (fMV (wN h) (wB h) 1 3) ∧ (fMV (wN h) (wB h) 1 3) ≤ (99 : Int) by omega)
              | 4, hk => cases hk; exact (show (0 : Int) ≤ (fMV (wN h) (wB h) 2 0) ∧ (fMV (wN h) (wB h) 2 0) ≤ (99 : Int) by omega)
              | k + 5, hk => cases hk
            · exact pAll1 (show (0 + (1 * ρ 4 + 0) : Int) ≤ 0 by omega) (pAll1 (show (0 + ((-1) * ρ 4 + 0) : Int) ≤ 0 by omega) (pAll1 (show (0 + ((-1) * ρ 2 + (1 * (fMV (wN h) (wB h) 0 0) + 0)) : Int) ≤ 0 by omega) (pAll1 (show (1 + ((-1) * ρ 2 + (1 * (fMV (wN h) (wB h) 0 3) + 0)) : Int) ≤ 0 by omega) (pAll1 (show (0 + ((-1) * ρ 2 + (1 * (fMV (wN h) (wB h) 1 0) + 0)) : Int) ≤ 0 by omega) (pAll1 (show (1 + ((-1) * ρ 2 + (1 * (fMV (wN h) (wB h) 1 3) + 0)) : Int) ≤ 0 by omega) (pAll1 (show (1 + (1 * ρ 2 + ((-1) * (fMV (wN h) (wB h) 2 0) + 0)) : Int) ≤ 0 by omega) (pAll0)))))))
            · exact pAll1 (pgP 951 (355 + 0) (by decide) (by decide +kernel) (by decide +kernel) 0 (show (0 + 0 : Int) = _ by omega) (show (0 + (1 * (fMV (wN h) (wB h) 0 0) + 0) : Int) = _ by omega)) (pAll1 (pgP 951 (355 + 0) (by decide) (by decide +kernel) (by decide +kernel) 3 (show (3 + 0 : Int) = _ by omega) (show (0 + (1 * (fMV (wN h) (wB h) 0 3) + 0) : Int) = _ by omega)) (pAll1 (pgP 952 (355 + 1) (by decide) (by decide +kernel) (by decide +kernel) 0 (show (0 + 0 : Int) = _ by omega) (show (0 + (1 * (fMV (wN h) (wB h) 1 0) + 0) : Int) = _ by omega)) (pAll1 (pgP 952 (355 + 1) (by decide) (by decide +kernel) (by decide +kernel) 3 (show (3 + 0 : Int) = _ by omega) (show (0 + (1 * (fMV (wN h) (wB h) 1 3) + 0) : Int) = _ by omega)) (pAll1 (pgP 953 (355 + 2) (by decide) (by decide +kernel) (by decide +kernel) 0 (show (0 + 0 : Int) = _ by omega) (show (0 + (1 * (fMV (wN h) (wB h) 2 0) + 0) : Int) = _ by omega)) (pAll0)))))
        · have hw : ¬ fWh (wN h) (wB h) := fun z => k1 (z.2 1 (by omega)).2
          rw [yB_0 hw] at eW
          refine ⟨rWH3c_4, List.mem_of_getElem? (i := 4) rfl, pEnd [ρ 0, ρ 1, ρ 2, ρ 3, ρ 4, ρ 5, (fMV (wN h) (wB h) 0 0), (fMV (wN h) (wB h) 0 3), (fMV (wN h) (wB h) 1 0), (fMV (wN h) (wB h) 1 3)] rfl ?_ ?_ ?_ ?_⟩
          · intro j hj
            match j, hj with
            | 0, _ => exact q0.symm
            | 1, _ => exact q1.symm
            | 2, _ => exact q2.symm
            | 3, _ => exact q3.symm
            | 4, _ => exact q4.symm
            | 5, _ => exact q5.symm
            | k + 6, hj => exact absurd hj (by show ¬ (k + 6 < 6); omega)
          · intro k b hk
            match k, hk with
            | 0, hk => cases hk; exact (show (0 : Int) ≤ (fMV (wN h) (wB h) 0 0) ∧ (fMV (wN h) (wB h) 0 0) ≤ (99 : Int) by omega)
            | 1, hk => cases hk; exact (show (0 : Int) ≤ (fMV (wN h) (wB h) 0 3) ∧ (fMV (wN h) (wB h) 0 3) ≤ (99 : Int) by omega)
            | 2, hk => cases hk; exact (show (0 : Int) ≤ (fMV (wN h) (wB h) 1 0) ∧ (fMV (wN h) (wB h) 1 0) ≤ (99 : Int) by omega)
            | 3, hk => cases hk; exact (show (0 : Int) ≤ (fMV (wN h) (wB h) 1 3) ∧ (fMV (wN h) (wB h) 1 3) ≤ (99 : Int) by omega)
            | k + 4, hk => cases hk
          · exact pAll1 (show (0 + (1 * ρ 4 + 0) : Int) ≤ 0 by omega) (pAll1 (show (0 + ((-1) * ρ 4 + 0) : Int) ≤ 0 by omega) (pAll1 (show (0 + ((-1) * ρ 2 + (1 * (fMV (wN h) (wB h) 0 0) + 0)) : Int) ≤ 0 by omega) (pAll1 (show (1 + ((-1) * ρ 2 + (1 * (fMV (wN h) (wB h) 0 3) + 0)) : Int) ≤ 0 by omega) (pAll1 (show (0 + ((-1) * ρ 2 + (1 * (fMV (wN h) (wB h) 1 0) + 0)) : Int) ≤ 0 by omega) (pAll1 (show (0 + (1 * ρ 2 + ((-1) * (fMV (wN h) (wB h) 1 3) + 0)) : Int) ≤ 0 by omega) (pAll0))))))
          · exact pAll1 (pgP 951 (355 + 0) (by decide) (by decide +kernel) (by decide +kernel) 0 (show (0 + 0 : Int) = _ by omega) (show (0 + (1 * (fMV (wN h) (wB h) 0 0) + 0) : Int) = _ by omega)) (pAll1 (pgP 951 (355 + 0) (by decide) (by decide +kernel) (by decide +kernel) 3 (show (3 + 0 : Int) = _ by omega) (show (0 + (1 * (fMV (wN h) (wB h) 0 3) + 0) : Int) = _ by omega)) (pAll1 (pgP 952 (355 + 1) (by decide) (by decide +kernel) (by decide +kernel) 0 (show (0 + 0 : Int) = _ by omega) (show (0 + (1 * (fMV (wN h) (wB h) 1 0) + 0) : Int) = _ by omega)) (pAll1 (pgP 952 (355 + 1) (by decide) (by decide +kernel) (by decide +kernel) 3 (show (3 + 0 : Int) = _ by omega) (show (0 + (1 * (fMV (wN h) (wB h) 1 3) + 0) : Int) = _ by omega)) (pAll0))))
      · have hw : ¬ fWh (wN h) (wB h) := fun z => g1 (z.2 1 (by omega)).1
        rw [yB_0 hw] at eW
        refine ⟨rWH3c_3, List.mem_of_getElem? (i := 3) rfl, pEnd [ρ 0, ρ 1, ρ 2, ρ 3, ρ 4, ρ 5, (fMV (wN h) (wB h) 0 0), (fMV (wN h) (wB h) 0 3), (fMV (wN h) (wB h) 1 0)] rfl ?_ ?_ ?_ ?_⟩
        · intro j hj
          match j, hj with
          | 0, _ => exact q0.symm
          | 1, _ => exact q1.symm
          | 2, _ => exact q2.symm
          | 3, _ => exact q3.symm
          | 4, _ => exact q4.symm
          | 5, _ => exact q5.symm
          | k + 6, hj => exact absurd hj (by show ¬ (k + 6 < 6); omega)
        · intro k b hk
          match k, hk with
          | 0, hk => cases hk; exact (show (0 : Int) ≤ (fMV (wN h) (wB h) 0 0) ∧ (fMV (wN h) (wB h) 0 0) ≤ (99 : Int) by omega)
          | 1, hk => cases hk; exact (show (0 : Int) ≤ (fMV (wN h) (wB h) 0 3) ∧ (fMV (wN h) (wB h) 0 3) ≤ (99 : Int) by omega)
          | 2, hk => cases hk; exact (show (0 : Int) ≤ (fMV (wN h) (wB h) 1 0) ∧ (fMV (wN h) (wB h) 1 0) ≤ (99 : Int) by omega)
          | k + 3, hk => cases hk
        · exact pAll1 (show (0 + (1 * ρ 4 + 0) : Int) ≤ 0 by omega) (pAll1 (show (0 + ((-1) * ρ 4 + 0) : Int) ≤ 0 by omega) (pAll1 (show (0 + ((-1) * ρ 2 + (1 * (fMV (wN h) (wB h) 0 0) + 0)) : Int) ≤ 0 by omega) (pAll1 (show (1 + ((-1) * ρ 2 + (1 * (fMV (wN h) (wB h) 0 3) + 0)) : Int) ≤ 0 by omega) (pAll1 (show (1 + (1 * ρ 2 + ((-1) * (fMV (wN h) (wB h) 1 0) + 0)) : Int) ≤ 0 by omega) (pAll0)))))
        · exact pAll1 (pgP 951 (355 + 0) (by decide) (by decide +kernel) (by decide +kernel) 0 (show (0 + 0 : Int) = _ by omega) (show (0 + (1 * (fMV (wN h) (wB h) 0 0) + 0) : Int) = _ by omega)) (pAll1 (pgP 951 (355 + 0) (by decide) (by decide +kernel) (by decide +kernel) 3 (show (3 + 0 : Int) = _ by omega) (show (0 + (1 * (fMV (wN h) (wB h) 0 3) + 0) : Int) = _ by omega)) (pAll1 (pgP 952 (355 + 1) (by decide) (by decide +kernel) (by decide +kernel) 0 (show (0 + 0 : Int) = _ by omega) (show (0 + (1 * (fMV (wN h) (wB h) 1 0) + 0) : Int) = _ by omega)) (pAll0)))
    · have hw : ¬ fWh (wN h) (wB h) := fun z => k0 (z.2 0 (by omega)).2
      rw [yB_0 hw] at eW
      refine ⟨rWH3c_2, List.mem_of_getElem? (i := 2) rfl, pEnd [ρ 0, ρ 1, ρ 2, ρ 3, ρ 4, ρ 5, (fMV (wN h) (wB h) 0 0), (fMV (wN h) (wB h) 0 3)] rfl ?_ ?_ ?_ ?_⟩
      · intro j hj
        match j, hj with
        | 0, _ => exact q0.symm
        | 1, _ => exact q1.symm
        | 2, _ => exact q2.symm
        | 3, _ => exact q3.symm
        | 4, _ => exact q4.symm
        | 5, _ => exact q5.symm
        | k + 6, hj => exact absurd hj (by show ¬ (k + 6 < 6); omega)
      · intro k b hk
        match k, hk with
        | 0, hk => cases hk; exact (show (0 : Int) ≤ (fMV (wN h) (wB h) 0 0) ∧ (fMV (wN h) (wB h) 0 0) ≤ (99 : Int) by omega)
        | 1, hk => cases hk; exact (show (0 : Int) ≤ (fMV (wN h) (wB h) 0 3) ∧ (fMV (wN h) (wB h) 0 3) ≤ (99 : Int) by omega)
        | k + 2, hk => cases hk
      · exact pAll1 (show (0 + (1 * ρ 4 + 0) : Int) ≤ 0 by omega) (pAll1 (show (0 + ((-1) * ρ 4 + 0) : Int) ≤ 0 by omega) (pAll1 (show (0 + ((-1) * ρ 2 + (1 * (fMV (wN h) (wB h) 0 0) + 0)) : Int) ≤ 0 by omega) (pAll1 (show (0 + (1 * ρ 2 + ((-1) * (fMV (wN h) (wB h) 0 3) + 0)) : Int) ≤ 0 by omega) (pAll0))))
      · exact pAll1 (pgP 951 (355 + 0) (by decide) (by decide +kernel) (by decide +kernel) 0 (show (0 + 0 : Int) = _ by omega) (show (0 + (1 * (fMV (wN h) (wB h) 0 0) + 0) : Int) = _ by omega)) (pAll1 (pgP 951 (355 + 0) (by decide) (by decide +kernel) (by decide +kernel) 3 (show (3 + 0 : Int) = _ by omega) (show (0 + (1 * (fMV (wN h) (wB h) 0 3) + 0) : Int) = _ by omega)) (pAll0))
  · have hw : ¬ fWh (wN h) (wB h) := fun z => g0 (z.2 0 (by omega)).1
    rw [yB_0 hw] at eW
    refine ⟨rWH3c_1, List.mem_of_getElem? (i := 1) rfl, pEnd [ρ 0, ρ 1, ρ 2, ρ 3, ρ 4, ρ 5, (fMV (wN h) (wB h) 0 0)] rfl ?_ ?_ ?_ ?_⟩
    · intro j hj
      match j, hj with
      | 0, _ => exact q0.symm
      | 1, _ => exact q1.symm
      | 2, _ => exact q2.symm
      | 3, _ => exact q3.symm
      | 4, _ => exact q4.symm
      | 5, _ => exact q5.symm
      | k + 6, hj => exact absurd hj (by show ¬ (k + 6 < 6); omega)
    · intro k b hk
      match k, hk with
      | 0, hk => cases hk; exact (show (0 : Int) ≤ (fMV (wN h) (wB h) 0 0) ∧ (fMV (wN h) (wB h) 0 0) ≤ (99 : Int) by omega)
      | k + 1, hk => cases hk
    · exact pAll1 (show (0 + (1 * ρ 4 + 0) : Int) ≤ 0 by omega) (pAll1 (show (0 + ((-1) * ρ 4 + 0) : Int) ≤ 0 by omega) (pAll1 (show (1 + (1 * ρ 2 + ((-1) * (fMV (wN h) (wB h) 0 0) + 0)) : Int) ≤ 0 by omega) (pAll0)))
    · exact pAll1 (pgP 951 (355 + 0) (by decide) (by decide +kernel) (by decide +kernel) 0 (show (0 + 0 : Int) = _ by omega) (show (0 + (1 * (fMV (wN h) (wB h) 0 0) + 0) : Int) = _ by omega)) (pAll0)
noncomputable def rWH4c_0 : sX := (none, [(951, (0, []), (0, [(6, 1)])), (951, (3, []), (0, [(7, 1)])), (952, (0, []), (0, [(8, 1)])), (952, (3, []), (0, [(9, 1)])), (953, (0, []), (0, [(10, 1)])), (953, (3, []), (0, [(11, 1)])), (954, (0, []), (0, [(12, 1)])), (954, (3, []), (0, [(13, 1)]))], [(0, 99), (0, 99), (0, 99), (0, 99), (0, 99), (0, 99), (0, 99), (0, 99)], [((-1), [(4, 1)]), (1, [(4, (-1))]), (0, [(2, (-1)), (6, 1)]), (1, [(2, (-1)), (7, 1)]), (0, [(2, (-1)), (8, 1)]), (1, [(2, (-1)), (9, 1)]), (0, [(2, (-1)), (10, 1)]), (1, [(2, (-1)), (11, 1)]), (0, [(2, (-1)), (12, 1)]), (1, [(2, (-1)), (13, 1)])], [])
noncomputable def rWH4c_1 : sX := (none, [(951, (0, []), (0, [(6, 1)]))], [(0, 99)], [(0, [(4, 1)]), (0, [(4, (-1))]), (1, [(2, 1), (6, (-1))])], [])
noncomputable def rWH4c_2 : sX := (none, [(951, (0, []), (0, [(6, 1)])), (951, (3, []), (0, [(7, 1)]))], [(0, 99), (0, 99)], [(0, [(4, 1)]), (0, [(4, (-1))]), (0, [(2, (-1)), (6, 1)]), (0, [(2, 1), (7, (-1))])], [])
noncomputable def rWH4c_3 : sX := (none, [(951, (0, []), (0, [(6, 1)])), (951, (3, []), (0, [(7, 1)])), (952, (0, []), (0, [(8, 1)]))], [(0, 99), (0, 99), (0, 99)], [(0, [(4, 1)]), (0, [(4, (-1))]), (0, [(2, (-1)), (6, 1)]), (1, [(2, (-1)), (7, 1)]), (1, [(2, 1), (8, (-1))])], [])
noncomputable def rWH4c_4 : sX := (none, [(951, (0, []), (0, [(6, 1)])), (951, (3, []), (0, [(7, 1)])), (952, (0, []), (0, [(8, 1)])), (952, (3, []), (0, [(9, 1)]))], [(0, 99), (0, 99), (0, 99), (0, 99)], [(0, [(4, 1)]), (0, [(4, (-1))]), (0, [(2, (-1)), (6, 1)]), (1, [(2, (-1)), (7, 1)]), (0, [(2, (-1)), (8, 1)]), (0, [(2, 1), (9, (-1))])], [])
noncomputable def rWH4c_5 : sX := (none, [(951, (0, []), (0, [(6, 1)])), (951, (3, []), (0, [(7, 1)])), (952, (0, []), (0, [(8, 1)])), (952, (3, []), (0, [(9, 1)])), (953, (0, []), (0, [(10, 1)]))], [(0, 99), (0, 99), (0, 99), (0, 99), (0, 99)], [(0, [(4, 1)]), (0, [(4, (-1))]), (0, [(2, (-1)), (6, 1)]), (1, [(2, (-1)), (7, 1)]), (0, [(2, (-1)), (8, 1)]), (1, [(2, (-1)), (9, 1)]), (1, [(2, 1), (10, (-1))])], [])
noncomputable def rWH4c_6 : sX := (none, [(951, (0, []), (0, [(6, 1)])), (951, (3, []), (0, [(7, 1)])), (952, (0, []), (0, [(8, 1)])), (952, (3, []), (0, [(9, 1)])), (953, (0, []), (0, [(10, 1)])), (953, (3, []), (0, [(11, 1)]))], [(0, 99), (0, 99), (0, 99), (0, 99), (0, 99), (0, 99)], [(0, [(4, 1)]), (0, [(4, (-1))]), (0, [(2, (-1)), (6, 1)]), (1, [(2, (-1)), (7, 1)]), (0, [(2, (-1)), (8, 1)]), (1, [(2, (-1)), (9, 1)]), (0, [(2, (-1)), (10, 1)]), (0, [(2, 1), (11, (-1))])], [])
noncomputable def rWH4c_7 : sX := (none, [(951, (0, []), (0, [(6, 1)])), (951, (3, []), (0, [(7, 1)])), (952, (0, []), (0, [(8, 1)])), (952, (3, []), (0, [(9, 1)])), (953, (0, []), (0, [(10, 1)])), (953, (3, []), (0, [(11, 1)])), (954, (0, []), (0, [(12, 1)]))], [(0, 99), (0, 99), (0, 99), (0, 99), (0, 99), (0, 99), (0, 99)], [(0, [(4, 1)]), (0, [(4, (-1))]), (0, [(2, (-1)), (6, 1)]), (1, [(2, (-1)), (7, 1)]), (0, [(2, (-1)), (8, 1)]), (1, [(2, (-1)), (9, 1)]), (0, [(2, (-1)), (10, 1)]), (1, [(2, (-1)), (11, 1)]), (1, [(2, 1), (12, (-1))])], [])
noncomputable def rWH4c_8 : sX := (none, [(951, (0, []), (0, [(6, 1)])), (951, (3, []), (0, [(7, 1)])), (952, (0, []), (0, [(8, 1)])), (952, (3, []), (0, [(9, 1)])), (953, (0, []), (0, [(10, 1)])), (953, (3, []), (0, [(11, 1)])), (954, (0, []), (0, [(12, 1)])), (954, (3, []), (0, [(13, 1)]))], [(0, 99), (0, 99), (0, 99), (0, 99), (0, 99), (0, 99), (0, 99), (0, 99)], [(0, [(4, 1)]), (0, [(4, (-1))]), (0, [(2, (-1)), (6, 1)]), (1, [(2, (-1)), (7, 1)]), (0, [(2, (-1)), (8, 1)]), (1, [(2, (-1)), (9, 1)]), (0, [(2, (-1)), (10, 1)]), (1, [(2, (-1)), (11, 1)]), (0, [(2, (-1)), (12, 1)]), (0, [(2, 1), (13, (-1))])], [])
noncomputable def rWH4c : sQ := (0, ([], [(2, 1020, (0, [])), (2, 1004, (0, [])), (2, 42, (0, [])), (2, 539, (0, [])), (2, 541, (0, [])), (2, 540, (0, []))], [(1, 1), (1, 1), (0, 99), (0, 99), (0, 1), (4, 4)], [(0, [(2, 1), (3, (-1))]), (0, [(2, (-1)), (3, 1)])], [(0, 0), (1, 1), (2, 2), (3, 3), (4, 4), (5, 5)], (0, [])), [rWH4c_0, rWH4c_1, rWH4c_2, rWH4c_3, rWH4c_4, rWH4c_5, rWH4c_6, rWH4c_7, rWH4c_8], [], 0)
set_option maxHeartbeats 4000000 in
theorem rWH4c_ok : pRul pReg pG pgv (rWH4c) := by
  intro loc h ρ ρ0 hG hM
  have hM : sMt pReg pgv ρ ρ0 (sAs (rWH4c).2.1) loc [] h := hM
  have q0 : ρ0 1 = ρ 0 := (hM.2.2.2.2.2 (1, sY 0) (List.mem_of_getElem? (i := 1) rfl)).trans (sY_v ρ 0)
  have q1 : ρ0 2 = ρ 1 := (hM.2.2.2.2.2 (2, sY 1) (List.mem_of_getElem? (i := 2) rfl)).trans (sY_v ρ 1)
  have q2 : ρ0 3 = ρ 2 := (hM.2.2.2.2.2 (3, sY 2) (List.mem_of_getElem? (i := 3) rfl)).trans (sY_v ρ 2)
  have q3 : ρ0 4 = ρ 3 := (hM.2.2.2.2.2 (4, sY 3) (List.mem_of_getElem? (i := 4) rfl)).trans (sY_v ρ 3)
  have q4 : ρ0 5 = ρ 4 := (hM.2.2.2.2.2 (5, sY 4) (List.mem_of_getElem? (i := 5) rfl)).trans (sY_v ρ 4)
  have q5 : ρ0 6 = ρ 5 := (hM.2.2.2.2.2 (6, sY 5) (List.mem_of_getElem? (i := 6) rfl)).trans (sY_v ρ 5)
  have hL : ∀ j, j < 6 → pL [ρ 0, ρ 1, ρ 2, ρ 3, ρ 4, ρ 5] j = ρ0 (j + 1) := by
    intro j hj
    match j, hj with
    | 0, _ => exact q0.symm
    | 1, _ => exact q1.symm
    | 2, _ => exact q2.symm
    | 3, _ => exact q3.symm
    | 4, _ => exact q4.symm
    | 5, _ => exact q5.symm
    | k + 6, hj => omega
  have b0 : (1 : Int) ≤ ρ 0 ∧ ρ 0 ≤ 1 := hM.2.2.2.1 0 (1, 1) rfl
  have b1 : (1 : Int) ≤ ρ 1 ∧ ρ 1 ≤ 1 := hM.2.2.2.1 1 (1, 1) rfl
  have b2 : (0 : Int) ≤ ρ 2 ∧ ρ 2 ≤ 99 := hM.2.2.2.1 2 (0, 99) rfl
  have b3 : (0 : Int) ≤ ρ 3 ∧ ρ 3 ≤ 99 := hM.2.2.2.1 3 (0, 99) rfl
  have b4 : (0 : Int) ≤ ρ 4 ∧ ρ 4 ≤ 1 := hM.2.2.2.1 4 (0, 1) rfl
  have b5 : (4 : Int) ≤ ρ 5 ∧ ρ 5 ≤ 4 := hM.2.2.2.1 5 (4, 4) rfl
  have c0 : (0 + (1 * ρ 2 + ((-1) * ρ 3 + 0)) : Int) ≤ 0 := hM.2.2.2.2.1 (0, [(2, 1), (3, (-1))]) (List.mem_of_getElem? (i := 0) rfl)
  have c1 : (0 + ((-1) * ρ 2 + (1 * ρ 3 + 0)) : Int) ≤ 0 := hM.2.2.2.2.1 (0, [(2, (-1)), (3, 1)]) (List.mem_of_getElem? (i := 1) rfl)
  obtain ⟨ho, hh, hf⟩ := pTold20 hM 0 (0, []) rfl b0.1
  have hn := ho.1
  have ha : aC 4 h := pToldC hM 1 4 (by decide) (0, []) rfl b1.1
  have ey : ρ 3 = fRV (wN h) (wB h) 0 := (pfF hM hf 3 539 (0, []) rfl (by decide) (by decide) (0) (by omega) (by show (0 + 0 : Int) = _; omega)).trans (fA_RV (k := 0) (by decide))
  have eW : ρ 4 = yB (fWh (wN h) (wB h)) := (pfF hM hf 4 541 (0, []) rfl (by decide) (by decide) (0) (by omega) (by show (0 + 0 : Int) = _; omega)).trans (fA_WH)
  have efm : ρ 5 = ((fW (wN h) (wB h) 0 0 0).2.1 : Int) := (pfF hM hf 5 540 (0, []) rfl (by decide) (by decide) (0) (by omega) (by show (0 + 0 : Int) = _; omega)).trans (fA_FM)
  have em : (fW (wN h) (wB h) 0 0 0).2.1 = 4 := by omega
  have r00 : (h.1 (355 + 0) 0).toInt = (fMV (wN h) (wB h) 0 0) := (ha 0 0 (by decide) (by decide)).trans ((hf 538 (by decide) (by decide) 0 (by decide)).trans (fA_MV (i := 0) (k := 0) (by decide) (by decide)))
  have m00 := fMV_bd (n := wN h) (B := wB h) 0 0
  have r03 : (h.1 (355 + 0) 3).toInt = (fMV (wN h) (wB h) 0 3) := (ha 0 3 (by decide) (by decide)).trans ((hf 538 (by decide) (by decide) 3 (by decide)).trans (fA_MV (i := 0) (k := 3) (by decide) (by decide)))
  have m03 := fMV_bd (n := wN h) (B := wB h) 0 3
  have r10 : (h.1 (355 + 1) 0).toInt = (fMV (wN h) (wB h) 1 0) := (ha 1 0 (by decide) (by decide)).trans ((hf 538 (by decide) (by decide) 4 (by decide)).trans (fA_MV (i := 1) (k := 0) (by decide) (by decide)))
  have m10 := fMV_bd (n := wN h) (B := wB h) 1 0
  have r13 : (h.1 (355 + 1) 3).toInt = (fMV (wN h) (wB h) 1 3) := (ha 1 3 (by decide) (by decide)).trans ((hf 538 (by decide) (by decide) 7 (by decide)).trans (fA_MV (i := 1) (k := 3) (by decide) (by decide)))
  have m13 := fMV_bd (n := wN h) (B := wB h) 1 3
  have r20 : (h.1 (355 + 2) 0).toInt = (fMV (wN h) (wB h) 2 0) := (ha 2 0 (by decide) (by decide)).trans ((hf 538 (by decide) (by decide) 8 (by decide)).trans (fA_MV (i := 2) (k := 0) (by decide) (by decide)))
  have m20 := fMV_bd (n := wN h) (B := wB h) 2 0
  have r23 : (h.1 (355 + 2) 3).toInt = (fMV (wN h) (wB h) 2 3) := (ha 2 3 (by decide) (by decide)).trans ((hf 538 (by decide) (by decide) 11 (by decide)).trans (fA_MV (i := 2) (k := 3) (by decide) (by decide)))
  have m23 := fMV_bd (n := wN h) (B := wB h) 2 3
  have r30 : (h.1 (355 + 3) 0).toInt = (fMV (wN h) (wB h) 3 0) := (ha 3 0 (by decide) (by decide)).trans ((hf 538 (by decide) (by decide) 12 (by decide)).trans (fA_MV (i := 3) (k := 0) (by decide) (by decide)))
  have m30 := fMV_bd (n := wN h) (B := wB h) 3 0
  have r33 : (h.1 (355 + 3) 3).toInt = (fMV (wN h) (wB h) 3 3) := (ha 3 3 (by decide) (by decide)).trans ((hf 538 (by decide) (by decide) 15 (by decide)).trans (fA_MV (i := 3) (k := 3) (by decide) (by decide)))
  have m33 := fMV_bd (n := wN h) (B := wB h) 3 3
  by_cases g0 : (fMV (wN h) (wB h) 0 0) ≤ fRV (wN h) (wB h) 0
  · by_cases k0 : (fMV (wN h) (wB h) 0 3) < fRV (wN h) (wB h) 0
    · by_cases g1 : (fMV (wN h) (wB h) 1 0) ≤ fRV (wN h) (wB h) 0
      · by_cases k1 : (fMV (wN h) (wB h) 1 3) < fRV (wN h) (wB h) 0
        · by_cases g2 : (fMV (wN h) (wB h) 2 0) ≤ fRV (wN h) (wB h) 0
          · by_cases k2 : (fMV (wN h) (wB h) 2 3) < fRV (wN h) (wB h) 0
            · by_cases g3 : (fMV (wN h) (wB h) 3 0) ≤ fRV (wN h) (wB h) 0
              · by_cases k3 : (fMV (wN h) (wB h) 3 3) < fRV (wN h) (wB h) 0
                · have hw : fWh (wN h) (wB h) := by
                    refine ⟨by omega, fun i hi => ?_⟩
                    rw [em] at hi
                    rcases (show i = 0 ∨ i = 1 ∨ i = 2 ∨ i = 3 by omega) with rfl | rfl | rfl | rfl
                    · exact ⟨g0, k0⟩
                    · exact ⟨g1, k1⟩
                    · exact ⟨g2, k2⟩
                    · exact ⟨g3, k3⟩
                  rw [yB_1.mpr hw] at eW
                  refine ⟨rWH4c_0, List.mem_of_getElem? (i := 0) rfl, pEnd [ρ 0, ρ 1, ρ 2, ρ 3, ρ 4, ρ 5, (fMV (wN h) (wB h) 0 0), (fMV (wN h) (wB h) 0 3), (fMV (wN h) (wB h) 1 0), (fMV (wN h) (wB h) 1 3), (fMV (wN h) (wB h) 2 0), (fMV (wN h) (wB h) 2 3), (fMV (wN h) (wB h) 3 0), (fMV (wN h) (wB h) 3 3)] rfl ?_ ?_ ?_ ?_⟩
                  · intro j hj
                    match j, hj with
                    | 0, _ => exact q0.symm
                    | 1, _ => exact q1.symm
                    | 2, _ => exact q2.symm
                    | 3, _ => exact q3.symm
                    | 4, _ => exact q4.symm
                    | 5, _ => exact q5.symm
                    | k + 6, hj => exact absurd hj (by show ¬ (k + 6 < 6); omega)
                  · intro k b hk
                    match k, hk with
                    | 0, hk => cases hk; exact (show (0 : Int) ≤ (fMV (wN h) (wB h) 0 0) ∧ (fMV (wN h) (wB h) 0 0) ≤ (99 : Int) by omega)
                    | 1, hk => cases hk; exact (show (0 : Int) ≤ (fMV (wN h) (wB h) 0 3) ∧ (fMV (wN h) (wB h) 0 3) ≤ (99 : Int) by omega)
                    | 2, hk => cases hk; exact (show (0 : Int) ≤ (fMV (wN h) (wB h) 1 0) ∧ (fMV (wN h) (wB h) 1 0) ≤ (99 : Int) by omega)
                    | 3, hk => cases hk; exact (show (0 : Int) ≤ (fMV (wN h) (wB h) 1 3) ∧ (fMV (wN h) (wB h) 1 3) ≤ (99 : Int) by omega)
                    | 4, hk => cases hk; exact (show (0 : Int) ≤ (fMV (wN h) (wB h) 2 0) ∧ (fMV (wN h) (wB h) 2 0) ≤ (99 : Int) by omega)
                    | 5, hk => cases hk; exact (show (0 : Int) ≤ (fMV (wN h) (wB h) 2 3) ∧ (fMV (wN h) (wB h) 2 3) ≤ (99 : Int) by omega)
                    | 6, hk => cases hk; exact (show (0 : Int) ≤ (fMV (wN h) (wB h) 3 0) ∧ (fMV (wN h) (wB h) 3 0) ≤ (99 : Int) by omega)
                    | 7, hk => cases hk; exact (show (0 : Int) ≤ (fMV (wN h) (wB h) 3 3) ∧ (fMV (wN h) (wB h) 3 3) ≤ (99 : Int) by omega)
                    | k + 8, hk => cases hk
                  · exact pAll1 (show ((-1) + (1 * ρ 4 + 0) : Int) ≤ 0 by omega) (pAll1 (show (1 + ((-1) * ρ 4 + 0) : Int) ≤ 0 by omega) (pAll1 (show (0 + ((-1) * ρ 2 + (1 * (fMV (wN h) (wB h) 0 0) + 0)) : Int) ≤ 0 by omega) (pAll1 (show (1 + ((-1) * ρ 2 + (1 * (fMV (wN h) (wB h) 0 3) + 0)) : Int) ≤ 0 by omega) (pAll1 (show (0 + ((-1) * ρ 2 + (1 * (fMV (wN h) (wB h) 1 0) + 0)) : Int) ≤ 0 by omega) (pAll1 (show (1 + ((-1) * ρ 2 + (1 * (fMV (wN h) (wB h) 1 3) + 0)) : Int) ≤ 0 by omega) (pAll1 (show (0 + ((-1) * ρ 2 + (1 * (fMV (wN h) (wB h) 2 0) + 0)) : Int) ≤ 0 by omega) (pAll1 (show (1 + ((-1) * ρ 2 + (1 * (fMV (wN h) (wB h) 2 3) + 0)) : Int) ≤ 0 by omega) (pAll1 (show (0 + ((-1) * ρ 2 + (1 * (fMV (wN h) (wB h) 3 0) + 0)) : Int) ≤ 0 by omega) (pAll1 (show (1 + ((-1) * ρ 2 + (1 * (fMV (wN h) (wB h) 3 3) + 0)) : Int) ≤ 0 by omega) (pAll0))))))))))
                  · exact pAll1 (pgP 951 (355 + 0) (by decide) (by decide +kernel) (by decide +kernel) 0 (show (0 + 0 : Int) = _ by omega) (show (0 + (1 * (fMV (wN h) (wB h) 0 0) + 0) : Int) = _ by omega)) (pAll1 (pgP 951 (355 + 0) (by decide) (by decide +kernel) (by decide +kernel) 3 (show (3 + 0 : Int) = _ by omega) (show (0 + (1 * (fMV (wN h) (wB h) 0 3) + 0) : Int) = _ by omega)) (pAll1 (pgP 952 (355 + 1) (by decide) (by decide +kernel) (by decide +kernel) 0 (show (0 + 0 : Int) = _ by omega) (show (0 + (1 * (fMV (wN h) (wB h) 1 0) + 0) : Int) = _ by omega)) (pAll1 (pgP 952 (355 + 1) (by decide) (by decide +kernel) (by decide +kernel) 3 (show (3 + 0 : Int) = _ by omega) (show (0 + (1 * (fMV (wN h) (wB h) 1 3) + 0) : Int) = _ by omega)) (pAll1 (pgP 953 (355 + 2) (by decide) (by decide +kernel) (by decide +kernel) 0 (show (0 + 0 : Int) = _ by omega) (show (0 + (1 * (fMV (wN h) (wB h) 2 0) + 0) : Int) = _ by omega)) (pAll1 (pgP 953 (355 + 2) (by decide) (by decide +kernel) (by decide +kernel) 3 (show (3 + 0 : Int) = _ by omega) (show (0 + (1 * (fMV (wN h) (wB h) 2 3) + 0) : Int) = _ by omega)) (pAll1 (pgP 954 (355 + 3) (by decide) (by decide +kernel) (by decide +kernel) 0 (show (0 + 0 : Int) = _ by omega) (show (0 + (1 * (fMV (wN h) (wB h) 3 0) + 0) : Int) = _ by omega)) (pAll1 (pgP 954 (355 + 3) (by decide) (by decide +kernel) (by decide +kernel) 3 (show (3 + 0 : Int) = _ by omega) (show (0 + (1 * (fMV (wN h) (wB h) 3 3) + 0) : Int) = _ by omega)) (pAll0))))))))
                · have hw : ¬ fWh (wN h) (wB h) := fun z => k3 (z.2 3 (by omega)).2
                  rw [yB_0 hw] at eW
                  refine ⟨rWH4c_8, List.mem_of_getElem? (i := 8) rfl, pEnd [ρ 0, ρ 1, ρ 2, ρ 3, ρ 4, ρ 5, (fMV (wN h) (wB h) 0 0), (fMV (wN h) (wB h) 0 3), (fMV (wN h) (wB h) 1 0), (fMV (wN h) (wB h) 1 3), (fMV (wN h) (wB h) 2 0), (fMV (wN h) (wB h) 2 3), (fMV (wN h) (wB h) 3 0), (fMV (wN h) (wB h) 3 3)] rfl ?_ ?_ ?_ ?_⟩
                  · intro j hj
                    match j, hj with
                    | 0, _ => exact q0.symm
                    | 1, _ => exact q1.symm
                    | 2, _ => exact q2.symm
                    | 3, _ => exact q3.symm
                    | 4, _ => exact q4.symm
                    | 5, _ => exact q5.symm
                    | k + 6, hj => exact absurd hj (by show ¬ (k + 6 < 6); omega)
                  · intro k b hk
                    match k, hk with
                    | 0, hk => cases hk; exact (show (0 : Int) ≤ (fMV (wN h) (wB h) 0 0) ∧ (fMV (wN h) (wB h) 0 0) ≤ (99 : Int) by omega)
                    | 1, hk => cases hk; exact (show (0 : Int) ≤ (fMV (wN h) (wB h) 0 3) ∧ (fMV (wN h) (wB h) 0 3) ≤ (99 : Int) by omega)
                    | 2, hk => cases hk; exact (show (0 : Int) ≤ (fMV (wN h) (wB h) 1 0) ∧ (fMV (wN h) (wB h) 1 0) ≤ (99 : Int) by omega)
                    | 3, hk => cases hk; exact (show (0 : Int) ≤ (fMV (wN h) (wB h) 1 3) ∧ (fMV (wN h) (wB h) 1 3) ≤ (99 : Int) by omega)
                    | 4, hk => cases hk; exact (show (0 : Int) ≤ (fMV (wN h) (wB h) 2 0) ∧ (fMV (wN h) (wB h) 2 0) ≤ (99 : Int) by omega)
                    | 5, hk => cases hk; exact (show (0 : Int) ≤ (fMV (wN h) (wB h) 2 3) ∧ (fMV (wN h) (wB h) 2 3) ≤ (99 : Int) by omega)
                    | 6, hk => cases hk; exact (show (0 : Int) ≤ (fMV (wN h) (wB h) 3 0) ∧ (fMV (wN h) (wB h) 3 0) ≤ (99 : Int) by omega)
                    | 7, hk => cases hk; exact (show (0 : Int) ≤ (fMV (wN h) (wB h) 3 3) ∧ (fMV (wN h) (wB h) 3 3) ≤ (99 : Int) by omega)
                    | k + 8, hk => cases hk
                  · exact pAll1 (show (0 + (1 * ρ 4 + 0) : Int) ≤ 0 by omega) (pAll1 (show (0 + ((-1) * ρ 4 + 0) : Int) ≤ 0 by omega) (pAll1 (show (0 + ((-1) * ρ 2 + (1 * (fMV (wN h) (wB h) 0 0) + 0)) : Int) ≤ 0 by omega) (pAll1 (show (1 + ((-1) * ρ 2 + (1 * (fMV (wN h) (wB h) 0 3) + 0)) : Int) ≤ 0 by omega) (pAll1 (show (0 + ((-1) * ρ 2 + (1 * (fMV (wN h) (wB h) 1 0) + 0)) : Int) ≤ 0 by omega) (pAll1 (show (1 + ((-1) * ρ 2 + (1 * (fMV (wN h) (wB h) 1 3) + 0)) : Int) ≤ 0 by omega) (pAll1 (show (0 + ((-1) * ρ 2 + (1 * (fMV (wN h) (wB h) 2 0) + 0)) : Int) ≤ 0 by omega) (pAll1 (show (1 + ((-1) * ρ 2 + (1 * (fMV (wN h) (wB h) 2 3) + 0)) : Int) ≤ 0 by omega) (pAll1 (show (0 + ((-1) * ρ 2 + (1 * (fMV (wN h) (wB h) 3 0) + 0)) : Int) ≤ 0 by omega) (pAll1 (show (0 + (1 * ρ 2 + ((-1) * (fMV (wN h) (wB h) 3 3) + 0)) : Int) ≤ 0 by omega) (pAll0))))))))))
                  · exact pAll1 (pgP 951 (355 + 0) (by decide) (by decide +kernel) (by decide +kernel) 0 (show (0 + 0 : Int) = _ by omega) (show (0 + (1 * (fMV (wN h) (wB h) 0 0) + 0) : Int) = _ by omega)) (pAll1 (pgP 951 (355 + 0) (by decide) (by decide +kernel) (by decide +kernel) 3 (show (3 + 0 : Int) = _ by omega) (show (0 + (1 * (fMV (wN h) (wB h) 0 3) + 0) : Int) = _ by omega)) (pAll1 (pgP 952 (355 + 1) (by decide) (by decide +kernel) (by decide +kernel) 0 (show (0 + 0 : Int) = _ by omega) (show (0 + (1 * (fMV (wN h) (wB h) 1 0) + 0) : Int) = _ by omega)) (pAll1 (pgP 952 (355 + 1) (by decide) (by decide +kernel) (by decide +kernel) 3 (show (3 + 0 : Int) = _ by omega) (show (0 + (1 * (fMV (wN h) (wB h) 1 3) + 0) : Int) = _ by omega)) (pAll1 (pgP 953 (355 + 2) (by decide) (by decide +kernel) (by decide +kernel) 0 (show (0 + 0 : Int) = _ by omega) (show (0 + (1 * (fMV (wN h) (wB h) 2 0) + 0) : Int) = _ by omega)) (pAll1 (pgP 953 (355 + 2) (by decide) (by decide +kernel) (by decide +kernel) 3 (show (3 + 0 : Int) = _ by omega) (show (0 + (1 * (fMV (wN h) (wB h) 2 3) + 0) : Int) = _ by omega)) (pAll1 (pgP 954 (355 + 3) (by decide) (by decide +kernel) (by decide +kernel) 0 (show (0 + 0 : Int) = _ by omega) (show (0 + (1 * (fMV (wN h) (wB h) 3 0) + 0) : Int) = _ by omega)) (pAll1 (pgP 954 (355 + 3) (by decide) (by decide +kernel) (by decide +kernel) 3 (show (3 + 0 : Int) = _ by omega) (show (0 + (1 * (fMV (wN h) (wB h) 3 3) + 0) : Int) = _ by omega)) (pAll0))))))))
              · have hw : ¬ fWh (wN h) (wB h) := fun z => g3 (z.2 3 (by omega)).1
                rw [yB_0 hw] at eW
                refine ⟨rWH4c_7, List.mem_of_getElem? (i := 7) rfl, pEnd [ρ 0, ρ 1, ρ 2, ρ 3, ρ 4, ρ 5, (fMV (wN h) (wB h) 0 0), (fMV (wN h) (wB h) 0 3), (fMV (wN h) (wB h) 1 0), (fMV (wN h) (wB h) 1 3), (fMV (wN h) (wB h) 2 0), (fMV (wN h) (wB h) 2 3), (fMV (wN h) (wB h) 3 0)] rfl ?_ ?_ ?_ ?_⟩
                · intro j hj
                  match j, hj with
                  | 0, _ => exact q0.symm
                  | 1, _ => exact q1.symm
                  | 2, _ => exact q2.symm
                  | 3, _ => exact q3.symm
                  | 4, _ => exact q4.symm
                  | 5, _ => exact q5.symm
                  | k + 6, hj => exact absurd hj (by show ¬ (k + 6 < 6); omega)
                · intro k b hk
                  match k, hk with
                  | 0, hk => cases hk; exact (show (0 : Int) ≤ (fMV (wN h) (wB h) 0 0) ∧ (fMV (wN h) (wB h) 0 0) ≤ (99 : Int) by omega)
                  | 1, hk => cases hk; exact (show (0 : Int) ≤ (fMV (wN h) (wB h) 0 3) ∧ (fMV (wN h) (wB h) 0 3) ≤ (99 : Int) by omega)
                  | 2, hk => cases hk; exact (show (0 : Int) ≤ (fMV (wN h) (wB h) 1 0) ∧ (fMV (wN h) (wB h) 1 0) ≤ (99 : Int) by omega)
                  | 3, hk => cases hk; exact (show (0 : Int) ≤ (fMV (wN h) (wB h) 1 3) ∧ (fMV (wN h) (wB h) 1 3) ≤ (99 : Int) by omega)
                  | 4, hk => cases hk; exact (show (0 : Int) ≤ (fMV (wN h) (wB h) 2 0) ∧ (fMV (wN h) (wB h) 2 0) ≤ (99 : Int) by omega)
                  | 5, hk => cases hk; exact (show (0 : Int) ≤ (fMV (wN h) (wB h) 2 3) ∧ (fMV (wN h) (wB h) 2 3) ≤ (99 : Int) by omega)
                  | 6, hk => cases hk; exact (show (0 : Int) ≤ (fMV (wN h) (wB h) 3 0) ∧ (fMV (wN h) (wB h) 3 0) ≤ (99 : Int) by omega)
                  | k + 7, hk => cases hk
                · exact pAll1 (show (0 + (1 * ρ 4 + 0) : Int) ≤ 0 by omega) (pAll1 (show (0 + ((-1) * ρ 4 + 0) : Int) ≤ 0 by omega) (pAll1 (show (0 + ((-1) * ρ 2 + (1 * (fMV (wN h) (wB h) 0 0) + 0)) : Int) ≤ 0 by omega) (pAll1 (show (1 + ((-1) * ρ 2 + (1 * (fMV (wN h) (wB h) 0 3) + 0)) : Int) ≤ 0 by omega) (pAll1 (show (0 + ((-1) * ρ 2 + (1 * (fMV (wN h) (wB h) 1 0) + 0)) : Int) ≤ 0 by omega) (pAll1 (show (1 + ((-1) * ρ 2 + (1 * (fMV (wN h) (wB h) 1 3) + 0)) : Int) ≤ 0 by omega) (pAll1 (show (0 + ((-1) * ρ 2 + (1 * (fMV (wN h) (wB h) 2 0) + 0)) : Int) ≤ 0 by omega) (pAll1 (show (1 + ((-1) * ρ 2 + (1 * (fMV (wN h) (wB h) 2 3) + 0)) : Int) ≤ 0 by omega) (pAll1 (show (1 + (1 * ρ 2 + ((-1) * (fMV (wN h) (wB h) 3 0) + 0)) : Int) ≤ 0 by omega) (pAll0)))))))))
                · exact pAll1 (pgP 951 (355 + 0) (by decide) (by decide +kernel) (by decide +kernel) 0 (show (0 + 0 : Int) = _ by omega) (show (0 + (1 * (fMV (wN h) (wB h) 0 0) + 0) : Int) = _ by omega)) (pAll1 (pgP 951 (355 + 0) (by decide) (by decide +kernel) (by decide +kernel) 3 (show (3 + 0 : Int) = _ by omega) (show (0 + (1 * (fMV (wN h) (wB h) 0 3) + 0) : Int) = _ by omega)) (pAll1 (pgP 952 (355 + 1) (by decide) (by decide +kernel) (by decide +kernel) 0 (show (0 + 0 : Int) = _ by omega) (show (0 + (1 * (fMV (wN h) (wB h) 1 0) + 0) : Int) = _ by omega)) (pAll1 (pgP 952 (355 + 1) (by decide) (by decide +kernel) (by decide +kernel) 3 (show (3 + 0 : Int) = _ by omega) (show (0 + (1 * (fMV (wN h) (wB h) 1 3) + 0) : Int) = _ by omega)) (pAll1 (pgP 953 (355 + 2) (by decide) (by decide +kernel) (by decide +kernel) 0 (show (0 + 0 : Int) = _ by omega) (show (0 + (1 * (fMV (wN h) (wB h) 2 0) + 0) : Int) = _ by omega)) (pAll1 (pgP 953 (355 + 2) (by decide) (by decide +kernel) (by decide +kernel) 3 (show (3 + 0 : Int) = _ by omega) (show (0 + (1 * (fMV (wN h) (wB h) 2 3) + 0) : Int) = _ by omega)) (pAll1 (pgP 954 (355 + 3) (by decide) (by decide +kernel) (by decide +kernel) 0 (show (0 + 0 : Int) = _ by omega) (show (0 + (1 * (fMV (wN h) (wB h) 3 0) + 0) : Int) = _ by omega)) (pAll0)))))))
            · have hw : ¬ fWh (wN h) (wB h) := fun z => k2 (z.2 2 (by omega)).2
              rw [yB_0 hw] at eW
              refine ⟨rWH4c_6, List.mem_of_getElem? (i := 6) rfl, pEnd [ρ 0, ρ 1, ρ 2, ρ 3, ρ 4, ρ 5, (fMV (wN h) (wB h) 0 0), (fMV (wN h) (wB h) 0 3), (fMV (wN h) (wB h) 1 0), (fMV (wN h) (wB h) 1 3), (fMV (wN h) (wB h) 2 0), (fMV (wN h) (wB h) 2 3)] rfl ?_ ?_ ?_ ?_⟩
              · intro j hj
                match j, hj with
                | 0, _ => exact q0.symm
                | 1, _ => exact q1.symm
                | 2, _ => exact q2.symm
                | 3, _ => exact q3.symm
                | 4, _ => exact q4.symm
                | 5, _ => exact q5.symm
                | k + 6, hj => exact absurd hj (by show ¬ (k + 6 < 6); omega)
              · intro k b hk
                match k, hk with
                | 0, hk => cases hk; exact (show (0 : Int) ≤ (fMV (wN h) (wB h) 0 0) ∧ (fMV (wN h) (wB h) 0 0) ≤ (99 : Int) by omega)
                | 1, hk => cases hk; exact (show (0 : Int) ≤ (fMV (wN h) (wB h) 0 3) ∧ (fMV (wN h) (wB h) 0 3) ≤ (99 : Int) by omega)
                | 2, hk => cases hk; exact (show (0 : Int) ≤ (fMV (wN h) (wB h) 1 0) ∧ (fMV (wN h) (wB h) 1 0) ≤ (99 : Int) by omega)
                | 3, hk => cases hk; exact (show (0 : Int) ≤ (fMV (wN h) (wB h) 1 3) ∧ (fMV (wN h) (wB h) 1 3) ≤ (99 : Int) by omega)
                | 4, hk => cases hk; exact (show (0 : Int) ≤ (fMV (wN h) (wB h) 2 0) ∧ (fMV (wN h) (wB h) 2 0) ≤ (99 : Int) by omega)
                | 5, hk => cases hk; exact (show (0 : Int) ≤ (fMV (wN h) (wB h) 2 3) ∧ (fMV (wN h) (wB h) 2 3) ≤ (99 : Int) by omega)
                | k + 6, hk => cases hk
              · exact pAll1 (show (0 + (1 * ρ 4 + 0) : Int) ≤ 0 by omega) (pAll1 (show (0 + ((-1) * ρ 4 + 0) : Int) ≤ 0 by omega) (pAll1 (show (0 + ((-1) * ρ 2 + (1 * (fMV (wN h) (wB h) 0 0) + 0)) : Int) ≤ 0 by omega) (pAll1 (show (1 + ((-1) * ρ 2 + (1 * (fMV (wN h) (wB h) 0 3) + 0)) : Int) ≤ 0 by omega) (pAll1 (show (0 + ((-1) * ρ 2 + (1 * (fMV (wN h) (wB h) 1 0) + 0)) : Int) ≤ 0 by omega) (pAll1 (show (1 + ((-1) * ρ 2 + (1 * (fMV (wN h) (wB h) 1 3) + 0)) : Int) ≤ 0 by omega) (pAll1 (show (0 + ((-1) * ρ 2 + (1 * (fMV (wN h) (wB h) 2 0) + 0)) : Int) ≤ 0 by omega) (pAll1 (show (0 + (1 * ρ 2 + ((-1) * (fMV (wN h) (wB h) 2 3) + 0)) : Int) ≤ 0 by omega) (pAll0))))))))
              · exact pAll1 (pgP 951 (355 + 0) (by decide) (by decide +kernel) (by decide +kernel) 0 (show (0 + 0 : Int) = _ by omega) (show (0 + (1 * (fMV (wN h) (wB h) 0 0) + 0) : Int) = _ by omega)) (pAll1 (pgP 951 (355 + 0) (by decide) (by decide +kernel) (by decide +kernel) 3 (show (3 + 0 : Int) = _ by omega) (show (0 + (1 * (fMV (wN h) (wB h) 0 3) + 0) : Int) = _ by omega)) (pAll1 (pgP 952 (355 + 1) (by decide) (by decide +kernel) (by decide +kernel) 0 (show (0 + 0 : Int) = _ by omega) (show (0 + (1 * (fMV (wN h) (wB h) 1 0) + 0) : Int) = _ by omega)) (pAll1 (pgP 952 (355 + 1) (by decide) (by decide +kernel) (by decide +kernel) 3 (show (3 + 0 : Int) = _ by omega) (show (0 + (1 * (fMV (wN h) (wB h) 1 3) + 0) : Int) = _ by omega)) (pAll1 (pgP 953 (355 + 2) (by decide) (by decide +kernel) (by decide +kernel) 0 (show (0 + 0 : Int) = _ by omega) (show (0 + (1 * (fMV (wN h) (wB h) 2 0) + 0) : Int) = _ by omega)) (pAll1 (pgP 953 (355 + 2) (by decide) (by decide +kernel) (by decide +kernel) 3 (show (3 + 0 : Int) = _ by omega) (show (0 + (1 * (fMV (wN h) (wB h) 2 3) + 0) : Int) = _ by omega)) (pAll0))))))
          · have hw : ¬ fWh (wN h) (wB h) := fun z => g2 (z.2 2 (by omega)).1
            rw [yB_0 hw] at eW
            refine ⟨rWH4c_5, List.mem_of_getElem? (i := 5) rfl, pEnd [ρ 0, ρ 1, ρ 2, ρ 3, ρ 4, ρ 5, (fMV (wN h) (wB h) 0 0), (fMV (wN h) (wB h) 0 3), (fMV (wN h) (wB h) 1 0), (fMV (wN h) (wB h) 1 3), (fMV (wN h) (wB h) 2 0)] rfl ?_ ?_ ?_ ?_⟩
            · intro j hj
              match j, hj with
              | 0, _ => exact q0.symm
              | 1, _ => exact q1.symm
              | 2, _ => exact q2.symm
              | 3, _ => exact q3.symm
              | 4, _ => exact q4.symm
              | 5, _ => exact q5.symm
              | k + 6, hj => exact absurd hj (by show ¬ (k + 6 < 6); omega)
            · intro k b hk
              match k, hk with
              | 0, hk => cases hk; exact (show (0 : Int) ≤ (fMV (wN h) (wB h) 0 0) ∧ (fMV (wN h) (wB h) 0 0) ≤ (99 : Int) by omega)
              | 1, hk => cases hk; exact (show (0 : Int) ≤ (fMV (wN h) (wB h) 0 3) ∧ (fMV (wN h) (wB h) 0 3) ≤ (99 : Int) by omega)
              | 2, hk => cases hk; exact (show (0 : Int) ≤ (fMV (wN h) (wB h) 1 0) ∧ (fMV (wN h) (wB h) 1 0) ≤ (99 : Int) by omega)
              | 3, hk => cases hk; exact (show (0 : Int) ≤ (fMV (wN h) (wB h) 1 3) ∧ (fMV (wN h) (wB h) 1 3) ≤ (99 : Int) by omega)
              | 4, hk => cases hk; exact (show (0 : Int) ≤ (fMV (wN h) (wB h) 2 0) ∧ (fMV (wN h) (wB h) 2 0) ≤ (99 : Int) by omega)
              | k + 5, hk => cases hk
            · exact pAll1 (show (0 + (1 * ρ 4 + 0) : Int) ≤ 0 by omega) (pAll1 (show (0 + ((-1) * ρ 4 + 0) : Int) ≤ 0 by omega) (pAll1 (show (0 + ((-1) * ρ 2 + (1 * (fMV (wN h) (wB h) 0 0) + 0)) : Int) ≤ 0 by omega) (pAll1 (show (1 + ((-1) * ρ 2 + (1 * (fMV (wN h) (wB h) 0 3) + 0)) : Int) ≤ 0 by omega) (pAll1 (show (0 + ((-1) * ρ 2 + (1 * (fMV (wN h) (wB h) 1 0) + 0)) : Int) ≤ 0 by omega) (pAll1 (show (1 + ((-1) * ρ 2 + (1 * (fMV (wN h) (wB h) 1 3) + 0)) : Int) ≤ 0 by omega) (pAll1 (show (1 + (1 * ρ 2 + ((-1) * (fMV (wN h) (wB h) 2 0) + 0)) : Int) ≤ 0 by omega) (pAll0)))))))
            · exact pAll1 (pgP 951 (355 + 0) (by decide) (by decide +kernel) (by decide +kernel) 0 (show (0 + 0 : Int) = _ by omega) (show (0 + (1 * (fMV (wN h) (wB h) 0 0) + 0) : Int) = _ by omega)) (pAll1 (pgP 951 (355 + 0) (by decide) (by decide +kernel) (by decide +kernel) 3 (show (3 + 0 : Int) = _ by omega) (show (0 + (1 * (fMV (wN h) (wB h) 0 3) + 0) : Int) = _ by omega)) (pAll1 (pgP 952 (355 + 1) (by decide) (by decide +kernel) (by decide +kernel) 0 (show (0 + 0 : Int) = _ by omega) (show (0 + (1 * (fMV (wN h) (wB h) 1 0) + 0) : Int) = _ by omega)) (pAll1 (pgP 952 (355 + 1) (by decide) (by decide +kernel) (by decide +kernel) 3 (show (3 + 0 : Int) = _ by omega) (show (0 + (1 * (fMV (wN h) (wB h) 1 3) + 0) : Int) = _ by omega)) (pAll1 (pgP 953 (355 + 2) (by decide) (by decide +kernel) (by decide +kernel) 0 (show (0 + 0 : Int) = _ by omega) (show (0 + (1 * (fMV (wN h) (wB h) 2 0) + 0) : Int) = _ by omega)) (pAll0)))))
        · have hw : ¬ fWh (wN h) (wB h) := fun z => k1 (z.2 1 (by omega)).2
          rw [yB_0 hw] at eW
          refine ⟨rWH4c_4, List.mem_of_getElem? (i := 4) rfl, pEnd [ρ 0, ρ 1, ρ 2, ρ 3, ρ 4, ρ 5, (fMV (wN h) (wB h) 0 0), (fMV (wN h) (wB h) 0 3), (fMV (wN h) (wB h) 1 0), (fMV (wN h) (wB h) 1 3)] rfl ?_ ?_ ?_ ?_⟩
          · intro j hj
            match j, hj with
            | 0, _ => exact q0.symm
            | 1, _ => exact q1.symm
            | 2, _ => exact q2.symm
            | 3, _ => exact q3.symm
            | 4, _ => exact q4.symm
            | 5, _ => exact q5.symm
            | k + 6, hj => exact absurd hj (by show ¬ (k + 6 < 6); omega)
          · intro k b hk
            match k, hk with
            | 0, hk => cases hk; exact (show (0 : Int) ≤ (fMV (wN h) (wB h) 0 0) ∧ (fMV (wN h) (wB h) 0 0) ≤ (99 : Int) by omega)
            | 1, hk => cases hk; exact (show (0 : Int) ≤ (fMV (wN h) (wB h) 0 3) ∧ (fMV (wN h) (wB h) 0 3) ≤ (99 : Int) by omega)
            | 2, hk => cases hk; exact (show (0 : Int) ≤ (fMV (wN h) (wB h) 1 0) ∧ (fMV (wN h) (wB h) 1 0) ≤ (99 : Int) by omega)
            | 3, hk => cases hk; exact (show (0 : Int) ≤ (fMV (wN h) (wB h) 1 3) ∧ (fMV (wN h) (wB h) 1 3) ≤ (99 : Int) by omega)
            | k + 4, hk => cases hk
          · exact pAll1 (show (0 + (1 * ρ 4 + 0) : Int) ≤ 0 by omega) (pAll1 (show (0 + ((-1) * ρ 4 + 0) : Int) ≤ 0 by omega) (pAll1 (show (0 + ((-1) * ρ 2 + (1 * (fMV (wN h) (wB h) 0 0) + 0)) : Int) ≤ 0 by omega) (pAll1 (show (1 + ((-1) * ρ 2 + (1 * (fMV (wN h) (wB h) 0 3) + 0)) : Int) ≤ 0 by omega) (pAll1 (show (0 + ((-1) * ρ 2 + (1 * (fMV (wN h) (wB h) 1 0) + 0)) : Int) ≤ 0 by omega) (pAll1 (show (0 + (1 * ρ 2 + ((-1) * (fMV (wN h) (wB h) 1 3) + 0)) : Int) ≤ 0 by omega) (pAll0))))))
          · exact pAll1 (pgP 951 (355 + 0) (by decide) (by decide +kernel) (by decide +kernel) 0 (show (0 + 0 : Int) = _ by omega) (show (0 + (1 * (fMV (wN h) (wB h) 0 0) + 0) : Int) = _ by omega)) (pAll1 (pgP 951 (355 + 0) (by decide) (by decide +kernel) (by decide +kernel) 3 (show (3 + 0 : Int) = _ by omega) (show (0 + (1 * (fMV (wN h) (wB h) 0 3) + 0) : Int) = _ by omega)) (pAll1 (pgP 952 (355 + 1) (by decide) (by decide +kernel) (by decide +kernel) 0 (show (0 + 0 : Int) = _ by omega) (show (0 + (1 * (fMV (wN h) (wB h) 1 0) + 0) : Int) = _ by omega)) (pAll1 (pgP 952 (355 + 1) (by decide) (by decide +kernel) (by decide +kernel) 3 (show (3 + 0 : Int) = _ by omega) (show (0 + (1 * (fMV (wN h) (wB h) 1 3) + 0) : Int) = _ by omega)) (pAll0))))
      · have hw : ¬ fWh (wN h) (wB h) := fun z => g1 (z.2 1 (by omega)).1
        rw [yB_0 hw] at eW
        refine ⟨rWH4c_3, List.mem_of_getElem? (i := 3) rfl, pEnd [ρ 0, ρ 1, ρ 2, ρ 3, ρ 4, ρ 5, (fMV (wN h) (wB h) 0 0), (fMV (wN h) (wB h) 0 3), (fMV (wN h) (wB h) 1 0)] rfl ?_ ?_ ?_ ?_⟩
        · intro j hj
          match j, hj with
          | 0, _ => exact q0.symm
          | 1, _ => exact q1.symm
          | 2, _ => exact q2.symm
          | 3, _ => exact q3.symm
          | 4, _ => exact q4.symm
          | 5, _ => exact q5.symm
          | k + 6, hj => exact absurd hj (by show ¬ (k + 6 < 6); omega)
        · intro k b hk
          match k, hk with
          | 0, hk => cases hk; exact (show (0 : Int) ≤ (fMV (wN h) (wB h) 0 0) ∧ (fMV (wN h) (wB h) 0 0) ≤ (99 : Int) by omega)
          | 1, hk => cases hk; exact (show (0 : Int) ≤ (fMV (wN h) (wB h) 0 3) ∧ (fMV (wN h) (wB h) 0 3) ≤ (99 : Int) by omega)
          | 2, hk => cases hk; exact (show (0 : Int) ≤ (fMV (wN h) (wB h) 1 0) ∧ (fMV (wN h) (wB h) 1 0) ≤ (99 : Int) by omega)
          | k + 3, hk => cases hk
        · exact pAll1 (show (0 + (1 * ρ 4 + 0) : Int) ≤ 0 by omega) (pAll1 (show (0 + ((-1) * ρ 4 + 0) : Int) ≤ 0 by omega) (pAll1 (show (0 + ((-1) * ρ 2 + (1 * (fMV (wN h) (wB h) 0 0) + 0)) : Int) ≤ 0 by omega) (pAll1 (show (1 + ((-1) * ρ 2 + (1 * (fMV (wN h) (wB h) 0 3) + 0)) : Int) ≤ 0 by omega) (pAll1 (show (1 + (1 * ρ 2 + ((-1) * (fMV (wN h) (wB h) 1 0) + 0)) : Int) ≤ 0 by omega) (pAll0)))))
        · exact pAll1 (pgP 951 (355 + 0) (by decide) (by decide +kernel) (by decide +kernel) 0 (show (0 + 0 : Int) = _ by omega) (show (0 + (1 * (fMV (wN h) (wB h) 0 0) + 0) : Int) = _ by omega)) (pAll1 (pgP 951 (355 + 0) (by decide) (by decide +kernel) (by decide +kernel) 3 (show (3 + 0 : Int) = _ by omega) (show (0 + (1 * (fMV (wN h) (wB h) 0 3) + 0) : Int) = _ by omega)) (pAll1 (pgP 952 (355 + 1) (by decide) (by decide +kernel) (by decide +kernel) 0 (show (0 + 0 : Int) = _ by omega) (show (0 + (1 * (fMV (wN h) (wB h) 1 0) + 0) : Int) = _ by omega)) (pAll0)))
    · have hw : ¬ fWh (wN h) (wB h) := fun z => k0 (z.2 0 (by omega)).2
      rw [yB_0 hw] at eW
      refine ⟨rWH4c_2, List.mem_of_getElem? (i := 2) rfl, pEnd [ρ 0, ρ 1, ρ 2, ρ 3, ρ 4, ρ 5, (fMV (wN h) (wB h) 0 0), (fMV (wN h) (wB h) 0 3)] rfl ?_ ?_ ?_ ?_⟩
      · intro j hj
        match j, hj with
        | 0, _ => exact q0.symm
        | 1, _ => exact q1.symm
        | 2, _ => exact q2.symm
        | 3, _ => exact q3.symm
        | 4, _ => exact q4.symm
        | 5, _ => exact q5.symm
        | k + 6, hj => exact absurd hj (by show ¬ (k + 6 < 6); omega)
      · intro k b hk
        match k, hk with
        | 0, hk => cases hk; exact (show (0 : Int) ≤ (fMV (wN h) (wB h) 0 0) ∧ (fMV (wN h) (wB h) 0 0) ≤ (99 : Int) by omega)
        | 1, hk => cases hk; exact (show (0 : Int) ≤ (fMV (wN h) (wB h) 0 3) ∧ (fMV (wN h) (wB h) 0 3) ≤ (99 : Int) by omega)
        | k + 2, hk => cases hk
      · exact pAll1 (show (0 + (1 * ρ 4 + 0) : Int) ≤ 0 by omega) (pAll1 (show (0 + ((-1) * ρ 4 + 0) : Int) ≤ 0 by omega) (pAll1 (show (0 + ((-1) * ρ 2 + (1 * (fMV (wN h) (wB h) 0 0) + 0)) : Int) ≤ 0 by omega) (pAll1 (show (0 + (1 * ρ 2 + ((-1) * (fMV (wN h) (wB h) 0 3) + 0)) : Int) ≤ 0 by omega) (pAll0))))
      · exact pAll1 (pgP 951 (355 + 0) (by decide) (by decide +kernel) (by decide +kernel) 0 (show (0 + 0 : Int) = _ by omega) (show (0 + (1 * (fMV (wN h) (wB h) 0 0) + 0) : Int) = _ by omega)) (pAll1 (pgP 951 (355 + 0) (by decide) (by decide +kernel) (by decide +kernel) 3 (show (3 + 0 : Int) = _ by omega) (show (0 + (1 * (fMV (wN h) (wB h) 0 3) + 0) : Int) = _ by omega)) (pAll0))
  · have hw : ¬ fWh (wN h) (wB h) := fun z => g0 (z.2 0 (by omega)).1
    rw [yB_0 hw] at eW
    refine ⟨rWH4c_1, List.mem_of_getElem? (i := 1) rfl, pEnd [ρ 0, ρ 1, ρ 2, ρ 3, ρ 4, ρ 5, (fMV (wN h) (wB h) 0 0)] rfl ?_ ?_ ?_ ?_⟩
    · intro j hj
      match j, hj with
      | 0, _ => exact q0.symm
      | 1, _ => exact q1.symm
      | 2, _ => exact q2.symm
      | 3, _ => exact q3.symm
      | 4, _ => exact q4.symm
      | 5, _ => exact q5.symm
      | k + 6, hj => exact absurd hj (by show ¬ (k + 6 < 6); omega)
    · intro k b hk
      match k, hk with
      | 0, hk => cases hk; exact (show (0 : Int) ≤ (fMV (wN h) (wB h) 0 0) ∧ (fMV (wN h) (wB h) 0 0) ≤ (99 : Int) by omega)
      | k + 1, hk => cases hk
    · exact pAll1 (show (0 + (1 * ρ 4 + 0) : Int) ≤ 0 by omega) (pAll1 (show (0 + ((-1) * ρ 4 + 0) : Int) ≤ 0 by omega) (pAll1 (show (1 + (1 * ρ 2 + ((-1) * (fMV (wN h) (wB h) 0 0) + 0)) : Int) ≤ 0 by omega) (pAll0)))
    · exact pAll1 (pgP 951 (355 + 0) (by decide) (by decide +kernel) (by decide +kernel) 0 (show (0 + 0 : Int) = _ by omega) (show (0 + (1 * (fMV (wN h) (wB h) 0 0) + 0) : Int) = _ by omega)) (pAll0)
noncomputable def rWH5c_0 : sX := (none, [(951, (0, []), (0, [(6, 1)])), (951, (3, []), (0, [(7, 1)])), (952, (0, []), (0, [(8, 1)])), (952, (3, []), (0, [(9, 1)])), (953, (0, []), (0, [(10, 1)])), (953, (3, []), (0, [(11, 1)])), (954, (0, []), (0, [(12, 1)])), (954, (3, []), (0, [(13, 1)])), (955, (0, []), (0, [(14, 1)])), (955, (3, []), (0, [(15, 1)]))], [(0, 99), (0, 99), (0, 99), (0, 99), (0, 99), (0, 99), (0, 99), (0, 99), (0, 99), (0, 99)], [((-1), [(4, 1)]), (1, [(4, (-1))]), (0, [(2, (-1)), (6, 1)]), (1, [(2, (-1)), (7, 1)]), (0, [(2, (-1)), (8, 1)]), (1, [(2, (-1)), (9, 1)]), (0, [(2, (-1)), (10, 1)]), (1, [(2, (-1)), (11, 1)]), (0, [(2, (-1)), (12, 1)]), (1, [(2, (-1)), (13, 1)]), (0, [(2, (-1)), (14, 1)]), (1, [(2, (-1)), (15, 1)])], [])
noncomputable def rWH5c_1 : sX := (none, [(951, (0, []), (0, [(6, 1)]))], [(0, 99)], [(0, [(4, 1)]), (0, [(4, (-1))]), (1, [(2, 1), (6, (-1))])], [])
noncomputable def rWH5c_2 : sX := (none, [(951, (0, []), (0, [(6, 1)])), (951, (3, []), (0, [(7, 1)]))], [(0, 99), (0, 99)], [(0, [(4, 1)]), (0, [(4, (-1))]), (0, [(2, (-1)), (6, 1)]), (0, [(2, 1), (7, (-1))])], [])
noncomputable def rWH5c_3 : sX := (none, [(951, (0, []), (0, [(6, 1)])), (951, (3, []), (0, [(7, 1)])), (952, (0, []), (0, [(8, 1)]))], [(0, 99), (0, 99), (0, 99)], [(0, [(4, 1)]), (0, [(4, (-1))]), (0, [(2, (-1)), (6, 1)]), (1, [(2, (-1)), (7, 1)]), (1, [(2, 1), (8, (-1))])], [])
noncomputable def rWH5c_4 : sX := (none, [(951, (0, []), (0, [(6, 1)])), (951, (3, []), (0, [(7, 1)])), (952, (0, []), (0, [(8, 1)])), (952, (3, []), (0, [(9, 1)]))], [(0, 99), (0, 99), (0, 99), (0, 99)], [(0, [(4, 1)]), (0, [(4, (-1))]), (0, [(2, (-1)), (6, 1)]), (1, [(2, (-1)), (7, 1)]), (0, [(2, (-1)), (8, 1)]), (0, [(2, 1), (9, (-1))])], [])
noncomputable def rWH5c_5 : sX := (none, [(951, (0, []), (0, [(6, 1)])), (951, (3, []), (0, [(7, 1)])), (952, (0, []), (0, [(8, 1)])), (952, (3, []), (0, [(9, 1)])), (953, (0, []), (0, [(10, 1)]))], [(0, 99), (0, 99), (0, 99), (0, 99), (0, 99)], [(0, [(4, 1)]), (0, [(4, (-1))]), (0, [(2, (-1)), (6, 1)]), (1, [(2, (-1)), (7, 1)]), (0, [(2, (-1)), (8, 1)]), (1, [(2, (-1)), (9, 1)]), (1, [(2, 1), (10, (-1))])], [])
noncomputable def rWH5c_6 : sX := (none, [(951, (0, []), (0, [(6, 1)])), (951, (3, []), (0, [(7, 1)])), (952, (0, []), (0, [(8, 1)])), (952, (3, []), (0, [(9, 1)])), (953, (0, []), (0, [(10, 1)])), (953, (3, []), (0, [(11, 1)]))], [(0, 99), (0, 99), (0, 99), (0, 99), (0, 99), (0, 99)], [(0, [(4, 1)]), (0, [(4, (-1))]), (0, [(2, (-1)), (6, 1)]), (1, [(2, (-1)), (7, 1)]), (0, [(2, (-1)), (8, 1)]), (1, [(2, (-1)), (9, 1)]), (0, [(2, (-1)), (10, 1)]), (0, [(2, 1), (11, (-1))])], [])
noncomputable def rWH5c_7 : sX := (none, [(951, (0, []), (0, [(6, 1)])), (951, (3, []), (0, [(7, 1)])), (952, (0, []), (0, [(8, 1)])), (952, (3, []), (0, [(9, 1)])), (953, (0, []), (0, [(10, 1)])), (953, (3, []), (0, [(11, 1)])), (954, (0, []), (0, [(12, 1)]))], [(0, 99), (0, 99), (0, 99), (0, 99), (0, 99), (0, 99), (0, 99)], [(0, [(4, 1)]), (0, [(4, (-1))]), (0, [(2, (-1)), (6, 1)]), (1, [(2, (-1)), (7, 1)]), (0, [(2, (-1)), (8, 1)]), (1, [(2, (-1)), (9, 1)]), (0, [(2, (-1)), (10, 1)]), (1, [(2, (-1)), (11, 1)]), (1, [(2, 1), (12, (-1))])], [])
noncomputable def rWH5c_8 : sX := (none, [(951, (0, []), (0, [(6, 1)])), (951, (3, []), (0, [(7, 1)])), (952, (0, []), (0, [(8, 1)])), (952, (3, []), (0, [(9, 1)])), (953, (0, []), (0, [(10, 1)])), (953, (3, []), (0, [(11, 1)])), (954, (0, []), (0, [(12, 1)])), (954, (3, []), (0, [(13, 1)]))], [(0, 99), (0, 99), (0, 99), (0, 99), (0, 99), (0, 99), (0, 99), (0, 99)], [(0, [(4, 1)]), (0, [(4, (-1))]), (0, [(2, (-1)), (6, 1)]), (1, [(2, (-1)), (7, 1)]), (0, [(2, (-1)), (8, 1)]), (1, [(2, (-1)), (9, 1)]), (0, [(2, (-1)), (10, 1)]), (1, [(2, (-1)), (11, 1)]), (0, [(2, (-1)), (12, 1)]), (0, [(2, 1), (13, (-1))])], [])
noncomputable def rWH5c_9 : sX := (none, [(951, (0, []), (0, [(6, 1)])), (951, (3, []), (0, [(7, 1)])), (952, (0, []), (0, [(8, 1)])), (952, (3, []), (0, [(9, 1)])), (953, (0, []), (0, [(10, 1)])), (953, (3, []), (0, [(11, 1)])), (954, (0, []), (0, [(12, 1)])), (954, (3, []), (0, [(13, 1)])), (955, (0, []), (0, [(14, 1)]))], [(0, 99), (0, 99), (0, 99), (0, 99), (0, 99), (0, 99), (0, 99), (0, 99), (0, 99)], [(0, [(4, 1)]), (0, [(4, (-1))]), (0, [(2, (-1)), (6, 1)]), (1, [(2, (-1)), (7, 1)]), (0, [(2, (-1)), (8, 1)]), (1, [(2, (-1)), (9, 1)]), (0, [(2, (-1)), (10, 1)]), (1, [(2, (-1)), (11, 1)]), (0, [(2, (-1)), (12, 1)]), (1, [(2, (-1)), (13, 1)]), (1, [(2, 1), (14, (-1))])], [])
noncomputable def rWH5c_10 : sX := (none, [(951, (0, []), (0, [(6, 1)])), (951, (3, []), (0, [(7, 1)])), (952, (0, []), (0, [(8, 1)])), (952, (3, []), (0, [(9, 1)])), (953, (0, []), (0, [(10, 1)])), (953, (3, []), (0, [(11, 1)])), (954, (0, []), (0, [(12, 1)])), (954, (3, []), (0, [(13, 1)])), (955, (0, []), (0, [(14, 1)])), (955, (3, []), (0, [(15, 1)]))], [(0, 99), (0, 99), (0, 99), (0, 99), (0, 99), (0, 99), (0, 99), (0, 99), (0, 99), (0, 99)], [(0, [(4, 1)]), (0, [(4, (-1))]), (0, [(2, (-1)), (6, 1)]), (1, [(2, (-1)), (7, 1)]), (0, [(2, (-1)), (8, 1)]), (1, [(2, (-1)), (9, 1)]), (0, [(2, (-1)), (10, 1)]), (1, [(2, (-1)), (11, 1)]), (0, [(2, (-1)), (12, 1)]), (1, [(2, (-1)), (13, 1)]), (0, [(2, (-1)), (14, 1)]), (0, [(2, 1), (15, (-1))])], [])
noncomputable def rWH5c : sQ := (0, ([], [(2, 1020, (0, [])), (2, 1005, (0, [])), (2, 42, (0, [])), (2, 539, (0, [])), (2, 541, (0, [])), (2, 540, (0, []))], [(1, 1), (1, 1), (0, 99), (0, 99), (0, 1), (5, 5)], [(0, [(2, 1), (3, (-1))]), (0, [(2, (-1)), (3, 1)])], [(0, 0), (1, 1), (2, 2), (3, 3), (4, 4), (5, 5)], (0, [])), [rWH5c_0, rWH5c_1, rWH5c_2, rWH5c_3, rWH5c_4, rWH5c_5, rWH5c_6, rWH5c_7, rWH5c_8, rWH5c_9, rWH5c_10], [], 0)
set_option maxHeartbeats 4000000 in
theorem rWH5c_ok : pRul pReg pG pgv (rWH5c) := by
  intro loc h ρ ρ0 hG hM
  have hM : sMt pReg pgv ρ ρ0 (sAs (rWH5c).2.1) loc [] h := hM
  have q0 : ρ0 1 = ρ 0 := (hM.2.2.2.2.2 (1, sY 0) (List.mem_of_getElem? (i := 1) rfl)).trans (sY_v ρ 0)
  have q1 : ρ0 2 = ρ 1 := (hM.2.2.2.2.2 (2, sY 1) (List.mem_of_getElem? (i := 2) rfl)).trans (sY_v ρ 1)
  have q2 : ρ0 3 = ρ 2 := (hM.2.2.2.2.2 (3, sY 2) (List.mem_of_getElem? (i := 3) rfl)).trans (sY_v ρ 2)
  have q3 : ρ0 4 = ρ 3 := (hM.2.2.2.2.2 (4, sY 3) (List.mem_of_getElem? (i := 4) rfl)).trans (sY_v ρ 3)
  have q4 : ρ0 5 = ρ 4 := (hM.2.2.2.2.2 (5, sY 4) (List.mem_of_getElem? (i := 5) rfl)).trans (sY_v ρ 4)
  have q5 : ρ0 6 = ρ 5 := (hM.2.2.2.2.2 (6, sY 5) (List.mem_of_getElem? (i := 6) rfl)).trans (sY_v ρ 5)
  have hL : ∀ j, j < 6 → pL [ρ 0, ρ 1, ρ 2, ρ 3, ρ 4, ρ 5] j = ρ0 (j + 1) := by
    intro j hj
    match j, hj with
    | 0, _ => exact q0.symm
    | 1, _ => exact q1.symm
    | 2, _ => exact q2.symm
    | 3, _ => exact q3.symm
    | 4, _ => exact q4.symm
    | 5, _ => exact q5.symm
    | k + 6, hj => omega
  have b0 : (1 : Int) ≤ ρ 0 ∧ ρ 0 ≤ 1 := hM.2.2.2.1 0 (1, 1) rfl
  have b1 : (1 : Int) ≤ ρ 1 ∧ ρ 1 ≤ 1 := hM.2.2.2.1 1 (1, 1) rfl
  have b2 : (0 : Int) ≤ ρ 2 ∧ ρ 2 ≤ 99 := hM.2.2.2.1 2 (0, 99) rfl
  have b3 : (0 : Int) ≤ ρ 3 ∧ ρ 3 ≤ 99 := hM.2.2.2.1 3 (0, 99) rfl
  have b4 : (0 : Int) ≤ ρ 4 ∧ ρ 4 ≤ 1 := hM.2.2.2.1 4 (0, 1) rfl
  have b5 : (5 : Int) ≤ ρ 5 ∧ ρ 5 ≤ 5 := hM.2.2.2.1 5 (5, 5) rfl
  have c0 : (0 + (1 * ρ 2 + ((-1) * ρ 3 + 0)) : Int) ≤ 0 := hM.2.2.2.2.1 (0, [(2, 1), (3, (-1))]) (List.mem_of_getElem? (i := 0) rfl)
  have c1 : (0 + ((-1) * ρ 2 + (1 * ρ 3 + 0)) : Int) ≤ 0 := hM.2.2.2.2.1 (0, [(2, (-1)), (3, 1)]) (List.mem_of_getElem? (i := 1) rfl)
  obtain ⟨ho, hh, hf⟩ := pTold20 hM 0 (0, []) rfl b0.1
  have hn := ho.1
  have ha : aC 5 h := pToldC hM 1 5 (by decide) (0, []) rfl b1.1
  have ey : ρ 3 = fRV (wN h) (wB h) 0 := (pfF hM hf 3 539 (0, []) rfl (by decide) (by decide) (0) (by omega) (by show (0 + 0 : Int) = _; omega)).trans (fA_RV (k := 0) (by decide))
  have eW : ρ 4 = yB (fWh (wN h) (wB h)) := (pfF hM hf 4 541 (0, []) rfl (by decide) (by decide) (0) (by omega) (by show (0 + 0 : Int) = _; omega)).trans (fA_WH)
  have efm : ρ 5 = ((fW (wN h) (wB h) 0 0 0).2.1 : Int) := (pfF hM hf 5 540 (0, []) rfl (by decide) (by decide) (0) (by omega) (by show (0 + 0 : Int) = _; omega)).trans (fA_FM)
  have em : (fW (wN h) (wB h) 0 0 0).2.1 = 5 := by omega
  have r00 : (h.1 (355 + 0) 0).toInt = (fMV (wN h) (wB h) 0 0) := (ha 0 0 (by decide) (by decide)).trans ((hf 538 (by decide) (by decide) 0 (by decide)).trans (fA_MV (i := 0) (k := 0) (by decide) (by decide)))
  have m00 := fMV_bd (n := wN h) (B := wB h) 0 0
  have r03 : (h.1 (355 + 0) 3).toInt = (fMV (wN h) (wB h) 0 3) := (ha 0 3 (by decide) (by decide)).trans ((hf 538 (by decide) (by decide) 3 (by decide)).trans (fA_MV (i := 0) (k := 3) (by decide) (by decide)))
  have m03 := fMV_bd (n := wN h) (B := wB h) 0 3
  have r10 : (h.1 (355 + 1) 0).toInt = (fMV (wN h) (wB h) 1 0) := (ha 1 0 (by decide) (by decide)).trans ((hf 538 (by decide) (by decide) 4 (by decide)).trans (fA_MV (i := 1) (k := 0) (by decide) (by decide)))
  have m10 := fMV_bd (n := wN h) (B := wB h) 1 0
  have r13 : (h.1 (355 + 1) 3).toInt = (fMV (wN h) (wB h) 1 3) := (ha 1 3 (by decide) (by decide)).trans ((hf 538 (by decide) (by decide) 7 (by decide)).trans (fA_MV (i := 1) (k := 3) (by decide) (by decide)))
  have m13 := fMV_bd (n := wN h) (B := wB h) 1 3
  have r20 : (h.1 (355 + 2) 0).toInt = (fMV (wN h) (wB h) 2 0) := (ha 2 0 (by decide) (by decide)).trans ((hf 538 (by decide) (by decide) 8 (by decide)).trans (fA_MV (i := 2) (k := 0) (by decide) (by decide)))
  have m20 := fMV_bd (n := wN h) (B := wB h) 2 0
  have r23 : (h.1 (355 + 2) 3).toInt = (fMV (wN h) (wB h) 2 3) := (ha 2 3 (by decide) (by decide)).trans ((hf 538 (by decide) (by decide) 11 (by decide)).trans (fA_MV (i := 2) (k := 3) (by decide) (by decide)))
  have m23 := fMV_bd (n := wN h) (B := wB h) 2 3
  have r30 : (h.1 (355 + 3) 0).toInt = (fMV (wN h) (wB h) 3 0) := (ha 3 0 (by decide) (by decide)).trans ((hf 538 (by decide) (by decide) 12 (by decide)).trans (fA_MV (i := 3) (k := 0) (by decide) (by decide)))
  have m30 := fMV_bd (n := wN h) (B := wB h) 3 0
  have r33 : (h.1 (355 + 3) 3).toInt = (fMV (wN h) (wB h) 3 3) := (ha 3 3 (by decide) (by decide)).trans ((hf 538 (by decide) (by decide) 15 (by decide)).trans (fA_MV (i := 3) (k := 3) (by decide) (by decide)))
  have m33 := fMV_bd (n := wN h) (B := wB h) 3 3
  have r40 : (h.1 (355 + 4) 0).toInt = (fMV (wN h) (wB h) 4 0) := (ha 4 0 (by decide) (by decide)).trans ((hf 538 (by decide) (by decide) 16 (by decide)).trans (fA_MV (i := 4) (k := 0) (by decide) (by decide)))
  have m40 := fMV_bd (n := wN h) (B := wB h) 4 0
  have r43 : (h.1 (355 + 4) 3).toInt = (fMV (wN h) (wB h) 4 3) := (ha 4 3 (by decide) (by decide)).trans ((hf 538 (by decide) (by decide) 19 (by decide)).trans (fA_MV (i := 4) (k := 3) (by decide) (by decide)))
  have m43 := fMV_bd (n := wN h) (B := wB h) 4 3
  by_cases g0 : (fMV (wN h) (wB h) 0 0) ≤ fRV (wN h) (wB h) 0
  · by_cases k0 : (fMV (wN h) (wB h) 0 3) < fRV (wN h) (wB h) 0
    · by_cases g1 : (fMV (wN h) (wB h) 1 0) ≤ fRV (wN h) (wB h) 0
      · by_cases k1 : (fMV (wN h) (wB h) 1 3) < fRV (wN h) (wB h) 0
        · by_cases g2 : (fMV (wN h) (wB h) 2 0) ≤ fRV (wN h) (wB h) 0
          · by_cases k2 : (fMV (wN h) (wB h) 2 3) < fRV (wN h) (wB h) 0
            · by_cases g3 : (fMV (wN h) (wB h) 3 0) ≤ fRV (wN h) (wB h) 0
              · by_cases k3 : (fMV (wN h) (wB h) 3 3) < fRV (wN h) (wB h) 0
                · by_cases g4 : (fMV (wN h) (wB h) 4 0) ≤ fRV (wN h) (wB h) 0
                  · by_cases k4 : (fMV (wN h) (wB h) 4 3) < fRV (wN h) (wB h) 0
                    · have hw : fWh (wN h) (wB h) := by
                        refine ⟨by omega, fun i hi => ?_⟩
                        rw [em] at hi
                        rcases (show i = 0 ∨ i = 1 ∨ i = 2 ∨ i = 3 ∨ i = 4 by omega) with rfl | rfl | rfl | rfl | rfl
                        · exact ⟨g0, k0⟩
                        · exact ⟨g1, k1⟩
                        · exact ⟨g2, k2⟩
                        · exact ⟨g3, k3⟩
                        · exact ⟨g4, k4⟩
                      rw [yB_1.mpr hw] at eW
                      refine ⟨rWH5c_0, List.mem_of_getElem? (i := 0) rfl, pEnd [ρ 0, ρ 1, ρ 2, ρ 3, ρ 4, ρ 5, (fMV (wN h) (wB h) 0 0), (fMV (wN h) (wB h) 0 3), (fMV (wN h) (wB h) 1 0), (fMV (wN h) (wB h) 1 3), (fMV (wN h) (wB h) 2 0), (fMV (wN h) (wB h) 2 3), (fMV (wN h) (wB h) 3 0), (fMV (wN h) (wB h) 3 3), (fMV (wN h) (wB h) 4 0), (fMV (wN h) (wB h) 4 3)] rfl ?_ ?_ ?_ ?_⟩
                      · intro j hj
                        match j, hj with
                        | 0, _ => exact q0.symm
                        | 1, _ => exact q1.symm
                        | 2, _ => exact q2.symm
                        | 3, _ => exact q3.symm
                        | 4, _ => exact q4.symm
                        | 5, _ => exact q5.symm
                        | k + 6, hj => exact absurd hj (by show ¬ (k + 6 < 6); omega)
                      · intro k b hk
                        match k, hk with
                        | 0, hk => cases hk; exact (show (0 : Int) ≤ (fMV (wN h) (wB h) 0 0) ∧ (fMV (wN h) (wB h) 0 0) ≤ (99 : Int) by omega)
                        | 1, hk => cases hk; exact (show (0 : Int) ≤ (fMV (wN h) (wB h) 0 3) ∧ (fMV (wN h) (wB h) 0 3) ≤ (99 : Int) by omega)
                        | 2, hk => cases hk; exact (show (0 : Int) ≤ (fMV (wN h) (wB h) 1 0) ∧ (fMV (wN h) (wB h) 1 0) ≤ (99 : Int) by omega)
                        | 3, hk => cases hk; exact (show (0 : Int) ≤ (fMV (wN h) (wB h) 1 3) ∧ (fMV (wN h) (wB h) 1 3) ≤ (99 : Int) by omega)
                        | 4, hk => cases hk; exact (show (0 : Int) ≤ (fMV (wN h) (wB h) 2 0) ∧ (fMV (wN h) (wB h) 2 0) ≤ (99 : Int) by omega)
                        | 5, hk => cases hk; exact (show (0 : Int) ≤ (fMV (wN h) (wB h) 2 3) ∧ (fMV (wN h) (wB h) 2 3) ≤ (99 : Int) by omega)
                        | 6, hk => cases hk; exact (show (0 : Int) ≤ (fMV (wN h) (wB h) 3 0) ∧ (fMV (wN h) (wB h) 3 0) ≤ (99 : Int) by omega)
                        | 7, hk => cases hk; exact (show (0 : Int) ≤ (fMV (wN h) (wB h) 3 3) ∧ (fMV (wN h) (wB h) 3 3) ≤ (99 : Int) by omega)
                        | 8, hk => cases hk; exact (show (0 : Int) ≤ (fMV (wN h) (wB h) 4 0) ∧ (fMV (wN h) (wB h) 4 0) ≤ (99 : Int) by omega)
                        | 9, hk => cases hk; exact (show (0 : Int) ≤ (fMV (wN h) (wB h) 4 3) ∧ (fMV (wN h) (wB h) 4 3) ≤ (99 : Int) by omega)
                        | k + 10, hk => cases hk
                      · exact pAll1 (show ((-1) + (1 * ρ 4 + 0) : Int) ≤ 0 by omega) (pAll1 (show (1 + ((-1) * ρ 4 + 0) : Int) ≤ 0 by omega) (pAll1 (show (0 + ((-1) * ρ 2 + (1 * (fMV (wN h) (wB h) 0 0) + 0)) : Int) ≤ 0 by omega) (pAll1 (show (1 + ((-1) * ρ 2 + (1 * (fMV (wN h) (wB h) 0 3) + 0)) : Int) ≤ 0 by omega) (pAll1 (show (0 + ((-1) * ρ 2 + (1 * (fMV (wN h) (wB h) 1 0) + 0)) : Int) ≤ 0 by omega) (pAll1 (show (1 + ((-1) * ρ 2 + (1 * (fMV (wN h) (wB h) 1 3) + 0)) : Int) ≤ 0 by omega) (pAll1 (show (0 + ((-1) * ρ 2 + (1 * (fMV (wN h) (wB h) 2 0) + 0)) : Int) ≤ 0 by omega) (pAll1 (show (1 + ((-1) * ρ 2 + (1 * (fMV (wN h) (wB h) 2 3) + 0)) : Int) ≤ 0 by omega) (pAll1 (show (0 + ((-1) * ρ 2 + (1 * (fMV (wN h) (wB h) 3 0) + 0)) : Int) ≤ 0 by omega) (pAll1 (show (1 + ((-1) * ρ 2 + (1 * (fMV (wN h) (wB h) 3 3) + 0)) : Int) ≤ 0 by omega) (pAll1 (show (0 + ((-1) * ρ 2 + (1 * (fMV (wN h) (wB h) 4 0) + 0)) : Int) ≤ 0 by omega) (pAll1 (show (1 + ((-1) * ρ 2 + (1 * (fMV (wN h) (wB h) 4 3) + 0)) : Int) ≤ 0 by omega) (pAll0))))))))))))
                      · exact pAll1 (pgP 951 (355 + 0) (by decide) (by decide +kernel) (by decide +kernel) 0 (show (0 + 0 : Int) = _ by omega) (show (0 + (1 * (fMV (wN h) (wB h) 0 0) + 0) : Int) = _ by omega)) (pAll1 (pgP 951 (355 + 0) (by decide) (by decide +kernel) (by decide +kernel) 3 (show (3 + 0 : Int) = _ by omega) (show (0 + (1 * (fMV (wN h) (wB h) 0 3) + 0) : Int) = _ by omega)) (pAll1 (pgP 952 (355 + 1) (by decide) (by decide +kernel) (by decide +kernel) 0 (show (0 + 0 : Int) = _ by omega) (show (0 + (1 * (fMV (wN h) (wB h) 1 0) + 0) : Int) = _ by omega)) (pAll1 (pgP 952 (355 + 1) (by decide) (by decide +kernel) (by decide +kernel) 3 (show (3 + 0 : Int) = _ by omega) (show (0 + (1 * (fMV (wN h) (wB h) 1 3) + 0) : Int) = _ by omega)) (pAll1 (pgP 953 (355 + 2) (by decide) (by decide +kernel) (by decide +kernel) 0 (show (0 + 0 : Int) = _ by omega) (show (0 + (1 * (fMV (wN h) (wB h) 2 0) + 0) : Int) = _ by omega)) (pAll1 (pgP 953 (355 + 2) (by decide) (by decide +kernel) (by decide +kernel) 3 (show (3 + 0 : Int) = _ by omega) (show (0 + (1 * (fMV (wN h) (wB h) 2 3) + 0) : Int) = _ by omega)) (pAll1 (pgP 954 (355 + 3) (by decide) (by decide +kernel) (by decide +kernel) 0 (show (0 + 0 : Int) = _ by omega) (show (0 + (1 * (fMV (wN h) (wB h) 3 0) + 0) : Int) = _ by omega)) (pAll1 (pgP 954 (355 + 3) (by decide) (by decide +kernel) (by decide +kernel) 3 (show (3 + 0 : Int) = _ by omega) (show (0 + (1 * (fMV (wN h) (wB h) 3 3) + 0) : Int) = _ by omega)) (pAll1 (pgP 955 (355 + 4) (by decide) (by decide +kernel) (by decide +kernel) 0 (show (0 + 0 : Int) = _ by omega) (show (0 + (1 * (fMV (wN h) (wB h) 4 0) + 0) : Int) = _ by omega)) (pAll1 (pgP 955 (355 + 4) (by decide) (by decide +kernel) (by decide +kernel) 3 (show (3 + 0 : Int) = _ by omega) (show (0 + (1 * (fMV (wN h) (wB h) 4 3) + 0) : Int) = _ by omega)) (pAll0))))))))))
                    · have hw : ¬ fWh (wN h) (wB h) := fun z => k4 (z.2 4 (by omega)).2
                      rw [yB_0 hw] at eW
                      refine ⟨rWH5c_10, List.mem_of_getElem? (i := 10) rfl, pEnd [ρ 0, ρ 1, ρ 2, ρ 3, ρ 4, ρ 5, (fMV (wN h) (wB h) 0 0), (fMV (wN h) (wB h) 0 3), (fMV (wN h) (wB h) 1 0), (fMV (wN h) (wB h) 1 3), (fMV (wN h) (wB h) 2 0), (fMV (wN h) (wB h) 2 3), (fMV (wN h) (wB h) 3 0), (fMV (wN h) (wB h) 3 3), (fMV (wN h) (wB h) 4 0), (fMV (wN h) (wB h) 4 3)] rfl ?_ ?_ ?_ ?_⟩
                      · intro j hj
                        match j, hj with
                        | 0, _ => exact q0.symm
                        | 1, _ => exact q1.symm
                        | 2, _ => exact q2.symm
                        | 3, _ => exact q3.symm
                        | 4, _ => exact q4.symm
                        | 5, _ => exact q5.symm
                        | k + 6, hj => exact absurd hj (by show ¬ (k + 6 < 6); omega)
                      · intro k b hk
                        match k, hk with
                        | 0, hk => cases hk; exact (show (0 : Int) ≤ (fMV (wN h) (wB h) 0 0) ∧ (fMV (wN h) (wB h) 0 0) ≤ (99 : Int) by omega)
                        | 1, hk => cases hk; exact (show (0 : Int) ≤ (fMV (wN h) (wB h) 0 3) ∧ (fMV (wN h) (wB h) 0 3) ≤ (99 : Int) by omega)
                        | 2, hk => cases hk; exact (show (0 : Int) ≤ (fMV (wN h) (wB h) 1 0) ∧ (fMV (wN h) (wB h) 1 0) ≤ (99 : Int) by omega)
                        | 3, hk => cases hk; exact (show (0 : Int) ≤ (fMV (wN h) (wB h) 1 3) ∧ (fMV (wN h) (wB h) 1 3) ≤ (99 : Int) by omega)
                        | 4, hk => cases hk; exact (show (0 : Int) ≤ (fMV (wN h) (wB h) 2 0) ∧ (fMV (wN h) (wB h) 2 0) ≤ (99 : Int) by omega)
                        | 5, hk => cases hk; exact (show (0 : Int) ≤ (fMV (wN h) (wB h) 2 3) ∧ (fMV (wN h) (wB h) 2 3) ≤ (99 : Int) by omega)
                        | 6, hk => cases hk; exact (show (0 : Int) ≤ (fMV (wN h) (wB h) 3 0) ∧ (fMV (wN h) (wB h) 3 0) ≤ (99 : Int) by omega)
                        | 7, hk => cases hk; exact (show (0 : Int) ≤ (fMV (wN h) (wB h) 3 3) ∧ (fMV (wN h) (wB h) 3 3) ≤ (99 : Int) by omega)
                        | 8, hk => cases hk; exact (show (0 : Int) ≤ (fMV (wN h) (wB h) 4 0) ∧ (fMV (wN h) (wB h) 4 0) ≤ (99 : Int) by omega)
                        | 9, hk => cases hk; exact (show (0 : Int) ≤ (fMV (wN h) (wB h) 4 3) ∧ (fMV (wN h) (wB h) 4 3) ≤ (99 : Int) by omega)
                        | k + 10, hk => cases hk
                      · exact pAll1 (show (0 + (1 * ρ 4 + 0) : Int) ≤ 0 by omega) (pAll1 (show (0 + ((-1) * ρ 4 + 0) : Int) ≤ 0 by omega) (pAll1 (show (0 + ((-1) * ρ 2 + (1 * (fMV (wN h) (wB h) 0 0) + 0)) : Int) ≤ 0 by omega) (pAll1 (show (1 + ((-1) * ρ 2 + (1 * (fMV (wN h) (wB h) 0 3) + 0)) : Int) ≤ 0 by omega) (pAll1 (show (0 + ((-1) * ρ 2 + (1 * (fMV (wN h) (wB h) 1 0) + 0)) : Int) ≤ 0 by omega) (pAll1 (show (1 + ((-1) * ρ 2 + (1 * (fMV (wN h) (wB h) 1 3) + 0)) : Int) ≤ 0 by omega) (pAll1 (show (0 + ((-1) * ρ 2 + (1 * (fMV (wN h) (wB h) 2 0) + 0)) : Int) ≤ 0 by omega) (pAll1 (show (1 + ((-1) * ρ 2 + (1 * (fMV (wN h) (wB h) 2 3) + 0)) : Int) ≤ 0 by omega) (pAll1 (show (0 + ((-1) * ρ 2 + (1 * (fMV (wN h) (wB h) 3 0) + 0)) : Int) ≤ 0 by omega) (pAll1 (show (1 + ((-1) * ρ 2 + (1 * (fMV (wN h) (wB h) 3 3) + 0)) : Int) ≤ 0 by omega) (pAll1 (show (0 + ((-1) * ρ 2 + (1 * (fMV (wN h) (wB h) 4 0) + 0)) : Int) ≤ 0 by omega) (pAll1 (show (0 + (1 * ρ 2 + ((-1) * (fMV (wN h) (wB h) 4 3) + 0)) : Int) ≤ 0 by omega) (pAll0))))))))))))
                      · exact pAll1 (pgP 951 (355 + 0) (by decide) (by decide +kernel) (by decide +kernel) 0 (show (0 + 0 : Int) = _ by omega) (show (0 + (1 * (fMV (wN h) (wB h) 0 0) + 0) : Int) = _ by omega)) (pAll1 (pgP 951 (355 + 0) (by decide) (by decide +kernel) (by decide +kernel) 3 (show (3 + 0 : Int) = _ by omega) (show (0 + (1 * (fMV (wN h) (wB h) 0 3) + 0) : Int) = _ by omega)) (pAll1 (pgP 952 (355 + 1) (by decide) (by decide +kernel) (by decide +kernel) 0 (show (0 + 0 : Int) = _ by omega) (show (0 + (1 * (fMV (wN h) (wB h) 1 0) + 0) : Int) = _ by omega)) (pAll1 (pgP 952 (355 + 1) (by decide) (by decide +kernel) (by decide +kernel) 3 (show (3 + 0 : Int) = _ by omega) (show (0 + (1 * (fMV (wN h) (wB h) 1 3) + 0) : Int) = _ by omega)) (pAll1 (pgP 953 (355 + 2) (by decide) (by decide +kernel) (by decide +kernel) 0 (show (0 + 0 : Int) = _ by omega) (show (0 + (1 * (fMV (wN h) (wB h) 2 0) + 0) : Int) = _ by omega)) (pAll1 (pgP 953 (355 + 2) (by decide) (by decide +kernel) (by decide +kernel) 3 (show (3 + 0 : Int) = _ by omega) (show (0 + (1 * (fMV (wN h) (wB h) 2 3) + 0) : Int) = _ by omega)) (pAll1 (pgP 954 (355 + 3) (by decide) (by decide +kernel) (by decide +kernel) 0 (show (0 + 0 : Int) = _ by omega) (show (0 + (1 * (fMV (wN h) (wB h) 3 0) + 0) : Int) = _ by omega)) (pAll1 (pgP 954 (355 + 3) (by decide) (by decide +kernel) (by decide +kernel) 3 (show (3 + 0 : Int) = _ by omega) (show (0 + (1 * (fMV (wN h) (wB h) 3 3) + 0) : Int) = _ by omega)) (pAll1 (pgP 955 (355 + 4) (by decide) (by decide +kernel) (by decide +kernel) 0 (show (0 + 0 : Int) = _ by omega) (show (0 + (1 * (fMV (wN h) (wB h) 4 0) + 0) : Int) = _ by omega)) (pAll1 (pgP 955 (355 + 4) (by decide) (by decide +kernel) (by decide +kernel) 3 (show (3 + 0 : Int) = _ by omega) (show (0 + (1 * (fMV (wN h) (wB h) 4 3) + 0) : Int) = _ by omega)) (pAll0))))))))))
                  · have hw : ¬ fWh (wN h) (wB h) := fun z => g4 (z.2 4 (by omega)).1
                    rw [yB_0 hw] at eW
                    refine ⟨rWH5c_9, List.mem_of_getElem? (i := 9) rfl, pEnd [ρ 0, ρ 1, ρ 2, ρ 3, ρ 4, ρ 5, (fMV (wN h) (wB h) 0 0), (fMV (wN h) (wB h) 0 3), (fMV (wN h) (wB h) 1 0), (fMV (wN h) (wB h) 1 3), (fMV (wN h) (wB h) 2 0), (fMV (wN h) (wB h) 2 3), (fMV (wN h) (wB h) 3 0), (fMV (wN h) (wB h) 3 3), (fMV (wN h) (wB h) 4 0)] rfl ?_ ?_ ?_ ?_⟩
                    · intro j hj
                      match j, hj with
                      | 0, _ => exact q0.symm
                      | 1, _ => exact q1.symm
                      | 2, _ => exact q2.symm
                      | 3, _ => exact q3.symm
                      | 4, _ => exact q4.symm
                      | 5, _ => exact q5.symm
                      | k + 6, hj => exact absurd hj (by show ¬ (k + 6 < 6); omega)
                    · intro k b hk
                      match k, hk with
                      | 0, hk => cases hk; exact (show (0 : Int) ≤ (fMV (wN h) (wB h) 0 0) ∧ (fMV (wN h) (wB h) 0 0) ≤ (99 : Int) by omega)
                      | 1, hk => cases hk; exact (show (0 : Int) ≤ (fMV (wN h) (wB h) 0 3) ∧ (fMV (wN h) (wB h) 0 3) ≤ (99 : Int) by omega)
                      | 2, hk => cases hk; exact (show (0 : Int) ≤ (fMV (wN h) (wB h) 1 0) ∧ (fMV (wN h) (wB h) 1 0) ≤ (99 : Int) by omega)
                      | 3, hk => cases hk; exact (show (0 : Int) ≤ (fMV (wN h) (wB h) 1 3) ∧ (fMV (wN h) (wB h) 1 3) ≤ (99 : Int) by omega)
                      | 4, hk => cases hk; exact (show (0 : Int) ≤ (fMV (wN h) (wB h) 2 0) ∧ (fMV (wN h) (wB h) 2 0) ≤ (99 : Int) by omega)
                      | 5, hk => cases hk; exact (show (0 : Int) ≤ (fMV (wN h) (wB h) 2 3) ∧ (fMV (wN h) (wB h) 2 3) ≤ (99 : Int) by omega)
                      | 6, hk => cases hk; exact (show (0 : Int) ≤ (fMV (wN h) (wB h) 3 0) ∧ (fMV (wN h) (wB h) 3 0) ≤ (99 : Int) by omega)
                      | 7, hk => cases hk; exact (show (0 : Int) ≤ (fMV (wN h) (wB h) 3 3) ∧ (fMV (wN h) (wB h) 3 3) ≤ (99 : Int) by omega)
                      | 8, hk => cases hk; exact (show (0 : Int) ≤ (fMV (wN h) (wB h) 4 0) ∧ (fMV (wN h) (wB h) 4 0) ≤ (99 : Int) by omega)
                      | k + 9, hk => cases hk
                    · exact pAll1 (show (0 + (1 * ρ 4 + 0) : Int) ≤ 0 by omega) (pAll1 (show (0 + ((-1) * ρ 4 + 0) : Int) ≤ 0 by omega) (pAll1 (show (0 + ((-1) * ρ 2 + (1 * (fMV (wN h) (wB h) 0 0) + 0)) : Int) ≤ 0 by omega) (pAll1 (show (1 + ((-1) * ρ 2 + (1 * (fMV (wN h) (wB h) 0 3) + 0)) : Int) ≤ 0 by omega) (pAll1 (show (0 + ((-1) * ρ 2 + (1 * (fMV (wN h) (wB h) 1 0) + 0)) : Int) ≤ 0 by omega) (pAll1 (show (1 + ((-1) * ρ 2 + (1 * (fMV (wN h) (wB h) 1 3) + 0)) : Int) ≤ 0 by omega) (pAll1 (show (0 + ((-1) * ρ 2 + (1 * (fMV (wN h) (wB h) 2 0) + 0)) : Int) ≤ 0 by omega) (pAll1 (show (1 + ((-1) * ρ 2 + (1 * (fMV (wN h) (wB h) 2 3) + 0)) : Int) ≤ 0 by omega) (pAll1 (show (0 + ((-1) * ρ 2 + (1 * (fMV (wN h) (wB h) 3 0) + 0)) : Int) ≤ 0 by omega) (pAll1 (show (1 + ((-1) * ρ 2 + (1 * (fMV (wN h) (wB h) 3 3) + 0)) : Int) ≤ 0 by omega) (pAll1 (show (1 + (1 * ρ 2 + ((-1) * (fMV (wN h) (wB h) 4 0) + 0)) : Int) ≤ 0 by omega) (pAll0)))))))))))
                    · exact pAll1 (pgP 951 (355 + 0) (by decide) (by decide +kernel) (by decide +kernel) 0 (show (0 + 0 : Int) = _ by omega) (show (0 + (1 * (fMV (wN h) (wB h) 0 0) + 0) : Int) = _ by omega)) (pAll1 (pgP 951 (355 + 0) (by decide) (by decide +kernel) (by decide +kernel) 3 (show (3 + 0 : Int) = _ by omega) (show (0 + (1 * (fMV (wN h) (wB h) 0 3) + 0) : Int) = _ by omega)) (pAll1 (pgP 952 (355 + 1) (by decide) (by decide +kernel) (by decide +kernel) 0 (show (0 + 0 : Int) = _ by omega) (show (0 + (1 * (fMV (wN h) (wB h) 1 0) + 0) : Int) = _ by omega)) (pAll1 (pgP 952 (355 + 1) (by decide) (by decide +kernel) (by decide +kernel) 3 (show (3 + 0 : Int) = _ by omega) (show (0 + (1 * (fMV (wN h) (wB h) 1 3) + 0) : Int) = _ by omega)) (pAll1 (pgP 953 (355 + 2) (by decide) (by decide +kernel) (by decide +kernel) 0 (show (0 + 0 : Int) = _ by omega) (show (0 + (1 * (fMV (wN h) (wB h) 2 0) + 0) : Int) = _ by omega)) (pAll1 (pgP 953 (355 + 2) (by decide) (by decide +kernel) (by decide +kernel) 3 (show (3 + 0 : Int) = _ by omega) (show (0 + (1 * (fMV (wN h) (wB h) 2 3) + 0) : Int) = _ by omega)) (pAll1 (pgP 954 (355 + 3) (by decide) (by decide +kernel) (by decide +kernel) 0 (show (0 + 0 : Int) = _ by omega) (show (0 + (1 * (fMV (wN h) (wB h) 3 0) + 0) : Int) = _ by omega)) (pAll1 (pgP 954 (355 + 3) (by decide) (by decide +kernel) (by decide +kernel) 3 (show (3 + 0 : Int) = _ by omega) (show (0 + (1 * (fMV (wN h) (wB h) 3 3) + 0) : Int) = _ by omega)) (pAll1 (pgP 955 (355 + 4) (by decide) (by decide +kernel) (by decide +kernel) 0 (show (0 + 0 : Int) = _ by omega) (show (0 + (1 * (fMV (wN h) (wB h) 4 0) + 0) : Int) = _ by omega)) (pAll0)))))))))
                · have hw : ¬ fWh (wN h) (wB h) := fun z => k3 (z.2 3 (by omega)).2
                  rw [yB_0 hw] at eW
                  refine ⟨rWH5c_8, List.mem_of_getElem? (i := 8) rfl, pEnd [ρ 0, ρ 1, ρ 2, ρ 3, ρ 4, ρ 5, (fMV (wN h) (wB h) 0 0), (fMV (wN h) (wB h) 0 3), (fMV (wN h) (wB h) 1 0), (fMV (wN h) (wB h) 1 3), (fMV (wN h) (wB h) 2 0), (fMV (wN h) (wB h) 2 3), (fMV (wN h) (wB h) 3 0), (fMV (wN h) (wB h) 3 3)] rfl ?_ ?_ ?_ ?_⟩
                  · intro j hj
                    match j, hj with
                    | 0, _ => exact q0.symm
                    | 1, _ => exact q1.symm
                    | 2, _ => exact q2.symm
                    | 3, _ => exact q3.symm
                    | 4, _ => exact q4.symm
                    | 5, _ => exact q5.symm
                    | k + 6, hj => exact absurd hj (by show ¬ (k + 6 < 6); omega)
                  · intro k b hk
                    match k, hk with
                    | 0, hk => cases hk; exact (show (0 : Int) ≤ (fMV (wN h) (wB h) 0 0) ∧ (fMV (wN h) (wB h) 0 0) ≤ (99 : Int) by omega)
                    | 1, hk => cases hk; exact (show (0 : Int) ≤ (fMV (wN h) (wB h) 0 3) ∧ (fMV (wN h) (wB h) 0 3) ≤ (99 : Int) by omega)
                    | 2, hk => cases hk; exact (show (0 : Int) ≤ (fMV (wN h) (wB h) 1 0) ∧ (fMV (wN h) (wB h) 1 0) ≤ (99 : Int) by omega)
                    | 3, hk => cases hk; exact (show (0 : Int) ≤ (fMV (wN h) (wB h) 1 3) ∧ (fMV (wN h) (wB h) 1 3) ≤ (99 : Int) by omega)
                    | 4, hk => cases hk; exact (show (0 : Int) ≤ (fMV (wN h) (wB h) 2 0) ∧ (fMV (wN h) (wB h) 2 0) ≤ (99 : Int) by omega)
                    | 5, hk => cases hk; exact (show (0 : Int) ≤ (fMV (wN h) (wB h) 2 3) ∧ (fMV (wN h) (wB h) 2 3) ≤ (99 : Int) by omega)
                    | 6, hk => cases hk; exact (show (0 : Int) ≤ (fMV (wN h) (wB h) 3 0) ∧ (fMV (wN h) (wB h) 3 0) ≤ (99 : Int) by omega)
                    | 7, hk => cases hk; exact (show (0 : Int) ≤ (fMV (wN h) (wB h) 3 3) ∧ (fMV (wN h) (wB h) 3 3) ≤ (99 : Int) by omega)
                    | k + 8, hk => cases hk
                  · exact pAll1 (show (0 + (1 * ρ 4 + 0) : Int) ≤ 0 by omega) (pAll1 (show (0 + ((-1) * ρ 4 + 0) : Int) ≤ 0 by omega) (pAll1 (show (0 + ((-1) * ρ 2 + (1 * (fMV (wN h) (wB h) 0 0) + 0)) : Int) ≤ 0 by omega) (pAll1 (show (1 + ((-1) * ρ 2 + (1 * (fMV (wN h) (wB h) 0 3) + 0)) : Int) ≤ 0 by omega) (pAll1 (show (0 + ((-1) * ρ 2 + (1 * (fMV (wN h) (wB h) 1 0) + 0)) : Int) ≤ 0 by omega) (pAll1 (show (1 + ((-1) * ρ 2 + (1 * (fMV (wN h) (wB h) 1 3) + 0)) : Int) ≤ 0 by omega) (pAll1 (show (0 + ((-1) * ρ 2 + (1 * (fMV (wN h) (wB h) 2 0) + 0)) : Int) ≤ 0 by omega) (pAll1 (show (1 + ((-1) * ρ 2 + (1 * (fMV (wN h) (wB h) 2 3) + 0)) : Int) ≤ 0 by omega) (pAll1 (show (0 + ((-1) * ρ 2 + (1 * (fMV (wN h) (wB h) 3 0) + 0)) : Int) ≤ 0 by omega) (pAll1 (show (0 + (1 * ρ 2 + ((-1) * (fMV (wN h) (wB h) 3 3) + 0)) : Int) ≤ 0 by omega) (pAll0))))))))))
                  · exact pAll1 (pgP 951 (355 + 0) (by decide) (by decide +kernel) (by decide +kernel) 0 (show (0 + 0 : Int) = _ by omega) (show (0 + (1 * (fMV (wN h) (wB h) 0 0) + 0) : Int) = _ by omega)) (pAll1 (pgP 951 (355 + 0) (by decide) (by decide +kernel) (by decide +kernel) 3 (show (3 + 0 : Int) = _ by omega) (show (0 + (1 * (fMV (wN h) (wB h) 0 3) + 0) : Int) = _ by omega)) (pAll1 (pgP 952 (355 + 1) (by decide) (by decide +kernel) (by decide +kernel) 0 (show (0 + 0 : Int) = _ by omega) (show (0 + (1 * (fMV (wN h) (wB h) 1 0) + 0) : Int) = _ by omega)) (pAll1 (pgP 952 (355 + 1) (by decide) (by decide +kernel) (by decide +kernel) 3 (show (3 + 0 : Int) = _ by omega) (show (0 + (1 * (fMV (wN h) (wB h) 1 3) + 0) : Int) = _ by omega)) (pAll1 (pgP 953 (355 + 2) (by decide) (by decide +kernel) (by decide +kernel) 0 (show (0 + 0 : Int) = _ by omega) (show (0 + (1 * (fMV (wN h) (wB h) 2 0) + 0) : Int) = _ by omega)) (pAll1 (pgP 953 (355 + 2) (by decide) (by decide +kernel) (by decide +kernel) 3 (show (3 + 0 : Int) = _ by omega) (show (0 + (1 * (fMV (wN h) (wB h) 2 3) + 0) : Int) = _ by omega)) (pAll1 (pgP 954 (355 + 3) (by decide) (by decide +kernel) (by decide +kernel) 0 (show (0 + 0 : Int) = _ by omega) (show (0 + (1 * (fMV (wN h) (wB h) 3 0) + 0) : Int) = _ by omega)) (pAll1 (pgP 954 (355 + 3) (by decide) (by decide +kernel) (by decide +kernel) 3 (show (3 + 0 : Int) = _ by omega) (show (0 + (1 * (fMV (wN h) (wB h) 3 3) + 0) : Int) = _ by omega)) (pAll0))))))))
              · have hw : ¬ fWh (wN h) (wB h) := fun z => g3 (z.2 3 (by omega)).1
                rw [yB_0 hw] at eW
                refine ⟨rWH5c_7, List.mem_of_getElem? (i := 7) rfl, pEnd [ρ 0, ρ 1, ρ 2, ρ 3, ρ 4, ρ 5, (fMV (wN h) (wB h) 0 0), (fMV (wN h) (wB h) 0 3), (fMV (wN h) (wB h) 1 0), (fMV (wN h) (wB h) 1 3), (fMV (wN h) (wB h) 2 0), (fMV (wN h) (wB h) 2 3), (fMV (wN h) (wB h) 3 0)] rfl ?_ ?_ ?_ ?_⟩
                · intro j hj
                  match j, hj with
                  | 0, _ => exact q0.symm
                  | 1, _ => exact q1.symm
                  | 2, _ => exact q2.symm
                  | 3, _ => exact q3.symm
                  | 4, _ => exact q4.symm
                  | 5, _ => exact q5.symm
                  | k + 6, hj => exact absurd hj (by show ¬ (k + 6 < 6); omega)
                · intro k b hk
                  match k, hk with
                  | 0, hk => cases hk; exact (show (0 : Int) ≤ (fMV (wN h) (wB h) 0 0) ∧ (fMV (wN h) (wB h) 0 0) ≤ (99 : Int) by omega)
                  | 1, hk => cases hk; exact (show (0 : Int) ≤ (fMV (wN h) (wB h) 0 3) ∧ (fMV (wN h) (wB h) 0 3) ≤ (99 : Int) by omega)
                  | 2, hk => cases hk; exact (show (0 : Int) ≤ (fMV (wN h) (wB h) 1 0) ∧ (fMV (wN h) (wB h) 1 0) ≤ (99 : Int) by omega)
                  | 3, hk => cases hk; exact (show (0 : Int) ≤ (fMV (wN h) (wB h) 1 3) ∧ (fMV (wN h) (wB h) 1 3) ≤ (99 : Int) by omega)
                  | 4, hk => cases hk; exact (show (0 : Int) ≤ (fMV (wN h) (wB h) 2 0) ∧ (fMV (wN h) (wB h) 2 0) ≤ (99 : Int) by omega)
                  | 5, hk => cases hk; exact (show (0 : Int) ≤ (fMV (wN h) (wB h) 2 3) ∧ (fMV (wN h) (wB h) 2 3) ≤ (99 : Int) by omega)
                  | 6, hk => cases hk; exact (show (0 : Int) ≤ (fMV (wN h) (wB h) 3 0) ∧ (fMV (wN h) (wB h) 3 0) ≤ (99 : Int) by omega)
                  | k + 7, hk => cases hk
                · exact pAll1 (show (0 + (1 * ρ 4 + 0) : Int) ≤ 0 by omega) (pAll1 (show (0 + ((-1) * ρ 4 + 0) : Int) ≤ 0 by omega) (pAll1 (show (0 + ((-1) * ρ 2 + (1 * (fMV (wN h) (wB h) 0 0) + 0)) : Int) ≤ 0 by omega) (pAll1 (show (1 + ((-1) * ρ 2 + (1 * (fMV (wN h) (wB h) 0 3) + 0)) : Int) ≤ 0 by omega) (pAll1 (show (0 + ((-1) * ρ 2 + (1 * (fMV (wN h) (wB h) 1 0) + 0)) : Int) ≤ 0 by omega) (pAll1 (show (1 + ((-1) * ρ 2 + (1 * (fMV (wN h) (wB h) 1 3) + 0)) : Int) ≤ 0 by omega) (pAll1 (show (0 + ((-1) * ρ 2 + (1 * (fMV (wN h) (wB h) 2 0) + 0)) : Int) ≤ 0 by omega) (pAll1 (show (1 + ((-1) * ρ 2 + (1 * (fMV (wN h) (wB h) 2 3) + 0)) : Int) ≤ 0 by omega) (pAll1 (show (1 + (1 * ρ 2 + ((-1) * (fMV (wN h) (wB h) 3 0) + 0)) : Int) ≤ 0 by omega) (pAll0)))))))))
                · exact pAll1 (pgP 951 (355 + 0) (by decide) (by decide +kernel) (by decide +kernel) 0 (show (0 + 0 : Int) = _ by omega) (show (0 + (1 * (fMV (wN h) (wB h) 0 0) + 0) : Int) = _ by omega)) (pAll1 (pgP 951 (355 + 0) (by decide) (by decide +kernel) (by decide +kernel) 3 (show (3 + 0 : Int) = _ by omega) (show (0 + (1 * (fMV (wN h) (wB h) 0 3) + 0) : Int) = _ by omega)) (pAll1 (pgP 952 (355 + 1) (by decide) (by decide +kernel) (by decide +kernel) 0 (show (0 + 0 : Int) = _ by omega) (show (0 + (1 * (fMV (wN h) (wB h) 1 0) + 0) : Int) = _ by omega)) (pAll1 (pgP 952 (355 + 1) (by decide) (by decide +kernel) (by decide +kernel) 3 (show (3 + 0 : Int) = _ by omega) (show (0 + (1 * (fMV (wN h) (wB h) 1 3) + 0) : Int) = _ by omega)) (pAll1 (pgP 953 (355 + 2) (by decide) (by decide +kernel) (by decide +kernel) 0 (show (0 + 0 : Int) = _ by omega) (show (0 + (1 * (fMV (wN h) (wB h) 2 0) + 0) : Int) = _ by omega)) (pAll1 (pgP 953 (355 + 2) (by decide) (by decide +kernel) (by decide +kernel) 3 (show (3 + 0 : Int) = _ by omega) (show (0 + (1 * (fMV (wN h) (wB h) 2 3) + 0) : Int) = _ by omega)) (pAll1 (pgP 954 (355 + 3) (by decide) (by decide +kernel) (by decide +kernel) 0 (show (0 + 0 : Int) = _ by omega) (show (0 + (1 * (fMV (wN h) (wB h) 3 0) + 0) : Int) = _ by omega)) (pAll0)))))))
            · have hw : ¬ fWh (wN h) (wB h) := fun z => k2 (z.2 2 (by omega)).2
              rw [yB_0 hw] at eW
              refine ⟨rWH5c_6, List.mem_of_getElem? (i := 6) rfl, pEnd [ρ 0, ρ 1, ρ 2, ρ 3, ρ 4, ρ 5, (fMV (wN h) (wB h) 0 0), (fMV (wN h) (wB h) 0 3), (fMV (wN h) (wB h) 1 0), (fMV (wN h) (wB h) 1 3), (fMV (wN h) (wB h) 2 0), (fMV (wN h) (wB h) 2 3)] rfl ?_ ?_ ?_ ?_⟩
              · intro j hj
                match j, hj with
                | 0, _ => exact q0.symm
                | 1, _ => exact q1.symm
                | 2, _ => exact q2.symm
                | 3, _ => exact q3.symm
                | 4, _ => exact q4.symm
                | 5, _ => exact q5.symm
                | k + 6, hj => exact absurd hj (by show ¬ (k + 6 < 6); omega)
              · intro k b hk
                match k, hk with
                | 0, hk => cases hk; exact (show (0 : Int) ≤ (fMV (wN h) (wB h) 0 0) ∧ (fMV (wN h) (wB h) 0 0) ≤ (99 : Int) by omega)
                | 1, hk => cases hk; exact (show (0 : Int) ≤ (fMV (wN h) (wB h) 0 3) ∧ (fMV (wN h) (wB h) 0 3) ≤ (99 : Int) by omega)
                | 2, hk => cases hk; exact (show (0 : Int) ≤ (fMV (wN h) (wB h) 1 0) ∧ (fMV (wN h) (wB h) 1 0) ≤ (99 : Int) by omega)
                | 3, hk => cases hk; exact (show (0 : Int) ≤ (fMV (wN h) (wB h) 1 3) ∧ (fMV (wN h) (wB h) 1 3) ≤ (99 : Int) by omega)
                | 4, hk => cases hk; exact (show (0 : Int) ≤ (fMV (wN h) (wB h) 2 0) ∧ (fMV (wN h) (wB h) 2 0) ≤ (99 : Int) by omega)
                | 5, hk => cases hk; exact (show (0 : Int) ≤ (fMV (wN h) (wB h) 2 3) ∧ (fMV (wN h) (wB h) 2 3) ≤ (99 : Int) by omega)
                | k + 6, hk => cases hk
              · exact pAll1 (show (0 + (1 * ρ 4 + 0) : Int) ≤ 0 by omega) (pAll1 (show (0 + ((-1) * ρ 4 + 0) : Int) ≤ 0 by omega) (pAll1 (show (0 + ((-1) * ρ 2 + (1 * (fMV (wN h) (wB h) 0 0) + 0)) : Int) ≤ 0 by omega) (pAll1 (show (1 + ((-1) * ρ 2 + (1 * (fMV (wN h) (wB h) 0 3) + 0)) : Int) ≤ 0 by omega) (pAll1 (show (0 + ((-1) * ρ 2 + (1 * (fMV (wN h) (wB h) 1 0) + 0)) : Int) ≤ 0 by omega) (pAll1 (show (1 + ((-1) * ρ 2 + (1 * (fMV (wN h) (wB h) 1 3) + 0)) : Int) ≤ 0 by omega) (pAll1 (show (0 + ((-1) * ρ 2 + (1 * (fMV (wN h) (wB h) 2 0) + 0)) : Int) ≤ 0 by omega) (pAll1 (show (0 + (1 * ρ 2 + ((-1) * (fMV (wN h) (wB h) 2 3) + 0)) : Int) ≤ 0 by omega) (pAll0))))))))
              · exact pAll1 (pgP 951 (355 + 0) (by decide) (by decide +kernel) (by decide +kernel) 0 (show (0 + 0 : Int) = _ by omega) (show (0 + (1 * (fMV (wN h) (wB h) 0 0) + 0) : Int) = _ by omega)) (pAll1 (pgP 951 (355 + 0) (by decide) (by decide +kernel) (by decide +kernel) 3 (show (3 + 0 : Int) = _ by omega) (show (0 + (1 * (fMV (wN h) (wB h) 0 3) + 0) : Int) = _ by omega)) (pAll1 (pgP 952 (355 + 1) (by decide) (by decide +kernel) (by decide +kernel) 0 (show (0 + 0 : Int) = _ by omega) (show (0 + (1 * (fMV (wN h) (wB h) 1 0) + 0) : Int) = _ by omega)) (pAll1 (pgP 952 (355 + 1) (by decide) (by decide +kernel) (by decide +kernel) 3 (show (3 + 0 : Int) = _ by omega) (show (0 + (1 * (fMV (wN h) (wB h) 1 3) + 0) : Int) = _ by omega)) (pAll1 (pgP 953 (355 + 2) (by decide) (by decide +kernel) (by decide +kernel) 0 (show (0 + 0 : Int) = _ by omega) (show (0 + (1 * (fMV (wN h) (wB h) 2 0) + 0) : Int) = _ by omega)) (pAll1 (pgP 953 (355 + 2) (by decide) (by decide +kernel) (by decide +kernel) 3 (show (3 + 0 : Int) = _ by omega) (show (0 + (1 * (fMV (wN h) (wB h) 2 3) + 0) : Int) = _ by omega)) (pAll0))))))
          · have hw : ¬ fWh (wN h) (wB h) := fun z => g2 (z.2 2 (by omega)).1
            rw [yB_0 hw] at eW
            refine ⟨rWH5c_5, List.mem_of_getElem? (i := 5) rfl, pEnd [ρ 0, ρ 1, ρ 2, ρ 3, ρ 4, ρ 5, (fMV (wN h) (wB h) 0 0), (fMV (wN h) (wB h) 0 3), (fMV (wN h) (wB h) 1 0), (fMV (wN h) (wB h) 1 3), (fMV (wN h) (wB h) 2 0)] rfl ?_ ?_ ?_ ?_⟩
            · intro j hj
              match j, hj with
              | 0, _ => exact q0.symm
              | 1, _ => exact q1.symm
              | 2, _ => exact q2.symm
              | 3, _ => exact q3.symm
              | 4, _ => exact q4.symm
              | 5, _ => exact q5.symm
              | k + 6, hj => exact absurd hj (by show ¬ (k + 6 < 6); omega)
            · intro k b hk
              match k, hk with
              | 0, hk => cases hk; exact (show (0 : Int) ≤ (fMV (wN h) (wB h) 0 0) ∧ (fMV (wN h) (wB h) 0 0) ≤ (99 : Int) by omega)
              | 1, hk => cases hk; exact (show (0 : Int) ≤ (fMV (wN h) (wB h) 0 3) ∧ (fMV (wN h) (wB h) 0 3) ≤ (99 : Int) by omega)
              | 2, hk => cases hk; exact (show (0 : Int) ≤ (fMV (wN h) (wB h) 1 0) ∧ (fMV (wN h) (wB h) 1 0) ≤ (99 : Int) by omega)
              | 3, hk => cases hk; exact (show (0 : Int) ≤ (fMV (wN h) (wB h) 1 3) ∧ (fMV (wN h) (wB h) 1 3) ≤ (99 : Int) by omega)
              | 4, hk => cases hk; exact (show (0 : Int) ≤ (fMV (wN h) (wB h) 2 0) ∧ (fMV (wN h) (wB h) 2 0) ≤ (99 : Int) by omega)
              | k + 5, hk => cases hk
            · exact pAll1 (show (0 + (1 * ρ 4 + 0) : Int) ≤ 0 by omega) (pAll1 (show (0 + ((-1) * ρ 4 + 0) : Int) ≤ 0 by omega) (pAll1 (show (0 + ((-1) * ρ 2 + (1 * (fMV (wN h) (wB h) 0 0) + 0)) : Int) ≤ 0 by omega) (pAll1 (show (1 + ((-1) * ρ 2 + (1 * (fMV (wN h) (wB h) 0 3) + 0)) : Int) ≤ 0 by omega) (pAll1 (show (0 + ((-1) * ρ 2 + (1 * (fMV (wN h) (wB h) 1 0) + 0)) : Int) ≤ 0 by omega) (pAll1 (show (1 + ((-1) * ρ 2 + (1 * (fMV (wN h) (wB h) 1 3) + 0)) : Int) ≤ 0 by omega) (pAll1 (show (1 + (1 * ρ 2 + ((-1) * (fMV (wN h) (wB h) 2 0) + 0)) : Int) ≤ 0 by omega) (pAll0)))))))
            · exact pAll1 (pgP 951 (355 + 0) (by decide) (by decide +kernel) (by decide +kernel) 0 (show (0 + 0 : Int) = _ by omega) (show (0 + (1 * (fMV (wN h) (wB h) 0 0) + 0) : Int) = _ by omega)) (pAll1 (pgP 951 (355 + 0) (by decide) (by decide +kernel) (by decide +kernel) 3 (show (3 + 0 : Int) = _ by omega) (show (0 + (1 * (fMV (wN h) (wB h) 0 3) + 0) : Int) = _ by omega)) (pAll1 (pgP 952 (355 + 1) (by decide) (by decide +kernel) (by decide +kernel) 0 (show (0 + 0 : Int) = _ by omega) (show (0 + (1 * (fMV (wN h) (wB h) 1 0) + 0) : Int) = _ by omega)) (pAll1 (pgP 952 (355 + 1) (by decide) (by decide +kernel) (by decide +kernel) 3 (show (3 + 0 : Int) = _ by omega) (show (0 + (1 * (fMV (wN h) (wB h) 1 3) + 0) : Int) = _ by omega)) (pAll1 (pgP 953 (355 + 2) (by decide) (by decide +kernel) (by decide +kernel) 0 (show (0 + 0 : Int) = _ by omega) (show (0 + (1 * (fMV (wN h) (wB h) 2 0) + 0) : Int) = _ by omega)) (pAll0)))))
        · have hw : ¬ fWh (wN h) (wB h) := fun z => k1 (z.2 1 (by omega)).2
          rw [yB_0 hw] at eW
          refine ⟨rWH5c_4, List.mem_of_getElem? (i := 4) rfl, pEnd [ρ 0, ρ 1, ρ 2, ρ 3, ρ 4, ρ 5, (fMV (wN h) (wB h) 0 0), (fMV (wN h) (wB h) 0 3), (fMV (wN h) (wB h) 1 0), (fMV (wN h) (wB h) 1 3)] rfl ?_ ?_ ?_ ?_⟩
          · intro j hj
            match j, hj with
            | 0, _ => exact q0.symm
            | 1, _ => exact q1.symm
            | 2, _ => exact q2.symm
            | 3, _ => exact q3.symm
            | 4, _ => exact q4.symm
            | 5, _ => exact q5.symm
            | k + 6, hj => exact absurd hj (by show ¬ (k + 6 < 6); omega)
          · intro k b hk
            match k, hk with
            | 0, hk => cases hk; exact (show (0 : Int) ≤ (fMV (wN h) (wB h) 0 0) ∧ (fMV (wN h) (wB h) 0 0) ≤ (99 : Int) by omega)
            | 1, hk => cases hk; exact (show (0 : Int) ≤ (fMV (wN h) (wB h) 0 3) ∧ (fMV (wN h) (wB h) 0 3) ≤ (99 : Int) by omega)
            | 2, hk => cases hk; exact (show (0 : Int) ≤ (fMV (wN h) (wB h) 1 0) ∧ (fMV (wN h) (wB h) 1 0) ≤ (99 : Int) by omega)
            | 3, hk => cases hk; exact (show (0 : Int) ≤ (fMV (wN h) (wB h) 1 3) ∧ (fMV (wN h) (wB h) 1 3) ≤ (99 : Int) by omega)
            | k + 4, hk => cases hk
          · exact pAll1 (show (0 + (1 * ρ 4 + 0) : Int) ≤ 0 by omega) (pAll1 (show (0 + ((-1) * ρ 4 + 0) : Int) ≤ 0 by omega) (pAll1 (show (0 + ((-1) * ρ 2 + (1 * (fMV (wN h) (wB h) 0 0) + 0)) : Int) ≤ 0 by omega) (pAll1 (show (1 + ((-1) * ρ 2 + (1 * (fMV (wN h) (wB h) 0 3) + 0)) : Int) ≤ 0 by omega) (pAll1 (show (0 + ((-1) * ρ 2 + (1 * (fMV (wN h) (wB h) 1 0) + 0)) : Int) ≤ 0 by omega) (pAll1 (show (0 + (1 * ρ 2 + ((-1) * (fMV (wN h) (wB h) 1 3) + 0)) : Int) ≤ 0 by omega) (pAll0))))))
          · exact pAll1 (pgP 951 (355 + 0) (by decide) (by decide +kernel) (by decide +kernel) 0 (show (0 + 0 : Int) = _ by omega) (show (0 + (1 * (fMV (wN h) (wB h) 0 0) + 0) : Int) = _ by omega)) (pAll1 (pgP 951 (355 + 0) (by decide) (by decide +kernel) (by decide +kernel) 3 (show (3 + 0 : Int) = _ by omega) (show (0 + (1 * (fMV (wN h) (wB h) 0 3) + 0) : Int) = _ by omega)) (pAll1 (pgP 952 (355 + 1) (by decide) (by decide +kernel) (by decide +kernel) 0 (show (0 + 0 : Int) = _ by omega) (show (0 + (1 * (fMV (wN h) (wB h) 1 0) + 0) : Int) = _ by omega)) (pAll1 (pgP 952 (355 + 1) (by decide) (by decide +kernel) (by decide +kernel) 3 (show (3 + 0 : Int) = _ by omega) (show (0 + (1 * (fMV (wN h) (wB h) 1 3) + 0) : Int) = _ by omega)) (pAll0))))
      · have hw : ¬ fWh (wN h) (wB h) := fun z => g1 (z.2 1 (by omega)).1
        rw [yB_0 hw] at eW
        refine ⟨rWH5c_3, List.mem_of_getElem? (i := 3) rfl, pEnd [ρ 0, ρ 1, ρ 2, ρ 3, ρ 4, ρ 5, (fMV (wN h) (wB h) 0 0), (fMV (wN h) (wB h) 0 3), (fMV (wN h) (wB h) 1 0)] rfl ?_ ?_ ?_ ?_⟩
        · intro j hj
          match j, hj with
          | 0, _ => exact q0.symm
          | 1, _ => exact q1.symm
          | 2, _ => exact q2.symm
          | 3, _ => exact q3.symm
          | 4, _ => exact q4.symm
          | 5, _ => exact q5.symm
          | k + 6, hj => exact absurd hj (by show ¬ (k + 6 < 6); omega)
        · intro k b hk
          match k, hk with
          | 0, hk => cases hk; exact (show (0 : Int) ≤ (fMV (wN h) (wB h) 0 0) ∧ (fMV (wN h) (wB h) 0 0) ≤ (99 : Int) by omega)
          | 1, hk => cases hk; exact (show (0 : Int) ≤ (fMV (wN h) (wB h) 0 3) ∧ (fMV (wN h) (wB h) 0 3) ≤ (99 : Int) by omega)
          | 2, hk => cases hk; exact (show (0 : Int) ≤ (fMV (wN h) (wB h) 1 0) ∧ (fMV (wN h) (wB h) 1 0) ≤ (99 : Int) by omega)
          | k + 3, hk => cases hk
        · exact pAll1 (show (0 + (1 * ρ 4 + 0) : Int) ≤ 0 by omega) (pAll1 (show (0 + ((-1) * ρ 4 + 0) : Int) ≤ 0 by omega) (pAll1 (show (0 + ((-1) * ρ 2 + (1 * (fMV (wN h) (wB h) 0 0) + 0)) : Int) ≤ 0 by omega) (pAll1 (show (1 + ((-1) * ρ 2 + (1 * (fMV (wN h) (wB h) 0 3) + 0)) : Int) ≤ 0 by omega) (pAll1 (show (1 + (1 * ρ 2 + ((-1) * (fMV (wN h) (wB h) 1 0) + 0)) : Int) ≤ 0 by omega) (pAll0)))))
        · exact pAll1 (pgP 951 (355 + 0) (by decide) (by decide +kernel) (by decide +kernel) 0 (show (0 + 0 : Int) = _ by omega) (show (0 + (1 * (fMV (wN h) (wB h) 0 0) + 0) : Int) = _ by omega)) (pAll1 (pgP 951 (355 + 0) (by decide) (by decide +kernel) (by decide +kernel) 3 (show (3 + 0 : Int) = _ by omega) (show (0 + (1 * (fMV (wN h) (wB h) 0 3) + 0) : Int) = _ by omega)) (pAll1 (pgP 952 (355 + 1) (by decide) (by decide +kernel) (by decide +kernel) 0 (show (0 + 0 : Int) = _ by omega) (show (0 + (1 * (fMV (wN h) (wB h) 1 0) + 0) : Int) = _ by omega)) (pAll0)))
    · have hw : ¬ fWh (wN h) (wB h) := fun z => k0 (z.2 0 (by omega)).2
      rw [yB_0 hw] at eW
      refine ⟨rWH5c_2, List.mem_of_getElem? (i := 2) rfl, pEnd [ρ 0, ρ 1, ρ 2, ρ 3, ρ 4, ρ 5, (fMV (wN h) (wB h) 0 0), (fMV (wN h) (wB h) 0 3)] rfl ?_ ?_ ?_ ?_⟩
      · intro j hj
        match j, hj with
        | 0, _ => exact q0.symm
        | 1, _ => exact q1.symm
        | 2, _ => exact q2.symm
        | 3, _ => exact q3.symm
        | 4, _ => exact q4.symm
        | 5, _ => exact q5.symm
        | k + 6, hj => exact absurd hj (by show ¬ (k + 6 < 6); omega)
      · intro k b hk
        match k, hk with
        | 0, hk => cases hk; exact (show (0 : Int) ≤ (fMV (wN h) (wB h) 0 0) ∧ (fMV (wN h) (wB h) 0 0) ≤ (99 : Int) by omega)
        | 1, hk => cases hk; exact (show (0 : Int) ≤ (fMV (wN h) (wB h) 0 3) ∧ (fMV (wN h) (wB h) 0 3) ≤ (99 : Int) by omega)
        | k + 2, hk => cases hk
      · exact pAll1 (show (0 + (1 * ρ 4 + 0) : Int) ≤ 0 by omega) (pAll1 (show (0 + ((-1) * ρ 4 + 0) : Int) ≤ 0 by omega) (pAll1 (show (0 + ((-1) * ρ 2 + (1 * (fMV (wN h) (wB h) 0 0) + 0)) : Int) ≤ 0 by omega) (pAll1 (show (0 + (1 * ρ 2 + ((-1) * (fMV (wN h) (wB h) 0 3) + 0)) : Int) ≤ 0 by omega) (pAll0))))
      · exact pAll1 (pgP 951 (355 + 0) (by decide) (by decide +kernel) (by decide +kernel) 0 (show (0 + 0 : Int) = _ by omega) (show (0 + (1 * (fMV (wN h) (wB h) 0 0) + 0) : Int) = _ by omega)) (pAll1 (pgP 951 (355 + 0) (by decide) (by decide +kernel) (by decide +kernel) 3 (show (3 + 0 : Int) = _ by omega) (show (0 + (1 * (fMV (wN h) (wB h) 0 3) + 0) : Int) = _ by omega)) (pAll0))
  · have hw : ¬ fWh (wN h) (wB h) := fun z => g0 (z.2 0 (by omega)).1
    rw [yB_0 hw] at eW
    refine ⟨rWH5c_1, List.mem_of_getElem? (i := 1) rfl, pEnd [ρ 0, ρ 1, ρ 2, ρ 3, ρ 4, ρ 5, (fMV (wN h) (wB h) 0 0)] rfl ?_ ?_ ?_ ?_⟩
    · intro j hj
      match j, hj with
      | 0, _ => exact q0.symm
      | 1, _ => exact q1.symm
      | 2, _ => exact q2.symm
      | 3, _ => exact q3.symm
      | 4, _ => exact q4.symm
      | 5, _ => exact q5.symm
      | k + 6, hj => exact absurd hj (by show ¬ (k + 6 < 6); omega)
    · intro k b hk
      match k, hk with
      | 0, hk => cases hk; exact (show (0 : Int) ≤ (fMV (wN h) (wB h) 0 0) ∧ (fMV (wN h) (wB h) 0 0) ≤ (99 : Int) by omega)
      | k + 1, hk => cases hk
    · exact pAll1 (show (0 + (1 * ρ 4 + 0) : Int) ≤ 0 by omega) (pAll1 (show (0 + ((-1) * ρ 4 + 0) : Int) ≤ 0 by omega) (pAll1 (show (1 + (1 * ρ 2 + ((-1) * (fMV (wN h) (wB h) 0 0) + 0)) : Int) ≤ 0 by omega) (pAll0)))
    · exact pAll1 (pgP 951 (355 + 0) (by decide) (by decide +kernel) (by decide +kernel) 0 (show (0 + 0 : Int) = _ by omega) (show (0 + (1 * (fMV (wN h) (wB h) 0 0) + 0) : Int) = _ by omega)) (pAll0)
noncomputable def rWH6c_0 : sX := (none, [(951, (0, []), (0, [(6, 1)])), (951, (3, []), (0, [(7, 1)])), (952, (0, []), (0, [(8, 1)])), (952, (3, []), (0, [(9, 1)])), (953, (0, []), (0, [(10, 1)])), (953, (3, []), (0, [(11, 1)])), (954, (0, []), (0, [(12, 1)])), (954, (3, []), (0, [(13, 1)])), (955, (0, []), (0, [(14, 1)])), (955, (3, []), (0, [(15, 1)])), (956, (0, []), (0, [(16, 1)])), (956, (3, []), (0, [(17, 1)]))], [(0, 99), (0, 99), (0, 99), (0, 99), (0, 99), (0, 99), (0, 99), (0, 99), (0, 99), (0, 99), (0, 99), (0, 99)], [((-1), [(4, 1)]), (1, [(4, (-1))]), (0, [(2, (-1)), (6, 1)]), (1, [(2, (-1)), (7, 1)]), (0, [(2, (-1)), (8, 1)]), (1, [(2, (-1)), (9, 1)]), (0, [(2, (-1)), (10, 1)]), (1, [(2, (-1)), (11, 1)]), (0, [(2, (-1)), (12, 1)]), (1, [(2, (-1)), (13, 1)]), (0, [(2, (-1)), (14, 1)]), (1, [(2, (-1)), (15, 1)]), (0, [(2, (-1)), (16, 1)]), (1, [(2, (-1)), (17, 1)])], [])
noncomputable def rWH6c_1 : sX := (none, [(951, (0, []), (0, [(6, 1)]))], [(0, 99)], [(0, [(4, 1)]), (0, [(4, (-1))]), (1, [(2, 1), (6, (-1))])], [])
noncomputable def rWH6c_2 : sX := (none, [(951, (0, []), (0, [(6, 1)])), (951, (3, []), (0, [(7, 1)]))], [(0, 99), (0, 99)], [(0, [(4, 1)]), (0, [(4, (-1))]), (0, [(2, (-1)), (6, 1)]), (0, [(2, 1), (7, (-1))])], [])
noncomputable def rWH6c_3 : sX := (none, [(951, (0, []), (0, [(6, 1)])), (951, (3, []), (0, [(7, 1)])), (952, (0, []), (0, [(8, 1)]))], [(0, 99), (0, 99), (0, 99)], [(0, [(4, 1)]), (0, [(4, (-1))]), (0, [(2, (-1)), (6, 1)]), (1, [(2, (-1)), (7, 1)]), (1, [(2, 1), (8, (-1))])], [])
noncomputable def rWH6c_4 : sX := (none, [(951, (0, []), (0, [(6, 1)])), (951, (3, []), (0, [(7, 1)])), (952, (0, []), (0, [(8, 1)])), (952, (3, []), (0, [(9, 1)]))], [(0, 99), (0, 99), (0, 99), (0, 99)], [(0, [(4, 1)]), (0, [(4, (-1))]), (0, [(2, (-1)), (6, 1)]), (1, [(2, (-1)), (7, 1)]), (0, [(2, (-1)), (8, 1)]), (0, [(2, 1), (9, (-1))])], [])
noncomputable def rWH6c_5 : sX := (none, [(951, (0, []), (0, [(6, 1)])), (951, (3, []), (0, [(7, 1)])), (952, (0, []), (0, [(8, 1)])), (952, (3, []), (0, [(9, 1)])), (953, (0, []), (0, [(10, 1)]))], [(0, 99), (0, 99), (0, 99), (0, 99), (0, 99)], [(0, [(4, 1)]), (0, [(4, (-1))]), (0, [(2, (-1)), (6, 1)]), (1, [(2, (-1)), (7, 1)]), (0, [(2, (-1)), (8, 1)]), (1, [(2, (-1)), (9, 1)]), (1, [(2, 1), (10, (-1))])], [])
noncomputable def rWH6c_6 : sX := (none, [(951, (0, []), (0, [(6, 1)])), (951, (3, []), (0, [(7, 1)])), (952, (0, []), (0, [(8, 1)])), (952, (3, []), (0, [(9, 1)])), (953, (0, []), (0, [(10, 1)])), (953, (3, []), (0, [(11, 1)]))], [(0, 99), (0, 99), (0, 99), (0, 99), (0, 99), (0, 99)], [(0, [(4, 1)]), (0, [(4, (-1))]), (0, [(2, (-1)), (6, 1)]), (1, [(2, (-1)), (7, 1)]), (0, [(2, (-1)), (8, 1)]), (1, [(2, (-1)), (9, 1)]), (0, [(2, (-1)), (10, 1)]), (0, [(2, 1), (11, (-1))])], [])
noncomputable def rWH6c_7 : sX := (none, [(951, (0, []), (0, [(6, 1)])), (951, (3, []), (0, [(7, 1)])), (952, (0, []), (0, [(8, 1)])), (952, (3, []), (0, [(9, 1)])), (953, (0, []), (0, [(10, 1)])), (953, (3, []), (0, [(11, 1)])), (954, (0, []), (0, [(12, 1)]))], [(0, 99), (0, 99), (0, 99), (0, 99), (0, 99), (0, 99), (0, 99)], [(0, [(4, 1)]), (0, [(4, (-1))]), (0, [(2, (-1)), (6, 1)]), (1, [(2, (-1)), (7, 1)]), (0, [(2, (-1)), (8, 1)]), (1, [(2, (-1)), (9, 1)]), (0, [(2, (-1)), (10, 1)]), (1, [(2, (-1)), (11, 1)]), (1, [(2, 1), (12, (-1))])], [])
noncomputable def rWH6c_8 : sX := (none, [(951, (0, []), (0, [(6, 1)])), (951, (3, []), (0, [(7, 1)])), (952, (0, []), (0, [(8, 1)])), (952, (3, []), (0, [(9, 1)])), (953, (0, []), (0, [(10, 1)])), (953, (3, []), (0, [(11, 1)])), (954, (0, []), (0, [(12, 1)])), (954, (3, []), (0, [(13, 1)]))], [(0, 99), (0, 99), (0, 99), (0, 99), (0, 99), (0, 99), (0, 99), (0, 99)], [(0, [(4, 1)]), (0, [(4, (-1))]), (0, [(2, (-1)), (6, 1)]), (1, [(2, (-1)), (7, 1)]), (0, [(2, (-1)), (8, 1)]), (1, [(2, (-1)), (9, 1)]), (0, [(2, (-1)), (10, 1)]), (1, [(2, (-1)), (11, 1)]), (0, [(2, (-1)), (12, 1)]), (0, [(2, 1), (13, (-1))])], [])
noncomputable def rWH6c_9 : sX := (none, [(951, (0, []), (0, [(6, 1)])), (951, (3, []), (0, [(7, 1)])), (952, (0, []), (0, [(8, 1)])), (952, (3, []), (0, [(9, 1)])), (953, (0, []), (0, [(10, 1)])), (953, (3, []), (0, [(11, 1)])), (954, (0, []), (0, [(12, 1)])), (954, (3, []), (0, [(13, 1)])), (955, (0, []), (0, [(14, 1)]))], [(0, 99), (0, 99), (0, 99), (0, 99), (0, 99), (0, 99), (0, 99), (0, 99), (0, 99)], [(0, [(4, 1)]), (0, [(4, (-1))]), (0, [(2, (-1)), (6, 1)]), (1, [(2, (-1)), (7, 1)]), (0, [(2, (-1)), (8, 1)]), (1, [(2, (-1)), (9, 1)]), (0, [(2, (-1)), (10, 1)]), (1, [(2, (-1)), (11, 1)]), (0, [(2, (-1)), (12, 1)]), (1, [(2, (-1)), (13, 1)]), (1, [(2, 1), (14, (-1))])], [])
noncomputable def rWH6c_10 : sX := (none, [(951, (0, []), (0, [(6, 1)])), (951, (3, []), (0, [(7, 1)])), (952, (0, []), (0, [(8, 1)])), (952, (3, []), (0, [(9, 1)])), (953, (0, []), (0, [(10, 1)])), (953, (3, []), (0, [(11, 1)])), (954, (0, []), (0, [(12, 1)])), (954, (3, []), (0, [(13, 1)])), (955, (0, []), (0, [(14, 1)])), (955, (3, []), (0, [(15, 1)]))], [(0, 99), (0, 99), (0, 99), (0, 99), (0, 99), (0, 99), (0, 99), (0, 99), (0, 99), (0, 99)], [(0, [(4, 1)]), (0, [(4, (-1))]), (0, [(2, (-1)), (6, 1)]), (1, [(2, (-1)), (7, 1)]), (0, [(2, (-1)), (8, 1)]), (1, [(2, (-1)), (9, 1)]), (0, [(2, (-1)), (10, 1)]), (1, [(2, (-1)), (11, 1)]), (0, [(2, (-1)), (12, 1)]), (1, [(2, (-1)), (13, 1)]), (0, [(2, (-1)), (14, 1)]), (0, [(2, 1), (15, (-1))])], [])
noncomputable def rWH6c_11 : sX := (none, [(951, (0, []), (0, [(6, 1)])), (951, (3, []), (0, [(7, 1)])), (952, (0, []), (0, [(8, 1)])), (952, (3, []), (0, [(9, 1)])), (953, (0, []), (0, [(10, 1)])), (953, (3, []), (0, [(11, 1)])), (954, (0, []), (0, [(12, 1)])), (954, (3, []), (0, [(13, 1)])), (955, (0, []), (0, [(14, 1)])), (955, (3, []), (0, [(15, 1)])), (956, (0, []), (0, [(16, 1)]))], [(0, 99), (0, 99), (0, 99), (0, 99), (0, 99), (0, 99), (0, 99), (0, 99), (0, 99), (0, 99), (0, 99)], [(0, [(4, 1)]), (0, [(4, (-1))]), (0, [(2, (-1)), (6, 1)]), (1, [(2, (-1)), (7, 1)]), (0, [(2, (-1)), (8, 1)]), (1, [(2, (-1)), (9, 1)]), (0, [(2, (-1)), (10, 1)]), (1, [(2, (-1)), (11, 1)]), (0, [(2, (-1)), (12, 1)]), (1, [(2, (-1)), (13, 1)]), (0, [(2, (-1)), (14, 1)]), (1, [(2, (-1)), (15, 1)]), (1, [(2, 1), (16, (-1))])], [])
noncomputable def rWH6c_12 : sX := (none, [(951, (0, []), (0, [(6, 1)])), (951, (3, []), (0, [(7, 1)])), (952, (0, []), (0, [(8, 1)])), (952, (3, []), (0, [(9, 1)])), (953, (0, []), (0, [(10, 1)])), (953, (3, []), (0, [(11, 1)])), (954, (0, []), (0, [(12, 1)])), (954, (3, []), (0, [(13, 1)])), (955, (0, []), (0, [(14, 1)])), (955, (3, []), (0, [(15, 1)])), (956, (0, []), (0, [(16, 1)])), (956, (3, []), (0, [(17, 1)]))], [(0, 99), (0, 99), (0, 99), (0, 99), (0, 99), (0, 99), (0, 99), (0, 99), (0, 99), (0, 99), (0, 99), (0, 99)], [(0, [(4, 1)]), (0, [(4, (-1))]), (0, [(2, (-1)), (6, 1)]), (1, [(2, (-1)), (7, 1)]), (0, [(2, (-1)), (8, 1)]), (1, [(2, (-1)), (9, 1)]), (0, [(2, (-1)), (10, 1)]), (1, [(2, (-1)), (11, 1)]), (0, [(2, (-1)), (12, 1)]), (1, [(2, (-1)), (13, 1)]), (0, [(2, (-1)), (14, 1)]), (1, [(2, (-1)), (15, 1)]), (0, [(2, (-1)), (16, 1)]), (0, [(2, 1), (17, (-1))])], [])
noncomputable def rWH6c : sQ := (0, ([], [(2, 1020, (0, [])), (2, 1006, (0, [])), (2, 42, (0, [])), (2, 539, (0, [])), (2, 541, (0, [])), (2, 540, (0, []))], [(1, 1), (1, 1), (0, 99), (0, 99), (0, 1), (6, 6)], [(0, [(2, 1), (3, (-1))]), (0, [(2, (-1)), (3, 1)])], [(0, 0), (1, 1), (2, 2), (3, 3), (4, 4), (5, 5)], (0, [])), [rWH6c_0, rWH6c_1, rWH6c_2, rWH6c_3, rWH6c_4, rWH6c_5, rWH6c_6, rWH6c_7, rWH6c_8, rWH6c_9, rWH6c_10, rWH6c_11, rWH6c_12], [], 0)
set_option maxHeartbeats 4000000 in
theorem rWH6c_ok : pRul pReg pG pgv (rWH6c) := by
  intro loc h ρ ρ0 hG hM
  have hM : sMt pReg pgv ρ ρ0 (sAs (rWH6c).2.1) loc [] h := hM
  have q0 : ρ0 1 = ρ 0 := (hM.2.2.2.2.2 (1, sY 0) (List.mem_of_getElem? (i := 1) rfl)).trans (sY_v ρ 0)
  have q1 : ρ0 2 = ρ 1 := (hM.2.2.2.2.2 (2, sY 1) (List.mem_of_getElem? (i := 2) rfl)).trans (sY_v ρ 1)
  have q2 : ρ0 3 = ρ 2 := (hM.2.2.2.2.2 (3, sY 2) (List.mem_of_getElem? (i := 3) rfl)).trans (sY_v ρ 2)
  have q3 : ρ0 4 = ρ 3 := (hM.2.2.2.2.2 (4, sY 3) (List.mem_of_getElem? (i := 4) rfl)).trans (sY_v ρ 3)
  have q4 : ρ0 5 = ρ 4 := (hM.2.2.2.2.2 (5, sY 4) (List.mem_of_getElem? (i := 5) rfl)).trans (sY_v ρ 4)
  have q5 : ρ0 6 = ρ 5 := (hM.2.2.2.2.2 (6, sY 5) (List.mem_of_getElem? (i := 6) rfl)).trans (sY_v ρ 5)
  have hL : ∀ j, j < 6 → pL [ρ 0, ρ 1, ρ 2, ρ 3, ρ 4, ρ 5] j = ρ0 (j + 1) := by
    intro j hj
    match j, hj with
    | 0, _ => exact q0.symm
    | 1, _ => exact q1.symm
    | 2, _ => exact q2.symm
    | 3, _ => exact q3.symm
    | 4, _ => exact q4.symm
    | 5, _ => exact q5.symm
    | k + 6, hj => omega
  have b0 : (1 : Int) ≤ ρ 0 ∧ ρ 0 ≤ 1 := hM.2.2.2.1 0 (1, 1) rfl
  have b1 : (1 : Int) ≤ ρ 1 ∧ ρ 1 ≤ 1 := hM.2.2.2.1 1 (1, 1) rfl
  have b2 : (0 : Int) ≤ ρ 2 ∧ ρ 2 ≤ 99 := hM.2.2.2.1 2 (0, 99) rfl
  have b3 : (0 : Int) ≤ ρ 3 ∧ ρ 3 ≤ 99 := hM.2.2.2.1 3 (0, 99) rfl
  have b4 : (0 : Int) ≤ ρ 4 ∧ ρ 4 ≤ 1 := hM.2.2.2.1 4 (0, 1) rfl
  have b5 : (6 : Int) ≤ ρ 5 ∧ ρ 5 ≤ 6 := hM.2.2.2.1 5 (6, 6) rfl
  have c0 : (0 + (1 * ρ 2 + ((-1) * ρ 3 + 0)) : Int) ≤ 0 := hM.2.2.2.2.1 (0, [(2, 1), (3, (-1))]) (List.mem_of_getElem? (i := 0) rfl)
  have c1 : (0 + ((-1) * ρ 2 + (1 * ρ 3 + 0)) : Int) ≤ 0 := hM.2.2.2.2.1 (0, [(2, (-1)), (3, 1)]) (List.mem_of_getElem? (i := 1) rfl)
  obtain ⟨ho, hh, hf⟩ := pTold20 hM 0 (0, []) rfl b0.1
  have hn := ho.1
  have ha : aC 6 h := pToldC hM 1 6 (by decide) (0, []) rfl b1.1
  have ey : ρ 3 = fRV (wN h) (wB h) 0 := (pfF hM hf 3 539 (0, []) rfl (by decide) (by decide) (0) (by omega) (by show (0 + 0 : Int) = _; omega)).trans (fA_RV (k := 0) (by decide))
  have eW : ρ 4 = yB (fWh (wN h) (wB h)) := (pfF hM hf 4 541 (0, []) rfl (by decide) (by decide) (0) (by omega) (by show (0 + 0 : Int) = _; omega)).trans (fA_WH)
  have efm : ρ 5 = ((fW (wN h) (wB h) 0 0 0).2.1 : Int) := (pfF hM hf 5 540 (0, []) rfl (by decide) (by decide) (0) (by omega) (by show (0 + 0 : Int) = _; omega)).trans (fA_FM)
  have em : (fW (wN h) (wB h) 0 0 0).2.1 = 6 := by omega
  have r00 : (h.1 (355 + 0) 0).toInt = (fMV (wN h) (wB h) 0 0) := (ha 0 0 (by decide) (by decide)).trans ((hf 538 (by decide) (by decide) 0 (by decide)).trans (fA_MV (i := 0) (k := 0) (by decide) (by decide)))
  have m00 := fMV_bd (n := wN h) (B := wB h) 0 0
  have r03 : (h.1 (355 + 0) 3).toInt = (fMV (wN h) (wB h) 0 3) := (ha 0 3 (by decide) (by decide)).trans ((hf 538 (by decide) (by decide) 3 (by decide)).trans (fA_MV (i := 0) (k := 3) (by decide) (by decide)))
  have m03 := fMV_bd (n := wN h) (B := wB h) 0 3
  have r10 : (h.1 (355 + 1) 0).toInt = (fMV (wN h) (wB h) 1 0) := (ha 1 0 (by decide) (by decide)).trans ((hf 538 (by decide) (by decide) 4 (by decide)).trans (fA_MV (i := 1) (k := 0) (by decide) (by decide)))
  have m10 := fMV_bd (n := wN h) (B := wB h) 1 0
  have r13 : (h.1 (355 + 1) 3).toInt = (fMV (wN h) (wB h) 1 3) := (ha 1 3 (by decide) (by decide)).trans ((hf 538 (by decide) (by decide) 7 (by decide)).trans (fA_MV (i := 1) (k := 3) (by decide) (by decide)))
  have m13 := fMV_bd (n := wN h) (B := wB h) 1 3
  have r20 : (h.1 (355 + 2) 0).toInt = (fMV (wN h) (wB h) 2 0) := (ha 2 0 (by decide) (by decide)).trans ((hf 538 (by decide) (by decide) 8 (by decide)).trans (fA_MV (i := 2) (k := 0) (by decide) (by decide)))
  have m20 := fMV_bd (n := wN h) (B := wB h) 2 0
  have r23 : (h.1 (355 + 2) 3).toInt = (fMV (wN h) (wB h) 2 3) := (ha 2 3 (by decide) (by decide)).trans ((hf 538 (by decide) (by decide) 11 (by decide)).trans (fA_MV (i := 2) (k := 3) (by decide) (by decide)))
  have m23 := fMV_bd (n := wN h) (B := wB h) 2 3
  have r30 : (h.1 (355 + 3) 0).toInt = (fMV (wN h) (wB h) 3 0) := (ha 3 0 (by decide) (by decide)).trans ((hf 538 (by decide) (by decide) 12 (by decide)).trans (fA_MV (i := 3) (k := 0) (by decide) (by decide)))
  have m30 := fMV_bd (n := wN h) (B := wB h) 3 0
  have r33 : (h.1 (355 + 3) 3).toInt = (fMV (wN h) (wB h) 3 3) := (ha 3 3 (by decide) (by decide)).trans ((hf 538 (by decide) (by decide) 15 (by decide)).trans (fA_MV (i := 3) (k := 3) (by decide) (by decide)))
  have m33 := fMV_bd (n := wN h) (B := wB h) 3 3
  have r40 : (h.1 (355 + 4) 0).toInt = (fMV (wN h) (wB h) 4 0) := (ha 4 0 (by decide) (by decide)).trans ((hf 538 (by decide) (by decide) 16 (by decide)).trans (fA_MV (i := 4) (k := 0) (by decide) (by decide)))
  have m40 := fMV_bd (n := wN h) (B := wB h) 4 0
  have r43 : (h.1 (355 + 4) 3).toInt = (fMV (wN h) (wB h) 4 3) := (ha 4 3 (by decide) (by decide)).trans ((hf 538 (by decide) (by decide) 19 (by decide)).trans (fA_MV (i := 4) (k := 3) (by decide) (by decide)))
  have m43 := fMV_bd (n := wN h) (B := wB h) 4 3
  have r50 : (h.1 (355 + 5) 0).toInt = (fMV (wN h) (wB h) 5 0) := (ha 5 0 (by decide) (by decide)).trans ((hf 538 (by decide) (by decide) 20 (by decide)).trans (fA_MV (i := 5) (k := 0) (by decide) (by decide)))
  have m50 := fMV_bd (n := wN h) (B := wB h) 5 0
  have r53 : (h.1 (355 + 5) 3).toInt = (fMV (wN h) (wB h) 5 3) := (ha 5 3 (by decide) (by decide)).trans ((hf 538 (by decide) (by decide) 23 (by decide)).trans (fA_MV (i := 5) (k := 3) (by decide) (by decide)))
  have m53 := fMV_bd (n := wN h) (B := wB h) 5 3
  by_cases g0 : (fMV (wN h) (wB h) 0 0) ≤ fRV (wN h) (wB h) 0
  · by_cases k0 : (fMV (wN h) (wB h) 0 3) < fRV (wN h) (wB h) 0
    · by_cases g1 : (fMV (wN h) (wB h) 1 0) ≤ fRV (wN h) (wB h) 0
      · by_cases k1 : (fMV (wN h) (wB h) 1 3) < fRV (wN h) (wB h) 0
        · by_cases g2 : (fMV (wN h) (wB h) 2 0) ≤ fRV (wN h) (wB h) 0
          · by_cases k2 : (fMV (wN h) (wB h) 2 3) < fRV (wN h) (wB h) 0
            · by_cases g3 : (fMV (wN h) (wB h) 3 0) ≤ fRV (wN h) (wB h) 0
              · by_cases k3 : (fMV (wN h) (wB h) 3 3) < fRV (wN h) (wB h) 0
                · by_cases g4 : (fMV (wN h) (wB h) 4 0) ≤ fRV (wN h) (wB h) 0
                  · by_cases k4 : (fMV (wN h) (wB h) 4 3) < fRV (wN h) (wB h) 0
                    · by_cases g5 : (fMV (wN h) (wB h) 5 0) ≤ fRV (wN h) (wB h) 0
                      · by_cases k5 : (fMV (wN h) (wB h) 5 3) < fRV (wN h) (wB h) 0
                        · have hw : fWh (wN h) (wB h) := by
                            refine ⟨by omega, fun i hi => ?_⟩
                            rw [em] at hi
                            rcases (show i = 0 ∨ i = 1 ∨ i = 2 ∨ i = 3 ∨ i = 4 ∨ i = 5 by omega) with rfl | rfl | rfl | rfl | rfl | rfl
                            · exact ⟨g0, k0⟩
                            · exact ⟨g1, k1⟩
                            · exact ⟨g2, k2⟩
                            · exact ⟨g3, k3⟩
                            · exact ⟨g4, k4⟩
                            · exact ⟨g5, k5⟩
                          rw [yB_1.mpr hw] at eW
                          refine ⟨rWH6c_0, List.mem_of_getElem? (i := 0) rfl, pEnd [ρ 0, ρ 1, ρ 2, ρ 3, ρ 4, ρ 5, (fMV (wN h) (wB h) 0 0), (fMV (wN h) (wB h) 0 3), (fMV (wN h) (wB h) 1 0), (fMV (wN h) (wB h) 1 3), (fMV (wN h) (wB h) 2 0), (fMV (wN h) (wB h) 2 3), (fMV (wN h) (wB h) 3 0), (fMV (wN h) (wB h) 3 3), (fMV (wN h) (wB h) 4 0), (fMV (wN h) (wB h) 4 3), (fMV (wN h) (wB h) 5 0), (fMV (wN h) (wB h) 5 3)] rfl ?_ ?_ ?_ ?_⟩
                          · intro j hj
                            match j, hj with
                            | 0, _ => exact q0.symm
                            | 1, _ => exact q1.symm
                            | 2, _ => exact q2.symm
                            | 3, _ => exact q3.symm
                            | 4, _ => exact q4.symm
                            | 5, _ => exact q5.symm
                            | k + 6, hj => exact absurd hj (by show ¬ (k + 6 < 6); omega)
                          · intro k b hk
                            match k, hk with
                            | 0, hk => cases hk; exact (show (0 : Int) ≤ (fMV (wN h) (wB h) 0 0) ∧ (fMV (wN h) (wB h) 0 0) ≤ (99 : Int) by omega)
                            | 1, hk => cases hk; exact (show (0 : Int) ≤ (fMV (wN h) (wB h) 0 3) ∧ (fMV (wN h) (wB h) 0 3) ≤ (99 : Int) by omega)
                            | 2, hk => cases hk; exact (show (0 : Int) ≤ (fMV (wN h) (wB h) 1 0) ∧ (fMV (wN h) (wB h) 1 0) ≤ (99 : Int) by omega)
                            | 3, hk => cases hk; exact (show (0 : Int) ≤ (fMV (wN h) (wB h) 1 3) ∧ (fMV (wN h) (wB h) 1 3) ≤ (99 : Int) by omega)
                            | 4, hk => cases hk; exact (show (0 : Int) ≤ (fMV (wN h) (wB h) 2 0) ∧ (fMV (wN h) (wB h) 2 0) ≤ (99 : Int) by omega)
                            | 5, hk => cases hk; exact (show (0 : Int) ≤ (fMV (wN h) (wB h) 2 3) ∧ (fMV (wN h) (wB h) 2 3) ≤ (99 : Int) by omega)
                            | 6, hk => cases hk; exact (show (0 : Int) ≤ (fMV (wN h) (wB h) 3 0) ∧ (fMV (wN h) (wB h) 3 0) ≤ (99 : Int) by omega)
                            | 7, hk => cases hk; exact (show (0 : Int) ≤ (fMV (wN h) (wB h) 3 3) ∧ (fMV (wN h) (wB h) 3 3) ≤ (99 : Int) by omega)
                            | 8, hk => cases hk; exact (show (0 : Int) ≤ (fMV (wN h) (wB h) 4 0) ∧ (fMV (wN h) (wB h) 4 0) ≤ (99 : Int) by omega)
                            | 9, hk => cases hk; exact (show (0 : Int) ≤ (fMV (wN h) (wB h) 4 3) ∧ (fMV (wN h) (wB h) 4 3) ≤ (99 : Int) by omega)
                            | 10, hk => cases hk; exact (show (0 : Int) ≤ (fMV (wN h) (wB h) 5 0) ∧ (fMV (wN h) (wB h) 5 0) ≤ (99 : Int) by omega)
                            | 11, hk => cases hk; exact (show (0 : Int) ≤ (fMV (wN h) (wB h) 5 3) ∧ (fMV (wN h) (wB h) 5 3) ≤ (99 : Int) by omega)
                            | k + 12, hk => cases hk
                          · exact pAll1 (show ((-1) + (1 * ρ 4 + 0) : Int) ≤ 0 by omega) (pAll1 (show (1 + ((-1) * ρ 4 + 0) : Int) ≤ 0 by omega) (pAll1 (show (0 + ((-1) * ρ 2 + (1 * (fMV (wN h) (wB h) 0 0) + 0)) : Int) ≤ 0 by omega) (pAll1 (show (1 + ((-1) * ρ 2 + (1 * (fMV (wN h) (wB h) 0 3) + 0)) : Int) ≤ 0 by omega) (pAll1 (show (0 + ((-1) * ρ 2 + (1 * (fMV (wN h) (wB h) 1 0) + 0)) : Int) ≤ 0 by omega) (pAll1 (show (1 + ((-1) * ρ 2 + (1 * (fMV (wN h) (wB h) 1 3) + 0)) : Int) ≤ 0 by omega) (pAll1 (show (0 + ((-1) * ρ 2 + (1 * (fMV (wN h) (wB h) 2 0) + 0)) : Int) ≤ 0 by omega) (pAll1 (show (1 + ((-1) * ρ 2 + (1 * (fMV (wN h) (wB h) 2 3) + 0)) : Int) ≤ 0 by omega) (pAll1 (show (0 + ((-1) * ρ 2 + (1 * (fMV (wN h) (wB h) 3 0) + 0)) : Int) ≤ 0 by omega) (pAll1 (show (1 + ((-1) * ρ 2 + (1 * (fMV (wN h) (wB h) 3 3) + 0)) : Int) ≤ 0 by omega) (pAll1 (show (0 + ((-1) * ρ 2 + (1 * (fMV (wN h) (wB h) 4 0) + 0)) : Int) ≤ 0 by omega) (pAll1 (show (1 + ((-1) * ρ 2 + (1 * (fMV (wN h) (wB h) 4 3) + 0)) : Int) ≤ 0 by omega) (pAll1 (show (0 + ((-1) * ρ 2 + (1 * (fMV (wN h) (wB h) 5 0) + 0)) : Int) ≤ 0 by omega) (pAll1 (show (1 + ((-1) * ρ 2 + (1 * (fMV (wN h) (wB h) 5 3) + 0)) : Int) ≤ 0 by omega) (pAll0))))))))))))))
                          · exact pAll1 (pgP 951 (355 + 0) (by decide) (by decide +kernel) (by decide +kernel) 0 (show (0 + 0 : Int) = _ by omega) (show (0 + (1 * (fMV (wN h) (wB h) 0 0) + 0) : Int) = _ by omega)) (pAll1 (pgP 951 (355 + 0) (by decide) (by decide +kernel) (by decide +kernel) 3 (show (3 + 0 : Int) = _ by omega) (show (0 + (1 * (fMV (wN h) (wB h) 0 3) + 0) : Int) = _ by omega)) (pAll1 (pgP 952 (355 + 1) (by decide) (by decide +kernel) (by decide +kernel) 0 (show (0 + 0 : Int) = _ by omega) (show (0 + (1 * (fMV (wN h) (wB h) 1 0) + 0) : Int) = _ by omega)) (pAll1 (pgP 952 (355 + 1) (by decide) (by decide +kernel) (by decide +kernel) 3 (show (3 + 0 : Int) = _ by omega) (show (0 + (1 * (fMV (wN h) (wB h) 1 3) + 0) : Int) = _ by omega)) (pAll1 (pgP 953 (355 + 2) (by decide) (by decide +kernel) (by decide +kernel) 0 (show (0 + 0 : Int) = _ by omega) (show (0 + (1 * (fMV (wN h) (wB h) 2 0) + 0) : Int) = _ by omega)) (pAll1 (pgP 953 (355 + 2) (by decide) (by decide +kernel) (by decide +kernel) 3 (show (3 + 0 : Int) = _ by omega) (show (0 + (1 * (fMV (wN h) (wB h) 2 3) + 0) : Int) = _ by omega)) (pAll1 (pgP 954 (355 + 3) (by decide) (by decide +kernel) (by decide +kernel) 0 (show (0 + 0 : Int) = _ by omega) (show (0 + (1 * (fMV (wN h) (wB h) 3 0) + 0) : Int) = _ by omega)) (pAll1 (pgP 954 (355 + 3) (by decide) (by decide +kernel) (by decide +kernel) 3 (show (3 + 0 : Int) = _ by omega) (show (0 + (1 * (fMV (wN h) (wB h) 3 3) + 0) : Int) = _ by omega)) (pAll1 (pgP 955 (355 + 4) (by decide) (by decide +kernel) (by decide +kernel) 0 (show (0 + 0 : Int) = _ by omega) (show (0 + (1 * (fMV (wN h) (wB h) 4 0) + 0) : Int) = _ by omega)) (pAll1 (pgP 955 (355 + 4) (by decide) (by decide +kernel) (by decide +kernel) 3 (show (3 + 0 : Int) = _ by omega) (show (0 + (1 * (fMV (wN h) (wB h) 4 3) + 0) : Int) = _ by omega)) (pAll1 (pgP 956 (355 + 5) (by decide) (by decide +kernel) (by decide +kernel) 0 (show (0 + 0 : Int) = _ by omega) (show (0 + (1 * (fMV (wN h) (wB h) 5 0) + 0) : Int) = _ by omega)) (pAll1 (pgP 956 (355 + 5) (by decide) (by decide +kernel) (by decide +kernel) 3 (show (3 + 0 : Int) = _ by omega) (show (0 + (1 * (fMV (wN h) (wB h) 5 3) + 0) : Int) = _ by omega)) (pAll0))))))))))))
                        · have hw : ¬ fWh (wN h) (wB h) := fun z => k5 (z.2 5 (by omega)).2
                          rw [yB_0 hw] at eW
                          refine ⟨rWH6c_12, List.mem_of_getElem? (i := 12) rfl, pEnd [ρ 0, ρ 1, ρ 2, ρ 3, ρ 4, ρ 5, (fMV (wN h) (wB h) 0 0), (fMV (wN h) (wB h) 0 3), (fMV (wN h) (wB h) 1 0), (fMV (wN h) (wB h) 1 3), (fMV (wN h) (wB h) 2 0), (fMV (wN h) (wB h) 2 3), (fMV (wN h) (wB h) 3 0), (fMV (wN h) (wB h) 3 3), (fMV (wN h) (wB h) 4 0), (fMV (wN h) (wB h) 4 3), (fMV (wN h) (wB h) 5 0), (fMV (wN h) (wB h) 5 3)] rfl ?_ ?_ ?_ ?_⟩
                          · intro j hj
                            match j, hj with
                            | 0, _ => exact q0.symm
                            | 1, _ => exact q1.symm
                            | 2, _ => exact q2.symm
                            | 3, _ => exact q3.symm
                            | 4, _ => exact q4.symm
                            | 5, _ => exact q5.symm
                            | k + 6, hj => exact absurd hj (by show ¬ (k + 6 < 6); omega)
                          · intro k b hk
                            match k, hk with
                            | 0, hk => cases hk; exact (show (0 : Int) ≤ (fMV (wN h) (wB h) 0 0) ∧ (fMV (wN h) (wB h) 0 0) ≤ (99 : Int) by omega)
                            | 1, hk => cases hk; exact (show (0 : Int) ≤ (fMV (wN h) (wB h) 0 3) ∧ (fMV (wN h) (wB h) 0 3) ≤ (99 : Int) by omega)
                            | 2, hk => cases hk; exact (show (0 : Int) ≤ (fMV (wN h) (wB h) 1 0) ∧ (fMV (wN h) (wB h) 1 0) ≤ (99 : Int) by omega)
                            | 3, hk => cases hk; exact (show (0 : Int) ≤ (fMV (wN h) (wB h) 1 3) ∧ (fMV (wN h) (wB h) 1 3) ≤ (99 : Int) by omega)
                            | 4, hk => cases hk; exact (show (0 : Int) ≤ (fMV (wN h) (wB h) 2 0) ∧ (fMV (wN h) (wB h) 2 0) ≤ (99 : Int) by omega)
                            | 5, hk => cases hk; exact (show (0 : Int) ≤ (fMV (wN h) (wB h) 2 3) ∧ (fMV (wN h) (wB h) 2 3) ≤ (99 : Int) by omega)
                            | 6, hk => cases hk; exact (show (0 : Int) ≤ (fMV (wN h) (wB h) 3 0) ∧ (fMV (wN h) (wB h) 3 0) ≤ (99 : Int) by omega)
                            | 7, hk => cases hk; exact (show (0 : Int) ≤ (fMV (wN h) (wB h) 3 3) ∧ (fMV (wN h) (wB h) 3 3) ≤ (99 : Int) by omega)
                            | 8, hk => cases hk; exact (show (0 : Int) ≤ (fMV (wN h) (wB h) 4 0) ∧ (fMV (wN h) (wB h) 4 0) ≤ (99 : Int) by omega)
                            | 9, hk => cases hk; exact (show (0 : Int) ≤ (fMV (wN h) (wB h) 4 3) ∧ (fMV (wN h) (wB h) 4 3) ≤ (99 : Int) by omega)
                            | 10, hk => cases hk; exact (show (0 : Int) ≤ (fMV (wN h) (wB h) 5 0) ∧ (fMV (wN h) (wB h) 5 0) ≤ (99 : Int) by omega)
                            | 11, hk => cases hk; exact (show (0 : Int) ≤ (fMV (wN h) (wB h) 5 3) ∧ (fMV (wN h) (wB h) 5 3) ≤ (99 : Int) by omega)
                            | k + 12, hk => cases hk
                          · exact pAll1 (show (0 + (1 * ρ 4 + 0) : Int) ≤ 0 by omega) (pAll1 (show (0 + ((-1) * ρ 4 + 0) : Int) ≤ 0 by omega) (pAll1 (show (0 + ((-1) * ρ 2 + (1 * (fMV (wN h) (wB h) 0 0) + 0)) : Int) ≤ 0 by omega) (pAll1 (show (1 + ((-1) * ρ 2 + (1 * (fMV (wN h) (wB h) 0 3) + 0)) : Int) ≤ 0 by omega) (pAll1 (show (0 + ((-1) * ρ 2 + (1 * (fMV (wN h) (wB h) 1 0) + 0)) : Int) ≤ 0 by omega) (pAll1 (show (1 + ((-1) * ρ 2 + (1 * (fMV (wN h) (wB h) 1 3) + 0)) : Int) ≤ 0 by omega) (pAll1 (show (0 + ((-1) * ρ 2 + (1 * (fMV (wN h) (wB h) 2 0) + 0)) : Int) ≤ 0 by omega) (pAll1 (show (1 + ((-1) * ρ 2 + (1 * (fMV (wN h) (wB h) 2 3) + 0)) : Int) ≤ 0 by omega) (pAll1 (show (0 + ((-1) * ρ 2 + (1 * (fMV (wN h) (wB h) 3 0) + 0)) : Int) ≤ 0 by omega) (pAll1 (show (1 + ((-1) * ρ 2 + (1 * (fMV (wN h) (wB h) 3 3) + 0)) : Int) ≤ 0 by omega) (pAll1 (show (0 + ((-1) * ρ 2 + (1 * (fMV (wN h) (wB h) 4 0) + 0)) : Int) ≤ 0 by omega) (pAll1 (show (1 + ((-1) * ρ 2 + (1 * (fMV (wN h) (wB h) 4 3) + 0)) : Int) ≤ 0 by omega) (pAll1 (show (0 + ((-1) * ρ 2 + (1 * (fMV (wN h) (wB h) 5 0) + 0)) : Int) ≤ 0 by omega) (pAll1 (show (0 + (1 * ρ 2 + ((-1) * (fMV (wN h) (wB h) 5 3) + 0)) : Int) ≤ 0 by omega) (pAll0))))))))))))))
                          · exact pAll1 (pgP 951 (355 + 0) (by decide) (by decide +kernel) (by decide +kernel) 0 (show (0 + 0 : Int) = _ by omega) (show (0 + (1 * (fMV (wN h) (wB h) 0 0) + 0) : Int) = _ by omega)) (pAll1 (pgP 951 (355 + 0) (by decide) (by decide +kernel) (by decide +kernel) 3 (show (3 + 0 : Int) = _ by omega) (show (0 + (1 * (fMV (wN h) (wB h) 0 3) + 0) : Int) = _ by omega)) (pAll1 (pgP 952 (355 + 1) (by decide) (by decide +kernel) (by decide +kernel) 0 (show (0 + 0 : Int) = _ by omega) (show (0 + (1 * (fMV (wN h) (wB h) 1 0) + 0) : Int) = _ by omega)) (pAll1 (pgP 952 (355 + 1) (by decide) (by decide +kernel) (by decide +kernel) 3 (show (3 + 0 : Int) = _ by omega) (show (0 + (1 * (fMV (wN h) (wB h) 1 3) + 0) : Int) = _ by omega)) (pAll1 (pgP 953 (355 + 2) (by decide) (by decide +kernel) (by decide +kernel) 0 (show (0 + 0 : Int) = _ by omega) (show (0 + (1 * (fMV (wN h) (wB h) 2 0) + 0) : Int) = _ by omega)) (pAll1 (pgP 953 (355 + 2) (by decide) (by decide +kernel) (by decide +kernel) 3 (show (3 + 0 : Int) = _ by omega) (show (0 + (1 * (fMV (wN h) (wB h) 2 3) + 0) : Int) = _ by omega)) (pAll1 (pgP 954 (355 + 3) (by decide) (by decide +kernel) (by decide +kernel) 0 (show (0 + 0 : Int) = _ by omega) (show (0 + (1 * (fMV (wN h) (wB h) 3 0) + 0) : Int) = _ by omega)) (pAll1 (pgP 954 (355 + 3) (by decide) (by decide +kernel) (by decide +kernel) 3 (show (3 + 0 : Int) = _ by omega) (show (0 + (1 * (fMV (wN h) (wB h) 3 3) + 0) : Int) = _ by omega)) (pAll1 (pgP 955 (355 + 4) (by decide) (by decide +kernel) (by decide +kernel) 0 (show (0 + 0 : Int) = _ by omega) (show (0 + (1 * (fMV (wN h) (wB h) 4 0) + 0) : Int) = _ by omega)) (pAll1 (pgP 955 (355 + 4) (by decide) (by decide +kernel) (by decide +kernel) 3 (show (3 + 0 : Int) = _ by omega) (show (0 + (1 * (fMV (wN h) (wB h) 4 3) + 0) : Int) = _ by omega)) (pAll1 (pgP 956 (355 + 5) (by decide) (by decide +kernel) (by decide +kernel) 0 (show (0 + 0 : Int) = _ by omega) (show (0 + (1 * (fMV (wN h) (wB h) 5 0) + 0) : Int) = _ by omega)) (pAll1 (pgP 956 (355 + 5) (by decide) (by decide +kernel) (by decide +kernel) 3 (show (3 + 0 : Int) = _ by omega) (show (0 + (1 * (fMV (wN h) (wB h) 5 3) + 0) : Int) = _ by omega)) (pAll0))))))))))))
                      · have hw : ¬ fWh (wN h) (wB h) := fun z => g5 (z.2 5 (by omega)).1
                        rw [yB_0 hw] at eW
                        refine ⟨rWH6c_11, List.mem_of_getElem? (i := 11) rfl, pEnd [ρ 0, ρ 1, ρ 2, ρ 3, ρ 4, ρ 5, (fMV (wN h) (wB h) 0 0), (fMV (wN h) (wB h) 0 3), (fMV (wN h) (wB h) 1 0), (fMV (wN h) (wB h) 1 3), (fMV (wN h) (wB h) 2 0), (fMV (wN h) (wB h) 2 3), (fMV (wN h) (wB h) 3 0), (fMV (wN h) (wB h) 3 3), (fMV (wN h) (wB h) 4 0), (fMV (wN h) (wB h) 4 3), (fMV (wN h) (wB h) 5 0)] rfl ?_ ?_ ?_ ?_⟩
                        · intro j hj
                          match j, hj with
                          | 0, _ => exact q0.symm
                          | 1, _ => exact q1.symm
                          | 2, _ => exact q2.symm
                          | 3, _ => exact q3.symm
                          | 4, _ => exact q4.symm
                          | 5, _ => exact q5.symm
                          | k + 6, hj => exact absurd hj (by show ¬ (k + 6 < 6); omega)
                        · intro k b hk
                          match k, hk with
                          | 0, hk => cases hk; exact (show (0 : Int) ≤ (fMV (wN h) (wB h) 0 0) ∧ (fMV (wN h) (wB h) 0 0) ≤ (99 : Int) by omega)
                          | 1, hk => cases hk; exact (show (0 : Int) ≤ (fMV (wN h) (wB h) 0 3) ∧ (fMV (wN h) (wB h) 0 3) ≤ (99 : Int) by omega)
                          | 2, hk => cases hk; exact (show (0 : Int) ≤ (fMV (wN h) (wB h) 1 0) ∧ (fMV (wN h) (wB h) 1 0) ≤ (99 : Int) by omega)
                          | 3, hk => cases hk; exact (show (0 : Int) ≤ (fMV (wN h) (wB h) 1 3) ∧ (fMV (wN h) (wB h) 1 3) ≤ (99 : Int) by omega)
                          | 4, hk => cases hk; exact (show (0 : Int) ≤ (fMV (wN h) (wB h) 2 0) ∧ (fMV (wN h) (wB h) 2 0) ≤ (99 : Int) by omega)
                          | 5, hk => cases hk; exact (show (0 : Int) ≤ (fMV (wN h) (wB h) 2 3) ∧ (fMV (wN h) (wB h) 2 3) ≤ (99 : Int) by omega)
                          | 6, hk => cases hk; exact (show (0 : Int) ≤ (fMV (wN h) (wB h) 3 0) ∧ (fMV (wN h) (wB h) 3 0) ≤ (99 : Int) by omega)
                          | 7, hk => cases hk; exact (show (0 : Int) ≤ (fMV (wN h) (wB h) 3 3) ∧ (fMV (wN h) (wB h) 3 3) ≤ (99 : Int) by omega)
                          | 8, hk => cases hk; exact (show (0 : Int) ≤ (fMV (wN h) (wB h) 4 0) ∧ (fMV (wN h) (wB h) 4 0) ≤ (99 : Int) by omega)
                          | 9, hk => cases hk; exact (show (0 : Int) ≤ (fMV (wN h) (wB h) 4 3) ∧ (fMV (wN h) (wB h) 4 3) ≤ (99 : Int) by omega)
                          | 10, hk => cases hk; exact (show (0 : Int) ≤ (fMV (wN h) (wB h) 5 0) ∧ (fMV (wN h) (wB h) 5 0) ≤ (99 : Int) by omega)
                          | k + 11, hk => cases hk
                        · exact pAll1 (show (0 + (1 * ρ 4 + 0) : Int) ≤ 0 by omega) (pAll1 (show (0 + ((-1) * ρ 4 + 0) : Int) ≤ 0 by omega) (pAll1 (show (0 + ((-1) * ρ 2 + (1 * (fMV (wN h) (wB h) 0 0) + 0)) : Int) ≤ 0 by omega) (pAll1 (show (1 + ((-1) * ρ 2 + (1 * (fMV (wN h) (wB h) 0 3) + 0)) : Int) ≤ 0 by omega) (pAll1 (show (0 + ((-1) * ρ 2 + (1 * (fMV (wN h) (wB h) 1 0) + 0)) : Int) ≤ 0 by omega) (pAll1 (show (1 + ((-1) * ρ 2 + (1 * (fMV (wN h) (wB h) 1 3) + 0)) : Int) ≤ 0 by omega) (pAll1 (show (0 + ((-1) * ρ 2 + (1 * (fMV (wN h) (wB h) 2 0) + 0)) : Int) ≤ 0 by omega) (pAll1 (show (1 + ((-1) * ρ 2 + (1 * (fMV (wN h) (wB h) 2 3) + 0)) : Int) ≤ 0 by omega) (pAll1 (show (0 + ((-1) * ρ 2 + (1 * (fMV (wN h) (wB h) 3 0) + 0)) : Int) ≤ 0 by omega) (pAll1 (show (1 + ((-1) * ρ 2 + (1 * (fMV (wN h) (wB h) 3 3) + 0)) : Int) ≤ 0 by omega) (pAll1 (show (0 + ((-1) * ρ 2 + (1 * (fMV (wN h) (wB h) 4 0) + 0)) : Int) ≤ 0 by omega) (pAll1 (show (1 + ((-1) * ρ 2 + (1 * (fMV (wN h) (wB h) 4 3) + 0)) : Int) ≤ 0 by omega) (pAll1 (show (1 + (1 * ρ 2 + ((-1) * (fMV (wN h) (wB h) 5 0) + 0)) : Int) ≤ 0 by omega) (pAll0)))))))))))))
                        · exact pAll1 (pgP 951 (355 + 0) (by decide) (by decide +kernel) (by decide +kernel) 0 (show (0 + 0 : Int) = _ by omega) (show (0 + (1 * (fMV (wN h) (wB h) 0 0) + 0) : Int) = _ by omega)) (pAll1 (pgP 951 (355 + 0) (by decide) (by decide +kernel) (by decide +kernel) 3 (show (3 + 0 : Int) = _ by omega) (show (0 + (1 * (fMV (wN h) (wB h) 0 3) + 0) : Int) = _ by omega)) (pAll1 (pgP 952 (355 + 1) (by decide) (by decide +kernel) (by decide +kernel) 0 (show (0 + 0 : Int) = _ by omega) (show (0 + (1 * (fMV (wN h) (wB h) 1 0) + 0) : Int) = _ by omega)) (pAll1 (pgP 952 (355 + 1) (by decide) (by decide +kernel) (by decide +kernel) 3 (show (3 + 0 : Int) = _ by omega) (show (0 + (1 * (fMV (wN h) (wB h) 1 3) + 0) : Int) = _ by omega)) (pAll1 (pgP 953 (355 + 2) (by decide) (by decide +kernel) (by decide +kernel) 0 (show (0 + 0 : Int) = _ by omega) (show (0 + (1 * (fMV (wN h) (wB h) 2 0) + 0) : Int) = _ by omega)) (pAll1 (pgP 953 (355 + 2) (by decide) (by decide +kernel) (by decide +kernel) 3 (show (3 + 0 : Int) = _ by omega) (show (0 + (1 * (fMV (wN h) (wB h) 2 3) + 0) : Int) = _ by omega)) (pAll1 (pgP 954 (355 + 3) (by decide) (by decide +kernel) (by decide +kernel) 0 (show (0 + 0 : Int) = _ by omega) (show (0 + (1 * (fMV (wN h) (wB h) 3 0) + 0) : Int) = _ by omega)) (pAll1 (pgP 954 (355 + 3) (by decide) (by decide +kernel) (by decide +kernel) 3 (show (3 + 0 : Int) = _ by omega) (show (0 + (1 * (fMV (wN h) (wB h) 3 3) + 0) : Int) = _ by omega)) (pAll1 (pgP 955 (355 + 4) (by decide) (by decide +kernel) (by decide +kernel) 0 (show (0 + 0 : Int) = _ by omega) (show (0 + (1 * (fMV (wN h) (wB h) 4 0) + 0) : Int) = _ by omega)) (pAll1 (pgP 955 (355 + 4) (by decide) (by decide +kernel) (by decide +kernel) 3 (show (3 + 0 : Int) = _ by omega) (show (0 + (1 * (fMV (wN h) (wB h) 4 3) + 0) : Int) = _ by omega)) (pAll1 (pgP 956 (355 + 5) (by decide) (by decide +kernel) (by decide +kernel) 0 (show (0 + 0 : Int) = _ by omega) (show (0 + (1 * (fMV (wN h) (wB h) 5 0) + 0) : Int) = _ by omega)) (pAll0)))))))))))
                    · have hw : ¬ fWh (wN h) (wB h) := fun z => k4 (z.2 4 (by omega)).2
                      rw [yB_0 hw] at eW
                      refine ⟨rWH6c_10, List.mem_of_getElem? (i := 10) rfl, pEnd [ρ 0, ρ 1, ρ 2, ρ 3, ρ 4, ρ 5, (fMV (wN h) (wB h) 0 0), (fMV (wN h) (wB h) 0 3), (fMV (wN h) (wB h) 1 0), (fMV (wN h) (wB h) 1 3), (fMV (wN h) (wB h) 2 0), (fMV (wN h) (wB h) 2 3), (fMV (wN h) (wB h) 3 0), (fMV (wN h) (wB h) 3 3), (fMV (wN h) (wB h) 4 0), (fMV (wN h) (wB h) 4 3)] rfl ?_ ?_ ?_ ?_⟩
                      · intro j hj
                        match j, hj with
                        | 0, _ => exact q0.symm
                        | 1, _ => exact q1.symm
                        | 2, _ => exact q2.symm
                        | 3, _ => exact q3.symm
                        | 4, _ => exact q4.symm
                        | 5, _ => exact q5.symm
                        | k + 6, hj => exact absurd hj (by show ¬ (k + 6 < 6); omega)
                      · intro k b hk
                        match k, hk with
                        | 0, hk => cases hk; exact (show (0 : Int) ≤ (fMV (wN h) (wB h) 0 0) ∧ (fMV (wN h) (wB h) 0 0) ≤ (99 : Int) by omega)
                        | 1, hk => cases hk; exact (show (0 : Int) ≤ (fMV (wN h) (wB h) 0 3) ∧ (fMV (wN h) (wB h) 0 3) ≤ (99 : Int) by omega)
                        | 2, hk => cases hk; exact (show (0 : Int) ≤ (fMV (wN h) (wB h) 1 0) ∧ (fMV (wN h) (wB h) 1 0) ≤ (99 : Int) by omega)
                        | 3, hk => cases hk; exact (show (0 : Int) ≤ (fMV (wN h) (wB h) 1 3) ∧ (fMV (wN h) (wB h) 1 3) ≤ (99 : Int) by omega)
                        | 4, hk => cases hk; exact (show (0 : Int) ≤ (fMV (wN h) (wB h) 2 0) ∧ (fMV (wN h) (wB h) 2 0) ≤ (99 : Int) by omega)
                        | 5, hk => cases hk; exact (show (0 : Int) ≤ (fMV (wN h) (wB h) 2 3) ∧ (fMV (wN h) (wB h) 2 3) ≤ (99 : Int) by omega)
                        | 6, hk => cases hk; exact (show (0 : Int) ≤ (fMV (wN h) (wB h) 3 0) ∧ (fMV (wN h) (wB h) 3 0) ≤ (99 : Int) by omega)
                        | 7, hk => cases hk; exact (show (0 : Int) ≤ (fMV (wN h) (wB h) 3 3) ∧ (fMV (wN h) (wB h) 3 3) ≤ (99 : Int) by omega)
                        | 8, hk => cases hk; exact (show (0 : Int) ≤ (fMV (wN h) (wB h) 4 0) ∧ (fMV (wN h) (wB h) 4 0) ≤ (99 : Int) by omega)
                        | 9, hk => cases hk; exact (show (0 : Int) ≤ (fMV (wN h) (wB h) 4 3) ∧ (fMV (wN h) (wB h) 4 3) ≤ (99 : Int) by omega)
                        | k + 10, hk => cases hk
                      · exact pAll1 (show (0 + (1 * ρ 4 + 0) : Int) ≤ 0 by omega) (pAll1 (show (0 + ((-1) * ρ 4 + 0) : Int) ≤ 0 by omega) (pAll1 (show (0 + ((-1) * ρ 2 + (1 * (fMV (wN h) (wB h) 0 0) + 0)) : Int) ≤ 0 by omega) (pAll1 (show (1 + ((-1) * ρ 2 + (1 * (fMV (wN h) (wB h) 0 3) + 0)) : Int) ≤ 0 by omega) (pAll1 (show (0 + ((-1) * ρ 2 + (1 * (fMV (wN h) (wB h) 1 0) + 0)) : Int) ≤ 0 by omega) (pAll1 (show (1 + ((-1) * ρ 2 + (1 * (fMV (wN h) (wB h) 1 3) + 0)) : Int) ≤ 0 by omega) (pAll1 (show (0 + ((-1) * ρ 2 + (1 * (fMV (wN h) (wB h) 2 0) + 0)) : Int) ≤ 0 by omega) (pAll1 (show (1 + ((-1) * ρ 2 + (1 * (fMV (wN h) (wB h) 2 3) + 0)) : Int) ≤ 0 by omega) (pAll1 (show (0 + ((-1) * ρ 2 + (1 * (fMV (wN h) (wB h) 3 0) + 0)) : Int) ≤ 0 by omega) (pAll1 (show (1 + ((-1) * ρ 2 + (1 * (fMV (wN h) (wB h) 3 3) + 0)) : Int) ≤ 0 by omega) (pAll1 (show (0 + ((-1) * ρ 2 + (1 * (fMV (wN h) (wB h) 4 0) + 0)) : Int) ≤ 0 by omega) (pAll1 (show (0 + (1 * ρ 2 + ((-1) * (fMV (wN h) (wB h) 4 3) + 0)) : Int) ≤ 0 by omega) (pAll0))))))))))))
                      · exact pAll1 (pgP 951 (355 + 0) (by decide) (by decide +kernel) (by decide +kernel) 0 (show (0 + 0 : Int) = _ by omega) (show (0 + (1 * (fMV (wN h) (wB h) 0 0) + 0) : Int) = _ by omega)) (pAll1 (pgP 951 (355 + 0) (by decide) (by decide +kernel) (by decide +kernel) 3 (show (3 + 0 : Int) = _ by omega) (show (0 + (1 * (fMV (wN h) (wB h) 0 3) + 0) : Int) = _ by omega)) (pAll1 (pgP 952 (355 + 1) (by decide) (by decide +kernel) (by decide +kernel) 0 (show (0 + 0 : Int) = _ by omega) (show (0 + (1 * (fMV (wN h) (wB h) 1 0) + 0) : Int) = _ by omega)) (pAll1 (pgP 952 (355 + 1) (by decide) (by decide +kernel) (by decide +kernel) 3 (show (3 + 0 : Int) = _ by omega) (show (0 + (1 * (fMV (wN h) (wB h) 1 3) + 0) : Int) = _ by omega)) (pAll1 (pgP 953 (355 + 2) (by decide) (by decide +kernel) (by decide +kernel) 0 (show (0 + 0 : Int) = _ by omega) (show (0 + (1 * (fMV (wN h) (wB h) 2 0) + 0) : Int) = _ by omega)) (pAll1 (pgP 953 (355 + 2) (by decide) (by decide +kernel) (by decide +kernel) 3 (show (3 + 0 : Int) = _ by omega) (show (0 + (1 * (fMV (wN h) (wB h) 2 3) + 0) : Int) = _ by omega)) (pAll1 (pgP 954 (355 + 3) (by decide) (by decide +kernel) (by decide +kernel) 0 (show (0 + 0 : Int) = _ by omega) (show (0 + (1 * (fMV (wN h) (wB h) 3 0) + 0) : Int) = _ by omega)) (pAll1 (pgP 954 (355 + 3) (by decide) (by decide +kernel) (by decide +kernel) 3 (show (3 + 0 : Int) = _ by omega) (show (0 + (1 * (fMV (wN h) (wB h) 3 3) + 0) : Int) = _ by omega)) (pAll1 (pgP 955 (355 + 4) (by decide) (by decide +kernel) (by decide +kernel) 0 (show (0 + 0 : Int) = _ by omega) (show (0 + (1 * (fMV (wN h) (wB h) 4 0) + 0) : Int) = _ by omega)) (pAll1 (pgP 955 (355 + 4) (by decide) (by decide +kernel) (by decide +kernel) 3 (show (3 + 0 : Int) = _ by omega) (show (0 + (1 * (fMV (wN h) (wB h) 4 3) + 0) : Int) = _ by omega)) (pAll0))))))))))
                  · have hw : ¬ fWh (wN h) (wB h) := fun z => g4 (z.2 4 (by omega)).1
                    rw [yB_0 hw] at eW
                    refine ⟨rWH6c_9, List.mem_of_getElem? (i := 9) rfl, pEnd [ρ 0, ρ 1, ρ 2, ρ 3, ρ 4, ρ 5, (fMV (wN h) (wB h) 0 0), (fMV (wN h) (wB h) 0 3), (fMV (wN h) (wB h) 1 0), (fMV (wN h) (wB h) 1 3), (fMV (wN h) (wB h) 2 0), (fMV (wN h) (wB h) 2 3), (fMV (wN h) (wB h) 3 0), (fMV (wN h) (wB h) 3 3), (fMV (wN h) (wB h) 4 0)] rfl ?_ ?_ ?_ ?_⟩
                    · intro j hj
                      match j, hj with
                      | 0, _ => exact q0.symm
                      | 1, _ => exact q1.symm
                      | 2, _ => exact q2.symm
                      | 3, _ => exact q3.symm
                      | 4, _ => exact q4.symm
                      | 5, _ => exact q5.symm
                      | k + 6, hj => exact absurd hj (by show ¬ (k + 6 < 6); omega)
                    · intro k b hk
                      match k, hk with
                      | 0, hk => cases hk; exact (show (0 : Int) ≤ (fMV (wN h) (wB h) 0 0) ∧ (fMV (wN h) (wB h) 0 0) ≤ (99 : Int) by omega)
                      | 1, hk => cases hk; exact (show (0 : Int) ≤ (fMV (wN h) (wB h) 0 3) ∧ (fMV (wN h) (wB h) 0 3) ≤ (99 : Int) by omega)
                      | 2, hk => cases hk; exact (show (0 : Int) ≤ (fMV (wN h) (wB h) 1 0) ∧ (fMV (wN h) (wB h) 1 0) ≤ (99 : Int) by omega)
                      | 3, hk => cases hk; exact (show (0 : Int) ≤ (fMV (wN h) (wB h) 1 3) ∧ (fMV (wN h) (wB h) 1 3) ≤ (99 : Int) by omega)
                      | 4, hk => cases hk; exact (show (0 : Int) ≤ (fMV (wN h) (wB h) 2 0) ∧ (fMV (wN h) (wB h) 2 0) ≤ (99 : Int) by omega)
                      | 5, hk => cases hk; exact (show (0 : Int) ≤ (fMV (wN h) (wB h) 2 3) ∧ (fMV (wN h) (wB h) 2 3) ≤ (99 : Int) by omega)
                      | 6, hk => cases hk; exact (show (0 : Int) ≤ (fMV (wN h) (wB h) 3 0) ∧ (fMV (wN h) (wB h) 3 0) ≤ (99 : Int) by omega)
                      | 7, hk => cases hk; exact (show (0 : Int) ≤ (fMV (wN h) (wB h) 3 3) ∧ (fMV (wN h) (wB h) 3 3) ≤ (99 : Int) by omega)
                      | 8, hk => cases hk; exact (show (0 : Int) ≤ (fMV (wN h) (wB h) 4 0) ∧ (fMV (wN h) (wB h) 4 0) ≤ (99 : Int) by omega)
                      | k + 9, hk => cases hk
                    · exact pAll1 (show (0 + (1 * ρ 4 + 0) : Int) ≤ 0 by omega) (pAll1 (show (0 + ((-1) * ρ 4 + 0) : Int) ≤ 0 by omega) (pAll1 (show (0 + ((-1) * ρ 2 + (1 * (fMV (wN h) (wB h) 0 0) + 0)) : Int) ≤ 0 by omega) (pAll1 (show (1 + ((-1) * ρ 2 + (1 * (fMV (wN h) (wB h) 0 3) + 0)) : Int) ≤ 0 by omega) (pAll1 (show (0 + ((-1) * ρ 2 + (1 * (fMV (wN h) (wB h) 1 0) + 0)) : Int) ≤ 0 by omega) (pAll1 (show (1 + ((-1) * ρ 2 + (1 * (fMV (wN h) (wB h) 1 3) + 0)) : Int) ≤ 0 by omega) (pAll1 (show (0 + ((-1) * ρ 2 + (1 * (fMV (wN h) (wB h) 2 0) + 0)) : Int) ≤ 0 by omega) (pAll1 (show (1 + ((-1) * ρ 2 + (1 * (fMV (wN h) (wB h) 2 3) + 0)) : Int) ≤ 0 by omega) (pAll1 (show (0 + ((-1) * ρ 2 + (1 * (fMV (wN h) (wB h) 3 0) + 0)) : Int) ≤ 0 by omega) (pAll1 (show (1 + ((-1) * ρ 2 + (1 * (fMV (wN h) (wB h) 3 3) + 0)) : Int) ≤ 0 by omega) (pAll1 (show (1 + (1 * ρ 2 + ((-1) * (fMV (wN h) (wB h) 4 0) + 0)) : Int) ≤ 0 by omega) (pAll0)))))))))))
                    · exact pAll1 (pgP 951 (355 + 0) (by decide) (by decide +kernel) (by decide +kernel) 0 (show (0 + 0 : Int) = _ by omega) (show (0 + (1 * (fMV (wN h) (wB h) 0 0) + 0) : Int) = _ by omega)) (pAll1 (pgP 951 (355 + 0) (by decide) (by decide +kernel) (by decide +kernel) 3 (show (3 + 0 : Int) = _ by omega) (show (0 + (1 * (fMV (wN h) (wB h) 0 3) + 0) : Int) = _ by omega)) (pAll1 (pgP 952 (355 + 1) (by decide) (by decide +kernel) (by decide +kernel) 0 (show (0 + 0 : Int) = _ by omega) (show (0 + (1 * (fMV (wN h) (wB h) 1 0) + 0) : Int) = _ by omega)) (pAll1 (pgP 952 (355 + 1) (by decide) (by decide +kernel) (by decide +kernel) 3 (show (3 + 0 : Int) = _ by omega) (show (0 + (1 * (fMV (wN h) (wB h) 1 3) + 0) : Int) = _ by omega)) (pAll1 (pgP 953 (355 + 2) (by decide) (by decide +kernel) (by decide +kernel) 0 (show (0 + 0 : Int) = _ by omega) (show (0 + (1 * (fMV (wN h) (wB h) 2 0) + 0) : Int) = _ by omega)) (pAll1 (pgP 953 (355 + 2) (by decide) (by decide +kernel) (by decide +kernel) 3 (show (3 + 0 : Int) = _ by omega) (show (0 + (1 * (fMV (wN h) (wB h) 2 3) + 0) : Int) = _ by omega)) (pAll1 (pgP 954 (355 + 3) (by decide) (by decide +kernel) (by decide +kernel) 0 (show (0 + 0 : Int) = _ by omega) (show (0 + (1 * (fMV (wN h) (wB h) 3 0) + 0) : Int) = _ by omega)) (pAll1 (pgP 954 (355 + 3) (by decide) (by decide +kernel) (by decide +kernel) 3 (show (3 + 0 : Int) = _ by omega) (show (0 + (1 * (fMV (wN h) (wB h) 3 3) + 0) : Int) = _ by omega)) (pAll1 (pgP 955 (355 + 4) (by decide) (by decide +kernel) (by decide +kernel) 0 (show (0 + 0 : Int) = _ by omega) (show (0 + (1 * (fMV (wN h) (wB h) 4 0) + 0) : Int) = _ by omega)) (pAll0)))))))))
                · have hw : ¬ fWh (wN h) (wB h) := fun z => k3 (z.2 3 (by omega)).2
                  rw [yB_0 hw] at eW
                  refine ⟨rWH6c_8, List.mem_of_getElem? (i := 8) rfl, pEnd [ρ 0, ρ 1, ρ 2, ρ 3, ρ 4, ρ 5, (fMV (wN h) (wB h) 0 0), (fMV (wN h) (wB h) 0 3), (fMV (wN h) (wB h) 1 0), (fMV (wN h) (wB h) 1 3), (fMV (wN h) (wB h) 2 0), (fMV (wN h) (wB h) 2 3), (fMV (wN h) (wB h) 3 0), (fMV (wN h) (wB h) 3 3)] rfl ?_ ?_ ?_ ?_⟩
                  · intro j hj
                    match j, hj with
                    | 0, _ => exact q0.symm
                    | 1, _ => exact q1.symm
                    | 2, _ => exact q2.symm
                    | 3, _ => exact q3.symm
                    | 4, _ => exact q4.symm
                    | 5, _ => exact q5.symm
                    | k + 6, hj => exact absurd hj (by show ¬ (k + 6 < 6); omega)
                  · intro k b hk
                    match k, hk with
                    | 0, hk => cases hk; exact (show (0 : Int) ≤ (fMV (wN h) (wB h) 0 0) ∧ (fMV (wN h) (wB h) 0 0) ≤ (99 : Int) by omega)
                    | 1, hk => cases hk; exact (show (0 : Int) ≤ (fMV (wN h) (wB h) 0 3) ∧ (fMV (wN h) (wB h) 0 3) ≤ (99 : Int) by omega)
                    | 2, hk => cases hk; exact (show (0 : Int) ≤ (fMV (wN h) (wB h) 1 0) ∧ (fMV (wN h) (wB h) 1 0) ≤ (99 : Int) by omega)
                    | 3, hk => cases hk; exact (show (0 : Int) ≤ (fMV (wN h) (wB h) 1 3) ∧ (fMV (wN h) (wB h) 1 3) ≤ (99 : Int) by omega)
                    | 4, hk => cases hk; exact (show (0 : Int) ≤ (fMV (wN h) (wB h) 2 0) ∧ (fMV (wN h) (wB h) 2 0) ≤ (99 : Int) by omega)
                    | 5, hk => cases hk; exact (show (0 : Int) ≤ (fMV (wN h) (wB h) 2 3) ∧ (fMV (wN h) (wB h) 2 3) ≤ (99 : Int) by omega)
                    | 6, hk => cases hk; exact (show (0 : Int) ≤ (fMV (wN h) (wB h) 3 0) ∧ (fMV (wN h) (wB h) 3 0) ≤ (99 : Int) by omega)
                    | 7, hk => cases hk; exact (show (0 : Int) ≤ (fMV (wN h) (wB h) 3 3) ∧ (fMV (wN h) (wB h) 3 3) ≤ (99 : Int) by omega)
                    | k + 8, hk => cases hk
                  · exact pAll1 (show (0 + (1 * ρ 4 + 0) : Int) ≤ 0 by omega) (pAll1 (show (0 + ((-1) * ρ 4 + 0) : Int) ≤ 0 by omega) (pAll1 (show (0 + ((-1) * ρ 2 + (1 * (fMV (wN h) (wB h) 0 0) + 0)) : Int) ≤ 0 by omega) (pAll1 (show (1 + ((-1) * ρ 2 + (1 * (fMV (wN h) (wB h) 0 3) + 0)) : Int) ≤ 0 by omega) (pAll1 (show (0 + ((-1) * ρ 2 + (1 * (fMV (wN h) (wB h) 1 0) + 0)) : Int) ≤ 0 by omega) (pAll1 (show (1 + ((-1) * ρ 2 + (1 * (fMV (wN h) (wB h) 1 3) + 0)) : Int) ≤ 0 by omega) (pAll1 (show (0 + ((-1) * ρ 2 + (1 * (fMV (wN h) (wB h) 2 0) + 0)) : Int) ≤ 0 by omega) (pAll1 (show (1 + ((-1) * ρ 2 + (1 * (fMV (wN h) (wB h) 2 3) + 0)) : Int) ≤ 0 by omega) (pAll1 (show (0 + ((-1) * ρ 2 + (1 * (fMV (wN h) (wB h) 3 0) + 0)) : Int) ≤ 0 by omega) (pAll1 (show (0 + (1 * ρ 2 + ((-1) * (fMV (wN h) (wB h) 3 3) + 0)) : Int) ≤ 0 by omega) (pAll0))))))))))
                  · exact pAll1 (pgP 951 (355 + 0) (by decide) (by decide +kernel) (by decide +kernel) 0 (show (0 + 0 : Int) = _ by omega) (show (0 + (1 * (fMV (wN h) (wB h) 0 0) + 0) : Int) = _ by omega)) (pAll1 (pgP 951 (355 + 0) (by decide) (by decide +kernel) (by decide +kernel) 3 (show (3 + 0 : Int) = _ by omega) (show (0 + (1 * (fMV (wN h) (wB h) 0 3) + 0) : Int) = _ by omega)) (pAll1 (pgP 952 (355 + 1) (by decide) (by decide +kernel) (by decide +kernel) 0 (show (0 + 0 : Int) = _ by omega) (show (0 + (1 * (fMV (wN h) (wB h) 1 0) + 0) : Int) = _ by omega)) (pAll1 (pgP 952 (355 + 1) (by decide) (by decide +kernel) (by decide +kernel) 3 (show (3 + 0 : Int) = _ by omega) (show (0 + (1 * (fMV (wN h) (wB h) 1 3) + 0) : Int) = _ by omega)) (pAll1 (pgP 953 (355 + 2) (by decide) (by decide +kernel) (by decide +kernel) 0 (show (0 + 0 : Int) = _ by omega) (show (0 + (1 * (fMV (wN h) (wB h) 2 0) + 0) : Int) = _ by omega)) (pAll1 (pgP 953 (355 + 2) (by decide) (by decide +kernel) (by decide +kernel) 3 (show (3 + 0 : Int) = _ by omega) (show (0 + (1 * (fMV (wN h) (wB h) 2 3) + 0) : Int) = _ by omega)) (pAll1 (pgP 954 (355 + 3) (by decide) (by decide +kernel) (by decide +kernel) 0 (show (0 + 0 : Int) = _ by omega) (show (0 + (1 * (fMV (wN h) (wB h) 3 0) + 0) : Int) = _ by omega)) (pAll1 (pgP 954 (355 + 3) (by decide) (by decide +kernel) (by decide +kernel) 3 (show (3 + 0 : Int) = _ by omega) (show (0 + (1 * (fMV (wN h) (wB h) 3 3) + 0) : Int) = _ by omega)) (pAll0))))))))
              · have hw : ¬ fWh (wN h) (wB h) := fun z => g3 (z.2 3 (by omega)).1
                rw [yB_0 hw] at eW
                refine ⟨rWH6c_7, List.mem_of_getElem? (i := 7) rfl, pEnd [ρ 0, ρ 1, ρ 2, ρ 3, ρ 4, ρ 5, (fMV (wN h) (wB h) 0 0), (fMV (wN h) (wB h) 0 3), (fMV (wN h) (wB h) 1 0), (fMV (wN h) (wB h) 1 3), (fMV (wN h) (wB h) 2 0), (fMV (wN h) (wB h) 2 3), (fMV (wN h) (wB h) 3 0)] rfl ?_ ?_ ?_ ?_⟩
                · intro j hj
                  match j, hj with
                  | 0, _ => exact q0.symm
                  | 1, _ => exact q1.symm
                  | 2, _ => exact q2.symm
                  | 3, _ => exact q3.symm
                  | 4, _ => exact q4.symm
                  | 5, _ => exact q5.symm
                  | k + 6, hj => exact absurd hj (by show ¬ (k + 6 < 6); omega)
                · intro k b hk
                  match k, hk with
                  | 0, hk => cases hk; exact (show (0 : Int) ≤ (fMV (wN h) (wB h) 0 0) ∧ (fMV (wN h) (wB h) 0 0) ≤ (99 : Int) by omega)
                  | 1, hk => cases hk; exact (show (0 : Int) ≤ (fMV (wN h) (wB h) 0 3) ∧ (fMV (wN h) (wB h) 0 3) ≤ (99 : Int) by omega)
                  | 2, hk => cases hk; exact (show (0 : Int) ≤ (fMV (wN h) (wB h) 1 0) ∧ (fMV (wN h) (wB h) 1 0) ≤ (99 : Int) by omega)
                  | 3, hk => cases hk; exact (show (0 : Int) ≤ (fMV (wN h) (wB h) 1 3) ∧ (fMV (wN h) (wB h) 1 3) ≤ (99 : Int) by omega)
                  | 4, hk => cases hk; exact (show (0 : Int) ≤ (fMV (wN h) (wB h) 2 0) ∧ (fMV (wN h) (wB h) 2 0) ≤ (99 : Int) by omega)
                  | 5, hk => cases hk; exact (show (0 : Int) ≤ (fMV (wN h) (wB h) 2 3) ∧ (fMV (wN h) (wB h) 2 3) ≤ (99 : Int) by omega)
                  | 6, hk => cases hk; exact (show (0 : Int) ≤ (fMV (wN h) (wB h) 3 0) ∧ (fMV (wN h) (wB h) 3 0) ≤ (99 : Int) by omega)
                  | k + 7, hk => cases hk
                · exact pAll1 (show (0 + (1 * ρ 4 + 0) : Int) ≤ 0 by omega) (pAll1 (show (0 + ((-1) * ρ 4 + 0) : Int) ≤ 0 by omega) (pAll1 (show (0 + ((-1) * ρ 2 + (1 * (fMV (wN h) (wB h) 0 0) + 0)) : Int) ≤ 0 by omega) (pAll1 (show (1 + ((-1) * ρ 2 + (1 * (fMV (wN h) (wB h) 0 3) + 0)) : Int) ≤ 0 by omega) (pAll1 (show (0 + ((-1) * ρ 2 + (1 * (fMV (wN h) (wB h) 1 0) + 0)) : Int) ≤ 0 by omega) (pAll1 (show (1 + ((-1) * ρ 2 + (1 * (fMV (wN h) (wB h) 1 3) + 0)) : Int) ≤ 0 by omega) (pAll1 (show (0 + ((-1) * ρ 2 + (1 * (fMV (wN h) (wB h) 2 0) + 0)) : Int) ≤ 0 by omega) (pAll1 (show (1 + ((-1) * ρ 2 + (1 * (fMV (wN h) (wB h) 2 3) + 0)) : Int) ≤ 0 by omega) (pAll1 (show (1 + (1 * ρ 2 + ((-1) * (fMV (wN h) (wB h) 3 0) + 0)) : Int) ≤ 0 by omega) (pAll0)))))))))
                · exact pAll1 (pgP 951 (355 + 0) (by decide) (by decide +kernel) (by decide +kernel) 0 (show (0 + 0 : Int) = _ by omega) (show (0 + (1 * (fMV (wN h) (wB h) 0 0) + 0) : Int) = _ by omega)) (pAll1 (pgP 951 (355 + 0) (by decide) (by decide +kernel) (by decide +kernel) 3 (show (3 + 0 : Int) = _ by omega) (show (0 + (1 * (fMV (wN h) (wB h) 0 3) + 0) : Int) = _ by omega)) (pAll1 (pgP 952 (355 + 1) (by decide) (by decide +kernel) (by decide +kernel) 0 (show (0 + 0 : Int) = _ by omega) (show (0 + (1 * (fMV (wN h) (wB h) 1 0) + 0) : Int) = _ by omega)) (pAll1 (pgP 952 (355 + 1) (by decide) (by decide +kernel) (by decide +kernel) 3 (show (3 + 0 : Int) = _ by omega) (show (0 + (1 * (fMV (wN h) (wB h) 1 3) + 0) : Int) = _ by omega)) (pAll1 (pgP 953 (355 + 2) (by decide) (by decide +kernel) (by decide +kernel) 0 (show (0 + 0 : Int) = _ by omega) (show (0 + (1 * (fMV (wN h) (wB h) 2 0) + 0) : Int) = _ by omega)) (pAll1 (pgP 953 (355 + 2) (by decide) (by decide +kernel) (by decide +kernel) 3 (show (3 + 0 : Int) = _ by omega) (show (0 + (1 * (fMV (wN h) (wB h) 2 3) + 0) : Int) = _ by omega)) (pAll1 (pgP 954 (355 + 3) (by decide) (by decide +kernel) (by decide +kernel) 0 (show (0 + 0 : Int) = _ by omega) (show (0 + (1 * (fMV (wN h) (wB h) 3 0) + 0) : Int) = _ by omega)) (pAll0)))))))
            · have hw : ¬ fWh (wN h) (wB h) := fun z => k2 (z.2 2 (by omega)).2
              rw [yB_0 hw] at eW
              refine ⟨rWH6c_6, List.mem_of_getElem? (i := 6) rfl, pEnd [ρ 0, ρ 1, ρ 2, ρ 3, ρ 4, ρ 5, (fMV (wN h) (wB h) 0 0), (fMV (wN h) (wB h) 0 3), (fMV (wN h) (wB h) 1 0), (fMV (wN h) (wB h) 1 3), (fMV (wN h) (wB h) 2 0), (fMV (wN h) (wB h) 2 3)] rfl ?_ ?_ ?_ ?_⟩
              · intro j hj
                match j, hj with
                | 0, _ => exact q0.symm
                | 1, _ => exact q1.symm
                | 2, _ => exact q2.symm
                | 3, _ => exact q3.symm
                | 4, _ => exact q4.symm
                | 5, _ => exact q5.symm
                | k + 6, hj => exact absurd hj (by show ¬ (k + 6 < 6); omega)
              · intro k b hk
                match k, hk with
                | 0, hk => cases hk; exact (show (0 : Int) ≤ (fMV (wN h) (wB h) 0 0) ∧ (fMV (wN h) (wB h) 0 0) ≤ (99 : Int) by omega)
                | 1, hk => cases hk; exact (show (0 : Int) ≤ (fMV (wN h) (wB h) 0 3) ∧ (fMV (wN h) (wB h) 0 3) ≤ (99 : Int) by omega)
                | 2, hk => cases hk; exact (show (0 : Int) ≤ (fMV (wN h) (wB h) 1 0) ∧ (fMV (wN h) (wB h) 1 0) ≤ (99 : Int) by omega)
                | 3, hk => cases hk; exact (show (0 : Int) ≤ (fMV (wN h) (wB h) 1 3) ∧ (fMV (wN h) (wB h) 1 3) ≤ (99 : Int) by omega)
                | 4, hk => cases hk; exact (show (0 : Int) ≤ (fMV (wN h) (wB h) 2 0) ∧ (fMV (wN h) (wB h) 2 0) ≤ (99 : Int) by omega)
                | 5, hk => cases hk; exact (show (0 : Int) ≤ (fMV (wN h) (wB h) 2 3) ∧ (fMV (wN h) (wB h) 2 3) ≤ (99 : Int) by omega)
                | k + 6, hk => cases hk
              · exact pAll1 (show (0 + (1 * ρ 4 + 0) : Int) ≤ 0 by omega) (pAll1 (show (0 + ((-1) * ρ 4 + 0) : Int) ≤ 0 by omega) (pAll1 (show (0 + ((-1) * ρ 2 + (1 * (fMV (wN h) (wB h) 0 0) + 0)) : Int) ≤ 0 by omega) (pAll1 (show (1 + ((-1) * ρ 2 + (1 * (fMV (wN h) (wB h) 0 3) + 0)) : Int) ≤ 0 by omega) (pAll1 (show (0 + ((-1) * ρ 2 + (1 * (fMV (wN h) (wB h) 1 0) + 0)) : Int) ≤ 0 by omega) (pAll1 (show (1 + ((-1) * ρ 2 + (1 * (fMV (wN h) (wB h) 1 3) + 0)) : Int) ≤ 0 by omega) (pAll1 (show (0 + ((-1) * ρ 2 + (1 * (fMV (wN h) (wB h) 2 0) + 0)) : Int) ≤ 0 by omega) (pAll1 (show (0 + (1 * ρ 2 + ((-1) * (fMV (wN h) (wB h) 2 3) + 0)) : Int) ≤ 0 by omega) (pAll0))))))))
              · exact pAll1 (pgP 951 (355 + 0) (by decide) (by decide +kernel) (by decide +kernel) 0 (show (0 + 0 : Int) = _ by omega) (show (0 + (1 * (fMV (wN h) (wB h) 0 0) + 0) : Int) = _ by omega)) (pAll1 (pgP 951 (355 + 0) (by decide) (by decide +kernel) (by decide +kernel) 3 (show (3 + 0 : Int) = _ by omega) (show (0 + (1 * (fMV (wN h) (wB h) 0 3) + 0) : Int) = _ by omega)) (pAll1 (pgP 952 (355 + 1) (by decide) (by decide +kernel) (by decide +kernel) 0 (show (0 + 0 : Int) = _ by omega) (show (0 + (1 * (fMV (wN h) (wB h) 1 0) + 0) : Int) = _ by omega)) (pAll1 (pgP 952 (355 + 1) (by decide) (by decide +kernel) (by decide +kernel) 3 (show (3 + 0 : Int) = _ by omega) (show (0 + (1 * (fMV (wN h) (wB h) 1 3) + 0) : Int) = _ by omega)) (pAll1 (pgP 953 (355 + 2) (by decide) (by decide +kernel) (by decide +kernel) 0 (show (0 + 0 : Int) = _ by omega) (show (0 + (1 * (fMV (wN h) (wB h) 2 0) + 0) : Int) = _ by omega)) (pAll1 (pgP 953 (355 + 2) (by decide) (by decide +kernel) (by decide +kernel) 3 (show (3 + 0 : Int) = _ by omega) (show (0 + (1 * (fMV (wN h) (wB h) 2 3) + 0) : Int) = _ by omega)) (pAll0))))))
          · have hw : ¬ fWh (wN h) (wB h) := fun z => g2 (z.2 2 (by omega)).1
            rw [yB_0 hw] at eW
            refine ⟨rWH6c_5, List.mem_of_getElem? (i := 5) rfl, pEnd [ρ 0, ρ 1, ρ 2, ρ 3, ρ 4, ρ 5, (fMV (wN h) (wB h) 0 0), (fMV (wN h) (wB h) 0 3), (fMV (wN h) (wB h) 1 0), (fMV (wN h) (wB h) 1 3), (fMV (wN h) (wB h) 2 0)] rfl ?_ ?_ ?_ ?_⟩
            · intro j hj
              match j, hj with
              | 0, _ => exact q0.symm
              | 1, _ => exact q1.symm
              | 2, _ => exact q2.symm
              | 3, _ => exact q3.symm
              | 4, _ => exact q4.symm
              | 5, _ => exact q5.symm
              | k + 6, hj => exact absurd hj (by show ¬ (k + 6 < 6); omega)
            · intro k b hk
              match k, hk with
              | 0, hk => cases hk; exact (show (0 : Int) ≤ (fMV (wN h) (wB h) 0 0) ∧ (fMV (wN h) (wB h) 0 0) ≤ (99 : Int) by omega)
              | 1, hk => cases hk; exact (show (0 : Int) ≤ (fMV (wN h) (wB h) 0 3) ∧ (fMV (wN h) (wB h) 0 3) ≤ (99 : Int) by omega)
              | 2, hk => cases hk; exact (show (0 : Int) ≤ (fMV (wN h) (wB h) 1 0) ∧ (fMV (wN h) (wB h) 1 0) ≤ (99 : Int) by omega)
              | 3, hk => cases hk; exact (show (0 : Int) ≤ (fMV (wN h) (wB h) 1 3) ∧ (fMV (wN h) (wB h) 1 3) ≤ (99 : Int) by omega)
              | 4, hk => cases hk; exact (show (0 : Int) ≤ (fMV (wN h) (wB h) 2 0) ∧ (fMV (wN h) (wB h) 2 0) ≤ (99 : Int) by omega)
              | k + 5, hk => cases hk
            · exact pAll1 (show (0 + (1 * ρ 4 + 0) : Int) ≤ 0 by omega) (pAll1 (show (0 + ((-1) * ρ 4 + 0) : Int) ≤ 0 by omega) (pAll1 (show (0 + ((-1) * ρ 2 + (1 * (fMV (wN h) (wB h) 0 0) + 0)) : Int) ≤ 0 by omega) (pAll1 (show (1 + ((-1) * ρ 2 + (1 * (fMV (wN h) (wB h) 0 3) + 0)) : Int) ≤ 0 by omega) (pAll1 (show (0 + ((-1) * ρ 2 + (1 * (fMV (wN h) (wB h) 1 0) + 0)) : Int) ≤ 0 by omega) (pAll1 (show (1 + ((-1) * ρ 2 + (1 * (fMV (wN h) (wB h) 1 3) + 0)) : Int) ≤ 0 by omega) (pAll1 (show (1 + (1 * ρ 2 + ((-1) * (fMV (wN h) (wB h) 2 0) + 0)) : Int) ≤ 0 by omega) (pAll0)))))))
            · exact pAll1 (pgP 951 (355 + 0) (by decide) (by decide +kernel) (by decide +kernel) 0 (show (0 + 0 : Int) = _ by omega) (show (0 + (1 * (fMV (wN h) (wB h) 0 0) + 0) : Int) = _ by omega)) (pAll1 (pgP 951 (355 + 0) (by decide) (by decide +kernel) (by decide +kernel) 3 (show (3 + 0 : Int) = _ by omega) (show (0 + (1 * (fMV (wN h) (wB h) 0 3) + 0) : Int) = _ by omega)) (pAll1 (pgP 952 (355 + 1) (by decide) (by decide +kernel) (by decide +kernel) 0 (show (0 + 0 : Int) = _ by omega) (show (0 + (1 * (fMV (wN h) (wB h) 1 0) + 0) : Int) = _ by omega)) (pAll1 (pgP 952 (355 + 1) (by decide) (by decide +kernel) (by decide +kernel) 3 (show (3 + 0 : Int) = _ by omega) (show (0 + (1 * (fMV (wN h) (wB h) 1 3) + 0) : Int) = _ by omega)) (pAll1 (pgP 953 (355 + 2) (by decide) (by decide +kernel) (by decide +kernel) 0 (show (0 + 0 : Int) = _ by omega) (show (0 + (1 * (fMV (wN h) (wB h) 2 0) + 0) : Int) = _ by omega)) (pAll0)))))
        · have hw : ¬ fWh (wN h) (wB h) := fun z => k1 (z.2 1 (by omega)).2
          rw [yB_0 hw] at eW
          refine ⟨rWH6c_4, List.mem_of_getElem? (i := 4) rfl, pEnd [ρ 0, ρ 1, ρ 2, ρ 3, ρ 4, ρ 5, (fMV (wN h) (wB h) 0 0), (fMV (wN h) (wB h) 0 3), (fMV (wN h) (wB h) 1 0), (fMV (wN h) (wB h) 1 3)] rfl ?_ ?_ ?_ ?_⟩
          · intro j hj
            match j, hj with
            | 0, _ => exact q0.symm
            | 1, _ => exact q1.symm
            | 2, _ => exact q2.symm
            | 3, _ => exact q3.symm
            | 4, _ => exact q4.symm
            | 5, _ => exact q5.symm
            | k + 6, hj => exact absurd hj (by show ¬ (k + 6 < 6); omega)
          · intro k b hk
            match k, hk with
            | 0, hk => cases hk; exact (show (0 : Int) ≤ (fMV (wN h) (wB h) 0 0) ∧ (fMV (wN h) (wB h) 0 0) ≤ (99 : Int) by omega)
            | 1, hk => cases hk; exact (show (0 : Int) ≤ (fMV (wN h) (wB h) 0 3) ∧ (fMV (wN h) (wB h) 0 3) ≤ (99 : Int) by omega)
            | 2, hk => cases hk; exact (show (0 : Int) ≤ (fMV (wN h) (wB h) 1 0) ∧ (fMV (wN h) (wB h) 1 0) ≤ (99 : Int) by omega)
            | 3, hk => cases hk; exact (show (0 : Int) ≤ (fMV (wN h) (wB h) 1 3) ∧ (fMV (wN h) (wB h) 1 3) ≤ (99 : Int) by omega)
            | k + 4, hk => cases hk
          · exact pAll1 (show (0 + (1 * ρ 4 + 0) : Int) ≤ 0 by omega) (pAll1 (show (0 + ((-1) * ρ 4 + 0) : Int) ≤ 0 by omega) (pAll1 (show (0 + ((-1) * ρ 2 + (1 * (fMV (wN h) (wB h) 0 0) + 0)) : Int) ≤ 0 by omega) (pAll1 (show (1 + ((-1) * ρ 2 + (1 * (fMV (wN h) (wB h) 0 3) + 0)) : Int) ≤ 0 by omega) (pAll1 (show (0 + ((-1) * ρ 2 + (1 * (fMV (wN h) (wB h) 1 0) + 0)) : Int) ≤ 0 by omega) (pAll1 (show (0 + (1 * ρ 2 + ((-1) * (fMV (wN h) (wB h) 1 3) + 0)) : Int) ≤ 0 by omega) (pAll0))))))
          · exact pAll1 (pgP 951 (355 + 0) (by decide) (by decide +kernel) (by decide +kernel) 0 (show (0 + 0 : Int) = _ by omega) (show (0 + (1 * (fMV (wN h) (wB h) 0 0) + 0) : Int) = _ by omega)) (pAll1 (pgP 951 (355 + 0) (by decide) (by decide +kernel) (by decide +kernel) 3 (show (3 + 0 : Int) = _ by omega) (show (0 + (1 * (fMV (wN h) (wB h) 0 3) + 0) : Int) = _ by omega)) (pAll1 (pgP 952 (355 + 1) (by decide) (by decide +kernel) (by decide +kernel) 0 (show (0 + 0 : Int) = _ by omega) (show (0 + (1 * (fMV (wN h) (wB h) 1 0) + 0) : Int) = _ by omega)) (pAll1 (pgP 952 (355 + 1) (by decide) (by decide +kernel) (by decide +kernel) 3 (show (3 + 0 : Int) = _ by omega) (show (0 + (1 * (fMV (wN h) (wB h) 1 3) + 0) : Int) = _ by omega)) (pAll0))))
      · have hw : ¬ fWh (wN h) (wB h) := fun z => g1 (z.2 1 (by omega)).1
        rw [yB_0 hw] at eW
        refine ⟨rWH6c_3, List.mem_of_getElem? (i := 3) rfl, pEnd [ρ 0, ρ 1, ρ 2, ρ 3, ρ 4, ρ 5, (fMV (wN h) (wB h) 0 0), (fMV (wN h) (wB h) 0 3), (fMV (wN h) (wB h) 1 0)] rfl ?_ ?_ ?_ ?_⟩
        · intro j hj
          match j, hj with
          | 0, _ => exact q0.symm
          | 1, _ => exact q1.symm
          | 2, _ => exact q2.symm
          | 3, _ => exact q3.symm
          | 4, _ => exact q4.symm
          | 5, _ => exact q5.symm
          | k + 6, hj => exact absurd hj (by show ¬ (k + 6 < 6); omega)
        · intro k b hk
          match k, hk with
          | 0, hk => cases hk; exact (show (0 : Int) ≤ (fMV (wN h) (wB h) 0 0) ∧ (fMV (wN h) (wB h) 0 0) ≤ (99 : Int) by omega)
          | 1, hk => cases hk; exact (show (0 : Int) ≤ (fMV (wN h) (wB h) 0 3) ∧ (fMV (wN h) (wB h) 0 3) ≤ (99 : Int) by omega)
          | 2, hk => cases hk; exact (show (0 : Int) ≤ (fMV (wN h) (wB h) 1 0) ∧ (fMV (wN h) (wB h) 1 0) ≤ (99 : Int) by omega)
          | k + 3, hk => cases hk
        · exact pAll1 (show (0 + (1 * ρ 4 + 0) : Int) ≤ 0 by omega) (pAll1 (show (0 + ((-1) * ρ 4 + 0) : Int) ≤ 0 by omega) (pAll1 (show (0 + ((-1) * ρ 2 + (1 * (fMV (wN h) (wB h) 0 0) + 0)) : Int) ≤ 0 by omega) (pAll1 (show (1 + ((-1) * ρ 2 + (1 * (fMV (wN h) (wB h) 0 3) + 0)) : Int) ≤ 0 by omega) (pAll1 (show (1 + (1 * ρ 2 + ((-1) * (fMV (wN h) (wB h) 1 0) + 0)) : Int) ≤ 0 by omega) (pAll0)))))
        · exact pAll1 (pgP 951 (355 + 0) (by decide) (by decide +kernel) (by decide +kernel) 0 (show (0 + 0 : Int) = _ by omega) (show (0 + (1 * (fMV (wN h) (wB h) 0 0) + 0) : Int) = _ by omega)) (pAll1 (pgP 951 (355 + 0) (by decide) (by decide +kernel) (by decide +kernel) 3 (show (3 + 0 : Int) = _ by omega) (show (0 + (1 * (fMV (wN h) (wB h) 0 3) + 0) : Int) = _ by omega)) (pAll1 (pgP 952 (355 + 1) (by decide) (by decide +kernel) (by decide +kernel) 0 (show (0 + 0 : Int) = _ by omega) (show (0 + (1 * (fMV (wN h) (wB h) 1 0) + 0) : Int) = _ by omega)) (pAll0)))
    · have hw : ¬ fWh (wN h) (wB h) := fun z => k0 (z.2 0 (by omega)).2
      rw [yB_0 hw] at eW
      refine ⟨rWH6c_2, List.mem_of_getElem? (i := 2) rfl, pEnd [ρ 0, ρ 1, ρ 2, ρ 3, ρ 4, ρ 5, (fMV (wN h) (wB h) 0 0), (fMV (wN h) (wB h) 0 3)] rfl ?_ ?_ ?_ ?_⟩
      · intro j hj
        match j, hj with
        | 0, _ => exact q0.symm
        | 1, _ => exact q1.symm
        | 2, _ => exact q2.symm
        | 3, _ => exact q3.symm
        | 4, _ => exact q4.symm
        | 5, _ => exact q5.symm
        | k + 6, hj => exact absurd hj (by show ¬ (k + 6 < 6); omega)
      · intro k b hk
        match k, hk with
        | 0, hk => cases hk; exact (show (0 : Int) ≤ (fMV (wN h) (wB h) 0 0) ∧ (fMV (wN h) (wB h) 0 0) ≤ (99 : Int) by omega)
        | 1, hk => cases hk; exact (show (0 : Int) ≤ (fMV (wN h) (wB h) 0 3) ∧ (fMV (wN h) (wB h) 0 3) ≤ (99 : Int) by omega)
        | k + 2, hk => cases hk
      · exact pAll1 (show (0 + (1 * ρ 4 + 0) : Int) ≤ 0 by omega) (pAll1 (show (0 + ((-1) * ρ 4 + 0) : Int) ≤ 0 by omega) (pAll1 (show (0 + ((-1) * ρ 2 + (1 * (fMV (wN h) (wB h) 0 0) + 0)) : Int) ≤ 0 by omega) (pAll1 (show (0 + (1 * ρ 2 + ((-1) * (fMV (wN h) (wB h) 0 3) + 0)) : Int) ≤ 0 by omega) (pAll0))))
      · exact pAll1 (pgP 951 (355 + 0) (by decide) (by decide +kernel) (by decide +kernel) 0 (show (0 + 0 : Int) = _ by omega) (show (0 + (1 * (fMV (wN h) (wB h) 0 0) + 0) : Int) = _ by omega)) (pAll1 (pgP 951 (355 + 0) (by decide) (by decide +kernel) (by decide +kernel) 3 (show (3 + 0 : Int) = _ by omega) (show (0 + (1 * (fMV (wN h) (wB h) 0 3) + 0) : Int) = _ by omega)) (pAll0))
  · have hw : ¬ fWh (wN h) (wB h) := fun z => g0 (z.2 0 (by omega)).1
    rw [yB_0 hw] at eW
    refine ⟨rWH6c_1, List.mem_of_getElem? (i := 1) rfl, pEnd [ρ 0, ρ 1, ρ 2, ρ 3, ρ 4, ρ 5, (fMV (wN h) (wB h) 0 0)] rfl ?_ ?_ ?_ ?_⟩
    · intro j hj
      match j, hj with
      | 0, _ => exact q0.symm
      | 1, _ => exact q1.symm
      | 2, _ => exact q2.symm
      | 3, _ => exact q3.symm
      | 4, _ => exact q4.symm
      | 5, _ => exact q5.symm
      | k + 6, hj => exact absurd hj (by show ¬ (k + 6 < 6); omega)
    · intro k b hk
      match k, hk with
      | 0, hk => cases hk; exact (show (0 : Int) ≤ (fMV (wN h) (wB h) 0 0) ∧ (fMV (wN h) (wB h) 0 0) ≤ (99 : Int) by omega)
      | k + 1, hk => cases hk
    · exact pAll1 (show (0 + (1 * ρ 4 + 0) : Int) ≤ 0 by omega) (pAll1 (show (0 + ((-1) * ρ 4 + 0) : Int) ≤ 0 by omega) (pAll1 (show (1 + (1 * ρ 2 + ((-1) * (fMV (wN h) (wB h) 0 0) + 0)) : Int) ≤ 0 by omega) (pAll0)))
    · exact pAll1 (pgP 951 (355 + 0) (by decide) (by decide +kernel) (by decide +kernel) 0 (show (0 + 0 : Int) = _ by omega) (show (0 + (1 * (fMV (wN h) (wB h) 0 0) + 0) : Int) = _ by omega)) (pAll0)
noncomputable def rRA0m_0 : sX := (none, [(1007, (0, []), (1, []))], [], [], [])
noncomputable def rRA0m : sQ := (0, ([], [(2, 98, (0, [])), (2, 98, (1, [])), (2, 98, (2, [])), (2, 98, (3, [])), (2, 538, (0, [])), (2, 538, (1, [])), (2, 538, (2, [])), (2, 538, (3, []))], [(0, 99), (0, 99), (0, 99), (0, 99), (0, 99), (0, 99), (0, 99), (0, 99)], [(0, [(0, 1), (4, (-1))]), (0, [(0, (-1)), (4, 1)]), (0, [(1, 1), (5, (-1))]), (0, [(1, (-1)), (5, 1)]), (0, [(2, 1), (6, (-1))]), (0, [(2, (-1)), (6, 1)]), (0, [(3, 1), (7, (-1))]), (0, [(3, (-1)), (7, 1)])], [(0, 0), (1, 1), (2, 2), (3, 3), (4, 4), (5, 5), (6, 6), (7, 7)], (0, [])), [rRA0m_0], [], 0)
theorem rRA0m_ok : pRul pReg pG pgv (rRA0m) := by
  intro loc h ρ ρ0 hG hM
  have hM : sMt pReg pgv ρ ρ0 (sAs (rRA0m).2.1) loc [] h := hM
  have q0 : ρ0 1 = ρ 0 := (hM.2.2.2.2.2 (1, sY 0) (List.mem_of_getElem? (i := 1) rfl)).trans (sY_v ρ 0)
  have q1 : ρ0 2 = ρ 1 := (hM.2.2.2.2.2 (2, sY 1) (List.mem_of_getElem? (i := 2) rfl)).trans (sY_v ρ 1)
  have q2 : ρ0 3 = ρ 2 := (hM.2.2.2.2.2 (3, sY 2) (List.mem_of_getElem? (i := 3) rfl)).trans (sY_v ρ 2)
  have q3 : ρ0 4 = ρ 3 := (hM.2.2.2.2.2 (4, sY 3) (List.mem_of_getElem? (i := 4) rfl)).trans (sY_v ρ 3)
  have q4 : ρ0 5 = ρ 4 := (hM.2.2.2.2.2 (5, sY 4) (List.mem_of_getElem? (i := 5) rfl)).trans (sY_v ρ 4)
  have q5 : ρ0 6 = ρ 5 := (hM.2.2.2.2.2 (6, sY 5) (List.mem_of_getElem? (i := 6) rfl)).trans (sY_v ρ 5)
  have q6 : ρ0 7 = ρ 6 := (hM.2.2.2.2.2 (7, sY 6) (List.mem_of_getElem? (i := 7) rfl)).trans (sY_v ρ 6)
  have q7 : ρ0 8 = ρ 7 := (hM.2.2.2.2.2 (8, sY 7) (List.mem_of_getElem? (i := 8) rfl)).trans (sY_v ρ 7)
  have hL : ∀ j, j < 8 → pL [ρ 0, ρ 1, ρ 2, ρ 3, ρ 4, ρ 5, ρ 6, ρ 7] j = ρ0 (j + 1) := by
    intro j hj
    match j, hj with
    | 0, _ => exact q0.symm
    | 1, _ => exact q1.symm
    | 2, _ => exact q2.symm
    | 3, _ => exact q3.symm
    | 4, _ => exact q4.symm
    | 5, _ => exact q5.symm
    | 6, _ => exact q6.symm
    | 7, _ => exact q7.symm
    | k + 8, hj => omega
  have b0 : (0 : Int) ≤ ρ 0 ∧ ρ 0 ≤ 99 := hM.2.2.2.1 0 (0, 99) rfl
  have b1 : (0 : Int) ≤ ρ 1 ∧ ρ 1 ≤ 99 := hM.2.2.2.1 1 (0, 99) rfl
  have b2 : (0 : Int) ≤ ρ 2 ∧ ρ 2 ≤ 99 := hM.2.2.2.1 2 (0, 99) rfl
  have b3 : (0 : Int) ≤ ρ 3 ∧ ρ 3 ≤ 99 := hM.2.2.2.1 3 (0, 99) rfl
  have b4 : (0 : Int) ≤ ρ 4 ∧ ρ 4 ≤ 99 := hM.2.2.2.1 4 (0, 99) rfl
  have b5 : (0 : Int) ≤ ρ 5 ∧ ρ 5 ≤ 99 := hM.2.2.2.1 5 (0, 99) rfl
  have b6 : (0 : Int) ≤ ρ 6 ∧ ρ 6 ≤ 99 := hM.2.2.2.1 6 (0, 99) rfl
  have b7 : (0 : Int) ≤ ρ 7 ∧ ρ 7 ≤ 99 := hM.2.2.2.1 7 (0, 99) rfl
  have c0 : (0 + (1 * ρ 0 + ((-1) * ρ 4 + 0)) : Int) ≤ 0 := hM.2.2.2.2.1 (0, [(0, 1), (4, (-1))]) (List.mem_of_getElem? (i := 0) rfl)
  have c1 : (0 + ((-1) * ρ 0 + (1 * ρ 4 + 0)) : Int) ≤ 0 := hM.2.2.2.2.1 (0, [(0, (-1)), (4, 1)]) (List.mem_of_getElem? (i := 1) rfl)
  have c2 : (0 + (1 * ρ 1 + ((-1) * ρ 5 + 0)) : Int) ≤ 0 := hM.2.2.2.2.1 (0, [(1, 1), (5, (-1))]) (List.mem_of_getElem? (i := 2) rfl)
  have c3 : (0 + ((-1) * ρ 1 + (1 * ρ 5 + 0)) : Int) ≤ 0 := hM.2.2.2.2.1 (0, [(1, (-1)), (5, 1)]) (List.mem_of_getElem? (i := 3) rfl)
  have c4 : (0 + (1 * ρ 2 + ((-1) * ρ 6 + 0)) : Int) ≤ 0 := hM.2.2.2.2.1 (0, [(2, 1), (6, (-1))]) (List.mem_of_getElem? (i := 4) rfl)
  have c5 : (0 + ((-1) * ρ 2 + (1 * ρ 6 + 0)) : Int) ≤ 0 := hM.2.2.2.2.1 (0, [(2, (-1)), (6, 1)]) (List.mem_of_getElem? (i := 5) rfl)
  have c6 : (0 + (1 * ρ 3 + ((-1) * ρ 7 + 0)) : Int) ≤ 0 := hM.2.2.2.2.1 (0, [(3, 1), (7, (-1))]) (List.mem_of_getElem? (i := 6) rfl)
  have c7 : (0 + ((-1) * ρ 3 + (1 * ρ 7 + 0)) : Int) ≤ 0 := hM.2.2.2.2.1 (0, [(3, (-1)), (7, 1)]) (List.mem_of_getElem? (i := 7) rfl)
  have z0 : (h.1 (418) 0).toInt = ρ 0 := pPl hM 0 98 (0, []) rfl (by decide) (418) 0 (by decide +kernel) rfl
  have t0 : (h.1 538 0).toInt = ρ 4 := pPl hM 4 538 (0, []) rfl (by decide) 538 0 (by decide +kernel) rfl
  have z1 : (h.1 (418) 1).toInt = ρ 1 := pPl hM 1 98 (1, []) rfl (by decide) (418) 1 (by decide +kernel) rfl
  have t1 : (h.1 538 1).toInt = ρ 5 := pPl hM 5 538 (1, []) rfl (by decide) 538 1 (by decide +kernel) rfl
  have z2 : (h.1 (418) 2).toInt = ρ 2 := pPl hM 2 98 (2, []) rfl (by decide) (418) 2 (by decide +kernel) rfl
  have t2 : (h.1 538 2).toInt = ρ 6 := pPl hM 6 538 (2, []) rfl (by decide) 538 2 (by decide +kernel) rfl
  have z3 : (h.1 (418) 3).toInt = ρ 3 := pPl hM 3 98 (3, []) rfl (by decide) (418) 3 (by decide +kernel) rfl
  have t3 : (h.1 538 3).toInt = ρ 7 := pPl hM 7 538 (3, []) rfl (by decide) 538 3 (by decide +kernel) rfl
  have hn : aM 1 h := by
    intro i k hi hk
    obtain rfl : i = 0 := by omega
    rcases (show k = 0 ∨ k = 1 ∨ k = 2 ∨ k = 3 by omega) with rfl | rfl | rfl | rfl
    · exact z0.trans ((show ρ 0 = ρ 4 by omega).trans t0.symm)
    · exact z1.trans ((show ρ 1 = ρ 5 by omega).trans t1.symm)
    · exact z2.trans ((show ρ 2 = ρ 6 by omega).trans t2.symm)
    · exact z3.trans ((show ρ 3 = ρ 7 by omega).trans t3.symm)
  refine ⟨rRA0m_0, List.mem_of_getElem? (i := 0) rfl, pEnd [ρ 0, ρ 1, ρ 2, ρ 3, ρ 4, ρ 5, ρ 6, ρ 7] rfl ?_ ?_ ?_ ?_⟩
  · exact hL
  · intro k b hk
    cases hk
  · exact pAll0
  · exact pAll1 (pgTl 7 (show pgv 7 h = (1 + 0 : Int) by rw [pgv_M (a := 1) (by decide), yB_1.mpr hn]; rfl)) (pAll0)
noncomputable def rRA1m_0 : sX := (none, [(1008, (0, []), (1, []))], [], [], [])
noncomputable def rRA1m : sQ := (0, ([], [(2, 1007, (0, [])), (2, 98, (4, [])), (2, 98, (5, [])), (2, 98, (6, [])), (2, 98, (7, [])), (2, 538, (4, [])), (2, 538, (5, [])), (2, 538, (6, [])), (2, 538, (7, []))], [(1, 1), (0, 99), (0, 99), (0, 99), (0, 99), (0, 99), (0, 99), (0, 99), (0, 99)], [(0, [(1, 1), (5, (-1))]), (0, [(1, (-1)), (5, 1)]), (0, [(2, 1), (6, (-1))]), (0, [(2, (-1)), (6, 1)]), (0, [(3, 1), (7, (-1))]), (0, [(3, (-1)), (7, 1)]), (0, [(4, 1), (8, (-1))]), (0, [(4, (-1)), (8, 1)])], [(0, 0), (1, 1), (2, 2), (3, 3), (4, 4), (5, 5), (6, 6), (7, 7), (8, 8)], (0, [])), [rRA1m_0], [], 0)
theorem rRA1m_ok : pRul pReg pG pgv (rRA1m) := by
  intro loc h ρ ρ0 hG hM
  have hM : sMt pReg pgv ρ ρ0 (sAs (rRA1m).2.1) loc [] h := hM
  have q0 : ρ0 1 = ρ 0 := (hM.2.2.2.2.2 (1, sY 0) (List.mem_of_getElem? (i := 1) rfl)).trans (sY_v ρ 0)
  have q1 : ρ0 2 = ρ 1 := (hM.2.2.2.2.2 (2, sY 1) (List.mem_of_getElem? (i := 2) rfl)).trans (sY_v ρ 1)
  have q2 : ρ0 3 = ρ 2 := (hM.2.2.2.2.2 (3, sY 2) (List.mem_of_getElem? (i := 3) rfl)).trans (sY_v ρ 2)
  have q3 : ρ0 4 = ρ 3 := (hM.2.2.2.2.2 (4, sY 3) (List.mem_of_getElem? (i := 4) rfl)).trans (sY_v ρ 3)
  have q4 : ρ0 5 = ρ 4 := (hM.2.2.2.2.2 (5, sY 4) (List.mem_of_getElem? (i := 5) rfl)).trans (sY_v ρ 4)
  have q5 : ρ0 6 = ρ 5 := (hM.2.2.2.2.2 (6, sY 5) (List.mem_of_getElem? (i := 6) rfl)).trans (sY_v ρ 5)
  have q6 : ρ0 7 = ρ 6 := (hM.2.2.2.2.2 (7, sY 6) (List.mem_of_getElem? (i := 7) rfl)).trans (sY_v ρ 6)
  have q7 : ρ0 8 = ρ 7 := (hM.2.2.2.2.2 (8, sY 7) (List.mem_of_getElem? (i := 8) rfl)).trans (sY_v ρ 7)
  have q8 : ρ0 9 = ρ 8 := (hM.2.2.2.2.2 (9, sY 8) (List.mem_of_getElem? (i := 9) rfl)).trans (sY_v ρ 8)
  have hL : ∀ j, j < 9 → pL [ρ 0, ρ 1, ρ 2, ρ 3, ρ 4, ρ 5, ρ 6, ρ 7, ρ 8] j = ρ0 (j + 1) := by
    intro j hj
    match j, hj with
    | 0, _ => exact q0.symm
    | 1, _ => exact q1.symm
    | 2, _ => exact q2.symm
    | 3, _ => exact q3.symm
    | 4, _ => exact q4.symm
    | 5, _ => exact q5.symm
    | 6, _ => exact q6.symm
    | 7, _ => exact q7.symm
    | 8, _ => exact q8.symm
    | k + 9, hj => omega
  have b0 : (1 : Int) ≤ ρ 0 ∧ ρ 0 ≤ 1 := hM.2.2.2.1 0 (1, 1) rfl
  have b1 : (0 : Int) ≤ ρ 1 ∧ ρ 1 ≤ 99 := hM.2.2.2.1 1 (0, 99) rfl
  have b2 : (0 : Int) ≤ ρ 2 ∧ ρ 2 ≤ 99 := hM.2.2.2.1 2 (0, 99) rfl
  have b3 : (0 : Int) ≤ ρ 3 ∧ ρ 3 ≤ 99 := hM.2.2.2.1 3 (0, 99) rfl
  have b4 : (0 : Int) ≤ ρ 4 ∧ ρ 4 ≤ 99 := hM.2.2.2.1 4 (0, 99) rfl
  have b5 : (0 : Int) ≤ ρ 5 ∧ ρ 5 ≤ 99 := hM.2.2.2.1 5 (0, 99) rfl
  have b6 : (0 : Int) ≤ ρ 6 ∧ ρ 6 ≤ 99 := hM.2.2.2.1 6 (0, 99) rfl
  have b7 : (0 : Int) ≤ ρ 7 ∧ ρ 7 ≤ 99 := hM.2.2.2.1 7 (0, 99) rfl
  have b8 : (0 : Int) ≤ ρ 8 ∧ ρ 8 ≤ 99 := hM.2.2.2.1 8 (0, 99) rfl
  have c0 : (0 + (1 * ρ 1 + ((-1) * ρ 5 + 0)) : Int) ≤ 0 := hM.2.2.2.2.1 (0, [(1, 1), (5, (-1))]) (List.mem_of_getElem? (i := 0) rfl)
  have c1 : (0 + ((-1) * ρ 1 + (1 * ρ 5 + 0)) : Int) ≤ 0 := hM.2.2.2.2.1 (0, [(1, (-1)), (5, 1)]) (List.mem_of_getElem? (i := 1) rfl)
  have c2 : (0 + (1 * ρ 2 + ((-1) * ρ 6 + 0)) : Int) ≤ 0 := hM.2.2.2.2.1 (0, [(2, 1), (6, (-1))]) (List.mem_of_getElem? (i := 2) rfl)
  have c3 : (0 + ((-1) * ρ 2 + (1 * ρ 6 + 0)) : Int) ≤ 0 := hM.2.2.2.2.1 (0, [(2, (-1)), (6, 1)]) (List.mem_of_getElem? (i := 3) rfl)
  have c4 : (0 + (1 * ρ 3 + ((-1) * ρ 7 + 0)) : Int) ≤ 0 := hM.2.2.2.2.1 (0, [(3, 1), (7, (-1))]) (List.mem_of_getElem? (i := 4) rfl)
  have c5 : (0 + ((-1) * ρ 3 + (1 * ρ 7 + 0)) : Int) ≤ 0 := hM.2.2.2.2.1 (0, [(3, (-1)), (7, 1)]) (List.mem_of_getElem? (i := 5) rfl)
  have c6 : (0 + (1 * ρ 4 + ((-1) * ρ 8 + 0)) : Int) ≤ 0 := hM.2.2.2.2.1 (0, [(4, 1), (8, (-1))]) (List.mem_of_getElem? (i := 6) rfl)
  have c7 : (0 + ((-1) * ρ 4 + (1 * ρ 8 + 0)) : Int) ≤ 0 := hM.2.2.2.2.1 (0, [(4, (-1)), (8, 1)]) (List.mem_of_getElem? (i := 7) rfl)
  have ha : aM 1 h := pToldM hM 0 1 (by decide) (0, []) rfl b0.1
  have z0 : (h.1 (418) 4).toInt = ρ 1 := pPl hM 1 98 (4, []) rfl (by decide) (418) 4 (by decide +kernel) rfl
  have t0 : (h.1 538 4).toInt = ρ 5 := pPl hM 5 538 (4, []) rfl (by decide) 538 4 (by decide +kernel) rfl
  have z1 : (h.1 (418) 5).toInt = ρ 2 := pPl hM 2 98 (5, []) rfl (by decide) (418) 5 (by decide +kernel) rfl
  have t1 : (h.1 538 5).toInt = ρ 6 := pPl hM 6 538 (5, []) rfl (by decide) 538 5 (by decide +kernel) rfl
  have z2 : (h.1 (418) 6).toInt = ρ 3 := pPl hM 3 98 (6, []) rfl (by decide) (418) 6 (by decide +kernel) rfl
  have t2 : (h.1 538 6).toInt = ρ 7 := pPl hM 7 538 (6, []) rfl (by decide) 538 6 (by decide +kernel) rfl
  have z3 : (h.1 (418) 7).toInt = ρ 4 := pPl hM 4 98 (7, []) rfl (by decide) (418) 7 (by decide +kernel) rfl
  have t3 : (h.1 538 7).toInt = ρ 8 := pPl hM 8 538 (7, []) rfl (by decide) 538 7 (by decide +kernel) rfl
  have hn : aM 2 h := by
    intro i k hi hk
    by_cases q : i < 1
    · exact ha i k q hk
    obtain rfl : i = 1 := by omega
    rcases (show k = 0 ∨ k = 1 ∨ k = 2 ∨ k = 3 by omega) with rfl | rfl | rfl | rfl
    · exact z0.trans ((show ρ 1 = ρ 5 by omega).trans t0.symm)
    · exact z1.trans ((show ρ 2 = ρ 6 by omega).trans t1.symm)
    · exact z2.trans ((show ρ 3 = ρ 7 by omega).trans t2.symm)
    · exact z3.trans ((show ρ 4 = ρ 8 by omega).trans t3.symm)
  refine ⟨rRA1m_0, List.mem_of_getElem? (i := 0) rfl, pEnd [ρ 0, ρ 1, ρ 2, ρ 3, ρ 4, ρ 5, ρ 6, ρ 7, ρ 8] rfl ?_ ?_ ?_ ?_⟩
  · exact hL
  · intro k b hk
    cases hk
  · exact pAll0
  · exact pAll1 (pgTl 8 (show pgv 8 h = (1 + 0 : Int) by rw [pgv_M (a := 2) (by decide), yB_1.mpr hn]; rfl)) (pAll0)
noncomputable def rRA2m_0 : sX := (none, [(1009, (0, []), (1, []))], [], [], [])
noncomputable def rRA2m : sQ := (0, ([], [(2, 1008, (0, [])), (2, 98, (8, [])), (2, 98, (9, [])), (2, 98, (10, [])), (2, 98, (11, [])), (2, 538, (8, [])), (2, 538, (9, [])), (2, 538, (10, [])), (2, 538, (11, []))], [(1, 1), (0, 99), (0, 99), (0, 99), (0, 99), (0, 99), (0, 99), (0, 99), (0, 99)], [(0, [(1, 1), (5, (-1))]), (0, [(1, (-1)), (5, 1)]), (0, [(2, 1), (6, (-1))]), (0, [(2, (-1)), (6, 1)]), (0, [(3, 1), (7, (-1))]), (0, [(3, (-1)), (7, 1)]), (0, [(4, 1), (8, (-1))]), (0, [(4, (-1)), (8, 1)])], [(0, 0), (1, 1), (2, 2), (3, 3), (4, 4), (5, 5), (6, 6), (7, 7), (8, 8)], (0, [])), [rRA2m_0], [], 0)
theorem rRA2m_ok : pRul pReg pG pgv (rRA2m) := by
  intro loc h ρ ρ0 hG hM
  have hM : sMt pReg pgv ρ ρ0 (sAs (rRA2m).2.1) loc [] h := hM
  have q0 : ρ0 1 = ρ 0 := (hM.2.2.2.2.2 (1, sY 0) (List.mem_of_getElem? (i := 1) rfl)).trans (sY_v ρ 0)
  have q1 : ρ0 2 = ρ 1 := (hM.2.2.2.2.2 (2, sY 1) (List.mem_of_getElem? (i := 2) rfl)).trans (sY_v ρ 1)
  have q2 : ρ0 3 = ρ 2 := (hM.2.2.2.2.2 (3, sY 2) (List.mem_of_getElem? (i := 3) rfl)).trans (sY_v ρ 2)
  have q3 : ρ0 4 = ρ 3 := (hM.2.2.2.2.2 (4, sY 3) (List.mem_of_getElem? (i := 4) rfl)).trans (sY_v ρ 3)
  have q4 : ρ0 5 = ρ 4 := (hM.2.2.2.2.2 (5, sY 4) (List.mem_of_getElem? (i := 5) rfl)).trans (sY_v ρ 4)
  have q5 : ρ0 6 = ρ 5 := (hM.2.2.2.2.2 (6, sY 5) (List.mem_of_getElem? (i := 6) rfl)).trans (sY_v ρ 5)
  have q6 : ρ0 7 = ρ 6 := (hM.2.2.2.2.2 (7, sY 6) (List.mem_of_getElem? (i := 7) rfl)).trans (sY_v ρ 6)
  have q7 : ρ0 8 = ρ 7 := (hM.2.2.2.2.2 (8, sY 7) (List.mem_of_getElem? (i := 8) rfl)).trans (sY_v ρ 7)
  have q8 : ρ0 9 = ρ 8 := (hM.2.2.2.2.2 (9, sY 8) (List.mem_of_getElem? (i := 9) rfl)).trans (sY_v ρ 8)
  have hL : ∀ j, j < 9 → pL [ρ 0, ρ 1, ρ 2, ρ 3, ρ 4, ρ 5, ρ 6, ρ 7, ρ 8] j = ρ0 (j + 1) := by
    intro j hj
    match j, hj with
    | 0, _ => exact q0.symm
    | 1, _ => exact q1.symm
    | 2, _ => exact q2.symm
    | 3, _ => exact q3.symm
    | 4, _ => exact q4.symm
    | 5, _ => exact q5.symm
    | 6, _ => exact q6.symm
    | 7, _ => exact q7.symm
    | 8, _ => exact q8.symm
    | k + 9, hj => omega
  have b0 : (1 : Int) ≤ ρ 0 ∧ ρ 0 ≤ 1 := hM.2.2.2.1 0 (1, 1) rfl
  have b1 : (0 : Int) ≤ ρ 1 ∧ ρ 1 ≤ 99 := hM.2.2.2.1 1 (0, 99) rfl
  have b2 : (0 : Int) ≤ ρ 2 ∧ ρ 2 ≤ 99 := hM.2.2.2.1 2 (0, 99) rfl
  have b3 : (0 : Int) ≤ ρ 3 ∧ ρ 3 ≤ 99 := hM.2.2.2.1 3 (0, 99) rfl
  have b4 : (0 : Int) ≤ ρ 4 ∧ ρ 4 ≤ 99 := hM.2.2.2.1 4 (0, 99) rfl
  have b5 : (0 : Int) ≤ ρ 5 ∧ ρ 5 ≤ 99 := hM.2.2.2.1 5 (0, 99) rfl
  have b6 : (0 : Int) ≤ ρ 6 ∧ ρ 6 ≤ 99 := hM.2.2.2.1 6 (0, 99) rfl
  have b7 : (0 : Int) ≤ ρ 7 ∧ ρ 7 ≤ 99 := hM.2.2.2.1 7 (0, 99) rfl
  have b8 : (0 : Int) ≤ ρ 8 ∧ ρ 8 ≤ 99 := hM.2.2.2.1 8 (0, 99) rfl
  have c0 : (0 + (1 * ρ 1 + ((-1) * ρ 5 + 0)) : Int) ≤ 0 := hM.2.2.2.2.1 (0, [(1, 1), (5, (-1))]) (List.mem_of_getElem? (i := 0) rfl)
  have c1 : (0 + ((-1) * ρ 1 + (1 * ρ 5 + 0)) : Int) ≤ 0 := hM.2.2.2.2.1 (0, [(1, (-1)), (5, 1)]) (List.mem_of_getElem? (i := 1) rfl)
  have c2 : (0 + (1 * ρ 2 + ((-1) * ρ 6 + 0)) : Int) ≤ 0 := hM.2.2.2.2.1 (0, [(2, 1), (6, (-1))]) (List.mem_of_getElem? (i := 2) rfl)
  have c3 : (0 + ((-1) * ρ 2 + (1 * ρ 6 + 0)) : Int) ≤ 0 := hM.2.2.2.2.1 (0, [(2, (-1)), (6, 1)]) (List.mem_of_getElem? (i := 3) rfl)
  have c4 : (0 + (1 * ρ 3 + ((-1) * ρ 7 + 0)) : Int) ≤ 0 := hM.2.2.2.2.1 (0, [(3, 1), (7, (-1))]) (List.mem_of_getElem? (i := 4) rfl)
  have c5 : (0 + ((-1) * ρ 3 + (1 * ρ 7 + 0)) : Int) ≤ 0 := hM.2.2.2.2.1 (0, [(3, (-1)), (7, 1)]) (List.mem_of_getElem? (i := 5) rfl)
  have c6 : (0 + (1 * ρ 4 + ((-1) * ρ 8 + 0)) : Int) ≤ 0 := hM.2.2.2.2.1 (0, [(4, 1), (8, (-1))]) (List.mem_of_getElem? (i := 6) rfl)
  have c7 : (0 + ((-1) * ρ 4 + (1 * ρ 8 + 0)) : Int) ≤ 0 := hM.2.2.2.2.1 (0, [(4, (-1)), (8, 1)]) (List.mem_of_getElem? (i := 7) rfl)
  have ha : aM 2 h := pToldM hM 0 2 (by decide) (0, []) rfl b0.1
  have z0 : (h.1 (418) 8).toInt = ρ 1 := pPl hM 1 98 (8, []) rfl (by decide) (418) 8 (by decide +kernel) rfl
  have t0 : (h.1 538 8).toInt = ρ 5 := pPl hM 5 538 (8, []) rfl (by decide) 538 8 (by decide +kernel) rfl
  have z1 : (h.1 (418) 9).toInt = ρ 2 := pPl hM 2 98 (9, []) rfl (by decide) (418) 9 (by decide +kernel) rfl
  have t1 : (h.1 538 9).toInt = ρ 6 := pPl hM 6 538 (9, []) rfl (by decide) 538 9 (by decide +kernel) rfl
  have z2 : (h.1 (418) 10).toInt = ρ 3 := pPl hM 3 98 (10, []) rfl (by decide) (418) 10 (by decide +kernel) rfl
  have t2 : (h.1 538 10).toInt = ρ 7 := pPl hM 7 538 (10, []) rfl (by decide) 538 10 (by decide +kernel) rfl
  have z3 : (h.1 (418) 11).toInt = ρ 4 := pPl hM 4 98 (11, []) rfl (by decide) (418) 11 (by decide +kernel) rfl
  have t3 : (h.1 538 11).toInt = ρ 8 := pPl hM 8 538 (11, []) rfl (by decide) 538 11 (by decide +kernel) rfl
  have hn : aM 3 h := by
    intro i k hi hk
    by_cases q : i < 2
    · exact ha i k q hk
    obtain rfl : i = 2 := by omega
    rcases (show k = 0 ∨ k = 1 ∨ k = 2 ∨ k = 3 by omega) with rfl | rfl | rfl | rfl
    · exact z0.trans ((show ρ 1 = ρ 5 by omega).trans t0.symm)
    · exact z1.trans ((show ρ 2 = ρ 6 by omega).trans t1.symm)
    · exact z2.trans ((show ρ 3 = ρ 7 by omega).trans t2.symm)
    · exact z3.trans ((show ρ 4 = ρ 8 by omega).trans t3.symm)
  refine ⟨rRA2m_0, List.mem_of_getElem? (i := 0) rfl, pEnd [ρ 0, ρ 1, ρ 2, ρ 3, ρ 4, ρ 5, ρ 6, ρ 7, ρ 8] rfl ?_ ?_ ?_ ?_⟩
  · exact hL
  · intro k b hk
    cases hk
  · exact pAll0
  · exact pAll1 (pgTl 9 (show pgv 9 h = (1 + 0 : Int) by rw [pgv_M (a := 3) (by decide), yB_1.mpr hn]; rfl)) (pAll0)
noncomputable def rRA3m_0 : sX := (none, [(1010, (0, []), (1, []))], [], [], [])
noncomputable def rRA3m : sQ := (0, ([], [(2, 1009, (0, [])), (2, 98, (12, [])), (2, 98, (13, [])), (2, 98, (14, [])), (2, 98, (15, [])), (2, 538, (12, [])), (2, 538, (13, [])), (2, 538, (14, [])), (2, 538, (15, []))], [(1, 1), (0, 99), (0, 99), (0, 99), (0, 99), (0, 99), (0, 99), (0, 99), (0, 99)], [(0, [(1, 1), (5, (-1))]), (0, [(1, (-1)), (5, 1)]), (0, [(2, 1), (6, (-1))]), (0, [(2, (-1)), (6, 1)]), (0, [(3, 1), (7, (-1))]), (0, [(3, (-1)), (7, 1)]), (0, [(4, 1), (8, (-1))]), (0, [(4, (-1)), (8, 1)])], [(0, 0), (1, 1), (2, 2), (3, 3), (4, 4), (5, 5), (6, 6), (7, 7), (8, 8)], (0, [])), [rRA3m_0], [], 0)
theorem rRA3m_ok : pRul pReg pG pgv (rRA3m) := by
  intro loc h ρ ρ0 hG hM
  have hM : sMt pReg pgv ρ ρ0 (sAs (rRA3m).2.1) loc [] h := hM
  have q0 : ρ0 1 = ρ 0 := (hM.2.2.2.2.2 (1, sY 0) (List.mem_of_getElem? (i := 1) rfl)).trans (sY_v ρ 0)
  have q1 : ρ0 2 = ρ 1 := (hM.2.2.2.2.2 (2, sY 1) (List.mem_of_getElem? (i := 2) rfl)).trans (sY_v ρ 1)
  have q2 : ρ0 3 = ρ 2 := (hM.2.2.2.2.2 (3, sY 2) (List.mem_of_getElem? (i := 3) rfl)).trans (sY_v ρ 2)
  have q3 : ρ0 4 = ρ 3 := (hM.2.2.2.2.2 (4, sY 3) (List.mem_of_getElem? (i := 4) rfl)).trans (sY_v ρ 3)
  have q4 : ρ0 5 = ρ 4 := (hM.2.2.2.2.2 (5, sY 4) (List.mem_of_getElem? (i := 5) rfl)).trans (sY_v ρ 4)
  have q5 : ρ0 6 = ρ 5 := (hM.2.2.2.2.2 (6, sY 5) (List.mem_of_getElem? (i := 6) rfl)).trans (sY_v ρ 5)
  have q6 : ρ0 7 = ρ 6 := (hM.2.2.2.2.2 (7, sY 6) (List.mem_of_getElem? (i := 7) rfl)).trans (sY_v ρ 6)
  have q7 : ρ0 8 = ρ 7 := (hM.2.2.2.2.2 (8, sY 7) (List.mem_of_getElem? (i := 8) rfl)).trans (sY_v ρ 7)
  have q8 : ρ0 9 = ρ 8 := (hM.2.2.2.2.2 (9, sY 8) (List.mem_of_getElem? (i := 9) rfl)).trans (sY_v ρ 8)
  have hL : ∀ j, j < 9 → pL [ρ 0, ρ 1, ρ 2, ρ 3, ρ 4, ρ 5, ρ 6, ρ 7, ρ 8] j = ρ0 (j + 1) := by
    intro j hj
    match j, hj with
    | 0, _ => exact q0.symm
    | 1, _ => exact q1.symm
    | 2, _ => exact q2.symm
    | 3, _ => exact q3.symm
    | 4, _ => exact q4.symm
    | 5, _ => exact q5.symm
    | 6, _ => exact q6.symm
    | 7, _ => exact q7.symm
    | 8, _ => exact q8.symm
    | k + 9, hj => omega
  have b0 : (1 : Int) ≤ ρ 0 ∧ ρ 0 ≤ 1 := hM.2.2.2.1 0 (1, 1) rfl
  have b1 : (0 : Int) ≤ ρ 1 ∧ ρ 1 ≤ 99 := hM.2.2.2.1 1 (0, 99) rfl
  have b2 : (0 : Int) ≤ ρ 2 ∧ ρ 2 ≤ 99 := hM.2.2.2.1 2 (0, 99) rfl
  have b3 : (0 : Int) ≤ ρ 3 ∧ ρ 3 ≤ 99 := hM.2.2.2.1 3 (0, 99) rfl
  have b4 : (0 : Int) ≤ ρ 4 ∧ ρ 4 ≤ 99 := hM.2.2.2.1 4 (0, 99) rfl
  have b5 : (0 : Int) ≤ ρ 5 ∧ ρ 5 ≤ 99 := hM.2.2.2.1 5 (0, 99) rfl
  have b6 : (0 : Int) ≤ ρ 6 ∧ ρ 6 ≤ 99 := hM.2.2.2.1 6 (0, 99) rfl
  have b7 : (0 : Int) ≤ ρ 7 ∧ ρ 7 ≤ 99 := hM.2.2.2.1 7 (0, 99) rfl
  have b8 : (0 : Int) ≤ ρ 8 ∧ ρ 8 ≤ 99 := hM.2.2.2.1 8 (0, 99) rfl
  have c0 : (0 + (1 * ρ 1 + ((-1) * ρ 5 + 0)) : Int) ≤ 0 := hM.2.2.2.2.1 (0, [(1, 1), (5, (-1))]) (List.mem_of_getElem? (i := 0) rfl)
  have c1 : (0 + ((-1) * ρ 1 + (1 * ρ 5 + 0)) : Int) ≤ 0 := hM.2.2.2.2.1 (0, [(1, (-1)), (5, 1)]) (List.mem_of_getElem? (i := 1) rfl)
  have c2 : (0 + (1 * ρ 2 + ((-1) * ρ 6 + 0)) : Int) ≤ 0 := hM.2.2.2.2.1 (0, [(2, 1), (6, (-1))]) (List.mem_of_getElem? (i := 2) rfl)
  have c3 : (0 + ((-1) * ρ 2 + (1 * ρ 6 + 0)) : Int) ≤ 0 := hM.2.2.2.2.1 (0, [(2, (-1)), (6, 1)]) (List.mem_of_getElem? (i := 3) rfl)
  have c4 : (0 + (1 * ρ 3 + ((-1) * ρ 7 + 0)) : Int) ≤ 0 := hM.2.2.2.2.1 (0, [(3, 1), (7, (-1))]) (List.mem_of_getElem? (i := 4) rfl)
  have c5 : (0 + ((-1) * ρ 3 + (1 * ρ 7 + 0)) : Int) ≤ 0 := hM.2.2.2.2.1 (0, [(3, (-1)), (7, 1)]) (List.mem_of_getElem? (i := 5) rfl)
  have c6 : (0 + (1 * ρ 4 + ((-1) * ρ 8 + 0)) : Int) ≤ 0 := hM.2.2.2.2.1 (0, [(4, 1), (8, (-1))]) (List.mem_of_getElem? (i := 6) rfl)
  have c7 : (0 + ((-1) * ρ 4 + (1 * ρ 8 + 0)) : Int) ≤ 0 := hM.2.2.2.2.1 (0, [(4, (-1)), (8, 1)]) (List.mem_of_getElem? (i := 7) rfl)
  have ha : aM 3 h := pToldM hM 0 3 (by decide) (0, []) rfl b0.1
  have z0 : (h.1 (418) 12).toInt = ρ 1 := pPl hM 1 98 (12, []) rfl (by decide) (418) 12 (by decide +kernel) rfl
  have t0 : (h.1 538 12).toInt = ρ 5 := pPl hM 5 538 (12, []) rfl (by decide) 538 12 (by decide +kernel) rfl
  have z1 : (h.1 (418) 13).toInt = ρ 2 := pPl hM 2 98 (13, []) rfl (by decide) (418) 13 (by decide +kernel) rfl
  have t1 : (h.1 538 13).toInt = ρ 6 := pPl hM 6 538 (13, []) rfl (by decide) 538 13 (by decide +kernel) rfl
  have z2 : (h.1 (418) 14).toInt = ρ 3 := pPl hM 3 98 (14, []) rfl (by decide) (418) 14 (by decide +kernel) rfl
  have t2 : (h.1 538 14).toInt = ρ 7 := pPl hM 7 538 (14, []) rfl (by decide) 538 14 (by decide +kernel) rfl
  have z3 : (h.1 (418) 15).toInt = ρ 4 := pPl hM 4 98 (15, []) rfl (by decide) (418) 15 (by decide +kernel) rfl
  have t3 : (h.1 538 15).toInt = ρ 8 := pPl hM 8 538 (15, []) rfl (by decide) 538 15 (by decide +kernel) rfl
  have hn : aM 4 h := by
    intro i k hi hk
    by_cases q : i < 3
    · exact ha i k q hk
    obtain rfl : i = 3 := by omega
    rcases (show k = 0 ∨ k = 1 ∨ k = 2 ∨ k = 3 by omega) with rfl | rfl | rfl | rfl
    · exact z0.trans ((show ρ 1 = ρ 5 by omega).trans t0.symm)
    · exact z1.trans ((show ρ 2 = ρ 6 by omega).trans t1.symm)
    · exact z2.trans ((show ρ 3 = ρ 7 by omega).trans t2.symm)
    · exact z3.trans ((show ρ 4 = ρ 8 by omega).trans t3.symm)
  refine ⟨rRA3m_0, List.mem_of_getElem? (i := 0) rfl, pEnd [ρ 0, ρ 1, ρ 2, ρ 3, ρ 4, ρ 5, ρ 6, ρ 7, ρ 8] rfl ?_ ?_ ?_ ?_⟩
  · exact hL
  · intro k b hk
    cases hk
  · exact pAll0
  · exact pAll1 (pgTl 10 (show pgv 10 h = (1 + 0 : Int) by rw [pgv_M (a := 4) (by decide), yB_1.mpr hn]; rfl)) (pAll0)
noncomputable def rRA4m_0 : sX := (none, [(1011, (0, []), (1, []))], [], [], [])
noncomputable def rRA4m : sQ := (0, ([], [(2, 1010, (0, [])), (2, 98, (16, [])), (2, 98, (17, [])), (2, 98, (18, [])), (2, 98, (19, [])), (2, 538, (16, [])), (2, 538, (17, [])), (2, 538, (18, [])), (2, 538, (19, []))], [(1, 1), (0, 99), (0, 99), (0, 99), (0, 99), (0, 99), (0, 99), (0, 99), (0, 99)], [(0, [(1, 1), (5, (-1))]), (0, [(1, (-1)), (5, 1)]), (0, [(2, 1), (6, (-1))]), (0, [(2, (-1)), (6, 1)]), (0, [(3, 1), (7, (-1))]), (0, [(3, (-1)), (7, 1)]), (0, [(4, 1), (8, (-1))]), (0, [(4, (-1)), (8, 1)])], [(0, 0), (1, 1), (2, 2), (3, 3), (4, 4), (5, 5), (6, 6), (7, 7), (8, 8)], (0, [])), [rRA4m_0], [], 0)
theorem rRA4m_ok : pRul pReg pG pgv (rRA4m) := by
  intro loc h ρ ρ0 hG hM
  have hM : sMt pReg pgv ρ ρ0 (sAs (rRA4m).2.1) loc [] h := hM
  have q0 : ρ0 1 = ρ 0 := (hM.2.2.2.2.2 (1, sY 0) (List.mem_of_getElem? (i := 1) rfl)).trans (sY_v ρ 0)
  have q1 : ρ0 2 = ρ 1 := (hM.2.2.2.2.2 (2, sY 1) (List.mem_of_getElem? (i := 2) rfl)).trans (sY_v ρ 1)
  have q2 : ρ0 3 = ρ 2 := (hM.2.2.2.2.2 (3, sY 2) (List.mem_of_getElem? (i := 3) rfl)).trans (sY_v ρ 2)
  have q3 : ρ0 4 = ρ 3 := (hM.2.2.2.2.2 (4, sY 3) (List.mem_of_getElem? (i := 4) rfl)).trans (sY_v ρ 3)
  have q4 : ρ0 5 = ρ 4 := (hM.2.2.2.2.2 (5, sY 4) (List.mem_of_getElem? (i := 5) rfl)).trans (sY_v ρ 4)
  have q5 : ρ0 6 = ρ 5 := (hM.2.2.2.2.2 (6, sY 5) (List.mem_of_getElem? (i := 6) rfl)).trans (sY_v ρ 5)
  have q6 : ρ0 7 = ρ 6 := (hM.2.2.2.2.2 (7, sY 6) (List.mem_of_getElem? (i := 7) rfl)).trans (sY_v ρ 6)
  have q7 : ρ0 8 = ρ 7 := (hM.2.2.2.2.2 (8, sY 7) (List.mem_of_getElem? (i := 8) rfl)).trans (sY_v ρ 7)
  have q8 : ρ0 9 = ρ 8 := (hM.2.2.2.2.2 (9, sY 8) (List.mem_of_getElem? (i := 9) rfl)).trans (sY_v ρ 8)
  have hL : ∀ j, j < 9 → pL [ρ 0, ρ 1, ρ 2, ρ 3, ρ 4, ρ 5, ρ 6, ρ 7, ρ 8] j = ρ0 (j + 1) := by
    intro j hj
    match j, hj with
    | 0, _ => exact q0.symm
    | 1, _ => exact q1.symm
    | 2, _ => exact q2.symm
    | 3, _ => exact q3.symm
    | 4, _ => exact q4.symm
    | 5, _ => exact q5.symm
    | 6, _ => exact q6.symm
    | 7, _ => exact q7.symm
    | 8, _ => exact q8.symm
    | k + 9, hj => omega
  have b0 : (1 : Int) ≤ ρ 0 ∧ ρ 0 ≤ 1 := hM.2.2.2.1 0 (1, 1) rfl
  have b1 : (0 : Int) ≤ ρ 1 ∧ ρ 1 ≤ 99 := hM.2.2.2.1 1 (0, 99) rfl
  have b2 : (0 : Int) ≤ ρ 2 ∧ ρ 2 ≤ 99 := hM.2.2.2.1 2 (0, 99) rfl
  have b3 : (0 : Int) ≤ ρ 3 ∧ ρ 3 ≤ 99 := hM.2.2.2.1 3 (0, 99) rfl
  have b4 : (0 : Int) ≤ ρ 4 ∧ ρ 4 ≤ 99 := hM.2.2.2.1 4 (0, 99) rfl
  have b5 : (0 : Int) ≤ ρ 5 ∧ ρ 5 ≤ 99 := hM.2.2.2.1 5 (0, 99) rfl
  have b6 : (0 : Int) ≤ ρ 6 ∧ ρ 6 ≤ 99 := hM.2.2.2.1 6 (0, 99) rfl
  have b7 : (0 : Int) ≤ ρ 7 ∧ ρ 7 ≤ 99 := hM.2.2.2.1 7 (0, 99) rfl
  have b8 : (0 : Int) ≤ ρ 8 ∧ ρ 8 ≤ 99 := hM.2.2.2.1 8 (0, 99) rfl
  have c0 : (0 + (1 * ρ 1 + ((-1) * ρ 5 + 0)) : Int) ≤ 0 := hM.2.2.2.2.1 (0, [(1, 1), (5, (-1))]) (List.mem_of_getElem? (i := 0) rfl)
  have c1 : (0 + ((-1) * ρ 1 + (1 * ρ 5 + 0)) : Int) ≤ 0 := hM.2.2.2.2.1 (0, [(1, (-1)), (5, 1)]) (List.mem_of_getElem? (i := 1) rfl)
  have c2 : (0 + (1 * ρ 2 + ((-1) * ρ 6 + 0)) : Int) ≤ 0 := hM.2.2.2.2.1 (0, [(2, 1), (6, (-1))]) (List.mem_of_getElem? (i := 2) rfl)
  have c3 : (0 + ((-1) * ρ 2 + (1 * ρ 6 + 0)) : Int) ≤ 0 := hM.2.2.2.2.1 (0, [(2, (-1)), (6, 1)]) (List.mem_of_getElem? (i := 3) rfl)
  have c4 : (0 + (1 * ρ 3 + ((-1) * ρ 7 + 0)) : Int) ≤ 0 := hM.2.2.2.2.1 (0, [(3, 1), (7, (-1))]) (List.mem_of_getElem? (i := 4) rfl)
  have c5 : (0 + ((-1) * ρ 3 + (1 * ρ 7 + 0)) : Int) ≤ 0 := hM.2.2.2.2.1 (0, [(3, (-1)), (7, 1)]) (List.mem_of_getElem? (i := 5) rfl)
  have c6 : (0 + (1 * ρ 4 + ((-1) * ρ 8 + 0)) : Int) ≤ 0 := hM.2.2.2.2.1 (0, [(4, 1), (8, (-1))]) (List.mem_of_getElem? (i := 6) rfl)
  have c7 : (0 + ((-1) * ρ 4 + (1 * ρ 8 + 0)) : Int) ≤ 0 := hM.2.2.2.2.1 (0, [(4, (-1)), (8, 1)]) (List.mem_of_getElem? (i := 7) rfl)
  have ha : aM 4 h := pToldM hM 0 4 (by decide) (0, []) rfl b0.1
  have z0 : (h.1 (418) 16).toInt = ρ 1 := pPl hM 1 98 (16, []) rfl (by decide) (418) 16 (by decide +kernel) rfl
  have t0 : (h.1 538 16).toInt = ρ 5 := pPl hM 5 538 (16, []) rfl (by decide) 538 16 (by decide +kernel) rfl
  have z1 : (h.1 (418) 17).toInt = ρ 2 := pPl hM 2 98 (17, []) rfl (by decide) (418) 17 (by decide +kernel) rfl
  have t1 : (h.1 538 17).toInt = ρ 6 := pPl hM 6 538 (17, []) rfl (by decide) 538 17 (by decide +kernel) rfl
  have z2 : (h.1 (418) 18).toInt = ρ 3 := pPl hM 3 98 (18, []) rfl (by decide) (418) 18 (by decide +kernel) rfl
  have t2 : (h.1 538 18).toInt = ρ 7 := pPl hM 7 538 (18, []) rfl (by decide) 538 18 (by decide +kernel) rfl
  have z3 : (h.1 (418) 19).toInt = ρ 4 := pPl hM 4 98 (19, []) rfl (by decide) (418) 19 (by decide +kernel) rfl
  have t3 : (h.1 538 19).toInt = ρ 8 := pPl hM 8 538 (19, []) rfl (by decide) 538 19 (by decide +kernel) rfl
  have hn : aM 5 h := by
    intro i k hi hk
    by_cases q : i < 4
    · exact ha i k q hk
    obtain rfl : i = 4 := by omega
    rcases (show k = 0 ∨ k = 1 ∨ k = 2 ∨ k = 3 by omega) with rfl | rfl | rfl | rfl
    · exact z0.trans ((show ρ 1 = ρ 5 by omega).trans t0.symm)
    · exact z1.trans ((show ρ 2 = ρ 6 by omega).trans t1.symm)
    · exact z2.trans ((show ρ 3 = ρ 7 by omega).trans t2.symm)
    · exact z3.trans ((show ρ 4 = ρ 8 by omega).trans t3.symm)
  refine ⟨rRA4m_0, List.mem_of_getElem? (i := 0) rfl, pEnd [ρ 0, ρ 1, ρ 2, ρ 3, ρ 4, ρ 5, ρ 6, ρ 7, ρ 8] rfl ?_ ?_ ?_ ?_⟩
  · exact hL
  · intro k b hk
    cases hk
  · exact pAll0
  · exact pAll1 (pgTl 11 (show pgv 11 h = (1 + 0 : Int) by rw [pgv_M (a := 5) (by decide), yB_1.mpr hn]; rfl)) (pAll0)
noncomputable def rRA5m_0 : sX := (none, [(1012, (0, []), (1, []))], [], [], [])
noncomputable def rRA5m : sQ := (0, ([], [(2, 1011, (0, [])), (2, 98, (20, [])), (2, 98, (21, [])), (2, 98, (22, [])), (2, 98, (23, [])), (2, 538, (20, [])), (2, 538, (21, [])), (2, 538, (22, [])), (2, 538, (23, []))], [(1, 1), (0, 99), (0, 99), (0, 99), (0, 99), (0, 99), (0, 99), (0, 99), (0, 99)], [(0, [(1, 1), (5, (-1))]), (0, [(1, (-1)), (5, 1)]), (0, [(2, 1), (6, (-1))]), (0, [(2, (-1)), (6, 1)]), (0, [(3, 1), (7, (-1))]), (0, [(3, (-1)), (7, 1)]), (0, [(4, 1), (8, (-1))]), (0, [(4, (-1)), (8, 1)])], [(0, 0), (1, 1), (2, 2), (3, 3), (4, 4), (5, 5), (6, 6), (7, 7), (8, 8)], (0, [])), [rRA5m_0], [], 0)
theorem rRA5m_ok : pRul pReg pG pgv (rRA5m) := by
  intro loc h ρ ρ0 hG hM
  have hM : sMt pReg pgv ρ ρ0 (sAs (rRA5m).2.1) loc [] h := hM
  have q0 : ρ0 1 = ρ 0 := (hM.2.2.2.2.2 (1, sY 0) (List.mem_of_getElem? (i := 1) rfl)).trans (sY_v ρ 0)
  have q1 : ρ0 2 = ρ 1 := (hM.2.2.2.2.2 (2, sY 1) (List.mem_of_getElem? (i := 2) rfl)).trans (sY_v ρ 1)
  have q2 : ρ0 3 = ρ 2 := (hM.2.2.2.2.2 (3, sY 2) (List.mem_of_getElem? (i := 3) rfl)).trans (sY_v ρ 2)
  have q3 : ρ0 4 = ρ 3 := (hM.2.2.2.2.2 (4, sY 3) (List.mem_of_getElem? (i := 4) rfl)).trans (sY_v ρ 3)
  have q4 : ρ0 5 = ρ 4 := (hM.2.2.2.2.2 (5, sY 4) (List.mem_of_getElem? (i := 5) rfl)).trans (sY_v ρ 4)
  have q5 : ρ0 6 = ρ 5 := (hM.2.2.2.2.2 (6, sY 5) (List.mem_of_getElem? (i := 6) rfl)).trans (sY_v ρ 5)
  have q6 : ρ0 7 = ρ 6 := (hM.2.2.2.2.2 (7, sY 6) (List.mem_of_getElem? (i := 7) rfl)).trans (sY_v ρ 6)
  have q7 : ρ0 8 = ρ 7 := (hM.2.2.2.2.2 (8, sY 7) (List.mem_of_getElem? (i := 8) rfl)).trans (sY_v ρ 7)
  have q8 : ρ0 9 = ρ 8 := (hM.2.2.2.2.2 (9, sY 8) (List.mem_of_getElem? (i := 9) rfl)).trans (sY_v ρ 8)
  have hL : ∀ j, j < 9 → pL [ρ 0, ρ 1, ρ 2, ρ 3, ρ 4, ρ 5, ρ 6, ρ 7, ρ 8] j = ρ0 (j + 1) := by
    intro j hj
    match j, hj with
    | 0, _ => exact q0.symm
    | 1, _ => exact q1.symm
    | 2, _ => exact q2.symm
    | 3, _ => exact q3.symm
    | 4, _ => exact q4.symm
    | 5, _ => exact q5.symm
    | 6, _ => exact q6.symm
    | 7, _ => exact q7.symm
    | 8, _ => exact q8.symm
    | k + 9, hj => omega
  have b0 : (1 : Int) ≤ ρ 0 ∧ ρ 0 ≤ 1 := hM.2.2.2.1 0 (1, 1) rfl
  have b1 : (0 : Int) ≤ ρ 1 ∧ ρ 1 ≤ 99 := hM.2.2.2.1 1 (0, 99) rfl
  have b2 : (0 : Int) ≤ ρ 2 ∧ ρ 2 ≤ 99 := hM.2.2.2.1 2 (0, 99) rfl
  have b3 : (0 : Int) ≤ ρ 3 ∧ ρ 3 ≤ 99 := hM.2.2.2.1 3 (0, 99) rfl
  have b4 : (0 : Int) ≤ ρ 4 ∧ ρ 4 ≤ 99 := hM.2.2.2.1 4 (0, 99) rfl
  have b5 : (0 : Int) ≤ ρ 5 ∧ ρ 5 ≤ 99 := hM.2.2.2.1 5 (0, 99) rfl
  have b6 : (0 : Int) ≤ ρ 6 ∧ ρ 6 ≤ 99 := hM.2.2.2.1 6 (0, 99) rfl
  have b7 : (0 : Int) ≤ ρ 7 ∧ ρ 7 ≤ 99 := hM.2.2.2.1 7 (0, 99) rfl
  have b8 : (0 : Int) ≤ ρ 8 ∧ ρ 8 ≤ 99 := hM.2.2.2.1 8 (0, 99) rfl
  have c0 : (0 + (1 * ρ 1 + ((-1) * ρ 5 + 0)) : Int) ≤ 0 := hM.2.2.2.2.1 (0, [(1, 1), (5, (-1))]) (List.mem_of_getElem? (i := 0) rfl)
  have c1 : (0 + ((-1) * ρ 1 + (1 * ρ 5 + 0)) : Int) ≤ 0 := hM.2.2.2.2.1 (0, [(1, (-1)), (5, 1)]) (List.mem_of_getElem? (i := 1) rfl)
  have c2 : (0 + (1 * ρ 2 + ((-1) * ρ 6 + 0)) : Int) ≤ 0 := hM.2.2.2.2.1 (0, [(2, 1), (6, (-1))]) (List.mem_of_getElem? (i := 2) rfl)
  have c3 : (0 + ((-1) * ρ 2 + (1 * ρ 6 + 0)) : Int) ≤ 0 := hM.2.2.2.2.1 (0, [(2, (-1)), (6, 1)]) (List.mem_of_getElem? (i := 3) rfl)
  have c4 : (0 + (1 * ρ 3 + ((-1) * ρ 7 + 0)) : Int) ≤ 0 := hM.2.2.2.2.1 (0, [(3, 1), (7, (-1))]) (List.mem_of_getElem? (i := 4) rfl)
  have c5 : (0 + ((-1) * ρ 3 + (1 * ρ 7 + 0)) : Int) ≤ 0 := hM.2.2.2.2.1 (0, [(3, (-1)), (7, 1)]) (List.mem_of_getElem? (i := 5) rfl)
  have c6 : (0 + (1 * ρ 4 + ((-1) * ρ 8 + 0)) : Int) ≤ 0 := hM.2.2.2.2.1 (0, [(4, 1), (8, (-1))]) (List.mem_of_getElem? (i := 6) rfl)
  have c7 : (0 + ((-1) * ρ 4 + (1 * ρ 8 + 0)) : Int) ≤ 0 := hM.2.2.2.2.1 (0, [(4, (-1)), (8, 1)]) (List.mem_of_getElem? (i := 7) rfl)
  have ha : aM 5 h := pToldM hM 0 5 (by decide) (0, []) rfl b0.1
  have z0 : (h.1 (418) 20).toInt = ρ 1 := pPl hM 1 98 (20, []) rfl (by decide) (418) 20 (by decide +kernel) rfl
  have t0 : (h.1 538 20).toInt = ρ 5 := pPl hM 5 538 (20, []) rfl (by decide) 538 20 (by decide +kernel) rfl
  have z1 : (h.1 (418) 21).toInt = ρ 2 := pPl hM 2 98 (21, []) rfl (by decide) (418) 21 (by decide +kernel) rfl
  have t1 : (h.1 538 21).toInt = ρ 6 := pPl hM 6 538 (21, []) rfl (by decide) 538 21 (by decide +kernel) rfl
  have z2 : (h.1 (418) 22).toInt = ρ 3 := pPl hM 3 98 (22, []) rfl (by decide) (418) 22 (by decide +kernel) rfl
  have t2 : (h.1 538 22).toInt = ρ 7 := pPl hM 7 538 (22, []) rfl (by decide) 538 22 (by decide +kernel) rfl
  have z3 : (h.1 (418) 23).toInt = ρ 4 := pPl hM 4 98 (23, []) rfl (by decide) (418) 23 (by decide +kernel) rfl
  have t3 : (h.1 538 23).toInt = ρ 8 := pPl hM 8 538 (23, []) rfl (by decide) 538 23 (by decide +kernel) rfl
  have hn : aM 6 h := by
    intro i k hi hk
    by_cases q : i < 5
    · exact ha i k q hk
    obtain rfl : i = 5 := by omega
    rcases (show k = 0 ∨ k = 1 ∨ k = 2 ∨ k = 3 by omega) with rfl | rfl | rfl | rfl
    · exact z0.trans ((show ρ 1 = ρ 5 by omega).trans t0.symm)
    · exact z1.trans ((show ρ 2 = ρ 6 by omega).trans t1.symm)
    · exact z2.trans ((show ρ 3 = ρ 7 by omega).trans t2.symm)
    · exact z3.trans ((show ρ 4 = ρ 8 by omega).trans t3.symm)
  refine ⟨rRA5m_0, List.mem_of_getElem? (i := 0) rfl, pEnd [ρ 0, ρ 1, ρ 2, ρ 3, ρ 4, ρ 5, ρ 6, ρ 7, ρ 8] rfl ?_ ?_ ?_ ?_⟩
  · exact hL
  · intro k b hk
    cases hk
  · exact pAll0
  · exact pAll1 (pgTl 12 (show pgv 12 h = (1 + 0 : Int) by rw [pgv_M (a := 6) (by decide), yB_1.mpr hn]; rfl)) (pAll0)
noncomputable def rWH0m_0 : sX := (none, [], [], [(0, [(3, 1)]), (0, [(3, (-1))])], [])
noncomputable def rWH0m : sQ := (0, ([], [(2, 1020, (0, [])), (2, 97, (0, [])), (2, 539, (0, [])), (2, 541, (0, [])), (2, 540, (0, []))], [(1, 1), (0, 99), (0, 99), (0, 1), (0, 0)], [(0, [(1, 1), (2, (-1))]), (0, [(1, (-1)), (2, 1)])], [(0, 0), (1, 1), (2, 2), (3, 3), (4, 4)], (0, [])), [rWH0m_0], [], 0)
set_option maxHeartbeats 4000000 in
theorem rWH0m_ok : pRul pReg pG pgv (rWH0m) := by
  intro loc h ρ ρ0 hG hM
  have hM : sMt pReg pgv ρ ρ0 (sAs (rWH0m).2.1) loc [] h := hM
  have q0 : ρ0 1 = ρ 0 := (hM.2.2.2.2.2 (1, sY 0) (List.mem_of_getElem? (i := 1) rfl)).trans (sY_v ρ 0)
  have q1 : ρ0 2 = ρ 1 := (hM.2.2.2.2.2 (2, sY 1) (List.mem_of_getElem? (i := 2) rfl)).trans (sY_v ρ 1)
  have q2 : ρ0 3 = ρ 2 := (hM.2.2.2.2.2 (3, sY 2) (List.mem_of_getElem? (i := 3) rfl)).trans (sY_v ρ 2)
  have q3 : ρ0 4 = ρ 3 := (hM.2.2.2.2.2 (4, sY 3) (List.mem_of_getElem? (i := 4) rfl)).trans (sY_v ρ 3)
  have q4 : ρ0 5 = ρ 4 := (hM.2.2.2.2.2 (5, sY 4) (List.mem_of_getElem? (i := 5) rfl)).trans (sY_v ρ 4)
  have hL : ∀ j, j < 5 → pL [ρ 0, ρ 1, ρ 2, ρ 3, ρ 4] j = ρ0 (j + 1) := by
    intro j hj
    match j, hj with
    | 0, _ => exact q0.symm
    | 1, _ => exact q1.symm
    | 2, _ => exact q2.symm
    | 3, _ => exact q3.symm
    | 4, _ => exact q4.symm
    | k + 5, hj => omega
  have b0 : (1 : Int) ≤ ρ 0 ∧ ρ 0 ≤ 1 := hM.2.2.2.1 0 (1, 1) rfl
  have b1 : (0 : Int) ≤ ρ 1 ∧ ρ 1 ≤ 99 := hM.2.2.2.1 1 (0, 99) rfl
  have b2 : (0 : Int) ≤ ρ 2 ∧ ρ 2 ≤ 99 := hM.2.2.2.1 2 (0, 99) rfl
  have b3 : (0 : Int) ≤ ρ 3 ∧ ρ 3 ≤ 1 := hM.2.2.2.1 3 (0, 1) rfl
  have b4 : (0 : Int) ≤ ρ 4 ∧ ρ 4 ≤ 0 := hM.2.2.2.1 4 (0, 0) rfl
  have c0 : (0 + (1 * ρ 1 + ((-1) * ρ 2 + 0)) : Int) ≤ 0 := hM.2.2.2.2.1 (0, [(1, 1), (2, (-1))]) (List.mem_of_getElem? (i := 0) rfl)
  have c1 : (0 + ((-1) * ρ 1 + (1 * ρ 2 + 0)) : Int) ≤ 0 := hM.2.2.2.2.1 (0, [(1, (-1)), (2, 1)]) (List.mem_of_getElem? (i := 1) rfl)
  obtain ⟨ho, hh, hf⟩ := pTold20 hM 0 (0, []) rfl b0.1
  have hn := ho.1
  have ey : ρ 2 = fRV (wN h) (wB h) 0 := (pfF hM hf 2 539 (0, []) rfl (by decide) (by decide) (0) (by omega) (by show (0 + 0 : Int) = _; omega)).trans (fA_RV (k := 0) (by decide))
  have eW : ρ 3 = yB (fWh (wN h) (wB h)) := (pfF hM hf 3 541 (0, []) rfl (by decide) (by decide) (0) (by omega) (by show (0 + 0 : Int) = _; omega)).trans (fA_WH)
  have efm : ρ 4 = ((fW (wN h) (wB h) 0 0 0).2.1 : Int) := (pfF hM hf 4 540 (0, []) rfl (by decide) (by decide) (0) (by omega) (by show (0 + 0 : Int) = _; omega)).trans (fA_FM)
  have em : (fW (wN h) (wB h) 0 0 0).2.1 = 0 := by omega
  have hw : ¬ fWh (wN h) (wB h) := fun z => by have := z.1; omega
  rw [yB_0 hw] at eW
  refine ⟨rWH0m_0, List.mem_of_getElem? (i := 0) rfl, pEnd [ρ 0, ρ 1, ρ 2, ρ 3, ρ 4] rfl ?_ ?_ ?_ ?_⟩
  · exact hL
  · intro k b hk
    cases hk
  · exact pAll1 (show (0 + (1 * ρ 3 + 0) : Int) ≤ 0 by omega) (pAll1 (show (0 + ((-1) * ρ 3 + 0) : Int) ≤ 0 by omega) (pAll0))
  · exact pAll0
noncomputable def rWH1m_0 : sX := (none, [], [], [(0, [(4, 1)]), (0, [(4, (-1))])], [])
noncomputable def rWH1m : sQ := (0, ([], [(2, 1020, (0, [])), (2, 1007, (0, [])), (2, 97, (0, [])), (2, 539, (0, [])), (2, 541, (0, [])), (2, 540, (0, []))], [(1, 1), (1, 1), (0, 99), (0, 99), (0, 1), (1, 1)], [(0, [(2, 1), (3, (-1))]), (0, [(2, (-1)), (3, 1)])], [(0, 0), (1, 1), (2, 2), (3, 3), (4, 4), (5, 5)], (0, [])), [rWH1m_0], [], 0)
set_option maxHeartbeats 4000000 in
theorem rWH1m_ok : pRul pReg pG pgv (rWH1m) := by
  intro loc h ρ ρ0 hG hM
  have hM : sMt pReg pgv ρ ρ0 (sAs (rWH1m).2.1) loc [] h := hM
  have q0 : ρ0 1 = ρ 0 := (hM.2.2.2.2.2 (1, sY 0) (List.mem_of_getElem? (i := 1) rfl)).trans (sY_v ρ 0)
  have q1 : ρ0 2 = ρ 1 := (hM.2.2.2.2.2 (2, sY 1) (List.mem_of_getElem? (i := 2) rfl)).trans (sY_v ρ 1)
  have q2 : ρ0 3 = ρ 2 := (hM.2.2.2.2.2 (3, sY 2) (List.mem_of_getElem? (i := 3) rfl)).trans (sY_v ρ 2)
  have q3 : ρ0 4 = ρ 3 := (hM.2.2.2.2.2 (4, sY 3) (List.mem_of_getElem? (i := 4) rfl)).trans (sY_v ρ 3)
  have q4 : ρ0 5 = ρ 4 := (hM.2.2.2.2.2 (5, sY 4) (List.mem_of_getElem? (i := 5) rfl)).trans (sY_v ρ 4)
  have q5 : ρ0 6 = ρ 5 := (hM.2.2.2.2.2 (6, sY 5) (List.mem_of_getElem? (i := 6) rfl)).trans (sY_v ρ 5)
  have hL : ∀ j, j < 6 → pL [ρ 0, ρ 1, ρ 2, ρ 3, ρ 4, ρ 5] j = ρ0 (j + 1) := by
    intro j hj
    match j, hj with
    | 0, _ => exact q0.symm
    | 1, _ => exact q1.symm
    | 2, _ => exact q2.symm
    | 3, _ => exact q3.symm
    | 4, _ => exact q4.symm
    | 5, _ => exact q5.symm
    | k + 6, hj => omega
  have b0 : (1 : Int) ≤ ρ 0 ∧ ρ 0 ≤ 1 := hM.2.2.2.1 0 (1, 1) rfl
  have b1 : (1 : Int) ≤ ρ 1 ∧ ρ 1 ≤ 1 := hM.2.2.2.1 1 (1, 1) rfl
  have b2 : (0 : Int) ≤ ρ 2 ∧ ρ 2 ≤ 99 := hM.2.2.2.1 2 (0, 99) rfl
  have b3 : (0 : Int) ≤ ρ 3 ∧ ρ 3 ≤ 99 := hM.2.2.2.1 3 (0, 99) rfl
  have b4 : (0 : Int) ≤ ρ 4 ∧ ρ 4 ≤ 1 := hM.2.2.2.1 4 (0, 1) rfl
  have b5 : (1 : Int) ≤ ρ 5 ∧ ρ 5 ≤ 1 := hM.2.2.2.1 5 (1, 1) rfl
  have c0 : (0 + (1 * ρ 2 + ((-1) * ρ 3 + 0)) : Int) ≤ 0 := hM.2.2.2.2.1 (0, [(2, 1), (3, (-1))]) (List.mem_of_getElem? (i := 0) rfl)
  have c1 : (0 + ((-1) * ρ 2 + (1 * ρ 3 + 0)) : Int) ≤ 0 := hM.2.2.2.2.1 (0, [(2, (-1)), (3, 1)]) (List.mem_of_getElem? (i := 1) rfl)
  obtain ⟨ho, hh, hf⟩ := pTold20 hM 0 (0, []) rfl b0.1
  have hn := ho.1
  have ha : aM 1 h := pToldM hM 1 1 (by decide) (0, []) rfl b1.1
  have ey : ρ 3 = fRV (wN h) (wB h) 0 := (pfF hM hf 3 539 (0, []) rfl (by decide) (by decide) (0) (by omega) (by show (0 + 0 : Int) = _; omega)).trans (fA_RV (k := 0) (by decide))
  have eW : ρ 4 = yB (fWh (wN h) (wB h)) := (pfF hM hf 4 541 (0, []) rfl (by decide) (by decide) (0) (by omega) (by show (0 + 0 : Int) = _; omega)).trans (fA_WH)
  have efm : ρ 5 = ((fW (wN h) (wB h) 0 0 0).2.1 : Int) := (pfF hM hf 5 540 (0, []) rfl (by decide) (by decide) (0) (by omega) (by show (0 + 0 : Int) = _; omega)).trans (fA_FM)
  have em : (fW (wN h) (wB h) 0 0 0).2.1 = 1 := by omega
  have hw : ¬ fWh (wN h) (wB h) := fun z => by have := z.1; omega
  rw [yB_0 hw] at eW
  refine ⟨rWH1m_0, List.mem_of_getElem? (i := 0) rfl, pEnd [ρ 0, ρ 1, ρ 2, ρ 3, ρ 4, ρ 5] rfl ?_ ?_ ?_ ?_⟩
  · exact hL
  · intro k b hk
    cases hk
  · exact pAll1 (show (0 + (1 * ρ 4 + 0) : Int) ≤ 0 by omega) (pAll1 (show (0 + ((-1) * ρ 4 + 0) : Int) ≤ 0 by omega) (pAll0))
  · exact pAll0
noncomputable def rWH2m_0 : sX := (none, [(98, (0, []), (0, [(6, 1)])), (98, (3, []), (0, [(7, 1)])), (98, (4, []), (0, [(8, 1)])), (98, (7, []), (0, [(9, 1)]))], [(0, 99), (0, 99), (0, 99), (0, 99)], [((-1), [(4, 1)]), (1, [(4, (-1))]), (0, [(2, (-1)), (6, 1)]), (1, [(2, (-1)), (7, 1)]), (0, [(2, (-1)), (8, 1)]), (1, [(2, (-1)), (9, 1)])], [])
noncomputable def rWH2m_1 : sX := (none, [(98, (0, []), (0, [(6, 1)]))], [(0, 99)], [(0, [(4, 1)]), (0, [(4, (-1))]), (1, [(2, 1), (6, (-1))])], [])
noncomputable def rWH2m_2 : sX := (none, [(98, (0, []), (0, [(6, 1)])), (98, (3, []), (0, [(7, 1)]))], [(0, 99), (0, 99)], [(0, [(4, 1)]), (0, [(4, (-1))]), (0, [(2, (-1)), (6, 1)]), (0, [(2, 1), (7, (-1))])], [])
noncomputable def rWH2m_3 : sX := (none, [(98, (0, []), (0, [(6, 1)])), (98, (3, []), (0, [(7, 1)])), (98, (4, []), (0, [(8, 1)]))], [(0, 99), (0, 99), (0, 99)], [(0, [(4, 1)]), (0, [(4, (-1))]), (0, [(2, (-1)), (6, 1)]), (1, [(2, (-1)), (7, 1)]), (1, [(2, 1), (8, (-1))])], [])
noncomputable def rWH2m_4 : sX := (none, [(98, (0, []), (0, [(6, 1)])), (98, (3, []), (0, [(7, 1)])), (98, (4, []), (0, [(8, 1)])), (98, (7, []), (0, [(9, 1)]))], [(0, 99), (0, 99), (0, 99), (0, 99)], [(0, [(4, 1)]), (0, [(4, (-1))]), (0, [(2, (-1)), (6, 1)]), (1, [(2, (-1)), (7, 1)]), (0, [(2, (-1)), (8, 1)]), (0, [(2, 1), (9, (-1))])], [])
noncomputable def rWH2m : sQ := (0, ([], [(2, 1020, (0, [])), (2, 1008, (0, [])), (2, 97, (0, [])), (2, 539, (0, [])), (2, 541, (0, [])), (2, 540, (0, []))], [(1, 1), (1, 1), (0, 99), (0, 99), (0, 1), (2, 2)], [(0, [(2, 1), (3, (-1))]), (0, [(2, (-1)), (3, 1)])], [(0, 0), (1, 1), (2, 2), (3, 3), (4, 4), (5, 5)], (0, [])), [rWH2m_0, rWH2m_1, rWH2m_2, rWH2m_3, rWH2m_4], [], 0)
set_option maxHeartbeats 4000000 in
theorem rWH2m_ok : pRul pReg pG pgv (rWH2m) := by
  intro loc h ρ ρ0 hG hM
  have hM : sMt pReg pgv ρ ρ0 (sAs (rWH2m).2.1) loc [] h := hM
  have q0 : ρ0 1 = ρ 0 := (hM.2.2.2.2.2 (1, sY 0) (List.mem_of_getElem? (i := 1) rfl)).trans (sY_v ρ 0)
  have q1 : ρ0 2 = ρ 1 := (hM.2.2.2.2.2 (2, sY 1) (List.mem_of_getElem? (i := 2) rfl)).trans (sY_v ρ 1)
  have q2 : ρ0 3 = ρ 2 := (hM.2.2.2.2.2 (3, sY 2) (List.mem_of_getElem? (i := 3) rfl)).trans (sY_v ρ 2)
  have q3 : ρ0 4 = ρ 3 := (hM.2.2.2.2.2 (4, sY 3) (List.mem_of_getElem? (i := 4) rfl)).trans (sY_v ρ 3)
  have q4 : ρ0 5 = ρ 4 := (hM.2.2.2.2.2 (5, sY 4) (List.mem_of_getElem? (i := 5) rfl)).trans (sY_v ρ 4)
  have q5 : ρ0 6 = ρ 5 := (hM.2.2.2.2.2 (6, sY 5) (List.mem_of_getElem? (i := 6) rfl)).trans (sY_v ρ 5)
  have hL : ∀ j, j < 6 → pL [ρ 0, ρ 1, ρ 2, ρ 3, ρ 4, ρ 5] j = ρ0 (j + 1) := by
    intro j hj
    match j, hj with
    | 0, _ => exact q0.symm
    | 1, _ => exact q1.symm
    | 2, _ => exact q2.symm
    | 3, _ => exact q3.symm
    | 4, _ => exact q4.symm
    | 5, _ => exact q5.symm
    | k + 6, hj => omega
  have b0 : (1 : Int) ≤ ρ 0 ∧ ρ 0 ≤ 1 := hM.2.2.2.1 0 (1, 1) rfl
  have b1 : (1 : Int) ≤ ρ 1 ∧ ρ 1 ≤ 1 := hM.2.2.2.1 1 (1, 1) rfl
  have b2 : (0 : Int) ≤ ρ 2 ∧ ρ 2 ≤ 99 := hM.2.2.2.1 2 (0, 99) rfl
  have b3 : (0 : Int) ≤ ρ 3 ∧ ρ 3 ≤ 99 := hM.2.2.2.1 3 (0, 99) rfl
  have b4 : (0 : Int) ≤ ρ 4 ∧ ρ 4 ≤ 1 := hM.2.2.2.1 4 (0, 1) rfl
  have b5 : (2 : Int) ≤ ρ 5 ∧ ρ 5 ≤ 2 := hM.2.2.2.1 5 (2, 2) rfl
  have c0 : (0 + (1 * ρ 2 + ((-1) * ρ 3 + 0)) : Int) ≤ 0 := hM.2.2.2.2.1 (0, [(2, 1), (3, (-1))]) (List.mem_of_getElem? (i := 0) rfl)
  have c1 : (0 + ((-1) * ρ 2 + (1 * ρ 3 + 0)) : Int) ≤ 0 := hM.2.2.2.2.1 (0, [(2, (-1)), (3, 1)]) (List.mem_of_getElem? (i := 1) rfl)
  obtain ⟨ho, hh, hf⟩ := pTold20 hM 0 (0, []) rfl b0.1
  have hn := ho.1
  have ha : aM 2 h := pToldM hM 1 2 (by decide) (0, []) rfl b1.1
  have ey : ρ 3 = fRV (wN h) (wB h) 0 := (pfF hM hf 3 539 (0, []) rfl (by decide) (by decide) (0) (by omega) (by show (0 + 0 : Int) = _; omega)).trans (fA_RV (k := 0) (by decide))
  have eW : ρ 4 = yB (fWh (wN h) (wB h)) := (pfF hM hf 4 541 (0, []) rfl (by decide) (by decide) (0) (by omega) (by show (0 + 0 : Int) = _; omega)).trans (fA_WH)
  have efm : ρ 5 = ((fW (wN h) (wB h) 0 0 0).2.1 : Int) := (pfF hM hf 5 540 (0, []) rfl (by decide) (by decide) (0) (by omega) (by show (0 + 0 : Int) = _; omega)).trans (fA_FM)
  have em : (fW (wN h) (wB h) 0 0 0).2.1 = 2 := by omega
  have r00 : (h.1 418 0).toInt = (fMV (wN h) (wB h) 0 0) := (ha 0 0 (by decide) (by decide)).trans ((hf 538 (by decide) (by decide) 0 (by decide)).trans (fA_MV (i := 0) (k := 0) (by decide) (by decide)))
  have m00 := fMV_bd (n := wN h) (B := wB h) 0 0
  have r03 : (h.1 418 3).toInt = (fMV (wN h) (wB h) 0 3) := (ha 0 3 (by decide) (by decide)).trans ((hf 538 (by decide) (by decide) 3 (by decide)).trans (fA_MV (i := 0) (k := 3) (by decide) (by decide)))
  have m03 := fMV_bd (n := wN h) (B := wB h) 0 3
  have r10 : (h.1 418 4).toInt = (fMV (wN h) (wB h) 1 0) := (ha 1 0 (by decide) (by decide)).trans ((hf 538 (by decide) (by decide) 4 (by decide)).trans (fA_MV (i := 1) (k := 0) (by decide) (by decide)))
  have m10 := fMV_bd (n := wN h) (B := wB h) 1 0
  have r13 : (h.1 418 7).toInt = (fMV (wN h) (wB h) 1 3) := (ha 1 3 (by decide) (by decide)).trans ((hf 538 (by decide) (by decide) 7 (by decide)).trans (fA_MV (i := 1) (k := 3) (by decide) (by decide)))
  have m13 := fMV_bd (n := wN h) (B := wB h) 1 3
  by_cases g0 : (fMV (wN h) (wB h) 0 0) ≤ fRV (wN h) (wB h) 0
  · by_cases k0 : (fMV (wN h) (wB h) 0 3) < fRV (wN h) (wB h) 0
    · by_cases g1 : (fMV (wN h) (wB h) 1 0) ≤ fRV (wN h) (wB h) 0
      · by_cases k1 : (fMV (wN h) (wB h) 1 3) < fRV (wN h) (wB h) 0
        · have hw : fWh (wN h) (wB h) := by
            refine ⟨by omega, fun i hi => ?_⟩
            rw [em] at hi
            rcases (show i = 0 ∨ i = 1 by omega) with rfl | rfl
            · exact ⟨g0, k0⟩
            · exact ⟨g1, k1⟩
          rw [yB_1.mpr hw] at eW
          refine ⟨rWH2m_0, List.mem_of_getElem? (i := 0) rfl, pEnd [ρ 0, ρ 1, ρ 2, ρ 3, ρ 4, ρ 5, (fMV (wN h) (wB h) 0 0), (fMV (wN h) (wB h) 0 3), (fMV (wN h) (wB h) 1 0), (fMV (wN h) (wB h) 1 3)] rfl ?_ ?_ ?_ ?_⟩
          · intro j hj
            match j, hj with
            | 0, _ => exact q0.symm
            | 1, _ => exact q1.symm
            | 2, _ => exact q2.symm
            | 3, _ => exact q3.symm
            | 4, _ => exact q4.symm
            | 5, _ => exact q5.symm
            | k + 6, hj => exact absurd hj (by show ¬ (k + 6 < 6); omega)
          · intro k b hk
            match k, hk with
            | 0, hk => cases hk; exact (show (0 : Int) ≤ (fMV (wN h) (wB h) 0 0) ∧ (fMV (wN h) (wB h) 0 0) ≤ (99 : Int) by omega)
            | 1, hk => cases hk; exact (show (0 : Int) ≤ (fMV (wN h) (wB h) 0 3) ∧ (fMV (wN h) (wB h) 0 3) ≤ (99 : Int) by omega)
            | 2, hk => cases hk; exact (show (0 : Int) ≤ (fMV (wN h) (wB h) 1 0) ∧ (fMV (wN h) (wB h) 1 0) ≤ (99 : Int) by omega)
            | 3, hk => cases hk; exact (show (0 : Int) ≤ (fMV (wN h) (wB h) 1 3) ∧ (fMV (wN h) (wB h) 1 3) ≤ (99 : Int) by omega)
            | k + 4, hk => cases hk
          · exact pAll1 (show ((-1) + (1 * ρ 4 + 0) : Int) ≤ 0 by omega) (pAll1 (show (1 + ((-1) * ρ 4 + 0) : Int) ≤ 0 by omega) (pAll1 (show (0 + ((-1) * ρ 2 + (1 * (fMV (wN h) (wB h) 0 0) + 0)) : Int) ≤ 0 by omega) (pAll1 (show (1 + ((-1) * ρ 2 + (1 * (fMV (wN h) (wB h) 0 3) + 0)) : Int) ≤ 0 by omega) (pAll1 (show (0 + ((-1) * ρ 2 + (1 * (fMV (wN h) (wB h) 1 0) + 0)) : Int) ≤ 0 by omega) (pAll1 (show (1 + ((-1) * ρ 2 + (1 * (fMV (wN h) (wB h) 1 3) + 0)) : Int) ≤ 0 by omega) (pAll0))))))
          · exact pAll1 (pgP 98 418 (by decide) (by decide +kernel) (by decide +kernel) 0 (show (0 + 0 : Int) = _ by omega) (show (0 + (1 * (fMV (wN h) (wB h) 0 0) + 0) : Int) = _ by omega)) (pAll1 (pgP 98 418 (by decide) (by decide +kernel) (by decide +kernel) 3 (show (3 + 0 : Int) = _ by omega) (show (0 + (1 * (fMV (wN h) (wB h) 0 3) + 0) : Int) = _ by omega)) (pAll1 (pgP 98 418 (by decide) (by decide +kernel) (by decide +kernel) 4 (show (4 + 0 : Int) = _ by omega) (show (0 + (1 * (fMV (wN h) (wB h) 1 0) + 0) : Int) = _ by omega)) (pAll1 (pgP 98 418 (by decide) (by decide +kernel) (by decide +kernel) 7 (show (7 + 0 : Int) = _ by omega) (show (0 + (1 * (fMV (wN h) (wB h) 1 3) + 0) : Int) = _ by omega)) (pAll0))))
        · have hw : ¬ fWh (wN h) (wB h) := fun z => k1 (z.2 1 (by omega)).2
          rw [yB_0 hw] at eW
          refine ⟨rWH2m_4, List.mem_of_getElem? (i := 4) rfl, pEnd [ρ 0, ρ 1, ρ 2, ρ 3, ρ 4, ρ 5, (fMV (wN h) (wB h) 0 0), (fMV (wN h) (wB h) 0 3), (fMV (wN h) (wB h) 1 0), (fMV (wN h) (wB h) 1 3)] rfl ?_ ?_ ?_ ?_⟩
          · intro j hj
            match j, hj with
            | 0, _ => exact q0.symm
            | 1, _ => exact q1.symm
            | 2, _ => exact q2.symm
            | 3, _ => exact q3.symm
            | 4, _ => exact q4.symm
            | 5, _ => exact q5.symm
            | k + 6, hj => exact absurd hj (by show ¬ (k + 6 < 6); omega)
          · intro k b hk
            match k, hk with
            | 0, hk => cases hk; exact (show (0 : Int) ≤ (fMV (wN h) (wB h) 0 0) ∧ (fMV (wN h) (wB h) 0 0) ≤ (99 : Int) by omega)
            | 1, hk => cases hk; exact (show (0 : Int) ≤ (fMV (wN h) (wB h) 0 3) ∧ (fMV (wN h) (wB h) 0 3) ≤ (99 : Int) by omega)
            | 2, hk => cases hk; exact (show (0 : Int) ≤ (fMV (wN h) (wB h) 1 0) ∧ (fMV (wN h) (wB h) 1 0) ≤ (99 : Int) by omega)
            | 3, hk => cases hk; exact (show (0 : Int) ≤ (fMV (wN h) (wB h) 1 3) ∧ (fMV (wN h) (wB h) 1 3) ≤ (99 : Int) by omega)
            | k + 4, hk => cases hk
          · exact pAll1 (show (0 + (1 * ρ 4 + 0) : Int) ≤ 0 by omega) (pAll1 (show (0 + ((-1) * ρ 4 + 0) : Int) ≤ 0 by omega) (pAll1 (show (0 + ((-1) * ρ 2 + (1 * (fMV (wN h) (wB h) 0 0) + 0)) : Int) ≤ 0 by omega) (pAll1 (show (1 + ((-1) * ρ 2 + (1 * (fMV (wN h) (wB h) 0 3) + 0)) : Int) ≤ 0 by omega) (pAll1 (show (0 + ((-1) * ρ 2 + (1 * (fMV (wN h) (wB h) 1 0) + 0)) : Int) ≤ 0 by omega) (pAll1 (show (0 + (1 * ρ 2 + ((-1) * (fMV (wN h) (wB h) 1 3) + 0)) : Int) ≤ 0 by omega) (pAll0))))))
          · exact pAll1 (pgP 98 418 (by decide) (by decide +kernel) (by decide +kernel) 0 (show (0 + 0 : Int) = _ by omega) (show (0 + (1 * (fMV (wN h) (wB h) 0 0) + 0) : Int) = _ by omega)) (pAll1 (pgP 98 418 (by decide) (by decide +kernel) (by decide +kernel) 3 (show (3 + 0 : Int) = _ by omega) (show (0 + (1 * (fMV (wN h) (wB h) 0 3) + 0) : Int) = _ by omega)) (pAll1 (pgP 98 418 (by decide) (by decide +kernel) (by decide +kernel) 4 (show (4 + 0 : Int) = _ by omega) (show (0 + (1 * (fMV (wN h) (wB h) 1 0) + 0) : Int) = _ by omega)) (pAll1 (pgP 98 418 (by decide) (by decide +kernel) (by decide +kernel) 7 (show (7 + 0 : Int) = _ by omega) (show (0 + (1 * (fMV (wN h) (wB h) 1 3) + 0) : Int) = _ by omega)) (pAll0))))
      · have hw : ¬ fWh (wN h) (wB h) := fun z => g1 (z.2 1 (by omega)).1
        rw [yB_0 hw] at eW
        refine ⟨rWH2m_3, List.mem_of_getElem? (i := 3) rfl, pEnd [ρ 0, ρ 1, ρ 2, ρ 3, ρ 4, ρ 5, (fMV (wN h) (wB h) 0 0), (fMV (wN h) (wB h) 0 3), (fMV (wN h) (wB h) 1 0)] rfl ?_ ?_ ?_ ?_⟩
        · intro j hj
          match j, hj with
          | 0, _ => exact q0.symm
          | 1, _ => exact q1.symm
          | 2, _ => exact q2.symm
          | 3, _ => exact q3.symm
          | 4, _ => exact q4.symm
          | 5, _ => exact q5.symm
          | k + 6, hj => exact absurd hj (by show ¬ (k + 6 < 6); omega)
        · intro k b hk
          match k, hk with
          | 0, hk => cases hk; exact (show (0 : Int) ≤ (fMV (wN h) (wB h) 0 0) ∧ (fMV (wN h) (wB h) 0 0) ≤ (99 : Int) by omega)
          | 1, hk => cases hk; exact (show (0 : Int) ≤ (fMV (wN h) (wB h) 0 3) ∧ (fMV (wN h) (wB h) 0 3) ≤ (99 : Int) by omega)
          | 2, hk => cases hk; exact (show (0 : Int) ≤ (fMV (wN h) (wB h) 1 0) ∧ (fMV (wN h) (wB h) 1 0) ≤ (99 : Int) by omega)
          | k + 3, hk => cases hk
        · exact pAll1 (show (0 + (1 * ρ 4 + 0) : Int) ≤ 0 by omega) (pAll1 (show (0 + ((-1) * ρ 4 + 0) : Int) ≤ 0 by omega) (pAll1 (show (0 + ((-1) * ρ 2 + (1 * (fMV (wN h) (wB h) 0 0) + 0)) : Int) ≤ 0 by omega) (pAll1 (show (1 + ((-1) * ρ 2 + (1 * (fMV (wN h) (wB h) 0 3) + 0)) : Int) ≤ 0 by omega) (pAll1 (show (1 + (1 * ρ 2 + ((-1) * (fMV (wN h) (wB h) 1 0) + 0)) : Int) ≤ 0 by omega) (pAll0)))))
        · exact pAll1 (pgP 98 418 (by decide) (by decide +kernel) (by decide +kernel) 0 (show (0 + 0 : Int) = _ by omega) (show (0 + (1 * (fMV (wN h) (wB h) 0 0) + 0) : Int) = _ by omega)) (pAll1 (pgP 98 418 (by decide) (by decide +kernel) (by decide +kernel) 3 (show (3 + 0 : Int) = _ by omega) (show (0 + (1 * (fMV (wN h) (wB h) 0 3) + 0) : Int) = _ by omega)) (pAll1 (pgP 98 418 (by decide) (by decide +kernel) (by decide +kernel) 4 (show (4 + 0 : Int) = _ by omega) (show (0 + (1 * (fMV (wN h) (wB h) 1 0) + 0) : Int) = _ by omega)) (pAll0)))
    · have hw : ¬ fWh (wN h) (wB h) := fun z => k0 (z.2 0 (by omega)).2
      rw [yB_0 hw] at eW
      refine ⟨rWH2m_2, List.mem_of_getElem? (i := 2) rfl, pEnd [ρ 0, ρ 1, ρ 2, ρ 3, ρ 4, ρ 5, (fMV (wN h) (wB h) 0 0), (fMV (wN h) (wB h) 0 3)] rfl ?_ ?_ ?_ ?_⟩
      · intro j hj
        match j, hj with
        | 0, _ => exact q0.symm
        | 1, _ => exact q1.symm
        | 2, _ => exact q2.symm
        | 3, _ => exact q3.symm
        | 4, _ => exact q4.symm
        | 5, _ => exact q5.symm
        | k + 6, hj => exact absurd hj (by show ¬ (k + 6 < 6); omega)
      · intro k b hk
        match k, hk with
        | 0, hk => cases hk; exact (show (0 : Int) ≤ (fMV (wN h) (wB h) 0 0) ∧ (fMV (wN h) (wB h) 0 0) ≤ (99 : Int) by omega)
        | 1, hk => cases hk; exact (show (0 : Int) ≤ (fMV (wN h) (wB h) 0 3) ∧ (fMV (wN h) (wB h) 0 3) ≤ (99 : Int) by omega)
        | k + 2, hk => cases hk
      · exact pAll1 (show (0 + (1 * ρ 4 + 0) : Int) ≤ 0 by omega) (pAll1 (show (0 + ((-1) * ρ 4 + 0) : Int) ≤ 0 by omega) (pAll1 (show (0 + ((-1) * ρ 2 + (1 * (fMV (wN h) (wB h) 0 0) + 0)) : Int) ≤ 0 by omega) (pAll1 (show (0 + (1 * ρ 2 + ((-1) * (fMV (wN h) (wB h) 0 3) + 0)) : Int) ≤ 0 by omega) (pAll0))))
      · exact pAll1 (pgP 98 418 (by decide) (by decide +kernel) (by decide +kernel) 0 (show (0 + 0 : Int) = _ by omega) (show (0 + (1 * (fMV (wN h) (wB h) 0 0) + 0) : Int) = _ by omega)) (pAll1 (pgP 98 418 (by decide) (by decide +kernel) (by decide +kernel) 3 (show (3 + 0 : Int) = _ by omega) (show (0 + (1 * (fMV (wN h) (wB h) 0 3) + 0) : Int) = _ by omega)) (pAll0))
  · have hw : ¬ fWh (wN h) (wB h) := fun z => g0 (z.2 0 (by omega)).1
    rw [yB_0 hw] at eW
    refine ⟨rWH2m_1, List.mem_of_getElem? (i := 1) rfl, pEnd [ρ 0, ρ 1, ρ 2, ρ 3, ρ 4, ρ 5, (fMV (wN h) (wB h) 0 0)] rfl ?_ ?_ ?_ ?_⟩
    · intro j hj
      match j, hj with
      | 0, _ => exact q0.symm
      | 1, _ => exact q1.symm
      | 2, _ => exact q2.symm
      | 3, _ => exact q3.symm
      | 4, _ => exact q4.symm
      | 5, _ => exact q5.symm
      | k + 6, hj => exact absurd hj (by show ¬ (k + 6 < 6); omega)
    · intro k b hk
      match k, hk with
      | 0, hk => cases hk; exact (show (0 : Int) ≤ (fMV (wN h) (wB h) 0 0) ∧ (fMV (wN h) (wB h) 0 0) ≤ (99 : Int) by omega)
      | k + 1, hk => cases hk
    · exact pAll1 (show (0 + (1 * ρ 4 + 0) : Int) ≤ 0 by omega) (pAll1 (show (0 + ((-1) * ρ 4 + 0) : Int) ≤ 0 by omega) (pAll1 (show (1 + (1 * ρ 2 + ((-1) * (fMV (wN h) (wB h) 0 0) + 0)) : Int) ≤ 0 by omega) (pAll0)))
    · exact pAll1 (pgP 98 418 (by decide) (by decide +kernel) (by decide +kernel) 0 (show (0 + 0 : Int) = _ by omega) (show (0 + (1 * (fMV (wN h) (wB h) 0 0) + 0) : Int) = _ by omega)) (pAll0)
noncomputable def rWH3m_0 : sX := (none, [(98, (0, []), (0, [(6, 1)])), (98, (3, []), (0, [(7, 1)])), (98, (4, []), (0, [(8, 1)])), (98, (7, []), (0, [(9, 1)])), (98, (8, []), (0, [(10, 1)])), (98, (11, []), (0, [(11, 1)]))], [(0, 99), (0, 99), (0, 99), (0, 99), (0, 99), (0, 99)], [((-1), [(4, 1)]), (1, [(4, (-1))]), (0, [(2, (-1)), (6, 1)]), (1, [(2, (-1)), (7, 1)]), (0, [(2, (-1)), (8, 1)]), (1, [(2, (-1)), (9, 1)]), (0, [(2, (-1)), (10, 1)]), (1, [(2, (-1)), (11, 1)])], [])
noncomputable def rWH3m_1 : sX := (none, [(98, (0, []), (0, [(6, 1)]))], [(0, 99)], [(0, [(4, 1)]), (0, [(4, (-1))]), (1, [(2, 1), (6, (-1))])], [])
noncomputable def rWH3m_2 : sX := (none, [(98, (0, []), (0, [(6, 1)])), (98, (3, []), (0, [(7, 1)]))], [(0, 99), (0, 99)], [(0, [(4, 1)]), (0, [(4, (-1))]), (0, [(2, (-1)), (6, 1)]), (0, [(2, 1), (7, (-1))])], [])
noncomputable def rWH3m_3 : sX := (none, [(98, (0, []), (0, [(6, 1)])), (98, (3, []), (0, [(7, 1)])), (98, (4, []), (0, [(8, 1)]))], [(0, 99), (0, 99), (0, 99)], [(0, [(4, 1)]), (0, [(4, (-1))]), (0, [(2, (-1)), (6, 1)]), (1, [(2, (-1)), (7, 1)]), (1, [(2, 1), (8, (-1))])], [])
noncomputable def rWH3m_4 : sX := (none, [(98, (0, []), (0, [(6, 1)])), (98, (3, []), (0, [(7, 1)])), (98, (4, []), (0, [(8, 1)])), (98, (7, []), (0, [(9, 1)]))], [(0, 99), (0, 99), (0, 99), (0, 99)], [(0, [(4, 1)]), (0, [(4, (-1))]), (0, [(2, (-1)), (6, 1)]), (1, [(2, (-1)), (7, 1)]), (0, [(2, (-1)), (8, 1)]), (0, [(2, 1), (9, (-1))])], [])
noncomputable def rWH3m_5 : sX := (none, [(98, (0, []), (0, [(6, 1)])), (98, (3, []), (0, [(7, 1)])), (98, (4, []), (0, [(8, 1)])), (98, (7, []), (0, [(9, 1)])), (98, (8, []), (0, [(10, 1)]))], [(0, 99), (0, 99), (0, 99), (0, 99), (0, 99)], [(0, [(4, 1)]), (0, [(4, (-1))]), (0, [(2, (-1)), (6, 1)]), (1, [(2, (-1)), (7, 1)]), (0, [(2, (-1)), (8, 1)]), (1, [(2, (-1)), (9, 1)]), (1, [(2, 1), (10, (-1))])], [])
noncomputable def rWH3m_6 : sX := (none, [(98, (0, []), (0, [(6, 1)])), (98, (3, []), (0, [(7, 1)])), (98, (4, []), (0, [(8, 1)])), (98, (7, []), (0, [(9, 1)])), (98, (8, []), (0, [(10, 1)])), (98, (11, []), (0, [(11, 1)]))], [(0, 99), (0, 99), (0, 99), (0, 99), (0, 99), (0, 99)], [(0, [(4, 1)]), (0, [(4, (-1))]), (0, [(2, (-1)), (6, 1)]), (1, [(2, (-1)), (7, 1)]), (0, [(2, (-1)), (8, 1)]), (1, [(2, (-1)), (9, 1)]), (0, [(2, (-1)), (10, 1)]), (0, [(2, 1), (11, (-1))])], [])
noncomputable def rWH3m : sQ := (0, ([], [(2, 1020, (0, [])), (2, 1009, (0, [])), (2, 97, (0, [])), (2, 539, (0, [])), (2, 541, (0, [])), (2, 540, (0, []))], [(1, 1), (1, 1), (0, 99), (0, 99), (0, 1), (3, 3)], [(0, [(2, 1), (3, (-1))]), (0, [(2, (-1)), (3, 1)])], [(0, 0), (1, 1), (2, 2), (3, 3), (4, 4), (5, 5)], (0, [])), [rWH3m_0, rWH3m_1, rWH3m_2, rWH3m_3, rWH3m_4, rWH3m_5, rWH3m_6], [], 0)
set_option maxHeartbeats 4000000 in
theorem rWH3m_ok : pRul pReg pG pgv (rWH3m) := by
  intro loc h ρ ρ0 hG hM
  have hM : sMt pReg pgv ρ ρ0 (sAs (rWH3m).2.1) loc [] h := hM
  have q0 : ρ0 1 = ρ 0 := (hM.2.2.2.2.2 (1, sY 0) (List.mem_of_getElem? (i := 1) rfl)).trans (sY_v ρ 0)
  have q1 : ρ0 2 = ρ 1 := (hM.2.2.2.2.2 (2, sY 1) (List.mem_of_getElem? (i := 2) rfl)).trans (sY_v ρ 1)
  have q2 : ρ0 3 = ρ 2 := (hM.2.2.2.2.2 (3, sY 2) (List.mem_of_getElem? (i := 3) rfl)).trans (sY_v ρ 2)
  have q3 : ρ0 4 = ρ 3 := (hM.2.2.2.2.2 (4, sY 3) (List.mem_of_getElem? (i := 4) rfl)).trans (sY_v ρ 3)
  have q4 : ρ0 5 = ρ 4 := (hM.2.2.2.2.2 (5, sY 4) (List.mem_of_getElem? (i := 5) rfl)).trans (sY_v ρ 4)
  have q5 : ρ0 6 = ρ 5 := (hM.2.2.2.2.2 (6, sY 5) (List.mem_of_getElem? (i := 6) rfl)).trans (sY_v ρ 5)
  have hL : ∀ j, j < 6 → pL [ρ 0, ρ 1, ρ 2, ρ 3, ρ 4, ρ 5] j = ρ0 (j + 1) := by
    intro j hj
    match j, hj with
    | 0, _ => exact q0.symm
    | 1, _ => exact q1.symm
    | 2, _ => exact q2.symm
    | 3, _ => exact q3.symm
    | 4, _ => exact q4.symm
    | 5, _ => exact q5.symm
    | k + 6, hj => omega
  have b0 : (1 : Int) ≤ ρ 0 ∧ ρ 0 ≤ 1 := hM.2.2.2.1 0 (1, 1) rfl
  have b1 : (1 : Int) ≤ ρ 1 ∧ ρ 1 ≤ 1 := hM.2.2.2.1 1 (1, 1) rfl
  have b2 : (0 : Int) ≤ ρ 2 ∧ ρ 2 ≤ 99 := hM.2.2.2.1 2 (0, 99) rfl
  have b3 : (0 : Int) ≤ ρ 3 ∧ ρ 3 ≤ 99 := hM.2.2.2.1 3 (0, 99) rfl
  have b4 : (0 : Int) ≤ ρ 4 ∧ ρ 4 ≤ 1 := hM.2.2.2.1 4 (0, 1) rfl
  have b5 : (3 : Int) ≤ ρ 5 ∧ ρ 5 ≤ 3 := hM.2.2.2.1 5 (3, 3) rfl
  have c0 : (0 + (1 * ρ 2 + ((-1) * ρ 3 + 0)) : Int) ≤ 0 := hM.2.2.2.2.1 (0, [(2, 1), (3, (-1))]) (List.mem_of_getElem? (i := 0) rfl)
  have c1 : (0 + ((-1) * ρ 2 + (1 * ρ 3 + 0)) : Int) ≤ 0 := hM.2.2.2.2.1 (0, [(2, (-1)), (3, 1)]) (List.mem_of_getElem? (i := 1) rfl)
  obtain ⟨ho, hh, hf⟩ := pTold20 hM 0 (0, []) rfl b0.1
  have hn := ho.1
  have ha : aM 3 h := pToldM hM 1 3 (by decide) (0, []) rfl b1.1
  have ey : ρ 3 = fRV (wN h) (wB h) 0 := (pfF hM hf 3 539 (0, []) rfl (by decide) (by decide) (0) (by omega) (by show (0 + 0 : Int) = _; omega)).trans (fA_RV (k := 0) (by decide))
  have eW : ρ 4 = yB (fWh (wN h) (wB h)) := (pfF hM hf 4 541 (0, []) rfl (by decide) (by decide) (0) (by omega) (by show (0 + 0 : Int) = _; omega)).trans (fA_WH)
  have efm : ρ 5 = ((fW (wN h) (wB h) 0 0 0).2.1 : Int) := (pfF hM hf 5 540 (0, []) rfl (by decide) (by decide) (0) (by omega) (by show (0 + 0 : Int) = _; omega)).trans (fA_FM)
  have em : (fW (wN h) (wB h) 0 0 0).2.1 = 3 := by omega
  have r00 : (h.1 418 0).toInt = (fMV (wN h) (wB h) 0 0) := (ha 0 0 (by decide) (by decide)).trans ((hf 538 (by decide) (by decide) 0 (by decide)).trans (fA_MV (i := 0) (k := 0) (by decide) (by decide)))
  have m00 := fMV_bd (n := wN h) (B := wB h) 0 0
  have r03 : (h.1 418 3).toInt = (fMV (wN h) (wB h) 0 3) := (ha 0 3 (by decide) (by decide)).trans ((hf 538 (by decide) (by decide) 3 (by decide)).trans (fA_MV (i := 0) (k := 3) (by decide) (by decide)))
  have m03 := fMV_bd (n := wN h) (B := wB h) 0 3
  have r10 : (h.1 418 4).toInt = (fMV (wN h) (wB h) 1 0) := (ha 1 0 (by decide) (by decide)).trans ((hf 538 (by decide) (by decide) 4 (by decide)).trans (fA_MV (i := 1) (k := 0) (by decide) (by decide)))
  have m10 := fMV_bd (n := wN h) (B := wB h) 1 0
  have r13 : (h.1 418 7).toInt = (fMV (wN h) (wB h) 1 3) := (ha 1 3 (by decide) (by decide)).trans ((hf 538 (by decide) (by decide) 7 (by decide)).trans (fA_MV (i := 1) (k := 3) (by decide) (by decide)))
  have m13 := fMV_bd (n := wN h) (B := wB h) 1 3
  have r20 : (h.1 418 8).toInt = (fMV (wN h) (wB h) 2 0) := (ha 2 0 (by decide) (by decide)).trans ((hf 538 (by decide) (by decide) 8 (by decide)).trans (fA_MV (i := 2) (k := 0) (by decide) (by decide)))
  have m20 := fMV_bd (n := wN h) (B := wB h) 2 0
  have r23 : (h.1 418 11).toInt = (fMV (wN h) (wB h) 2 3) := (ha 2 3 (by decide) (by decide)).trans ((hf 538 (by decide) (by decide) 11 (by decide)).trans (fA_MV (i := 2) (k := 3) (by decide) (by decide)))
  have m23 := fMV_bd (n := wN h) (B := wB h) 2 3
  by_cases g0 : (fMV (wN h) (wB h) 0 0) ≤ fRV (wN h) (wB h) 0
  · by_cases k0 : (fMV (wN h) (wB h) 0 3) < fRV (wN h) (wB h) 0
    · by_cases g1 : (fMV (wN h) (wB h) 1 0) ≤ fRV (wN h) (wB h) 0
      · by_cases k1 : (fMV (wN h) (wB h) 1 3) < fRV (wN h) (wB h) 0
        · by_cases g2 : (fMV (wN h) (wB h) 2 0) ≤ fRV (wN h) (wB h) 0
          · by_cases k2 : (fMV (wN h) (wB h) 2 3) < fRV (wN h) (wB h) 0
            · have hw : fWh (wN h) (wB h) := by
                refine ⟨by omega, fun i hi => ?_⟩
                rw [em] at hi
                rcases (show i = 0 ∨ i = 1 ∨ i = 2 by omega) with rfl | rfl | rfl
                · exact ⟨g0, k0⟩
                · exact ⟨g1, k1⟩
                · exact ⟨g2, k2⟩
              rw [yB_1.mpr hw] at eW
              refine ⟨rWH3m_0, List.mem_of_getElem? (i := 0) rfl, pEnd [ρ 0, ρ 1, ρ 2, ρ 3, ρ 4, ρ 5, (fMV (wN h) (wB h) 0 0), (fMV (wN h) (wB h) 0 3), (fMV (wN h) (wB h) 1 0), (fMV (wN h) (wB h) 1 3), (fMV (wN h) (wB h) 2 0), (fMV (wN h) (wB h) 2 3)] rfl ?_ ?_ ?_ ?_⟩
              · intro j hj
                match j, hj with
                | 0, _ => exact q0.symm
                | 1, _ => exact q1.symm
                | 2, _ => exact q2.symm
                | 3, _ => exact q3.symm
                | 4, _ => exact q4.symm
                | 5, _ => exact q5.symm
                | k + 6, hj => exact absurd hj (by show ¬ (k + 6 < 6); omega)
              · intro k b hk
                match k, hk with
                | 0, hk => cases hk; exact (show (0 : Int) ≤ (fMV (wN h) (wB h) 0 0) ∧ (fMV (wN h) (wB h) 0 0) ≤ (99 : Int) by omega)
                | 1, hk => cases hk; exact (show (0 : Int) ≤ (fMV (wN h) (wB h) 0 3) ∧ (fMV (wN h) (wB h) 0 3) ≤ (99 : Int) by omega)
                | 2, hk => cases hk; exact (show (0 : Int) ≤ (fMV (wN h) (wB h) 1 0) ∧ (fMV (wN h) (wB h) 1 0) ≤ (99 : Int) by omega)
                | 3, hk => cases hk; exact (show (0 : Int) ≤ (fMV (wN h) (wB h) 1 3) ∧ (fMV (wN h) (wB h) 1 3) ≤ (99 : Int) by omega)
                | 4, hk => cases hk; exact (show (0 : Int) ≤ (fMV (wN h) (wB h) 2 0) ∧ (fMV (wN h) (wB h) 2 0) ≤ (99 : Int) by omega)
                | 5, hk => cases hk; exact (show (0 : Int) ≤ (fMV (wN h) (wB h) 2 3) ∧ (fMV (wN h) (wB h) 2 3) ≤ (99 : Int) by omega)
                | k + 6, hk => cases hk
              · exact pAll1 (show ((-1) + (1 * ρ 4 + 0) : Int) ≤ 0 by omega) (pAll1 (show (1 + ((-1) * ρ 4 + 0) : Int) ≤ 0 by omega) (pAll1 (show (0 + ((-1) * ρ 2 + (1 * (fMV (wN h) (wB h) 0 0) + 0)) : Int) ≤ 0 by omega) (pAll1 (show (1 + ((-1) * ρ 2 + (1 * (fMV (wN h) (wB h) 0 3) + 0)) : Int) ≤ 0 by omega) (pAll1 (show (0 + ((-1) * ρ 2 + (1 * (fMV (wN h) (wB h) 1 0) + 0)) : Int) ≤ 0 by omega) (pAll1 (show (1 + ((-1) * ρ 2 + (1 * (fMV (wN h) (wB h) 1 3) + 0)) : Int) ≤ 0 by omega) (pAll1 (show (0 + ((-1) * ρ 2 + (1 * (fMV (wN h) (wB h) 2 0) + 0)) : Int) ≤ 0 by omega) (pAll1 (show (1 + ((-1) * ρ 2 + (1 * (fMV (wN h) (wB h) 2 3) + 0)) : Int) ≤ 0 by omega) (pAll0))))))))
              · exact pAll1 (pgP 98 418 (by decide) (by decide +kernel) (by decide +kernel) 0 (show (0 + 0 : Int) = _ by omega) (show (0 + (1 * (fMV (wN h) (wB h) 0 0) + 0) : Int) = _ by omega)) (pAll1 (pgP 98 418 (by decide) (by decide +kernel) (by decide +kernel) 3 (show (3 + 0 : Int) = _ by omega) (show (0 + (1 * (fMV (wN h) (wB h) 0 3) + 0) : Int) = _ by omega)) (pAll1 (pgP 98 418 (by decide) (by decide +kernel) (by decide +kernel) 4 (show (4 + 0 : Int) = _ by omega) (show (0 + (1 * (fMV (wN h) (wB h) 1 0) + 0) : Int) = _ by omega)) (pAll1 (pgP 98 418 (by decide) (by decide +kernel) (by decide +kernel) 7 (show (7 + 0 : Int) = _ by omega) (show (0 + (1 * (fMV (wN h) (wB h) 1 3) + 0) : Int) = _ by omega)) (pAll1 (pgP 98 418 (by decide) (by decide +kernel) (by decide +kernel) 8 (show (8 + 0 : Int) = _ by omega) (show (0 + (1 * (fMV (wN h) (wB h) 2 0) + 0) : Int) = _ by omega)) (pAll1 (pgP 98 418 (by decide) (by decide +kernel) (by decide +kernel) 11 (show (11 + 0 : Int) = _ by omega) (show (0 + (1 * (fMV (wN h) (wB h) 2 3) + 0) : Int) = _ by omega)) (pAll0))))))
            · have hw : ¬ fWh (wN h) (wB h) := fun z => k2 (z.2 2 (by omega)).2
              rw [yB_0 hw] at eW
              refine ⟨rWH3m_6, List.mem_of_getElem? (i := 6) rfl, pEnd [ρ 0, ρ 1, ρ 2, ρ 3, ρ 4, ρ 5, (fMV (wN h) (wB h) 0 0), (fMV (wN h) (wB h) 0 3), (fMV (wN h) (wB h) 1 0), (fMV (wN h) (wB h) 1 3), (fMV (wN h) (wB h) 2 0), (fMV (wN h) (wB h) 2 3)] rfl ?_ ?_ ?_ ?_⟩
              · intro j hj
                match j, hj with
                | 0, _ => exact q0.symm
                | 1, _ => exact q1.symm
                | 2, _ => exact q2.symm
                | 3, _ => exact q3.symm
                | 4, _ => exact q4.symm
                | 5, _ => exact q5.symm
                | k + 6, hj => exact absurd hj (by show ¬ (k + 6 < 6); omega)
              · intro k b hk
                match k, hk with
                | 0, hk => cases hk; exact (show (0 : Int) ≤ (fMV (wN h) (wB h) 0 0) ∧ (fMV (wN h) (wB h) 0 0) ≤ (99 : Int) by omega)
                | 1, hk => cases hk; exact (show (0 : Int) ≤ (fMV (wN h) (wB h) 0 3) ∧ (fMV (wN h) (wB h) 0 3) ≤ (99 : Int) by omega)
                | 2, hk => cases hk; exact (show (0 : Int) ≤ (fMV (wN h) (wB h) 1 0) ∧ (fMV (wN h) (wB h) 1 0) ≤ (99 : Int) by omega)
                | 3, hk => cases hk; exact (show (0 : Int) ≤ (fMV (wN h) (wB h) 1 3) ∧ (fMV (wN h) (wB h) 1 3) ≤ (99 : Int) by omega)
                | 4, hk => cases hk; exact (show (0 : Int) ≤ (fMV (wN h) (wB h) 2 0) ∧ (fMV (wN h) (wB h) 2 0) ≤ (99 : Int) by omega)
                | 5, hk => cases hk; exact (show (0 : Int) ≤ (fMV (wN h) (wB h) 2 3) ∧ (fMV (wN h) (wB h) 2 3) ≤ (99 : Int) by omega)
                | k + 6, hk => cases hk
              · exact pAll1 (show (0 + (1 * ρ 4 + 0) : Int) ≤ 0 by omega) (pAll1 (show (0 + ((-1) * ρ 4 + 0) : Int) ≤ 0 by omega) (pAll1 (show (0 + ((-1) * ρ 2 + (1 * (fMV (wN h) (wB h) 0 0) + 0)) : Int) ≤ 0 by omega) (pAll1 (show (1 + ((-1) * ρ 2 + (1 * (fMV (wN h) (wB h) 0 3) + 0)) : Int) ≤ 0 by omega) (pAll1 (show (0 + ((-1) * ρ 2 + (1 * (fMV (wN h) (wB h) 1 0) + 0)) : Int) ≤ 0 by omega) (pAll1 (show (1 + ((-1) * ρ 2 + (1 * (fMV (wN h) (wB h) 1 3) + 0)) : Int) ≤ 0 by omega) (pAll1 (show (0 + ((-1) * ρ 2 + (1 * (fMV (wN h) (wB h) 2 0) + 0)) : Int) ≤ 0 by omega) (pAll1 (show (0 + (1 * ρ 2 + ((-1) * (fMV (wN h) (wB h) 2 3) + 0)) : Int) ≤ 0 by omega) (pAll0))))))))
              · exact pAll1 (pgP 98 418 (by decide) (by decide +kernel) (by decide +kernel) 0 (show (0 + 0 : Int) = _ by omega) (show (0 + (1 * (fMV (wN h) (wB h) 0 0) + 0) : Int) = _ by omega)) (pAll1 (pgP 98 418 (by decide) (by decide +kernel) (by decide +kernel) 3 (show (3 + 0 : Int) = _ by omega) (show (0 + (1 * (fMV (wN h) (wB h) 0 3) + 0) : Int) = _ by omega)) (pAll1 (pgP 98 418 (by decide) (by decide +kernel) (by decide +kernel) 4 (show (4 + 0 : Int) = _ by omega) (show (0 + (1 * (fMV (wN h) (wB h) 1 0) + 0) : Int) = _ by omega)) (pAll1 (pgP 98 418 (by decide) (by decide +kernel) (by decide +kernel) 7 (show (7 + 0 : Int) = _ by omega) (show (0 + (1 * (fMV (wN h) (wB h) 1 3) + 0) : Int) = _ by omega)) (pAll1 (pgP 98 418 (by decide) (by decide +kernel) (by decide +kernel) 8 (show (8 + 0 : Int) = _ by omega) (show (0 + (1 * (fMV (wN h) (wB h) 2 0) + 0) : Int) = _ by omega)) (pAll1 (pgP 98 418 (by decide) (by decide +kernel) (by decide +kernel) 11 (show (11 + 0 : Int) = _ by omega) (show (0 + (1 * (fMV (wN h) (wB h) 2 3) + 0) : Int) = _ by omega)) (pAll0))))))
          · have hw : ¬ fWh (wN h) (wB h) := fun z => g2 (z.2 2 (by omega)).1
            rw [yB_0 hw] at eW
            refine ⟨rWH3m_5, List.mem_of_getElem? (i := 5) rfl, pEnd [ρ 0, ρ 1, ρ 2, ρ 3, ρ 4, ρ 5, (fMV (wN h) (wB h) 0 0), (fMV (wN h) (wB h) 0 3), (fMV (wN h) (wB h) 1 0), (fMV (wN h) (wB h) 1 3), (fMV (wN h) (wB h) 2 0)] rfl ?_ ?_ ?_ ?_⟩
            · intro j hj
              match j, hj with
              | 0, _ => exact q0.symm
              | 1, _ => exact q1.symm
              | 2, _ => exact q2.symm
              | 3, _ => exact q3.symm
              | 4, _ => exact q4.symm
              | 5, _ => exact q5.symm
              | k + 6, hj => exact absurd hj (by show ¬ (k + 6 < 6); omega)
            · intro k b hk
              match k, hk with
              | 0, hk => cases hk; exact (show (0 : Int) ≤ (fMV (wN h) (wB h) 0 0) ∧ (fMV (wN h) (wB h) 0 0) ≤ (99 : Int) by omega)
              | 1, hk => cases hk; exact (show (0 : Int) ≤ (fMV (wN h) (wB h) 0 3) ∧ (fMV (wN h) (wB h) 0 3) ≤ (99 : Int) by omega)
              | 2, hk => cases hk; exact (show (0 : Int) ≤ (fMV (wN h) (wB h) 1 0) ∧ (fMV (wN h) (wB h) 1 0) ≤ (99 : Int) by omega)
              | 3, hk => cases hk; exact (show (0 : Int) ≤ (fMV (wN h) (wB h) 1 3) ∧ (fMV (wN h) (wB h) 1 3) ≤ (99 : Int) by omega)
              | 4, hk => cases hk; exact (show (0 : Int) ≤ (fMV (wN h) (wB h) 2 0) ∧ (fMV (wN h) (wB h) 2 0) ≤ (99 : Int) by omega)
              | k + 5, hk => cases hk
            · exact pAll1 (show (0 + (1 * ρ 4 + 0) : Int) ≤ 0 by omega) (pAll1 (show (0 + ((-1) * ρ 4 + 0) : Int) ≤ 0 by omega) (pAll1 (show (0 + ((-1) * ρ 2 + (1 * (fMV (wN h) (wB h) 0 0) + 0)) : Int) ≤ 0 by omega) (pAll1 (show (1 + ((-1) * ρ 2 + (1 * (fMV (wN h) (wB h) 0 3) + 0)) : Int) ≤ 0 by omega) (pAll1 (show (0 + ((-1) * ρ 2 + (1 * (fMV (wN h) (wB h) 1 0) + 0)) : Int) ≤ 0 by omega) (pAll1 (show (1 + ((-1) * ρ 2 + (1 * (fMV (wN h) (wB h) 1 3) + 0)) : Int) ≤ 0 by omega) (pAll1 (show (1 + (1 * ρ 2 + ((-1) * (fMV (wN h) (wB h) 2 0) + 0)) : Int) ≤ 0 by omega) (pAll0)))))))
            · exact pAll1 (pgP 98 418 (by decide) (by decide +kernel) (by decide +kernel) 0 (show (0 + 0 : Int) = _ by omega) (show (0 + (1 * (fMV (wN h) (wB h) 0 0) + 0) : Int) = _ by omega)) (pAll1 (pgP 98 418 (by decide) (by decide +kernel) (by decide +kernel) 3 (show (3 + 0 : Int) = _ by omega) (show (0 + (1 * (fMV (wN h) (wB h) 0 3) + 0) : Int) = _ by omega)) (pAll1 (pgP 98 418 (by decide) (by decide +kernel) (by decide +kernel) 4 (show (4 + 0 : Int) = _ by omega) (show (0 + (1 * (fMV (wN h) (wB h) 1 0) + 0) : Int) = _ by omega)) (pAll1 (pgP 98 418 (by decide) (by decide +kernel) (by decide +kernel) 7 (show (7 + 0 : Int) = _ by omega) (show (0 + (1 * (fMV (wN h) (wB h) 1 3) + 0) : Int) = _ by omega)) (pAll1 (pgP 98 418 (by decide) (by decide +kernel) (by decide +kernel) 8 (show (8 + 0 : Int) = _ by omega) (show (0 + (1 * (fMV (wN h) (wB h) 2 0) + 0) : Int) = _ by omega)) (pAll0)))))
        · have hw : ¬ fWh (wN h) (wB h) := fun z => k1 (z.2 1 (by omega)).2
          rw [yB_0 hw] at eW
          refine ⟨rWH3m_4, List.mem_of_getElem? (i := 4) rfl, pEnd [ρ 0, ρ 1, ρ 2, ρ 3, ρ 4, ρ 5, (fMV (wN h) (wB h) 0 0), (fMV (wN h) (wB h) 0 3), (fMV (wN h) (wB h) 1 0), (fMV (wN h) (wB h) 1 3)] rfl ?_ ?_ ?_ ?_⟩
          · intro j hj
            match j, hj with
            | 0, _ => exact q0.symm
            | 1, _ => exact q1.symm
            | 2, _ => exact q2.symm
            | 3, _ => exact q3.symm
            | 4, _ => exact q4.symm
            | 5, _ => exact q5.symm
            | k + 6, hj => exact absurd hj (by show ¬ (k + 6 < 6); omega)
          · intro k b hk
            match k, hk with
            | 0, hk => cases hk; exact (show (0 : Int) ≤ (fMV (wN h) (wB h) 0 0) ∧ (fMV (wN h) (wB h) 0 0) ≤ (99 : Int) by omega)
            | 1, hk => cases hk; exact (show (0 : Int) ≤ (fMV (wN h) (wB h) 0 3) ∧ (fMV (wN h) (wB h) 0 3) ≤ (99 : Int) by omega)
            | 2, hk => cases hk; exact (show (0 : Int) ≤ (fMV (wN h) (wB h) 1 0) ∧ (fMV (wN h) (wB h) 1 0) ≤ (99 : Int) by omega)
            | 3, hk => cases hk; exact (show (0 : Int) ≤ (fMV (wN h) (wB h) 1 3) ∧ (fMV (wN h) (wB h) 1 3) ≤ (99 : Int) by omega)
            | k + 4, hk => cases hk
          · exact pAll1 (show (0 + (1 * ρ 4 + 0) : Int) ≤ 0 by omega) (pAll1 (show (0 + ((-1) * ρ 4 + 0) : Int) ≤ 0 by omega) (pAll1 (show (0 + ((-1) * ρ 2 + (1 * (fMV (wN h) (wB h) 0 0) + 0)) : Int) ≤ 0 by omega) (pAll1 (show (1 + ((-1) * ρ 2 + (1 * (fMV (wN h) (wB h) 0 3) + 0)) : Int) ≤ 0 by omega) (pAll1 (show (0 + ((-1) * ρ 2 + (1 * (fMV (wN h) (wB h) 1 0) + 0)) : Int) ≤ 0 by omega) (pAll1 (show (0 + (1 * ρ 2 + ((-1) * (fMV (wN h) (wB h) 1 3) + 0)) : Int) ≤ 0 by omega) (pAll0))))))
          · exact pAll1 (pgP 98 418 (by decide) (by decide +kernel) (by decide +kernel) 0 (show (0 + 0 : Int) = _ by omega) (show (0 + (1 * (fMV (wN h) (wB h) 0 0) + 0) : Int) = _ by omega)) (pAll1 (pgP 98 418 (by decide) (by decide +kernel) (by decide +kernel) 3 (show (3 + 0 : Int) = _ by omega) (show (0 + (1 * (fMV (wN h) (wB h) 0 3) + 0) : Int) = _ by omega)) (pAll1 (pgP 98 418 (by decide) (by decide +kernel) (by decide +kernel) 4 (show (4 + 0 : Int) = _ by omega) (show (0 + (1 * (fMV (wN h) (wB h) 1 0) + 0) : Int) = _ by omega)) (pAll1 (pgP 98 418 (by decide) (by decide +kernel) (by decide +kernel) 7 (show (7 + 0 : Int) = _ by omega) (show (0 + (1 * (fMV (wN h) (wB h) 1 3) + 0) : Int) = _ by omega)) (pAll0))))
      · have hw : ¬ fWh (wN h) (wB h) := fun z => g1 (z.2 1 (by omega)).1
        rw [yB_0 hw] at eW
        refine ⟨rWH3m_3, List.mem_of_getElem? (i := 3) rfl, pEnd [ρ 0, ρ 1, ρ 2, ρ 3, ρ 4, ρ 5, (fMV (wN h) (wB h) 0 0), (fMV (wN h) (wB h) 0 3), (fMV (wN h) (wB h) 1 0)] rfl ?_ ?_ ?_ ?_⟩
        · intro j hj
          match j, hj with
          | 0, _ => exact q0.symm
          | 1, _ => exact q1.symm
          | 2, _ => exact q2.symm
          | 3, _ => exact q3.symm
          | 4, _ => exact q4.symm
          | 5, _ => exact q5.symm
          | k + 6, hj => exact absurd hj (by show ¬ (k + 6 < 6); omega)
        · intro k b hk
          match k, hk with
          | 0, hk => cases hk; exact (show (0 : Int) ≤ (fMV (wN h) (wB h) 0 0) ∧ (fMV (wN h) (wB h) 0 0) ≤ (99 : Int) by omega)
          | 1, hk => cases hk; exact (show (0 : Int) ≤ (fMV (wN h) (wB h) 0 3) ∧ (fMV (wN h) (wB h) 0 3) ≤ (99 : Int) by omega)
          | 2, hk => cases hk; exact (show (0 : Int) ≤ (fMV (wN h) (wB h) 1 0) ∧ (fMV (wN h) (wB h) 1 0) ≤ (99 : Int) by omega)
          | k + 3, hk => cases hk
        · exact pAll1 (show (0 + (1 * ρ 4 + 0) : Int) ≤ 0 by omega) (pAll1 (show (0 + ((-1) * ρ 4 + 0) : Int) ≤ 0 by omega) (pAll1 (show (0 + ((-1) * ρ 2 + (1 * (fMV (wN h) (wB h) 0 0) + 0)) : Int) ≤ 0 by omega) (pAll1 (show (1 + ((-1) * ρ 2 + (1 * (fMV (wN h) (wB h) 0 3) + 0)) : Int) ≤ 0 by omega) (pAll1 (show (1 + (1 * ρ 2 + ((-1) * (fMV (wN h) (wB h) 1 0) + 0)) : Int) ≤ 0 by omega) (pAll0)))))
        · exact pAll1 (pgP 98 418 (by decide) (by decide +kernel) (by decide +kernel) 0 (show (0 + 0 : Int) = _ by omega) (show (0 + (1 * (fMV (wN h) (wB h) 0 0) + 0) : Int) = _ by omega)) (pAll1 (pgP 98 418 (by decide) (by decide +kernel) (by decide +kernel) 3 (show (3 + 0 : Int) = _ by omega) (show (0 + (1 * (fMV (wN h) (wB h) 0 3) + 0) : Int) = _ by omega)) (pAll1 (pgP 98 418 (by decide) (by decide +kernel) (by decide +kernel) 4 (show (4 + 0 : Int) = _ by omega) (show (0 + (1 * (fMV (wN h) (wB h) 1 0) + 0) : Int) = _ by omega)) (pAll0)))
    · have hw : ¬ fWh (wN h) (wB h) := fun z => k0 (z.2 0 (by omega)).2
      rw [yB_0 hw] at eW
      refine ⟨rWH3m_2, List.mem_of_getElem? (i := 2) rfl, pEnd [ρ 0, ρ 1, ρ 2, ρ 3, ρ 4, ρ 5, (fMV (wN h) (wB h) 0 0), (fMV (wN h) (wB h) 0 3)] rfl ?_ ?_ ?_ ?_⟩
      · intro j hj
        match j, hj with
        | 0, _ => exact q0.symm
        | 1, _ => exact q1.symm
        | 2, _ => exact q2.symm
        | 3, _ => exact q3.symm
        | 4, _ => exact q4.symm
        | 5, _ => exact q5.symm
        | k + 6, hj => exact absurd hj (by show ¬ (k + 6 < 6); omega)
      · intro k b hk
        match k, hk with
        | 0, hk => cases hk; exact (show (0 : Int) ≤ (fMV (wN h) (wB h) 0 0) ∧ (fMV (wN h) (wB h) 0 0) ≤ (99 : Int) by omega)
        | 1, hk => cases hk; exact (show (0 : Int) ≤ (fMV (wN h) (wB h) 0 3) ∧ (fMV (wN h) (wB h) 0 3) ≤ (99 : Int) by omega)
        | k + 2, hk => cases hk
      · exact pAll1 (show (0 + (1 * ρ 4 + 0) : Int) ≤ 0 by omega) (pAll1 (show (0 + ((-1) * ρ 4 + 0) : Int) ≤ 0 by omega) (pAll1 (show (0 + ((-1) * ρ 2 + (1 * (fMV (wN h) (wB h) 0 0) + 0)) : Int) ≤ 0 by omega) (pAll1 (show (0 + (1 * ρ 2 + ((-1) * (fMV (wN h) (wB h) 0 3) + 0)) : Int) ≤ 0 by omega) (pAll0))))
      · exact pAll1 (pgP 98 418 (by decide) (by decide +kernel) (by decide +kernel) 0 (show (0 + 0 : Int) = _ by omega) (show (0 + (1 * (fMV (wN h) (wB h) 0 0) + 0) : Int) = _ by omega)) (pAll1 (pgP 98 418 (by decide) (by decide +kernel) (by decide +kernel) 3 (show (3 + 0 : Int) = _ by omega) (show (0 + (1 * (fMV (wN h) (wB h) 0 3) + 0) : Int) = _ by omega)) (pAll0))
  · have hw : ¬ fWh (wN h) (wB h) := fun z => g0 (z.2 0 (by omega)).1
    rw [yB_0 hw] at eW
    refine ⟨rWH3m_1, List.mem_of_getElem? (i := 1) rfl, pEnd [ρ 0, ρ 1, ρ 2, ρ 3, ρ 4, ρ 5, (fMV (wN h) (wB h) 0 0)] rfl ?_ ?_ ?_ ?_⟩
    · intro j hj
      match j, hj with
      | 0, _ => exact q0.symm
      | 1, _ => exact q1.symm
      | 2, _ => exact q2.symm
      | 3, _ => exact q3.symm
      | 4, _ => exact q4.symm
      | 5, _ => exact q5.symm
      | k + 6, hj => exact absurd hj (by show ¬ (k + 6 < 6); omega)
    · intro k b hk
      match k, hk with
      | 0, hk => cases hk; exact (show (0 : Int) ≤ (fMV (wN h) (wB h) 0 0) ∧ (fMV (wN h) (wB h) 0 0) ≤ (99 : Int) by omega)
      | k + 1, hk => cases hk
    · exact pAll1 (show (0 + (1 * ρ 4 + 0) : Int) ≤ 0 by omega) (pAll1 (show (0 + ((-1) * ρ 4 + 0) : Int) ≤ 0 by omega) (pAll1 (show (1 + (1 * ρ 2 + ((-1) * (fMV (wN h) (wB h) 0 0) + 0)) : Int) ≤ 0 by omega) (pAll0)))
    · exact pAll1 (pgP 98 418 (by decide) (by decide +kernel) (by decide +kernel) 0 (show (0 + 0 : Int) = _ by omega) (show (0 + (1 * (fMV (wN h) (wB h) 0 0) + 0) : Int) = _ by omega)) (pAll0)
noncomputable def rWH4m_0 : sX := (none, [(98, (0, []), (0, [(6, 1)])), (98, (3, []), (0, [(7, 1)])), (98, (4, []), (0, [(8, 1)])), (98, (7, []), (0, [(9, 1)])), (98, (8, []), (0, [(10, 1)])), (98, (11, []), (0, [(11, 1)])), (98, (12, []), (0, [(12, 1)])), (98, (15, []), (0, [(13, 1)]))], [(0, 99), (0, 99), (0, 99), (0, 99), (0, 99), (0, 99), (0, 99), (0, 99)], [((-1), [(4, 1)]), (1, [(4, (-1))]), (0, [(2, (-1)), (6, 1)]), (1, [(2, (-1)), (7, 1)]), (0, [(2, (-1)), (8, 1)]), (1, [(2, (-1)), (9, 1)]), (0, [(2, (-1)), (10, 1)]), (1, [(2, (-1)), (11, 1)]), (0, [(2, (-1)), (12, 1)]), (1, [(2, (-1)), (13, 1)])], [])
noncomputable def rWH4m_1 : sX := (none, [(98, (0, []), (0, [(6, 1)]))], [(0, 99)], [(0, [(4, 1)]), (0, [(4, (-1))]), (1, [(2, 1), (6, (-1))])], [])
noncomputable def rWH4m_2 : sX := (none, [(98, (0, []), (0, [(6, 1)])), (98, (3, []), (0, [(7, 1)]))], [(0, 99), (0, 99)], [(0, [(4, 1)]), (0, [(4, (-1))]), (0, [(2, (-1)), (6, 1)]), (0, [(2, 1), (7, (-1))])], [])
noncomputable def rWH4m_3 : sX := (none, [(98, (0, []), (0, [(6, 1)])), (98, (3, []), (0, [(7, 1)])), (98, (4, []), (0, [(8, 1)]))], [(0, 99), (0, 99), (0, 99)], [(0, [(4, 1)]), (0, [(4, (-1))]), (0, [(2, (-1)), (6, 1)]), (1, [(2, (-1)), (7, 1)]), (1, [(2, 1), (8, (-1))])], [])
noncomputable def rWH4m_4 : sX := (none, [(98, (0, []), (0, [(6, 1)])), (98, (3, []), (0, [(7, 1)])), (98, (4, []), (0, [(8, 1)])), (98, (7, []), (0, [(9, 1)]))], [(0, 99), (0, 99), (0, 99), (0, 99)], [(0, [(4, 1)]), (0, [(4, (-1))]), (0, [(2, (-1)), (6, 1)]), (1, [(2, (-1)), (7, 1)]), (0, [(2, (-1)), (8, 1)]), (0, [(2, 1), (9, (-1))])], [])
noncomputable def rWH4m_5 : sX := (none, [(98, (0, []), (0, [(6, 1)])), (98, (3, []), (0, [(7, 1)])), (98, (4, []), (0, [(8, 1)])), (98, (7, []), (0, [(9, 1)])), (98, (8, []), (0, [(10, 1)]))], [(0, 99), (0, 99), (0, 99), (0, 99), (0, 99)], [(0, [(4, 1)]), (0, [(4, (-1))]), (0, [(2, (-1)), (6, 1)]), (1, [(2, (-1)), (7, 1)]), (0, [(2, (-1)), (8, 1)]), (1, [(2, (-1)), (9, 1)]), (1, [(2, 1), (10, (-1))])], [])
noncomputable def rWH4m_6 : sX := (none, [(98, (0, []), (0, [(6, 1)])), (98, (3, []), (0, [(7, 1)])), (98, (4, []), (0, [(8, 1)])), (98, (7, []), (0, [(9, 1)])), (98, (8, []), (0, [(10, 1)])), (98, (11, []), (0, [(11, 1)]))], [(0, 99), (0, 99), (0, 99), (0, 99), (0, 99), (0, 99)], [(0, [(4, 1)]), (0, [(4, (-1))]), (0, [(2, (-1)), (6, 1)]), (1, [(2, (-1)), (7, 1)]), (0, [(2, (-1)), (8, 1)]), (1, [(2, (-1)), (9, 1)]), (0, [(2, (-1)), (10, 1)]), (0, [(2, 1), (11, (-1))])], [])
noncomputable def rWH4m_7 : sX := (none, [(98, (0, []), (0, [(6, 1)])), (98, (3, []), (0, [(7, 1)])), (98, (4, []), (0, [(8, 1)])), (98, (7, []), (0, [(9, 1)])), (98, (8, []), (0, [(10, 1)])), (98, (11, []), (0, [(11, 1)])), (98, (12, []), (0, [(12, 1)]))], [(0, 99), (0, 99), (0, 99), (0, 99), (0, 99), (0, 99), (0, 99)], [(0, [(4, 1)]), (0, [(4, (-1))]), (0, [(2, (-1)), (6, 1)]), (1, [(2, (-1)), (7, 1)]), (0, [(2, (-1)), (8, 1)]), (1, [(2, (-1)), (9, 1)]), (0, [(2, (-1)), (10, 1)]), (1, [(2, (-1)), (11, 1)]), (1, [(2, 1), (12, (-1))])], [])
noncomputable def rWH4m_8 : sX := (none, [(98, (0, []), (0, [(6, 1)])), (98, (3, []), (0, [(7, 1)])), (98, (4, []), (0, [(8, 1)])), (98, (7, []), (0, [(9, 1)])), (98, (8, []), (0, [(10, 1)])), (98, (11, []), (0, [(11, 1)])), (98, (12, []), (0, [(12, 1)])), (98, (15, []), (0, [(13, 1)]))], [(0, 99), (0, 99), (0, 99), (0, 99), (0, 99), (0, 99), (0, 99), (0, 99)], [(0, [(4, 1)]), (0, [(4, (-1))]), (0, [(2, (-1)), (6, 1)]), (1, [(2, (-1)), (7, 1)]), (0, [(2, (-1)), (8, 1)]), (1, [(2, (-1)), (9, 1)]), (0, [(2, (-1)), (10, 1)]), (1, [(2, (-1)), (11, 1)]), (0, [(2, (-1)), (12, 1)]), (0, [(2, 1), (13, (-1))])], [])
noncomputable def rWH4m : sQ := (0, ([], [(2, 1020, (0, [])), (2, 1010, (0, [])), (2, 97, (0, [])), (2, 539, (0, [])), (2, 541, (0, [])), (2, 540, (0, []))], [(1, 1), (1, 1), (0, 99), (0, 99), (0, 1), (4, 4)], [(0, [(2, 1), (3, (-1))]), (0, [(2, (-1)), (3, 1)])], [(0, 0), (1, 1), (2, 2), (3, 3), (4, 4), (5, 5)], (0, [])), [rWH4m_0, rWH4m_1, rWH4m_2, rWH4m_3, rWH4m_4, rWH4m_5, rWH4m_6, rWH4m_7, rWH4m_8], [], 0)
set_option maxHeartbeats 4000000 in
theorem rWH4m_ok : pRul pReg pG pgv (rWH4m) := by
  intro loc h ρ ρ0 hG hM
  have hM : sMt pReg pgv ρ ρ0 (sAs (rWH4m).2.1) loc [] h := hM
  have q0 : ρ0 1 = ρ 0 := (hM.2.2.2.2.2 (1, sY 0) (List.mem_of_getElem? (i := 1) rfl)).trans (sY_v ρ 0)
  have q1 : ρ0 2 = ρ 1 := (hM.2.2.2.2.2 (2, sY 1) (List.mem_of_getElem? (i := 2) rfl)).trans (sY_v ρ 1)
  have q2 : ρ0 3 = ρ 2 := (hM.2.2.2.2.2 (3, sY 2) (List.mem_of_getElem? (i := 3) rfl)).trans (sY_v ρ 2)
  have q3 : ρ0 4 = ρ 3 := (hM.2.2.2.2.2 (4, sY 3) (List.mem_of_getElem? (i := 4) rfl)).trans (sY_v ρ 3)
  have q4 : ρ0 5 = ρ 4 := (hM.2.2.2.2.2 (5, sY 4) (List.mem_of_getElem? (i := 5) rfl)).trans (sY_v ρ 4)
  have q5 : ρ0 6 = ρ 5 := (hM.2.2.2.2.2 (6, sY 5) (List.mem_of_getElem? (i := 6) rfl)).trans (sY_v ρ 5)
  have hL : ∀ j, j < 6 → pL [ρ 0, ρ 1, ρ 2, ρ 3, ρ 4, ρ 5] j = ρ0 (j + 1) := by
    intro j hj
    match j, hj with
    | 0, _ => exact q0.symm
    | 1, _ => exact q1.symm
    | 2, _ => exact q2.symm
    | 3, _ => exact q3.symm
    | 4, _ => exact q4.symm
    | 5, _ => exact q5.symm
    | k + 6, hj => omega
  have b0 : (1 : Int) ≤ ρ 0 ∧ ρ 0 ≤ 1 := hM.2.2.2.1 0 (1, 1) rfl
  have b1 : (1 : Int) ≤ ρ 1 ∧ ρ 1 ≤ 1 := hM.2.2.2.1 1 (1, 1) rfl
  have b2 : (0 : Int) ≤ ρ 2 ∧ ρ 2 ≤ 99 := hM.2.2.2.1 2 (0, 99) rfl
  have b3 : (0 : Int) ≤ ρ 3 ∧ ρ 3 ≤ 99 := hM.2.2.2.1 3 (0, 99) rfl
  have b4 : (0 : Int) ≤ ρ 4 ∧ ρ 4 ≤ 1 := hM.2.2.2.1 4 (0, 1) rfl
  have b5 : (4 : Int) ≤ ρ 5 ∧ ρ 5 ≤ 4 := hM.2.2.2.1 5 (4, 4) rfl
  have c0 : (0 + (1 * ρ 2 + ((-1) * ρ 3 + 0)) : Int) ≤ 0 := hM.2.2.2.2.1 (0, [(2, 1), (3, (-1))]) (List.mem_of_getElem? (i := 0) rfl)
  have c1 : (0 + ((-1) * ρ 2 + (1 * ρ 3 + 0)) : Int) ≤ 0 := hM.2.2.2.2.1 (0, [(2, (-1)), (3, 1)]) (List.mem_of_getElem? (i := 1) rfl)
  obtain ⟨ho, hh, hf⟩ := pTold20 hM 0 (0, []) rfl b0.1
  have hn := ho.1
  have ha : aM 4 h := pToldM hM 1 4 (by decide) (0, []) rfl b1.1
  have ey : ρ 3 = fRV (wN h) (wB h) 0 := (pfF hM hf 3 539 (0, []) rfl (by decide) (by decide) (0) (by omega) (by show (0 + 0 : Int) = _; omega)).trans (fA_RV (k := 0) (by decide))
  have eW : ρ 4 = yB (fWh (wN h) (wB h)) := (pfF hM hf 4 541 (0, []) rfl (by decide) (by decide) (0) (by omega) (by show (0 + 0 : Int) = _; omega)).trans (fA_WH)
  have efm : ρ 5 = ((fW (wN h) (wB h) 0 0 0).2.1 : Int) := (pfF hM hf 5 540 (0, []) rfl (by decide) (by decide) (0) (by omega) (by show (0 + 0 : Int) = _; omega)).trans (fA_FM)
  have em : (fW (wN h) (wB h) 0 0 0).2.1 = 4 := by omega
  have r00 : (h.1 418 0).toInt = (fMV (wN h) (wB h) 0 0) := (ha 0 0 (by decide) (by decide)).trans ((hf 538 (by decide) (by decide) 0 (by decide)).trans (fA_MV (i := 0) (k := 0) (by decide) (by decide)))
  have m00 := fMV_bd (n := wN h) (B := wB h) 0 0
  have r03 : (h.1 418 3).toInt = (fMV (wN h) (wB h) 0 3) := (ha 0 3 (by decide) (by decide)).trans ((hf 538 (by decide) (by decide) 3 (by decide)).trans (fA_MV (i := 0) (k := 3) (by decide) (by decide)))
  have m03 := fMV_bd (n := wN h) (B := wB h) 0 3
  have r10 : (h.1 418 4).toInt = (fMV (wN h) (wB h) 1 0) := (ha 1 0 (by decide) (by decide)).trans ((hf 538 (by decide) (by decide) 4 (by decide)).trans (fA_MV (i := 1) (k := 0) (by decide) (by decide)))
  have m10 := fMV_bd (n := wN h) (B := wB h) 1 0
  have r13 : (h.1 418 7).toInt = (fMV (wN h) (wB h) 1 3) := (ha 1 3 (by decide) (by decide)).trans ((hf 538 (by decide) (by decide) 7 (by decide)).trans (fA_MV (i := 1) (k := 3) (by decide) (by decide)))
  have m13 := fMV_bd (n := wN h) (B := wB h) 1 3
  have r20 : (h.1 418 8).toInt = (fMV (wN h) (wB h) 2 0) := (ha 2 0 (by decide) (by decide)).trans ((hf 538 (by decide) (by decide) 8 (by decide)).trans (fA_MV (i := 2) (k := 0) (by decide) (by decide)))
  have m20 := fMV_bd (n := wN h) (B := wB h) 2 0
  have r23 : (h.1 418 11).toInt = (fMV (wN h) (wB h) 2 3) := (ha 2 3 (by decide) (by decide)).trans ((hf 538 (by decide) (by decide) 11 (by decide)).trans (fA_MV (i := 2) (k := 3) (by decide) (by decide)))
  have m23 := fMV_bd (n := wN h) (B := wB h) 2 3
  have r30 : (h.1 418 12).toInt = (fMV (wN h) (wB h) 3 0) := (ha 3 0 (by decide) (by decide)).trans ((hf 538 (by decide) (by decide) 12 (by decide)).trans (fA_MV (i := 3) (k := 0) (by decide) (by decide)))
  have m30 := fMV_bd (n := wN h) (B := wB h) 3 0
  have r33 : (h.1 418 15).toInt = (fMV (wN h) (wB h) 3 3) := (ha 3 3 (by decide) (by decide)).trans ((hf 538 (by decide) (by decide) 15 (by decide)).trans (fA_MV (i := 3) (k := 3) (by decide) (by decide)))
  have m33 := fMV_bd (n := wN h) (B := wB h) 3 3
  by_cases g0 : (fMV (wN h) (wB h) 0 0) ≤ fRV (wN h) (wB h) 0
  · by_cases k0 : (fMV (wN h) (wB h) 0 3) < fRV (wN h) (wB h) 0
    · by_cases g1 : (fMV (wN h) (wB h) 1 0) ≤ fRV (wN h) (wB h) 0
      · by_cases k1 : (fMV (wN h) (wB h) 1 3) < fRV (wN h) (wB h) 0
        · by_cases g2 : (fMV (wN h) (wB h) 2 0) ≤ fRV (wN h) (wB h) 0
          · by_cases k2 : (fMV (wN h) (wB h) 2 3) < fRV (wN h) (wB h) 0
            · by_cases g3 : (fMV (wN h) (wB h) 3 0) ≤ fRV (wN h) (wB h) 0
              · by_cases k3 : (fMV (wN h) (wB h) 3 3) < fRV (wN h) (wB h) 0
                · have hw : fWh (wN h) (wB h) := by
                    refine ⟨by omega, fun i hi => ?_⟩
                    rw [em] at hi
                    rcases (show i = 0 ∨ i = 1 ∨ i = 2 ∨ i = 3 by omega) with rfl | rfl | rfl | rfl
                    · exact ⟨g0, k0⟩
                    · exact ⟨g1, k1⟩
                    · exact ⟨g2, k2⟩
                    · exact ⟨g3, k3⟩
                  rw [yB_1.mpr hw] at eW
                  refine ⟨rWH4m_0, List.mem_of_getElem? (i := 0) rfl, pEnd [ρ 0, ρ 1, ρ 2, ρ 3, ρ 4, ρ 5, (fMV (wN h) (wB h) 0 0), (fMV (wN h) (wB h) 0 3), (fMV (wN h) (wB h) 1 0), (fMV (wN h) (wB h) 1 3), (fMV (wN h) (wB h) 2 0), (fMV (wN h) (wB h) 2 3), (fMV (wN h) (wB h) 3 0), (fMV (wN h) (wB h) 3 3)] rfl ?_ ?_ ?_ ?_⟩
                  · intro j hj
                    match j, hj with
                    | 0, _ => exact q0.symm
                    | 1, _ => exact q1.symm
                    | 2, _ => exact q2.symm
                    | 3, _ => exact q3.symm
                    | 4, _ => exact q4.symm
                    | 5, _ => exact q5.symm
                    | k + 6, hj => exact absurd hj (by show ¬ (k + 6 < 6); omega)
                  · intro k b hk
                    match k, hk with
                    | 0, hk => cases hk; exact (show (0 : Int) ≤ (fMV (wN h) (wB h) 0 0) ∧ (fMV (wN h) (wB h) 0 0) ≤ (99 : Int) by omega)
                    | 1, hk => cases hk; exact (show (0 : Int) ≤ (fMV (wN h) (wB h) 0 3) ∧ (fMV (wN h) (wB h) 0 3) ≤ (99 : Int) by omega)
                    | 2, hk => cases hk; exact (show (0 : Int) ≤ (fMV (wN h) (wB h) 1 0) ∧ (fMV (wN h) (wB h) 1 0) ≤ (99 : Int) by omega)
                    | 3, hk => cases hk; exact (show (0 : Int) ≤ (fMV (wN h) (wB h) 1 3) ∧ (fMV (wN h) (wB h) 1 3) ≤ (99 : Int) by omega)
                    | 4, hk => cases hk; exact (show (0 : Int) ≤ (fMV (wN h) (wB h) 2 0) ∧ (fMV (wN h) (wB h) 2 0) ≤ (99 : Int) by omega)
                    | 5, hk => cases hk; exact (show (0 : Int) ≤ (fMV (wN h) (wB h) 2 3) ∧ (fMV (wN h) (wB h) 2 3) ≤ (99 : Int) by omega)
                    | 6, hk => cases hk; exact (show (0 : Int) ≤ (fMV (wN h) (wB h) 3 0) ∧ (fMV (wN h) (wB h) 3 0) ≤ (99 : Int) by omega)
                    | 7, hk => cases hk; exact (show (0 : Int) ≤ (fMV (wN h) (wB h) 3 3) ∧ (fMV (wN h) (wB h) 3 3) ≤ (99 : Int) by omega)
                    | k + 8, hk => cases hk
                  · exact pAll1 (show ((-1) + (1 * ρ 4 + 0) : Int) ≤ 0 by omega) (pAll1 (show (1 + ((-1) * ρ 4 + 0) : Int) ≤ 0 by omega) (pAll1 (show (0 + ((-1) * ρ 2 + (1 * (fMV (wN h) (wB h) 0 0) + 0)) : Int) ≤ 0 by omega) (pAll1 (show (1 + ((-1) * ρ 2 + (1 * (fMV (wN h) (wB h) 0 3) + 0)) : Int) ≤ 0 by omega) (pAll1 (show (0 + ((-1) * ρ 2 + (1 * (fMV (wN h) (wB h) 1 0) + 0)) : Int) ≤ 0 by omega) (pAll1 (show (1 + ((-1) * ρ 2 + (1 * (fMV (wN h) (wB h) 1 3) + 0)) : Int) ≤ 0 by omega) (pAll1 (show (0 + ((-1) * ρ 2 + (1 * (fMV (wN h) (wB h) 2 0) + 0)) : Int) ≤ 0 by omega) (pAll1 (show (1 + ((-1) * ρ 2 + (1 * (fMV (wN h) (wB h) 2 3) + 0)) : Int) ≤ 0 by omega) (pAll1 (show (0 + ((-1) * ρ 2 + (1 * (fMV (wN h) (wB h) 3 0) + 0)) : Int) ≤ 0 by omega) (pAll1 (show (1 + ((-1) * ρ 2 + (1 * (fMV (wN h) (wB h) 3 3) + 0)) : Int) ≤ 0 by omega) (pAll0))))))))))
                  · exact pAll1 (pgP 98 418 (by decide) (by decide +kernel) (by decide +kernel) 0 (show (0 + 0 : Int) = _ by omega) (show (0 + (1 * (fMV (wN h) (wB h) 0 0) + 0) : Int) = _ by omega)) (pAll1 (pgP 98 418 (by decide) (by decide +kernel) (by decide +kernel) 3 (show (3 + 0 : Int) = _ by omega) (show (0 + (1 * (fMV (wN h) (wB h) 0 3) + 0) : Int) = _ by omega)) (pAll1 (pgP 98 418 (by decide) (by decide +kernel) (by decide +kernel) 4 (show (4 + 0 : Int) = _ by omega) (show (0 + (1 * (fMV (wN h) (wB h) 1 0) + 0) : Int) = _ by omega)) (pAll1 (pgP 98 418 (by decide) (by decide +kernel) (by decide +kernel) 7 (show (7 + 0 : Int) = _ by omega) (show (0 + (1 * (fMV (wN h) (wB h) 1 3) + 0) : Int) = _ by omega)) (pAll1 (pgP 98 418 (by decide) (by decide +kernel) (by decide +kernel) 8 (show (8 + 0 : Int) = _ by omega) (show (0 + (1 * (fMV (wN h) (wB h) 2 0) + 0) : Int) = _ by omega)) (pAll1 (pgP 98 418 (by decide) (by decide +kernel) (by decide +kernel) 11 (show (11 + 0 : Int) = _ by omega) (show (0 + (1 * (fMV (wN h) (wB h) 2 3) + 0) : Int) = _ by omega)) (pAll1 (pgP 98 418 (by decide) (by decide +kernel) (by decide +kernel) 12 (show (12 + 0 : Int) = _ by omega) (show (0 + (1 * (fMV (wN h) (wB h) 3 0) + 0) : Int) = _ by omega)) (pAll1 (pgP 98 418 (by decide) (by decide +kernel) (by decide +kernel) 15 (show (15 + 0 : Int) = _ by omega) (show (0 + (1 * (fMV (wN h) (wB h) 3 3) + 0) : Int) = _ by omega)) (pAll0))))))))
                · have hw : ¬ fWh (wN h) (wB h) := fun z => k3 (z.2 3 (by omega)).2
                  rw [yB_0 hw] at eW
                  refine ⟨rWH4m_8, List.mem_of_getElem? (i := 8) rfl, pEnd [ρ 0, ρ 1, ρ 2, ρ 3, ρ 4, ρ 5, (fMV (wN h) (wB h) 0 0), (fMV (wN h) (wB h) 0 3), (fMV (wN h) (wB h) 1 0), (fMV (wN h) (wB h) 1 3), (fMV (wN h) (wB h) 2 0), (fMV (wN h) (wB h) 2 3), (fMV (wN h) (wB h) 3 0), (fMV (wN h) (wB h) 3 3)] rfl ?_ ?_ ?_ ?_⟩
                  · intro j hj
                    match j, hj with
                    | 0, _ => exact q0.symm
                    | 1, _ => exact q1.symm
                    | 2, _ => exact q2.symm
                    | 3, _ => exact q3.symm
                    | 4, _ => exact q4.symm
                    | 5, _ => exact q5.symm
                    | k + 6, hj => exact absurd hj (by show ¬ (k + 6 < 6); omega)
                  · intro k b hk
                    match k, hk with
                    | 0, hk => cases hk; exact (show (0 : Int) ≤ (fMV (wN h) (wB h) 0 0) ∧ (fMV (wN h) (wB h) 0 0) ≤ (99 : Int) by omega)
                    | 1, hk => cases hk; exact (show (0 : Int) ≤ (fMV (wN h) (wB h) 0 3) ∧ (fMV (wN h) (wB h) 0 3) ≤ (99 : Int) by omega)
                    | 2, hk => cases hk; exact (show (0 : Int) ≤ (fMV (wN h) (wB h) 1 0) ∧ (fMV (wN h) (wB h) 1 0) ≤ (99 : Int) by omega)
                    | 3, hk => cases hk; exact (show (0 : Int) ≤ (fMV (wN h) (wB h) 1 3) ∧ (fMV (wN h) (wB h) 1 3) ≤ (99 : Int) by omega)
                    | 4, hk => cases hk; exact (show (0 : Int) ≤ (fMV (wN h) (wB h) 2 0) ∧ (fMV (wN h) (wB h) 2 0) ≤ (99 : Int) by omega)
                    | 5, hk => cases hk; exact (show (0 : Int) ≤ (fMV (wN h) (wB h) 2 3) ∧ (fMV (wN h) (wB h) 2 3) ≤ (99 : Int) by omega)
                    | 6, hk => cases hk; exact (show (0 : Int) ≤ (fMV (wN h) (wB h) 3 0) ∧ (fMV (wN h) (wB h) 3 0) ≤ (99 : Int) by omega)
                    | 7, hk => cases hk; exact (show (0 : Int) ≤ (fMV (wN h) (wB h) 3 3) ∧ (fMV (wN h) (wB h) 3 3) ≤ (99 : Int) by omega)
                    | k + 8, hk => cases hk
                  · exact pAll1 (show (0 + (1 * ρ 4 + 0) : Int) ≤ 0 by omega) (pAll1 (show (0 + ((-1) * ρ 4 + 0) : Int) ≤ 0 by omega) (pAll1 (show (0 + ((-1) * ρ 2 + (1 * (fMV (wN h) (wB h) 0 0) + 0)) : Int) ≤ 0 by omega) (pAll1 (show (1 + ((-1) * ρ 2 + (1 * (fMV (wN h) (wB h) 0 3) + 0)) : Int) ≤ 0 by omega) (pAll1 (show (0 + ((-1) * ρ 2 + (1 * (fMV (wN h) (wB h) 1 0) + 0)) : Int) ≤ 0 by omega) (pAll1 (show (1 + ((-1) * ρ 2 + (1 * (fMV (wN h) (wB h) 1 3) + 0)) : Int) ≤ 0 by omega) (pAll1 (show (0 + ((-1) * ρ 2 + (1 * (fMV (wN h) (wB h) 2 0) + 0)) : Int) ≤ 0 by omega) (pAll1 (show (1 + ((-1) * ρ 2 + (1 * (fMV (wN h) (wB h) 2 3) + 0)) : Int) ≤ 0 by omega) (pAll1 (show (0 + ((-1) * ρ 2 + (1 * (fMV (wN h) (wB h) 3 0) + 0)) : Int) ≤ 0 by omega) (pAll1 (show (0 + (1 * ρ 2 + ((-1) * (fMV (wN h) (wB h) 3 3) + 0)) : Int) ≤ 0 by omega) (pAll0))))))))))
                  · exact pAll1 (pgP 98 418 (by decide) (by decide +kernel) (by decide +kernel) 0 (show (0 + 0 : Int) = _ by omega) (show (0 + (1 * (fMV (wN h) (wB h) 0 0) + 0) : Int) = _ by omega)) (pAll1 (pgP 98 418 (by decide) (by decide +kernel) (by decide +kernel) 3 (show (3 + 0 : Int) = _ by omega) (show (0 + (1 * (fMV (wN h) (wB h) 0 3) + 0) : Int) = _ by omega)) (pAll1 (pgP 98 418 (by decide) (by decide +kernel) (by decide +kernel) 4 (show (4 + 0 : Int) = _ by omega) (show (0 + (1 * (fMV (wN h) (wB h) 1 0) + 0) : Int) = _ by omega)) (pAll1 (pgP 98 418 (by decide) (by decide +kernel) (by decide +kernel) 7 (show (7 + 0 : Int) = _ by omega) (show (0 + (1 * (fMV (wN h) (wB h) 1 3) + 0) : Int) = _ by omega)) (pAll1 (pgP 98 418 (by decide) (by decide +kernel) (by decide +kernel) 8 (show (8 + 0 : Int) = _ by omega) (show (0 + (1 * (fMV (wN h) (wB h) 2 0) + 0) : Int) = _ by omega)) (pAll1 (pgP 98 418 (by decide) (by decide +kernel) (by decide +kernel) 11 (show (11 + 0 : Int) = _ by omega) (show (0 + (1 * (fMV (wN h) (wB h) 2 3) + 0) : Int) = _ by omega)) (pAll1 (pgP 98 418 (by decide) (by decide +kernel) (by decide +kernel) 12 (show (12 + 0 : Int) = _ by omega) (show (0 + (1 * (fMV (wN h) (wB h) 3 0) + 0) : Int) = _ by omega)) (pAll1 (pgP 98 418 (by decide) (by decide +kernel) (by decide +kernel) 15 (show (15 + 0 : Int) = _ by omega) (show (0 + (1 * (fMV (wN h) (wB h) 3 3) + 0) : Int) = _ by omega)) (pAll0))))))))
              · have hw : ¬ fWh (wN h) (wB h) := fun z => g3 (z.2 3 (by omega)).1
                rw [yB_0 hw] at eW
                refine ⟨rWH4m_7, List.mem_of_getElem? (i := 7) rfl, pEnd [ρ 0, ρ 1, ρ 2, ρ 3, ρ 4, ρ 5, (fMV (wN h) (wB h) 0 0), (fMV (wN h) (wB h) 0 3), (fMV (wN h) (wB h) 1 0), (fMV (wN h) (wB h) 1 3), (fMV (wN h) (wB h) 2 0), (fMV (wN h) (wB h) 2 3), (fMV (wN h) (wB h) 3 0)] rfl ?_ ?_ ?_ ?_⟩
                · intro j hj
                  match j, hj with
                  | 0, _ => exact q0.symm
                  | 1, _ => exact q1.symm
                  | 2, _ => exact q2.symm
                  | 3, _ => exact q3.symm
                  | 4, _ => exact q4.symm
                  | 5, _ => exact q5.symm
                  | k + 6, hj => exact absurd hj (by show ¬ (k + 6 < 6); omega)
                · intro k b hk
                  match k, hk with
                  | 0, hk => cases hk; exact (show (0 : Int) ≤ (fMV (wN h) (wB h) 0 0) ∧ (fMV (wN h) (wB h) 0 0) ≤ (99 : Int) by omega)
                  | 1, hk => cases hk; exact (show (0 : Int) ≤ (fMV (wN h) (wB h) 0 3) ∧ (fMV (wN h) (wB h) 0 3) ≤ (99 : Int) by omega)
                  | 2, hk => cases hk; exact (show (0 : Int) ≤ (fMV (wN h) (wB h) 1 0) ∧ (fMV (wN h) (wB h) 1 0) ≤ (99 : Int) by omega)
                  | 3, hk => cases hk; exact (show (0 : Int) ≤ (fMV (wN h) (wB h) 1 3) ∧ (fMV (wN h) (wB h) 1 3) ≤ (99 : Int) by omega)
                  | 4, hk => cases hk; exact (show (0 : Int) ≤ (fMV (wN h) (wB h) 2 0) ∧ (fMV (wN h) (wB h) 2 0) ≤ (99 : Int) by omega)
                  | 5, hk => cases hk; exact (show (0 : Int) ≤ (fMV (wN h) (wB h) 2 3) ∧ (fMV (wN h) (wB h) 2 3) ≤ (99 : Int) by omega)
                  | 6, hk => cases hk; exact (show (0 : Int) ≤ (fMV (wN h) (wB h) 3 0) ∧ (fMV (wN h) (wB h) 3 0) ≤ (99 : Int) by omega)
                  | k + 7, hk => cases hk
                · exact pAll1 (show (0 + (1 * ρ 4 + 0) : Int) ≤ 0 by omega) (pAll1 (show (0 + ((-1) * ρ 4 + 0) : Int) ≤ 0 by omega) (pAll1 (show (0 + ((-1) * ρ 2 + (1 * (fMV (wN h) (wB h) 0 0) + 0)) : Int) ≤ 0 by omega) (pAll1 (show (1 + ((-1) * ρ 2 + (1 * (fMV (wN h) (wB h) 0 3) + 0)) : Int) ≤ 0 by omega) (pAll1 (show (0 + ((-1) * ρ 2 + (1 * (fMV (wN h) (wB h) 1 0) + 0)) : Int) ≤ 0 by omega) (pAll1 (show (1 + ((-1) * ρ 2 + (1 * (fMV (wN h) (wB h) 1 3) + 0)) : Int) ≤ 0 by omega) (pAll1 (show (0 + ((-1) * ρ 2 + (1 * (fMV (wN h) (wB h) 2 0) + 0)) : Int) ≤ 0 by omega) (pAll1 (show (1 + ((-1) * ρ 2 + (1 * (fMV (wN h) (wB h) 2 3) + 0)) : Int) ≤ 0 by omega) (pAll1 (show (1 + (1 * ρ 2 + ((-1) * (fMV (wN h) (wB h) 3 0) + 0)) : Int) ≤ 0 by omega) (pAll0)))))))))
                · exact pAll1 (pgP 98 418 (by decide) (by decide +kernel) (by decide +kernel) 0 (show (0 + 0 : Int) = _ by omega) (show (0 + (1 * (fMV (wN h) (wB h) 0 0) + 0) : Int) = _ by omega)) (pAll1 (pgP 98 418 (by decide) (by decide +kernel) (by decide +kernel) 3 (show (3 + 0 : Int) = _ by omega) (show (0 + (1 * (fMV (wN h) (wB h) 0 3) + 0) : Int) = _ by omega)) (pAll1 (pgP 98 418 (by decide) (by decide +kernel) (by decide +kernel) 4 (show (4 + 0 : Int) = _ by omega) (show (0 + (1 * (fMV (wN h) (wB h) 1 0) + 0) : Int) = _ by omega)) (pAll1 (pgP 98 418 (by decide) (by decide +kernel) (by decide +kernel) 7 (show (7 + 0 : Int) = _ by omega) (show (0 + (1 * (fMV (wN h) (wB h) 1 3) + 0) : Int) = _ by omega)) (pAll1 (pgP 98 418 (by decide) (by decide +kernel) (by decide +kernel) 8 (show (8 + 0 : Int) = _ by omega) (show (0 + (1 * (fMV (wN h) (wB h) 2 0) + 0) : Int) = _ by omega)) (pAll1 (pgP 98 418 (by decide) (by decide +kernel) (by decide +kernel) 11 (show (11 + 0 : Int) = _ by omega) (show (0 + (1 * (fMV (wN h) (wB h) 2 3) + 0) : Int) = _ by omega)) (pAll1 (pgP 98 418 (by decide) (by decide +kernel) (by decide +kernel) 12 (show (12 + 0 : Int) = _ by omega) (show (0 + (1 * (fMV (wN h) (wB h) 3 0) + 0) : Int) = _ by omega)) (pAll0)))))))
            · have hw : ¬ fWh (wN h) (wB h) := fun z => k2 (z.2 2 (by omega)).2
              rw [yB_0 hw] at eW
              refine ⟨rWH4m_6, List.mem_of_getElem? (i := 6) rfl, pEnd [ρ 0, ρ 1, ρ 2, ρ 3, ρ 4, ρ 5, (fMV (wN h) (wB h) 0 0), (fMV (wN h) (wB h) 0 3), (fMV (wN h) (wB h) 1 0), (fMV (wN h) (wB h) 1 3), (fMV (wN h) (wB h) 2 0), (fMV (wN h) (wB h) 2 3)] rfl ?_ ?_ ?_ ?_⟩
              · intro j hj
                match j, hj with
                | 0, _ => exact q0.symm
                | 1, _ => exact q1.symm
                | 2, _ => exact q2.symm
                | 3, _ => exact q3.symm
                | 4, _ => exact q4.symm
                | 5, _ => exact q5.symm
                | k + 6, hj => exact absurd hj (by show ¬ (k + 6 < 6); omega)
              · intro k b hk
                match k, hk with
                | 0, hk => cases hk; exact (show (0 : Int) ≤ (fMV (wN h) (wB h) 0 0) ∧ (fMV (wN h) (wB h) 0 0) ≤ (99 : Int) by omega)
                | 1, hk => cases hk; exact (show (0 : Int) ≤ (fMV (wN h) (wB h) 0 3) ∧ (fMV (wN h) (wB h) 0 3) ≤ (99 : Int) by omega)
                | 2, hk => cases hk; exact (show (0 : Int) ≤ (fMV (wN h) (wB h) 1 0) ∧ (fMV (wN h) (wB h) 1 0) ≤ (99 : Int) by omega)
                | 3, hk => cases hk; exact (show (0 : Int) ≤ (fMV (wN h) (wB h) 1 3) ∧ (fMV (wN h) (wB h) 1 3) ≤ (99 : Int) by omega)
                | 4, hk => cases hk; exact (show (0 : Int) ≤ (fMV (wN h) (wB h) 2 0) ∧ (fMV (wN h) (wB h) 2 0) ≤ (99 : Int) by omega)
                | 5, hk => cases hk; exact (show (0 : Int) ≤ (fMV (wN h) (wB h) 2 3) ∧ (fMV (wN h) (wB h) 2 3) ≤ (99 : Int) by omega)
                | k + 6, hk => cases hk
              · exact pAll1 (show (0 + (1 * ρ 4 + 0) : Int) ≤ 0 by omega) (pAll1 (show (0 + ((-1) * ρ 4 + 0) : Int) ≤ 0 by omega) (pAll1 (show (0 + ((-1) * ρ 2 + (1 * (fMV (wN h) (wB h) 0 0) + 0)) : Int) ≤ 0 by omega) (pAll1 (show (1 + ((-1) * ρ 2 + (1 * (fMV (wN h) (wB h) 0 3) + 0)) : Int) ≤ 0 by omega) (pAll1 (show (0 + ((-1) * ρ 2 + (1 * (fMV (wN h) (wB h) 1 0) + 0)) : Int) ≤ 0 by omega) (pAll1 (show (1 + ((-1) * ρ 2 + (1 * (fMV (wN h) (wB h) 1 3) + 0)) : Int) ≤ 0 by omega) (pAll1 (show (0 + ((-1) * ρ 2 + (1 * (fMV (wN h) (wB h) 2 0) + 0)) : Int) ≤ 0 by omega) (pAll1 (show (0 + (1 * ρ 2 + ((-1) * (fMV (wN h) (wB h) 2 3) + 0)) : Int) ≤ 0 by omega) (pAll0))))))))
              · exact pAll1 (pgP 98 418 (by decide) (by decide +kernel) (by decide +kernel) 0 (show (0 + 0 : Int) = _ by omega) (show (0 + (1 * (fMV (wN h) (wB h) 0 0) + 0) : Int) = _ by omega)) (pAll1 (pgP 98 418 (by decide) (by decide +kernel) (by decide +kernel) 3 (show (3 + 0 : Int) = _ by omega) (show (0 + (1 * (fMV (wN h) (wB h) 0 3) + 0) : Int) = _ by omega)) (pAll1 (pgP 98 418 (by decide) (by decide +kernel) (by decide +kernel) 4 (show (4 + 0 : Int) = _ by omega) (show (0 + (1 * (fMV (wN h) (wB h) 1 0) + 0) : Int) = _ by omega)) (pAll1 (pgP 98 418 (by decide) (by decide +kernel) (by decide +kernel) 7 (show (7 + 0 : Int) = _ by omega) (show (0 + (1 * (fMV (wN h) (wB h) 1 3) + 0) : Int) = _ by omega)) (pAll1 (pgP 98 418 (by decide) (by decide +kernel) (by decide +kernel) 8 (show (8 + 0 : Int) = _ by omega) (show (0 + (1 * (fMV (wN h) (wB h) 2 0) + 0) : Int) = _ by omega)) (pAll1 (pgP 98 418 (by decide) (by decide +kernel) (by decide +kernel) 11 (show (11 + 0 : Int) = _ by omega) (show (0 + (1 * (fMV (wN h) (wB h) 2 3) + 0) : Int) = _ by omega)) (pAll0))))))
          · have hw : ¬ fWh (wN h) (wB h) := fun z => g2 (z.2 2 (by omega)).1
            rw [yB_0 hw] at eW
            refine ⟨rWH4m_5, List.mem_of_getElem? (i := 5) rfl, pEnd [ρ 0, ρ 1, ρ 2, ρ 3, ρ 4, ρ 5, (fMV (wN h) (wB h) 0 0), (fMV (wN h) (wB h) 0 3), (fMV (wN h) (wB h) 1 0), (fMV (wN h) (wB h) 1 3), (fMV (wN h) (wB h) 2 0)] rfl ?_ ?_ ?_ ?_⟩
            · intro j hj
              match j, hj with
              | 0, _ => exact q0.symm
              | 1, _ => exact q1.symm
              | 2, _ => exact q2.symm
              | 3, _ => exact q3.symm
              | 4, _ => exact q4.symm
              | 5, _ => exact q5.symm
              | k + 6, hj => exact absurd hj (by show ¬ (k + 6 < 6); omega)
            · intro k b hk
              match k, hk with
              | 0, hk => cases hk; exact (show (0 : Int) ≤ (fMV (wN h) (wB h) 0 0) ∧ (fMV (wN h) (wB h) 0 0) ≤ (99 : Int) by omega)
              | 1, hk => cases hk; exact (show (0 : Int) ≤ (fMV (wN h) (wB h) 0 3) ∧ (fMV (wN h) (wB h) 0 3) ≤ (99 : Int) by omega)
              | 2, hk => cases hk; exact (show (0 : Int) ≤ (fMV (wN h) (wB h) 1 0) ∧ (fMV (wN h) (wB h) 1 0) ≤ (99 : Int) by omega)
              | 3, hk => cases hk; exact (show (0 : Int) ≤ (fMV (wN h) (wB h) 1 3) ∧ (fMV (wN h) (wB h) 1 3) ≤ (99 : Int) by omega)
              | 4, hk => cases hk; exact (show (0 : Int) ≤ (fMV (wN h) (wB h) 2 0) ∧ (fMV (wN h) (wB h) 2 0) ≤ (99 : Int) by omega)
              | k + 5, hk => cases hk
            · exact pAll1 (show (0 + (1 * ρ 4 + 0) : Int) ≤ 0 by omega) (pAll1 (show (0 + ((-1) * ρ 4 + 0) : Int) ≤ 0 by omega) (pAll1 (show (0 + ((-1) * ρ 2 + (1 * (fMV (wN h) (wB h) 0 0) + 0)) : Int) ≤ 0 by omega) (pAll1 (show (1 + ((-1) * ρ 2 + (1 * (fMV (wN h) (wB h) 0 3) + 0)) : Int) ≤ 0 by omega) (pAll1 (show (0 + ((-1) * ρ 2 + (1 * (fMV (wN h) (wB h) 1 0) + 0)) : Int) ≤ 0 by omega) (pAll1 (show (1 + ((-1) * ρ 2 + (1 * (fMV (wN h) (wB h) 1 3) + 0)) : Int) ≤ 0 by omega) (pAll1 (show (1 + (1 * ρ 2 + ((-1) * (fMV (wN h) (wB h) 2 0) + 0)) : Int) ≤ 0 by omega) (pAll0)))))))
            · exact pAll1 (pgP 98 418 (by decide) (by decide +kernel) (by decide +kernel) 0 (show (0 + 0 : Int) = _ by omega) (show (0 + (1 * (fMV (wN h) (wB h) 0 0) + 0) : Int) = _ by omega)) (pAll1 (pgP 98 418 (by decide) (by decide +kernel) (by decide +kernel) 3 (show (3 + 0 : Int) = _ by omega) (show (0 + (1 * (fMV (wN h) (wB h) 0 3) + 0) : Int) = _ by omega)) (pAll1 (pgP 98 418 (by decide) (by decide +kernel) (by decide +kernel) 4 (show (4 + 0 : Int) = _ by omega) (show (0 + (1 * (fMV (wN h) (wB h) 1 0) + 0) : Int) = _ by omega)) (pAll1 (pgP 98 418 (by decide) (by decide +kernel) (by decide +kernel) 7 (show (7 + 0 : Int) = _ by omega) (show (0 + (1 * (fMV (wN h) (wB h) 1 3) + 0) : Int) = _ by omega)) (pAll1 (pgP 98 418 (by decide) (by decide +kernel) (by decide +kernel) 8 (show (8 + 0 : Int) = _ by omega) (show (0 + (1 * (fMV (wN h) (wB h) 2 0) + 0) : Int) = _ by omega)) (pAll0)))))
        · have hw : ¬ fWh (wN h) (wB h) := fun z => k1 (z.2 1 (by omega)).2
          rw [yB_0 hw] at eW
          refine ⟨rWH4m_4, List.mem_of_getElem? (i := 4) rfl, pEnd [ρ 0, ρ 1, ρ 2, ρ 3, ρ 4, ρ 5, (fMV (wN h) (wB h) 0 0), (fMV (wN h) (wB h) 0 3), (fMV (wN h) (wB h) 1 0), (fMV (wN h) (wB h) 1 3)] rfl ?_ ?_ ?_ ?_⟩
          · intro j hj
            match j, hj with
            | 0, _ => exact q0.symm
            | 1, _ => exact q1.symm
            | 2, _ => exact q2.symm
            | 3, _ => exact q3.symm
            | 4, _ => exact q4.symm
            | 5, _ => exact q5.symm
            | k + 6, hj => exact absurd hj (by show ¬ (k + 6 < 6); omega)
          · intro k b hk
            match k, hk with
            | 0, hk => cases hk; exact (show (0 : Int) ≤ (fMV (wN h) (wB h) 0 0) ∧ (fMV (wN h) (wB h) 0 0) ≤ (99 : Int) by omega)
            | 1, hk => cases hk; exact (show (0 : Int) ≤ (fMV (wN h) (wB h) 0 3) ∧ (fMV (wN h) (wB h) 0 3) ≤ (99 : Int) by omega)
            | 2, hk => cases hk; exact (show (0 : Int) ≤ (fMV (wN h) (wB h) 1 0) ∧ (fMV (wN h) (wB h) 1 0) ≤ (99 : Int) by omega)
            | 3, hk => cases hk; exact (show (0 : Int) ≤ (fMV (wN h) (wB h) 1 3) ∧ (fMV (wN h) (wB h) 1 3) ≤ (99 : Int) by omega)
            | k + 4, hk => cases hk
          · exact pAll1 (show (0 + (1 * ρ 4 + 0) : Int) ≤ 0 by omega) (pAll1 (show (0 + ((-1) * ρ 4 + 0) : Int) ≤ 0 by omega) (pAll1 (show (0 + ((-1) * ρ 2 + (1 * (fMV (wN h) (wB h) 0 0) + 0)) : Int) ≤ 0 by omega) (pAll1 (show (1 + ((-1) * ρ 2 + (1 * (fMV (wN h) (wB h) 0 3) + 0)) : Int) ≤ 0 by omega) (pAll1 (show (0 + ((-1) * ρ 2 + (1 * (fMV (wN h) (wB h) 1 0) + 0)) : Int) ≤ 0 by omega) (pAll1 (show (0 + (1 * ρ 2 + ((-1) * (fMV (wN h) (wB h) 1 3) + 0)) : Int) ≤ 0 by omega) (pAll0))))))
          · exact pAll1 (pgP 98 418 (by decide) (by decide +kernel) (by decide +kernel) 0 (show (0 + 0 : Int) = _ by omega) (show (0 + (1 * (fMV (wN h) (wB h) 0 0) + 0) : Int) = _ by omega)) (pAll1 (pgP 98 418 (by decide) (by decide +kernel) (by decide +kernel) 3 (show (3 + 0 : Int) = _ by omega) (show (0 + (1 * (fMV (wN h) (wB h) 0 3) + 0) : Int) = _ by omega)) (pAll1 (pgP 98 418 (by decide) (by decide +kernel) (by decide +kernel) 4 (show (4 + 0 : Int) = _ by omega) (show (0 + (1 * (fMV (wN h) (wB h) 1 0) + 0) : Int) = _ by omega)) (pAll1 (pgP 98 418 (by decide) (by decide +kernel) (by decide +kernel) 7 (show (7 + 0 : Int) = _ by omega) (show (0 + (1 * (fMV (wN h) (wB h) 1 3) + 0) : Int) = _ by omega)) (pAll0))))
      · have hw : ¬ fWh (wN h) (wB h) := fun z => g1 (z.2 1 (by omega)).1
        rw [yB_0 hw] at eW
        refine ⟨rWH4m_3, List.mem_of_getElem? (i := 3) rfl, pEnd [ρ 0, ρ 1, ρ 2, ρ 3, ρ 4, ρ 5, (fMV (wN h) (wB h) 0 0), (fMV (wN h) (wB h) 0 3), (fMV (wN h) (wB h) 1 0)] rfl ?_ ?_ ?_ ?_⟩
        · intro j hj
          match j, hj with
          | 0, _ => exact q0.symm
          | 1, _ => exact q1.symm
          | 2, _ => exact q2.symm
          | 3, _ => exact q3.symm
          | 4, _ => exact q4.symm
          | 5, _ => exact q5.symm
          | k + 6, hj => exact absurd hj (by show ¬ (k + 6 < 6); omega)
        · intro k b hk
          match k, hk with
          | 0, hk => cases hk; exact (show (0 : Int) ≤ (fMV (wN h) (wB h) 0 0) ∧ (fMV (wN h) (wB h) 0 0) ≤ (99 : Int) by omega)
          | 1, hk => cases hk; exact (show (0 : Int) ≤ (fMV (wN h) (wB h) 0 3) ∧ (fMV (wN h) (wB h) 0 3) ≤ (99 : Int) by omega)
          | 2, hk => cases hk; exact (show (0 : Int) ≤ (fMV (wN h) (wB h) 1 0) ∧ (fMV (wN h) (wB h) 1 0) ≤ (99 : Int) by omega)
          | k + 3, hk => cases hk
        · exact pAll1 (show (0 + (1 * ρ 4 + 0) : Int) ≤ 0 by omega) (pAll1 (show (0 + ((-1) * ρ 4 + 0) : Int) ≤ 0 by omega) (pAll1 (show (0 + ((-1) * ρ 2 + (1 * (fMV (wN h) (wB h) 0 0) + 0)) : Int) ≤ 0 by omega) (pAll1 (show (1 + ((-1) * ρ 2 + (1 * (fMV (wN h) (wB h) 0 3) + 0)) : Int) ≤ 0 by omega) (pAll1 (show (1 + (1 * ρ 2 + ((-1) * (fMV (wN h) (wB h) 1 0) + 0)) : Int) ≤ 0 by omega) (pAll0)))))
        · exact pAll1 (pgP 98 418 (by decide) (by decide +kernel) (by decide +kernel) 0 (show (0 + 0 : Int) = _ by omega) (show (0 + (1 * (fMV (wN h) (wB h) 0 0) + 0) : Int) = _ by omega)) (pAll1 (pgP 98 418 (by decide) (by decide +kernel) (by decide +kernel) 3 (show (3 + 0 : Int) = _ by omega) (show (0 + (1 * (fMV (wN h) (wB h) 0 3) + 0) : Int) = _ by omega)) (pAll1 (pgP 98 418 (by decide) (by decide +kernel) (by decide +kernel) 4 (show (4 + 0 : Int) = _ by omega) (show (0 + (1 * (fMV (wN h) (wB h) 1 0) + 0) : Int) = _ by omega)) (pAll0)))
    · have hw : ¬ fWh (wN h) (wB h) := fun z => k0 (z.2 0 (by omega)).2
      rw [yB_0 hw] at eW
      refine ⟨rWH4m_2, List.mem_of_getElem? (i := 2) rfl, pEnd [ρ 0, ρ 1, ρ 2, ρ 3, ρ 4, ρ 5, (fMV (wN h) (wB h) 0 0), (fMV (wN h) (wB h) 0 3)] rfl ?_ ?_ ?_ ?_⟩
      · intro j hj
        match j, hj with
        | 0, _ => exact q0.symm
        | 1, _ => exact q1.symm
        | 2, _ => exact q2.symm
        | 3, _ => exact q3.symm
        | 4, _ => exact q4.symm
        | 5, _ => exact q5.symm
        | k + 6, hj => exact absurd hj (by show ¬ (k + 6 < 6); omega)
      · intro k b hk
        match k, hk with
        | 0, hk => cases hk; exact (show (0 : Int) ≤ (fMV (wN h) (wB h) 0 0) ∧ (fMV (wN h) (wB h) 0 0) ≤ (99 : Int) by omega)
        | 1, hk => cases hk; exact (show (0 : Int) ≤ (fMV (wN h) (wB h) 0 3) ∧ (fMV (wN h) (wB h) 0 3) ≤ (99 : Int) by omega)
        | k + 2, hk => cases hk
      · exact pAll1 (show (0 + (1 * ρ 4 + 0) : Int) ≤ 0 by omega) (pAll1 (show (0 + ((-1) * ρ 4 + 0) : Int) ≤ 0 by omega) (pAll1 (show (0 + ((-1) * ρ 2 + (1 * (fMV (wN h) (wB h) 0 0) + 0)) : Int) ≤ 0 by omega) (pAll1 (show (0 + (1 * ρ 2 + ((-1) * (fMV (wN h) (wB h) 0 3) + 0)) : Int) ≤ 0 by omega) (pAll0))))
      · exact pAll1 (pgP 98 418 (by decide) (by decide +kernel) (by decide +kernel) 0 (show (0 + 0 : Int) = _ by omega) (show (0 + (1 * (fMV (wN h) (wB h) 0 0) + 0) : Int) = _ by omega)) (pAll1 (pgP 98 418 (by decide) (by decide +kernel) (by decide +kernel) 3 (show (3 + 0 : Int) = _ by omega) (show (0 + (1 * (fMV (wN h) (wB h) 0 3) + 0) : Int) = _ by omega)) (pAll0))
  · have hw : ¬ fWh (wN h) (wB h) := fun z => g0 (z.2 0 (by omega)).1
    rw [yB_0 hw] at eW
    refine ⟨rWH4m_1, List.mem_of_getElem? (i := 1) rfl, pEnd [ρ 0, ρ 1, ρ 2, ρ 3, ρ 4, ρ 5, (fMV (wN h) (wB h) 0 0)] rfl ?_ ?_ ?_ ?_⟩
    · intro j hj
      match j, hj with
      | 0, _ => exact q0.symm
      | 1, _ => exact q1.symm
      | 2, _ => exact q2.symm
      | 3, _ => exact q3.symm
      | 4, _ => exact q4.symm
      | 5, _ => exact q5.symm
      | k + 6, hj => exact absurd hj (by show ¬ (k + 6 < 6); omega)
    · intro k b hk
      match k, hk with
      | 0, hk => cases hk; exact (show (0 : Int) ≤ (fMV (wN h) (wB h) 0 0) ∧ (fMV (wN h) (wB h) 0 0) ≤ (99 : Int) by omega)
      | k + 1, hk => cases hk
    · exact pAll1 (show (0 + (1 * ρ 4 + 0) : Int) ≤ 0 by omega) (pAll1 (show (0 + ((-1) * ρ 4 + 0) : Int) ≤ 0 by omega) (pAll1 (show (1 + (1 * ρ 2 + ((-1) * (fMV (wN h) (wB h) 0 0) + 0)) : Int) ≤ 0 by omega) (pAll0)))
    · exact pAll1 (pgP 98 418 (by decide) (by decide +kernel) (by decide +kernel) 0 (show (0 + 0 : Int) = _ by omega) (show (0 + (1 * (fMV (wN h) (wB h) 0 0) + 0) : Int) = _ by omega)) (pAll0)
noncomputable def rWH5m_0 : sX := (none, [(98, (0, []), (0, [(6, 1)])), (98, (3, []), (0, [(7, 1)])), (98, (4, []), (0, [(8, 1)])), (98, (7, []), (0, [(9, 1)])), (98, (8, []), (0, [(10, 1)])), (98, (11, []), (0, [(11, 1)])), (98, (12, []), (0, [(12, 1)])), (98, (15, []), (0, [(13, 1)])), (98, (16, []), (0, [(14, 1)])), (98, (19, []), (0, [(15, 1)]))], [(0, 99), (0, 99), (0, 99), (0, 99), (0, 99), (0, 99), (0, 99), (0, 99), (0, 99), (0, 99)], [((-1), [(4, 1)]), (1, [(4, (-1))]), (0, [(2, (-1)), (6, 1)]), (1, [(2, (-1)), (7, 1)]), (0, [(2, (-1)), (8, 1)]), (1, [(2, (-1)), (9, 1)]), (0, [(2, (-1)), (10, 1)]), (1, [(2, (-1)), (11, 1)]), (0, [(2, (-1)), (12, 1)]), (1, [(2, (-1)), (13, 1)]), (0, [(2, (-1)), (14, 1)]), (1, [(2, (-1)), (15, 1)])], [])
noncomputable def rWH5m_1 : sX := (none, [(98, (0, []), (0, [(6, 1)]))], [(0, 99)], [(0, [(4, 1)]), (0, [(4, (-1))]), (1, [(2, 1), (6, (-1))])], [])
noncomputable def rWH5m_2 : sX := (none, [(98, (0, []), (0, [(6, 1)])), (98, (3, []), (0, [(7, 1)]))], [(0, 99), (0, 99)], [(0, [(4, 1)]), (0, [(4, (-1))]), (0, [(2, (-1)), (6, 1)]), (0, [(2, 1), (7, (-1))])], [])
noncomputable def rWH5m_3 : sX := (none, [(98, (0, []), (0, [(6, 1)])), (98, (3, []), (0, [(7, 1)])), (98, (4, []), (0, [(8, 1)]))], [(0, 99), (0, 99), (0, 99)], [(0, [(4, 1)]), (0, [(4, (-1))]), (0, [(2, (-1)), (6, 1)]), (1, [(2, (-1)), (7, 1)]), (1, [(2, 1), (8, (-1))])], [])
noncomputable def rWH5m_4 : sX := (none, [(98, (0, []), (0, [(6, 1)])), (98, (3, []), (0, [(7, 1)])), (98, (4, []), (0, [(8, 1)])), (98, (7, []), (0, [(9, 1)]))], [(0, 99), (0, 99), (0, 99), (0, 99)], [(0, [(4, 1)]), (0, [(4, (-1))]), (0, [(2, (-1)), (6, 1)]), (1, [(2, (-1)), (7, 1)]), (0, [(2, (-1)), (8, 1)]), (0, [(2, 1), (9, (-1))])], [])
noncomputable def rWH5m_5 : sX := (none, [(98, (0, []), (0, [(6, 1)])), (98, (3, []), (0, [(7, 1)])), (98, (4, []), (0, [(8, 1)])), (98, (7, []), (0, [(9, 1)])), (98, (8, []), (0, [(10, 1)]))], [(0, 99), (0, 99), (0, 99), (0, 99), (0, 99)], [(0, [(4, 1)]), (0, [(4, (-1))]), (0, [(2, (-1)), (6, 1)]), (1, [(2, (-1)), (7, 1)]), (0, [(2, (-1)), (8, 1)]), (1, [(2, (-1)), (9, 1)]), (1, [(2, 1), (10, (-1))])], [])
noncomputable def rWH5m_6 : sX := (none, [(98, (0, []), (0, [(6, 1)])), (98, (3, []), (0, [(7, 1)])), (98, (4, []), (0, [(8, 1)])), (98, (7, []), (0, [(9, 1)])), (98, (8, []), (0, [(10, 1)])), (98, (11, []), (0, [(11, 1)]))], [(0, 99), (0, 99), (0, 99), (0, 99), (0, 99), (0, 99)], [(0, [(4, 1)]), (0, [(4, (-1))]), (0, [(2, (-1)), (6, 1)]), (1, [(2, (-1)), (7, 1)]), (0, [(2, (-1)), (8, 1)]), (1, [(2, (-1)), (9, 1)]), (0, [(2, (-1)), (10, 1)]), (0, [(2, 1), (11, (-1))])], [])
noncomputable def rWH5m_7 : sX := (none, [(98, (0, []), (0, [(6, 1)])), (98, (3, []), (0, [(7, 1)])), (98, (4, []), (0, [(8, 1)])), (98, (7, []), (0, [(9, 1)])), (98, (8, []), (0, [(10, 1)])), (98, (11, []), (0, [(11, 1)])), (98, (12, []), (0, [(12, 1)]))], [(0, 99), (0, 99), (0, 99), (0, 99), (0, 99), (0, 99), (0, 99)], [(0, [(4, 1)]), (0, [(4, (-1))]), (0, [(2, (-1)), (6, 1)]), (1, [(2, (-1)), (7, 1)]), (0, [(2, (-1)), (8, 1)]), (1, [(2, (-1)), (9, 1)]), (0, [(2, (-1)), (10, 1)]), (1, [(2, (-1)), (11, 1)]), (1, [(2, 1), (12, (-1))])], [])
noncomputable def rWH5m_8 : sX := (none, [(98, (0, []), (0, [(6, 1)])), (98, (3, []), (0, [(7, 1)])), (98, (4, []), (0, [(8, 1)])), (98, (7, []), (0, [(9, 1)])), (98, (8, []), (0, [(10, 1)])), (98, (11, []), (0, [(11, 1)])), (98, (12, []), (0, [(12, 1)])), (98, (15, []), (0, [(13, 1)]))], [(0, 99), (0, 99), (0, 99), (0, 99), (0, 99), (0, 99), (0, 99), (0, 99)], [(0, [(4, 1)]), (0, [(4, (-1))]), (0, [(2, (-1)), (6, 1)]), (1, [(2, (-1)), (7, 1)]), (0, [(2, (-1)), (8, 1)]), (1, [(2, (-1)), (9, 1)]), (0, [(2, (-1)), (10, 1)]), (1, [(2, (-1)), (11, 1)]), (0, [(2, (-1)), (12, 1)]), (0, [(2, 1), (13, (-1))])], [])
noncomputable def rWH5m_9 : sX := (none, [(98, (0, []), (0, [(6, 1)])), (98, (3, []), (0, [(7, 1)])), (98, (4, []), (0, [(8, 1)])), (98, (7, []), (0, [(9, 1)])), (98, (8, []), (0, [(10, 1)])), (98, (11, []), (0, [(11, 1)])), (98, (12, []), (0, [(12, 1)])), (98, (15, []), (0, [(13, 1)])), (98, (16, []), (0, [(14, 1)]))], [(0, 99), (0, 99), (0, 99), (0, 99), (0, 99), (0, 99), (0, 99), (0, 99), (0, 99)], [(0, [(4, 1)]), (0, [(4, (-1))]), (0, [(2, (-1)), (6, 1)]), (1, [(2, (-1)), (7, 1)]), (0, [(2, (-1)), (8, 1)]), (1, [(2, (-1)), (9, 1)]), (0, [(2, (-1)), (10, 1)]), (1, [(2, (-1)), (11, 1)]), (0, [(2, (-1)), (12, 1)]), (1, [(2, (-1)), (13, 1)]), (1, [(2, 1), (14, (-1))])], [])
noncomputable def rWH5m_10 : sX := (none, [(98, (0, []), (0, [(6, 1)])), (98, (3, []), (0, [(7, 1)])), (98, (4, []), (0, [(8, 1)])), (98, (7, []), (0, [(9, 1)])), (98, (8, []), (0, [(10, 1)])), (98, (11, []), (0, [(11, 1)])), (98, (12, []), (0, [(12, 1)])), (98, (15, []), (0, [(13, 1)])), (98, (16, []), (0, [(14, 1)])), (98, (19, []), (0, [(15, 1)]))], [(0, 99), (0, 99), (0, 99), (0, 99), (0, 99), (0, 99), (0, 99), (0, 99), (0, 99), (0, 99)], [(0, [(4, 1)]), (0, [(4, (-1))]), (0, [(2, (-1)), (6, 1)]), (1, [(2, (-1)), (7, 1)]), (0, [(2, (-1)), (8, 1)]), (1, [(2, (-1)), (9, 1)]), (0, [(2, (-1)), (10, 1)]), (1, [(2, (-1)), (11, 1)]), (0, [(2, (-1)), (12, 1)]), (1, [(2, (-1)), (13, 1)]), (0, [(2, (-1)), (14, 1)]), (0, [(2, 1), (15, (-1))])], [])
noncomputable def rWH5m : sQ := (0, ([], [(2, 1020, (0, [])), (2, 1011, (0, [])), (2, 97, (0, [])), (2, 539, (0, [])), (2, 541, (0, [])), (2, 540, (0, []))], [(1, 1), (1, 1), (0, 99), (0, 99), (0, 1), (5, 5)], [(0, [(2, 1), (3, (-1))]), (0, [(2, (-1)), (3, 1)])], [(0, 0), (1, 1), (2, 2), (3, 3), (4, 4), (5, 5)], (0, [])), [rWH5m_0, rWH5m_1, rWH5m_2, rWH5m_3, rWH5m_4, rWH5m_5, rWH5m_6, rWH5m_7, rWH5m_8, rWH5m_9, rWH5m_10], [], 0)
set_option maxHeartbeats 4000000 in
theorem rWH5m_ok : pRul pReg pG pgv (rWH5m) := by
  intro loc h ρ ρ0 hG hM
  have hM : sMt pReg pgv ρ ρ0 (sAs (rWH5m).2.1) loc [] h := hM
  have q0 : ρ0 1 = ρ 0 := (hM.2.2.2.2.2 (1, sY 0) (List.mem_of_getElem? (i := 1) rfl)).trans (sY_v ρ 0)
  have q1 : ρ0 2 = ρ 1 := (hM.2.2.2.2.2 (2, sY 1) (List.mem_of_getElem? (i := 2) rfl)).trans (sY_v ρ 1)
  have q2 : ρ0 3 = ρ 2 := (hM.2.2.2.2.2 (3, sY 2) (List.mem_of_getElem? (i := 3) rfl)).trans (sY_v ρ 2)
  have q3 : ρ0 4 = ρ 3 := (hM.2.2.2.2.2 (4, sY 3) (List.mem_of_getElem? (i := 4) rfl)).trans (sY_v ρ 3)
  have q4 : ρ0 5 = ρ 4 := (hM.2.2.2.2.2 (5, sY 4) (List.mem_of_getElem? (i := 5) rfl)).trans (sY_v ρ 4)
  have q5 : ρ0 6 = ρ 5 := (hM.2.2.2.2.2 (6, sY 5) (List.mem_of_getElem? (i := 6) rfl)).trans (sY_v ρ 5)
  have hL : ∀ j, j < 6 → pL [ρ 0, ρ 1, ρ 2, ρ 3, ρ 4, ρ 5] j = ρ0 (j + 1) := by
    intro j hj
    match j, hj with
    | 0, _ => exact q0.symm
    | 1, _ => exact q1.symm
    | 2, _ => exact q2.symm
    | 3, _ => exact q3.symm
    | 4, _ => exact q4.symm
    | 5, _ => exact q5.symm
    | k + 6, hj => omega
  have b0 : (1 : Int) ≤ ρ 0 ∧ ρ 0 ≤ 1 := hM.2.2.2.1 0 (1, 1) rfl
  have b1 : (1 : Int) ≤ ρ 1 ∧ ρ 1 ≤ 1 := hM.2.2.2.1 1 (1, 1) rfl
  have b2 : (0 : Int) ≤ ρ 2 ∧ ρ 2 ≤ 99 := hM.2.2.2.1 2 (0, 99) rfl
  have b3 : (0 : Int) ≤ ρ 3 ∧ ρ 3 ≤ 99 := hM.2.2.2.1 3 (0, 99) rfl
  have b4 : (0 : Int) ≤ ρ 4 ∧ ρ 4 ≤ 1 := hM.2.2.2.1 4 (0, 1) rfl
  have b5 : (5 : Int) ≤ ρ 5 ∧ ρ 5 ≤ 5 := hM.2.2.2.1 5 (5, 5) rfl
  have c0 : (0 + (1 * ρ 2 + ((-1) * ρ 3 + 0)) : Int) ≤ 0 := hM.2.2.2.2.1 (0, [(2, 1), (3, (-1))]) (List.mem_of_getElem? (i := 0) rfl)
  have c1 : (0 + ((-1) * ρ 2 + (1 * ρ 3 + 0)) : Int) ≤ 0 := hM.2.2.2.2.1 (0, [(2, (-1)), (3, 1)]) (List.mem_of_getElem? (i := 1) rfl)
  obtain ⟨ho, hh, hf⟩ := pTold20 hM 0 (0, []) rfl b0.1
  have hn := ho.1
  have ha : aM 5 h := pToldM hM 1 5 (by decide) (0, []) rfl b1.1
  have ey : ρ 3 = fRV (wN h) (wB h) 0 := (pfF hM hf 3 539 (0, []) rfl (by decide) (by decide) (0) (by omega) (by show (0 + 0 : Int) = _; omega)).trans (fA_RV (k := 0) (by decide))
  have eW : ρ 4 = yB (fWh (wN h) (wB h)) := (pfF hM hf 4 541 (0, []) rfl (by decide) (by decide) (0) (by omega) (by show (0 + 0 : Int) = _; omega)).trans (fA_WH)
  have efm : ρ 5 = ((fW (wN h) (wB h) 0 0 0).2.1 : Int) := (pfF hM hf 5 540 (0, []) rfl (by decide) (by decide) (0) (by omega) (by show (0 + 0 : Int) = _; omega)).trans (fA_FM)
  have em : (fW (wN h) (wB h) 0 0 0).2.1 = 5 := by omega
  have r00 : (h.1 418 0).toInt = (fMV (wN h) (wB h) 0 0) := (ha 0 0 (by decide) (by decide)).trans ((hf 538 (by decide) (by decide) 0 (by decide)).trans (fA_MV (i := 0) (k := 0) (by decide) (by decide)))
  have m00 := fMV_bd (n := wN h) (B := wB h) 0 0
  have r03 : (h.1 418 3).toInt = (fMV (wN h) (wB h) 0 3) := (ha 0 3 (by decide) (by decide)).trans ((hf 538 (by decide) (by decide) 3 (by decide)).trans (fA_MV (i := 0) (k := 3) (by decide) (by decide)))
  have m03 := fMV_bd (n := wN h) (B := wB h) 0 3
  have r10 : (h.1 418 4).toInt = (fMV (wN h) (wB h) 1 0) := (ha 1 0 (by decide) (by decide)).trans ((hf 538 (by decide) (by decide) 4 (by decide)).trans (fA_MV (i := 1) (k := 0) (by decide) (by decide)))
  have m10 := fMV_bd (n := wN h) (B := wB h) 1 0
  have r13 : (h.1 418 7).toInt = (fMV (wN h) (wB h) 1 3) := (ha 1 3 (by decide) (by decide)).trans ((hf 538 (by decide) (by decide) 7 (by decide)).trans (fA_MV (i := 1) (k := 3) (by decide) (by decide)))
  have m13 := fMV_bd (n := wN h) (B := wB h) 1 3
  have r20 : (h.1 418 8).toInt = (fMV (wN h) (wB h) 2 0) := (ha 2 0 (by decide) (by decide)).trans ((hf 538 (by decide) (by decide) 8 (by decide)).trans (fA_MV (i := 2) (k := 0) (by decide) (by decide)))
  have m20 := fMV_bd (n := wN h) (B := wB h) 2 0
  have r23 : (h.1 418 11).toInt = (fMV (wN h) (wB h) 2 3) := (ha 2 3 (by decide) (by decide)).trans ((hf 538 (by decide) (by decide) 11 (by decide)).trans (fA_MV (i := 2) (k := 3) (by decide) (by decide)))
  have m23 := fMV_bd (n := wN h) (B := wB h) 2 3
  have r30 : (h.1 418 12).toInt = (fMV (wN h) (wB h) 3 0) := (ha 3 0 (by decide) (by decide)).trans ((hf 538 (by decide) (by decide) 12 (by decide)).trans (fA_MV (i := 3) (k := 0) (by decide) (by decide)))
  have m30 := fMV_bd (n := wN h) (B := wB h) 3 0
  have r33 : (h.1 418 15).toInt = (fMV (wN h) (wB h) 3 3) := (ha 3 3 (by decide) (by decide)).trans ((hf 538 (by decide) (by decide) 15 (by decide)).trans (fA_MV (i := 3) (k := 3) (by decide) (by decide)))
  have m33 := fMV_bd (n := wN h) (B := wB h) 3 3
  have r40 : (h.1 418 16).toInt = (fMV (wN h) (wB h) 4 0) := (ha 4 0 (by decide) (by decide)).trans ((hf 538 (by decide) (by decide) 16 (by decide)).trans (fA_MV (i := 4) (k := 0) (by decide) (by decide)))
  have m40 := fMV_bd (n := wN h) (B := wB h) 4 0
  have r43 : (h.1 418 19).toInt = (fMV (wN h) (wB h) 4 3) := (ha 4 3 (by decide) (by decide)).trans ((hf 538 (by decide) (by decide) 19 (by decide)).trans (fA_MV (i := 4) (k := 3) (by decide) (by decide)))
  have m43 := fMV_bd (n := wN h) (B := wB h) 4 3
  by_cases g0 : (fMV (wN h) (wB h) 0 0) ≤ fRV (wN h) (wB h) 0
  · by_cases k0 : (fMV (wN h) (wB h) 0 3) < fRV (wN h) (wB h) 0
    · by_cases g1 : (fMV (wN h) (wB h) 1 0) ≤ fRV (wN h) (wB h) 0
      · by_cases k1 : (fMV (wN h) (wB h) 1 3) < fRV (wN h) (wB h) 0
        · by_cases g2 : (fMV (wN h) (wB h) 2 0) ≤ fRV (wN h) (wB h) 0
          · by_cases k2 : (fMV (wN h) (wB h) 2 3) < fRV (wN h) (wB h) 0
            · by_cases g3 : (fMV (wN h) (wB h) 3 0) ≤ fRV (wN h) (wB h) 0
              · by_cases k3 : (fMV (wN h) (wB h) 3 3) < fRV (wN h) (wB h) 0
                · by_cases g4 : (fMV (wN h) (wB h) 4 0) ≤ fRV (wN h) (wB h) 0
                  · by_cases k4 : (fMV (wN h) (wB h) 4 3) < fRV (wN h) (wB h) 0
                    · have hw : fWh (wN h) (wB h) := by
                        refine ⟨by omega, fun i hi => ?_⟩
                        rw [em] at hi
                        rcases (show i = 0 ∨ i = 1 ∨ i = 2 ∨ i = 3 ∨ i = 4 by omega) with rfl | rfl | rfl | rfl | rfl
                        · exact ⟨g0, k0⟩
                        · exact ⟨g1, k1⟩
                        · exact ⟨g2, k2⟩
                        · exact ⟨g3, k3⟩
                        · exact ⟨g4, k4⟩
                      rw [yB_1.mpr hw] at eW
                      refine ⟨rWH5m_0, List.mem_of_getElem? (i := 0) rfl, pEnd [ρ 0, ρ 1, ρ 2, ρ 3, ρ 4, ρ 5, (fMV (wN h) (wB h) 0 0), (fMV (wN h) (wB h) 0 3), (fMV (wN h) (wB h) 1 0), (fMV (wN h) (wB h) 1 3), (fMV (wN h) (wB h) 2 0), (fMV (wN h) (wB h) 2 3), (fMV (wN h) (wB h) 3 0), (fMV (wN h) (wB h) 3 3), (fMV (wN h) (wB h) 4 0), (fMV (wN h) (wB h) 4 3)] rfl ?_ ?_ ?_ ?_⟩
                      · intro j hj
                        match j, hj with
                        | 0, _ => exact q0.symm
                        | 1, _ => exact q1.symm
                        | 2, _ => exact q2.symm
                        | 3, _ => exact q3.symm
                        | 4, _ => exact q4.symm
                        | 5, _ => exact q5.symm
                        | k + 6, hj => exact absurd hj (by show ¬ (k + 6 < 6); omega)
                      · intro k b hk
                        match k, hk with
                        | 0, hk => cases hk; exact (show (0 : Int) ≤ (fMV (wN h) (wB h) 0 0) ∧ (fMV (wN h) (wB h) 0 0) ≤ (99 : Int) by omega)
                        | 1, hk => cases hk; exact (show (0 : Int) ≤ (fMV (wN h) (wB h) 0 3) ∧ (fMV (wN h) (wB h) 0 3) ≤ (99 : Int) by omega)
                        | 2, hk => cases hk; exact (show (0 : Int) ≤ (fMV (wN h) (wB h) 1 0) ∧ (fMV (wN h) (wB h) 1 0) ≤ (99 : Int) by omega)
                        | 3, hk => cases hk; exact (show (0 : Int) ≤ (fMV (wN h) (wB h) 1 3) ∧ (fMV (wN h) (wB h) 1 3) ≤ (99 : Int) by omega)
                        | 4, hk => cases hk; exact (show (0 : Int) ≤ (fMV (wN h) (wB h) 2 0) ∧ (fMV (wN h) (wB h) 2 0) ≤ (99 : Int) by omega)
                        | 5, hk => cases hk; exact (show (0 : Int) ≤ (fMV (wN h) (wB h) 2 3) ∧ (fMV (wN h) (wB h) 2 3) ≤ (99 : Int) by omega)
                        | 6, hk => cases hk; exact (show (0 : Int) ≤ (fMV (wN h) (wB h) 3 0) ∧ (fMV (wN h) (wB h) 3 0) ≤ (99 : Int) by omega)
                        | 7, hk => cases hk; exact (show (0 : Int) ≤ (fMV (wN h) (wB h) 3 3) ∧ (fMV (wN h) (wB h) 3 3) ≤ (99 : Int) by omega)
                        | 8, hk => cases hk; exact (show (0 : Int) ≤ (fMV (wN h) (wB h) 4 0) ∧ (fMV (wN h) (wB h) 4 0) ≤ (99 : Int) by omega)
                        | 9, hk => cases hk; exact (show (0 : Int) ≤ (fMV (wN h) (wB h) 4 3) ∧ (fMV (wN h) (wB h) 4 3) ≤ (99 : Int) by omega)
                        | k + 10, hk => cases hk
                      · exact pAll1 (show ((-1) + (1 * ρ 4 + 0) : Int) ≤ 0 by omega) (pAll1 (show (1 + ((-1) * ρ 4 + 0) : Int) ≤ 0 by omega) (pAll1 (show (0 + ((-1) * ρ 2 + (1 * (fMV (wN h) (wB h) 0 0) + 0)) : Int) ≤ 0 by omega) (pAll1 (show (1 + ((-1) * ρ 2 + (1 * (fMV (wN h) (wB h) 0 3) + 0)) : Int) ≤ 0 by omega) (pAll1 (show (0 + ((-1) * ρ 2 + (1 * (fMV (wN h) (wB h) 1 0) + 0)) : Int) ≤ 0 by omega) (pAll1 (show (1 + ((-1) * ρ 2 + (1 * (fMV (wN h) (wB h) 1 3) + 0)) : Int) ≤ 0 by omega) (pAll1 (show (0 + ((-1) * ρ 2 + (1 * (fMV (wN h) (wB h) 2 0) + 0)) : Int) ≤ 0 by omega) (pAll1 (show (1 + ((-1) * ρ 2 + (1 * (fMV (wN h) (wB h) 2 3) + 0)) : Int) ≤ 0 by omega) (pAll1 (show (0 + ((-1) * ρ 2 + (1 * (fMV (wN h) (wB h) 3 0) + 0)) : Int) ≤ 0 by omega) (pAll1 (show (1 + ((-1) * ρ 2 + (1 * (fMV (wN h) (wB h) 3 3) + 0)) : Int) ≤ 0 by omega) (pAll1 (show (0 + ((-1) * ρ 2 + (1 * (fMV (wN h) (wB h) 4 0) + 0)) : Int) ≤ 0 by omega) (pAll1 (show (1 + ((-1) * ρ 2 + (1 * (fMV (wN h) (wB h) 4 3) + 0)) : Int) ≤ 0 by omega) (pAll0))))))))))))
                      · exact pAll1 (pgP 98 418 (by decide) (by decide +kernel) (by decide +kernel) 0 (show (0 + 0 : Int) = _ by omega) (show (0 + (1 * (fMV (wN h) (wB h) 0 0) + 0) : Int) = _ by omega)) (pAll1 (pgP 98 418 (by decide) (by decide +kernel) (by decide +kernel) 3 (show (3 + 0 : Int) = _ by omega) (show (0 + (1 * (fMV (wN h) (wB h) 0 3) + 0) : Int) = _ by omega)) (pAll1 (pgP 98 418 (by decide) (by decide +kernel) (by decide +kernel) 4 (show (4 + 0 : Int) = _ by omega) (show (0 + (1 * (fMV (wN h) (wB h) 1 0) + 0) : Int) = _ by omega)) (pAll1 (pgP 98 418 (by decide) (by decide +kernel) (by decide +kernel) 7 (show (7 + 0 : Int) = _ by omega) (show (0 + (1 * (fMV (wN h) (wB h) 1 3) + 0) : Int) = _ by omega)) (pAll1 (pgP 98 418 (by decide) (by decide +kernel) (by decide +kernel) 8 (show (8 + 0 : Int) = _ by omega) (show (0 + (1 * (fMV (wN h) (wB h) 2 0) + 0) : Int) = _ by omega)) (pAll1 (pgP 98 418 (by decide) (by decide +kernel) (by decide +kernel) 11 (show (11 + 0 : Int) = _ by omega) (show (0 + (1 * (fMV (wN h) (wB h) 2 3) + 0) : Int) = _ by omega)) (pAll1 (pgP 98 418 (by decide) (by decide +kernel) (by decide +kernel) 12 (show (12 + 0 : Int) = _ by omega) (show (0 + (1 * (fMV (wN h) (wB h) 3 0) + 0) : Int) = _ by omega)) (pAll1 (pgP 98 418 (by decide) (by decide +kernel) (by decide +kernel) 15 (show (15 + 0 : Int) = _ by omega) (show (0 + (1 * (fMV (wN h) (wB h) 3 3) + 0) : Int) = _ by omega)) (pAll1 (pgP 98 418 (by decide) (by decide +kernel) (by decide +kernel) 16 (show (16 + 0 : Int) = _ by omega) (show (0 + (1 * (fMV (wN h) (wB h) 4 0) + 0) : Int) = _ by omega)) (pAll1 (pgP 98 418 (by decide) (by decide +kernel) (by decide +kernel) 19 (show (19 + 0 : Int) = _ by omega) (show (0 + (1 * (fMV (wN h) (wB h) 4 3) + 0) : Int) = _ by omega)) (pAll0))))))))))
                    · have hw : ¬ fWh (wN h) (wB h) := fun z => k4 (z.2 4 (by omega)).2
                      rw [yB_0 hw] at eW
                      refine ⟨rWH5m_10, List.mem_of_getElem? (i := 10) rfl, pEnd [ρ 0, ρ 1, ρ 2, ρ 3, ρ 4, ρ 5, (fMV (wN h) (wB h) 0 0), (fMV (wN h) (wB h) 0 3), (fMV (wN h) (wB h) 1 0), (fMV (wN h) (wB h) 1 3), (fMV (wN h) (wB h) 2 0), (fMV (wN h) (wB h) 2 3), (fMV (wN h) (wB h) 3 0), (fMV (wN h) (wB h) 3 3), (fMV (wN h) (wB h) 4 0), (fMV (wN h) (wB h) 4 3)] rfl ?_ ?_ ?_ ?_⟩
                      · intro j hj
                        match j, hj with
                        | 0, _ => exact q0.symm
                        | 1, _ => exact q1.symm
                        | 2, _ => exact q2.symm
                        | 3, _ => exact q3.symm
                        | 4, _ => exact q4.symm
                        | 5, _ => exact q5.symm
                        | k + 6, hj => exact absurd hj (by show ¬ (k + 6 < 6); omega)
                      · intro k b hk
                        match k, hk with
                        | 0, hk => cases hk; exact (show (0 : Int) ≤ (fMV (wN h) (wB h) 0 0) ∧ (fMV (wN h) (wB h) 0 0) ≤ (99 : Int) by omega)
                        | 1, hk => cases hk; exact (show (0 : Int) ≤ (fMV (wN h) (wB h) 0 3) ∧ (fMV (wN h) (wB h) 0 3) ≤ (99 : Int) by omega)
                        | 2, hk => cases hk; exact (show (0 : Int) ≤ (fMV (wN h) (wB h) 1 0) ∧ (fMV (wN h) (wB h) 1 0) ≤ (99 : Int) by omega)
                        | 3, hk => cases hk; exact (show (0 : Int) ≤ (fMV (wN h) (wB h) 1 3) ∧ (fMV (wN h) (wB h) 1 3) ≤ (99 : Int) by omega)
                        | 4, hk => cases hk; exact (show (0 : Int) ≤ (fMV (wN h) (wB h) 2 0) ∧ (fMV (wN h) (wB h) 2 0) ≤ (99 : Int) by omega)
                        | 5, hk => cases hk; exact (show (0 : Int) ≤ (fMV (wN h) (wB h) 2 3) ∧ (fMV (wN h) (wB h) 2 3) ≤ (99 : Int) by omega)
                        | 6, hk => cases hk; exact (show (0 : Int) ≤ (fMV (wN h) (wB h) 3 0) ∧ (fMV (wN h) (wB h) 3 0) ≤ (99 : Int) by omega)
                        | 7, hk => cases hk; exact (show (0 : Int) ≤ (fMV (wN h) (wB h) 3 3) ∧ (fMV (wN h) (wB h) 3 3) ≤ (99 : Int) by omega)
                        | 8, hk => cases hk; exact (show (0 : Int) ≤ (fMV (wN h) (wB h) 4 0) ∧ (fMV (wN h) (wB h) 4 0) ≤ (99 : Int) by omega)
                        | 9, hk => cases hk; exact (show (0 : Int) ≤ (fMV (wN h) (wB h) 4 3) ∧ (fMV (wN h) (wB h) 4 3) ≤ (99 : Int) by omega)
                        | k + 10, hk => cases hk
                      · exact pAll1 (show (0 + (1 * ρ 4 + 0) : Int) ≤ 0 by omega) (pAll1 (show (0 + ((-1) * ρ 4 + 0) : Int) ≤ 0 by omega) (pAll1 (show (0 + ((-1) * ρ 2 + (1 * (fMV (wN h) (wB h) 0 0) + 0)) : Int) ≤ 0 by omega) (pAll1 (show (1 + ((-1) * ρ 2 + (1 * (fMV (wN h) (wB h) 0 3) + 0)) : Int) ≤ 0 by omega) (pAll1 (show (0 + ((-1) * ρ 2 + (1 * (fMV (wN h) (wB h) 1 0) + 0)) : Int) ≤ 0 by omega) (pAll1 (show (1 + ((-1) * ρ 2 + (1 * (fMV (wN h) (wB h) 1 3) + 0)) : Int) ≤ 0 by omega) (pAll1 (show (0 + ((-1) * ρ 2 + (1 * (fMV (wN h) (wB h) 2 0) + 0)) : Int) ≤ 0 by omega) (pAll1 (show (1 + ((-1) * ρ 2 + (1 * (fMV (wN h) (wB h) 2 3) + 0)) : Int) ≤ 0 by omega) (pAll1 (show (0 + ((-1) * ρ 2 + (1 * (fMV (wN h) (wB h) 3 0) + 0)) : Int) ≤ 0 by omega) (pAll1 (show (1 + ((-1) * ρ 2 + (1 * (fMV (wN h) (wB h) 3 3) + 0)) : Int) ≤ 0 by omega) (pAll1 (show (0 + ((-1) * ρ 2 + (1 * (fMV (wN h) (wB h) 4 0) + 0)) : Int) ≤ 0 by omega) (pAll1 (show (0 + (1 * ρ 2 + ((-1) * (fMV (wN h) (wB h) 4 3) + 0)) : Int) ≤ 0 by omega) (pAll0))))))))))))
                      · exact pAll1 (pgP 98 418 (by decide) (by decide +kernel) (by decide +kernel) 0 (show (0 + 0 : Int) = _ by omega) (show (0 + (1 * (fMV (wN h) (wB h) 0 0) + 0) : Int) = _ by omega)) (pAll1 (pgP 98 418 (by decide) (by decide +kernel) (by decide +kernel) 3 (show (3 + 0 : Int) = _ by omega) (show (0 + (1 * (fMV (wN h) (wB h) 0 3) + 0) : Int) = _ by omega)) (pAll1 (pgP 98 418 (by decide) (by decide +kernel) (by decide +kernel) 4 (show (4 + 0 : Int) = _ by omega) (show (0 + (1 * (fMV (wN h) (wB h) 1 0) + 0) : Int) = _ by omega)) (pAll1 (pgP 98 418 (by decide) (by decide +kernel) (by decide +kernel) 7 (show (7 + 0 : Int) = _ by omega) (show (0 + (1 * (fMV (wN h) (wB h) 1 3) + 0) : Int) = _ by omega)) (pAll1 (pgP 98 418 (by decide) (by decide +kernel) (by decide +kernel) 8 (show (8 + 0 : Int) = _ by omega) (show (0 + (1 * (fMV (wN h) (wB h) 2 0) + 0) : Int) = _ by omega)) (pAll1 (pgP 98 418 (by decide) (by decide +kernel) (by decide +kernel) 11 (show (11 + 0 : Int) = _ by omega) (show (0 + (1 * (fMV (wN h) (wB h) 2 3) + 0) : Int) = _ by omega)) (pAll1 (pgP 98 418 (by decide) (by decide +kernel) (by decide +kernel) 12 (show (12 + 0 : Int) = _ by omega) (show (0 + (1 * (fMV (wN h) (wB h) 3 0) + 0) : Int) = _ by omega)) (pAll1 (pgP 98 418 (by decide) (by decide +kernel) (by decide +kernel) 15 (show (15 + 0 : Int) = _ by omega) (show (0 + (1 * (fMV (wN h) (wB h) 3 3) + 0) : Int) = _ by omega)) (pAll1 (pgP 98 418 (by decide) (by decide +kernel) (by decide +kernel) 16 (show (16 + 0 : Int) = _ by omega) (show (0 + (1 * (fMV (wN h) (wB h) 4 0) + 0) : Int) = _ by omega)) (pAll1 (pgP 98 418 (by decide) (by decide +kernel) (by decide +kernel) 19 (show (19 + 0 : Int) = _ by omega) (show (0 + (1 * (fMV (wN h) (wB h) 4 3) + 0) : Int) = _ by omega)) (pAll0))))))))))
                  · have hw : ¬ fWh (wN h) (wB h) := fun z => g4 (z.2 4 (by omega)).1
                    rw [yB_0 hw] at eW
                    refine ⟨rWH5m_9, List.mem_of_getElem? (i := 9) rfl, pEnd [ρ 0, ρ 1, ρ 2, ρ 3, ρ 4, ρ 5, (fMV (wN h) (wB h) 0 0), (fMV (wN h) (wB h) 0 3), (fMV (wN h) (wB h) 1 0), (fMV (wN h) (wB h) 1 3), (fMV (wN h) (wB h) 2 0), (fMV (wN h) (wB h) 2 3), (fMV (wN h) (wB h) 3 0), (fMV (wN h) (wB h) 3 3), (fMV (wN h) (wB h) 4 0)] rfl ?_ ?_ ?_ ?_⟩
                    · intro j hj
                      match j, hj with
                      | 0, _ => exact q0.symm
                      | 1, _ => exact q1.symm
                      | 2, _ => exact q2.symm
                      | 3, _ => exact q3.symm
                      | 4, _ => exact q4.symm
                      | 5, _ => exact q5.symm
                      | k + 6, hj => exact absurd hj (by show ¬ (k + 6 < 6); omega)
                    · intro k b hk
                      match k, hk with
                      | 0, hk => cases hk; exact (show (0 : Int) ≤ (fMV (wN h) (wB h) 0 0) ∧ (fMV (wN h) (wB h) 0 0) ≤ (99 : Int) by omega)
                      | 1, hk => cases hk; exact (show (0 : Int) ≤ (fMV (wN h) (wB h) 0 3) ∧ (fMV (wN h) (wB h) 0 3) ≤ (99 : Int) by omega)
                      | 2, hk => cases hk; exact (show (0 : Int) ≤ (fMV (wN h) (wB h) 1 0) ∧ (fMV (wN h) (wB h) 1 0) ≤ (99 : Int) by omega)
                      | 3, hk => cases hk; exact (show (0 : Int) ≤ (fMV (wN h) (wB h) 1 3) ∧ (fMV (wN h) (wB h) 1 3) ≤ (99 : Int) by omega)
                      | 4, hk => cases hk; exact (show (0 : Int) ≤ (fMV (wN h) (wB h) 2 0) ∧ (fMV (wN h) (wB h) 2 0) ≤ (99 : Int) by omega)
                      | 5, hk => cases hk; exact (show (0 : Int) ≤ (fMV (wN h) (wB h) 2 3) ∧ (fMV (wN h) (wB h) 2 3) ≤ (99 : Int) by omega)
                      | 6, hk => cases hk; exact (show (0 : Int) ≤ (fMV (wN h) (wB h) 3 0) ∧ (fMV (wN h) (wB h) 3 0) ≤ (99 : Int) by omega)
                      | 7, hk => cases hk; exact (show (0 : Int) ≤ (fMV (wN h) (wB h) 3 3) ∧ (fMV (wN h) (wB h) 3 3) ≤ (99 : Int) by omega)
                      | 8, hk => cases hk; exact (show (0 : Int) ≤ (fMV (wN h) (wB h) 4 0) ∧ (fMV (wN h) (wB h) 4 0) ≤ (99 : Int) by omega)
                      | k + 9, hk => cases hk
                    · exact pAll1 (show (0 + (1 * ρ 4 + 0) : Int) ≤ 0 by omega) (pAll1 (show (0 + ((-1) * ρ 4 + 0) : Int) ≤ 0 by omega) (pAll1 (show (0 + ((-1) * ρ 2 + (1 * (fMV (wN h) (wB h) 0 0) + 0)) : Int) ≤ 0 by omega) (pAll1 (show (1 + ((-1) * ρ 2 + (1 * (fMV (wN h) (wB h) 0 3) + 0)) : Int) ≤ 0 by omega) (pAll1 (show (0 + ((-1) * ρ 2 + (1 * (fMV (wN h) (wB h) 1 0) + 0)) : Int) ≤ 0 by omega) (pAll1 (show (1 + ((-1) * ρ 2 + (1 * (fMV (wN h) (wB h) 1 3) + 0)) : Int) ≤ 0 by omega) (pAll1 (show (0 + ((-1) * ρ 2 + (1 * (fMV (wN h) (wB h) 2 0) + 0)) : Int) ≤ 0 by omega) (pAll1 (show (1 + ((-1) * ρ 2 + (1 * (fMV (wN h) (wB h) 2 3) + 0)) : Int) ≤ 0 by omega) (pAll1 (show (0 + ((-1) * ρ 2 + (1 * (fMV (wN h) (wB h) 3 0) + 0)) : Int) ≤ 0 by omega) (pAll1 (show (1 + ((-1) * ρ 2 + (1 * (fMV (wN h) (wB h) 3 3) + 0)) : Int) ≤ 0 by omega) (pAll1 (show (1 + (1 * ρ 2 + ((-1) * (fMV (wN h) (wB h) 4 0) + 0)) : Int) ≤ 0 by omega) (pAll0)))))))))))
                    · exact pAll1 (pgP 98 418 (by decide) (by decide +kernel) (by decide +kernel) 0 (show (0 + 0 : Int) = _ by omega) (show (0 + (1 * (fMV (wN h) (wB h) 0 0) + 0) : Int) = _ by omega)) (pAll1 (pgP 98 418 (by decide) (by decide +kernel) (by decide +kernel) 3 (show (3 + 0 : Int) = _ by omega) (show (0 + (1 * (fMV (wN h) (wB h) 0 3) + 0) : Int) = _ by omega)) (pAll1 (pgP 98 418 (by decide) (by decide +kernel) (by decide +kernel) 4 (show (4 + 0 : Int) = _ by omega) (show (0 + (1 * (fMV (wN h) (wB h) 1 0) + 0) : Int) = _ by omega)) (pAll1 (pgP 98 418 (by decide) (by decide +kernel) (by decide +kernel) 7 (show (7 + 0 : Int) = _ by omega) (show (0 + (1 * (fMV (wN h) (wB h) 1 3) + 0) : Int) = _ by omega)) (pAll1 (pgP 98 418 (by decide) (by decide +kernel) (by decide +kernel) 8 (show (8 + 0 : Int) = _ by omega) (show (0 + (1 * (fMV (wN h) (wB h) 2 0) + 0) : Int) = _ by omega)) (pAll1 (pgP 98 418 (by decide) (by decide +kernel) (by decide +kernel) 11 (show (11 + 0 : Int) = _ by omega) (show (0 + (1 * (fMV (wN h) (wB h) 2 3) + 0) : Int) = _ by omega)) (pAll1 (pgP 98 418 (by decide) (by decide +kernel) (by decide +kernel) 12 (show (12 + 0 : Int) = _ by omega) (show (0 + (1 * (fMV (wN h) (wB h) 3 0) + 0) : Int) = _ by omega)) (pAll1 (pgP 98 418 (by decide) (by decide +kernel) (by decide +kernel) 15 (show (15 + 0 : Int) = _ by omega) (show (0 + (1 * (fMV (wN h) (wB h) 3 3) + 0) : Int) = _ by omega)) (pAll1 (pgP 98 418 (by decide) (by decide +kernel) (by decide +kernel) 16 (show (16 + 0 : Int) = _ by omega) (show (0 + (1 * (fMV (wN h) (wB h) 4 0) + 0) : Int) = _ by omega)) (pAll0)))))))))
                · have hw : ¬ fWh (wN h) (wB h) := fun z => k3 (z.2 3 (by omega)).2
                  rw [yB_0 hw] at eW
                  refine ⟨rWH5m_8, List.mem_of_getElem? (i := 8) rfl, pEnd [ρ 0, ρ 1, ρ 2, ρ 3, ρ 4, ρ 5, (fMV (wN h) (wB h) 0 0), (fMV (wN h) (wB h) 0 3), (fMV (wN h) (wB h) 1 0), (fMV (wN h) (wB h) 1 3), (fMV (wN h) (wB h) 2 0), (fMV (wN h) (wB h) 2 3), (fMV (wN h) (wB h) 3 0), (fMV (wN h) (wB h) 3 3)] rfl ?_ ?_ ?_ ?_⟩
                  · intro j hj
                    match j, hj with
                    | 0, _ => exact q0.symm
                    | 1, _ => exact q1.symm
                    | 2, _ => exact q2.symm
                    | 3, _ => exact q3.symm
                    | 4, _ => exact q4.symm
                    | 5, _ => exact q5.symm
                    | k + 6, hj => exact absurd hj (by show ¬ (k + 6 < 6); omega)
                  · intro k b hk
                    match k, hk with
                    | 0, hk => cases hk; exact (show (0 : Int) ≤ (fMV (wN h) (wB h) 0 0) ∧ (fMV (wN h) (wB h) 0 0) ≤ (99 : Int) by omega)
                    | 1, hk => cases hk; exact (show (0 : Int) ≤ (fMV (wN h) (wB h) 0 3) ∧ (fMV (wN h) (wB h) 0 3) ≤ (99 : Int) by omega)
                    | 2, hk => cases hk; exact (show (0 : Int) ≤ (fMV (wN h) (wB h) 1 0) ∧ (fMV (wN h) (wB h) 1 0) ≤ (99 : Int) by omega)
                    | 3, hk => cases hk; exact (show (0 : Int) ≤ (fMV (wN h) (wB h) 1 3) ∧ (fMV (wN h) (wB h) 1 3) ≤ (99 : Int) by omega)
                    | 4, hk => cases hk; exact (show (0 : Int) ≤ (fMV (wN h) (wB h) 2 0) ∧ (fMV (wN h) (wB h) 2 0) ≤ (99 : Int) by omega)
                    | 5, hk => cases hk; exact (show (0 : Int) ≤ (fMV (wN h) (wB h) 2 3) ∧ (fMV (wN h) (wB h) 2 3) ≤ (99 : Int) by omega)
                    | 6, hk => cases hk; exact (show (0 : Int) ≤ (fMV (wN h) (wB h) 3 0) ∧ (fMV (wN h) (wB h) 3 0) ≤ (99 : Int) by omega)
                    | 7, hk => cases hk; exact (show (0 : Int) ≤ (fMV (wN h) (wB h) 3 3) ∧ (fMV (wN h) (wB h) 3 3) ≤ (99 : Int) by omega)
                    | k + 8, hk => cases hk
                  · exact pAll1 (show (0 + (1 * ρ 4 + 0) : Int) ≤ 0 by omega) (pAll1 (show (0 + ((-1) * ρ 4 + 0) : Int) ≤ 0 by omega) (pAll1 (show (0 + ((-1) * ρ 2 + (1 * (fMV (wN h) (wB h) 0 0) + 0)) : Int) ≤ 0 by omega) (pAll1 (show (1 + ((-1) * ρ 2 + (1 * (fMV (wN h) (wB h) 0 3) + 0)) : Int) ≤ 0 by omega) (pAll1 (show (0 + ((-1) * ρ 2 + (1 * (fMV (wN h) (wB h) 1 0) + 0)) : Int) ≤ 0 by omega) (pAll1 (show (1 + ((-1) * ρ 2 + (1 * (fMV (wN h) (wB h) 1 3) + 0)) : Int) ≤ 0 by omega) (pAll1 (show (0 + ((-1) * ρ 2 + (1 * (fMV (wN h) (wB h) 2 0) + 0)) : Int) ≤ 0 by omega) (pAll1 (show (1 + ((-1) * ρ 2 + (1 * (fMV (wN h) (wB h) 2 3) + 0)) : Int) ≤ 0 by omega) (pAll1 (show (0 + ((-1) * ρ 2 + (1 * (fMV (wN h) (wB h) 3 0) + 0)) : Int) ≤ 0 by omega) (pAll1 (show (0 + (1 * ρ 2 + ((-1) * (fMV (wN h) (wB h) 3 3) + 0)) : Int) ≤ 0 by omega) (pAll0))))))))))
                  · exact pAll1 (pgP 98 418 (by decide) (by decide +kernel) (by decide +kernel) 0 (show (0 + 0 : Int) = _ by omega) (show (0 + (1 * (fMV (wN h) (wB h) 0 0) + 0) : Int) = _ by omega)) (pAll1 (pgP 98 418 (by decide) (by decide +kernel) (by decide +kernel) 3 (show (3 + 0 : Int) = _ by omega) (show (0 + (1 * (fMV (wN h) (wB h) 0 3) + 0) : Int) = _ by omega)) (pAll1 (pgP 98 418 (by decide) (by decide +kernel) (by decide +kernel) 4 (show (4 + 0 : Int) = _ by omega) (show (0 + (1 * (fMV (wN h) (wB h) 1 0) + 0) : Int) = _ by omega)) (pAll1 (pgP 98 418 (by decide) (by decide +kernel) (by decide +kernel) 7 (show (7 + 0 : Int) = _ by omega) (show (0 + (1 * (fMV (wN h) (wB h) 1 3) + 0) : Int) = _ by omega)) (pAll1 (pgP 98 418 (by decide) (by decide +kernel) (by decide +kernel) 8 (show (8 + 0 : Int) = _ by omega) (show (0 + (1 * (fMV (wN h) (wB h) 2 0) + 0) : Int) = _ by omega)) (pAll1 (pgP 98 418 (by decide) (by decide +kernel) (by decide +kernel) 11 (show (11 + 0 : Int) = _ by omega) (show (0 + (1 * (fMV (wN h) (wB h) 2 3) + 0) : Int) = _ by omega)) (pAll1 (pgP 98 418 (by decide) (by decide +kernel) (by decide +kernel) 12 (show (12 + 0 : Int) = _ by omega) (show (0 + (1 * (fMV (wN h) (wB h) 3 0) + 0) : Int) = _ by omega)) (pAll1 (pgP 98 418 (by decide) (by decide +kernel) (by decide +kernel) 15 (show (15 + 0 : Int) = _ by omega) (show (0 + (1 * (fMV (wN h) (wB h) 3 3) + 0) : Int) = _ by omega)) (pAll0))))))))
              · have hw : ¬ fWh (wN h) (wB h) := fun z => g3 (z.2 3 (by omega)).1
                rw [yB_0 hw] at eW
                refine ⟨rWH5m_7, List.mem_of_getElem? (i := 7) rfl, pEnd [ρ 0, ρ 1, ρ 2, ρ 3, ρ 4, ρ 5, (fMV (wN h) (wB h) 0 0), (fMV (wN h) (wB h) 0 3), (fMV (wN h) (wB h) 1 0), (fMV (wN h) (wB h) 1 3), (fMV (wN h) (wB h) 2 0), (fMV (wN h) (wB h) 2 3), (fMV (wN h) (wB h) 3 0)] rfl ?_ ?_ ?_ ?_⟩
                · intro j hj
                  match j, hj with
                  | 0, _ => exact q0.symm
                  | 1, _ => exact q1.symm
                  | 2, _ => exact q2.symm
                  | 3, _ => exact q3.symm
                  | 4, _ => exact q4.symm
                  | 5, _ => exact q5.symm
                  | k + 6, hj => exact absurd hj (by show ¬ (k + 6 < 6); omega)
                · intro k b hk
                  match k, hk with
                  | 0, hk => cases hk; exact (show (0 : Int) ≤ (fMV (wN h) (wB h) 0 0) ∧ (fMV (wN h) (wB h) 0 0) ≤ (99 : Int) by omega)
                  | 1, hk => cases hk; exact (show (0 : Int) ≤ (fMV (wN h) (wB h) 0 3) ∧ (fMV (wN h) (wB h) 0 3) ≤ (99 : Int) by omega)
                  | 2, hk => cases hk; exact (show (0 : Int) ≤ (fMV (wN h) (wB h) 1 0) ∧ (fMV (wN h) (wB h) 1 0) ≤ (99 : Int) by omega)
                  | 3, hk => cases hk; exact (show (0 : Int) ≤ (fMV (wN h) (wB h) 1 3) ∧ (fMV (wN h) (wB h) 1 3) ≤ (99 : Int) by omega)
                  | 4, hk => cases hk; exact (show (0 : Int) ≤ (fMV (wN h) (wB h) 2 0) ∧ (fMV (wN h) (wB h) 2 0) ≤ (99 : Int) by omega)
                  | 5, hk => cases hk; exact (show (0 : Int) ≤ (fMV (wN h) (wB h) 2 3) ∧ (fMV (wN h) (wB h) 2 3) ≤ (99 : Int) by omega)
                  | 6, hk => cases hk; exact (show (0 : Int) ≤ (fMV (wN h) (wB h) 3 0) ∧ (fMV (wN h) (wB h) 3 0) ≤ (99 : Int) by omega)
                  | k + 7, hk => cases hk
                · exact pAll1 (show (0 + (1 * ρ 4 + 0) : Int) ≤ 0 by omega) (pAll1 (show (0 + ((-1) * ρ 4 + 0) : Int) ≤ 0 by omega) (pAll1 (show (0 + ((-1) * ρ 2 + (1 * (fMV (wN h) (wB h) 0 0) + 0)) : Int) ≤ 0 by omega) (pAll1 (show (1 + ((-1) * ρ 2 + (1 * (fMV (wN h) (wB h) 0 3) + 0)) : Int) ≤ 0 by omega) (pAll1 (show (0 + ((-1) * ρ 2 + (1 * (fMV (wN h) (wB h) 1 0) + 0)) : Int) ≤ 0 by omega) (pAll1 (show (1 + ((-1) * ρ 2 + (1 * (fMV (wN h) (wB h) 1 3) + 0)) : Int) ≤ 0 by omega) (pAll1 (show (0 + ((-1) * ρ 2 + (1 * (fMV (wN h) (wB h) 2 0) + 0)) : Int) ≤ 0 by omega) (pAll1 (show (1 + ((-1) * ρ 2 + (1 * (fMV (wN h) (wB h) 2 3) + 0)) : Int) ≤ 0 by omega) (pAll1 (show (1 + (1 * ρ 2 + ((-1) * (fMV (wN h) (wB h) 3 0) + 0)) : Int) ≤ 0 by omega) (pAll0)))))))))
                · exact pAll1 (pgP 98 418 (by decide) (by decide +kernel) (by decide +kernel) 0 (show (0 + 0 : Int) = _ by omega) (show (0 + (1 * (fMV (wN h) (wB h) 0 0) + 0) : Int) = _ by omega)) (pAll1 (pgP 98 418 (by decide) (by decide +kernel) (by decide +kernel) 3 (show (3 + 0 : Int) = _ by omega) (show (0 + (1 * (fMV (wN h) (wB h) 0 3) + 0) : Int) = _ by omega)) (pAll1 (pgP 98 418 (by decide) (by decide +kernel) (by decide +kernel) 4 (show (4 + 0 : Int) = _ by omega) (show (0 + (1 * (fMV (wN h) (wB h) 1 0) + 0) : Int) = _ by omega)) (pAll1 (pgP 98 418 (by decide) (by decide +kernel) (by decide +kernel) 7 (show (7 + 0 : Int) = _ by omega) (show (0 + (1 * (fMV (wN h) (wB h) 1 3) + 0) : Int) = _ by omega)) (pAll1 (pgP 98 418 (by decide) (by decide +kernel) (by decide +kernel) 8 (show (8 + 0 : Int) = _ by omega) (show (0 + (1 * (fMV (wN h) (wB h) 2 0) + 0) : Int) = _ by omega)) (pAll1 (pgP 98 418 (by decide) (by decide +kernel) (by decide +kernel) 11 (show (11 + 0 : Int) = _ by omega) (show (0 + (1 * (fMV (wN h) (wB h) 2 3) + 0) : Int) = _ by omega)) (pAll1 (pgP 98 418 (by decide) (by decide +kernel) (by decide +kernel) 12 (show (12 + 0 : Int) = _ by omega) (show (0 + (1 * (fMV (wN h) (wB h) 3 0) + 0) : Int) = _ by omega)) (pAll0)))))))
            · have hw : ¬ fWh (wN h) (wB h) := fun z => k2 (z.2 2 (by omega)).2
              rw [yB_0 hw] at eW
              refine ⟨rWH5m_6, List.mem_of_getElem? (i := 6) rfl, pEnd [ρ 0, ρ 1, ρ 2, ρ 3, ρ 4, ρ 5, (fMV (wN h) (wB h) 0 0), (fMV (wN h) (wB h) 0 3), (fMV (wN h) (wB h) 1 0), (fMV (wN h) (wB h) 1 3), (fMV (wN h) (wB h) 2 0), (fMV (wN h) (wB h) 2 3)] rfl ?_ ?_ ?_ ?_⟩
              · intro j hj
                match j, hj with
                | 0, _ => exact q0.symm
                | 1, _ => exact q1.symm
                | 2, _ => exact q2.symm
                | 3, _ => exact q3.symm
                | 4, _ => exact q4.symm
                | 5, _ => exact q5.symm
                | k + 6, hj => exact absurd hj (by show ¬ (k + 6 < 6); omega)
              · intro k b hk
                match k, hk with
                | 0, hk => cases hk; exact (show (0 : Int) ≤ (fMV (wN h) (wB h) 0 0) ∧ (fMV (wN h) (wB h) 0 0) ≤ (99 : Int) by omega)
                | 1, hk => cases hk; exact (show (0 : Int) ≤ (fMV (wN h) (wB h) 0 3) ∧ (fMV (wN h) (wB h) 0 3) ≤ (99 : Int) by omega)
                | 2, hk => cases hk; exact (show (0 : Int) ≤ (fMV (wN h) (wB h) 1 0) ∧ (fMV (wN h) (wB h) 1 0) ≤ (99 : Int) by omega)
                | 3, hk => cases hk; exact (show (0 : Int) ≤ (fMV (wN h) (wB h) 1 3) ∧ (fMV (wN h) (wB h) 1 3) ≤ (99 : Int) by omega)
                | 4, hk => cases hk; exact (show (0 : Int) ≤ (fMV (wN h) (wB h) 2 0) ∧ (fMV (wN h) (wB h) 2 0) ≤ (99 : Int) by omega)
                | 5, hk => cases hk; exact (show (0 : Int) ≤ (fMV (wN h) (wB h) 2 3) ∧ (fMV (wN h) (wB h) 2 3) ≤ (99 : Int) by omega)
                | k + 6, hk => cases hk
              · exact pAll1 (show (0 + (1 * ρ 4 + 0) : Int) ≤ 0 by omega) (pAll1 (show (0 + ((-1) * ρ 4 + 0) : Int) ≤ 0 by omega) (pAll1 (show (0 + ((-1) * ρ 2 + (1 * (fMV (wN h) (wB h) 0 0) + 0)) : Int) ≤ 0 by omega) (pAll1 (show (1 + ((-1) * ρ 2 + (1 * (fMV (wN h) (wB h) 0 3) + 0)) : Int) ≤ 0 by omega) (pAll1 (show (0 + ((-1) * ρ 2 + (1 * (fMV (wN h) (wB h) 1 0) + 0)) : Int) ≤ 0 by omega) (pAll1 (show (1 + ((-1) * ρ 2 + (1 * (fMV (wN h) (wB h) 1 3) + 0)) : Int) ≤ 0 by omega) (pAll1 (show (0 + ((-1) * ρ 2 + (1 * (fMV (wN h) (wB h) 2 0) + 0)) : Int) ≤ 0 by omega) (pAll1 (show (0 + (1 * ρ 2 + ((-1) * (fMV (wN h) (wB h) 2 3) + 0)) : Int) ≤ 0 by omega) (pAll0))))))))
              · exact pAll1 (pgP 98 418 (by decide) (by decide +kernel) (by decide +kernel) 0 (show (0 + 0 : Int) = _ by omega) (show (0 + (1 * (fMV (wN h) (wB h) 0 0) + 0) : Int) = _ by omega)) (pAll1 (pgP 98 418 (by decide) (by decide +kernel) (by decide +kernel) 3 (show (3 + 0 : Int) = _ by omega) (show (0 + (1 * (fMV (wN h) (wB h) 0 3) + 0) : Int) = _ by omega)) (pAll1 (pgP 98 418 (by decide) (by decide +kernel) (by decide +kernel) 4 (show (4 + 0 : Int) = _ by omega) (show (0 + (1 * (fMV (wN h) (wB h) 1 0) + 0) : Int) = _ by omega)) (pAll1 (pgP 98 418 (by decide) (by decide +kernel) (by decide +kernel) 7 (show (7 + 0 : Int) = _ by omega) (show (0 + (1 * (fMV (wN h) (wB h) 1 3) + 0) : Int) = _ by omega)) (pAll1 (pgP 98 418 (by decide) (by decide +kernel) (by decide +kernel) 8 (show (8 + 0 : Int) = _ by omega) (show (0 + (1 * (fMV (wN h) (wB h) 2 0) + 0) : Int) = _ by omega)) (pAll1 (pgP 98 418 (by decide) (by decide +kernel) (by decide +kernel) 11 (show (11 + 0 : Int) = _ by omega) (show (0 + (1 * (fMV (wN h) (wB h) 2 3) + 0) : Int) = _ by omega)) (pAll0))))))
          · have hw : ¬ fWh (wN h) (wB h) := fun z => g2 (z.2 2 (by omega)).1
            rw [yB_0 hw] at eW
            refine ⟨rWH5m_5, List.mem_of_getElem? (i := 5) rfl, pEnd [ρ 0, ρ 1, ρ 2, ρ 3, ρ 4, ρ 5, (fMV (wN h) (wB h) 0 0), (fMV (wN h) (wB h) 0 3), (fMV (wN h) (wB h) 1 0), (fMV (wN h) (wB h) 1 3), (fMV (wN h) (wB h) 2 0)] rfl ?_ ?_ ?_ ?_⟩
            · intro j hj
              match j, hj with
              | 0, _ => exact q0.symm
              | 1, _ => exact q1.symm
              | 2, _ => exact q2.symm
              | 3, _ => exact q3.symm
              | 4, _ => exact q4.symm
              | 5, _ => exact q5.symm
              | k + 6, hj => exact absurd hj (by show ¬ (k + 6 < 6); omega)
            · intro k b hk
              match k, hk with
              | 0, hk => cases hk; exact (show (0 : Int) ≤ (fMV (wN h) (wB h) 0 0) ∧ (fMV (wN h) (wB h) 0 0) ≤ (99 : Int) by omega)
              | 1, hk => cases hk; exact (show (0 : Int) ≤ (fMV (wN h) (wB h) 0 3) ∧ (fMV (wN h) (wB h) 0 3) ≤ (99 : Int) by omega)
              | 2, hk => cases hk; exact (show (0 : Int) ≤ (fMV (wN h) (wB h) 1 0) ∧ (fMV (wN h) (wB h) 1 0) ≤ (99 : Int) by omega)
              | 3, hk => cases hk; exact (show (0 : Int) ≤ (fMV (wN h) (wB h) 1 3) ∧ (fMV (wN h) (wB h) 1 3) ≤ (99 : Int) by omega)
              | 4, hk => cases hk; exact (show (0 : Int) ≤ (fMV (wN h) (wB h) 2 0) ∧ (fMV (wN h) (wB h) 2 0) ≤ (99 : Int) by omega)
              | k + 5, hk => cases hk
            · exact pAll1 (show (0 + (1 * ρ 4 + 0) : Int) ≤ 0 by omega) (pAll1 (show (0 + ((-1) * ρ 4 + 0) : Int) ≤ 0 by omega) (pAll1 (show (0 + ((-1) * ρ 2 + (1 * (fMV (wN h) (wB h) 0 0) + 0)) : Int) ≤ 0 by omega) (pAll1 (show (1 + ((-1) * ρ 2 + (1 * (fMV (wN h) (wB h) 0 3) + 0)) : Int) ≤ 0 by omega) (pAll1 (show (0 + ((-1) * ρ 2 + (1 * (fMV (wN h) (wB h) 1 0) + 0)) : Int) ≤ 0 by omega) (pAll1 (show (1 + ((-1) * ρ 2 + (1 * (fMV (wN h) (wB h) 1 3) + 0)) : Int) ≤ 0 by omega) (pAll1 (show (1 + (1 * ρ 2 + ((-1) * (fMV (wN h) (wB h) 2 0) + 0)) : Int) ≤ 0 by omega) (pAll0)))))))
            · exact pAll1 (pgP 98 418 (by decide) (by decide +kernel) (by decide +kernel) 0 (show (0 + 0 : Int) = _ by omega) (show (0 + (1 * (fMV (wN h) (wB h) 0 0) + 0) : Int) = _ by omega)) (pAll1 (pgP 98 418 (by decide) (by decide +kernel) (by decide +kernel) 3 (show (3 + 0 : Int) = _ by omega) (show (0 + (1 * (fMV (wN h) (wB h) 0 3) + 0) : Int) = _ by omega)) (pAll1 (pgP 98 418 (by decide) (by decide +kernel) (by decide +kernel) 4 (show (4 + 0 : Int) = _ by omega) (show (0 + (1 * (fMV (wN h) (wB h) 1 0) + 0) : Int) = _ by omega)) (pAll1 (pgP 98 418 (by decide) (by decide +kernel) (by decide +kernel) 7 (show (7 + 0 : Int) = _ by omega) (show (0 + (1 * (fMV (wN h) (wB h) 1 3) + 0) : Int) = _ by omega)) (pAll1 (pgP 98 418 (by decide) (by decide +kernel) (by decide +kernel) 8 (show (8 + 0 : Int) = _ by omega) (show (0 + (1 * (fMV (wN h) (wB h) 2 0) + 0) : Int) = _ by omega)) (pAll0)))))
        · have hw : ¬ fWh (wN h) (wB h) := fun z => k1 (z.2 1 (by omega)).2
          rw [yB_0 hw] at eW
          refine ⟨rWH5m_4, List.mem_of_getElem? (i := 4) rfl, pEnd [ρ 0, ρ 1, ρ 2, ρ 3, ρ 4, ρ 5, (fMV (wN h) (wB h) 0 0), (fMV (wN h) (wB h) 0 3), (fMV (wN h) (wB h) 1 0), (fMV (wN h) (wB h) 1 3)] rfl ?_ ?_ ?_ ?_⟩
          · intro j hj
            match j, hj with
            | 0, _ => exact q0.symm
            | 1, _ => exact q1.symm
            | 2, _ => exact q2.symm
            | 3, _ => exact q3.symm
            | 4, _ => exact q4.symm
            | 5, _ => exact q5.symm
            | k + 6, hj => exact absurd hj (by show ¬ (k + 6 < 6); omega)
          · intro k b hk
            match k, hk with
            | 0, hk => cases hk; exact (show (0 : Int) ≤ (fMV (wN h) (wB h) 0 0) ∧ (fMV (wN h) (wB h) 0 0) ≤ (99 : Int) by omega)
            | 1, hk => cases hk; exact (show (0 : Int) ≤ (fMV (wN h) (wB h) 0 3) ∧ (fMV (wN h) (wB h) 0 3) ≤ (99 : Int) by omega)
            | 2, hk => cases hk; exact (show (0 : Int) ≤ (fMV (wN h) (wB h) 1 0) ∧ (fMV (wN h) (wB h) 1 0) ≤ (99 : Int) by omega)
            | 3, hk => cases hk; exact (show (0 : Int) ≤ (fMV (wN h) (wB h) 1 3) ∧ (fMV (wN h) (wB h) 1 3) ≤ (99 : Int) by omega)
            | k + 4, hk => cases hk
          · exact pAll1 (show (0 + (1 * ρ 4 + 0) : Int) ≤ 0 by omega) (pAll1 (show (0 + ((-1) * ρ 4 + 0) : Int) ≤ 0 by omega) (pAll1 (show (0 + ((-1) * ρ 2 + (1 * (fMV (wN h) (wB h) 0 0) + 0)) : Int) ≤ 0 by omega) (pAll1 (show (1 + ((-1) * ρ 2 + (1 * (fMV (wN h) (wB h) 0 3) + 0)) : Int) ≤ 0 by omega) (pAll1 (show (0 + ((-1) * ρ 2 + (1 * (fMV (wN h) (wB h) 1 0) + 0)) : Int) ≤ 0 by omega) (pAll1 (show (0 + (1 * ρ 2 + ((-1) * (fMV (wN h) (wB h) 1 3) + 0)) : Int) ≤ 0 by omega) (pAll0))))))
          · exact pAll1 (pgP 98 418 (by decide) (by decide +kernel) (by decide +kernel) 0 (show (0 + 0 : Int) = _ by omega) (show (0 + (1 * (fMV (wN h) (wB h) 0 0) + 0) : Int) = _ by omega)) (pAll1 (pgP 98 418 (by decide) (by decide +kernel) (by decide +kernel) 3 (show (3 + 0 : Int) = _ by omega) (show (0 + (1 * (fMV (wN h) (wB h) 0 3) + 0) : Int) = _ by omega)) (pAll1 (pgP 98 418 (by decide) (by decide +kernel) (by decide +kernel) 4 (show (4 + 0 : Int) = _ by omega) (show (0 + (1 * (fMV (wN h) (wB h) 1 0) + 0) : Int) = _ by omega)) (pAll1 (pgP 98 418 (by decide) (by decide +kernel) (by decide +kernel) 7 (show (7 + 0 : Int) = _ by omega) (show (0 + (1 * (fMV (wN h) (wB h) 1 3) + 0) : Int) = _ by omega)) (pAll0))))
      · have hw : ¬ fWh (wN h) (wB h) := fun z => g1 (z.2 1 (by omega)).1
        rw [yB_0 hw] at eW
        refine ⟨rWH5m_3, List.mem_of_getElem? (i := 3) rfl, pEnd [ρ 0, ρ 1, ρ 2, ρ 3, ρ 4, ρ 5, (fMV (wN h) (wB h) 0 0), (fMV (wN h) (wB h) 0 3), (fMV (wN h) (wB h) 1 0)] rfl ?_ ?_ ?_ ?_⟩
        · intro j hj
          match j, hj with
          | 0, _ => exact q0.symm
          | 1, _ => exact q1.symm
          | 2, _ => exact q2.symm
          | 3, _ => exact q3.symm
          | 4, _ => exact q4.symm
          | 5, _ => exact q5.symm
          | k + 6, hj => exact absurd hj (by show ¬ (k + 6 < 6); omega)
        · intro k b hk
          match k, hk with
          | 0, hk => cases hk; exact (show (0 : Int) ≤ (fMV (wN h) (wB h) 0 0) ∧ (fMV (wN h) (wB h) 0 0) ≤ (99 : Int) by omega)
          | 1, hk => cases hk; exact (show (0 : Int) ≤ (fMV (wN h) (wB h) 0 3) ∧ (fMV (wN h) (wB h) 0 3) ≤ (99 : Int) by omega)
          | 2, hk => cases hk; exact (show (0 : Int) ≤ (fMV (wN h) (wB h) 1 0) ∧ (fMV (wN h) (wB h) 1 0) ≤ (99 : Int) by omega)
          | k + 3, hk => cases hk
        · exact pAll1 (show (0 + (1 * ρ 4 + 0) : Int) ≤ 0 by omega) (pAll1 (show (0 + ((-1) * ρ 4 + 0) : Int) ≤ 0 by omega) (pAll1 (show (0 + ((-1) * ρ 2 + (1 * (fMV (wN h) (wB h) 0 0) + 0)) : Int) ≤ 0 by omega) (pAll1 (show (1 + ((-1) * ρ 2 + (1 * (fMV (wN h) (wB h) 0 3) + 0)) : Int) ≤ 0 by omega) (pAll1 (show (1 + (1 * ρ 2 + ((-1) * (fMV (wN h) (wB h) 1 0) + 0)) : Int) ≤ 0 by omega) (pAll0)))))
        · exact pAll1 (pgP 98 418 (by decide) (by decide +kernel) (by decide +kernel) 0 (show (0 + 0 : Int) = _ by omega) (show (0 + (1 * (fMV (wN h) (wB h) 0 0) + 0) : Int) = _ by omega)) (pAll1 (pgP 98 418 (by decide) (by decide +kernel) (by decide +kernel) 3 (show (3 + 0 : Int) = _ by omega) (show (0 + (1 * (fMV (wN h) (wB h) 0 3) + 0) : Int) = _ by omega)) (pAll1 (pgP 98 418 (by decide) (by decide +kernel) (by decide +kernel) 4 (show (4 + 0 : Int) = _ by omega) (show (0 + (1 * (fMV (wN h) (wB h) 1 0) + 0) : Int) = _ by omega)) (pAll0)))
    · have hw : ¬ fWh (wN h) (wB h) := fun z => k0 (z.2 0 (by omega)).2
      rw [yB_0 hw] at eW
      refine ⟨rWH5m_2, List.mem_of_getElem? (i := 2) rfl, pEnd [ρ 0, ρ 1, ρ 2, ρ 3, ρ 4, ρ 5, (fMV (wN h) (wB h) 0 0), (fMV (wN h) (wB h) 0 3)] rfl ?_ ?_ ?_ ?_⟩
      · intro j hj
        match j, hj with
        | 0, _ => exact q0.symm
        | 1, _ => exact q1.symm
        | 2, _ => exact q2.symm
        | 3, _ => exact q3.symm
        | 4, _ => exact q4.symm
        | 5, _ => exact q5.symm
        | k + 6, hj => exact absurd hj (by show ¬ (k + 6 < 6); omega)
      · intro k b hk
        match k, hk with
        | 0, hk => cases hk; exact (show (0 : Int) ≤ (fMV (wN h) (wB h) 0 0) ∧ (fMV (wN h) (wB h) 0 0) ≤ (99 : Int) by omega)
        | 1, hk => cases hk; exact (show (0 : Int) ≤ (fMV (wN h) (wB h) 0 3) ∧ (fMV (wN h) (wB h) 0 3) ≤ (99 : Int) by omega)
        | k + 2, hk => cases hk
      · exact pAll1 (show (0 + (1 * ρ 4 + 0) : Int) ≤ 0 by omega) (pAll1 (show (0 + ((-1) * ρ 4 + 0) : Int) ≤ 0 by omega) (pAll1 (show (0 + ((-1) * ρ 2 + (1 * (fMV (wN h) (wB h) 0 0) + 0)) : Int) ≤ 0 by omega) (pAll1 (show (0 + (1 * ρ 2 + ((-1) * (fMV (wN h) (wB h) 0 3) + 0)) : Int) ≤ 0 by omega) (pAll0))))
      · exact pAll1 (pgP 98 418 (by decide) (by decide +kernel) (by decide +kernel) 0 (show (0 + 0 : Int) = _ by omega) (show (0 + (1 * (fMV (wN h) (wB h) 0 0) + 0) : Int) = _ by omega)) (pAll1 (pgP 98 418 (by decide) (by decide +kernel) (by decide +kernel) 3 (show (3 + 0 : Int) = _ by omega) (show (0 + (1 * (fMV (wN h) (wB h) 0 3) + 0) : Int) = _ by omega)) (pAll0))
  · have hw : ¬ fWh (wN h) (wB h) := fun z => g0 (z.2 0 (by omega)).1
    rw [yB_0 hw] at eW
    refine ⟨rWH5m_1, List.mem_of_getElem? (i := 1) rfl, pEnd [ρ 0, ρ 1, ρ 2, ρ 3, ρ 4, ρ 5, (fMV (wN h) (wB h) 0 0)] rfl ?_ ?_ ?_ ?_⟩
    · intro j hj
      match j, hj with
      | 0, _ => exact q0.symm
      | 1, _ => exact q1.symm
      | 2, _ => exact q2.symm
      | 3, _ => exact q3.symm
      | 4, _ => exact q4.symm
      | 5, _ => exact q5.symm
      | k + 6, hj => exact absurd hj (by show ¬ (k + 6 < 6); omega)
    · intro k b hk
      match k, hk with
      | 0, hk => cases hk; exact (show (0 : Int) ≤ (fMV (wN h) (wB h) 0 0) ∧ (fMV (wN h) (wB h) 0 0) ≤ (99 : Int) by omega)
      | k + 1, hk => cases hk
    · exact pAll1 (show (0 + (1 * ρ 4 + 0) : Int) ≤ 0 by omega) (pAll1 (show (0 + ((-1) * ρ 4 + 0) : Int) ≤ 0 by omega) (pAll1 (show (1 + (1 * ρ 2 + ((-1) * (fMV (wN h) (wB h) 0 0) + 0)) : Int) ≤ 0 by omega) (pAll0)))
    · exact pAll1 (pgP 98 418 (by decide) (by decide +kernel) (by decide +kernel) 0 (show (0 + 0 : Int) = _ by omega) (show (0 + (1 * (fMV (wN h) (wB h) 0 0) + 0) : Int) = _ by omega)) (pAll0)
noncomputable def rWH6m_0 : sX := (none, [(98, (0, []), (0, [(6, 1)])), (98, (3, []), (0, [(7, 1)])), (98, (4, []), (0, [(8, 1)])), (98, (7, []), (0, [(9, 1)])), (98, (8, []), (0, [(10, 1)])), (98, (11, []), (0, [(11, 1)])), (98, (12, []), (0, [(12, 1)])), (98, (15, []), (0, [(13, 1)])), (98, (16, []), (0, [(14, 1)])), (98, (19, []), (0, [(15, 1)])), (98, (20, []), (0, [(16, 1)])), (98, (23, []), (0, [(17, 1)]))], [(0, 99), (0, 99), (0, 99), (0, 99), (0, 99), (0, 99), (0, 99), (0, 99), (0, 99), (0, 99), (0, 99), (0, 99)], [((-1), [(4, 1)]), (1, [(4, (-1))]), (0, [(2, (-1)), (6, 1)]), (1, [(2, (-1)), (7, 1)]), (0, [(2, (-1)), (8, 1)]), (1, [(2, (-1)), (9, 1)]), (0, [(2, (-1)), (10, 1)]), (1, [(2, (-1)), (11, 1)]), (0, [(2, (-1)), (12, 1)]), (1, [(2, (-1)), (13, 1)]), (0, [(2, (-1)), (14, 1)]), (1, [(2, (-1)), (15, 1)]), (0, [(2, (-1)), (16, 1)]), (1, [(2, (-1)), (17, 1)])], [])
noncomputable def rWH6m_1 : sX := (none, [(98, (0, []), (0, [(6, 1)]))], [(0, 99)], [(0, [(4, 1)]), (0, [(4, (-1))]), (1, [(2, 1), (6, (-1))])], [])
noncomputable def rWH6m_2 : sX := (none, [(98, (0, []), (0, [(6, 1)])), (98, (3, []), (0, [(7, 1)]))], [(0, 99), (0, 99)], [(0, [(4, 1)]), (0, [(4, (-1))]), (0, [(2, (-1)), (6, 1)]), (0, [(2, 1), (7, (-1))])], [])
noncomputable def rWH6m_3 : sX := (none, [(98, (0, []), (0, [(6, 1)])), (98, (3, []), (0, [(7, 1)])), (98, (4, []), (0, [(8, 1)]))], [(0, 99), (0, 99), (0, 99)], [(0, [(4, 1)]), (0, [(4, (-1))]), (0, [(2, (-1)), (6, 1)]), (1, [(2, (-1)), (7, 1)]), (1, [(2, 1), (8, (-1))])], [])
noncomputable def rWH6m_4 : sX := (none, [(98, (0, []), (0, [(6, 1)])), (98, (3, []), (0, [(7, 1)])), (98, (4, []), (0, [(8, 1)])), (98, (7, []), (0, [(9, 1)]))], [(0, 99), (0, 99), (0, 99), (0, 99)], [(0, [(4, 1)]), (0, [(4, (-1))]), (0, [(2, (-1)), (6, 1)]), (1, [(2, (-1)), (7, 1)]), (0, [(2, (-1)), (8, 1)]), (0, [(2, 1), (9, (-1))])], [])
noncomputable def rWH6m_5 : sX := (none, [(98, (0, []), (0, [(6, 1)])), (98, (3, []), (0, [(7, 1)])), (98, (4, []), (0, [(8, 1)])), (98, (7, []), (0, [(9, 1)])), (98, (8, []), (0, [(10, 1)]))], [(0, 99), (0, 99), (0, 99), (0, 99), (0, 99)], [(0, [(4, 1)]), (0, [(4, (-1))]), (0, [(2, (-1)), (6, 1)]), (1, [(2, (-1)), (7, 1)]), (0, [(2, (-1)), (8, 1)]), (1, [(2, (-1)), (9, 1)]), (1, [(2, 1), (10, (-1))])], [])
noncomputable def rWH6m_6 : sX := (none, [(98, (0, []), (0, [(6, 1)])), (98, (3, []), (0, [(7, 1)])), (98, (4, []), (0, [(8, 1)])), (98, (7, []), (0, [(9, 1)])), (98, (8, []), (0, [(10, 1)])), (98, (11, []), (0, [(11, 1)]))], [(0, 99), (0, 99), (0, 99), (0, 99), (0, 99), (0, 99)], [(0, [(4, 1)]), (0, [(4, (-1))]), (0, [(2, (-1)), (6, 1)]), (1, [(2, (-1)), (7, 1)]), (0, [(2, (-1)), (8, 1)]), (1, [(2, (-1)), (9, 1)]), (0, [(2, (-1)), (10, 1)]), (0, [(2, 1), (11, (-1))])], [])
noncomputable def rWH6m_7 : sX := (none, [(98, (0, []), (0, [(6, 1)])), (98, (3, []), (0, [(7, 1)])), (98, (4, []), (0, [(8, 1)])), (98, (7, []), (0, [(9, 1)])), (98, (8, []), (0, [(10, 1)])), (98, (11, []), (0, [(11, 1)])), (98, (12, []), (0, [(12, 1)]))], [(0, 99), (0, 99), (0, 99), (0, 99), (0, 99), (0, 99), (0, 99)], [(0, [(4, 1)]), (0, [(4, (-1))]), (0, [(2, (-1)), (6, 1)]), (1, [(2, (-1)), (7, 1)]), (0, [(2, (-1)), (8, 1)]), (1, [(2, (-1)), (9, 1)]), (0, [(2, (-1)), (10, 1)]), (1, [(2, (-1)), (11, 1)]), (1, [(2, 1), (12, (-1))])], [])
noncomputable def rWH6m_8 : sX := (none, [(98, (0, []), (0, [(6, 1)])), (98, (3, []), (0, [(7, 1)])), (98, (4, []), (0, [(8, 1)])), (98, (7, []), (0, [(9, 1)])), (98, (8, []), (0, [(10, 1)])), (98, (11, []), (0, [(11, 1)])), (98, (12, []), (0, [(12, 1)])), (98, (15, []), (0, [(13, 1)]))], [(0, 99), (0, 99), (0, 99), (0, 99), (0, 99), (0, 99), (0, 99), (0, 99)], [(0, [(4, 1)]), (0, [(4, (-1))]), (0, [(2, (-1)), (6, 1)]), (1, [(2, (-1)), (7, 1)]), (0, [(2, (-1)), (8, 1)]), (1, [(2, (-1)), (9, 1)]), (0, [(2, (-1)), (10, 1)]), (1, [(2, (-1)), (11, 1)]), (0, [(2, (-1)), (12, 1)]), (0, [(2, 1), (13, (-1))])], [])
noncomputable def rWH6m_9 : sX := (none, [(98, (0, []), (0, [(6, 1)])), (98, (3, []), (0, [(7, 1)])), (98, (4, []), (0, [(8, 1)])), (98, (7, []), (0, [(9, 1)])), (98, (8, []), (0, [(10, 1)])), (98, (11, []), (0, [(11, 1)])), (98, (12, []), (0, [(12, 1)])), (98, (15, []), (0, [(13, 1)])), (98, (16, []), (0, [(14, 1)]))], [(0, 99), (0, 99), (0, 99), (0, 99), (0, 99), (0, 99), (0, 99), (0, 99), (0, 99)], [(0, [(4, 1)]), (0, [(4, (-1))]), (0, [(2, (-1)), (6, 1)]), (1, [(2, (-1)), (7, 1)]), (0, [(2, (-1)), (8, 1)]), (1, [(2, (-1)), (9, 1)]), (0, [(2, (-1)), (10, 1)]), (1, [(2, (-1)), (11, 1)]), (0, [(2, (-1)), (12, 1)]), (1, [(2, (-1)), (13, 1)]), (1, [(2, 1), (14, (-1))])], [])
noncomputable def rWH6m_10 : sX := (none, [(98, (0, []), (0, [(6, 1)])), (98, (3, []), (0, [(7, 1)])), (98, (4, []), (0, [(8, 1)])), (98, (7, []), (0, [(9, 1)])), (98, (8, []), (0, [(10, 1)])), (98, (11, []), (0, [(11, 1)])), (98, (12, []), (0, [(12, 1)])), (98, (15, []), (0, [(13, 1)])), (98, (16, []), (0, [(14, 1)])), (98, (19, []), (0, [(15, 1)]))], [(0, 99), (0, 99), (0, 99), (0, 99), (0, 99), (0, 99), (0, 99), (0, 99), (0, 99), (0, 99)], [(0, [(4, 1)]), (0, [(4, (-1))]), (0, [(2, (-1)), (6, 1)]), (1, [(2, (-1)), (7, 1)]), (0, [(2, (-1)), (8, 1)]), (1, [(2, (-1)), (9, 1)]), (0, [(2, (-1)), (10, 1)]), (1, [(2, (-1)), (11, 1)]), (0, [(2, (-1)), (12, 1)]), (1, [(2, (-1)), (13, 1)]), (0, [(2, (-1)), (14, 1)]), (0, [(2, 1), (15, (-1))])], [])
noncomputable def rWH6m_11 : sX := (none, [(98, (0, []), (0, [(6, 1)])), (98, (3, []), (0, [(7, 1)])), (98, (4, []), (0, [(8, 1)])), (98, (7, []), (0, [(9, 1)])), (98, (8, []), (0, [(10, 1)])), (98, (11, []), (0, [(11, 1)])), (98, (12, []), (0, [(12, 1)])), (98, (15, []), (0, [(13, 1)])), (98, (16, []), (0, [(14, 1)])), (98, (19, []), (0, [(15, 1)])), (98, (20, []), (0, [(16, 1)]))], [(0, 99), (0, 99), (0, 99), (0, 99), (0, 99), (0, 99), (0, 99), (0, 99), (0, 99), (0, 99), (0, 99)], [(0, [(4, 1)]), (0, [(4, (-1))]), (0, [(2, (-1)), (6, 1)]), (1, [(2, (-1)), (7, 1)]), (0, [(2, (-1)), (8, 1)]), (1, [(2, (-1)), (9, 1)]), (0, [(2, (-1)), (10, 1)]), (1, [(2, (-1)), (11, 1)]), (0, [(2, (-1)), (12, 1)]), (1, [(2, (-1)), (13, 1)]), (0, [(2, (-1)), (14, 1)]), (1, [(2, (-1)), (15, 1)]), (1, [(2, 1), (16, (-1))])], [])
noncomputable def rWH6m_12 : sX := (none, [(98, (0, []), (0, [(6, 1)])), (98, (3, []), (0, [(7, 1)])), (98, (4, []), (0, [(8, 1)])), (98, (7, []), (0, [(9, 1)])), (98, (8, []), (0, [(10, 1)])), (98, (11, []), (0, [(11, 1)])), (98, (12, []), (0, [(12, 1)])), (98, (15, []), (0, [(13, 1)])), (98, (16, []), (0, [(14, 1)])), (98, (19, []), (0, [(15, 1)])), (98, (20, []), (0, [(16, 1)])), (98, (23, []), (0, [(17, 1)]))], [(0, 99), (0, 99), (0, 99), (0, 99), (0, 99), (0, 99), (0, 99), (0, 99), (0, 99), (0, 99), (0, 99), (0, 99)], [(0, [(4, 1)]), (0, [(4, (-1))]), (0, [(2, (-1)), (6, 1)]), (1, [(2, (-1)), (7, 1)]), (0, [(2, (-1)), (8, 1)]), (1, [(2, (-1)), (9, 1)]), (0, [(2, (-1)), (10, 1)]), (1, [(2, (-1)), (11, 1)]), (0, [(2, (-1)), (12, 1)]), (1, [(2, (-1)), (13, 1)]), (0, [(2, (-1)), (14, 1)]), (1, [(2, (-1)), (15, 1)]), (0, [(2, (-1)), (16, 1)]), (0, [(2, 1), (17, (-1))])], [])
noncomputable def rWH6m : sQ := (0, ([], [(2, 1020, (0, [])), (2, 1012, (0, [])), (2, 97, (0, [])), (2, 539, (0, [])), (2, 541, (0, [])), (2, 540, (0, []))], [(1, 1), (1, 1), (0, 99), (0, 99), (0, 1), (6, 6)], [(0, [(2, 1), (3, (-1))]), (0, [(2, (-1)), (3, 1)])], [(0, 0), (1, 1), (2, 2), (3, 3), (4, 4), (5, 5)], (0, [])), [rWH6m_0, rWH6m_1, rWH6m_2, rWH6m_3, rWH6m_4, rWH6m_5, rWH6m_6, rWH6m_7, rWH6m_8, rWH6m_9, rWH6m_10, rWH6m_11, rWH6m_12], [], 0)
set_option maxHeartbeats 4000000 in
theorem rWH6m_ok : pRul pReg pG pgv (rWH6m) := by
  intro loc h ρ ρ0 hG hM
  have hM : sMt pReg pgv ρ ρ0 (sAs (rWH6m).2.1) loc [] h := hM
  have q0 : ρ0 1 = ρ 0 := (hM.2.2.2.2.2 (1, sY 0) (List.mem_of_getElem? (i := 1) rfl)).trans (sY_v ρ 0)
  have q1 : ρ0 2 = ρ 1 := (hM.2.2.2.2.2 (2, sY 1) (List.mem_of_getElem? (i := 2) rfl)).trans (sY_v ρ 1)
  have q2 : ρ0 3 = ρ 2 := (hM.2.2.2.2.2 (3, sY 2) (List.mem_of_getElem? (i := 3) rfl)).trans (sY_v ρ 2)
  have q3 : ρ0 4 = ρ 3 := (hM.2.2.2.2.2 (4, sY 3) (List.mem_of_getElem? (i := 4) rfl)).trans (sY_v ρ 3)
  have q4 : ρ0 5 = ρ 4 := (hM.2.2.2.2.2 (5, sY 4) (List.mem_of_getElem? (i := 5) rfl)).trans (sY_v ρ 4)
  have q5 : ρ0 6 = ρ 5 := (hM.2.2.2.2.2 (6, sY 5) (List.mem_of_getElem? (i := 6) rfl)).trans (sY_v ρ 5)
  have hL : ∀ j, j < 6 → pL [ρ 0, ρ 1, ρ 2, ρ 3, ρ 4, ρ 5] j = ρ0 (j + 1) := by
    intro j hj
    match j, hj with
    | 0, _ => exact q0.symm
    | 1, _ => exact q1.symm
    | 2, _ => exact q2.symm
    | 3, _ => exact q3.symm
    | 4, _ => exact q4.symm
    | 5, _ => exact q5.symm
    | k + 6, hj => omega
  have b0 : (1 : Int) ≤ ρ 0 ∧ ρ 0 ≤ 1 := hM.2.2.2.1 0 (1, 1) rfl
  have b1 : (1 : Int) ≤ ρ 1 ∧ ρ 1 ≤ 1 := hM.2.2.2.1 1 (1, 1) rfl
  have b2 : (0 : Int) ≤ ρ 2 ∧ ρ 2 ≤ 99 := hM.2.2.2.1 2 (0, 99) rfl
  have b3 : (0 : Int) ≤ ρ 3 ∧ ρ 3 ≤ 99 := hM.2.2.2.1 3 (0, 99) rfl
  have b4 : (0 : Int) ≤ ρ 4 ∧ ρ 4 ≤ 1 := hM.2.2.2.1 4 (0, 1) rfl
  have b5 : (6 : Int) ≤ ρ 5 ∧ ρ 5 ≤ 6 := hM.2.2.2.1 5 (6, 6) rfl
  have c0 : (0 + (1 * ρ 2 + ((-1) * ρ 3 + 0)) : Int) ≤ 0 := hM.2.2.2.2.1 (0, [(2, 1), (3, (-1))]) (List.mem_of_getElem? (i := 0) rfl)
  have c1 : (0 + ((-1) * ρ 2 + (1 * ρ 3 + 0)) : Int) ≤ 0 := hM.2.2.2.2.1 (0, [(2, (-1)), (3, 1)]) (List.mem_of_getElem? (i := 1) rfl)
  obtain ⟨ho, hh, hf⟩ := pTold20 hM 0 (0, []) rfl b0.1
  have hn := ho.1
  have ha : aM 6 h := pToldM hM 1 6 (by decide) (0, []) rfl b1.1
  have ey : ρ 3 = fRV (wN h) (wB h) 0 := (pfF hM hf 3 539 (0, []) rfl (by decide) (by decide) (0) (by omega) (by show (0 + 0 : Int) = _; omega)).trans (fA_RV (k := 0) (by decide))
  have eW : ρ 4 = yB (fWh (wN h) (wB h)) := (pfF hM hf 4 541 (0, []) rfl (by decide) (by decide) (0) (by omega) (by show (0 + 0 : Int) = _; omega)).trans (fA_WH)
  have efm : ρ 5 = ((fW (wN h) (wB h) 0 0 0).2.1 : Int) := (pfF hM hf 5 540 (0, []) rfl (by decide) (by decide) (0) (by omega) (by show (0 + 0 : Int) = _; omega)).trans (fA_FM)
  have em : (fW (wN h) (wB h) 0 0 0).2.1 = 6 := by omega
  have r00 : (h.1 418 0).toInt = (fMV (wN h) (wB h) 0 0) := (ha 0 0 (by decide) (by decide)).trans ((hf 538 (by decide) (by decide) 0 (by decide)).trans (fA_MV (i := 0) (k := 0) (by decide) (by decide)))
  have m00 := fMV_bd (n := wN h) (B := wB h) 0 0
  have r03 : (h.1 418 3).toInt = (fMV (wN h) (wB h) 0 3) := (ha 0 3 (by decide) (by decide)).trans ((hf 538 (by decide) (by decide) 3 (by decide)).trans (fA_MV (i := 0) (k := 3) (by decide) (by decide)))
  have m03 := fMV_bd (n := wN h) (B := wB h) 0 3
  have r10 : (h.1 418 4).toInt = (fMV (wN h) (wB h) 1 0) := (ha 1 0 (by decide) (by decide)).trans ((hf 538 (by decide) (by decide) 4 (by decide)).trans (fA_MV (i := 1) (k := 0) (by decide) (by decide)))
  have m10 := fMV_bd (n := wN h) (B := wB h) 1 0
  have r13 : (h.1 418 7).toInt = (fMV (wN h) (wB h) 1 3) := (ha 1 3 (by decide) (by decide)).trans ((hf 538 (by decide) (by decide) 7 (by decide)).trans (fA_MV (i := 1) (k := 3) (by decide) (by decide)))
  have m13 := fMV_bd (n := wN h) (B := wB h) 1 3
  have r20 : (h.1 418 8).toInt = (fMV (wN h) (wB h) 2 0) := (ha 2 0 (by decide) (by decide)).trans ((hf 538 (by decide) (by decide) 8 (by decide)).trans (fA_MV (i := 2) (k := 0) (by decide) (by decide)))
  have m20 := fMV_bd (n := wN h) (B := wB h) 2 0
  have r23 : (h.1 418 11).toInt = (fMV (wN h) (wB h) 2 3) := (ha 2 3 (by decide) (by decide)).trans ((hf 538 (by decide) (by decide) 11 (by decide)).trans (fA_MV (i := 2) (k := 3) (by decide) (by decide)))
  have m23 := fMV_bd (n := wN h) (B := wB h) 2 3
  have r30 : (h.1 418 12).toInt = (fMV (wN h) (wB h) 3 0) := (ha 3 0 (by decide) (by decide)).trans ((hf 538 (by decide) (by decide) 12 (by decide)).trans (fA_MV (i := 3) (k := 0) (by decide) (by decide)))
  have m30 := fMV_bd (n := wN h) (B := wB h) 3 0
  have r33 : (h.1 418 15).toInt = (fMV (wN h) (wB h) 3 3) := (ha 3 3 (by decide) (by decide)).trans ((hf 538 (by decide) (by decide) 15 (by decide)).trans (fA_MV (i := 3) (k := 3) (by decide) (by decide)))
  have m33 := fMV_bd (n := wN h) (B := wB h) 3 3
  have r40 : (h.1 418 16).toInt = (fMV (wN h) (wB h) 4 0) := (ha 4 0 (by decide) (by decide)).trans ((hf 538 (by decide) (by decide) 16 (by decide)).trans (fA_MV (i := 4) (k := 0) (by decide) (by decide)))
  have m40 := fMV_bd (n := wN h) (B := wB h) 4 0
  have r43 : (h.1 418 19).toInt = (fMV (wN h) (wB h) 4 3) := (ha 4 3 (by decide) (by decide)).trans ((hf 538 (by decide) (by decide) 19 (by decide)).trans (fA_MV (i := 4) (k := 3) (by decide) (by decide)))
  have m43 := fMV_bd (n := wN h) (B := wB h) 4 3
  have r50 : (h.1 418 20).toInt = (fMV (wN h) (wB h) 5 0) := (ha 5 0 (by decide) (by decide)).trans ((hf 538 (by decide) (by decide) 20 (by decide)).trans (fA_MV (i := 5) (k := 0) (by decide) (by decide)))
  have m50 := fMV_bd (n := wN h) (B := wB h) 5 0
  have r53 : (h.1 418 23).toInt = (fMV (wN h) (wB h) 5 3) := (ha 5 3 (by decide) (by decide)).trans ((hf 538 (by decide) (by decide) 23 (by decide)).trans (fA_MV (i := 5) (k := 3) (by decide) (by decide)))
  have m53 := fMV_bd (n := wN h) (B := wB h) 5 3
  by_cases g0 : (fMV (wN h) (wB h) 0 0) ≤ fRV (wN h) (wB h) 0
  · by_cases k0 : (fMV (wN h) (wB h) 0 3) < fRV (wN h) (wB h) 0
    · by_cases g1 : (fMV (wN h) (wB h) 1 0) ≤ fRV (wN h) (wB h) 0
      · by_cases k1 : (fMV (wN h) (wB h) 1 3) < fRV (wN h) (wB h) 0
        · by_cases g2 : (fMV (wN h) (wB h) 2 0) ≤ fRV (wN h) (wB h) 0
          · by_cases k2 : (fMV (wN h) (wB h) 2 3) < fRV (wN h) (wB h) 0
            · by_cases g3 : (fMV (wN h) (wB h) 3 0) ≤ fRV (wN h) (wB h) 0
              · by_cases k3 : (fMV (wN h) (wB h) 3 3) < fRV (wN h) (wB h) 0
                · by_cases g4 : (fMV (wN h) (wB h) 4 0) ≤ fRV (wN h) (wB h) 0
                  · by_cases k4 : (fMV (wN h) (wB h) 4 3) < fRV (wN h) (wB h) 0
                    · by_cases g5 : (fMV (wN h) (wB h) 5 0) ≤ fRV (wN h) (wB h) 0
                      · by_cases k5 : (fMV (wN h) (wB h) 5 3) < fRV (wN h) (wB h) 0
                        · have hw : fWh (wN h) (wB h) := by
                            refine ⟨by omega, fun i hi => ?_⟩
                            rw [em] at hi
                            rcases (show i = 0 ∨ i = 1 ∨ i = 2 ∨ i = 3 ∨ i = 4 ∨ i = 5 by omega) with rfl | rfl | rfl | rfl | rfl | rfl
                            · exact ⟨g0, k0⟩
                            · exact ⟨g1, k1⟩
                            · exact ⟨g2, k2⟩
                            · exact ⟨g3, k3⟩
                            · exact ⟨g4, k4⟩
                            · exact ⟨g5, k5⟩
                          rw [yB_1.mpr hw] at eW
                          refine ⟨rWH6m_0, List.mem_of_getElem? (i := 0) rfl, pEnd [ρ 0, ρ 1, ρ 2, ρ 3, ρ 4, ρ 5, (fMV (wN h) (wB h) 0 0), (fMV (wN h) (wB h) 0 3), (fMV (wN h) (wB h) 1 0), (fMV (wN h) (wB h) 1 3), (fMV (wN h) (wB h) 2 0), (fMV (wN h) (wB h) 2 3), (fMV (wN h) (wB h) 3 0), (fMV (wN h) (wB h) 3 3), (fMV (wN h) (wB h) 4 0), (fMV (wN h) (wB h) 4 3), (fMV (wN h) (wB h) 5 0), (fMV (wN h) (wB h) 5 3)] rfl ?_ ?_ ?_ ?_⟩
                          · intro j hj
                            match j, hj with
                            | 0, _ => exact q0.symm
                            | 1, _ => exact q1.symm
                            | 2, _ => exact q2.symm
                            | 3, _ => exact q3.symm
                            | 4, _ => exact q4.symm
                            | 5, _ => exact q5.symm
                            | k + 6, hj => exact absurd hj (by show ¬ (k + 6 < 6); omega)
                          · intro k b hk
                            match k, hk with
                            | 0, hk => cases hk; exact (show (0 : Int) ≤ (fMV (wN h) (wB h) 0 0) ∧ (fMV (wN h) (wB h) 0 0) ≤ (99 : Int) by omega)
                            | 1, hk => cases hk; exact (show (0 : Int) ≤ (fMV (wN h) (wB h) 0 3) ∧ (fMV (wN h) (wB h) 0 3) ≤ (99 : Int) by omega)
                            | 2, hk => cases hk; exact (show (0 : Int) ≤ (fMV (wN h) (wB h) 1 0) ∧ (fMV (wN h) (wB h) 1 0) ≤ (99 : Int) by omega)
                            | 3, hk => cases hk; exact (show (0 : Int) ≤ (fMV (wN h) (wB h) 1 3) ∧ (fMV (wN h) (wB h) 1 3) ≤ (99 : Int) by omega)
                            | 4, hk => cases hk; exact (show (0 : Int) ≤ (fMV (wN h) (wB h) 2 0) ∧ (fMV (wN h) (wB h) 2 0) ≤ (99 : Int) by omega)
                            | 5, hk => cases hk; exact (show (0 : Int) ≤ (fMV (wN h) (wB h) 2 3) ∧ (fMV (wN h) (wB h) 2 3) ≤ (99 : Int) by omega)
                            | 6, hk => cases hk; exact (show (0 : Int) ≤ (fMV (wN h) (wB h) 3 0) ∧ (fMV (wN h) (wB h) 3 0) ≤ (99 : Int) by omega)
                            | 7, hk => cases hk; exact (show (0 : Int) ≤ (fMV (wN h) (wB h) 3 3) ∧ (fMV (wN h) (wB h) 3 3) ≤ (99 : Int) by omega)
                            | 8, hk => cases hk; exact (show (0 : Int) ≤ (fMV (wN h) (wB h) 4 0) ∧ (fMV (wN h) (wB h) 4 0) ≤ (99 : Int) by omega)
                            | 9, hk => cases hk; exact (show (0 : Int) ≤ (fMV (wN h) (wB h) 4 3) ∧ (fMV (wN h) (wB h) 4 3) ≤ (99 : Int) by omega)
                            | 10, hk => cases hk; exact (show (0 : Int) ≤ (fMV (wN h) (wB h) 5 0) ∧ (fMV (wN h) (wB h) 5 0) ≤ (99 : Int) by omega)
                            | 11, hk => cases hk; exact (show (0 : Int) ≤ (fMV (wN h) (wB h) 5 3) ∧ (fMV (wN h) (wB h) 5 3) ≤ (99 : Int) by omega)
                            | k + 12, hk => cases hk
                          · exact pAll1 (show ((-1) + (1 * ρ 4 + 0) : Int) ≤ 0 by omega) (pAll1 (show (1 + ((-1) * ρ 4 + 0) : Int) ≤ 0 by omega) (pAll1 (show (0 + ((-1) * ρ 2 + (1 * (fMV (wN h) (wB h) 0 0) + 0)) : Int) ≤ 0 by omega) (pAll1 (show (1 + ((-1) * ρ 2 + (1 * (fMV (wN h) (wB h) 0 3) + 0)) : Int) ≤ 0 by omega) (pAll1 (show (0 + ((-1) * ρ 2 + (1 * (fMV (wN h) (wB h) 1 0) + 0)) : Int) ≤ 0 by omega) (pAll1 (show (1 + ((-1) * ρ 2 + (1 * (fMV (wN h) (wB h) 1 3) + 0)) : Int) ≤ 0 by omega) (pAll1 (show (0 + ((-1) * ρ 2 + (1 * (fMV (wN h) (wB h) 2 0) + 0)) : Int) ≤ 0 by omega) (pAll1 (show (1 + ((-1) * ρ 2 + (1 * (fMV (wN h) (wB h) 2 3) + 0)) : Int) ≤ 0 by omega) (pAll1 (show (0 + ((-1) * ρ 2 + (1 * (fMV (wN h) (wB h) 3 0) + 0)) : Int) ≤ 0 by omega) (pAll1 (show (1 + ((-1) * ρ 2 + (1 * (fMV (wN h) (wB h) 3 3) + 0)) : Int) ≤ 0 by omega) (pAll1 (show (0 + ((-1) * ρ 2 + (1 * (fMV (wN h) (wB h) 4 0) + 0)) : Int) ≤ 0 by omega) (pAll1 (show (1 + ((-1) * ρ 2 + (1 * (fMV (wN h) (wB h) 4 3) + 0)) : Int) ≤ 0 by omega) (pAll1 (show (0 + ((-1) * ρ 2 + (1 * (fMV (wN h) (wB h) 5 0) + 0)) : Int) ≤ 0 by omega) (pAll1 (show (1 + ((-1) * ρ 2 + (1 * (fMV (wN h) (wB h) 5 3) + 0)) : Int) ≤ 0 by omega) (pAll0))))))))))))))
                          · exact pAll1 (pgP 98 418 (by decide) (by decide +kernel) (by decide +kernel) 0 (show (0 + 0 : Int) = _ by omega) (show (0 + (1 * (fMV (wN h) (wB h) 0 0) + 0) : Int) = _ by omega)) (pAll1 (pgP 98 418 (by decide) (by decide +kernel) (by decide +kernel) 3 (show (3 + 0 : Int) = _ by omega) (show (0 + (1 * (fMV (wN h) (wB h) 0 3) + 0) : Int) = _ by omega)) (pAll1 (pgP 98 418 (by decide) (by decide +kernel) (by decide +kernel) 4 (show (4 + 0 : Int) = _ by omega) (show (0 + (1 * (fMV (wN h) (wB h) 1 0) + 0) : Int) = _ by omega)) (pAll1 (pgP 98 418 (by decide) (by decide +kernel) (by decide +kernel) 7 (show (7 + 0 : Int) = _ by omega) (show (0 + (1 * (fMV (wN h) (wB h) 1 3) + 0) : Int) = _ by omega)) (pAll1 (pgP 98 418 (by decide) (by decide +kernel) (by decide +kernel) 8 (show (8 + 0 : Int) = _ by omega) (show (0 + (1 * (fMV (wN h) (wB h) 2 0) + 0) : Int) = _ by omega)) (pAll1 (pgP 98 418 (by decide) (by decide +kernel) (by decide +kernel) 11 (show (11 + 0 : Int) = _ by omega) (show (0 + (1 * (fMV (wN h) (wB h) 2 3) + 0) : Int) = _ by omega)) (pAll1 (pgP 98 418 (by decide) (by decide +kernel) (by decide +kernel) 12 (show (12 + 0 : Int) = _ by omega) (show (0 + (1 * (fMV (wN h) (wB h) 3 0) + 0) : Int) = _ by omega)) (pAll1 (pgP 98 418 (by decide) (by decide +kernel) (by decide +kernel) 15 (show (15 + 0 : Int) = _ by omega) (show (0 + (1 * (fMV (wN h) (wB h) 3 3) + 0) : Int) = _ by omega)) (pAll1 (pgP 98 418 (by decide) (by decide +kernel) (by decide +kernel) 16 (show (16 + 0 : Int) = _ by omega) (show (0 + (1 * (fMV (wN h) (wB h) 4 0) + 0) : Int) = _ by omega)) (pAll1 (pgP 98 418 (by decide) (by decide +kernel) (by decide +kernel) 19 (show (19 + 0 : Int) = _ by omega) (show (0 + (1 * (fMV (wN h) (wB h) 4 3) + 0) : Int) = _ by omega)) (pAll1 (pgP 98 418 (by decide) (by decide +kernel) (by decide +kernel) 20 (show (20 + 0 : Int) = _ by omega) (show (0 + (1 * (fMV (wN h) (wB h) 5 0) + 0) : Int) = _ by omega)) (pAll1 (pgP 98 418 (by decide) (by decide +kernel) (by decide +kernel) 23 (show (23 + 0 : Int) = _ by omega) (show (0 + (1 * (fMV (wN h) (wB h) 5 3) + 0) : Int) = _ by omega)) (pAll0))))))))))))
                        · have hw : ¬ fWh (wN h) (wB h) := fun z => k5 (z.2 5 (by omega)).2
                          rw [yB_0 hw] at eW
                          refine ⟨rWH6m_12, List.mem_of_getElem? (i := 12) rfl, pEnd [ρ 0, ρ 1, ρ 2, ρ 3, ρ 4, ρ 5, (fMV (wN h) (wB h) 0 0), (fMV (wN h) (wB h) 0 3), (fMV (wN h) (wB h) 1 0), (fMV (wN h) (wB h) 1 3), (fMV (wN h) (wB h) 2 0), (fMV (wN h) (wB h) 2 3), (fMV (wN h) (wB h) 3 0), (fMV (wN h) (wB h) 3 3), (fMV (wN h) (wB h) 4 0), (fMV (wN h) (wB h) 4 3), (fMV (wN h) (wB h) 5 0), (fMV (wN h) (wB h) 5 3)] rfl ?_ ?_ ?_ ?_⟩
                          · intro j hj
                            match j, hj with
                            | 0, _ => exact q0.symm
                            | 1, _ => exact q1.symm
                            | 2, _ => exact q2.symm
                            | 3, _ => exact q3.symm
                            | 4, _ => exact q4.symm
                            | 5, _ => exact q5.symm
                            | k + 6, hj => exact absurd hj (by show ¬ (k + 6 < 6); omega)
                          · intro k b hk
                            match k, hk with
                            | 0, hk => cases hk; exact (show (0 : Int) ≤ (fMV (wN h) (wB h) 0 0) ∧ (fMV (wN h) (wB h) 0 0) ≤ (99 : Int) by omega)
                            | 1, hk => cases hk; exact (show (0 : Int) ≤ (fMV (wN h) (wB h) 0 3) ∧ (fMV (wN h) (wB h) 0 3) ≤ (99 : Int) by omega)
                            | 2, hk => cases hk; exact (show (0 : Int) ≤ (fMV (wN h) (wB h) 1 0) ∧ (fMV (wN h) (wB h) 1 0) ≤ (99 : Int) by omega)
                            | 3, hk => cases hk; exact (show (0 : Int) ≤ (fMV (wN h) (wB h) 1 3) ∧ (fMV (wN h) (wB h) 1 3) ≤ (99 : Int) by omega)
                            | 4, hk => cases hk; exact (show (0 : Int) ≤ (fMV (wN h) (wB h) 2 0) ∧ (fMV (wN h) (wB h) 2 0) ≤ (99 : Int) by omega)
                            | 5, hk => cases hk; exact (show (0 : Int) ≤ (fMV (wN h) (wB h) 2 3) ∧ (fMV (wN h) (wB h) 2 3) ≤ (99 : Int) by omega)
                            | 6, hk => cases hk; exact (show (0 : Int) ≤ (fMV (wN h) (wB h) 3 0) ∧ (fMV (wN h) (wB h) 3 0) ≤ (99 : Int) by omega)
                            | 7, hk => cases hk; exact (show (0 : Int) ≤ (fMV (wN h) (wB h) 3 3) ∧ (fMV (wN h) (wB h) 3 3) ≤ (99 : Int) by omega)
                            | 8, hk => cases hk; exact (show (0 : Int) ≤ (fMV (wN h) (wB h) 4 0) ∧ (fMV (wN h) (wB h) 4 0) ≤ (99 : Int) by omega)
                            | 9, hk => cases hk; exact (show (0 : Int) ≤ (fMV (wN h) (wB h) 4 3) ∧ (fMV (wN h) (wB h) 4 3) ≤ (99 : Int) by omega)
                            | 10, hk => cases hk; exact (show (0 : Int) ≤ (fMV (wN h) (wB h) 5 0) ∧ (fMV (wN h) (wB h) 5 0) ≤ (99 : Int) by omega)
                            | 11, hk => cases hk; exact (show (0 : Int) ≤ (fMV (wN h) (wB h) 5 3) ∧ (fMV (wN h) (wB h) 5 3) ≤ (99 : Int) by omega)
                            | k + 12, hk => cases hk
                          · exact pAll1 (show (0 + (1 * ρ 4 + 0) : Int) ≤ 0 by omega) (pAll1 (show (0 + ((-1) * ρ 4 + 0) : Int) ≤ 0 by omega) (pAll1 (show (0 + ((-1) * ρ 2 + (1 * (fMV (wN h) (wB h) 0 0) + 0)) : Int) ≤ 0 by omega) (pAll1 (show (1 + ((-1) * ρ 2 + (1 * (fMV (wN h) (wB h) 0 3) + 0)) : Int) ≤ 0 by omega) (pAll1 (show (0 + ((-1) * ρ 2 + (1 * (fMV (wN h) (wB h) 1 0) + 0)) : Int) ≤ 0 by omega) (pAll1 (show (1 + ((-1) * ρ 2 + (1 * (fMV (wN h) (wB h) 1 3) + 0)) : Int) ≤ 0 by omega) (pAll1 (show (0 + ((-1) * ρ 2 + (1 * (fMV (wN h) (wB h) 2 0) + 0)) : Int) ≤ 0 by omega) (pAll1 (show (1 + ((-1) * ρ 2 + (1 * (fMV (wN h) (wB h) 2 3) + 0)) : Int) ≤ 0 by omega) (pAll1 (show (0 + ((-1) * ρ 2 + (1 * (fMV (wN h) (wB h) 3 0) + 0)) : Int) ≤ 0 by omega) (pAll1 (show (1 + ((-1) * ρ 2 + (1 * (fMV (wN h) (wB h) 3 3) + 0)) : Int) ≤ 0 by omega) (pAll1 (show (0 + ((-1) * ρ 2 + (1 * (fMV (wN h) (wB h) 4 0) + 0)) : Int) ≤ 0 by omega) (pAll1 (show (1 + ((-1) * ρ 2 + (1 * (fMV (wN h) (wB h) 4 3) + 0)) : Int) ≤ 0 by omega) (pAll1 (show (0 + ((-1) * ρ 2 + (1 * (fMV (wN h) (wB h) 5 0) + 0)) : Int) ≤ 0 by omega) (pAll1 (show (0 + (1 * ρ 2 + ((-1) * (fMV (wN h) (wB h) 5 3) + 0)) : Int) ≤ 0 by omega) (pAll0))))))))))))))
                          · exact pAll1 (pgP 98 418 (by decide) (by decide +kernel) (by decide +kernel) 0 (show (0 + 0 : Int) = _ by omega) (show (0 + (1 * (fMV (wN h) (wB h) 0 0) + 0) : Int) = _ by omega)) (pAll1 (pgP 98 418 (by decide) (by decide +kernel) (by decide +kernel) 3 (show (3 + 0 : Int) = _ by omega) (show (0 + (1 * (fMV (wN h) (wB h) 0 3) + 0) : Int) = _ by omega)) (pAll1 (pgP 98 418 (by decide) (by decide +kernel) (by decide +kernel) 4 (show (4 + 0 : Int) = _ by omega) (show (0 + (1 * (fMV (wN h) (wB h) 1 0) + 0) : Int) = _ by omega)) (pAll1 (pgP 98 418 (by decide) (by decide +kernel) (by decide +kernel) 7 (show (7 + 0 : Int) = _ by omega) (show (0 + (1 * (fMV (wN h) (wB h) 1 3) + 0) : Int) = _ by omega)) (pAll1 (pgP 98 418 (by decide) (by decide +kernel) (by decide +kernel) 8 (show (8 + 0 : Int) = _ by omega) (show (0 + (1 * (fMV (wN h) (wB h) 2 0) + 0) : Int) = _ by omega)) (pAll1 (pgP 98 418 (by decide) (by decide +kernel) (by decide +kernel) 11 (show (11 + 0 : Int) = _ by omega) (show (0 + (1 * (fMV (wN h) (wB h) 2 3) + 0) : Int) = _ by omega)) (pAll1 (pgP 98 418 (by decide) (by decide +kernel) (by decide +kernel) 12 (show (12 + 0 : Int) = _ by omega) (show (0 + (1 * (fMV (wN h) (wB h) 3 0) + 0) : Int) = _ by omega)) (pAll1 (pgP 98 418 (by decide) (by decide +kernel) (by decide +kernel) 15 (show (15 + 0 : Int) = _ by omega) (show (0 + (1 * (fMV (wN h) (wB h) 3 3) + 0) : Int) = _ by omega)) (pAll1 (pgP 98 418 (by decide) (by decide +kernel) (by decide +kernel) 16 (show (16 + 0 : Int) = _ by omega) (show (0 + (1 * (fMV (wN h) (wB h) 4 0) + 0) : Int) = _ by omega)) (pAll1 (pgP 98 418 (by decide) (by decide +kernel) (by decide +kernel) 19 (show (19 + 0 : Int) = _ by omega) (show (0 + (1 * (fMV (wN h) (wB h) 4 3) + 0) : Int) = _ by omega)) (pAll1 (pgP 98 418 (by decide) (by decide +kernel) (by decide +kernel) 20 (show (20 + 0 : Int) = _ by omega) (show (0 + (1 * (fMV (wN h) (wB h) 5 0) + 0) : Int) = _ by omega)) (pAll1 (pgP 98 418 (by decide) (by decide +kernel) (by decide +kernel) 23 (show (23 + 0 : Int) = _ by omega) (show (0 + (1 * (fMV (wN h) (wB h) 5 3) + 0) : Int) = _ by omega)) (pAll0))))))))))))
                      · have hw : ¬ fWh (wN h) (wB h) := fun z => g5 (z.2 5 (by omega)).1
                        rw [yB_0 hw] at eW
                        refine ⟨rWH6m_11, List.mem_of_getElem? (i := 11) rfl, pEnd [ρ 0, ρ 1, ρ 2, ρ 3, ρ 4, ρ 5, (fMV (wN h) (wB h) 0 0), (fMV (wN h) (wB h) 0 3), (fMV (wN h) (wB h) 1 0), (fMV (wN h) (wB h) 1 3), (fMV (wN h) (wB h) 2 0), (fMV (wN h) (wB h) 2 3), (fMV (wN h) (wB h) 3 0), (fMV (wN h) (wB h) 3 3), (fMV (wN h) (wB h) 4 0), (fMV (wN h) (wB h) 4 3), (fMV (wN h) (wB h) 5 0)] rfl ?_ ?_ ?_ ?_⟩
                        · intro j hj
                          match j, hj with
                          | 0, _ => exact q0.symm
                          | 1, _ => exact q1.symm
                          | 2, _ => exact q2.symm
                          | 3, _ => exact q3.symm
                          | 4, _ => exact q4.symm
                          | 5, _ => exact q5.symm
                          | k + 6, hj => exact absurd hj (by show ¬ (k + 6 < 6); omega)
                        · intro k b hk
                          match k, hk with
                          | 0, hk => cases hk; exact (show (0 : Int) ≤ (fMV (wN h) (wB h) 0 0) ∧ (fMV (wN h) (wB h) 0 0) ≤ (99 : Int) by omega)
                          | 1, hk => cases hk; exact (show (0 : Int) ≤ (fMV (wN h) (wB h) 0 3) ∧ (fMV (wN h) (wB h) 0 3) ≤ (99 : Int) by omega)
                          | 2, hk => cases hk; exact (show (0 : Int) ≤ (fMV (wN h) (wB h) 1 0) ∧ (fMV (wN h) (wB h) 1 0) ≤ (99 : Int) by omega)
                          | 3, hk => cases hk; exact (show (0 : Int) ≤ (fMV (wN h) (wB h) 1 3) ∧ (fMV (wN h) (wB h) 1 3) ≤ (99 : Int) by omega)
                          | 4, hk => cases hk; exact (show (0 : Int) ≤ (fMV (wN h) (wB h) 2 0) ∧ (fMV (wN h) (wB h) 2 0) ≤ (99 : Int) by omega)
                          | 5, hk => cases hk; exact (show (0 : Int) ≤ (fMV (wN h) (wB h) 2 3) ∧ (fMV (wN h) (wB h) 2 3) ≤ (99 : Int) by omega)
                          | 6, hk => cases hk; exact (show (0 : Int) ≤ (fMV (wN h) (wB h) 3 0) ∧ (fMV (wN h) (wB h) 3 0) ≤ (99 : Int) by omega)
                          | 7, hk => cases hk; exact (show (0 : Int) ≤ (fMV (wN h) (wB h) 3 3) ∧ (fMV (wN h) (wB h) 3 3) ≤ (99 : Int) by omega)
                          | 8, hk => cases hk; exact (show (0 : Int) ≤ (fMV (wN h) (wB h) 4 0) ∧ (fMV (wN h) (wB h) 4 0) ≤ (99 : Int) by omega)
                          | 9, hk => cases hk; exact (show (0 : Int) ≤ (fMV (wN h) (wB h) 4 3) ∧ (fMV (wN h) (wB h) 4 3) ≤ (99 : Int) by omega)
                          | 10, hk => cases hk; exact (show (0 : Int) ≤ (fMV (wN h) (wB h) 5 0) ∧ (fMV (wN h) (wB h) 5 0) ≤ (99 : Int) by omega)
                          | k + 11, hk => cases hk
                        · exact pAll1 (show (0 + (1 * ρ 4 + 0) : Int) ≤ 0 by omega) (pAll1 (show (0 + ((-1) * ρ 4 + 0) : Int) ≤ 0 by omega) (pAll1 (show (0 + ((-1) * ρ 2 + (1 * (fMV (wN h) (wB h) 0 0) + 0)) : Int) ≤ 0 by omega) (pAll1 (show (1 + ((-1) * ρ 2 + (1 * (fMV (wN h) (wB h) 0 3) + 0)) : Int) ≤ 0 by omega) (pAll1 (show (0 + ((-1) * ρ 2 + (1 * (fMV (wN h) (wB h) 1 0) + 0)) : Int) ≤ 0 by omega) (pAll1 (show (1 + ((-1) * ρ 2 + (1 * (fMV (wN h) (wB h) 1 3) + 0)) : Int) ≤ 0 by omega) (pAll1 (show (0 + ((-1) * ρ 2 + (1 * (fMV (wN h) (wB h) 2 0) + 0)) : Int) ≤ 0 by omega) (pAll1 (show (1 + ((-1) * ρ 2 + (1 * (fMV (wN h) (wB h) 2 3) + 0)) : Int) ≤ 0 by omega) (pAll1 (show (0 + ((-1) * ρ 2 + (1 * (fMV (wN h) (wB h) 3 0) + 0)) : Int) ≤ 0 by omega) (pAll1 (show (1 + ((-1) * ρ 2 + (1 * (fMV (wN h) (wB h) 3 3) + 0)) : Int) ≤ 0 by omega) (pAll1 (show (0 + ((-1) * ρ 2 + (1 * (fMV (wN h) (wB h) 4 0) + 0)) : Int) ≤ 0 by omega) (pAll1 (show (1 + ((-1) * ρ 2 + (1 * (fMV (wN h) (wB h) 4 3) + 0)) : Int) ≤ 0 by omega) (pAll1 (show (1 + (1 * ρ 2 + ((-1) * (fMV (wN h) (wB h) 5 0) + 0)) : Int) ≤ 0 by omega) (pAll0)))))))))))))
                        · exact pAll1 (pgP 98 418 (by decide) (by decide +kernel) (by decide +kernel) 0 (show (0 + 0 : Int) = _ by omega) (show (0 + (1 * (fMV (wN h) (wB h) 0 0) + 0) : Int) = _ by omega)) (pAll1 (pgP 98 418 (by decide) (by decide +kernel) (by decide +kernel) 3 (show (3 + 0 : Int) = _ by omega) (show (0 + (1 * (fMV (wN h) (wB h) 0 3) + 0) : Int) = _ by omega)) (pAll1 (pgP 98 418 (by decide) (by decide +kernel) (by decide +kernel) 4 (show (4 + 0 : Int) = _ by omega) (show (0 + (1 * (fMV (wN h) (wB h) 1 0) + 0) : Int) = _ by omega)) (pAll1 (pgP 98 418 (by decide) (by decide +kernel) (by decide +kernel) 7 (show (7 + 0 : Int) = _ by omega) (show (0 + (1 * (fMV (wN h) (wB h) 1 3) + 0) : Int) = _ by omega)) (pAll1 (pgP 98 418 (by decide) (by decide +kernel) (by decide +kernel) 8 (show (8 + 0 : Int) = _ by omega) (show (0 + (1 * (fMV (wN h) (wB h) 2 0) + 0) : Int) = _ by omega)) (pAll1 (pgP 98 418 (by decide) (by decide +kernel) (by decide +kernel) 11 (show (11 + 0 : Int) = _ by omega) (show (0 + (1 * (fMV (wN h) (wB h) 2 3) + 0) : Int) = _ by omega)) (pAll1 (pgP 98 418 (by decide) (by decide +kernel) (by decide +kernel) 12 (show (12 + 0 : Int) = _ by omega) (show (0 + (1 * (fMV (wN h) (wB h) 3 0) + 0) : Int) = _ by omega)) (pAll1 (pgP 98 418 (by decide) (by decide +kernel) (by decide +kernel) 15 (show (15 + 0 : Int) = _ by omega) (show (0 + (1 * (fMV (wN h) (wB h) 3 3) + 0) : Int) = _ by omega)) (pAll1 (pgP 98 418 (by decide) (by decide +kernel) (by decide +kernel) 16 (show (16 + 0 : Int) = _ by omega) (show (0 + (1 * (fMV (wN h) (wB h) 4 0) + 0) : Int) = _ by omega)) (pAll1 (pgP 98 418 (by decide) (by decide +kernel) (by decide +kernel) 19 (show (19 + 0 : Int) = _ by omega) (show (0 + (1 * (fMV (wN h) (wB h) 4 3) + 0) : Int) = _ by omega)) (pAll1 (pgP 98 418 (by decide) (by decide +kernel) (by decide +kernel) 20 (show (20 + 0 : Int) = _ by omega) (show (0 + (1 * (fMV (wN h) (wB h) 5 0) + 0) : Int) = _ by omega)) (pAll0)))))))))))
                    · have hw : ¬ fWh (wN h) (wB h) := fun z => k4 (z.2 4 (by omega)).2
                      rw [yB_0 hw] at eW
                      refine ⟨rWH6m_10, List.mem_of_getElem? (i := 10) rfl, pEnd [ρ 0, ρ 1, ρ 2, ρ 3, ρ 4, ρ 5, (fMV (wN h) (wB h) 0 0), (fMV (wN h) (wB h) 0 3), (fMV (wN h) (wB h) 1 0), (fMV (wN h) (wB h) 1 3), (fMV (wN h) (wB h) 2 0), (fMV (wN h) (wB h) 2 3), (fMV (wN h) (wB h) 3 0), (fMV (wN h) (wB h) 3 3), (fMV (wN h) (wB h) 4 0), (fMV (wN h) (wB h) 4 3)] rfl ?_ ?_ ?_ ?_⟩
                      · intro j hj
                        match j, hj with
                        | 0, _ => exact q0.symm
                        | 1, _ => exact q1.symm
                        | 2, _ => exact q2.symm
                        | 3, _ => exact q3.symm
                        | 4, _ => exact q4.symm
                        | 5, _ => exact q5.symm
                        | k + 6, hj => exact absurd hj (by show ¬ (k + 6 < 6); omega)
                      · intro k b hk
                        match k, hk with
                        | 0, hk => cases hk; exact (show (0 : Int) ≤ (fMV (wN h) (wB h) 0 0) ∧ (fMV (wN h) (wB h) 0 0) ≤ (99 : Int) by omega)
                        | 1, hk => cases hk; exact (show (0 : Int) ≤ (fMV (wN h) (wB h) 0 3) ∧ (fMV (wN h) (wB h) 0 3) ≤ (99 : Int) by omega)
                        | 2, hk => cases hk; exact (show (0 : Int) ≤ (fMV (wN h) (wB h) 1 0) ∧ (fMV (wN h) (wB h) 1 0) ≤ (99 : Int) by omega)
                        | 3, hk => cases hk; exact (show (0 : Int) ≤ (fMV (wN h) (wB h) 1 3) ∧ (fMV (wN h) (wB h) 1 3) ≤ (99 : Int) by omega)
                        | 4, hk => cases hk; exact (show (0 : Int) ≤ (fMV (wN h) (wB h) 2 0) ∧ (fMV (wN h) (wB h) 2 0) ≤ (99 : Int) by omega)
                        | 5, hk => cases hk; exact (show (0 : Int) ≤ (fMV (wN h) (wB h) 2 3) ∧ (fMV (wN h) (wB h) 2 3) ≤ (99 : Int) by omega)
                        | 6, hk => cases hk; exact (show (0 : Int) ≤ (fMV (wN h) (wB h) 3 0) ∧ (fMV (wN h) (wB h) 3 0) ≤ (99 : Int) by omega)
                        | 7, hk => cases hk; exact (show (0 : Int) ≤ (fMV (wN h) (wB h) 3 3) ∧ (fMV (wN h) (wB h) 3 3) ≤ (99 : Int) by omega)
                        | 8, hk => cases hk; exact (show (0 : Int) ≤ (fMV (wN h) (wB h) 4 0) ∧ (fMV (wN h) (wB h) 4 0) ≤ (99 : Int) by omega)
                        | 9, hk => cases hk; exact (show (0 : Int) ≤ (fMV (wN h) (wB h) 4 3) ∧ (fMV (wN h) (wB h) 4 3) ≤ (99 : Int) by omega)
                        | k + 10, hk => cases hk
                      · exact pAll1 (show (0 + (1 * ρ 4 + 0) : Int) ≤ 0 by omega) (pAll1 (show (0 + ((-1) * ρ 4 + 0) : Int) ≤ 0 by omega) (pAll1 (show (0 + ((-1) * ρ 2 + (1 * (fMV (wN h) (wB h) 0 0) + 0)) : Int) ≤ 0 by omega) (pAll1 (show (1 + ((-1) * ρ 2 + (1 * (fMV (wN h) (wB h) 0 3) + 0)) : Int) ≤ 0 by omega) (pAll1 (show (0 + ((-1) * ρ 2 + (1 * (fMV (wN h) (wB h) 1 0) + 0)) : Int) ≤ 0 by omega) (pAll1 (show (1 + ((-1) * ρ 2 + (1 * (fMV (wN h) (wB h) 1 3) + 0)) : Int) ≤ 0 by omega) (pAll1 (show (0 + ((-1) * ρ 2 + (1 * (fMV (wN h) (wB h) 2 0) + 0)) : Int) ≤ 0 by omega) (pAll1 (show (1 + ((-1) * ρ 2 + (1 * (fMV (wN h) (wB h) 2 3) + 0)) : Int) ≤ 0 by omega) (pAll1 (show (0 + ((-1) * ρ 2 + (1 * (fMV (wN h) (wB h) 3 0) + 0)) : Int) ≤ 0 by omega) (pAll1 (show (1 + ((-1) * ρ 2 + (1 * (fMV (wN h) (wB h) 3 3) + 0)) : Int) ≤ 0 by omega) (pAll1 (show (0 + ((-1) * ρ 2 + (1 * (fMV (wN h) (wB h) 4 0) + 0)) : Int) ≤ 0 by omega) (pAll1 (show (0 + (1 * ρ 2 + ((-1) * (fMV (wN h) (wB h) 4 3) + 0)) : Int) ≤ 0 by omega) (pAll0))))))))))))
                      · exact pAll1 (pgP 98 418 (by decide) (by decide +kernel) (by decide +kernel) 0 (show (0 + 0 : Int) = _ by omega) (show (0 + (1 * (fMV (wN h) (wB h) 0 0) + 0) : Int) = _ by omega)) (pAll1 (pgP 98 418 (by decide) (by decide +kernel) (by decide +kernel) 3 (show (3 + 0 : Int) = _ by omega) (show (0 + (1 * (fMV (wN h) (wB h) 0 3) + 0) : Int) = _ by omega)) (pAll1 (pgP 98 418 (by decide) (by decide +kernel) (by decide +kernel) 4 (show (4 + 0 : Int) = _ by omega) (show (0 + (1 * (fMV (wN h) (wB h) 1 0) + 0) : Int) = _ by omega)) (pAll1 (pgP 98 418 (by decide) (by decide +kernel) (by decide +kernel) 7 (show (7 + 0 : Int) = _ by omega) (show (0 + (1 * (fMV (wN h) (wB h) 1 3) + 0) : Int) = _ by omega)) (pAll1 (pgP 98 418 (by decide) (by decide +kernel) (by decide +kernel) 8 (show (8 + 0 : Int) = _ by omega) (show (0 + (1 * (fMV (wN h) (wB h) 2 0) + 0) : Int) = _ by omega)) (pAll1 (pgP 98 418 (by decide) (by decide +kernel) (by decide +kernel) 11 (show (11 + 0 : Int) = _ by omega) (show (0 + (1 * (fMV (wN h) (wB h) 2 3) + 0) : Int) = _ by omega)) (pAll1 (pgP 98 418 (by decide) (by decide +kernel) (by decide +kernel) 12 (show (12 + 0 : Int) = _ by omega) (show (0 + (1 * (fMV (wN h) (wB h) 3 0) + 0) : Int) = _ by omega)) (pAll1 (pgP 98 418 (by decide) (by decide +kernel) (by decide +kernel) 15 (show (15 + 0 : Int) = _ by omega) (show (0 + (1 * (fMV (wN h) (wB h) 3 3) + 0) : Int) = _ by omega)) (pAll1 (pgP 98 418 (by decide) (by decide +kernel) (by decide +kernel) 16 (show (16 + 0 : Int) = _ by omega) (show (0 + (1 * (fMV (wN h) (wB h) 4 0) + 0) : Int) = _ by omega)) (pAll1 (pgP 98 418 (by decide) (by decide +kernel) (by decide +kernel) 19 (show (19 + 0 : Int) = _ by omega) (show (0 + (1 * (fMV (wN h) (wB h) 4 3) + 0) : Int) = _ by omega)) (pAll0))))))))))
                  · have hw : ¬ fWh (wN h) (wB h) := fun z => g4 (z.2 4 (by omega)).1
                    rw [yB_0 hw] at eW
                    refine ⟨rWH6m_9, List.mem_of_getElem? (i := 9) rfl, pEnd [ρ 0, ρ 1, ρ 2, ρ 3, ρ 4, ρ 5, (fMV (wN h) (wB h) 0 0), (fMV (wN h) (wB h) 0 3), (fMV (wN h) (wB h) 1 0), (fMV (wN h) (wB h) 1 3), (fMV (wN h) (wB h) 2 0), (fMV (wN h) (wB h) 2 3), (fMV (wN h) (wB h) 3 0), (fMV (wN h) (wB h) 3 3), (fMV (wN h) (wB h) 4 0)] rfl ?_ ?_ ?_ ?_⟩
                    · intro j hj
                      match j, hj with
                      | 0, _ => exact q0.symm
                      | 1, _ => exact q1.symm
                      | 2, _ => exact q2.symm
                      | 3, _ => exact q3.symm
                      | 4, _ => exact q4.symm
                      | 5, _ => exact q5.symm
                      | k + 6, hj => exact absurd hj (by show ¬ (k + 6 < 6); omega)
                    · intro k b hk
                      match k, hk with
                      | 0, hk => cases hk; exact (show (0 : Int) ≤ (fMV (wN h) (wB h) 0 0) ∧ (fMV (wN h) (wB h) 0 0) ≤ (99 : Int) by omega)
                      | 1, hk => cases hk; exact (show (0 : Int) ≤ (fMV (wN h) (wB h) 0 3) ∧ (fMV (wN h) (wB h) 0 3) ≤ (99 : Int) by omega)
                      | 2, hk => cases hk; exact (show (0 : Int) ≤ (fMV (wN h) (wB h) 1 0) ∧ (fMV (wN h) (wB h) 1 0) ≤ (99 : Int) by omega)
                      | 3, hk => cases hk; exact (show (0 : Int) ≤ (fMV (wN h) (wB h) 1 3) ∧ (fMV (wN h) (wB h) 1 3) ≤ (99 : Int) by omega)
                      | 4, hk => cases hk; exact (show (0 : Int) ≤ (fMV (wN h) (wB h) 2 0) ∧ (fMV (wN h) (wB h) 2 0) ≤ (99 : Int) by omega)
                      | 5, hk => cases hk; exact (show (0 : Int) ≤ (fMV (wN h) (wB h) 2 3) ∧ (fMV (wN h) (wB h) 2 3) ≤ (99 : Int) by omega)
                      | 6, hk => cases hk; exact (show (0 : Int) ≤ (fMV (wN h) (wB h) 3 0) ∧ (fMV (wN h) (wB h) 3 0) ≤ (99 : Int) by omega)
                      | 7, hk => cases hk; exact (show (0 : Int) ≤ (fMV (wN h) (wB h) 3 3) ∧ (fMV (wN h) (wB h) 3 3) ≤ (99 : Int) by omega)
                      | 8, hk => cases hk; exact (show (0 : Int) ≤ (fMV (wN h) (wB h) 4 0) ∧ (fMV (wN h) (wB h) 4 0) ≤ (99 : Int) by omega)
                      | k + 9, hk => cases hk
                    · exact pAll1 (show (0 + (1 * ρ 4 + 0) : Int) ≤ 0 by omega) (pAll1 (show (0 + ((-1) * ρ 4 + 0) : Int) ≤ 0 by omega) (pAll1 (show (0 + ((-1) * ρ 2 + (1 * (fMV (wN h) (wB h) 0 0) + 0)) : Int) ≤ 0 by omega) (pAll1 (show (1 + ((-1) * ρ 2 + (1 * (fMV (wN h) (wB h) 0 3) + 0)) : Int) ≤ 0 by omega) (pAll1 (show (0 + ((-1) * ρ 2 + (1 * (fMV (wN h) (wB h) 1 0) + 0)) : Int) ≤ 0 by omega) (pAll1 (show (1 + ((-1) * ρ 2 + (1 * (fMV (wN h) (wB h) 1 3) + 0)) : Int) ≤ 0 by omega) (pAll1 (show (0 + ((-1) * ρ 2 + (1 * (fMV (wN h) (wB h) 2 0) + 0)) : Int) ≤ 0 by omega) (pAll1 (show (1 + ((-1) * ρ 2 + (1 * (fMV (wN h) (wB h) 2 3) + 0)) : Int) ≤ 0 by omega) (pAll1 (show (0 + ((-1) * ρ 2 + (1 * (fMV (wN h) (wB h) 3 0) + 0)) : Int) ≤ 0 by omega) (pAll1 (show (1 + ((-1) * ρ 2 + (1 * (fMV (wN h) (wB h) 3 3) + 0)) : Int) ≤ 0 by omega) (pAll1 (show (1 + (1 * ρ 2 + ((-1) * (fMV (wN h) (wB h) 4 0) + 0)) : Int) ≤ 0 by omega) (pAll0)))))))))))
                    · exact pAll1 (pgP 98 418 (by decide) (by decide +kernel) (by decide +kernel) 0 (show (0 + 0 : Int) = _ by omega) (show (0 + (1 * (fMV (wN h) (wB h) 0 0) + 0) : Int) = _ by omega)) (pAll1 (pgP 98 418 (by decide) (by decide +kernel) (by decide +kernel) 3 (show (3 + 0 : Int) = _ by omega) (show (0 + (1 * (fMV (wN h) (wB h) 0 3) + 0) : Int) = _ by omega)) (pAll1 (pgP 98 418 (by decide) (by decide +kernel) (by decide +kernel) 4 (show (4 + 0 : Int) = _ by omega) (show (0 + (1 * (fMV (wN h) (wB h) 1 0) + 0) : Int) = _ by omega)) (pAll1 (pgP 98 418 (by decide) (by decide +kernel) (by decide +kernel) 7 (show (7 + 0 : Int) = _ by omega) (show (0 + (1 * (fMV (wN h) (wB h) 1 3) + 0) : Int) = _ by omega)) (pAll1 (pgP 98 418 (by decide) (by decide +kernel) (by decide +kernel) 8 (show (8 + 0 : Int) = _ by omega) (show (0 + (1 * (fMV (wN h) (wB h) 2 0) + 0) : Int) = _ by omega)) (pAll1 (pgP 98 418 (by decide) (by decide +kernel) (by decide +kernel) 11 (show (11 + 0 : Int) = _ by omega) (show (0 + (1 * (fMV (wN h) (wB h) 2 3) + 0) : Int) = _ by omega)) (pAll1 (pgP 98 418 (by decide) (by decide +kernel) (by decide +kernel) 12 (show (12 + 0 : Int) = _ by omega) (show (0 + (1 * (fMV (wN h) (wB h) 3 0) + 0) : Int) = _ by omega)) (pAll1 (pgP 98 418 (by decide) (by decide +kernel) (by decide +kernel) 15 (show (15 + 0 : Int) = _ by omega) (show (0 + (1 * (fMV (wN h) (wB h) 3 3) + 0) : Int) = _ by omega)) (pAll1 (pgP 98 418 (by decide) (by decide +kernel) (by decide +kernel) 16 (show (16 + 0 : Int) = _ by omega) (show (0 + (1 * (fMV (wN h) (wB h) 4 0) + 0) : Int) = _ by omega)) (pAll0)))))))))
                · have hw : ¬ fWh (wN h) (wB h) := fun z => k3 (z.2 3 (by omega)).2
                  rw [yB_0 hw] at eW
                  refine ⟨rWH6m_8, List.mem_of_getElem? (i := 8) rfl, pEnd [ρ 0, ρ 1, ρ 2, ρ 3, ρ 4, ρ 5, (fMV (wN h) (wB h) 0 0), (fMV (wN h) (wB h) 0 3), (fMV (wN h) (wB h) 1 0), (fMV (wN h) (wB h) 1 3), (fMV (wN h) (wB h) 2 0), (fMV (wN h) (wB h) 2 3), (fMV (wN h) (wB h) 3 0), (fMV (wN h) (wB h) 3 3)] rfl ?_ ?_ ?_ ?_⟩
                  · intro j hj
                    match j, hj with
                    | 0, _ => exact q0.symm
                    | 1, _ => exact q1.symm
                    | 2, _ => exact q2.symm
                    | 3, _ => exact q3.symm
                    | 4, _ => exact q4.symm
                    | 5, _ => exact q5.symm
                    | k + 6, hj => exact absurd hj (by show ¬ (k + 6 < 6); omega)
                  · intro k b hk
                    match k, hk with
                    | 0, hk => cases hk; exact (show (0 : Int) ≤ (fMV (wN h) (wB h) 0 0) ∧ (fMV (wN h) (wB h) 0 0) ≤ (99 : Int) by omega)
                    | 1, hk => cases hk; exact (show (0 : Int) ≤ (fMV (wN h) (wB h) 0 3) ∧ (fMV (wN h) (wB h) 0 3) ≤ (99 : Int) by omega)
                    | 2, hk => cases hk; exact (show (0 : Int) ≤ (fMV (wN h) (wB h) 1 0) ∧ (fMV (wN h) (wB h) 1 0) ≤ (99 : Int) by omega)
                    | 3, hk => cases hk; exact (show (0 : Int) ≤ (fMV (wN h) (wB h) 1 3) ∧ (fMV (wN h) (wB h) 1 3) ≤ (99 : Int) by omega)
                    | 4, hk => cases hk; exact (show (0 : Int) ≤ (fMV (wN h) (wB h) 2 0) ∧ (fMV (wN h) (wB h) 2 0) ≤ (99 : Int) by omega)
                    | 5, hk => cases hk; exact (show (0 : Int) ≤ (fMV (wN h) (wB h) 2 3) ∧ (fMV (wN h) (wB h) 2 3) ≤ (99 : Int) by omega)
                    | 6, hk => cases hk; exact (show (0 : Int) ≤ (fMV (wN h) (wB h) 3 0) ∧ (fMV (wN h) (wB h) 3 0) ≤ (99 : Int) by omega)
                    | 7, hk => cases hk; exact (show (0 : Int) ≤ (fMV (wN h) (wB h) 3 3) ∧ (fMV (wN h) (wB h) 3 3) ≤ (99 : Int) by omega)
                    | k + 8, hk => cases hk
                  · exact pAll1 (show (0 + (1 * ρ 4 + 0) : Int) ≤ 0 by omega) (pAll1 (show (0 + ((-1) * ρ 4 + 0) : Int) ≤ 0 by omega) (pAll1 (show (0 + ((-1) * ρ 2 + (1 * (fMV (wN h) (wB h) 0 0) + 0)) : Int) ≤ 0 by omega) (pAll1 (show (1 + ((-1) * ρ 2 + (1 * (fMV (wN h) (wB h) 0 3) + 0)) : Int) ≤ 0 by omega) (pAll1 (show (0 + ((-1) * ρ 2 + (1 * (fMV (wN h) (wB h) 1 0) + 0)) : Int) ≤ 0 by omega) (pAll1 (show (1 + ((-1) * ρ 2 + (1 * (fMV (wN h) (wB h) 1 3) + 0)) : Int) ≤ 0 by omega) (pAll1 (show (0 + ((-1) * ρ 2 + (1 * (fMV (wN h) (wB h) 2 0) + 0)) : Int) ≤ 0 by omega) (pAll1 (show (1 + ((-1) * ρ 2 + (1 * (fMV (wN h) (wB h) 2 3) + 0)) : Int) ≤ 0 by omega) (pAll1 (show (0 + ((-1) * ρ 2 + (1 * (fMV (wN h) (wB h) 3 0) + 0)) : Int) ≤ 0 by omega) (pAll1 (show (0 + (1 * ρ 2 + ((-1) * (fMV (wN h) (wB h) 3 3) + 0)) : Int) ≤ 0 by omega) (pAll0))))))))))
                  · exact pAll1 (pgP 98 418 (by decide) (by decide +kernel) (by decide +kernel) 0 (show (0 + 0 : Int) = _ by omega) (show (0 + (1 * (fMV (wN h) (wB h) 0 0) + 0) : Int) = _ by omega)) (pAll1 (pgP 98 418 (by decide) (by decide +kernel) (by decide +kernel) 3 (show (3 + 0 : Int) = _ by omega) (show (0 + (1 * (fMV (wN h) (wB h) 0 3) + 0) : Int) = _ by omega)) (pAll1 (pgP 98 418 (by decide) (by decide +kernel) (by decide +kernel) 4 (show (4 + 0 : Int) = _ by omega) (show (0 + (1 * (fMV (wN h) (wB h) 1 0) + 0) : Int) = _ by omega)) (pAll1 (pgP 98 418 (by decide) (by decide +kernel) (by decide +kernel) 7 (show (7 + 0 : Int) = _ by omega) (show (0 + (1 * (fMV (wN h) (wB h) 1 3) + 0) : Int) = _ by omega)) (pAll1 (pgP 98 418 (by decide) (by decide +kernel) (by decide +kernel) 8 (show (8 + 0 : Int) = _ by omega) (show (0 + (1 * (fMV (wN h) (wB h) 2 0) + 0) : Int) = _ by omega)) (pAll1 (pgP 98 418 (by decide) (by decide +kernel) (by decide +kernel) 11 (show (11 + 0 : Int) = _ by omega) (show (0 + (1 * (fMV (wN h) (wB h) 2 3) + 0) : Int) = _ by omega)) (pAll1 (pgP 98 418 (by decide) (by decide +kernel) (by decide +kernel) 12 (show (12 + 0 : Int) = _ by omega) (show (0 + (1 * (fMV (wN h) (wB h) 3 0) + 0) : Int) = _ by omega)) (pAll1 (pgP 98 418 (by decide) (by decide +kernel) (by decide +kernel) 15 (show (15 + 0 : Int) = _ by omega) (show (0 + (1 * (fMV (wN h) (wB h) 3 3) + 0) : Int) = _ by omega)) (pAll0))))))))
              · have hw : ¬ fWh (wN h) (wB h) := fun z => g3 (z.2 3 (by omega)).1
                rw [yB_0 hw] at eW
                refine ⟨rWH6m_7, List.mem_of_getElem? (i := 7) rfl, pEnd [ρ 0, ρ 1, ρ 2, ρ 3, ρ 4, ρ 5, (fMV (wN h) (wB h) 0 0), (fMV (wN h) (wB h) 0 3), (fMV (wN h) (wB h) 1 0), (fMV (wN h) (wB h) 1 3), (fMV (wN h) (wB h) 2 0), (fMV (wN h) (wB h) 2 3), (fMV (wN h) (wB h) 3 0)] rfl ?_ ?_ ?_ ?_⟩
                · intro j hj
                  match j, hj with
                  | 0, _ => exact q0.symm
                  | 1, _ => exact q1.symm
                  | 2, _ => exact q2.symm
                  | 3, _ => exact q3.symm
                  | 4, _ => exact q4.symm
                  | 5, _ => exact q5.symm
                  | k + 6, hj => exact absurd hj (by show ¬ (k + 6 < 6); omega)
                · intro k b hk
                  match k, hk with
                  | 0, hk => cases hk; exact (show (0 : Int) ≤ (fMV (wN h) (wB h) 0 0) ∧ (fMV (wN h) (wB h) 0 0) ≤ (99 : Int) by omega)
                  | 1, hk => cases hk; exact (show (0 : Int) ≤ (fMV (wN h) (wB h) 0 3) ∧ (fMV (wN h) (wB h) 0 3) ≤ (99 : Int) by omega)
                  | 2, hk => cases hk; exact (show (0 : Int) ≤ (fMV (wN h) (wB h) 1 0) ∧ (fMV (wN h) (wB h) 1 0) ≤ (99 : Int) by omega)
                  | 3, hk => cases hk; exact (show (0 : Int) ≤ (fMV (wN h) (wB h) 1 3) ∧ (fMV (wN h) (wB h) 1 3) ≤ (99 : Int) by omega)
                  | 4, hk => cases hk; exact (show (0 : Int) ≤ (fMV (wN h) (wB h) 2 0) ∧ (fMV (wN h) (wB h) 2 0) ≤ (99 : Int) by omega)
                  | 5, hk => cases hk; exact (show (0 : Int) ≤ (fMV (wN h) (wB h) 2 3) ∧ (fMV (wN h) (wB h) 2 3) ≤ (99 : Int) by omega)
                  | 6, hk => cases hk; exact (show (0 : Int) ≤ (fMV (wN h) (wB h) 3 0) ∧ (fMV (wN h) (wB h) 3 0) ≤ (99 : Int) by omega)
                  | k + 7, hk => cases hk
                · exact pAll1 (show (0 + (1 * ρ 4 + 0) : Int) ≤ 0 by omega) (pAll1 (show (0 + ((-1) * ρ 4 + 0) : Int) ≤ 0 by omega) (pAll1 (show (0 + ((-1) * ρ 2 + (1 * (fMV (wN h) (wB h) 0 0) + 0)) : Int) ≤ 0 by omega) (pAll1 (show (1 + ((-1) * ρ 2 + (1 * (fMV (wN h) (wB h) 0 3) + 0)) : Int) ≤ 0 by omega) (pAll1 (show (0 + ((-1) * ρ 2 + (1 * (fMV (wN h) (wB h) 1 0) + 0)) : Int) ≤ 0 by omega) (pAll1 (show (1 + ((-1) * ρ 2 + (1 * (fMV (wN h) (wB h) 1 3) + 0)) : Int) ≤ 0 by omega) (pAll1 (show (0 + ((-1) * ρ 2 + (1 * (fMV (wN h) (wB h) 2 0) + 0)) : Int) ≤ 0 by omega) (pAll1 (show (1 + ((-1) * ρ 2 + (1 * (fMV (wN h) (wB h) 2 3) + 0)) : Int) ≤ 0 by omega) (pAll1 (show (1 + (1 * ρ 2 + ((-1) * (fMV (wN h) (wB h) 3 0) + 0)) : Int) ≤ 0 by omega) (pAll0)))))))))
                · exact pAll1 (pgP 98 418 (by decide) (by decide +kernel) (by decide +kernel) 0 (show (0 + 0 : Int) = _ by omega) (show (0 + (1 * (fMV (wN h) (wB h) 0 0) + 0) : Int) = _ by omega)) (pAll1 (pgP 98 418 (by decide) (by decide +kernel) (by decide +kernel) 3 (show (3 + 0 : Int) = _ by omega) (show (0 + (1 * (fMV (wN h) (wB h) 0 3) + 0) : Int) = _ by omega)) (pAll1 (pgP 98 418 (by decide) (by decide +kernel) (by decide +kernel) 4 (show (4 + 0 : Int) = _ by omega) (show (0 + (1 * (fMV (wN h) (wB h) 1 0) + 0) : Int) = _ by omega)) (pAll1 (pgP 98 418 (by decide) (by decide +kernel) (by decide +kernel) 7 (show (7 + 0 : Int) = _ by omega) (show (0 + (1 * (fMV (wN h) (wB h) 1 3) + 0) : Int) = _ by omega)) (pAll1 (pgP 98 418 (by decide) (by decide +kernel) (by decide +kernel) 8 (show (8 + 0 : Int) = _ by omega) (show (0 + (1 * (fMV (wN h) (wB h) 2 0) + 0) : Int) = _ by omega)) (pAll1 (pgP 98 418 (by decide) (by decide +kernel) (by decide +kernel) 11 (show (11 + 0 : Int) = _ by omega) (show (0 + (1 * (fMV (wN h) (wB h) 2 3) + 0) : Int) = _ by omega)) (pAll1 (pgP 98 418 (by decide) (by decide +kernel) (by decide +kernel) 12 (show (12 + 0 : Int) = _ by omega) (show (0 + (1 * (fMV (wN h) (wB h) 3 0) + 0) : Int) = _ by omega)) (pAll0)))))))
            · have hw : ¬ fWh (wN h) (wB h) := fun z => k2 (z.2 2 (by omega)).2
              rw [yB_0 hw] at eW
              refine ⟨rWH6m_6, List.mem_of_getElem? (i := 6) rfl, pEnd [ρ 0, ρ 1, ρ 2, ρ 3, ρ 4, ρ 5, (fMV (wN h) (wB h) 0 0), (fMV (wN h) (wB h) 0 3), (fMV (wN h) (wB h) 1 0), (fMV (wN h) (wB h) 1 3), (fMV (wN h) (wB h) 2 0), (fMV (wN h) (wB h) 2 3)] rfl ?_ ?_ ?_ ?_⟩
              · intro j hj
                match j, hj with
                | 0, _ => exact q0.symm
                | 1, _ => exact q1.symm
                | 2, _ => exact q2.symm
                | 3, _ => exact q3.symm
                | 4, _ => exact q4.symm
                | 5, _ => exact q5.symm
                | k + 6, hj => exact absurd hj (by show ¬ (k + 6 < 6); omega)
              · intro k b hk
                match k, hk with
                | 0, hk => cases hk; exact (show (0 : Int) ≤ (fMV (wN h) (wB h) 0 0) ∧ (fMV (wN h) (wB h) 0 0) ≤ (99 : Int) by omega)
                | 1, hk => cases hk; exact (show (0 : Int) ≤ (fMV (wN h) (wB h) 0 3) ∧ (fMV (wN h) (wB h) 0 3) ≤ (99 : Int) by omega)
                | 2, hk => cases hk; exact (show (0 : Int) ≤ (fMV (wN h) (wB h) 1 0) ∧ (fMV (wN h) (wB h) 1 0) ≤ (99 : Int) by omega)
                | 3, hk => cases hk; exact (show (0 : Int) ≤ (fMV (wN h) (wB h) 1 3) ∧ (fMV (wN h) (wB h) 1 3) ≤ (99 : Int) by omega)
                | 4, hk => cases hk; exact (show (0 : Int) ≤ (fMV (wN h) (wB h) 2 0) ∧ (fMV (wN h) (wB h) 2 0) ≤ (99 : Int) by omega)
                | 5, hk => cases hk; exact (show (0 : Int) ≤ (fMV (wN h) (wB h) 2 3) ∧ (fMV (wN h) (wB h) 2 3) ≤ (99 : Int) by omega)
                | k + 6, hk => cases hk
              · exact pAll1 (show (0 + (1 * ρ 4 + 0) : Int) ≤ 0 by omega) (pAll1 (show (0 + ((-1) * ρ 4 + 0) : Int) ≤ 0 by omega) (pAll1 (show (0 + ((-1) * ρ 2 + (1 * (fMV (wN h) (wB h) 0 0) + 0)) : Int) ≤ 0 by omega) (pAll1 (show (1 + ((-1) * ρ 2 + (1 * (fMV (wN h) (wB h) 0 3) + 0)) : Int) ≤ 0 by omega) (pAll1 (show (0 + ((-1) * ρ 2 + (1 * (fMV (wN h) (wB h) 1 0) + 0)) : Int) ≤ 0 by omega) (pAll1 (show (1 + ((-1) * ρ 2 + (1 * (fMV (wN h) (wB h) 1 3) + 0)) : Int) ≤ 0 by omega) (pAll1 (show (0 + ((-1) * ρ 2 + (1 * (fMV (wN h) (wB h) 2 0) + 0)) : Int) ≤ 0 by omega) (pAll1 (show (0 + (1 * ρ 2 + ((-1) * (fMV (wN h) (wB h) 2 3) + 0)) : Int) ≤ 0 by omega) (pAll0))))))))
              · exact pAll1 (pgP 98 418 (by decide) (by decide +kernel) (by decide +kernel) 0 (show (0 + 0 : Int) = _ by omega) (show (0 + (1 * (fMV (wN h) (wB h) 0 0) + 0) : Int) = _ by omega)) (pAll1 (pgP 98 418 (by decide) (by decide +kernel) (by decide +kernel) 3 (show (3 + 0 : Int) = _ by omega) (show (0 + (1 * (fMV (wN h) (wB h) 0 3) + 0) : Int) = _ by omega)) (pAll1 (pgP 98 418 (by decide) (by decide +kernel) (by decide +kernel) 4 (show (4 + 0 : Int) = _ by omega) (show (0 + (1 * (fMV (wN h) (wB h) 1 0) + 0) : Int) = _ by omega)) (pAll1 (pgP 98 418 (by decide) (by decide +kernel) (by decide +kernel) 7 (show (7 + 0 : Int) = _ by omega) (show (0 + (1 * (fMV (wN h) (wB h) 1 3) + 0) : Int) = _ by omega)) (pAll1 (pgP 98 418 (by decide) (by decide +kernel) (by decide +kernel) 8 (show (8 + 0 : Int) = _ by omega) (show (0 + (1 * (fMV (wN h) (wB h) 2 0) + 0) : Int) = _ by omega)) (pAll1 (pgP 98 418 (by decide) (by decide +kernel) (by decide +kernel) 11 (show (11 + 0 : Int) = _ by omega) (show (0 + (1 * (fMV (wN h) (wB h) 2 3) + 0) : Int) = _ by omega)) (pAll0))))))
          · have hw : ¬ fWh (wN h) (wB h) := fun z => g2 (z.2 2 (by omega)).1
            rw [yB_0 hw] at eW
            refine ⟨rWH6m_5, List.mem_of_getElem? (i := 5) rfl, pEnd [ρ 0, ρ 1, ρ 2, ρ 3, ρ 4, ρ 5, (fMV (wN h) (wB h) 0 0), (fMV (wN h) (wB h) 0 3), (fMV (wN h) (wB h) 1 0), (fMV (wN h) (wB h) 1 3), (fMV (wN h) (wB h) 2 0)] rfl ?_ ?_ ?_ ?_⟩
            · intro j hj
              match j, hj with
              | 0, _ => exact q0.symm
              | 1, _ => exact q1.symm
              | 2, _ => exact q2.symm
              | 3, _ => exact q3.symm
              | 4, _ => exact q4.symm
              | 5, _ => exact q5.symm
              | k + 6, hj => exact absurd hj (by show ¬ (k + 6 < 6); omega)
            · intro k b hk
              match k, hk with
              | 0, hk => cases hk; exact (show (0 : Int) ≤ (fMV (wN h) (wB h) 0 0) ∧ (fMV (wN h) (wB h) 0 0) ≤ (99 : Int) by omega)
              | 1, hk => cases hk; exact (show (0 : Int) ≤ (fMV (wN h) (wB h) 0 3) ∧ (fMV (wN h) (wB h) 0 3) ≤ (99 : Int) by omega)
              | 2, hk => cases hk; exact (show (0 : Int) ≤ (fMV (wN h) (wB h) 1 0) ∧ (fMV (wN h) (wB h) 1 0) ≤ (99 : Int) by omega)
              | 3, hk => cases hk; exact (show (0 : Int) ≤ (fMV (wN h) (wB h) 1 3) ∧ (fMV (wN h) (wB h) 1 3) ≤ (99 : Int) by omega)
              | 4, hk => cases hk; exact (show (0 : Int) ≤ (fMV (wN h) (wB h) 2 0) ∧ (fMV (wN h) (wB h) 2 0) ≤ (99 : Int) by omega)
              | k + 5, hk => cases hk
            · exact pAll1 (show (0 + (1 * ρ 4 + 0) : Int) ≤ 0 by omega) (pAll1 (show (0 + ((-1) * ρ 4 + 0) : Int) ≤ 0 by omega) (pAll1 (show (0 + ((-1) * ρ 2 + (1 * (fMV (wN h) (wB h) 0 0) + 0)) : Int) ≤ 0 by omega) (pAll1 (show (1 + ((-1) * ρ 2 + (1 * (fMV (wN h) (wB h) 0 3) + 0)) : Int) ≤ 0 by omega) (pAll1 (show (0 + ((-1) * ρ 2 + (1 * (fMV (wN h) (wB h) 1 0) + 0)) : Int) ≤ 0 by omega) (pAll1 (show (1 + ((-1) * ρ 2 + (1 * (fMV (wN h) (wB h) 1 3) + 0)) : Int) ≤ 0 by omega) (pAll1 (show (1 + (1 * ρ 2 + ((-1) * (fMV (wN h) (wB h) 2 0) + 0)) : Int) ≤ 0 by omega) (pAll0)))))))
            · exact pAll1 (pgP 98 418 (by decide) (by decide +kernel) (by decide +kernel) 0 (show (0 + 0 : Int) = _ by omega) (show (0 + (1 * (fMV (wN h) (wB h) 0 0) + 0) : Int) = _ by omega)) (pAll1 (pgP 98 418 (by decide) (by decide +kernel) (by decide +kernel) 3 (show (3 + 0 : Int) = _ by omega) (show (0 + (1 * (fMV (wN h) (wB h) 0 3) + 0) : Int) = _ by omega)) (pAll1 (pgP 98 418 (by decide) (by decide +kernel) (by decide +kernel) 4 (show (4 + 0 : Int) = _ by omega) (show (0 + (1 * (fMV (wN h) (wB h) 1 0) + 0) : Int) = _ by omega)) (pAll1 (pgP 98 418 (by decide) (by decide +kernel) (by decide +kernel) 7 (show (7 + 0 : Int) = _ by omega) (show (0 + (1 * (fMV (wN h) (wB h) 1 3) + 0) : Int) = _ by omega)) (pAll1 (pgP 98 418 (by decide) (by decide +kernel) (by decide +kernel) 8 (show (8 + 0 : Int) = _ by omega) (show (0 + (1 * (fMV (wN h) (wB h) 2 0) + 0) : Int) = _ by omega)) (pAll0)))))
        · have hw : ¬ fWh (wN h) (wB h) := fun z => k1 (z.2 1 (by omega)).2
          rw [yB_0 hw] at eW
          refine ⟨rWH6m_4, List.mem_of_getElem? (i := 4) rfl, pEnd [ρ 0, ρ 1, ρ 2, ρ 3, ρ 4, ρ 5, (fMV (wN h) (wB h) 0 0), (fMV (wN h) (wB h) 0 3), (fMV (wN h) (wB h) 1 0), (fMV (wN h) (wB h) 1 3)] rfl ?_ ?_ ?_ ?_⟩
          · intro j hj
            match j, hj with
            | 0, _ => exact q0.symm
            | 1, _ => exact q1.symm
            | 2, _ => exact q2.symm
            | 3, _ => exact q3.symm
            | 4, _ => exact q4.symm
            | 5, _ => exact q5.symm
            | k + 6, hj => exact absurd hj (by show ¬ (k + 6 < 6); omega)
          · intro k b hk
            match k, hk with
            | 0, hk => cases hk; exact (show (0 : Int) ≤ (fMV (wN h) (wB h) 0 0) ∧ (fMV (wN h) (wB h) 0 0) ≤ (99 : Int) by omega)
            | 1, hk => cases hk; exact (show (0 : Int) ≤ (fMV (wN h) (wB h) 0 3) ∧ (fMV (wN h) (wB h) 0 3) ≤ (99 : Int) by omega)
            | 2, hk => cases hk; exact (show (0 : Int) ≤ (fMV (wN h) (wB h) 1 0) ∧ (fMV (wN h) (wB h) 1 0) ≤ (99 : Int) by omega)
            | 3, hk => cases hk; exact (show (0 : Int) ≤ (fMV (wN h) (wB h) 1 3) ∧ (fMV (wN h) (wB h) 1 3) ≤ (99 : Int) by omega)
            | k + 4, hk => cases hk
          · exact pAll1 (show (0 + (1 * ρ 4 + 0) : Int) ≤ 0 by omega) (pAll1 (show (0 + ((-1) * ρ 4 + 0) : Int) ≤ 0 by omega) (pAll1 (show (0 + ((-1) * ρ 2 + (1 * (fMV (wN h) (wB h) 0 0) + 0)) : Int) ≤ 0 by omega) (pAll1 (show (1 + ((-1) * ρ 2 + (1 * (fMV (wN h) (wB h) 0 3) + 0)) : Int) ≤ 0 by omega) (pAll1 (show (0 + ((-1) * ρ 2 + (1 * (fMV (wN h) (wB h) 1 0) + 0)) : Int) ≤ 0 by omega) (pAll1 (show (0 + (1 * ρ 2 + ((-1) * (fMV (wN h) (wB h) 1 3) + 0)) : Int) ≤ 0 by omega) (pAll0))))))
          · exact pAll1 (pgP 98 418 (by decide) (by decide +kernel) (by decide +kernel) 0 (show (0 + 0 : Int) = _ by omega) (show (0 + (1 * (fMV (wN h) (wB h) 0 0) + 0) : Int) = _ by omega)) (pAll1 (pgP 98 418 (by decide) (by decide +kernel) (by decide +kernel) 3 (show (3 + 0 : Int) = _ by omega) (show (0 + (1 * (fMV (wN h) (wB h) 0 3) + 0) : Int) = _ by omega)) (pAll1 (pgP 98 418 (by decide) (by decide +kernel) (by decide +kernel) 4 (show (4 + 0 : Int) = _ by omega) (show (0 + (1 * (fMV (wN h) (wB h) 1 0) + 0) : Int) = _ by omega)) (pAll1 (pgP 98 418 (by decide) (by decide +kernel) (by decide +kernel) 7 (show (7 + 0 : Int) = _ by omega) (show (0 + (1 * (fMV (wN h) (wB h) 1 3) + 0) : Int) = _ by omega)) (pAll0))))
      · have hw : ¬ fWh (wN h) (wB h) := fun z => g1 (z.2 1 (by omega)).1
        rw [yB_0 hw] at eW
        refine ⟨rWH6m_3, List.mem_of_getElem? (i := 3) rfl, pEnd [ρ 0, ρ 1, ρ 2, ρ 3, ρ 4, ρ 5, (fMV (wN h) (wB h) 0 0), (fMV (wN h) (wB h) 0 3), (fMV (wN h) (wB h) 1 0)] rfl ?_ ?_ ?_ ?_⟩
        · intro j hj
          match j, hj with
          | 0, _ => exact q0.symm
          | 1, _ => exact q1.symm
          | 2, _ => exact q2.symm
          | 3, _ => exact q3.symm
          | 4, _ => exact q4.symm
          | 5, _ => exact q5.symm
          | k + 6, hj => exact absurd hj (by show ¬ (k + 6 < 6); omega)
        · intro k b hk
          match k, hk with
          | 0, hk => cases hk; exact (show (0 : Int) ≤ (fMV (wN h) (wB h) 0 0) ∧ (fMV (wN h) (wB h) 0 0) ≤ (99 : Int) by omega)
          | 1, hk => cases hk; exact (show (0 : Int) ≤ (fMV (wN h) (wB h) 0 3) ∧ (fMV (wN h) (wB h) 0 3) ≤ (99 : Int) by omega)
          | 2, hk => cases hk; exact (show (0 : Int) ≤ (fMV (wN h) (wB h) 1 0) ∧ (fMV (wN h) (wB h) 1 0) ≤ (99 : Int) by omega)
          | k + 3, hk => cases hk
        · exact pAll1 (show (0 + (1 * ρ 4 + 0) : Int) ≤ 0 by omega) (pAll1 (show (0 + ((-1) * ρ 4 + 0) : Int) ≤ 0 by omega) (pAll1 (show (0 + ((-1) * ρ 2 + (1 * (fMV (wN h) (wB h) 0 0) + 0)) : Int) ≤ 0 by omega) (pAll1 (show (1 + ((-1) * ρ 2 + (1 * (fMV (wN h) (wB h) 0 3) + 0)) : Int) ≤ 0 by omega) (pAll1 (show (1 + (1 * ρ 2 + ((-1) * (fMV (wN h) (wB h) 1 0) + 0)) : Int) ≤ 0 by omega) (pAll0)))))
        · exact pAll1 (pgP 98 418 (by decide) (by decide +kernel) (by decide +kernel) 0 (show (0 + 0 : Int) = _ by omega) (show (0 + (1 * (fMV (wN h) (wB h) 0 0) + 0) : Int) = _ by omega)) (pAll1 (pgP 98 418 (by decide) (by decide +kernel) (by decide +kernel) 3 (show (3 + 0 : Int) = _ by omega) (show (0 + (1 * (fMV (wN h) (wB h) 0 3) + 0) : Int) = _ by omega)) (pAll1 (pgP 98 418 (by decide) (by decide +kernel) (by decide +kernel) 4 (show (4 + 0 : Int) = _ by omega) (show (0 + (1 * (fMV (wN h) (wB h) 1 0) + 0) : Int) = _ by omega)) (pAll0)))
    · have hw : ¬ fWh (wN h) (wB h) := fun z => k0 (z.2 0 (by omega)).2
      rw [yB_0 hw] at eW
      refine ⟨rWH6m_2, List.mem_of_getElem? (i := 2) rfl, pEnd [ρ 0, ρ 1, ρ 2, ρ 3, ρ 4, ρ 5, (fMV (wN h) (wB h) 0 0), (fMV (wN h) (wB h) 0 3)] rfl ?_ ?_ ?_ ?_⟩
      · intro j hj
        match j, hj with
        | 0, _ => exact q0.symm
        | 1, _ => exact q1.symm
        | 2, _ => exact q2.symm
        | 3, _ => exact q3.symm
        | 4, _ => exact q4.symm
        | 5, _ => exact q5.symm
        | k + 6, hj => exact absurd hj (by show ¬ (k + 6 < 6); omega)
      · intro k b hk
        match k, hk with
        | 0, hk => cases hk; exact (show (0 : Int) ≤ (fMV (wN h) (wB h) 0 0) ∧ (fMV (wN h) (wB h) 0 0) ≤ (99 : Int) by omega)
        | 1, hk => cases hk; exact (show (0 : Int) ≤ (fMV (wN h) (wB h) 0 3) ∧ (fMV (wN h) (wB h) 0 3) ≤ (99 : Int) by omega)
        | k + 2, hk => cases hk
      · exact pAll1 (show (0 + (1 * ρ 4 + 0) : Int) ≤ 0 by omega) (pAll1 (show (0 + ((-1) * ρ 4 + 0) : Int) ≤ 0 by omega) (pAll1 (show (0 + ((-1) * ρ 2 + (1 * (fMV (wN h) (wB h) 0 0) + 0)) : Int) ≤ 0 by omega) (pAll1 (show (0 + (1 * ρ 2 + ((-1) * (fMV (wN h) (wB h) 0 3) + 0)) : Int) ≤ 0 by omega) (pAll0))))
      · exact pAll1 (pgP 98 418 (by decide) (by decide +kernel) (by decide +kernel) 0 (show (0 + 0 : Int) = _ by omega) (show (0 + (1 * (fMV (wN h) (wB h) 0 0) + 0) : Int) = _ by omega)) (pAll1 (pgP 98 418 (by decide) (by decide +kernel) (by decide +kernel) 3 (show (3 + 0 : Int) = _ by omega) (show (0 + (1 * (fMV (wN h) (wB h) 0 3) + 0) : Int) = _ by omega)) (pAll0))
  · have hw : ¬ fWh (wN h) (wB h) := fun z => g0 (z.2 0 (by omega)).1
    rw [yB_0 hw] at eW
    refine ⟨rWH6m_1, List.mem_of_getElem? (i := 1) rfl, pEnd [ρ 0, ρ 1, ρ 2, ρ 3, ρ 4, ρ 5, (fMV (wN h) (wB h) 0 0)] rfl ?_ ?_ ?_ ?_⟩
    · intro j hj
      match j, hj with
      | 0, _ => exact q0.symm
      | 1, _ => exact q1.symm
      | 2, _ => exact q2.symm
      | 3, _ => exact q3.symm
      | 4, _ => exact q4.symm
      | 5, _ => exact q5.symm
      | k + 6, hj => exact absurd hj (by show ¬ (k + 6 < 6); omega)
    · intro k b hk
      match k, hk with
      | 0, hk => cases hk; exact (show (0 : Int) ≤ (fMV (wN h) (wB h) 0 0) ∧ (fMV (wN h) (wB h) 0 0) ≤ (99 : Int) by omega)
      | k + 1, hk => cases hk
    · exact pAll1 (show (0 + (1 * ρ 4 + 0) : Int) ≤ 0 by omega) (pAll1 (show (0 + ((-1) * ρ 4 + 0) : Int) ≤ 0 by omega) (pAll1 (show (1 + (1 * ρ 2 + ((-1) * (fMV (wN h) (wB h) 0 0) + 0)) : Int) ≤ 0 by omega) (pAll0)))
    · exact pAll1 (pgP 98 418 (by decide) (by decide +kernel) (by decide +kernel) 0 (show (0 + 0 : Int) = _ by omega) (show (0 + (1 * (fMV (wN h) (wB h) 0 0) + 0) : Int) = _ by omega)) (pAll0)
