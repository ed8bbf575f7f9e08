/-! rules of feed's bytes, the byte told by a local -/
noncomputable def rBCs_0 : sX := (none, [], [], [(0, [(2, 1)]), (0, [(2, (-1))]), (0, [(3, (-1)), (4, 1)]), (0, [(3, 1), (4, (-1))])], [])
noncomputable def rBCs_1 : sX := (none, [], [], [(1, [(2, (-1))]), ((-1), [(3, (-1)), (4, 1)]), (1, [(3, 1), (4, (-1))])], [])
noncomputable def rBCs : sQ := (0, ([], [(2, 1021, (0, [])), (0, 7, (0, [])), (2, 544, (0, [(1, 1)])), (2, 546, (0, [(1, 1)])), (2, 546, (1, [(1, 1)]))], [(1, 1), (0, 19), (0, 255), (0, 260), (0, 260)], [], [(0, 0), (1, 1), (2, 2), (3, 3), (4, 4)], (0, [])), [rBCs_0, rBCs_1], [], 0)
theorem rBCs_ok : pRul pReg pG pgv rBCs := by
  intro loc h ρ ρ0 hG hM
  have hM : sMt pReg pgv ρ ρ0 (sAs rBCs.2.1) loc [] h := hM
  have q0 : ρ0 1 = ρ 0 := (hM.2.2.2.2.2 (1, sY 0) (List.mem_of_getElem? (i := 1) rfl)).trans (sY_v ρ 0)
  have q1 : ρ0 2 = ρ 1 := (hM.2.2.2.2.2 (2, sY 1) (List.mem_of_getElem? (i := 2) rfl)).trans (sY_v ρ 1)
  have q2 : ρ0 3 = ρ 2 := (hM.2.2.2.2.2 (3, sY 2) (List.mem_of_getElem? (i := 3) rfl)).trans (sY_v ρ 2)
  have q3 : ρ0 4 = ρ 3 := (hM.2.2.2.2.2 (4, sY 3) (List.mem_of_getElem? (i := 4) rfl)).trans (sY_v ρ 3)
  have q4 : ρ0 5 = ρ 4 := (hM.2.2.2.2.2 (5, sY 4) (List.mem_of_getElem? (i := 5) rfl)).trans (sY_v ρ 4)
  have hL : ∀ j, j < 5 → pL [ρ 0, ρ 1, ρ 2, ρ 3, ρ 4] j = ρ0 (j + 1) := by
    intro j hj
    match j, hj with
    | 0, _ => exact q0.symm
    | 1, _ => exact q1.symm
    | 2, _ => exact q2.symm
    | 3, _ => exact q3.symm
    | 4, _ => exact q4.symm
    | k + 5, hj => omega
  have b0 : (1 : Int) ≤ ρ 0 ∧ ρ 0 ≤ 1 := hM.2.2.2.1 0 (1, 1) rfl
  have b1 : (0 : Int) ≤ ρ 1 ∧ ρ 1 ≤ 19 := hM.2.2.2.1 1 (0, 19) rfl
  have b2 : (0 : Int) ≤ ρ 2 ∧ ρ 2 ≤ 255 := hM.2.2.2.1 2 (0, 255) rfl
  have b3 : (0 : Int) ≤ ρ 3 ∧ ρ 3 ≤ 260 := hM.2.2.2.1 3 (0, 260) rfl
  have b4 : (0 : Int) ≤ ρ 4 ∧ ρ 4 ≤ 260 := hM.2.2.2.1 4 (0, 260) rfl
  have hd := pTold21 hM 0 (0, []) rfl b0.1 (ρ 1).toNat (by omega)
  have v1 := pPl hM 2 544 (0, [(1, 1)]) rfl (by decide) 544 (ρ 1).toNat (by decide +kernel) (by show (0 + (1 * ρ 1 + 0) : Int) = _; omega)
  have v2 := pPl hM 3 546 (0, [(1, 1)]) rfl (by decide) 546 (ρ 1).toNat (by decide +kernel) (by show (0 + (1 * ρ 1 + 0) : Int) = _; omega)
  have v3 := pPl hM 4 546 (1, [(1, 1)]) rfl (by decide) 546 ((ρ 1).toNat + 1) (by decide +kernel) (by show (1 + (1 * ρ 1 + 0) : Int) = (((ρ 1).toNat + 1 : Nat) : Int); omega)
  rw [v1, v2, v3] at hd
  have key : (ρ 2 = 0 ∧ ρ 4 = ρ 3) ∨ (1 ≤ ρ 2 ∧ ρ 4 = ρ 3 + 1 ∧ (h.1 547 (ρ 3).toNat).toInt = ρ 2) := by
    by_cases h0 : ρ 2 = 0
    · exact Or.inl ⟨h0, hd.1 h0⟩
    · obtain ⟨a1, -, a3⟩ := hd.2 h0
      exact Or.inr ⟨by omega, a1, a3⟩
  rcases key with ⟨a1, a2⟩ | ⟨a1, a2, a3⟩
  · refine ⟨rBCs_0, List.mem_of_getElem? (i := 0) rfl, pEnd [ρ 0, ρ 1, ρ 2, ρ 3, ρ 4] rfl hL (fun k b hk => by cases hk) ?_ pAll0⟩
    exact pAll1 (show (0 + (1 * ρ 2 + 0) : Int) ≤ 0 by omega) (pAll1 (show (0 + ((-1) * ρ 2 + 0) : Int) ≤ 0 by omega) (pAll1 (show (0 + ((-1) * ρ 3 + (1 * ρ 4 + 0)) : Int) ≤ 0 by omega) (pAll1 (show (0 + (1 * ρ 3 + ((-1) * ρ 4 + 0)) : Int) ≤ 0 by omega) pAll0)))
  · refine ⟨rBCs_1, List.mem_of_getElem? (i := 1) rfl, pEnd [ρ 0, ρ 1, ρ 2, ρ 3, ρ 4] rfl hL (fun k b hk => by cases hk) ?_ pAll0⟩
    exact pAll1 (show (1 + ((-1) * ρ 2 + 0) : Int) ≤ 0 by omega) (pAll1 (show ((-1) + ((-1) * ρ 3 + (1 * ρ 4 + 0)) : Int) ≤ 0 by omega) (pAll1 (show (1 + (1 * ρ 3 + ((-1) * ρ 4 + 0)) : Int) ≤ 0 by omega) pAll0))
noncomputable def rBMs_0 : sX := (none, [], [], [(0, [(2, 1)]), (0, [(2, (-1))]), (0, [(4, 1), (5, (-1))]), (0, [(4, (-1)), (5, 1)])], [])
noncomputable def rBMs_1 : sX := (none, [], [], [(1, [(2, (-1))]), ((-1), [(4, 1), (5, (-1))]), (1, [(4, (-1)), (5, 1)]), (0, [(2, (-1)), (6, 1)]), (0, [(2, 1), (6, (-1))])], [])
noncomputable def rBMs : sQ := (0, ([], [(2, 1021, (0, [])), (0, 7, (0, [])), (2, 544, (0, [(1, 1)])), (2, 546, (0, [(1, 1)])), (2, 546, (1, [(1, 1)])), (2, 120, (2, [])), (2, 547, (0, [(5, 1)]))], [(1, 1), (0, 19), (0, 255), (0, 260), (0, 260), (0, 240), (0, 255)], [(0, [(3, 1), (5, (-1))]), (0, [(3, (-1)), (5, 1)])], [(0, 0), (1, 1), (2, 2), (3, 3), (4, 4), (5, 5), (6, 6)], (0, [])), [rBMs_0, rBMs_1], [], 0)
theorem rBMs_ok : pRul pReg pG pgv rBMs := by
  intro loc h ρ ρ0 hG hM
  have hM : sMt pReg pgv ρ ρ0 (sAs rBMs.2.1) loc [] h := hM
  have q0 : ρ0 1 = ρ 0 := (hM.2.2.2.2.2 (1, sY 0) (List.mem_of_getElem? (i := 1) rfl)).trans (sY_v ρ 0)
  have q1 : ρ0 2 = ρ 1 := (hM.2.2.2.2.2 (2, sY 1) (List.mem_of_getElem? (i := 2) rfl)).trans (sY_v ρ 1)
  have q2 : ρ0 3 = ρ 2 := (hM.2.2.2.2.2 (3, sY 2) (List.mem_of_getElem? (i := 3) rfl)).trans (sY_v ρ 2)
  have q3 : ρ0 4 = ρ 3 := (hM.2.2.2.2.2 (4, sY 3) (List.mem_of_getElem? (i := 4) rfl)).trans (sY_v ρ 3)
  have q4 : ρ0 5 = ρ 4 := (hM.2.2.2.2.2 (5, sY 4) (List.mem_of_getElem? (i := 5) rfl)).trans (sY_v ρ 4)
  have q5 : ρ0 6 = ρ 5 := (hM.2.2.2.2.2 (6, sY 5) (List.mem_of_getElem? (i := 6) rfl)).trans (sY_v ρ 5)
  have q6 : ρ0 7 = ρ 6 := (hM.2.2.2.2.2 (7, sY 6) (List.mem_of_getElem? (i := 7) rfl)).trans (sY_v ρ 6)
  have hL : ∀ j, j < 7 → pL [ρ 0, ρ 1, ρ 2, ρ 3, ρ 4, ρ 5, ρ 6] j = ρ0 (j + 1) := by
    intro j hj
    match j, hj with
    | 0, _ => exact q0.symm
    | 1, _ => exact q1.symm
    | 2, _ => exact q2.symm
    | 3, _ => exact q3.symm
    | 4, _ => exact q4.symm
    | 5, _ => exact q5.symm
    | 6, _ => exact q6.symm
    | k + 7, hj => omega
  have b0 : (1 : Int) ≤ ρ 0 ∧ ρ 0 ≤ 1 := hM.2.2.2.1 0 (1, 1) rfl
  have b1 : (0 : Int) ≤ ρ 1 ∧ ρ 1 ≤ 19 := hM.2.2.2.1 1 (0, 19) rfl
  have b2 : (0 : Int) ≤ ρ 2 ∧ ρ 2 ≤ 255 := hM.2.2.2.1 2 (0, 255) rfl
  have b3 : (0 : Int) ≤ ρ 3 ∧ ρ 3 ≤ 260 := hM.2.2.2.1 3 (0, 260) rfl
  have b4 : (0 : Int) ≤ ρ 4 ∧ ρ 4 ≤ 260 := hM.2.2.2.1 4 (0, 260) rfl
  have b5 : (0 : Int) ≤ ρ 5 ∧ ρ 5 ≤ 240 := hM.2.2.2.1 5 (0, 240) rfl
  have b6 : (0 : Int) ≤ ρ 6 ∧ ρ 6 ≤ 255 := hM.2.2.2.1 6 (0, 255) rfl
  have c0 : (0 + (1 * ρ 3 + ((-1) * ρ 5 + 0)) : Int) ≤ 0 := hM.2.2.2.2.1 (0, [(3, 1), (5, (-1))]) (List.mem_of_getElem? (i := 0) rfl)
  have c1 : (0 + ((-1) * ρ 3 + (1 * ρ 5 + 0)) : Int) ≤ 0 := hM.2.2.2.2.1 (0, [(3, (-1)), (5, 1)]) (List.mem_of_getElem? (i := 1) rfl)
  have hd := pTold21 hM 0 (0, []) rfl b0.1 (ρ 1).toNat (by omega)
  have v1 := pPl hM 2 544 (0, [(1, 1)]) rfl (by decide) 544 (ρ 1).toNat (by decide +kernel) (by show (0 + (1 * ρ 1 + 0) : Int) = _; omega)
  have v2 := pPl hM 3 546 (0, [(1, 1)]) rfl (by decide) 546 (ρ 1).toNat (by decide +kernel) (by show (0 + (1 * ρ 1 + 0) : Int) = _; omega)
  have v3 := pPl hM 4 546 (1, [(1, 1)]) rfl (by decide) 546 ((ρ 1).toNat + 1) (by decide +kernel) (by show (1 + (1 * ρ 1 + 0) : Int) = (((ρ 1).toNat + 1 : Nat) : Int); omega)
  rw [v1, v2, v3] at hd
  have key : (ρ 2 = 0 ∧ ρ 4 = ρ 3) ∨ (1 ≤ ρ 2 ∧ ρ 4 = ρ 3 + 1 ∧ (h.1 547 (ρ 3).toNat).toInt = ρ 2) := by
    by_cases h0 : ρ 2 = 0
    · exact Or.inl ⟨h0, hd.1 h0⟩
    · obtain ⟨a1, -, a3⟩ := hd.2 h0
      exact Or.inr ⟨by omega, a1, a3⟩
  rcases key with ⟨a1, a2⟩ | ⟨a1, a2, a3⟩
  · refine ⟨rBMs_0, List.mem_of_getElem? (i := 0) rfl, pEnd [ρ 0, ρ 1, ρ 2, ρ 3, ρ 4, ρ 5, ρ 6] rfl hL (fun k b hk => by cases hk) ?_ pAll0⟩
    exact pAll1 (show (0 + (1 * ρ 2 + 0) : Int) ≤ 0 by omega) (pAll1 (show (0 + ((-1) * ρ 2 + 0) : Int) ≤ 0 by omega) (pAll1 (show (0 + (1 * ρ 4 + ((-1) * ρ 5 + 0)) : Int) ≤ 0 by omega) (pAll1 (show (0 + ((-1) * ρ 4 + (1 * ρ 5 + 0)) : Int) ≤ 0 by omega) pAll0)))
  · have v5 := pPl hM 6 547 (0, [(5, 1)]) rfl (by decide) 547 (ρ 3).toNat (by decide +kernel) (by show (0 + (1 * ρ 5 + 0) : Int) = _; omega)
    refine ⟨rBMs_1, List.mem_of_getElem? (i := 1) rfl, pEnd [ρ 0, ρ 1, ρ 2, ρ 3, ρ 4, ρ 5, ρ 6] rfl hL (fun k b hk => by cases hk) ?_ pAll0⟩
    exact pAll1 (show (1 + ((-1) * ρ 2 + 0) : Int) ≤ 0 by omega) (pAll1 (show ((-1) + (1 * ρ 4 + ((-1) * ρ 5 + 0)) : Int) ≤ 0 by omega) (pAll1 (show (1 + ((-1) * ρ 4 + (1 * ρ 5 + 0)) : Int) ≤ 0 by omega) (pAll1 (show (0 + ((-1) * ρ 2 + (1 * ρ 6 + 0)) : Int) ≤ 0 by omega) (pAll1 (show (0 + (1 * ρ 2 + ((-1) * ρ 6 + 0)) : Int) ≤ 0 by omega) pAll0))))
