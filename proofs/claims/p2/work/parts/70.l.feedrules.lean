/-! rules of feed's bytes -/
theorem pTold21 {ρ ρ0 : Nat → Int} {A : sA} {loc : zL} {h : zH} (hM : sMt pReg pgv ρ ρ0 (sAs A) loc [] h) (k : Nat) (i : sE) (e : A.2.1[k]? = some (2, 1021, i)) (h1 : 1 ≤ ρ k) : wFd h := yB_p (pTl hM k 21 i e) h1
noncomputable def rBO_0 (o : Int) : sX := (none, [], [], [(0, [(1, 1)]), (0, [(1, (-1))]), (-o, [(3, 1), (4, (-1))]), (o, [(3, (-1)), (4, 1)])], [])
noncomputable def rBO_1 (o : Int) : sX := (none, [], [], [(1, [(1, (-1))]), (-o - 1, [(3, 1), (4, (-1))]), (o + 1, [(3, (-1)), (4, 1)]), (0, [(1, (-1)), (5, 1)]), (0, [(1, 1), (5, (-1))])], [])
noncomputable def rBO (k : Nat) (o : Int) : sQ := (0, ([], [(2, 1021, (0, [])), (2, 544, ((k : Int), [])), (2, 546, ((k : Int), [])), (2, 546, ((k : Int) + 1, [])), (2, 41, (1, [])), (2, 547, (o, [(4, 1)]))], [(1, 1), (0, 255), (0, 260), (0, 260), (0, 240), (0, 255)], [(-o, [(2, 1), (4, (-1))]), (o, [(2, (-1)), (4, 1)])], [(0, 0), (1, 1), (2, 2), (3, 3), (4, 4), (5, 5)], (0, [])), [rBO_0 o, rBO_1 o], [], 0)
noncomputable def rBM_0 : sX := (none, [], [], [(0, [(1, 1)]), (0, [(1, (-1))]), (0, [(3, 1), (4, (-1))]), (0, [(3, (-1)), (4, 1)])], [])
noncomputable def rBM_1 : sX := (none, [], [], [(1, [(1, (-1))]), ((-1), [(3, 1), (4, (-1))]), (1, [(3, (-1)), (4, 1)]), (0, [(1, (-1)), (5, 1)]), (0, [(1, 1), (5, (-1))])], [])
noncomputable def rBM (k : Nat) : sQ := (0, ([], [(2, 1021, (0, [])), (2, 544, ((k : Int), [])), (2, 546, ((k : Int), [])), (2, 546, ((k : Int) + 1, [])), (2, 120, (2, [])), (2, 547, (0, [(4, 1)]))], [(1, 1), (0, 255), (0, 260), (0, 260), (0, 240), (0, 255)], [(0, [(2, 1), (4, (-1))]), (0, [(2, (-1)), (4, 1)])], [(0, 0), (1, 1), (2, 2), (3, 3), (4, 4), (5, 5)], (0, [])), [rBM_0, rBM_1], [], 0)
noncomputable def rBC_0 : sX := (none, [], [], [(0, [(1, 1)]), (0, [(1, (-1))]), (0, [(2, (-1)), (3, 1)]), (0, [(2, 1), (3, (-1))])], [])
noncomputable def rBC_1 : sX := (none, [], [], [(1, [(1, (-1))]), ((-1), [(2, (-1)), (3, 1)]), (1, [(2, 1), (3, (-1))])], [])
noncomputable def rBC (k : Nat) : sQ := (0, ([], [(2, 1021, (0, [])), (2, 544, ((k : Int), [])), (2, 546, ((k : Int), [])), (2, 546, ((k : Int) + 1, []))], [(1, 1), (0, 255), (0, 260), (0, 260)], [], [(0, 0), (1, 1), (2, 2), (3, 3)], (0, [])), [rBC_0, rBC_1], [], 0)
/-- what the places of byte k tell -/
theorem pByt {ρ ρ0 : Nat → Int} {A : sA} {loc : zL} {h : zH} {k : Nat} (hk : k < 20) (hM : sMt pReg pgv ρ ρ0 (sAs A) loc [] h) (b0 : 1 ≤ ρ 0) (b1 : 0 ≤ ρ 1) (b2 : 0 ≤ ρ 2) (e0 : A.2.1[0]? = some (2, 1021, (0, []))) (e1 : A.2.1[1]? = some (2, 544, ((k : Int), []))) (e2 : A.2.1[2]? = some (2, 546, ((k : Int), []))) (e3 : A.2.1[3]? = some (2, 546, ((k : Int) + 1, []))) : (ρ 1 = 0 ∧ ρ 3 = ρ 2) ∨ (1 ≤ ρ 1 ∧ ρ 3 = ρ 2 + 1 ∧ (h.1 547 (ρ 2).toNat).toInt = ρ 1) := by
  have hd := pTold21 hM 0 (0, []) e0 b0 k hk
  have v1 := pPl hM 1 544 _ e1 (by decide) 544 k (by decide +kernel) (by show (k : Int) + 0 = k; omega)
  have v2 := pPl hM 2 546 _ e2 (by decide) 546 k (by decide +kernel) (by show (k : Int) + 0 = k; omega)
  have v3 := pPl hM 3 546 _ e3 (by decide) 546 (k + 1) (by decide +kernel) (by show (k : Int) + 1 + 0 = ((k + 1 : Nat) : Int); omega)
  rw [v1, v2, v3] at hd
  by_cases h0 : ρ 1 = 0
  · exact Or.inl ⟨h0, hd.1 h0⟩
  · obtain ⟨a1, -, a3⟩ := hd.2 h0
    exact Or.inr ⟨by omega, a1, a3⟩
theorem rBO_ok (k : Nat) (o : Int) (hk : k < 20) : pRul pReg pG pgv (rBO k o) := by
  intro loc h ρ ρ0 hG hM
  have hM : sMt pReg pgv ρ ρ0 (sAs (rBO k o).2.1) loc [] h := hM
  have q0 : ρ0 1 = ρ 0 := (hM.2.2.2.2.2 (1, sY 0) (List.mem_of_getElem? (i := 1) rfl)).trans (sY_v ρ 0)
  have q1 : ρ0 2 = ρ 1 := (hM.2.2.2.2.2 (2, sY 1) (List.mem_of_getElem? (i := 2) rfl)).trans (sY_v ρ 1)
  have q2 : ρ0 3 = ρ 2 := (hM.2.2.2.2.2 (3, sY 2) (List.mem_of_getElem? (i := 3) rfl)).trans (sY_v ρ 2)
  have q3 : ρ0 4 = ρ 3 := (hM.2.2.2.2.2 (4, sY 3) (List.mem_of_getElem? (i := 4) rfl)).trans (sY_v ρ 3)
  have q4 : ρ0 5 = ρ 4 := (hM.2.2.2.2.2 (5, sY 4) (List.mem_of_getElem? (i := 5) rfl)).trans (sY_v ρ 4)
  have q5 : ρ0 6 = ρ 5 := (hM.2.2.2.2.2 (6, sY 5) (List.mem_of_getElem? (i := 6) rfl)).trans (sY_v ρ 5)
  have hL : ∀ j, j < 6 → pL [ρ 0, ρ 1, ρ 2, ρ 3, ρ 4, ρ 5] j = ρ0 (j + 1) := by
    intro j hj
    match j, hj with
    | 0, _ => exact q0.symm
    | 1, _ => exact q1.symm
    | 2, _ => exact q2.symm
    | 3, _ => exact q3.symm
    | 4, _ => exact q4.symm
    | 5, _ => exact q5.symm
    | k + 6, hj => omega
  have b0 : (1 : Int) ≤ ρ 0 ∧ ρ 0 ≤ 1 := hM.2.2.2.1 0 (1, 1) rfl
  have b1 : (0 : Int) ≤ ρ 1 ∧ ρ 1 ≤ 255 := hM.2.2.2.1 1 (0, 255) rfl
  have b2 : (0 : Int) ≤ ρ 2 ∧ ρ 2 ≤ 260 := hM.2.2.2.1 2 (0, 260) rfl
  have c0 : (-o + (1 * ρ 2 + ((-1) * ρ 4 + 0)) : Int) ≤ 0 := hM.2.2.2.2.1 (-o, [(2, 1), (4, (-1))]) (List.mem_of_getElem? (i := 0) rfl)
  have c1 : (o + ((-1) * ρ 2 + (1 * ρ 4 + 0)) : Int) ≤ 0 := hM.2.2.2.2.1 (o, [(2, (-1)), (4, 1)]) (List.mem_of_getElem? (i := 1) rfl)
  rcases pByt hk hM b0.1 b1.1 b2.1 rfl rfl rfl rfl with ⟨a1, a2⟩ | ⟨a1, a2, a3⟩
  · refine ⟨rBO_0 o, List.mem_of_getElem? (i := 0) rfl, pEnd [ρ 0, ρ 1, ρ 2, ρ 3, ρ 4, ρ 5] rfl hL (fun k b hk => by cases hk) ?_ pAll0⟩
    exact pAll1 (show (0 + (1 * ρ 1 + 0) : Int) ≤ 0 by omega) (pAll1 (show (0 + ((-1) * ρ 1 + 0) : Int) ≤ 0 by omega) (pAll1 (show (-o + (1 * ρ 3 + ((-1) * ρ 4 + 0)) : Int) ≤ 0 by omega) (pAll1 (show (o + ((-1) * ρ 3 + (1 * ρ 4 + 0)) : Int) ≤ 0 by omega) pAll0)))
  · have v5 := pPl hM 5 547 (o, [(4, 1)]) rfl (by decide) 547 (ρ 2).toNat (by decide +kernel) (by show (o + (1 * ρ 4 + 0) : Int) = _; omega)
    refine ⟨rBO_1 o, List.mem_of_getElem? (i := 1) rfl, pEnd [ρ 0, ρ 1, ρ 2, ρ 3, ρ 4, ρ 5] rfl hL (fun k b hk => by cases hk) ?_ pAll0⟩
    exact pAll1 (show (1 + ((-1) * ρ 1 + 0) : Int) ≤ 0 by omega) (pAll1 (show (-o - 1 + (1 * ρ 3 + ((-1) * ρ 4 + 0)) : Int) ≤ 0 by omega) (pAll1 (show (o + 1 + ((-1) * ρ 3 + (1 * ρ 4 + 0)) : Int) ≤ 0 by omega) (pAll1 (show (0 + ((-1) * ρ 1 + (1 * ρ 5 + 0)) : Int) ≤ 0 by omega) (pAll1 (show (0 + (1 * ρ 1 + ((-1) * ρ 5 + 0)) : Int) ≤ 0 by omega) pAll0))))
theorem rBM_ok (k : Nat) (hk : k < 20) : pRul pReg pG pgv (rBM k) := by
  intro loc h ρ ρ0 hG hM
  have hM : sMt pReg pgv ρ ρ0 (sAs (rBM k).2.1) loc [] h := hM
  have q0 : ρ0 1 = ρ 0 := (hM.2.2.2.2.2 (1, sY 0) (List.mem_of_getElem? (i := 1) rfl)).trans (sY_v ρ 0)
  have q1 : ρ0 2 = ρ 1 := (hM.2.2.2.2.2 (2, sY 1) (List.mem_of_getElem? (i := 2) rfl)).trans (sY_v ρ 1)
  have q2 : ρ0 3 = ρ 2 := (hM.2.2.2.2.2 (3, sY 2) (List.mem_of_getElem? (i := 3) rfl)).trans (sY_v ρ 2)
  have q3 : ρ0 4 = ρ 3 := (hM.2.2.2.2.2 (4, sY 3) (List.mem_of_getElem? (i := 4) rfl)).trans (sY_v ρ 3)
  have q4 : ρ0 5 = ρ 4 := (hM.2.2.2.2.2 (5, sY 4) (List.mem_of_getElem? (i := 5) rfl)).trans (sY_v ρ 4)
  have q5 : ρ0 6 = ρ 5 := (hM.2.2.2.2.2 (6, sY 5) (List.mem_of_getElem? (i := 6) rfl)).trans (sY_v ρ 5)
  have hL : ∀ j, j < 6 → pL [ρ 0, ρ 1, ρ 2, ρ 3, ρ 4, ρ 5] j = ρ0 (j + 1) := by
    intro j hj
    match j, hj with
    | 0, _ => exact q0.symm
    | 1, _ => exact q1.symm
    | 2, _ => exact q2.symm
    | 3, _ => exact q3.symm
    | 4, _ => exact q4.symm
    | 5, _ => exact q5.symm
    | k + 6, hj => omega
  have b0 : (1 : Int) ≤ ρ 0 ∧ ρ 0 ≤ 1 := hM.2.2.2.1 0 (1, 1) rfl
  have b1 : (0 : Int) ≤ ρ 1 ∧ ρ 1 ≤ 255 := hM.2.2.2.1 1 (0, 255) rfl
  have b2 : (0 : Int) ≤ ρ 2 ∧ ρ 2 ≤ 260 := hM.2.2.2.1 2 (0, 260) rfl
  have c0 : (0 + (1 * ρ 2 + ((-1) * ρ 4 + 0)) : Int) ≤ 0 := hM.2.2.2.2.1 (0, [(2, 1), (4, (-1))]) (List.mem_of_getElem? (i := 0) rfl)
  have c1 : (0 + ((-1) * ρ 2 + (1 * ρ 4 + 0)) : Int) ≤ 0 := hM.2.2.2.2.1 (0, [(2, (-1)), (4, 1)]) (List.mem_of_getElem? (i := 1) rfl)
  rcases pByt hk hM b0.1 b1.1 b2.1 rfl rfl rfl rfl with ⟨a1, a2⟩ | ⟨a1, a2, a3⟩
  · refine ⟨rBM_0, List.mem_of_getElem? (i := 0) rfl, pEnd [ρ 0, ρ 1, ρ 2, ρ 3, ρ 4, ρ 5] rfl hL (fun k b hk => by cases hk) ?_ pAll0⟩
    exact pAll1 (show (0 + (1 * ρ 1 + 0) : Int) ≤ 0 by omega) (pAll1 (show (0 + ((-1) * ρ 1 + 0) : Int) ≤ 0 by omega) (pAll1 (show (0 + (1 * ρ 3 + ((-1) * ρ 4 + 0)) : Int) ≤ 0 by omega) (pAll1 (show (0 + ((-1) * ρ 3 + (1 * ρ 4 + 0)) : Int) ≤ 0 by omega) pAll0)))
  · have v5 := pPl hM 5 547 (0, [(4, 1)]) rfl (by decide) 547 (ρ 2).toNat (by decide +kernel) (by show (0 + (1 * ρ 4 + 0) : Int) = _; omega)
    refine ⟨rBM_1, List.mem_of_getElem? (i := 1) rfl, pEnd [ρ 0, ρ 1, ρ 2, ρ 3, ρ 4, ρ 5] rfl hL (fun k b hk => by cases hk) ?_ pAll0⟩
    exact pAll1 (show (1 + ((-1) * ρ 1 + 0) : Int) ≤ 0 by omega) (pAll1 (show ((-1) + (1 * ρ 3 + ((-1) * ρ 4 + 0)) : Int) ≤ 0 by omega) (pAll1 (show (1 + ((-1) * ρ 3 + (1 * ρ 4 + 0)) : Int) ≤ 0 by omega) (pAll1 (show (0 + ((-1) * ρ 1 + (1 * ρ 5 + 0)) : Int) ≤ 0 by omega) (pAll1 (show (0 + (1 * ρ 1 + ((-1) * ρ 5 + 0)) : Int) ≤ 0 by omega) pAll0))))
theorem rBC_ok (k : Nat) (hk : k < 20) : pRul pReg pG pgv (rBC k) := by
  intro loc h ρ ρ0 hG hM
  have hM : sMt pReg pgv ρ ρ0 (sAs (rBC k).2.1) loc [] h := hM
  have q0 : ρ0 1 = ρ 0 := (hM.2.2.2.2.2 (1, sY 0) (List.mem_of_getElem? (i := 1) rfl)).trans (sY_v ρ 0)
  have q1 : ρ0 2 = ρ 1 := (hM.2.2.2.2.2 (2, sY 1) (List.mem_of_getElem? (i := 2) rfl)).trans (sY_v ρ 1)
  have q2 : ρ0 3 = ρ 2 := (hM.2.2.2.2.2 (3, sY 2) (List.mem_of_getElem? (i := 3) rfl)).trans (sY_v ρ 2)
  have q3 : ρ0 4 = ρ 3 := (hM.2.2.2.2.2 (4, sY 3) (List.mem_of_getElem? (i := 4) rfl)).trans (sY_v ρ 3)
  have hL : ∀ j, j < 4 → pL [ρ 0, ρ 1, ρ 2, ρ 3] j = ρ0 (j + 1) := by
    intro j hj
    match j, hj with
    | 0, _ => exact q0.symm
    | 1, _ => exact q1.symm
    | 2, _ => exact q2.symm
    | 3, _ => exact q3.symm
    | k + 4, hj => omega
  have b0 : (1 : Int) ≤ ρ 0 ∧ ρ 0 ≤ 1 := hM.2.2.2.1 0 (1, 1) rfl
  have b1 : (0 : Int) ≤ ρ 1 ∧ ρ 1 ≤ 255 := hM.2.2.2.1 1 (0, 255) rfl
  have b2 : (0 : Int) ≤ ρ 2 ∧ ρ 2 ≤ 260 := hM.2.2.2.1 2 (0, 260) rfl
  rcases pByt hk hM b0.1 b1.1 b2.1 rfl rfl rfl rfl with ⟨a1, a2⟩ | ⟨a1, a2, a3⟩
  · refine ⟨rBC_0, List.mem_of_getElem? (i := 0) rfl, pEnd [ρ 0, ρ 1, ρ 2, ρ 3] rfl hL (fun k b hk => by cases hk) ?_ pAll0⟩
    exact pAll1 (show (0 + (1 * ρ 1 + 0) : Int) ≤ 0 by omega) (pAll1 (show (0 + ((-1) * ρ 1 + 0) : Int) ≤ 0 by omega) (pAll1 (show (0 + ((-1) * ρ 2 + (1 * ρ 3 + 0)) : Int) ≤ 0 by omega) (pAll1 (show (0 + (1 * ρ 2 + ((-1) * ρ 3 + 0)) : Int) ≤ 0 by omega) pAll0)))
  · refine ⟨rBC_1, List.mem_of_getElem? (i := 1) rfl, pEnd [ρ 0, ρ 1, ρ 2, ρ 3] rfl hL (fun k b hk => by cases hk) ?_ pAll0⟩
    exact pAll1 (show (1 + ((-1) * ρ 1 + 0) : Int) ≤ 0 by omega) (pAll1 (show ((-1) + ((-1) * ρ 2 + (1 * ρ 3 + 0)) : Int) ≤ 0 by omega) (pAll1 (show (1 + (1 * ρ 2 + ((-1) * ρ 3 + 0)) : Int) ≤ 0 by omega) pAll0))
