/-! rules: what a place of the tape tells of others, as it stands with the class's reader and the reference's -/
theorem wBd_el {n : Nat} {x r : Int} {k : Nat → Int} {p st : Nat} (er : x = wBd r k) (hg : wGd n st p r) : (r < 0 ∧ x = r) ∨ ∃ a : Nat, r = (a : Int) ∧ p + st ≤ a ∧ a ≤ n ∧ x = k a := by
  rcases wBd_cs (k := k) hg with ⟨a1, a2⟩ | ⟨a, a1, a2, a3, a4⟩
  · exact Or.inl ⟨a1, er.trans a2⟩
  · exact Or.inr ⟨a, a1, a2, a3, er.trans a4⟩
theorem pTapec {h : zH} {ρx : Nat → Int} {idx val : sE} (hs : wOc h) (ho : wOk h) (p : Nat) (hp : p < wN h) (hj : sv ρx idx = (p : Int)) (hv : sv ρx val = wCh (wN h) (wB h) p) : smm pReg pgv ρx h (40, idx, val) := by
  unfold smm
  rw [if_pos (show (40, idx, val).1 < 1000 from (by decide : (40 : Nat) < 1000))]
  refine ⟨by show 0 ≤ sv ρx idx; omega, fun c hc => ?_⟩
  have hcell : c = 352 := pSing 352 c (by decide +kernel) (hc.trans (show (40 : Nat) = pReg 352 by decide +kernel))
  subst hcell
  show (h.1 352 (sv ρx idx).toNat).toInt = sv ρx val
  rw [hj, hv]
  unfold wCh
  rw [if_pos hp]
  exact hs.2 p hp
theorem pTapem {h : zH} {ρx : Nat → Int} {idx val : sE} (hs : wOm h) (ho : wOk h) (p : Nat) (hp : p < wN h) (hj : sv ρx idx = (p : Int)) (hv : sv ρx val = wCh (wN h) (wB h) p) : smm pReg pgv ρx h (87, idx, val) := by
  unfold smm
  rw [if_pos (show (87, idx, val).1 < 1000 from (by decide : (87 : Nat) < 1000))]
  refine ⟨by show 0 ≤ sv ρx idx; omega, fun c hc => ?_⟩
  have hcell : c = 407 := pSing 407 c (by decide +kernel) (hc.trans (show (87 : Nat) = pReg 407 by decide +kernel))
  subst hcell
  show (h.1 407 (sv ρx idx).toNat).toInt = sv ρx val
  rw [hj, hv]
  unfold wCh
  rw [if_pos hp]
  exact hs.2 p hp
noncomputable def rSKc_0 : sX := (none, [(500, (1, [(2, 1)]), (0, [(3, 1)])), (40, (0, [(2, 1)]), (0, [(5, 1)]))], [], [(1, [(1, (-1)), (2, 1)]), ((-32), [(5, 1)]), (32, [(5, (-1))])], [])
noncomputable def rSKc_1 : sX := (none, [(40, (0, [(2, 1)]), (0, [(5, 1)]))], [], [(1, [(1, (-1)), (2, 1)]), (0, [(2, (-1)), (3, 1)]), (0, [(2, 1), (3, (-1))]), (1, [(5, (-1))]), (0, [(4, 1), (5, (-1))]), (0, [(4, (-1)), (5, 1)]), ((-31), [(5, 1)])], [])
noncomputable def rSKc_2 : sX := (none, [(40, (0, [(2, 1)]), (0, [(5, 1)]))], [], [(1, [(1, (-1)), (2, 1)]), (0, [(2, (-1)), (3, 1)]), (0, [(2, 1), (3, (-1))]), (1, [(5, (-1))]), (0, [(4, 1), (5, (-1))]), (0, [(4, (-1)), (5, 1)]), (33, [(5, (-1))])], [])
noncomputable def rSKc_3 : sX := (none, [], [], [(0, [(1, (-1)), (2, 1)]), (0, [(1, 1), (2, (-1))]), (0, [(2, (-1)), (3, 1)]), (0, [(2, 1), (3, (-1))]), (0, [(5, 1)]), (0, [(5, (-1))]), (0, [(4, 1)]), (0, [(4, (-1))])], [])
noncomputable def rSKc : sQ := (0, ([], [(2, 1000, (0, [])), (2, 41, (1, [])), (2, 41, (2, [])), (2, 500, (0, [(2, 1)])), (2, 501, (0, [(3, 1)])), (2, 501, (0, [(2, 1)]))], [(1, 1), (0, 240), (0, 240), (0, 240), (0, 255), (0, 255)], [(0, [(1, (-1)), (2, 1)])], [(0, 0), (1, 1), (2, 2), (3, 3), (4, 4), (5, 5)], (0, [])), [rSKc_0, rSKc_1, rSKc_2, rSKc_3], [], 0)
theorem rSKc_ok : pRul pReg pG pgv rSKc := by
  intro loc h ρ ρ0 hG hM
  have hM : sMt pReg pgv ρ ρ0 (sAs rSKc.2.1) loc [] h := hM
  have q0 : ρ0 1 = ρ 0 := (hM.2.2.2.2.2 (1, sY 0) (List.mem_of_getElem? (i := 1) rfl)).trans (sY_v ρ 0)
  have q1 : ρ0 2 = ρ 1 := (hM.2.2.2.2.2 (2, sY 1) (List.mem_of_getElem? (i := 2) rfl)).trans (sY_v ρ 1)
  have q2 : ρ0 3 = ρ 2 := (hM.2.2.2.2.2 (3, sY 2) (List.mem_of_getElem? (i := 3) rfl)).trans (sY_v ρ 2)
  have q3 : ρ0 4 = ρ 3 := (hM.2.2.2.2.2 (4, sY 3) (List.mem_of_getElem? (i := 4) rfl)).trans (sY_v ρ 3)
  have q4 : ρ0 5 = ρ 4 := (hM.2.2.2.2.2 (5, sY 4) (List.mem_of_getElem? (i := 5) rfl)).trans (sY_v ρ 4)
  have q5 : ρ0 6 = ρ 5 := (hM.2.2.2.2.2 (6, sY 5) (List.mem_of_getElem? (i := 6) rfl)).trans (sY_v ρ 5)
  have hL : ∀ j, j < 6 → pL [ρ 0, ρ 1, ρ 2, ρ 3, ρ 4, ρ 5] j = ρ0 (j + 1) := by
    intro j hj
    match j, hj with
    | 0, _ => exact q0.symm
    | 1, _ => exact q1.symm
    | 2, _ => exact q2.symm
    | 3, _ => exact q3.symm
    | 4, _ => exact q4.symm
    | 5, _ => exact q5.symm
    | k + 6, hj => omega
  have b0 : (1 : Int) ≤ ρ 0 ∧ ρ 0 ≤ 1 := hM.2.2.2.1 0 (1, 1) rfl
  have b1 : (0 : Int) ≤ ρ 1 ∧ ρ 1 ≤ 240 := hM.2.2.2.1 1 (0, 240) rfl
  have b2 : (0 : Int) ≤ ρ 2 ∧ ρ 2 ≤ 240 := hM.2.2.2.1 2 (0, 240) rfl
  have b3 : (0 : Int) ≤ ρ 3 ∧ ρ 3 ≤ 240 := hM.2.2.2.1 3 (0, 240) rfl
  have b4 : (0 : Int) ≤ ρ 4 ∧ ρ 4 ≤ 255 := hM.2.2.2.1 4 (0, 255) rfl
  have b5 : (0 : Int) ≤ ρ 5 ∧ ρ 5 ≤ 255 := hM.2.2.2.1 5 (0, 255) rfl
  have c0 : (0 + ((-1) * ρ 1 + (1 * ρ 2 + 0)) : Int) ≤ 0 := hM.2.2.2.2.1 (0, [(1, (-1)), (2, 1)]) (List.mem_of_getElem? (i := 0) rfl)
  obtain ⟨ho, hs, hh⟩ := pTold0 hM 0 (0, []) rfl b0.1
  have hn := ho.1
  have en : ρ 1 = (wN h : Int) := (pPl hM 1 41 (1, []) rfl (by omega) 353 1 (by decide +kernel) rfl).symm.trans hs.1
  obtain ⟨p, ep⟩ : ∃ p : Nat, ρ 2 = (p : Int) := ⟨(ρ 2).toNat, by omega⟩
  have hp : p ≤ wN h := by omega
  obtain ⟨s1, s2⟩ := wSk_le (B := wB h) hp
  have es : ρ 3 = ((wSk (wN h) (wB h) (p)) : Int) := pfS hM ho hh 3 (0, [(2, 1)]) rfl (p := p) (by omega) (by show (0 + (1 * ρ 2 + 0) : Int) = _; omega)
  have ee : ρ 4 = (wCh (wN h) (wB h) ((wSk (wN h) (wB h) (p)))) := pfC hM ho hh 4 (0, [(3, 1)]) rfl (p := (wSk (wN h) (wB h) (p))) (by omega) (by show (0 + (1 * ρ 3 + 0) : Int) = _; omega)
  have cbe := wCh_bd ho ((wSk (wN h) (wB h) (p)))
  have cle : (wCh (wN h) (wB h) ((wSk (wN h) (wB h) (p)))) ≠ 0 → (wSk (wN h) (wB h) (p)) < wN h := wCh_lt
  have ec : ρ 5 = (wCh (wN h) (wB h) (p)) := pfC hM ho hh 5 (0, [(2, 1)]) rfl (p := p) (by omega) (by show (0 + (1 * ρ 2 + 0) : Int) = _; omega)
  have cbc := wCh_bd ho (p)
  have clc : (wCh (wN h) (wB h) (p)) ≠ 0 → p < wN h := wCh_lt
  have eS := wSk_eq (n := wN h) (B := wB h) (p := p)
  have eP : wCh (wN h) (wB h) p = if p < wN h then wB h p else 0 := rfl
  by_cases h1 : p < wN h
  · rw [if_pos h1] at eP
    by_cases h2 : wB h p = 32
    · rw [if_pos ⟨h1, h2⟩] at eS
      refine ⟨rSKc_0, List.mem_of_getElem? (i := 0) rfl, pEnd [ρ 0, ρ 1, ρ 2, ρ 3, ρ 4, ρ 5] rfl ?_ ?_ ?_ ?_⟩
      · exact hL
      · intro k b hk
        cases hk
      · exact pAll1 (show (1 + ((-1) * ρ 1 + (1 * ρ 2 + 0)) : Int) ≤ 0 by omega) (pAll1 (show ((-32) + (1 * ρ 5 + 0) : Int) ≤ 0 by omega) (pAll1 (show (32 + ((-1) * ρ 5 + 0) : Int) ≤ 0 by omega) (pAll0)))
      · exact pAll1 (pgS ho hh (p + 1) (by omega) (show (1 + (1 * ρ 2 + 0) : Int) = _ by omega) (show (0 + (1 * ρ 3 + 0) : Int) = _ by omega)) (pAll1 (pTapec hs ho p (by omega) (show (0 + (1 * ρ 2 + 0) : Int) = _ by omega) (show (0 + (1 * ρ 5 + 0) : Int) = _ by omega)) (pAll0))
    · rw [if_neg (fun z => h2 z.2)] at eS
      have ee : (wCh (wN h) (wB h) ((wSk (wN h) (wB h) (p)))) = (wCh (wN h) (wB h) (p)) := by rw [eS]
      have hu : (wCh (wN h) (wB h) (p)) ≤ 31 ∨ 33 ≤ (wCh (wN h) (wB h) (p)) := by omega
      rcases hu with hu | hu
      · refine ⟨rSKc_1, List.mem_of_getElem? (i := 1) rfl, pEnd [ρ 0, ρ 1, ρ 2, ρ 3, ρ 4, ρ 5] rfl ?_ ?_ ?_ ?_⟩
        · exact hL
        · intro k b hk
          cases hk
        · exact pAll1 (show (1 + ((-1) * ρ 1 + (1 * ρ 2 + 0)) : Int) ≤ 0 by omega) (pAll1 (show (0 + ((-1) * ρ 2 + (1 * ρ 3 + 0)) : Int) ≤ 0 by omega) (pAll1 (show (0 + (1 * ρ 2 + ((-1) * ρ 3 + 0)) : Int) ≤ 0 by omega) (pAll1 (show (1 + ((-1) * ρ 5 + 0) : Int) ≤ 0 by omega) (pAll1 (show (0 + (1 * ρ 4 + ((-1) * ρ 5 + 0)) : Int) ≤ 0 by omega) (pAll1 (show (0 + ((-1) * ρ 4 + (1 * ρ 5 + 0)) : Int) ≤ 0 by omega) (pAll1 (show ((-31) + (1 * ρ 5 + 0) : Int) ≤ 0 by omega) (pAll0)))))))
        · exact pAll1 (pTapec hs ho p (by omega) (show (0 + (1 * ρ 2 + 0) : Int) = _ by omega) (show (0 + (1 * ρ 5 + 0) : Int) = _ by omega)) (pAll0)
      · refine ⟨rSKc_2, List.mem_of_getElem? (i := 2) rfl, pEnd [ρ 0, ρ 1, ρ 2, ρ 3, ρ 4, ρ 5] rfl ?_ ?_ ?_ ?_⟩
        · exact hL
        · intro k b hk
          cases hk
        · exact pAll1 (show (1 + ((-1) * ρ 1 + (1 * ρ 2 + 0)) : Int) ≤ 0 by omega) (pAll1 (show (0 + ((-1) * ρ 2 + (1 * ρ 3 + 0)) : Int) ≤ 0 by omega) (pAll1 (show (0 + (1 * ρ 2 + ((-1) * ρ 3 + 0)) : Int) ≤ 0 by omega) (pAll1 (show (1 + ((-1) * ρ 5 + 0) : Int) ≤ 0 by omega) (pAll1 (show (0 + (1 * ρ 4 + ((-1) * ρ 5 + 0)) : Int) ≤ 0 by omega) (pAll1 (show (0 + ((-1) * ρ 4 + (1 * ρ 5 + 0)) : Int) ≤ 0 by omega) (pAll1 (show (33 + ((-1) * ρ 5 + 0) : Int) ≤ 0 by omega) (pAll0)))))))
        · exact pAll1 (pTapec hs ho p (by omega) (show (0 + (1 * ρ 2 + 0) : Int) = _ by omega) (show (0 + (1 * ρ 5 + 0) : Int) = _ by omega)) (pAll0)
  · rw [if_neg h1] at eP
    rw [if_neg (fun z => h1 z.1)] at eS
    have ee : (wCh (wN h) (wB h) ((wSk (wN h) (wB h) (p)))) = (wCh (wN h) (wB h) (p)) := by rw [eS]
    refine ⟨rSKc_3, List.mem_of_getElem? (i := 3) rfl, pEnd [ρ 0, ρ 1, ρ 2, ρ 3, ρ 4, ρ 5] rfl ?_ ?_ ?_ ?_⟩
    · exact hL
    · intro k b hk
      cases hk
    · exact pAll1 (show (0 + ((-1) * ρ 1 + (1 * ρ 2 + 0)) : Int) ≤ 0 by omega) (pAll1 (show (0 + (1 * ρ 1 + ((-1) * ρ 2 + 0)) : Int) ≤ 0 by omega) (pAll1 (show (0 + ((-1) * ρ 2 + (1 * ρ 3 + 0)) : Int) ≤ 0 by omega) (pAll1 (show (0 + (1 * ρ 2 + ((-1) * ρ 3 + 0)) : Int) ≤ 0 by omega) (pAll1 (show (0 + (1 * ρ 5 + 0) : Int) ≤ 0 by omega) (pAll1 (show (0 + ((-1) * ρ 5 + 0) : Int) ≤ 0 by omega) (pAll1 (show (0 + (1 * ρ 4 + 0) : Int) ≤ 0 by omega) (pAll1 (show (0 + ((-1) * ρ 4 + 0) : Int) ≤ 0 by omega) (pAll0))))))))
    · exact pAll0
noncomputable def rIDc_0 : sX := (none, [(500, (0, [(3, 1)]), (0, [(3, 1)]))], [], [(0, [(2, 1), (3, (-1))]), (0, [(1, (-1)), (3, 1)])], [])
noncomputable def rIDc : sQ := (0, ([], [(2, 1000, (0, [])), (2, 41, (1, [])), (2, 41, (2, [])), (2, 500, (0, [(2, 1)]))], [(1, 1), (0, 240), (0, 240), (0, 240)], [(0, [(1, (-1)), (2, 1)])], [(0, 0), (1, 1), (2, 2), (3, 3)], (0, [])), [rIDc_0], [], 0)
theorem rIDc_ok : pRul pReg pG pgv rIDc := by
  intro loc h ρ ρ0 hG hM
  have hM : sMt pReg pgv ρ ρ0 (sAs rIDc.2.1) loc [] h := hM
  have q0 : ρ0 1 = ρ 0 := (hM.2.2.2.2.2 (1, sY 0) (List.mem_of_getElem? (i := 1) rfl)).trans (sY_v ρ 0)
  have q1 : ρ0 2 = ρ 1 := (hM.2.2.2.2.2 (2, sY 1) (List.mem_of_getElem? (i := 2) rfl)).trans (sY_v ρ 1)
  have q2 : ρ0 3 = ρ 2 := (hM.2.2.2.2.2 (3, sY 2) (List.mem_of_getElem? (i := 3) rfl)).trans (sY_v ρ 2)
  have q3 : ρ0 4 = ρ 3 := (hM.2.2.2.2.2 (4, sY 3) (List.mem_of_getElem? (i := 4) rfl)).trans (sY_v ρ 3)
  have hL : ∀ j, j < 4 → pL [ρ 0, ρ 1, ρ 2, ρ 3] j = ρ0 (j + 1) := by
    intro j hj
    match j, hj with
    | 0, _ => exact q0.symm
    | 1, _ => exact q1.symm
    | 2, _ => exact q2.symm
    | 3, _ => exact q3.symm
    | k + 4, hj => omega
  have b0 : (1 : Int) ≤ ρ 0 ∧ ρ 0 ≤ 1 := hM.2.2.2.1 0 (1, 1) rfl
  have b1 : (0 : Int) ≤ ρ 1 ∧ ρ 1 ≤ 240 := hM.2.2.2.1 1 (0, 240) rfl
  have b2 : (0 : Int) ≤ ρ 2 ∧ ρ 2 ≤ 240 := hM.2.2.2.1 2 (0, 240) rfl
  have b3 : (0 : Int) ≤ ρ 3 ∧ ρ 3 ≤ 240 := hM.2.2.2.1 3 (0, 240) rfl
  have c0 : (0 + ((-1) * ρ 1 + (1 * ρ 2 + 0)) : Int) ≤ 0 := hM.2.2.2.2.1 (0, [(1, (-1)), (2, 1)]) (List.mem_of_getElem? (i := 0) rfl)
  obtain ⟨ho, hs, hh⟩ := pTold0 hM 0 (0, []) rfl b0.1
  have hn := ho.1
  have en : ρ 1 = (wN h : Int) := (pPl hM 1 41 (1, []) rfl (by omega) 353 1 (by decide +kernel) rfl).symm.trans hs.1
  obtain ⟨p, ep⟩ : ∃ p : Nat, ρ 2 = (p : Int) := ⟨(ρ 2).toNat, by omega⟩
  have hp : p ≤ wN h := by omega
  obtain ⟨s1, s2⟩ := wSk_le (B := wB h) hp
  have eq : ρ 3 = ((wSk (wN h) (wB h) (p)) : Int) := pfS hM ho hh 3 (0, [(2, 1)]) rfl (p := p) (by omega) (by show (0 + (1 * ρ 2 + 0) : Int) = _; omega)
  have hi := wSk_id (B := wB h) hp
  refine ⟨rIDc_0, List.mem_of_getElem? (i := 0) rfl, pEnd [ρ 0, ρ 1, ρ 2, ρ 3] rfl ?_ ?_ ?_ ?_⟩
  · exact hL
  · intro k b hk
    cases hk
  · exact pAll1 (show (0 + (1 * ρ 2 + ((-1) * ρ 3 + 0)) : Int) ≤ 0 by omega) (pAll1 (show (0 + ((-1) * ρ 1 + (1 * ρ 3 + 0)) : Int) ≤ 0 by omega) (pAll0))
  · exact pAll1 (pgS ho hh ((wSk (wN h) (wB h) (p))) (by omega) (show (0 + (1 * ρ 3 + 0) : Int) = _ by omega) (show (0 + (1 * ρ 3 + 0) : Int) = _ by omega)) (pAll0)
noncomputable def rNUc_0 : sX := (none, [(501, (1, [(3, 1)]), (0, [(6, 1)]))], [(0, 47)], [(0, [(2, 1), (3, (-1))]), (0, [(1, (-1)), (3, 1)]), (48, [(4, (-1))]), ((-57), [(4, 1)]), (1, [(1, (-1)), (3, 1)]), ((-1), [(3, (-1)), (5, 1)]), (1, [(3, 1), (5, (-1))])], [])
noncomputable def rNUc_1 : sX := (none, [(501, (1, [(3, 1)]), (0, [(6, 1)]))], [(58, 255)], [(0, [(2, 1), (3, (-1))]), (0, [(1, (-1)), (3, 1)]), (48, [(4, (-1))]), ((-57), [(4, 1)]), (1, [(1, (-1)), (3, 1)]), ((-1), [(3, (-1)), (5, 1)]), (1, [(3, 1), (5, (-1))])], [])
noncomputable def rNUc_2 : sX := (none, [(501, (1, [(3, 1)]), (0, [(6, 1)])), (501, (2, [(3, 1)]), (0, [(7, 1)]))], [(48, 57), (0, 47)], [(0, [(2, 1), (3, (-1))]), (0, [(1, (-1)), (3, 1)]), (48, [(4, (-1))]), ((-57), [(4, 1)]), (2, [(1, (-1)), (3, 1)]), ((-2), [(3, (-1)), (5, 1)]), (2, [(3, 1), (5, (-1))])], [])
noncomputable def rNUc_3 : sX := (none, [(501, (1, [(3, 1)]), (0, [(6, 1)])), (501, (2, [(3, 1)]), (0, [(7, 1)]))], [(48, 57), (58, 255)], [(0, [(2, 1), (3, (-1))]), (0, [(1, (-1)), (3, 1)]), (48, [(4, (-1))]), ((-57), [(4, 1)]), (2, [(1, (-1)), (3, 1)]), ((-2), [(3, (-1)), (5, 1)]), (2, [(3, 1), (5, (-1))])], [])
noncomputable def rNUc_4 : sX := (none, [(501, (1, [(3, 1)]), (0, [(6, 1)])), (501, (2, [(3, 1)]), (0, [(7, 1)])), (501, (3, [(3, 1)]), (0, [(8, 1)]))], [(48, 57), (48, 57), (0, 47)], [(0, [(2, 1), (3, (-1))]), (0, [(1, (-1)), (3, 1)]), (48, [(4, (-1))]), ((-57), [(4, 1)]), (3, [(1, (-1)), (3, 1)]), ((-3), [(3, (-1)), (5, 1)]), (3, [(3, 1), (5, (-1))])], [])
noncomputable def rNUc_5 : sX := (none, [(501, (1, [(3, 1)]), (0, [(6, 1)])), (501, (2, [(3, 1)]), (0, [(7, 1)])), (501, (3, [(3, 1)]), (0, [(8, 1)]))], [(48, 57), (48, 57), (58, 255)], [(0, [(2, 1), (3, (-1))]), (0, [(1, (-1)), (3, 1)]), (48, [(4, (-1))]), ((-57), [(4, 1)]), (3, [(1, (-1)), (3, 1)]), ((-3), [(3, (-1)), (5, 1)]), (3, [(3, 1), (5, (-1))])], [])
noncomputable def rNUc_6 : sX := (none, [(501, (1, [(3, 1)]), (0, [(6, 1)])), (501, (2, [(3, 1)]), (0, [(7, 1)])), (501, (3, [(3, 1)]), (0, [(8, 1)])), (501, (4, [(3, 1)]), (0, [(9, 1)]))], [(48, 57), (48, 57), (48, 57), (0, 47)], [(0, [(2, 1), (3, (-1))]), (0, [(1, (-1)), (3, 1)]), (48, [(4, (-1))]), ((-57), [(4, 1)]), (4, [(1, (-1)), (3, 1)]), ((-4), [(3, (-1)), (5, 1)]), (4, [(3, 1), (5, (-1))])], [])
noncomputable def rNUc_7 : sX := (none, [(501, (1, [(3, 1)]), (0, [(6, 1)])), (501, (2, [(3, 1)]), (0, [(7, 1)])), (501, (3, [(3, 1)]), (0, [(8, 1)])), (501, (4, [(3, 1)]), (0, [(9, 1)]))], [(48, 57), (48, 57), (48, 57), (58, 255)], [(0, [(2, 1), (3, (-1))]), (0, [(1, (-1)), (3, 1)]), (48, [(4, (-1))]), ((-57), [(4, 1)]), (4, [(1, (-1)), (3, 1)]), ((-4), [(3, (-1)), (5, 1)]), (4, [(3, 1), (5, (-1))])], [])
noncomputable def rNUc_8 : sX := (none, [(501, (1, [(3, 1)]), (0, [(6, 1)])), (501, (2, [(3, 1)]), (0, [(7, 1)])), (501, (3, [(3, 1)]), (0, [(8, 1)])), (501, (4, [(3, 1)]), (0, [(9, 1)]))], [(48, 57), (48, 57), (48, 57), (48, 57)], [(0, [(2, 1), (3, (-1))]), (0, [(1, (-1)), (3, 1)]), (48, [(4, (-1))]), ((-57), [(4, 1)]), (5, [(1, (-1)), (3, 1)]), (5, [(3, 1), (5, 1)]), ((-5), [(3, (-1)), (5, (-1))])], [])
noncomputable def rNUc : sQ := (0, ([], [(2, 1000, (0, [])), (2, 41, (1, [])), (2, 41, (2, [])), (2, 500, (0, [(2, 1)])), (2, 501, (0, [(3, 1)])), (2, 516, (0, [(3, 1)]))], [(1, 1), (0, 240), (0, 240), (0, 240), (0, 255), ((-241), 240)], [(0, [(1, (-1)), (2, 1)]), (48, [(4, (-1))]), ((-57), [(4, 1)])], [(0, 0), (1, 1), (2, 2), (3, 3), (4, 4), (5, 5)], (0, [])), [rNUc_0, rNUc_1, rNUc_2, rNUc_3, rNUc_4, rNUc_5, rNUc_6, rNUc_7, rNUc_8], [], 0)
theorem rNUc_ok : pRul pReg pG pgv rNUc := by
  intro loc h ρ ρ0 hG hM
  have hM : sMt pReg pgv ρ ρ0 (sAs rNUc.2.1) loc [] h := hM
  have q0 : ρ0 1 = ρ 0 := (hM.2.2.2.2.2 (1, sY 0) (List.mem_of_getElem? (i := 1) rfl)).trans (sY_v ρ 0)
  have q1 : ρ0 2 = ρ 1 := (hM.2.2.2.2.2 (2, sY 1) (List.mem_of_getElem? (i := 2) rfl)).trans (sY_v ρ 1)
  have q2 : ρ0 3 = ρ 2 := (hM.2.2.2.2.2 (3, sY 2) (List.mem_of_getElem? (i := 3) rfl)).trans (sY_v ρ 2)
  have q3 : ρ0 4 = ρ 3 := (hM.2.2.2.2.2 (4, sY 3) (List.mem_of_getElem? (i := 4) rfl)).trans (sY_v ρ 3)
  have q4 : ρ0 5 = ρ 4 := (hM.2.2.2.2.2 (5, sY 4) (List.mem_of_getElem? (i := 5) rfl)).trans (sY_v ρ 4)
  have q5 : ρ0 6 = ρ 5 := (hM.2.2.2.2.2 (6, sY 5) (List.mem_of_getElem? (i := 6) rfl)).trans (sY_v ρ 5)
  have hL : ∀ j, j < 6 → pL [ρ 0, ρ 1, ρ 2, ρ 3, ρ 4, ρ 5] j = ρ0 (j + 1) := by
    intro j hj
    match j, hj with
    | 0, _ => exact q0.symm
    | 1, _ => exact q1.symm
    | 2, _ => exact q2.symm
    | 3, _ => exact q3.symm
    | 4, _ => exact q4.symm
    | 5, _ => exact q5.symm
    | k + 6, hj => omega
  have b0 : (1 : Int) ≤ ρ 0 ∧ ρ 0 ≤ 1 := hM.2.2.2.1 0 (1, 1) rfl
  have b1 : (0 : Int) ≤ ρ 1 ∧ ρ 1 ≤ 240 := hM.2.2.2.1 1 (0, 240) rfl
  have b2 : (0 : Int) ≤ ρ 2 ∧ ρ 2 ≤ 240 := hM.2.2.2.1 2 (0, 240) rfl
  have b3 : (0 : Int) ≤ ρ 3 ∧ ρ 3 ≤ 240 := hM.2.2.2.1 3 (0, 240) rfl
  have b4 : (0 : Int) ≤ ρ 4 ∧ ρ 4 ≤ 255 := hM.2.2.2.1 4 (0, 255) rfl
  have b5 : ((-241) : Int) ≤ ρ 5 ∧ ρ 5 ≤ 240 := hM.2.2.2.1 5 ((-241), 240) rfl
  have c0 : (0 + ((-1) * ρ 1 + (1 * ρ 2 + 0)) : Int) ≤ 0 := hM.2.2.2.2.1 (0, [(1, (-1)), (2, 1)]) (List.mem_of_getElem? (i := 0) rfl)
  have c1 : (48 + ((-1) * ρ 4 + 0) : Int) ≤ 0 := hM.2.2.2.2.1 (48, [(4, (-1))]) (List.mem_of_getElem? (i := 1) rfl)
  have c2 : ((-57) + (1 * ρ 4 + 0) : Int) ≤ 0 := hM.2.2.2.2.1 ((-57), [(4, 1)]) (List.mem_of_getElem? (i := 2) rfl)
  obtain ⟨ho, hs, hh⟩ := pTold0 hM 0 (0, []) rfl b0.1
  have hn := ho.1
  have en : ρ 1 = (wN h : Int) := (pPl hM 1 41 (1, []) rfl (by omega) 353 1 (by decide +kernel) rfl).symm.trans hs.1
  obtain ⟨p, ep⟩ : ∃ p : Nat, ρ 2 = (p : Int) := ⟨(ρ 2).toNat, by omega⟩
  have hp : p ≤ wN h := by omega
  obtain ⟨s1, s2⟩ := wSk_le (B := wB h) hp
  have eq : ρ 3 = ((wSk (wN h) (wB h) (p)) : Int) := pfS hM ho hh 3 (0, [(2, 1)]) rfl (p := p) (by omega) (by show (0 + (1 * ρ 2 + 0) : Int) = _; omega)
  have ec : ρ 4 = (wCh (wN h) (wB h) ((wSk (wN h) (wB h) (p)))) := pfC hM ho hh 4 (0, [(3, 1)]) rfl (p := (wSk (wN h) (wB h) (p))) (by omega) (by show (0 + (1 * ρ 3 + 0) : Int) = _; omega)
  have cbc := wCh_bd ho ((wSk (wN h) (wB h) (p)))
  have clc : (wCh (wN h) (wB h) ((wSk (wN h) (wB h) (p)))) ≠ 0 → (wSk (wN h) (wB h) (p)) < wN h := wCh_lt
  have hd : 48 ≤ (wCh (wN h) (wB h) ((wSk (wN h) (wB h) (p)))) ∧ (wCh (wN h) (wB h) ((wSk (wN h) (wB h) (p)))) ≤ 57 := by omega
  have ev : ρ 5 = wNu (wN h) (wB h) (wSk (wN h) (wB h) (p)) := pfN hM ho hh 5 (0, [(3, 1)]) rfl (p := (wSk (wN h) (wB h) (p))) s2 hd (by show (0 + (1 * ρ 3 + 0) : Int) = _; omega)
  have hq := clc (by omega)
  unfold wNu at ev
  have n1 : 48 ≤ (wCh (wN h) (wB h) ((wSk (wN h) (wB h) (p)) + 1)) → (wSk (wN h) (wB h) (p)) + 1 < wN h := fun z => wCh_lt (B := wB h) (by omega)
  have m1 := wCh_bd ho ((wSk (wN h) (wB h) (p)) + 1)
  have n2 : 48 ≤ (wCh (wN h) (wB h) ((wSk (wN h) (wB h) (p)) + 2)) → (wSk (wN h) (wB h) (p)) + 2 < wN h := fun z => wCh_lt (B := wB h) (by omega)
  have m2 := wCh_bd ho ((wSk (wN h) (wB h) (p)) + 2)
  have n3 : 48 ≤ (wCh (wN h) (wB h) ((wSk (wN h) (wB h) (p)) + 3)) → (wSk (wN h) (wB h) (p)) + 3 < wN h := fun z => wCh_lt (B := wB h) (by omega)
  have m3 := wCh_bd ho ((wSk (wN h) (wB h) (p)) + 3)
  have n4 : 48 ≤ (wCh (wN h) (wB h) ((wSk (wN h) (wB h) (p)) + 4)) → (wSk (wN h) (wB h) (p)) + 4 < wN h := fun z => wCh_lt (B := wB h) (by omega)
  have m4 := wCh_bd ho ((wSk (wN h) (wB h) (p)) + 4)
  by_cases h1 : 48 ≤ (wCh (wN h) (wB h) ((wSk (wN h) (wB h) (p)) + 1)) ∧ (wCh (wN h) (wB h) ((wSk (wN h) (wB h) (p)) + 1)) ≤ 57
  · rw [if_pos h1] at ev
    have := n1 h1.1
    by_cases h2 : 48 ≤ (wCh (wN h) (wB h) ((wSk (wN h) (wB h) (p)) + 2)) ∧ (wCh (wN h) (wB h) ((wSk (wN h) (wB h) (p)) + 2)) ≤ 57
    · rw [if_pos h2] at ev
      have := n2 h2.1
      by_cases h3 : 48 ≤ (wCh (wN h) (wB h) ((wSk (wN h) (wB h) (p)) + 3)) ∧ (wCh (wN h) (wB h) ((wSk (wN h) (wB h) (p)) + 3)) ≤ 57
      · rw [if_pos h3] at ev
        have := n3 h3.1
        by_cases h4 : 48 ≤ (wCh (wN h) (wB h) ((wSk (wN h) (wB h) (p)) + 4)) ∧ (wCh (wN h) (wB h) ((wSk (wN h) (wB h) (p)) + 4)) ≤ 57
        · rw [if_pos h4] at ev
          have := n4 h4.1
          unfold wFl at ev
          refine ⟨rNUc_8, List.mem_of_getElem? (i := 8) rfl, pEnd [ρ 0, ρ 1, ρ 2, ρ 3, ρ 4, ρ 5, (wCh (wN h) (wB h) ((wSk (wN h) (wB h) (p)) + 1)), (wCh (wN h) (wB h) ((wSk (wN h) (wB h) (p)) + 2)), (wCh (wN h) (wB h) ((wSk (wN h) (wB h) (p)) + 3)), (wCh (wN h) (wB h) ((wSk (wN h) (wB h) (p)) + 4))] rfl ?_ ?_ ?_ ?_⟩
          · intro j hj
            match j, hj with
            | 0, _ => exact q0.symm
            | 1, _ => exact q1.symm
            | 2, _ => exact q2.symm
            | 3, _ => exact q3.symm
            | 4, _ => exact q4.symm
            | 5, _ => exact q5.symm
            | k + 6, hj => exact absurd hj (by show ¬ (k + 6 < 6); omega)
          · intro k b hk
            match k, hk with
            | 0, hk => cases hk; exact (show (48 : Int) ≤ (wCh (wN h) (wB h) ((wSk (wN h) (wB h) (p)) + 1)) ∧ (wCh (wN h) (wB h) ((wSk (wN h) (wB h) (p)) + 1)) ≤ (57 : Int) by omega)
            | 1, hk => cases hk; exact (show (48 : Int) ≤ (wCh (wN h) (wB h) ((wSk (wN h) (wB h) (p)) + 2)) ∧ (wCh (wN h) (wB h) ((wSk (wN h) (wB h) (p)) + 2)) ≤ (57 : Int) by omega)
            | 2, hk => cases hk; exact (show (48 : Int) ≤ (wCh (wN h) (wB h) ((wSk (wN h) (wB h) (p)) + 3)) ∧ (wCh (wN h) (wB h) ((wSk (wN h) (wB h) (p)) + 3)) ≤ (57 : Int) by omega)
            | 3, hk => cases hk; exact (show (48 : Int) ≤ (wCh (wN h) (wB h) ((wSk (wN h) (wB h) (p)) + 4)) ∧ (wCh (wN h) (wB h) ((wSk (wN h) (wB h) (p)) + 4)) ≤ (57 : Int) by omega)
            | k + 4, hk => cases hk
          · exact pAll1 (show (0 + (1 * ρ 2 + ((-1) * ρ 3 + 0)) : Int) ≤ 0 by omega) (pAll1 (show (0 + ((-1) * ρ 1 + (1 * ρ 3 + 0)) : Int) ≤ 0 by omega) (pAll1 (show (48 + ((-1) * ρ 4 + 0) : Int) ≤ 0 by omega) (pAll1 (show ((-57) + (1 * ρ 4 + 0) : Int) ≤ 0 by omega) (pAll1 (show (5 + ((-1) * ρ 1 + (1 * ρ 3 + 0)) : Int) ≤ 0 by omega) (pAll1 (show (5 + (1 * ρ 3 + (1 * ρ 5 + 0)) : Int) ≤ 0 by omega) (pAll1 (show ((-5) + ((-1) * ρ 3 + ((-1) * ρ 5 + 0)) : Int) ≤ 0 by omega) (pAll0)))))))
          · exact pAll1 (pgC ho hh ((wSk (wN h) (wB h) (p)) + 1) (by omega) (show (1 + (1 * ρ 3 + 0) : Int) = _ by omega) (show (0 + (1 * (wCh (wN h) (wB h) ((wSk (wN h) (wB h) (p)) + 1)) + 0) : Int) = _ by omega)) (pAll1 (pgC ho hh ((wSk (wN h) (wB h) (p)) + 2) (by omega) (show (2 + (1 * ρ 3 + 0) : Int) = _ by omega) (show (0 + (1 * (wCh (wN h) (wB h) ((wSk (wN h) (wB h) (p)) + 2)) + 0) : Int) = _ by omega)) (pAll1 (pgC ho hh ((wSk (wN h) (wB h) (p)) + 3) (by omega) (show (3 + (1 * ρ 3 + 0) : Int) = _ by omega) (show (0 + (1 * (wCh (wN h) (wB h) ((wSk (wN h) (wB h) (p)) + 3)) + 0) : Int) = _ by omega)) (pAll1 (pgC ho hh ((wSk (wN h) (wB h) (p)) + 4) (by omega) (show (4 + (1 * ρ 3 + 0) : Int) = _ by omega) (show (0 + (1 * (wCh (wN h) (wB h) ((wSk (wN h) (wB h) (p)) + 4)) + 0) : Int) = _ by omega)) (pAll0))))
        · rw [if_neg h4] at ev
          have hu : (wCh (wN h) (wB h) ((wSk (wN h) (wB h) (p)) + 4)) ≤ 47 ∨ 58 ≤ (wCh (wN h) (wB h) ((wSk (wN h) (wB h) (p)) + 4)) := by omega
          rcases hu with hu | hu
          · refine ⟨rNUc_6, List.mem_of_getElem? (i := 6) rfl, pEnd [ρ 0, ρ 1, ρ 2, ρ 3, ρ 4, ρ 5, (wCh (wN h) (wB h) ((wSk (wN h) (wB h) (p)) + 1)), (wCh (wN h) (wB h) ((wSk (wN h) (wB h) (p)) + 2)), (wCh (wN h) (wB h) ((wSk (wN h) (wB h) (p)) + 3)), (wCh (wN h) (wB h) ((wSk (wN h) (wB h) (p)) + 4))] rfl ?_ ?_ ?_ ?_⟩
            · intro j hj
              match j, hj with
              | 0, _ => exact q0.symm
              | 1, _ => exact q1.symm
              | 2, _ => exact q2.symm
              | 3, _ => exact q3.symm
              | 4, _ => exact q4.symm
              | 5, _ => exact q5.symm
              | k + 6, hj => exact absurd hj (by show ¬ (k + 6 < 6); omega)
            · intro k b hk
              match k, hk with
              | 0, hk => cases hk; exact (show (48 : Int) ≤ (wCh (wN h) (wB h) ((wSk (wN h) (wB h) (p)) + 1)) ∧ (wCh (wN h) (wB h) ((wSk (wN h) (wB h) (p)) + 1)) ≤ (57 : Int) by omega)
              | 1, hk => cases hk; exact (show (48 : Int) ≤ (wCh (wN h) (wB h) ((wSk (wN h) (wB h) (p)) + 2)) ∧ (wCh (wN h) (wB h) ((wSk (wN h) (wB h) (p)) + 2)) ≤ (57 : Int) by omega)
              | 2, hk => cases hk; exact (show (48 : Int) ≤ (wCh (wN h) (wB h) ((wSk (wN h) (wB h) (p)) + 3)) ∧ (wCh (wN h) (wB h) ((wSk (wN h) (wB h) (p)) + 3)) ≤ (57 : Int) by omega)
              | 3, hk => cases hk; exact (show (0 : Int) ≤ (wCh (wN h) (wB h) ((wSk (wN h) (wB h) (p)) + 4)) ∧ (wCh (wN h) (wB h) ((wSk (wN h) (wB h) (p)) + 4)) ≤ (47 : Int) by omega)
              | k + 4, hk => cases hk
            · exact pAll1 (show (0 + (1 * ρ 2 + ((-1) * ρ 3 + 0)) : Int) ≤ 0 by omega) (pAll1 (show (0 + ((-1) * ρ 1 + (1 * ρ 3 + 0)) : Int) ≤ 0 by omega) (pAll1 (show (48 + ((-1) * ρ 4 + 0) : Int) ≤ 0 by omega) (pAll1 (show ((-57) + (1 * ρ 4 + 0) : Int) ≤ 0 by omega) (pAll1 (show (4 + ((-1) * ρ 1 + (1 * ρ 3 + 0)) : Int) ≤ 0 by omega) (pAll1 (show ((-4) + ((-1) * ρ 3 + (1 * ρ 5 + 0)) : Int) ≤ 0 by omega) (pAll1 (show (4 + (1 * ρ 3 + ((-1) * ρ 5 + 0)) : Int) ≤ 0 by omega) (pAll0)))))))
            · exact pAll1 (pgC ho hh ((wSk (wN h) (wB h) (p)) + 1) (by omega) (show (1 + (1 * ρ 3 + 0) : Int) = _ by omega) (show (0 + (1 * (wCh (wN h) (wB h) ((wSk (wN h) (wB h) (p)) + 1)) + 0) : Int) = _ by omega)) (pAll1 (pgC ho hh ((wSk (wN h) (wB h) (p)) + 2) (by omega) (show (2 + (1 * ρ 3 + 0) : Int) = _ by omega) (show (0 + (1 * (wCh (wN h) (wB h) ((wSk (wN h) (wB h) (p)) + 2)) + 0) : Int) = _ by omega)) (pAll1 (pgC ho hh ((wSk (wN h) (wB h) (p)) + 3) (by omega) (show (3 + (1 * ρ 3 + 0) : Int) = _ by omega) (show (0 + (1 * (wCh (wN h) (wB h) ((wSk (wN h) (wB h) (p)) + 3)) + 0) : Int) = _ by omega)) (pAll1 (pgC ho hh ((wSk (wN h) (wB h) (p)) + 4) (by omega) (show (4 + (1 * ρ 3 + 0) : Int) = _ by omega) (show (0 + (1 * (wCh (wN h) (wB h) ((wSk (wN h) (wB h) (p)) + 4)) + 0) : Int) = _ by omega)) (pAll0))))
          · refine ⟨rNUc_7, List.mem_of_getElem? (i := 7) rfl, pEnd [ρ 0, ρ 1, ρ 2, ρ 3, ρ 4, ρ 5, (wCh (wN h) (wB h) ((wSk (wN h) (wB h) (p)) + 1)), (wCh (wN h) (wB h) ((wSk (wN h) (wB h) (p)) + 2)), (wCh (wN h) (wB h) ((wSk (wN h) (wB h) (p)) + 3)), (wCh (wN h) (wB h) ((wSk (wN h) (wB h) (p)) + 4))] rfl ?_ ?_ ?_ ?_⟩
            · intro j hj
              match j, hj with
              | 0, _ => exact q0.symm
              | 1, _ => exact q1.symm
              | 2, _ => exact q2.symm
              | 3, _ => exact q3.symm
              | 4, _ => exact q4.symm
              | 5, _ => exact q5.symm
              | k + 6, hj => exact absurd hj (by show ¬ (k + 6 < 6); omega)
            · intro k b hk
              match k, hk with
              | 0, hk => cases hk; exact (show (48 : Int) ≤ (wCh (wN h) (wB h) ((wSk (wN h) (wB h) (p)) + 1)) ∧ (wCh (wN h) (wB h) ((wSk (wN h) (wB h) (p)) + 1)) ≤ (57 : Int) by omega)
              | 1, hk => cases hk; exact (show (48 : Int) ≤ (wCh (wN h) (wB h) ((wSk (wN h) (wB h) (p)) + 2)) ∧ (wCh (wN h) (wB h) ((wSk (wN h) (wB h) (p)) + 2)) ≤ (57 : Int) by omega)
              | 2, hk => cases hk; exact (show (48 : Int) ≤ (wCh (wN h) (wB h) ((wSk (wN h) (wB h) (p)) + 3)) ∧ (wCh (wN h) (wB h) ((wSk (wN h) (wB h) (p)) + 3)) ≤ (57 : Int) by omega)
              | 3, hk => cases hk; exact (show (58 : Int) ≤ (wCh (wN h) (wB h) ((wSk (wN h) (wB h) (p)) + 4)) ∧ (wCh (wN h) (wB h) ((wSk (wN h) (wB h) (p)) + 4)) ≤ (255 : Int) by omega)
              | k + 4, hk => cases hk
            · exact pAll1 (show (0 + (1 * ρ 2 + ((-1) * ρ 3 + 0)) : Int) ≤ 0 by omega) (pAll1 (show (0 + ((-1) * ρ 1 + (1 * ρ 3 + 0)) : Int) ≤ 0 by omega) (pAll1 (show (48 + ((-1) * ρ 4 + 0) : Int) ≤ 0 by omega) (pAll1 (show ((-57) + (1 * ρ 4 + 0) : Int) ≤ 0 by omega) (pAll1 (show (4 + ((-1) * ρ 1 + (1 * ρ 3 + 0)) : Int) ≤ 0 by omega) (pAll1 (show ((-4) + ((-1) * ρ 3 + (1 * ρ 5 + 0)) : Int) ≤ 0 by omega) (pAll1 (show (4 + (1 * ρ 3 + ((-1) * ρ 5 + 0)) : Int) ≤ 0 by omega) (pAll0)))))))
            · exact pAll1 (pgC ho hh ((wSk (wN h) (wB h) (p)) + 1) (by omega) (show (1 + (1 * ρ 3 + 0) : Int) = _ by omega) (show (0 + (1 * (wCh (wN h) (wB h) ((wSk (wN h) (wB h) (p)) + 1)) + 0) : Int) = _ by omega)) (pAll1 (pgC ho hh ((wSk (wN h) (wB h) (p)) + 2) (by omega) (show (2 + (1 * ρ 3 + 0) : Int) = _ by omega) (show (0 + (1 * (wCh (wN h) (wB h) ((wSk (wN h) (wB h) (p)) + 2)) + 0) : Int) = _ by omega)) (pAll1 (pgC ho hh ((wSk (wN h) (wB h) (p)) + 3) (by omega) (show (3 + (1 * ρ 3 + 0) : Int) = _ by omega) (show (0 + (1 * (wCh (wN h) (wB h) ((wSk (wN h) (wB h) (p)) + 3)) + 0) : Int) = _ by omega)) (pAll1 (pgC ho hh ((wSk (wN h) (wB h) (p)) + 4) (by omega) (show (4 + (1 * ρ 3 + 0) : Int) = _ by omega) (show (0 + (1 * (wCh (wN h) (wB h) ((wSk (wN h) (wB h) (p)) + 4)) + 0) : Int) = _ by omega)) (pAll0))))
      · rw [if_neg h3] at ev
        have hu : (wCh (wN h) (wB h) ((wSk (wN h) (wB h) (p)) + 3)) ≤ 47 ∨ 58 ≤ (wCh (wN h) (wB h) ((wSk (wN h) (wB h) (p)) + 3)) := by omega
        rcases hu with hu | hu
        · refine ⟨rNUc_4, List.mem_of_getElem? (i := 4) rfl, pEnd [ρ 0, ρ 1, ρ 2, ρ 3, ρ 4, ρ 5, (wCh (wN h) (wB h) ((wSk (wN h) (wB h) (p)) + 1)), (wCh (wN h) (wB h) ((wSk (wN h) (wB h) (p)) + 2)), (wCh (wN h) (wB h) ((wSk (wN h) (wB h) (p)) + 3))] rfl ?_ ?_ ?_ ?_⟩
          · intro j hj
            match j, hj with
            | 0, _ => exact q0.symm
            | 1, _ => exact q1.symm
            | 2, _ => exact q2.symm
            | 3, _ => exact q3.symm
            | 4, _ => exact q4.symm
            | 5, _ => exact q5.symm
            | k + 6, hj => exact absurd hj (by show ¬ (k + 6 < 6); omega)
          · intro k b hk
            match k, hk with
            | 0, hk => cases hk; exact (show (48 : Int) ≤ (wCh (wN h) (wB h) ((wSk (wN h) (wB h) (p)) + 1)) ∧ (wCh (wN h) (wB h) ((wSk (wN h) (wB h) (p)) + 1)) ≤ (57 : Int) by omega)
            | 1, hk => cases hk; exact (show (48 : Int) ≤ (wCh (wN h) (wB h) ((wSk (wN h) (wB h) (p)) + 2)) ∧ (wCh (wN h) (wB h) ((wSk (wN h) (wB h) (p)) + 2)) ≤ (57 : Int) by omega)
            | 2, hk => cases hk; exact (show (0 : Int) ≤ (wCh (wN h) (wB h) ((wSk (wN h) (wB h) (p)) + 3)) ∧ (wCh (wN h) (wB h) ((wSk (wN h) (wB h) (p)) + 3)) ≤ (47 : Int) by omega)
            | k + 3, hk => cases hk
          · exact pAll1 (show (0 + (1 * ρ 2 + ((-1) * ρ 3 + 0)) : Int) ≤ 0 by omega) (pAll1 (show (0 + ((-1) * ρ 1 + (1 * ρ 3 + 0)) : Int) ≤ 0 by omega) (pAll1 (show (48 + ((-1) * ρ 4 + 0) : Int) ≤ 0 by omega) (pAll1 (show ((-57) + (1 * ρ 4 + 0) : Int) ≤ 0 by omega) (pAll1 (show (3 + ((-1) * ρ 1 + (1 * ρ 3 + 0)) : Int) ≤ 0 by omega) (pAll1 (show ((-3) + ((-1) * ρ 3 + (1 * ρ 5 + 0)) : Int) ≤ 0 by omega) (pAll1 (show (3 + (1 * ρ 3 + ((-1) * ρ 5 + 0)) : Int) ≤ 0 by omega) (pAll0)))))))
          · exact pAll1 (pgC ho hh ((wSk (wN h) (wB h) (p)) + 1) (by omega) (show (1 + (1 * ρ 3 + 0) : Int) = _ by omega) (show (0 + (1 * (wCh (wN h) (wB h) ((wSk (wN h) (wB h) (p)) + 1)) + 0) : Int) = _ by omega)) (pAll1 (pgC ho hh ((wSk (wN h) (wB h) (p)) + 2) (by omega) (show (2 + (1 * ρ 3 + 0) : Int) = _ by omega) (show (0 + (1 * (wCh (wN h) (wB h) ((wSk (wN h) (wB h) (p)) + 2)) + 0) : Int) = _ by omega)) (pAll1 (pgC ho hh ((wSk (wN h) (wB h) (p)) + 3) (by omega) (show (3 + (1 * ρ 3 + 0) : Int) = _ by omega) (show (0 + (1 * (wCh (wN h) (wB h) ((wSk (wN h) (wB h) (p)) + 3)) + 0) : Int) = _ by omega)) (pAll0)))
        · refine ⟨rNUc_5, List.mem_of_getElem? (i := 5) rfl, pEnd [ρ 0, ρ 1, ρ 2, ρ 3, ρ 4, ρ 5, (wCh (wN h) (wB h) ((wSk (wN h) (wB h) (p)) + 1)), (wCh (wN h) (wB h) ((wSk (wN h) (wB h) (p)) + 2)), (wCh (wN h) (wB h) ((wSk (wN h) (wB h) (p)) + 3))] rfl ?_ ?_ ?_ ?_⟩
          · intro j hj
            match j, hj with
            | 0, _ => exact q0.symm
            | 1, _ => exact q1.symm
            | 2, _ => exact q2.symm
            | 3, _ => exact q3.symm
            | 4, _ => exact q4.symm
            | 5, _ => exact q5.symm
            | k + 6, hj => exact absurd hj (by show ¬ (k + 6 < 6); omega)
          · intro k b hk
            match k, hk with
            | 0, hk => cases hk; exact (show (48 : Int) ≤ (wCh (wN h) (wB h) ((wSk (wN h) (wB h) (p)) + 1)) ∧ (wCh (wN h) (wB h) ((wSk (wN h) (wB h) (p)) + 1)) ≤ (57 : Int) by omega)
            | 1, hk => cases hk; exact (show (48 : Int) ≤ (wCh (wN h) (wB h) ((wSk (wN h) (wB h) (p)) + 2)) ∧ (wCh (wN h) (wB h) ((wSk (wN h) (wB h) (p)) + 2)) ≤ (57 : Int) by omega)
            | 2, hk => cases hk; exact (show (58 : Int) ≤ (wCh (wN h) (wB h) ((wSk (wN h) (wB h) (p)) + 3)) ∧ (wCh (wN h) (wB h) ((wSk (wN h) (wB h) (p)) + 3)) ≤ (255 : Int) by omega)
            | k + 3, hk => cases hk
          · exact pAll1 (show (0 + (1 * ρ 2 + ((-1) * ρ 3 + 0)) : Int) ≤ 0 by omega) (pAll1 (show (0 + ((-1) * ρ 1 + (1 * ρ 3 + 0)) : Int) ≤ 0 by omega) (pAll1 (show (48 + ((-1) * ρ 4 + 0) : Int) ≤ 0 by omega) (pAll1 (show ((-57) + (1 * ρ 4 + 0) : Int) ≤ 0 by omega) (pAll1 (show (3 + ((-1) * ρ 1 + (1 * ρ 3 + 0)) : Int) ≤ 0 by omega) (pAll1 (show ((-3) + ((-1) * ρ 3 + (1 * ρ 5 + 0)) : Int) ≤ 0 by omega) (pAll1 (show (3 + (1 * ρ 3 + ((-1) * ρ 5 + 0)) : Int) ≤ 0 by omega) (pAll0)))))))
          · exact pAll1 (pgC ho hh ((wSk (wN h) (wB h) (p)) + 1) (by omega) (show (1 + (1 * ρ 3 + 0) : Int) = _ by omega) (show (0 + (1 * (wCh (wN h) (wB h) ((wSk (wN h) (wB h) (p)) + 1)) + 0) : Int) = _ by omega)) (pAll1 (pgC ho hh ((wSk (wN h) (wB h) (p)) + 2) (by omega) (show (2 + (1 * ρ 3 + 0) : Int) = _ by omega) (show (0 + (1 * (wCh (wN h) (wB h) ((wSk (wN h) (wB h) (p)) + 2)) + 0) : Int) = _ by omega)) (pAll1 (pgC ho hh ((wSk (wN h) (wB h) (p)) + 3) (by omega) (show (3 + (1 * ρ 3 + 0) : Int) = _ by omega) (show (0 + (1 * (wCh (wN h) (wB h) ((wSk (wN h) (wB h) (p)) + 3)) + 0) : Int) = _ by omega)) (pAll0)))
    · rw [if_neg h2] at ev
      have hu : (wCh (wN h) (wB h) ((wSk (wN h) (wB h) (p)) + 2)) ≤ 47 ∨ 58 ≤ (wCh (wN h) (wB h) ((wSk (wN h) (wB h) (p)) + 2)) := by omega
      rcases hu with hu | hu
      · refine ⟨rNUc_2, List.mem_of_getElem? (i := 2) rfl, pEnd [ρ 0, ρ 1, ρ 2, ρ 3, ρ 4, ρ 5, (wCh (wN h) (wB h) ((wSk (wN h) (wB h) (p)) + 1)), (wCh (wN h) (wB h) ((wSk (wN h) (wB h) (p)) + 2))] rfl ?_ ?_ ?_ ?_⟩
        · intro j hj
          match j, hj with
          | 0, _ => exact q0.symm
          | 1, _ => exact q1.symm
          | 2, _ => exact q2.symm
          | 3, _ => exact q3.symm
          | 4, _ => exact q4.symm
          | 5, _ => exact q5.symm
          | k + 6, hj => exact absurd hj (by show ¬ (k + 6 < 6); omega)
        · intro k b hk
          match k, hk with
          | 0, hk => cases hk; exact (show (48 : Int) ≤ (wCh (wN h) (wB h) ((wSk (wN h) (wB h) (p)) + 1)) ∧ (wCh (wN h) (wB h) ((wSk (wN h) (wB h) (p)) + 1)) ≤ (57 : Int) by omega)
          | 1, hk => cases hk; exact (show (0 : Int) ≤ (wCh (wN h) (wB h) ((wSk (wN h) (wB h) (p)) + 2)) ∧ (wCh (wN h) (wB h) ((wSk (wN h) (wB h) (p)) + 2)) ≤ (47 : Int) by omega)
          | k + 2, hk => cases hk
        · exact pAll1 (show (0 + (1 * ρ 2 + ((-1) * ρ 3 + 0)) : Int) ≤ 0 by omega) (pAll1 (show (0 + ((-1) * ρ 1 + (1 * ρ 3 + 0)) : Int) ≤ 0 by omega) (pAll1 (show (48 + ((-1) * ρ 4 + 0) : Int) ≤ 0 by omega) (pAll1 (show ((-57) + (1 * ρ 4 + 0) : Int) ≤ 0 by omega) (pAll1 (show (2 + ((-1) * ρ 1 + (1 * ρ 3 + 0)) : Int) ≤ 0 by omega) (pAll1 (show ((-2) + ((-1) * ρ 3 + (1 * ρ 5 + 0)) : Int) ≤ 0 by omega) (pAll1 (show (2 + (1 * ρ 3 + ((-1) * ρ 5 + 0)) : Int) ≤ 0 by omega) (pAll0)))))))
        · exact pAll1 (pgC ho hh ((wSk (wN h) (wB h) (p)) + 1) (by omega) (show (1 + (1 * ρ 3 + 0) : Int) = _ by omega) (show (0 + (1 * (wCh (wN h) (wB h) ((wSk (wN h) (wB h) (p)) + 1)) + 0) : Int) = _ by omega)) (pAll1 (pgC ho hh ((wSk (wN h) (wB h) (p)) + 2) (by omega) (show (2 + (1 * ρ 3 + 0) : Int) = _ by omega) (show (0 + (1 * (wCh (wN h) (wB h) ((wSk (wN h) (wB h) (p)) + 2)) + 0) : Int) = _ by omega)) (pAll0))
      · refine ⟨rNUc_3, List.mem_of_getElem? (i := 3) rfl, pEnd [ρ 0, ρ 1, ρ 2, ρ 3, ρ 4, ρ 5, (wCh (wN h) (wB h) ((wSk (wN h) (wB h) (p)) + 1)), (wCh (wN h) (wB h) ((wSk (wN h) (wB h) (p)) + 2))] rfl ?_ ?_ ?_ ?_⟩
        · intro j hj
          match j, hj with
          | 0, _ => exact q0.symm
          | 1, _ => exact q1.symm
          | 2, _ => exact q2.symm
          | 3, _ => exact q3.symm
          | 4, _ => exact q4.symm
          | 5, _ => exact q5.symm
          | k + 6, hj => exact absurd hj (by show ¬ (k + 6 < 6); omega)
        · intro k b hk
          match k, hk with
          | 0, hk => cases hk; exact (show (48 : Int) ≤ (wCh (wN h) (wB h) ((wSk (wN h) (wB h) (p)) + 1)) ∧ (wCh (wN h) (wB h) ((wSk (wN h) (wB h) (p)) + 1)) ≤ (57 : Int) by omega)
          | 1, hk => cases hk; exact (show (58 : Int) ≤ (wCh (wN h) (wB h) ((wSk (wN h) (wB h) (p)) + 2)) ∧ (wCh (wN h) (wB h) ((wSk (wN h) (wB h) (p)) + 2)) ≤ (255 : Int) by omega)
          | k + 2, hk => cases hk
        · exact pAll1 (show (0 + (1 * ρ 2 + ((-1) * ρ 3 + 0)) : Int) ≤ 0 by omega) (pAll1 (show (0 + ((-1) * ρ 1 + (1 * ρ 3 + 0)) : Int) ≤ 0 by omega) (pAll1 (show (48 + ((-1) * ρ 4 + 0) : Int) ≤ 0 by omega) (pAll1 (show ((-57) + (1 * ρ 4 + 0) : Int) ≤ 0 by omega) (pAll1 (show (2 + ((-1) * ρ 1 + (1 * ρ 3 + 0)) : Int) ≤ 0 by omega) (pAll1 (show ((-2) + ((-1) * ρ 3 + (1 * ρ 5 + 0)) : Int) ≤ 0 by omega) (pAll1 (show (2 + (1 * ρ 3 + ((-1) * ρ 5 + 0)) : Int) ≤ 0 by omega) (pAll0)))))))
        · exact pAll1 (pgC ho hh ((wSk (wN h) (wB h) (p)) + 1) (by omega) (show (1 + (1 * ρ 3 + 0) : Int) = _ by omega) (show (0 + (1 * (wCh (wN h) (wB h) ((wSk (wN h) (wB h) (p)) + 1)) + 0) : Int) = _ by omega)) (pAll1 (pgC ho hh ((wSk (wN h) (wB h) (p)) + 2) (by omega) (show (2 + (1 * ρ 3 + 0) : Int) = _ by omega) (show (0 + (1 * (wCh (wN h) (wB h) ((wSk (wN h) (wB h) (p)) + 2)) + 0) : Int) = _ by omega)) (pAll0))
  · rw [if_neg h1] at ev
    have hu : (wCh (wN h) (wB h) ((wSk (wN h) (wB h) (p)) + 1)) ≤ 47 ∨ 58 ≤ (wCh (wN h) (wB h) ((wSk (wN h) (wB h) (p)) + 1)) := by omega
    rcases hu with hu | hu
    · refine ⟨rNUc_0, List.mem_of_getElem? (i := 0) rfl, pEnd [ρ 0, ρ 1, ρ 2, ρ 3, ρ 4, ρ 5, (wCh (wN h) (wB h) ((wSk (wN h) (wB h) (p)) + 1))] rfl ?_ ?_ ?_ ?_⟩
      · intro j hj
        match j, hj with
        | 0, _ => exact q0.symm
        | 1, _ => exact q1.symm
        | 2, _ => exact q2.symm
        | 3, _ => exact q3.symm
        | 4, _ => exact q4.symm
        | 5, _ => exact q5.symm
        | k + 6, hj => exact absurd hj (by show ¬ (k + 6 < 6); omega)
      · intro k b hk
        match k, hk with
        | 0, hk => cases hk; exact (show (0 : Int) ≤ (wCh (wN h) (wB h) ((wSk (wN h) (wB h) (p)) + 1)) ∧ (wCh (wN h) (wB h) ((wSk (wN h) (wB h) (p)) + 1)) ≤ (47 : Int) by omega)
        | k + 1, hk => cases hk
      · exact pAll1 (show (0 + (1 * ρ 2 + ((-1) * ρ 3 + 0)) : Int) ≤ 0 by omega) (pAll1 (show (0 + ((-1) * ρ 1 + (1 * ρ 3 + 0)) : Int) ≤ 0 by omega) (pAll1 (show (48 + ((-1) * ρ 4 + 0) : Int) ≤ 0 by omega) (pAll1 (show ((-57) + (1 * ρ 4 + 0) : Int) ≤ 0 by omega) (pAll1 (show (1 + ((-1) * ρ 1 + (1 * ρ 3 + 0)) : Int) ≤ 0 by omega) (pAll1 (show ((-1) + ((-1) * ρ 3 + (1 * ρ 5 + 0)) : Int) ≤ 0 by omega) (pAll1 (show (1 + (1 * ρ 3 + ((-1) * ρ 5 + 0)) : Int) ≤ 0 by omega) (pAll0)))))))
      · exact pAll1 (pgC ho hh ((wSk (wN h) (wB h) (p)) + 1) (by omega) (show (1 + (1 * ρ 3 + 0) : Int) = _ by omega) (show (0 + (1 * (wCh (wN h) (wB h) ((wSk (wN h) (wB h) (p)) + 1)) + 0) : Int) = _ by omega)) (pAll0)
    · refine ⟨rNUc_1, List.mem_of_getElem? (i := 1) rfl, pEnd [ρ 0, ρ 1, ρ 2, ρ 3, ρ 4, ρ 5, (wCh (wN h) (wB h) ((wSk (wN h) (wB h) (p)) + 1))] rfl ?_ ?_ ?_ ?_⟩
      · intro j hj
        match j, hj with
        | 0, _ => exact q0.symm
        | 1, _ => exact q1.symm
        | 2, _ => exact q2.symm
        | 3, _ => exact q3.symm
        | 4, _ => exact q4.symm
        | 5, _ => exact q5.symm
        | k + 6, hj => exact absurd hj (by show ¬ (k + 6 < 6); omega)
      · intro k b hk
        match k, hk with
        | 0, hk => cases hk; exact (show (58 : Int) ≤ (wCh (wN h) (wB h) ((wSk (wN h) (wB h) (p)) + 1)) ∧ (wCh (wN h) (wB h) ((wSk (wN h) (wB h) (p)) + 1)) ≤ (255 : Int) by omega)
        | k + 1, hk => cases hk
      · exact pAll1 (show (0 + (1 * ρ 2 + ((-1) * ρ 3 + 0)) : Int) ≤ 0 by omega) (pAll1 (show (0 + ((-1) * ρ 1 + (1 * ρ 3 + 0)) : Int) ≤ 0 by omega) (pAll1 (show (48 + ((-1) * ρ 4 + 0) : Int) ≤ 0 by omega) (pAll1 (show ((-57) + (1 * ρ 4 + 0) : Int) ≤ 0 by omega) (pAll1 (show (1 + ((-1) * ρ 1 + (1 * ρ 3 + 0)) : Int) ≤ 0 by omega) (pAll1 (show ((-1) + ((-1) * ρ 3 + (1 * ρ 5 + 0)) : Int) ≤ 0 by omega) (pAll1 (show (1 + (1 * ρ 3 + ((-1) * ρ 5 + 0)) : Int) ≤ 0 by omega) (pAll0)))))))
      · exact pAll1 (pgC ho hh ((wSk (wN h) (wB h) (p)) + 1) (by omega) (show (1 + (1 * ρ 3 + 0) : Int) = _ by omega) (show (0 + (1 * (wCh (wN h) (wB h) ((wSk (wN h) (wB h) (p)) + 1)) + 0) : Int) = _ by omega)) (pAll0)
noncomputable def rATc_0 : sX := (none, [], [], [(0, [(2, 1), (5, (-1))]), (0, [(1, (-1)), (5, 1)]), (1, [(1, (-1)), (5, 1)]), (1, [(6, (-1))]), ((-91), [(6, 1)]), (91, [(6, (-1))]), ((-6), [(3, 1)]), (6, [(3, (-1))]), (1, [(4, 1), (5, 1)]), ((-1), [(4, (-1)), (5, (-1))])], [])
noncomputable def rATc_1 : sX := (none, [(505, (242, [(3, 241), (5, 1)]), (0, [(7, 1)]))], [((-241), (-1))], [(0, [(2, 1), (5, (-1))]), (0, [(1, (-1)), (5, 1)]), (1, [(1, (-1)), (5, 1)]), (1, [(6, (-1))]), ((-91), [(6, 1)]), (91, [(6, (-1))]), ((-5), [(3, 1)]), (0, [(4, 1), (7, (-1))]), (0, [(4, (-1)), (7, 1)])], [])
noncomputable def rATc_2 : sX := (none, [(505, (242, [(3, 241), (5, 1)]), (0, [(7, 1)])), (500, (0, [(7, 1)]), (0, [(8, 1)])), (501, (0, [(8, 1)]), (0, [(9, 1)]))], [(0, 240), (0, 240), (93, 93)], [(0, [(2, 1), (5, (-1))]), (0, [(1, (-1)), (5, 1)]), (1, [(1, (-1)), (5, 1)]), (1, [(6, (-1))]), ((-91), [(6, 1)]), (91, [(6, (-1))]), ((-5), [(3, 1)]), (0, [(7, 1), (8, (-1))]), (1, [(1, (-1)), (8, 1)]), ((-1), [(4, 1), (8, (-1))]), (1, [(4, (-1)), (8, 1)])], [])
noncomputable def rATc_3 : sX := (none, [(505, (242, [(3, 241), (5, 1)]), (0, [(7, 1)])), (500, (0, [(7, 1)]), (0, [(8, 1)])), (501, (0, [(8, 1)]), (0, [(9, 1)]))], [(0, 240), (0, 240), (0, 92)], [(0, [(2, 1), (5, (-1))]), (0, [(1, (-1)), (5, 1)]), (1, [(1, (-1)), (5, 1)]), (1, [(6, (-1))]), ((-91), [(6, 1)]), (91, [(6, (-1))]), ((-5), [(3, 1)]), (0, [(7, 1), (8, (-1))]), (0, [(1, (-1)), (8, 1)]), (1, [(4, 1), (8, 1)]), ((-1), [(4, (-1)), (8, (-1))])], [])
noncomputable def rATc_4 : sX := (none, [(505, (242, [(3, 241), (5, 1)]), (0, [(7, 1)])), (500, (0, [(7, 1)]), (0, [(8, 1)])), (501, (0, [(8, 1)]), (0, [(9, 1)]))], [(0, 240), (0, 240), (94, 255)], [(0, [(2, 1), (5, (-1))]), (0, [(1, (-1)), (5, 1)]), (1, [(1, (-1)), (5, 1)]), (1, [(6, (-1))]), ((-91), [(6, 1)]), (91, [(6, (-1))]), ((-5), [(3, 1)]), (0, [(7, 1), (8, (-1))]), (0, [(1, (-1)), (8, 1)]), (1, [(4, 1), (8, 1)]), ((-1), [(4, (-1)), (8, (-1))])], [])
noncomputable def rATc_5 : sX := (none, [], [], [(0, [(2, 1), (5, (-1))]), (0, [(1, (-1)), (5, 1)]), (1, [(1, (-1)), (5, 1)]), (1, [(6, (-1))]), (100, [(6, (-1))]), ((-101), [(6, 1)]), ((-1), [(4, 1), (5, (-1))]), (1, [(4, (-1)), (5, 1)])], [])
noncomputable def rATc_6 : sX := (none, [], [], [(0, [(2, 1), (5, (-1))]), (0, [(1, (-1)), (5, 1)]), (1, [(1, (-1)), (5, 1)]), (1, [(6, (-1))]), (104, [(6, (-1))]), ((-105), [(6, 1)]), ((-1), [(4, 1), (5, (-1))]), (1, [(4, (-1)), (5, 1)])], [])
noncomputable def rATc_7 : sX := (none, [], [], [(0, [(2, 1), (5, (-1))]), (0, [(1, (-1)), (5, 1)]), (1, [(1, (-1)), (5, 1)]), (1, [(6, (-1))]), (110, [(6, (-1))]), ((-110), [(6, 1)]), ((-1), [(4, 1), (5, (-1))]), (1, [(4, (-1)), (5, 1)])], [])
noncomputable def rATc_8 : sX := (none, [], [], [(0, [(2, 1), (5, (-1))]), (0, [(1, (-1)), (5, 1)]), (1, [(1, (-1)), (5, 1)]), (1, [(6, (-1))]), (119, [(6, (-1))]), ((-119), [(6, 1)]), ((-1), [(4, 1), (5, (-1))]), (1, [(4, (-1)), (5, 1)])], [])
noncomputable def rATc_9 : sX := (none, [(516, (0, [(5, 1)]), (0, [(4, 1)]))], [], [(0, [(2, 1), (5, (-1))]), (0, [(1, (-1)), (5, 1)]), (1, [(1, (-1)), (5, 1)]), (1, [(6, (-1))]), (48, [(6, (-1))]), ((-57), [(6, 1)])], [])
noncomputable def rATc_10 : sX := (none, [], [], [(0, [(2, 1), (5, (-1))]), (0, [(1, (-1)), (5, 1)]), ((-47), [(6, 1)]), (1, [(4, 1), (5, 1)]), ((-1), [(4, (-1)), (5, (-1))])], [])
noncomputable def rATc_11 : sX := (none, [], [], [(0, [(2, 1), (5, (-1))]), (0, [(1, (-1)), (5, 1)]), (58, [(6, (-1))]), ((-90), [(6, 1)]), (1, [(4, 1), (5, 1)]), ((-1), [(4, (-1)), (5, (-1))])], [])
noncomputable def rATc_12 : sX := (none, [], [], [(0, [(2, 1), (5, (-1))]), (0, [(1, (-1)), (5, 1)]), (92, [(6, (-1))]), ((-99), [(6, 1)]), (1, [(4, 1), (5, 1)]), ((-1), [(4, (-1)), (5, (-1))])], [])
noncomputable def rATc_13 : sX := (none, [], [], [(0, [(2, 1), (5, (-1))]), (0, [(1, (-1)), (5, 1)]), (102, [(6, (-1))]), ((-103), [(6, 1)]), (1, [(4, 1), (5, 1)]), ((-1), [(4, (-1)), (5, (-1))])], [])
noncomputable def rATc_14 : sX := (none, [], [], [(0, [(2, 1), (5, (-1))]), (0, [(1, (-1)), (5, 1)]), (106, [(6, (-1))]), ((-109), [(6, 1)]), (1, [(4, 1), (5, 1)]), ((-1), [(4, (-1)), (5, (-1))])], [])
noncomputable def rATc_15 : sX := (none, [], [], [(0, [(2, 1), (5, (-1))]), (0, [(1, (-1)), (5, 1)]), (111, [(6, (-1))]), ((-118), [(6, 1)]), (1, [(4, 1), (5, 1)]), ((-1), [(4, (-1)), (5, (-1))])], [])
noncomputable def rATc_16 : sX := (none, [], [], [(0, [(2, 1), (5, (-1))]), (0, [(1, (-1)), (5, 1)]), (120, [(6, (-1))]), (1, [(4, 1), (5, 1)]), ((-1), [(4, (-1)), (5, (-1))])], [])
noncomputable def rATc : sQ := (0, ([], [(2, 1000, (0, [])), (2, 41, (1, [])), (2, 41, (2, [])), (0, 1, (0, [])), (2, 502, (0, [(2, 1), (3, 241)])), (2, 500, (0, [(2, 1)])), (2, 501, (0, [(5, 1)]))], [(1, 1), (0, 240), (0, 240), (0, 6), ((-241), 240), (0, 240), (0, 255)], [(0, [(1, (-1)), (2, 1)])], [(0, 0), (1, 1), (2, 2), (3, 3), (4, 4), (5, 5), (6, 6)], (0, [])), [rATc_0, rATc_1, rATc_2, rATc_3, rATc_4, rATc_5, rATc_6, rATc_7, rATc_8, rATc_9, rATc_10, rATc_11, rATc_12, rATc_13, rATc_14, rATc_15, rATc_16], [], 0)
theorem rATc_ok : pRul pReg pG pgv rATc := by
  intro loc h ρ ρ0 hG hM
  have hM : sMt pReg pgv ρ ρ0 (sAs rATc.2.1) loc [] h := hM
  have q0 : ρ0 1 = ρ 0 := (hM.2.2.2.2.2 (1, sY 0) (List.mem_of_getElem? (i := 1) rfl)).trans (sY_v ρ 0)
  have q1 : ρ0 2 = ρ 1 := (hM.2.2.2.2.2 (2, sY 1) (List.mem_of_getElem? (i := 2) rfl)).trans (sY_v ρ 1)
  have q2 : ρ0 3 = ρ 2 := (hM.2.2.2.2.2 (3, sY 2) (List.mem_of_getElem? (i := 3) rfl)).trans (sY_v ρ 2)
  have q3 : ρ0 4 = ρ 3 := (hM.2.2.2.2.2 (4, sY 3) (List.mem_of_getElem? (i := 4) rfl)).trans (sY_v ρ 3)
  have q4 : ρ0 5 = ρ 4 := (hM.2.2.2.2.2 (5, sY 4) (List.mem_of_getElem? (i := 5) rfl)).trans (sY_v ρ 4)
  have q5 : ρ0 6 = ρ 5 := (hM.2.2.2.2.2 (6, sY 5) (List.mem_of_getElem? (i := 6) rfl)).trans (sY_v ρ 5)
  have q6 : ρ0 7 = ρ 6 := (hM.2.2.2.2.2 (7, sY 6) (List.mem_of_getElem? (i := 7) rfl)).trans (sY_v ρ 6)
  have hL : ∀ j, j < 7 → pL [ρ 0, ρ 1, ρ 2, ρ 3, ρ 4, ρ 5, ρ 6] j = ρ0 (j + 1) := by
    intro j hj
    match j, hj with
    | 0, _ => exact q0.symm
    | 1, _ => exact q1.symm
    | 2, _ => exact q2.symm
    | 3, _ => exact q3.symm
    | 4, _ => exact q4.symm
    | 5, _ => exact q5.symm
    | 6, _ => exact q6.symm
    | k + 7, hj => omega
  have b0 : (1 : Int) ≤ ρ 0 ∧ ρ 0 ≤ 1 := hM.2.2.2.1 0 (1, 1) rfl
  have b1 : (0 : Int) ≤ ρ 1 ∧ ρ 1 ≤ 240 := hM.2.2.2.1 1 (0, 240) rfl
  have b2 : (0 : Int) ≤ ρ 2 ∧ ρ 2 ≤ 240 := hM.2.2.2.1 2 (0, 240) rfl
  have b3 : (0 : Int) ≤ ρ 3 ∧ ρ 3 ≤ 6 := hM.2.2.2.1 3 (0, 6) rfl
  have b4 : ((-241) : Int) ≤ ρ 4 ∧ ρ 4 ≤ 240 := hM.2.2.2.1 4 ((-241), 240) rfl
  have b5 : (0 : Int) ≤ ρ 5 ∧ ρ 5 ≤ 240 := hM.2.2.2.1 5 (0, 240) rfl
  have b6 : (0 : Int) ≤ ρ 6 ∧ ρ 6 ≤ 255 := hM.2.2.2.1 6 (0, 255) rfl
  have c0 : (0 + ((-1) * ρ 1 + (1 * ρ 2 + 0)) : Int) ≤ 0 := hM.2.2.2.2.1 (0, [(1, (-1)), (2, 1)]) (List.mem_of_getElem? (i := 0) rfl)
  obtain ⟨ho, hs, hh⟩ := pTold0 hM 0 (0, []) rfl b0.1
  have hn := ho.1
  have en : ρ 1 = (wN h : Int) := (pPl hM 1 41 (1, []) rfl (by omega) 353 1 (by decide +kernel) rfl).symm.trans hs.1
  obtain ⟨p, ep⟩ : ∃ p : Nat, ρ 2 = (p : Int) := ⟨(ρ 2).toNat, by omega⟩
  have hp : p ≤ wN h := by omega
  obtain ⟨s1, s2⟩ := wSk_le (B := wB h) hp
  obtain ⟨d, ed⟩ : ∃ d : Nat, ρ 3 = (d : Int) := ⟨(ρ 3).toNat, by omega⟩
  have er : ρ 4 = (wG (wN h) (wB h) 0 (d) (p)) := pfG hM ho hh 4 502 0 (0, [(2, 1), (3, 241)]) rfl rfl rfl (d := d) (p := p) (by omega) (by omega) (by show (0 + (1 * ρ 2 + (241 * ρ 3 + 0)) : Int) = _; omega)
  have eq : ρ 5 = ((wSk (wN h) (wB h) (p)) : Int) := pfS hM ho hh 5 (0, [(2, 1)]) rfl (p := p) (by omega) (by show (0 + (1 * ρ 2 + 0) : Int) = _; omega)
  have ec : ρ 6 = (wCh (wN h) (wB h) ((wSk (wN h) (wB h) (p)))) := pfC hM ho hh 6 (0, [(5, 1)]) rfl (p := (wSk (wN h) (wB h) (p))) (by omega) (by show (0 + (1 * ρ 5 + 0) : Int) = _; omega)
  have cbc := wCh_bd ho ((wSk (wN h) (wB h) (p)))
  have clc : (wCh (wN h) (wB h) ((wSk (wN h) (wB h) (p)))) ≠ 0 → (wSk (wN h) (wB h) (p)) < wN h := wCh_lt
  rw [wE_AT hp] at er
  by_cases h1 : (wCh (wN h) (wB h) ((wSk (wN h) (wB h) (p)))) = 91
  · rw [if_pos h1] at er
    have hq := clc (by omega)
    by_cases h2 : 6 ≤ d
    · rw [if_pos h2] at er
      unfold wFl at er
      refine ⟨rATc_0, List.mem_of_getElem? (i := 0) rfl, pEnd [ρ 0, ρ 1, ρ 2, ρ 3, ρ 4, ρ 5, ρ 6] rfl ?_ ?_ ?_ ?_⟩
      · exact hL
      · intro k b hk
        cases hk
      · exact pAll1 (show (0 + (1 * ρ 2 + ((-1) * ρ 5 + 0)) : Int) ≤ 0 by omega) (pAll1 (show (0 + ((-1) * ρ 1 + (1 * ρ 5 + 0)) : Int) ≤ 0 by omega) (pAll1 (show (1 + ((-1) * ρ 1 + (1 * ρ 5 + 0)) : Int) ≤ 0 by omega) (pAll1 (show (1 + ((-1) * ρ 6 + 0) : Int) ≤ 0 by omega) (pAll1 (show ((-91) + (1 * ρ 6 + 0) : Int) ≤ 0 by omega) (pAll1 (show (91 + ((-1) * ρ 6 + 0) : Int) ≤ 0 by omega) (pAll1 (show ((-6) + (1 * ρ 3 + 0) : Int) ≤ 0 by omega) (pAll1 (show (6 + ((-1) * ρ 3 + 0) : Int) ≤ 0 by omega) (pAll1 (show (1 + (1 * ρ 4 + (1 * ρ 5 + 0)) : Int) ≤ 0 by omega) (pAll1 (show ((-1) + ((-1) * ρ 4 + ((-1) * ρ 5 + 0)) : Int) ≤ 0 by omega) (pAll0))))))))))
      · exact pAll0
    · rw [if_neg h2] at er
      have g := wG_gd (n := wN h) (B := wB h) 3 (d + 1) ((wSk (wN h) (wB h) (p)) + 1) rfl (by omega)
      rcases wBd_el er g with ⟨a1, a2⟩ | ⟨s, a1, a2, a3, a4⟩
      · have := g.1 a1
        refine ⟨rATc_1, List.mem_of_getElem? (i := 1) rfl, pEnd [ρ 0, ρ 1, ρ 2, ρ 3, ρ 4, ρ 5, ρ 6, (wG (wN h) (wB h) 3 (d + 1) ((wSk (wN h) (wB h) (p)) + 1))] rfl ?_ ?_ ?_ ?_⟩
        · intro j hj
          match j, hj with
          | 0, _ => exact q0.symm
          | 1, _ => exact q1.symm
          | 2, _ => exact q2.symm
          | 3, _ => exact q3.symm
          | 4, _ => exact q4.symm
          | 5, _ => exact q5.symm
          | 6, _ => exact q6.symm
          | k + 7, hj => exact absurd hj (by show ¬ (k + 7 < 7); omega)
        · intro k b hk
          match k, hk with
          | 0, hk => cases hk; exact (show ((-241) : Int) ≤ (wG (wN h) (wB h) 3 (d + 1) ((wSk (wN h) (wB h) (p)) + 1)) ∧ (wG (wN h) (wB h) 3 (d + 1) ((wSk (wN h) (wB h) (p)) + 1)) ≤ ((-1) : Int) by omega)
          | k + 1, hk => cases hk
        · exact pAll1 (show (0 + (1 * ρ 2 + ((-1) * ρ 5 + 0)) : Int) ≤ 0 by omega) (pAll1 (show (0 + ((-1) * ρ 1 + (1 * ρ 5 + 0)) : Int) ≤ 0 by omega) (pAll1 (show (1 + ((-1) * ρ 1 + (1 * ρ 5 + 0)) : Int) ≤ 0 by omega) (pAll1 (show (1 + ((-1) * ρ 6 + 0) : Int) ≤ 0 by omega) (pAll1 (show ((-91) + (1 * ρ 6 + 0) : Int) ≤ 0 by omega) (pAll1 (show (91 + ((-1) * ρ 6 + 0) : Int) ≤ 0 by omega) (pAll1 (show ((-5) + (1 * ρ 3 + 0) : Int) ≤ 0 by omega) (pAll1 (show (0 + (1 * ρ 4 + ((-1) * (wG (wN h) (wB h) 3 (d + 1) ((wSk (wN h) (wB h) (p)) + 1)) + 0)) : Int) ≤ 0 by omega) (pAll1 (show (0 + ((-1) * ρ 4 + (1 * (wG (wN h) (wB h) 3 (d + 1) ((wSk (wN h) (wB h) (p)) + 1)) + 0)) : Int) ≤ 0 by omega) (pAll0)))))))))
        · exact pAll1 (pgG ho hh 505 3 rfl rfl (d + 1) ((wSk (wN h) (wB h) (p)) + 1) (by omega) (by omega) (show (242 + (241 * ρ 3 + (1 * ρ 5 + 0)) : Int) = _ by omega) (show (0 + (1 * (wG (wN h) (wB h) 3 (d + 1) ((wSk (wN h) (wB h) (p)) + 1)) + 0) : Int) = _ by omega)) (pAll0)
      · have a2 : (wSk (wN h) (wB h) (p)) + 1 + 1 ≤ s := a2
        obtain ⟨t1, t2⟩ := wSk_le (B := wB h) a3
        have cs := wCh_bd ho (wSk (wN h) (wB h) (s))
        by_cases h3 : (wCh (wN h) (wB h) ((wSk (wN h) (wB h) (s)))) = 93
        · rw [if_pos h3] at a4
          have := wCh_lt (n := wN h) (B := wB h) (p := (wSk (wN h) (wB h) (s))) (by omega)
          refine ⟨rATc_2, List.mem_of_getElem? (i := 2) rfl, pEnd [ρ 0, ρ 1, ρ 2, ρ 3, ρ 4, ρ 5, ρ 6, (s : Int), ((wSk (wN h) (wB h) (s)) : Int), (wCh (wN h) (wB h) ((wSk (wN h) (wB h) (s))))] rfl ?_ ?_ ?_ ?_⟩
          · intro j hj
            match j, hj with
            | 0, _ => exact q0.symm
            | 1, _ => exact q1.symm
            | 2, _ => exact q2.symm
            | 3, _ => exact q3.symm
            | 4, _ => exact q4.symm
            | 5, _ => exact q5.symm
            | 6, _ => exact q6.symm
            | k + 7, hj => exact absurd hj (by show ¬ (k + 7 < 7); omega)
          · intro k b hk
            match k, hk with
            | 0, hk => cases hk; exact (show (0 : Int) ≤ (s : Int) ∧ (s : Int) ≤ (240 : Int) by omega)
            | 1, hk => cases hk; exact (show (0 : Int) ≤ ((wSk (wN h) (wB h) (s)) : Int) ∧ ((wSk (wN h) (wB h) (s)) : Int) ≤ (240 : Int) by omega)
            | 2, hk => cases hk; exact (show (93 : Int) ≤ (wCh (wN h) (wB h) ((wSk (wN h) (wB h) (s)))) ∧ (wCh (wN h) (wB h) ((wSk (wN h) (wB h) (s)))) ≤ (93 : Int) by omega)
            | k + 3, hk => cases hk
          · exact pAll1 (show (0 + (1 * ρ 2 + ((-1) * ρ 5 + 0)) : Int) ≤ 0 by omega) (pAll1 (show (0 + ((-1) * ρ 1 + (1 * ρ 5 + 0)) : Int) ≤ 0 by omega) (pAll1 (show (1 + ((-1) * ρ 1 + (1 * ρ 5 + 0)) : Int) ≤ 0 by omega) (pAll1 (show (1 + ((-1) * ρ 6 + 0) : Int) ≤ 0 by omega) (pAll1 (show ((-91) + (1 * ρ 6 + 0) : Int) ≤ 0 by omega) (pAll1 (show (91 + ((-1) * ρ 6 + 0) : Int) ≤ 0 by omega) (pAll1 (show ((-5) + (1 * ρ 3 + 0) : Int) ≤ 0 by omega) (pAll1 (show (0 + (1 * (s : Int) + ((-1) * ((wSk (wN h) (wB h) (s)) : Int) + 0)) : Int) ≤ 0 by omega) (pAll1 (show (1 + ((-1) * ρ 1 + (1 * ((wSk (wN h) (wB h) (s)) : Int) + 0)) : Int) ≤ 0 by omega) (pAll1 (show ((-1) + (1 * ρ 4 + ((-1) * ((wSk (wN h) (wB h) (s)) : Int) + 0)) : Int) ≤ 0 by omega) (pAll1 (show (1 + ((-1) * ρ 4 + (1 * ((wSk (wN h) (wB h) (s)) : Int) + 0)) : Int) ≤ 0 by omega) (pAll0)))))))))))
          · exact pAll1 (pgG ho hh 505 3 rfl rfl (d + 1) ((wSk (wN h) (wB h) (p)) + 1) (by omega) (by omega) (show (242 + (241 * ρ 3 + (1 * ρ 5 + 0)) : Int) = _ by omega) (show (0 + (1 * (s : Int) + 0) : Int) = _ by omega)) (pAll1 (pgS ho hh (s) (by omega) (show (0 + (1 * (s : Int) + 0) : Int) = _ by omega) (show (0 + (1 * ((wSk (wN h) (wB h) (s)) : Int) + 0) : Int) = _ by omega)) (pAll1 (pgC ho hh ((wSk (wN h) (wB h) (s))) (by omega) (show (0 + (1 * ((wSk (wN h) (wB h) (s)) : Int) + 0) : Int) = _ by omega) (show (0 + (1 * (wCh (wN h) (wB h) ((wSk (wN h) (wB h) (s)))) + 0) : Int) = _ by omega)) (pAll0)))
        · rw [if_neg h3] at a4
          unfold wFl at a4
          have hu : (wCh (wN h) (wB h) ((wSk (wN h) (wB h) (s)))) ≤ 92 ∨ 94 ≤ (wCh (wN h) (wB h) ((wSk (wN h) (wB h) (s)))) := by omega
          rcases hu with hu | hu
          · refine ⟨rATc_3, List.mem_of_getElem? (i := 3) rfl, pEnd [ρ 0, ρ 1, ρ 2, ρ 3, ρ 4, ρ 5, ρ 6, (s : Int), ((wSk (wN h) (wB h) (s)) : Int), (wCh (wN h) (wB h) ((wSk (wN h) (wB h) (s))))] rfl ?_ ?_ ?_ ?_⟩
            · intro j hj
              match j, hj with
              | 0, _ => exact q0.symm
              | 1, _ => exact q1.symm
              | 2, _ => exact q2.symm
              | 3, _ => exact q3.symm
              | 4, _ => exact q4.symm
              | 5, _ => exact q5.symm
              | 6, _ => exact q6.symm
              | k + 7, hj => exact absurd hj (by show ¬ (k + 7 < 7); omega)
            · intro k b hk
              match k, hk with
              | 0, hk => cases hk; exact (show (0 : Int) ≤ (s : Int) ∧ (s : Int) ≤ (240 : Int) by omega)
              | 1, hk => cases hk; exact (show (0 : Int) ≤ ((wSk (wN h) (wB h) (s)) : Int) ∧ ((wSk (wN h) (wB h) (s)) : Int) ≤ (240 : Int) by omega)
              | 2, hk => cases hk; exact (show (0 : Int) ≤ (wCh (wN h) (wB h) ((wSk (wN h) (wB h) (s)))) ∧ (wCh (wN h) (wB h) ((wSk (wN h) (wB h) (s)))) ≤ (92 : Int) by omega)
              | k + 3, hk => cases hk
            · exact pAll1 (show (0 + (1 * ρ 2 + ((-1) * ρ 5 + 0)) : Int) ≤ 0 by omega) (pAll1 (show (0 + ((-1) * ρ 1 + (1 * ρ 5 + 0)) : Int) ≤ 0 by omega) (pAll1 (show (1 + ((-1) * ρ 1 + (1 * ρ 5 + 0)) : Int) ≤ 0 by omega) (pAll1 (show (1 + ((-1) * ρ 6 + 0) : Int) ≤ 0 by omega) (pAll1 (show ((-91) + (1 * ρ 6 + 0) : Int) ≤ 0 by omega) (pAll1 (show (91 + ((-1) * ρ 6 + 0) : Int) ≤ 0 by omega) (pAll1 (show ((-5) + (1 * ρ 3 + 0) : Int) ≤ 0 by omega) (pAll1 (show (0 + (1 * (s : Int) + ((-1) * ((wSk (wN h) (wB h) (s)) : Int) + 0)) : Int) ≤ 0 by omega) (pAll1 (show (0 + ((-1) * ρ 1 + (1 * ((wSk (wN h) (wB h) (s)) : Int) + 0)) : Int) ≤ 0 by omega) (pAll1 (show (1 + (1 * ρ 4 + (1 * ((wSk (wN h) (wB h) (s)) : Int) + 0)) : Int) ≤ 0 by omega) (pAll1 (show ((-1) + ((-1) * ρ 4 + ((-1) * ((wSk (wN h) (wB h) (s)) : Int) + 0)) : Int) ≤ 0 by omega) (pAll0)))))))))))
            · exact pAll1 (pgG ho hh 505 3 rfl rfl (d + 1) ((wSk (wN h) (wB h) (p)) + 1) (by omega) (by omega) (show (242 + (241 * ρ 3 + (1 * ρ 5 + 0)) : Int) = _ by omega) (show (0 + (1 * (s : Int) + 0) : Int) = _ by omega)) (pAll1 (pgS ho hh (s) (by omega) (show (0 + (1 * (s : Int) + 0) : Int) = _ by omega) (show (0 + (1 * ((wSk (wN h) (wB h) (s)) : Int) + 0) : Int) = _ by omega)) (pAll1 (pgC ho hh ((wSk (wN h) (wB h) (s))) (by omega) (show (0 + (1 * ((wSk (wN h) (wB h) (s)) : Int) + 0) : Int) = _ by omega) (show (0 + (1 * (wCh (wN h) (wB h) ((wSk (wN h) (wB h) (s)))) + 0) : Int) = _ by omega)) (pAll0)))
          · refine ⟨rATc_4, List.mem_of_getElem? (i := 4) rfl, pEnd [ρ 0, ρ 1, ρ 2, ρ 3, ρ 4, ρ 5, ρ 6, (s : Int), ((wSk (wN h) (wB h) (s)) : Int), (wCh (wN h) (wB h) ((wSk (wN h) (wB h) (s))))] rfl ?_ ?_ ?_ ?_⟩
            · intro j hj
              match j, hj with
              | 0, _ => exact q0.symm
              | 1, _ => exact q1.symm
              | 2, _ => exact q2.symm
              | 3, _ => exact q3.symm
              | 4, _ => exact q4.symm
              | 5, _ => exact q5.symm
              | 6, _ => exact q6.symm
              | k + 7, hj => exact absurd hj (by show ¬ (k + 7 < 7); omega)
            · intro k b hk
              match k, hk with
              | 0, hk => cases hk; exact (show (0 : Int) ≤ (s : Int) ∧ (s : Int) ≤ (240 : Int) by omega)
              | 1, hk => cases hk; exact (show (0 : Int) ≤ ((wSk (wN h) (wB h) (s)) : Int) ∧ ((wSk (wN h) (wB h) (s)) : Int) ≤ (240 : Int) by omega)
              | 2, hk => cases hk; exact (show (94 : Int) ≤ (wCh (wN h) (wB h) ((wSk (wN h) (wB h) (s)))) ∧ (wCh (wN h) (wB h) ((wSk (wN h) (wB h) (s)))) ≤ (255 : Int) by omega)
              | k + 3, hk => cases hk
            · exact pAll1 (show (0 + (1 * ρ 2 + ((-1) * ρ 5 + 0)) : Int) ≤ 0 by omega) (pAll1 (show (0 + ((-1) * ρ 1 + (1 * ρ 5 + 0)) : Int) ≤ 0 by omega) (pAll1 (show (1 + ((-1) * ρ 1 + (1 * ρ 5 + 0)) : Int) ≤ 0 by omega) (pAll1 (show (1 + ((-1) * ρ 6 + 0) : Int) ≤ 0 by omega) (pAll1 (show ((-91) + (1 * ρ 6 + 0) : Int) ≤ 0 by omega) (pAll1 (show (91 + ((-1) * ρ 6 + 0) : Int) ≤ 0 by omega) (pAll1 (show ((-5) + (1 * ρ 3 + 0) : Int) ≤ 0 by omega) (pAll1 (show (0 + (1 * (s : Int) + ((-1) * ((wSk (wN h) (wB h) (s)) : Int) + 0)) : Int) ≤ 0 by omega) (pAll1 (show (0 + ((-1) * ρ 1 + (1 * ((wSk (wN h) (wB h) (s)) : Int) + 0)) : Int) ≤ 0 by omega) (pAll1 (show (1 + (1 * ρ 4 + (1 * ((wSk (wN h) (wB h) (s)) : Int) + 0)) : Int) ≤ 0 by omega) (pAll1 (show ((-1) + ((-1) * ρ 4 + ((-1) * ((wSk (wN h) (wB h) (s)) : Int) + 0)) : Int) ≤ 0 by omega) (pAll0)))))))))))
            · exact pAll1 (pgG ho hh 505 3 rfl rfl (d + 1) ((wSk (wN h) (wB h) (p)) + 1) (by omega) (by omega) (show (242 + (241 * ρ 3 + (1 * ρ 5 + 0)) : Int) = _ by omega) (show (0 + (1 * (s : Int) + 0) : Int) = _ by omega)) (pAll1 (pgS ho hh (s) (by omega) (show (0 + (1 * (s : Int) + 0) : Int) = _ by omega) (show (0 + (1 * ((wSk (wN h) (wB h) (s)) : Int) + 0) : Int) = _ by omega)) (pAll1 (pgC ho hh ((wSk (wN h) (wB h) (s))) (by omega) (show (0 + (1 * ((wSk (wN h) (wB h) (s)) : Int) + 0) : Int) = _ by omega) (show (0 + (1 * (wCh (wN h) (wB h) ((wSk (wN h) (wB h) (s)))) + 0) : Int) = _ by omega)) (pAll0)))
  · rw [if_neg h1] at er
    by_cases h2 : ((wCh (wN h) (wB h) ((wSk (wN h) (wB h) (p)))) = 100 ∨ (wCh (wN h) (wB h) ((wSk (wN h) (wB h) (p)))) = 101 ∨ (wCh (wN h) (wB h) ((wSk (wN h) (wB h) (p)))) = 104 ∨ (wCh (wN h) (wB h) ((wSk (wN h) (wB h) (p)))) = 105 ∨ (wCh (wN h) (wB h) ((wSk (wN h) (wB h) (p)))) = 110 ∨ (wCh (wN h) (wB h) ((wSk (wN h) (wB h) (p)))) = 119)
    · rw [if_pos h2] at er
      have hq := clc (by omega)
      have hu : (100 ≤ (wCh (wN h) (wB h) ((wSk (wN h) (wB h) (p)))) ∧ (wCh (wN h) (wB h) ((wSk (wN h) (wB h) (p)))) ≤ 101) ∨ (104 ≤ (wCh (wN h) (wB h) ((wSk (wN h) (wB h) (p)))) ∧ (wCh (wN h) (wB h) ((wSk (wN h) (wB h) (p)))) ≤ 105) ∨ (wCh (wN h) (wB h) ((wSk (wN h) (wB h) (p)))) = 110 ∨ (wCh (wN h) (wB h) ((wSk (wN h) (wB h) (p)))) = 119 := by omega
      rcases hu with hu | hu | hu | hu
      · refine ⟨rATc_5, List.mem_of_getElem? (i := 5) rfl, pEnd [ρ 0, ρ 1, ρ 2, ρ 3, ρ 4, ρ 5, ρ 6] rfl ?_ ?_ ?_ ?_⟩
        · exact hL
        · intro k b hk
          cases hk
        · exact pAll1 (show (0 + (1 * ρ 2 + ((-1) * ρ 5 + 0)) : Int) ≤ 0 by omega) (pAll1 (show (0 + ((-1) * ρ 1 + (1 * ρ 5 + 0)) : Int) ≤ 0 by omega) (pAll1 (show (1 + ((-1) * ρ 1 + (1 * ρ 5 + 0)) : Int) ≤ 0 by omega) (pAll1 (show (1 + ((-1) * ρ 6 + 0) : Int) ≤ 0 by omega) (pAll1 (show (100 + ((-1) * ρ 6 + 0) : Int) ≤ 0 by omega) (pAll1 (show ((-101) + (1 * ρ 6 + 0) : Int) ≤ 0 by omega) (pAll1 (show ((-1) + (1 * ρ 4 + ((-1) * ρ 5 + 0)) : Int) ≤ 0 by omega) (pAll1 (show (1 + ((-1) * ρ 4 + (1 * ρ 5 + 0)) : Int) ≤ 0 by omega) (pAll0))))))))
        · exact pAll0
      · refine ⟨rATc_6, List.mem_of_getElem? (i := 6) rfl, pEnd [ρ 0, ρ 1, ρ 2, ρ 3, ρ 4, ρ 5, ρ 6] rfl ?_ ?_ ?_ ?_⟩
        · exact hL
        · intro k b hk
          cases hk
        · exact pAll1 (show (0 + (1 * ρ 2 + ((-1) * ρ 5 + 0)) : Int) ≤ 0 by omega) (pAll1 (show (0 + ((-1) * ρ 1 + (1 * ρ 5 + 0)) : Int) ≤ 0 by omega) (pAll1 (show (1 + ((-1) * ρ 1 + (1 * ρ 5 + 0)) : Int) ≤ 0 by omega) (pAll1 (show (1 + ((-1) * ρ 6 + 0) : Int) ≤ 0 by omega) (pAll1 (show (104 + ((-1) * ρ 6 + 0) : Int) ≤ 0 by omega) (pAll1 (show ((-105) + (1 * ρ 6 + 0) : Int) ≤ 0 by omega) (pAll1 (show ((-1) + (1 * ρ 4 + ((-1) * ρ 5 + 0)) : Int) ≤ 0 by omega) (pAll1 (show (1 + ((-1) * ρ 4 + (1 * ρ 5 + 0)) : Int) ≤ 0 by omega) (pAll0))))))))
        · exact pAll0
      · refine ⟨rATc_7, List.mem_of_getElem? (i := 7) rfl, pEnd [ρ 0, ρ 1, ρ 2, ρ 3, ρ 4, ρ 5, ρ 6] rfl ?_ ?_ ?_ ?_⟩
        · exact hL
        · intro k b hk
          cases hk
        · exact pAll1 (show (0 + (1 * ρ 2 + ((-1) * ρ 5 + 0)) : Int) ≤ 0 by omega) (pAll1 (show (0 + ((-1) * ρ 1 + (1 * ρ 5 + 0)) : Int) ≤ 0 by omega) (pAll1 (show (1 + ((-1) * ρ 1 + (1 * ρ 5 + 0)) : Int) ≤ 0 by omega) (pAll1 (show (1 + ((-1) * ρ 6 + 0) : Int) ≤ 0 by omega) (pAll1 (show (110 + ((-1) * ρ 6 + 0) : Int) ≤ 0 by omega) (pAll1 (show ((-110) + (1 * ρ 6 + 0) : Int) ≤ 0 by omega) (pAll1 (show ((-1) + (1 * ρ 4 + ((-1) * ρ 5 + 0)) : Int) ≤ 0 by omega) (pAll1 (show (1 + ((-1) * ρ 4 + (1 * ρ 5 + 0)) : Int) ≤ 0 by omega) (pAll0))))))))
        · exact pAll0
      · refine ⟨rATc_8, List.mem_of_getElem? (i := 8) rfl, pEnd [ρ 0, ρ 1, ρ 2, ρ 3, ρ 4, ρ 5, ρ 6] rfl ?_ ?_ ?_ ?_⟩
        · exact hL
        · intro k b hk
          cases hk
        · exact pAll1 (show (0 + (1 * ρ 2 + ((-1) * ρ 5 + 0)) : Int) ≤ 0 by omega) (pAll1 (show (0 + ((-1) * ρ 1 + (1 * ρ 5 + 0)) : Int) ≤ 0 by omega) (pAll1 (show (1 + ((-1) * ρ 1 + (1 * ρ 5 + 0)) : Int) ≤ 0 by omega) (pAll1 (show (1 + ((-1) * ρ 6 + 0) : Int) ≤ 0 by omega) (pAll1 (show (119 + ((-1) * ρ 6 + 0) : Int) ≤ 0 by omega) (pAll1 (show ((-119) + (1 * ρ 6 + 0) : Int) ≤ 0 by omega) (pAll1 (show ((-1) + (1 * ρ 4 + ((-1) * ρ 5 + 0)) : Int) ≤ 0 by omega) (pAll1 (show (1 + ((-1) * ρ 4 + (1 * ρ 5 + 0)) : Int) ≤ 0 by omega) (pAll0))))))))
        · exact pAll0
    · rw [if_neg h2] at er
      by_cases h3 : 48 ≤ (wCh (wN h) (wB h) ((wSk (wN h) (wB h) (p)))) ∧ (wCh (wN h) (wB h) ((wSk (wN h) (wB h) (p)))) ≤ 57
      · rw [if_pos h3] at er
        have hq := clc (by omega)
        refine ⟨rATc_9, List.mem_of_getElem? (i := 9) rfl, pEnd [ρ 0, ρ 1, ρ 2, ρ 3, ρ 4, ρ 5, ρ 6] rfl ?_ ?_ ?_ ?_⟩
        · exact hL
        · intro k b hk
          cases hk
        · exact pAll1 (show (0 + (1 * ρ 2 + ((-1) * ρ 5 + 0)) : Int) ≤ 0 by omega) (pAll1 (show (0 + ((-1) * ρ 1 + (1 * ρ 5 + 0)) : Int) ≤ 0 by omega) (pAll1 (show (1 + ((-1) * ρ 1 + (1 * ρ 5 + 0)) : Int) ≤ 0 by omega) (pAll1 (show (1 + ((-1) * ρ 6 + 0) : Int) ≤ 0 by omega) (pAll1 (show (48 + ((-1) * ρ 6 + 0) : Int) ≤ 0 by omega) (pAll1 (show ((-57) + (1 * ρ 6 + 0) : Int) ≤ 0 by omega) (pAll0))))))
        · exact pAll1 (pgN ho hh ((wSk (wN h) (wB h) (p))) (by omega) (by omega) (show (0 + (1 * ρ 5 + 0) : Int) = _ by omega) (show (0 + (1 * ρ 4 + 0) : Int) = _ by omega)) (pAll0)
      · rw [if_neg h3] at er
        unfold wFl at er
        have hu : (wCh (wN h) (wB h) ((wSk (wN h) (wB h) (p)))) ≤ 47 ∨ (58 ≤ (wCh (wN h) (wB h) ((wSk (wN h) (wB h) (p)))) ∧ (wCh (wN h) (wB h) ((wSk (wN h) (wB h) (p)))) ≤ 90) ∨ (92 ≤ (wCh (wN h) (wB h) ((wSk (wN h) (wB h) (p)))) ∧ (wCh (wN h) (wB h) ((wSk (wN h) (wB h) (p)))) ≤ 99) ∨ (102 ≤ (wCh (wN h) (wB h) ((wSk (wN h) (wB h) (p)))) ∧ (wCh (wN h) (wB h) ((wSk (wN h) (wB h) (p)))) ≤ 103) ∨ (106 ≤ (wCh (wN h) (wB h) ((wSk (wN h) (wB h) (p)))) ∧ (wCh (wN h) (wB h) ((wSk (wN h) (wB h) (p)))) ≤ 109) ∨ (111 ≤ (wCh (wN h) (wB h) ((wSk (wN h) (wB h) (p)))) ∧ (wCh (wN h) (wB h) ((wSk (wN h) (wB h) (p)))) ≤ 118) ∨ 120 ≤ (wCh (wN h) (wB h) ((wSk (wN h) (wB h) (p)))) := by omega
        rcases hu with hu | hu | hu | hu | hu | hu | hu
        · refine ⟨rATc_10, List.mem_of_getElem? (i := 10) rfl, pEnd [ρ 0, ρ 1, ρ 2, ρ 3, ρ 4, ρ 5, ρ 6] rfl ?_ ?_ ?_ ?_⟩
          · exact hL
          · intro k b hk
            cases hk
          · exact pAll1 (show (0 + (1 * ρ 2 + ((-1) * ρ 5 + 0)) : Int) ≤ 0 by omega) (pAll1 (show (0 + ((-1) * ρ 1 + (1 * ρ 5 + 0)) : Int) ≤ 0 by omega) (pAll1 (show ((-47) + (1 * ρ 6 + 0) : Int) ≤ 0 by omega) (pAll1 (show (1 + (1 * ρ 4 + (1 * ρ 5 + 0)) : Int) ≤ 0 by omega) (pAll1 (show ((-1) + ((-1) * ρ 4 + ((-1) * ρ 5 + 0)) : Int) ≤ 0 by omega) (pAll0)))))
          · exact pAll0
        · refine ⟨rATc_11, List.mem_of_getElem? (i := 11) rfl, pEnd [ρ 0, ρ 1, ρ 2, ρ 3, ρ 4, ρ 5, ρ 6] rfl ?_ ?_ ?_ ?_⟩
          · exact hL
          · intro k b hk
            cases hk
          · exact pAll1 (show (0 + (1 * ρ 2 + ((-1) * ρ 5 + 0)) : Int) ≤ 0 by omega) (pAll1 (show (0 + ((-1) * ρ 1 + (1 * ρ 5 + 0)) : Int) ≤ 0 by omega) (pAll1 (show (58 + ((-1) * ρ 6 + 0) : Int) ≤ 0 by omega) (pAll1 (show ((-90) + (1 * ρ 6 + 0) : Int) ≤ 0 by omega) (pAll1 (show (1 + (1 * ρ 4 + (1 * ρ 5 + 0)) : Int) ≤ 0 by omega) (pAll1 (show ((-1) + ((-1) * ρ 4 + ((-1) * ρ 5 + 0)) : Int) ≤ 0 by omega) (pAll0))))))
          · exact pAll0
        · refine ⟨rATc_12, List.mem_of_getElem? (i := 12) rfl, pEnd [ρ 0, ρ 1, ρ 2, ρ 3, ρ 4, ρ 5, ρ 6] rfl ?_ ?_ ?_ ?_⟩
          · exact hL
          · intro k b hk
            cases hk
          · exact pAll1 (show (0 + (1 * ρ 2 + ((-1) * ρ 5 + 0)) : Int) ≤ 0 by omega) (pAll1 (show (0 + ((-1) * ρ 1 + (1 * ρ 5 + 0)) : Int) ≤ 0 by omega) (pAll1 (show (92 + ((-1) * ρ 6 + 0) : Int) ≤ 0 by omega) (pAll1 (show ((-99) + (1 * ρ 6 + 0) : Int) ≤ 0 by omega) (pAll1 (show (1 + (1 * ρ 4 + (1 * ρ 5 + 0)) : Int) ≤ 0 by omega) (pAll1 (show ((-1) + ((-1) * ρ 4 + ((-1) * ρ 5 + 0)) : Int) ≤ 0 by omega) (pAll0))))))
          · exact pAll0
        · refine ⟨rATc_13, List.mem_of_getElem? (i := 13) rfl, pEnd [ρ 0, ρ 1, ρ 2, ρ 3, ρ 4, ρ 5, ρ 6] rfl ?_ ?_ ?_ ?_⟩
          · exact hL
          · intro k b hk
            cases hk
          · exact pAll1 (show (0 + (1 * ρ 2 + ((-1) * ρ 5 + 0)) : Int) ≤ 0 by omega) (pAll1 (show (0 + ((-1) * ρ 1 + (1 * ρ 5 + 0)) : Int) ≤ 0 by omega) (pAll1 (show (102 + ((-1) * ρ 6 + 0) : Int) ≤ 0 by omega) (pAll1 (show ((-103) + (1 * ρ 6 + 0) : Int) ≤ 0 by omega) (pAll1 (show (1 + (1 * ρ 4 + (1 * ρ 5 + 0)) : Int) ≤ 0 by omega) (pAll1 (show ((-1) + ((-1) * ρ 4 + ((-1) * ρ 5 + 0)) : Int) ≤ 0 by omega) (pAll0))))))
          · exact pAll0
        · refine ⟨rATc_14, List.mem_of_getElem? (i := 14) rfl, pEnd [ρ 0, ρ 1, ρ 2, ρ 3, ρ 4, ρ 5, ρ 6] rfl ?_ ?_ ?_ ?_⟩
          · exact hL
          · intro k b hk
            cases hk
          · exact pAll1 (show (0 + (1 * ρ 2 + ((-1) * ρ 5 + 0)) : Int) ≤ 0 by omega) (pAll1 (show (0 + ((-1) * ρ 1 + (1 * ρ 5 + 0)) : Int) ≤ 0 by omega) (pAll1 (show (106 + ((-1) * ρ 6 + 0) : Int) ≤ 0 by omega) (pAll1 (show ((-109) + (1 * ρ 6 + 0) : Int) ≤ 0 by omega) (pAll1 (show (1 + (1 * ρ 4 + (1 * ρ 5 + 0)) : Int) ≤ 0 by omega) (pAll1 (show ((-1) + ((-1) * ρ 4 + ((-1) * ρ 5 + 0)) : Int) ≤ 0 by omega) (pAll0))))))
          · exact pAll0
        · refine ⟨rATc_15, List.mem_of_getElem? (i := 15) rfl, pEnd [ρ 0, ρ 1, ρ 2, ρ 3, ρ 4, ρ 5, ρ 6] rfl ?_ ?_ ?_ ?_⟩
          · exact hL
          · intro k b hk
            cases hk
          · exact pAll1 (show (0 + (1 * ρ 2 + ((-1) * ρ 5 + 0)) : Int) ≤ 0 by omega) (pAll1 (show (0 + ((-1) * ρ 1 + (1 * ρ 5 + 0)) : Int) ≤ 0 by omega) (pAll1 (show (111 + ((-1) * ρ 6 + 0) : Int) ≤ 0 by omega) (pAll1 (show ((-118) + (1 * ρ 6 + 0) : Int) ≤ 0 by omega) (pAll1 (show (1 + (1 * ρ 4 + (1 * ρ 5 + 0)) : Int) ≤ 0 by omega) (pAll1 (show ((-1) + ((-1) * ρ 4 + ((-1) * ρ 5 + 0)) : Int) ≤ 0 by omega) (pAll0))))))
          · exact pAll0
        · refine ⟨rATc_16, List.mem_of_getElem? (i := 16) rfl, pEnd [ρ 0, ρ 1, ρ 2, ρ 3, ρ 4, ρ 5, ρ 6] rfl ?_ ?_ ?_ ?_⟩
          · exact hL
          · intro k b hk
            cases hk
          · exact pAll1 (show (0 + (1 * ρ 2 + ((-1) * ρ 5 + 0)) : Int) ≤ 0 by omega) (pAll1 (show (0 + ((-1) * ρ 1 + (1 * ρ 5 + 0)) : Int) ≤ 0 by omega) (pAll1 (show (120 + ((-1) * ρ 6 + 0) : Int) ≤ 0 by omega) (pAll1 (show (1 + (1 * ρ 4 + (1 * ρ 5 + 0)) : Int) ≤ 0 by omega) (pAll1 (show ((-1) + ((-1) * ρ 4 + ((-1) * ρ 5 + 0)) : Int) ≤ 0 by omega) (pAll0)))))
          · exact pAll0
noncomputable def rTMc_0 : sX := (none, [], [], [(1, [(5, 1)]), (0, [(4, 1), (5, (-1))]), (0, [(4, (-1)), (5, 1)])], [])
noncomputable def rTMc_1 : sX := (none, [(504, (0, [(3, 241), (5, 1)]), (0, [(4, 1)]))], [], [(1, [(2, 1), (5, (-1))]), (0, [(1, (-1)), (5, 1)])], [])
noncomputable def rTMc : sQ := (0, ([], [(2, 1000, (0, [])), (2, 41, (1, [])), (2, 41, (2, [])), (0, 1, (0, [])), (2, 503, (0, [(2, 1), (3, 241)])), (2, 502, (0, [(2, 1), (3, 241)]))], [(1, 1), (0, 240), (0, 240), (0, 6), ((-241), 240), ((-241), 240)], [(0, [(1, (-1)), (2, 1)])], [(0, 0), (1, 1), (2, 2), (3, 3), (4, 4), (5, 5)], (0, [])), [rTMc_0, rTMc_1], [], 0)
theorem rTMc_ok : pRul pReg pG pgv rTMc := by
  intro loc h ρ ρ0 hG hM
  have hM : sMt pReg pgv ρ ρ0 (sAs rTMc.2.1) loc [] h := hM
  have q0 : ρ0 1 = ρ 0 := (hM.2.2.2.2.2 (1, sY 0) (List.mem_of_getElem? (i := 1) rfl)).trans (sY_v ρ 0)
  have q1 : ρ0 2 = ρ 1 := (hM.2.2.2.2.2 (2, sY 1) (List.mem_of_getElem? (i := 2) rfl)).trans (sY_v ρ 1)
  have q2 : ρ0 3 = ρ 2 := (hM.2.2.2.2.2 (3, sY 2) (List.mem_of_getElem? (i := 3) rfl)).trans (sY_v ρ 2)
  have q3 : ρ0 4 = ρ 3 := (hM.2.2.2.2.2 (4, sY 3) (List.mem_of_getElem? (i := 4) rfl)).trans (sY_v ρ 3)
  have q4 : ρ0 5 = ρ 4 := (hM.2.2.2.2.2 (5, sY 4) (List.mem_of_getElem? (i := 5) rfl)).trans (sY_v ρ 4)
  have q5 : ρ0 6 = ρ 5 := (hM.2.2.2.2.2 (6, sY 5) (List.mem_of_getElem? (i := 6) rfl)).trans (sY_v ρ 5)
  have hL : ∀ j, j < 6 → pL [ρ 0, ρ 1, ρ 2, ρ 3, ρ 4, ρ 5] j = ρ0 (j + 1) := by
    intro j hj
    match j, hj with
    | 0, _ => exact q0.symm
    | 1, _ => exact q1.symm
    | 2, _ => exact q2.symm
    | 3, _ => exact q3.symm
    | 4, _ => exact q4.symm
    | 5, _ => exact q5.symm
    | k + 6, hj => omega
  have b0 : (1 : Int) ≤ ρ 0 ∧ ρ 0 ≤ 1 := hM.2.2.2.1 0 (1, 1) rfl
  have b1 : (0 : Int) ≤ ρ 1 ∧ ρ 1 ≤ 240 := hM.2.2.2.1 1 (0, 240) rfl
  have b2 : (0 : Int) ≤ ρ 2 ∧ ρ 2 ≤ 240 := hM.2.2.2.1 2 (0, 240) rfl
  have b3 : (0 : Int) ≤ ρ 3 ∧ ρ 3 ≤ 6 := hM.2.2.2.1 3 (0, 6) rfl
  have b4 : ((-241) : Int) ≤ ρ 4 ∧ ρ 4 ≤ 240 := hM.2.2.2.1 4 ((-241), 240) rfl
  have b5 : ((-241) : Int) ≤ ρ 5 ∧ ρ 5 ≤ 240 := hM.2.2.2.1 5 ((-241), 240) rfl
  have c0 : (0 + ((-1) * ρ 1 + (1 * ρ 2 + 0)) : Int) ≤ 0 := hM.2.2.2.2.1 (0, [(1, (-1)), (2, 1)]) (List.mem_of_getElem? (i := 0) rfl)
  obtain ⟨ho, hs, hh⟩ := pTold0 hM 0 (0, []) rfl b0.1
  have hn := ho.1
  have en : ρ 1 = (wN h : Int) := (pPl hM 1 41 (1, []) rfl (by omega) 353 1 (by decide +kernel) rfl).symm.trans hs.1
  obtain ⟨p, ep⟩ : ∃ p : Nat, ρ 2 = (p : Int) := ⟨(ρ 2).toNat, by omega⟩
  have hp : p ≤ wN h := by omega
  obtain ⟨s1, s2⟩ := wSk_le (B := wB h) hp
  obtain ⟨d, ed⟩ : ∃ d : Nat, ρ 3 = (d : Int) := ⟨(ρ 3).toNat, by omega⟩
  have er : ρ 4 = (wG (wN h) (wB h) 1 (d) (p)) := pfG hM ho hh 4 503 1 (0, [(2, 1), (3, 241)]) rfl rfl rfl (d := d) (p := p) (by omega) (by omega) (by show (0 + (1 * ρ 2 + (241 * ρ 3 + 0)) : Int) = _; omega)
  have ea : ρ 5 = (wG (wN h) (wB h) 0 (d) (p)) := pfG hM ho hh 5 502 0 (0, [(2, 1), (3, 241)]) rfl rfl rfl (d := d) (p := p) (by omega) (by omega) (by show (0 + (1 * ρ 2 + (241 * ρ 3 + 0)) : Int) = _; omega)
  rw [wE_TM hp] at er
  have g := wG_gd (n := wN h) (B := wB h) 0 d p rfl hp
  rcases wBd_el er g with ⟨a1, a2⟩ | ⟨s, a1, a2, a3, a4⟩
  · refine ⟨rTMc_0, List.mem_of_getElem? (i := 0) rfl, pEnd [ρ 0, ρ 1, ρ 2, ρ 3, ρ 4, ρ 5] rfl ?_ ?_ ?_ ?_⟩
    · exact hL
    · intro k b hk
      cases hk
    · exact pAll1 (show (1 + (1 * ρ 5 + 0) : Int) ≤ 0 by omega) (pAll1 (show (0 + (1 * ρ 4 + ((-1) * ρ 5 + 0)) : Int) ≤ 0 by omega) (pAll1 (show (0 + ((-1) * ρ 4 + (1 * ρ 5 + 0)) : Int) ≤ 0 by omega) (pAll0)))
    · exact pAll0
  · have a2 : p + 1 ≤ s := a2
    refine ⟨rTMc_1, List.mem_of_getElem? (i := 1) rfl, pEnd [ρ 0, ρ 1, ρ 2, ρ 3, ρ 4, ρ 5] rfl ?_ ?_ ?_ ?_⟩
    · exact hL
    · intro k b hk
      cases hk
    · exact pAll1 (show (1 + (1 * ρ 2 + ((-1) * ρ 5 + 0)) : Int) ≤ 0 by omega) (pAll1 (show (0 + ((-1) * ρ 1 + (1 * ρ 5 + 0)) : Int) ≤ 0 by omega) (pAll0))
    · exact pAll1 (pgG ho hh 504 2 rfl rfl (d) (s) (by omega) (by omega) (show (0 + (241 * ρ 3 + (1 * ρ 5 + 0)) : Int) = _ by omega) (show (0 + (1 * ρ 4 + 0) : Int) = _ by omega)) (pAll0)
noncomputable def rSUc_0 : sX := (none, [], [], [(1, [(5, 1)]), (0, [(4, 1), (5, (-1))]), (0, [(4, (-1)), (5, 1)])], [])
noncomputable def rSUc_1 : sX := (none, [(506, (0, [(3, 241), (5, 1)]), (0, [(4, 1)]))], [], [(1, [(2, 1), (5, (-1))]), (0, [(1, (-1)), (5, 1)])], [])
noncomputable def rSUc : sQ := (0, ([], [(2, 1000, (0, [])), (2, 41, (1, [])), (2, 41, (2, [])), (0, 1, (0, [])), (2, 505, (0, [(2, 1), (3, 241)])), (2, 503, (0, [(2, 1), (3, 241)]))], [(1, 1), (0, 240), (0, 240), (0, 6), ((-241), 240), ((-241), 240)], [(0, [(1, (-1)), (2, 1)])], [(0, 0), (1, 1), (2, 2), (3, 3), (4, 4), (5, 5)], (0, [])), [rSUc_0, rSUc_1], [], 0)
theorem rSUc_ok : pRul pReg pG pgv rSUc := by
  intro loc h ρ ρ0 hG hM
  have hM : sMt pReg pgv ρ ρ0 (sAs rSUc.2.1) loc [] h := hM
  have q0 : ρ0 1 = ρ 0 := (hM.2.2.2.2.2 (1, sY 0) (List.mem_of_getElem? (i := 1) rfl)).trans (sY_v ρ 0)
  have q1 : ρ0 2 = ρ 1 := (hM.2.2.2.2.2 (2, sY 1) (List.mem_of_getElem? (i := 2) rfl)).trans (sY_v ρ 1)
  have q2 : ρ0 3 = ρ 2 := (hM.2.2.2.2.2 (3, sY 2) (List.mem_of_getElem? (i := 3) rfl)).trans (sY_v ρ 2)
  have q3 : ρ0 4 = ρ 3 := (hM.2.2.2.2.2 (4, sY 3) (List.mem_of_getElem? (i := 4) rfl)).trans (sY_v ρ 3)
  have q4 : ρ0 5 = ρ 4 := (hM.2.2.2.2.2 (5, sY 4) (List.mem_of_getElem? (i := 5) rfl)).trans (sY_v ρ 4)
  have q5 : ρ0 6 = ρ 5 := (hM.2.2.2.2.2 (6, sY 5) (List.mem_of_getElem? (i := 6) rfl)).trans (sY_v ρ 5)
  have hL : ∀ j, j < 6 → pL [ρ 0, ρ 1, ρ 2, ρ 3, ρ 4, ρ 5] j = ρ0 (j + 1) := by
    intro j hj
    match j, hj with
    | 0, _ => exact q0.symm
    | 1, _ => exact q1.symm
    | 2, _ => exact q2.symm
    | 3, _ => exact q3.symm
    | 4, _ => exact q4.symm
    | 5, _ => exact q5.symm
    | k + 6, hj => omega
  have b0 : (1 : Int) ≤ ρ 0 ∧ ρ 0 ≤ 1 := hM.2.2.2.1 0 (1, 1) rfl
  have b1 : (0 : Int) ≤ ρ 1 ∧ ρ 1 ≤ 240 := hM.2.2.2.1 1 (0, 240) rfl
  have b2 : (0 : Int) ≤ ρ 2 ∧ ρ 2 ≤ 240 := hM.2.2.2.1 2 (0, 240) rfl
  have b3 : (0 : Int) ≤ ρ 3 ∧ ρ 3 ≤ 6 := hM.2.2.2.1 3 (0, 6) rfl
  have b4 : ((-241) : Int) ≤ ρ 4 ∧ ρ 4 ≤ 240 := hM.2.2.2.1 4 ((-241), 240) rfl
  have b5 : ((-241) : Int) ≤ ρ 5 ∧ ρ 5 ≤ 240 := hM.2.2.2.1 5 ((-241), 240) rfl
  have c0 : (0 + ((-1) * ρ 1 + (1 * ρ 2 + 0)) : Int) ≤ 0 := hM.2.2.2.2.1 (0, [(1, (-1)), (2, 1)]) (List.mem_of_getElem? (i := 0) rfl)
  obtain ⟨ho, hs, hh⟩ := pTold0 hM 0 (0, []) rfl b0.1
  have hn := ho.1
  have en : ρ 1 = (wN h : Int) := (pPl hM 1 41 (1, []) rfl (by omega) 353 1 (by decide +kernel) rfl).symm.trans hs.1
  obtain ⟨p, ep⟩ : ∃ p : Nat, ρ 2 = (p : Int) := ⟨(ρ 2).toNat, by omega⟩
  have hp : p ≤ wN h := by omega
  obtain ⟨s1, s2⟩ := wSk_le (B := wB h) hp
  obtain ⟨d, ed⟩ : ∃ d : Nat, ρ 3 = (d : Int) := ⟨(ρ 3).toNat, by omega⟩
  have er : ρ 4 = (wG (wN h) (wB h) 3 (d) (p)) := pfG hM ho hh 4 505 3 (0, [(2, 1), (3, 241)]) rfl rfl rfl (d := d) (p := p) (by omega) (by omega) (by show (0 + (1 * ρ 2 + (241 * ρ 3 + 0)) : Int) = _; omega)
  have ea : ρ 5 = (wG (wN h) (wB h) 1 (d) (p)) := pfG hM ho hh 5 503 1 (0, [(2, 1), (3, 241)]) rfl rfl rfl (d := d) (p := p) (by omega) (by omega) (by show (0 + (1 * ρ 2 + (241 * ρ 3 + 0)) : Int) = _; omega)
  rw [wE_SU hp] at er
  have g := wG_gd (n := wN h) (B := wB h) 1 d p rfl hp
  rcases wBd_el er g with ⟨a1, a2⟩ | ⟨s, a1, a2, a3, a4⟩
  · refine ⟨rSUc_0, List.mem_of_getElem? (i := 0) rfl, pEnd [ρ 0, ρ 1, ρ 2, ρ 3, ρ 4, ρ 5] rfl ?_ ?_ ?_ ?_⟩
    · exact hL
    · intro k b hk
      cases hk
    · exact pAll1 (show (1 + (1 * ρ 5 + 0) : Int) ≤ 0 by omega) (pAll1 (show (0 + (1 * ρ 4 + ((-1) * ρ 5 + 0)) : Int) ≤ 0 by omega) (pAll1 (show (0 + ((-1) * ρ 4 + (1 * ρ 5 + 0)) : Int) ≤ 0 by omega) (pAll0)))
    · exact pAll0
  · have a2 : p + 1 ≤ s := a2
    refine ⟨rSUc_1, List.mem_of_getElem? (i := 1) rfl, pEnd [ρ 0, ρ 1, ρ 2, ρ 3, ρ 4, ρ 5] rfl ?_ ?_ ?_ ?_⟩
    · exact hL
    · intro k b hk
      cases hk
    · exact pAll1 (show (1 + (1 * ρ 2 + ((-1) * ρ 5 + 0)) : Int) ≤ 0 by omega) (pAll1 (show (0 + ((-1) * ρ 1 + (1 * ρ 5 + 0)) : Int) ≤ 0 by omega) (pAll0))
    · exact pAll1 (pgG ho hh 506 4 rfl rfl (d) (s) (by omega) (by omega) (show (0 + (241 * ρ 3 + (1 * ρ 5 + 0)) : Int) = _ by omega) (show (0 + (1 * ρ 4 + 0) : Int) = _ by omega)) (pAll0)
noncomputable def rTRc_0 : sX := (none, [], [], [(1, [(5, 1)]), (0, [(4, 1), (5, (-1))]), (0, [(4, (-1)), (5, 1)])], [])
noncomputable def rTRc_1 : sX := (none, [(509, (0, [(3, 241), (5, 1)]), (0, [(4, 1)]))], [], [(1, [(2, 1), (5, (-1))]), (0, [(1, (-1)), (5, 1)])], [])
noncomputable def rTRc : sQ := (0, ([], [(2, 1000, (0, [])), (2, 41, (1, [])), (2, 41, (2, [])), (0, 1, (0, [])), (2, 510, (0, [(2, 1), (3, 241)])), (2, 507, (0, [(2, 1), (3, 241)]))], [(1, 1), (0, 240), (0, 240), (0, 6), ((-241), 240), ((-241), 240)], [(0, [(1, (-1)), (2, 1)])], [(0, 0), (1, 1), (2, 2), (3, 3), (4, 4), (5, 5)], (0, [])), [rTRc_0, rTRc_1], [], 0)
theorem rTRc_ok : pRul pReg pG pgv rTRc := by
  intro loc h ρ ρ0 hG hM
  have hM : sMt pReg pgv ρ ρ0 (sAs rTRc.2.1) loc [] h := hM
  have q0 : ρ0 1 = ρ 0 := (hM.2.2.2.2.2 (1, sY 0) (List.mem_of_getElem? (i := 1) rfl)).trans (sY_v ρ 0)
  have q1 : ρ0 2 = ρ 1 := (hM.2.2.2.2.2 (2, sY 1) (List.mem_of_getElem? (i := 2) rfl)).trans (sY_v ρ 1)
  have q2 : ρ0 3 = ρ 2 := (hM.2.2.2.2.2 (3, sY 2) (List.mem_of_getElem? (i := 3) rfl)).trans (sY_v ρ 2)
  have q3 : ρ0 4 = ρ 3 := (hM.2.2.2.2.2 (4, sY 3) (List.mem_of_getElem? (i := 4) rfl)).trans (sY_v ρ 3)
  have q4 : ρ0 5 = ρ 4 := (hM.2.2.2.2.2 (5, sY 4) (List.mem_of_getElem? (i := 5) rfl)).trans (sY_v ρ 4)
  have q5 : ρ0 6 = ρ 5 := (hM.2.2.2.2.2 (6, sY 5) (List.mem_of_getElem? (i := 6) rfl)).trans (sY_v ρ 5)
  have hL : ∀ j, j < 6 → pL [ρ 0, ρ 1, ρ 2, ρ 3, ρ 4, ρ 5] j = ρ0 (j + 1) := by
    intro j hj
    match j, hj with
    | 0, _ => exact q0.symm
    | 1, _ => exact q1.symm
    | 2, _ => exact q2.symm
    | 3, _ => exact q3.symm
    | 4, _ => exact q4.symm
    | 5, _ => exact q5.symm
    | k + 6, hj => omega
  have b0 : (1 : Int) ≤ ρ 0 ∧ ρ 0 ≤ 1 := hM.2.2.2.1 0 (1, 1) rfl
  have b1 : (0 : Int) ≤ ρ 1 ∧ ρ 1 ≤ 240 := hM.2.2.2.1 1 (0, 240) rfl
  have b2 : (0 : Int) ≤ ρ 2 ∧ ρ 2 ≤ 240 := hM.2.2.2.1 2 (0, 240) rfl
  have b3 : (0 : Int) ≤ ρ 3 ∧ ρ 3 ≤ 6 := hM.2.2.2.1 3 (0, 6) rfl
  have b4 : ((-241) : Int) ≤ ρ 4 ∧ ρ 4 ≤ 240 := hM.2.2.2.1 4 ((-241), 240) rfl
  have b5 : ((-241) : Int) ≤ ρ 5 ∧ ρ 5 ≤ 240 := hM.2.2.2.1 5 ((-241), 240) rfl
  have c0 : (0 + ((-1) * ρ 1 + (1 * ρ 2 + 0)) : Int) ≤ 0 := hM.2.2.2.2.1 (0, [(1, (-1)), (2, 1)]) (List.mem_of_getElem? (i := 0) rfl)
  obtain ⟨ho, hs, hh⟩ := pTold0 hM 0 (0, []) rfl b0.1
  have hn := ho.1
  have en : ρ 1 = (wN h : Int) := (pPl hM 1 41 (1, []) rfl (by omega) 353 1 (by decide +kernel) rfl).symm.trans hs.1
  obtain ⟨p, ep⟩ : ∃ p : Nat, ρ 2 = (p : Int) := ⟨(ρ 2).toNat, by omega⟩
  have hp : p ≤ wN h := by omega
  obtain ⟨s1, s2⟩ := wSk_le (B := wB h) hp
  obtain ⟨d, ed⟩ : ∃ d : Nat, ρ 3 = (d : Int) := ⟨(ρ 3).toNat, by omega⟩
  have er : ρ 4 = (wG (wN h) (wB h) 8 (d) (p)) := pfG hM ho hh 4 510 8 (0, [(2, 1), (3, 241)]) rfl rfl rfl (d := d) (p := p) (by omega) (by omega) (by show (0 + (1 * ρ 2 + (241 * ρ 3 + 0)) : Int) = _; omega)
  have ea : ρ 5 = (wG (wN h) (wB h) 5 (d) (p)) := pfG hM ho hh 5 507 5 (0, [(2, 1), (3, 241)]) rfl rfl rfl (d := d) (p := p) (by omega) (by omega) (by show (0 + (1 * ρ 2 + (241 * ρ 3 + 0)) : Int) = _; omega)
  rw [wE_TR hp] at er
  have g := wG_gd (n := wN h) (B := wB h) 5 d p rfl hp
  rcases wBd_el er g with ⟨a1, a2⟩ | ⟨s, a1, a2, a3, a4⟩
  · refine ⟨rTRc_0, List.mem_of_getElem? (i := 0) rfl, pEnd [ρ 0, ρ 1, ρ 2, ρ 3, ρ 4, ρ 5] rfl ?_ ?_ ?_ ?_⟩
    · exact hL
    · intro k b hk
      cases hk
    · exact pAll1 (show (1 + (1 * ρ 5 + 0) : Int) ≤ 0 by omega) (pAll1 (show (0 + (1 * ρ 4 + ((-1) * ρ 5 + 0)) : Int) ≤ 0 by omega) (pAll1 (show (0 + ((-1) * ρ 4 + (1 * ρ 5 + 0)) : Int) ≤ 0 by omega) (pAll0)))
    · exact pAll0
  · have a2 : p + 1 ≤ s := a2
    refine ⟨rTRc_1, List.mem_of_getElem? (i := 1) rfl, pEnd [ρ 0, ρ 1, ρ 2, ρ 3, ρ 4, ρ 5] rfl ?_ ?_ ?_ ?_⟩
    · exact hL
    · intro k b hk
      cases hk
    · exact pAll1 (show (1 + (1 * ρ 2 + ((-1) * ρ 5 + 0)) : Int) ≤ 0 by omega) (pAll1 (show (0 + ((-1) * ρ 1 + (1 * ρ 5 + 0)) : Int) ≤ 0 by omega) (pAll0))
    · exact pAll1 (pgG ho hh 509 7 rfl rfl (d) (s) (by omega) (by omega) (show (0 + (241 * ρ 3 + (1 * ρ 5 + 0)) : Int) = _ by omega) (show (0 + (1 * ρ 4 + 0) : Int) = _ by omega)) (pAll0)
noncomputable def rCOc_0 : sX := (none, [], [], [(1, [(5, 1)]), (0, [(4, 1), (5, (-1))]), (0, [(4, (-1)), (5, 1)])], [])
noncomputable def rCOc_1 : sX := (none, [(511, (0, [(3, 241), (5, 1)]), (0, [(4, 1)]))], [], [(1, [(2, 1), (5, (-1))]), (0, [(1, (-1)), (5, 1)])], [])
noncomputable def rCOc : sQ := (0, ([], [(2, 1000, (0, [])), (2, 41, (1, [])), (2, 41, (2, [])), (0, 1, (0, [])), (2, 512, (0, [(2, 1), (3, 241)])), (2, 510, (0, [(2, 1), (3, 241)]))], [(1, 1), (0, 240), (0, 240), (0, 6), ((-241), 240), ((-241), 240)], [(0, [(1, (-1)), (2, 1)])], [(0, 0), (1, 1), (2, 2), (3, 3), (4, 4), (5, 5)], (0, [])), [rCOc_0, rCOc_1], [], 0)
theorem rCOc_ok : pRul pReg pG pgv rCOc := by
  intro loc h ρ ρ0 hG hM
  have hM : sMt pReg pgv ρ ρ0 (sAs rCOc.2.1) loc [] h := hM
  have q0 : ρ0 1 = ρ 0 := (hM.2.2.2.2.2 (1, sY 0) (List.mem_of_getElem? (i := 1) rfl)).trans (sY_v ρ 0)
  have q1 : ρ0 2 = ρ 1 := (hM.2.2.2.2.2 (2, sY 1) (List.mem_of_getElem? (i := 2) rfl)).trans (sY_v ρ 1)
  have q2 : ρ0 3 = ρ 2 := (hM.2.2.2.2.2 (3, sY 2) (List.mem_of_getElem? (i := 3) rfl)).trans (sY_v ρ 2)
  have q3 : ρ0 4 = ρ 3 := (hM.2.2.2.2.2 (4, sY 3) (List.mem_of_getElem? (i := 4) rfl)).trans (sY_v ρ 3)
  have q4 : ρ0 5 = ρ 4 := (hM.2.2.2.2.2 (5, sY 4) (List.mem_of_getElem? (i := 5) rfl)).trans (sY_v ρ 4)
  have q5 : ρ0 6 = ρ 5 := (hM.2.2.2.2.2 (6, sY 5) (List.mem_of_getElem? (i := 6) rfl)).trans (sY_v ρ 5)
  have hL : ∀ j, j < 6 → pL [ρ 0, ρ 1, ρ 2, ρ 3, ρ 4, ρ 5] j = ρ0 (j + 1) := by
    intro j hj
    match j, hj with
    | 0, _ => exact q0.symm
    | 1, _ => exact q1.symm
    | 2, _ => exact q2.symm
    | 3, _ => exact q3.symm
    | 4, _ => exact q4.symm
    | 5, _ => exact q5.symm
    | k + 6, hj => omega
  have b0 : (1 : Int) ≤ ρ 0 ∧ ρ 0 ≤ 1 := hM.2.2.2.1 0 (1, 1) rfl
  have b1 : (0 : Int) ≤ ρ 1 ∧ ρ 1 ≤ 240 := hM.2.2.2.1 1 (0, 240) rfl
  have b2 : (0 : Int) ≤ ρ 2 ∧ ρ 2 ≤ 240 := hM.2.2.2.1 2 (0, 240) rfl
  have b3 : (0 : Int) ≤ ρ 3 ∧ ρ 3 ≤ 6 := hM.2.2.2.1 3 (0, 6) rfl
  have b4 : ((-241) : Int) ≤ ρ 4 ∧ ρ 4 ≤ 240 := hM.2.2.2.1 4 ((-241), 240) rfl
  have b5 : ((-241) : Int) ≤ ρ 5 ∧ ρ 5 ≤ 240 := hM.2.2.2.1 5 ((-241), 240) rfl
  have c0 : (0 + ((-1) * ρ 1 + (1 * ρ 2 + 0)) : Int) ≤ 0 := hM.2.2.2.2.1 (0, [(1, (-1)), (2, 1)]) (List.mem_of_getElem? (i := 0) rfl)
  obtain ⟨ho, hs, hh⟩ := pTold0 hM 0 (0, []) rfl b0.1
  have hn := ho.1
  have en : ρ 1 = (wN h : Int) := (pPl hM 1 41 (1, []) rfl (by omega) 353 1 (by decide +kernel) rfl).symm.trans hs.1
  obtain ⟨p, ep⟩ : ∃ p : Nat, ρ 2 = (p : Int) := ⟨(ρ 2).toNat, by omega⟩
  have hp : p ≤ wN h := by omega
  obtain ⟨s1, s2⟩ := wSk_le (B := wB h) hp
  obtain ⟨d, ed⟩ : ∃ d : Nat, ρ 3 = (d : Int) := ⟨(ρ 3).toNat, by omega⟩
  have er : ρ 4 = (wG (wN h) (wB h) 10 (d) (p)) := pfG hM ho hh 4 512 10 (0, [(2, 1), (3, 241)]) rfl rfl rfl (d := d) (p := p) (by omega) (by omega) (by show (0 + (1 * ρ 2 + (241 * ρ 3 + 0)) : Int) = _; omega)
  have ea : ρ 5 = (wG (wN h) (wB h) 8 (d) (p)) := pfG hM ho hh 5 510 8 (0, [(2, 1), (3, 241)]) rfl rfl rfl (d := d) (p := p) (by omega) (by omega) (by show (0 + (1 * ρ 2 + (241 * ρ 3 + 0)) : Int) = _; omega)
  rw [wE_CO hp] at er
  have g := wG_gd (n := wN h) (B := wB h) 8 d p rfl hp
  rcases wBd_el er g with ⟨a1, a2⟩ | ⟨s, a1, a2, a3, a4⟩
  · refine ⟨rCOc_0, List.mem_of_getElem? (i := 0) rfl, pEnd [ρ 0, ρ 1, ρ 2, ρ 3, ρ 4, ρ 5] rfl ?_ ?_ ?_ ?_⟩
    · exact hL
    · intro k b hk
      cases hk
    · exact pAll1 (show (1 + (1 * ρ 5 + 0) : Int) ≤ 0 by omega) (pAll1 (show (0 + (1 * ρ 4 + ((-1) * ρ 5 + 0)) : Int) ≤ 0 by omega) (pAll1 (show (0 + ((-1) * ρ 4 + (1 * ρ 5 + 0)) : Int) ≤ 0 by omega) (pAll0)))
    · exact pAll0
  · have a2 : p + 1 ≤ s := a2
    refine ⟨rCOc_1, List.mem_of_getElem? (i := 1) rfl, pEnd [ρ 0, ρ 1, ρ 2, ρ 3, ρ 4, ρ 5] rfl ?_ ?_ ?_ ?_⟩
    · exact hL
    · intro k b hk
      cases hk
    · exact pAll1 (show (1 + (1 * ρ 2 + ((-1) * ρ 5 + 0)) : Int) ≤ 0 by omega) (pAll1 (show (0 + ((-1) * ρ 1 + (1 * ρ 5 + 0)) : Int) ≤ 0 by omega) (pAll0))
    · exact pAll1 (pgG ho hh 511 9 rfl rfl (d) (s) (by omega) (by omega) (show (0 + (241 * ρ 3 + (1 * ρ 5 + 0)) : Int) = _ by omega) (show (0 + (1 * ρ 4 + 0) : Int) = _ by omega)) (pAll0)
noncomputable def rTBc_0 : sX := (none, [], [], [(1, [(5, 1)]), (0, [(4, 1), (5, (-1))]), (0, [(4, (-1)), (5, 1)])], [])
noncomputable def rTBc_1 : sX := (none, [(509, (0, [(3, 241), (5, 1)]), (0, [(4, 1)]))], [], [(1, [(2, 1), (5, (-1))]), (0, [(1, (-1)), (5, 1)])], [])
noncomputable def rTBc : sQ := (0, ([], [(2, 1000, (0, [])), (2, 41, (1, [])), (2, 41, (2, [])), (0, 1, (0, [])), (2, 517, (0, [(2, 1), (3, 241)])), (2, 508, (0, [(2, 1), (3, 241)]))], [(1, 1), (0, 240), (0, 240), (0, 6), ((-241), 240), ((-241), 240)], [(0, [(1, (-1)), (2, 1)])], [(0, 0), (1, 1), (2, 2), (3, 3), (4, 4), (5, 5)], (0, [])), [rTBc_0, rTBc_1], [], 0)
theorem rTBc_ok : pRul pReg pG pgv rTBc := by
  intro loc h ρ ρ0 hG hM
  have hM : sMt pReg pgv ρ ρ0 (sAs rTBc.2.1) loc [] h := hM
  have q0 : ρ0 1 = ρ 0 := (hM.2.2.2.2.2 (1, sY 0) (List.mem_of_getElem? (i := 1) rfl)).trans (sY_v ρ 0)
  have q1 : ρ0 2 = ρ 1 := (hM.2.2.2.2.2 (2, sY 1) (List.mem_of_getElem? (i := 2) rfl)).trans (sY_v ρ 1)
  have q2 : ρ0 3 = ρ 2 := (hM.2.2.2.2.2 (3, sY 2) (List.mem_of_getElem? (i := 3) rfl)).trans (sY_v ρ 2)
  have q3 : ρ0 4 = ρ 3 := (hM.2.2.2.2.2 (4, sY 3) (List.mem_of_getElem? (i := 4) rfl)).trans (sY_v ρ 3)
  have q4 : ρ0 5 = ρ 4 := (hM.2.2.2.2.2 (5, sY 4) (List.mem_of_getElem? (i := 5) rfl)).trans (sY_v ρ 4)
  have q5 : ρ0 6 = ρ 5 := (hM.2.2.2.2.2 (6, sY 5) (List.mem_of_getElem? (i := 6) rfl)).trans (sY_v ρ 5)
  have hL : ∀ j, j < 6 → pL [ρ 0, ρ 1, ρ 2, ρ 3, ρ 4, ρ 5] j = ρ0 (j + 1) := by
    intro j hj
    match j, hj with
    | 0, _ => exact q0.symm
    | 1, _ => exact q1.symm
    | 2, _ => exact q2.symm
    | 3, _ => exact q3.symm
    | 4, _ => exact q4.symm
    | 5, _ => exact q5.symm
    | k + 6, hj => omega
  have b0 : (1 : Int) ≤ ρ 0 ∧ ρ 0 ≤ 1 := hM.2.2.2.1 0 (1, 1) rfl
  have b1 : (0 : Int) ≤ ρ 1 ∧ ρ 1 ≤ 240 := hM.2.2.2.1 1 (0, 240) rfl
  have b2 : (0 : Int) ≤ ρ 2 ∧ ρ 2 ≤ 240 := hM.2.2.2.1 2 (0, 240) rfl
  have b3 : (0 : Int) ≤ ρ 3 ∧ ρ 3 ≤ 6 := hM.2.2.2.1 3 (0, 6) rfl
  have b4 : ((-241) : Int) ≤ ρ 4 ∧ ρ 4 ≤ 240 := hM.2.2.2.1 4 ((-241), 240) rfl
  have b5 : ((-241) : Int) ≤ ρ 5 ∧ ρ 5 ≤ 240 := hM.2.2.2.1 5 ((-241), 240) rfl
  have c0 : (0 + ((-1) * ρ 1 + (1 * ρ 2 + 0)) : Int) ≤ 0 := hM.2.2.2.2.1 (0, [(1, (-1)), (2, 1)]) (List.mem_of_getElem? (i := 0) rfl)
  obtain ⟨ho, hs, hh⟩ := pTold0 hM 0 (0, []) rfl b0.1
  have hn := ho.1
  have en : ρ 1 = (wN h : Int) := (pPl hM 1 41 (1, []) rfl (by omega) 353 1 (by decide +kernel) rfl).symm.trans hs.1
  obtain ⟨p, ep⟩ : ∃ p : Nat, ρ 2 = (p : Int) := ⟨(ρ 2).toNat, by omega⟩
  have hp : p ≤ wN h := by omega
  obtain ⟨s1, s2⟩ := wSk_le (B := wB h) hp
  obtain ⟨d, ed⟩ : ∃ d : Nat, ρ 3 = (d : Int) := ⟨(ρ 3).toNat, by omega⟩
  have er : ρ 4 = (wG (wN h) (wB h) 15 (d) (p)) := pfG hM ho hh 4 517 15 (0, [(2, 1), (3, 241)]) rfl rfl rfl (d := d) (p := p) (by omega) (by omega) (by show (0 + (1 * ρ 2 + (241 * ρ 3 + 0)) : Int) = _; omega)
  have ea : ρ 5 = (wG (wN h) (wB h) 6 (d) (p)) := pfG hM ho hh 5 508 6 (0, [(2, 1), (3, 241)]) rfl rfl rfl (d := d) (p := p) (by omega) (by omega) (by show (0 + (1 * ρ 2 + (241 * ρ 3 + 0)) : Int) = _; omega)
  rw [wE_TB hp] at er
  have g := wG_gd (n := wN h) (B := wB h) 6 d p rfl hp
  rcases wBd_el er g with ⟨a1, a2⟩ | ⟨s, a1, a2, a3, a4⟩
  · refine ⟨rTBc_0, List.mem_of_getElem? (i := 0) rfl, pEnd [ρ 0, ρ 1, ρ 2, ρ 3, ρ 4, ρ 5] rfl ?_ ?_ ?_ ?_⟩
    · exact hL
    · intro k b hk
      cases hk
    · exact pAll1 (show (1 + (1 * ρ 5 + 0) : Int) ≤ 0 by omega) (pAll1 (show (0 + (1 * ρ 4 + ((-1) * ρ 5 + 0)) : Int) ≤ 0 by omega) (pAll1 (show (0 + ((-1) * ρ 4 + (1 * ρ 5 + 0)) : Int) ≤ 0 by omega) (pAll0)))
    · exact pAll0
  · have a2 : p + 1 ≤ s := a2
    refine ⟨rTBc_1, List.mem_of_getElem? (i := 1) rfl, pEnd [ρ 0, ρ 1, ρ 2, ρ 3, ρ 4, ρ 5] rfl ?_ ?_ ?_ ?_⟩
    · exact hL
    · intro k b hk
      cases hk
    · exact pAll1 (show (1 + (1 * ρ 2 + ((-1) * ρ 5 + 0)) : Int) ≤ 0 by omega) (pAll1 (show (0 + ((-1) * ρ 1 + (1 * ρ 5 + 0)) : Int) ≤ 0 by omega) (pAll0))
    · exact pAll1 (pgG ho hh 509 7 rfl rfl (d) (s) (by omega) (by omega) (show (0 + (241 * ρ 3 + (1 * ρ 5 + 0)) : Int) = _ by omega) (show (0 + (1 * ρ 4 + 0) : Int) = _ by omega)) (pAll0)
noncomputable def rCBc_0 : sX := (none, [], [], [(1, [(5, 1)]), (0, [(4, 1), (5, (-1))]), (0, [(4, (-1)), (5, 1)])], [])
noncomputable def rCBc_1 : sX := (none, [(511, (0, [(3, 241), (5, 1)]), (0, [(4, 1)]))], [], [(1, [(2, 1), (5, (-1))]), (0, [(1, (-1)), (5, 1)])], [])
noncomputable def rCBc : sQ := (0, ([], [(2, 1000, (0, [])), (2, 41, (1, [])), (2, 41, (2, [])), (0, 1, (0, [])), (2, 518, (0, [(2, 1), (3, 241)])), (2, 517, (0, [(2, 1), (3, 241)]))], [(1, 1), (0, 240), (0, 240), (0, 6), ((-241), 240), ((-241), 240)], [(0, [(1, (-1)), (2, 1)])], [(0, 0), (1, 1), (2, 2), (3, 3), (4, 4), (5, 5)], (0, [])), [rCBc_0, rCBc_1], [], 0)
theorem rCBc_ok : pRul pReg pG pgv rCBc := by
  intro loc h ρ ρ0 hG hM
  have hM : sMt pReg pgv ρ ρ0 (sAs rCBc.2.1) loc [] h := hM
  have q0 : ρ0 1 = ρ 0 := (hM.2.2.2.2.2 (1, sY 0) (List.mem_of_getElem? (i := 1) rfl)).trans (sY_v ρ 0)
  have q1 : ρ0 2 = ρ 1 := (hM.2.2.2.2.2 (2, sY 1) (List.mem_of_getElem? (i := 2) rfl)).trans (sY_v ρ 1)
  have q2 : ρ0 3 = ρ 2 := (hM.2.2.2.2.2 (3, sY 2) (List.mem_of_getElem? (i := 3) rfl)).trans (sY_v ρ 2)
  have q3 : ρ0 4 = ρ 3 := (hM.2.2.2.2.2 (4, sY 3) (List.mem_of_getElem? (i := 4) rfl)).trans (sY_v ρ 3)
  have q4 : ρ0 5 = ρ 4 := (hM.2.2.2.2.2 (5, sY 4) (List.mem_of_getElem? (i := 5) rfl)).trans (sY_v ρ 4)
  have q5 : ρ0 6 = ρ 5 := (hM.2.2.2.2.2 (6, sY 5) (List.mem_of_getElem? (i := 6) rfl)).trans (sY_v ρ 5)
  have hL : ∀ j, j < 6 → pL [ρ 0, ρ 1, ρ 2, ρ 3, ρ 4, ρ 5] j = ρ0 (j + 1) := by
    intro j hj
    match j, hj with
    | 0, _ => exact q0.symm
    | 1, _ => exact q1.symm
    | 2, _ => exact q2.symm
    | 3, _ => exact q3.symm
    | 4, _ => exact q4.symm
    | 5, _ => exact q5.symm
    | k + 6, hj => omega
  have b0 : (1 : Int) ≤ ρ 0 ∧ ρ 0 ≤ 1 := hM.2.2.2.1 0 (1, 1) rfl
  have b1 : (0 : Int) ≤ ρ 1 ∧ ρ 1 ≤ 240 := hM.2.2.2.1 1 (0, 240) rfl
  have b2 : (0 : Int) ≤ ρ 2 ∧ ρ 2 ≤ 240 := hM.2.2.2.1 2 (0, 240) rfl
  have b3 : (0 : Int) ≤ ρ 3 ∧ ρ 3 ≤ 6 := hM.2.2.2.1 3 (0, 6) rfl
  have b4 : ((-241) : Int) ≤ ρ 4 ∧ ρ 4 ≤ 240 := hM.2.2.2.1 4 ((-241), 240) rfl
  have b5 : ((-241) : Int) ≤ ρ 5 ∧ ρ 5 ≤ 240 := hM.2.2.2.1 5 ((-241), 240) rfl
  have c0 : (0 + ((-1) * ρ 1 + (1 * ρ 2 + 0)) : Int) ≤ 0 := hM.2.2.2.2.1 (0, [(1, (-1)), (2, 1)]) (List.mem_of_getElem? (i := 0) rfl)
  obtain ⟨ho, hs, hh⟩ := pTold0 hM 0 (0, []) rfl b0.1
  have hn := ho.1
  have en : ρ 1 = (wN h : Int) := (pPl hM 1 41 (1, []) rfl (by omega) 353 1 (by decide +kernel) rfl).symm.trans hs.1
  obtain ⟨p, ep⟩ : ∃ p : Nat, ρ 2 = (p : Int) := ⟨(ρ 2).toNat, by omega⟩
  have hp : p ≤ wN h := by omega
  obtain ⟨s1, s2⟩ := wSk_le (B := wB h) hp
  obtain ⟨d, ed⟩ : ∃ d : Nat, ρ 3 = (d : Int) := ⟨(ρ 3).toNat, by omega⟩
  have er : ρ 4 = (wG (wN h) (wB h) 16 (d) (p)) := pfG hM ho hh 4 518 16 (0, [(2, 1), (3, 241)]) rfl rfl rfl (d := d) (p := p) (by omega) (by omega) (by show (0 + (1 * ρ 2 + (241 * ρ 3 + 0)) : Int) = _; omega)
  have ea : ρ 5 = (wG (wN h) (wB h) 15 (d) (p)) := pfG hM ho hh 5 517 15 (0, [(2, 1), (3, 241)]) rfl rfl rfl (d := d) (p := p) (by omega) (by omega) (by show (0 + (1 * ρ 2 + (241 * ρ 3 + 0)) : Int) = _; omega)
  rw [wE_CB hp] at er
  have g := wG_gd (n := wN h) (B := wB h) 15 d p rfl hp
  rcases wBd_el er g with ⟨a1, a2⟩ | ⟨s, a1, a2, a3, a4⟩
  · refine ⟨rCBc_0, List.mem_of_getElem? (i := 0) rfl, pEnd [ρ 0, ρ 1, ρ 2, ρ 3, ρ 4, ρ 5] rfl ?_ ?_ ?_ ?_⟩
    · exact hL
    · intro k b hk
      cases hk
    · exact pAll1 (show (1 + (1 * ρ 5 + 0) : Int) ≤ 0 by omega) (pAll1 (show (0 + (1 * ρ 4 + ((-1) * ρ 5 + 0)) : Int) ≤ 0 by omega) (pAll1 (show (0 + ((-1) * ρ 4 + (1 * ρ 5 + 0)) : Int) ≤ 0 by omega) (pAll0)))
    · exact pAll0
  · have a2 : p + 1 ≤ s := a2
    refine ⟨rCBc_1, List.mem_of_getElem? (i := 1) rfl, pEnd [ρ 0, ρ 1, ρ 2, ρ 3, ρ 4, ρ 5] rfl ?_ ?_ ?_ ?_⟩
    · exact hL
    · intro k b hk
      cases hk
    · exact pAll1 (show (1 + (1 * ρ 2 + ((-1) * ρ 5 + 0)) : Int) ≤ 0 by omega) (pAll1 (show (0 + ((-1) * ρ 1 + (1 * ρ 5 + 0)) : Int) ≤ 0 by omega) (pAll0))
    · exact pAll1 (pgG ho hh 511 9 rfl rfl (d) (s) (by omega) (by omega) (show (0 + (241 * ρ 3 + (1 * ρ 5 + 0)) : Int) = _ by omega) (show (0 + (1 * ρ 4 + 0) : Int) = _ by omega)) (pAll0)
noncomputable def rTTc_0 : sX := (none, [(502, (1, [(3, 241), (5, 1)]), (0, [(7, 1)]))], [((-241), (-1))], [(0, [(2, 1), (5, (-1))]), (0, [(1, (-1)), (5, 1)]), (1, [(1, (-1)), (5, 1)]), (1, [(6, (-1))]), ((-42), [(6, 1)]), (42, [(6, (-1))]), (0, [(4, 1), (7, (-1))]), (0, [(4, (-1)), (7, 1)])], [])
noncomputable def rTTc_1 : sX := (none, [(502, (1, [(3, 241), (5, 1)]), (0, [(7, 1)])), (504, (0, [(3, 241), (7, 1)]), (0, [(4, 1)]))], [(0, 240)], [(0, [(2, 1), (5, (-1))]), (0, [(1, (-1)), (5, 1)]), (1, [(1, (-1)), (5, 1)]), (1, [(6, (-1))]), ((-42), [(6, 1)]), (42, [(6, (-1))]), (2, [(5, 1), (7, (-1))]), (0, [(1, (-1)), (7, 1)])], [])
noncomputable def rTTc_2 : sX := (none, [(502, (1, [(3, 241), (5, 1)]), (0, [(7, 1)]))], [((-241), (-1))], [(0, [(2, 1), (5, (-1))]), (0, [(1, (-1)), (5, 1)]), (1, [(1, (-1)), (5, 1)]), (1, [(6, (-1))]), ((-47), [(6, 1)]), (47, [(6, (-1))]), (0, [(4, 1), (7, (-1))]), (0, [(4, (-1)), (7, 1)])], [])
noncomputable def rTTc_3 : sX := (none, [(502, (1, [(3, 241), (5, 1)]), (0, [(7, 1)])), (504, (0, [(3, 241), (7, 1)]), (0, [(4, 1)]))], [(0, 240)], [(0, [(2, 1), (5, (-1))]), (0, [(1, (-1)), (5, 1)]), (1, [(1, (-1)), (5, 1)]), (1, [(6, (-1))]), ((-47), [(6, 1)]), (47, [(6, (-1))]), (2, [(5, 1), (7, (-1))]), (0, [(1, (-1)), (7, 1)])], [])
noncomputable def rTTc_4 : sX := (none, [], [], [(0, [(2, 1), (5, (-1))]), (0, [(1, (-1)), (5, 1)]), ((-41), [(6, 1)]), (0, [(4, 1), (5, (-1))]), (0, [(4, (-1)), (5, 1)])], [])
noncomputable def rTTc_5 : sX := (none, [], [], [(0, [(2, 1), (5, (-1))]), (0, [(1, (-1)), (5, 1)]), (43, [(6, (-1))]), ((-46), [(6, 1)]), (0, [(4, 1), (5, (-1))]), (0, [(4, (-1)), (5, 1)])], [])
noncomputable def rTTc_6 : sX := (none, [], [], [(0, [(2, 1), (5, (-1))]), (0, [(1, (-1)), (5, 1)]), (48, [(6, (-1))]), (0, [(4, 1), (5, (-1))]), (0, [(4, (-1)), (5, 1)])], [])
noncomputable def rTTc : sQ := (0, ([], [(2, 1000, (0, [])), (2, 41, (1, [])), (2, 41, (2, [])), (0, 1, (0, [])), (2, 504, (0, [(2, 1), (3, 241)])), (2, 500, (0, [(2, 1)])), (2, 501, (0, [(5, 1)]))], [(1, 1), (0, 240), (0, 240), (0, 6), ((-241), 240), (0, 240), (0, 255)], [(0, [(1, (-1)), (2, 1)])], [(0, 0), (1, 1), (2, 2), (3, 3), (4, 4), (5, 5), (6, 6)], (0, [])), [rTTc_0, rTTc_1, rTTc_2, rTTc_3, rTTc_4, rTTc_5, rTTc_6], [], 0)
theorem rTTc_ok : pRul pReg pG pgv rTTc := by
  intro loc h ρ ρ0 hG hM
  have hM : sMt pReg pgv ρ ρ0 (sAs rTTc.2.1) loc [] h := hM
  have q0 : ρ0 1 = ρ 0 := (hM.2.2.2.2.2 (1, sY 0) (List.mem_of_getElem? (i := 1) rfl)).trans (sY_v ρ 0)
  have q1 : ρ0 2 = ρ 1 := (hM.2.2.2.2.2 (2, sY 1) (List.mem_of_getElem? (i := 2) rfl)).trans (sY_v ρ 1)
  have q2 : ρ0 3 = ρ 2 := (hM.2.2.2.2.2 (3, sY 2) (List.mem_of_getElem? (i := 3) rfl)).trans (sY_v ρ 2)
  have q3 : ρ0 4 = ρ 3 := (hM.2.2.2.2.2 (4, sY 3) (List.mem_of_getElem? (i := 4) rfl)).trans (sY_v ρ 3)
  have q4 : ρ0 5 = ρ 4 := (hM.2.2.2.2.2 (5, sY 4) (List.mem_of_getElem? (i := 5) rfl)).trans (sY_v ρ 4)
  have q5 : ρ0 6 = ρ 5 := (hM.2.2.2.2.2 (6, sY 5) (List.mem_of_getElem? (i := 6) rfl)).trans (sY_v ρ 5)
  have q6 : ρ0 7 = ρ 6 := (hM.2.2.2.2.2 (7, sY 6) (List.mem_of_getElem? (i := 7) rfl)).trans (sY_v ρ 6)
  have hL : ∀ j, j < 7 → pL [ρ 0, ρ 1, ρ 2, ρ 3, ρ 4, ρ 5, ρ 6] j = ρ0 (j + 1) := by
    intro j hj
    match j, hj with
    | 0, _ => exact q0.symm
    | 1, _ => exact q1.symm
    | 2, _ => exact q2.symm
    | 3, _ => exact q3.symm
    | 4, _ => exact q4.symm
    | 5, _ => exact q5.symm
    | 6, _ => exact q6.symm
    | k + 7, hj => omega
  have b0 : (1 : Int) ≤ ρ 0 ∧ ρ 0 ≤ 1 := hM.2.2.2.1 0 (1, 1) rfl
  have b1 : (0 : Int) ≤ ρ 1 ∧ ρ 1 ≤ 240 := hM.2.2.2.1 1 (0, 240) rfl
  have b2 : (0 : Int) ≤ ρ 2 ∧ ρ 2 ≤ 240 := hM.2.2.2.1 2 (0, 240) rfl
  have b3 : (0 : Int) ≤ ρ 3 ∧ ρ 3 ≤ 6 := hM.2.2.2.1 3 (0, 6) rfl
  have b4 : ((-241) : Int) ≤ ρ 4 ∧ ρ 4 ≤ 240 := hM.2.2.2.1 4 ((-241), 240) rfl
  have b5 : (0 : Int) ≤ ρ 5 ∧ ρ 5 ≤ 240 := hM.2.2.2.1 5 (0, 240) rfl
  have b6 : (0 : Int) ≤ ρ 6 ∧ ρ 6 ≤ 255 := hM.2.2.2.1 6 (0, 255) rfl
  have c0 : (0 + ((-1) * ρ 1 + (1 * ρ 2 + 0)) : Int) ≤ 0 := hM.2.2.2.2.1 (0, [(1, (-1)), (2, 1)]) (List.mem_of_getElem? (i := 0) rfl)
  obtain ⟨ho, hs, hh⟩ := pTold0 hM 0 (0, []) rfl b0.1
  have hn := ho.1
  have en : ρ 1 = (wN h : Int) := (pPl hM 1 41 (1, []) rfl (by omega) 353 1 (by decide +kernel) rfl).symm.trans hs.1
  obtain ⟨p, ep⟩ : ∃ p : Nat, ρ 2 = (p : Int) := ⟨(ρ 2).toNat, by omega⟩
  have hp : p ≤ wN h := by omega
  obtain ⟨s1, s2⟩ := wSk_le (B := wB h) hp
  obtain ⟨d, ed⟩ : ∃ d : Nat, ρ 3 = (d : Int) := ⟨(ρ 3).toNat, by omega⟩
  have er : ρ 4 = (wG (wN h) (wB h) 2 (d) (p)) := pfG hM ho hh 4 504 2 (0, [(2, 1), (3, 241)]) rfl rfl rfl (d := d) (p := p) (by omega) (by omega) (by show (0 + (1 * ρ 2 + (241 * ρ 3 + 0)) : Int) = _; omega)
  have eq : ρ 5 = ((wSk (wN h) (wB h) (p)) : Int) := pfS hM ho hh 5 (0, [(2, 1)]) rfl (p := p) (by omega) (by show (0 + (1 * ρ 2 + 0) : Int) = _; omega)
  have ec : ρ 6 = (wCh (wN h) (wB h) ((wSk (wN h) (wB h) (p)))) := pfC hM ho hh 6 (0, [(5, 1)]) rfl (p := (wSk (wN h) (wB h) (p))) (by omega) (by show (0 + (1 * ρ 5 + 0) : Int) = _; omega)
  have cbc := wCh_bd ho ((wSk (wN h) (wB h) (p)))
  have clc : (wCh (wN h) (wB h) ((wSk (wN h) (wB h) (p)))) ≠ 0 → (wSk (wN h) (wB h) (p)) < wN h := wCh_lt
  rw [wE_TT hp] at er
  by_cases h1 : (wCh (wN h) (wB h) ((wSk (wN h) (wB h) (p)))) = 42 ∨ (wCh (wN h) (wB h) ((wSk (wN h) (wB h) (p)))) = 47
  · rw [if_pos h1] at er
    have hq := clc (by omega)
    have g := wG_gd (n := wN h) (B := wB h) 0 d ((wSk (wN h) (wB h) (p)) + 1) rfl (by omega)
    rcases wBd_el er g with ⟨a1, a2⟩ | ⟨s, a1, a2, a3, a4⟩
    · have := g.1 a1
      rcases h1 with h1 | h1
      · refine ⟨rTTc_0, List.mem_of_getElem? (i := 0) rfl, pEnd [ρ 0, ρ 1, ρ 2, ρ 3, ρ 4, ρ 5, ρ 6, (wG (wN h) (wB h) 0 (d) ((wSk (wN h) (wB h) (p)) + 1))] rfl ?_ ?_ ?_ ?_⟩
        · intro j hj
          match j, hj with
          | 0, _ => exact q0.symm
          | 1, _ => exact q1.symm
          | 2, _ => exact q2.symm
          | 3, _ => exact q3.symm
          | 4, _ => exact q4.symm
          | 5, _ => exact q5.symm
          | 6, _ => exact q6.symm
          | k + 7, hj => exact absurd hj (by show ¬ (k + 7 < 7); omega)
        · intro k b hk
          match k, hk with
          | 0, hk => cases hk; exact (show ((-241) : Int) ≤ (wG (wN h) (wB h) 0 (d) ((wSk (wN h) (wB h) (p)) + 1)) ∧ (wG (wN h) (wB h) 0 (d) ((wSk (wN h) (wB h) (p)) + 1)) ≤ ((-1) : Int) by omega)
          | k + 1, hk => cases hk
        · exact pAll1 (show (0 + (1 * ρ 2 + ((-1) * ρ 5 + 0)) : Int) ≤ 0 by omega) (pAll1 (show (0 + ((-1) * ρ 1 + (1 * ρ 5 + 0)) : Int) ≤ 0 by omega) (pAll1 (show (1 + ((-1) * ρ 1 + (1 * ρ 5 + 0)) : Int) ≤ 0 by omega) (pAll1 (show (1 + ((-1) * ρ 6 + 0) : Int) ≤ 0 by omega) (pAll1 (show ((-42) + (1 * ρ 6 + 0) : Int) ≤ 0 by omega) (pAll1 (show (42 + ((-1) * ρ 6 + 0) : Int) ≤ 0 by omega) (pAll1 (show (0 + (1 * ρ 4 + ((-1) * (wG (wN h) (wB h) 0 (d) ((wSk (wN h) (wB h) (p)) + 1)) + 0)) : Int) ≤ 0 by omega) (pAll1 (show (0 + ((-1) * ρ 4 + (1 * (wG (wN h) (wB h) 0 (d) ((wSk (wN h) (wB h) (p)) + 1)) + 0)) : Int) ≤ 0 by omega) (pAll0))))))))
        · exact pAll1 (pgG ho hh 502 0 rfl rfl (d) ((wSk (wN h) (wB h) (p)) + 1) (by omega) (by omega) (show (1 + (241 * ρ 3 + (1 * ρ 5 + 0)) : Int) = _ by omega) (show (0 + (1 * (wG (wN h) (wB h) 0 (d) ((wSk (wN h) (wB h) (p)) + 1)) + 0) : Int) = _ by omega)) (pAll0)
      · refine ⟨rTTc_2, List.mem_of_getElem? (i := 2) rfl, pEnd [ρ 0, ρ 1, ρ 2, ρ 3, ρ 4, ρ 5, ρ 6, (wG (wN h) (wB h) 0 (d) ((wSk (wN h) (wB h) (p)) + 1))] rfl ?_ ?_ ?_ ?_⟩
        · intro j hj
          match j, hj with
          | 0, _ => exact q0.symm
          | 1, _ => exact q1.symm
          | 2, _ => exact q2.symm
          | 3, _ => exact q3.symm
          | 4, _ => exact q4.symm
          | 5, _ => exact q5.symm
          | 6, _ => exact q6.symm
          | k + 7, hj => exact absurd hj (by show ¬ (k + 7 < 7); omega)
        · intro k b hk
          match k, hk with
          | 0, hk => cases hk; exact (show ((-241) : Int) ≤ (wG (wN h) (wB h) 0 (d) ((wSk (wN h) (wB h) (p)) + 1)) ∧ (wG (wN h) (wB h) 0 (d) ((wSk (wN h) (wB h) (p)) + 1)) ≤ ((-1) : Int) by omega)
          | k + 1, hk => cases hk
        · exact pAll1 (show (0 + (1 * ρ 2 + ((-1) * ρ 5 + 0)) : Int) ≤ 0 by omega) (pAll1 (show (0 + ((-1) * ρ 1 + (1 * ρ 5 + 0)) : Int) ≤ 0 by omega) (pAll1 (show (1 + ((-1) * ρ 1 + (1 * ρ 5 + 0)) : Int) ≤ 0 by omega) (pAll1 (show (1 + ((-1) * ρ 6 + 0) : Int) ≤ 0 by omega) (pAll1 (show ((-47) + (1 * ρ 6 + 0) : Int) ≤ 0 by omega) (pAll1 (show (47 + ((-1) * ρ 6 + 0) : Int) ≤ 0 by omega) (pAll1 (show (0 + (1 * ρ 4 + ((-1) * (wG (wN h) (wB h) 0 (d) ((wSk (wN h) (wB h) (p)) + 1)) + 0)) : Int) ≤ 0 by omega) (pAll1 (show (0 + ((-1) * ρ 4 + (1 * (wG (wN h) (wB h) 0 (d) ((wSk (wN h) (wB h) (p)) + 1)) + 0)) : Int) ≤ 0 by omega) (pAll0))))))))
        · exact pAll1 (pgG ho hh 502 0 rfl rfl (d) ((wSk (wN h) (wB h) (p)) + 1) (by omega) (by omega) (show (1 + (241 * ρ 3 + (1 * ρ 5 + 0)) : Int) = _ by omega) (show (0 + (1 * (wG (wN h) (wB h) 0 (d) ((wSk (wN h) (wB h) (p)) + 1)) + 0) : Int) = _ by omega)) (pAll0)
    · have a2 : (wSk (wN h) (wB h) (p)) + 1 + 1 ≤ s := a2
      rcases h1 with h1 | h1
      · refine ⟨rTTc_1, List.mem_of_getElem? (i := 1) rfl, pEnd [ρ 0, ρ 1, ρ 2, ρ 3, ρ 4, ρ 5, ρ 6, (s : Int)] rfl ?_ ?_ ?_ ?_⟩
        · intro j hj
          match j, hj with
          | 0, _ => exact q0.symm
          | 1, _ => exact q1.symm
          | 2, _ => exact q2.symm
          | 3, _ => exact q3.symm
          | 4, _ => exact q4.symm
          | 5, _ => exact q5.symm
          | 6, _ => exact q6.symm
          | k + 7, hj => exact absurd hj (by show ¬ (k + 7 < 7); omega)
        · intro k b hk
          match k, hk with
          | 0, hk => cases hk; exact (show (0 : Int) ≤ (s : Int) ∧ (s : Int) ≤ (240 : Int) by omega)
          | k + 1, hk => cases hk
        · exact pAll1 (show (0 + (1 * ρ 2 + ((-1) * ρ 5 + 0)) : Int) ≤ 0 by omega) (pAll1 (show (0 + ((-1) * ρ 1 + (1 * ρ 5 + 0)) : Int) ≤ 0 by omega) (pAll1 (show (1 + ((-1) * ρ 1 + (1 * ρ 5 + 0)) : Int) ≤ 0 by omega) (pAll1 (show (1 + ((-1) * ρ 6 + 0) : Int) ≤ 0 by omega) (pAll1 (show ((-42) + (1 * ρ 6 + 0) : Int) ≤ 0 by omega) (pAll1 (show (42 + ((-1) * ρ 6 + 0) : Int) ≤ 0 by omega) (pAll1 (show (2 + (1 * ρ 5 + ((-1) * (s : Int) + 0)) : Int) ≤ 0 by omega) (pAll1 (show (0 + ((-1) * ρ 1 + (1 * (s : Int) + 0)) : Int) ≤ 0 by omega) (pAll0))))))))
        · exact pAll1 (pgG ho hh 502 0 rfl rfl (d) ((wSk (wN h) (wB h) (p)) + 1) (by omega) (by omega) (show (1 + (241 * ρ 3 + (1 * ρ 5 + 0)) : Int) = _ by omega) (show (0 + (1 * (s : Int) + 0) : Int) = _ by omega)) (pAll1 (pgG ho hh 504 2 rfl rfl (d) (s) (by omega) (by omega) (show (0 + (241 * ρ 3 + (1 * (s : Int) + 0)) : Int) = _ by omega) (show (0 + (1 * ρ 4 + 0) : Int) = _ by omega)) (pAll0))
      · refine ⟨rTTc_3, List.mem_of_getElem? (i := 3) rfl, pEnd [ρ 0, ρ 1, ρ 2, ρ 3, ρ 4, ρ 5, ρ 6, (s : Int)] rfl ?_ ?_ ?_ ?_⟩
        · intro j hj
          match j, hj with
          | 0, _ => exact q0.symm
          | 1, _ => exact q1.symm
          | 2, _ => exact q2.symm
          | 3, _ => exact q3.symm
          | 4, _ => exact q4.symm
          | 5, _ => exact q5.symm
          | 6, _ => exact q6.symm
          | k + 7, hj => exact absurd hj (by show ¬ (k + 7 < 7); omega)
        · intro k b hk
          match k, hk with
          | 0, hk => cases hk; exact (show (0 : Int) ≤ (s : Int) ∧ (s : Int) ≤ (240 : Int) by omega)
          | k + 1, hk => cases hk
        · exact pAll1 (show (0 + (1 * ρ 2 + ((-1) * ρ 5 + 0)) : Int) ≤ 0 by omega) (pAll1 (show (0 + ((-1) * ρ 1 + (1 * ρ 5 + 0)) : Int) ≤ 0 by omega) (pAll1 (show (1 + ((-1) * ρ 1 + (1 * ρ 5 + 0)) : Int) ≤ 0 by omega) (pAll1 (show (1 + ((-1) * ρ 6 + 0) : Int) ≤ 0 by omega) (pAll1 (show ((-47) + (1 * ρ 6 + 0) : Int) ≤ 0 by omega) (pAll1 (show (47 + ((-1) * ρ 6 + 0) : Int) ≤ 0 by omega) (pAll1 (show (2 + (1 * ρ 5 + ((-1) * (s : Int) + 0)) : Int) ≤ 0 by omega) (pAll1 (show (0 + ((-1) * ρ 1 + (1 * (s : Int) + 0)) : Int) ≤ 0 by omega) (pAll0))))))))
        · exact pAll1 (pgG ho hh 502 0 rfl rfl (d) ((wSk (wN h) (wB h) (p)) + 1) (by omega) (by omega) (show (1 + (241 * ρ 3 + (1 * ρ 5 + 0)) : Int) = _ by omega) (show (0 + (1 * (s : Int) + 0) : Int) = _ by omega)) (pAll1 (pgG ho hh 504 2 rfl rfl (d) (s) (by omega) (by omega) (show (0 + (241 * ρ 3 + (1 * (s : Int) + 0)) : Int) = _ by omega) (show (0 + (1 * ρ 4 + 0) : Int) = _ by omega)) (pAll0))
  · rw [if_neg h1] at er
    have hu : (wCh (wN h) (wB h) ((wSk (wN h) (wB h) (p)))) ≤ 41 ∨ (43 ≤ (wCh (wN h) (wB h) ((wSk (wN h) (wB h) (p)))) ∧ (wCh (wN h) (wB h) ((wSk (wN h) (wB h) (p)))) ≤ 46) ∨ 48 ≤ (wCh (wN h) (wB h) ((wSk (wN h) (wB h) (p)))) := by omega
    rcases hu with hu | hu | hu
    · refine ⟨rTTc_4, List.mem_of_getElem? (i := 4) rfl, pEnd [ρ 0, ρ 1, ρ 2, ρ 3, ρ 4, ρ 5, ρ 6] rfl ?_ ?_ ?_ ?_⟩
      · exact hL
      · intro k b hk
        cases hk
      · exact pAll1 (show (0 + (1 * ρ 2 + ((-1) * ρ 5 + 0)) : Int) ≤ 0 by omega) (pAll1 (show (0 + ((-1) * ρ 1 + (1 * ρ 5 + 0)) : Int) ≤ 0 by omega) (pAll1 (show ((-41) + (1 * ρ 6 + 0) : Int) ≤ 0 by omega) (pAll1 (show (0 + (1 * ρ 4 + ((-1) * ρ 5 + 0)) : Int) ≤ 0 by omega) (pAll1 (show (0 + ((-1) * ρ 4 + (1 * ρ 5 + 0)) : Int) ≤ 0 by omega) (pAll0)))))
      · exact pAll0
    · refine ⟨rTTc_5, List.mem_of_getElem? (i := 5) rfl, pEnd [ρ 0, ρ 1, ρ 2, ρ 3, ρ 4, ρ 5, ρ 6] rfl ?_ ?_ ?_ ?_⟩
      · exact hL
      · intro k b hk
        cases hk
      · exact pAll1 (show (0 + (1 * ρ 2 + ((-1) * ρ 5 + 0)) : Int) ≤ 0 by omega) (pAll1 (show (0 + ((-1) * ρ 1 + (1 * ρ 5 + 0)) : Int) ≤ 0 by omega) (pAll1 (show (43 + ((-1) * ρ 6 + 0) : Int) ≤ 0 by omega) (pAll1 (show ((-46) + (1 * ρ 6 + 0) : Int) ≤ 0 by omega) (pAll1 (show (0 + (1 * ρ 4 + ((-1) * ρ 5 + 0)) : Int) ≤ 0 by omega) (pAll1 (show (0 + ((-1) * ρ 4 + (1 * ρ 5 + 0)) : Int) ≤ 0 by omega) (pAll0))))))
      · exact pAll0
    · refine ⟨rTTc_6, List.mem_of_getElem? (i := 6) rfl, pEnd [ρ 0, ρ 1, ρ 2, ρ 3, ρ 4, ρ 5, ρ 6] rfl ?_ ?_ ?_ ?_⟩
      · exact hL
      · intro k b hk
        cases hk
      · exact pAll1 (show (0 + (1 * ρ 2 + ((-1) * ρ 5 + 0)) : Int) ≤ 0 by omega) (pAll1 (show (0 + ((-1) * ρ 1 + (1 * ρ 5 + 0)) : Int) ≤ 0 by omega) (pAll1 (show (48 + ((-1) * ρ 6 + 0) : Int) ≤ 0 by omega) (pAll1 (show (0 + (1 * ρ 4 + ((-1) * ρ 5 + 0)) : Int) ≤ 0 by omega) (pAll1 (show (0 + ((-1) * ρ 4 + (1 * ρ 5 + 0)) : Int) ≤ 0 by omega) (pAll0)))))
      · exact pAll0
noncomputable def rSTc_0 : sX := (none, [(503, (1, [(3, 241), (5, 1)]), (0, [(7, 1)]))], [((-241), (-1))], [(0, [(2, 1), (5, (-1))]), (0, [(1, (-1)), (5, 1)]), (1, [(1, (-1)), (5, 1)]), (1, [(6, (-1))]), ((-43), [(6, 1)]), (43, [(6, (-1))]), (0, [(4, 1), (7, (-1))]), (0, [(4, (-1)), (7, 1)])], [])
noncomputable def rSTc_1 : sX := (none, [(503, (1, [(3, 241), (5, 1)]), (0, [(7, 1)])), (506, (0, [(3, 241), (7, 1)]), (0, [(4, 1)]))], [(0, 240)], [(0, [(2, 1), (5, (-1))]), (0, [(1, (-1)), (5, 1)]), (1, [(1, (-1)), (5, 1)]), (1, [(6, (-1))]), ((-43), [(6, 1)]), (43, [(6, (-1))]), (2, [(5, 1), (7, (-1))]), (0, [(1, (-1)), (7, 1)])], [])
noncomputable def rSTc_2 : sX := (none, [(503, (1, [(3, 241), (5, 1)]), (0, [(7, 1)]))], [((-241), (-1))], [(0, [(2, 1), (5, (-1))]), (0, [(1, (-1)), (5, 1)]), (1, [(1, (-1)), (5, 1)]), (1, [(6, (-1))]), ((-45), [(6, 1)]), (45, [(6, (-1))]), (0, [(4, 1), (7, (-1))]), (0, [(4, (-1)), (7, 1)])], [])
noncomputable def rSTc_3 : sX := (none, [(503, (1, [(3, 241), (5, 1)]), (0, [(7, 1)])), (506, (0, [(3, 241), (7, 1)]), (0, [(4, 1)]))], [(0, 240)], [(0, [(2, 1), (5, (-1))]), (0, [(1, (-1)), (5, 1)]), (1, [(1, (-1)), (5, 1)]), (1, [(6, (-1))]), ((-45), [(6, 1)]), (45, [(6, (-1))]), (2, [(5, 1), (7, (-1))]), (0, [(1, (-1)), (7, 1)])], [])
noncomputable def rSTc_4 : sX := (none, [], [], [(0, [(2, 1), (5, (-1))]), (0, [(1, (-1)), (5, 1)]), ((-42), [(6, 1)]), (0, [(4, 1), (5, (-1))]), (0, [(4, (-1)), (5, 1)])], [])
noncomputable def rSTc_5 : sX := (none, [], [], [(0, [(2, 1), (5, (-1))]), (0, [(1, (-1)), (5, 1)]), (44, [(6, (-1))]), ((-44), [(6, 1)]), (0, [(4, 1), (5, (-1))]), (0, [(4, (-1)), (5, 1)])], [])
noncomputable def rSTc_6 : sX := (none, [], [], [(0, [(2, 1), (5, (-1))]), (0, [(1, (-1)), (5, 1)]), (46, [(6, (-1))]), (0, [(4, 1), (5, (-1))]), (0, [(4, (-1)), (5, 1)])], [])
noncomputable def rSTc : sQ := (0, ([], [(2, 1000, (0, [])), (2, 41, (1, [])), (2, 41, (2, [])), (0, 1, (0, [])), (2, 506, (0, [(2, 1), (3, 241)])), (2, 500, (0, [(2, 1)])), (2, 501, (0, [(5, 1)]))], [(1, 1), (0, 240), (0, 240), (0, 6), ((-241), 240), (0, 240), (0, 255)], [(0, [(1, (-1)), (2, 1)])], [(0, 0), (1, 1), (2, 2), (3, 3), (4, 4), (5, 5), (6, 6)], (0, [])), [rSTc_0, rSTc_1, rSTc_2, rSTc_3, rSTc_4, rSTc_5, rSTc_6], [], 0)
theorem rSTc_ok : pRul pReg pG pgv rSTc := by
  intro loc h ρ ρ0 hG hM
  have hM : sMt pReg pgv ρ ρ0 (sAs rSTc.2.1) loc [] h := hM
  have q0 : ρ0 1 = ρ 0 := (hM.2.2.2.2.2 (1, sY 0) (List.mem_of_getElem? (i := 1) rfl)).trans (sY_v ρ 0)
  have q1 : ρ0 2 = ρ 1 := (hM.2.2.2.2.2 (2, sY 1) (List.mem_of_getElem? (i := 2) rfl)).trans (sY_v ρ 1)
  have q2 : ρ0 3 = ρ 2 := (hM.2.2.2.2.2 (3, sY 2) (List.mem_of_getElem? (i := 3) rfl)).trans (sY_v ρ 2)
  have q3 : ρ0 4 = ρ 3 := (hM.2.2.2.2.2 (4, sY 3) (List.mem_of_getElem? (i := 4) rfl)).trans (sY_v ρ 3)
  have q4 : ρ0 5 = ρ 4 := (hM.2.2.2.2.2 (5, sY 4) (List.mem_of_getElem? (i := 5) rfl)).trans (sY_v ρ 4)
  have q5 : ρ0 6 = ρ 5 := (hM.2.2.2.2.2 (6, sY 5) (List.mem_of_getElem? (i := 6) rfl)).trans (sY_v ρ 5)
  have q6 : ρ0 7 = ρ 6 := (hM.2.2.2.2.2 (7, sY 6) (List.mem_of_getElem? (i := 7) rfl)).trans (sY_v ρ 6)
  have hL : ∀ j, j < 7 → pL [ρ 0, ρ 1, ρ 2, ρ 3, ρ 4, ρ 5, ρ 6] j = ρ0 (j + 1) := by
    intro j hj
    match j, hj with
    | 0, _ => exact q0.symm
    | 1, _ => exact q1.symm
    | 2, _ => exact q2.symm
    | 3, _ => exact q3.symm
    | 4, _ => exact q4.symm
    | 5, _ => exact q5.symm
    | 6, _ => exact q6.symm
    | k + 7, hj => omega
  have b0 : (1 : Int) ≤ ρ 0 ∧ ρ 0 ≤ 1 := hM.2.2.2.1 0 (1, 1) rfl
  have b1 : (0 : Int) ≤ ρ 1 ∧ ρ 1 ≤ 240 := hM.2.2.2.1 1 (0, 240) rfl
  have b2 : (0 : Int) ≤ ρ 2 ∧ ρ 2 ≤ 240 := hM.2.2.2.1 2 (0, 240) rfl
  have b3 : (0 : Int) ≤ ρ 3 ∧ ρ 3 ≤ 6 := hM.2.2.2.1 3 (0, 6) rfl
  have b4 : ((-241) : Int) ≤ ρ 4 ∧ ρ 4 ≤ 240 := hM.2.2.2.1 4 ((-241), 240) rfl
  have b5 : (0 : Int) ≤ ρ 5 ∧ ρ 5 ≤ 240 := hM.2.2.2.1 5 (0, 240) rfl
  have b6 : (0 : Int) ≤ ρ 6 ∧ ρ 6 ≤ 255 := hM.2.2.2.1 6 (0, 255) rfl
  have c0 : (0 + ((-1) * ρ 1 + (1 * ρ 2 + 0)) : Int) ≤ 0 := hM.2.2.2.2.1 (0, [(1, (-1)), (2, 1)]) (List.mem_of_getElem? (i := 0) rfl)
  obtain ⟨ho, hs, hh⟩ := pTold0 hM 0 (0, []) rfl b0.1
  have hn := ho.1
  have en : ρ 1 = (wN h : Int) := (pPl hM 1 41 (1, []) rfl (by omega) 353 1 (by decide +kernel) rfl).symm.trans hs.1
  obtain ⟨p, ep⟩ : ∃ p : Nat, ρ 2 = (p : Int) := ⟨(ρ 2).toNat, by omega⟩
  have hp : p ≤ wN h := by omega
  obtain ⟨s1, s2⟩ := wSk_le (B := wB h) hp
  obtain ⟨d, ed⟩ : ∃ d : Nat, ρ 3 = (d : Int) := ⟨(ρ 3).toNat, by omega⟩
  have er : ρ 4 = (wG (wN h) (wB h) 4 (d) (p)) := pfG hM ho hh 4 506 4 (0, [(2, 1), (3, 241)]) rfl rfl rfl (d := d) (p := p) (by omega) (by omega) (by show (0 + (1 * ρ 2 + (241 * ρ 3 + 0)) : Int) = _; omega)
  have eq : ρ 5 = ((wSk (wN h) (wB h) (p)) : Int) := pfS hM ho hh 5 (0, [(2, 1)]) rfl (p := p) (by omega) (by show (0 + (1 * ρ 2 + 0) : Int) = _; omega)
  have ec : ρ 6 = (wCh (wN h) (wB h) ((wSk (wN h) (wB h) (p)))) := pfC hM ho hh 6 (0, [(5, 1)]) rfl (p := (wSk (wN h) (wB h) (p))) (by omega) (by show (0 + (1 * ρ 5 + 0) : Int) = _; omega)
  have cbc := wCh_bd ho ((wSk (wN h) (wB h) (p)))
  have clc : (wCh (wN h) (wB h) ((wSk (wN h) (wB h) (p)))) ≠ 0 → (wSk (wN h) (wB h) (p)) < wN h := wCh_lt
  rw [wE_ST hp] at er
  by_cases h1 : (wCh (wN h) (wB h) ((wSk (wN h) (wB h) (p)))) = 43 ∨ (wCh (wN h) (wB h) ((wSk (wN h) (wB h) (p)))) = 45
  · rw [if_pos h1] at er
    have hq := clc (by omega)
    have g := wG_gd (n := wN h) (B := wB h) 1 d ((wSk (wN h) (wB h) (p)) + 1) rfl (by omega)
    rcases wBd_el er g with ⟨a1, a2⟩ | ⟨s, a1, a2, a3, a4⟩
    · have := g.1 a1
      rcases h1 with h1 | h1
      · refine ⟨rSTc_0, List.mem_of_getElem? (i := 0) rfl, pEnd [ρ 0, ρ 1, ρ 2, ρ 3, ρ 4, ρ 5, ρ 6, (wG (wN h) (wB h) 1 (d) ((wSk (wN h) (wB h) (p)) + 1))] rfl ?_ ?_ ?_ ?_⟩
        · intro j hj
          match j, hj with
          | 0, _ => exact q0.symm
          | 1, _ => exact q1.symm
          | 2, _ => exact q2.symm
          | 3, _ => exact q3.symm
          | 4, _ => exact q4.symm
          | 5, _ => exact q5.symm
          | 6, _ => exact q6.symm
          | k + 7, hj => exact absurd hj (by show ¬ (k + 7 < 7); omega)
        · intro k b hk
          match k, hk with
          | 0, hk => cases hk; exact (show ((-241) : Int) ≤ (wG (wN h) (wB h) 1 (d) ((wSk (wN h) (wB h) (p)) + 1)) ∧ (wG (wN h) (wB h) 1 (d) ((wSk (wN h) (wB h) (p)) + 1)) ≤ ((-1) : Int) by omega)
          | k + 1, hk => cases hk
        · exact pAll1 (show (0 + (1 * ρ 2 + ((-1) * ρ 5 + 0)) : Int) ≤ 0 by omega) (pAll1 (show (0 + ((-1) * ρ 1 + (1 * ρ 5 + 0)) : Int) ≤ 0 by omega) (pAll1 (show (1 + ((-1) * ρ 1 + (1 * ρ 5 + 0)) : Int) ≤ 0 by omega) (pAll1 (show (1 + ((-1) * ρ 6 + 0) : Int) ≤ 0 by omega) (pAll1 (show ((-43) + (1 * ρ 6 + 0) : Int) ≤ 0 by omega) (pAll1 (show (43 + ((-1) * ρ 6 + 0) : Int) ≤ 0 by omega) (pAll1 (show (0 + (1 * ρ 4 + ((-1) * (wG (wN h) (wB h) 1 (d) ((wSk (wN h) (wB h) (p)) + 1)) + 0)) : Int) ≤ 0 by omega) (pAll1 (show (0 + ((-1) * ρ 4 + (1 * (wG (wN h) (wB h) 1 (d) ((wSk (wN h) (wB h) (p)) + 1)) + 0)) : Int) ≤ 0 by omega) (pAll0))))))))
        · exact pAll1 (pgG ho hh 503 1 rfl rfl (d) ((wSk (wN h) (wB h) (p)) + 1) (by omega) (by omega) (show (1 + (241 * ρ 3 + (1 * ρ 5 + 0)) : Int) = _ by omega) (show (0 + (1 * (wG (wN h) (wB h) 1 (d) ((wSk (wN h) (wB h) (p)) + 1)) + 0) : Int) = _ by omega)) (pAll0)
      · refine ⟨rSTc_2, List.mem_of_getElem? (i := 2) rfl, pEnd [ρ 0, ρ 1, ρ 2, ρ 3, ρ 4, ρ 5, ρ 6, (wG (wN h) (wB h) 1 (d) ((wSk (wN h) (wB h) (p)) + 1))] rfl ?_ ?_ ?_ ?_⟩
        · intro j hj
          match j, hj with
          | 0, _ => exact q0.symm
          | 1, _ => exact q1.symm
          | 2, _ => exact q2.symm
          | 3, _ => exact q3.symm
          | 4, _ => exact q4.symm
          | 5, _ => exact q5.symm
          | 6, _ => exact q6.symm
          | k + 7, hj => exact absurd hj (by show ¬ (k + 7 < 7); omega)
        · intro k b hk
          match k, hk with
          | 0, hk => cases hk; exact (show ((-241) : Int) ≤ (wG (wN h) (wB h) 1 (d) ((wSk (wN h) (wB h) (p)) + 1)) ∧ (wG (wN h) (wB h) 1 (d) ((wSk (wN h) (wB h) (p)) + 1)) ≤ ((-1) : Int) by omega)
          | k + 1, hk => cases hk
        · exact pAll1 (show (0 + (1 * ρ 2 + ((-1) * ρ 5 + 0)) : Int) ≤ 0 by omega) (pAll1 (show (0 + ((-1) * ρ 1 + (1 * ρ 5 + 0)) : Int) ≤ 0 by omega) (pAll1 (show (1 + ((-1) * ρ 1 + (1 * ρ 5 + 0)) : Int) ≤ 0 by omega) (pAll1 (show (1 + ((-1) * ρ 6 + 0) : Int) ≤ 0 by omega) (pAll1 (show ((-45) + (1 * ρ 6 + 0) : Int) ≤ 0 by omega) (pAll1 (show (45 + ((-1) * ρ 6 + 0) : Int) ≤ 0 by omega) (pAll1 (show (0 + (1 * ρ 4 + ((-1) * (wG (wN h) (wB h) 1 (d) ((wSk (wN h) (wB h) (p)) + 1)) + 0)) : Int) ≤ 0 by omega) (pAll1 (show (0 + ((-1) * ρ 4 + (1 * (wG (wN h) (wB h) 1 (d) ((wSk (wN h) (wB h) (p)) + 1)) + 0)) : Int) ≤ 0 by omega) (pAll0))))))))
        · exact pAll1 (pgG ho hh 503 1 rfl rfl (d) ((wSk (wN h) (wB h) (p)) + 1) (by omega) (by omega) (show (1 + (241 * ρ 3 + (1 * ρ 5 + 0)) : Int) = _ by omega) (show (0 + (1 * (wG (wN h) (wB h) 1 (d) ((wSk (wN h) (wB h) (p)) + 1)) + 0) : Int) = _ by omega)) (pAll0)
    · have a2 : (wSk (wN h) (wB h) (p)) + 1 + 1 ≤ s := a2
      rcases h1 with h1 | h1
      · refine ⟨rSTc_1, List.mem_of_getElem? (i := 1) rfl, pEnd [ρ 0, ρ 1, ρ 2, ρ 3, ρ 4, ρ 5, ρ 6, (s : Int)] rfl ?_ ?_ ?_ ?_⟩
        · intro j hj
          match j, hj with
          | 0, _ => exact q0.symm
          | 1, _ => exact q1.symm
          | 2, _ => exact q2.symm
          | 3, _ => exact q3.symm
          | 4, _ => exact q4.symm
          | 5, _ => exact q5.symm
          | 6, _ => exact q6.symm
          | k + 7, hj => exact absurd hj (by show ¬ (k + 7 < 7); omega)
        · intro k b hk
          match k, hk with
          | 0, hk => cases hk; exact (show (0 : Int) ≤ (s : Int) ∧ (s : Int) ≤ (240 : Int) by omega)
          | k + 1, hk => cases hk
        · exact pAll1 (show (0 + (1 * ρ 2 + ((-1) * ρ 5 + 0)) : Int) ≤ 0 by omega) (pAll1 (show (0 + ((-1) * ρ 1 + (1 * ρ 5 + 0)) : Int) ≤ 0 by omega) (pAll1 (show (1 + ((-1) * ρ 1 + (1 * ρ 5 + 0)) : Int) ≤ 0 by omega) (pAll1 (show (1 + ((-1) * ρ 6 + 0) : Int) ≤ 0 by omega) (pAll1 (show ((-43) + (1 * ρ 6 + 0) : Int) ≤ 0 by omega) (pAll1 (show (43 + ((-1) * ρ 6 + 0) : Int) ≤ 0 by omega) (pAll1 (show (2 + (1 * ρ 5 + ((-1) * (s : Int) + 0)) : Int) ≤ 0 by omega) (pAll1 (show (0 + ((-1) * ρ 1 + (1 * (s : Int) + 0)) : Int) ≤ 0 by omega) (pAll0))))))))
        · exact pAll1 (pgG ho hh 503 1 rfl rfl (d) ((wSk (wN h) (wB h) (p)) + 1) (by omega) (by omega) (show (1 + (241 * ρ 3 + (1 * ρ 5 + 0)) : Int) = _ by omega) (show (0 + (1 * (s : Int) + 0) : Int) = _ by omega)) (pAll1 (pgG ho hh 506 4 rfl rfl (d) (s) (by omega) (by omega) (show (0 + (241 * ρ 3 + (1 * (s : Int) + 0)) : Int) = _ by omega) (show (0 + (1 * ρ 4 + 0) : Int) = _ by omega)) (pAll0))
      · refine ⟨rSTc_3, List.mem_of_getElem? (i := 3) rfl, pEnd [ρ 0, ρ 1, ρ 2, ρ 3, ρ 4, ρ 5, ρ 6, (s : Int)] rfl ?_ ?_ ?_ ?_⟩
        · intro j hj
          match j, hj with
          | 0, _ => exact q0.symm
          | 1, _ => exact q1.symm
          | 2, _ => exact q2.symm
          | 3, _ => exact q3.symm
          | 4, _ => exact q4.symm
          | 5, _ => exact q5.symm
          | 6, _ => exact q6.symm
          | k + 7, hj => exact absurd hj (by show ¬ (k + 7 < 7); omega)
        · intro k b hk
          match k, hk with
          | 0, hk => cases hk; exact (show (0 : Int) ≤ (s : Int) ∧ (s : Int) ≤ (240 : Int) by omega)
          | k + 1, hk => cases hk
        · exact pAll1 (show (0 + (1 * ρ 2 + ((-1) * ρ 5 + 0)) : Int) ≤ 0 by omega) (pAll1 (show (0 + ((-1) * ρ 1 + (1 * ρ 5 + 0)) : Int) ≤ 0 by omega) (pAll1 (show (1 + ((-1) * ρ 1 + (1 * ρ 5 + 0)) : Int) ≤ 0 by omega) (pAll1 (show (1 + ((-1) * ρ 6 + 0) : Int) ≤ 0 by omega) (pAll1 (show ((-45) + (1 * ρ 6 + 0) : Int) ≤ 0 by omega) (pAll1 (show (45 + ((-1) * ρ 6 + 0) : Int) ≤ 0 by omega) (pAll1 (show (2 + (1 * ρ 5 + ((-1) * (s : Int) + 0)) : Int) ≤ 0 by omega) (pAll1 (show (0 + ((-1) * ρ 1 + (1 * (s : Int) + 0)) : Int) ≤ 0 by omega) (pAll0))))))))
        · exact pAll1 (pgG ho hh 503 1 rfl rfl (d) ((wSk (wN h) (wB h) (p)) + 1) (by omega) (by omega) (show (1 + (241 * ρ 3 + (1 * ρ 5 + 0)) : Int) = _ by omega) (show (0 + (1 * (s : Int) + 0) : Int) = _ by omega)) (pAll1 (pgG ho hh 506 4 rfl rfl (d) (s) (by omega) (by omega) (show (0 + (241 * ρ 3 + (1 * (s : Int) + 0)) : Int) = _ by omega) (show (0 + (1 * ρ 4 + 0) : Int) = _ by omega)) (pAll0))
  · rw [if_neg h1] at er
    have hu : (wCh (wN h) (wB h) ((wSk (wN h) (wB h) (p)))) ≤ 42 ∨ (44 ≤ (wCh (wN h) (wB h) ((wSk (wN h) (wB h) (p)))) ∧ (wCh (wN h) (wB h) ((wSk (wN h) (wB h) (p)))) ≤ 44) ∨ 46 ≤ (wCh (wN h) (wB h) ((wSk (wN h) (wB h) (p)))) := by omega
    rcases hu with hu | hu | hu
    · refine ⟨rSTc_4, List.mem_of_getElem? (i := 4) rfl, pEnd [ρ 0, ρ 1, ρ 2, ρ 3, ρ 4, ρ 5, ρ 6] rfl ?_ ?_ ?_ ?_⟩
      · exact hL
      · intro k b hk
        cases hk
      · exact pAll1 (show (0 + (1 * ρ 2 + ((-1) * ρ 5 + 0)) : Int) ≤ 0 by omega) (pAll1 (show (0 + ((-1) * ρ 1 + (1 * ρ 5 + 0)) : Int) ≤ 0 by omega) (pAll1 (show ((-42) + (1 * ρ 6 + 0) : Int) ≤ 0 by omega) (pAll1 (show (0 + (1 * ρ 4 + ((-1) * ρ 5 + 0)) : Int) ≤ 0 by omega) (pAll1 (show (0 + ((-1) * ρ 4 + (1 * ρ 5 + 0)) : Int) ≤ 0 by omega) (pAll0)))))
      · exact pAll0
    · refine ⟨rSTc_5, List.mem_of_getElem? (i := 5) rfl, pEnd [ρ 0, ρ 1, ρ 2, ρ 3, ρ 4, ρ 5, ρ 6] rfl ?_ ?_ ?_ ?_⟩
      · exact hL
      · intro k b hk
        cases hk
      · exact pAll1 (show (0 + (1 * ρ 2 + ((-1) * ρ 5 + 0)) : Int) ≤ 0 by omega) (pAll1 (show (0 + ((-1) * ρ 1 + (1 * ρ 5 + 0)) : Int) ≤ 0 by omega) (pAll1 (show (44 + ((-1) * ρ 6 + 0) : Int) ≤ 0 by omega) (pAll1 (show ((-44) + (1 * ρ 6 + 0) : Int) ≤ 0 by omega) (pAll1 (show (0 + (1 * ρ 4 + ((-1) * ρ 5 + 0)) : Int) ≤ 0 by omega) (pAll1 (show (0 + ((-1) * ρ 4 + (1 * ρ 5 + 0)) : Int) ≤ 0 by omega) (pAll0))))))
      · exact pAll0
    · refine ⟨rSTc_6, List.mem_of_getElem? (i := 6) rfl, pEnd [ρ 0, ρ 1, ρ 2, ρ 3, ρ 4, ρ 5, ρ 6] rfl ?_ ?_ ?_ ?_⟩
      · exact hL
      · intro k b hk
        cases hk
      · exact pAll1 (show (0 + (1 * ρ 2 + ((-1) * ρ 5 + 0)) : Int) ≤ 0 by omega) (pAll1 (show (0 + ((-1) * ρ 1 + (1 * ρ 5 + 0)) : Int) ≤ 0 by omega) (pAll1 (show (46 + ((-1) * ρ 6 + 0) : Int) ≤ 0 by omega) (pAll1 (show (0 + (1 * ρ 4 + ((-1) * ρ 5 + 0)) : Int) ≤ 0 by omega) (pAll1 (show (0 + ((-1) * ρ 4 + (1 * ρ 5 + 0)) : Int) ≤ 0 by omega) (pAll0)))))
      · exact pAll0
noncomputable def rANc_0 : sX := (none, [(507, (1, [(3, 241), (5, 1)]), (0, [(7, 1)]))], [((-241), (-1))], [(0, [(2, 1), (5, (-1))]), (0, [(1, (-1)), (5, 1)]), (1, [(1, (-1)), (5, 1)]), (1, [(6, (-1))]), ((-38), [(6, 1)]), (38, [(6, (-1))]), (0, [(4, 1), (7, (-1))]), (0, [(4, (-1)), (7, 1)])], [])
noncomputable def rANc_1 : sX := (none, [(507, (1, [(3, 241), (5, 1)]), (0, [(7, 1)])), (509, (0, [(3, 241), (7, 1)]), (0, [(4, 1)]))], [(0, 240)], [(0, [(2, 1), (5, (-1))]), (0, [(1, (-1)), (5, 1)]), (1, [(1, (-1)), (5, 1)]), (1, [(6, (-1))]), ((-38), [(6, 1)]), (38, [(6, (-1))]), (2, [(5, 1), (7, (-1))]), (0, [(1, (-1)), (7, 1)])], [])
noncomputable def rANc_2 : sX := (none, [], [], [(0, [(2, 1), (5, (-1))]), (0, [(1, (-1)), (5, 1)]), ((-37), [(6, 1)]), (0, [(4, 1), (5, (-1))]), (0, [(4, (-1)), (5, 1)])], [])
noncomputable def rANc_3 : sX := (none, [], [], [(0, [(2, 1), (5, (-1))]), (0, [(1, (-1)), (5, 1)]), (39, [(6, (-1))]), (0, [(4, 1), (5, (-1))]), (0, [(4, (-1)), (5, 1)])], [])
noncomputable def rANc : sQ := (0, ([], [(2, 1000, (0, [])), (2, 41, (1, [])), (2, 41, (2, [])), (0, 1, (0, [])), (2, 509, (0, [(2, 1), (3, 241)])), (2, 500, (0, [(2, 1)])), (2, 501, (0, [(5, 1)]))], [(1, 1), (0, 240), (0, 240), (0, 6), ((-241), 240), (0, 240), (0, 255)], [(0, [(1, (-1)), (2, 1)])], [(0, 0), (1, 1), (2, 2), (3, 3), (4, 4), (5, 5), (6, 6)], (0, [])), [rANc_0, rANc_1, rANc_2, rANc_3], [], 0)
theorem rANc_ok : pRul pReg pG pgv rANc := by
  intro loc h ρ ρ0 hG hM
  have hM : sMt pReg pgv ρ ρ0 (sAs rANc.2.1) loc [] h := hM
  have q0 : ρ0 1 = ρ 0 := (hM.2.2.2.2.2 (1, sY 0) (List.mem_of_getElem? (i := 1) rfl)).trans (sY_v ρ 0)
  have q1 : ρ0 2 = ρ 1 := (hM.2.2.2.2.2 (2, sY 1) (List.mem_of_getElem? (i := 2) rfl)).trans (sY_v ρ 1)
  have q2 : ρ0 3 = ρ 2 := (hM.2.2.2.2.2 (3, sY 2) (List.mem_of_getElem? (i := 3) rfl)).trans (sY_v ρ 2)
  have q3 : ρ0 4 = ρ 3 := (hM.2.2.2.2.2 (4, sY 3) (List.mem_of_getElem? (i := 4) rfl)).trans (sY_v ρ 3)
  have q4 : ρ0 5 = ρ 4 := (hM.2.2.2.2.2 (5, sY 4) (List.mem_of_getElem? (i := 5) rfl)).trans (sY_v ρ 4)
  have q5 : ρ0 6 = ρ 5 := (hM.2.2.2.2.2 (6, sY 5) (List.mem_of_getElem? (i := 6) rfl)).trans (sY_v ρ 5)
  have q6 : ρ0 7 = ρ 6 := (hM.2.2.2.2.2 (7, sY 6) (List.mem_of_getElem? (i := 7) rfl)).trans (sY_v ρ 6)
  have hL : ∀ j, j < 7 → pL [ρ 0, ρ 1, ρ 2, ρ 3, ρ 4, ρ 5, ρ 6] j = ρ0 (j + 1) := by
    intro j hj
    match j, hj with
    | 0, _ => exact q0.symm
    | 1, _ => exact q1.symm
    | 2, _ => exact q2.symm
    | 3, _ => exact q3.symm
    | 4, _ => exact q4.symm
    | 5, _ => exact q5.symm
    | 6, _ => exact q6.symm
    | k + 7, hj => omega
  have b0 : (1 : Int) ≤ ρ 0 ∧ ρ 0 ≤ 1 := hM.2.2.2.1 0 (1, 1) rfl
  have b1 : (0 : Int) ≤ ρ 1 ∧ ρ 1 ≤ 240 := hM.2.2.2.1 1 (0, 240) rfl
  have b2 : (0 : Int) ≤ ρ 2 ∧ ρ 2 ≤ 240 := hM.2.2.2.1 2 (0, 240) rfl
  have b3 : (0 : Int) ≤ ρ 3 ∧ ρ 3 ≤ 6 := hM.2.2.2.1 3 (0, 6) rfl
  have b4 : ((-241) : Int) ≤ ρ 4 ∧ ρ 4 ≤ 240 := hM.2.2.2.1 4 ((-241), 240) rfl
  have b5 : (0 : Int) ≤ ρ 5 ∧ ρ 5 ≤ 240 := hM.2.2.2.1 5 (0, 240) rfl
  have b6 : (0 : Int) ≤ ρ 6 ∧ ρ 6 ≤ 255 := hM.2.2.2.1 6 (0, 255) rfl
  have c0 : (0 + ((-1) * ρ 1 + (1 * ρ 2 + 0)) : Int) ≤ 0 := hM.2.2.2.2.1 (0, [(1, (-1)), (2, 1)]) (List.mem_of_getElem? (i := 0) rfl)
  obtain ⟨ho, hs, hh⟩ := pTold0 hM 0 (0, []) rfl b0.1
  have hn := ho.1
  have en : ρ 1 = (wN h : Int) := (pPl hM 1 41 (1, []) rfl (by omega) 353 1 (by decide +kernel) rfl).symm.trans hs.1
  obtain ⟨p, ep⟩ : ∃ p : Nat, ρ 2 = (p : Int) := ⟨(ρ 2).toNat, by omega⟩
  have hp : p ≤ wN h := by omega
  obtain ⟨s1, s2⟩ := wSk_le (B := wB h) hp
  obtain ⟨d, ed⟩ : ∃ d : Nat, ρ 3 = (d : Int) := ⟨(ρ 3).toNat, by omega⟩
  have er : ρ 4 = (wG (wN h) (wB h) 7 (d) (p)) := pfG hM ho hh 4 509 7 (0, [(2, 1), (3, 241)]) rfl rfl rfl (d := d) (p := p) (by omega) (by omega) (by show (0 + (1 * ρ 2 + (241 * ρ 3 + 0)) : Int) = _; omega)
  have eq : ρ 5 = ((wSk (wN h) (wB h) (p)) : Int) := pfS hM ho hh 5 (0, [(2, 1)]) rfl (p := p) (by omega) (by show (0 + (1 * ρ 2 + 0) : Int) = _; omega)
  have ec : ρ 6 = (wCh (wN h) (wB h) ((wSk (wN h) (wB h) (p)))) := pfC hM ho hh 6 (0, [(5, 1)]) rfl (p := (wSk (wN h) (wB h) (p))) (by omega) (by show (0 + (1 * ρ 5 + 0) : Int) = _; omega)
  have cbc := wCh_bd ho ((wSk (wN h) (wB h) (p)))
  have clc : (wCh (wN h) (wB h) ((wSk (wN h) (wB h) (p)))) ≠ 0 → (wSk (wN h) (wB h) (p)) < wN h := wCh_lt
  rw [wE_AN hp] at er
  by_cases h1 : (wCh (wN h) (wB h) ((wSk (wN h) (wB h) (p)))) = 38
  · rw [if_pos h1] at er
    have hq := clc (by omega)
    have g := wG_gd (n := wN h) (B := wB h) 5 d ((wSk (wN h) (wB h) (p)) + 1) rfl (by omega)
    rcases wBd_el er g with ⟨a1, a2⟩ | ⟨s, a1, a2, a3, a4⟩
    · have := g.1 a1
      refine ⟨rANc_0, List.mem_of_getElem? (i := 0) rfl, pEnd [ρ 0, ρ 1, ρ 2, ρ 3, ρ 4, ρ 5, ρ 6, (wG (wN h) (wB h) 5 (d) ((wSk (wN h) (wB h) (p)) + 1))] rfl ?_ ?_ ?_ ?_⟩
      · intro j hj
        match j, hj with
        | 0, _ => exact q0.symm
        | 1, _ => exact q1.symm
        | 2, _ => exact q2.symm
        | 3, _ => exact q3.symm
        | 4, _ => exact q4.symm
        | 5, _ => exact q5.symm
        | 6, _ => exact q6.symm
        | k + 7, hj => exact absurd hj (by show ¬ (k + 7 < 7); omega)
      · intro k b hk
        match k, hk with
        | 0, hk => cases hk; exact (show ((-241) : Int) ≤ (wG (wN h) (wB h) 5 (d) ((wSk (wN h) (wB h) (p)) + 1)) ∧ (wG (wN h) (wB h) 5 (d) ((wSk (wN h) (wB h) (p)) + 1)) ≤ ((-1) : Int) by omega)
        | k + 1, hk => cases hk
      · exact pAll1 (show (0 + (1 * ρ 2 + ((-1) * ρ 5 + 0)) : Int) ≤ 0 by omega) (pAll1 (show (0 + ((-1) * ρ 1 + (1 * ρ 5 + 0)) : Int) ≤ 0 by omega) (pAll1 (show (1 + ((-1) * ρ 1 + (1 * ρ 5 + 0)) : Int) ≤ 0 by omega) (pAll1 (show (1 + ((-1) * ρ 6 + 0) : Int) ≤ 0 by omega) (pAll1 (show ((-38) + (1 * ρ 6 + 0) : Int) ≤ 0 by omega) (pAll1 (show (38 + ((-1) * ρ 6 + 0) : Int) ≤ 0 by omega) (pAll1 (show (0 + (1 * ρ 4 + ((-1) * (wG (wN h) (wB h) 5 (d) ((wSk (wN h) (wB h) (p)) + 1)) + 0)) : Int) ≤ 0 by omega) (pAll1 (show (0 + ((-1) * ρ 4 + (1 * (wG (wN h) (wB h) 5 (d) ((wSk (wN h) (wB h) (p)) + 1)) + 0)) : Int) ≤ 0 by omega) (pAll0))))))))
      · exact pAll1 (pgG ho hh 507 5 rfl rfl (d) ((wSk (wN h) (wB h) (p)) + 1) (by omega) (by omega) (show (1 + (241 * ρ 3 + (1 * ρ 5 + 0)) : Int) = _ by omega) (show (0 + (1 * (wG (wN h) (wB h) 5 (d) ((wSk (wN h) (wB h) (p)) + 1)) + 0) : Int) = _ by omega)) (pAll0)
    · have a2 : (wSk (wN h) (wB h) (p)) + 1 + 1 ≤ s := a2
      refine ⟨rANc_1, List.mem_of_getElem? (i := 1) rfl, pEnd [ρ 0, ρ 1, ρ 2, ρ 3, ρ 4, ρ 5, ρ 6, (s : Int)] rfl ?_ ?_ ?_ ?_⟩
      · intro j hj
        match j, hj with
        | 0, _ => exact q0.symm
        | 1, _ => exact q1.symm
        | 2, _ => exact q2.symm
        | 3, _ => exact q3.symm
        | 4, _ => exact q4.symm
        | 5, _ => exact q5.symm
        | 6, _ => exact q6.symm
        | k + 7, hj => exact absurd hj (by show ¬ (k + 7 < 7); omega)
      · intro k b hk
        match k, hk with
        | 0, hk => cases hk; exact (show (0 : Int) ≤ (s : Int) ∧ (s : Int) ≤ (240 : Int) by omega)
        | k + 1, hk => cases hk
      · exact pAll1 (show (0 + (1 * ρ 2 + ((-1) * ρ 5 + 0)) : Int) ≤ 0 by omega) (pAll1 (show (0 + ((-1) * ρ 1 + (1 * ρ 5 + 0)) : Int) ≤ 0 by omega) (pAll1 (show (1 + ((-1) * ρ 1 + (1 * ρ 5 + 0)) : Int) ≤ 0 by omega) (pAll1 (show (1 + ((-1) * ρ 6 + 0) : Int) ≤ 0 by omega) (pAll1 (show ((-38) + (1 * ρ 6 + 0) : Int) ≤ 0 by omega) (pAll1 (show (38 + ((-1) * ρ 6 + 0) : Int) ≤ 0 by omega) (pAll1 (show (2 + (1 * ρ 5 + ((-1) * (s : Int) + 0)) : Int) ≤ 0 by omega) (pAll1 (show (0 + ((-1) * ρ 1 + (1 * (s : Int) + 0)) : Int) ≤ 0 by omega) (pAll0))))))))
      · exact pAll1 (pgG ho hh 507 5 rfl rfl (d) ((wSk (wN h) (wB h) (p)) + 1) (by omega) (by omega) (show (1 + (241 * ρ 3 + (1 * ρ 5 + 0)) : Int) = _ by omega) (show (0 + (1 * (s : Int) + 0) : Int) = _ by omega)) (pAll1 (pgG ho hh 509 7 rfl rfl (d) (s) (by omega) (by omega) (show (0 + (241 * ρ 3 + (1 * (s : Int) + 0)) : Int) = _ by omega) (show (0 + (1 * ρ 4 + 0) : Int) = _ by omega)) (pAll0))
  · rw [if_neg h1] at er
    have hu : (wCh (wN h) (wB h) ((wSk (wN h) (wB h) (p)))) ≤ 37 ∨ 39 ≤ (wCh (wN h) (wB h) ((wSk (wN h) (wB h) (p)))) := by omega
    rcases hu with hu | hu
    · refine ⟨rANc_2, List.mem_of_getElem? (i := 2) rfl, pEnd [ρ 0, ρ 1, ρ 2, ρ 3, ρ 4, ρ 5, ρ 6] rfl ?_ ?_ ?_ ?_⟩
      · exact hL
      · intro k b hk
        cases hk
      · exact pAll1 (show (0 + (1 * ρ 2 + ((-1) * ρ 5 + 0)) : Int) ≤ 0 by omega) (pAll1 (show (0 + ((-1) * ρ 1 + (1 * ρ 5 + 0)) : Int) ≤ 0 by omega) (pAll1 (show ((-37) + (1 * ρ 6 + 0) : Int) ≤ 0 by omega) (pAll1 (show (0 + (1 * ρ 4 + ((-1) * ρ 5 + 0)) : Int) ≤ 0 by omega) (pAll1 (show (0 + ((-1) * ρ 4 + (1 * ρ 5 + 0)) : Int) ≤ 0 by omega) (pAll0)))))
      · exact pAll0
    · refine ⟨rANc_3, List.mem_of_getElem? (i := 3) rfl, pEnd [ρ 0, ρ 1, ρ 2, ρ 3, ρ 4, ρ 5, ρ 6] rfl ?_ ?_ ?_ ?_⟩
      · exact hL
      · intro k b hk
        cases hk
      · exact pAll1 (show (0 + (1 * ρ 2 + ((-1) * ρ 5 + 0)) : Int) ≤ 0 by omega) (pAll1 (show (0 + ((-1) * ρ 1 + (1 * ρ 5 + 0)) : Int) ≤ 0 by omega) (pAll1 (show (39 + ((-1) * ρ 6 + 0) : Int) ≤ 0 by omega) (pAll1 (show (0 + (1 * ρ 4 + ((-1) * ρ 5 + 0)) : Int) ≤ 0 by omega) (pAll1 (show (0 + ((-1) * ρ 4 + (1 * ρ 5 + 0)) : Int) ≤ 0 by omega) (pAll0)))))
      · exact pAll0
noncomputable def rOTc_0 : sX := (none, [(510, (1, [(3, 241), (5, 1)]), (0, [(7, 1)]))], [((-241), (-1))], [(0, [(2, 1), (5, (-1))]), (0, [(1, (-1)), (5, 1)]), (1, [(1, (-1)), (5, 1)]), (1, [(6, (-1))]), ((-124), [(6, 1)]), (124, [(6, (-1))]), (0, [(4, 1), (7, (-1))]), (0, [(4, (-1)), (7, 1)])], [])
noncomputable def rOTc_1 : sX := (none, [(510, (1, [(3, 241), (5, 1)]), (0, [(7, 1)])), (511, (0, [(3, 241), (7, 1)]), (0, [(4, 1)]))], [(0, 240)], [(0, [(2, 1), (5, (-1))]), (0, [(1, (-1)), (5, 1)]), (1, [(1, (-1)), (5, 1)]), (1, [(6, (-1))]), ((-124), [(6, 1)]), (124, [(6, (-1))]), (2, [(5, 1), (7, (-1))]), (0, [(1, (-1)), (7, 1)])], [])
noncomputable def rOTc_2 : sX := (none, [], [], [(0, [(2, 1), (5, (-1))]), (0, [(1, (-1)), (5, 1)]), ((-123), [(6, 1)]), (0, [(4, 1), (5, (-1))]), (0, [(4, (-1)), (5, 1)])], [])
noncomputable def rOTc_3 : sX := (none, [], [], [(0, [(2, 1), (5, (-1))]), (0, [(1, (-1)), (5, 1)]), (125, [(6, (-1))]), (0, [(4, 1), (5, (-1))]), (0, [(4, (-1)), (5, 1)])], [])
noncomputable def rOTc : sQ := (0, ([], [(2, 1000, (0, [])), (2, 41, (1, [])), (2, 41, (2, [])), (0, 1, (0, [])), (2, 511, (0, [(2, 1), (3, 241)])), (2, 500, (0, [(2, 1)])), (2, 501, (0, [(5, 1)]))], [(1, 1), (0, 240), (0, 240), (0, 6), ((-241), 240), (0, 240), (0, 255)], [(0, [(1, (-1)), (2, 1)])], [(0, 0), (1, 1), (2, 2), (3, 3), (4, 4), (5, 5), (6, 6)], (0, [])), [rOTc_0, rOTc_1, rOTc_2, rOTc_3], [], 0)
theorem rOTc_ok : pRul pReg pG pgv rOTc := by
  intro loc h ρ ρ0 hG hM
  have hM : sMt pReg pgv ρ ρ0 (sAs rOTc.2.1) loc [] h := hM
  have q0 : ρ0 1 = ρ 0 := (hM.2.2.2.2.2 (1, sY 0) (List.mem_of_getElem? (i := 1) rfl)).trans (sY_v ρ 0)
  have q1 : ρ0 2 = ρ 1 := (hM.2.2.2.2.2 (2, sY 1) (List.mem_of_getElem? (i := 2) rfl)).trans (sY_v ρ 1)
  have q2 : ρ0 3 = ρ 2 := (hM.2.2.2.2.2 (3, sY 2) (List.mem_of_getElem? (i := 3) rfl)).trans (sY_v ρ 2)
  have q3 : ρ0 4 = ρ 3 := (hM.2.2.2.2.2 (4, sY 3) (List.mem_of_getElem? (i := 4) rfl)).trans (sY_v ρ 3)
  have q4 : ρ0 5 = ρ 4 := (hM.2.2.2.2.2 (5, sY 4) (List.mem_of_getElem? (i := 5) rfl)).trans (sY_v ρ 4)
  have q5 : ρ0 6 = ρ 5 := (hM.2.2.2.2.2 (6, sY 5) (List.mem_of_getElem? (i := 6) rfl)).trans (sY_v ρ 5)
  have q6 : ρ0 7 = ρ 6 := (hM.2.2.2.2.2 (7, sY 6) (List.mem_of_getElem? (i := 7) rfl)).trans (sY_v ρ 6)
  have hL : ∀ j, j < 7 → pL [ρ 0, ρ 1, ρ 2, ρ 3, ρ 4, ρ 5, ρ 6] j = ρ0 (j + 1) := by
    intro j hj
    match j, hj with
    | 0, _ => exact q0.symm
    | 1, _ => exact q1.symm
    | 2, _ => exact q2.symm
    | 3, _ => exact q3.symm
    | 4, _ => exact q4.symm
    | 5, _ => exact q5.symm
    | 6, _ => exact q6.symm
    | k + 7, hj => omega
  have b0 : (1 : Int) ≤ ρ 0 ∧ ρ 0 ≤ 1 := hM.2.2.2.1 0 (1, 1) rfl
  have b1 : (0 : Int) ≤ ρ 1 ∧ ρ 1 ≤ 240 := hM.2.2.2.1 1 (0, 240) rfl
  have b2 : (0 : Int) ≤ ρ 2 ∧ ρ 2 ≤ 240 := hM.2.2.2.1 2 (0, 240) rfl
  have b3 : (0 : Int) ≤ ρ 3 ∧ ρ 3 ≤ 6 := hM.2.2.2.1 3 (0, 6) rfl
  have b4 : ((-241) : Int) ≤ ρ 4 ∧ ρ 4 ≤ 240 := hM.2.2.2.1 4 ((-241), 240) rfl
  have b5 : (0 : Int) ≤ ρ 5 ∧ ρ 5 ≤ 240 := hM.2.2.2.1 5 (0, 240) rfl
  have b6 : (0 : Int) ≤ ρ 6 ∧ ρ 6 ≤ 255 := hM.2.2.2.1 6 (0, 255) rfl
  have c0 : (0 + ((-1) * ρ 1 + (1 * ρ 2 + 0)) : Int) ≤ 0 := hM.2.2.2.2.1 (0, [(1, (-1)), (2, 1)]) (List.mem_of_getElem? (i := 0) rfl)
  obtain ⟨ho, hs, hh⟩ := pTold0 hM 0 (0, []) rfl b0.1
  have hn := ho.1
  have en : ρ 1 = (wN h : Int) := (pPl hM 1 41 (1, []) rfl (by omega) 353 1 (by decide +kernel) rfl).symm.trans hs.1
  obtain ⟨p, ep⟩ : ∃ p : Nat, ρ 2 = (p : Int) := ⟨(ρ 2).toNat, by omega⟩
  have hp : p ≤ wN h := by omega
  obtain ⟨s1, s2⟩ := wSk_le (B := wB h) hp
  obtain ⟨d, ed⟩ : ∃ d : Nat, ρ 3 = (d : Int) := ⟨(ρ 3).toNat, by omega⟩
  have er : ρ 4 = (wG (wN h) (wB h) 9 (d) (p)) := pfG hM ho hh 4 511 9 (0, [(2, 1), (3, 241)]) rfl rfl rfl (d := d) (p := p) (by omega) (by omega) (by show (0 + (1 * ρ 2 + (241 * ρ 3 + 0)) : Int) = _; omega)
  have eq : ρ 5 = ((wSk (wN h) (wB h) (p)) : Int) := pfS hM ho hh 5 (0, [(2, 1)]) rfl (p := p) (by omega) (by show (0 + (1 * ρ 2 + 0) : Int) = _; omega)
  have ec : ρ 6 = (wCh (wN h) (wB h) ((wSk (wN h) (wB h) (p)))) := pfC hM ho hh 6 (0, [(5, 1)]) rfl (p := (wSk (wN h) (wB h) (p))) (by omega) (by show (0 + (1 * ρ 5 + 0) : Int) = _; omega)
  have cbc := wCh_bd ho ((wSk (wN h) (wB h) (p)))
  have clc : (wCh (wN h) (wB h) ((wSk (wN h) (wB h) (p)))) ≠ 0 → (wSk (wN h) (wB h) (p)) < wN h := wCh_lt
  rw [wE_OT hp] at er
  by_cases h1 : (wCh (wN h) (wB h) ((wSk (wN h) (wB h) (p)))) = 124
  · rw [if_pos h1] at er
    have hq := clc (by omega)
    have g := wG_gd (n := wN h) (B := wB h) 8 d ((wSk (wN h) (wB h) (p)) + 1) rfl (by omega)
    rcases wBd_el er g with ⟨a1, a2⟩ | ⟨s, a1, a2, a3, a4⟩
    · have := g.1 a1
      refine ⟨rOTc_0, List.mem_of_getElem? (i := 0) rfl, pEnd [ρ 0, ρ 1, ρ 2, ρ 3, ρ 4, ρ 5, ρ 6, (wG (wN h) (wB h) 8 (d) ((wSk (wN h) (wB h) (p)) + 1))] rfl ?_ ?_ ?_ ?_⟩
      · intro j hj
        match j, hj with
        | 0, _ => exact q0.symm
        | 1, _ => exact q1.symm
        | 2, _ => exact q2.symm
        | 3, _ => exact q3.symm
        | 4, _ => exact q4.symm
        | 5, _ => exact q5.symm
        | 6, _ => exact q6.symm
        | k + 7, hj => exact absurd hj (by show ¬ (k + 7 < 7); omega)
      · intro k b hk
        match k, hk with
        | 0, hk => cases hk; exact (show ((-241) : Int) ≤ (wG (wN h) (wB h) 8 (d) ((wSk (wN h) (wB h) (p)) + 1)) ∧ (wG (wN h) (wB h) 8 (d) ((wSk (wN h) (wB h) (p)) + 1)) ≤ ((-1) : Int) by omega)
        | k + 1, hk => cases hk
      · exact pAll1 (show (0 + (1 * ρ 2 + ((-1) * ρ 5 + 0)) : Int) ≤ 0 by omega) (pAll1 (show (0 + ((-1) * ρ 1 + (1 * ρ 5 + 0)) : Int) ≤ 0 by omega) (pAll1 (show (1 + ((-1) * ρ 1 + (1 * ρ 5 + 0)) : Int) ≤ 0 by omega) (pAll1 (show (1 + ((-1) * ρ 6 + 0) : Int) ≤ 0 by omega) (pAll1 (show ((-124) + (1 * ρ 6 + 0) : Int) ≤ 0 by omega) (pAll1 (show (124 + ((-1) * ρ 6 + 0) : Int) ≤ 0 by omega) (pAll1 (show (0 + (1 * ρ 4 + ((-1) * (wG (wN h) (wB h) 8 (d) ((wSk (wN h) (wB h) (p)) + 1)) + 0)) : Int) ≤ 0 by omega) (pAll1 (show (0 + ((-1) * ρ 4 + (1 * (wG (wN h) (wB h) 8 (d) ((wSk (wN h) (wB h) (p)) + 1)) + 0)) : Int) ≤ 0 by omega) (pAll0))))))))
      · exact pAll1 (pgG ho hh 510 8 rfl rfl (d) ((wSk (wN h) (wB h) (p)) + 1) (by omega) (by omega) (show (1 + (241 * ρ 3 + (1 * ρ 5 + 0)) : Int) = _ by omega) (show (0 + (1 * (wG (wN h) (wB h) 8 (d) ((wSk (wN h) (wB h) (p)) + 1)) + 0) : Int) = _ by omega)) (pAll0)
    · have a2 : (wSk (wN h) (wB h) (p)) + 1 + 1 ≤ s := a2
      refine ⟨rOTc_1, List.mem_of_getElem? (i := 1) rfl, pEnd [ρ 0, ρ 1, ρ 2, ρ 3, ρ 4, ρ 5, ρ 6, (s : Int)] rfl ?_ ?_ ?_ ?_⟩
      · intro j hj
        match j, hj with
        | 0, _ => exact q0.symm
        | 1, _ => exact q1.symm
        | 2, _ => exact q2.symm
        | 3, _ => exact q3.symm
        | 4, _ => exact q4.symm
        | 5, _ => exact q5.symm
        | 6, _ => exact q6.symm
        | k + 7, hj => exact absurd hj (by show ¬ (k + 7 < 7); omega)
      · intro k b hk
        match k, hk with
        | 0, hk => cases hk; exact (show (0 : Int) ≤ (s : Int) ∧ (s : Int) ≤ (240 : Int) by omega)
        | k + 1, hk => cases hk
      · exact pAll1 (show (0 + (1 * ρ 2 + ((-1) * ρ 5 + 0)) : Int) ≤ 0 by omega) (pAll1 (show (0 + ((-1) * ρ 1 + (1 * ρ 5 + 0)) : Int) ≤ 0 by omega) (pAll1 (show (1 + ((-1) * ρ 1 + (1 * ρ 5 + 0)) : Int) ≤ 0 by omega) (pAll1 (show (1 + ((-1) * ρ 6 + 0) : Int) ≤ 0 by omega) (pAll1 (show ((-124) + (1 * ρ 6 + 0) : Int) ≤ 0 by omega) (pAll1 (show (124 + ((-1) * ρ 6 + 0) : Int) ≤ 0 by omega) (pAll1 (show (2 + (1 * ρ 5 + ((-1) * (s : Int) + 0)) : Int) ≤ 0 by omega) (pAll1 (show (0 + ((-1) * ρ 1 + (1 * (s : Int) + 0)) : Int) ≤ 0 by omega) (pAll0))))))))
      · exact pAll1 (pgG ho hh 510 8 rfl rfl (d) ((wSk (wN h) (wB h) (p)) + 1) (by omega) (by omega) (show (1 + (241 * ρ 3 + (1 * ρ 5 + 0)) : Int) = _ by omega) (show (0 + (1 * (s : Int) + 0) : Int) = _ by omega)) (pAll1 (pgG ho hh 511 9 rfl rfl (d) (s) (by omega) (by omega) (show (0 + (241 * ρ 3 + (1 * (s : Int) + 0)) : Int) = _ by omega) (show (0 + (1 * ρ 4 + 0) : Int) = _ by omega)) (pAll0))
  · rw [if_neg h1] at er
    have hu : (wCh (wN h) (wB h) ((wSk (wN h) (wB h) (p)))) ≤ 123 ∨ 125 ≤ (wCh (wN h) (wB h) ((wSk (wN h) (wB h) (p)))) := by omega
    rcases hu with hu | hu
    · refine ⟨rOTc_2, List.mem_of_getElem? (i := 2) rfl, pEnd [ρ 0, ρ 1, ρ 2, ρ 3, ρ 4, ρ 5, ρ 6] rfl ?_ ?_ ?_ ?_⟩
      · exact hL
      · intro k b hk
        cases hk
      · exact pAll1 (show (0 + (1 * ρ 2 + ((-1) * ρ 5 + 0)) : Int) ≤ 0 by omega) (pAll1 (show (0 + ((-1) * ρ 1 + (1 * ρ 5 + 0)) : Int) ≤ 0 by omega) (pAll1 (show ((-123) + (1 * ρ 6 + 0) : Int) ≤ 0 by omega) (pAll1 (show (0 + (1 * ρ 4 + ((-1) * ρ 5 + 0)) : Int) ≤ 0 by omega) (pAll1 (show (0 + ((-1) * ρ 4 + (1 * ρ 5 + 0)) : Int) ≤ 0 by omega) (pAll0)))))
      · exact pAll0
    · refine ⟨rOTc_3, List.mem_of_getElem? (i := 3) rfl, pEnd [ρ 0, ρ 1, ρ 2, ρ 3, ρ 4, ρ 5, ρ 6] rfl ?_ ?_ ?_ ?_⟩
      · exact hL
      · intro k b hk
        cases hk
      · exact pAll1 (show (0 + (1 * ρ 2 + ((-1) * ρ 5 + 0)) : Int) ≤ 0 by omega) (pAll1 (show (0 + ((-1) * ρ 1 + (1 * ρ 5 + 0)) : Int) ≤ 0 by omega) (pAll1 (show (125 + ((-1) * ρ 6 + 0) : Int) ≤ 0 by omega) (pAll1 (show (0 + (1 * ρ 4 + ((-1) * ρ 5 + 0)) : Int) ≤ 0 by omega) (pAll1 (show (0 + ((-1) * ρ 4 + (1 * ρ 5 + 0)) : Int) ≤ 0 by omega) (pAll0)))))
      · exact pAll0
noncomputable def rUNc_0 : sX := (none, [], [], [(0, [(2, 1), (5, (-1))]), (0, [(1, (-1)), (5, 1)]), (1, [(1, (-1)), (5, 1)]), (1, [(6, (-1))]), ((-33), [(6, 1)]), (33, [(6, (-1))]), ((-6), [(3, 1)]), (6, [(3, (-1))]), (1, [(4, 1), (5, 1)]), ((-1), [(4, (-1)), (5, (-1))])], [])
noncomputable def rUNc_1 : sX := (none, [], [], [(0, [(2, 1), (5, (-1))]), (0, [(1, (-1)), (5, 1)]), (1, [(1, (-1)), (5, 1)]), (1, [(6, (-1))]), ((-40), [(6, 1)]), (40, [(6, (-1))]), ((-6), [(3, 1)]), (6, [(3, (-1))]), (1, [(4, 1), (5, 1)]), ((-1), [(4, (-1)), (5, (-1))])], [])
noncomputable def rUNc_2 : sX := (none, [(507, (242, [(3, 241), (5, 1)]), (0, [(4, 1)]))], [], [(0, [(2, 1), (5, (-1))]), (0, [(1, (-1)), (5, 1)]), (1, [(1, (-1)), (5, 1)]), (1, [(6, (-1))]), ((-33), [(6, 1)]), (33, [(6, (-1))]), ((-5), [(3, 1)])], [])
noncomputable def rUNc_3 : sX := (none, [(512, (242, [(3, 241), (5, 1)]), (0, [(7, 1)]))], [((-241), (-1))], [(0, [(2, 1), (5, (-1))]), (0, [(1, (-1)), (5, 1)]), (1, [(1, (-1)), (5, 1)]), (1, [(6, (-1))]), ((-40), [(6, 1)]), (40, [(6, (-1))]), ((-5), [(3, 1)]), (0, [(4, 1), (7, (-1))]), (0, [(4, (-1)), (7, 1)])], [])
noncomputable def rUNc_4 : sX := (none, [(512, (242, [(3, 241), (5, 1)]), (0, [(7, 1)])), (500, (0, [(7, 1)]), (0, [(8, 1)])), (501, (0, [(8, 1)]), (0, [(9, 1)]))], [(0, 240), (0, 240), (41, 41)], [(0, [(2, 1), (5, (-1))]), (0, [(1, (-1)), (5, 1)]), (1, [(1, (-1)), (5, 1)]), (1, [(6, (-1))]), ((-40), [(6, 1)]), (40, [(6, (-1))]), ((-5), [(3, 1)]), (0, [(7, 1), (8, (-1))]), (1, [(1, (-1)), (8, 1)]), ((-1), [(4, 1), (8, (-1))]), (1, [(4, (-1)), (8, 1)])], [])
noncomputable def rUNc_5 : sX := (none, [(512, (242, [(3, 241), (5, 1)]), (0, [(7, 1)])), (500, (0, [(7, 1)]), (0, [(8, 1)])), (501, (0, [(8, 1)]), (0, [(9, 1)]))], [(0, 240), (0, 240), (0, 40)], [(0, [(2, 1), (5, (-1))]), (0, [(1, (-1)), (5, 1)]), (1, [(1, (-1)), (5, 1)]), (1, [(6, (-1))]), ((-40), [(6, 1)]), (40, [(6, (-1))]), ((-5), [(3, 1)]), (0, [(7, 1), (8, (-1))]), (0, [(1, (-1)), (8, 1)]), (1, [(4, 1), (8, 1)]), ((-1), [(4, (-1)), (8, (-1))])], [])
noncomputable def rUNc_6 : sX := (none, [(512, (242, [(3, 241), (5, 1)]), (0, [(7, 1)])), (500, (0, [(7, 1)]), (0, [(8, 1)])), (501, (0, [(8, 1)]), (0, [(9, 1)]))], [(0, 240), (0, 240), (42, 255)], [(0, [(2, 1), (5, (-1))]), (0, [(1, (-1)), (5, 1)]), (1, [(1, (-1)), (5, 1)]), (1, [(6, (-1))]), ((-40), [(6, 1)]), (40, [(6, (-1))]), ((-5), [(3, 1)]), (0, [(7, 1), (8, (-1))]), (0, [(1, (-1)), (8, 1)]), (1, [(4, 1), (8, 1)]), ((-1), [(4, (-1)), (8, (-1))])], [])
noncomputable def rUNc_7 : sX := (none, [(505, (0, [(3, 241), (5, 1)]), (0, [(7, 1)]))], [((-241), (-1))], [(0, [(2, 1), (5, (-1))]), (0, [(1, (-1)), (5, 1)]), ((-32), [(6, 1)]), (0, [(4, 1), (7, (-1))]), (0, [(4, (-1)), (7, 1)])], [])
noncomputable def rUNc_8 : sX := (none, [(505, (0, [(3, 241), (5, 1)]), (0, [(7, 1)])), (508, (0, [(3, 241), (7, 1)]), (0, [(4, 1)]))], [(0, 240)], [(0, [(2, 1), (5, (-1))]), (0, [(1, (-1)), (5, 1)]), ((-32), [(6, 1)]), (1, [(5, 1), (7, (-1))]), (0, [(1, (-1)), (7, 1)])], [])
noncomputable def rUNc_9 : sX := (none, [(505, (0, [(3, 241), (5, 1)]), (0, [(7, 1)]))], [((-241), (-1))], [(0, [(2, 1), (5, (-1))]), (0, [(1, (-1)), (5, 1)]), (34, [(6, (-1))]), ((-39), [(6, 1)]), (0, [(4, 1), (7, (-1))]), (0, [(4, (-1)), (7, 1)])], [])
noncomputable def rUNc_10 : sX := (none, [(505, (0, [(3, 241), (5, 1)]), (0, [(7, 1)])), (508, (0, [(3, 241), (7, 1)]), (0, [(4, 1)]))], [(0, 240)], [(0, [(2, 1), (5, (-1))]), (0, [(1, (-1)), (5, 1)]), (34, [(6, (-1))]), ((-39), [(6, 1)]), (1, [(5, 1), (7, (-1))]), (0, [(1, (-1)), (7, 1)])], [])
noncomputable def rUNc_11 : sX := (none, [(505, (0, [(3, 241), (5, 1)]), (0, [(7, 1)]))], [((-241), (-1))], [(0, [(2, 1), (5, (-1))]), (0, [(1, (-1)), (5, 1)]), (41, [(6, (-1))]), (0, [(4, 1), (7, (-1))]), (0, [(4, (-1)), (7, 1)])], [])
noncomputable def rUNc_12 : sX := (none, [(505, (0, [(3, 241), (5, 1)]), (0, [(7, 1)])), (508, (0, [(3, 241), (7, 1)]), (0, [(4, 1)]))], [(0, 240)], [(0, [(2, 1), (5, (-1))]), (0, [(1, (-1)), (5, 1)]), (41, [(6, (-1))]), (1, [(5, 1), (7, (-1))]), (0, [(1, (-1)), (7, 1)])], [])
noncomputable def rUNc : sQ := (0, ([], [(2, 1000, (0, [])), (2, 41, (1, [])), (2, 41, (2, [])), (0, 1, (0, [])), (2, 507, (0, [(2, 1), (3, 241)])), (2, 500, (0, [(2, 1)])), (2, 501, (0, [(5, 1)]))], [(1, 1), (0, 240), (0, 240), (0, 6), ((-241), 240), (0, 240), (0, 255)], [(0, [(1, (-1)), (2, 1)])], [(0, 0), (1, 1), (2, 2), (3, 3), (4, 4), (5, 5), (6, 6)], (0, [])), [rUNc_0, rUNc_1, rUNc_2, rUNc_3, rUNc_4, rUNc_5, rUNc_6, rUNc_7, rUNc_8, rUNc_9, rUNc_10, rUNc_11, rUNc_12], [], 0)
theorem rUNc_ok : pRul pReg pG pgv rUNc := by
  intro loc h ρ ρ0 hG hM
  have hM : sMt pReg pgv ρ ρ0 (sAs rUNc.2.1) loc [] h := hM
  have q0 : ρ0 1 = ρ 0 := (hM.2.2.2.2.2 (1, sY 0) (List.mem_of_getElem? (i := 1) rfl)).trans (sY_v ρ 0)
  have q1 : ρ0 2 = ρ 1 := (hM.2.2.2.2.2 (2, sY 1) (List.mem_of_getElem? (i := 2) rfl)).trans (sY_v ρ 1)
  have q2 : ρ0 3 = ρ 2 := (hM.2.2.2.2.2 (3, sY 2) (List.mem_of_getElem? (i := 3) rfl)).trans (sY_v ρ 2)
  have q3 : ρ0 4 = ρ 3 := (hM.2.2.2.2.2 (4, sY 3) (List.mem_of_getElem? (i := 4) rfl)).trans (sY_v ρ 3)
  have q4 : ρ0 5 = ρ 4 := (hM.2.2.2.2.2 (5, sY 4) (List.mem_of_getElem? (i := 5) rfl)).trans (sY_v ρ 4)
  have q5 : ρ0 6 = ρ 5 := (hM.2.2.2.2.2 (6, sY 5) (List.mem_of_getElem? (i := 6) rfl)).trans (sY_v ρ 5)
  have q6 : ρ0 7 = ρ 6 := (hM.2.2.2.2.2 (7, sY 6) (List.mem_of_getElem? (i := 7) rfl)).trans (sY_v ρ 6)
  have hL : ∀ j, j < 7 → pL [ρ 0, ρ 1, ρ 2, ρ 3, ρ 4, ρ 5, ρ 6] j = ρ0 (j + 1) := by
    intro j hj
    match j, hj with
    | 0, _ => exact q0.symm
    | 1, _ => exact q1.symm
    | 2, _ => exact q2.symm
    | 3, _ => exact q3.symm
    | 4, _ => exact q4.symm
    | 5, _ => exact q5.symm
    | 6, _ => exact q6.symm
    | k + 7, hj => omega
  have b0 : (1 : Int) ≤ ρ 0 ∧ ρ 0 ≤ 1 := hM.2.2.2.1 0 (1, 1) rfl
  have b1 : (0 : Int) ≤ ρ 1 ∧ ρ 1 ≤ 240 := hM.2.2.2.1 1 (0, 240) rfl
  have b2 : (0 : Int) ≤ ρ 2 ∧ ρ 2 ≤ 240 := hM.2.2.2.1 2 (0, 240) rfl
  have b3 : (0 : Int) ≤ ρ 3 ∧ ρ 3 ≤ 6 := hM.2.2.2.1 3 (0, 6) rfl
  have b4 : ((-241) : Int) ≤ ρ 4 ∧ ρ 4 ≤ 240 := hM.2.2.2.1 4 ((-241), 240) rfl
  have b5 : (0 : Int) ≤ ρ 5 ∧ ρ 5 ≤ 240 := hM.2.2.2.1 5 (0, 240) rfl
  have b6 : (0 : Int) ≤ ρ 6 ∧ ρ 6 ≤ 255 := hM.2.2.2.1 6 (0, 255) rfl
  have c0 : (0 + ((-1) * ρ 1 + (1 * ρ 2 + 0)) : Int) ≤ 0 := hM.2.2.2.2.1 (0, [(1, (-1)), (2, 1)]) (List.mem_of_getElem? (i := 0) rfl)
  obtain ⟨ho, hs, hh⟩ := pTold0 hM 0 (0, []) rfl b0.1
  have hn := ho.1
  have en : ρ 1 = (wN h : Int) := (pPl hM 1 41 (1, []) rfl (by omega) 353 1 (by decide +kernel) rfl).symm.trans hs.1
  obtain ⟨p, ep⟩ : ∃ p : Nat, ρ 2 = (p : Int) := ⟨(ρ 2).toNat, by omega⟩
  have hp : p ≤ wN h := by omega
  obtain ⟨s1, s2⟩ := wSk_le (B := wB h) hp
  obtain ⟨d, ed⟩ : ∃ d : Nat, ρ 3 = (d : Int) := ⟨(ρ 3).toNat, by omega⟩
  have er : ρ 4 = (wG (wN h) (wB h) 5 (d) (p)) := pfG hM ho hh 4 507 5 (0, [(2, 1), (3, 241)]) rfl rfl rfl (d := d) (p := p) (by omega) (by omega) (by show (0 + (1 * ρ 2 + (241 * ρ 3 + 0)) : Int) = _; omega)
  have eq : ρ 5 = ((wSk (wN h) (wB h) (p)) : Int) := pfS hM ho hh 5 (0, [(2, 1)]) rfl (p := p) (by omega) (by show (0 + (1 * ρ 2 + 0) : Int) = _; omega)
  have ec : ρ 6 = (wCh (wN h) (wB h) ((wSk (wN h) (wB h) (p)))) := pfC hM ho hh 6 (0, [(5, 1)]) rfl (p := (wSk (wN h) (wB h) (p))) (by omega) (by show (0 + (1 * ρ 5 + 0) : Int) = _; omega)
  have cbc := wCh_bd ho ((wSk (wN h) (wB h) (p)))
  have clc : (wCh (wN h) (wB h) ((wSk (wN h) (wB h) (p)))) ≠ 0 → (wSk (wN h) (wB h) (p)) < wN h := wCh_lt
  rw [wE_UN hp] at er
  by_cases h1 : (wCh (wN h) (wB h) ((wSk (wN h) (wB h) (p)))) = 33
  · rw [if_pos h1] at er
    have hq := clc (by omega)
    by_cases h2 : 6 ≤ d
    · rw [if_pos h2] at er
      unfold wFl at er
      refine ⟨rUNc_0, List.mem_of_getElem? (i := 0) rfl, pEnd [ρ 0, ρ 1, ρ 2, ρ 3, ρ 4, ρ 5, ρ 6] rfl ?_ ?_ ?_ ?_⟩
      · exact hL
      · intro k b hk
        cases hk
      · exact pAll1 (show (0 + (1 * ρ 2 + ((-1) * ρ 5 + 0)) : Int) ≤ 0 by omega) (pAll1 (show (0 + ((-1) * ρ 1 + (1 * ρ 5 + 0)) : Int) ≤ 0 by omega) (pAll1 (show (1 + ((-1) * ρ 1 + (1 * ρ 5 + 0)) : Int) ≤ 0 by omega) (pAll1 (show (1 + ((-1) * ρ 6 + 0) : Int) ≤ 0 by omega) (pAll1 (show ((-33) + (1 * ρ 6 + 0) : Int) ≤ 0 by omega) (pAll1 (show (33 + ((-1) * ρ 6 + 0) : Int) ≤ 0 by omega) (pAll1 (show ((-6) + (1 * ρ 3 + 0) : Int) ≤ 0 by omega) (pAll1 (show (6 + ((-1) * ρ 3 + 0) : Int) ≤ 0 by omega) (pAll1 (show (1 + (1 * ρ 4 + (1 * ρ 5 + 0)) : Int) ≤ 0 by omega) (pAll1 (show ((-1) + ((-1) * ρ 4 + ((-1) * ρ 5 + 0)) : Int) ≤ 0 by omega) (pAll0))))))))))
      · exact pAll0
    · rw [if_neg h2] at er
      refine ⟨rUNc_2, List.mem_of_getElem? (i := 2) rfl, pEnd [ρ 0, ρ 1, ρ 2, ρ 3, ρ 4, ρ 5, ρ 6] rfl ?_ ?_ ?_ ?_⟩
      · exact hL
      · intro k b hk
        cases hk
      · exact pAll1 (show (0 + (1 * ρ 2 + ((-1) * ρ 5 + 0)) : Int) ≤ 0 by omega) (pAll1 (show (0 + ((-1) * ρ 1 + (1 * ρ 5 + 0)) : Int) ≤ 0 by omega) (pAll1 (show (1 + ((-1) * ρ 1 + (1 * ρ 5 + 0)) : Int) ≤ 0 by omega) (pAll1 (show (1 + ((-1) * ρ 6 + 0) : Int) ≤ 0 by omega) (pAll1 (show ((-33) + (1 * ρ 6 + 0) : Int) ≤ 0 by omega) (pAll1 (show (33 + ((-1) * ρ 6 + 0) : Int) ≤ 0 by omega) (pAll1 (show ((-5) + (1 * ρ 3 + 0) : Int) ≤ 0 by omega) (pAll0)))))))
      · exact pAll1 (pgG ho hh 507 5 rfl rfl (d + 1) ((wSk (wN h) (wB h) (p)) + 1) (by omega) (by omega) (show (242 + (241 * ρ 3 + (1 * ρ 5 + 0)) : Int) = _ by omega) (show (0 + (1 * ρ 4 + 0) : Int) = _ by omega)) (pAll0)
  · rw [if_neg h1] at er
    by_cases h3 : (wCh (wN h) (wB h) ((wSk (wN h) (wB h) (p)))) = 40
    · rw [if_pos h3] at er
      have hq := clc (by omega)
      by_cases h2 : 6 ≤ d
      · rw [if_pos h2] at er
        unfold wFl at er
        refine ⟨rUNc_1, List.mem_of_getElem? (i := 1) rfl, pEnd [ρ 0, ρ 1, ρ 2, ρ 3, ρ 4, ρ 5, ρ 6] rfl ?_ ?_ ?_ ?_⟩
        · exact hL
        · intro k b hk
          cases hk
        · exact pAll1 (show (0 + (1 * ρ 2 + ((-1) * ρ 5 + 0)) : Int) ≤ 0 by omega) (pAll1 (show (0 + ((-1) * ρ 1 + (1 * ρ 5 + 0)) : Int) ≤ 0 by omega) (pAll1 (show (1 + ((-1) * ρ 1 + (1 * ρ 5 + 0)) : Int) ≤ 0 by omega) (pAll1 (show (1 + ((-1) * ρ 6 + 0) : Int) ≤ 0 by omega) (pAll1 (show ((-40) + (1 * ρ 6 + 0) : Int) ≤ 0 by omega) (pAll1 (show (40 + ((-1) * ρ 6 + 0) : Int) ≤ 0 by omega) (pAll1 (show ((-6) + (1 * ρ 3 + 0) : Int) ≤ 0 by omega) (pAll1 (show (6 + ((-1) * ρ 3 + 0) : Int) ≤ 0 by omega) (pAll1 (show (1 + (1 * ρ 4 + (1 * ρ 5 + 0)) : Int) ≤ 0 by omega) (pAll1 (show ((-1) + ((-1) * ρ 4 + ((-1) * ρ 5 + 0)) : Int) ≤ 0 by omega) (pAll0))))))))))
        · exact pAll0
      · rw [if_neg h2] at er
        have g := wG_gd (n := wN h) (B := wB h) 10 (d + 1) ((wSk (wN h) (wB h) (p)) + 1) rfl (by omega)
        rcases wBd_el er g with ⟨a1, a2⟩ | ⟨s, a1, a2, a3, a4⟩
        · have := g.1 a1
          refine ⟨rUNc_3, List.mem_of_getElem? (i := 3) rfl, pEnd [ρ 0, ρ 1, ρ 2, ρ 3, ρ 4, ρ 5, ρ 6, (wG (wN h) (wB h) 10 (d + 1) ((wSk (wN h) (wB h) (p)) + 1))] rfl ?_ ?_ ?_ ?_⟩
          · intro j hj
            match j, hj with
            | 0, _ => exact q0.symm
            | 1, _ => exact q1.symm
            | 2, _ => exact q2.symm
            | 3, _ => exact q3.symm
            | 4, _ => exact q4.symm
            | 5, _ => exact q5.symm
            | 6, _ => exact q6.symm
            | k + 7, hj => exact absurd hj (by show ¬ (k + 7 < 7); omega)
          · intro k b hk
            match k, hk with
            | 0, hk => cases hk; exact (show ((-241) : Int) ≤ (wG (wN h) (wB h) 10 (d + 1) ((wSk (wN h) (wB h) (p)) + 1)) ∧ (wG (wN h) (wB h) 10 (d + 1) ((wSk (wN h) (wB h) (p)) + 1)) ≤ ((-1) : Int) by omega)
            | k + 1, hk => cases hk
          · exact pAll1 (show (0 + (1 * ρ 2 + ((-1) * ρ 5 + 0)) : Int) ≤ 0 by omega) (pAll1 (show (0 + ((-1) * ρ 1 + (1 * ρ 5 + 0)) : Int) ≤ 0 by omega) (pAll1 (show (1 + ((-1) * ρ 1 + (1 * ρ 5 + 0)) : Int) ≤ 0 by omega) (pAll1 (show (1 + ((-1) * ρ 6 + 0) : Int) ≤ 0 by omega) (pAll1 (show ((-40) + (1 * ρ 6 + 0) : Int) ≤ 0 by omega) (pAll1 (show (40 + ((-1) * ρ 6 + 0) : Int) ≤ 0 by omega) (pAll1 (show ((-5) + (1 * ρ 3 + 0) : Int) ≤ 0 by omega) (pAll1 (show (0 + (1 * ρ 4 + ((-1) * (wG (wN h) (wB h) 10 (d + 1) ((wSk (wN h) (wB h) (p)) + 1)) + 0)) : Int) ≤ 0 by omega) (pAll1 (show (0 + ((-1) * ρ 4 + (1 * (wG (wN h) (wB h) 10 (d + 1) ((wSk (wN h) (wB h) (p)) + 1)) + 0)) : Int) ≤ 0 by omega) (pAll0)))))))))
          · exact pAll1 (pgG ho hh 512 10 rfl rfl (d + 1) ((wSk (wN h) (wB h) (p)) + 1) (by omega) (by omega) (show (242 + (241 * ρ 3 + (1 * ρ 5 + 0)) : Int) = _ by omega) (show (0 + (1 * (wG (wN h) (wB h) 10 (d + 1) ((wSk (wN h) (wB h) (p)) + 1)) + 0) : Int) = _ by omega)) (pAll0)
        · have a2 : (wSk (wN h) (wB h) (p)) + 1 + 1 ≤ s := a2
          obtain ⟨t1, t2⟩ := wSk_le (B := wB h) a3
          have cs := wCh_bd ho (wSk (wN h) (wB h) (s))
          by_cases h4 : (wCh (wN h) (wB h) ((wSk (wN h) (wB h) (s)))) = 41
          · rw [if_pos h4] at a4
            have := wCh_lt (n := wN h) (B := wB h) (p := (wSk (wN h) (wB h) (s))) (by omega)
            refine ⟨rUNc_4, List.mem_of_getElem? (i := 4) rfl, pEnd [ρ 0, ρ 1, ρ 2, ρ 3, ρ 4, ρ 5, ρ 6, (s : Int), ((wSk (wN h) (wB h) (s)) : Int), (wCh (wN h) (wB h) ((wSk (wN h) (wB h) (s))))] rfl ?_ ?_ ?_ ?_⟩
            · intro j hj
              match j, hj with
              | 0, _ => exact q0.symm
              | 1, _ => exact q1.symm
              | 2, _ => exact q2.symm
              | 3, _ => exact q3.symm
              | 4, _ => exact q4.symm
              | 5, _ => exact q5.symm
              | 6, _ => exact q6.symm
              | k + 7, hj => exact absurd hj (by show ¬ (k + 7 < 7); omega)
            · intro k b hk
              match k, hk with
              | 0, hk => cases hk; exact (show (0 : Int) ≤ (s : Int) ∧ (s : Int) ≤ (240 : Int) by omega)
              | 1, hk => cases hk; exact (show (0 : Int) ≤ ((wSk (wN h) (wB h) (s)) : Int) ∧ ((wSk (wN h) (wB h) (s)) : Int) ≤ (240 : Int) by omega)
              | 2, hk => cases hk; exact (show (41 : Int) ≤ (wCh (wN h) (wB h) ((wSk (wN h) (wB h) (s)))) ∧ (wCh (wN h) (wB h) ((wSk (wN h) (wB h) (s)))) ≤ (41 : Int) by omega)
              | k + 3, hk => cases hk
            · exact pAll1 (show (0 + (1 * ρ 2 + ((-1) * ρ 5 + 0)) : Int) ≤ 0 by omega) (pAll1 (show (0 + ((-1) * ρ 1 + (1 * ρ 5 + 0)) : Int) ≤ 0 by omega) (pAll1 (show (1 + ((-1) * ρ 1 + (1 * ρ 5 + 0)) : Int) ≤ 0 by omega) (pAll1 (show (1 + ((-1) * ρ 6 + 0) : Int) ≤ 0 by omega) (pAll1 (show ((-40) + (1 * ρ 6 + 0) : Int) ≤ 0 by omega) (pAll1 (show (40 + ((-1) * ρ 6 + 0) : Int) ≤ 0 by omega) (pAll1 (show ((-5) + (1 * ρ 3 + 0) : Int) ≤ 0 by omega) (pAll1 (show (0 + (1 * (s : Int) + ((-1) * ((wSk (wN h) (wB h) (s)) : Int) + 0)) : Int) ≤ 0 by omega) (pAll1 (show (1 + ((-1) * ρ 1 + (1 * ((wSk (wN h) (wB h) (s)) : Int) + 0)) : Int) ≤ 0 by omega) (pAll1 (show ((-1) + (1 * ρ 4 + ((-1) * ((wSk (wN h) (wB h) (s)) : Int) + 0)) : Int) ≤ 0 by omega) (pAll1 (show (1 + ((-1) * ρ 4 + (1 * ((wSk (wN h) (wB h) (s)) : Int) + 0)) : Int) ≤ 0 by omega) (pAll0)))))))))))
            · exact pAll1 (pgG ho hh 512 10 rfl rfl (d + 1) ((wSk (wN h) (wB h) (p)) + 1) (by omega) (by omega) (show (242 + (241 * ρ 3 + (1 * ρ 5 + 0)) : Int) = _ by omega) (show (0 + (1 * (s : Int) + 0) : Int) = _ by omega)) (pAll1 (pgS ho hh (s) (by omega) (show (0 + (1 * (s : Int) + 0) : Int) = _ by omega) (show (0 + (1 * ((wSk (wN h) (wB h) (s)) : Int) + 0) : Int) = _ by omega)) (pAll1 (pgC ho hh ((wSk (wN h) (wB h) (s))) (by omega) (show (0 + (1 * ((wSk (wN h) (wB h) (s)) : Int) + 0) : Int) = _ by omega) (show (0 + (1 * (wCh (wN h) (wB h) ((wSk (wN h) (wB h) (s)))) + 0) : Int) = _ by omega)) (pAll0)))
          · rw [if_neg h4] at a4
            unfold wFl at a4
            have hu : (wCh (wN h) (wB h) ((wSk (wN h) (wB h) (s)))) ≤ 40 ∨ 42 ≤ (wCh (wN h) (wB h) ((wSk (wN h) (wB h) (s)))) := by omega
            rcases hu with hu | hu
            · refine ⟨rUNc_5, List.mem_of_getElem? (i := 5) rfl, pEnd [ρ 0, ρ 1, ρ 2, ρ 3, ρ 4, ρ 5, ρ 6, (s : Int), ((wSk (wN h) (wB h) (s)) : Int), (wCh (wN h) (wB h) ((wSk (wN h) (wB h) (s))))] rfl ?_ ?_ ?_ ?_⟩
              · intro j hj
                match j, hj with
                | 0, _ => exact q0.symm
                | 1, _ => exact q1.symm
                | 2, _ => exact q2.symm
                | 3, _ => exact q3.symm
                | 4, _ => exact q4.symm
                | 5, _ => exact q5.symm
                | 6, _ => exact q6.symm
                | k + 7, hj => exact absurd hj (by show ¬ (k + 7 < 7); omega)
              · intro k b hk
                match k, hk with
                | 0, hk => cases hk; exact (show (0 : Int) ≤ (s : Int) ∧ (s : Int) ≤ (240 : Int) by omega)
                | 1, hk => cases hk; exact (show (0 : Int) ≤ ((wSk (wN h) (wB h) (s)) : Int) ∧ ((wSk (wN h) (wB h) (s)) : Int) ≤ (240 : Int) by omega)
                | 2, hk => cases hk; exact (show (0 : Int) ≤ (wCh (wN h) (wB h) ((wSk (wN h) (wB h) (s)))) ∧ (wCh (wN h) (wB h) ((wSk (wN h) (wB h) (s)))) ≤ (40 : Int) by omega)
                | k + 3, hk => cases hk
              · exact pAll1 (show (0 + (1 * ρ 2 + ((-1) * ρ 5 + 0)) : Int) ≤ 0 by omega) (pAll1 (show (0 + ((-1) * ρ 1 + (1 * ρ 5 + 0)) : Int) ≤ 0 by omega) (pAll1 (show (1 + ((-1) * ρ 1 + (1 * ρ 5 + 0)) : Int) ≤ 0 by omega) (pAll1 (show (1 + ((-1) * ρ 6 + 0) : Int) ≤ 0 by omega) (pAll1 (show ((-40) + (1 * ρ 6 + 0) : Int) ≤ 0 by omega) (pAll1 (show (40 + ((-1) * ρ 6 + 0) : Int) ≤ 0 by omega) (pAll1 (show ((-5) + (1 * ρ 3 + 0) : Int) ≤ 0 by omega) (pAll1 (show (0 + (1 * (s : Int) + ((-1) * ((wSk (wN h) (wB h) (s)) : Int) + 0)) : Int) ≤ 0 by omega) (pAll1 (show (0 + ((-1) * ρ 1 + (1 * ((wSk (wN h) (wB h) (s)) : Int) + 0)) : Int) ≤ 0 by omega) (pAll1 (show (1 + (1 * ρ 4 + (1 * ((wSk (wN h) (wB h) (s)) : Int) + 0)) : Int) ≤ 0 by omega) (pAll1 (show ((-1) + ((-1) * ρ 4 + ((-1) * ((wSk (wN h) (wB h) (s)) : Int) + 0)) : Int) ≤ 0 by omega) (pAll0)))))))))))
              · exact pAll1 (pgG ho hh 512 10 rfl rfl (d + 1) ((wSk (wN h) (wB h) (p)) + 1) (by omega) (by omega) (show (242 + (241 * ρ 3 + (1 * ρ 5 + 0)) : Int) = _ by omega) (show (0 + (1 * (s : Int) + 0) : Int) = _ by omega)) (pAll1 (pgS ho hh (s) (by omega) (show (0 + (1 * (s : Int) + 0) : Int) = _ by omega) (show (0 + (1 * ((wSk (wN h) (wB h) (s)) : Int) + 0) : Int) = _ by omega)) (pAll1 (pgC ho hh ((wSk (wN h) (wB h) (s))) (by omega) (show (0 + (1 * ((wSk (wN h) (wB h) (s)) : Int) + 0) : Int) = _ by omega) (show (0 + (1 * (wCh (wN h) (wB h) ((wSk (wN h) (wB h) (s)))) + 0) : Int) = _ by omega)) (pAll0)))
            · refine ⟨rUNc_6, List.mem_of_getElem? (i := 6) rfl, pEnd [ρ 0, ρ 1, ρ 2, ρ 3, ρ 4, ρ 5, ρ 6, (s : Int), ((wSk (wN h) (wB h) (s)) : Int), (wCh (wN h) (wB h) ((wSk (wN h) (wB h) (s))))] rfl ?_ ?_ ?_ ?_⟩
              · intro j hj
                match j, hj with
                | 0, _ => exact q0.symm
                | 1, _ => exact q1.symm
                | 2, _ => exact q2.symm
                | 3, _ => exact q3.symm
                | 4, _ => exact q4.symm
                | 5, _ => exact q5.symm
                | 6, _ => exact q6.symm
                | k + 7, hj => exact absurd hj (by show ¬ (k + 7 < 7); omega)
              · intro k b hk
                match k, hk with
                | 0, hk => cases hk; exact (show (0 : Int) ≤ (s : Int) ∧ (s : Int) ≤ (240 : Int) by omega)
                | 1, hk => cases hk; exact (show (0 : Int) ≤ ((wSk (wN h) (wB h) (s)) : Int) ∧ ((wSk (wN h) (wB h) (s)) : Int) ≤ (240 : Int) by omega)
                | 2, hk => cases hk; exact (show (42 : Int) ≤ (wCh (wN h) (wB h) ((wSk (wN h) (wB h) (s)))) ∧ (wCh (wN h) (wB h) ((wSk (wN h) (wB h) (s)))) ≤ (255 : Int) by omega)
                | k + 3, hk => cases hk
              · exact pAll1 (show (0 + (1 * ρ 2 + ((-1) * ρ 5 + 0)) : Int) ≤ 0 by omega) (pAll1 (show (0 + ((-1) * ρ 1 + (1 * ρ 5 + 0)) : Int) ≤ 0 by omega) (pAll1 (show (1 + ((-1) * ρ 1 + (1 * ρ 5 + 0)) : Int) ≤ 0 by omega) (pAll1 (show (1 + ((-1) * ρ 6 + 0) : Int) ≤ 0 by omega) (pAll1 (show ((-40) + (1 * ρ 6 + 0) : Int) ≤ 0 by omega) (pAll1 (show (40 + ((-1) * ρ 6 + 0) : Int) ≤ 0 by omega) (pAll1 (show ((-5) + (1 * ρ 3 + 0) : Int) ≤ 0 by omega) (pAll1 (show (0 + (1 * (s : Int) + ((-1) * ((wSk (wN h) (wB h) (s)) : Int) + 0)) : Int) ≤ 0 by omega) (pAll1 (show (0 + ((-1) * ρ 1 + (1 * ((wSk (wN h) (wB h) (s)) : Int) + 0)) : Int) ≤ 0 by omega) (pAll1 (show (1 + (1 * ρ 4 + (1 * ((wSk (wN h) (wB h) (s)) : Int) + 0)) : Int) ≤ 0 by omega) (pAll1 (show ((-1) + ((-1) * ρ 4 + ((-1) * ((wSk (wN h) (wB h) (s)) : Int) + 0)) : Int) ≤ 0 by omega) (pAll0)))))))))))
              · exact pAll1 (pgG ho hh 512 10 rfl rfl (d + 1) ((wSk (wN h) (wB h) (p)) + 1) (by omega) (by omega) (show (242 + (241 * ρ 3 + (1 * ρ 5 + 0)) : Int) = _ by omega) (show (0 + (1 * (s : Int) + 0) : Int) = _ by omega)) (pAll1 (pgS ho hh (s) (by omega) (show (0 + (1 * (s : Int) + 0) : Int) = _ by omega) (show (0 + (1 * ((wSk (wN h) (wB h) (s)) : Int) + 0) : Int) = _ by omega)) (pAll1 (pgC ho hh ((wSk (wN h) (wB h) (s))) (by omega) (show (0 + (1 * ((wSk (wN h) (wB h) (s)) : Int) + 0) : Int) = _ by omega) (show (0 + (1 * (wCh (wN h) (wB h) ((wSk (wN h) (wB h) (s)))) + 0) : Int) = _ by omega)) (pAll0)))
    · rw [if_neg h3] at er
      have g := wG_gd (n := wN h) (B := wB h) 3 d (wSk (wN h) (wB h) (p)) rfl s2
      rcases wBd_el er g with ⟨a1, a2⟩ | ⟨s, a1, a2, a3, a4⟩
      · have := g.1 a1
        have hu : (wCh (wN h) (wB h) ((wSk (wN h) (wB h) (p)))) ≤ 32 ∨ (34 ≤ (wCh (wN h) (wB h) ((wSk (wN h) (wB h) (p)))) ∧ (wCh (wN h) (wB h) ((wSk (wN h) (wB h) (p)))) ≤ 39) ∨ 41 ≤ (wCh (wN h) (wB h) ((wSk (wN h) (wB h) (p)))) := by omega
        rcases hu with hu | hu | hu
        · refine ⟨rUNc_7, List.mem_of_getElem? (i := 7) rfl, pEnd [ρ 0, ρ 1, ρ 2, ρ 3, ρ 4, ρ 5, ρ 6, (wG (wN h) (wB h) 3 (d) ((wSk (wN h) (wB h) (p))))] rfl ?_ ?_ ?_ ?_⟩
          · intro j hj
            match j, hj with
            | 0, _ => exact q0.symm
            | 1, _ => exact q1.symm
            | 2, _ => exact q2.symm
            | 3, _ => exact q3.symm
            | 4, _ => exact q4.symm
            | 5, _ => exact q5.symm
            | 6, _ => exact q6.symm
            | k + 7, hj => exact absurd hj (by show ¬ (k + 7 < 7); omega)
          · intro k b hk
            match k, hk with
            | 0, hk => cases hk; exact (show ((-241) : Int) ≤ (wG (wN h) (wB h) 3 (d) ((wSk (wN h) (wB h) (p)))) ∧ (wG (wN h) (wB h) 3 (d) ((wSk (wN h) (wB h) (p)))) ≤ ((-1) : Int) by omega)
            | k + 1, hk => cases hk
          · exact pAll1 (show (0 + (1 * ρ 2 + ((-1) * ρ 5 + 0)) : Int) ≤ 0 by omega) (pAll1 (show (0 + ((-1) * ρ 1 + (1 * ρ 5 + 0)) : Int) ≤ 0 by omega) (pAll1 (show ((-32) + (1 * ρ 6 + 0) : Int) ≤ 0 by omega) (pAll1 (show (0 + (1 * ρ 4 + ((-1) * (wG (wN h) (wB h) 3 (d) ((wSk (wN h) (wB h) (p)))) + 0)) : Int) ≤ 0 by omega) (pAll1 (show (0 + ((-1) * ρ 4 + (1 * (wG (wN h) (wB h) 3 (d) ((wSk (wN h) (wB h) (p)))) + 0)) : Int) ≤ 0 by omega) (pAll0)))))
          · exact pAll1 (pgG ho hh 505 3 rfl rfl (d) ((wSk (wN h) (wB h) (p))) (by omega) (by omega) (show (0 + (241 * ρ 3 + (1 * ρ 5 + 0)) : Int) = _ by omega) (show (0 + (1 * (wG (wN h) (wB h) 3 (d) ((wSk (wN h) (wB h) (p)))) + 0) : Int) = _ by omega)) (pAll0)
        · refine ⟨rUNc_9, List.mem_of_getElem? (i := 9) rfl, pEnd [ρ 0, ρ 1, ρ 2, ρ 3, ρ 4, ρ 5, ρ 6, (wG (wN h) (wB h) 3 (d) ((wSk (wN h) (wB h) (p))))] rfl ?_ ?_ ?_ ?_⟩
          · intro j hj
            match j, hj with
            | 0, _ => exact q0.symm
            | 1, _ => exact q1.symm
            | 2, _ => exact q2.symm
            | 3, _ => exact q3.symm
            | 4, _ => exact q4.symm
            | 5, _ => exact q5.symm
            | 6, _ => exact q6.symm
            | k + 7, hj => exact absurd hj (by show ¬ (k + 7 < 7); omega)
          · intro k b hk
            match k, hk with
            | 0, hk => cases hk; exact (show ((-241) : Int) ≤ (wG (wN h) (wB h) 3 (d) ((wSk (wN h) (wB h) (p)))) ∧ (wG (wN h) (wB h) 3 (d) ((wSk (wN h) (wB h) (p)))) ≤ ((-1) : Int) by omega)
            | k + 1, hk => cases hk
          · exact pAll1 (show (0 + (1 * ρ 2 + ((-1) * ρ 5 + 0)) : Int) ≤ 0 by omega) (pAll1 (show (0 + ((-1) * ρ 1 + (1 * ρ 5 + 0)) : Int) ≤ 0 by omega) (pAll1 (show (34 + ((-1) * ρ 6 + 0) : Int) ≤ 0 by omega) (pAll1 (show ((-39) + (1 * ρ 6 + 0) : Int) ≤ 0 by omega) (pAll1 (show (0 + (1 * ρ 4 + ((-1) * (wG (wN h) (wB h) 3 (d) ((wSk (wN h) (wB h) (p)))) + 0)) : Int) ≤ 0 by omega) (pAll1 (show (0 + ((-1) * ρ 4 + (1 * (wG (wN h) (wB h) 3 (d) ((wSk (wN h) (wB h) (p)))) + 0)) : Int) ≤ 0 by omega) (pAll0))))))
          · exact pAll1 (pgG ho hh 505 3 rfl rfl (d) ((wSk (wN h) (wB h) (p))) (by omega) (by omega) (show (0 + (241 * ρ 3 + (1 * ρ 5 + 0)) : Int) = _ by omega) (show (0 + (1 * (wG (wN h) (wB h) 3 (d) ((wSk (wN h) (wB h) (p)))) + 0) : Int) = _ by omega)) (pAll0)
        · refine ⟨rUNc_11, List.mem_of_getElem? (i := 11) rfl, pEnd [ρ 0, ρ 1, ρ 2, ρ 3, ρ 4, ρ 5, ρ 6, (wG (wN h) (wB h) 3 (d) ((wSk (wN h) (wB h) (p))))] rfl ?_ ?_ ?_ ?_⟩
          · intro j hj
            match j, hj with
            | 0, _ => exact q0.symm
            | 1, _ => exact q1.symm
            | 2, _ => exact q2.symm
            | 3, _ => exact q3.symm
            | 4, _ => exact q4.symm
            | 5, _ => exact q5.symm
            | 6, _ => exact q6.symm
            | k + 7, hj => exact absurd hj (by show ¬ (k + 7 < 7); omega)
          · intro k b hk
            match k, hk with
            | 0, hk => cases hk; exact (show ((-241) : Int) ≤ (wG (wN h) (wB h) 3 (d) ((wSk (wN h) (wB h) (p)))) ∧ (wG (wN h) (wB h) 3 (d) ((wSk (wN h) (wB h) (p)))) ≤ ((-1) : Int) by omega)
            | k + 1, hk => cases hk
          · exact pAll1 (show (0 + (1 * ρ 2 + ((-1) * ρ 5 + 0)) : Int) ≤ 0 by omega) (pAll1 (show (0 + ((-1) * ρ 1 + (1 * ρ 5 + 0)) : Int) ≤ 0 by omega) (pAll1 (show (41 + ((-1) * ρ 6 + 0) : Int) ≤ 0 by omega) (pAll1 (show (0 + (1 * ρ 4 + ((-1) * (wG (wN h) (wB h) 3 (d) ((wSk (wN h) (wB h) (p)))) + 0)) : Int) ≤ 0 by omega) (pAll1 (show (0 + ((-1) * ρ 4 + (1 * (wG (wN h) (wB h) 3 (d) ((wSk (wN h) (wB h) (p)))) + 0)) : Int) ≤ 0 by omega) (pAll0)))))
          · exact pAll1 (pgG ho hh 505 3 rfl rfl (d) ((wSk (wN h) (wB h) (p))) (by omega) (by omega) (show (0 + (241 * ρ 3 + (1 * ρ 5 + 0)) : Int) = _ by omega) (show (0 + (1 * (wG (wN h) (wB h) 3 (d) ((wSk (wN h) (wB h) (p)))) + 0) : Int) = _ by omega)) (pAll0)
      · have a2 : (wSk (wN h) (wB h) (p)) + 1 ≤ s := a2
        have hu : (wCh (wN h) (wB h) ((wSk (wN h) (wB h) (p)))) ≤ 32 ∨ (34 ≤ (wCh (wN h) (wB h) ((wSk (wN h) (wB h) (p)))) ∧ (wCh (wN h) (wB h) ((wSk (wN h) (wB h) (p)))) ≤ 39) ∨ 41 ≤ (wCh (wN h) (wB h) ((wSk (wN h) (wB h) (p)))) := by omega
        rcases hu with hu | hu | hu
        · refine ⟨rUNc_8, List.mem_of_getElem? (i := 8) rfl, pEnd [ρ 0, ρ 1, ρ 2, ρ 3, ρ 4, ρ 5, ρ 6, (s : Int)] rfl ?_ ?_ ?_ ?_⟩
          · intro j hj
            match j, hj with
            | 0, _ => exact q0.symm
            | 1, _ => exact q1.symm
            | 2, _ => exact q2.symm
            | 3, _ => exact q3.symm
            | 4, _ => exact q4.symm
            | 5, _ => exact q5.symm
            | 6, _ => exact q6.symm
            | k + 7, hj => exact absurd hj (by show ¬ (k + 7 < 7); omega)
          · intro k b hk
            match k, hk with
            | 0, hk => cases hk; exact (show (0 : Int) ≤ (s : Int) ∧ (s : Int) ≤ (240 : Int) by omega)
            | k + 1, hk => cases hk
          · exact pAll1 (show (0 + (1 * ρ 2 + ((-1) * ρ 5 + 0)) : Int) ≤ 0 by omega) (pAll1 (show (0 + ((-1) * ρ 1 + (1 * ρ 5 + 0)) : Int) ≤ 0 by omega) (pAll1 (show ((-32) + (1 * ρ 6 + 0) : Int) ≤ 0 by omega) (pAll1 (show (1 + (1 * ρ 5 + ((-1) * (s : Int) + 0)) : Int) ≤ 0 by omega) (pAll1 (show (0 + ((-1) * ρ 1 + (1 * (s : Int) + 0)) : Int) ≤ 0 by omega) (pAll0)))))
          · exact pAll1 (pgG ho hh 505 3 rfl rfl (d) ((wSk (wN h) (wB h) (p))) (by omega) (by omega) (show (0 + (241 * ρ 3 + (1 * ρ 5 + 0)) : Int) = _ by omega) (show (0 + (1 * (s : Int) + 0) : Int) = _ by omega)) (pAll1 (pgG ho hh 508 6 rfl rfl (d) (s) (by omega) (by omega) (show (0 + (241 * ρ 3 + (1 * (s : Int) + 0)) : Int) = _ by omega) (show (0 + (1 * ρ 4 + 0) : Int) = _ by omega)) (pAll0))
        · refine ⟨rUNc_10, List.mem_of_getElem? (i := 10) rfl, pEnd [ρ 0, ρ 1, ρ 2, ρ 3, ρ 4, ρ 5, ρ 6, (s : Int)] rfl ?_ ?_ ?_ ?_⟩
          · intro j hj
            match j, hj with
            | 0, _ => exact q0.symm
            | 1, _ => exact q1.symm
            | 2, _ => exact q2.symm
            | 3, _ => exact q3.symm
            | 4, _ => exact q4.symm
            | 5, _ => exact q5.symm
            | 6, _ => exact q6.symm
            | k + 7, hj => exact absurd hj (by show ¬ (k + 7 < 7); omega)
          · intro k b hk
            match k, hk with
            | 0, hk => cases hk; exact (show (0 : Int) ≤ (s : Int) ∧ (s : Int) ≤ (240 : Int) by omega)
            | k + 1, hk => cases hk
          · exact pAll1 (show (0 + (1 * ρ 2 + ((-1) * ρ 5 + 0)) : Int) ≤ 0 by omega) (pAll1 (show (0 + ((-1) * ρ 1 + (1 * ρ 5 + 0)) : Int) ≤ 0 by omega) (pAll1 (show (34 + ((-1) * ρ 6 + 0) : Int) ≤ 0 by omega) (pAll1 (show ((-39) + (1 * ρ 6 + 0) : Int) ≤ 0 by omega) (pAll1 (show (1 + (1 * ρ 5 + ((-1) * (s : Int) + 0)) : Int) ≤ 0 by omega) (pAll1 (show (0 + ((-1) * ρ 1 + (1 * (s : Int) + 0)) : Int) ≤ 0 by omega) (pAll0))))))
          · exact pAll1 (pgG ho hh 505 3 rfl rfl (d) ((wSk (wN h) (wB h) (p))) (by omega) (by omega) (show (0 + (241 * ρ 3 + (1 * ρ 5 + 0)) : Int) = _ by omega) (show (0 + (1 * (s : Int) + 0) : Int) = _ by omega)) (pAll1 (pgG ho hh 508 6 rfl rfl (d) (s) (by omega) (by omega) (show (0 + (241 * ρ 3 + (1 * (s : Int) + 0)) : Int) = _ by omega) (show (0 + (1 * ρ 4 + 0) : Int) = _ by omega)) (pAll0))
        · refine ⟨rUNc_12, List.mem_of_getElem? (i := 12) rfl, pEnd [ρ 0, ρ 1, ρ 2, ρ 3, ρ 4, ρ 5, ρ 6, (s : Int)] rfl ?_ ?_ ?_ ?_⟩
          · intro j hj
            match j, hj with
            | 0, _ => exact q0.symm
            | 1, _ => exact q1.symm
            | 2, _ => exact q2.symm
            | 3, _ => exact q3.symm
            | 4, _ => exact q4.symm
            | 5, _ => exact q5.symm
            | 6, _ => exact q6.symm
            | k + 7, hj => exact absurd hj (by show ¬ (k + 7 < 7); omega)
          · intro k b hk
            match k, hk with
            | 0, hk => cases hk; exact (show (0 : Int) ≤ (s : Int) ∧ (s : Int) ≤ (240 : Int) by omega)
            | k + 1, hk => cases hk
          · exact pAll1 (show (0 + (1 * ρ 2 + ((-1) * ρ 5 + 0)) : Int) ≤ 0 by omega) (pAll1 (show (0 + ((-1) * ρ 1 + (1 * ρ 5 + 0)) : Int) ≤ 0 by omega) (pAll1 (show (41 + ((-1) * ρ 6 + 0) : Int) ≤ 0 by omega) (pAll1 (show (1 + (1 * ρ 5 + ((-1) * (s : Int) + 0)) : Int) ≤ 0 by omega) (pAll1 (show (0 + ((-1) * ρ 1 + (1 * (s : Int) + 0)) : Int) ≤ 0 by omega) (pAll0)))))
          · exact pAll1 (pgG ho hh 505 3 rfl rfl (d) ((wSk (wN h) (wB h) (p))) (by omega) (by omega) (show (0 + (241 * ρ 3 + (1 * ρ 5 + 0)) : Int) = _ by omega) (show (0 + (1 * (s : Int) + 0) : Int) = _ by omega)) (pAll1 (pgG ho hh 508 6 rfl rfl (d) (s) (by omega) (by omega) (show (0 + (241 * ρ 3 + (1 * (s : Int) + 0)) : Int) = _ by omega) (show (0 + (1 * ρ 4 + 0) : Int) = _ by omega)) (pAll0))
noncomputable def rCMc_0 : sX := (none, [(505, (1, [(3, 241), (5, 1)]), (0, [(4, 1)]))], [], [(0, [(2, 1), (5, (-1))]), (0, [(1, (-1)), (5, 1)]), (1, [(1, (-1)), (5, 1)]), (1, [(6, (-1))]), (60, [(6, (-1))]), ((-62), [(6, 1)])], [])
noncomputable def rCMc_1 : sX := (none, [], [], [(0, [(2, 1), (5, (-1))]), (0, [(1, (-1)), (5, 1)]), ((-59), [(6, 1)]), (1, [(4, 1), (5, 1)]), ((-1), [(4, (-1)), (5, (-1))])], [])
noncomputable def rCMc_2 : sX := (none, [], [], [(0, [(2, 1), (5, (-1))]), (0, [(1, (-1)), (5, 1)]), (63, [(6, (-1))]), (1, [(4, 1), (5, 1)]), ((-1), [(4, (-1)), (5, (-1))])], [])
noncomputable def rCMc : sQ := (0, ([], [(2, 1000, (0, [])), (2, 41, (1, [])), (2, 41, (2, [])), (0, 1, (0, [])), (2, 508, (0, [(2, 1), (3, 241)])), (2, 500, (0, [(2, 1)])), (2, 501, (0, [(5, 1)]))], [(1, 1), (0, 240), (0, 240), (0, 6), ((-241), 240), (0, 240), (0, 255)], [(0, [(1, (-1)), (2, 1)])], [(0, 0), (1, 1), (2, 2), (3, 3), (4, 4), (5, 5), (6, 6)], (0, [])), [rCMc_0, rCMc_1, rCMc_2], [], 0)
theorem rCMc_ok : pRul pReg pG pgv rCMc := by
  intro loc h ρ ρ0 hG hM
  have hM : sMt pReg pgv ρ ρ0 (sAs rCMc.2.1) loc [] h := hM
  have q0 : ρ0 1 = ρ 0 := (hM.2.2.2.2.2 (1, sY 0) (List.mem_of_getElem? (i := 1) rfl)).trans (sY_v ρ 0)
  have q1 : ρ0 2 = ρ 1 := (hM.2.2.2.2.2 (2, sY 1) (List.mem_of_getElem? (i := 2) rfl)).trans (sY_v ρ 1)
  have q2 : ρ0 3 = ρ 2 := (hM.2.2.2.2.2 (3, sY 2) (List.mem_of_getElem? (i := 3) rfl)).trans (sY_v ρ 2)
  have q3 : ρ0 4 = ρ 3 := (hM.2.2.2.2.2 (4, sY 3) (List.mem_of_getElem? (i := 4) rfl)).trans (sY_v ρ 3)
  have q4 : ρ0 5 = ρ 4 := (hM.2.2.2.2.2 (5, sY 4) (List.mem_of_getElem? (i := 5) rfl)).trans (sY_v ρ 4)
  have q5 : ρ0 6 = ρ 5 := (hM.2.2.2.2.2 (6, sY 5) (List.mem_of_getElem? (i := 6) rfl)).trans (sY_v ρ 5)
  have q6 : ρ0 7 = ρ 6 := (hM.2.2.2.2.2 (7, sY 6) (List.mem_of_getElem? (i := 7) rfl)).trans (sY_v ρ 6)
  have hL : ∀ j, j < 7 → pL [ρ 0, ρ 1, ρ 2, ρ 3, ρ 4, ρ 5, ρ 6] j = ρ0 (j + 1) := by
    intro j hj
    match j, hj with
    | 0, _ => exact q0.symm
    | 1, _ => exact q1.symm
    | 2, _ => exact q2.symm
    | 3, _ => exact q3.symm
    | 4, _ => exact q4.symm
    | 5, _ => exact q5.symm
    | 6, _ => exact q6.symm
    | k + 7, hj => omega
  have b0 : (1 : Int) ≤ ρ 0 ∧ ρ 0 ≤ 1 := hM.2.2.2.1 0 (1, 1) rfl
  have b1 : (0 : Int) ≤ ρ 1 ∧ ρ 1 ≤ 240 := hM.2.2.2.1 1 (0, 240) rfl
  have b2 : (0 : Int) ≤ ρ 2 ∧ ρ 2 ≤ 240 := hM.2.2.2.1 2 (0, 240) rfl
  have b3 : (0 : Int) ≤ ρ 3 ∧ ρ 3 ≤ 6 := hM.2.2.2.1 3 (0, 6) rfl
  have b4 : ((-241) : Int) ≤ ρ 4 ∧ ρ 4 ≤ 240 := hM.2.2.2.1 4 ((-241), 240) rfl
  have b5 : (0 : Int) ≤ ρ 5 ∧ ρ 5 ≤ 240 := hM.2.2.2.1 5 (0, 240) rfl
  have b6 : (0 : Int) ≤ ρ 6 ∧ ρ 6 ≤ 255 := hM.2.2.2.1 6 (0, 255) rfl
  have c0 : (0 + ((-1) * ρ 1 + (1 * ρ 2 + 0)) : Int) ≤ 0 := hM.2.2.2.2.1 (0, [(1, (-1)), (2, 1)]) (List.mem_of_getElem? (i := 0) rfl)
  obtain ⟨ho, hs, hh⟩ := pTold0 hM 0 (0, []) rfl b0.1
  have hn := ho.1
  have en : ρ 1 = (wN h : Int) := (pPl hM 1 41 (1, []) rfl (by omega) 353 1 (by decide +kernel) rfl).symm.trans hs.1
  obtain ⟨p, ep⟩ : ∃ p : Nat, ρ 2 = (p : Int) := ⟨(ρ 2).toNat, by omega⟩
  have hp : p ≤ wN h := by omega
  obtain ⟨s1, s2⟩ := wSk_le (B := wB h) hp
  obtain ⟨d, ed⟩ : ∃ d : Nat, ρ 3 = (d : Int) := ⟨(ρ 3).toNat, by omega⟩
  have er : ρ 4 = (wG (wN h) (wB h) 6 (d) (p)) := pfG hM ho hh 4 508 6 (0, [(2, 1), (3, 241)]) rfl rfl rfl (d := d) (p := p) (by omega) (by omega) (by show (0 + (1 * ρ 2 + (241 * ρ 3 + 0)) : Int) = _; omega)
  have eq : ρ 5 = ((wSk (wN h) (wB h) (p)) : Int) := pfS hM ho hh 5 (0, [(2, 1)]) rfl (p := p) (by omega) (by show (0 + (1 * ρ 2 + 0) : Int) = _; omega)
  have ec : ρ 6 = (wCh (wN h) (wB h) ((wSk (wN h) (wB h) (p)))) := pfC hM ho hh 6 (0, [(5, 1)]) rfl (p := (wSk (wN h) (wB h) (p))) (by omega) (by show (0 + (1 * ρ 5 + 0) : Int) = _; omega)
  have cbc := wCh_bd ho ((wSk (wN h) (wB h) (p)))
  have clc : (wCh (wN h) (wB h) ((wSk (wN h) (wB h) (p)))) ≠ 0 → (wSk (wN h) (wB h) (p)) < wN h := wCh_lt
  rw [wE_CM hp] at er
  by_cases h1 : 60 ≤ (wCh (wN h) (wB h) ((wSk (wN h) (wB h) (p)))) ∧ (wCh (wN h) (wB h) ((wSk (wN h) (wB h) (p)))) ≤ 62
  · rw [if_pos h1] at er
    have hq := clc (by omega)
    refine ⟨rCMc_0, List.mem_of_getElem? (i := 0) rfl, pEnd [ρ 0, ρ 1, ρ 2, ρ 3, ρ 4, ρ 5, ρ 6] rfl ?_ ?_ ?_ ?_⟩
    · exact hL
    · intro k b hk
      cases hk
    · exact pAll1 (show (0 + (1 * ρ 2 + ((-1) * ρ 5 + 0)) : Int) ≤ 0 by omega) (pAll1 (show (0 + ((-1) * ρ 1 + (1 * ρ 5 + 0)) : Int) ≤ 0 by omega) (pAll1 (show (1 + ((-1) * ρ 1 + (1 * ρ 5 + 0)) : Int) ≤ 0 by omega) (pAll1 (show (1 + ((-1) * ρ 6 + 0) : Int) ≤ 0 by omega) (pAll1 (show (60 + ((-1) * ρ 6 + 0) : Int) ≤ 0 by omega) (pAll1 (show ((-62) + (1 * ρ 6 + 0) : Int) ≤ 0 by omega) (pAll0))))))
    · exact pAll1 (pgG ho hh 505 3 rfl rfl (d) ((wSk (wN h) (wB h) (p)) + 1) (by omega) (by omega) (show (1 + (241 * ρ 3 + (1 * ρ 5 + 0)) : Int) = _ by omega) (show (0 + (1 * ρ 4 + 0) : Int) = _ by omega)) (pAll0)
  · rw [if_neg h1] at er
    unfold wFl at er
    have hu : (wCh (wN h) (wB h) ((wSk (wN h) (wB h) (p)))) ≤ 59 ∨ 63 ≤ (wCh (wN h) (wB h) ((wSk (wN h) (wB h) (p)))) := by omega
    rcases hu with hu | hu
    · refine ⟨rCMc_1, List.mem_of_getElem? (i := 1) rfl, pEnd [ρ 0, ρ 1, ρ 2, ρ 3, ρ 4, ρ 5, ρ 6] rfl ?_ ?_ ?_ ?_⟩
      · exact hL
      · intro k b hk
        cases hk
      · exact pAll1 (show (0 + (1 * ρ 2 + ((-1) * ρ 5 + 0)) : Int) ≤ 0 by omega) (pAll1 (show (0 + ((-1) * ρ 1 + (1 * ρ 5 + 0)) : Int) ≤ 0 by omega) (pAll1 (show ((-59) + (1 * ρ 6 + 0) : Int) ≤ 0 by omega) (pAll1 (show (1 + (1 * ρ 4 + (1 * ρ 5 + 0)) : Int) ≤ 0 by omega) (pAll1 (show ((-1) + ((-1) * ρ 4 + ((-1) * ρ 5 + 0)) : Int) ≤ 0 by omega) (pAll0)))))
      · exact pAll0
    · refine ⟨rCMc_2, List.mem_of_getElem? (i := 2) rfl, pEnd [ρ 0, ρ 1, ρ 2, ρ 3, ρ 4, ρ 5, ρ 6] rfl ?_ ?_ ?_ ?_⟩
      · exact hL
      · intro k b hk
        cases hk
      · exact pAll1 (show (0 + (1 * ρ 2 + ((-1) * ρ 5 + 0)) : Int) ≤ 0 by omega) (pAll1 (show (0 + ((-1) * ρ 1 + (1 * ρ 5 + 0)) : Int) ≤ 0 by omega) (pAll1 (show (63 + ((-1) * ρ 6 + 0) : Int) ≤ 0 by omega) (pAll1 (show (1 + (1 * ρ 4 + (1 * ρ 5 + 0)) : Int) ≤ 0 by omega) (pAll1 (show ((-1) + ((-1) * ρ 4 + ((-1) * ρ 5 + 0)) : Int) ≤ 0 by omega) (pAll0)))))
      · exact pAll0
noncomputable def rCLc_0 : sX := (none, [], [], [(0, [(2, 1), (4, (-1))]), (0, [(1, (-1)), (4, 1)]), ((-120), [(5, 1)]), (1, [(3, 1), (4, 1)]), ((-1), [(3, (-1)), (4, (-1))])], [])
noncomputable def rCLc_1 : sX := (none, [], [], [(0, [(2, 1), (4, (-1))]), (0, [(1, (-1)), (4, 1)]), (122, [(5, (-1))]), (1, [(3, 1), (4, 1)]), ((-1), [(3, (-1)), (4, (-1))])], [])
noncomputable def rCLc_2 : sX := (none, [(500, (1, [(4, 1)]), (0, [(6, 1)])), (501, (0, [(6, 1)]), (0, [(7, 1)])), (519, (1, [(6, 1)]), (0, [(3, 1)]))], [(0, 240), (58, 58)], [(0, [(2, 1), (4, (-1))]), (0, [(1, (-1)), (4, 1)]), (1, [(1, (-1)), (4, 1)]), (1, [(5, (-1))]), ((-121), [(5, 1)]), (121, [(5, (-1))]), (1, [(4, 1), (6, (-1))]), (1, [(1, (-1)), (6, 1)])], [])
noncomputable def rCLc_3 : sX := (none, [(500, (1, [(4, 1)]), (0, [(6, 1)])), (501, (0, [(6, 1)]), (0, [(7, 1)]))], [(0, 240), (0, 57)], [(0, [(2, 1), (4, (-1))]), (0, [(1, (-1)), (4, 1)]), (1, [(1, (-1)), (4, 1)]), (1, [(5, (-1))]), ((-121), [(5, 1)]), (121, [(5, (-1))]), (1, [(4, 1), (6, (-1))]), (0, [(1, (-1)), (6, 1)]), (1, [(3, 1), (6, 1)]), ((-1), [(3, (-1)), (6, (-1))])], [])
noncomputable def rCLc_4 : sX := (none, [(500, (1, [(4, 1)]), (0, [(6, 1)])), (501, (0, [(6, 1)]), (0, [(7, 1)]))], [(0, 240), (59, 255)], [(0, [(2, 1), (4, (-1))]), (0, [(1, (-1)), (4, 1)]), (1, [(1, (-1)), (4, 1)]), (1, [(5, (-1))]), ((-121), [(5, 1)]), (121, [(5, (-1))]), (1, [(4, 1), (6, (-1))]), (0, [(1, (-1)), (6, 1)]), (1, [(3, 1), (6, 1)]), ((-1), [(3, (-1)), (6, (-1))])], [])
noncomputable def rCLc : sQ := (0, ([], [(2, 1000, (0, [])), (2, 41, (1, [])), (2, 41, (2, [])), (2, 513, (0, [(2, 1)])), (2, 500, (0, [(2, 1)])), (2, 501, (0, [(4, 1)]))], [(1, 1), (0, 240), (0, 240), ((-241), 240), (0, 240), (0, 255)], [(0, [(1, (-1)), (2, 1)])], [(0, 0), (1, 1), (2, 2), (3, 3), (4, 4), (5, 5)], (0, [])), [rCLc_0, rCLc_1, rCLc_2, rCLc_3, rCLc_4], [], 0)
theorem rCLc_ok : pRul pReg pG pgv rCLc := by
  intro loc h ρ ρ0 hG hM
  have hM : sMt pReg pgv ρ ρ0 (sAs rCLc.2.1) loc [] h := hM
  have q0 : ρ0 1 = ρ 0 := (hM.2.2.2.2.2 (1, sY 0) (List.mem_of_getElem? (i := 1) rfl)).trans (sY_v ρ 0)
  have q1 : ρ0 2 = ρ 1 := (hM.2.2.2.2.2 (2, sY 1) (List.mem_of_getElem? (i := 2) rfl)).trans (sY_v ρ 1)
  have q2 : ρ0 3 = ρ 2 := (hM.2.2.2.2.2 (3, sY 2) (List.mem_of_getElem? (i := 3) rfl)).trans (sY_v ρ 2)
  have q3 : ρ0 4 = ρ 3 := (hM.2.2.2.2.2 (4, sY 3) (List.mem_of_getElem? (i := 4) rfl)).trans (sY_v ρ 3)
  have q4 : ρ0 5 = ρ 4 := (hM.2.2.2.2.2 (5, sY 4) (List.mem_of_getElem? (i := 5) rfl)).trans (sY_v ρ 4)
  have q5 : ρ0 6 = ρ 5 := (hM.2.2.2.2.2 (6, sY 5) (List.mem_of_getElem? (i := 6) rfl)).trans (sY_v ρ 5)
  have hL : ∀ j, j < 6 → pL [ρ 0, ρ 1, ρ 2, ρ 3, ρ 4, ρ 5] j = ρ0 (j + 1) := by
    intro j hj
    match j, hj with
    | 0, _ => exact q0.symm
    | 1, _ => exact q1.symm
    | 2, _ => exact q2.symm
    | 3, _ => exact q3.symm
    | 4, _ => exact q4.symm
    | 5, _ => exact q5.symm
    | k + 6, hj => omega
  have b0 : (1 : Int) ≤ ρ 0 ∧ ρ 0 ≤ 1 := hM.2.2.2.1 0 (1, 1) rfl
  have b1 : (0 : Int) ≤ ρ 1 ∧ ρ 1 ≤ 240 := hM.2.2.2.1 1 (0, 240) rfl
  have b2 : (0 : Int) ≤ ρ 2 ∧ ρ 2 ≤ 240 := hM.2.2.2.1 2 (0, 240) rfl
  have b3 : ((-241) : Int) ≤ ρ 3 ∧ ρ 3 ≤ 240 := hM.2.2.2.1 3 ((-241), 240) rfl
  have b4 : (0 : Int) ≤ ρ 4 ∧ ρ 4 ≤ 240 := hM.2.2.2.1 4 (0, 240) rfl
  have b5 : (0 : Int) ≤ ρ 5 ∧ ρ 5 ≤ 255 := hM.2.2.2.1 5 (0, 255) rfl
  have c0 : (0 + ((-1) * ρ 1 + (1 * ρ 2 + 0)) : Int) ≤ 0 := hM.2.2.2.2.1 (0, [(1, (-1)), (2, 1)]) (List.mem_of_getElem? (i := 0) rfl)
  obtain ⟨ho, hs, hh⟩ := pTold0 hM 0 (0, []) rfl b0.1
  have hn := ho.1
  have en : ρ 1 = (wN h : Int) := (pPl hM 1 41 (1, []) rfl (by omega) 353 1 (by decide +kernel) rfl).symm.trans hs.1
  obtain ⟨p, ep⟩ : ∃ p : Nat, ρ 2 = (p : Int) := ⟨(ρ 2).toNat, by omega⟩
  have hp : p ≤ wN h := by omega
  obtain ⟨s1, s2⟩ := wSk_le (B := wB h) hp
  have er : ρ 3 = (wG (wN h) (wB h) 11 (0) (p)) := pfG hM ho hh 3 513 11 (0, [(2, 1)]) rfl rfl rfl (d := 0) (p := p) (by omega) (by omega) (by show (0 + (1 * ρ 2 + 0) : Int) = _; omega)
  have eq : ρ 4 = ((wSk (wN h) (wB h) (p)) : Int) := pfS hM ho hh 4 (0, [(2, 1)]) rfl (p := p) (by omega) (by show (0 + (1 * ρ 2 + 0) : Int) = _; omega)
  have ec : ρ 5 = (wCh (wN h) (wB h) ((wSk (wN h) (wB h) (p)))) := pfC hM ho hh 5 (0, [(4, 1)]) rfl (p := (wSk (wN h) (wB h) (p))) (by omega) (by show (0 + (1 * ρ 4 + 0) : Int) = _; omega)
  have cbc := wCh_bd ho ((wSk (wN h) (wB h) (p)))
  have clc : (wCh (wN h) (wB h) ((wSk (wN h) (wB h) (p)))) ≠ 0 → (wSk (wN h) (wB h) (p)) < wN h := wCh_lt
  rw [wE_CL hp] at er
  by_cases h1 : (wCh (wN h) (wB h) ((wSk (wN h) (wB h) (p)))) = 121
  · rw [if_pos h1] at er
    have hq := clc (by omega)
    obtain ⟨t1, t2⟩ := wSk_le (n := wN h) (B := wB h) (p := (wSk (wN h) (wB h) (p)) + 1) (by omega)
    have cs := wCh_bd ho (wSk (wN h) (wB h) ((wSk (wN h) (wB h) (p)) + 1))
    by_cases h2 : (wCh (wN h) (wB h) ((wSk (wN h) (wB h) ((wSk (wN h) (wB h) (p)) + 1)))) = 58
    · rw [if_pos h2] at er
      have := wCh_lt (n := wN h) (B := wB h) (p := (wSk (wN h) (wB h) ((wSk (wN h) (wB h) (p)) + 1))) (by omega)
      refine ⟨rCLc_2, List.mem_of_getElem? (i := 2) rfl, pEnd [ρ 0, ρ 1, ρ 2, ρ 3, ρ 4, ρ 5, ((wSk (wN h) (wB h) ((wSk (wN h) (wB h) (p)) + 1)) : Int), (wCh (wN h) (wB h) ((wSk (wN h) (wB h) ((wSk (wN h) (wB h) (p)) + 1))))] rfl ?_ ?_ ?_ ?_⟩
      · intro j hj
        match j, hj with
        | 0, _ => exact q0.symm
        | 1, _ => exact q1.symm
        | 2, _ => exact q2.symm
        | 3, _ => exact q3.symm
        | 4, _ => exact q4.symm
        | 5, _ => exact q5.symm
        | k + 6, hj => exact absurd hj (by show ¬ (k + 6 < 6); omega)
      · intro k b hk
        match k, hk with
        | 0, hk => cases hk; exact (show (0 : Int) ≤ ((wSk (wN h) (wB h) ((wSk (wN h) (wB h) (p)) + 1)) : Int) ∧ ((wSk (wN h) (wB h) ((wSk (wN h) (wB h) (p)) + 1)) : Int) ≤ (240 : Int) by omega)
        | 1, hk => cases hk; exact (show (58 : Int) ≤ (wCh (wN h) (wB h) ((wSk (wN h) (wB h) ((wSk (wN h) (wB h) (p)) + 1)))) ∧ (wCh (wN h) (wB h) ((wSk (wN h) (wB h) ((wSk (wN h) (wB h) (p)) + 1)))) ≤ (58 : Int) by omega)
        | k + 2, hk => cases hk
      · exact pAll1 (show (0 + (1 * ρ 2 + ((-1) * ρ 4 + 0)) : Int) ≤ 0 by omega) (pAll1 (show (0 + ((-1) * ρ 1 + (1 * ρ 4 + 0)) : Int) ≤ 0 by omega) (pAll1 (show (1 + ((-1) * ρ 1 + (1 * ρ 4 + 0)) : Int) ≤ 0 by omega) (pAll1 (show (1 + ((-1) * ρ 5 + 0) : Int) ≤ 0 by omega) (pAll1 (show ((-121) + (1 * ρ 5 + 0) : Int) ≤ 0 by omega) (pAll1 (show (121 + ((-1) * ρ 5 + 0) : Int) ≤ 0 by omega) (pAll1 (show (1 + (1 * ρ 4 + ((-1) * ((wSk (wN h) (wB h) ((wSk (wN h) (wB h) (p)) + 1)) : Int) + 0)) : Int) ≤ 0 by omega) (pAll1 (show (1 + ((-1) * ρ 1 + (1 * ((wSk (wN h) (wB h) ((wSk (wN h) (wB h) (p)) + 1)) : Int) + 0)) : Int) ≤ 0 by omega) (pAll0))))))))
      · exact pAll1 (pgS ho hh ((wSk (wN h) (wB h) (p)) + 1) (by omega) (show (1 + (1 * ρ 4 + 0) : Int) = _ by omega) (show (0 + (1 * ((wSk (wN h) (wB h) ((wSk (wN h) (wB h) (p)) + 1)) : Int) + 0) : Int) = _ by omega)) (pAll1 (pgC ho hh ((wSk (wN h) (wB h) ((wSk (wN h) (wB h) (p)) + 1))) (by omega) (show (0 + (1 * ((wSk (wN h) (wB h) ((wSk (wN h) (wB h) (p)) + 1)) : Int) + 0) : Int) = _ by omega) (show (0 + (1 * (wCh (wN h) (wB h) ((wSk (wN h) (wB h) ((wSk (wN h) (wB h) (p)) + 1)))) + 0) : Int) = _ by omega)) (pAll1 (pgG ho hh 519 17 rfl rfl (0) ((wSk (wN h) (wB h) ((wSk (wN h) (wB h) (p)) + 1)) + 1) (by omega) (by omega) (show (1 + (1 * ((wSk (wN h) (wB h) ((wSk (wN h) (wB h) (p)) + 1)) : Int) + 0) : Int) = _ by omega) (show (0 + (1 * ρ 3 + 0) : Int) = _ by omega)) (pAll0)))
    · rw [if_neg h2] at er
      unfold wFl at er
      have hu : (wCh (wN h) (wB h) ((wSk (wN h) (wB h) ((wSk (wN h) (wB h) (p)) + 1)))) ≤ 57 ∨ 59 ≤ (wCh (wN h) (wB h) ((wSk (wN h) (wB h) ((wSk (wN h) (wB h) (p)) + 1)))) := by omega
      rcases hu with hu | hu
      · refine ⟨rCLc_3, List.mem_of_getElem? (i := 3) rfl, pEnd [ρ 0, ρ 1, ρ 2, ρ 3, ρ 4, ρ 5, ((wSk (wN h) (wB h) ((wSk (wN h) (wB h) (p)) + 1)) : Int), (wCh (wN h) (wB h) ((wSk (wN h) (wB h) ((wSk (wN h) (wB h) (p)) + 1))))] rfl ?_ ?_ ?_ ?_⟩
        · intro j hj
          match j, hj with
          | 0, _ => exact q0.symm
          | 1, _ => exact q1.symm
          | 2, _ => exact q2.symm
          | 3, _ => exact q3.symm
          | 4, _ => exact q4.symm
          | 5, _ => exact q5.symm
          | k + 6, hj => exact absurd hj (by show ¬ (k + 6 < 6); omega)
        · intro k b hk
          match k, hk with
          | 0, hk => cases hk; exact (show (0 : Int) ≤ ((wSk (wN h) (wB h) ((wSk (wN h) (wB h) (p)) + 1)) : Int) ∧ ((wSk (wN h) (wB h) ((wSk (wN h) (wB h) (p)) + 1)) : Int) ≤ (240 : Int) by omega)
          | 1, hk => cases hk; exact (show (0 : Int) ≤ (wCh (wN h) (wB h) ((wSk (wN h) (wB h) ((wSk (wN h) (wB h) (p)) + 1)))) ∧ (wCh (wN h) (wB h) ((wSk (wN h) (wB h) ((wSk (wN h) (wB h) (p)) + 1)))) ≤ (57 : Int) by omega)
          | k + 2, hk => cases hk
        · exact pAll1 (show (0 + (1 * ρ 2 + ((-1) * ρ 4 + 0)) : Int) ≤ 0 by omega) (pAll1 (show (0 + ((-1) * ρ 1 + (1 * ρ 4 + 0)) : Int) ≤ 0 by omega) (pAll1 (show (1 + ((-1) * ρ 1 + (1 * ρ 4 + 0)) : Int) ≤ 0 by omega) (pAll1 (show (1 + ((-1) * ρ 5 + 0) : Int) ≤ 0 by omega) (pAll1 (show ((-121) + (1 * ρ 5 + 0) : Int) ≤ 0 by omega) (pAll1 (show (121 + ((-1) * ρ 5 + 0) : Int) ≤ 0 by omega) (pAll1 (show (1 + (1 * ρ 4 + ((-1) * ((wSk (wN h) (wB h) ((wSk (wN h) (wB h) (p)) + 1)) : Int) + 0)) : Int) ≤ 0 by omega) (pAll1 (show (0 + ((-1) * ρ 1 + (1 * ((wSk (wN h) (wB h) ((wSk (wN h) (wB h) (p)) + 1)) : Int) + 0)) : Int) ≤ 0 by omega) (pAll1 (show (1 + (1 * ρ 3 + (1 * ((wSk (wN h) (wB h) ((wSk (wN h) (wB h) (p)) + 1)) : Int) + 0)) : Int) ≤ 0 by omega) (pAll1 (show ((-1) + ((-1) * ρ 3 + ((-1) * ((wSk (wN h) (wB h) ((wSk (wN h) (wB h) (p)) + 1)) : Int) + 0)) : Int) ≤ 0 by omega) (pAll0))))))))))
        · exact pAll1 (pgS ho hh ((wSk (wN h) (wB h) (p)) + 1) (by omega) (show (1 + (1 * ρ 4 + 0) : Int) = _ by omega) (show (0 + (1 * ((wSk (wN h) (wB h) ((wSk (wN h) (wB h) (p)) + 1)) : Int) + 0) : Int) = _ by omega)) (pAll1 (pgC ho hh ((wSk (wN h) (wB h) ((wSk (wN h) (wB h) (p)) + 1))) (by omega) (show (0 + (1 * ((wSk (wN h) (wB h) ((wSk (wN h) (wB h) (p)) + 1)) : Int) + 0) : Int) = _ by omega) (show (0 + (1 * (wCh (wN h) (wB h) ((wSk (wN h) (wB h) ((wSk (wN h) (wB h) (p)) + 1)))) + 0) : Int) = _ by omega)) (pAll0))
      · refine ⟨rCLc_4, List.mem_of_getElem? (i := 4) rfl, pEnd [ρ 0, ρ 1, ρ 2, ρ 3, ρ 4, ρ 5, ((wSk (wN h) (wB h) ((wSk (wN h) (wB h) (p)) + 1)) : Int), (wCh (wN h) (wB h) ((wSk (wN h) (wB h) ((wSk (wN h) (wB h) (p)) + 1))))] rfl ?_ ?_ ?_ ?_⟩
        · intro j hj
          match j, hj with
          | 0, _ => exact q0.symm
          | 1, _ => exact q1.symm
          | 2, _ => exact q2.symm
          | 3, _ => exact q3.symm
          | 4, _ => exact q4.symm
          | 5, _ => exact q5.symm
          | k + 6, hj => exact absurd hj (by show ¬ (k + 6 < 6); omega)
        · intro k b hk
          match k, hk with
          | 0, hk => cases hk; exact (show (0 : Int) ≤ ((wSk (wN h) (wB h) ((wSk (wN h) (wB h) (p)) + 1)) : Int) ∧ ((wSk (wN h) (wB h) ((wSk (wN h) (wB h) (p)) + 1)) : Int) ≤ (240 : Int) by omega)
          | 1, hk => cases hk; exact (show (59 : Int) ≤ (wCh (wN h) (wB h) ((wSk (wN h) (wB h) ((wSk (wN h) (wB h) (p)) + 1)))) ∧ (wCh (wN h) (wB h) ((wSk (wN h) (wB h) ((wSk (wN h) (wB h) (p)) + 1)))) ≤ (255 : Int) by omega)
          | k + 2, hk => cases hk
        · exact pAll1 (show (0 + (1 * ρ 2 + ((-1) * ρ 4 + 0)) : Int) ≤ 0 by omega) (pAll1 (show (0 + ((-1) * ρ 1 + (1 * ρ 4 + 0)) : Int) ≤ 0 by omega) (pAll1 (show (1 + ((-1) * ρ 1 + (1 * ρ 4 + 0)) : Int) ≤ 0 by omega) (pAll1 (show (1 + ((-1) * ρ 5 + 0) : Int) ≤ 0 by omega) (pAll1 (show ((-121) + (1 * ρ 5 + 0) : Int) ≤ 0 by omega) (pAll1 (show (121 + ((-1) * ρ 5 + 0) : Int) ≤ 0 by omega) (pAll1 (show (1 + (1 * ρ 4 + ((-1) * ((wSk (wN h) (wB h) ((wSk (wN h) (wB h) (p)) + 1)) : Int) + 0)) : Int) ≤ 0 by omega) (pAll1 (show (0 + ((-1) * ρ 1 + (1 * ((wSk (wN h) (wB h) ((wSk (wN h) (wB h) (p)) + 1)) : Int) + 0)) : Int) ≤ 0 by omega) (pAll1 (show (1 + (1 * ρ 3 + (1 * ((wSk (wN h) (wB h) ((wSk (wN h) (wB h) (p)) + 1)) : Int) + 0)) : Int) ≤ 0 by omega) (pAll1 (show ((-1) + ((-1) * ρ 3 + ((-1) * ((wSk (wN h) (wB h) ((wSk (wN h) (wB h) (p)) + 1)) : Int) + 0)) : Int) ≤ 0 by omega) (pAll0))))))))))
        · exact pAll1 (pgS ho hh ((wSk (wN h) (wB h) (p)) + 1) (by omega) (show (1 + (1 * ρ 4 + 0) : Int) = _ by omega) (show (0 + (1 * ((wSk (wN h) (wB h) ((wSk (wN h) (wB h) (p)) + 1)) : Int) + 0) : Int) = _ by omega)) (pAll1 (pgC ho hh ((wSk (wN h) (wB h) ((wSk (wN h) (wB h) (p)) + 1))) (by omega) (show (0 + (1 * ((wSk (wN h) (wB h) ((wSk (wN h) (wB h) (p)) + 1)) : Int) + 0) : Int) = _ by omega) (show (0 + (1 * (wCh (wN h) (wB h) ((wSk (wN h) (wB h) ((wSk (wN h) (wB h) (p)) + 1)))) + 0) : Int) = _ by omega)) (pAll0))
  · rw [if_neg h1] at er
    unfold wFl at er
    have hu : (wCh (wN h) (wB h) ((wSk (wN h) (wB h) (p)))) ≤ 120 ∨ 122 ≤ (wCh (wN h) (wB h) ((wSk (wN h) (wB h) (p)))) := by omega
    rcases hu with hu | hu
    · refine ⟨rCLc_0, List.mem_of_getElem? (i := 0) rfl, pEnd [ρ 0, ρ 1, ρ 2, ρ 3, ρ 4, ρ 5] rfl ?_ ?_ ?_ ?_⟩
      · exact hL
      · intro k b hk
        cases hk
      · exact pAll1 (show (0 + (1 * ρ 2 + ((-1) * ρ 4 + 0)) : Int) ≤ 0 by omega) (pAll1 (show (0 + ((-1) * ρ 1 + (1 * ρ 4 + 0)) : Int) ≤ 0 by omega) (pAll1 (show ((-120) + (1 * ρ 5 + 0) : Int) ≤ 0 by omega) (pAll1 (show (1 + (1 * ρ 3 + (1 * ρ 4 + 0)) : Int) ≤ 0 by omega) (pAll1 (show ((-1) + ((-1) * ρ 3 + ((-1) * ρ 4 + 0)) : Int) ≤ 0 by omega) (pAll0)))))
      · exact pAll0
    · refine ⟨rCLc_1, List.mem_of_getElem? (i := 1) rfl, pEnd [ρ 0, ρ 1, ρ 2, ρ 3, ρ 4, ρ 5] rfl ?_ ?_ ?_ ?_⟩
      · exact hL
      · intro k b hk
        cases hk
      · exact pAll1 (show (0 + (1 * ρ 2 + ((-1) * ρ 4 + 0)) : Int) ≤ 0 by omega) (pAll1 (show (0 + ((-1) * ρ 1 + (1 * ρ 4 + 0)) : Int) ≤ 0 by omega) (pAll1 (show (122 + ((-1) * ρ 5 + 0) : Int) ≤ 0 by omega) (pAll1 (show (1 + (1 * ρ 3 + (1 * ρ 4 + 0)) : Int) ≤ 0 by omega) (pAll1 (show ((-1) + ((-1) * ρ 3 + ((-1) * ρ 4 + 0)) : Int) ≤ 0 by omega) (pAll0)))))
      · exact pAll0
noncomputable def rC2c_0 : sX := (none, [(505, (1, [(4, 1)]), (0, [(3, 1)]))], [], [(0, [(2, 1), (4, (-1))]), (0, [(1, (-1)), (4, 1)]), (1, [(1, (-1)), (4, 1)]), (1, [(5, (-1))]), ((-63), [(5, 1)]), (63, [(5, (-1))])], [])
noncomputable def rC2c_1 : sX := (none, [], [], [(0, [(2, 1), (4, (-1))]), (0, [(1, (-1)), (4, 1)]), ((-62), [(5, 1)]), (1, [(3, 1), (4, 1)]), ((-1), [(3, (-1)), (4, (-1))])], [])
noncomputable def rC2c_2 : sX := (none, [], [], [(0, [(2, 1), (4, (-1))]), (0, [(1, (-1)), (4, 1)]), (64, [(5, (-1))]), (1, [(3, 1), (4, 1)]), ((-1), [(3, (-1)), (4, (-1))])], [])
noncomputable def rC2c : sQ := (0, ([], [(2, 1000, (0, [])), (2, 41, (1, [])), (2, 41, (2, [])), (2, 520, (0, [(2, 1)])), (2, 500, (0, [(2, 1)])), (2, 501, (0, [(4, 1)]))], [(1, 1), (0, 240), (0, 240), ((-241), 240), (0, 240), (0, 255)], [(0, [(1, (-1)), (2, 1)])], [(0, 0), (1, 1), (2, 2), (3, 3), (4, 4), (5, 5)], (0, [])), [rC2c_0, rC2c_1, rC2c_2], [], 0)
theorem rC2c_ok : pRul pReg pG pgv rC2c := by
  intro loc h ρ ρ0 hG hM
  have hM : sMt pReg pgv ρ ρ0 (sAs rC2c.2.1) loc [] h := hM
  have q0 : ρ0 1 = ρ 0 := (hM.2.2.2.2.2 (1, sY 0) (List.mem_of_getElem? (i := 1) rfl)).trans (sY_v ρ 0)
  have q1 : ρ0 2 = ρ 1 := (hM.2.2.2.2.2 (2, sY 1) (List.mem_of_getElem? (i := 2) rfl)).trans (sY_v ρ 1)
  have q2 : ρ0 3 = ρ 2 := (hM.2.2.2.2.2 (3, sY 2) (List.mem_of_getElem? (i := 3) rfl)).trans (sY_v ρ 2)
  have q3 : ρ0 4 = ρ 3 := (hM.2.2.2.2.2 (4, sY 3) (List.mem_of_getElem? (i := 4) rfl)).trans (sY_v ρ 3)
  have q4 : ρ0 5 = ρ 4 := (hM.2.2.2.2.2 (5, sY 4) (List.mem_of_getElem? (i := 5) rfl)).trans (sY_v ρ 4)
  have q5 : ρ0 6 = ρ 5 := (hM.2.2.2.2.2 (6, sY 5) (List.mem_of_getElem? (i := 6) rfl)).trans (sY_v ρ 5)
  have hL : ∀ j, j < 6 → pL [ρ 0, ρ 1, ρ 2, ρ 3, ρ 4, ρ 5] j = ρ0 (j + 1) := by
    intro j hj
    match j, hj with
    | 0, _ => exact q0.symm
    | 1, _ => exact q1.symm
    | 2, _ => exact q2.symm
    | 3, _ => exact q3.symm
    | 4, _ => exact q4.symm
    | 5, _ => exact q5.symm
    | k + 6, hj => omega
  have b0 : (1 : Int) ≤ ρ 0 ∧ ρ 0 ≤ 1 := hM.2.2.2.1 0 (1, 1) rfl
  have b1 : (0 : Int) ≤ ρ 1 ∧ ρ 1 ≤ 240 := hM.2.2.2.1 1 (0, 240) rfl
  have b2 : (0 : Int) ≤ ρ 2 ∧ ρ 2 ≤ 240 := hM.2.2.2.1 2 (0, 240) rfl
  have b3 : ((-241) : Int) ≤ ρ 3 ∧ ρ 3 ≤ 240 := hM.2.2.2.1 3 ((-241), 240) rfl
  have b4 : (0 : Int) ≤ ρ 4 ∧ ρ 4 ≤ 240 := hM.2.2.2.1 4 (0, 240) rfl
  have b5 : (0 : Int) ≤ ρ 5 ∧ ρ 5 ≤ 255 := hM.2.2.2.1 5 (0, 255) rfl
  have c0 : (0 + ((-1) * ρ 1 + (1 * ρ 2 + 0)) : Int) ≤ 0 := hM.2.2.2.2.1 (0, [(1, (-1)), (2, 1)]) (List.mem_of_getElem? (i := 0) rfl)
  obtain ⟨ho, hs, hh⟩ := pTold0 hM 0 (0, []) rfl b0.1
  have hn := ho.1
  have en : ρ 1 = (wN h : Int) := (pPl hM 1 41 (1, []) rfl (by omega) 353 1 (by decide +kernel) rfl).symm.trans hs.1
  obtain ⟨p, ep⟩ : ∃ p : Nat, ρ 2 = (p : Int) := ⟨(ρ 2).toNat, by omega⟩
  have hp : p ≤ wN h := by omega
  obtain ⟨s1, s2⟩ := wSk_le (B := wB h) hp
  have er : ρ 3 = (wG (wN h) (wB h) 18 (0) (p)) := pfG hM ho hh 3 520 18 (0, [(2, 1)]) rfl rfl rfl (d := 0) (p := p) (by omega) (by omega) (by show (0 + (1 * ρ 2 + 0) : Int) = _; omega)
  have eq : ρ 4 = ((wSk (wN h) (wB h) (p)) : Int) := pfS hM ho hh 4 (0, [(2, 1)]) rfl (p := p) (by omega) (by show (0 + (1 * ρ 2 + 0) : Int) = _; omega)
  have ec : ρ 5 = (wCh (wN h) (wB h) ((wSk (wN h) (wB h) (p)))) := pfC hM ho hh 5 (0, [(4, 1)]) rfl (p := (wSk (wN h) (wB h) (p))) (by omega) (by show (0 + (1 * ρ 4 + 0) : Int) = _; omega)
  have cbc := wCh_bd ho ((wSk (wN h) (wB h) (p)))
  have clc : (wCh (wN h) (wB h) ((wSk (wN h) (wB h) (p)))) ≠ 0 → (wSk (wN h) (wB h) (p)) < wN h := wCh_lt
  rw [wE_C2 hp] at er
  by_cases h1 : (wCh (wN h) (wB h) ((wSk (wN h) (wB h) (p)))) = 63
  · rw [if_pos h1] at er
    have hq := clc (by omega)
    refine ⟨rC2c_0, List.mem_of_getElem? (i := 0) rfl, pEnd [ρ 0, ρ 1, ρ 2, ρ 3, ρ 4, ρ 5] rfl ?_ ?_ ?_ ?_⟩
    · exact hL
    · intro k b hk
      cases hk
    · exact pAll1 (show (0 + (1 * ρ 2 + ((-1) * ρ 4 + 0)) : Int) ≤ 0 by omega) (pAll1 (show (0 + ((-1) * ρ 1 + (1 * ρ 4 + 0)) : Int) ≤ 0 by omega) (pAll1 (show (1 + ((-1) * ρ 1 + (1 * ρ 4 + 0)) : Int) ≤ 0 by omega) (pAll1 (show (1 + ((-1) * ρ 5 + 0) : Int) ≤ 0 by omega) (pAll1 (show ((-63) + (1 * ρ 5 + 0) : Int) ≤ 0 by omega) (pAll1 (show (63 + ((-1) * ρ 5 + 0) : Int) ≤ 0 by omega) (pAll0))))))
    · exact pAll1 (pgG ho hh 505 3 rfl rfl (0) ((wSk (wN h) (wB h) (p)) + 1) (by omega) (by omega) (show (1 + (1 * ρ 4 + 0) : Int) = _ by omega) (show (0 + (1 * ρ 3 + 0) : Int) = _ by omega)) (pAll0)
  · rw [if_neg h1] at er
    unfold wFl at er
    have hu : (wCh (wN h) (wB h) ((wSk (wN h) (wB h) (p)))) ≤ 62 ∨ 64 ≤ (wCh (wN h) (wB h) ((wSk (wN h) (wB h) (p)))) := by omega
    rcases hu with hu | hu
    · refine ⟨rC2c_1, List.mem_of_getElem? (i := 1) rfl, pEnd [ρ 0, ρ 1, ρ 2, ρ 3, ρ 4, ρ 5] rfl ?_ ?_ ?_ ?_⟩
      · exact hL
      · intro k b hk
        cases hk
      · exact pAll1 (show (0 + (1 * ρ 2 + ((-1) * ρ 4 + 0)) : Int) ≤ 0 by omega) (pAll1 (show (0 + ((-1) * ρ 1 + (1 * ρ 4 + 0)) : Int) ≤ 0 by omega) (pAll1 (show ((-62) + (1 * ρ 5 + 0) : Int) ≤ 0 by omega) (pAll1 (show (1 + (1 * ρ 3 + (1 * ρ 4 + 0)) : Int) ≤ 0 by omega) (pAll1 (show ((-1) + ((-1) * ρ 3 + ((-1) * ρ 4 + 0)) : Int) ≤ 0 by omega) (pAll0)))))
      · exact pAll0
    · refine ⟨rC2c_2, List.mem_of_getElem? (i := 2) rfl, pEnd [ρ 0, ρ 1, ρ 2, ρ 3, ρ 4, ρ 5] rfl ?_ ?_ ?_ ?_⟩
      · exact hL
      · intro k b hk
        cases hk
      · exact pAll1 (show (0 + (1 * ρ 2 + ((-1) * ρ 4 + 0)) : Int) ≤ 0 by omega) (pAll1 (show (0 + ((-1) * ρ 1 + (1 * ρ 4 + 0)) : Int) ≤ 0 by omega) (pAll1 (show (64 + ((-1) * ρ 5 + 0) : Int) ≤ 0 by omega) (pAll1 (show (1 + (1 * ρ 3 + (1 * ρ 4 + 0)) : Int) ≤ 0 by omega) (pAll1 (show ((-1) + ((-1) * ρ 3 + ((-1) * ρ 4 + 0)) : Int) ≤ 0 by omega) (pAll0)))))
      · exact pAll0
noncomputable def rC1c_0 : sX := (none, [(512, (0, [(4, 1)]), (0, [(6, 1)]))], [((-241), (-1))], [(0, [(2, 1), (4, (-1))]), (0, [(1, (-1)), (4, 1)]), (1, [(1, (-1)), (4, 1)]), (1, [(5, (-1))]), ((-33), [(5, 1)]), (33, [(5, (-1))]), (0, [(3, 1), (6, (-1))]), (0, [(3, (-1)), (6, 1)])], [])
noncomputable def rC1c_1 : sX := (none, [(512, (0, [(4, 1)]), (0, [(6, 1)])), (520, (0, [(6, 1)]), (0, [(3, 1)]))], [(0, 240)], [(0, [(2, 1), (4, (-1))]), (0, [(1, (-1)), (4, 1)]), (1, [(1, (-1)), (4, 1)]), (1, [(5, (-1))]), ((-33), [(5, 1)]), (33, [(5, (-1))]), (1, [(4, 1), (6, (-1))]), (0, [(1, (-1)), (6, 1)])], [])
noncomputable def rC1c_2 : sX := (none, [(512, (0, [(4, 1)]), (0, [(6, 1)]))], [((-241), (-1))], [(0, [(2, 1), (4, (-1))]), (0, [(1, (-1)), (4, 1)]), (1, [(1, (-1)), (4, 1)]), (1, [(5, (-1))]), ((-40), [(5, 1)]), (40, [(5, (-1))]), (0, [(3, 1), (6, (-1))]), (0, [(3, (-1)), (6, 1)])], [])
noncomputable def rC1c_3 : sX := (none, [(512, (0, [(4, 1)]), (0, [(6, 1)])), (520, (0, [(6, 1)]), (0, [(3, 1)]))], [(0, 240)], [(0, [(2, 1), (4, (-1))]), (0, [(1, (-1)), (4, 1)]), (1, [(1, (-1)), (4, 1)]), (1, [(5, (-1))]), ((-40), [(5, 1)]), (40, [(5, (-1))]), (1, [(4, 1), (6, (-1))]), (0, [(1, (-1)), (6, 1)])], [])
noncomputable def rC1c_4 : sX := (none, [(505, (0, [(4, 1)]), (0, [(6, 1)]))], [((-241), (-1))], [(0, [(2, 1), (4, (-1))]), (0, [(1, (-1)), (4, 1)]), ((-32), [(5, 1)]), (0, [(3, 1), (6, (-1))]), (0, [(3, (-1)), (6, 1)])], [])
noncomputable def rC1c_5 : sX := (none, [(505, (0, [(4, 1)]), (0, [(6, 1)])), (500, (0, [(6, 1)]), (0, [(7, 1)])), (501, (0, [(7, 1)]), (0, [(8, 1)]))], [(0, 240), (0, 240), (0, 59)], [(0, [(2, 1), (4, (-1))]), (0, [(1, (-1)), (4, 1)]), ((-32), [(5, 1)]), (1, [(4, 1), (6, (-1))]), (0, [(6, 1), (7, (-1))]), (0, [(1, (-1)), (7, 1)]), (0, [(3, 1), (7, (-1))]), (0, [(3, (-1)), (7, 1)])], [])
noncomputable def rC1c_6 : sX := (none, [(505, (0, [(4, 1)]), (0, [(6, 1)])), (500, (0, [(6, 1)]), (0, [(7, 1)])), (501, (0, [(7, 1)]), (0, [(8, 1)]))], [(0, 240), (0, 240), (63, 255)], [(0, [(2, 1), (4, (-1))]), (0, [(1, (-1)), (4, 1)]), ((-32), [(5, 1)]), (1, [(4, 1), (6, (-1))]), (0, [(6, 1), (7, (-1))]), (0, [(1, (-1)), (7, 1)]), (0, [(3, 1), (7, (-1))]), (0, [(3, (-1)), (7, 1)])], [])
noncomputable def rC1c_7 : sX := (none, [(505, (0, [(4, 1)]), (0, [(6, 1)])), (500, (0, [(6, 1)]), (0, [(7, 1)])), (501, (0, [(7, 1)]), (0, [(8, 1)])), (518, (0, [(7, 1)]), (0, [(9, 1)]))], [(0, 240), (0, 240), (60, 62), ((-241), (-1))], [(0, [(2, 1), (4, (-1))]), (0, [(1, (-1)), (4, 1)]), ((-32), [(5, 1)]), (1, [(4, 1), (6, (-1))]), (0, [(6, 1), (7, (-1))]), (0, [(1, (-1)), (7, 1)]), (1, [(1, (-1)), (7, 1)]), (0, [(3, 1), (9, (-1))]), (0, [(3, (-1)), (9, 1)])], [])
noncomputable def rC1c_8 : sX := (none, [(505, (0, [(4, 1)]), (0, [(6, 1)])), (500, (0, [(6, 1)]), (0, [(7, 1)])), (501, (0, [(7, 1)]), (0, [(8, 1)])), (518, (0, [(7, 1)]), (0, [(9, 1)])), (520, (0, [(9, 1)]), (0, [(3, 1)]))], [(0, 240), (0, 240), (60, 62), (0, 240)], [(0, [(2, 1), (4, (-1))]), (0, [(1, (-1)), (4, 1)]), ((-32), [(5, 1)]), (1, [(4, 1), (6, (-1))]), (0, [(6, 1), (7, (-1))]), (0, [(1, (-1)), (7, 1)]), (1, [(1, (-1)), (7, 1)]), (1, [(7, 1), (9, (-1))]), (0, [(1, (-1)), (9, 1)])], [])
noncomputable def rC1c_9 : sX := (none, [(505, (0, [(4, 1)]), (0, [(6, 1)]))], [((-241), (-1))], [(0, [(2, 1), (4, (-1))]), (0, [(1, (-1)), (4, 1)]), (34, [(5, (-1))]), ((-39), [(5, 1)]), (0, [(3, 1), (6, (-1))]), (0, [(3, (-1)), (6, 1)])], [])
noncomputable def rC1c_10 : sX := (none, [(505, (0, [(4, 1)]), (0, [(6, 1)])), (500, (0, [(6, 1)]), (0, [(7, 1)])), (501, (0, [(7, 1)]), (0, [(8, 1)]))], [(0, 240), (0, 240), (0, 59)], [(0, [(2, 1), (4, (-1))]), (0, [(1, (-1)), (4, 1)]), (34, [(5, (-1))]), ((-39), [(5, 1)]), (1, [(4, 1), (6, (-1))]), (0, [(6, 1), (7, (-1))]), (0, [(1, (-1)), (7, 1)]), (0, [(3, 1), (7, (-1))]), (0, [(3, (-1)), (7, 1)])], [])
noncomputable def rC1c_11 : sX := (none, [(505, (0, [(4, 1)]), (0, [(6, 1)])), (500, (0, [(6, 1)]), (0, [(7, 1)])), (501, (0, [(7, 1)]), (0, [(8, 1)]))], [(0, 240), (0, 240), (63, 255)], [(0, [(2, 1), (4, (-1))]), (0, [(1, (-1)), (4, 1)]), (34, [(5, (-1))]), ((-39), [(5, 1)]), (1, [(4, 1), (6, (-1))]), (0, [(6, 1), (7, (-1))]), (0, [(1, (-1)), (7, 1)]), (0, [(3, 1), (7, (-1))]), (0, [(3, (-1)), (7, 1)])], [])
noncomputable def rC1c_12 : sX := (none, [(505, (0, [(4, 1)]), (0, [(6, 1)])), (500, (0, [(6, 1)]), (0, [(7, 1)])), (501, (0, [(7, 1)]), (0, [(8, 1)])), (518, (0, [(7, 1)]), (0, [(9, 1)]))], [(0, 240), (0, 240), (60, 62), ((-241), (-1))], [(0, [(2, 1), (4, (-1))]), (0, [(1, (-1)), (4, 1)]), (34, [(5, (-1))]), ((-39), [(5, 1)]), (1, [(4, 1), (6, (-1))]), (0, [(6, 1), (7, (-1))]), (0, [(1, (-1)), (7, 1)]), (1, [(1, (-1)), (7, 1)]), (0, [(3, 1), (9, (-1))]), (0, [(3, (-1)), (9, 1)])], [])
noncomputable def rC1c_13 : sX := (none, [(505, (0, [(4, 1)]), (0, [(6, 1)])), (500, (0, [(6, 1)]), (0, [(7, 1)])), (501, (0, [(7, 1)]), (0, [(8, 1)])), (518, (0, [(7, 1)]), (0, [(9, 1)])), (520, (0, [(9, 1)]), (0, [(3, 1)]))], [(0, 240), (0, 240), (60, 62), (0, 240)], [(0, [(2, 1), (4, (-1))]), (0, [(1, (-1)), (4, 1)]), (34, [(5, (-1))]), ((-39), [(5, 1)]), (1, [(4, 1), (6, (-1))]), (0, [(6, 1), (7, (-1))]), (0, [(1, (-1)), (7, 1)]), (1, [(1, (-1)), (7, 1)]), (1, [(7, 1), (9, (-1))]), (0, [(1, (-1)), (9, 1)])], [])
noncomputable def rC1c_14 : sX := (none, [(505, (0, [(4, 1)]), (0, [(6, 1)]))], [((-241), (-1))], [(0, [(2, 1), (4, (-1))]), (0, [(1, (-1)), (4, 1)]), (41, [(5, (-1))]), (0, [(3, 1), (6, (-1))]), (0, [(3, (-1)), (6, 1)])], [])
noncomputable def rC1c_15 : sX := (none, [(505, (0, [(4, 1)]), (0, [(6, 1)])), (500, (0, [(6, 1)]), (0, [(7, 1)])), (501, (0, [(7, 1)]), (0, [(8, 1)]))], [(0, 240), (0, 240), (0, 59)], [(0, [(2, 1), (4, (-1))]), (0, [(1, (-1)), (4, 1)]), (41, [(5, (-1))]), (1, [(4, 1), (6, (-1))]), (0, [(6, 1), (7, (-1))]), (0, [(1, (-1)), (7, 1)]), (0, [(3, 1), (7, (-1))]), (0, [(3, (-1)), (7, 1)])], [])
noncomputable def rC1c_16 : sX := (none, [(505, (0, [(4, 1)]), (0, [(6, 1)])), (500, (0, [(6, 1)]), (0, [(7, 1)])), (501, (0, [(7, 1)]), (0, [(8, 1)]))], [(0, 240), (0, 240), (63, 255)], [(0, [(2, 1), (4, (-1))]), (0, [(1, (-1)), (4, 1)]), (41, [(5, (-1))]), (1, [(4, 1), (6, (-1))]), (0, [(6, 1), (7, (-1))]), (0, [(1, (-1)), (7, 1)]), (0, [(3, 1), (7, (-1))]), (0, [(3, (-1)), (7, 1)])], [])
noncomputable def rC1c_17 : sX := (none, [(505, (0, [(4, 1)]), (0, [(6, 1)])), (500, (0, [(6, 1)]), (0, [(7, 1)])), (501, (0, [(7, 1)]), (0, [(8, 1)])), (518, (0, [(7, 1)]), (0, [(9, 1)]))], [(0, 240), (0, 240), (60, 62), ((-241), (-1))], [(0, [(2, 1), (4, (-1))]), (0, [(1, (-1)), (4, 1)]), (41, [(5, (-1))]), (1, [(4, 1), (6, (-1))]), (0, [(6, 1), (7, (-1))]), (0, [(1, (-1)), (7, 1)]), (1, [(1, (-1)), (7, 1)]), (0, [(3, 1), (9, (-1))]), (0, [(3, (-1)), (9, 1)])], [])
noncomputable def rC1c_18 : sX := (none, [(505, (0, [(4, 1)]), (0, [(6, 1)])), (500, (0, [(6, 1)]), (0, [(7, 1)])), (501, (0, [(7, 1)]), (0, [(8, 1)])), (518, (0, [(7, 1)]), (0, [(9, 1)])), (520, (0, [(9, 1)]), (0, [(3, 1)]))], [(0, 240), (0, 240), (60, 62), (0, 240)], [(0, [(2, 1), (4, (-1))]), (0, [(1, (-1)), (4, 1)]), (41, [(5, (-1))]), (1, [(4, 1), (6, (-1))]), (0, [(6, 1), (7, (-1))]), (0, [(1, (-1)), (7, 1)]), (1, [(1, (-1)), (7, 1)]), (1, [(7, 1), (9, (-1))]), (0, [(1, (-1)), (9, 1)])], [])
noncomputable def rC1c : sQ := (0, ([], [(2, 1000, (0, [])), (2, 41, (1, [])), (2, 41, (2, [])), (2, 519, (0, [(2, 1)])), (2, 500, (0, [(2, 1)])), (2, 501, (0, [(4, 1)]))], [(1, 1), (0, 240), (0, 240), ((-241), 240), (0, 240), (0, 255)], [(0, [(1, (-1)), (2, 1)])], [(0, 0), (1, 1), (2, 2), (3, 3), (4, 4), (5, 5)], (0, [])), [rC1c_0, rC1c_1, rC1c_2, rC1c_3, rC1c_4, rC1c_5, rC1c_6, rC1c_7, rC1c_8, rC1c_9, rC1c_10, rC1c_11, rC1c_12, rC1c_13, rC1c_14, rC1c_15, rC1c_16, rC1c_17, rC1c_18], [], 0)
theorem rC1c_ok : pRul pReg pG pgv rC1c := by
  intro loc h ρ ρ0 hG hM
  have hM : sMt pReg pgv ρ ρ0 (sAs rC1c.2.1) loc [] h := hM
  have q0 : ρ0 1 = ρ 0 := (hM.2.2.2.2.2 (1, sY 0) (List.mem_of_getElem? (i := 1) rfl)).trans (sY_v ρ 0)
  have q1 : ρ0 2 = ρ 1 := (hM.2.2.2.2.2 (2, sY 1) (List.mem_of_getElem? (i := 2) rfl)).trans (sY_v ρ 1)
  have q2 : ρ0 3 = ρ 2 := (hM.2.2.2.2.2 (3, sY 2) (List.mem_of_getElem? (i := 3) rfl)).trans (sY_v ρ 2)
  have q3 : ρ0 4 = ρ 3 := (hM.2.2.2.2.2 (4, sY 3) (List.mem_of_getElem? (i := 4) rfl)).trans (sY_v ρ 3)
  have q4 : ρ0 5 = ρ 4 := (hM.2.2.2.2.2 (5, sY 4) (List.mem_of_getElem? (i := 5) rfl)).trans (sY_v ρ 4)
  have q5 : ρ0 6 = ρ 5 := (hM.2.2.2.2.2 (6, sY 5) (List.mem_of_getElem? (i := 6) rfl)).trans (sY_v ρ 5)
  have hL : ∀ j, j < 6 → pL [ρ 0, ρ 1, ρ 2, ρ 3, ρ 4, ρ 5] j = ρ0 (j + 1) := by
    intro j hj
    match j, hj with
    | 0, _ => exact q0.symm
    | 1, _ => exact q1.symm
    | 2, _ => exact q2.symm
    | 3, _ => exact q3.symm
    | 4, _ => exact q4.symm
    | 5, _ => exact q5.symm
    | k + 6, hj => omega
  have b0 : (1 : Int) ≤ ρ 0 ∧ ρ 0 ≤ 1 := hM.2.2.2.1 0 (1, 1) rfl
  have b1 : (0 : Int) ≤ ρ 1 ∧ ρ 1 ≤ 240 := hM.2.2.2.1 1 (0, 240) rfl
  have b2 : (0 : Int) ≤ ρ 2 ∧ ρ 2 ≤ 240 := hM.2.2.2.1 2 (0, 240) rfl
  have b3 : ((-241) : Int) ≤ ρ 3 ∧ ρ 3 ≤ 240 := hM.2.2.2.1 3 ((-241), 240) rfl
  have b4 : (0 : Int) ≤ ρ 4 ∧ ρ 4 ≤ 240 := hM.2.2.2.1 4 (0, 240) rfl
  have b5 : (0 : Int) ≤ ρ 5 ∧ ρ 5 ≤ 255 := hM.2.2.2.1 5 (0, 255) rfl
  have c0 : (0 + ((-1) * ρ 1 + (1 * ρ 2 + 0)) : Int) ≤ 0 := hM.2.2.2.2.1 (0, [(1, (-1)), (2, 1)]) (List.mem_of_getElem? (i := 0) rfl)
  obtain ⟨ho, hs, hh⟩ := pTold0 hM 0 (0, []) rfl b0.1
  have hn := ho.1
  have en : ρ 1 = (wN h : Int) := (pPl hM 1 41 (1, []) rfl (by omega) 353 1 (by decide +kernel) rfl).symm.trans hs.1
  obtain ⟨p, ep⟩ : ∃ p : Nat, ρ 2 = (p : Int) := ⟨(ρ 2).toNat, by omega⟩
  have hp : p ≤ wN h := by omega
  obtain ⟨s1, s2⟩ := wSk_le (B := wB h) hp
  have er : ρ 3 = (wG (wN h) (wB h) 17 (0) (p)) := pfG hM ho hh 3 519 17 (0, [(2, 1)]) rfl rfl rfl (d := 0) (p := p) (by omega) (by omega) (by show (0 + (1 * ρ 2 + 0) : Int) = _; omega)
  have eq : ρ 4 = ((wSk (wN h) (wB h) (p)) : Int) := pfS hM ho hh 4 (0, [(2, 1)]) rfl (p := p) (by omega) (by show (0 + (1 * ρ 2 + 0) : Int) = _; omega)
  have ec : ρ 5 = (wCh (wN h) (wB h) ((wSk (wN h) (wB h) (p)))) := pfC hM ho hh 5 (0, [(4, 1)]) rfl (p := (wSk (wN h) (wB h) (p))) (by omega) (by show (0 + (1 * ρ 4 + 0) : Int) = _; omega)
  have cbc := wCh_bd ho ((wSk (wN h) (wB h) (p)))
  have clc : (wCh (wN h) (wB h) ((wSk (wN h) (wB h) (p)))) ≠ 0 → (wSk (wN h) (wB h) (p)) < wN h := wCh_lt
  rw [wE_C1 hp] at er
  by_cases h1 : (wCh (wN h) (wB h) ((wSk (wN h) (wB h) (p)))) = 33 ∨ (wCh (wN h) (wB h) ((wSk (wN h) (wB h) (p)))) = 40
  · rw [if_pos h1] at er
    have hq := clc (by omega)
    have g := wG_gd (n := wN h) (B := wB h) 10 0 (wSk (wN h) (wB h) (p)) rfl s2
    rcases wBd_el er g with ⟨a1, a2⟩ | ⟨s, a1, a2, a3, a4⟩
    · have := g.1 a1
      rcases h1 with h1 | h1
      · refine ⟨rC1c_0, List.mem_of_getElem? (i := 0) rfl, pEnd [ρ 0, ρ 1, ρ 2, ρ 3, ρ 4, ρ 5, (wG (wN h) (wB h) 10 (0) ((wSk (wN h) (wB h) (p))))] rfl ?_ ?_ ?_ ?_⟩
        · intro j hj
          match j, hj with
          | 0, _ => exact q0.symm
          | 1, _ => exact q1.symm
          | 2, _ => exact q2.symm
          | 3, _ => exact q3.symm
          | 4, _ => exact q4.symm
          | 5, _ => exact q5.symm
          | k + 6, hj => exact absurd hj (by show ¬ (k + 6 < 6); omega)
        · intro k b hk
          match k, hk with
          | 0, hk => cases hk; exact (show ((-241) : Int) ≤ (wG (wN h) (wB h) 10 (0) ((wSk (wN h) (wB h) (p)))) ∧ (wG (wN h) (wB h) 10 (0) ((wSk (wN h) (wB h) (p)))) ≤ ((-1) : Int) by omega)
          | k + 1, hk => cases hk
        · exact pAll1 (show (0 + (1 * ρ 2 + ((-1) * ρ 4 + 0)) : Int) ≤ 0 by omega) (pAll1 (show (0 + ((-1) * ρ 1 + (1 * ρ 4 + 0)) : Int) ≤ 0 by omega) (pAll1 (show (1 + ((-1) * ρ 1 + (1 * ρ 4 + 0)) : Int) ≤ 0 by omega) (pAll1 (show (1 + ((-1) * ρ 5 + 0) : Int) ≤ 0 by omega) (pAll1 (show ((-33) + (1 * ρ 5 + 0) : Int) ≤ 0 by omega) (pAll1 (show (33 + ((-1) * ρ 5 + 0) : Int) ≤ 0 by omega) (pAll1 (show (0 + (1 * ρ 3 + ((-1) * (wG (wN h) (wB h) 10 (0) ((wSk (wN h) (wB h) (p)))) + 0)) : Int) ≤ 0 by omega) (pAll1 (show (0 + ((-1) * ρ 3 + (1 * (wG (wN h) (wB h) 10 (0) ((wSk (wN h) (wB h) (p)))) + 0)) : Int) ≤ 0 by omega) (pAll0))))))))
        · exact pAll1 (pgG ho hh 512 10 rfl rfl (0) ((wSk (wN h) (wB h) (p))) (by omega) (by omega) (show (0 + (1 * ρ 4 + 0) : Int) = _ by omega) (show (0 + (1 * (wG (wN h) (wB h) 10 (0) ((wSk (wN h) (wB h) (p)))) + 0) : Int) = _ by omega)) (pAll0)
      · refine ⟨rC1c_2, List.mem_of_getElem? (i := 2) rfl, pEnd [ρ 0, ρ 1, ρ 2, ρ 3, ρ 4, ρ 5, (wG (wN h) (wB h) 10 (0) ((wSk (wN h) (wB h) (p))))] rfl ?_ ?_ ?_ ?_⟩
        · intro j hj
          match j, hj with
          | 0, _ => exact q0.symm
          | 1, _ => exact q1.symm
          | 2, _ => exact q2.symm
          | 3, _ => exact q3.symm
          | 4, _ => exact q4.symm
          | 5, _ => exact q5.symm
          | k + 6, hj => exact absurd hj (by show ¬ (k + 6 < 6); omega)
        · intro k b hk
          match k, hk with
          | 0, hk => cases hk; exact (show ((-241) : Int) ≤ (wG (wN h) (wB h) 10 (0) ((wSk (wN h) (wB h) (p)))) ∧ (wG (wN h) (wB h) 10 (0) ((wSk (wN h) (wB h) (p)))) ≤ ((-1) : Int) by omega)
          | k + 1, hk => cases hk
        · exact pAll1 (show (0 + (1 * ρ 2 + ((-1) * ρ 4 + 0)) : Int) ≤ 0 by omega) (pAll1 (show (0 + ((-1) * ρ 1 + (1 * ρ 4 + 0)) : Int) ≤ 0 by omega) (pAll1 (show (1 + ((-1) * ρ 1 + (1 * ρ 4 + 0)) : Int) ≤ 0 by omega) (pAll1 (show (1 + ((-1) * ρ 5 + 0) : Int) ≤ 0 by omega) (pAll1 (show ((-40) + (1 * ρ 5 + 0) : Int) ≤ 0 by omega) (pAll1 (show (40 + ((-1) * ρ 5 + 0) : Int) ≤ 0 by omega) (pAll1 (show (0 + (1 * ρ 3 + ((-1) * (wG (wN h) (wB h) 10 (0) ((wSk (wN h) (wB h) (p)))) + 0)) : Int) ≤ 0 by omega) (pAll1 (show (0 + ((-1) * ρ 3 + (1 * (wG (wN h) (wB h) 10 (0) ((wSk (wN h) (wB h) (p)))) + 0)) : Int) ≤ 0 by omega) (pAll0))))))))
        · exact pAll1 (pgG ho hh 512 10 rfl rfl (0) ((wSk (wN h) (wB h) (p))) (by omega) (by omega) (show (0 + (1 * ρ 4 + 0) : Int) = _ by omega) (show (0 + (1 * (wG (wN h) (wB h) 10 (0) ((wSk (wN h) (wB h) (p)))) + 0) : Int) = _ by omega)) (pAll0)
    · have a2 : (wSk (wN h) (wB h) (p)) + 1 ≤ s := a2
      rcases h1 with h1 | h1
      · refine ⟨rC1c_1, List.mem_of_getElem? (i := 1) rfl, pEnd [ρ 0, ρ 1, ρ 2, ρ 3, ρ 4, ρ 5, (s : Int)] rfl ?_ ?_ ?_ ?_⟩
        · intro j hj
          match j, hj with
          | 0, _ => exact q0.symm
          | 1, _ => exact q1.symm
          | 2, _ => exact q2.symm
          | 3, _ => exact q3.symm
          | 4, _ => exact q4.symm
          | 5, _ => exact q5.symm
          | k + 6, hj => exact absurd hj (by show ¬ (k + 6 < 6); omega)
        · intro k b hk
          match k, hk with
          | 0, hk => cases hk; exact (show (0 : Int) ≤ (s : Int) ∧ (s : Int) ≤ (240 : Int) by omega)
          | k + 1, hk => cases hk
        · exact pAll1 (show (0 + (1 * ρ 2 + ((-1) * ρ 4 + 0)) : Int) ≤ 0 by omega) (pAll1 (show (0 + ((-1) * ρ 1 + (1 * ρ 4 + 0)) : Int) ≤ 0 by omega) (pAll1 (show (1 + ((-1) * ρ 1 + (1 * ρ 4 + 0)) : Int) ≤ 0 by omega) (pAll1 (show (1 + ((-1) * ρ 5 + 0) : Int) ≤ 0 by omega) (pAll1 (show ((-33) + (1 * ρ 5 + 0) : Int) ≤ 0 by omega) (pAll1 (show (33 + ((-1) * ρ 5 + 0) : Int) ≤ 0 by omega) (pAll1 (show (1 + (1 * ρ 4 + ((-1) * (s : Int) + 0)) : Int) ≤ 0 by omega) (pAll1 (show (0 + ((-1) * ρ 1 + (1 * (s : Int) + 0)) : Int) ≤ 0 by omega) (pAll0))))))))
        · exact pAll1 (pgG ho hh 512 10 rfl rfl (0) ((wSk (wN h) (wB h) (p))) (by omega) (by omega) (show (0 + (1 * ρ 4 + 0) : Int) = _ by omega) (show (0 + (1 * (s : Int) + 0) : Int) = _ by omega)) (pAll1 (pgG ho hh 520 18 rfl rfl (0) (s) (by omega) (by omega) (show (0 + (1 * (s : Int) + 0) : Int) = _ by omega) (show (0 + (1 * ρ 3 + 0) : Int) = _ by omega)) (pAll0))
      · refine ⟨rC1c_3, List.mem_of_getElem? (i := 3) rfl, pEnd [ρ 0, ρ 1, ρ 2, ρ 3, ρ 4, ρ 5, (s : Int)] rfl ?_ ?_ ?_ ?_⟩
        · intro j hj
          match j, hj with
          | 0, _ => exact q0.symm
          | 1, _ => exact q1.symm
          | 2, _ => exact q2.symm
          | 3, _ => exact q3.symm
          | 4, _ => exact q4.symm
          | 5, _ => exact q5.symm
          | k + 6, hj => exact absurd hj (by show ¬ (k + 6 < 6); omega)
        · intro k b hk
          match k, hk with
          | 0, hk => cases hk; exact (show (0 : Int) ≤ (s : Int) ∧ (s : Int) ≤ (240 : Int) by omega)
          | k + 1, hk => cases hk
        · exact pAll1 (show (0 + (1 * ρ 2 + ((-1) * ρ 4 + 0)) : Int) ≤ 0 by omega) (pAll1 (show (0 + ((-1) * ρ 1 + (1 * ρ 4 + 0)) : Int) ≤ 0 by omega) (pAll1 (show (1 + ((-1) * ρ 1 + (1 * ρ 4 + 0)) : Int) ≤ 0 by omega) (pAll1 (show (1 + ((-1) * ρ 5 + 0) : Int) ≤ 0 by omega) (pAll1 (show ((-40) + (1 * ρ 5 + 0) : Int) ≤ 0 by omega) (pAll1 (show (40 + ((-1) * ρ 5 + 0) : Int) ≤ 0 by omega) (pAll1 (show (1 + (1 * ρ 4 + ((-1) * (s : Int) + 0)) : Int) ≤ 0 by omega) (pAll1 (show (0 + ((-1) * ρ 1 + (1 * (s : Int) + 0)) : Int) ≤ 0 by omega) (pAll0))))))))
        · exact pAll1 (pgG ho hh 512 10 rfl rfl (0) ((wSk (wN h) (wB h) (p))) (by omega) (by omega) (show (0 + (1 * ρ 4 + 0) : Int) = _ by omega) (show (0 + (1 * (s : Int) + 0) : Int) = _ by omega)) (pAll1 (pgG ho hh 520 18 rfl rfl (0) (s) (by omega) (by omega) (show (0 + (1 * (s : Int) + 0) : Int) = _ by omega) (show (0 + (1 * ρ 3 + 0) : Int) = _ by omega)) (pAll0))
  · rw [if_neg h1] at er
    have g := wG_gd (n := wN h) (B := wB h) 3 0 (wSk (wN h) (wB h) (p)) rfl s2
    rcases wBd_el er g with ⟨a1, a2⟩ | ⟨s, a1, a2, a3, a4⟩
    · have := g.1 a1
      have hu : (wCh (wN h) (wB h) ((wSk (wN h) (wB h) (p)))) ≤ 32 ∨ (34 ≤ (wCh (wN h) (wB h) ((wSk (wN h) (wB h) (p)))) ∧ (wCh (wN h) (wB h) ((wSk (wN h) (wB h) (p)))) ≤ 39) ∨ 41 ≤ (wCh (wN h) (wB h) ((wSk (wN h) (wB h) (p)))) := by omega
      rcases hu with hu | hu | hu
      · refine ⟨rC1c_4, List.mem_of_getElem? (i := 4) rfl, pEnd [ρ 0, ρ 1, ρ 2, ρ 3, ρ 4, ρ 5, (wG (wN h) (wB h) 3 (0) ((wSk (wN h) (wB h) (p))))] rfl ?_ ?_ ?_ ?_⟩
        · intro j hj
          match j, hj with
          | 0, _ => exact q0.symm
          | 1, _ => exact q1.symm
          | 2, _ => exact q2.symm
          | 3, _ => exact q3.symm
          | 4, _ => exact q4.symm
          | 5, _ => exact q5.symm
          | k + 6, hj => exact absurd hj (by show ¬ (k + 6 < 6); omega)
        · intro k b hk
          match k, hk with
          | 0, hk => cases hk; exact (show ((-241) : Int) ≤ (wG (wN h) (wB h) 3 (0) ((wSk (wN h) (wB h) (p)))) ∧ (wG (wN h) (wB h) 3 (0) ((wSk (wN h) (wB h) (p)))) ≤ ((-1) : Int) by omega)
          | k + 1, hk => cases hk
        · exact pAll1 (show (0 + (1 * ρ 2 + ((-1) * ρ 4 + 0)) : Int) ≤ 0 by omega) (pAll1 (show (0 + ((-1) * ρ 1 + (1 * ρ 4 + 0)) : Int) ≤ 0 by omega) (pAll1 (show ((-32) + (1 * ρ 5 + 0) : Int) ≤ 0 by omega) (pAll1 (show (0 + (1 * ρ 3 + ((-1) * (wG (wN h) (wB h) 3 (0) ((wSk (wN h) (wB h) (p)))) + 0)) : Int) ≤ 0 by omega) (pAll1 (show (0 + ((-1) * ρ 3 + (1 * (wG (wN h) (wB h) 3 (0) ((wSk (wN h) (wB h) (p)))) + 0)) : Int) ≤ 0 by omega) (pAll0)))))
        · exact pAll1 (pgG ho hh 505 3 rfl rfl (0) ((wSk (wN h) (wB h) (p))) (by omega) (by omega) (show (0 + (1 * ρ 4 + 0) : Int) = _ by omega) (show (0 + (1 * (wG (wN h) (wB h) 3 (0) ((wSk (wN h) (wB h) (p)))) + 0) : Int) = _ by omega)) (pAll0)
      · refine ⟨rC1c_9, List.mem_of_getElem? (i := 9) rfl, pEnd [ρ 0, ρ 1, ρ 2, ρ 3, ρ 4, ρ 5, (wG (wN h) (wB h) 3 (0) ((wSk (wN h) (wB h) (p))))] rfl ?_ ?_ ?_ ?_⟩
        · intro j hj
          match j, hj with
          | 0, _ => exact q0.symm
          | 1, _ => exact q1.symm
          | 2, _ => exact q2.symm
          | 3, _ => exact q3.symm
          | 4, _ => exact q4.symm
          | 5, _ => exact q5.symm
          | k + 6, hj => exact absurd hj (by show ¬ (k + 6 < 6); omega)
        · intro k b hk
          match k, hk with
          | 0, hk => cases hk; exact (show ((-241) : Int) ≤ (wG (wN h) (wB h) 3 (0) ((wSk (wN h) (wB h) (p)))) ∧ (wG (wN h) (wB h) 3 (0) ((wSk (wN h) (wB h) (p)))) ≤ ((-1) : Int) by omega)
          | k + 1, hk => cases hk
        · exact pAll1 (show (0 + (1 * ρ 2 + ((-1) * ρ 4 + 0)) : Int) ≤ 0 by omega) (pAll1 (show (0 + ((-1) * ρ 1 + (1 * ρ 4 + 0)) : Int) ≤ 0 by omega) (pAll1 (show (34 + ((-1) * ρ 5 + 0) : Int) ≤ 0 by omega) (pAll1 (show ((-39) + (1 * ρ 5 + 0) : Int) ≤ 0 by omega) (pAll1 (show (0 + (1 * ρ 3 + ((-1) * (wG (wN h) (wB h) 3 (0) ((wSk (wN h) (wB h) (p)))) + 0)) : Int) ≤ 0 by omega) (pAll1 (show (0 + ((-1) * ρ 3 + (1 * (wG (wN h) (wB h) 3 (0) ((wSk (wN h) (wB h) (p)))) + 0)) : Int) ≤ 0 by omega) (pAll0))))))
        · exact pAll1 (pgG ho hh 505 3 rfl rfl (0) ((wSk (wN h) (wB h) (p))) (by omega) (by omega) (show (0 + (1 * ρ 4 + 0) : Int) = _ by omega) (show (0 + (1 * (wG (wN h) (wB h) 3 (0) ((wSk (wN h) (wB h) (p)))) + 0) : Int) = _ by omega)) (pAll0)
      · refine ⟨rC1c_14, List.mem_of_getElem? (i := 14) rfl, pEnd [ρ 0, ρ 1, ρ 2, ρ 3, ρ 4, ρ 5, (wG (wN h) (wB h) 3 (0) ((wSk (wN h) (wB h) (p))))] rfl ?_ ?_ ?_ ?_⟩
        · intro j hj
          match j, hj with
          | 0, _ => exact q0.symm
          | 1, _ => exact q1.symm
          | 2, _ => exact q2.symm
          | 3, _ => exact q3.symm
          | 4, _ => exact q4.symm
          | 5, _ => exact q5.symm
          | k + 6, hj => exact absurd hj (by show ¬ (k + 6 < 6); omega)
        · intro k b hk
          match k, hk with
          | 0, hk => cases hk; exact (show ((-241) : Int) ≤ (wG (wN h) (wB h) 3 (0) ((wSk (wN h) (wB h) (p)))) ∧ (wG (wN h) (wB h) 3 (0) ((wSk (wN h) (wB h) (p)))) ≤ ((-1) : Int) by omega)
          | k + 1, hk => cases hk
        · exact pAll1 (show (0 + (1 * ρ 2 + ((-1) * ρ 4 + 0)) : Int) ≤ 0 by omega) (pAll1 (show (0 + ((-1) * ρ 1 + (1 * ρ 4 + 0)) : Int) ≤ 0 by omega) (pAll1 (show (41 + ((-1) * ρ 5 + 0) : Int) ≤ 0 by omega) (pAll1 (show (0 + (1 * ρ 3 + ((-1) * (wG (wN h) (wB h) 3 (0) ((wSk (wN h) (wB h) (p)))) + 0)) : Int) ≤ 0 by omega) (pAll1 (show (0 + ((-1) * ρ 3 + (1 * (wG (wN h) (wB h) 3 (0) ((wSk (wN h) (wB h) (p)))) + 0)) : Int) ≤ 0 by omega) (pAll0)))))
        · exact pAll1 (pgG ho hh 505 3 rfl rfl (0) ((wSk (wN h) (wB h) (p))) (by omega) (by omega) (show (0 + (1 * ρ 4 + 0) : Int) = _ by omega) (show (0 + (1 * (wG (wN h) (wB h) 3 (0) ((wSk (wN h) (wB h) (p)))) + 0) : Int) = _ by omega)) (pAll0)
    · have a2 : (wSk (wN h) (wB h) (p)) + 1 ≤ s := a2
      obtain ⟨t1, t2⟩ := wSk_le (B := wB h) a3
      have cs := wCh_bd ho (wSk (wN h) (wB h) (s))
      by_cases h3 : 60 ≤ (wCh (wN h) (wB h) ((wSk (wN h) (wB h) (s)))) ∧ (wCh (wN h) (wB h) ((wSk (wN h) (wB h) (s)))) ≤ 62
      · rw [if_pos h3] at a4
        have := wCh_lt (n := wN h) (B := wB h) (p := (wSk (wN h) (wB h) (s))) (by omega)
        have g2 := wG_gd (n := wN h) (B := wB h) 16 0 (wSk (wN h) (wB h) (s)) rfl t2
        rcases wBd_el a4 g2 with ⟨d1, d2⟩ | ⟨b, d1, d2, d3, d4⟩
        · have := g2.1 d1
          have hu : (wCh (wN h) (wB h) ((wSk (wN h) (wB h) (p)))) ≤ 32 ∨ (34 ≤ (wCh (wN h) (wB h) ((wSk (wN h) (wB h) (p)))) ∧ (wCh (wN h) (wB h) ((wSk (wN h) (wB h) (p)))) ≤ 39) ∨ 41 ≤ (wCh (wN h) (wB h) ((wSk (wN h) (wB h) (p)))) := by omega
          rcases hu with hu | hu | hu
          · refine ⟨rC1c_7, List.mem_of_getElem? (i := 7) rfl, pEnd [ρ 0, ρ 1, ρ 2, ρ 3, ρ 4, ρ 5, (s : Int), ((wSk (wN h) (wB h) (s)) : Int), (wCh (wN h) (wB h) ((wSk (wN h) (wB h) (s)))), (wG (wN h) (wB h) 16 (0) ((wSk (wN h) (wB h) (s))))] rfl ?_ ?_ ?_ ?_⟩
            · intro j hj
              match j, hj with
              | 0, _ => exact q0.symm
              | 1, _ => exact q1.symm
              | 2, _ => exact q2.symm
              | 3, _ => exact q3.symm
              | 4, _ => exact q4.symm
              | 5, _ => exact q5.symm
              | k + 6, hj => exact absurd hj (by show ¬ (k + 6 < 6); omega)
            · intro k b hk
              match k, hk with
              | 0, hk => cases hk; exact (show (0 : Int) ≤ (s : Int) ∧ (s : Int) ≤ (240 : Int) by omega)
              | 1, hk => cases hk; exact (show (0 : Int) ≤ ((wSk (wN h) (wB h) (s)) : Int) ∧ ((wSk (wN h) (wB h) (s)) : Int) ≤ (240 : Int) by omega)
              | 2, hk => cases hk; exact (show (60 : Int) ≤ (wCh (wN h) (wB h) ((wSk (wN h) (wB h) (s)))) ∧ (wCh (wN h) (wB h) ((wSk (wN h) (wB h) (s)))) ≤ (62 : Int) by omega)
              | 3, hk => cases hk; exact (show ((-241) : Int) ≤ (wG (wN h) (wB h) 16 (0) ((wSk (wN h) (wB h) (s)))) ∧ (wG (wN h) (wB h) 16 (0) ((wSk (wN h) (wB h) (s)))) ≤ ((-1) : Int) by omega)
              | k + 4, hk => cases hk
            · exact pAll1 (show (0 + (1 * ρ 2 + ((-1) * ρ 4 + 0)) : Int) ≤ 0 by omega) (pAll1 (show (0 + ((-1) * ρ 1 + (1 * ρ 4 + 0)) : Int) ≤ 0 by omega) (pAll1 (show ((-32) + (1 * ρ 5 + 0) : Int) ≤ 0 by omega) (pAll1 (show (1 + (1 * ρ 4 + ((-1) * (s : Int) + 0)) : Int) ≤ 0 by omega) (pAll1 (show (0 + (1 * (s : Int) + ((-1) * ((wSk (wN h) (wB h) (s)) : Int) + 0)) : Int) ≤ 0 by omega) (pAll1 (show (0 + ((-1) * ρ 1 + (1 * ((wSk (wN h) (wB h) (s)) : Int) + 0)) : Int) ≤ 0 by omega) (pAll1 (show (1 + ((-1) * ρ 1 + (1 * ((wSk (wN h) (wB h) (s)) : Int) + 0)) : Int) ≤ 0 by omega) (pAll1 (show (0 + (1 * ρ 3 + ((-1) * (wG (wN h) (wB h) 16 (0) ((wSk (wN h) (wB h) (s)))) + 0)) : Int) ≤ 0 by omega) (pAll1 (show (0 + ((-1) * ρ 3 + (1 * (wG (wN h) (wB h) 16 (0) ((wSk (wN h) (wB h) (s)))) + 0)) : Int) ≤ 0 by omega) (pAll0)))))))))
            · exact pAll1 (pgG ho hh 505 3 rfl rfl (0) ((wSk (wN h) (wB h) (p))) (by omega) (by omega) (show (0 + (1 * ρ 4 + 0) : Int) = _ by omega) (show (0 + (1 * (s : Int) + 0) : Int) = _ by omega)) (pAll1 (pgS ho hh (s) (by omega) (show (0 + (1 * (s : Int) + 0) : Int) = _ by omega) (show (0 + (1 * ((wSk (wN h) (wB h) (s)) : Int) + 0) : Int) = _ by omega)) (pAll1 (pgC ho hh ((wSk (wN h) (wB h) (s))) (by omega) (show (0 + (1 * ((wSk (wN h) (wB h) (s)) : Int) + 0) : Int) = _ by omega) (show (0 + (1 * (wCh (wN h) (wB h) ((wSk (wN h) (wB h) (s)))) + 0) : Int) = _ by omega)) (pAll1 (pgG ho hh 518 16 rfl rfl (0) ((wSk (wN h) (wB h) (s))) (by omega) (by omega) (show (0 + (1 * ((wSk (wN h) (wB h) (s)) : Int) + 0) : Int) = _ by omega) (show (0 + (1 * (wG (wN h) (wB h) 16 (0) ((wSk (wN h) (wB h) (s)))) + 0) : Int) = _ by omega)) (pAll0))))
          · refine ⟨rC1c_12, List.mem_of_getElem? (i := 12) rfl, pEnd [ρ 0, ρ 1, ρ 2, ρ 3, ρ 4, ρ 5, (s : Int), ((wSk (wN h) (wB h) (s)) : Int), (wCh (wN h) (wB h) ((wSk (wN h) (wB h) (s)))), (wG (wN h) (wB h) 16 (0) ((wSk (wN h) (wB h) (s))))] rfl ?_ ?_ ?_ ?_⟩
            · intro j hj
              match j, hj with
              | 0, _ => exact q0.symm
              | 1, _ => exact q1.symm
              | 2, _ => exact q2.symm
              | 3, _ => exact q3.symm
              | 4, _ => exact q4.symm
              | 5, _ => exact q5.symm
              | k + 6, hj => exact absurd hj (by show ¬ (k + 6 < 6); omega)
            · intro k b hk
              match k, hk with
              | 0, hk => cases hk; exact (show (0 : Int) ≤ (s : Int) ∧ (s : Int) ≤ (240 : Int) by omega)
              | 1, hk => cases hk; exact (show (0 : Int) ≤ ((wSk (wN h) (wB h) (s)) : Int) ∧ ((wSk (wN h) (wB h) (s)) : Int) ≤ (240 : Int) by omega)
              | 2, hk => cases hk; exact (show (60 : Int) ≤ (wCh (wN h) (wB h) ((wSk (wN h) (wB h) (s)))) ∧ (wCh (wN h) (wB h) ((wSk (wN h) (wB h) (s)))) ≤ (62 : Int) by omega)
              | 3, hk => cases hk; exact (show ((-241) : Int) ≤ (wG (wN h) (wB h) 16 (0) ((wSk (wN h) (wB h) (s)))) ∧ (wG (wN h) (wB h) 16 (0) ((wSk (wN h) (wB h) (s)))) ≤ ((-1) : Int) by omega)
              | k + 4, hk => cases hk
            · exact pAll1 (show (0 + (1 * ρ 2 + ((-1) * ρ 4 + 0)) : Int) ≤ 0 by omega) (pAll1 (show (0 + ((-1) * ρ 1 + (1 * ρ 4 + 0)) : Int) ≤ 0 by omega) (pAll1 (show (34 + ((-1) * ρ 5 + 0) : Int) ≤ 0 by omega) (pAll1 (show ((-39) + (1 * ρ 5 + 0) : Int) ≤ 0 by omega) (pAll1 (show (1 + (1 * ρ 4 + ((-1) * (s : Int) + 0)) : Int) ≤ 0 by omega) (pAll1 (show (0 + (1 * (s : Int) + ((-1) * ((wSk (wN h) (wB h) (s)) : Int) + 0)) : Int) ≤ 0 by omega) (pAll1 (show (0 + ((-1) * ρ 1 + (1 * ((wSk (wN h) (wB h) (s)) : Int) + 0)) : Int) ≤ 0 by omega) (pAll1 (show (1 + ((-1) * ρ 1 + (1 * ((wSk (wN h) (wB h) (s)) : Int) + 0)) : Int) ≤ 0 by omega) (pAll1 (show (0 + (1 * ρ 3 + ((-1) * (wG (wN h) (wB h) 16 (0) ((wSk (wN h) (wB h) (s)))) + 0)) : Int) ≤ 0 by omega) (pAll1 (show (0 + ((-1) * ρ 3 + (1 * (wG (wN h) (wB h) 16 (0) ((wSk (wN h) (wB h) (s)))) + 0)) : Int) ≤ 0 by omega) (pAll0))))))))))
            · exact pAll1 (pgG ho hh 505 3 rfl rfl (0) ((wSk (wN h) (wB h) (p))) (by omega) (by omega) (show (0 + (1 * ρ 4 + 0) : Int) = _ by omega) (show (0 + (1 * (s : Int) + 0) : Int) = _ by omega)) (pAll1 (pgS ho hh (s) (by omega) (show (0 + (1 * (s : Int) + 0) : Int) = _ by omega) (show (0 + (1 * ((wSk (wN h) (wB h) (s)) : Int) + 0) : Int) = _ by omega)) (pAll1 (pgC ho hh ((wSk (wN h) (wB h) (s))) (by omega) (show (0 + (1 * ((wSk (wN h) (wB h) (s)) : Int) + 0) : Int) = _ by omega) (show (0 + (1 * (wCh (wN h) (wB h) ((wSk (wN h) (wB h) (s)))) + 0) : Int) = _ by omega)) (pAll1 (pgG ho hh 518 16 rfl rfl (0) ((wSk (wN h) (wB h) (s))) (by omega) (by omega) (show (0 + (1 * ((wSk (wN h) (wB h) (s)) : Int) + 0) : Int) = _ by omega) (show (0 + (1 * (wG (wN h) (wB h) 16 (0) ((wSk (wN h) (wB h) (s)))) + 0) : Int) = _ by omega)) (pAll0))))
          · refine ⟨rC1c_17, List.mem_of_getElem? (i := 17) rfl, pEnd [ρ 0, ρ 1, ρ 2, ρ 3, ρ 4, ρ 5, (s : Int), ((wSk (wN h) (wB h) (s)) : Int), (wCh (wN h) (wB h) ((wSk (wN h) (wB h) (s)))), (wG (wN h) (wB h) 16 (0) ((wSk (wN h) (wB h) (s))))] rfl ?_ ?_ ?_ ?_⟩
            · intro j hj
              match j, hj with
              | 0, _ => exact q0.symm
              | 1, _ => exact q1.symm
              | 2, _ => exact q2.symm
              | 3, _ => exact q3.symm
              | 4, _ => exact q4.symm
              | 5, _ => exact q5.symm
              | k + 6, hj => exact absurd hj (by show ¬ (k + 6 < 6); omega)
            · intro k b hk
              match k, hk with
              | 0, hk => cases hk; exact (show (0 : Int) ≤ (s : Int) ∧ (s : Int) ≤ (240 : Int) by omega)
              | 1, hk => cases hk; exact (show (0 : Int) ≤ ((wSk (wN h) (wB h) (s)) : Int) ∧ ((wSk (wN h) (wB h) (s)) : Int) ≤ (240 : Int) by omega)
              | 2, hk => cases hk; exact (show (60 : Int) ≤ (wCh (wN h) (wB h) ((wSk (wN h) (wB h) (s)))) ∧ (wCh (wN h) (wB h) ((wSk (wN h) (wB h) (s)))) ≤ (62 : Int) by omega)
              | 3, hk => cases hk; exact (show ((-241) : Int) ≤ (wG (wN h) (wB h) 16 (0) ((wSk (wN h) (wB h) (s)))) ∧ (wG (wN h) (wB h) 16 (0) ((wSk (wN h) (wB h) (s)))) ≤ ((-1) : Int) by omega)
              | k + 4, hk => cases hk
            · exact pAll1 (show (0 + (1 * ρ 2 + ((-1) * ρ 4 + 0)) : Int) ≤ 0 by omega) (pAll1 (show (0 + ((-1) * ρ 1 + (1 * ρ 4 + 0)) : Int) ≤ 0 by omega) (pAll1 (show (41 + ((-1) * ρ 5 + 0) : Int) ≤ 0 by omega) (pAll1 (show (1 + (1 * ρ 4 + ((-1) * (s : Int) + 0)) : Int) ≤ 0 by omega) (pAll1 (show (0 + (1 * (s : Int) + ((-1) * ((wSk (wN h) (wB h) (s)) : Int) + 0)) : Int) ≤ 0 by omega) (pAll1 (show (0 + ((-1) * ρ 1 + (1 * ((wSk (wN h) (wB h) (s)) : Int) + 0)) : Int) ≤ 0 by omega) (pAll1 (show (1 + ((-1) * ρ 1 + (1 * ((wSk (wN h) (wB h) (s)) : Int) + 0)) : Int) ≤ 0 by omega) (pAll1 (show (0 + (1 * ρ 3 + ((-1) * (wG (wN h) (wB h) 16 (0) ((wSk (wN h) (wB h) (s)))) + 0)) : Int) ≤ 0 by omega) (pAll1 (show (0 + ((-1) * ρ 3 + (1 * (wG (wN h) (wB h) 16 (0) ((wSk (wN h) (wB h) (s)))) + 0)) : Int) ≤ 0 by omega) (pAll0)))))))))
            · exact pAll1 (pgG ho hh 505 3 rfl rfl (0) ((wSk (wN h) (wB h) (p))) (by omega) (by omega) (show (0 + (1 * ρ 4 + 0) : Int) = _ by omega) (show (0 + (1 * (s : Int) + 0) : Int) = _ by omega)) (pAll1 (pgS ho hh (s) (by omega) (show (0 + (1 * (s : Int) + 0) : Int) = _ by omega) (show (0 + (1 * ((wSk (wN h) (wB h) (s)) : Int) + 0) : Int) = _ by omega)) (pAll1 (pgC ho hh ((wSk (wN h) (wB h) (s))) (by omega) (show (0 + (1 * ((wSk (wN h) (wB h) (s)) : Int) + 0) : Int) = _ by omega) (show (0 + (1 * (wCh (wN h) (wB h) ((wSk (wN h) (wB h) (s)))) + 0) : Int) = _ by omega)) (pAll1 (pgG ho hh 518 16 rfl rfl (0) ((wSk (wN h) (wB h) (s))) (by omega) (by omega) (show (0 + (1 * ((wSk (wN h) (wB h) (s)) : Int) + 0) : Int) = _ by omega) (show (0 + (1 * (wG (wN h) (wB h) 16 (0) ((wSk (wN h) (wB h) (s)))) + 0) : Int) = _ by omega)) (pAll0))))
        · have d2 : (wSk (wN h) (wB h) (s)) + 1 ≤ b := d2
          have hu : (wCh (wN h) (wB h) ((wSk (wN h) (wB h) (p)))) ≤ 32 ∨ (34 ≤ (wCh (wN h) (wB h) ((wSk (wN h) (wB h) (p)))) ∧ (wCh (wN h) (wB h) ((wSk (wN h) (wB h) (p)))) ≤ 39) ∨ 41 ≤ (wCh (wN h) (wB h) ((wSk (wN h) (wB h) (p)))) := by omega
          rcases hu with hu | hu | hu
          · refine ⟨rC1c_8, List.mem_of_getElem? (i := 8) rfl, pEnd [ρ 0, ρ 1, ρ 2, ρ 3, ρ 4, ρ 5, (s : Int), ((wSk (wN h) (wB h) (s)) : Int), (wCh (wN h) (wB h) ((wSk (wN h) (wB h) (s)))), (b : Int)] rfl ?_ ?_ ?_ ?_⟩
            · intro j hj
              match j, hj with
              | 0, _ => exact q0.symm
              | 1, _ => exact q1.symm
              | 2, _ => exact q2.symm
              | 3, _ => exact q3.symm
              | 4, _ => exact q4.symm
              | 5, _ => exact q5.symm
              | k + 6, hj => exact absurd hj (by show ¬ (k + 6 < 6); omega)
            · intro k b hk
              match k, hk with
              | 0, hk => cases hk; exact (show (0 : Int) ≤ (s : Int) ∧ (s : Int) ≤ (240 : Int) by omega)
              | 1, hk => cases hk; exact (show (0 : Int) ≤ ((wSk (wN h) (wB h) (s)) : Int) ∧ ((wSk (wN h) (wB h) (s)) : Int) ≤ (240 : Int) by omega)
              | 2, hk => cases hk; exact (show (60 : Int) ≤ (wCh (wN h) (wB h) ((wSk (wN h) (wB h) (s)))) ∧ (wCh (wN h) (wB h) ((wSk (wN h) (wB h) (s)))) ≤ (62 : Int) by omega)
              | 3, hk => cases hk; exact (show (0 : Int) ≤ (b : Int) ∧ (b : Int) ≤ (240 : Int) by omega)
              | k + 4, hk => cases hk
            · exact pAll1 (show (0 + (1 * ρ 2 + ((-1) * ρ 4 + 0)) : Int) ≤ 0 by omega) (pAll1 (show (0 + ((-1) * ρ 1 + (1 * ρ 4 + 0)) : Int) ≤ 0 by omega) (pAll1 (show ((-32) + (1 * ρ 5 + 0) : Int) ≤ 0 by omega) (pAll1 (show (1 + (1 * ρ 4 + ((-1) * (s : Int) + 0)) : Int) ≤ 0 by omega) (pAll1 (show (0 + (1 * (s : Int) + ((-1) * ((wSk (wN h) (wB h) (s)) : Int) + 0)) : Int) ≤ 0 by omega) (pAll1 (show (0 + ((-1) * ρ 1 + (1 * ((wSk (wN h) (wB h) (s)) : Int) + 0)) : Int) ≤ 0 by omega) (pAll1 (show (1 + ((-1) * ρ 1 + (1 * ((wSk (wN h) (wB h) (s)) : Int) + 0)) : Int) ≤ 0 by omega) (pAll1 (show (1 + (1 * ((wSk (wN h) (wB h) (s)) : Int) + ((-1) * (b : Int) + 0)) : Int) ≤ 0 by omega) (pAll1 (show (0 + ((-1) * ρ 1 + (1 * (b : Int) + 0)) : Int) ≤ 0 by omega) (pAll0)))))))))
            · exact pAll1 (pgG ho hh 505 3 rfl rfl (0) ((wSk (wN h) (wB h) (p))) (by omega) (by omega) (show (0 + (1 * ρ 4 + 0) : Int) = _ by omega) (show (0 + (1 * (s : Int) + 0) : Int) = _ by omega)) (pAll1 (pgS ho hh (s) (by omega) (show (0 + (1 * (s : Int) + 0) : Int) = _ by omega) (show (0 + (1 * ((wSk (wN h) (wB h) (s)) : Int) + 0) : Int) = _ by omega)) (pAll1 (pgC ho hh ((wSk (wN h) (wB h) (s))) (by omega) (show (0 + (1 * ((wSk (wN h) (wB h) (s)) : Int) + 0) : Int) = _ by omega) (show (0 + (1 * (wCh (wN h) (wB h) ((wSk (wN h) (wB h) (s)))) + 0) : Int) = _ by omega)) (pAll1 (pgG ho hh 518 16 rfl rfl (0) ((wSk (wN h) (wB h) (s))) (by omega) (by omega) (show (0 + (1 * ((wSk (wN h) (wB h) (s)) : Int) + 0) : Int) = _ by omega) (show (0 + (1 * (b : Int) + 0) : Int) = _ by omega)) (pAll1 (pgG ho hh 520 18 rfl rfl (0) (b) (by omega) (by omega) (show (0 + (1 * (b : Int) + 0) : Int) = _ by omega) (show (0 + (1 * ρ 3 + 0) : Int) = _ by omega)) (pAll0)))))
          · refine ⟨rC1c_13, List.mem_of_getElem? (i := 13) rfl, pEnd [ρ 0, ρ 1, ρ 2, ρ 3, ρ 4, ρ 5, (s : Int), ((wSk (wN h) (wB h) (s)) : Int), (wCh (wN h) (wB h) ((wSk (wN h) (wB h) (s)))), (b : Int)] rfl ?_ ?_ ?_ ?_⟩
            · intro j hj
              match j, hj with
              | 0, _ => exact q0.symm
              | 1, _ => exact q1.symm
              | 2, _ => exact q2.symm
              | 3, _ => exact q3.symm
              | 4, _ => exact q4.symm
              | 5, _ => exact q5.symm
              | k + 6, hj => exact absurd hj (by show ¬ (k + 6 < 6); omega)
            · intro k b hk
              match k, hk with
              | 0, hk => cases hk; exact (show (0 : Int) ≤ (s : Int) ∧ (s : Int) ≤ (240 : Int) by omega)
              | 1, hk => cases hk; exact (show (0 : Int) ≤ ((wSk (wN h) (wB h) (s)) : Int) ∧ ((wSk (wN h) (wB h) (s)) : Int) ≤ (240 : Int) by omega)
              | 2, hk => cases hk; exact (show (60 : Int) ≤ (wCh (wN h) (wB h) ((wSk (wN h) (wB h) (s)))) ∧ (wCh (wN h) (wB h) ((wSk (wN h) (wB h) (s)))) ≤ (62 : Int) by omega)
              | 3, hk => cases hk; exact (show (0 : Int) ≤ (b : Int) ∧ (b : Int) ≤ (240 : Int) by omega)
              | k + 4, hk => cases hk
            · exact pAll1 (show (0 + (1 * ρ 2 + ((-1) * ρ 4 + 0)) : Int) ≤ 0 by omega) (pAll1 (show (0 + ((-1) * ρ 1 + (1 * ρ 4 + 0)) : Int) ≤ 0 by omega) (pAll1 (show (34 + ((-1) * ρ 5 + 0) : Int) ≤ 0 by omega) (pAll1 (show ((-39) + (1 * ρ 5 + 0) : Int) ≤ 0 by omega) (pAll1 (show (1 + (1 * ρ 4 + ((-1) * (s : Int) + 0)) : Int) ≤ 0 by omega) (pAll1 (show (0 + (1 * (s : Int) + ((-1) * ((wSk (wN h) (wB h) (s)) : Int) + 0)) : Int) ≤ 0 by omega) (pAll1 (show (0 + ((-1) * ρ 1 + (1 * ((wSk (wN h) (wB h) (s)) : Int) + 0)) : Int) ≤ 0 by omega) (pAll1 (show (1 + ((-1) * ρ 1 + (1 * ((wSk (wN h) (wB h) (s)) : Int) + 0)) : Int) ≤ 0 by omega) (pAll1 (show (1 + (1 * ((wSk (wN h) (wB h) (s)) : Int) + ((-1) * (b : Int) + 0)) : Int) ≤ 0 by omega) (pAll1 (show (0 + ((-1) * ρ 1 + (1 * (b : Int) + 0)) : Int) ≤ 0 by omega) (pAll0))))))))))
            · exact pAll1 (pgG ho hh 505 3 rfl rfl (0) ((wSk (wN h) (wB h) (p))) (by omega) (by omega) (show (0 + (1 * ρ 4 + 0) : Int) = _ by omega) (show (0 + (1 * (s : Int) + 0) : Int) = _ by omega)) (pAll1 (pgS ho hh (s) (by omega) (show (0 + (1 * (s : Int) + 0) : Int) = _ by omega) (show (0 + (1 * ((wSk (wN h) (wB h) (s)) : Int) + 0) : Int) = _ by omega)) (pAll1 (pgC ho hh ((wSk (wN h) (wB h) (s))) (by omega) (show (0 + (1 * ((wSk (wN h) (wB h) (s)) : Int) + 0) : Int) = _ by omega) (show (0 + (1 * (wCh (wN h) (wB h) ((wSk (wN h) (wB h) (s)))) + 0) : Int) = _ by omega)) (pAll1 (pgG ho hh 518 16 rfl rfl (0) ((wSk (wN h) (wB h) (s))) (by omega) (by omega) (show (0 + (1 * ((wSk (wN h) (wB h) (s)) : Int) + 0) : Int) = _ by omega) (show (0 + (1 * (b : Int) + 0) : Int) = _ by omega)) (pAll1 (pgG ho hh 520 18 rfl rfl (0) (b) (by omega) (by omega) (show (0 + (1 * (b : Int) + 0) : Int) = _ by omega) (show (0 + (1 * ρ 3 + 0) : Int) = _ by omega)) (pAll0)))))
          · refine ⟨rC1c_18, List.mem_of_getElem? (i := 18) rfl, pEnd [ρ 0, ρ 1, ρ 2, ρ 3, ρ 4, ρ 5, (s : Int), ((wSk (wN h) (wB h) (s)) : Int), (wCh (wN h) (wB h) ((wSk (wN h) (wB h) (s)))), (b : Int)] rfl ?_ ?_ ?_ ?_⟩
            · intro j hj
              match j, hj with
              | 0, _ => exact q0.symm
              | 1, _ => exact q1.symm
              | 2, _ => exact q2.symm
              | 3, _ => exact q3.symm
              | 4, _ => exact q4.symm
              | 5, _ => exact q5.symm
              | k + 6, hj => exact absurd hj (by show ¬ (k + 6 < 6); omega)
            · intro k b hk
              match k, hk with
              | 0, hk => cases hk; exact (show (0 : Int) ≤ (s : Int) ∧ (s : Int) ≤ (240 : Int) by omega)
              | 1, hk => cases hk; exact (show (0 : Int) ≤ ((wSk (wN h) (wB h) (s)) : Int) ∧ ((wSk (wN h) (wB h) (s)) : Int) ≤ (240 : Int) by omega)
              | 2, hk => cases hk; exact (show (60 : Int) ≤ (wCh (wN h) (wB h) ((wSk (wN h) (wB h) (s)))) ∧ (wCh (wN h) (wB h) ((wSk (wN h) (wB h) (s)))) ≤ (62 : Int) by omega)
              | 3, hk => cases hk; exact (show (0 : Int) ≤ (b : Int) ∧ (b : Int) ≤ (240 : Int) by omega)
              | k + 4, hk => cases hk
            · exact pAll1 (show (0 + (1 * ρ 2 + ((-1) * ρ 4 + 0)) : Int) ≤ 0 by omega) (pAll1 (show (0 + ((-1) * ρ 1 + (1 * ρ 4 + 0)) : Int) ≤ 0 by omega) (pAll1 (show (41 + ((-1) * ρ 5 + 0) : Int) ≤ 0 by omega) (pAll1 (show (1 + (1 * ρ 4 + ((-1) * (s : Int) + 0)) : Int) ≤ 0 by omega) (pAll1 (show (0 + (1 * (s : Int) + ((-1) * ((wSk (wN h) (wB h) (s)) : Int) + 0)) : Int) ≤ 0 by omega) (pAll1 (show (0 + ((-1) * ρ 1 + (1 * ((wSk (wN h) (wB h) (s)) : Int) + 0)) : Int) ≤ 0 by omega) (pAll1 (show (1 + ((-1) * ρ 1 + (1 * ((wSk (wN h) (wB h) (s)) : Int) + 0)) : Int) ≤ 0 by omega) (pAll1 (show (1 + (1 * ((wSk (wN h) (wB h) (s)) : Int) + ((-1) * (b : Int) + 0)) : Int) ≤ 0 by omega) (pAll1 (show (0 + ((-1) * ρ 1 + (1 * (b : Int) + 0)) : Int) ≤ 0 by omega) (pAll0)))))))))
            · exact pAll1 (pgG ho hh 505 3 rfl rfl (0) ((wSk (wN h) (wB h) (p))) (by omega) (by omega) (show (0 + (1 * ρ 4 + 0) : Int) = _ by omega) (show (0 + (1 * (s : Int) + 0) : Int) = _ by omega)) (pAll1 (pgS ho hh (s) (by omega) (show (0 + (1 * (s : Int) + 0) : Int) = _ by omega) (show (0 + (1 * ((wSk (wN h) (wB h) (s)) : Int) + 0) : Int) = _ by omega)) (pAll1 (pgC ho hh ((wSk (wN h) (wB h) (s))) (by omega) (show (0 + (1 * ((wSk (wN h) (wB h) (s)) : Int) + 0) : Int) = _ by omega) (show (0 + (1 * (wCh (wN h) (wB h) ((wSk (wN h) (wB h) (s)))) + 0) : Int) = _ by omega)) (pAll1 (pgG ho hh 518 16 rfl rfl (0) ((wSk (wN h) (wB h) (s))) (by omega) (by omega) (show (0 + (1 * ((wSk (wN h) (wB h) (s)) : Int) + 0) : Int) = _ by omega) (show (0 + (1 * (b : Int) + 0) : Int) = _ by omega)) (pAll1 (pgG ho hh 520 18 rfl rfl (0) (b) (by omega) (by omega) (show (0 + (1 * (b : Int) + 0) : Int) = _ by omega) (show (0 + (1 * ρ 3 + 0) : Int) = _ by omega)) (pAll0)))))
      · rw [if_neg h3] at a4
        have hv : (wCh (wN h) (wB h) ((wSk (wN h) (wB h) (s)))) ≤ 59 ∨ 63 ≤ (wCh (wN h) (wB h) ((wSk (wN h) (wB h) (s)))) := by omega
        rcases hv with hv | hv
        · have hu : (wCh (wN h) (wB h) ((wSk (wN h) (wB h) (p)))) ≤ 32 ∨ (34 ≤ (wCh (wN h) (wB h) ((wSk (wN h) (wB h) (p)))) ∧ (wCh (wN h) (wB h) ((wSk (wN h) (wB h) (p)))) ≤ 39) ∨ 41 ≤ (wCh (wN h) (wB h) ((wSk (wN h) (wB h) (p)))) := by omega
          rcases hu with hu | hu | hu
          · refine ⟨rC1c_5, List.mem_of_getElem? (i := 5) rfl, pEnd [ρ 0, ρ 1, ρ 2, ρ 3, ρ 4, ρ 5, (s : Int), ((wSk (wN h) (wB h) (s)) : Int), (wCh (wN h) (wB h) ((wSk (wN h) (wB h) (s))))] rfl ?_ ?_ ?_ ?_⟩
            · intro j hj
              match j, hj with
              | 0, _ => exact q0.symm
              | 1, _ => exact q1.symm
              | 2, _ => exact q2.symm
              | 3, _ => exact q3.symm
              | 4, _ => exact q4.symm
              | 5, _ => exact q5.symm
              | k + 6, hj => exact absurd hj (by show ¬ (k + 6 < 6); omega)
            · intro k b hk
              match k, hk with
              | 0, hk => cases hk; exact (show (0 : Int) ≤ (s : Int) ∧ (s : Int) ≤ (240 : Int) by omega)
              | 1, hk => cases hk; exact (show (0 : Int) ≤ ((wSk (wN h) (wB h) (s)) : Int) ∧ ((wSk (wN h) (wB h) (s)) : Int) ≤ (240 : Int) by omega)
              | 2, hk => cases hk; exact (show (0 : Int) ≤ (wCh (wN h) (wB h) ((wSk (wN h) (wB h) (s)))) ∧ (wCh (wN h) (wB h) ((wSk (wN h) (wB h) (s)))) ≤ (59 : Int) by omega)
              | k + 3, hk => cases hk
            · exact pAll1 (show (0 + (1 * ρ 2 + ((-1) * ρ 4 + 0)) : Int) ≤ 0 by omega) (pAll1 (show (0 + ((-1) * ρ 1 + (1 * ρ 4 + 0)) : Int) ≤ 0 by omega) (pAll1 (show ((-32) + (1 * ρ 5 + 0) : Int) ≤ 0 by omega) (pAll1 (show (1 + (1 * ρ 4 + ((-1) * (s : Int) + 0)) : Int) ≤ 0 by omega) (pAll1 (show (0 + (1 * (s : Int) + ((-1) * ((wSk (wN h) (wB h) (s)) : Int) + 0)) : Int) ≤ 0 by omega) (pAll1 (show (0 + ((-1) * ρ 1 + (1 * ((wSk (wN h) (wB h) (s)) : Int) + 0)) : Int) ≤ 0 by omega) (pAll1 (show (0 + (1 * ρ 3 + ((-1) * ((wSk (wN h) (wB h) (s)) : Int) + 0)) : Int) ≤ 0 by omega) (pAll1 (show (0 + ((-1) * ρ 3 + (1 * ((wSk (wN h) (wB h) (s)) : Int) + 0)) : Int) ≤ 0 by omega) (pAll0))))))))
            · exact pAll1 (pgG ho hh 505 3 rfl rfl (0) ((wSk (wN h) (wB h) (p))) (by omega) (by omega) (show (0 + (1 * ρ 4 + 0) : Int) = _ by omega) (show (0 + (1 * (s : Int) + 0) : Int) = _ by omega)) (pAll1 (pgS ho hh (s) (by omega) (show (0 + (1 * (s : Int) + 0) : Int) = _ by omega) (show (0 + (1 * ((wSk (wN h) (wB h) (s)) : Int) + 0) : Int) = _ by omega)) (pAll1 (pgC ho hh ((wSk (wN h) (wB h) (s))) (by omega) (show (0 + (1 * ((wSk (wN h) (wB h) (s)) : Int) + 0) : Int) = _ by omega) (show (0 + (1 * (wCh (wN h) (wB h) ((wSk (wN h) (wB h) (s)))) + 0) : Int) = _ by omega)) (pAll0)))
          · refine ⟨rC1c_10, List.mem_of_getElem? (i := 10) rfl, pEnd [ρ 0, ρ 1, ρ 2, ρ 3, ρ 4, ρ 5, (s : Int), ((wSk (wN h) (wB h) (s)) : Int), (wCh (wN h) (wB h) ((wSk (wN h) (wB h) (s))))] rfl ?_ ?_ ?_ ?_⟩
            · intro j hj
              match j, hj with
              | 0, _ => exact q0.symm
              | 1, _ => exact q1.symm
              | 2, _ => exact q2.symm
              | 3, _ => exact q3.symm
              | 4, _ => exact q4.symm
              | 5, _ => exact q5.symm
              | k + 6, hj => exact absurd hj (by show ¬ (k + 6 < 6); omega)
            · intro k b hk
              match k, hk with
              | 0, hk => cases hk; exact (show (0 : Int) ≤ (s : Int) ∧ (s : Int) ≤ (240 : Int) by omega)
              | 1, hk => cases hk; exact (show (0 : Int) ≤ ((wSk (wN h) (wB h) (s)) : Int) ∧ ((wSk (wN h) (wB h) (s)) : Int) ≤ (240 : Int) by omega)
              | 2, hk => cases hk; exact (show (0 : Int) ≤ (wCh (wN h) (wB h) ((wSk (wN h) (wB h) (s)))) ∧ (wCh (wN h) (wB h) ((wSk (wN h) (wB h) (s)))) ≤ (59 : Int) by omega)
              | k + 3, hk => cases hk
            · exact pAll1 (show (0 + (1 * ρ 2 + ((-1) * ρ 4 + 0)) : Int) ≤ 0 by omega) (pAll1 (show (0 + ((-1) * ρ 1 + (1 * ρ 4 + 0)) : Int) ≤ 0 by omega) (pAll1 (show (34 + ((-1) * ρ 5 + 0) : Int) ≤ 0 by omega) (pAll1 (show ((-39) + (1 * ρ 5 + 0) : Int) ≤ 0 by omega) (pAll1 (show (1 + (1 * ρ 4 + ((-1) * (s : Int) + 0)) : Int) ≤ 0 by omega) (pAll1 (show (0 + (1 * (s : Int) + ((-1) * ((wSk (wN h) (wB h) (s)) : Int) + 0)) : Int) ≤ 0 by omega) (pAll1 (show (0 + ((-1) * ρ 1 + (1 * ((wSk (wN h) (wB h) (s)) : Int) + 0)) : Int) ≤ 0 by omega) (pAll1 (show (0 + (1 * ρ 3 + ((-1) * ((wSk (wN h) (wB h) (s)) : Int) + 0)) : Int) ≤ 0 by omega) (pAll1 (show (0 + ((-1) * ρ 3 + (1 * ((wSk (wN h) (wB h) (s)) : Int) + 0)) : Int) ≤ 0 by omega) (pAll0)))))))))
            · exact pAll1 (pgG ho hh 505 3 rfl rfl (0) ((wSk (wN h) (wB h) (p))) (by omega) (by omega) (show (0 + (1 * ρ 4 + 0) : Int) = _ by omega) (show (0 + (1 * (s : Int) + 0) : Int) = _ by omega)) (pAll1 (pgS ho hh (s) (by omega) (show (0 + (1 * (s : Int) + 0) : Int) = _ by omega) (show (0 + (1 * ((wSk (wN h) (wB h) (s)) : Int) + 0) : Int) = _ by omega)) (pAll1 (pgC ho hh ((wSk (wN h) (wB h) (s))) (by omega) (show (0 + (1 * ((wSk (wN h) (wB h) (s)) : Int) + 0) : Int) = _ by omega) (show (0 + (1 * (wCh (wN h) (wB h) ((wSk (wN h) (wB h) (s)))) + 0) : Int) = _ by omega)) (pAll0)))
          · refine ⟨rC1c_15, List.mem_of_getElem? (i := 15) rfl, pEnd [ρ 0, ρ 1, ρ 2, ρ 3, ρ 4, ρ 5, (s : Int), ((wSk (wN h) (wB h) (s)) : Int), (wCh (wN h) (wB h) ((wSk (wN h) (wB h) (s))))] rfl ?_ ?_ ?_ ?_⟩
            · intro j hj
              match j, hj with
              | 0, _ => exact q0.symm
              | 1, _ => exact q1.symm
              | 2, _ => exact q2.symm
              | 3, _ => exact q3.symm
              | 4, _ => exact q4.symm
              | 5, _ => exact q5.symm
              | k + 6, hj => exact absurd hj (by show ¬ (k + 6 < 6); omega)
            · intro k b hk
              match k, hk with
              | 0, hk => cases hk; exact (show (0 : Int) ≤ (s : Int) ∧ (s : Int) ≤ (240 : Int) by omega)
              | 1, hk => cases hk; exact (show (0 : Int) ≤ ((wSk (wN h) (wB h) (s)) : Int) ∧ ((wSk (wN h) (wB h) (s)) : Int) ≤ (240 : Int) by omega)
              | 2, hk => cases hk; exact (show (0 : Int) ≤ (wCh (wN h) (wB h) ((wSk (wN h) (wB h) (s)))) ∧ (wCh (wN h) (wB h) ((wSk (wN h) (wB h) (s)))) ≤ (59 : Int) by omega)
              | k + 3, hk => cases hk
            · exact pAll1 (show (0 + (1 * ρ 2 + ((-1) * ρ 4 + 0)) : Int) ≤ 0 by omega) (pAll1 (show (0 + ((-1) * ρ 1 + (1 * ρ 4 + 0)) : Int) ≤ 0 by omega) (pAll1 (show (41 + ((-1) * ρ 5 + 0) : Int) ≤ 0 by omega) (pAll1 (show (1 + (1 * ρ 4 + ((-1) * (s : Int) + 0)) : Int) ≤ 0 by omega) (pAll1 (show (0 + (1 * (s : Int) + ((-1) * ((wSk (wN h) (wB h) (s)) : Int) + 0)) : Int) ≤ 0 by omega) (pAll1 (show (0 + ((-1) * ρ 1 + (1 * ((wSk (wN h) (wB h) (s)) : Int) + 0)) : Int) ≤ 0 by omega) (pAll1 (show (0 + (1 * ρ 3 + ((-1) * ((wSk (wN h) (wB h) (s)) : Int) + 0)) : Int) ≤ 0 by omega) (pAll1 (show (0 + ((-1) * ρ 3 + (1 * ((wSk (wN h) (wB h) (s)) : Int) + 0)) : Int) ≤ 0 by omega) (pAll0))))))))
            · exact pAll1 (pgG ho hh 505 3 rfl rfl (0) ((wSk (wN h) (wB h) (p))) (by omega) (by omega) (show (0 + (1 * ρ 4 + 0) : Int) = _ by omega) (show (0 + (1 * (s : Int) + 0) : Int) = _ by omega)) (pAll1 (pgS ho hh (s) (by omega) (show (0 + (1 * (s : Int) + 0) : Int) = _ by omega) (show (0 + (1 * ((wSk (wN h) (wB h) (s)) : Int) + 0) : Int) = _ by omega)) (pAll1 (pgC ho hh ((wSk (wN h) (wB h) (s))) (by omega) (show (0 + (1 * ((wSk (wN h) (wB h) (s)) : Int) + 0) : Int) = _ by omega) (show (0 + (1 * (wCh (wN h) (wB h) ((wSk (wN h) (wB h) (s)))) + 0) : Int) = _ by omega)) (pAll0)))
        · have hu : (wCh (wN h) (wB h) ((wSk (wN h) (wB h) (p)))) ≤ 32 ∨ (34 ≤ (wCh (wN h) (wB h) ((wSk (wN h) (wB h) (p)))) ∧ (wCh (wN h) (wB h) ((wSk (wN h) (wB h) (p)))) ≤ 39) ∨ 41 ≤ (wCh (wN h) (wB h) ((wSk (wN h) (wB h) (p)))) := by omega
          rcases hu with hu | hu | hu
          · refine ⟨rC1c_6, List.mem_of_getElem? (i := 6) rfl, pEnd [ρ 0, ρ 1, ρ 2, ρ 3, ρ 4, ρ 5, (s : Int), ((wSk (wN h) (wB h) (s)) : Int), (wCh (wN h) (wB h) ((wSk (wN h) (wB h) (s))))] rfl ?_ ?_ ?_ ?_⟩
            · intro j hj
              match j, hj with
              | 0, _ => exact q0.symm
              | 1, _ => exact q1.symm
              | 2, _ => exact q2.symm
              | 3, _ => exact q3.symm
              | 4, _ => exact q4.symm
              | 5, _ => exact q5.symm
              | k + 6, hj => exact absurd hj (by show ¬ (k + 6 < 6); omega)
            · intro k b hk
              match k, hk with
              | 0, hk => cases hk; exact (show (0 : Int) ≤ (s : Int) ∧ (s : Int) ≤ (240 : Int) by omega)
              | 1, hk => cases hk; exact (show (0 : Int) ≤ ((wSk (wN h) (wB h) (s)) : Int) ∧ ((wSk (wN h) (wB h) (s)) : Int) ≤ (240 : Int) by omega)
              | 2, hk => cases hk; exact (show (63 : Int) ≤ (wCh (wN h) (wB h) ((wSk (wN h) (wB h) (s)))) ∧ (wCh (wN h) (wB h) ((wSk (wN h) (wB h) (s)))) ≤ (255 : Int) by omega)
              | k + 3, hk => cases hk
            · exact pAll1 (show (0 + (1 * ρ 2 + ((-1) * ρ 4 + 0)) : Int) ≤ 0 by omega) (pAll1 (show (0 + ((-1) * ρ 1 + (1 * ρ 4 + 0)) : Int) ≤ 0 by omega) (pAll1 (show ((-32) + (1 * ρ 5 + 0) : Int) ≤ 0 by omega) (pAll1 (show (1 + (1 * ρ 4 + ((-1) * (s : Int) + 0)) : Int) ≤ 0 by omega) (pAll1 (show (0 + (1 * (s : Int) + ((-1) * ((wSk (wN h) (wB h) (s)) : Int) + 0)) : Int) ≤ 0 by omega) (pAll1 (show (0 + ((-1) * ρ 1 + (1 * ((wSk (wN h) (wB h) (s)) : Int) + 0)) : Int) ≤ 0 by omega) (pAll1 (show (0 + (1 * ρ 3 + ((-1) * ((wSk (wN h) (wB h) (s)) : Int) + 0)) : Int) ≤ 0 by omega) (pAll1 (show (0 + ((-1) * ρ 3 + (1 * ((wSk (wN h) (wB h) (s)) : Int) + 0)) : Int) ≤ 0 by omega) (pAll0))))))))
            · exact pAll1 (pgG ho hh 505 3 rfl rfl (0) ((wSk (wN h) (wB h) (p))) (by omega) (by omega) (show (0 + (1 * ρ 4 + 0) : Int) = _ by omega) (show (0 + (1 * (s : Int) + 0) : Int) = _ by omega)) (pAll1 (pgS ho hh (s) (by omega) (show (0 + (1 * (s : Int) + 0) : Int) = _ by omega) (show (0 + (1 * ((wSk (wN h) (wB h) (s)) : Int) + 0) : Int) = _ by omega)) (pAll1 (pgC ho hh ((wSk (wN h) (wB h) (s))) (by omega) (show (0 + (1 * ((wSk (wN h) (wB h) (s)) : Int) + 0) : Int) = _ by omega) (show (0 + (1 * (wCh (wN h) (wB h) ((wSk (wN h) (wB h) (s)))) + 0) : Int) = _ by omega)) (pAll0)))
          · refine ⟨rC1c_11, List.mem_of_getElem? (i := 11) rfl, pEnd [ρ 0, ρ 1, ρ 2, ρ 3, ρ 4, ρ 5, (s : Int), ((wSk (wN h) (wB h) (s)) : Int), (wCh (wN h) (wB h) ((wSk (wN h) (wB h) (s))))] rfl ?_ ?_ ?_ ?_⟩
            · intro j hj
              match j, hj with
              | 0, _ => exact q0.symm
              | 1, _ => exact q1.symm
              | 2, _ => exact q2.symm
              | 3, _ => exact q3.symm
              | 4, _ => exact q4.symm
              | 5, _ => exact q5.symm
              | k + 6, hj => exact absurd hj (by show ¬ (k + 6 < 6); omega)
            · intro k b hk
              match k, hk with
              | 0, hk => cases hk; exact (show (0 : Int) ≤ (s : Int) ∧ (s : Int) ≤ (240 : Int) by omega)
              | 1, hk => cases hk; exact (show (0 : Int) ≤ ((wSk (wN h) (wB h) (s)) : Int) ∧ ((wSk (wN h) (wB h) (s)) : Int) ≤ (240 : Int) by omega)
              | 2, hk => cases hk; exact (show (63 : Int) ≤ (wCh (wN h) (wB h) ((wSk (wN h) (wB h) (s)))) ∧ (wCh (wN h) (wB h) ((wSk (wN h) (wB h) (s)))) ≤ (255 : Int) by omega)
              | k + 3, hk => cases hk
            · exact pAll1 (show (0 + (1 * ρ 2 + ((-1) * ρ 4 + 0)) : Int) ≤ 0 by omega) (pAll1 (show (0 + ((-1) * ρ 1 + (1 * ρ 4 + 0)) : Int) ≤ 0 by omega) (pAll1 (show (34 + ((-1) * ρ 5 + 0) : Int) ≤ 0 by omega) (pAll1 (show ((-39) + (1 * ρ 5 + 0) : Int) ≤ 0 by omega) (pAll1 (show (1 + (1 * ρ 4 + ((-1) * (s : Int) + 0)) : Int) ≤ 0 by omega) (pAll1 (show (0 + (1 * (s : Int) + ((-1) * ((wSk (wN h) (wB h) (s)) : Int) + 0)) : Int) ≤ 0 by omega) (pAll1 (show (0 + ((-1) * ρ 1 + (1 * ((wSk (wN h) (wB h) (s)) : Int) + 0)) : Int) ≤ 0 by omega) (pAll1 (show (0 + (1 * ρ 3 + ((-1) * ((wSk (wN h) (wB h) (s)) : Int) + 0)) : Int) ≤ 0 by omega) (pAll1 (show (0 + ((-1) * ρ 3 + (1 * ((wSk (wN h) (wB h) (s)) : Int) + 0)) : Int) ≤ 0 by omega) (pAll0)))))))))
            · exact pAll1 (pgG ho hh 505 3 rfl rfl (0) ((wSk (wN h) (wB h) (p))) (by omega) (by omega) (show (0 + (1 * ρ 4 + 0) : Int) = _ by omega) (show (0 + (1 * (s : Int) + 0) : Int) = _ by omega)) (pAll1 (pgS ho hh (s) (by omega) (show (0 + (1 * (s : Int) + 0) : Int) = _ by omega) (show (0 + (1 * ((wSk (wN h) (wB h) (s)) : Int) + 0) : Int) = _ by omega)) (pAll1 (pgC ho hh ((wSk (wN h) (wB h) (s))) (by omega) (show (0 + (1 * ((wSk (wN h) (wB h) (s)) : Int) + 0) : Int) = _ by omega) (show (0 + (1 * (wCh (wN h) (wB h) ((wSk (wN h) (wB h) (s)))) + 0) : Int) = _ by omega)) (pAll0)))
          · refine ⟨rC1c_16, List.mem_of_getElem? (i := 16) rfl, pEnd [ρ 0, ρ 1, ρ 2, ρ 3, ρ 4, ρ 5, (s : Int), ((wSk (wN h) (wB h) (s)) : Int), (wCh (wN h) (wB h) ((wSk (wN h) (wB h) (s))))] rfl ?_ ?_ ?_ ?_⟩
            · intro j hj
              match j, hj with
              | 0, _ => exact q0.symm
              | 1, _ => exact q1.symm
              | 2, _ => exact q2.symm
              | 3, _ => exact q3.symm
              | 4, _ => exact q4.symm
              | 5, _ => exact q5.symm
              | k + 6, hj => exact absurd hj (by show ¬ (k + 6 < 6); omega)
            · intro k b hk
              match k, hk with
              | 0, hk => cases hk; exact (show (0 : Int) ≤ (s : Int) ∧ (s : Int) ≤ (240 : Int) by omega)
              | 1, hk => cases hk; exact (show (0 : Int) ≤ ((wSk (wN h) (wB h) (s)) : Int) ∧ ((wSk (wN h) (wB h) (s)) : Int) ≤ (240 : Int) by omega)
              | 2, hk => cases hk; exact (show (63 : Int) ≤ (wCh (wN h) (wB h) ((wSk (wN h) (wB h) (s)))) ∧ (wCh (wN h) (wB h) ((wSk (wN h) (wB h) (s)))) ≤ (255 : Int) by omega)
              | k + 3, hk => cases hk
            · exact pAll1 (show (0 + (1 * ρ 2 + ((-1) * ρ 4 + 0)) : Int) ≤ 0 by omega) (pAll1 (show (0 + ((-1) * ρ 1 + (1 * ρ 4 + 0)) : Int) ≤ 0 by omega) (pAll1 (show (41 + ((-1) * ρ 5 + 0) : Int) ≤ 0 by omega) (pAll1 (show (1 + (1 * ρ 4 + ((-1) * (s : Int) + 0)) : Int) ≤ 0 by omega) (pAll1 (show (0 + (1 * (s : Int) + ((-1) * ((wSk (wN h) (wB h) (s)) : Int) + 0)) : Int) ≤ 0 by omega) (pAll1 (show (0 + ((-1) * ρ 1 + (1 * ((wSk (wN h) (wB h) (s)) : Int) + 0)) : Int) ≤ 0 by omega) (pAll1 (show (0 + (1 * ρ 3 + ((-1) * ((wSk (wN h) (wB h) (s)) : Int) + 0)) : Int) ≤ 0 by omega) (pAll1 (show (0 + ((-1) * ρ 3 + (1 * ((wSk (wN h) (wB h) (s)) : Int) + 0)) : Int) ≤ 0 by omega) (pAll0))))))))
            · exact pAll1 (pgG ho hh 505 3 rfl rfl (0) ((wSk (wN h) (wB h) (p))) (by omega) (by omega) (show (0 + (1 * ρ 4 + 0) : Int) = _ by omega) (show (0 + (1 * (s : Int) + 0) : Int) = _ by omega)) (pAll1 (pgS ho hh (s) (by omega) (show (0 + (1 * (s : Int) + 0) : Int) = _ by omega) (show (0 + (1 * ((wSk (wN h) (wB h) (s)) : Int) + 0) : Int) = _ by omega)) (pAll1 (pgC ho hh ((wSk (wN h) (wB h) (s))) (by omega) (show (0 + (1 * ((wSk (wN h) (wB h) (s)) : Int) + 0) : Int) = _ by omega) (show (0 + (1 * (wCh (wN h) (wB h) ((wSk (wN h) (wB h) (s)))) + 0) : Int) = _ by omega)) (pAll0)))
noncomputable def rLTc_0 : sX := (none, [(513, (0, [(2, 1)]), (0, [(4, 1)]))], [((-241), (-1))], [(0, [(3, 1), (4, (-1))]), (0, [(3, (-1)), (4, 1)])], [])
noncomputable def rLTc_1 : sX := (none, [(513, (0, [(2, 1)]), (0, [(4, 1)])), (500, (0, [(4, 1)]), (0, [(5, 1)])), (501, (0, [(5, 1)]), (0, [(6, 1)])), (500, (0, [(5, 1)]), (0, [(5, 1)])), (514, (1, [(5, 1)]), (0, [(3, 1)]))], [(0, 240), (0, 240), (59, 59)], [(1, [(2, 1), (4, (-1))]), (0, [(4, 1), (5, (-1))]), (1, [(1, (-1)), (5, 1)])], [])
noncomputable def rLTc_2 : sX := (none, [(513, (0, [(2, 1)]), (0, [(4, 1)])), (500, (0, [(4, 1)]), (0, [(5, 1)])), (501, (0, [(5, 1)]), (0, [(6, 1)])), (500, (0, [(5, 1)]), (0, [(5, 1)]))], [(0, 240), (0, 240), (0, 0)], [(1, [(2, 1), (4, (-1))]), (0, [(4, 1), (5, (-1))]), (0, [(1, (-1)), (5, 1)]), (0, [(1, 1), (5, (-1))]), (0, [(3, 1), (5, (-1))]), (0, [(3, (-1)), (5, 1)])], [])
noncomputable def rLTc_3 : sX := (none, [(513, (0, [(2, 1)]), (0, [(4, 1)])), (500, (0, [(4, 1)]), (0, [(5, 1)])), (501, (0, [(5, 1)]), (0, [(6, 1)])), (500, (0, [(5, 1)]), (0, [(5, 1)]))], [(0, 240), (0, 240), (1, 58)], [(1, [(2, 1), (4, (-1))]), (0, [(4, 1), (5, (-1))]), (1, [(1, (-1)), (5, 1)]), (1, [(3, 1), (5, 1)]), ((-1), [(3, (-1)), (5, (-1))])], [])
noncomputable def rLTc_4 : sX := (none, [(513, (0, [(2, 1)]), (0, [(4, 1)])), (500, (0, [(4, 1)]), (0, [(5, 1)])), (501, (0, [(5, 1)]), (0, [(6, 1)])), (500, (0, [(5, 1)]), (0, [(5, 1)]))], [(0, 240), (0, 240), (60, 255)], [(1, [(2, 1), (4, (-1))]), (0, [(4, 1), (5, (-1))]), (1, [(1, (-1)), (5, 1)]), (1, [(3, 1), (5, 1)]), ((-1), [(3, (-1)), (5, (-1))])], [])
noncomputable def rLTc : sQ := (0, ([], [(2, 1000, (0, [])), (2, 41, (1, [])), (2, 41, (2, [])), (2, 514, (0, [(2, 1)]))], [(1, 1), (0, 240), (0, 240), ((-241), 240)], [(0, [(1, (-1)), (2, 1)])], [(0, 0), (1, 1), (2, 2), (3, 3)], (0, [])), [rLTc_0, rLTc_1, rLTc_2, rLTc_3, rLTc_4], [], 0)
theorem rLTc_ok : pRul pReg pG pgv rLTc := by
  intro loc h ρ ρ0 hG hM
  have hM : sMt pReg pgv ρ ρ0 (sAs rLTc.2.1) loc [] h := hM
  have q0 : ρ0 1 = ρ 0 := (hM.2.2.2.2.2 (1, sY 0) (List.mem_of_getElem? (i := 1) rfl)).trans (sY_v ρ 0)
  have q1 : ρ0 2 = ρ 1 := (hM.2.2.2.2.2 (2, sY 1) (List.mem_of_getElem? (i := 2) rfl)).trans (sY_v ρ 1)
  have q2 : ρ0 3 = ρ 2 := (hM.2.2.2.2.2 (3, sY 2) (List.mem_of_getElem? (i := 3) rfl)).trans (sY_v ρ 2)
  have q3 : ρ0 4 = ρ 3 := (hM.2.2.2.2.2 (4, sY 3) (List.mem_of_getElem? (i := 4) rfl)).trans (sY_v ρ 3)
  have hL : ∀ j, j < 4 → pL [ρ 0, ρ 1, ρ 2, ρ 3] j = ρ0 (j + 1) := by
    intro j hj
    match j, hj with
    | 0, _ => exact q0.symm
    | 1, _ => exact q1.symm
    | 2, _ => exact q2.symm
    | 3, _ => exact q3.symm
    | k + 4, hj => omega
  have b0 : (1 : Int) ≤ ρ 0 ∧ ρ 0 ≤ 1 := hM.2.2.2.1 0 (1, 1) rfl
  have b1 : (0 : Int) ≤ ρ 1 ∧ ρ 1 ≤ 240 := hM.2.2.2.1 1 (0, 240) rfl
  have b2 : (0 : Int) ≤ ρ 2 ∧ ρ 2 ≤ 240 := hM.2.2.2.1 2 (0, 240) rfl
  have b3 : ((-241) : Int) ≤ ρ 3 ∧ ρ 3 ≤ 240 := hM.2.2.2.1 3 ((-241), 240) rfl
  have c0 : (0 + ((-1) * ρ 1 + (1 * ρ 2 + 0)) : Int) ≤ 0 := hM.2.2.2.2.1 (0, [(1, (-1)), (2, 1)]) (List.mem_of_getElem? (i := 0) rfl)
  obtain ⟨ho, hs, hh⟩ := pTold0 hM 0 (0, []) rfl b0.1
  have hn := ho.1
  have en : ρ 1 = (wN h : Int) := (pPl hM 1 41 (1, []) rfl (by omega) 353 1 (by decide +kernel) rfl).symm.trans hs.1
  obtain ⟨p, ep⟩ : ∃ p : Nat, ρ 2 = (p : Int) := ⟨(ρ 2).toNat, by omega⟩
  have hp : p ≤ wN h := by omega
  obtain ⟨s1, s2⟩ := wSk_le (B := wB h) hp
  have er : ρ 3 = (wG (wN h) (wB h) 12 (0) (p)) := pfG hM ho hh 3 514 12 (0, [(2, 1)]) rfl rfl rfl (d := 0) (p := p) (by omega) (by omega) (by show (0 + (1 * ρ 2 + 0) : Int) = _; omega)
  rw [wE_LT hp] at er
  have g := wG_gd (n := wN h) (B := wB h) 11 0 p rfl hp
  rcases wBd_el er g with ⟨a1, a2⟩ | ⟨s, a1, a2, a3, a4⟩
  · have := g.1 a1
    refine ⟨rLTc_0, List.mem_of_getElem? (i := 0) rfl, pEnd [ρ 0, ρ 1, ρ 2, ρ 3, (wG (wN h) (wB h) 11 (0) (p))] rfl ?_ ?_ ?_ ?_⟩
    · intro j hj
      match j, hj with
      | 0, _ => exact q0.symm
      | 1, _ => exact q1.symm
      | 2, _ => exact q2.symm
      | 3, _ => exact q3.symm
      | k + 4, hj => exact absurd hj (by show ¬ (k + 4 < 4); omega)
    · intro k b hk
      match k, hk with
      | 0, hk => cases hk; exact (show ((-241) : Int) ≤ (wG (wN h) (wB h) 11 (0) (p)) ∧ (wG (wN h) (wB h) 11 (0) (p)) ≤ ((-1) : Int) by omega)
      | k + 1, hk => cases hk
    · exact pAll1 (show (0 + (1 * ρ 3 + ((-1) * (wG (wN h) (wB h) 11 (0) (p)) + 0)) : Int) ≤ 0 by omega) (pAll1 (show (0 + ((-1) * ρ 3 + (1 * (wG (wN h) (wB h) 11 (0) (p)) + 0)) : Int) ≤ 0 by omega) (pAll0))
    · exact pAll1 (pgG ho hh 513 11 rfl rfl (0) (p) (by omega) (by omega) (show (0 + (1 * ρ 2 + 0) : Int) = _ by omega) (show (0 + (1 * (wG (wN h) (wB h) 11 (0) (p)) + 0) : Int) = _ by omega)) (pAll0)
  · have a2 : p + 1 ≤ s := a2
    obtain ⟨t1, t2⟩ := wSk_le (B := wB h) a3
    have cs := wCh_bd ho (wSk (wN h) (wB h) (s))
    have hi := wSk_id (B := wB h) a3
    have cl : (wCh (wN h) (wB h) ((wSk (wN h) (wB h) (s)))) ≠ 0 → (wSk (wN h) (wB h) (s)) < wN h := wCh_lt
    by_cases h1 : (wCh (wN h) (wB h) ((wSk (wN h) (wB h) (s)))) = 59
    · rw [if_pos h1] at a4
      have := cl (by omega)
      refine ⟨rLTc_1, List.mem_of_getElem? (i := 1) rfl, pEnd [ρ 0, ρ 1, ρ 2, ρ 3, (s : Int), ((wSk (wN h) (wB h) (s)) : Int), (wCh (wN h) (wB h) ((wSk (wN h) (wB h) (s))))] rfl ?_ ?_ ?_ ?_⟩
      · intro j hj
        match j, hj with
        | 0, _ => exact q0.symm
        | 1, _ => exact q1.symm
        | 2, _ => exact q2.symm
        | 3, _ => exact q3.symm
        | k + 4, hj => exact absurd hj (by show ¬ (k + 4 < 4); omega)
      · intro k b hk
        match k, hk with
        | 0, hk => cases hk; exact (show (0 : Int) ≤ (s : Int) ∧ (s : Int) ≤ (240 : Int) by omega)
        | 1, hk => cases hk; exact (show (0 : Int) ≤ ((wSk (wN h) (wB h) (s)) : Int) ∧ ((wSk (wN h) (wB h) (s)) : Int) ≤ (240 : Int) by omega)
        | 2, hk => cases hk; exact (show (59 : Int) ≤ (wCh (wN h) (wB h) ((wSk (wN h) (wB h) (s)))) ∧ (wCh (wN h) (wB h) ((wSk (wN h) (wB h) (s)))) ≤ (59 : Int) by omega)
        | k + 3, hk => cases hk
      · exact pAll1 (show (1 + (1 * ρ 2 + ((-1) * (s : Int) + 0)) : Int) ≤ 0 by omega) (pAll1 (show (0 + (1 * (s : Int) + ((-1) * ((wSk (wN h) (wB h) (s)) : Int) + 0)) : Int) ≤ 0 by omega) (pAll1 (show (1 + ((-1) * ρ 1 + (1 * ((wSk (wN h) (wB h) (s)) : Int) + 0)) : Int) ≤ 0 by omega) (pAll0)))
      · exact pAll1 (pgG ho hh 513 11 rfl rfl (0) (p) (by omega) (by omega) (show (0 + (1 * ρ 2 + 0) : Int) = _ by omega) (show (0 + (1 * (s : Int) + 0) : Int) = _ by omega)) (pAll1 (pgS ho hh (s) (by omega) (show (0 + (1 * (s : Int) + 0) : Int) = _ by omega) (show (0 + (1 * ((wSk (wN h) (wB h) (s)) : Int) + 0) : Int) = _ by omega)) (pAll1 (pgC ho hh ((wSk (wN h) (wB h) (s))) (by omega) (show (0 + (1 * ((wSk (wN h) (wB h) (s)) : Int) + 0) : Int) = _ by omega) (show (0 + (1 * (wCh (wN h) (wB h) ((wSk (wN h) (wB h) (s)))) + 0) : Int) = _ by omega)) (pAll1 (pgS ho hh ((wSk (wN h) (wB h) (s))) (by omega) (show (0 + (1 * ((wSk (wN h) (wB h) (s)) : Int) + 0) : Int) = _ by omega) (show (0 + (1 * ((wSk (wN h) (wB h) (s)) : Int) + 0) : Int) = _ by omega)) (pAll1 (pgG ho hh 514 12 rfl rfl (0) ((wSk (wN h) (wB h) (s)) + 1) (by omega) (by omega) (show (1 + (1 * ((wSk (wN h) (wB h) (s)) : Int) + 0) : Int) = _ by omega) (show (0 + (1 * ρ 3 + 0) : Int) = _ by omega)) (pAll0)))))
    · rw [if_neg h1] at a4
      by_cases h2 : (wCh (wN h) (wB h) ((wSk (wN h) (wB h) (s)))) = 0
      · rw [if_pos h2] at a4
        have : ¬ (wSk (wN h) (wB h) (s)) < wN h := fun z => by have := cs.2.2 z; omega
        refine ⟨rLTc_2, List.mem_of_getElem? (i := 2) rfl, pEnd [ρ 0, ρ 1, ρ 2, ρ 3, (s : Int), ((wSk (wN h) (wB h) (s)) : Int), (wCh (wN h) (wB h) ((wSk (wN h) (wB h) (s))))] rfl ?_ ?_ ?_ ?_⟩
        · intro j hj
          match j, hj with
          | 0, _ => exact q0.symm
          | 1, _ => exact q1.symm
          | 2, _ => exact q2.symm
          | 3, _ => exact q3.symm
          | k + 4, hj => exact absurd hj (by show ¬ (k + 4 < 4); omega)
        · intro k b hk
          match k, hk with
          | 0, hk => cases hk; exact (show (0 : Int) ≤ (s : Int) ∧ (s : Int) ≤ (240 : Int) by omega)
          | 1, hk => cases hk; exact (show (0 : Int) ≤ ((wSk (wN h) (wB h) (s)) : Int) ∧ ((wSk (wN h) (wB h) (s)) : Int) ≤ (240 : Int) by omega)
          | 2, hk => cases hk; exact (show (0 : Int) ≤ (wCh (wN h) (wB h) ((wSk (wN h) (wB h) (s)))) ∧ (wCh (wN h) (wB h) ((wSk (wN h) (wB h) (s)))) ≤ (0 : Int) by omega)
          | k + 3, hk => cases hk
        · exact pAll1 (show (1 + (1 * ρ 2 + ((-1) * (s : Int) + 0)) : Int) ≤ 0 by omega) (pAll1 (show (0 + (1 * (s : Int) + ((-1) * ((wSk (wN h) (wB h) (s)) : Int) + 0)) : Int) ≤ 0 by omega) (pAll1 (show (0 + ((-1) * ρ 1 + (1 * ((wSk (wN h) (wB h) (s)) : Int) + 0)) : Int) ≤ 0 by omega) (pAll1 (show (0 + (1 * ρ 1 + ((-1) * ((wSk (wN h) (wB h) (s)) : Int) + 0)) : Int) ≤ 0 by omega) (pAll1 (show (0 + (1 * ρ 3 + ((-1) * ((wSk (wN h) (wB h) (s)) : Int) + 0)) : Int) ≤ 0 by omega) (pAll1 (show (0 + ((-1) * ρ 3 + (1 * ((wSk (wN h) (wB h) (s)) : Int) + 0)) : Int) ≤ 0 by omega) (pAll0))))))
        · exact pAll1 (pgG ho hh 513 11 rfl rfl (0) (p) (by omega) (by omega) (show (0 + (1 * ρ 2 + 0) : Int) = _ by omega) (show (0 + (1 * (s : Int) + 0) : Int) = _ by omega)) (pAll1 (pgS ho hh (s) (by omega) (show (0 + (1 * (s : Int) + 0) : Int) = _ by omega) (show (0 + (1 * ((wSk (wN h) (wB h) (s)) : Int) + 0) : Int) = _ by omega)) (pAll1 (pgC ho hh ((wSk (wN h) (wB h) (s))) (by omega) (show (0 + (1 * ((wSk (wN h) (wB h) (s)) : Int) + 0) : Int) = _ by omega) (show (0 + (1 * (wCh (wN h) (wB h) ((wSk (wN h) (wB h) (s)))) + 0) : Int) = _ by omega)) (pAll1 (pgS ho hh ((wSk (wN h) (wB h) (s))) (by omega) (show (0 + (1 * ((wSk (wN h) (wB h) (s)) : Int) + 0) : Int) = _ by omega) (show (0 + (1 * ((wSk (wN h) (wB h) (s)) : Int) + 0) : Int) = _ by omega)) (pAll0))))
      · rw [if_neg h2] at a4
        unfold wFl at a4
        have := cl (by omega)
        have hu : (wCh (wN h) (wB h) ((wSk (wN h) (wB h) (s)))) ≤ 58 ∨ 60 ≤ (wCh (wN h) (wB h) ((wSk (wN h) (wB h) (s)))) := by omega
        rcases hu with hu | hu
        · refine ⟨rLTc_3, List.mem_of_getElem? (i := 3) rfl, pEnd [ρ 0, ρ 1, ρ 2, ρ 3, (s : Int), ((wSk (wN h) (wB h) (s)) : Int), (wCh (wN h) (wB h) ((wSk (wN h) (wB h) (s))))] rfl ?_ ?_ ?_ ?_⟩
          · intro j hj
            match j, hj with
            | 0, _ => exact q0.symm
            | 1, _ => exact q1.symm
            | 2, _ => exact q2.symm
            | 3, _ => exact q3.symm
            | k + 4, hj => exact absurd hj (by show ¬ (k + 4 < 4); omega)
          · intro k b hk
            match k, hk with
            | 0, hk => cases hk; exact (show (0 : Int) ≤ (s : Int) ∧ (s : Int) ≤ (240 : Int) by omega)
            | 1, hk => cases hk; exact (show (0 : Int) ≤ ((wSk (wN h) (wB h) (s)) : Int) ∧ ((wSk (wN h) (wB h) (s)) : Int) ≤ (240 : Int) by omega)
            | 2, hk => cases hk; exact (show (1 : Int) ≤ (wCh (wN h) (wB h) ((wSk (wN h) (wB h) (s)))) ∧ (wCh (wN h) (wB h) ((wSk (wN h) (wB h) (s)))) ≤ (58 : Int) by omega)
            | k + 3, hk => cases hk
          · exact pAll1 (show (1 + (1 * ρ 2 + ((-1) * (s : Int) + 0)) : Int) ≤ 0 by omega) (pAll1 (show (0 + (1 * (s : Int) + ((-1) * ((wSk (wN h) (wB h) (s)) : Int) + 0)) : Int) ≤ 0 by omega) (pAll1 (show (1 + ((-1) * ρ 1 + (1 * ((wSk (wN h) (wB h) (s)) : Int) + 0)) : Int) ≤ 0 by omega) (pAll1 (show (1 + (1 * ρ 3 + (1 * ((wSk (wN h) (wB h) (s)) : Int) + 0)) : Int) ≤ 0 by omega) (pAll1 (show ((-1) + ((-1) * ρ 3 + ((-1) * ((wSk (wN h) (wB h) (s)) : Int) + 0)) : Int) ≤ 0 by omega) (pAll0)))))
          · exact pAll1 (pgG ho hh 513 11 rfl rfl (0) (p) (by omega) (by omega) (show (0 + (1 * ρ 2 + 0) : Int) = _ by omega) (show (0 + (1 * (s : Int) + 0) : Int) = _ by omega)) (pAll1 (pgS ho hh (s) (by omega) (show (0 + (1 * (s : Int) + 0) : Int) = _ by omega) (show (0 + (1 * ((wSk (wN h) (wB h) (s)) : Int) + 0) : Int) = _ by omega)) (pAll1 (pgC ho hh ((wSk (wN h) (wB h) (s))) (by omega) (show (0 + (1 * ((wSk (wN h) (wB h) (s)) : Int) + 0) : Int) = _ by omega) (show (0 + (1 * (wCh (wN h) (wB h) ((wSk (wN h) (wB h) (s)))) + 0) : Int) = _ by omega)) (pAll1 (pgS ho hh ((wSk (wN h) (wB h) (s))) (by omega) (show (0 + (1 * ((wSk (wN h) (wB h) (s)) : Int) + 0) : Int) = _ by omega) (show (0 + (1 * ((wSk (wN h) (wB h) (s)) : Int) + 0) : Int) = _ by omega)) (pAll0))))
        · refine ⟨rLTc_4, List.mem_of_getElem? (i := 4) rfl, pEnd [ρ 0, ρ 1, ρ 2, ρ 3, (s : Int), ((wSk (wN h) (wB h) (s)) : Int), (wCh (wN h) (wB h) ((wSk (wN h) (wB h) (s))))] rfl ?_ ?_ ?_ ?_⟩
          · intro j hj
            match j, hj with
            | 0, _ => exact q0.symm
            | 1, _ => exact q1.symm
            | 2, _ => exact q2.symm
            | 3, _ => exact q3.symm
            | k + 4, hj => exact absurd hj (by show ¬ (k + 4 < 4); omega)
          · intro k b hk
            match k, hk with
            | 0, hk => cases hk; exact (show (0 : Int) ≤ (s : Int) ∧ (s : Int) ≤ (240 : Int) by omega)
            | 1, hk => cases hk; exact (show (0 : Int) ≤ ((wSk (wN h) (wB h) (s)) : Int) ∧ ((wSk (wN h) (wB h) (s)) : Int) ≤ (240 : Int) by omega)
            | 2, hk => cases hk; exact (show (60 : Int) ≤ (wCh (wN h) (wB h) ((wSk (wN h) (wB h) (s)))) ∧ (wCh (wN h) (wB h) ((wSk (wN h) (wB h) (s)))) ≤ (255 : Int) by omega)
            | k + 3, hk => cases hk
          · exact pAll1 (show (1 + (1 * ρ 2 + ((-1) * (s : Int) + 0)) : Int) ≤ 0 by omega) (pAll1 (show (0 + (1 * (s : Int) + ((-1) * ((wSk (wN h) (wB h) (s)) : Int) + 0)) : Int) ≤ 0 by omega) (pAll1 (show (1 + ((-1) * ρ 1 + (1 * ((wSk (wN h) (wB h) (s)) : Int) + 0)) : Int) ≤ 0 by omega) (pAll1 (show (1 + (1 * ρ 3 + (1 * ((wSk (wN h) (wB h) (s)) : Int) + 0)) : Int) ≤ 0 by omega) (pAll1 (show ((-1) + ((-1) * ρ 3 + ((-1) * ((wSk (wN h) (wB h) (s)) : Int) + 0)) : Int) ≤ 0 by omega) (pAll0)))))
          · exact pAll1 (pgG ho hh 513 11 rfl rfl (0) (p) (by omega) (by omega) (show (0 + (1 * ρ 2 + 0) : Int) = _ by omega) (show (0 + (1 * (s : Int) + 0) : Int) = _ by omega)) (pAll1 (pgS ho hh (s) (by omega) (show (0 + (1 * (s : Int) + 0) : Int) = _ by omega) (show (0 + (1 * ((wSk (wN h) (wB h) (s)) : Int) + 0) : Int) = _ by omega)) (pAll1 (pgC ho hh ((wSk (wN h) (wB h) (s))) (by omega) (show (0 + (1 * ((wSk (wN h) (wB h) (s)) : Int) + 0) : Int) = _ by omega) (show (0 + (1 * (wCh (wN h) (wB h) ((wSk (wN h) (wB h) (s)))) + 0) : Int) = _ by omega)) (pAll1 (pgS ho hh ((wSk (wN h) (wB h) (s))) (by omega) (show (0 + (1 * ((wSk (wN h) (wB h) (s)) : Int) + 0) : Int) = _ by omega) (show (0 + (1 * ((wSk (wN h) (wB h) (s)) : Int) + 0) : Int) = _ by omega)) (pAll0))))
noncomputable def rSKm_0 : sX := (none, [(500, (1, [(2, 1)]), (0, [(3, 1)])), (87, (0, [(2, 1)]), (0, [(5, 1)]))], [], [(1, [(1, (-1)), (2, 1)]), ((-32), [(5, 1)]), (32, [(5, (-1))])], [])
noncomputable def rSKm_1 : sX := (none, [(87, (0, [(2, 1)]), (0, [(5, 1)]))], [], [(1, [(1, (-1)), (2, 1)]), (0, [(2, (-1)), (3, 1)]), (0, [(2, 1), (3, (-1))]), (1, [(5, (-1))]), (0, [(4, 1), (5, (-1))]), (0, [(4, (-1)), (5, 1)]), ((-31), [(5, 1)])], [])
noncomputable def rSKm_2 : sX := (none, [(87, (0, [(2, 1)]), (0, [(5, 1)]))], [], [(1, [(1, (-1)), (2, 1)]), (0, [(2, (-1)), (3, 1)]), (0, [(2, 1), (3, (-1))]), (1, [(5, (-1))]), (0, [(4, 1), (5, (-1))]), (0, [(4, (-1)), (5, 1)]), (33, [(5, (-1))])], [])
noncomputable def rSKm_3 : sX := (none, [], [], [(0, [(1, (-1)), (2, 1)]), (0, [(1, 1), (2, (-1))]), (0, [(2, (-1)), (3, 1)]), (0, [(2, 1), (3, (-1))]), (0, [(5, 1)]), (0, [(5, (-1))]), (0, [(4, 1)]), (0, [(4, (-1))])], [])
noncomputable def rSKm : sQ := (0, ([], [(2, 1013, (0, [])), (2, 120, (2, [])), (2, 120, (3, [])), (2, 500, (0, [(2, 1)])), (2, 501, (0, [(3, 1)])), (2, 501, (0, [(2, 1)]))], [(1, 1), (0, 240), (0, 240), (0, 240), (0, 255), (0, 255)], [(0, [(1, (-1)), (2, 1)])], [(0, 0), (1, 1), (2, 2), (3, 3), (4, 4), (5, 5)], (0, [])), [rSKm_0, rSKm_1, rSKm_2, rSKm_3], [], 0)
theorem rSKm_ok : pRul pReg pG pgv rSKm := by
  intro loc h ρ ρ0 hG hM
  have hM : sMt pReg pgv ρ ρ0 (sAs rSKm.2.1) loc [] h := hM
  have q0 : ρ0 1 = ρ 0 := (hM.2.2.2.2.2 (1, sY 0) (List.mem_of_getElem? (i := 1) rfl)).trans (sY_v ρ 0)
  have q1 : ρ0 2 = ρ 1 := (hM.2.2.2.2.2 (2, sY 1) (List.mem_of_getElem? (i := 2) rfl)).trans (sY_v ρ 1)
  have q2 : ρ0 3 = ρ 2 := (hM.2.2.2.2.2 (3, sY 2) (List.mem_of_getElem? (i := 3) rfl)).trans (sY_v ρ 2)
  have q3 : ρ0 4 = ρ 3 := (hM.2.2.2.2.2 (4, sY 3) (List.mem_of_getElem? (i := 4) rfl)).trans (sY_v ρ 3)
  have q4 : ρ0 5 = ρ 4 := (hM.2.2.2.2.2 (5, sY 4) (List.mem_of_getElem? (i := 5) rfl)).trans (sY_v ρ 4)
  have q5 : ρ0 6 = ρ 5 := (hM.2.2.2.2.2 (6, sY 5) (List.mem_of_getElem? (i := 6) rfl)).trans (sY_v ρ 5)
  have hL : ∀ j, j < 6 → pL [ρ 0, ρ 1, ρ 2, ρ 3, ρ 4, ρ 5] j = ρ0 (j + 1) := by
    intro j hj
    match j, hj with
    | 0, _ => exact q0.symm
    | 1, _ => exact q1.symm
    | 2, _ => exact q2.symm
    | 3, _ => exact q3.symm
    | 4, _ => exact q4.symm
    | 5, _ => exact q5.symm
    | k + 6, hj => omega
  have b0 : (1 : Int) ≤ ρ 0 ∧ ρ 0 ≤ 1 := hM.2.2.2.1 0 (1, 1) rfl
  have b1 : (0 : Int) ≤ ρ 1 ∧ ρ 1 ≤ 240 := hM.2.2.2.1 1 (0, 240) rfl
  have b2 : (0 : Int) ≤ ρ 2 ∧ ρ 2 ≤ 240 := hM.2.2.2.1 2 (0, 240) rfl
  have b3 : (0 : Int) ≤ ρ 3 ∧ ρ 3 ≤ 240 := hM.2.2.2.1 3 (0, 240) rfl
  have b4 : (0 : Int) ≤ ρ 4 ∧ ρ 4 ≤ 255 := hM.2.2.2.1 4 (0, 255) rfl
  have b5 : (0 : Int) ≤ ρ 5 ∧ ρ 5 ≤ 255 := hM.2.2.2.1 5 (0, 255) rfl
  have c0 : (0 + ((-1) * ρ 1 + (1 * ρ 2 + 0)) : Int) ≤ 0 := hM.2.2.2.2.1 (0, [(1, (-1)), (2, 1)]) (List.mem_of_getElem? (i := 0) rfl)
  obtain ⟨ho, hs, hh⟩ := pTold13 hM 0 (0, []) rfl b0.1
  have hn := ho.1
  have en : ρ 1 = (wN h : Int) := (pPl hM 1 120 (2, []) rfl (by omega) 440 2 (by decide +kernel) rfl).symm.trans hs.1
  obtain ⟨p, ep⟩ : ∃ p : Nat, ρ 2 = (p : Int) := ⟨(ρ 2).toNat, by omega⟩
  have hp : p ≤ wN h := by omega
  obtain ⟨s1, s2⟩ := wSk_le (B := wB h) hp
  have es : ρ 3 = ((wSk (wN h) (wB h) (p)) : Int) := pfS hM ho hh 3 (0, [(2, 1)]) rfl (p := p) (by omega) (by show (0 + (1 * ρ 2 + 0) : Int) = _; omega)
  have ee : ρ 4 = (wCh (wN h) (wB h) ((wSk (wN h) (wB h) (p)))) := pfC hM ho hh 4 (0, [(3, 1)]) rfl (p := (wSk (wN h) (wB h) (p))) (by omega) (by show (0 + (1 * ρ 3 + 0) : Int) = _; omega)
  have cbe := wCh_bd ho ((wSk (wN h) (wB h) (p)))
  have cle : (wCh (wN h) (wB h) ((wSk (wN h) (wB h) (p)))) ≠ 0 → (wSk (wN h) (wB h) (p)) < wN h := wCh_lt
  have ec : ρ 5 = (wCh (wN h) (wB h) (p)) := pfC hM ho hh 5 (0, [(2, 1)]) rfl (p := p) (by omega) (by show (0 + (1 * ρ 2 + 0) : Int) = _; omega)
  have cbc := wCh_bd ho (p)
  have clc : (wCh (wN h) (wB h) (p)) ≠ 0 → p < wN h := wCh_lt
  have eS := wSk_eq (n := wN h) (B := wB h) (p := p)
  have eP : wCh (wN h) (wB h) p = if p < wN h then wB h p else 0 := rfl
  by_cases h1 : p < wN h
  · rw [if_pos h1] at eP
    by_cases h2 : wB h p = 32
    · rw [if_pos ⟨h1, h2⟩] at eS
      refine ⟨rSKm_0, List.mem_of_getElem? (i := 0) rfl, pEnd [ρ 0, ρ 1, ρ 2, ρ 3, ρ 4, ρ 5] rfl ?_ ?_ ?_ ?_⟩
      · exact hL
      · intro k b hk
        cases hk
      · exact pAll1 (show (1 + ((-1) * ρ 1 + (1 * ρ 2 + 0)) : Int) ≤ 0 by omega) (pAll1 (show ((-32) + (1 * ρ 5 + 0) : Int) ≤ 0 by omega) (pAll1 (show (32 + ((-1) * ρ 5 + 0) : Int) ≤ 0 by omega) (pAll0)))
      · exact pAll1 (pgS ho hh (p + 1) (by omega) (show (1 + (1 * ρ 2 + 0) : Int) = _ by omega) (show (0 + (1 * ρ 3 + 0) : Int) = _ by omega)) (pAll1 (pTapem hs ho p (by omega) (show (0 + (1 * ρ 2 + 0) : Int) = _ by omega) (show (0 + (1 * ρ 5 + 0) : Int) = _ by omega)) (pAll0))
    · rw [if_neg (fun z => h2 z.2)] at eS
      have ee : (wCh (wN h) (wB h) ((wSk (wN h) (wB h) (p)))) = (wCh (wN h) (wB h) (p)) := by rw [eS]
      have hu : (wCh (wN h) (wB h) (p)) ≤ 31 ∨ 33 ≤ (wCh (wN h) (wB h) (p)) := by omega
      rcases hu with hu | hu
      · refine ⟨rSKm_1, List.mem_of_getElem? (i := 1) rfl, pEnd [ρ 0, ρ 1, ρ 2, ρ 3, ρ 4, ρ 5] rfl ?_ ?_ ?_ ?_⟩
        · exact hL
        · intro k b hk
          cases hk
        · exact pAll1 (show (1 + ((-1) * ρ 1 + (1 * ρ 2 + 0)) : Int) ≤ 0 by omega) (pAll1 (show (0 + ((-1) * ρ 2 + (1 * ρ 3 + 0)) : Int) ≤ 0 by omega) (pAll1 (show (0 + (1 * ρ 2 + ((-1) * ρ 3 + 0)) : Int) ≤ 0 by omega) (pAll1 (show (1 + ((-1) * ρ 5 + 0) : Int) ≤ 0 by omega) (pAll1 (show (0 + (1 * ρ 4 + ((-1) * ρ 5 + 0)) : Int) ≤ 0 by omega) (pAll1 (show (0 + ((-1) * ρ 4 + (1 * ρ 5 + 0)) : Int) ≤ 0 by omega) (pAll1 (show ((-31) + (1 * ρ 5 + 0) : Int) ≤ 0 by omega) (pAll0)))))))
        · exact pAll1 (pTapem hs ho p (by omega) (show (0 + (1 * ρ 2 + 0) : Int) = _ by omega) (show (0 + (1 * ρ 5 + 0) : Int) = _ by omega)) (pAll0)
      · refine ⟨rSKm_2, List.mem_of_getElem? (i := 2) rfl, pEnd [ρ 0, ρ 1, ρ 2, ρ 3, ρ 4, ρ 5] rfl ?_ ?_ ?_ ?_⟩
        · exact hL
        · intro k b hk
          cases hk
        · exact pAll1 (show (1 + ((-1) * ρ 1 + (1 * ρ 2 + 0)) : Int) ≤ 0 by omega) (pAll1 (show (0 + ((-1) * ρ 2 + (1 * ρ 3 + 0)) : Int) ≤ 0 by omega) (pAll1 (show (0 + (1 * ρ 2 + ((-1) * ρ 3 + 0)) : Int) ≤ 0 by omega) (pAll1 (show (1 + ((-1) * ρ 5 + 0) : Int) ≤ 0 by omega) (pAll1 (show (0 + (1 * ρ 4 + ((-1) * ρ 5 + 0)) : Int) ≤ 0 by omega) (pAll1 (show (0 + ((-1) * ρ 4 + (1 * ρ 5 + 0)) : Int) ≤ 0 by omega) (pAll1 (show (33 + ((-1) * ρ 5 + 0) : Int) ≤ 0 by omega) (pAll0)))))))
        · exact pAll1 (pTapem hs ho p (by omega) (show (0 + (1 * ρ 2 + 0) : Int) = _ by omega) (show (0 + (1 * ρ 5 + 0) : Int) = _ by omega)) (pAll0)
  · rw [if_neg h1] at eP
    rw [if_neg (fun z => h1 z.1)] at eS
    have ee : (wCh (wN h) (wB h) ((wSk (wN h) (wB h) (p)))) = (wCh (wN h) (wB h) (p)) := by rw [eS]
    refine ⟨rSKm_3, List.mem_of_getElem? (i := 3) rfl, pEnd [ρ 0, ρ 1, ρ 2, ρ 3, ρ 4, ρ 5] rfl ?_ ?_ ?_ ?_⟩
    · exact hL
    · intro k b hk
      cases hk
    · exact pAll1 (show (0 + ((-1) * ρ 1 + (1 * ρ 2 + 0)) : Int) ≤ 0 by omega) (pAll1 (show (0 + (1 * ρ 1 + ((-1) * ρ 2 + 0)) : Int) ≤ 0 by omega) (pAll1 (show (0 + ((-1) * ρ 2 + (1 * ρ 3 + 0)) : Int) ≤ 0 by omega) (pAll1 (show (0 + (1 * ρ 2 + ((-1) * ρ 3 + 0)) : Int) ≤ 0 by omega) (pAll1 (show (0 + (1 * ρ 5 + 0) : Int) ≤ 0 by omega) (pAll1 (show (0 + ((-1) * ρ 5 + 0) : Int) ≤ 0 by omega) (pAll1 (show (0 + (1 * ρ 4 + 0) : Int) ≤ 0 by omega) (pAll1 (show (0 + ((-1) * ρ 4 + 0) : Int) ≤ 0 by omega) (pAll0))))))))
    · exact pAll0
noncomputable def rIDm_0 : sX := (none, [(500, (0, [(3, 1)]), (0, [(3, 1)]))], [], [(0, [(2, 1), (3, (-1))]), (0, [(1, (-1)), (3, 1)])], [])
noncomputable def rIDm : sQ := (0, ([], [(2, 1013, (0, [])), (2, 120, (2, [])), (2, 120, (3, [])), (2, 500, (0, [(2, 1)]))], [(1, 1), (0, 240), (0, 240), (0, 240)], [(0, [(1, (-1)), (2, 1)])], [(0, 0), (1, 1), (2, 2), (3, 3)], (0, [])), [rIDm_0], [], 0)
theorem rIDm_ok : pRul pReg pG pgv rIDm := by
  intro loc h ρ ρ0 hG hM
  have hM : sMt pReg pgv ρ ρ0 (sAs rIDm.2.1) loc [] h := hM
  have q0 : ρ0 1 = ρ 0 := (hM.2.2.2.2.2 (1, sY 0) (List.mem_of_getElem? (i := 1) rfl)).trans (sY_v ρ 0)
  have q1 : ρ0 2 = ρ 1 := (hM.2.2.2.2.2 (2, sY 1) (List.mem_of_getElem? (i := 2) rfl)).trans (sY_v ρ 1)
  have q2 : ρ0 3 = ρ 2 := (hM.2.2.2.2.2 (3, sY 2) (List.mem_of_getElem? (i := 3) rfl)).trans (sY_v ρ 2)
  have q3 : ρ0 4 = ρ 3 := (hM.2.2.2.2.2 (4, sY 3) (List.mem_of_getElem? (i := 4) rfl)).trans (sY_v ρ 3)
  have hL : ∀ j, j < 4 → pL [ρ 0, ρ 1, ρ 2, ρ 3] j = ρ0 (j + 1) := by
    intro j hj
    match j, hj with
    | 0, _ => exact q0.symm
    | 1, _ => exact q1.symm
    | 2, _ => exact q2.symm
    | 3, _ => exact q3.symm
    | k + 4, hj => omega
  have b0 : (1 : Int) ≤ ρ 0 ∧ ρ 0 ≤ 1 := hM.2.2.2.1 0 (1, 1) rfl
  have b1 : (0 : Int) ≤ ρ 1 ∧ ρ 1 ≤ 240 := hM.2.2.2.1 1 (0, 240) rfl
  have b2 : (0 : Int) ≤ ρ 2 ∧ ρ 2 ≤ 240 := hM.2.2.2.1 2 (0, 240) rfl
  have b3 : (0 : Int) ≤ ρ 3 ∧ ρ 3 ≤ 240 := hM.2.2.2.1 3 (0, 240) rfl
  have c0 : (0 + ((-1) * ρ 1 + (1 * ρ 2 + 0)) : Int) ≤ 0 := hM.2.2.2.2.1 (0, [(1, (-1)), (2, 1)]) (List.mem_of_getElem? (i := 0) rfl)
  obtain ⟨ho, hs, hh⟩ := pTold13 hM 0 (0, []) rfl b0.1
  have hn := ho.1
  have en : ρ 1 = (wN h : Int) := (pPl hM 1 120 (2, []) rfl (by omega) 440 2 (by decide +kernel) rfl).symm.trans hs.1
  obtain ⟨p, ep⟩ : ∃ p : Nat, ρ 2 = (p : Int) := ⟨(ρ 2).toNat, by omega⟩
  have hp : p ≤ wN h := by omega
  obtain ⟨s1, s2⟩ := wSk_le (B := wB h) hp
  have eq : ρ 3 = ((wSk (wN h) (wB h) (p)) : Int) := pfS hM ho hh 3 (0, [(2, 1)]) rfl (p := p) (by omega) (by show (0 + (1 * ρ 2 + 0) : Int) = _; omega)
  have hi := wSk_id (B := wB h) hp
  refine ⟨rIDm_0, List.mem_of_getElem? (i := 0) rfl, pEnd [ρ 0, ρ 1, ρ 2, ρ 3] rfl ?_ ?_ ?_ ?_⟩
  · exact hL
  · intro k b hk
    cases hk
  · exact pAll1 (show (0 + (1 * ρ 2 + ((-1) * ρ 3 + 0)) : Int) ≤ 0 by omega) (pAll1 (show (0 + ((-1) * ρ 1 + (1 * ρ 3 + 0)) : Int) ≤ 0 by omega) (pAll0))
  · exact pAll1 (pgS ho hh ((wSk (wN h) (wB h) (p))) (by omega) (show (0 + (1 * ρ 3 + 0) : Int) = _ by omega) (show (0 + (1 * ρ 3 + 0) : Int) = _ by omega)) (pAll0)
noncomputable def rNUm_0 : sX := (none, [(501, (1, [(3, 1)]), (0, [(6, 1)]))], [(0, 47)], [(0, [(2, 1), (3, (-1))]), (0, [(1, (-1)), (3, 1)]), (48, [(4, (-1))]), ((-57), [(4, 1)]), (1, [(1, (-1)), (3, 1)]), ((-1), [(3, (-1)), (5, 1)]), (1, [(3, 1), (5, (-1))])], [])
noncomputable def rNUm_1 : sX := (none, [(501, (1, [(3, 1)]), (0, [(6, 1)]))], [(58, 255)], [(0, [(2, 1), (3, (-1))]), (0, [(1, (-1)), (3, 1)]), (48, [(4, (-1))]), ((-57), [(4, 1)]), (1, [(1, (-1)), (3, 1)]), ((-1), [(3, (-1)), (5, 1)]), (1, [(3, 1), (5, (-1))])], [])
noncomputable def rNUm_2 : sX := (none, [(501, (1, [(3, 1)]), (0, [(6, 1)])), (501, (2, [(3, 1)]), (0, [(7, 1)]))], [(48, 57), (0, 47)], [(0, [(2, 1), (3, (-1))]), (0, [(1, (-1)), (3, 1)]), (48, [(4, (-1))]), ((-57), [(4, 1)]), (2, [(1, (-1)), (3, 1)]), ((-2), [(3, (-1)), (5, 1)]), (2, [(3, 1), (5, (-1))])], [])
noncomputable def rNUm_3 : sX := (none, [(501, (1, [(3, 1)]), (0, [(6, 1)])), (501, (2, [(3, 1)]), (0, [(7, 1)]))], [(48, 57), (58, 255)], [(0, [(2, 1), (3, (-1))]), (0, [(1, (-1)), (3, 1)]), (48, [(4, (-1))]), ((-57), [(4, 1)]), (2, [(1, (-1)), (3, 1)]), ((-2), [(3, (-1)), (5, 1)]), (2, [(3, 1), (5, (-1))])], [])
noncomputable def rNUm_4 : sX := (none, [(501, (1, [(3, 1)]), (0, [(6, 1)])), (501, (2, [(3, 1)]), (0, [(7, 1)])), (501, (3, [(3, 1)]), (0, [(8, 1)]))], [(48, 57), (48, 57), (0, 47)], [(0, [(2, 1), (3, (-1))]), (0, [(1, (-1)), (3, 1)]), (48, [(4, (-1))]), ((-57), [(4, 1)]), (3, [(1, (-1)), (3, 1)]), ((-3), [(3, (-1)), (5, 1)]), (3, [(3, 1), (5, (-1))])], [])
noncomputable def rNUm_5 : sX := (none, [(501, (1, [(3, 1)]), (0, [(6, 1)])), (501, (2, [(3, 1)]), (0, [(7, 1)])), (501, (3, [(3, 1)]), (0, [(8, 1)]))], [(48, 57), (48, 57), (58, 255)], [(0, [(2, 1), (3, (-1))]), (0, [(1, (-1)), (3, 1)]), (48, [(4, (-1))]), ((-57), [(4, 1)]), (3, [(1, (-1)), (3, 1)]), ((-3), [(3, (-1)), (5, 1)]), (3, [(3, 1), (5, (-1))])], [])
noncomputable def rNUm_6 : sX := (none, [(501, (1, [(3, 1)]), (0, [(6, 1)])), (501, (2, [(3, 1)]), (0, [(7, 1)])), (501, (3, [(3, 1)]), (0, [(8, 1)])), (501, (4, [(3, 1)]), (0, [(9, 1)]))], [(48, 57), (48, 57), (48, 57), (0, 47)], [(0, [(2, 1), (3, (-1))]), (0, [(1, (-1)), (3, 1)]), (48, [(4, (-1))]), ((-57), [(4, 1)]), (4, [(1, (-1)), (3, 1)]), ((-4), [(3, (-1)), (5, 1)]), (4, [(3, 1), (5, (-1))])], [])
noncomputable def rNUm_7 : sX := (none, [(501, (1, [(3, 1)]), (0, [(6, 1)])), (501, (2, [(3, 1)]), (0, [(7, 1)])), (501, (3, [(3, 1)]), (0, [(8, 1)])), (501, (4, [(3, 1)]), (0, [(9, 1)]))], [(48, 57), (48, 57), (48, 57), (58, 255)], [(0, [(2, 1), (3, (-1))]), (0, [(1, (-1)), (3, 1)]), (48, [(4, (-1))]), ((-57), [(4, 1)]), (4, [(1, (-1)), (3, 1)]), ((-4), [(3, (-1)), (5, 1)]), (4, [(3, 1), (5, (-1))])], [])
noncomputable def rNUm_8 : sX := (none, [(501, (1, [(3, 1)]), (0, [(6, 1)])), (501, (2, [(3, 1)]), (0, [(7, 1)])), (501, (3, [(3, 1)]), (0, [(8, 1)])), (501, (4, [(3, 1)]), (0, [(9, 1)]))], [(48, 57), (48, 57), (48, 57), (48, 57)], [(0, [(2, 1), (3, (-1))]), (0, [(1, (-1)), (3, 1)]), (48, [(4, (-1))]), ((-57), [(4, 1)]), (5, [(1, (-1)), (3, 1)]), (5, [(3, 1), (5, 1)]), ((-5), [(3, (-1)), (5, (-1))])], [])
noncomputable def rNUm : sQ := (0, ([], [(2, 1013, (0, [])), (2, 120, (2, [])), (2, 120, (3, [])), (2, 500, (0, [(2, 1)])), (2, 501, (0, [(3, 1)])), (2, 516, (0, [(3, 1)]))], [(1, 1), (0, 240), (0, 240), (0, 240), (0, 255), ((-241), 240)], [(0, [(1, (-1)), (2, 1)]), (48, [(4, (-1))]), ((-57), [(4, 1)])], [(0, 0), (1, 1), (2, 2), (3, 3), (4, 4), (5, 5)], (0, [])), [rNUm_0, rNUm_1, rNUm_2, rNUm_3, rNUm_4, rNUm_5, rNUm_6, rNUm_7, rNUm_8], [], 0)
theorem rNUm_ok : pRul pReg pG pgv rNUm := by
  intro loc h ρ ρ0 hG hM
  have hM : sMt pReg pgv ρ ρ0 (sAs rNUm.2.1) loc [] h := hM
  have q0 : ρ0 1 = ρ 0 := (hM.2.2.2.2.2 (1, sY 0) (List.mem_of_getElem? (i := 1) rfl)).trans (sY_v ρ 0)
  have q1 : ρ0 2 = ρ 1 := (hM.2.2.2.2.2 (2, sY 1) (List.mem_of_getElem? (i := 2) rfl)).trans (sY_v ρ 1)
  have q2 : ρ0 3 = ρ 2 := (hM.2.2.2.2.2 (3, sY 2) (List.mem_of_getElem? (i := 3) rfl)).trans (sY_v ρ 2)
  have q3 : ρ0 4 = ρ 3 := (hM.2.2.2.2.2 (4, sY 3) (List.mem_of_getElem? (i := 4) rfl)).trans (sY_v ρ 3)
  have q4 : ρ0 5 = ρ 4 := (hM.2.2.2.2.2 (5, sY 4) (List.mem_of_getElem? (i := 5) rfl)).trans (sY_v ρ 4)
  have q5 : ρ0 6 = ρ 5 := (hM.2.2.2.2.2 (6, sY 5) (List.mem_of_getElem? (i := 6) rfl)).trans (sY_v ρ 5)
  have hL : ∀ j, j < 6 → pL [ρ 0, ρ 1, ρ 2, ρ 3, ρ 4, ρ 5] j = ρ0 (j + 1) := by
    intro j hj
    match j, hj with
    | 0, _ => exact q0.symm
    | 1, _ => exact q1.symm
    | 2, _ => exact q2.symm
    | 3, _ => exact q3.symm
    | 4, _ => exact q4.symm
    | 5, _ => exact q5.symm
    | k + 6, hj => omega
  have b0 : (1 : Int) ≤ ρ 0 ∧ ρ 0 ≤ 1 := hM.2.2.2.1 0 (1, 1) rfl
  have b1 : (0 : Int) ≤ ρ 1 ∧ ρ 1 ≤ 240 := hM.2.2.2.1 1 (0, 240) rfl
  have b2 : (0 : Int) ≤ ρ 2 ∧ ρ 2 ≤ 240 := hM.2.2.2.1 2 (0, 240) rfl
  have b3 : (0 : Int) ≤ ρ 3 ∧ ρ 3 ≤ 240 := hM.2.2.2.1 3 (0, 240) rfl
  have b4 : (0 : Int) ≤ ρ 4 ∧ ρ 4 ≤ 255 := hM.2.2.2.1 4 (0, 255) rfl
  have b5 : ((-241) : Int) ≤ ρ 5 ∧ ρ 5 ≤ 240 := hM.2.2.2.1 5 ((-241), 240) rfl
  have c0 : (0 + ((-1) * ρ 1 + (1 * ρ 2 + 0)) : Int) ≤ 0 := hM.2.2.2.2.1 (0, [(1, (-1)), (2, 1)]) (List.mem_of_getElem? (i := 0) rfl)
  have c1 : (48 + ((-1) * ρ 4 + 0) : Int) ≤ 0 := hM.2.2.2.2.1 (48, [(4, (-1))]) (List.mem_of_getElem? (i := 1) rfl)
  have c2 : ((-57) + (1 * ρ 4 + 0) : Int) ≤ 0 := hM.2.2.2.2.1 ((-57), [(4, 1)]) (List.mem_of_getElem? (i := 2) rfl)
  obtain ⟨ho, hs, hh⟩ := pTold13 hM 0 (0, []) rfl b0.1
  have hn := ho.1
  have en : ρ 1 = (wN h : Int) := (pPl hM 1 120 (2, []) rfl (by omega) 440 2 (by decide +kernel) rfl).symm.trans hs.1
  obtain ⟨p, ep⟩ : ∃ p : Nat, ρ 2 = (p : Int) := ⟨(ρ 2).toNat, by omega⟩
  have hp : p ≤ wN h := by omega
  obtain ⟨s1, s2⟩ := wSk_le (B := wB h) hp
  have eq : ρ 3 = ((wSk (wN h) (wB h) (p)) : Int) := pfS hM ho hh 3 (0, [(2, 1)]) rfl (p := p) (by omega) (by show (0 + (1 * ρ 2 + 0) : Int) = _; omega)
  have ec : ρ 4 = (wCh (wN h) (wB h) ((wSk (wN h) (wB h) (p)))) := pfC hM ho hh 4 (0, [(3, 1)]) rfl (p := (wSk (wN h) (wB h) (p))) (by omega) (by show (0 + (1 * ρ 3 + 0) : Int) = _; omega)
  have cbc := wCh_bd ho ((wSk (wN h) (wB h) (p)))
  have clc : (wCh (wN h) (wB h) ((wSk (wN h) (wB h) (p)))) ≠ 0 → (wSk (wN h) (wB h) (p)) < wN h := wCh_lt
  have hd : 48 ≤ (wCh (wN h) (wB h) ((wSk (wN h) (wB h) (p)))) ∧ (wCh (wN h) (wB h) ((wSk (wN h) (wB h) (p)))) ≤ 57 := by omega
  have ev : ρ 5 = wNu (wN h) (wB h) (wSk (wN h) (wB h) (p)) := pfN hM ho hh 5 (0, [(3, 1)]) rfl (p := (wSk (wN h) (wB h) (p))) s2 hd (by show (0 + (1 * ρ 3 + 0) : Int) = _; omega)
  have hq := clc (by omega)
  unfold wNu at ev
  have n1 : 48 ≤ (wCh (wN h) (wB h) ((wSk (wN h) (wB h) (p)) + 1)) → (wSk (wN h) (wB h) (p)) + 1 < wN h := fun z => wCh_lt (B := wB h) (by omega)
  have m1 := wCh_bd ho ((wSk (wN h) (wB h) (p)) + 1)
  have n2 : 48 ≤ (wCh (wN h) (wB h) ((wSk (wN h) (wB h) (p)) + 2)) → (wSk (wN h) (wB h) (p)) + 2 < wN h := fun z => wCh_lt (B := wB h) (by omega)
  have m2 := wCh_bd ho ((wSk (wN h) (wB h) (p)) + 2)
  have n3 : 48 ≤ (wCh (wN h) (wB h) ((wSk (wN h) (wB h) (p)) + 3)) → (wSk (wN h) (wB h) (p)) + 3 < wN h := fun z => wCh_lt (B := wB h) (by omega)
  have m3 := wCh_bd ho ((wSk (wN h) (wB h) (p)) + 3)
  have n4 : 48 ≤ (wCh (wN h) (wB h) ((wSk (wN h) (wB h) (p)) + 4)) → (wSk (wN h) (wB h) (p)) + 4 < wN h := fun z => wCh_lt (B := wB h) (by omega)
  have m4 := wCh_bd ho ((wSk (wN h) (wB h) (p)) + 4)
  by_cases h1 : 48 ≤ (wCh (wN h) (wB h) ((wSk (wN h) (wB h) (p)) + 1)) ∧ (wCh (wN h) (wB h) ((wSk (wN h) (wB h) (p)) + 1)) ≤ 57
  · rw [if_pos h1] at ev
    have := n1 h1.1
    by_cases h2 : 48 ≤ (wCh (wN h) (wB h) ((wSk (wN h) (wB h) (p)) + 2)) ∧ (wCh (wN h) (wB h) ((wSk (wN h) (wB h) (p)) + 2)) ≤ 57
    · rw [if_pos h2] at ev
      have := n2 h2.1
      by_cases h3 : 48 ≤ (wCh (wN h) (wB h) ((wSk (wN h) (wB h) (p)) + 3)) ∧ (wCh (wN h) (wB h) ((wSk (wN h) (wB h) (p)) + 3)) ≤ 57
      · rw [if_pos h3] at ev
        have := n3 h3.1
        by_cases h4 : 48 ≤ (wCh (wN h) (wB h) ((wSk (wN h) (wB h) (p)) + 4)) ∧ (wCh (wN h) (wB h) ((wSk (wN h) (wB h) (p)) + 4)) ≤ 57
        · rw [if_pos h4] at ev
          have := n4 h4.1
          unfold wFl at ev
          refine ⟨rNUm_8, List.mem_of_getElem? (i := 8) rfl, pEnd [ρ 0, ρ 1, ρ 2, ρ 3, ρ 4, ρ 5, (wCh (wN h) (wB h) ((wSk (wN h) (wB h) (p)) + 1)), (wCh (wN h) (wB h) ((wSk (wN h) (wB h) (p)) + 2)), (wCh (wN h) (wB h) ((wSk (wN h) (wB h) (p)) + 3)), (wCh (wN h) (wB h) ((wSk (wN h) (wB h) (p)) + 4))] rfl ?_ ?_ ?_ ?_⟩
          · intro j hj
            match j, hj with
            | 0, _ => exact q0.symm
            | 1, _ => exact q1.symm
            | 2, _ => exact q2.symm
            | 3, _ => exact q3.symm
            | 4, _ => exact q4.symm
            | 5, _ => exact q5.symm
            | k + 6, hj => exact absurd hj (by show ¬ (k + 6 < 6); omega)
          · intro k b hk
            match k, hk with
            | 0, hk => cases hk; exact (show (48 : Int) ≤ (wCh (wN h) (wB h) ((wSk (wN h) (wB h) (p)) + 1)) ∧ (wCh (wN h) (wB h) ((wSk (wN h) (wB h) (p)) + 1)) ≤ (57 : Int) by omega)
            | 1, hk => cases hk; exact (show (48 : Int) ≤ (wCh (wN h) (wB h) ((wSk (wN h) (wB h) (p)) + 2)) ∧ (wCh (wN h) (wB h) ((wSk (wN h) (wB h) (p)) + 2)) ≤ (57 : Int) by omega)
            | 2, hk => cases hk; exact (show (48 : Int) ≤ (wCh (wN h) (wB h) ((wSk (wN h) (wB h) (p)) + 3)) ∧ (wCh (wN h) (wB h) ((wSk (wN h) (wB h) (p)) + 3)) ≤ (57 : Int) by omega)
            | 3, hk => cases hk; exact (show (48 : Int) ≤ (wCh (wN h) (wB h) ((wSk (wN h) (wB h) (p)) + 4)) ∧ (wCh (wN h) (wB h) ((wSk (wN h) (wB h) (p)) + 4)) ≤ (57 : Int) by omega)
            | k + 4, hk => cases hk
          · exact pAll1 (show (0 + (1 * ρ 2 + ((-1) * ρ 3 + 0)) : Int) ≤ 0 by omega) (pAll1 (show (0 + ((-1) * ρ 1 + (1 * ρ 3 + 0)) : Int) ≤ 0 by omega) (pAll1 (show (48 + ((-1) * ρ 4 + 0) : Int) ≤ 0 by omega) (pAll1 (show ((-57) + (1 * ρ 4 + 0) : Int) ≤ 0 by omega) (pAll1 (show (5 + ((-1) * ρ 1 + (1 * ρ 3 + 0)) : Int) ≤ 0 by omega) (pAll1 (show (5 + (1 * ρ 3 + (1 * ρ 5 + 0)) : Int) ≤ 0 by omega) (pAll1 (show ((-5) + ((-1) * ρ 3 + ((-1) * ρ 5 + 0)) : Int) ≤ 0 by omega) (pAll0)))))))
          · exact pAll1 (pgC ho hh ((wSk (wN h) (wB h) (p)) + 1) (by omega) (show (1 + (1 * ρ 3 + 0) : Int) = _ by omega) (show (0 + (1 * (wCh (wN h) (wB h) ((wSk (wN h) (wB h) (p)) + 1)) + 0) : Int) = _ by omega)) (pAll1 (pgC ho hh ((wSk (wN h) (wB h) (p)) + 2) (by omega) (show (2 + (1 * ρ 3 + 0) : Int) = _ by omega) (show (0 + (1 * (wCh (wN h) (wB h) ((wSk (wN h) (wB h) (p)) + 2)) + 0) : Int) = _ by omega)) (pAll1 (pgC ho hh ((wSk (wN h) (wB h) (p)) + 3) (by omega) (show (3 + (1 * ρ 3 + 0) : Int) = _ by omega) (show (0 + (1 * (wCh (wN h) (wB h) ((wSk (wN h) (wB h) (p)) + 3)) + 0) : Int) = _ by omega)) (pAll1 (pgC ho hh ((wSk (wN h) (wB h) (p)) + 4) (by omega) (show (4 + (1 * ρ 3 + 0) : Int) = _ by omega) (show (0 + (1 * (wCh (wN h) (wB h) ((wSk (wN h) (wB h) (p)) + 4)) + 0) : Int) = _ by omega)) (pAll0))))
        · rw [if_neg h4] at ev
          have hu : (wCh (wN h) (wB h) ((wSk (wN h) (wB h) (p)) + 4)) ≤ 47 ∨ 58 ≤ (wCh (wN h) (wB h) ((wSk (wN h) (wB h) (p)) + 4)) := by omega
          rcases hu with hu | hu
          · refine ⟨rNUm_6, List.mem_of_getElem? (i := 6) rfl, pEnd [ρ 0, ρ 1, ρ 2, ρ 3, ρ 4, ρ 5, (wCh (wN h) (wB h) ((wSk (wN h) (wB h) (p)) + 1)), (wCh (wN h) (wB h) ((wSk (wN h) (wB h) (p)) + 2)), (wCh (wN h) (wB h) ((wSk (wN h) (wB h) (p)) + 3)), (wCh (wN h) (wB h) ((wSk (wN h) (wB h) (p)) + 4))] rfl ?_ ?_ ?_ ?_⟩
            · intro j hj
              match j, hj with
              | 0, _ => exact q0.symm
              | 1, _ => exact q1.symm
              | 2, _ => exact q2.symm
              | 3, _ => exact q3.symm
              | 4, _ => exact q4.symm
              | 5, _ => exact q5.symm
              | k + 6, hj => exact absurd hj (by show ¬ (k + 6 < 6); omega)
            · intro k b hk
              match k, hk with
              | 0, hk => cases hk; exact (show (48 : Int) ≤ (wCh (wN h) (wB h) ((wSk (wN h) (wB h) (p)) + 1)) ∧ (wCh (wN h) (wB h) ((wSk (wN h) (wB h) (p)) + 1)) ≤ (57 : Int) by omega)
              | 1, hk => cases hk; exact (show (48 : Int) ≤ (wCh (wN h) (wB h) ((wSk (wN h) (wB h) (p)) + 2)) ∧ (wCh (wN h) (wB h) ((wSk (wN h) (wB h) (p)) + 2)) ≤ (57 : Int) by omega)
              | 2, hk => cases hk; exact (show (48 : Int) ≤ (wCh (wN h) (wB h) ((wSk (wN h) (wB h) (p)) + 3)) ∧ (wCh (wN h) (wB h) ((wSk (wN h) (wB h) (p)) + 3)) ≤ (57 : Int) by omega)
              | 3, hk => cases hk; exact (show (0 : Int) ≤ (wCh (wN h) (wB h) ((wSk (wN h) (wB h) (p)) + 4)) ∧ (wCh (wN h) (wB h) ((wSk (wN h) (wB h) (p)) + 4)) ≤ (47 : Int) by omega)
              | k + 4, hk => cases hk
            · exact pAll1 (show (0 + (1 * ρ 2 + ((-1) * ρ 3 + 0)) : Int) ≤ 0 by omega) (pAll1 (show (0 + ((-1) * ρ 1 + (1 * ρ 3 + 0)) : Int) ≤ 0 by omega) (pAll1 (show (48 + ((-1) * ρ 4 + 0) : Int) ≤ 0 by omega) (pAll1 (show ((-57) + (1 * ρ 4 + 0) : Int) ≤ 0 by omega) (pAll1 (show (4 + ((-1) * ρ 1 + (1 * ρ 3 + 0)) : Int) ≤ 0 by omega) (pAll1 (show ((-4) + ((-1) * ρ 3 + (1 * ρ 5 + 0)) : Int) ≤ 0 by omega) (pAll1 (show (4 + (1 * ρ 3 + ((-1) * ρ 5 + 0)) : Int) ≤ 0 by omega) (pAll0)))))))
            · exact pAll1 (pgC ho hh ((wSk (wN h) (wB h) (p)) + 1) (by omega) (show (1 + (1 * ρ 3 + 0) : Int) = _ by omega) (show (0 + (1 * (wCh (wN h) (wB h) ((wSk (wN h) (wB h) (p)) + 1)) + 0) : Int) = _ by omega)) (pAll1 (pgC ho hh ((wSk (wN h) (wB h) (p)) + 2) (by omega) (show (2 + (1 * ρ 3 + 0) : Int) = _ by omega) (show (0 + (1 * (wCh (wN h) (wB h) ((wSk (wN h) (wB h) (p)) + 2)) + 0) : Int) = _ by omega)) (pAll1 (pgC ho hh ((wSk (wN h) (wB h) (p)) + 3) (by omega) (show (3 + (1 * ρ 3 + 0) : Int) = _ by omega) (show (0 + (1 * (wCh (wN h) (wB h) ((wSk (wN h) (wB h) (p)) + 3)) + 0) : Int) = _ by omega)) (pAll1 (pgC ho hh ((wSk (wN h) (wB h) (p)) + 4) (by omega) (show (4 + (1 * ρ 3 + 0) : Int) = _ by omega) (show (0 + (1 * (wCh (wN h) (wB h) ((wSk (wN h) (wB h) (p)) + 4)) + 0) : Int) = _ by omega)) (pAll0))))
          · refine ⟨rNUm_7, List.mem_of_getElem? (i := 7) rfl, pEnd [ρ 0, ρ 1, ρ 2, ρ 3, ρ 4, ρ 5, (wCh (wN h) (wB h) ((wSk (wN h) (wB h) (p)) + 1)), (wCh (wN h) (wB h) ((wSk (wN h) (wB h) (p)) + 2)), (wCh (wN h) (wB h) ((wSk (wN h) (wB h) (p)) + 3)), (wCh (wN h) (wB h) ((wSk (wN h) (wB h) (p)) + 4))] rfl ?_ ?_ ?_ ?_⟩
            · intro j hj
              match j, hj with
              | 0, _ => exact q0.symm
              | 1, _ => exact q1.symm
              | 2, _ => exact q2.symm
              | 3, _ => exact q3.symm
              | 4, _ => exact q4.symm
              | 5, _ => exact q5.symm
              | k + 6, hj => exact absurd hj (by show ¬ (k + 6 < 6); omega)
            · intro k b hk
              match k, hk with
              | 0, hk => cases hk; exact (show (48 : Int) ≤ (wCh (wN h) (wB h) ((wSk (wN h) (wB h) (p)) + 1)) ∧ (wCh (wN h) (wB h) ((wSk (wN h) (wB h) (p)) + 1)) ≤ (57 : Int) by omega)
              | 1, hk => cases hk; exact (show (48 : Int) ≤ (wCh (wN h) (wB h) ((wSk (wN h) (wB h) (p)) + 2)) ∧ (wCh (wN h) (wB h) ((wSk (wN h) (wB h) (p)) + 2)) ≤ (57 : Int) by omega)
              | 2, hk => cases hk; exact (show (48 : Int) ≤ (wCh (wN h) (wB h) ((wSk (wN h) (wB h) (p)) + 3)) ∧ (wCh (wN h) (wB h) ((wSk (wN h) (wB h) (p)) + 3)) ≤ (57 : Int) by omega)
              | 3, hk => cases hk; exact (show (58 : Int) ≤ (wCh (wN h) (wB h) ((wSk (wN h) (wB h) (p)) + 4)) ∧ (wCh (wN h) (wB h) ((wSk (wN h) (wB h) (p)) + 4)) ≤ (255 : Int) by omega)
              | k + 4, hk => cases hk
            · exact pAll1 (show (0 + (1 * ρ 2 + ((-1) * ρ 3 + 0)) : Int) ≤ 0 by omega) (pAll1 (show (0 + ((-1) * ρ 1 + (1 * ρ 3 + 0)) : Int) ≤ 0 by omega) (pAll1 (show (48 + ((-1) * ρ 4 + 0) : Int) ≤ 0 by omega) (pAll1 (show ((-57) + (1 * ρ 4 + 0) : Int) ≤ 0 by omega) (pAll1 (show (4 + ((-1) * ρ 1 + (1 * ρ 3 + 0)) : Int) ≤ 0 by omega) (pAll1 (show ((-4) + ((-1) * ρ 3 + (1 * ρ 5 + 0)) : Int) ≤ 0 by omega) (pAll1 (show (4 + (1 * ρ 3 + ((-1) * ρ 5 + 0)) : Int) ≤ 0 by omega) (pAll0)))))))
            · exact pAll1 (pgC ho hh ((wSk (wN h) (wB h) (p)) + 1) (by omega) (show (1 + (1 * ρ 3 + 0) : Int) = _ by omega) (show (0 + (1 * (wCh (wN h) (wB h) ((wSk (wN h) (wB h) (p)) + 1)) + 0) : Int) = _ by omega)) (pAll1 (pgC ho hh ((wSk (wN h) (wB h) (p)) + 2) (by omega) (show (2 + (1 * ρ 3 + 0) : Int) = _ by omega) (show (0 + (1 * (wCh (wN h) (wB h) ((wSk (wN h) (wB h) (p)) + 2)) + 0) : Int) = _ by omega)) (pAll1 (pgC ho hh ((wSk (wN h) (wB h) (p)) + 3) (by omega) (show (3 + (1 * ρ 3 + 0) : Int) = _ by omega) (show (0 + (1 * (wCh (wN h) (wB h) ((wSk (wN h) (wB h) (p)) + 3)) + 0) : Int) = _ by omega)) (pAll1 (pgC ho hh ((wSk (wN h) (wB h) (p)) + 4) (by omega) (show (4 + (1 * ρ 3 + 0) : Int) = _ by omega) (show (0 + (1 * (wCh (wN h) (wB h) ((wSk (wN h) (wB h) (p)) + 4)) + 0) : Int) = _ by omega)) (pAll0))))
      · rw [if_neg h3] at ev
        have hu : (wCh (wN h) (wB h) ((wSk (wN h) (wB h) (p)) + 3)) ≤ 47 ∨ 58 ≤ (wCh (wN h) (wB h) ((wSk (wN h) (wB h) (p)) + 3)) := by omega
        rcases hu with hu | hu
        · refine ⟨rNUm_4, List.mem_of_getElem? (i := 4) rfl, pEnd [ρ 0, ρ 1, ρ 2, ρ 3, ρ 4, ρ 5, (wCh (wN h) (wB h) ((wSk (wN h) (wB h) (p)) + 1)), (wCh (wN h) (wB h) ((wSk (wN h) (wB h) (p)) + 2)), (wCh (wN h) (wB h) ((wSk (wN h) (wB h) (p)) + 3))] rfl ?_ ?_ ?_ ?_⟩
          · intro j hj
            match j, hj with
            | 0, _ => exact q0.symm
            | 1, _ => exact q1.symm
            | 2, _ => exact q2.symm
            | 3, _ => exact q3.symm
            | 4, _ => exact q4.symm
            | 5, _ => exact q5.symm
            | k + 6, hj => exact absurd hj (by show ¬ (k + 6 < 6); omega)
          · intro k b hk
            match k, hk with
            | 0, hk => cases hk; exact (show (48 : Int) ≤ (wCh (wN h) (wB h) ((wSk (wN h) (wB h) (p)) + 1)) ∧ (wCh (wN h) (wB h) ((wSk (wN h) (wB h) (p)) + 1)) ≤ (57 : Int) by omega)
            | 1, hk => cases hk; exact (show (48 : Int) ≤ (wCh (wN h) (wB h) ((wSk (wN h) (wB h) (p)) + 2)) ∧ (wCh (wN h) (wB h) ((wSk (wN h) (wB h) (p)) + 2)) ≤ (57 : Int) by omega)
            | 2, hk => cases hk; exact (show (0 : Int) ≤ (wCh (wN h) (wB h) ((wSk (wN h) (wB h) (p)) + 3)) ∧ (wCh (wN h) (wB h) ((wSk (wN h) (wB h) (p)) + 3)) ≤ (47 : Int) by omega)
            | k + 3, hk => cases hk
          · exact pAll1 (show (0 + (1 * ρ 2 + ((-1) * ρ 3 + 0)) : Int) ≤ 0 by omega) (pAll1 (show (0 + ((-1) * ρ 1 + (1 * ρ 3 + 0)) : Int) ≤ 0 by omega) (pAll1 (show (48 + ((-1) * ρ 4 + 0) : Int) ≤ 0 by omega) (pAll1 (show ((-57) + (1 * ρ 4 + 0) : Int) ≤ 0 by omega) (pAll1 (show (3 + ((-1) * ρ 1 + (1 * ρ 3 + 0)) : Int) ≤ 0 by omega) (pAll1 (show ((-3) + ((-1) * ρ 3 + (1 * ρ 5 + 0)) : Int) ≤ 0 by omega) (pAll1 (show (3 + (1 * ρ 3 + ((-1) * ρ 5 + 0)) : Int) ≤ 0 by omega) (pAll0)))))))
          · exact pAll1 (pgC ho hh ((wSk (wN h) (wB h) (p)) + 1) (by omega) (show (1 + (1 * ρ 3 + 0) : Int) = _ by omega) (show (0 + (1 * (wCh (wN h) (wB h) ((wSk (wN h) (wB h) (p)) + 1)) + 0) : Int) = _ by omega)) (pAll1 (pgC ho hh ((wSk (wN h) (wB h) (p)) + 2) (by omega) (show (2 + (1 * ρ 3 + 0) : Int) = _ by omega) (show (0 + (1 * (wCh (wN h) (wB h) ((wSk (wN h) (wB h) (p)) + 2)) + 0) : Int) = _ by omega)) (pAll1 (pgC ho hh ((wSk (wN h) (wB h) (p)) + 3) (by omega) (show (3 + (1 * ρ 3 + 0) : Int) = _ by omega) (show (0 + (1 * (wCh (wN h) (wB h) ((wSk (wN h) (wB h) (p)) + 3)) + 0) : Int) = _ by omega)) (pAll0)))
        · refine ⟨rNUm_5, List.mem_of_getElem? (i := 5) rfl, pEnd [ρ 0, ρ 1, ρ 2, ρ 3, ρ 4, ρ 5, (wCh (wN h) (wB h) ((wSk (wN h) (wB h) (p)) + 1)), (wCh (wN h) (wB h) ((wSk (wN h) (wB h) (p)) + 2)), (wCh (wN h) (wB h) ((wSk (wN h) (wB h) (p)) + 3))] rfl ?_ ?_ ?_ ?_⟩
          · intro j hj
            match j, hj with
            | 0, _ => exact q0.symm
            | 1, _ => exact q1.symm
            | 2, _ => exact q2.symm
            | 3, _ => exact q3.symm
            | 4, _ => exact q4.symm
            | 5, _ => exact q5.symm
            | k + 6, hj => exact absurd hj (by show ¬ (k + 6 < 6); omega)
          · intro k b hk
            match k, hk with
            | 0, hk => cases hk; exact (show (48 : Int) ≤ (wCh (wN h) (wB h) ((wSk (wN h) (wB h) (p)) + 1)) ∧ (wCh (wN h) (wB h) ((wSk (wN h) (wB h) (p)) + 1)) ≤ (57 : Int) by omega)
            | 1, hk => cases hk; exact (show (48 : Int) ≤ (wCh (wN h) (wB h) ((wSk (wN h) (wB h) (p)) + 2)) ∧ (wCh (wN h) (wB h) ((wSk (wN h) (wB h) (p)) + 2)) ≤ (57 : Int) by omega)
            | 2, hk => cases hk; exact (show (58 : Int) ≤ (wCh (wN h) (wB h) ((wSk (wN h) (wB h) (p)) + 3)) ∧ (wCh (wN h) (wB h) ((wSk (wN h) (wB h) (p)) + 3)) ≤ (255 : Int) by omega)
            | k + 3, hk => cases hk
          · exact pAll1 (show (0 + (1 * ρ 2 + ((-1) * ρ 3 + 0)) : Int) ≤ 0 by omega) (pAll1 (show (0 + ((-1) * ρ 1 + (1 * ρ 3 + 0)) : Int) ≤ 0 by omega) (pAll1 (show (48 + ((-1) * ρ 4 + 0) : Int) ≤ 0 by omega) (pAll1 (show ((-57) + (1 * ρ 4 + 0) : Int) ≤ 0 by omega) (pAll1 (show (3 + ((-1) * ρ 1 + (1 * ρ 3 + 0)) : Int) ≤ 0 by omega) (pAll1 (show ((-3) + ((-1) * ρ 3 + (1 * ρ 5 + 0)) : Int) ≤ 0 by omega) (pAll1 (show (3 + (1 * ρ 3 + ((-1) * ρ 5 + 0)) : Int) ≤ 0 by omega) (pAll0)))))))
          · exact pAll1 (pgC ho hh ((wSk (wN h) (wB h) (p)) + 1) (by omega) (show (1 + (1 * ρ 3 + 0) : Int) = _ by omega) (show (0 + (1 * (wCh (wN h) (wB h) ((wSk (wN h) (wB h) (p)) + 1)) + 0) : Int) = _ by omega)) (pAll1 (pgC ho hh ((wSk (wN h) (wB h) (p)) + 2) (by omega) (show (2 + (1 * ρ 3 + 0) : Int) = _ by omega) (show (0 + (1 * (wCh (wN h) (wB h) ((wSk (wN h) (wB h) (p)) + 2)) + 0) : Int) = _ by omega)) (pAll1 (pgC ho hh ((wSk (wN h) (wB h) (p)) + 3) (by omega) (show (3 + (1 * ρ 3 + 0) : Int) = _ by omega) (show (0 + (1 * (wCh (wN h) (wB h) ((wSk (wN h) (wB h) (p)) + 3)) + 0) : Int) = _ by omega)) (pAll0)))
    · rw [if_neg h2] at ev
      have hu : (wCh (wN h) (wB h) ((wSk (wN h) (wB h) (p)) + 2)) ≤ 47 ∨ 58 ≤ (wCh (wN h) (wB h) ((wSk (wN h) (wB h) (p)) + 2)) := by omega
      rcases hu with hu | hu
      · refine ⟨rNUm_2, List.mem_of_getElem? (i := 2) rfl, pEnd [ρ 0, ρ 1, ρ 2, ρ 3, ρ 4, ρ 5, (wCh (wN h) (wB h) ((wSk (wN h) (wB h) (p)) + 1)), (wCh (wN h) (wB h) ((wSk (wN h) (wB h) (p)) + 2))] rfl ?_ ?_ ?_ ?_⟩
        · intro j hj
          match j, hj with
          | 0, _ => exact q0.symm
          | 1, _ => exact q1.symm
          | 2, _ => exact q2.symm
          | 3, _ => exact q3.symm
          | 4, _ => exact q4.symm
          | 5, _ => exact q5.symm
          | k + 6, hj => exact absurd hj (by show ¬ (k + 6 < 6); omega)
        · intro k b hk
          match k, hk with
          | 0, hk => cases hk; exact (show (48 : Int) ≤ (wCh (wN h) (wB h) ((wSk (wN h) (wB h) (p)) + 1)) ∧ (wCh (wN h) (wB h) ((wSk (wN h) (wB h) (p)) + 1)) ≤ (57 : Int) by omega)
          | 1, hk => cases hk; exact (show (0 : Int) ≤ (wCh (wN h) (wB h) ((wSk (wN h) (wB h) (p)) + 2)) ∧ (wCh (wN h) (wB h) ((wSk (wN h) (wB h) (p)) + 2)) ≤ (47 : Int) by omega)
          | k + 2, hk => cases hk
        · exact pAll1 (show (0 + (1 * ρ 2 + ((-1) * ρ 3 + 0)) : Int) ≤ 0 by omega) (pAll1 (show (0 + ((-1) * ρ 1 + (1 * ρ 3 + 0)) : Int) ≤ 0 by omega) (pAll1 (show (48 + ((-1) * ρ 4 + 0) : Int) ≤ 0 by omega) (pAll1 (show ((-57) + (1 * ρ 4 + 0) : Int) ≤ 0 by omega) (pAll1 (show (2 + ((-1) * ρ 1 + (1 * ρ 3 + 0)) : Int) ≤ 0 by omega) (pAll1 (show ((-2) + ((-1) * ρ 3 + (1 * ρ 5 + 0)) : Int) ≤ 0 by omega) (pAll1 (show (2 + (1 * ρ 3 + ((-1) * ρ 5 + 0)) : Int) ≤ 0 by omega) (pAll0)))))))
        · exact pAll1 (pgC ho hh ((wSk (wN h) (wB h) (p)) + 1) (by omega) (show (1 + (1 * ρ 3 + 0) : Int) = _ by omega) (show (0 + (1 * (wCh (wN h) (wB h) ((wSk (wN h) (wB h) (p)) + 1)) + 0) : Int) = _ by omega)) (pAll1 (pgC ho hh ((wSk (wN h) (wB h) (p)) + 2) (by omega) (show (2 + (1 * ρ 3 + 0) : Int) = _ by omega) (show (0 + (1 * (wCh (wN h) (wB h) ((wSk (wN h) (wB h) (p)) + 2)) + 0) : Int) = _ by omega)) (pAll0))
      · refine ⟨rNUm_3, List.mem_of_getElem? (i := 3) rfl, pEnd [ρ 0, ρ 1, ρ 2, ρ 3, ρ 4, ρ 5, (wCh (wN h) (wB h) ((wSk (wN h) (wB h) (p)) + 1)), (wCh (wN h) (wB h) ((wSk (wN h) (wB h) (p)) + 2))] rfl ?_ ?_ ?_ ?_⟩
        · intro j hj
          match j, hj with
          | 0, _ => exact q0.symm
          | 1, _ => exact q1.symm
          | 2, _ => exact q2.symm
          | 3, _ => exact q3.symm
          | 4, _ => exact q4.symm
          | 5, _ => exact q5.symm
          | k + 6, hj => exact absurd hj (by show ¬ (k + 6 < 6); omega)
        · intro k b hk
          match k, hk with
          | 0, hk => cases hk; exact (show (48 : Int) ≤ (wCh (wN h) (wB h) ((wSk (wN h) (wB h) (p)) + 1)) ∧ (wCh (wN h) (wB h) ((wSk (wN h) (wB h) (p)) + 1)) ≤ (57 : Int) by omega)
          | 1, hk => cases hk; exact (show (58 : Int) ≤ (wCh (wN h) (wB h) ((wSk (wN h) (wB h) (p)) + 2)) ∧ (wCh (wN h) (wB h) ((wSk (wN h) (wB h) (p)) + 2)) ≤ (255 : Int) by omega)
          | k + 2, hk => cases hk
        · exact pAll1 (show (0 + (1 * ρ 2 + ((-1) * ρ 3 + 0)) : Int) ≤ 0 by omega) (pAll1 (show (0 + ((-1) * ρ 1 + (1 * ρ 3 + 0)) : Int) ≤ 0 by omega) (pAll1 (show (48 + ((-1) * ρ 4 + 0) : Int) ≤ 0 by omega) (pAll1 (show ((-57) + (1 * ρ 4 + 0) : Int) ≤ 0 by omega) (pAll1 (show (2 + ((-1) * ρ 1 + (1 * ρ 3 + 0)) : Int) ≤ 0 by omega) (pAll1 (show ((-2) + ((-1) * ρ 3 + (1 * ρ 5 + 0)) : Int) ≤ 0 by omega) (pAll1 (show (2 + (1 * ρ 3 + ((-1) * ρ 5 + 0)) : Int) ≤ 0 by omega) (pAll0)))))))
        · exact pAll1 (pgC ho hh ((wSk (wN h) (wB h) (p)) + 1) (by omega) (show (1 + (1 * ρ 3 + 0) : Int) = _ by omega) (show (0 + (1 * (wCh (wN h) (wB h) ((wSk (wN h) (wB h) (p)) + 1)) + 0) : Int) = _ by omega)) (pAll1 (pgC ho hh ((wSk (wN h) (wB h) (p)) + 2) (by omega) (show (2 + (1 * ρ 3 + 0) : Int) = _ by omega) (show (0 + (1 * (wCh (wN h) (wB h) ((wSk (wN h) (wB h) (p)) + 2)) + 0) : Int) = _ by omega)) (pAll0))
  · rw [if_neg h1] at ev
    have hu : (wCh (wN h) (wB h) ((wSk (wN h) (wB h) (p)) + 1)) ≤ 47 ∨ 58 ≤ (wCh (wN h) (wB h) ((wSk (wN h) (wB h) (p)) + 1)) := by omega
    rcases hu with hu | hu
    · refine ⟨rNUm_0, List.mem_of_getElem? (i := 0) rfl, pEnd [ρ 0, ρ 1, ρ 2, ρ 3, ρ 4, ρ 5, (wCh (wN h) (wB h) ((wSk (wN h) (wB h) (p)) + 1))] rfl ?_ ?_ ?_ ?_⟩
      · intro j hj
        match j, hj with
        | 0, _ => exact q0.symm
        | 1, _ => exact q1.symm
        | 2, _ => exact q2.symm
        | 3, _ => exact q3.symm
        | 4, _ => exact q4.symm
        | 5, _ => exact q5.symm
        | k + 6, hj => exact absurd hj (by show ¬ (k + 6 < 6); omega)
      · intro k b hk
        match k, hk with
        | 0, hk => cases hk; exact (show (0 : Int) ≤ (wCh (wN h) (wB h) ((wSk (wN h) (wB h) (p)) + 1)) ∧ (wCh (wN h) (wB h) ((wSk (wN h) (wB h) (p)) + 1)) ≤ (47 : Int) by omega)
        | k + 1, hk => cases hk
      · exact pAll1 (show (0 + (1 * ρ 2 + ((-1) * ρ 3 + 0)) : Int) ≤ 0 by omega) (pAll1 (show (0 + ((-1) * ρ 1 + (1 * ρ 3 + 0)) : Int) ≤ 0 by omega) (pAll1 (show (48 + ((-1) * ρ 4 + 0) : Int) ≤ 0 by omega) (pAll1 (show ((-57) + (1 * ρ 4 + 0) : Int) ≤ 0 by omega) (pAll1 (show (1 + ((-1) * ρ 1 + (1 * ρ 3 + 0)) : Int) ≤ 0 by omega) (pAll1 (show ((-1) + ((-1) * ρ 3 + (1 * ρ 5 + 0)) : Int) ≤ 0 by omega) (pAll1 (show (1 + (1 * ρ 3 + ((-1) * ρ 5 + 0)) : Int) ≤ 0 by omega) (pAll0)))))))
      · exact pAll1 (pgC ho hh ((wSk (wN h) (wB h) (p)) + 1) (by omega) (show (1 + (1 * ρ 3 + 0) : Int) = _ by omega) (show (0 + (1 * (wCh (wN h) (wB h) ((wSk (wN h) (wB h) (p)) + 1)) + 0) : Int) = _ by omega)) (pAll0)
    · refine ⟨rNUm_1, List.mem_of_getElem? (i := 1) rfl, pEnd [ρ 0, ρ 1, ρ 2, ρ 3, ρ 4, ρ 5, (wCh (wN h) (wB h) ((wSk (wN h) (wB h) (p)) + 1))] rfl ?_ ?_ ?_ ?_⟩
      · intro j hj
        match j, hj with
        | 0, _ => exact q0.symm
        | 1, _ => exact q1.symm
        | 2, _ => exact q2.symm
        | 3, _ => exact q3.symm
        | 4, _ => exact q4.symm
        | 5, _ => exact q5.symm
        | k + 6, hj => exact absurd hj (by show ¬ (k + 6 < 6); omega)
      · intro k b hk
        match k, hk with
        | 0, hk => cases hk; exact (show (58 : Int) ≤ (wCh (wN h) (wB h) ((wSk (wN h) (wB h) (p)) + 1)) ∧ (wCh (wN h) (wB h) ((wSk (wN h) (wB h) (p)) + 1)) ≤ (255 : Int) by omega)
        | k + 1, hk => cases hk
      · exact pAll1 (show (0 + (1 * ρ 2 + ((-1) * ρ 3 + 0)) : Int) ≤ 0 by omega) (pAll1 (show (0 + ((-1) * ρ 1 + (1 * ρ 3 + 0)) : Int) ≤ 0 by omega) (pAll1 (show (48 + ((-1) * ρ 4 + 0) : Int) ≤ 0 by omega) (pAll1 (show ((-57) + (1 * ρ 4 + 0) : Int) ≤ 0 by omega) (pAll1 (show (1 + ((-1) * ρ 1 + (1 * ρ 3 + 0)) : Int) ≤ 0 by omega) (pAll1 (show ((-1) + ((-1) * ρ 3 + (1 * ρ 5 + 0)) : Int) ≤ 0 by omega) (pAll1 (show (1 + (1 * ρ 3 + ((-1) * ρ 5 + 0)) : Int) ≤ 0 by omega) (pAll0)))))))
      · exact pAll1 (pgC ho hh ((wSk (wN h) (wB h) (p)) + 1) (by omega) (show (1 + (1 * ρ 3 + 0) : Int) = _ by omega) (show (0 + (1 * (wCh (wN h) (wB h) ((wSk (wN h) (wB h) (p)) + 1)) + 0) : Int) = _ by omega)) (pAll0)
noncomputable def rATm_0 : sX := (none, [], [], [(0, [(2, 1), (5, (-1))]), (0, [(1, (-1)), (5, 1)]), (1, [(1, (-1)), (5, 1)]), (1, [(6, (-1))]), ((-91), [(6, 1)]), (91, [(6, (-1))]), ((-6), [(3, 1)]), (6, [(3, (-1))]), (1, [(4, 1), (5, 1)]), ((-1), [(4, (-1)), (5, (-1))])], [])
noncomputable def rATm_1 : sX := (none, [(505, (242, [(3, 241), (5, 1)]), (0, [(7, 1)]))], [((-241), (-1))], [(0, [(2, 1), (5, (-1))]), (0, [(1, (-1)), (5, 1)]), (1, [(1, (-1)), (5, 1)]), (1, [(6, (-1))]), ((-91), [(6, 1)]), (91, [(6, (-1))]), ((-5), [(3, 1)]), (0, [(4, 1), (7, (-1))]), (0, [(4, (-1)), (7, 1)])], [])
noncomputable def rATm_2 : sX := (none, [(505, (242, [(3, 241), (5, 1)]), (0, [(7, 1)])), (500, (0, [(7, 1)]), (0, [(8, 1)])), (501, (0, [(8, 1)]), (0, [(9, 1)]))], [(0, 240), (0, 240), (93, 93)], [(0, [(2, 1), (5, (-1))]), (0, [(1, (-1)), (5, 1)]), (1, [(1, (-1)), (5, 1)]), (1, [(6, (-1))]), ((-91), [(6, 1)]), (91, [(6, (-1))]), ((-5), [(3, 1)]), (0, [(7, 1), (8, (-1))]), (1, [(1, (-1)), (8, 1)]), ((-1), [(4, 1), (8, (-1))]), (1, [(4, (-1)), (8, 1)])], [])
noncomputable def rATm_3 : sX := (none, [(505, (242, [(3, 241), (5, 1)]), (0, [(7, 1)])), (500, (0, [(7, 1)]), (0, [(8, 1)])), (501, (0, [(8, 1)]), (0, [(9, 1)]))], [(0, 240), (0, 240), (0, 92)], [(0, [(2, 1), (5, (-1))]), (0, [(1, (-1)), (5, 1)]), (1, [(1, (-1)), (5, 1)]), (1, [(6, (-1))]), ((-91), [(6, 1)]), (91, [(6, (-1))]), ((-5), [(3, 1)]), (0, [(7, 1), (8, (-1))]), (0, [(1, (-1)), (8, 1)]), (1, [(4, 1), (8, 1)]), ((-1), [(4, (-1)), (8, (-1))])], [])
noncomputable def rATm_4 : sX := (none, [(505, (242, [(3, 241), (5, 1)]), (0, [(7, 1)])), (500, (0, [(7, 1)]), (0, [(8, 1)])), (501, (0, [(8, 1)]), (0, [(9, 1)]))], [(0, 240), (0, 240), (94, 255)], [(0, [(2, 1), (5, (-1))]), (0, [(1, (-1)), (5, 1)]), (1, [(1, (-1)), (5, 1)]), (1, [(6, (-1))]), ((-91), [(6, 1)]), (91, [(6, (-1))]), ((-5), [(3, 1)]), (0, [(7, 1), (8, (-1))]), (0, [(1, (-1)), (8, 1)]), (1, [(4, 1), (8, 1)]), ((-1), [(4, (-1)), (8, (-1))])], [])
noncomputable def rATm_5 : sX := (none, [], [], [(0, [(2, 1), (5, (-1))]), (0, [(1, (-1)), (5, 1)]), (1, [(1, (-1)), (5, 1)]), (1, [(6, (-1))]), (100, [(6, (-1))]), ((-101), [(6, 1)]), ((-1), [(4, 1), (5, (-1))]), (1, [(4, (-1)), (5, 1)])], [])
noncomputable def rATm_6 : sX := (none, [], [], [(0, [(2, 1), (5, (-1))]), (0, [(1, (-1)), (5, 1)]), (1, [(1, (-1)), (5, 1)]), (1, [(6, (-1))]), (104, [(6, (-1))]), ((-105), [(6, 1)]), ((-1), [(4, 1), (5, (-1))]), (1, [(4, (-1)), (5, 1)])], [])
noncomputable def rATm_7 : sX := (none, [], [], [(0, [(2, 1), (5, (-1))]), (0, [(1, (-1)), (5, 1)]), (1, [(1, (-1)), (5, 1)]), (1, [(6, (-1))]), (110, [(6, (-1))]), ((-110), [(6, 1)]), ((-1), [(4, 1), (5, (-1))]), (1, [(4, (-1)), (5, 1)])], [])
noncomputable def rATm_8 : sX := (none, [], [], [(0, [(2, 1), (5, (-1))]), (0, [(1, (-1)), (5, 1)]), (1, [(1, (-1)), (5, 1)]), (1, [(6, (-1))]), (119, [(6, (-1))]), ((-119), [(6, 1)]), ((-1), [(4, 1), (5, (-1))]), (1, [(4, (-1)), (5, 1)])], [])
noncomputable def rATm_9 : sX := (none, [(516, (0, [(5, 1)]), (0, [(4, 1)]))], [], [(0, [(2, 1), (5, (-1))]), (0, [(1, (-1)), (5, 1)]), (1, [(1, (-1)), (5, 1)]), (1, [(6, (-1))]), (48, [(6, (-1))]), ((-57), [(6, 1)])], [])
noncomputable def rATm_10 : sX := (none, [], [], [(0, [(2, 1), (5, (-1))]), (0, [(1, (-1)), (5, 1)]), ((-47), [(6, 1)]), (1, [(4, 1), (5, 1)]), ((-1), [(4, (-1)), (5, (-1))])], [])
noncomputable def rATm_11 : sX := (none, [], [], [(0, [(2, 1), (5, (-1))]), (0, [(1, (-1)), (5, 1)]), (58, [(6, (-1))]), ((-90), [(6, 1)]), (1, [(4, 1), (5, 1)]), ((-1), [(4, (-1)), (5, (-1))])], [])
noncomputable def rATm_12 : sX := (none, [], [], [(0, [(2, 1), (5, (-1))]), (0, [(1, (-1)), (5, 1)]), (92, [(6, (-1))]), ((-99), [(6, 1)]), (1, [(4, 1), (5, 1)]), ((-1), [(4, (-1)), (5, (-1))])], [])
noncomputable def rATm_13 : sX := (none, [], [], [(0, [(2, 1), (5, (-1))]), (0, [(1, (-1)), (5, 1)]), (102, [(6, (-1))]), ((-103), [(6, 1)]), (1, [(4, 1), (5, 1)]), ((-1), [(4, (-1)), (5, (-1))])], [])
noncomputable def rATm_14 : sX := (none, [], [], [(0, [(2, 1), (5, (-1))]), (0, [(1, (-1)), (5, 1)]), (106, [(6, (-1))]), ((-109), [(6, 1)]), (1, [(4, 1), (5, 1)]), ((-1), [(4, (-1)), (5, (-1))])], [])
noncomputable def rATm_15 : sX := (none, [], [], [(0, [(2, 1), (5, (-1))]), (0, [(1, (-1)), (5, 1)]), (111, [(6, (-1))]), ((-118), [(6, 1)]), (1, [(4, 1), (5, 1)]), ((-1), [(4, (-1)), (5, (-1))])], [])
noncomputable def rATm_16 : sX := (none, [], [], [(0, [(2, 1), (5, (-1))]), (0, [(1, (-1)), (5, 1)]), (120, [(6, (-1))]), (1, [(4, 1), (5, 1)]), ((-1), [(4, (-1)), (5, (-1))])], [])
noncomputable def rATm : sQ := (0, ([], [(2, 1013, (0, [])), (2, 120, (2, [])), (2, 120, (3, [])), (2, 120, (5, [])), (2, 502, (0, [(2, 1), (3, 241)])), (2, 500, (0, [(2, 1)])), (2, 501, (0, [(5, 1)]))], [(1, 1), (0, 240), (0, 240), (0, 6), ((-241), 240), (0, 240), (0, 255)], [(0, [(1, (-1)), (2, 1)])], [(0, 0), (1, 1), (2, 2), (3, 3), (4, 4), (5, 5), (6, 6)], (0, [])), [rATm_0, rATm_1, rATm_2, rATm_3, rATm_4, rATm_5, rATm_6, rATm_7, rATm_8, rATm_9, rATm_10, rATm_11, rATm_12, rATm_13, rATm_14, rATm_15, rATm_16], [], 0)
theorem rATm_ok : pRul pReg pG pgv rATm := by
  intro loc h ρ ρ0 hG hM
  have hM : sMt pReg pgv ρ ρ0 (sAs rATm.2.1) loc [] h := hM
  have q0 : ρ0 1 = ρ 0 := (hM.2.2.2.2.2 (1, sY 0) (List.mem_of_getElem? (i := 1) rfl)).trans (sY_v ρ 0)
  have q1 : ρ0 2 = ρ 1 := (hM.2.2.2.2.2 (2, sY 1) (List.mem_of_getElem? (i := 2) rfl)).trans (sY_v ρ 1)
  have q2 : ρ0 3 = ρ 2 := (hM.2.2.2.2.2 (3, sY 2) (List.mem_of_getElem? (i := 3) rfl)).trans (sY_v ρ 2)
  have q3 : ρ0 4 = ρ 3 := (hM.2.2.2.2.2 (4, sY 3) (List.mem_of_getElem? (i := 4) rfl)).trans (sY_v ρ 3)
  have q4 : ρ0 5 = ρ 4 := (hM.2.2.2.2.2 (5, sY 4) (List.mem_of_getElem? (i := 5) rfl)).trans (sY_v ρ 4)
  have q5 : ρ0 6 = ρ 5 := (hM.2.2.2.2.2 (6, sY 5) (List.mem_of_getElem? (i := 6) rfl)).trans (sY_v ρ 5)
  have q6 : ρ0 7 = ρ 6 := (hM.2.2.2.2.2 (7, sY 6) (List.mem_of_getElem? (i := 7) rfl)).trans (sY_v ρ 6)
  have hL : ∀ j, j < 7 → pL [ρ 0, ρ 1, ρ 2, ρ 3, ρ 4, ρ 5, ρ 6] j = ρ0 (j + 1) := by
    intro j hj
    match j, hj with
    | 0, _ => exact q0.symm
    | 1, _ => exact q1.symm
    | 2, _ => exact q2.symm
    | 3, _ => exact q3.symm
    | 4, _ => exact q4.symm
    | 5, _ => exact q5.symm
    | 6, _ => exact q6.symm
    | k + 7, hj => omega
  have b0 : (1 : Int) ≤ ρ 0 ∧ ρ 0 ≤ 1 := hM.2.2.2.1 0 (1, 1) rfl
  have b1 : (0 : Int) ≤ ρ 1 ∧ ρ 1 ≤ 240 := hM.2.2.2.1 1 (0, 240) rfl
  have b2 : (0 : Int) ≤ ρ 2 ∧ ρ 2 ≤ 240 := hM.2.2.2.1 2 (0, 240) rfl
  have b3 : (0 : Int) ≤ ρ 3 ∧ ρ 3 ≤ 6 := hM.2.2.2.1 3 (0, 6) rfl
  have b4 : ((-241) : Int) ≤ ρ 4 ∧ ρ 4 ≤ 240 := hM.2.2.2.1 4 ((-241), 240) rfl
  have b5 : (0 : Int) ≤ ρ 5 ∧ ρ 5 ≤ 240 := hM.2.2.2.1 5 (0, 240) rfl
  have b6 : (0 : Int) ≤ ρ 6 ∧ ρ 6 ≤ 255 := hM.2.2.2.1 6 (0, 255) rfl
  have c0 : (0 + ((-1) * ρ 1 + (1 * ρ 2 + 0)) : Int) ≤ 0 := hM.2.2.2.2.1 (0, [(1, (-1)), (2, 1)]) (List.mem_of_getElem? (i := 0) rfl)
  obtain ⟨ho, hs, hh⟩ := pTold13 hM 0 (0, []) rfl b0.1
  have hn := ho.1
  have en : ρ 1 = (wN h : Int) := (pPl hM 1 120 (2, []) rfl (by omega) 440 2 (by decide +kernel) rfl).symm.trans hs.1
  obtain ⟨p, ep⟩ : ∃ p : Nat, ρ 2 = (p : Int) := ⟨(ρ 2).toNat, by omega⟩
  have hp : p ≤ wN h := by omega
  obtain ⟨s1, s2⟩ := wSk_le (B := wB h) hp
  obtain ⟨d, ed⟩ : ∃ d : Nat, ρ 3 = (d : Int) := ⟨(ρ 3).toNat, by omega⟩
  have er : ρ 4 = (wG (wN h) (wB h) 0 (d) (p)) := pfG hM ho hh 4 502 0 (0, [(2, 1), (3, 241)]) rfl rfl rfl (d := d) (p := p) (by omega) (by omega) (by show (0 + (1 * ρ 2 + (241 * ρ 3 + 0)) : Int) = _; omega)
  have eq : ρ 5 = ((wSk (wN h) (wB h) (p)) : Int) := pfS hM ho hh 5 (0, [(2, 1)]) rfl (p := p) (by omega) (by show (0 + (1 * ρ 2 + 0) : Int) = _; omega)
  have ec : ρ 6 = (wCh (wN h) (wB h) ((wSk (wN h) (wB h) (p)))) := pfC hM ho hh 6 (0, [(5, 1)]) rfl (p := (wSk (wN h) (wB h) (p))) (by omega) (by show (0 + (1 * ρ 5 + 0) : Int) = _; omega)
  have cbc := wCh_bd ho ((wSk (wN h) (wB h) (p)))
  have clc : (wCh (wN h) (wB h) ((wSk (wN h) (wB h) (p)))) ≠ 0 → (wSk (wN h) (wB h) (p)) < wN h := wCh_lt
  rw [wE_AT hp] at er
  by_cases h1 : (wCh (wN h) (wB h) ((wSk (wN h) (wB h) (p)))) = 91
  · rw [if_pos h1] at er
    have hq := clc (by omega)
    by_cases h2 : 6 ≤ d
    · rw [if_pos h2] at er
      unfold wFl at er
      refine ⟨rATm_0, List.mem_of_getElem? (i := 0) rfl, pEnd [ρ 0, ρ 1, ρ 2, ρ 3, ρ 4, ρ 5, ρ 6] rfl ?_ ?_ ?_ ?_⟩
      · exact hL
      · intro k b hk
        cases hk
      · exact pAll1 (show (0 + (1 * ρ 2 + ((-1) * ρ 5 + 0)) : Int) ≤ 0 by omega) (pAll1 (show (0 + ((-1) * ρ 1 + (1 * ρ 5 + 0)) : Int) ≤ 0 by omega) (pAll1 (show (1 + ((-1) * ρ 1 + (1 * ρ 5 + 0)) : Int) ≤ 0 by omega) (pAll1 (show (1 + ((-1) * ρ 6 + 0) : Int) ≤ 0 by omega) (pAll1 (show ((-91) + (1 * ρ 6 + 0) : Int) ≤ 0 by omega) (pAll1 (show (91 + ((-1) * ρ 6 + 0) : Int) ≤ 0 by omega) (pAll1 (show ((-6) + (1 * ρ 3 + 0) : Int) ≤ 0 by omega) (pAll1 (show (6 + ((-1) * ρ 3 + 0) : Int) ≤ 0 by omega) (pAll1 (show (1 + (1 * ρ 4 + (1 * ρ 5 + 0)) : Int) ≤ 0 by omega) (pAll1 (show ((-1) + ((-1) * ρ 4 + ((-1) * ρ 5 + 0)) : Int) ≤ 0 by omega) (pAll0))))))))))
      · exact pAll0
    · rw [if_neg h2] at er
      have g := wG_gd (n := wN h) (B := wB h) 3 (d + 1) ((wSk (wN h) (wB h) (p)) + 1) rfl (by omega)
      rcases wBd_el er g with ⟨a1, a2⟩ | ⟨s, a1, a2, a3, a4⟩
      · have := g.1 a1
        refine ⟨rATm_1, List.mem_of_getElem? (i := 1) rfl, pEnd [ρ 0, ρ 1, ρ 2, ρ 3, ρ 4, ρ 5, ρ 6, (wG (wN h) (wB h) 3 (d + 1) ((wSk (wN h) (wB h) (p)) + 1))] rfl ?_ ?_ ?_ ?_⟩
        · intro j hj
          match j, hj with
          | 0, _ => exact q0.symm
          | 1, _ => exact q1.symm
          | 2, _ => exact q2.symm
          | 3, _ => exact q3.symm
          | 4, _ => exact q4.symm
          | 5, _ => exact q5.symm
          | 6, _ => exact q6.symm
          | k + 7, hj => exact absurd hj (by show ¬ (k + 7 < 7); omega)
        · intro k b hk
          match k, hk with
          | 0, hk => cases hk; exact (show ((-241) : Int) ≤ (wG (wN h) (wB h) 3 (d + 1) ((wSk (wN h) (wB h) (p)) + 1)) ∧ (wG (wN h) (wB h) 3 (d + 1) ((wSk (wN h) (wB h) (p)) + 1)) ≤ ((-1) : Int) by omega)
          | k + 1, hk => cases hk
        · exact pAll1 (show (0 + (1 * ρ 2 + ((-1) * ρ 5 + 0)) : Int) ≤ 0 by omega) (pAll1 (show (0 + ((-1) * ρ 1 + (1 * ρ 5 + 0)) : Int) ≤ 0 by omega) (pAll1 (show (1 + ((-1) * ρ 1 + (1 * ρ 5 + 0)) : Int) ≤ 0 by omega) (pAll1 (show (1 + ((-1) * ρ 6 + 0) : Int) ≤ 0 by omega) (pAll1 (show ((-91) + (1 * ρ 6 + 0) : Int) ≤ 0 by omega) (pAll1 (show (91 + ((-1) * ρ 6 + 0) : Int) ≤ 0 by omega) (pAll1 (show ((-5) + (1 * ρ 3 + 0) : Int) ≤ 0 by omega) (pAll1 (show (0 + (1 * ρ 4 + ((-1) * (wG (wN h) (wB h) 3 (d + 1) ((wSk (wN h) (wB h) (p)) + 1)) + 0)) : Int) ≤ 0 by omega) (pAll1 (show (0 + ((-1) * ρ 4 + (1 * (wG (wN h) (wB h) 3 (d + 1) ((wSk (wN h) (wB h) (p)) + 1)) + 0)) : Int) ≤ 0 by omega) (pAll0)))))))))
        · exact pAll1 (pgG ho hh 505 3 rfl rfl (d + 1) ((wSk (wN h) (wB h) (p)) + 1) (by omega) (by omega) (show (242 + (241 * ρ 3 + (1 * ρ 5 + 0)) : Int) = _ by omega) (show (0 + (1 * (wG (wN h) (wB h) 3 (d + 1) ((wSk (wN h) (wB h) (p)) + 1)) + 0) : Int) = _ by omega)) (pAll0)
      · have a2 : (wSk (wN h) (wB h) (p)) + 1 + 1 ≤ s := a2
        obtain ⟨t1, t2⟩ := wSk_le (B := wB h) a3
        have cs := wCh_bd ho (wSk (wN h) (wB h) (s))
        by_cases h3 : (wCh (wN h) (wB h) ((wSk (wN h) (wB h) (s)))) = 93
        · rw [if_pos h3] at a4
          have := wCh_lt (n := wN h) (B := wB h) (p := (wSk (wN h) (wB h) (s))) (by omega)
          refine ⟨rATm_2, List.mem_of_getElem? (i := 2) rfl, pEnd [ρ 0, ρ 1, ρ 2, ρ 3, ρ 4, ρ 5, ρ 6, (s : Int), ((wSk (wN h) (wB h) (s)) : Int), (wCh (wN h) (wB h) ((wSk (wN h) (wB h) (s))))] rfl ?_ ?_ ?_ ?_⟩
          · intro j hj
            match j, hj with
            | 0, _ => exact q0.symm
            | 1, _ => exact q1.symm
            | 2, _ => exact q2.symm
            | 3, _ => exact q3.symm
            | 4, _ => exact q4.symm
            | 5, _ => exact q5.symm
            | 6, _ => exact q6.symm
            | k + 7, hj => exact absurd hj (by show ¬ (k + 7 < 7); omega)
          · intro k b hk
            match k, hk with
            | 0, hk => cases hk; exact (show (0 : Int) ≤ (s : Int) ∧ (s : Int) ≤ (240 : Int) by omega)
            | 1, hk => cases hk; exact (show (0 : Int) ≤ ((wSk (wN h) (wB h) (s)) : Int) ∧ ((wSk (wN h) (wB h) (s)) : Int) ≤ (240 : Int) by omega)
            | 2, hk => cases hk; exact (show (93 : Int) ≤ (wCh (wN h) (wB h) ((wSk (wN h) (wB h) (s)))) ∧ (wCh (wN h) (wB h) ((wSk (wN h) (wB h) (s)))) ≤ (93 : Int) by omega)
            | k + 3, hk => cases hk
          · exact pAll1 (show (0 + (1 * ρ 2 + ((-1) * ρ 5 + 0)) : Int) ≤ 0 by omega) (pAll1 (show (0 + ((-1) * ρ 1 + (1 * ρ 5 + 0)) : Int) ≤ 0 by omega) (pAll1 (show (1 + ((-1) * ρ 1 + (1 * ρ 5 + 0)) : Int) ≤ 0 by omega) (pAll1 (show (1 + ((-1) * ρ 6 + 0) : Int) ≤ 0 by omega) (pAll1 (show ((-91) + (1 * ρ 6 + 0) : Int) ≤ 0 by omega) (pAll1 (show (91 + ((-1) * ρ 6 + 0) : Int) ≤ 0 by omega) (pAll1 (show ((-5) + (1 * ρ 3 + 0) : Int) ≤ 0 by omega) (pAll1 (show (0 + (1 * (s : Int) + ((-1) * ((wSk (wN h) (wB h) (s)) : Int) + 0)) : Int) ≤ 0 by omega) (pAll1 (show (1 + ((-1) * ρ 1 + (1 * ((wSk (wN h) (wB h) (s)) : Int) + 0)) : Int) ≤ 0 by omega) (pAll1 (show ((-1) + (1 * ρ 4 + ((-1) * ((wSk (wN h) (wB h) (s)) : Int) + 0)) : Int) ≤ 0 by omega) (pAll1 (show (1 + ((-1) * ρ 4 + (1 * ((wSk (wN h) (wB h) (s)) : Int) + 0)) : Int) ≤ 0 by omega) (pAll0)))))))))))
          · exact pAll1 (pgG ho hh 505 3 rfl rfl (d + 1) ((wSk (wN h) (wB h) (p)) + 1) (by omega) (by omega) (show (242 + (241 * ρ 3 + (1 * ρ 5 + 0)) : Int) = _ by omega) (show (0 + (1 * (s : Int) + 0) : Int) = _ by omega)) (pAll1 (pgS ho hh (s) (by omega) (show (0 + (1 * (s : Int) + 0) : Int) = _ by omega) (show (0 + (1 * ((wSk (wN h) (wB h) (s)) : Int) + 0) : Int) = _ by omega)) (pAll1 (pgC ho hh ((wSk (wN h) (wB h) (s))) (by omega) (show (0 + (1 * ((wSk (wN h) (wB h) (s)) : Int) + 0) : Int) = _ by omega) (show (0 + (1 * (wCh (wN h) (wB h) ((wSk (wN h) (wB h) (s)))) + 0) : Int) = _ by omega)) (pAll0)))
        · rw [if_neg h3] at a4
          unfold wFl at a4
          have hu : (wCh (wN h) (wB h) ((wSk (wN h) (wB h) (s)))) ≤ 92 ∨ 94 ≤ (wCh (wN h) (wB h) ((wSk (wN h) (wB h) (s)))) := by omega
          rcases hu with hu | hu
          · refine ⟨rATm_3, List.mem_of_getElem? (i := 3) rfl, pEnd [ρ 0, ρ 1, ρ 2, ρ 3, ρ 4, ρ 5, ρ 6, (s : Int), ((wSk (wN h) (wB h) (s)) : Int), (wCh (wN h) (wB h) ((wSk (wN h) (wB h) (s))))] rfl ?_ ?_ ?_ ?_⟩
            · intro j hj
              match j, hj with
              | 0, _ => exact q0.symm
              | 1, _ => exact q1.symm
              | 2, _ => exact q2.symm
              | 3, _ => exact q3.symm
              | 4, _ => exact q4.symm
              | 5, _ => exact q5.symm
              | 6, _ => exact q6.symm
              | k + 7, hj => exact absurd hj (by show ¬ (k + 7 < 7); omega)
            · intro k b hk
              match k, hk with
              | 0, hk => cases hk; exact (show (0 : Int) ≤ (s : Int) ∧ (s : Int) ≤ (240 : Int) by omega)
              | 1, hk => cases hk; exact (show (0 : Int) ≤ ((wSk (wN h) (wB h) (s)) : Int) ∧ ((wSk (wN h) (wB h) (s)) : Int) ≤ (240 : Int) by omega)
              | 2, hk => cases hk; exact (show (0 : Int) ≤ (wCh (wN h) (wB h) ((wSk (wN h) (wB h) (s)))) ∧ (wCh (wN h) (wB h) ((wSk (wN h) (wB h) (s)))) ≤ (92 : Int) by omega)
              | k + 3, hk => cases hk
            · exact pAll1 (show (0 + (1 * ρ 2 + ((-1) * ρ 5 + 0)) : Int) ≤ 0 by omega) (pAll1 (show (0 + ((-1) * ρ 1 + (1 * ρ 5 + 0)) : Int) ≤ 0 by omega) (pAll1 (show (1 + ((-1) * ρ 1 + (1 * ρ 5 + 0)) : Int) ≤ 0 by omega) (pAll1 (show (1 + ((-1) * ρ 6 + 0) : Int) ≤ 0 by omega) (pAll1 (show ((-91) + (1 * ρ 6 + 0) : Int) ≤ 0 by omega) (pAll1 (show (91 + ((-1) * ρ 6 + 0) : Int) ≤ 0 by omega) (pAll1 (show ((-5) + (1 * ρ 3 + 0) : Int) ≤ 0 by omega) (pAll1 (show (0 + (1 * (s : Int) + ((-1) * ((wSk (wN h) (wB h) (s)) : Int) + 0)) : Int) ≤ 0 by omega) (pAll1 (show (0 + ((-1) * ρ 1 + (1 * ((wSk (wN h) (wB h) (s)) : Int) + 0)) : Int) ≤ 0 by omega) (pAll1 (show (1 + (1 * ρ 4 + (1 * ((wSk (wN h) (wB h) (s)) : Int) + 0)) : Int) ≤ 0 by omega) (pAll1 (show ((-1) + ((-1) * ρ 4 + ((-1) * ((wSk (wN h) (wB h) (s)) : Int) + 0)) : Int) ≤ 0 by omega) (pAll0)))))))))))
            · exact pAll1 (pgG ho hh 505 3 rfl rfl (d + 1) ((wSk (wN h) (wB h) (p)) + 1) (by omega) (by omega) (show (242 + (241 * ρ 3 + (1 * ρ 5 + 0)) : Int) = _ by omega) (show (0 + (1 * (s : Int) + 0) : Int) = _ by omega)) (pAll1 (pgS ho hh (s) (by omega) (show (0 + (1 * (s : Int) + 0) : Int) = _ by omega) (show (0 + (1 * ((wSk (wN h) (wB h) (s)) : Int) + 0) : Int) = _ by omega)) (pAll1 (pgC ho hh ((wSk (wN h) (wB h) (s))) (by omega) (show (0 + (1 * ((wSk (wN h) (wB h) (s)) : Int) + 0) : Int) = _ by omega) (show (0 + (1 * (wCh (wN h) (wB h) ((wSk (wN h) (wB h) (s)))) + 0) : Int) = _ by omega)) (pAll0)))
          · refine ⟨rATm_4, List.mem_of_getElem? (i := 4) rfl, pEnd [ρ 0, ρ 1, ρ 2, ρ 3, ρ 4, ρ 5, ρ 6, (s : Int), ((wSk (wN h) (wB h) (s)) : Int), (wCh (wN h) (wB h) ((wSk (wN h) (wB h) (s))))] rfl ?_ ?_ ?_ ?_⟩
            · intro j hj
              match j, hj with
              | 0, _ => exact q0.symm
              | 1, _ => exact q1.symm
              | 2, _ => exact q2.symm
              | 3, _ => exact q3.symm
              | 4, _ => exact q4.symm
              | 5, _ => exact q5.symm
              | 6, _ => exact q6.symm
              | k + 7, hj => exact absurd hj (by show ¬ (k + 7 < 7); omega)
            · intro k b hk
              match k, hk with
              | 0, hk => cases hk; exact (show (0 : Int) ≤ (s : Int) ∧ (s : Int) ≤ (240 : Int) by omega)
              | 1, hk => cases hk; exact (show (0 : Int) ≤ ((wSk (wN h) (wB h) (s)) : Int) ∧ ((wSk (wN h) (wB h) (s)) : Int) ≤ (240 : Int) by omega)
              | 2, hk => cases hk; exact (show (94 : Int) ≤ (wCh (wN h) (wB h) ((wSk (wN h) (wB h) (s)))) ∧ (wCh (wN h) (wB h) ((wSk (wN h) (wB h) (s)))) ≤ (255 : Int) by omega)
              | k + 3, hk => cases hk
            · exact pAll1 (show (0 + (1 * ρ 2 + ((-1) * ρ 5 + 0)) : Int) ≤ 0 by omega) (pAll1 (show (0 + ((-1) * ρ 1 + (1 * ρ 5 + 0)) : Int) ≤ 0 by omega) (pAll1 (show (1 + ((-1) * ρ 1 + (1 * ρ 5 + 0)) : Int) ≤ 0 by omega) (pAll1 (show (1 + ((-1) * ρ 6 + 0) : Int) ≤ 0 by omega) (pAll1 (show ((-91) + (1 * ρ 6 + 0) : Int) ≤ 0 by omega) (pAll1 (show (91 + ((-1) * ρ 6 + 0) : Int) ≤ 0 by omega) (pAll1 (show ((-5) + (1 * ρ 3 + 0) : Int) ≤ 0 by omega) (pAll1 (show (0 + (1 * (s : Int) + ((-1) * ((wSk (wN h) (wB h) (s)) : Int) + 0)) : Int) ≤ 0 by omega) (pAll1 (show (0 + ((-1) * ρ 1 + (1 * ((wSk (wN h) (wB h) (s)) : Int) + 0)) : Int) ≤ 0 by omega) (pAll1 (show (1 + (1 * ρ 4 + (1 * ((wSk (wN h) (wB h) (s)) : Int) + 0)) : Int) ≤ 0 by omega) (pAll1 (show ((-1) + ((-1) * ρ 4 + ((-1) * ((wSk (wN h) (wB h) (s)) : Int) + 0)) : Int) ≤ 0 by omega) (pAll0)))))))))))
            · exact pAll1 (pgG ho hh 505 3 rfl rfl (d + 1) ((wSk (wN h) (wB h) (p)) + 1) (by omega) (by omega) (show (242 + (241 * ρ 3 + (1 * ρ 5 + 0)) : Int) = _ by omega) (show (0 + (1 * (s : Int) + 0) : Int) = _ by omega)) (pAll1 (pgS ho hh (s) (by omega) (show (0 + (1 * (s : Int) + 0) : Int) = _ by omega) (show (0 + (1 * ((wSk (wN h) (wB h) (s)) : Int) + 0) : Int) = _ by omega)) (pAll1 (pgC ho hh ((wSk (wN h) (wB h) (s))) (by omega) (show (0 + (1 * ((wSk (wN h) (wB h) (s)) : Int) + 0) : Int) = _ by omega) (show (0 + (1 * (wCh (wN h) (wB h) ((wSk (wN h) (wB h) (s)))) + 0) : Int) = _ by omega)) (pAll0)))
  · rw [if_neg h1] at er
    by_cases h2 : ((wCh (wN h) (wB h) ((wSk (wN h) (wB h) (p)))) = 100 ∨ (wCh (wN h) (wB h) ((wSk (wN h) (wB h) (p)))) = 101 ∨ (wCh (wN h) (wB h) ((wSk (wN h) (wB h) (p)))) = 104 ∨ (wCh (wN h) (wB h) ((wSk (wN h) (wB h) (p)))) = 105 ∨ (wCh (wN h) (wB h) ((wSk (wN h) (wB h) (p)))) = 110 ∨ (wCh (wN h) (wB h) ((wSk (wN h) (wB h) (p)))) = 119)
    · rw [if_pos h2] at er
      have hq := clc (by omega)
      have hu : (100 ≤ (wCh (wN h) (wB h) ((wSk (wN h) (wB h) (p)))) ∧ (wCh (wN h) (wB h) ((wSk (wN h) (wB h) (p)))) ≤ 101) ∨ (104 ≤ (wCh (wN h) (wB h) ((wSk (wN h) (wB h) (p)))) ∧ (wCh (wN h) (wB h) ((wSk (wN h) (wB h) (p)))) ≤ 105) ∨ (wCh (wN h) (wB h) ((wSk (wN h) (wB h) (p)))) = 110 ∨ (wCh (wN h) (wB h) ((wSk (wN h) (wB h) (p)))) = 119 := by omega
      rcases hu with hu | hu | hu | hu
      · refine ⟨rATm_5, List.mem_of_getElem? (i := 5) rfl, pEnd [ρ 0, ρ 1, ρ 2, ρ 3, ρ 4, ρ 5, ρ 6] rfl ?_ ?_ ?_ ?_⟩
        · exact hL
        · intro k b hk
          cases hk
        · exact pAll1 (show (0 + (1 * ρ 2 + ((-1) * ρ 5 + 0)) : Int) ≤ 0 by omega) (pAll1 (show (0 + ((-1) * ρ 1 + (1 * ρ 5 + 0)) : Int) ≤ 0 by omega) (pAll1 (show (1 + ((-1) * ρ 1 + (1 * ρ 5 + 0)) : Int) ≤ 0 by omega) (pAll1 (show (1 + ((-1) * ρ 6 + 0) : Int) ≤ 0 by omega) (pAll1 (show (100 + ((-1) * ρ 6 + 0) : Int) ≤ 0 by omega) (pAll1 (show ((-101) + (1 * ρ 6 + 0) : Int) ≤ 0 by omega) (pAll1 (show ((-1) + (1 * ρ 4 + ((-1) * ρ 5 + 0)) : Int) ≤ 0 by omega) (pAll1 (show (1 + ((-1) * ρ 4 + (1 * ρ 5 + 0)) : Int) ≤ 0 by omega) (pAll0))))))))
        · exact pAll0
      · refine ⟨rATm_6, List.mem_of_getElem? (i := 6) rfl, pEnd [ρ 0, ρ 1, ρ 2, ρ 3, ρ 4, ρ 5, ρ 6] rfl ?_ ?_ ?_ ?_⟩
        · exact hL
        · intro k b hk
          cases hk
        · exact pAll1 (show (0 + (1 * ρ 2 + ((-1) * ρ 5 + 0)) : Int) ≤ 0 by omega) (pAll1 (show (0 + ((-1) * ρ 1 + (1 * ρ 5 + 0)) : Int) ≤ 0 by omega) (pAll1 (show (1 + ((-1) * ρ 1 + (1 * ρ 5 + 0)) : Int) ≤ 0 by omega) (pAll1 (show (1 + ((-1) * ρ 6 + 0) : Int) ≤ 0 by omega) (pAll1 (show (104 + ((-1) * ρ 6 + 0) : Int) ≤ 0 by omega) (pAll1 (show ((-105) + (1 * ρ 6 + 0) : Int) ≤ 0 by omega) (pAll1 (show ((-1) + (1 * ρ 4 + ((-1) * ρ 5 + 0)) : Int) ≤ 0 by omega) (pAll1 (show (1 + ((-1) * ρ 4 + (1 * ρ 5 + 0)) : Int) ≤ 0 by omega) (pAll0))))))))
        · exact pAll0
      · refine ⟨rATm_7, List.mem_of_getElem? (i := 7) rfl, pEnd [ρ 0, ρ 1, ρ 2, ρ 3, ρ 4, ρ 5, ρ 6] rfl ?_ ?_ ?_ ?_⟩
        · exact hL
        · intro k b hk
          cases hk
        · exact pAll1 (show (0 + (1 * ρ 2 + ((-1) * ρ 5 + 0)) : Int) ≤ 0 by omega) (pAll1 (show (0 + ((-1) * ρ 1 + (1 * ρ 5 + 0)) : Int) ≤ 0 by omega) (pAll1 (show (1 + ((-1) * ρ 1 + (1 * ρ 5 + 0)) : Int) ≤ 0 by omega) (pAll1 (show (1 + ((-1) * ρ 6 + 0) : Int) ≤ 0 by omega) (pAll1 (show (110 + ((-1) * ρ 6 + 0) : Int) ≤ 0 by omega) (pAll1 (show ((-110) + (1 * ρ 6 + 0) : Int) ≤ 0 by omega) (pAll1 (show ((-1) + (1 * ρ 4 + ((-1) * ρ 5 + 0)) : Int) ≤ 0 by omega) (pAll1 (show (1 + ((-1) * ρ 4 + (1 * ρ 5 + 0)) : Int) ≤ 0 by omega) (pAll0))))))))
        · exact pAll0
      · refine ⟨rATm_8, List.mem_of_getElem? (i := 8) rfl, pEnd [ρ 0, ρ 1, ρ 2, ρ 3, ρ 4, ρ 5, ρ 6] rfl ?_ ?_ ?_ ?_⟩
        · exact hL
        · intro k b hk
          cases hk
        · exact pAll1 (show (0 + (1 * ρ 2 + ((-1) * ρ 5 + 0)) : Int) ≤ 0 by omega) (pAll1 (show (0 + ((-1) * ρ 1 + (1 * ρ 5 + 0)) : Int) ≤ 0 by omega) (pAll1 (show (1 + ((-1) * ρ 1 + (1 * ρ 5 + 0)) : Int) ≤ 0 by omega) (pAll1 (show (1 + ((-1) * ρ 6 + 0) : Int) ≤ 0 by omega) (pAll1 (show (119 + ((-1) * ρ 6 + 0) : Int) ≤ 0 by omega) (pAll1 (show ((-119) + (1 * ρ 6 + 0) : Int) ≤ 0 by omega) (pAll1 (show ((-1) + (1 * ρ 4 + ((-1) * ρ 5 + 0)) : Int) ≤ 0 by omega) (pAll1 (show (1 + ((-1) * ρ 4 + (1 * ρ 5 + 0)) : Int) ≤ 0 by omega) (pAll0))))))))
        · exact pAll0
    · rw [if_neg h2] at er
      by_cases h3 : 48 ≤ (wCh (wN h) (wB h) ((wSk (wN h) (wB h) (p)))) ∧ (wCh (wN h) (wB h) ((wSk (wN h) (wB h) (p)))) ≤ 57
      · rw [if_pos h3] at er
        have hq := clc (by omega)
        refine ⟨rATm_9, List.mem_of_getElem? (i := 9) rfl, pEnd [ρ 0, ρ 1, ρ 2, ρ 3, ρ 4, ρ 5, ρ 6] rfl ?_ ?_ ?_ ?_⟩
        · exact hL
        · intro k b hk
          cases hk
        · exact pAll1 (show (0 + (1 * ρ 2 + ((-1) * ρ 5 + 0)) : Int) ≤ 0 by omega) (pAll1 (show (0 + ((-1) * ρ 1 + (1 * ρ 5 + 0)) : Int) ≤ 0 by omega) (pAll1 (show (1 + ((-1) * ρ 1 + (1 * ρ 5 + 0)) : Int) ≤ 0 by omega) (pAll1 (show (1 + ((-1) * ρ 6 + 0) : Int) ≤ 0 by omega) (pAll1 (show (48 + ((-1) * ρ 6 + 0) : Int) ≤ 0 by omega) (pAll1 (show ((-57) + (1 * ρ 6 + 0) : Int) ≤ 0 by omega) (pAll0))))))
        · exact pAll1 (pgN ho hh ((wSk (wN h) (wB h) (p))) (by omega) (by omega) (show (0 + (1 * ρ 5 + 0) : Int) = _ by omega) (show (0 + (1 * ρ 4 + 0) : Int) = _ by omega)) (pAll0)
      · rw [if_neg h3] at er
        unfold wFl at er
        have hu : (wCh (wN h) (wB h) ((wSk (wN h) (wB h) (p)))) ≤ 47 ∨ (58 ≤ (wCh (wN h) (wB h) ((wSk (wN h) (wB h) (p)))) ∧ (wCh (wN h) (wB h) ((wSk (wN h) (wB h) (p)))) ≤ 90) ∨ (92 ≤ (wCh (wN h) (wB h) ((wSk (wN h) (wB h) (p)))) ∧ (wCh (wN h) (wB h) ((wSk (wN h) (wB h) (p)))) ≤ 99) ∨ (102 ≤ (wCh (wN h) (wB h) ((wSk (wN h) (wB h) (p)))) ∧ (wCh (wN h) (wB h) ((wSk (wN h) (wB h) (p)))) ≤ 103) ∨ (106 ≤ (wCh (wN h) (wB h) ((wSk (wN h) (wB h) (p)))) ∧ (wCh (wN h) (wB h) ((wSk (wN h) (wB h) (p)))) ≤ 109) ∨ (111 ≤ (wCh (wN h) (wB h) ((wSk (wN h) (wB h) (p)))) ∧ (wCh (wN h) (wB h) ((wSk (wN h) (wB h) (p)))) ≤ 118) ∨ 120 ≤ (wCh (wN h) (wB h) ((wSk (wN h) (wB h) (p)))) := by omega
        rcases hu with hu | hu | hu | hu | hu | hu | hu
        · refine ⟨rATm_10, List.mem_of_getElem? (i := 10) rfl, pEnd [ρ 0, ρ 1, ρ 2, ρ 3, ρ 4, ρ 5, ρ 6] rfl ?_ ?_ ?_ ?_⟩
          · exact hL
          · intro k b hk
            cases hk
          · exact pAll1 (show (0 + (1 * ρ 2 + ((-1) * ρ 5 + 0)) : Int) ≤ 0 by omega) (pAll1 (show (0 + ((-1) * ρ 1 + (1 * ρ 5 + 0)) : Int) ≤ 0 by omega) (pAll1 (show ((-47) + (1 * ρ 6 + 0) : Int) ≤ 0 by omega) (pAll1 (show (1 + (1 * ρ 4 + (1 * ρ 5 + 0)) : Int) ≤ 0 by omega) (pAll1 (show ((-1) + ((-1) * ρ 4 + ((-1) * ρ 5 + 0)) : Int) ≤ 0 by omega) (pAll0)))))
          · exact pAll0
        · refine ⟨rATm_11, List.mem_of_getElem? (i := 11) rfl, pEnd [ρ 0, ρ 1, ρ 2, ρ 3, ρ 4, ρ 5, ρ 6] rfl ?_ ?_ ?_ ?_⟩
          · exact hL
          · intro k b hk
            cases hk
          · exact pAll1 (show (0 + (1 * ρ 2 + ((-1) * ρ 5 + 0)) : Int) ≤ 0 by omega) (pAll1 (show (0 + ((-1) * ρ 1 + (1 * ρ 5 + 0)) : Int) ≤ 0 by omega) (pAll1 (show (58 + ((-1) * ρ 6 + 0) : Int) ≤ 0 by omega) (pAll1 (show ((-90) + (1 * ρ 6 + 0) : Int) ≤ 0 by omega) (pAll1 (show (1 + (1 * ρ 4 + (1 * ρ 5 + 0)) : Int) ≤ 0 by omega) (pAll1 (show ((-1) + ((-1) * ρ 4 + ((-1) * ρ 5 + 0)) : Int) ≤ 0 by omega) (pAll0))))))
          · exact pAll0
        · refine ⟨rATm_12, List.mem_of_getElem? (i := 12) rfl, pEnd [ρ 0, ρ 1, ρ 2, ρ 3, ρ 4, ρ 5, ρ 6] rfl ?_ ?_ ?_ ?_⟩
          · exact hL
          · intro k b hk
            cases hk
          · exact pAll1 (show (0 + (1 * ρ 2 + ((-1) * ρ 5 + 0)) : Int) ≤ 0 by omega) (pAll1 (show (0 + ((-1) * ρ 1 + (1 * ρ 5 + 0)) : Int) ≤ 0 by omega) (pAll1 (show (92 + ((-1) * ρ 6 + 0) : Int) ≤ 0 by omega) (pAll1 (show ((-99) + (1 * ρ 6 + 0) : Int) ≤ 0 by omega) (pAll1 (show (1 + (1 * ρ 4 + (1 * ρ 5 + 0)) : Int) ≤ 0 by omega) (pAll1 (show ((-1) + ((-1) * ρ 4 + ((-1) * ρ 5 + 0)) : Int) ≤ 0 by omega) (pAll0))))))
          · exact pAll0
        · refine ⟨rATm_13, List.mem_of_getElem? (i := 13) rfl, pEnd [ρ 0, ρ 1, ρ 2, ρ 3, ρ 4, ρ 5, ρ 6] rfl ?_ ?_ ?_ ?_⟩
          · exact hL
          · intro k b hk
            cases hk
          · exact pAll1 (show (0 + (1 * ρ 2 + ((-1) * ρ 5 + 0)) : Int) ≤ 0 by omega) (pAll1 (show (0 + ((-1) * ρ 1 + (1 * ρ 5 + 0)) : Int) ≤ 0 by omega) (pAll1 (show (102 + ((-1) * ρ 6 + 0) : Int) ≤ 0 by omega) (pAll1 (show ((-103) + (1 * ρ 6 + 0) : Int) ≤ 0 by omega) (pAll1 (show (1 + (1 * ρ 4 + (1 * ρ 5 + 0)) : Int) ≤ 0 by omega) (pAll1 (show ((-1) + ((-1) * ρ 4 + ((-1) * ρ 5 + 0)) : Int) ≤ 0 by omega) (pAll0))))))
          · exact pAll0
        · refine ⟨rATm_14, List.mem_of_getElem? (i := 14) rfl, pEnd [ρ 0, ρ 1, ρ 2, ρ 3, ρ 4, ρ 5, ρ 6] rfl ?_ ?_ ?_ ?_⟩
          · exact hL
          · intro k b hk
            cases hk
          · exact pAll1 (show (0 + (1 * ρ 2 + ((-1) * ρ 5 + 0)) : Int) ≤ 0 by omega) (pAll1 (show (0 + ((-1) * ρ 1 + (1 * ρ 5 + 0)) : Int) ≤ 0 by omega) (pAll1 (show (106 + ((-1) * ρ 6 + 0) : Int) ≤ 0 by omega) (pAll1 (show ((-109) + (1 * ρ 6 + 0) : Int) ≤ 0 by omega) (pAll1 (show (1 + (1 * ρ 4 + (1 * ρ 5 + 0)) : Int) ≤ 0 by omega) (pAll1 (show ((-1) + ((-1) * ρ 4 + ((-1) * ρ 5 + 0)) : Int) ≤ 0 by omega) (pAll0))))))
          · exact pAll0
        · refine ⟨rATm_15, List.mem_of_getElem? (i := 15) rfl, pEnd [ρ 0, ρ 1, ρ 2, ρ 3, ρ 4, ρ 5, ρ 6] rfl ?_ ?_ ?_ ?_⟩
          · exact hL
          · intro k b hk
            cases hk
          · exact pAll1 (show (0 + (1 * ρ 2 + ((-1) * ρ 5 + 0)) : Int) ≤ 0 by omega) (pAll1 (show (0 + ((-1) * ρ 1 + (1 * ρ 5 + 0)) : Int) ≤ 0 by omega) (pAll1 (show (111 + ((-1) * ρ 6 + 0) : Int) ≤ 0 by omega) (pAll1 (show ((-118) + (1 * ρ 6 + 0) : Int) ≤ 0 by omega) (pAll1 (show (1 + (1 * ρ 4 + (1 * ρ 5 + 0)) : Int) ≤ 0 by omega) (pAll1 (show ((-1) + ((-1) * ρ 4 + ((-1) * ρ 5 + 0)) : Int) ≤ 0 by omega) (pAll0))))))
          · exact pAll0
        · refine ⟨rATm_16, List.mem_of_getElem? (i := 16) rfl, pEnd [ρ 0, ρ 1, ρ 2, ρ 3, ρ 4, ρ 5, ρ 6] rfl ?_ ?_ ?_ ?_⟩
          · exact hL
          · intro k b hk
            cases hk
          · exact pAll1 (show (0 + (1 * ρ 2 + ((-1) * ρ 5 + 0)) : Int) ≤ 0 by omega) (pAll1 (show (0 + ((-1) * ρ 1 + (1 * ρ 5 + 0)) : Int) ≤ 0 by omega) (pAll1 (show (120 + ((-1) * ρ 6 + 0) : Int) ≤ 0 by omega) (pAll1 (show (1 + (1 * ρ 4 + (1 * ρ 5 + 0)) : Int) ≤ 0 by omega) (pAll1 (show ((-1) + ((-1) * ρ 4 + ((-1) * ρ 5 + 0)) : Int) ≤ 0 by omega) (pAll0)))))
          · exact pAll0
noncomputable def rTMm_0 : sX := (none, [], [], [(1, [(5, 1)]), (0, [(4, 1), (5, (-1))]), (0, [(4, (-1)), (5, 1)])], [])
noncomputable def rTMm_1 : sX := (none, [(504, (0, [(3, 241), (5, 1)]), (0, [(4, 1)]))], [], [(1, [(2, 1), (5, (-1))]), (0, [(1, (-1)), (5, 1)])], [])
noncomputable def rTMm : sQ := (0, ([], [(2, 1013, (0, [])), (2, 120, (2, [])), (2, 120, (3, [])), (2, 120, (5, [])), (2, 503, (0, [(2, 1), (3, 241)])), (2, 502, (0, [(2, 1), (3, 241)]))], [(1, 1), (0, 240), (0, 240), (0, 6), ((-241), 240), ((-241), 240)], [(0, [(1, (-1)), (2, 1)])], [(0, 0), (1, 1), (2, 2), (3, 3), (4, 4), (5, 5)], (0, [])), [rTMm_0, rTMm_1], [], 0)
theorem rTMm_ok : pRul pReg pG pgv rTMm := by
  intro loc h ρ ρ0 hG hM
  have hM : sMt pReg pgv ρ ρ0 (sAs rTMm.2.1) loc [] h := hM
  have q0 : ρ0 1 = ρ 0 := (hM.2.2.2.2.2 (1, sY 0) (List.mem_of_getElem? (i := 1) rfl)).trans (sY_v ρ 0)
  have q1 : ρ0 2 = ρ 1 := (hM.2.2.2.2.2 (2, sY 1) (List.mem_of_getElem? (i := 2) rfl)).trans (sY_v ρ 1)
  have q2 : ρ0 3 = ρ 2 := (hM.2.2.2.2.2 (3, sY 2) (List.mem_of_getElem? (i := 3) rfl)).trans (sY_v ρ 2)
  have q3 : ρ0 4 = ρ 3 := (hM.2.2.2.2.2 (4, sY 3) (List.mem_of_getElem? (i := 4) rfl)).trans (sY_v ρ 3)
  have q4 : ρ0 5 = ρ 4 := (hM.2.2.2.2.2 (5, sY 4) (List.mem_of_getElem? (i := 5) rfl)).trans (sY_v ρ 4)
  have q5 : ρ0 6 = ρ 5 := (hM.2.2.2.2.2 (6, sY 5) (List.mem_of_getElem? (i := 6) rfl)).trans (sY_v ρ 5)
  have hL : ∀ j, j < 6 → pL [ρ 0, ρ 1, ρ 2, ρ 3, ρ 4, ρ 5] j = ρ0 (j + 1) := by
    intro j hj
    match j, hj with
    | 0, _ => exact q0.symm
    | 1, _ => exact q1.symm
    | 2, _ => exact q2.symm
    | 3, _ => exact q3.symm
    | 4, _ => exact q4.symm
    | 5, _ => exact q5.symm
    | k + 6, hj => omega
  have b0 : (1 : Int) ≤ ρ 0 ∧ ρ 0 ≤ 1 := hM.2.2.2.1 0 (1, 1) rfl
  have b1 : (0 : Int) ≤ ρ 1 ∧ ρ 1 ≤ 240 := hM.2.2.2.1 1 (0, 240) rfl
  have b2 : (0 : Int) ≤ ρ 2 ∧ ρ 2 ≤ 240 := hM.2.2.2.1 2 (0, 240) rfl
  have b3 : (0 : Int) ≤ ρ 3 ∧ ρ 3 ≤ 6 := hM.2.2.2.1 3 (0, 6) rfl
  have b4 : ((-241) : Int) ≤ ρ 4 ∧ ρ 4 ≤ 240 := hM.2.2.2.1 4 ((-241), 240) rfl
  have b5 : ((-241) : Int) ≤ ρ 5 ∧ ρ 5 ≤ 240 := hM.2.2.2.1 5 ((-241), 240) rfl
  have c0 : (0 + ((-1) * ρ 1 + (1 * ρ 2 + 0)) : Int) ≤ 0 := hM.2.2.2.2.1 (0, [(1, (-1)), (2, 1)]) (List.mem_of_getElem? (i := 0) rfl)
  obtain ⟨ho, hs, hh⟩ := pTold13 hM 0 (0, []) rfl b0.1
  have hn := ho.1
  have en : ρ 1 = (wN h : Int) := (pPl hM 1 120 (2, []) rfl (by omega) 440 2 (by decide +kernel) rfl).symm.trans hs.1
  obtain ⟨p, ep⟩ : ∃ p : Nat, ρ 2 = (p : Int) := ⟨(ρ 2).toNat, by omega⟩
  have hp : p ≤ wN h := by omega
  obtain ⟨s1, s2⟩ := wSk_le (B := wB h) hp
  obtain ⟨d, ed⟩ : ∃ d : Nat, ρ 3 = (d : Int) := ⟨(ρ 3).toNat, by omega⟩
  have er : ρ 4 = (wG (wN h) (wB h) 1 (d) (p)) := pfG hM ho hh 4 503 1 (0, [(2, 1), (3, 241)]) rfl rfl rfl (d := d) (p := p) (by omega) (by omega) (by show (0 + (1 * ρ 2 + (241 * ρ 3 + 0)) : Int) = _; omega)
  have ea : ρ 5 = (wG (wN h) (wB h) 0 (d) (p)) := pfG hM ho hh 5 502 0 (0, [(2, 1), (3, 241)]) rfl rfl rfl (d := d) (p := p) (by omega) (by omega) (by show (0 + (1 * ρ 2 + (241 * ρ 3 + 0)) : Int) = _; omega)
  rw [wE_TM hp] at er
  have g := wG_gd (n := wN h) (B := wB h) 0 d p rfl hp
  rcases wBd_el er g with ⟨a1, a2⟩ | ⟨s, a1, a2, a3, a4⟩
  · refine ⟨rTMm_0, List.mem_of_getElem? (i := 0) rfl, pEnd [ρ 0, ρ 1, ρ 2, ρ 3, ρ 4, ρ 5] rfl ?_ ?_ ?_ ?_⟩
    · exact hL
    · intro k b hk
      cases hk
    · exact pAll1 (show (1 + (1 * ρ 5 + 0) : Int) ≤ 0 by omega) (pAll1 (show (0 + (1 * ρ 4 + ((-1) * ρ 5 + 0)) : Int) ≤ 0 by omega) (pAll1 (show (0 + ((-1) * ρ 4 + (1 * ρ 5 + 0)) : Int) ≤ 0 by omega) (pAll0)))
    · exact pAll0
  · have a2 : p + 1 ≤ s := a2
    refine ⟨rTMm_1, List.mem_of_getElem? (i := 1) rfl, pEnd [ρ 0, ρ 1, ρ 2, ρ 3, ρ 4, ρ 5] rfl ?_ ?_ ?_ ?_⟩
    · exact hL
    · intro k b hk
      cases hk
    · exact pAll1 (show (1 + (1 * ρ 2 + ((-1) * ρ 5 + 0)) : Int) ≤ 0 by omega) (pAll1 (show (0 + ((-1) * ρ 1 + (1 * ρ 5 + 0)) : Int) ≤ 0 by omega) (pAll0))
    · exact pAll1 (pgG ho hh 504 2 rfl rfl (d) (s) (by omega) (by omega) (show (0 + (241 * ρ 3 + (1 * ρ 5 + 0)) : Int) = _ by omega) (show (0 + (1 * ρ 4 + 0) : Int) = _ by omega)) (pAll0)
noncomputable def rSUm_0 : sX := (none, [], [], [(1, [(5, 1)]), (0, [(4, 1), (5, (-1))]), (0, [(4, (-1)), (5, 1)])], [])
noncomputable def rSUm_1 : sX := (none, [(506, (0, [(3, 241), (5, 1)]), (0, [(4, 1)]))], [], [(1, [(2, 1), (5, (-1))]), (0, [(1, (-1)), (5, 1)])], [])
noncomputable def rSUm : sQ := (0, ([], [(2, 1013, (0, [])), (2, 120, (2, [])), (2, 120, (3, [])), (2, 120, (5, [])), (2, 505, (0, [(2, 1), (3, 241)])), (2, 503, (0, [(2, 1), (3, 241)]))], [(1, 1), (0, 240), (0, 240), (0, 6), ((-241), 240), ((-241), 240)], [(0, [(1, (-1)), (2, 1)])], [(0, 0), (1, 1), (2, 2), (3, 3), (4, 4), (5, 5)], (0, [])), [rSUm_0, rSUm_1], [], 0)
theorem rSUm_ok : pRul pReg pG pgv rSUm := by
  intro loc h ρ ρ0 hG hM
  have hM : sMt pReg pgv ρ ρ0 (sAs rSUm.2.1) loc [] h := hM
  have q0 : ρ0 1 = ρ 0 := (hM.2.2.2.2.2 (1, sY 0) (List.mem_of_getElem? (i := 1) rfl)).trans (sY_v ρ 0)
  have q1 : ρ0 2 = ρ 1 := (hM.2.2.2.2.2 (2, sY 1) (List.mem_of_getElem? (i := 2) rfl)).trans (sY_v ρ 1)
  have q2 : ρ0 3 = ρ 2 := (hM.2.2.2.2.2 (3, sY 2) (List.mem_of_getElem? (i := 3) rfl)).trans (sY_v ρ 2)
  have q3 : ρ0 4 = ρ 3 := (hM.2.2.2.2.2 (4, sY 3) (List.mem_of_getElem? (i := 4) rfl)).trans (sY_v ρ 3)
  have q4 : ρ0 5 = ρ 4 := (hM.2.2.2.2.2 (5, sY 4) (List.mem_of_getElem? (i := 5) rfl)).trans (sY_v ρ 4)
  have q5 : ρ0 6 = ρ 5 := (hM.2.2.2.2.2 (6, sY 5) (List.mem_of_getElem? (i := 6) rfl)).trans (sY_v ρ 5)
  have hL : ∀ j, j < 6 → pL [ρ 0, ρ 1, ρ 2, ρ 3, ρ 4, ρ 5] j = ρ0 (j + 1) := by
    intro j hj
    match j, hj with
    | 0, _ => exact q0.symm
    | 1, _ => exact q1.symm
    | 2, _ => exact q2.symm
    | 3, _ => exact q3.symm
    | 4, _ => exact q4.symm
    | 5, _ => exact q5.symm
    | k + 6, hj => omega
  have b0 : (1 : Int) ≤ ρ 0 ∧ ρ 0 ≤ 1 := hM.2.2.2.1 0 (1, 1) rfl
  have b1 : (0 : Int) ≤ ρ 1 ∧ ρ 1 ≤ 240 := hM.2.2.2.1 1 (0, 240) rfl
  have b2 : (0 : Int) ≤ ρ 2 ∧ ρ 2 ≤ 240 := hM.2.2.2.1 2 (0, 240) rfl
  have b3 : (0 : Int) ≤ ρ 3 ∧ ρ 3 ≤ 6 := hM.2.2.2.1 3 (0, 6) rfl
  have b4 : ((-241) : Int) ≤ ρ 4 ∧ ρ 4 ≤ 240 := hM.2.2.2.1 4 ((-241), 240) rfl
  have b5 : ((-241) : Int) ≤ ρ 5 ∧ ρ 5 ≤ 240 := hM.2.2.2.1 5 ((-241), 240) rfl
  have c0 : (0 + ((-1) * ρ 1 + (1 * ρ 2 + 0)) : Int) ≤ 0 := hM.2.2.2.2.1 (0, [(1, (-1)), (2, 1)]) (List.mem_of_getElem? (i := 0) rfl)
  obtain ⟨ho, hs, hh⟩ := pTold13 hM 0 (0, []) rfl b0.1
  have hn := ho.1
  have en : ρ 1 = (wN h : Int) := (pPl hM 1 120 (2, []) rfl (by omega) 440 2 (by decide +kernel) rfl).symm.trans hs.1
  obtain ⟨p, ep⟩ : ∃ p : Nat, ρ 2 = (p : Int) := ⟨(ρ 2).toNat, by omega⟩
  have hp : p ≤ wN h := by omega
  obtain ⟨s1, s2⟩ := wSk_le (B := wB h) hp
  obtain ⟨d, ed⟩ : ∃ d : Nat, ρ 3 = (d : Int) := ⟨(ρ 3).toNat, by omega⟩
  have er : ρ 4 = (wG (wN h) (wB h) 3 (d) (p)) := pfG hM ho hh 4 505 3 (0, [(2, 1), (3, 241)]) rfl rfl rfl (d := d) (p := p) (by omega) (by omega) (by show (0 + (1 * ρ 2 + (241 * ρ 3 + 0)) : Int) = _; omega)
  have ea : ρ 5 = (wG (wN h) (wB h) 1 (d) (p)) := pfG hM ho hh 5 503 1 (0, [(2, 1), (3, 241)]) rfl rfl rfl (d := d) (p := p) (by omega) (by omega) (by show (0 + (1 * ρ 2 + (241 * ρ 3 + 0)) : Int) = _; omega)
  rw [wE_SU hp] at er
  have g := wG_gd (n := wN h) (B := wB h) 1 d p rfl hp
  rcases wBd_el er g with ⟨a1, a2⟩ | ⟨s, a1, a2, a3, a4⟩
  · refine ⟨rSUm_0, List.mem_of_getElem? (i := 0) rfl, pEnd [ρ 0, ρ 1, ρ 2, ρ 3, ρ 4, ρ 5] rfl ?_ ?_ ?_ ?_⟩
    · exact hL
    · intro k b hk
      cases hk
    · exact pAll1 (show (1 + (1 * ρ 5 + 0) : Int) ≤ 0 by omega) (pAll1 (show (0 + (1 * ρ 4 + ((-1) * ρ 5 + 0)) : Int) ≤ 0 by omega) (pAll1 (show (0 + ((-1) * ρ 4 + (1 * ρ 5 + 0)) : Int) ≤ 0 by omega) (pAll0)))
    · exact pAll0
  · have a2 : p + 1 ≤ s := a2
    refine ⟨rSUm_1, List.mem_of_getElem? (i := 1) rfl, pEnd [ρ 0, ρ 1, ρ 2, ρ 3, ρ 4, ρ 5] rfl ?_ ?_ ?_ ?_⟩
    · exact hL
    · intro k b hk
      cases hk
    · exact pAll1 (show (1 + (1 * ρ 2 + ((-1) * ρ 5 + 0)) : Int) ≤ 0 by omega) (pAll1 (show (0 + ((-1) * ρ 1 + (1 * ρ 5 + 0)) : Int) ≤ 0 by omega) (pAll0))
    · exact pAll1 (pgG ho hh 506 4 rfl rfl (d) (s) (by omega) (by omega) (show (0 + (241 * ρ 3 + (1 * ρ 5 + 0)) : Int) = _ by omega) (show (0 + (1 * ρ 4 + 0) : Int) = _ by omega)) (pAll0)
noncomputable def rTRm_0 : sX := (none, [], [], [(1, [(5, 1)]), (0, [(4, 1), (5, (-1))]), (0, [(4, (-1)), (5, 1)])], [])
noncomputable def rTRm_1 : sX := (none, [(509, (0, [(3, 241), (5, 1)]), (0, [(4, 1)]))], [], [(1, [(2, 1), (5, (-1))]), (0, [(1, (-1)), (5, 1)])], [])
noncomputable def rTRm : sQ := (0, ([], [(2, 1013, (0, [])), (2, 120, (2, [])), (2, 120, (3, [])), (2, 120, (5, [])), (2, 510, (0, [(2, 1), (3, 241)])), (2, 507, (0, [(2, 1), (3, 241)]))], [(1, 1), (0, 240), (0, 240), (0, 6), ((-241), 240), ((-241), 240)], [(0, [(1, (-1)), (2, 1)])], [(0, 0), (1, 1), (2, 2), (3, 3), (4, 4), (5, 5)], (0, [])), [rTRm_0, rTRm_1], [], 0)
theorem rTRm_ok : pRul pReg pG pgv rTRm := by
  intro loc h ρ ρ0 hG hM
  have hM : sMt pReg pgv ρ ρ0 (sAs rTRm.2.1) loc [] h := hM
  have q0 : ρ0 1 = ρ 0 := (hM.2.2.2.2.2 (1, sY 0) (List.mem_of_getElem? (i := 1) rfl)).trans (sY_v ρ 0)
  have q1 : ρ0 2 = ρ 1 := (hM.2.2.2.2.2 (2, sY 1) (List.mem_of_getElem? (i := 2) rfl)).trans (sY_v ρ 1)
  have q2 : ρ0 3 = ρ 2 := (hM.2.2.2.2.2 (3, sY 2) (List.mem_of_getElem? (i := 3) rfl)).trans (sY_v ρ 2)
  have q3 : ρ0 4 = ρ 3 := (hM.2.2.2.2.2 (4, sY 3) (List.mem_of_getElem? (i := 4) rfl)).trans (sY_v ρ 3)
  have q4 : ρ0 5 = ρ 4 := (hM.2.2.2.2.2 (5, sY 4) (List.mem_of_getElem? (i := 5) rfl)).trans (sY_v ρ 4)
  have q5 : ρ0 6 = ρ 5 := (hM.2.2.2.2.2 (6, sY 5) (List.mem_of_getElem? (i := 6) rfl)).trans (sY_v ρ 5)
  have hL : ∀ j, j < 6 → pL [ρ 0, ρ 1, ρ 2, ρ 3, ρ 4, ρ 5] j = ρ0 (j + 1) := by
    intro j hj
    match j, hj with
    | 0, _ => exact q0.symm
    | 1, _ => exact q1.symm
    | 2, _ => exact q2.symm
    | 3, _ => exact q3.symm
    | 4, _ => exact q4.symm
    | 5, _ => exact q5.symm
    | k + 6, hj => omega
  have b0 : (1 : Int) ≤ ρ 0 ∧ ρ 0 ≤ 1 := hM.2.2.2.1 0 (1, 1) rfl
  have b1 : (0 : Int) ≤ ρ 1 ∧ ρ 1 ≤ 240 := hM.2.2.2.1 1 (0, 240) rfl
  have b2 : (0 : Int) ≤ ρ 2 ∧ ρ 2 ≤ 240 := hM.2.2.2.1 2 (0, 240) rfl
  have b3 : (0 : Int) ≤ ρ 3 ∧ ρ 3 ≤ 6 := hM.2.2.2.1 3 (0, 6) rfl
  have b4 : ((-241) : Int) ≤ ρ 4 ∧ ρ 4 ≤ 240 := hM.2.2.2.1 4 ((-241), 240) rfl
  have b5 : ((-241) : Int) ≤ ρ 5 ∧ ρ 5 ≤ 240 := hM.2.2.2.1 5 ((-241), 240) rfl
  have c0 : (0 + ((-1) * ρ 1 + (1 * ρ 2 + 0)) : Int) ≤ 0 := hM.2.2.2.2.1 (0, [(1, (-1)), (2, 1)]) (List.mem_of_getElem? (i := 0) rfl)
  obtain ⟨ho, hs, hh⟩ := pTold13 hM 0 (0, []) rfl b0.1
  have hn := ho.1
  have en : ρ 1 = (wN h : Int) := (pPl hM 1 120 (2, []) rfl (by omega) 440 2 (by decide +kernel) rfl).symm.trans hs.1
  obtain ⟨p, ep⟩ : ∃ p : Nat, ρ 2 = (p : Int) := ⟨(ρ 2).toNat, by omega⟩
  have hp : p ≤ wN h := by omega
  obtain ⟨s1, s2⟩ := wSk_le (B := wB h) hp
  obtain ⟨d, ed⟩ : ∃ d : Nat, ρ 3 = (d : Int) := ⟨(ρ 3).toNat, by omega⟩
  have er : ρ 4 = (wG (wN h) (wB h) 8 (d) (p)) := pfG hM ho hh 4 510 8 (0, [(2, 1), (3, 241)]) rfl rfl rfl (d := d) (p := p) (by omega) (by omega) (by show (0 + (1 * ρ 2 + (241 * ρ 3 + 0)) : Int) = _; omega)
  have ea : ρ 5 = (wG (wN h) (wB h) 5 (d) (p)) := pfG hM ho hh 5 507 5 (0, [(2, 1), (3, 241)]) rfl rfl rfl (d := d) (p := p) (by omega) (by omega) (by show (0 + (1 * ρ 2 + (241 * ρ 3 + 0)) : Int) = _; omega)
  rw [wE_TR hp] at er
  have g := wG_gd (n := wN h) (B := wB h) 5 d p rfl hp
  rcases wBd_el er g with ⟨a1, a2⟩ | ⟨s, a1, a2, a3, a4⟩
  · refine ⟨rTRm_0, List.mem_of_getElem? (i := 0) rfl, pEnd [ρ 0, ρ 1, ρ 2, ρ 3, ρ 4, ρ 5] rfl ?_ ?_ ?_ ?_⟩
    · exact hL
    · intro k b hk
      cases hk
    · exact pAll1 (show (1 + (1 * ρ 5 + 0) : Int) ≤ 0 by omega) (pAll1 (show (0 + (1 * ρ 4 + ((-1) * ρ 5 + 0)) : Int) ≤ 0 by omega) (pAll1 (show (0 + ((-1) * ρ 4 + (1 * ρ 5 + 0)) : Int) ≤ 0 by omega) (pAll0)))
    · exact pAll0
  · have a2 : p + 1 ≤ s := a2
    refine ⟨rTRm_1, List.mem_of_getElem? (i := 1) rfl, pEnd [ρ 0, ρ 1, ρ 2, ρ 3, ρ 4, ρ 5] rfl ?_ ?_ ?_ ?_⟩
    · exact hL
    · intro k b hk
      cases hk
    · exact pAll1 (show (1 + (1 * ρ 2 + ((-1) * ρ 5 + 0)) : Int) ≤ 0 by omega) (pAll1 (show (0 + ((-1) * ρ 1 + (1 * ρ 5 + 0)) : Int) ≤ 0 by omega) (pAll0))
    · exact pAll1 (pgG ho hh 509 7 rfl rfl (d) (s) (by omega) (by omega) (show (0 + (241 * ρ 3 + (1 * ρ 5 + 0)) : Int) = _ by omega) (show (0 + (1 * ρ 4 + 0) : Int) = _ by omega)) (pAll0)
noncomputable def rCOm_0 : sX := (none, [], [], [(1, [(5, 1)]), (0, [(4, 1), (5, (-1))]), (0, [(4, (-1)), (5, 1)])], [])
noncomputable def rCOm_1 : sX := (none, [(511, (0, [(3, 241), (5, 1)]), (0, [(4, 1)]))], [], [(1, [(2, 1), (5, (-1))]), (0, [(1, (-1)), (5, 1)])], [])
noncomputable def rCOm : sQ := (0, ([], [(2, 1013, (0, [])), (2, 120, (2, [])), (2, 120, (3, [])), (2, 120, (5, [])), (2, 512, (0, [(2, 1), (3, 241)])), (2, 510, (0, [(2, 1), (3, 241)]))], [(1, 1), (0, 240), (0, 240), (0, 6), ((-241), 240), ((-241), 240)], [(0, [(1, (-1)), (2, 1)])], [(0, 0), (1, 1), (2, 2), (3, 3), (4, 4), (5, 5)], (0, [])), [rCOm_0, rCOm_1], [], 0)
theorem rCOm_ok : pRul pReg pG pgv rCOm := by
  intro loc h ρ ρ0 hG hM
  have hM : sMt pReg pgv ρ ρ0 (sAs rCOm.2.1) loc [] h := hM
  have q0 : ρ0 1 = ρ 0 := (hM.2.2.2.2.2 (1, sY 0) (List.mem_of_getElem? (i := 1) rfl)).trans (sY_v ρ 0)
  have q1 : ρ0 2 = ρ 1 := (hM.2.2.2.2.2 (2, sY 1) (List.mem_of_getElem? (i := 2) rfl)).trans (sY_v ρ 1)
  have q2 : ρ0 3 = ρ 2 := (hM.2.2.2.2.2 (3, sY 2) (List.mem_of_getElem? (i := 3) rfl)).trans (sY_v ρ 2)
  have q3 : ρ0 4 = ρ 3 := (hM.2.2.2.2.2 (4, sY 3) (List.mem_of_getElem? (i := 4) rfl)).trans (sY_v ρ 3)
  have q4 : ρ0 5 = ρ 4 := (hM.2.2.2.2.2 (5, sY 4) (List.mem_of_getElem? (i := 5) rfl)).trans (sY_v ρ 4)
  have q5 : ρ0 6 = ρ 5 := (hM.2.2.2.2.2 (6, sY 5) (List.mem_of_getElem? (i := 6) rfl)).trans (sY_v ρ 5)
  have hL : ∀ j, j < 6 → pL [ρ 0, ρ 1, ρ 2, ρ 3, ρ 4, ρ 5] j = ρ0 (j + 1) := by
    intro j hj
    match j, hj with
    | 0, _ => exact q0.symm
    | 1, _ => exact q1.symm
    | 2, _ => exact q2.symm
    | 3, _ => exact q3.symm
    | 4, _ => exact q4.symm
    | 5, _ => exact q5.symm
    | k + 6, hj => omega
  have b0 : (1 : Int) ≤ ρ 0 ∧ ρ 0 ≤ 1 := hM.2.2.2.1 0 (1, 1) rfl
  have b1 : (0 : Int) ≤ ρ 1 ∧ ρ 1 ≤ 240 := hM.2.2.2.1 1 (0, 240) rfl
  have b2 : (0 : Int) ≤ ρ 2 ∧ ρ 2 ≤ 240 := hM.2.2.2.1 2 (0, 240) rfl
  have b3 : (0 : Int) ≤ ρ 3 ∧ ρ 3 ≤ 6 := hM.2.2.2.1 3 (0, 6) rfl
  have b4 : ((-241) : Int) ≤ ρ 4 ∧ ρ 4 ≤ 240 := hM.2.2.2.1 4 ((-241), 240) rfl
  have b5 : ((-241) : Int) ≤ ρ 5 ∧ ρ 5 ≤ 240 := hM.2.2.2.1 5 ((-241), 240) rfl
  have c0 : (0 + ((-1) * ρ 1 + (1 * ρ 2 + 0)) : Int) ≤ 0 := hM.2.2.2.2.1 (0, [(1, (-1)), (2, 1)]) (List.mem_of_getElem? (i := 0) rfl)
  obtain ⟨ho, hs, hh⟩ := pTold13 hM 0 (0, []) rfl b0.1
  have hn := ho.1
  have en : ρ 1 = (wN h : Int) := (pPl hM 1 120 (2, []) rfl (by omega) 440 2 (by decide +kernel) rfl).symm.trans hs.1
  obtain ⟨p, ep⟩ : ∃ p : Nat, ρ 2 = (p : Int) := ⟨(ρ 2).toNat, by omega⟩
  have hp : p ≤ wN h := by omega
  obtain ⟨s1, s2⟩ := wSk_le (B := wB h) hp
  obtain ⟨d, ed⟩ : ∃ d : Nat, ρ 3 = (d : Int) := ⟨(ρ 3).toNat, by omega⟩
  have er : ρ 4 = (wG (wN h) (wB h) 10 (d) (p)) := pfG hM ho hh 4 512 10 (0, [(2, 1), (3, 241)]) rfl rfl rfl (d := d) (p := p) (by omega) (by omega) (by show (0 + (1 * ρ 2 + (241 * ρ 3 + 0)) : Int) = _; omega)
  have ea : ρ 5 = (wG (wN h) (wB h) 8 (d) (p)) := pfG hM ho hh 5 510 8 (0, [(2, 1), (3, 241)]) rfl rfl rfl (d := d) (p := p) (by omega) (by omega) (by show (0 + (1 * ρ 2 + (241 * ρ 3 + 0)) : Int) = _; omega)
  rw [wE_CO hp] at er
  have g := wG_gd (n := wN h) (B := wB h) 8 d p rfl hp
  rcases wBd_el er g with ⟨a1, a2⟩ | ⟨s, a1, a2, a3, a4⟩
  · refine ⟨rCOm_0, List.mem_of_getElem? (i := 0) rfl, pEnd [ρ 0, ρ 1, ρ 2, ρ 3, ρ 4, ρ 5] rfl ?_ ?_ ?_ ?_⟩
    · exact hL
    · intro k b hk
      cases hk
    · exact pAll1 (show (1 + (1 * ρ 5 + 0) : Int) ≤ 0 by omega) (pAll1 (show (0 + (1 * ρ 4 + ((-1) * ρ 5 + 0)) : Int) ≤ 0 by omega) (pAll1 (show (0 + ((-1) * ρ 4 + (1 * ρ 5 + 0)) : Int) ≤ 0 by omega) (pAll0)))
    · exact pAll0
  · have a2 : p + 1 ≤ s := a2
    refine ⟨rCOm_1, List.mem_of_getElem? (i := 1) rfl, pEnd [ρ 0, ρ 1, ρ 2, ρ 3, ρ 4, ρ 5] rfl ?_ ?_ ?_ ?_⟩
    · exact hL
    · intro k b hk
      cases hk
    · exact pAll1 (show (1 + (1 * ρ 2 + ((-1) * ρ 5 + 0)) : Int) ≤ 0 by omega) (pAll1 (show (0 + ((-1) * ρ 1 + (1 * ρ 5 + 0)) : Int) ≤ 0 by omega) (pAll0))
    · exact pAll1 (pgG ho hh 511 9 rfl rfl (d) (s) (by omega) (by omega) (show (0 + (241 * ρ 3 + (1 * ρ 5 + 0)) : Int) = _ by omega) (show (0 + (1 * ρ 4 + 0) : Int) = _ by omega)) (pAll0)
noncomputable def rTBm_0 : sX := (none, [], [], [(1, [(5, 1)]), (0, [(4, 1), (5, (-1))]), (0, [(4, (-1)), (5, 1)])], [])
noncomputable def rTBm_1 : sX := (none, [(509, (0, [(3, 241), (5, 1)]), (0, [(4, 1)]))], [], [(1, [(2, 1), (5, (-1))]), (0, [(1, (-1)), (5, 1)])], [])
noncomputable def rTBm : sQ := (0, ([], [(2, 1013, (0, [])), (2, 120, (2, [])), (2, 120, (3, [])), (2, 120, (5, [])), (2, 517, (0, [(2, 1), (3, 241)])), (2, 508, (0, [(2, 1), (3, 241)]))], [(1, 1), (0, 240), (0, 240), (0, 6), ((-241), 240), ((-241), 240)], [(0, [(1, (-1)), (2, 1)])], [(0, 0), (1, 1), (2, 2), (3, 3), (4, 4), (5, 5)], (0, [])), [rTBm_0, rTBm_1], [], 0)
theorem rTBm_ok : pRul pReg pG pgv rTBm := by
  intro loc h ρ ρ0 hG hM
  have hM : sMt pReg pgv ρ ρ0 (sAs rTBm.2.1) loc [] h := hM
  have q0 : ρ0 1 = ρ 0 := (hM.2.2.2.2.2 (1, sY 0) (List.mem_of_getElem? (i := 1) rfl)).trans (sY_v ρ 0)
  have q1 : ρ0 2 = ρ 1 := (hM.2.2.2.2.2 (2, sY 1) (List.mem_of_getElem? (i := 2) rfl)).trans (sY_v ρ 1)
  have q2 : ρ0 3 = ρ 2 := (hM.2.2.2.2.2 (3, sY 2) (List.mem_of_getElem? (i := 3) rfl)).trans (sY_v ρ 2)
  have q3 : ρ0 4 = ρ 3 := (hM.2.2.2.2.2 (4, sY 3) (List.mem_of_getElem? (i := 4) rfl)).trans (sY_v ρ 3)
  have q4 : ρ0 5 = ρ 4 := (hM.2.2.2.2.2 (5, sY 4) (List.mem_of_getElem? (i := 5) rfl)).trans (sY_v ρ 4)
  have q5 : ρ0 6 = ρ 5 := (hM.2.2.2.2.2 (6, sY 5) (List.mem_of_getElem? (i := 6) rfl)).trans (sY_v ρ 5)
  have hL : ∀ j, j < 6 → pL [ρ 0, ρ 1, ρ 2, ρ 3, ρ 4, ρ 5] j = ρ0 (j + 1) := by
    intro j hj
    match j, hj with
    | 0, _ => exact q0.symm
    | 1, _ => exact q1.symm
    | 2, _ => exact q2.symm
    | 3, _ => exact q3.symm
    | 4, _ => exact q4.symm
    | 5, _ => exact q5.symm
    | k + 6, hj => omega
  have b0 : (1 : Int) ≤ ρ 0 ∧ ρ 0 ≤ 1 := hM.2.2.2.1 0 (1, 1) rfl
  have b1 : (0 : Int) ≤ ρ 1 ∧ ρ 1 ≤ 240 := hM.2.2.2.1 1 (0, 240) rfl
  have b2 : (0 : Int) ≤ ρ 2 ∧ ρ 2 ≤ 240 := hM.2.2.2.1 2 (0, 240) rfl
  have b3 : (0 : Int) ≤ ρ 3 ∧ ρ 3 ≤ 6 := hM.2.2.2.1 3 (0, 6) rfl
  have b4 : ((-241) : Int) ≤ ρ 4 ∧ ρ 4 ≤ 240 := hM.2.2.2.1 4 ((-241), 240) rfl
  have b5 : ((-241) : Int) ≤ ρ 5 ∧ ρ 5 ≤ 240 := hM.2.2.2.1 5 ((-241), 240) rfl
  have c0 : (0 + ((-1) * ρ 1 + (1 * ρ 2 + 0)) : Int) ≤ 0 := hM.2.2.2.2.1 (0, [(1, (-1)), (2, 1)]) (List.mem_of_getElem? (i := 0) rfl)
  obtain ⟨ho, hs, hh⟩ := pTold13 hM 0 (0, []) rfl b0.1
  have hn := ho.1
  have en : ρ 1 = (wN h : Int) := (pPl hM 1 120 (2, []) rfl (by omega) 440 2 (by decide +kernel) rfl).symm.trans hs.1
  obtain ⟨p, ep⟩ : ∃ p : Nat, ρ 2 = (p : Int) := ⟨(ρ 2).toNat, by omega⟩
  have hp : p ≤ wN h := by omega
  obtain ⟨s1, s2⟩ := wSk_le (B := wB h) hp
  obtain ⟨d, ed⟩ : ∃ d : Nat, ρ 3 = (d : Int) := ⟨(ρ 3).toNat, by omega⟩
  have er : ρ 4 = (wG (wN h) (wB h) 15 (d) (p)) := pfG hM ho hh 4 517 15 (0, [(2, 1), (3, 241)]) rfl rfl rfl (d := d) (p := p) (by omega) (by omega) (by show (0 + (1 * ρ 2 + (241 * ρ 3 + 0)) : Int) = _; omega)
  have ea : ρ 5 = (wG (wN h) (wB h) 6 (d) (p)) := pfG hM ho hh 5 508 6 (0, [(2, 1), (3, 241)]) rfl rfl rfl (d := d) (p := p) (by omega) (by omega) (by show (0 + (1 * ρ 2 + (241 * ρ 3 + 0)) : Int) = _; omega)
  rw [wE_TB hp] at er
  have g := wG_gd (n := wN h) (B := wB h) 6 d p rfl hp
  rcases wBd_el er g with ⟨a1, a2⟩ | ⟨s, a1, a2, a3, a4⟩
  · refine ⟨rTBm_0, List.mem_of_getElem? (i := 0) rfl, pEnd [ρ 0, ρ 1, ρ 2, ρ 3, ρ 4, ρ 5] rfl ?_ ?_ ?_ ?_⟩
    · exact hL
    · intro k b hk
      cases hk
    · exact pAll1 (show (1 + (1 * ρ 5 + 0) : Int) ≤ 0 by omega) (pAll1 (show (0 + (1 * ρ 4 + ((-1) * ρ 5 + 0)) : Int) ≤ 0 by omega) (pAll1 (show (0 + ((-1) * ρ 4 + (1 * ρ 5 + 0)) : Int) ≤ 0 by omega) (pAll0)))
    · exact pAll0
  · have a2 : p + 1 ≤ s := a2
    refine ⟨rTBm_1, List.mem_of_getElem? (i := 1) rfl, pEnd [ρ 0, ρ 1, ρ 2, ρ 3, ρ 4, ρ 5] rfl ?_ ?_ ?_ ?_⟩
    · exact hL
    · intro k b hk
      cases hk
    · exact pAll1 (show (1 + (1 * ρ 2 + ((-1) * ρ 5 + 0)) : Int) ≤ 0 by omega) (pAll1 (show (0 + ((-1) * ρ 1 + (1 * ρ 5 + 0)) : Int) ≤ 0 by omega) (pAll0))
    · exact pAll1 (pgG ho hh 509 7 rfl rfl (d) (s) (by omega) (by omega) (show (0 + (241 * ρ 3 + (1 * ρ 5 + 0)) : Int) = _ by omega) (show (0 + (1 * ρ 4 + 0) : Int) = _ by omega)) (pAll0)
noncomputable def rCBm_0 : sX := (none, [], [], [(1, [(5, 1)]), (0, [(4, 1), (5, (-1))]), (0, [(4, (-1)), (5, 1)])], [])
noncomputable def rCBm_1 : sX := (none, [(511, (0, [(3, 241), (5, 1)]), (0, [(4, 1)]))], [], [(1, [(2, 1), (5, (-1))]), (0, [(1, (-1)), (5, 1)])], [])
noncomputable def rCBm : sQ := (0, ([], [(2, 1013, (0, [])), (2, 120, (2, [])), (2, 120, (3, [])), (2, 120, (5, [])), (2, 518, (0, [(2, 1), (3, 241)])), (2, 517, (0, [(2, 1), (3, 241)]))], [(1, 1), (0, 240), (0, 240), (0, 6), ((-241), 240), ((-241), 240)], [(0, [(1, (-1)), (2, 1)])], [(0, 0), (1, 1), (2, 2), (3, 3), (4, 4), (5, 5)], (0, [])), [rCBm_0, rCBm_1], [], 0)
theorem rCBm_ok : pRul pReg pG pgv rCBm := by
  intro loc h ρ ρ0 hG hM
  have hM : sMt pReg pgv ρ ρ0 (sAs rCBm.2.1) loc [] h := hM
  have q0 : ρ0 1 = ρ 0 := (hM.2.2.2.2.2 (1, sY 0) (List.mem_of_getElem? (i := 1) rfl)).trans (sY_v ρ 0)
  have q1 : ρ0 2 = ρ 1 := (hM.2.2.2.2.2 (2, sY 1) (List.mem_of_getElem? (i := 2) rfl)).trans (sY_v ρ 1)
  have q2 : ρ0 3 = ρ 2 := (hM.2.2.2.2.2 (3, sY 2) (List.mem_of_getElem? (i := 3) rfl)).trans (sY_v ρ 2)
  have q3 : ρ0 4 = ρ 3 := (hM.2.2.2.2.2 (4, sY 3) (List.mem_of_getElem? (i := 4) rfl)).trans (sY_v ρ 3)
  have q4 : ρ0 5 = ρ 4 := (hM.2.2.2.2.2 (5, sY 4) (List.mem_of_getElem? (i := 5) rfl)).trans (sY_v ρ 4)
  have q5 : ρ0 6 = ρ 5 := (hM.2.2.2.2.2 (6, sY 5) (List.mem_of_getElem? (i := 6) rfl)).trans (sY_v ρ 5)
  have hL : ∀ j, j < 6 → pL [ρ 0, ρ 1, ρ 2, ρ 3, ρ 4, ρ 5] j = ρ0 (j + 1) := by
    intro j hj
    match j, hj with
    | 0, _ => exact q0.symm
    | 1, _ => exact q1.symm
    | 2, _ => exact q2.symm
    | 3, _ => exact q3.symm
    | 4, _ => exact q4.symm
    | 5, _ => exact q5.symm
    | k + 6, hj => omega
  have b0 : (1 : Int) ≤ ρ 0 ∧ ρ 0 ≤ 1 := hM.2.2.2.1 0 (1, 1) rfl
  have b1 : (0 : Int) ≤ ρ 1 ∧ ρ 1 ≤ 240 := hM.2.2.2.1 1 (0, 240) rfl
  have b2 : (0 : Int) ≤ ρ 2 ∧ ρ 2 ≤ 240 := hM.2.2.2.1 2 (0, 240) rfl
  have b3 : (0 : Int) ≤ ρ 3 ∧ ρ 3 ≤ 6 := hM.2.2.2.1 3 (0, 6) rfl
  have b4 : ((-241) : Int) ≤ ρ 4 ∧ ρ 4 ≤ 240 := hM.2.2.2.1 4 ((-241), 240) rfl
  have b5 : ((-241) : Int) ≤ ρ 5 ∧ ρ 5 ≤ 240 := hM.2.2.2.1 5 ((-241), 240) rfl
  have c0 : (0 + ((-1) * ρ 1 + (1 * ρ 2 + 0)) : Int) ≤ 0 := hM.2.2.2.2.1 (0, [(1, (-1)), (2, 1)]) (List.mem_of_getElem? (i := 0) rfl)
  obtain ⟨ho, hs, hh⟩ := pTold13 hM 0 (0, []) rfl b0.1
  have hn := ho.1
  have en : ρ 1 = (wN h : Int) := (pPl hM 1 120 (2, []) rfl (by omega) 440 2 (by decide +kernel) rfl).symm.trans hs.1
  obtain ⟨p, ep⟩ : ∃ p : Nat, ρ 2 = (p : Int) := ⟨(ρ 2).toNat, by omega⟩
  have hp : p ≤ wN h := by omega
  obtain ⟨s1, s2⟩ := wSk_le (B := wB h) hp
  obtain ⟨d, ed⟩ : ∃ d : Nat, ρ 3 = (d : Int) := ⟨(ρ 3).toNat, by omega⟩
  have er : ρ 4 = (wG (wN h) (wB h) 16 (d) (p)) := pfG hM ho hh 4 518 16 (0, [(2, 1), (3, 241)]) rfl rfl rfl (d := d) (p := p) (by omega) (by omega) (by show (0 + (1 * ρ 2 + (241 * ρ 3 + 0)) : Int) = _; omega)
  have ea : ρ 5 = (wG (wN h) (wB h) 15 (d) (p)) := pfG hM ho hh 5 517 15 (0, [(2, 1), (3, 241)]) rfl rfl rfl (d := d) (p := p) (by omega) (by omega) (by show (0 + (1 * ρ 2 + (241 * ρ 3 + 0)) : Int) = _; omega)
  rw [wE_CB hp] at er
  have g := wG_gd (n := wN h) (B := wB h) 15 d p rfl hp
  rcases wBd_el er g with ⟨a1, a2⟩ | ⟨s, a1, a2, a3, a4⟩
  · refine ⟨rCBm_0, List.mem_of_getElem? (i := 0) rfl, pEnd [ρ 0, ρ 1, ρ 2, ρ 3, ρ 4, ρ 5] rfl ?_ ?_ ?_ ?_⟩
    · exact hL
    · intro k b hk
      cases hk
    · exact pAll1 (show (1 + (1 * ρ 5 + 0) : Int) ≤ 0 by omega) (pAll1 (show (0 + (1 * ρ 4 + ((-1) * ρ 5 + 0)) : Int) ≤ 0 by omega) (pAll1 (show (0 + ((-1) * ρ 4 + (1 * ρ 5 + 0)) : Int) ≤ 0 by omega) (pAll0)))
    · exact pAll0
  · have a2 : p + 1 ≤ s := a2
    refine ⟨rCBm_1, List.mem_of_getElem? (i := 1) rfl, pEnd [ρ 0, ρ 1, ρ 2, ρ 3, ρ 4, ρ 5] rfl ?_ ?_ ?_ ?_⟩
    · exact hL
    · intro k b hk
      cases hk
    · exact pAll1 (show (1 + (1 * ρ 2 + ((-1) * ρ 5 + 0)) : Int) ≤ 0 by omega) (pAll1 (show (0 + ((-1) * ρ 1 + (1 * ρ 5 + 0)) : Int) ≤ 0 by omega) (pAll0))
    · exact pAll1 (pgG ho hh 511 9 rfl rfl (d) (s) (by omega) (by omega) (show (0 + (241 * ρ 3 + (1 * ρ 5 + 0)) : Int) = _ by omega) (show (0 + (1 * ρ 4 + 0) : Int) = _ by omega)) (pAll0)
noncomputable def rTTm_0 : sX := (none, [(502, (1, [(3, 241), (5, 1)]), (0, [(7, 1)]))], [((-241), (-1))], [(0, [(2, 1), (5, (-1))]), (0, [(1, (-1)), (5, 1)]), (1, [(1, (-1)), (5, 1)]), (1, [(6, (-1))]), ((-42), [(6, 1)]), (42, [(6, (-1))]), (0, [(4, 1), (7, (-1))]), (0, [(4, (-1)), (7, 1)])], [])
noncomputable def rTTm_1 : sX := (none, [(502, (1, [(3, 241), (5, 1)]), (0, [(7, 1)])), (504, (0, [(3, 241), (7, 1)]), (0, [(4, 1)]))], [(0, 240)], [(0, [(2, 1), (5, (-1))]), (0, [(1, (-1)), (5, 1)]), (1, [(1, (-1)), (5, 1)]), (1, [(6, (-1))]), ((-42), [(6, 1)]), (42, [(6, (-1))]), (2, [(5, 1), (7, (-1))]), (0, [(1, (-1)), (7, 1)])], [])
noncomputable def rTTm_2 : sX := (none, [(502, (1, [(3, 241), (5, 1)]), (0, [(7, 1)]))], [((-241), (-1))], [(0, [(2, 1), (5, (-1))]), (0, [(1, (-1)), (5, 1)]), (1, [(1, (-1)), (5, 1)]), (1, [(6, (-1))]), ((-47), [(6, 1)]), (47, [(6, (-1))]), (0, [(4, 1), (7, (-1))]), (0, [(4, (-1)), (7, 1)])], [])
noncomputable def rTTm_3 : sX := (none, [(502, (1, [(3, 241), (5, 1)]), (0, [(7, 1)])), (504, (0, [(3, 241), (7, 1)]), (0, [(4, 1)]))], [(0, 240)], [(0, [(2, 1), (5, (-1))]), (0, [(1, (-1)), (5, 1)]), (1, [(1, (-1)), (5, 1)]), (1, [(6, (-1))]), ((-47), [(6, 1)]), (47, [(6, (-1))]), (2, [(5, 1), (7, (-1))]), (0, [(1, (-1)), (7, 1)])], [])
noncomputable def rTTm_4 : sX := (none, [], [], [(0, [(2, 1), (5, (-1))]), (0, [(1, (-1)), (5, 1)]), ((-41), [(6, 1)]), (0, [(4, 1), (5, (-1))]), (0, [(4, (-1)), (5, 1)])], [])
noncomputable def rTTm_5 : sX := (none, [], [], [(0, [(2, 1), (5, (-1))]), (0, [(1, (-1)), (5, 1)]), (43, [(6, (-1))]), ((-46), [(6, 1)]), (0, [(4, 1), (5, (-1))]), (0, [(4, (-1)), (5, 1)])], [])
noncomputable def rTTm_6 : sX := (none, [], [], [(0, [(2, 1), (5, (-1))]), (0, [(1, (-1)), (5, 1)]), (48, [(6, (-1))]), (0, [(4, 1), (5, (-1))]), (0, [(4, (-1)), (5, 1)])], [])
noncomputable def rTTm : sQ := (0, ([], [(2, 1013, (0, [])), (2, 120, (2, [])), (2, 120, (3, [])), (2, 120, (5, [])), (2, 504, (0, [(2, 1), (3, 241)])), (2, 500, (0, [(2, 1)])), (2, 501, (0, [(5, 1)]))], [(1, 1), (0, 240), (0, 240), (0, 6), ((-241), 240), (0, 240), (0, 255)], [(0, [(1, (-1)), (2, 1)])], [(0, 0), (1, 1), (2, 2), (3, 3), (4, 4), (5, 5), (6, 6)], (0, [])), [rTTm_0, rTTm_1, rTTm_2, rTTm_3, rTTm_4, rTTm_5, rTTm_6], [], 0)
theorem rTTm_ok : pRul pReg pG pgv rTTm := by
  intro loc h ρ ρ0 hG hM
  have hM : sMt pReg pgv ρ ρ0 (sAs rTTm.2.1) loc [] h := hM
  have q0 : ρ0 1 = ρ 0 := (hM.2.2.2.2.2 (1, sY 0) (List.mem_of_getElem? (i := 1) rfl)).trans (sY_v ρ 0)
  have q1 : ρ0 2 = ρ 1 := (hM.2.2.2.2.2 (2, sY 1) (List.mem_of_getElem? (i := 2) rfl)).trans (sY_v ρ 1)
  have q2 : ρ0 3 = ρ 2 := (hM.2.2.2.2.2 (3, sY 2) (List.mem_of_getElem? (i := 3) rfl)).trans (sY_v ρ 2)
  have q3 : ρ0 4 = ρ 3 := (hM.2.2.2.2.2 (4, sY 3) (List.mem_of_getElem? (i := 4) rfl)).trans (sY_v ρ 3)
  have q4 : ρ0 5 = ρ 4 := (hM.2.2.2.2.2 (5, sY 4) (List.mem_of_getElem? (i := 5) rfl)).trans (sY_v ρ 4)
  have q5 : ρ0 6 = ρ 5 := (hM.2.2.2.2.2 (6, sY 5) (List.mem_of_getElem? (i := 6) rfl)).trans (sY_v ρ 5)
  have q6 : ρ0 7 = ρ 6 := (hM.2.2.2.2.2 (7, sY 6) (List.mem_of_getElem? (i := 7) rfl)).trans (sY_v ρ 6)
  have hL : ∀ j, j < 7 → pL [ρ 0, ρ 1, ρ 2, ρ 3, ρ 4, ρ 5, ρ 6] j = ρ0 (j + 1) := by
    intro j hj
    match j, hj with
    | 0, _ => exact q0.symm
    | 1, _ => exact q1.symm
    | 2, _ => exact q2.symm
    | 3, _ => exact q3.symm
    | 4, _ => exact q4.symm
    | 5, _ => exact q5.symm
    | 6, _ => exact q6.symm
    | k + 7, hj => omega
  have b0 : (1 : Int) ≤ ρ 0 ∧ ρ 0 ≤ 1 := hM.2.2.2.1 0 (1, 1) rfl
  have b1 : (0 : Int) ≤ ρ 1 ∧ ρ 1 ≤ 240 := hM.2.2.2.1 1 (0, 240) rfl
  have b2 : (0 : Int) ≤ ρ 2 ∧ ρ 2 ≤ 240 := hM.2.2.2.1 2 (0, 240) rfl
  have b3 : (0 : Int) ≤ ρ 3 ∧ ρ 3 ≤ 6 := hM.2.2.2.1 3 (0, 6) rfl
  have b4 : ((-241) : Int) ≤ ρ 4 ∧ ρ 4 ≤ 240 := hM.2.2.2.1 4 ((-241), 240) rfl
  have b5 : (0 : Int) ≤ ρ 5 ∧ ρ 5 ≤ 240 := hM.2.2.2.1 5 (0, 240) rfl
  have b6 : (0 : Int) ≤ ρ 6 ∧ ρ 6 ≤ 255 := hM.2.2.2.1 6 (0, 255) rfl
  have c0 : (0 + ((-1) * ρ 1 + (1 * ρ 2 + 0)) : Int) ≤ 0 := hM.2.2.2.2.1 (0, [(1, (-1)), (2, 1)]) (List.mem_of_getElem? (i := 0) rfl)
  obtain ⟨ho, hs, hh⟩ := pTold13 hM 0 (0, []) rfl b0.1
  have hn := ho.1
  have en : ρ 1 = (wN h : Int) := (pPl hM 1 120 (2, []) rfl (by omega) 440 2 (by decide +kernel) rfl).symm.trans hs.1
  obtain ⟨p, ep⟩ : ∃ p : Nat, ρ 2 = (p : Int) := ⟨(ρ 2).toNat, by omega⟩
  have hp : p ≤ wN h := by omega
  obtain ⟨s1, s2⟩ := wSk_le (B := wB h) hp
  obtain ⟨d, ed⟩ : ∃ d : Nat, ρ 3 = (d : Int) := ⟨(ρ 3).toNat, by omega⟩
  have er : ρ 4 = (wG (wN h) (wB h) 2 (d) (p)) := pfG hM ho hh 4 504 2 (0, [(2, 1), (3, 241)]) rfl rfl rfl (d := d) (p := p) (by omega) (by omega) (by show (0 + (1 * ρ 2 + (241 * ρ 3 + 0)) : Int) = _; omega)
  have eq : ρ 5 = ((wSk (wN h) (wB h) (p)) : Int) := pfS hM ho hh 5 (0, [(2, 1)]) rfl (p := p) (by omega) (by show (0 + (1 * ρ 2 + 0) : Int) = _; omega)
  have ec : ρ 6 = (wCh (wN h) (wB h) ((wSk (wN h) (wB h) (p)))) := pfC hM ho hh 6 (0, [(5, 1)]) rfl (p := (wSk (wN h) (wB h) (p))) (by omega) (by show (0 + (1 * ρ 5 + 0) : Int) = _; omega)
  have cbc := wCh_bd ho ((wSk (wN h) (wB h) (p)))
  have clc : (wCh (wN h) (wB h) ((wSk (wN h) (wB h) (p)))) ≠ 0 → (wSk (wN h) (wB h) (p)) < wN h := wCh_lt
  rw [wE_TT hp] at er
  by_cases h1 : (wCh (wN h) (wB h) ((wSk (wN h) (wB h) (p)))) = 42 ∨ (wCh (wN h) (wB h) ((wSk (wN h) (wB h) (p)))) = 47
  · rw [if_pos h1] at er
    have hq := clc (by omega)
    have g := wG_gd (n := wN h) (B := wB h) 0 d ((wSk (wN h) (wB h) (p)) + 1) rfl (by omega)
    rcases wBd_el er g with ⟨a1, a2⟩ | ⟨s, a1, a2, a3, a4⟩
    · have := g.1 a1
      rcases h1 with h1 | h1
      · refine ⟨rTTm_0, List.mem_of_getElem? (i := 0) rfl, pEnd [ρ 0, ρ 1, ρ 2, ρ 3, ρ 4, ρ 5, ρ 6, (wG (wN h) (wB h) 0 (d) ((wSk (wN h) (wB h) (p)) + 1))] rfl ?_ ?_ ?_ ?_⟩
        · intro j hj
          match j, hj with
          | 0, _ => exact q0.symm
          | 1, _ => exact q1.symm
          | 2, _ => exact q2.symm
          | 3, _ => exact q3.symm
          | 4, _ => exact q4.symm
          | 5, _ => exact q5.symm
          | 6, _ => exact q6.symm
          | k + 7, hj => exact absurd hj (by show ¬ (k + 7 < 7); omega)
        · intro k b hk
          match k, hk with
          | 0, hk => cases hk; exact (show ((-241) : Int) ≤ (wG (wN h) (wB h) 0 (d) ((wSk (wN h) (wB h) (p)) + 1)) ∧ (wG (wN h) (wB h) 0 (d) ((wSk (wN h) (wB h) (p)) + 1)) ≤ ((-1) : Int) by omega)
          | k + 1, hk => cases hk
        · exact pAll1 (show (0 + (1 * ρ 2 + ((-1) * ρ 5 + 0)) : Int) ≤ 0 by omega) (pAll1 (show (0 + ((-1) * ρ 1 + (1 * ρ 5 + 0)) : Int) ≤ 0 by omega) (pAll1 (show (1 + ((-1) * ρ 1 + (1 * ρ 5 + 0)) : Int) ≤ 0 by omega) (pAll1 (show (1 + ((-1) * ρ 6 + 0) : Int) ≤ 0 by omega) (pAll1 (show ((-42) + (1 * ρ 6 + 0) : Int) ≤ 0 by omega) (pAll1 (show (42 + ((-1) * ρ 6 + 0) : Int) ≤ 0 by omega) (pAll1 (show (0 + (1 * ρ 4 + ((-1) * (wG (wN h) (wB h) 0 (d) ((wSk (wN h) (wB h) (p)) + 1)) + 0)) : Int) ≤ 0 by omega) (pAll1 (show (0 + ((-1) * ρ 4 + (1 * (wG (wN h) (wB h) 0 (d) ((wSk (wN h) (wB h) (p)) + 1)) + 0)) : Int) ≤ 0 by omega) (pAll0))))))))
        · exact pAll1 (pgG ho hh 502 0 rfl rfl (d) ((wSk (wN h) (wB h) (p)) + 1) (by omega) (by omega) (show (1 + (241 * ρ 3 + (1 * ρ 5 + 0)) : Int) = _ by omega) (show (0 + (1 * (wG (wN h) (wB h) 0 (d) ((wSk (wN h) (wB h) (p)) + 1)) + 0) : Int) = _ by omega)) (pAll0)
      · refine ⟨rTTm_2, List.mem_of_getElem? (i := 2) rfl, pEnd [ρ 0, ρ 1, ρ 2, ρ 3, ρ 4, ρ 5, ρ 6, (wG (wN h) (wB h) 0 (d) ((wSk (wN h) (wB h) (p)) + 1))] rfl ?_ ?_ ?_ ?_⟩
        · intro j hj
          match j, hj with
          | 0, _ => exact q0.symm
          | 1, _ => exact q1.symm
          | 2, _ => exact q2.symm
          | 3, _ => exact q3.symm
          | 4, _ => exact q4.symm
          | 5, _ => exact q5.symm
          | 6, _ => exact q6.symm
          | k + 7, hj => exact absurd hj (by show ¬ (k + 7 < 7); omega)
        · intro k b hk
          match k, hk with
          | 0, hk => cases hk; exact (show ((-241) : Int) ≤ (wG (wN h) (wB h) 0 (d) ((wSk (wN h) (wB h) (p)) + 1)) ∧ (wG (wN h) (wB h) 0 (d) ((wSk (wN h) (wB h) (p)) + 1)) ≤ ((-1) : Int) by omega)
          | k + 1, hk => cases hk
        · exact pAll1 (show (0 + (1 * ρ 2 + ((-1) * ρ 5 + 0)) : Int) ≤ 0 by omega) (pAll1 (show (0 + ((-1) * ρ 1 + (1 * ρ 5 + 0)) : Int) ≤ 0 by omega) (pAll1 (show (1 + ((-1) * ρ 1 + (1 * ρ 5 + 0)) : Int) ≤ 0 by omega) (pAll1 (show (1 + ((-1) * ρ 6 + 0) : Int) ≤ 0 by omega) (pAll1 (show ((-47) + (1 * ρ 6 + 0) : Int) ≤ 0 by omega) (pAll1 (show (47 + ((-1) * ρ 6 + 0) : Int) ≤ 0 by omega) (pAll1 (show (0 + (1 * ρ 4 + ((-1) * (wG (wN h) (wB h) 0 (d) ((wSk (wN h) (wB h) (p)) + 1)) + 0)) : Int) ≤ 0 by omega) (pAll1 (show (0 + ((-1) * ρ 4 + (1 * (wG (wN h) (wB h) 0 (d) ((wSk (wN h) (wB h) (p)) + 1)) + 0)) : Int) ≤ 0 by omega) (pAll0))))))))
        · exact pAll1 (pgG ho hh 502 0 rfl rfl (d) ((wSk (wN h) (wB h) (p)) + 1) (by omega) (by omega) (show (1 + (241 * ρ 3 + (1 * ρ 5 + 0)) : Int) = _ by omega) (show (0 + (1 * (wG (wN h) (wB h) 0 (d) ((wSk (wN h) (wB h) (p)) + 1)) + 0) : Int) = _ by omega)) (pAll0)
    · have a2 : (wSk (wN h) (wB h) (p)) + 1 + 1 ≤ s := a2
      rcases h1 with h1 | h1
      · refine ⟨rTTm_1, List.mem_of_getElem? (i := 1) rfl, pEnd [ρ 0, ρ 1, ρ 2, ρ 3, ρ 4, ρ 5, ρ 6, (s : Int)] rfl ?_ ?_ ?_ ?_⟩
        · intro j hj
          match j, hj with
          | 0, _ => exact q0.symm
          | 1, _ => exact q1.symm
          | 2, _ => exact q2.symm
          | 3, _ => exact q3.symm
          | 4, _ => exact q4.symm
          | 5, _ => exact q5.symm
          | 6, _ => exact q6.symm
          | k + 7, hj => exact absurd hj (by show ¬ (k + 7 < 7); omega)
        · intro k b hk
          match k, hk with
          | 0, hk => cases hk; exact (show (0 : Int) ≤ (s : Int) ∧ (s : Int) ≤ (240 : Int) by omega)
          | k + 1, hk => cases hk
        · exact pAll1 (show (0 + (1 * ρ 2 + ((-1) * ρ 5 + 0)) : Int) ≤ 0 by omega) (pAll1 (show (0 + ((-1) * ρ 1 + (1 * ρ 5 + 0)) : Int) ≤ 0 by omega) (pAll1 (show (1 + ((-1) * ρ 1 + (1 * ρ 5 + 0)) : Int) ≤ 0 by omega) (pAll1 (show (1 + ((-1) * ρ 6 + 0) : Int) ≤ 0 by omega) (pAll1 (show ((-42) + (1 * ρ 6 + 0) : Int) ≤ 0 by omega) (pAll1 (show (42 + ((-1) * ρ 6 + 0) : Int) ≤ 0 by omega) (pAll1 (show (2 + (1 * ρ 5 + ((-1) * (s : Int) + 0)) : Int) ≤ 0 by omega) (pAll1 (show (0 + ((-1) * ρ 1 + (1 * (s : Int) + 0)) : Int) ≤ 0 by omega) (pAll0))))))))
        · exact pAll1 (pgG ho hh 502 0 rfl rfl (d) ((wSk (wN h) (wB h) (p)) + 1) (by omega) (by omega) (show (1 + (241 * ρ 3 + (1 * ρ 5 + 0)) : Int) = _ by omega) (show (0 + (1 * (s : Int) + 0) : Int) = _ by omega)) (pAll1 (pgG ho hh 504 2 rfl rfl (d) (s) (by omega) (by omega) (show (0 + (241 * ρ 3 + (1 * (s : Int) + 0)) : Int) = _ by omega) (show (0 + (1 * ρ 4 + 0) : Int) = _ by omega)) (pAll0))
      · refine ⟨rTTm_3, List.mem_of_getElem? (i := 3) rfl, pEnd [ρ 0, ρ 1, ρ 2, ρ 3, ρ 4, ρ 5, ρ 6, (s : Int)] rfl ?_ ?_ ?_ ?_⟩
        · intro j hj
          match j, hj with
          | 0, _ => exact q0.symm
          | 1, _ => exact q1.symm
          | 2, _ => exact q2.symm
          | 3, _ => exact q3.symm
          | 4, _ => exact q4.symm
          | 5, _ => exact q5.symm
          | 6, _ => exact q6.symm
          | k + 7, hj => exact absurd hj (by show ¬ (k + 7 < 7); omega)
        · intro k b hk
          match k, hk with
          | 0, hk => cases hk; exact (show (0 : Int) ≤ (s : Int) ∧ (s : Int) ≤ (240 : Int) by omega)
          | k + 1, hk => cases hk
        · exact pAll1 (show (0 + (1 * ρ 2 + ((-1) * ρ 5 + 0)) : Int) ≤ 0 by omega) (pAll1 (show (0 + ((-1) * ρ 1 + (1 * ρ 5 + 0)) : Int) ≤ 0 by omega) (pAll1 (show (1 + ((-1) * ρ 1 + (1 * ρ 5 + 0)) : Int) ≤ 0 by omega) (pAll1 (show (1 + ((-1) * ρ 6 + 0) : Int) ≤ 0 by omega) (pAll1 (show ((-47) + (1 * ρ 6 + 0) : Int) ≤ 0 by omega) (pAll1 (show (47 + ((-1) * ρ 6 + 0) : Int) ≤ 0 by omega) (pAll1 (show (2 + (1 * ρ 5 + ((-1) * (s : Int) + 0)) : Int) ≤ 0 by omega) (pAll1 (show (0 + ((-1) * ρ 1 + (1 * (s : Int) + 0)) : Int) ≤ 0 by omega) (pAll0))))))))
        · exact pAll1 (pgG ho hh 502 0 rfl rfl (d) ((wSk (wN h) (wB h) (p)) + 1) (by omega) (by omega) (show (1 + (241 * ρ 3 + (1 * ρ 5 + 0)) : Int) = _ by omega) (show (0 + (1 * (s : Int) + 0) : Int) = _ by omega)) (pAll1 (pgG ho hh 504 2 rfl rfl (d) (s) (by omega) (by omega) (show (0 + (241 * ρ 3 + (1 * (s : Int) + 0)) : Int) = _ by omega) (show (0 + (1 * ρ 4 + 0) : Int) = _ by omega)) (pAll0))
  · rw [if_neg h1] at er
    have hu : (wCh (wN h) (wB h) ((wSk (wN h) (wB h) (p)))) ≤ 41 ∨ (43 ≤ (wCh (wN h) (wB h) ((wSk (wN h) (wB h) (p)))) ∧ (wCh (wN h) (wB h) ((wSk (wN h) (wB h) (p)))) ≤ 46) ∨ 48 ≤ (wCh (wN h) (wB h) ((wSk (wN h) (wB h) (p)))) := by omega
    rcases hu with hu | hu | hu
    · refine ⟨rTTm_4, List.mem_of_getElem? (i := 4) rfl, pEnd [ρ 0, ρ 1, ρ 2, ρ 3, ρ 4, ρ 5, ρ 6] rfl ?_ ?_ ?_ ?_⟩
      · exact hL
      · intro k b hk
        cases hk
      · exact pAll1 (show (0 + (1 * ρ 2 + ((-1) * ρ 5 + 0)) : Int) ≤ 0 by omega) (pAll1 (show (0 + ((-1) * ρ 1 + (1 * ρ 5 + 0)) : Int) ≤ 0 by omega) (pAll1 (show ((-41) + (1 * ρ 6 + 0) : Int) ≤ 0 by omega) (pAll1 (show (0 + (1 * ρ 4 + ((-1) * ρ 5 + 0)) : Int) ≤ 0 by omega) (pAll1 (show (0 + ((-1) * ρ 4 + (1 * ρ 5 + 0)) : Int) ≤ 0 by omega) (pAll0)))))
      · exact pAll0
    · refine ⟨rTTm_5, List.mem_of_getElem? (i := 5) rfl, pEnd [ρ 0, ρ 1, ρ 2, ρ 3, ρ 4, ρ 5, ρ 6] rfl ?_ ?_ ?_ ?_⟩
      · exact hL
      · intro k b hk
        cases hk
      · exact pAll1 (show (0 + (1 * ρ 2 + ((-1) * ρ 5 + 0)) : Int) ≤ 0 by omega) (pAll1 (show (0 + ((-1) * ρ 1 + (1 * ρ 5 + 0)) : Int) ≤ 0 by omega) (pAll1 (show (43 + ((-1) * ρ 6 + 0) : Int) ≤ 0 by omega) (pAll1 (show ((-46) + (1 * ρ 6 + 0) : Int) ≤ 0 by omega) (pAll1 (show (0 + (1 * ρ 4 + ((-1) * ρ 5 + 0)) : Int) ≤ 0 by omega) (pAll1 (show (0 + ((-1) * ρ 4 + (1 * ρ 5 + 0)) : Int) ≤ 0 by omega) (pAll0))))))
      · exact pAll0
    · refine ⟨rTTm_6, List.mem_of_getElem? (i := 6) rfl, pEnd [ρ 0, ρ 1, ρ 2, ρ 3, ρ 4, ρ 5, ρ 6] rfl ?_ ?_ ?_ ?_⟩
      · exact hL
      · intro k b hk
        cases hk
      · exact pAll1 (show (0 + (1 * ρ 2 + ((-1) * ρ 5 + 0)) : Int) ≤ 0 by omega) (pAll1 (show (0 + ((-1) * ρ 1 + (1 * ρ 5 + 0)) : Int) ≤ 0 by omega) (pAll1 (show (48 + ((-1) * ρ 6 + 0) : Int) ≤ 0 by omega) (pAll1 (show (0 + (1 * ρ 4 + ((-1) * ρ 5 + 0)) : Int) ≤ 0 by omega) (pAll1 (show (0 + ((-1) * ρ 4 + (1 * ρ 5 + 0)) : Int) ≤ 0 by omega) (pAll0)))))
      · exact pAll0
noncomputable def rSTm_0 : sX := (none, [(503, (1, [(3, 241), (5, 1)]), (0, [(7, 1)]))], [((-241), (-1))], [(0, [(2, 1), (5, (-1))]), (0, [(1, (-1)), (5, 1)]), (1, [(1, (-1)), (5, 1)]), (1, [(6, (-1))]), ((-43), [(6, 1)]), (43, [(6, (-1))]), (0, [(4, 1), (7, (-1))]), (0, [(4, (-1)), (7, 1)])], [])
noncomputable def rSTm_1 : sX := (none, [(503, (1, [(3, 241), (5, 1)]), (0, [(7, 1)])), (506, (0, [(3, 241), (7, 1)]), (0, [(4, 1)]))], [(0, 240)], [(0, [(2, 1), (5, (-1))]), (0, [(1, (-1)), (5, 1)]), (1, [(1, (-1)), (5, 1)]), (1, [(6, (-1))]), ((-43), [(6, 1)]), (43, [(6, (-1))]), (2, [(5, 1), (7, (-1))]), (0, [(1, (-1)), (7, 1)])], [])
noncomputable def rSTm_2 : sX := (none, [(503, (1, [(3, 241), (5, 1)]), (0, [(7, 1)]))], [((-241), (-1))], [(0, [(2, 1), (5, (-1))]), (0, [(1, (-1)), (5, 1)]), (1, [(1, (-1)), (5, 1)]), (1, [(6, (-1))]), ((-45), [(6, 1)]), (45, [(6, (-1))]), (0, [(4, 1), (7, (-1))]), (0, [(4, (-1)), (7, 1)])], [])
noncomputable def rSTm_3 : sX := (none, [(503, (1, [(3, 241), (5, 1)]), (0, [(7, 1)])), (506, (0, [(3, 241), (7, 1)]), (0, [(4, 1)]))], [(0, 240)], [(0, [(2, 1), (5, (-1))]), (0, [(1, (-1)), (5, 1)]), (1, [(1, (-1)), (5, 1)]), (1, [(6, (-1))]), ((-45), [(6, 1)]), (45, [(6, (-1))]), (2, [(5, 1), (7, (-1))]), (0, [(1, (-1)), (7, 1)])], [])
noncomputable def rSTm_4 : sX := (none, [], [], [(0, [(2, 1), (5, (-1))]), (0, [(1, (-1)), (5, 1)]), ((-42), [(6, 1)]), (0, [(4, 1), (5, (-1))]), (0, [(4, (-1)), (5, 1)])], [])
noncomputable def rSTm_5 : sX := (none, [], [], [(0, [(2, 1), (5, (-1))]), (0, [(1, (-1)), (5, 1)]), (44, [(6, (-1))]), ((-44), [(6, 1)]), (0, [(4, 1), (5, (-1))]), (0, [(4, (-1)), (5, 1)])], [])
noncomputable def rSTm_6 : sX := (none, [], [], [(0, [(2, 1), (5, (-1))]), (0, [(1, (-1)), (5, 1)]), (46, [(6, (-1))]), (0, [(4, 1), (5, (-1))]), (0, [(4, (-1)), (5, 1)])], [])
noncomputable def rSTm : sQ := (0, ([], [(2, 1013, (0, [])), (2, 120, (2, [])), (2, 120, (3, [])), (2, 120, (5, [])), (2, 506, (0, [(2, 1), (3, 241)])), (2, 500, (0, [(2, 1)])), (2, 501, (0, [(5, 1)]))], [(1, 1), (0, 240), (0, 240), (0, 6), ((-241), 240), (0, 240), (0, 255)], [(0, [(1, (-1)), (2, 1)])], [(0, 0), (1, 1), (2, 2), (3, 3), (4, 4), (5, 5), (6, 6)], (0, [])), [rSTm_0, rSTm_1, rSTm_2, rSTm_3, rSTm_4, rSTm_5, rSTm_6], [], 0)
theorem rSTm_ok : pRul pReg pG pgv rSTm := by
  intro loc h ρ ρ0 hG hM
  have hM : sMt pReg pgv ρ ρ0 (sAs rSTm.2.1) loc [] h := hM
  have q0 : ρ0 1 = ρ 0 := (hM.2.2.2.2.2 (1, sY 0) (List.mem_of_getElem? (i := 1) rfl)).trans (sY_v ρ 0)
  have q1 : ρ0 2 = ρ 1 := (hM.2.2.2.2.2 (2, sY 1) (List.mem_of_getElem? (i := 2) rfl)).trans (sY_v ρ 1)
  have q2 : ρ0 3 = ρ 2 := (hM.2.2.2.2.2 (3, sY 2) (List.mem_of_getElem? (i := 3) rfl)).trans (sY_v ρ 2)
  have q3 : ρ0 4 = ρ 3 := (hM.2.2.2.2.2 (4, sY 3) (List.mem_of_getElem? (i := 4) rfl)).trans (sY_v ρ 3)
  have q4 : ρ0 5 = ρ 4 := (hM.2.2.2.2.2 (5, sY 4) (List.mem_of_getElem? (i := 5) rfl)).trans (sY_v ρ 4)
  have q5 : ρ0 6 = ρ 5 := (hM.2.2.2.2.2 (6, sY 5) (List.mem_of_getElem? (i := 6) rfl)).trans (sY_v ρ 5)
  have q6 : ρ0 7 = ρ 6 := (hM.2.2.2.2.2 (7, sY 6) (List.mem_of_getElem? (i := 7) rfl)).trans (sY_v ρ 6)
  have hL : ∀ j, j < 7 → pL [ρ 0, ρ 1, ρ 2, ρ 3, ρ 4, ρ 5, ρ 6] j = ρ0 (j + 1) := by
    intro j hj
    match j, hj with
    | 0, _ => exact q0.symm
    | 1, _ => exact q1.symm
    | 2, _ => exact q2.symm
    | 3, _ => exact q3.symm
    | 4, _ => exact q4.symm
    | 5, _ => exact q5.symm
    | 6, _ => exact q6.symm
    | k + 7, hj => omega
  have b0 : (1 : Int) ≤ ρ 0 ∧ ρ 0 ≤ 1 := hM.2.2.2.1 0 (1, 1) rfl
  have b1 : (0 : Int) ≤ ρ 1 ∧ ρ 1 ≤ 240 := hM.2.2.2.1 1 (0, 240) rfl
  have b2 : (0 : Int) ≤ ρ 2 ∧ ρ 2 ≤ 240 := hM.2.2.2.1 2 (0, 240) rfl
  have b3 : (0 : Int) ≤ ρ 3 ∧ ρ 3 ≤ 6 := hM.2.2.2.1 3 (0, 6) rfl
  have b4 : ((-241) : Int) ≤ ρ 4 ∧ ρ 4 ≤ 240 := hM.2.2.2.1 4 ((-241), 240) rfl
  have b5 : (0 : Int) ≤ ρ 5 ∧ ρ 5 ≤ 240 := hM.2.2.2.1 5 (0, 240) rfl
  have b6 : (0 : Int) ≤ ρ 6 ∧ ρ 6 ≤ 255 := hM.2.2.2.1 6 (0, 255) rfl
  have c0 : (0 + ((-1) * ρ 1 + (1 * ρ 2 + 0)) : Int) ≤ 0 := hM.2.2.2.2.1 (0, [(1, (-1)), (2, 1)]) (List.mem_of_getElem? (i := 0) rfl)
  obtain ⟨ho, hs, hh⟩ := pTold13 hM 0 (0, []) rfl b0.1
  have hn := ho.1
  have en : ρ 1 = (wN h : Int) := (pPl hM 1 120 (2, []) rfl (by omega) 440 2 (by decide +kernel) rfl).symm.trans hs.1
  obtain ⟨p, ep⟩ : ∃ p : Nat, ρ 2 = (p : Int) := ⟨(ρ 2).toNat, by omega⟩
  have hp : p ≤ wN h := by omega
  obtain ⟨s1, s2⟩ := wSk_le (B := wB h) hp
  obtain ⟨d, ed⟩ : ∃ d : Nat, ρ 3 = (d : Int) := ⟨(ρ 3).toNat, by omega⟩
  have er : ρ 4 = (wG (wN h) (wB h) 4 (d) (p)) := pfG hM ho hh 4 506 4 (0, [(2, 1), (3, 241)]) rfl rfl rfl (d := d) (p := p) (by omega) (by omega) (by show (0 + (1 * ρ 2 + (241 * ρ 3 + 0)) : Int) = _; omega)
  have eq : ρ 5 = ((wSk (wN h) (wB h) (p)) : Int) := pfS hM ho hh 5 (0, [(2, 1)]) rfl (p := p) (by omega) (by show (0 + (1 * ρ 2 + 0) : Int) = _; omega)
  have ec : ρ 6 = (wCh (wN h) (wB h) ((wSk (wN h) (wB h) (p)))) := pfC hM ho hh 6 (0, [(5, 1)]) rfl (p := (wSk (wN h) (wB h) (p))) (by omega) (by show (0 + (1 * ρ 5 + 0) : Int) = _; omega)
  have cbc := wCh_bd ho ((wSk (wN h) (wB h) (p)))
  have clc : (wCh (wN h) (wB h) ((wSk (wN h) (wB h) (p)))) ≠ 0 → (wSk (wN h) (wB h) (p)) < wN h := wCh_lt
  rw [wE_ST hp] at er
  by_cases h1 : (wCh (wN h) (wB h) ((wSk (wN h) (wB h) (p)))) = 43 ∨ (wCh (wN h) (wB h) ((wSk (wN h) (wB h) (p)))) = 45
  · rw [if_pos h1] at er
    have hq := clc (by omega)
    have g := wG_gd (n := wN h) (B := wB h) 1 d ((wSk (wN h) (wB h) (p)) + 1) rfl (by omega)
    rcases wBd_el er g with ⟨a1, a2⟩ | ⟨s, a1, a2, a3, a4⟩
    · have := g.1 a1
      rcases h1 with h1 | h1
      · refine ⟨rSTm_0, List.mem_of_getElem? (i := 0) rfl, pEnd [ρ 0, ρ 1, ρ 2, ρ 3, ρ 4, ρ 5, ρ 6, (wG (wN h) (wB h) 1 (d) ((wSk (wN h) (wB h) (p)) + 1))] rfl ?_ ?_ ?_ ?_⟩
        · intro j hj
          match j, hj with
          | 0, _ => exact q0.symm
          | 1, _ => exact q1.symm
          | 2, _ => exact q2.symm
          | 3, _ => exact q3.symm
          | 4, _ => exact q4.symm
          | 5, _ => exact q5.symm
          | 6, _ => exact q6.symm
          | k + 7, hj => exact absurd hj (by show ¬ (k + 7 < 7); omega)
        · intro k b hk
          match k, hk with
          | 0, hk => cases hk; exact (show ((-241) : Int) ≤ (wG (wN h) (wB h) 1 (d) ((wSk (wN h) (wB h) (p)) + 1)) ∧ (wG (wN h) (wB h) 1 (d) ((wSk (wN h) (wB h) (p)) + 1)) ≤ ((-1) : Int) by omega)
          | k + 1, hk => cases hk
        · exact pAll1 (show (0 + (1 * ρ 2 + ((-1) * ρ 5 + 0)) : Int) ≤ 0 by omega) (pAll1 (show (0 + ((-1) * ρ 1 + (1 * ρ 5 + 0)) : Int) ≤ 0 by omega) (pAll1 (show (1 + ((-1) * ρ 1 + (1 * ρ 5 + 0)) : Int) ≤ 0 by omega) (pAll1 (show (1 + ((-1) * ρ 6 + 0) : Int) ≤ 0 by omega) (pAll1 (show ((-43) + (1 * ρ 6 + 0) : Int) ≤ 0 by omega) (pAll1 (show (43 + ((-1) * ρ 6 + 0) : Int) ≤ 0 by omega) (pAll1 (show (0 + (1 * ρ 4 + ((-1) * (wG (wN h) (wB h) 1 (d) ((wSk (wN h) (wB h) (p)) + 1)) + 0)) : Int) ≤ 0 by omega) (pAll1 (show (0 + ((-1) * ρ 4 + (1 * (wG (wN h) (wB h) 1 (d) ((wSk (wN h) (wB h) (p)) + 1)) + 0)) : Int) ≤ 0 by omega) (pAll0))))))))
        · exact pAll1 (pgG ho hh 503 1 rfl rfl (d) ((wSk (wN h) (wB h) (p)) + 1) (by omega) (by omega) (show (1 + (241 * ρ 3 + (1 * ρ 5 + 0)) : Int) = _ by omega) (show (0 + (1 * (wG (wN h) (wB h) 1 (d) ((wSk (wN h) (wB h) (p)) + 1)) + 0) : Int) = _ by omega)) (pAll0)
      · refine ⟨rSTm_2, List.mem_of_getElem? (i := 2) rfl, pEnd [ρ 0, ρ 1, ρ 2, ρ 3, ρ 4, ρ 5, ρ 6, (wG (wN h) (wB h) 1 (d) ((wSk (wN h) (wB h) (p)) + 1))] rfl ?_ ?_ ?_ ?_⟩
        · intro j hj
          match j, hj with
          | 0, _ => exact q0.symm
          | 1, _ => exact q1.symm
          | 2, _ => exact q2.symm
          | 3, _ => exact q3.symm
          | 4, _ => exact q4.symm
          | 5, _ => exact q5.symm
          | 6, _ => exact q6.symm
          | k + 7, hj => exact absurd hj (by show ¬ (k + 7 < 7); omega)
        · intro k b hk
          match k, hk with
          | 0, hk => cases hk; exact (show ((-241) : Int) ≤ (wG (wN h) (wB h) 1 (d) ((wSk (wN h) (wB h) (p)) + 1)) ∧ (wG (wN h) (wB h) 1 (d) ((wSk (wN h) (wB h) (p)) + 1)) ≤ ((-1) : Int) by omega)
          | k + 1, hk => cases hk
        · exact pAll1 (show (0 + (1 * ρ 2 + ((-1) * ρ 5 + 0)) : Int) ≤ 0 by omega) (pAll1 (show (0 + ((-1) * ρ 1 + (1 * ρ 5 + 0)) : Int) ≤ 0 by omega) (pAll1 (show (1 + ((-1) * ρ 1 + (1 * ρ 5 + 0)) : Int) ≤ 0 by omega) (pAll1 (show (1 + ((-1) * ρ 6 + 0) : Int) ≤ 0 by omega) (pAll1 (show ((-45) + (1 * ρ 6 + 0) : Int) ≤ 0 by omega) (pAll1 (show (45 + ((-1) * ρ 6 + 0) : Int) ≤ 0 by omega) (pAll1 (show (0 + (1 * ρ 4 + ((-1) * (wG (wN h) (wB h) 1 (d) ((wSk (wN h) (wB h) (p)) + 1)) + 0)) : Int) ≤ 0 by omega) (pAll1 (show (0 + ((-1) * ρ 4 + (1 * (wG (wN h) (wB h) 1 (d) ((wSk (wN h) (wB h) (p)) + 1)) + 0)) : Int) ≤ 0 by omega) (pAll0))))))))
        · exact pAll1 (pgG ho hh 503 1 rfl rfl (d) ((wSk (wN h) (wB h) (p)) + 1) (by omega) (by omega) (show (1 + (241 * ρ 3 + (1 * ρ 5 + 0)) : Int) = _ by omega) (show (0 + (1 * (wG (wN h) (wB h) 1 (d) ((wSk (wN h) (wB h) (p)) + 1)) + 0) : Int) = _ by omega)) (pAll0)
    · have a2 : (wSk (wN h) (wB h) (p)) + 1 + 1 ≤ s := a2
      rcases h1 with h1 | h1
      · refine ⟨rSTm_1, List.mem_of_getElem? (i := 1) rfl, pEnd [ρ 0, ρ 1, ρ 2, ρ 3, ρ 4, ρ 5, ρ 6, (s : Int)] rfl ?_ ?_ ?_ ?_⟩
        · intro j hj
          match j, hj with
          | 0, _ => exact q0.symm
          | 1, _ => exact q1.symm
          | 2, _ => exact q2.symm
          | 3, _ => exact q3.symm
          | 4, _ => exact q4.symm
          | 5, _ => exact q5.symm
          | 6, _ => exact q6.symm
          | k + 7, hj => exact absurd hj (by show ¬ (k + 7 < 7); omega)
        · intro k b hk
          match k, hk with
          | 0, hk => cases hk; exact (show (0 : Int) ≤ (s : Int) ∧ (s : Int) ≤ (240 : Int) by omega)
          | k + 1, hk => cases hk
        · exact pAll1 (show (0 + (1 * ρ 2 + ((-1) * ρ 5 + 0)) : Int) ≤ 0 by omega) (pAll1 (show (0 + ((-1) * ρ 1 + (1 * ρ 5 + 0)) : Int) ≤ 0 by omega) (pAll1 (show (1 + ((-1) * ρ 1 + (1 * ρ 5 + 0)) : Int) ≤ 0 by omega) (pAll1 (show (1 + ((-1) * ρ 6 + 0) : Int) ≤ 0 by omega) (pAll1 (show ((-43) + (1 * ρ 6 + 0) : Int) ≤ 0 by omega) (pAll1 (show (43 + ((-1) * ρ 6 + 0) : Int) ≤ 0 by omega) (pAll1 (show (2 + (1 * ρ 5 + ((-1) * (s : Int) + 0)) : Int) ≤ 0 by omega) (pAll1 (show (0 + ((-1) * ρ 1 + (1 * (s : Int) + 0)) : Int) ≤ 0 by omega) (pAll0))))))))
        · exact pAll1 (pgG ho hh 503 1 rfl rfl (d) ((wSk (wN h) (wB h) (p)) + 1) (by omega) (by omega) (show (1 + (241 * ρ 3 + (1 * ρ 5 + 0)) : Int) = _ by omega) (show (0 + (1 * (s : Int) + 0) : Int) = _ by omega)) (pAll1 (pgG ho hh 506 4 rfl rfl (d) (s) (by omega) (by omega) (show (0 + (241 * ρ 3 + (1 * (s : Int) + 0)) : Int) = _ by omega) (show (0 + (1 * ρ 4 + 0) : Int) = _ by omega)) (pAll0))
      · refine ⟨rSTm_3, List.mem_of_getElem? (i := 3) rfl, pEnd [ρ 0, ρ 1, ρ 2, ρ 3, ρ 4, ρ 5, ρ 6, (s : Int)] rfl ?_ ?_ ?_ ?_⟩
        · intro j hj
          match j, hj with
          | 0, _ => exact q0.symm
          | 1, _ => exact q1.symm
          | 2, _ => exact q2.symm
          | 3, _ => exact q3.symm
          | 4, _ => exact q4.symm
          | 5, _ => exact q5.symm
          | 6, _ => exact q6.symm
          | k + 7, hj => exact absurd hj (by show ¬ (k + 7 < 7); omega)
        · intro k b hk
          match k, hk with
          | 0, hk => cases hk; exact (show (0 : Int) ≤ (s : Int) ∧ (s : Int) ≤ (240 : Int) by omega)
          | k + 1, hk => cases hk
        · exact pAll1 (show (0 + (1 * ρ 2 + ((-1) * ρ 5 + 0)) : Int) ≤ 0 by omega) (pAll1 (show (0 + ((-1) * ρ 1 + (1 * ρ 5 + 0)) : Int) ≤ 0 by omega) (pAll1 (show (1 + ((-1) * ρ 1 + (1 * ρ 5 + 0)) : Int) ≤ 0 by omega) (pAll1 (show (1 + ((-1) * ρ 6 + 0) : Int) ≤ 0 by omega) (pAll1 (show ((-45) + (1 * ρ 6 + 0) : Int) ≤ 0 by omega) (pAll1 (show (45 + ((-1) * ρ 6 + 0) : Int) ≤ 0 by omega) (pAll1 (show (2 + (1 * ρ 5 + ((-1) * (s : Int) + 0)) : Int) ≤ 0 by omega) (pAll1 (show (0 + ((-1) * ρ 1 + (1 * (s : Int) + 0)) : Int) ≤ 0 by omega) (pAll0))))))))
        · exact pAll1 (pgG ho hh 503 1 rfl rfl (d) ((wSk (wN h) (wB h) (p)) + 1) (by omega) (by omega) (show (1 + (241 * ρ 3 + (1 * ρ 5 + 0)) : Int) = _ by omega) (show (0 + (1 * (s : Int) + 0) : Int) = _ by omega)) (pAll1 (pgG ho hh 506 4 rfl rfl (d) (s) (by omega) (by omega) (show (0 + (241 * ρ 3 + (1 * (s : Int) + 0)) : Int) = _ by omega) (show (0 + (1 * ρ 4 + 0) : Int) = _ by omega)) (pAll0))
  · rw [if_neg h1] at er
    have hu : (wCh (wN h) (wB h) ((wSk (wN h) (wB h) (p)))) ≤ 42 ∨ (44 ≤ (wCh (wN h) (wB h) ((wSk (wN h) (wB h) (p)))) ∧ (wCh (wN h) (wB h) ((wSk (wN h) (wB h) (p)))) ≤ 44) ∨ 46 ≤ (wCh (wN h) (wB h) ((wSk (wN h) (wB h) (p)))) := by omega
    rcases hu with hu | hu | hu
    · refine ⟨rSTm_4, List.mem_of_getElem? (i := 4) rfl, pEnd [ρ 0, ρ 1, ρ 2, ρ 3, ρ 4, ρ 5, ρ 6] rfl ?_ ?_ ?_ ?_⟩
      · exact hL
      · intro k b hk
        cases hk
      · exact pAll1 (show (0 + (1 * ρ 2 + ((-1) * ρ 5 + 0)) : Int) ≤ 0 by omega) (pAll1 (show (0 + ((-1) * ρ 1 + (1 * ρ 5 + 0)) : Int) ≤ 0 by omega) (pAll1 (show ((-42) + (1 * ρ 6 + 0) : Int) ≤ 0 by omega) (pAll1 (show (0 + (1 * ρ 4 + ((-1) * ρ 5 + 0)) : Int) ≤ 0 by omega) (pAll1 (show (0 + ((-1) * ρ 4 + (1 * ρ 5 + 0)) : Int) ≤ 0 by omega) (pAll0)))))
      · exact pAll0
    · refine ⟨rSTm_5, List.mem_of_getElem? (i := 5) rfl, pEnd [ρ 0, ρ 1, ρ 2, ρ 3, ρ 4, ρ 5, ρ 6] rfl ?_ ?_ ?_ ?_⟩
      · exact hL
      · intro k b hk
        cases hk
      · exact pAll1 (show (0 + (1 * ρ 2 + ((-1) * ρ 5 + 0)) : Int) ≤ 0 by omega) (pAll1 (show (0 + ((-1) * ρ 1 + (1 * ρ 5 + 0)) : Int) ≤ 0 by omega) (pAll1 (show (44 + ((-1) * ρ 6 + 0) : Int) ≤ 0 by omega) (pAll1 (show ((-44) + (1 * ρ 6 + 0) : Int) ≤ 0 by omega) (pAll1 (show (0 + (1 * ρ 4 + ((-1) * ρ 5 + 0)) : Int) ≤ 0 by omega) (pAll1 (show (0 + ((-1) * ρ 4 + (1 * ρ 5 + 0)) : Int) ≤ 0 by omega) (pAll0))))))
      · exact pAll0
    · refine ⟨rSTm_6, List.mem_of_getElem? (i := 6) rfl, pEnd [ρ 0, ρ 1, ρ 2, ρ 3, ρ 4, ρ 5, ρ 6] rfl ?_ ?_ ?_ ?_⟩
      · exact hL
      · intro k b hk
        cases hk
      · exact pAll1 (show (0 + (1 * ρ 2 + ((-1) * ρ 5 + 0)) : Int) ≤ 0 by omega) (pAll1 (show (0 + ((-1) * ρ 1 + (1 * ρ 5 + 0)) : Int) ≤ 0 by omega) (pAll1 (show (46 + ((-1) * ρ 6 + 0) : Int) ≤ 0 by omega) (pAll1 (show (0 + (1 * ρ 4 + ((-1) * ρ 5 + 0)) : Int) ≤ 0 by omega) (pAll1 (show (0 + ((-1) * ρ 4 + (1 * ρ 5 + 0)) : Int) ≤ 0 by omega) (pAll0)))))
      · exact pAll0
noncomputable def rANm_0 : sX := (none, [(507, (1, [(3, 241), (5, 1)]), (0, [(7, 1)]))], [((-241), (-1))], [(0, [(2, 1), (5, (-1))]), (0, [(1, (-1)), (5, 1)]), (1, [(1, (-1)), (5, 1)]), (1, [(6, (-1))]), ((-38), [(6, 1)]), (38, [(6, (-1))]), (0, [(4, 1), (7, (-1))]), (0, [(4, (-1)), (7, 1)])], [])
noncomputable def rANm_1 : sX := (none, [(507, (1, [(3, 241), (5, 1)]), (0, [(7, 1)])), (509, (0, [(3, 241), (7, 1)]), (0, [(4, 1)]))], [(0, 240)], [(0, [(2, 1), (5, (-1))]), (0, [(1, (-1)), (5, 1)]), (1, [(1, (-1)), (5, 1)]), (1, [(6, (-1))]), ((-38), [(6, 1)]), (38, [(6, (-1))]), (2, [(5, 1), (7, (-1))]), (0, [(1, (-1)), (7, 1)])], [])
noncomputable def rANm_2 : sX := (none, [], [], [(0, [(2, 1), (5, (-1))]), (0, [(1, (-1)), (5, 1)]), ((-37), [(6, 1)]), (0, [(4, 1), (5, (-1))]), (0, [(4, (-1)), (5, 1)])], [])
noncomputable def rANm_3 : sX := (none, [], [], [(0, [(2, 1), (5, (-1))]), (0, [(1, (-1)), (5, 1)]), (39, [(6, (-1))]), (0, [(4, 1), (5, (-1))]), (0, [(4, (-1)), (5, 1)])], [])
noncomputable def rANm : sQ := (0, ([], [(2, 1013, (0, [])), (2, 120, (2, [])), (2, 120, (3, [])), (2, 120, (5, [])), (2, 509, (0, [(2, 1), (3, 241)])), (2, 500, (0, [(2, 1)])), (2, 501, (0, [(5, 1)]))], [(1, 1), (0, 240), (0, 240), (0, 6), ((-241), 240), (0, 240), (0, 255)], [(0, [(1, (-1)), (2, 1)])], [(0, 0), (1, 1), (2, 2), (3, 3), (4, 4), (5, 5), (6, 6)], (0, [])), [rANm_0, rANm_1, rANm_2, rANm_3], [], 0)
theorem rANm_ok : pRul pReg pG pgv rANm := by
  intro loc h ρ ρ0 hG hM
  have hM : sMt pReg pgv ρ ρ0 (sAs rANm.2.1) loc [] h := hM
  have q0 : ρ0 1 = ρ 0 := (hM.2.2.2.2.2 (1, sY 0) (List.mem_of_getElem? (i := 1) rfl)).trans (sY_v ρ 0)
  have q1 : ρ0 2 = ρ 1 := (hM.2.2.2.2.2 (2, sY 1) (List.mem_of_getElem? (i := 2) rfl)).trans (sY_v ρ 1)
  have q2 : ρ0 3 = ρ 2 := (hM.2.2.2.2.2 (3, sY 2) (List.mem_of_getElem? (i := 3) rfl)).trans (sY_v ρ 2)
  have q3 : ρ0 4 = ρ 3 := (hM.2.2.2.2.2 (4, sY 3) (List.mem_of_getElem? (i := 4) rfl)).trans (sY_v ρ 3)
  have q4 : ρ0 5 = ρ 4 := (hM.2.2.2.2.2 (5, sY 4) (List.mem_of_getElem? (i := 5) rfl)).trans (sY_v ρ 4)
  have q5 : ρ0 6 = ρ 5 := (hM.2.2.2.2.2 (6, sY 5) (List.mem_of_getElem? (i := 6) rfl)).trans (sY_v ρ 5)
  have q6 : ρ0 7 = ρ 6 := (hM.2.2.2.2.2 (7, sY 6) (List.mem_of_getElem? (i := 7) rfl)).trans (sY_v ρ 6)
  have hL : ∀ j, j < 7 → pL [ρ 0, ρ 1, ρ 2, ρ 3, ρ 4, ρ 5, ρ 6] j = ρ0 (j + 1) := by
    intro j hj
    match j, hj with
    | 0, _ => exact q0.symm
    | 1, _ => exact q1.symm
    | 2, _ => exact q2.symm
    | 3, _ => exact q3.symm
    | 4, _ => exact q4.symm
    | 5, _ => exact q5.symm
    | 6, _ => exact q6.symm
    | k + 7, hj => omega
  have b0 : (1 : Int) ≤ ρ 0 ∧ ρ 0 ≤ 1 := hM.2.2.2.1 0 (1, 1) rfl
  have b1 : (0 : Int) ≤ ρ 1 ∧ ρ 1 ≤ 240 := hM.2.2.2.1 1 (0, 240) rfl
  have b2 : (0 : Int) ≤ ρ 2 ∧ ρ 2 ≤ 240 := hM.2.2.2.1 2 (0, 240) rfl
  have b3 : (0 : Int) ≤ ρ 3 ∧ ρ 3 ≤ 6 := hM.2.2.2.1 3 (0, 6) rfl
  have b4 : ((-241) : Int) ≤ ρ 4 ∧ ρ 4 ≤ 240 := hM.2.2.2.1 4 ((-241), 240) rfl
  have b5 : (0 : Int) ≤ ρ 5 ∧ ρ 5 ≤ 240 := hM.2.2.2.1 5 (0, 240) rfl
  have b6 : (0 : Int) ≤ ρ 6 ∧ ρ 6 ≤ 255 := hM.2.2.2.1 6 (0, 255) rfl
  have c0 : (0 + ((-1) * ρ 1 + (1 * ρ 2 + 0)) : Int) ≤ 0 := hM.2.2.2.2.1 (0, [(1, (-1)), (2, 1)]) (List.mem_of_getElem? (i := 0) rfl)
  obtain ⟨ho, hs, hh⟩ := pTold13 hM 0 (0, []) rfl b0.1
  have hn := ho.1
  have en : ρ 1 = (wN h : Int) := (pPl hM 1 120 (2, []) rfl (by omega) 440 2 (by decide +kernel) rfl).symm.trans hs.1
  obtain ⟨p, ep⟩ : ∃ p : Nat, ρ 2 = (p : Int) := ⟨(ρ 2).toNat, by omega⟩
  have hp : p ≤ wN h := by omega
  obtain ⟨s1, s2⟩ := wSk_le (B := wB h) hp
  obtain ⟨d, ed⟩ : ∃ d : Nat, ρ 3 = (d : Int) := ⟨(ρ 3).toNat, by omega⟩
  have er : ρ 4 = (wG (wN h) (wB h) 7 (d) (p)) := pfG hM ho hh 4 509 7 (0, [(2, 1), (3, 241)]) rfl rfl rfl (d := d) (p := p) (by omega) (by omega) (by show (0 + (1 * ρ 2 + (241 * ρ 3 + 0)) : Int) = _; omega)
  have eq : ρ 5 = ((wSk (wN h) (wB h) (p)) : Int) := pfS hM ho hh 5 (0, [(2, 1)]) rfl (p := p) (by omega) (by show (0 + (1 * ρ 2 + 0) : Int) = _; omega)
  have ec : ρ 6 = (wCh (wN h) (wB h) ((wSk (wN h) (wB h) (p)))) := pfC hM ho hh 6 (0, [(5, 1)]) rfl (p := (wSk (wN h) (wB h) (p))) (by omega) (by show (0 + (1 * ρ 5 + 0) : Int) = _; omega)
  have cbc := wCh_bd ho ((wSk (wN h) (wB h) (p)))
  have clc : (wCh (wN h) (wB h) ((wSk (wN h) (wB h) (p)))) ≠ 0 → (wSk (wN h) (wB h) (p)) < wN h := wCh_lt
  rw [wE_AN hp] at er
  by_cases h1 : (wCh (wN h) (wB h) ((wSk (wN h) (wB h) (p)))) = 38
  · rw [if_pos h1] at er
    have hq := clc (by omega)
    have g := wG_gd (n := wN h) (B := wB h) 5 d ((wSk (wN h) (wB h) (p)) + 1) rfl (by omega)
    rcases wBd_el er g with ⟨a1, a2⟩ | ⟨s, a1, a2, a3, a4⟩
    · have := g.1 a1
      refine ⟨rANm_0, List.mem_of_getElem? (i := 0) rfl, pEnd [ρ 0, ρ 1, ρ 2, ρ 3, ρ 4, ρ 5, ρ 6, (wG (wN h) (wB h) 5 (d) ((wSk (wN h) (wB h) (p)) + 1))] rfl ?_ ?_ ?_ ?_⟩
      · intro j hj
        match j, hj with
        | 0, _ => exact q0.symm
        | 1, _ => exact q1.symm
        | 2, _ => exact q2.symm
        | 3, _ => exact q3.symm
        | 4, _ => exact q4.symm
        | 5, _ => exact q5.symm
        | 6, _ => exact q6.symm
        | k + 7, hj => exact absurd hj (by show ¬ (k + 7 < 7); omega)
      · intro k b hk
        match k, hk with
        | 0, hk => cases hk; exact (show ((-241) : Int) ≤ (wG (wN h) (wB h) 5 (d) ((wSk (wN h) (wB h) (p)) + 1)) ∧ (wG (wN h) (wB h) 5 (d) ((wSk (wN h) (wB h) (p)) + 1)) ≤ ((-1) : Int) by omega)
        | k + 1, hk => cases hk
      · exact pAll1 (show (0 + (1 * ρ 2 + ((-1) * ρ 5 + 0)) : Int) ≤ 0 by omega) (pAll1 (show (0 + ((-1) * ρ 1 + (1 * ρ 5 + 0)) : Int) ≤ 0 by omega) (pAll1 (show (1 + ((-1) * ρ 1 + (1 * ρ 5 + 0)) : Int) ≤ 0 by omega) (pAll1 (show (1 + ((-1) * ρ 6 + 0) : Int) ≤ 0 by omega) (pAll1 (show ((-38) + (1 * ρ 6 + 0) : Int) ≤ 0 by omega) (pAll1 (show (38 + ((-1) * ρ 6 + 0) : Int) ≤ 0 by omega) (pAll1 (show (0 + (1 * ρ 4 + ((-1) * (wG (wN h) (wB h) 5 (d) ((wSk (wN h) (wB h) (p)) + 1)) + 0)) : Int) ≤ 0 by omega) (pAll1 (show (0 + ((-1) * ρ 4 + (1 * (wG (wN h) (wB h) 5 (d) ((wSk (wN h) (wB h) (p)) + 1)) + 0)) : Int) ≤ 0 by omega) (pAll0))))))))
      · exact pAll1 (pgG ho hh 507 5 rfl rfl (d) ((wSk (wN h) (wB h) (p)) + 1) (by omega) (by omega) (show (1 + (241 * ρ 3 + (1 * ρ 5 + 0)) : Int) = _ by omega) (show (0 + (1 * (wG (wN h) (wB h) 5 (d) ((wSk (wN h) (wB h) (p)) + 1)) + 0) : Int) = _ by omega)) (pAll0)
    · have a2 : (wSk (wN h) (wB h) (p)) + 1 + 1 ≤ s := a2
      refine ⟨rANm_1, List.mem_of_getElem? (i := 1) rfl, pEnd [ρ 0, ρ 1, ρ 2, ρ 3, ρ 4, ρ 5, ρ 6, (s : Int)] rfl ?_ ?_ ?_ ?_⟩
      · intro j hj
        match j, hj with
        | 0, _ => exact q0.symm
        | 1, _ => exact q1.symm
        | 2, _ => exact q2.symm
        | 3, _ => exact q3.symm
        | 4, _ => exact q4.symm
        | 5, _ => exact q5.symm
        | 6, _ => exact q6.symm
        | k + 7, hj => exact absurd hj (by show ¬ (k + 7 < 7); omega)
      · intro k b hk
        match k, hk with
        | 0, hk => cases hk; exact (show (0 : Int) ≤ (s : Int) ∧ (s : Int) ≤ (240 : Int) by omega)
        | k + 1, hk => cases hk
      · exact pAll1 (show (0 + (1 * ρ 2 + ((-1) * ρ 5 + 0)) : Int) ≤ 0 by omega) (pAll1 (show (0 + ((-1) * ρ 1 + (1 * ρ 5 + 0)) : Int) ≤ 0 by omega) (pAll1 (show (1 + ((-1) * ρ 1 + (1 * ρ 5 + 0)) : Int) ≤ 0 by omega) (pAll1 (show (1 + ((-1) * ρ 6 + 0) : Int) ≤ 0 by omega) (pAll1 (show ((-38) + (1 * ρ 6 + 0) : Int) ≤ 0 by omega) (pAll1 (show (38 + ((-1) * ρ 6 + 0) : Int) ≤ 0 by omega) (pAll1 (show (2 + (1 * ρ 5 + ((-1) * (s : Int) + 0)) : Int) ≤ 0 by omega) (pAll1 (show (0 + ((-1) * ρ 1 + (1 * (s : Int) + 0)) : Int) ≤ 0 by omega) (pAll0))))))))
      · exact pAll1 (pgG ho hh 507 5 rfl rfl (d) ((wSk (wN h) (wB h) (p)) + 1) (by omega) (by omega) (show (1 + (241 * ρ 3 + (1 * ρ 5 + 0)) : Int) = _ by omega) (show (0 + (1 * (s : Int) + 0) : Int) = _ by omega)) (pAll1 (pgG ho hh 509 7 rfl rfl (d) (s) (by omega) (by omega) (show (0 + (241 * ρ 3 + (1 * (s : Int) + 0)) : Int) = _ by omega) (show (0 + (1 * ρ 4 + 0) : Int) = _ by omega)) (pAll0))
  · rw [if_neg h1] at er
    have hu : (wCh (wN h) (wB h) ((wSk (wN h) (wB h) (p)))) ≤ 37 ∨ 39 ≤ (wCh (wN h) (wB h) ((wSk (wN h) (wB h) (p)))) := by omega
    rcases hu with hu | hu
    · refine ⟨rANm_2, List.mem_of_getElem? (i := 2) rfl, pEnd [ρ 0, ρ 1, ρ 2, ρ 3, ρ 4, ρ 5, ρ 6] rfl ?_ ?_ ?_ ?_⟩
      · exact hL
      · intro k b hk
        cases hk
      · exact pAll1 (show (0 + (1 * ρ 2 + ((-1) * ρ 5 + 0)) : Int) ≤ 0 by omega) (pAll1 (show (0 + ((-1) * ρ 1 + (1 * ρ 5 + 0)) : Int) ≤ 0 by omega) (pAll1 (show ((-37) + (1 * ρ 6 + 0) : Int) ≤ 0 by omega) (pAll1 (show (0 + (1 * ρ 4 + ((-1) * ρ 5 + 0)) : Int) ≤ 0 by omega) (pAll1 (show (0 + ((-1) * ρ 4 + (1 * ρ 5 + 0)) : Int) ≤ 0 by omega) (pAll0)))))
      · exact pAll0
    · refine ⟨rANm_3, List.mem_of_getElem? (i := 3) rfl, pEnd [ρ 0, ρ 1, ρ 2, ρ 3, ρ 4, ρ 5, ρ 6] rfl ?_ ?_ ?_ ?_⟩
      · exact hL
      · intro k b hk
        cases hk
      · exact pAll1 (show (0 + (1 * ρ 2 + ((-1) * ρ 5 + 0)) : Int) ≤ 0 by omega) (pAll1 (show (0 + ((-1) * ρ 1 + (1 * ρ 5 + 0)) : Int) ≤ 0 by omega) (pAll1 (show (39 + ((-1) * ρ 6 + 0) : Int) ≤ 0 by omega) (pAll1 (show (0 + (1 * ρ 4 + ((-1) * ρ 5 + 0)) : Int) ≤ 0 by omega) (pAll1 (show (0 + ((-1) * ρ 4 + (1 * ρ 5 + 0)) : Int) ≤ 0 by omega) (pAll0)))))
      · exact pAll0
noncomputable def rOTm_0 : sX := (none, [(510, (1, [(3, 241), (5, 1)]), (0, [(7, 1)]))], [((-241), (-1))], [(0, [(2, 1), (5, (-1))]), (0, [(1, (-1)), (5, 1)]), (1, [(1, (-1)), (5, 1)]), (1, [(6, (-1))]), ((-124), [(6, 1)]), (124, [(6, (-1))]), (0, [(4, 1), (7, (-1))]), (0, [(4, (-1)), (7, 1)])], [])
noncomputable def rOTm_1 : sX := (none, [(510, (1, [(3, 241), (5, 1)]), (0, [(7, 1)])), (511, (0, [(3, 241), (7, 1)]), (0, [(4, 1)]))], [(0, 240)], [(0, [(2, 1), (5, (-1))]), (0, [(1, (-1)), (5, 1)]), (1, [(1, (-1)), (5, 1)]), (1, [(6, (-1))]), ((-124), [(6, 1)]), (124, [(6, (-1))]), (2, [(5, 1), (7, (-1))]), (0, [(1, (-1)), (7, 1)])], [])
noncomputable def rOTm_2 : sX := (none, [], [], [(0, [(2, 1), (5, (-1))]), (0, [(1, (-1)), (5, 1)]), ((-123), [(6, 1)]), (0, [(4, 1), (5, (-1))]), (0, [(4, (-1)), (5, 1)])], [])
noncomputable def rOTm_3 : sX := (none, [], [], [(0, [(2, 1), (5, (-1))]), (0, [(1, (-1)), (5, 1)]), (125, [(6, (-1))]), (0, [(4, 1), (5, (-1))]), (0, [(4, (-1)), (5, 1)])], [])
noncomputable def rOTm : sQ := (0, ([], [(2, 1013, (0, [])), (2, 120, (2, [])), (2, 120, (3, [])), (2, 120, (5, [])), (2, 511, (0, [(2, 1), (3, 241)])), (2, 500, (0, [(2, 1)])), (2, 501, (0, [(5, 1)]))], [(1, 1), (0, 240), (0, 240), (0, 6), ((-241), 240), (0, 240), (0, 255)], [(0, [(1, (-1)), (2, 1)])], [(0, 0), (1, 1), (2, 2), (3, 3), (4, 4), (5, 5), (6, 6)], (0, [])), [rOTm_0, rOTm_1, rOTm_2, rOTm_3], [], 0)
theorem rOTm_ok : pRul pReg pG pgv rOTm := by
  intro loc h ρ ρ0 hG hM
  have hM : sMt pReg pgv ρ ρ0 (sAs rOTm.2.1) loc [] h := hM
  have q0 : ρ0 1 = ρ 0 := (hM.2.2.2.2.2 (1, sY 0) (List.mem_of_getElem? (i := 1) rfl)).trans (sY_v ρ 0)
  have q1 : ρ0 2 = ρ 1 := (hM.2.2.2.2.2 (2, sY 1) (List.mem_of_getElem? (i := 2) rfl)).trans (sY_v ρ 1)
  have q2 : ρ0 3 = ρ 2 := (hM.2.2.2.2.2 (3, sY 2) (List.mem_of_getElem? (i := 3) rfl)).trans (sY_v ρ 2)
  have q3 : ρ0 4 = ρ 3 := (hM.2.2.2.2.2 (4, sY 3) (List.mem_of_getElem? (i := 4) rfl)).trans (sY_v ρ 3)
  have q4 : ρ0 5 = ρ 4 := (hM.2.2.2.2.2 (5, sY 4) (List.mem_of_getElem? (i := 5) rfl)).trans (sY_v ρ 4)
  have q5 : ρ0 6 = ρ 5 := (hM.2.2.2.2.2 (6, sY 5) (List.mem_of_getElem? (i := 6) rfl)).trans (sY_v ρ 5)
  have q6 : ρ0 7 = ρ 6 := (hM.2.2.2.2.2 (7, sY 6) (List.mem_of_getElem? (i := 7) rfl)).trans (sY_v ρ 6)
  have hL : ∀ j, j < 7 → pL [ρ 0, ρ 1, ρ 2, ρ 3, ρ 4, ρ 5, ρ 6] j = ρ0 (j + 1) := by
    intro j hj
    match j, hj with
    | 0, _ => exact q0.symm
    | 1, _ => exact q1.symm
    | 2, _ => exact q2.symm
    | 3, _ => exact q3.symm
    | 4, _ => exact q4.symm
    | 5, _ => exact q5.symm
    | 6, _ => exact q6.symm
    | k + 7, hj => omega
  have b0 : (1 : Int) ≤ ρ 0 ∧ ρ 0 ≤ 1 := hM.2.2.2.1 0 (1, 1) rfl
  have b1 : (0 : Int) ≤ ρ 1 ∧ ρ 1 ≤ 240 := hM.2.2.2.1 1 (0, 240) rfl
  have b2 : (0 : Int) ≤ ρ 2 ∧ ρ 2 ≤ 240 := hM.2.2.2.1 2 (0, 240) rfl
  have b3 : (0 : Int) ≤ ρ 3 ∧ ρ 3 ≤ 6 := hM.2.2.2.1 3 (0, 6) rfl
  have b4 : ((-241) : Int) ≤ ρ 4 ∧ ρ 4 ≤ 240 := hM.2.2.2.1 4 ((-241), 240) rfl
  have b5 : (0 : Int) ≤ ρ 5 ∧ ρ 5 ≤ 240 := hM.2.2.2.1 5 (0, 240) rfl
  have b6 : (0 : Int) ≤ ρ 6 ∧ ρ 6 ≤ 255 := hM.2.2.2.1 6 (0, 255) rfl
  have c0 : (0 + ((-1) * ρ 1 + (1 * ρ 2 + 0)) : Int) ≤ 0 := hM.2.2.2.2.1 (0, [(1, (-1)), (2, 1)]) (List.mem_of_getElem? (i := 0) rfl)
  obtain ⟨ho, hs, hh⟩ := pTold13 hM 0 (0, []) rfl b0.1
  have hn := ho.1
  have en : ρ 1 = (wN h : Int) := (pPl hM 1 120 (2, []) rfl (by omega) 440 2 (by decide +kernel) rfl).symm.trans hs.1
  obtain ⟨p, ep⟩ : ∃ p : Nat, ρ 2 = (p : Int) := ⟨(ρ 2).toNat, by omega⟩
  have hp : p ≤ wN h := by omega
  obtain ⟨s1, s2⟩ := wSk_le (B := wB h) hp
  obtain ⟨d, ed⟩ : ∃ d : Nat, ρ 3 = (d : Int) := ⟨(ρ 3).toNat, by omega⟩
  have er : ρ 4 = (wG (wN h) (wB h) 9 (d) (p)) := pfG hM ho hh 4 511 9 (0, [(2, 1), (3, 241)]) rfl rfl rfl (d := d) (p := p) (by omega) (by omega) (by show (0 + (1 * ρ 2 + (241 * ρ 3 + 0)) : Int) = _; omega)
  have eq : ρ 5 = ((wSk (wN h) (wB h) (p)) : Int) := pfS hM ho hh 5 (0, [(2, 1)]) rfl (p := p) (by omega) (by show (0 + (1 * ρ 2 + 0) : Int) = _; omega)
  have ec : ρ 6 = (wCh (wN h) (wB h) ((wSk (wN h) (wB h) (p)))) := pfC hM ho hh 6 (0, [(5, 1)]) rfl (p := (wSk (wN h) (wB h) (p))) (by omega) (by show (0 + (1 * ρ 5 + 0) : Int) = _; omega)
  have cbc := wCh_bd ho ((wSk (wN h) (wB h) (p)))
  have clc : (wCh (wN h) (wB h) ((wSk (wN h) (wB h) (p)))) ≠ 0 → (wSk (wN h) (wB h) (p)) < wN h := wCh_lt
  rw [wE_OT hp] at er
  by_cases h1 : (wCh (wN h) (wB h) ((wSk (wN h) (wB h) (p)))) = 124
  · rw [if_pos h1] at er
    have hq := clc (by omega)
    have g := wG_gd (n := wN h) (B := wB h) 8 d ((wSk (wN h) (wB h) (p)) + 1) rfl (by omega)
    rcases wBd_el er g with ⟨a1, a2⟩ | ⟨s, a1, a2, a3, a4⟩
    · have := g.1 a1
      refine ⟨rOTm_0, List.mem_of_getElem? (i := 0) rfl, pEnd [ρ 0, ρ 1, ρ 2, ρ 3, ρ 4, ρ 5, ρ 6, (wG (wN h) (wB h) 8 (d) ((wSk (wN h) (wB h) (p)) + 1))] rfl ?_ ?_ ?_ ?_⟩
      · intro j hj
        match j, hj with
        | 0, _ => exact q0.symm
        | 1, _ => exact q1.symm
        | 2, _ => exact q2.symm
        | 3, _ => exact q3.symm
        | 4, _ => exact q4.symm
        | 5, _ => exact q5.symm
        | 6, _ => exact q6.symm
        | k + 7, hj => exact absurd hj (by show ¬ (k + 7 < 7); omega)
      · intro k b hk
        match k, hk with
        | 0, hk => cases hk; exact (show ((-241) : Int) ≤ (wG (wN h) (wB h) 8 (d) ((wSk (wN h) (wB h) (p)) + 1)) ∧ (wG (wN h) (wB h) 8 (d) ((wSk (wN h) (wB h) (p)) + 1)) ≤ ((-1) : Int) by omega)
        | k + 1, hk => cases hk
      · exact pAll1 (show (0 + (1 * ρ 2 + ((-1) * ρ 5 + 0)) : Int) ≤ 0 by omega) (pAll1 (show (0 + ((-1) * ρ 1 + (1 * ρ 5 + 0)) : Int) ≤ 0 by omega) (pAll1 (show (1 + ((-1) * ρ 1 + (1 * ρ 5 + 0)) : Int) ≤ 0 by omega) (pAll1 (show (1 + ((-1) * ρ 6 + 0) : Int) ≤ 0 by omega) (pAll1 (show ((-124) + (1 * ρ 6 + 0) : Int) ≤ 0 by omega) (pAll1 (show (124 + ((-1) * ρ 6 + 0) : Int) ≤ 0 by omega) (pAll1 (show (0 + (1 * ρ 4 + ((-1) * (wG (wN h) (wB h) 8 (d) ((wSk (wN h) (wB h) (p)) + 1)) + 0)) : Int) ≤ 0 by omega) (pAll1 (show (0 + ((-1) * ρ 4 + (1 * (wG (wN h) (wB h) 8 (d) ((wSk (wN h) (wB h) (p)) + 1)) + 0)) : Int) ≤ 0 by omega) (pAll0))))))))
      · exact pAll1 (pgG ho hh 510 8 rfl rfl (d) ((wSk (wN h) (wB h) (p)) + 1) (by omega) (by omega) (show (1 + (241 * ρ 3 + (1 * ρ 5 + 0)) : Int) = _ by omega) (show (0 + (1 * (wG (wN h) (wB h) 8 (d) ((wSk (wN h) (wB h) (p)) + 1)) + 0) : Int) = _ by omega)) (pAll0)
    · have a2 : (wSk (wN h) (wB h) (p)) + 1 + 1 ≤ s := a2
      refine ⟨rOTm_1, List.mem_of_getElem? (i := 1) rfl, pEnd [ρ 0, ρ 1, ρ 2, ρ 3, ρ 4, ρ 5, ρ 6, (s : Int)] rfl ?_ ?_ ?_ ?_⟩
      · intro j hj
        match j, hj with
        | 0, _ => exact q0.symm
        | 1, _ => exact q1.symm
        | 2, _ => exact q2.symm
        | 3, _ => exact q3.symm
        | 4, _ => exact q4.symm
        | 5, _ => exact q5.symm
        | 6, _ => exact q6.symm
        | k + 7, hj => exact absurd hj (by show ¬ (k + 7 < 7); omega)
      · intro k b hk
        match k, hk with
        | 0, hk => cases hk; exact (show (0 : Int) ≤ (s : Int) ∧ (s : Int) ≤ (240 : Int) by omega)
        | k + 1, hk => cases hk
      · exact pAll1 (show (0 + (1 * ρ 2 + ((-1) * ρ 5 + 0)) : Int) ≤ 0 by omega) (pAll1 (show (0 + ((-1) * ρ 1 + (1 * ρ 5 + 0)) : Int) ≤ 0 by omega) (pAll1 (show (1 + ((-1) * ρ 1 + (1 * ρ 5 + 0)) : Int) ≤ 0 by omega) (pAll1 (show (1 + ((-1) * ρ 6 + 0) : Int) ≤ 0 by omega) (pAll1 (show ((-124) + (1 * ρ 6 + 0) : Int) ≤ 0 by omega) (pAll1 (show (124 + ((-1) * ρ 6 + 0) : Int) ≤ 0 by omega) (pAll1 (show (2 + (1 * ρ 5 + ((-1) * (s : Int) + 0)) : Int) ≤ 0 by omega) (pAll1 (show (0 + ((-1) * ρ 1 + (1 * (s : Int) + 0)) : Int) ≤ 0 by omega) (pAll0))))))))
      · exact pAll1 (pgG ho hh 510 8 rfl rfl (d) ((wSk (wN h) (wB h) (p)) + 1) (by omega) (by omega) (show (1 + (241 * ρ 3 + (1 * ρ 5 + 0)) : Int) = _ by omega) (show (0 + (1 * (s : Int) + 0) : Int) = _ by omega)) (pAll1 (pgG ho hh 511 9 rfl rfl (d) (s) (by omega) (by omega) (show (0 + (241 * ρ 3 + (1 * (s : Int) + 0)) : Int) = _ by omega) (show (0 + (1 * ρ 4 + 0) : Int) = _ by omega)) (pAll0))
  · rw [if_neg h1] at er
    have hu : (wCh (wN h) (wB h) ((wSk (wN h) (wB h) (p)))) ≤ 123 ∨ 125 ≤ (wCh (wN h) (wB h) ((wSk (wN h) (wB h) (p)))) := by omega
    rcases hu with hu | hu
    · refine ⟨rOTm_2, List.mem_of_getElem? (i := 2) rfl, pEnd [ρ 0, ρ 1, ρ 2, ρ 3, ρ 4, ρ 5, ρ 6] rfl ?_ ?_ ?_ ?_⟩
      · exact hL
      · intro k b hk
        cases hk
      · exact pAll1 (show (0 + (1 * ρ 2 + ((-1) * ρ 5 + 0)) : Int) ≤ 0 by omega) (pAll1 (show (0 + ((-1) * ρ 1 + (1 * ρ 5 + 0)) : Int) ≤ 0 by omega) (pAll1 (show ((-123) + (1 * ρ 6 + 0) : Int) ≤ 0 by omega) (pAll1 (show (0 + (1 * ρ 4 + ((-1) * ρ 5 + 0)) : Int) ≤ 0 by omega) (pAll1 (show (0 + ((-1) * ρ 4 + (1 * ρ 5 + 0)) : Int) ≤ 0 by omega) (pAll0)))))
      · exact pAll0
    · refine ⟨rOTm_3, List.mem_of_getElem? (i := 3) rfl, pEnd [ρ 0, ρ 1, ρ 2, ρ 3, ρ 4, ρ 5, ρ 6] rfl ?_ ?_ ?_ ?_⟩
      · exact hL
      · intro k b hk
        cases hk
      · exact pAll1 (show (0 + (1 * ρ 2 + ((-1) * ρ 5 + 0)) : Int) ≤ 0 by omega) (pAll1 (show (0 + ((-1) * ρ 1 + (1 * ρ 5 + 0)) : Int) ≤ 0 by omega) (pAll1 (show (125 + ((-1) * ρ 6 + 0) : Int) ≤ 0 by omega) (pAll1 (show (0 + (1 * ρ 4 + ((-1) * ρ 5 + 0)) : Int) ≤ 0 by omega) (pAll1 (show (0 + ((-1) * ρ 4 + (1 * ρ 5 + 0)) : Int) ≤ 0 by omega) (pAll0)))))
      · exact pAll0
noncomputable def rUNm_0 : sX := (none, [], [], [(0, [(2, 1), (5, (-1))]), (0, [(1, (-1)), (5, 1)]), (1, [(1, (-1)), (5, 1)]), (1, [(6, (-1))]), ((-33), [(6, 1)]), (33, [(6, (-1))]), ((-6), [(3, 1)]), (6, [(3, (-1))]), (1, [(4, 1), (5, 1)]), ((-1), [(4, (-1)), (5, (-1))])], [])
noncomputable def rUNm_1 : sX := (none, [], [], [(0, [(2, 1), (5, (-1))]), (0, [(1, (-1)), (5, 1)]), (1, [(1, (-1)), (5, 1)]), (1, [(6, (-1))]), ((-40), [(6, 1)]), (40, [(6, (-1))]), ((-6), [(3, 1)]), (6, [(3, (-1))]), (1, [(4, 1), (5, 1)]), ((-1), [(4, (-1)), (5, (-1))])], [])
noncomputable def rUNm_2 : sX := (none, [(507, (242, [(3, 241), (5, 1)]), (0, [(4, 1)]))], [], [(0, [(2, 1), (5, (-1))]), (0, [(1, (-1)), (5, 1)]), (1, [(1, (-1)), (5, 1)]), (1, [(6, (-1))]), ((-33), [(6, 1)]), (33, [(6, (-1))]), ((-5), [(3, 1)])], [])
noncomputable def rUNm_3 : sX := (none, [(512, (242, [(3, 241), (5, 1)]), (0, [(7, 1)]))], [((-241), (-1))], [(0, [(2, 1), (5, (-1))]), (0, [(1, (-1)), (5, 1)]), (1, [(1, (-1)), (5, 1)]), (1, [(6, (-1))]), ((-40), [(6, 1)]), (40, [(6, (-1))]), ((-5), [(3, 1)]), (0, [(4, 1), (7, (-1))]), (0, [(4, (-1)), (7, 1)])], [])
noncomputable def rUNm_4 : sX := (none, [(512, (242, [(3, 241), (5, 1)]), (0, [(7, 1)])), (500, (0, [(7, 1)]), (0, [(8, 1)])), (501, (0, [(8, 1)]), (0, [(9, 1)]))], [(0, 240), (0, 240), (41, 41)], [(0, [(2, 1), (5, (-1))]), (0, [(1, (-1)), (5, 1)]), (1, [(1, (-1)), (5, 1)]), (1, [(6, (-1))]), ((-40), [(6, 1)]), (40, [(6, (-1))]), ((-5), [(3, 1)]), (0, [(7, 1), (8, (-1))]), (1, [(1, (-1)), (8, 1)]), ((-1), [(4, 1), (8, (-1))]), (1, [(4, (-1)), (8, 1)])], [])
noncomputable def rUNm_5 : sX := (none, [(512, (242, [(3, 241), (5, 1)]), (0, [(7, 1)])), (500, (0, [(7, 1)]), (0, [(8, 1)])), (501, (0, [(8, 1)]), (0, [(9, 1)]))], [(0, 240), (0, 240), (0, 40)], [(0, [(2, 1), (5, (-1))]), (0, [(1, (-1)), (5, 1)]), (1, [(1, (-1)), (5, 1)]), (1, [(6, (-1))]), ((-40), [(6, 1)]), (40, [(6, (-1))]), ((-5), [(3, 1)]), (0, [(7, 1), (8, (-1))]), (0, [(1, (-1)), (8, 1)]), (1, [(4, 1), (8, 1)]), ((-1), [(4, (-1)), (8, (-1))])], [])
noncomputable def rUNm_6 : sX := (none, [(512, (242, [(3, 241), (5, 1)]), (0, [(7, 1)])), (500, (0, [(7, 1)]), (0, [(8, 1)])), (501, (0, [(8, 1)]), (0, [(9, 1)]))], [(0, 240), (0, 240), (42, 255)], [(0, [(2, 1), (5, (-1))]), (0, [(1, (-1)), (5, 1)]), (1, [(1, (-1)), (5, 1)]), (1, [(6, (-1))]), ((-40), [(6, 1)]), (40, [(6, (-1))]), ((-5), [(3, 1)]), (0, [(7, 1), (8, (-1))]), (0, [(1, (-1)), (8, 1)]), (1, [(4, 1), (8, 1)]), ((-1), [(4, (-1)), (8, (-1))])], [])
noncomputable def rUNm_7 : sX := (none, [(505, (0, [(3, 241), (5, 1)]), (0, [(7, 1)]))], [((-241), (-1))], [(0, [(2, 1), (5, (-1))]), (0, [(1, (-1)), (5, 1)]), ((-32), [(6, 1)]), (0, [(4, 1), (7, (-1))]), (0, [(4, (-1)), (7, 1)])], [])
noncomputable def rUNm_8 : sX := (none, [(505, (0, [(3, 241), (5, 1)]), (0, [(7, 1)])), (508, (0, [(3, 241), (7, 1)]), (0, [(4, 1)]))], [(0, 240)], [(0, [(2, 1), (5, (-1))]), (0, [(1, (-1)), (5, 1)]), ((-32), [(6, 1)]), (1, [(5, 1), (7, (-1))]), (0, [(1, (-1)), (7, 1)])], [])
noncomputable def rUNm_9 : sX := (none, [(505, (0, [(3, 241), (5, 1)]), (0, [(7, 1)]))], [((-241), (-1))], [(0, [(2, 1), (5, (-1))]), (0, [(1, (-1)), (5, 1)]), (34, [(6, (-1))]), ((-39), [(6, 1)]), (0, [(4, 1), (7, (-1))]), (0, [(4, (-1)), (7, 1)])], [])
noncomputable def rUNm_10 : sX := (none, [(505, (0, [(3, 241), (5, 1)]), (0, [(7, 1)])), (508, (0, [(3, 241), (7, 1)]), (0, [(4, 1)]))], [(0, 240)], [(0, [(2, 1), (5, (-1))]), (0, [(1, (-1)), (5, 1)]), (34, [(6, (-1))]), ((-39), [(6, 1)]), (1, [(5, 1), (7, (-1))]), (0, [(1, (-1)), (7, 1)])], [])
noncomputable def rUNm_11 : sX := (none, [(505, (0, [(3, 241), (5, 1)]), (0, [(7, 1)]))], [((-241), (-1))], [(0, [(2, 1), (5, (-1))]), (0, [(1, (-1)), (5, 1)]), (41, [(6, (-1))]), (0, [(4, 1), (7, (-1))]), (0, [(4, (-1)), (7, 1)])], [])
noncomputable def rUNm_12 : sX := (none, [(505, (0, [(3, 241), (5, 1)]), (0, [(7, 1)])), (508, (0, [(3, 241), (7, 1)]), (0, [(4, 1)]))], [(0, 240)], [(0, [(2, 1), (5, (-1))]), (0, [(1, (-1)), (5, 1)]), (41, [(6, (-1))]), (1, [(5, 1), (7, (-1))]), (0, [(1, (-1)), (7, 1)])], [])
noncomputable def rUNm : sQ := (0, ([], [(2, 1013, (0, [])), (2, 120, (2, [])), (2, 120, (3, [])), (2, 120, (5, [])), (2, 507, (0, [(2, 1), (3, 241)])), (2, 500, (0, [(2, 1)])), (2, 501, (0, [(5, 1)]))], [(1, 1), (0, 240), (0, 240), (0, 6), ((-241), 240), (0, 240), (0, 255)], [(0, [(1, (-1)), (2, 1)])], [(0, 0), (1, 1), (2, 2), (3, 3), (4, 4), (5, 5), (6, 6)], (0, [])), [rUNm_0, rUNm_1, rUNm_2, rUNm_3, rUNm_4, rUNm_5, rUNm_6, rUNm_7, rUNm_8, rUNm_9, rUNm_10, rUNm_11, rUNm_12], [], 0)
theorem rUNm_ok : pRul pReg pG pgv rUNm := by
  intro loc h ρ ρ0 hG hM
  have hM : sMt pReg pgv ρ ρ0 (sAs rUNm.2.1) loc [] h := hM
  have q0 : ρ0 1 = ρ 0 := (hM.2.2.2.2.2 (1, sY 0) (List.mem_of_getElem? (i := 1) rfl)).trans (sY_v ρ 0)
  have q1 : ρ0 2 = ρ 1 := (hM.2.2.2.2.2 (2, sY 1) (List.mem_of_getElem? (i := 2) rfl)).trans (sY_v ρ 1)
  have q2 : ρ0 3 = ρ 2 := (hM.2.2.2.2.2 (3, sY 2) (List.mem_of_getElem? (i := 3) rfl)).trans (sY_v ρ 2)
  have q3 : ρ0 4 = ρ 3 := (hM.2.2.2.2.2 (4, sY 3) (List.mem_of_getElem? (i := 4) rfl)).trans (sY_v ρ 3)
  have q4 : ρ0 5 = ρ 4 := (hM.2.2.2.2.2 (5, sY 4) (List.mem_of_getElem? (i := 5) rfl)).trans (sY_v ρ 4)
  have q5 : ρ0 6 = ρ 5 := (hM.2.2.2.2.2 (6, sY 5) (List.mem_of_getElem? (i := 6) rfl)).trans (sY_v ρ 5)
  have q6 : ρ0 7 = ρ 6 := (hM.2.2.2.2.2 (7, sY 6) (List.mem_of_getElem? (i := 7) rfl)).trans (sY_v ρ 6)
  have hL : ∀ j, j < 7 → pL [ρ 0, ρ 1, ρ 2, ρ 3, ρ 4, ρ 5, ρ 6] j = ρ0 (j + 1) := by
    intro j hj
    match j, hj with
    | 0, _ => exact q0.symm
    | 1, _ => exact q1.symm
    | 2, _ => exact q2.symm
    | 3, _ => exact q3.symm
    | 4, _ => exact q4.symm
    | 5, _ => exact q5.symm
    | 6, _ => exact q6.symm
    | k + 7, hj => omega
  have b0 : (1 : Int) ≤ ρ 0 ∧ ρ 0 ≤ 1 := hM.2.2.2.1 0 (1, 1) rfl
  have b1 : (0 : Int) ≤ ρ 1 ∧ ρ 1 ≤ 240 := hM.2.2.2.1 1 (0, 240) rfl
  have b2 : (0 : Int) ≤ ρ 2 ∧ ρ 2 ≤ 240 := hM.2.2.2.1 2 (0, 240) rfl
  have b3 : (0 : Int) ≤ ρ 3 ∧ ρ 3 ≤ 6 := hM.2.2.2.1 3 (0, 6) rfl
  have b4 : ((-241) : Int) ≤ ρ 4 ∧ ρ 4 ≤ 240 := hM.2.2.2.1 4 ((-241), 240) rfl
  have b5 : (0 : Int) ≤ ρ 5 ∧ ρ 5 ≤ 240 := hM.2.2.2.1 5 (0, 240) rfl
  have b6 : (0 : Int) ≤ ρ 6 ∧ ρ 6 ≤ 255 := hM.2.2.2.1 6 (0, 255) rfl
  have c0 : (0 + ((-1) * ρ 1 + (1 * ρ 2 + 0)) : Int) ≤ 0 := hM.2.2.2.2.1 (0, [(1, (-1)), (2, 1)]) (List.mem_of_getElem? (i := 0) rfl)
  obtain ⟨ho, hs, hh⟩ := pTold13 hM 0 (0, []) rfl b0.1
  have hn := ho.1
  have en : ρ 1 = (wN h : Int) := (pPl hM 1 120 (2, []) rfl (by omega) 440 2 (by decide +kernel) rfl).symm.trans hs.1
  obtain ⟨p, ep⟩ : ∃ p : Nat, ρ 2 = (p : Int) := ⟨(ρ 2).toNat, by omega⟩
  have hp : p ≤ wN h := by omega
  obtain ⟨s1, s2⟩ := wSk_le (B := wB h) hp
  obtain ⟨d, ed⟩ : ∃ d : Nat, ρ 3 = (d : Int) := ⟨(ρ 3).toNat, by omega⟩
  have er : ρ 4 = (wG (wN h) (wB h) 5 (d) (p)) := pfG hM ho hh 4 507 5 (0, [(2, 1), (3, 241)]) rfl rfl rfl (d := d) (p := p) (by omega) (by omega) (by show (0 + (1 * ρ 2 + (241 * ρ 3 + 0)) : Int) = _; omega)
  have eq : ρ 5 = ((wSk (wN h) (wB h) (p)) : Int) := pfS hM ho hh 5 (0, [(2, 1)]) rfl (p := p) (by omega) (by show (0 + (1 * ρ 2 + 0) : Int) = _; omega)
  have ec : ρ 6 = (wCh (wN h) (wB h) ((wSk (wN h) (wB h) (p)))) := pfC hM ho hh 6 (0, [(5, 1)]) rfl (p := (wSk (wN h) (wB h) (p))) (by omega) (by show (0 + (1 * ρ 5 + 0) : Int) = _; omega)
  have cbc := wCh_bd ho ((wSk (wN h) (wB h) (p)))
  have clc : (wCh (wN h) (wB h) ((wSk (wN h) (wB h) (p)))) ≠ 0 → (wSk (wN h) (wB h) (p)) < wN h := wCh_lt
  rw [wE_UN hp] at er
  by_cases h1 : (wCh (wN h) (wB h) ((wSk (wN h) (wB h) (p)))) = 33
  · rw [if_pos h1] at er
    have hq := clc (by omega)
    by_cases h2 : 6 ≤ d
    · rw [if_pos h2] at er
      unfold wFl at er
      refine ⟨rUNm_0, List.mem_of_getElem? (i := 0) rfl, pEnd [ρ 0, ρ 1, ρ 2, ρ 3, ρ 4, ρ 5, ρ 6] rfl ?_ ?_ ?_ ?_⟩
      · exact hL
      · intro k b hk
        cases hk
      · exact pAll1 (show (0 + (1 * ρ 2 + ((-1) * ρ 5 + 0)) : Int) ≤ 0 by omega) (pAll1 (show (0 + ((-1) * ρ 1 + (1 * ρ 5 + 0)) : Int) ≤ 0 by omega) (pAll1 (show (1 + ((-1) * ρ 1 + (1 * ρ 5 + 0)) : Int) ≤ 0 by omega) (pAll1 (show (1 + ((-1) * ρ 6 + 0) : Int) ≤ 0 by omega) (pAll1 (show ((-33) + (1 * ρ 6 + 0) : Int) ≤ 0 by omega) (pAll1 (show (33 + ((-1) * ρ 6 + 0) : Int) ≤ 0 by omega) (pAll1 (show ((-6) + (1 * ρ 3 + 0) : Int) ≤ 0 by omega) (pAll1 (show (6 + ((-1) * ρ 3 + 0) : Int) ≤ 0 by omega) (pAll1 (show (1 + (1 * ρ 4 + (1 * ρ 5 + 0)) : Int) ≤ 0 by omega) (pAll1 (show ((-1) + ((-1) * ρ 4 + ((-1) * ρ 5 + 0)) : Int) ≤ 0 by omega) (pAll0))))))))))
      · exact pAll0
    · rw [if_neg h2] at er
      refine ⟨rUNm_2, List.mem_of_getElem? (i := 2) rfl, pEnd [ρ 0, ρ 1, ρ 2, ρ 3, ρ 4, ρ 5, ρ 6] rfl ?_ ?_ ?_ ?_⟩
      · exact hL
      · intro k b hk
        cases hk
      · exact pAll1 (show (0 + (1 * ρ 2 + ((-1) * ρ 5 + 0)) : Int) ≤ 0 by omega) (pAll1 (show (0 + ((-1) * ρ 1 + (1 * ρ 5 + 0)) : Int) ≤ 0 by omega) (pAll1 (show (1 + ((-1) * ρ 1 + (1 * ρ 5 + 0)) : Int) ≤ 0 by omega) (pAll1 (show (1 + ((-1) * ρ 6 + 0) : Int) ≤ 0 by omega) (pAll1 (show ((-33) + (1 * ρ 6 + 0) : Int) ≤ 0 by omega) (pAll1 (show (33 + ((-1) * ρ 6 + 0) : Int) ≤ 0 by omega) (pAll1 (show ((-5) + (1 * ρ 3 + 0) : Int) ≤ 0 by omega) (pAll0)))))))
      · exact pAll1 (pgG ho hh 507 5 rfl rfl (d + 1) ((wSk (wN h) (wB h) (p)) + 1) (by omega) (by omega) (show (242 + (241 * ρ 3 + (1 * ρ 5 + 0)) : Int) = _ by omega) (show (0 + (1 * ρ 4 + 0) : Int) = _ by omega)) (pAll0)
  · rw [if_neg h1] at er
    by_cases h3 : (wCh (wN h) (wB h) ((wSk (wN h) (wB h) (p)))) = 40
    · rw [if_pos h3] at er
      have hq := clc (by omega)
      by_cases h2 : 6 ≤ d
      · rw [if_pos h2] at er
        unfold wFl at er
        refine ⟨rUNm_1, List.mem_of_getElem? (i := 1) rfl, pEnd [ρ 0, ρ 1, ρ 2, ρ 3, ρ 4, ρ 5, ρ 6] rfl ?_ ?_ ?_ ?_⟩
        · exact hL
        · intro k b hk
          cases hk
        · exact pAll1 (show (0 + (1 * ρ 2 + ((-1) * ρ 5 + 0)) : Int) ≤ 0 by omega) (pAll1 (show (0 + ((-1) * ρ 1 + (1 * ρ 5 + 0)) : Int) ≤ 0 by omega) (pAll1 (show (1 + ((-1) * ρ 1 + (1 * ρ 5 + 0)) : Int) ≤ 0 by omega) (pAll1 (show (1 + ((-1) * ρ 6 + 0) : Int) ≤ 0 by omega) (pAll1 (show ((-40) + (1 * ρ 6 + 0) : Int) ≤ 0 by omega) (pAll1 (show (40 + ((-1) * ρ 6 + 0) : Int) ≤ 0 by omega) (pAll1 (show ((-6) + (1 * ρ 3 + 0) : Int) ≤ 0 by omega) (pAll1 (show (6 + ((-1) * ρ 3 + 0) : Int) ≤ 0 by omega) (pAll1 (show (1 + (1 * ρ 4 + (1 * ρ 5 + 0)) : Int) ≤ 0 by omega) (pAll1 (show ((-1) + ((-1) * ρ 4 + ((-1) * ρ 5 + 0)) : Int) ≤ 0 by omega) (pAll0))))))))))
        · exact pAll0
      · rw [if_neg h2] at er
        have g := wG_gd (n := wN h) (B := wB h) 10 (d + 1) ((wSk (wN h) (wB h) (p)) + 1) rfl (by omega)
        rcases wBd_el er g with ⟨a1, a2⟩ | ⟨s, a1, a2, a3, a4⟩
        · have := g.1 a1
          refine ⟨rUNm_3, List.mem_of_getElem? (i := 3) rfl, pEnd [ρ 0, ρ 1, ρ 2, ρ 3, ρ 4, ρ 5, ρ 6, (wG (wN h) (wB h) 10 (d + 1) ((wSk (wN h) (wB h) (p)) + 1))] rfl ?_ ?_ ?_ ?_⟩
          · intro j hj
            match j, hj with
            | 0, _ => exact q0.symm
            | 1, _ => exact q1.symm
            | 2, _ => exact q2.symm
            | 3, _ => exact q3.symm
            | 4, _ => exact q4.symm
            | 5, _ => exact q5.symm
            | 6, _ => exact q6.symm
            | k + 7, hj => exact absurd hj (by show ¬ (k + 7 < 7); omega)
          · intro k b hk
            match k, hk with
            | 0, hk => cases hk; exact (show ((-241) : Int) ≤ (wG (wN h) (wB h) 10 (d + 1) ((wSk (wN h) (wB h) (p)) + 1)) ∧ (wG (wN h) (wB h) 10 (d + 1) ((wSk (wN h) (wB h) (p)) + 1)) ≤ ((-1) : Int) by omega)
            | k + 1, hk => cases hk
          · exact pAll1 (show (0 + (1 * ρ 2 + ((-1) * ρ 5 + 0)) : Int) ≤ 0 by omega) (pAll1 (show (0 + ((-1) * ρ 1 + (1 * ρ 5 + 0)) : Int) ≤ 0 by omega) (pAll1 (show (1 + ((-1) * ρ 1 + (1 * ρ 5 + 0)) : Int) ≤ 0 by omega) (pAll1 (show (1 + ((-1) * ρ 6 + 0) : Int) ≤ 0 by omega) (pAll1 (show ((-40) + (1 * ρ 6 + 0) : Int) ≤ 0 by omega) (pAll1 (show (40 + ((-1) * ρ 6 + 0) : Int) ≤ 0 by omega) (pAll1 (show ((-5) + (1 * ρ 3 + 0) : Int) ≤ 0 by omega) (pAll1 (show (0 + (1 * ρ 4 + ((-1) * (wG (wN h) (wB h) 10 (d + 1) ((wSk (wN h) (wB h) (p)) + 1)) + 0)) : Int) ≤ 0 by omega) (pAll1 (show (0 + ((-1) * ρ 4 + (1 * (wG (wN h) (wB h) 10 (d + 1) ((wSk (wN h) (wB h) (p)) + 1)) + 0)) : Int) ≤ 0 by omega) (pAll0)))))))))
          · exact pAll1 (pgG ho hh 512 10 rfl rfl (d + 1) ((wSk (wN h) (wB h) (p)) + 1) (by omega) (by omega) (show (242 + (241 * ρ 3 + (1 * ρ 5 + 0)) : Int) = _ by omega) (show (0 + (1 * (wG (wN h) (wB h) 10 (d + 1) ((wSk (wN h) (wB h) (p)) + 1)) + 0) : Int) = _ by omega)) (pAll0)
        · have a2 : (wSk (wN h) (wB h) (p)) + 1 + 1 ≤ s := a2
          obtain ⟨t1, t2⟩ := wSk_le (B := wB h) a3
          have cs := wCh_bd ho (wSk (wN h) (wB h) (s))
          by_cases h4 : (wCh (wN h) (wB h) ((wSk (wN h) (wB h) (s)))) = 41
          · rw [if_pos h4] at a4
            have := wCh_lt (n := wN h) (B := wB h) (p := (wSk (wN h) (wB h) (s))) (by omega)
            refine ⟨rUNm_4, List.mem_of_getElem? (i := 4) rfl, pEnd [ρ 0, ρ 1, ρ 2, ρ 3, ρ 4, ρ 5, ρ 6, (s : Int), ((wSk (wN h) (wB h) (s)) : Int), (wCh (wN h) (wB h) ((wSk (wN h) (wB h) (s))))] rfl ?_ ?_ ?_ ?_⟩
            · intro j hj
              match j, hj with
              | 0, _ => exact q0.symm
              | 1, _ => exact q1.symm
              | 2, _ => exact q2.symm
              | 3, _ => exact q3.symm
              | 4, _ => exact q4.symm
              | 5, _ => exact q5.symm
              | 6, _ => exact q6.symm
              | k + 7, hj => exact absurd hj (by show ¬ (k + 7 < 7); omega)
            · intro k b hk
              match k, hk with
              | 0, hk => cases hk; exact (show (0 : Int) ≤ (s : Int) ∧ (s : Int) ≤ (240 : Int) by omega)
              | 1, hk => cases hk; exact (show (0 : Int) ≤ ((wSk (wN h) (wB h) (s)) : Int) ∧ ((wSk (wN h) (wB h) (s)) : Int) ≤ (240 : Int) by omega)
              | 2, hk => cases hk; exact (show (41 : Int) ≤ (wCh (wN h) (wB h) ((wSk (wN h) (wB h) (s)))) ∧ (wCh (wN h) (wB h) ((wSk (wN h) (wB h) (s)))) ≤ (41 : Int) by omega)
              | k + 3, hk => cases hk
            · exact pAll1 (show (0 + (1 * ρ 2 + ((-1) * ρ 5 + 0)) : Int) ≤ 0 by omega) (pAll1 (show (0 + ((-1) * ρ 1 + (1 * ρ 5 + 0)) : Int) ≤ 0 by omega) (pAll1 (show (1 + ((-1) * ρ 1 + (1 * ρ 5 + 0)) : Int) ≤ 0 by omega) (pAll1 (show (1 + ((-1) * ρ 6 + 0) : Int) ≤ 0 by omega) (pAll1 (show ((-40) + (1 * ρ 6 + 0) : Int) ≤ 0 by omega) (pAll1 (show (40 + ((-1) * ρ 6 + 0) : Int) ≤ 0 by omega) (pAll1 (show ((-5) + (1 * ρ 3 + 0) : Int) ≤ 0 by omega) (pAll1 (show (0 + (1 * (s : Int) + ((-1) * ((wSk (wN h) (wB h) (s)) : Int) + 0)) : Int) ≤ 0 by omega) (pAll1 (show (1 + ((-1) * ρ 1 + (1 * ((wSk (wN h) (wB h) (s)) : Int) + 0)) : Int) ≤ 0 by omega) (pAll1 (show ((-1) + (1 * ρ 4 + ((-1) * ((wSk (wN h) (wB h) (s)) : Int) + 0)) : Int) ≤ 0 by omega) (pAll1 (show (1 + ((-1) * ρ 4 + (1 * ((wSk (wN h) (wB h) (s)) : Int) + 0)) : Int) ≤ 0 by omega) (pAll0)))))))))))
            · exact pAll1 (pgG ho hh 512 10 rfl rfl (d + 1) ((wSk (wN h) (wB h) (p)) + 1) (by omega) (by omega) (show (242 + (241 * ρ 3 + (1 * ρ 5 + 0)) : Int) = _ by omega) (show (0 + (1 * (s : Int) + 0) : Int) = _ by omega)) (pAll1 (pgS ho hh (s) (by omega) (show (0 + (1 * (s : Int) + 0) : Int) = _ by omega) (show (0 + (1 * ((wSk (wN h) (wB h) (s)) : Int) + 0) : Int) = _ by omega)) (pAll1 (pgC ho hh ((wSk (wN h) (wB h) (s))) (by omega) (show (0 + (1 * ((wSk (wN h) (wB h) (s)) : Int) + 0) : Int) = _ by omega) (show (0 + (1 * (wCh (wN h) (wB h) ((wSk (wN h) (wB h) (s)))) + 0) : Int) = _ by omega)) (pAll0)))
          · rw [if_neg h4] at a4
            unfold wFl at a4
            have hu : (wCh (wN h) (wB h) ((wSk (wN h) (wB h) (s)))) ≤ 40 ∨ 42 ≤ (wCh (wN h) (wB h) ((wSk (wN h) (wB h) (s)))) := by omega
            rcases hu with hu | hu
            · refine ⟨rUNm_5, List.mem_of_getElem? (i := 5) rfl, pEnd [ρ 0, ρ 1, ρ 2, ρ 3, ρ 4, ρ 5, ρ 6, (s : Int), ((wSk (wN h) (wB h) (s)) : Int), (wCh (wN h) (wB h) ((wSk (wN h) (wB h) (s))))] rfl ?_ ?_ ?_ ?_⟩
              · intro j hj
                match j, hj with
                | 0, _ => exact q0.symm
                | 1, _ => exact q1.symm
                | 2, _ => exact q2.symm
                | 3, _ => exact q3.symm
                | 4, _ => exact q4.symm
                | 5, _ => exact q5.symm
                | 6, _ => exact q6.symm
                | k + 7, hj => exact absurd hj (by show ¬ (k + 7 < 7); omega)
              · intro k b hk
                match k, hk with
                | 0, hk => cases hk; exact (show (0 : Int) ≤ (s : Int) ∧ (s : Int) ≤ (240 : Int) by omega)
                | 1, hk => cases hk; exact (show (0 : Int) ≤ ((wSk (wN h) (wB h) (s)) : Int) ∧ ((wSk (wN h) (wB h) (s)) : Int) ≤ (240 : Int) by omega)
                | 2, hk => cases hk; exact (show (0 : Int) ≤ (wCh (wN h) (wB h) ((wSk (wN h) (wB h) (s)))) ∧ (wCh (wN h) (wB h) ((wSk (wN h) (wB h) (s)))) ≤ (40 : Int) by omega)
                | k + 3, hk => cases hk
              · exact pAll1 (show (0 + (1 * ρ 2 + ((-1) * ρ 5 + 0)) : Int) ≤ 0 by omega) (pAll1 (show (0 + ((-1) * ρ 1 + (1 * ρ 5 + 0)) : Int) ≤ 0 by omega) (pAll1 (show (1 + ((-1) * ρ 1 + (1 * ρ 5 + 0)) : Int) ≤ 0 by omega) (pAll1 (show (1 + ((-1) * ρ 6 + 0) : Int) ≤ 0 by omega) (pAll1 (show ((-40) + (1 * ρ 6 + 0) : Int) ≤ 0 by omega) (pAll1 (show (40 + ((-1) * ρ 6 + 0) : Int) ≤ 0 by omega) (pAll1 (show ((-5) + (1 * ρ 3 + 0) : Int) ≤ 0 by omega) (pAll1 (show (0 + (1 * (s : Int) + ((-1) * ((wSk (wN h) (wB h) (s)) : Int) + 0)) : Int) ≤ 0 by omega) (pAll1 (show (0 + ((-1) * ρ 1 + (1 * ((wSk (wN h) (wB h) (s)) : Int) + 0)) : Int) ≤ 0 by omega) (pAll1 (show (1 + (1 * ρ 4 + (1 * ((wSk (wN h) (wB h) (s)) : Int) + 0)) : Int) ≤ 0 by omega) (pAll1 (show ((-1) + ((-1) * ρ 4 + ((-1) * ((wSk (wN h) (wB h) (s)) : Int) + 0)) : Int) ≤ 0 by omega) (pAll0)))))))))))
              · exact pAll1 (pgG ho hh 512 10 rfl rfl (d + 1) ((wSk (wN h) (wB h) (p)) + 1) (by omega) (by omega) (show (242 + (241 * ρ 3 + (1 * ρ 5 + 0)) : Int) = _ by omega) (show (0 + (1 * (s : Int) + 0) : Int) = _ by omega)) (pAll1 (pgS ho hh (s) (by omega) (show (0 + (1 * (s : Int) + 0) : Int) = _ by omega) (show (0 + (1 * ((wSk (wN h) (wB h) (s)) : Int) + 0) : Int) = _ by omega)) (pAll1 (pgC ho hh ((wSk (wN h) (wB h) (s))) (by omega) (show (0 + (1 * ((wSk (wN h) (wB h) (s)) : Int) + 0) : Int) = _ by omega) (show (0 + (1 * (wCh (wN h) (wB h) ((wSk (wN h) (wB h) (s)))) + 0) : Int) = _ by omega)) (pAll0)))
            · refine ⟨rUNm_6, List.mem_of_getElem? (i := 6) rfl, pEnd [ρ 0, ρ 1, ρ 2, ρ 3, ρ 4, ρ 5, ρ 6, (s : Int), ((wSk (wN h) (wB h) (s)) : Int), (wCh (wN h) (wB h) ((wSk (wN h) (wB h) (s))))] rfl ?_ ?_ ?_ ?_⟩
              · intro j hj
                match j, hj with
                | 0, _ => exact q0.symm
                | 1, _ => exact q1.symm
                | 2, _ => exact q2.symm
                | 3, _ => exact q3.symm
                | 4, _ => exact q4.symm
                | 5, _ => exact q5.symm
                | 6, _ => exact q6.symm
                | k + 7, hj => exact absurd hj (by show ¬ (k + 7 < 7); omega)
              · intro k b hk
                match k, hk with
                | 0, hk => cases hk; exact (show (0 : Int) ≤ (s : Int) ∧ (s : Int) ≤ (240 : Int) by omega)
                | 1, hk => cases hk; exact (show (0 : Int) ≤ ((wSk (wN h) (wB h) (s)) : Int) ∧ ((wSk (wN h) (wB h) (s)) : Int) ≤ (240 : Int) by omega)
                | 2, hk => cases hk; exact (show (42 : Int) ≤ (wCh (wN h) (wB h) ((wSk (wN h) (wB h) (s)))) ∧ (wCh (wN h) (wB h) ((wSk (wN h) (wB h) (s)))) ≤ (255 : Int) by omega)
                | k + 3, hk => cases hk
              · exact pAll1 (show (0 + (1 * ρ 2 + ((-1) * ρ 5 + 0)) : Int) ≤ 0 by omega) (pAll1 (show (0 + ((-1) * ρ 1 + (1 * ρ 5 + 0)) : Int) ≤ 0 by omega) (pAll1 (show (1 + ((-1) * ρ 1 + (1 * ρ 5 + 0)) : Int) ≤ 0 by omega) (pAll1 (show (1 + ((-1) * ρ 6 + 0) : Int) ≤ 0 by omega) (pAll1 (show ((-40) + (1 * ρ 6 + 0) : Int) ≤ 0 by omega) (pAll1 (show (40 + ((-1) * ρ 6 + 0) : Int) ≤ 0 by omega) (pAll1 (show ((-5) + (1 * ρ 3 + 0) : Int) ≤ 0 by omega) (pAll1 (show (0 + (1 * (s : Int) + ((-1) * ((wSk (wN h) (wB h) (s)) : Int) + 0)) : Int) ≤ 0 by omega) (pAll1 (show (0 + ((-1) * ρ 1 + (1 * ((wSk (wN h) (wB h) (s)) : Int) + 0)) : Int) ≤ 0 by omega) (pAll1 (show (1 + (1 * ρ 4 + (1 * ((wSk (wN h) (wB h) (s)) : Int) + 0)) : Int) ≤ 0 by omega) (pAll1 (show ((-1) + ((-1) * ρ 4 + ((-1) * ((wSk (wN h) (wB h) (s)) : Int) + 0)) : Int) ≤ 0 by omega) (pAll0)))))))))))
              · exact pAll1 (pgG ho hh 512 10 rfl rfl (d + 1) ((wSk (wN h) (wB h) (p)) + 1) (by omega) (by omega) (show (242 + (241 * ρ 3 + (1 * ρ 5 + 0)) : Int) = _ by omega) (show (0 + (1 * (s : Int) + 0) : Int) = _ by omega)) (pAll1 (pgS ho hh (s) (by omega) (show (0 + (1 * (s : Int) + 0) : Int) = _ by omega) (show (0 + (1 * ((wSk (wN h) (wB h) (s)) : Int) + 0) : Int) = _ by omega)) (pAll1 (pgC ho hh ((wSk (wN h) (wB h) (s))) (by omega) (show (0 + (1 * ((wSk (wN h) (wB h) (s)) : Int) + 0) : Int) = _ by omega) (show (0 + (1 * (wCh (wN h) (wB h) ((wSk (wN h) (wB h) (s)))) + 0) : Int) = _ by omega)) (pAll0)))
    · rw [if_neg h3] at er
      have g := wG_gd (n := wN h) (B := wB h) 3 d (wSk (wN h) (wB h) (p)) rfl s2
      rcases wBd_el er g with ⟨a1, a2⟩ | ⟨s, a1, a2, a3, a4⟩
      · have := g.1 a1
        have hu : (wCh (wN h) (wB h) ((wSk (wN h) (wB h) (p)))) ≤ 32 ∨ (34 ≤ (wCh (wN h) (wB h) ((wSk (wN h) (wB h) (p)))) ∧ (wCh (wN h) (wB h) ((wSk (wN h) (wB h) (p)))) ≤ 39) ∨ 41 ≤ (wCh (wN h) (wB h) ((wSk (wN h) (wB h) (p)))) := by omega
        rcases hu with hu | hu | hu
        · refine ⟨rUNm_7, List.mem_of_getElem? (i := 7) rfl, pEnd [ρ 0, ρ 1, ρ 2, ρ 3, ρ 4, ρ 5, ρ 6, (wG (wN h) (wB h) 3 (d) ((wSk (wN h) (wB h) (p))))] rfl ?_ ?_ ?_ ?_⟩
          · intro j hj
            match j, hj with
            | 0, _ => exact q0.symm
            | 1, _ => exact q1.symm
            | 2, _ => exact q2.symm
            | 3, _ => exact q3.symm
            | 4, _ => exact q4.symm
            | 5, _ => exact q5.symm
            | 6, _ => exact q6.symm
            | k + 7, hj => exact absurd hj (by show ¬ (k + 7 < 7); omega)
          · intro k b hk
            match k, hk with
            | 0, hk => cases hk; exact (show ((-241) : Int) ≤ (wG (wN h) (wB h) 3 (d) ((wSk (wN h) (wB h) (p)))) ∧ (wG (wN h) (wB h) 3 (d) ((wSk (wN h) (wB h) (p)))) ≤ ((-1) : Int) by omega)
            | k + 1, hk => cases hk
          · exact pAll1 (show (0 + (1 * ρ 2 + ((-1) * ρ 5 + 0)) : Int) ≤ 0 by omega) (pAll1 (show (0 + ((-1) * ρ 1 + (1 * ρ 5 + 0)) : Int) ≤ 0 by omega) (pAll1 (show ((-32) + (1 * ρ 6 + 0) : Int) ≤ 0 by omega) (pAll1 (show (0 + (1 * ρ 4 + ((-1) * (wG (wN h) (wB h) 3 (d) ((wSk (wN h) (wB h) (p)))) + 0)) : Int) ≤ 0 by omega) (pAll1 (show (0 + ((-1) * ρ 4 + (1 * (wG (wN h) (wB h) 3 (d) ((wSk (wN h) (wB h) (p)))) + 0)) : Int) ≤ 0 by omega) (pAll0)))))
          · exact pAll1 (pgG ho hh 505 3 rfl rfl (d) ((wSk (wN h) (wB h) (p))) (by omega) (by omega) (show (0 + (241 * ρ 3 + (1 * ρ 5 + 0)) : Int) = _ by omega) (show (0 + (1 * (wG (wN h) (wB h) 3 (d) ((wSk (wN h) (wB h) (p)))) + 0) : Int) = _ by omega)) (pAll0)
        · refine ⟨rUNm_9, List.mem_of_getElem? (i := 9) rfl, pEnd [ρ 0, ρ 1, ρ 2, ρ 3, ρ 4, ρ 5, ρ 6, (wG (wN h) (wB h) 3 (d) ((wSk (wN h) (wB h) (p))))] rfl ?_ ?_ ?_ ?_⟩
          · intro j hj
            match j, hj with
            | 0, _ => exact q0.symm
            | 1, _ => exact q1.symm
            | 2, _ => exact q2.symm
            | 3, _ => exact q3.symm
            | 4, _ => exact q4.symm
            | 5, _ => exact q5.symm
            | 6, _ => exact q6.symm
            | k + 7, hj => exact absurd hj (by show ¬ (k + 7 < 7); omega)
          · intro k b hk
            match k, hk with
            | 0, hk => cases hk; exact (show ((-241) : Int) ≤ (wG (wN h) (wB h) 3 (d) ((wSk (wN h) (wB h) (p)))) ∧ (wG (wN h) (wB h) 3 (d) ((wSk (wN h) (wB h) (p)))) ≤ ((-1) : Int) by omega)
            | k + 1, hk => cases hk
          · exact pAll1 (show (0 + (1 * ρ 2 + ((-1) * ρ 5 + 0)) : Int) ≤ 0 by omega) (pAll1 (show (0 + ((-1) * ρ 1 + (1 * ρ 5 + 0)) : Int) ≤ 0 by omega) (pAll1 (show (34 + ((-1) * ρ 6 + 0) : Int) ≤ 0 by omega) (pAll1 (show ((-39) + (1 * ρ 6 + 0) : Int) ≤ 0 by omega) (pAll1 (show (0 + (1 * ρ 4 + ((-1) * (wG (wN h) (wB h) 3 (d) ((wSk (wN h) (wB h) (p)))) + 0)) : Int) ≤ 0 by omega) (pAll1 (show (0 + ((-1) * ρ 4 + (1 * (wG (wN h) (wB h) 3 (d) ((wSk (wN h) (wB h) (p)))) + 0)) : Int) ≤ 0 by omega) (pAll0))))))
          · exact pAll1 (pgG ho hh 505 3 rfl rfl (d) ((wSk (wN h) (wB h) (p))) (by omega) (by omega) (show (0 + (241 * ρ 3 + (1 * ρ 5 + 0)) : Int) = _ by omega) (show (0 + (1 * (wG (wN h) (wB h) 3 (d) ((wSk (wN h) (wB h) (p)))) + 0) : Int) = _ by omega)) (pAll0)
        · refine ⟨rUNm_11, List.mem_of_getElem? (i := 11) rfl, pEnd [ρ 0, ρ 1, ρ 2, ρ 3, ρ 4, ρ 5, ρ 6, (wG (wN h) (wB h) 3 (d) ((wSk (wN h) (wB h) (p))))] rfl ?_ ?_ ?_ ?_⟩
          · intro j hj
            match j, hj with
            | 0, _ => exact q0.symm
            | 1, _ => exact q1.symm
            | 2, _ => exact q2.symm
            | 3, _ => exact q3.symm
            | 4, _ => exact q4.symm
            | 5, _ => exact q5.symm
            | 6, _ => exact q6.symm
            | k + 7, hj => exact absurd hj (by show ¬ (k + 7 < 7); omega)
          · intro k b hk
            match k, hk with
            | 0, hk => cases hk; exact (show ((-241) : Int) ≤ (wG (wN h) (wB h) 3 (d) ((wSk (wN h) (wB h) (p)))) ∧ (wG (wN h) (wB h) 3 (d) ((wSk (wN h) (wB h) (p)))) ≤ ((-1) : Int) by omega)
            | k + 1, hk => cases hk
          · exact pAll1 (show (0 + (1 * ρ 2 + ((-1) * ρ 5 + 0)) : Int) ≤ 0 by omega) (pAll1 (show (0 + ((-1) * ρ 1 + (1 * ρ 5 + 0)) : Int) ≤ 0 by omega) (pAll1 (show (41 + ((-1) * ρ 6 + 0) : Int) ≤ 0 by omega) (pAll1 (show (0 + (1 * ρ 4 + ((-1) * (wG (wN h) (wB h) 3 (d) ((wSk (wN h) (wB h) (p)))) + 0)) : Int) ≤ 0 by omega) (pAll1 (show (0 + ((-1) * ρ 4 + (1 * (wG (wN h) (wB h) 3 (d) ((wSk (wN h) (wB h) (p)))) + 0)) : Int) ≤ 0 by omega) (pAll0)))))
          · exact pAll1 (pgG ho hh 505 3 rfl rfl (d) ((wSk (wN h) (wB h) (p))) (by omega) (by omega) (show (0 + (241 * ρ 3 + (1 * ρ 5 + 0)) : Int) = _ by omega) (show (0 + (1 * (wG (wN h) (wB h) 3 (d) ((wSk (wN h) (wB h) (p)))) + 0) : Int) = _ by omega)) (pAll0)
      · have a2 : (wSk (wN h) (wB h) (p)) + 1 ≤ s := a2
        have hu : (wCh (wN h) (wB h) ((wSk (wN h) (wB h) (p)))) ≤ 32 ∨ (34 ≤ (wCh (wN h) (wB h) ((wSk (wN h) (wB h) (p)))) ∧ (wCh (wN h) (wB h) ((wSk (wN h) (wB h) (p)))) ≤ 39) ∨ 41 ≤ (wCh (wN h) (wB h) ((wSk (wN h) (wB h) (p)))) := by omega
        rcases hu with hu | hu | hu
        · refine ⟨rUNm_8, List.mem_of_getElem? (i := 8) rfl, pEnd [ρ 0, ρ 1, ρ 2, ρ 3, ρ 4, ρ 5, ρ 6, (s : Int)] rfl ?_ ?_ ?_ ?_⟩
          · intro j hj
            match j, hj with
            | 0, _ => exact q0.symm
            | 1, _ => exact q1.symm
            | 2, _ => exact q2.symm
            | 3, _ => exact q3.symm
            | 4, _ => exact q4.symm
            | 5, _ => exact q5.symm
            | 6, _ => exact q6.symm
            | k + 7, hj => exact absurd hj (by show ¬ (k + 7 < 7); omega)
          · intro k b hk
            match k, hk with
            | 0, hk => cases hk; exact (show (0 : Int) ≤ (s : Int) ∧ (s : Int) ≤ (240 : Int) by omega)
            | k + 1, hk => cases hk
          · exact pAll1 (show (0 + (1 * ρ 2 + ((-1) * ρ 5 + 0)) : Int) ≤ 0 by omega) (pAll1 (show (0 + ((-1) * ρ 1 + (1 * ρ 5 + 0)) : Int) ≤ 0 by omega) (pAll1 (show ((-32) + (1 * ρ 6 + 0) : Int) ≤ 0 by omega) (pAll1 (show (1 + (1 * ρ 5 + ((-1) * (s : Int) + 0)) : Int) ≤ 0 by omega) (pAll1 (show (0 + ((-1) * ρ 1 + (1 * (s : Int) + 0)) : Int) ≤ 0 by omega) (pAll0)))))
          · exact pAll1 (pgG ho hh 505 3 rfl rfl (d) ((wSk (wN h) (wB h) (p))) (by omega) (by omega) (show (0 + (241 * ρ 3 + (1 * ρ 5 + 0)) : Int) = _ by omega) (show (0 + (1 * (s : Int) + 0) : Int) = _ by omega)) (pAll1 (pgG ho hh 508 6 rfl rfl (d) (s) (by omega) (by omega) (show (0 + (241 * ρ 3 + (1 * (s : Int) + 0)) : Int) = _ by omega) (show (0 + (1 * ρ 4 + 0) : Int) = _ by omega)) (pAll0))
        · refine ⟨rUNm_10, List.mem_of_getElem? (i := 10) rfl, pEnd [ρ 0, ρ 1, ρ 2, ρ 3, ρ 4, ρ 5, ρ 6, (s : Int)] rfl ?_ ?_ ?_ ?_⟩
          · intro j hj
            match j, hj with
            | 0, _ => exact q0.symm
            | 1, _ => exact q1.symm
            | 2, _ => exact q2.symm
            | 3, _ => exact q3.symm
            | 4, _ => exact q4.symm
            | 5, _ => exact q5.symm
            | 6, _ => exact q6.symm
            | k + 7, hj => exact absurd hj (by show ¬ (k + 7 < 7); omega)
          · intro k b hk
            match k, hk with
            | 0, hk => cases hk; exact (show (0 : Int) ≤ (s : Int) ∧ (s : Int) ≤ (240 : Int) by omega)
            | k + 1, hk => cases hk
          · exact pAll1 (show (0 + (1 * ρ 2 + ((-1) * ρ 5 + 0)) : Int) ≤ 0 by omega) (pAll1 (show (0 + ((-1) * ρ 1 + (1 * ρ 5 + 0)) : Int) ≤ 0 by omega) (pAll1 (show (34 + ((-1) * ρ 6 + 0) : Int) ≤ 0 by omega) (pAll1 (show ((-39) + (1 * ρ 6 + 0) : Int) ≤ 0 by omega) (pAll1 (show (1 + (1 * ρ 5 + ((-1) * (s : Int) + 0)) : Int) ≤ 0 by omega) (pAll1 (show (0 + ((-1) * ρ 1 + (1 * (s : Int) + 0)) : Int) ≤ 0 by omega) (pAll0))))))
          · exact pAll1 (pgG ho hh 505 3 rfl rfl (d) ((wSk (wN h) (wB h) (p))) (by omega) (by omega) (show (0 + (241 * ρ 3 + (1 * ρ 5 + 0)) : Int) = _ by omega) (show (0 + (1 * (s : Int) + 0) : Int) = _ by omega)) (pAll1 (pgG ho hh 508 6 rfl rfl (d) (s) (by omega) (by omega) (show (0 + (241 * ρ 3 + (1 * (s : Int) + 0)) : Int) = _ by omega) (show (0 + (1 * ρ 4 + 0) : Int) = _ by omega)) (pAll0))
        · refine ⟨rUNm_12, List.mem_of_getElem? (i := 12) rfl, pEnd [ρ 0, ρ 1, ρ 2, ρ 3, ρ 4, ρ 5, ρ 6, (s : Int)] rfl ?_ ?_ ?_ ?_⟩
          · intro j hj
            match j, hj with
            | 0, _ => exact q0.symm
            | 1, _ => exact q1.symm
            | 2, _ => exact q2.symm
            | 3, _ => exact q3.symm
            | 4, _ => exact q4.symm
            | 5, _ => exact q5.symm
            | 6, _ => exact q6.symm
            | k + 7, hj => exact absurd hj (by show ¬ (k + 7 < 7); omega)
          · intro k b hk
            match k, hk with
            | 0, hk => cases hk; exact (show (0 : Int) ≤ (s : Int) ∧ (s : Int) ≤ (240 : Int) by omega)
            | k + 1, hk => cases hk
          · exact pAll1 (show (0 + (1 * ρ 2 + ((-1) * ρ 5 + 0)) : Int) ≤ 0 by omega) (pAll1 (show (0 + ((-1) * ρ 1 + (1 * ρ 5 + 0)) : Int) ≤ 0 by omega) (pAll1 (show (41 + ((-1) * ρ 6 + 0) : Int) ≤ 0 by omega) (pAll1 (show (1 + (1 * ρ 5 + ((-1) * (s : Int) + 0)) : Int) ≤ 0 by omega) (pAll1 (show (0 + ((-1) * ρ 1 + (1 * (s : Int) + 0)) : Int) ≤ 0 by omega) (pAll0)))))
          · exact pAll1 (pgG ho hh 505 3 rfl rfl (d) ((wSk (wN h) (wB h) (p))) (by omega) (by omega) (show (0 + (241 * ρ 3 + (1 * ρ 5 + 0)) : Int) = _ by omega) (show (0 + (1 * (s : Int) + 0) : Int) = _ by omega)) (pAll1 (pgG ho hh 508 6 rfl rfl (d) (s) (by omega) (by omega) (show (0 + (241 * ρ 3 + (1 * (s : Int) + 0)) : Int) = _ by omega) (show (0 + (1 * ρ 4 + 0) : Int) = _ by omega)) (pAll0))
noncomputable def rCMm_0 : sX := (none, [(505, (1, [(3, 241), (5, 1)]), (0, [(4, 1)]))], [], [(0, [(2, 1), (5, (-1))]), (0, [(1, (-1)), (5, 1)]), (1, [(1, (-1)), (5, 1)]), (1, [(6, (-1))]), (60, [(6, (-1))]), ((-62), [(6, 1)])], [])
noncomputable def rCMm_1 : sX := (none, [], [], [(0, [(2, 1), (5, (-1))]), (0, [(1, (-1)), (5, 1)]), ((-59), [(6, 1)]), (1, [(4, 1), (5, 1)]), ((-1), [(4, (-1)), (5, (-1))])], [])
noncomputable def rCMm_2 : sX := (none, [], [], [(0, [(2, 1), (5, (-1))]), (0, [(1, (-1)), (5, 1)]), (63, [(6, (-1))]), (1, [(4, 1), (5, 1)]), ((-1), [(4, (-1)), (5, (-1))])], [])
noncomputable def rCMm : sQ := (0, ([], [(2, 1013, (0, [])), (2, 120, (2, [])), (2, 120, (3, [])), (2, 120, (5, [])), (2, 508, (0, [(2, 1), (3, 241)])), (2, 500, (0, [(2, 1)])), (2, 501, (0, [(5, 1)]))], [(1, 1), (0, 240), (0, 240), (0, 6), ((-241), 240), (0, 240), (0, 255)], [(0, [(1, (-1)), (2, 1)])], [(0, 0), (1, 1), (2, 2), (3, 3), (4, 4), (5, 5), (6, 6)], (0, [])), [rCMm_0, rCMm_1, rCMm_2], [], 0)
theorem rCMm_ok : pRul pReg pG pgv rCMm := by
  intro loc h ρ ρ0 hG hM
  have hM : sMt pReg pgv ρ ρ0 (sAs rCMm.2.1) loc [] h := hM
  have q0 : ρ0 1 = ρ 0 := (hM.2.2.2.2.2 (1, sY 0) (List.mem_of_getElem? (i := 1) rfl)).trans (sY_v ρ 0)
  have q1 : ρ0 2 = ρ 1 := (hM.2.2.2.2.2 (2, sY 1) (List.mem_of_getElem? (i := 2) rfl)).trans (sY_v ρ 1)
  have q2 : ρ0 3 = ρ 2 := (hM.2.2.2.2.2 (3, sY 2) (List.mem_of_getElem? (i := 3) rfl)).trans (sY_v ρ 2)
  have q3 : ρ0 4 = ρ 3 := (hM.2.2.2.2.2 (4, sY 3) (List.mem_of_getElem? (i := 4) rfl)).trans (sY_v ρ 3)
  have q4 : ρ0 5 = ρ 4 := (hM.2.2.2.2.2 (5, sY 4) (List.mem_of_getElem? (i := 5) rfl)).trans (sY_v ρ 4)
  have q5 : ρ0 6 = ρ 5 := (hM.2.2.2.2.2 (6, sY 5) (List.mem_of_getElem? (i := 6) rfl)).trans (sY_v ρ 5)
  have q6 : ρ0 7 = ρ 6 := (hM.2.2.2.2.2 (7, sY 6) (List.mem_of_getElem? (i := 7) rfl)).trans (sY_v ρ 6)
  have hL : ∀ j, j < 7 → pL [ρ 0, ρ 1, ρ 2, ρ 3, ρ 4, ρ 5, ρ 6] j = ρ0 (j + 1) := by
    intro j hj
    match j, hj with
    | 0, _ => exact q0.symm
    | 1, _ => exact q1.symm
    | 2, _ => exact q2.symm
    | 3, _ => exact q3.symm
    | 4, _ => exact q4.symm
    | 5, _ => exact q5.symm
    | 6, _ => exact q6.symm
    | k + 7, hj => omega
  have b0 : (1 : Int) ≤ ρ 0 ∧ ρ 0 ≤ 1 := hM.2.2.2.1 0 (1, 1) rfl
  have b1 : (0 : Int) ≤ ρ 1 ∧ ρ 1 ≤ 240 := hM.2.2.2.1 1 (0, 240) rfl
  have b2 : (0 : Int) ≤ ρ 2 ∧ ρ 2 ≤ 240 := hM.2.2.2.1 2 (0, 240) rfl
  have b3 : (0 : Int) ≤ ρ 3 ∧ ρ 3 ≤ 6 := hM.2.2.2.1 3 (0, 6) rfl
  have b4 : ((-241) : Int) ≤ ρ 4 ∧ ρ 4 ≤ 240 := hM.2.2.2.1 4 ((-241), 240) rfl
  have b5 : (0 : Int) ≤ ρ 5 ∧ ρ 5 ≤ 240 := hM.2.2.2.1 5 (0, 240) rfl
  have b6 : (0 : Int) ≤ ρ 6 ∧ ρ 6 ≤ 255 := hM.2.2.2.1 6 (0, 255) rfl
  have c0 : (0 + ((-1) * ρ 1 + (1 * ρ 2 + 0)) : Int) ≤ 0 := hM.2.2.2.2.1 (0, [(1, (-1)), (2, 1)]) (List.mem_of_getElem? (i := 0) rfl)
  obtain ⟨ho, hs, hh⟩ := pTold13 hM 0 (0, []) rfl b0.1
  have hn := ho.1
  have en : ρ 1 = (wN h : Int) := (pPl hM 1 120 (2, []) rfl (by omega) 440 2 (by decide +kernel) rfl).symm.trans hs.1
  obtain ⟨p, ep⟩ : ∃ p : Nat, ρ 2 = (p : Int) := ⟨(ρ 2).toNat, by omega⟩
  have hp : p ≤ wN h := by omega
  obtain ⟨s1, s2⟩ := wSk_le (B := wB h) hp
  obtain ⟨d, ed⟩ : ∃ d : Nat, ρ 3 = (d : Int) := ⟨(ρ 3).toNat, by omega⟩
  have er : ρ 4 = (wG (wN h) (wB h) 6 (d) (p)) := pfG hM ho hh 4 508 6 (0, [(2, 1), (3, 241)]) rfl rfl rfl (d := d) (p := p) (by omega) (by omega) (by show (0 + (1 * ρ 2 + (241 * ρ 3 + 0)) : Int) = _; omega)
  have eq : ρ 5 = ((wSk (wN h) (wB h) (p)) : Int) := pfS hM ho hh 5 (0, [(2, 1)]) rfl (p := p) (by omega) (by show (0 + (1 * ρ 2 + 0) : Int) = _; omega)
  have ec : ρ 6 = (wCh (wN h) (wB h) ((wSk (wN h) (wB h) (p)))) := pfC hM ho hh 6 (0, [(5, 1)]) rfl (p := (wSk (wN h) (wB h) (p))) (by omega) (by show (0 + (1 * ρ 5 + 0) : Int) = _; omega)
  have cbc := wCh_bd ho ((wSk (wN h) (wB h) (p)))
  have clc : (wCh (wN h) (wB h) ((wSk (wN h) (wB h) (p)))) ≠ 0 → (wSk (wN h) (wB h) (p)) < wN h := wCh_lt
  rw [wE_CM hp] at er
  by_cases h1 : 60 ≤ (wCh (wN h) (wB h) ((wSk (wN h) (wB h) (p)))) ∧ (wCh (wN h) (wB h) ((wSk (wN h) (wB h) (p)))) ≤ 62
  · rw [if_pos h1] at er
    have hq := clc (by omega)
    refine ⟨rCMm_0, List.mem_of_getElem? (i := 0) rfl, pEnd [ρ 0, ρ 1, ρ 2, ρ 3, ρ 4, ρ 5, ρ 6] rfl ?_ ?_ ?_ ?_⟩
    · exact hL
    · intro k b hk
      cases hk
    · exact pAll1 (show (0 + (1 * ρ 2 + ((-1) * ρ 5 + 0)) : Int) ≤ 0 by omega) (pAll1 (show (0 + ((-1) * ρ 1 + (1 * ρ 5 + 0)) : Int) ≤ 0 by omega) (pAll1 (show (1 + ((-1) * ρ 1 + (1 * ρ 5 + 0)) : Int) ≤ 0 by omega) (pAll1 (show (1 + ((-1) * ρ 6 + 0) : Int) ≤ 0 by omega) (pAll1 (show (60 + ((-1) * ρ 6 + 0) : Int) ≤ 0 by omega) (pAll1 (show ((-62) + (1 * ρ 6 + 0) : Int) ≤ 0 by omega) (pAll0))))))
    · exact pAll1 (pgG ho hh 505 3 rfl rfl (d) ((wSk (wN h) (wB h) (p)) + 1) (by omega) (by omega) (show (1 + (241 * ρ 3 + (1 * ρ 5 + 0)) : Int) = _ by omega) (show (0 + (1 * ρ 4 + 0) : Int) = _ by omega)) (pAll0)
  · rw [if_neg h1] at er
    unfold wFl at er
    have hu : (wCh (wN h) (wB h) ((wSk (wN h) (wB h) (p)))) ≤ 59 ∨ 63 ≤ (wCh (wN h) (wB h) ((wSk (wN h) (wB h) (p)))) := by omega
    rcases hu with hu | hu
    · refine ⟨rCMm_1, List.mem_of_getElem? (i := 1) rfl, pEnd [ρ 0, ρ 1, ρ 2, ρ 3, ρ 4, ρ 5, ρ 6] rfl ?_ ?_ ?_ ?_⟩
      · exact hL
      · intro k b hk
        cases hk
      · exact pAll1 (show (0 + (1 * ρ 2 + ((-1) * ρ 5 + 0)) : Int) ≤ 0 by omega) (pAll1 (show (0 + ((-1) * ρ 1 + (1 * ρ 5 + 0)) : Int) ≤ 0 by omega) (pAll1 (show ((-59) + (1 * ρ 6 + 0) : Int) ≤ 0 by omega) (pAll1 (show (1 + (1 * ρ 4 + (1 * ρ 5 + 0)) : Int) ≤ 0 by omega) (pAll1 (show ((-1) + ((-1) * ρ 4 + ((-1) * ρ 5 + 0)) : Int) ≤ 0 by omega) (pAll0)))))
      · exact pAll0
    · refine ⟨rCMm_2, List.mem_of_getElem? (i := 2) rfl, pEnd [ρ 0, ρ 1, ρ 2, ρ 3, ρ 4, ρ 5, ρ 6] rfl ?_ ?_ ?_ ?_⟩
      · exact hL
      · intro k b hk
        cases hk
      · exact pAll1 (show (0 + (1 * ρ 2 + ((-1) * ρ 5 + 0)) : Int) ≤ 0 by omega) (pAll1 (show (0 + ((-1) * ρ 1 + (1 * ρ 5 + 0)) : Int) ≤ 0 by omega) (pAll1 (show (63 + ((-1) * ρ 6 + 0) : Int) ≤ 0 by omega) (pAll1 (show (1 + (1 * ρ 4 + (1 * ρ 5 + 0)) : Int) ≤ 0 by omega) (pAll1 (show ((-1) + ((-1) * ρ 4 + ((-1) * ρ 5 + 0)) : Int) ≤ 0 by omega) (pAll0)))))
      · exact pAll0
noncomputable def rCLm_0 : sX := (none, [], [], [(0, [(2, 1), (4, (-1))]), (0, [(1, (-1)), (4, 1)]), ((-120), [(5, 1)]), (1, [(3, 1), (4, 1)]), ((-1), [(3, (-1)), (4, (-1))])], [])
noncomputable def rCLm_1 : sX := (none, [], [], [(0, [(2, 1), (4, (-1))]), (0, [(1, (-1)), (4, 1)]), (122, [(5, (-1))]), (1, [(3, 1), (4, 1)]), ((-1), [(3, (-1)), (4, (-1))])], [])
noncomputable def rCLm_2 : sX := (none, [(500, (1, [(4, 1)]), (0, [(6, 1)])), (501, (0, [(6, 1)]), (0, [(7, 1)])), (519, (1, [(6, 1)]), (0, [(3, 1)]))], [(0, 240), (58, 58)], [(0, [(2, 1), (4, (-1))]), (0, [(1, (-1)), (4, 1)]), (1, [(1, (-1)), (4, 1)]), (1, [(5, (-1))]), ((-121), [(5, 1)]), (121, [(5, (-1))]), (1, [(4, 1), (6, (-1))]), (1, [(1, (-1)), (6, 1)])], [])
noncomputable def rCLm_3 : sX := (none, [(500, (1, [(4, 1)]), (0, [(6, 1)])), (501, (0, [(6, 1)]), (0, [(7, 1)]))], [(0, 240), (0, 57)], [(0, [(2, 1), (4, (-1))]), (0, [(1, (-1)), (4, 1)]), (1, [(1, (-1)), (4, 1)]), (1, [(5, (-1))]), ((-121), [(5, 1)]), (121, [(5, (-1))]), (1, [(4, 1), (6, (-1))]), (0, [(1, (-1)), (6, 1)]), (1, [(3, 1), (6, 1)]), ((-1), [(3, (-1)), (6, (-1))])], [])
noncomputable def rCLm_4 : sX := (none, [(500, (1, [(4, 1)]), (0, [(6, 1)])), (501, (0, [(6, 1)]), (0, [(7, 1)]))], [(0, 240), (59, 255)], [(0, [(2, 1), (4, (-1))]), (0, [(1, (-1)), (4, 1)]), (1, [(1, (-1)), (4, 1)]), (1, [(5, (-1))]), ((-121), [(5, 1)]), (121, [(5, (-1))]), (1, [(4, 1), (6, (-1))]), (0, [(1, (-1)), (6, 1)]), (1, [(3, 1), (6, 1)]), ((-1), [(3, (-1)), (6, (-1))])], [])
noncomputable def rCLm : sQ := (0, ([], [(2, 1013, (0, [])), (2, 120, (2, [])), (2, 120, (3, [])), (2, 513, (0, [(2, 1)])), (2, 500, (0, [(2, 1)])), (2, 501, (0, [(4, 1)]))], [(1, 1), (0, 240), (0, 240), ((-241), 240), (0, 240), (0, 255)], [(0, [(1, (-1)), (2, 1)])], [(0, 0), (1, 1), (2, 2), (3, 3), (4, 4), (5, 5)], (0, [])), [rCLm_0, rCLm_1, rCLm_2, rCLm_3, rCLm_4], [], 0)
theorem rCLm_ok : pRul pReg pG pgv rCLm := by
  intro loc h ρ ρ0 hG hM
  have hM : sMt pReg pgv ρ ρ0 (sAs rCLm.2.1) loc [] h := hM
  have q0 : ρ0 1 = ρ 0 := (hM.2.2.2.2.2 (1, sY 0) (List.mem_of_getElem? (i := 1) rfl)).trans (sY_v ρ 0)
  have q1 : ρ0 2 = ρ 1 := (hM.2.2.2.2.2 (2, sY 1) (List.mem_of_getElem? (i := 2) rfl)).trans (sY_v ρ 1)
  have q2 : ρ0 3 = ρ 2 := (hM.2.2.2.2.2 (3, sY 2) (List.mem_of_getElem? (i := 3) rfl)).trans (sY_v ρ 2)
  have q3 : ρ0 4 = ρ 3 := (hM.2.2.2.2.2 (4, sY 3) (List.mem_of_getElem? (i := 4) rfl)).trans (sY_v ρ 3)
  have q4 : ρ0 5 = ρ 4 := (hM.2.2.2.2.2 (5, sY 4) (List.mem_of_getElem? (i := 5) rfl)).trans (sY_v ρ 4)
  have q5 : ρ0 6 = ρ 5 := (hM.2.2.2.2.2 (6, sY 5) (List.mem_of_getElem? (i := 6) rfl)).trans (sY_v ρ 5)
  have hL : ∀ j, j < 6 → pL [ρ 0, ρ 1, ρ 2, ρ 3, ρ 4, ρ 5] j = ρ0 (j + 1) := by
    intro j hj
    match j, hj with
    | 0, _ => exact q0.symm
    | 1, _ => exact q1.symm
    | 2, _ => exact q2.symm
    | 3, _ => exact q3.symm
    | 4, _ => exact q4.symm
    | 5, _ => exact q5.symm
    | k + 6, hj => omega
  have b0 : (1 : Int) ≤ ρ 0 ∧ ρ 0 ≤ 1 := hM.2.2.2.1 0 (1, 1) rfl
  have b1 : (0 : Int) ≤ ρ 1 ∧ ρ 1 ≤ 240 := hM.2.2.2.1 1 (0, 240) rfl
  have b2 : (0 : Int) ≤ ρ 2 ∧ ρ 2 ≤ 240 := hM.2.2.2.1 2 (0, 240) rfl
  have b3 : ((-241) : Int) ≤ ρ 3 ∧ ρ 3 ≤ 240 := hM.2.2.2.1 3 ((-241), 240) rfl
  have b4 : (0 : Int) ≤ ρ 4 ∧ ρ 4 ≤ 240 := hM.2.2.2.1 4 (0, 240) rfl
  have b5 : (0 : Int) ≤ ρ 5 ∧ ρ 5 ≤ 255 := hM.2.2.2.1 5 (0, 255) rfl
  have c0 : (0 + ((-1) * ρ 1 + (1 * ρ 2 + 0)) : Int) ≤ 0 := hM.2.2.2.2.1 (0, [(1, (-1)), (2, 1)]) (List.mem_of_getElem? (i := 0) rfl)
  obtain ⟨ho, hs, hh⟩ := pTold13 hM 0 (0, []) rfl b0.1
  have hn := ho.1
  have en : ρ 1 = (wN h : Int) := (pPl hM 1 120 (2, []) rfl (by omega) 440 2 (by decide +kernel) rfl).symm.trans hs.1
  obtain ⟨p, ep⟩ : ∃ p : Nat, ρ 2 = (p : Int) := ⟨(ρ 2).toNat, by omega⟩
  have hp : p ≤ wN h := by omega
  obtain ⟨s1, s2⟩ := wSk_le (B := wB h) hp
  have er : ρ 3 = (wG (wN h) (wB h) 11 (0) (p)) := pfG hM ho hh 3 513 11 (0, [(2, 1)]) rfl rfl rfl (d := 0) (p := p) (by omega) (by omega) (by show (0 + (1 * ρ 2 + 0) : Int) = _; omega)
  have eq : ρ 4 = ((wSk (wN h) (wB h) (p)) : Int) := pfS hM ho hh 4 (0, [(2, 1)]) rfl (p := p) (by omega) (by show (0 + (1 * ρ 2 + 0) : Int) = _; omega)
  have ec : ρ 5 = (wCh (wN h) (wB h) ((wSk (wN h) (wB h) (p)))) := pfC hM ho hh 5 (0, [(4, 1)]) rfl (p := (wSk (wN h) (wB h) (p))) (by omega) (by show (0 + (1 * ρ 4 + 0) : Int) = _; omega)
  have cbc := wCh_bd ho ((wSk (wN h) (wB h) (p)))
  have clc : (wCh (wN h) (wB h) ((wSk (wN h) (wB h) (p)))) ≠ 0 → (wSk (wN h) (wB h) (p)) < wN h := wCh_lt
  rw [wE_CL hp] at er
  by_cases h1 : (wCh (wN h) (wB h) ((wSk (wN h) (wB h) (p)))) = 121
  · rw [if_pos h1] at er
    have hq := clc (by omega)
    obtain ⟨t1, t2⟩ := wSk_le (n := wN h) (B := wB h) (p := (wSk (wN h) (wB h) (p)) + 1) (by omega)
    have cs := wCh_bd ho (wSk (wN h) (wB h) ((wSk (wN h) (wB h) (p)) + 1))
    by_cases h2 : (wCh (wN h) (wB h) ((wSk (wN h) (wB h) ((wSk (wN h) (wB h) (p)) + 1)))) = 58
    · rw [if_pos h2] at er
      have := wCh_lt (n := wN h) (B := wB h) (p := (wSk (wN h) (wB h) ((wSk (wN h) (wB h) (p)) + 1))) (by omega)
      refine ⟨rCLm_2, List.mem_of_getElem? (i := 2) rfl, pEnd [ρ 0, ρ 1, ρ 2, ρ 3, ρ 4, ρ 5, ((wSk (wN h) (wB h) ((wSk (wN h) (wB h) (p)) + 1)) : Int), (wCh (wN h) (wB h) ((wSk (wN h) (wB h) ((wSk (wN h) (wB h) (p)) + 1))))] rfl ?_ ?_ ?_ ?_⟩
      · intro j hj
        match j, hj with
        | 0, _ => exact q0.symm
        | 1, _ => exact q1.symm
        | 2, _ => exact q2.symm
        | 3, _ => exact q3.symm
        | 4, _ => exact q4.symm
        | 5, _ => exact q5.symm
        | k + 6, hj => exact absurd hj (by show ¬ (k + 6 < 6); omega)
      · intro k b hk
        match k, hk with
        | 0, hk => cases hk; exact (show (0 : Int) ≤ ((wSk (wN h) (wB h) ((wSk (wN h) (wB h) (p)) + 1)) : Int) ∧ ((wSk (wN h) (wB h) ((wSk (wN h) (wB h) (p)) + 1)) : Int) ≤ (240 : Int) by omega)
        | 1, hk => cases hk; exact (show (58 : Int) ≤ (wCh (wN h) (wB h) ((wSk (wN h) (wB h) ((wSk (wN h) (wB h) (p)) + 1)))) ∧ (wCh (wN h) (wB h) ((wSk (wN h) (wB h) ((wSk (wN h) (wB h) (p)) + 1)))) ≤ (58 : Int) by omega)
        | k + 2, hk => cases hk
      · exact pAll1 (show (0 + (1 * ρ 2 + ((-1) * ρ 4 + 0)) : Int) ≤ 0 by omega) (pAll1 (show (0 + ((-1) * ρ 1 + (1 * ρ 4 + 0)) : Int) ≤ 0 by omega) (pAll1 (show (1 + ((-1) * ρ 1 + (1 * ρ 4 + 0)) : Int) ≤ 0 by omega) (pAll1 (show (1 + ((-1) * ρ 5 + 0) : Int) ≤ 0 by omega) (pAll1 (show ((-121) + (1 * ρ 5 + 0) : Int) ≤ 0 by omega) (pAll1 (show (121 + ((-1) * ρ 5 + 0) : Int) ≤ 0 by omega) (pAll1 (show (1 + (1 * ρ 4 + ((-1) * ((wSk (wN h) (wB h) ((wSk (wN h) (wB h) (p)) + 1)) : Int) + 0)) : Int) ≤ 0 by omega) (pAll1 (show (1 + ((-1) * ρ 1 + (1 * ((wSk (wN h) (wB h) ((wSk (wN h) (wB h) (p)) + 1)) : Int) + 0)) : Int) ≤ 0 by omega) (pAll0))))))))
      · exact pAll1 (pgS ho hh ((wSk (wN h) (wB h) (p)) + 1) (by omega) (show (1 + (1 * ρ 4 + 0) : Int) = _ by omega) (show (0 + (1 * ((wSk (wN h) (wB h) ((wSk (wN h) (wB h) (p)) + 1)) : Int) + 0) : Int) = _ by omega)) (pAll1 (pgC ho hh ((wSk (wN h) (wB h) ((wSk (wN h) (wB h) (p)) + 1))) (by omega) (show (0 + (1 * ((wSk (wN h) (wB h) ((wSk (wN h) (wB h) (p)) + 1)) : Int) + 0) : Int) = _ by omega) (show (0 + (1 * (wCh (wN h) (wB h) ((wSk (wN h) (wB h) ((wSk (wN h) (wB h) (p)) + 1)))) + 0) : Int) = _ by omega)) (pAll1 (pgG ho hh 519 17 rfl rfl (0) ((wSk (wN h) (wB h) ((wSk (wN h) (wB h) (p)) + 1)) + 1) (by omega) (by omega) (show (1 + (1 * ((wSk (wN h) (wB h) ((wSk (wN h) (wB h) (p)) + 1)) : Int) + 0) : Int) = _ by omega) (show (0 + (1 * ρ 3 + 0) : Int) = _ by omega)) (pAll0)))
    · rw [if_neg h2] at er
      unfold wFl at er
      have hu : (wCh (wN h) (wB h) ((wSk (wN h) (wB h) ((wSk (wN h) (wB h) (p)) + 1)))) ≤ 57 ∨ 59 ≤ (wCh (wN h) (wB h) ((wSk (wN h) (wB h) ((wSk (wN h) (wB h) (p)) + 1)))) := by omega
      rcases hu with hu | hu
      · refine ⟨rCLm_3, List.mem_of_getElem? (i := 3) rfl, pEnd [ρ 0, ρ 1, ρ 2, ρ 3, ρ 4, ρ 5, ((wSk (wN h) (wB h) ((wSk (wN h) (wB h) (p)) + 1)) : Int), (wCh (wN h) (wB h) ((wSk (wN h) (wB h) ((wSk (wN h) (wB h) (p)) + 1))))] rfl ?_ ?_ ?_ ?_⟩
        · intro j hj
          match j, hj with
          | 0, _ => exact q0.symm
          | 1, _ => exact q1.symm
          | 2, _ => exact q2.symm
          | 3, _ => exact q3.symm
          | 4, _ => exact q4.symm
          | 5, _ => exact q5.symm
          | k + 6, hj => exact absurd hj (by show ¬ (k + 6 < 6); omega)
        · intro k b hk
          match k, hk with
          | 0, hk => cases hk; exact (show (0 : Int) ≤ ((wSk (wN h) (wB h) ((wSk (wN h) (wB h) (p)) + 1)) : Int) ∧ ((wSk (wN h) (wB h) ((wSk (wN h) (wB h) (p)) + 1)) : Int) ≤ (240 : Int) by omega)
          | 1, hk => cases hk; exact (show (0 : Int) ≤ (wCh (wN h) (wB h) ((wSk (wN h) (wB h) ((wSk (wN h) (wB h) (p)) + 1)))) ∧ (wCh (wN h) (wB h) ((wSk (wN h) (wB h) ((wSk (wN h) (wB h) (p)) + 1)))) ≤ (57 : Int) by omega)
          | k + 2, hk => cases hk
        · exact pAll1 (show (0 + (1 * ρ 2 + ((-1) * ρ 4 + 0)) : Int) ≤ 0 by omega) (pAll1 (show (0 + ((-1) * ρ 1 + (1 * ρ 4 + 0)) : Int) ≤ 0 by omega) (pAll1 (show (1 + ((-1) * ρ 1 + (1 * ρ 4 + 0)) : Int) ≤ 0 by omega) (pAll1 (show (1 + ((-1) * ρ 5 + 0) : Int) ≤ 0 by omega) (pAll1 (show ((-121) + (1 * ρ 5 + 0) : Int) ≤ 0 by omega) (pAll1 (show (121 + ((-1) * ρ 5 + 0) : Int) ≤ 0 by omega) (pAll1 (show (1 + (1 * ρ 4 + ((-1) * ((wSk (wN h) (wB h) ((wSk (wN h) (wB h) (p)) + 1)) : Int) + 0)) : Int) ≤ 0 by omega) (pAll1 (show (0 + ((-1) * ρ 1 + (1 * ((wSk (wN h) (wB h) ((wSk (wN h) (wB h) (p)) + 1)) : Int) + 0)) : Int) ≤ 0 by omega) (pAll1 (show (1 + (1 * ρ 3 + (1 * ((wSk (wN h) (wB h) ((wSk (wN h) (wB h) (p)) + 1)) : Int) + 0)) : Int) ≤ 0 by omega) (pAll1 (show ((-1) + ((-1) * ρ 3 + ((-1) * ((wSk (wN h) (wB h) ((wSk (wN h) (wB h) (p)) + 1)) : Int) + 0)) : Int) ≤ 0 by omega) (pAll0))))))))))
        · exact pAll1 (pgS ho hh ((wSk (wN h) (wB h) (p)) + 1) (by omega) (show (1 + (1 * ρ 4 + 0) : Int) = _ by omega) (show (0 + (1 * ((wSk (wN h) (wB h) ((wSk (wN h) (wB h) (p)) + 1)) : Int) + 0) : Int) = _ by omega)) (pAll1 (pgC ho hh ((wSk (wN h) (wB h) ((wSk (wN h) (wB h) (p)) + 1))) (by omega) (show (0 + (1 * ((wSk (wN h) (wB h) ((wSk (wN h) (wB h) (p)) + 1)) : Int) + 0) : Int) = _ by omega) (show (0 + (1 * (wCh (wN h) (wB h) ((wSk (wN h) (wB h) ((wSk (wN h) (wB h) (p)) + 1)))) + 0) : Int) = _ by omega)) (pAll0))
      · refine ⟨rCLm_4, List.mem_of_getElem? (i := 4) rfl, pEnd [ρ 0, ρ 1, ρ 2, ρ 3, ρ 4, ρ 5, ((wSk (wN h) (wB h) ((wSk (wN h) (wB h) (p)) + 1)) : Int), (wCh (wN h) (wB h) ((wSk (wN h) (wB h) ((wSk (wN h) (wB h) (p)) + 1))))] rfl ?_ ?_ ?_ ?_⟩
        · intro j hj
          match j, hj with
          | 0, _ => exact q0.symm
          | 1, _ => exact q1.symm
          | 2, _ => exact q2.symm
          | 3, _ => exact q3.symm
          | 4, _ => exact q4.symm
          | 5, _ => exact q5.symm
          | k + 6, hj => exact absurd hj (by show ¬ (k + 6 < 6); omega)
        · intro k b hk
          match k, hk with
          | 0, hk => cases hk; exact (show (0 : Int) ≤ ((wSk (wN h) (wB h) ((wSk (wN h) (wB h) (p)) + 1)) : Int) ∧ ((wSk (wN h) (wB h) ((wSk (wN h) (wB h) (p)) + 1)) : Int) ≤ (240 : Int) by omega)
          | 1, hk => cases hk; exact (show (59 : Int) ≤ (wCh (wN h) (wB h) ((wSk (wN h) (wB h) ((wSk (wN h) (wB h) (p)) + 1)))) ∧ (wCh (wN h) (wB h) ((wSk (wN h) (wB h) ((wSk (wN h) (wB h) (p)) + 1)))) ≤ (255 : Int) by omega)
          | k + 2, hk => cases hk
        · exact pAll1 (show (0 + (1 * ρ 2 + ((-1) * ρ 4 + 0)) : Int) ≤ 0 by omega) (pAll1 (show (0 + ((-1) * ρ 1 + (1 * ρ 4 + 0)) : Int) ≤ 0 by omega) (pAll1 (show (1 + ((-1) * ρ 1 + (1 * ρ 4 + 0)) : Int) ≤ 0 by omega) (pAll1 (show (1 + ((-1) * ρ 5 + 0) : Int) ≤ 0 by omega) (pAll1 (show ((-121) + (1 * ρ 5 + 0) : Int) ≤ 0 by omega) (pAll1 (show (121 + ((-1) * ρ 5 + 0) : Int) ≤ 0 by omega) (pAll1 (show (1 + (1 * ρ 4 + ((-1) * ((wSk (wN h) (wB h) ((wSk (wN h) (wB h) (p)) + 1)) : Int) + 0)) : Int) ≤ 0 by omega) (pAll1 (show (0 + ((-1) * ρ 1 + (1 * ((wSk (wN h) (wB h) ((wSk (wN h) (wB h) (p)) + 1)) : Int) + 0)) : Int) ≤ 0 by omega) (pAll1 (show (1 + (1 * ρ 3 + (1 * ((wSk (wN h) (wB h) ((wSk (wN h) (wB h) (p)) + 1)) : Int) + 0)) : Int) ≤ 0 by omega) (pAll1 (show ((-1) + ((-1) * ρ 3 + ((-1) * ((wSk (wN h) (wB h) ((wSk (wN h) (wB h) (p)) + 1)) : Int) + 0)) : Int) ≤ 0 by omega) (pAll0))))))))))
        · exact pAll1 (pgS ho hh ((wSk (wN h) (wB h) (p)) + 1) (by omega) (show (1 + (1 * ρ 4 + 0) : Int) = _ by omega) (show (0 + (1 * ((wSk (wN h) (wB h) ((wSk (wN h) (wB h) (p)) + 1)) : Int) + 0) : Int) = _ by omega)) (pAll1 (pgC ho hh ((wSk (wN h) (wB h) ((wSk (wN h) (wB h) (p)) + 1))) (by omega) (show (0 + (1 * ((wSk (wN h) (wB h) ((wSk (wN h) (wB h) (p)) + 1)) : Int) + 0) : Int) = _ by omega) (show (0 + (1 * (wCh (wN h) (wB h) ((wSk (wN h) (wB h) ((wSk (wN h) (wB h) (p)) + 1)))) + 0) : Int) = _ by omega)) (pAll0))
  · rw [if_neg h1] at er
    unfold wFl at er
    have hu : (wCh (wN h) (wB h) ((wSk (wN h) (wB h) (p)))) ≤ 120 ∨ 122 ≤ (wCh (wN h) (wB h) ((wSk (wN h) (wB h) (p)))) := by omega
    rcases hu with hu | hu
    · refine ⟨rCLm_0, List.mem_of_getElem? (i := 0) rfl, pEnd [ρ 0, ρ 1, ρ 2, ρ 3, ρ 4, ρ 5] rfl ?_ ?_ ?_ ?_⟩
      · exact hL
      · intro k b hk
        cases hk
      · exact pAll1 (show (0 + (1 * ρ 2 + ((-1) * ρ 4 + 0)) : Int) ≤ 0 by omega) (pAll1 (show (0 + ((-1) * ρ 1 + (1 * ρ 4 + 0)) : Int) ≤ 0 by omega) (pAll1 (show ((-120) + (1 * ρ 5 + 0) : Int) ≤ 0 by omega) (pAll1 (show (1 + (1 * ρ 3 + (1 * ρ 4 + 0)) : Int) ≤ 0 by omega) (pAll1 (show ((-1) + ((-1) * ρ 3 + ((-1) * ρ 4 + 0)) : Int) ≤ 0 by omega) (pAll0)))))
      · exact pAll0
    · refine ⟨rCLm_1, List.mem_of_getElem? (i := 1) rfl, pEnd [ρ 0, ρ 1, ρ 2, ρ 3, ρ 4, ρ 5] rfl ?_ ?_ ?_ ?_⟩
      · exact hL
      · intro k b hk
        cases hk
      · exact pAll1 (show (0 + (1 * ρ 2 + ((-1) * ρ 4 + 0)) : Int) ≤ 0 by omega) (pAll1 (show (0 + ((-1) * ρ 1 + (1 * ρ 4 + 0)) : Int) ≤ 0 by omega) (pAll1 (show (122 + ((-1) * ρ 5 + 0) : Int) ≤ 0 by omega) (pAll1 (show (1 + (1 * ρ 3 + (1 * ρ 4 + 0)) : Int) ≤ 0 by omega) (pAll1 (show ((-1) + ((-1) * ρ 3 + ((-1) * ρ 4 + 0)) : Int) ≤ 0 by omega) (pAll0)))))
      · exact pAll0
noncomputable def rC2m_0 : sX := (none, [(505, (1, [(4, 1)]), (0, [(3, 1)]))], [], [(0, [(2, 1), (4, (-1))]), (0, [(1, (-1)), (4, 1)]), (1, [(1, (-1)), (4, 1)]), (1, [(5, (-1))]), ((-63), [(5, 1)]), (63, [(5, (-1))])], [])
noncomputable def rC2m_1 : sX := (none, [], [], [(0, [(2, 1), (4, (-1))]), (0, [(1, (-1)), (4, 1)]), ((-62), [(5, 1)]), (1, [(3, 1), (4, 1)]), ((-1), [(3, (-1)), (4, (-1))])], [])
noncomputable def rC2m_2 : sX := (none, [], [], [(0, [(2, 1), (4, (-1))]), (0, [(1, (-1)), (4, 1)]), (64, [(5, (-1))]), (1, [(3, 1), (4, 1)]), ((-1), [(3, (-1)), (4, (-1))])], [])
noncomputable def rC2m : sQ := (0, ([], [(2, 1013, (0, [])), (2, 120, (2, [])), (2, 120, (3, [])), (2, 520, (0, [(2, 1)])), (2, 500, (0, [(2, 1)])), (2, 501, (0, [(4, 1)]))], [(1, 1), (0, 240), (0, 240), ((-241), 240), (0, 240), (0, 255)], [(0, [(1, (-1)), (2, 1)])], [(0, 0), (1, 1), (2, 2), (3, 3), (4, 4), (5, 5)], (0, [])), [rC2m_0, rC2m_1, rC2m_2], [], 0)
theorem rC2m_ok : pRul pReg pG pgv rC2m := by
  intro loc h ρ ρ0 hG hM
  have hM : sMt pReg pgv ρ ρ0 (sAs rC2m.2.1) loc [] h := hM
  have q0 : ρ0 1 = ρ 0 := (hM.2.2.2.2.2 (1, sY 0) (List.mem_of_getElem? (i := 1) rfl)).trans (sY_v ρ 0)
  have q1 : ρ0 2 = ρ 1 := (hM.2.2.2.2.2 (2, sY 1) (List.mem_of_getElem? (i := 2) rfl)).trans (sY_v ρ 1)
  have q2 : ρ0 3 = ρ 2 := (hM.2.2.2.2.2 (3, sY 2) (List.mem_of_getElem? (i := 3) rfl)).trans (sY_v ρ 2)
  have q3 : ρ0 4 = ρ 3 := (hM.2.2.2.2.2 (4, sY 3) (List.mem_of_getElem? (i := 4) rfl)).trans (sY_v ρ 3)
  have q4 : ρ0 5 = ρ 4 := (hM.2.2.2.2.2 (5, sY 4) (List.mem_of_getElem? (i := 5) rfl)).trans (sY_v ρ 4)
  have q5 : ρ0 6 = ρ 5 := (hM.2.2.2.2.2 (6, sY 5) (List.mem_of_getElem? (i := 6) rfl)).trans (sY_v ρ 5)
  have hL : ∀ j, j < 6 → pL [ρ 0, ρ 1, ρ 2, ρ 3, ρ 4, ρ 5] j = ρ0 (j + 1) := by
    intro j hj
    match j, hj with
    | 0, _ => exact q0.symm
    | 1, _ => exact q1.symm
    | 2, _ => exact q2.symm
    | 3, _ => exact q3.symm
    | 4, _ => exact q4.symm
    | 5, _ => exact q5.symm
    | k + 6, hj => omega
  have b0 : (1 : Int) ≤ ρ 0 ∧ ρ 0 ≤ 1 := hM.2.2.2.1 0 (1, 1) rfl
  have b1 : (0 : Int) ≤ ρ 1 ∧ ρ 1 ≤ 240 := hM.2.2.2.1 1 (0, 240) rfl
  have b2 : (0 : Int) ≤ ρ 2 ∧ ρ 2 ≤ 240 := hM.2.2.2.1 2 (0, 240) rfl
  have b3 : ((-241) : Int) ≤ ρ 3 ∧ ρ 3 ≤ 240 := hM.2.2.2.1 3 ((-241), 240) rfl
  have b4 : (0 : Int) ≤ ρ 4 ∧ ρ 4 ≤ 240 := hM.2.2.2.1 4 (0, 240) rfl
  have b5 : (0 : Int) ≤ ρ 5 ∧ ρ 5 ≤ 255 := hM.2.2.2.1 5 (0, 255) rfl
  have c0 : (0 + ((-1) * ρ 1 + (1 * ρ 2 + 0)) : Int) ≤ 0 := hM.2.2.2.2.1 (0, [(1, (-1)), (2, 1)]) (List.mem_of_getElem? (i := 0) rfl)
  obtain ⟨ho, hs, hh⟩ := pTold13 hM 0 (0, []) rfl b0.1
  have hn := ho.1
  have en : ρ 1 = (wN h : Int) := (pPl hM 1 120 (2, []) rfl (by omega) 440 2 (by decide +kernel) rfl).symm.trans hs.1
  obtain ⟨p, ep⟩ : ∃ p : Nat, ρ 2 = (p : Int) := ⟨(ρ 2).toNat, by omega⟩
  have hp : p ≤ wN h := by omega
  obtain ⟨s1, s2⟩ := wSk_le (B := wB h) hp
  have er : ρ 3 = (wG (wN h) (wB h) 18 (0) (p)) := pfG hM ho hh 3 520 18 (0, [(2, 1)]) rfl rfl rfl (d := 0) (p := p) (by omega) (by omega) (by show (0 + (1 * ρ 2 + 0) : Int) = _; omega)
  have eq : ρ 4 = ((wSk (wN h) (wB h) (p)) : Int) := pfS hM ho hh 4 (0, [(2, 1)]) rfl (p := p) (by omega) (by show (0 + (1 * ρ 2 + 0) : Int) = _; omega)
  have ec : ρ 5 = (wCh (wN h) (wB h) ((wSk (wN h) (wB h) (p)))) := pfC hM ho hh 5 (0, [(4, 1)]) rfl (p := (wSk (wN h) (wB h) (p))) (by omega) (by show (0 + (1 * ρ 4 + 0) : Int) = _; omega)
  have cbc := wCh_bd ho ((wSk (wN h) (wB h) (p)))
  have clc : (wCh (wN h) (wB h) ((wSk (wN h) (wB h) (p)))) ≠ 0 → (wSk (wN h) (wB h) (p)) < wN h := wCh_lt
  rw [wE_C2 hp] at er
  by_cases h1 : (wCh (wN h) (wB h) ((wSk (wN h) (wB h) (p)))) = 63
  · rw [if_pos h1] at er
    have hq := clc (by omega)
    refine ⟨rC2m_0, List.mem_of_getElem? (i := 0) rfl, pEnd [ρ 0, ρ 1, ρ 2, ρ 3, ρ 4, ρ 5] rfl ?_ ?_ ?_ ?_⟩
    · exact hL
    · intro k b hk
      cases hk
    · exact pAll1 (show (0 + (1 * ρ 2 + ((-1) * ρ 4 + 0)) : Int) ≤ 0 by omega) (pAll1 (show (0 + ((-1) * ρ 1 + (1 * ρ 4 + 0)) : Int) ≤ 0 by omega) (pAll1 (show (1 + ((-1) * ρ 1 + (1 * ρ 4 + 0)) : Int) ≤ 0 by omega) (pAll1 (show (1 + ((-1) * ρ 5 + 0) : Int) ≤ 0 by omega) (pAll1 (show ((-63) + (1 * ρ 5 + 0) : Int) ≤ 0 by omega) (pAll1 (show (63 + ((-1) * ρ 5 + 0) : Int) ≤ 0 by omega) (pAll0))))))
    · exact pAll1 (pgG ho hh 505 3 rfl rfl (0) ((wSk (wN h) (wB h) (p)) + 1) (by omega) (by omega) (show (1 + (1 * ρ 4 + 0) : Int) = _ by omega) (show (0 + (1 * ρ 3 + 0) : Int) = _ by omega)) (pAll0)
  · rw [if_neg h1] at er
    unfold wFl at er
    have hu : (wCh (wN h) (wB h) ((wSk (wN h) (wB h) (p)))) ≤ 62 ∨ 64 ≤ (wCh (wN h) (wB h) ((wSk (wN h) (wB h) (p)))) := by omega
    rcases hu with hu | hu
    · refine ⟨rC2m_1, List.mem_of_getElem? (i := 1) rfl, pEnd [ρ 0, ρ 1, ρ 2, ρ 3, ρ 4, ρ 5] rfl ?_ ?_ ?_ ?_⟩
      · exact hL
      · intro k b hk
        cases hk
      · exact pAll1 (show (0 + (1 * ρ 2 + ((-1) * ρ 4 + 0)) : Int) ≤ 0 by omega) (pAll1 (show (0 + ((-1) * ρ 1 + (1 * ρ 4 + 0)) : Int) ≤ 0 by omega) (pAll1 (show ((-62) + (1 * ρ 5 + 0) : Int) ≤ 0 by omega) (pAll1 (show (1 + (1 * ρ 3 + (1 * ρ 4 + 0)) : Int) ≤ 0 by omega) (pAll1 (show ((-1) + ((-1) * ρ 3 + ((-1) * ρ 4 + 0)) : Int) ≤ 0 by omega) (pAll0)))))
      · exact pAll0
    · refine ⟨rC2m_2, List.mem_of_getElem? (i := 2) rfl, pEnd [ρ 0, ρ 1, ρ 2, ρ 3, ρ 4, ρ 5] rfl ?_ ?_ ?_ ?_⟩
      · exact hL
      · intro k b hk
        cases hk
      · exact pAll1 (show (0 + (1 * ρ 2 + ((-1) * ρ 4 + 0)) : Int) ≤ 0 by omega) (pAll1 (show (0 + ((-1) * ρ 1 + (1 * ρ 4 + 0)) : Int) ≤ 0 by omega) (pAll1 (show (64 + ((-1) * ρ 5 + 0) : Int) ≤ 0 by omega) (pAll1 (show (1 + (1 * ρ 3 + (1 * ρ 4 + 0)) : Int) ≤ 0 by omega) (pAll1 (show ((-1) + ((-1) * ρ 3 + ((-1) * ρ 4 + 0)) : Int) ≤ 0 by omega) (pAll0)))))
      · exact pAll0
noncomputable def rC1m_0 : sX := (none, [(512, (0, [(4, 1)]), (0, [(6, 1)]))], [((-241), (-1))], [(0, [(2, 1), (4, (-1))]), (0, [(1, (-1)), (4, 1)]), (1, [(1, (-1)), (4, 1)]), (1, [(5, (-1))]), ((-33), [(5, 1)]), (33, [(5, (-1))]), (0, [(3, 1), (6, (-1))]), (0, [(3, (-1)), (6, 1)])], [])
noncomputable def rC1m_1 : sX := (none, [(512, (0, [(4, 1)]), (0, [(6, 1)])), (520, (0, [(6, 1)]), (0, [(3, 1)]))], [(0, 240)], [(0, [(2, 1), (4, (-1))]), (0, [(1, (-1)), (4, 1)]), (1, [(1, (-1)), (4, 1)]), (1, [(5, (-1))]), ((-33), [(5, 1)]), (33, [(5, (-1))]), (1, [(4, 1), (6, (-1))]), (0, [(1, (-1)), (6, 1)])], [])
noncomputable def rC1m_2 : sX := (none, [(512, (0, [(4, 1)]), (0, [(6, 1)]))], [((-241), (-1))], [(0, [(2, 1), (4, (-1))]), (0, [(1, (-1)), (4, 1)]), (1, [(1, (-1)), (4, 1)]), (1, [(5, (-1))]), ((-40), [(5, 1)]), (40, [(5, (-1))]), (0, [(3, 1), (6, (-1))]), (0, [(3, (-1)), (6, 1)])], [])
noncomputable def rC1m_3 : sX := (none, [(512, (0, [(4, 1)]), (0, [(6, 1)])), (520, (0, [(6, 1)]), (0, [(3, 1)]))], [(0, 240)], [(0, [(2, 1), (4, (-1))]), (0, [(1, (-1)), (4, 1)]), (1, [(1, (-1)), (4, 1)]), (1, [(5, (-1))]), ((-40), [(5, 1)]), (40, [(5, (-1))]), (1, [(4, 1), (6, (-1))]), (0, [(1, (-1)), (6, 1)])], [])
noncomputable def rC1m_4 : sX := (none, [(505, (0, [(4, 1)]), (0, [(6, 1)]))], [((-241), (-1))], [(0, [(2, 1), (4, (-1))]), (0, [(1, (-1)), (4, 1)]), ((-32), [(5, 1)]), (0, [(3, 1), (6, (-1))]), (0, [(3, (-1)), (6, 1)])], [])
noncomputable def rC1m_5 : sX := (none, [(505, (0, [(4, 1)]), (0, [(6, 1)])), (500, (0, [(6, 1)]), (0, [(7, 1)])), (501, (0, [(7, 1)]), (0, [(8, 1)]))], [(0, 240), (0, 240), (0, 59)], [(0, [(2, 1), (4, (-1))]), (0, [(1, (-1)), (4, 1)]), ((-32), [(5, 1)]), (1, [(4, 1), (6, (-1))]), (0, [(6, 1), (7, (-1))]), (0, [(1, (-1)), (7, 1)]), (0, [(3, 1), (7, (-1))]), (0, [(3, (-1)), (7, 1)])], [])
noncomputable def rC1m_6 : sX := (none, [(505, (0, [(4, 1)]), (0, [(6, 1)])), (500, (0, [(6, 1)]), (0, [(7, 1)])), (501, (0, [(7, 1)]), (0, [(8, 1)]))], [(0, 240), (0, 240), (63, 255)], [(0, [(2, 1), (4, (-1))]), (0, [(1, (-1)), (4, 1)]), ((-32), [(5, 1)]), (1, [(4, 1), (6, (-1))]), (0, [(6, 1), (7, (-1))]), (0, [(1, (-1)), (7, 1)]), (0, [(3, 1), (7, (-1))]), (0, [(3, (-1)), (7, 1)])], [])
noncomputable def rC1m_7 : sX := (none, [(505, (0, [(4, 1)]), (0, [(6, 1)])), (500, (0, [(6, 1)]), (0, [(7, 1)])), (501, (0, [(7, 1)]), (0, [(8, 1)])), (518, (0, [(7, 1)]), (0, [(9, 1)]))], [(0, 240), (0, 240), (60, 62), ((-241), (-1))], [(0, [(2, 1), (4, (-1))]), (0, [(1, (-1)), (4, 1)]), ((-32), [(5, 1)]), (1, [(4, 1), (6, (-1))]), (0, [(6, 1), (7, (-1))]), (0, [(1, (-1)), (7, 1)]), (1, [(1, (-1)), (7, 1)]), (0, [(3, 1), (9, (-1))]), (0, [(3, (-1)), (9, 1)])], [])
noncomputable def rC1m_8 : sX := (none, [(505, (0, [(4, 1)]), (0, [(6, 1)])), (500, (0, [(6, 1)]), (0, [(7, 1)])), (501, (0, [(7, 1)]), (0, [(8, 1)])), (518, (0, [(7, 1)]), (0, [(9, 1)])), (520, (0, [(9, 1)]), (0, [(3, 1)]))], [(0, 240), (0, 240), (60, 62), (0, 240)], [(0, [(2, 1), (4, (-1))]), (0, [(1, (-1)), (4, 1)]), ((-32), [(5, 1)]), (1, [(4, 1), (6, (-1))]), (0, [(6, 1), (7, (-1))]), (0, [(1, (-1)), (7, 1)]), (1, [(1, (-1)), (7, 1)]), (1, [(7, 1), (9, (-1))]), (0, [(1, (-1)), (9, 1)])], [])
noncomputable def rC1m_9 : sX := (none, [(505, (0, [(4, 1)]), (0, [(6, 1)]))], [((-241), (-1))], [(0, [(2, 1), (4, (-1))]), (0, [(1, (-1)), (4, 1)]), (34, [(5, (-1))]), ((-39), [(5, 1)]), (0, [(3, 1), (6, (-1))]), (0, [(3, (-1)), (6, 1)])], [])
noncomputable def rC1m_10 : sX := (none, [(505, (0, [(4, 1)]), (0, [(6, 1)])), (500, (0, [(6, 1)]), (0, [(7, 1)])), (501, (0, [(7, 1)]), (0, [(8, 1)]))], [(0, 240), (0, 240), (0, 59)], [(0, [(2, 1), (4, (-1))]), (0, [(1, (-1)), (4, 1)]), (34, [(5, (-1))]), ((-39), [(5, 1)]), (1, [(4, 1), (6, (-1))]), (0, [(6, 1), (7, (-1))]), (0, [(1, (-1)), (7, 1)]), (0, [(3, 1), (7, (-1))]), (0, [(3, (-1)), (7, 1)])], [])
noncomputable def rC1m_11 : sX := (none, [(505, (0, [(4, 1)]), (0, [(6, 1)])), (500, (0, [(6, 1)]), (0, [(7, 1)])), (501, (0, [(7, 1)]), (0, [(8, 1)]))], [(0, 240), (0, 240), (63, 255)], [(0, [(2, 1), (4, (-1))]), (0, [(1, (-1)), (4, 1)]), (34, [(5, (-1))]), ((-39), [(5, 1)]), (1, [(4, 1), (6, (-1))]), (0, [(6, 1), (7, (-1))]), (0, [(1, (-1)), (7, 1)]), (0, [(3, 1), (7, (-1))]), (0, [(3, (-1)), (7, 1)])], [])
noncomputable def rC1m_12 : sX := (none, [(505, (0, [(4, 1)]), (0, [(6, 1)])), (500, (0, [(6, 1)]), (0, [(7, 1)])), (501, (0, [(7, 1)]), (0, [(8, 1)])), (518, (0, [(7, 1)]), (0, [(9, 1)]))], [(0, 240), (0, 240), (60, 62), ((-241), (-1))], [(0, [(2, 1), (4, (-1))]), (0, [(1, (-1)), (4, 1)]), (34, [(5, (-1))]), ((-39), [(5, 1)]), (1, [(4, 1), (6, (-1))]), (0, [(6, 1), (7, (-1))]), (0, [(1, (-1)), (7, 1)]), (1, [(1, (-1)), (7, 1)]), (0, [(3, 1), (9, (-1))]), (0, [(3, (-1)), (9, 1)])], [])
noncomputable def rC1m_13 : sX := (none, [(505, (0, [(4, 1)]), (0, [(6, 1)])), (500, (0, [(6, 1)]), (0, [(7, 1)])), (501, (0, [(7, 1)]), (0, [(8, 1)])), (518, (0, [(7, 1)]), (0, [(9, 1)])), (520, (0, [(9, 1)]), (0, [(3, 1)]))], [(0, 240), (0, 240), (60, 62), (0, 240)], [(0, [(2, 1), (4, (-1))]), (0, [(1, (-1)), (4, 1)]), (34, [(5, (-1))]), ((-39), [(5, 1)]), (1, [(4, 1), (6, (-1))]), (0, [(6, 1), (7, (-1))]), (0, [(1, (-1)), (7, 1)]), (1, [(1, (-1)), (7, 1)]), (1, [(7, 1), (9, (-1))]), (0, [(1, (-1)), (9, 1)])], [])
noncomputable def rC1m_14 : sX := (none, [(505, (0, [(4, 1)]), (0, [(6, 1)]))], [((-241), (-1))], [(0, [(2, 1), (4, (-1))]), (0, [(1, (-1)), (4, 1)]), (41, [(5, (-1))]), (0, [(3, 1), (6, (-1))]), (0, [(3, (-1)), (6, 1)])], [])
noncomputable def rC1m_15 : sX := (none, [(505, (0, [(4, 1)]), (0, [(6, 1)])), (500, (0, [(6, 1)]), (0, [(7, 1)])), (501, (0, [(7, 1)]), (0, [(8, 1)]))], [(0, 240), (0, 240), (0, 59)], [(0, [(2, 1), (4, (-1))]), (0, [(1, (-1)), (4, 1)]), (41, [(5, (-1))]), (1, [(4, 1), (6, (-1))]), (0, [(6, 1), (7, (-1))]), (0, [(1, (-1)), (7, 1)]), (0, [(3, 1), (7, (-1))]), (0, [(3, (-1)), (7, 1)])], [])
noncomputable def rC1m_16 : sX := (none, [(505, (0, [(4, 1)]), (0, [(6, 1)])), (500, (0, [(6, 1)]), (0, [(7, 1)])), (501, (0, [(7, 1)]), (0, [(8, 1)]))], [(0, 240), (0, 240), (63, 255)], [(0, [(2, 1), (4, (-1))]), (0, [(1, (-1)), (4, 1)]), (41, [(5, (-1))]), (1, [(4, 1), (6, (-1))]), (0, [(6, 1), (7, (-1))]), (0, [(1, (-1)), (7, 1)]), (0, [(3, 1), (7, (-1))]), (0, [(3, (-1)), (7, 1)])], [])
noncomputable def rC1m_17 : sX := (none, [(505, (0, [(4, 1)]), (0, [(6, 1)])), (500, (0, [(6, 1)]), (0, [(7, 1)])), (501, (0, [(7, 1)]), (0, [(8, 1)])), (518, (0, [(7, 1)]), (0, [(9, 1)]))], [(0, 240), (0, 240), (60, 62), ((-241), (-1))], [(0, [(2, 1), (4, (-1))]), (0, [(1, (-1)), (4, 1)]), (41, [(5, (-1))]), (1, [(4, 1), (6, (-1))]), (0, [(6, 1), (7, (-1))]), (0, [(1, (-1)), (7, 1)]), (1, [(1, (-1)), (7, 1)]), (0, [(3, 1), (9, (-1))]), (0, [(3, (-1)), (9, 1)])], [])
noncomputable def rC1m_18 : sX := (none, [(505, (0, [(4, 1)]), (0, [(6, 1)])), (500, (0, [(6, 1)]), (0, [(7, 1)])), (501, (0, [(7, 1)]), (0, [(8, 1)])), (518, (0, [(7, 1)]), (0, [(9, 1)])), (520, (0, [(9, 1)]), (0, [(3, 1)]))], [(0, 240), (0, 240), (60, 62), (0, 240)], [(0, [(2, 1), (4, (-1))]), (0, [(1, (-1)), (4, 1)]), (41, [(5, (-1))]), (1, [(4, 1), (6, (-1))]), (0, [(6, 1), (7, (-1))]), (0, [(1, (-1)), (7, 1)]), (1, [(1, (-1)), (7, 1)]), (1, [(7, 1), (9, (-1))]), (0, [(1, (-1)), (9, 1)])], [])
noncomputable def rC1m : sQ := (0, ([], [(2, 1013, (0, [])), (2, 120, (2, [])), (2, 120, (3, [])), (2, 519, (0, [(2, 1)])), (2, 500, (0, [(2, 1)])), (2, 501, (0, [(4, 1)]))], [(1, 1), (0, 240), (0, 240), ((-241), 240), (0, 240), (0, 255)], [(0, [(1, (-1)), (2, 1)])], [(0, 0), (1, 1), (2, 2), (3, 3), (4, 4), (5, 5)], (0, [])), [rC1m_0, rC1m_1, rC1m_2, rC1m_3, rC1m_4, rC1m_5, rC1m_6, rC1m_7, rC1m_8, rC1m_9, rC1m_10, rC1m_11, rC1m_12, rC1m_13, rC1m_14, rC1m_15, rC1m_16, rC1m_17, rC1m_18], [], 0)
theorem rC1m_ok : pRul pReg pG pgv rC1m := by
  intro loc h ρ ρ0 hG hM
  have hM : sMt pReg pgv ρ ρ0 (sAs rC1m.2.1) loc [] h := hM
  have q0 : ρ0 1 = ρ 0 := (hM.2.2.2.2.2 (1, sY 0) (List.mem_of_getElem? (i := 1) rfl)).trans (sY_v ρ 0)
  have q1 : ρ0 2 = ρ 1 := (hM.2.2.2.2.2 (2, sY 1) (List.mem_of_getElem? (i := 2) rfl)).trans (sY_v ρ 1)
  have q2 : ρ0 3 = ρ 2 := (hM.2.2.2.2.2 (3, sY 2) (List.mem_of_getElem? (i := 3) rfl)).trans (sY_v ρ 2)
  have q3 : ρ0 4 = ρ 3 := (hM.2.2.2.2.2 (4, sY 3) (List.mem_of_getElem? (i := 4) rfl)).trans (sY_v ρ 3)
  have q4 : ρ0 5 = ρ 4 := (hM.2.2.2.2.2 (5, sY 4) (List.mem_of_getElem? (i := 5) rfl)).trans (sY_v ρ 4)
  have q5 : ρ0 6 = ρ 5 := (hM.2.2.2.2.2 (6, sY 5) (List.mem_of_getElem? (i := 6) rfl)).trans (sY_v ρ 5)
  have hL : ∀ j, j < 6 → pL [ρ 0, ρ 1, ρ 2, ρ 3, ρ 4, ρ 5] j = ρ0 (j + 1) := by
    intro j hj
    match j, hj with
    | 0, _ => exact q0.symm
    | 1, _ => exact q1.symm
    | 2, _ => exact q2.symm
    | 3, _ => exact q3.symm
    | 4, _ => exact q4.symm
    | 5, _ => exact q5.symm
    | k + 6, hj => omega
  have b0 : (1 : Int) ≤ ρ 0 ∧ ρ 0 ≤ 1 := hM.2.2.2.1 0 (1, 1) rfl
  have b1 : (0 : Int) ≤ ρ 1 ∧ ρ 1 ≤ 240 := hM.2.2.2.1 1 (0, 240) rfl
  have b2 : (0 : Int) ≤ ρ 2 ∧ ρ 2 ≤ 240 := hM.2.2.2.1 2 (0, 240) rfl
  have b3 : ((-241) : Int) ≤ ρ 3 ∧ ρ 3 ≤ 240 := hM.2.2.2.1 3 ((-241), 240) rfl
  have b4 : (0 : Int) ≤ ρ 4 ∧ ρ 4 ≤ 240 := hM.2.2.2.1 4 (0, 240) rfl
  have b5 : (0 : Int) ≤ ρ 5 ∧ ρ 5 ≤ 255 := hM.2.2.2.1 5 (0, 255) rfl
  have c0 : (0 + ((-1) * ρ 1 + (1 * ρ 2 + 0)) : Int) ≤ 0 := hM.2.2.2.2.1 (0, [(1, (-1)), (2, 1)]) (List.mem_of_getElem? (i := 0) rfl)
  obtain ⟨ho, hs, hh⟩ := pTold13 hM 0 (0, []) rfl b0.1
  have hn := ho.1
  have en : ρ 1 = (wN h : Int) := (pPl hM 1 120 (2, []) rfl (by omega) 440 2 (by decide +kernel) rfl).symm.trans hs.1
  obtain ⟨p, ep⟩ : ∃ p : Nat, ρ 2 = (p : Int) := ⟨(ρ 2).toNat, by omega⟩
  have hp : p ≤ wN h := by omega
  obtain ⟨s1, s2⟩ := wSk_le (B := wB h) hp
  have er : ρ 3 = (wG (wN h) (wB h) 17 (0) (p)) := pfG hM ho hh 3 519 17 (0, [(2, 1)]) rfl rfl rfl (d := 0) (p := p) (by omega) (by omega) (by show (0 + (1 * ρ 2 + 0) : Int) = _; omega)
  have eq : ρ 4 = ((wSk (wN h) (wB h) (p)) : Int) := pfS hM ho hh 4 (0, [(2, 1)]) rfl (p := p) (by omega) (by show (0 + (1 * ρ 2 + 0) : Int) = _; omega)
  have ec : ρ 5 = (wCh (wN h) (wB h) ((wSk (wN h) (wB h) (p)))) := pfC hM ho hh 5 (0, [(4, 1)]) rfl (p := (wSk (wN h) (wB h) (p))) (by omega) (by show (0 + (1 * ρ 4 + 0) : Int) = _; omega)
  have cbc := wCh_bd ho ((wSk (wN h) (wB h) (p)))
  have clc : (wCh (wN h) (wB h) ((wSk (wN h) (wB h) (p)))) ≠ 0 → (wSk (wN h) (wB h) (p)) < wN h := wCh_lt
  rw [wE_C1 hp] at er
  by_cases h1 : (wCh (wN h) (wB h) ((wSk (wN h) (wB h) (p)))) = 33 ∨ (wCh (wN h) (wB h) ((wSk (wN h) (wB h) (p)))) = 40
  · rw [if_pos h1] at er
    have hq := clc (by omega)
    have g := wG_gd (n := wN h) (B := wB h) 10 0 (wSk (wN h) (wB h) (p)) rfl s2
    rcases wBd_el er g with ⟨a1, a2⟩ | ⟨s, a1, a2, a3, a4⟩
    · have := g.1 a1
      rcases h1 with h1 | h1
      · refine ⟨rC1m_0, List.mem_of_getElem? (i := 0) rfl, pEnd [ρ 0, ρ 1, ρ 2, ρ 3, ρ 4, ρ 5, (wG (wN h) (wB h) 10 (0) ((wSk (wN h) (wB h) (p))))] rfl ?_ ?_ ?_ ?_⟩
        · intro j hj
          match j, hj with
          | 0, _ => exact q0.symm
          | 1, _ => exact q1.symm
          | 2, _ => exact q2.symm
          | 3, _ => exact q3.symm
          | 4, _ => exact q4.symm
          | 5, _ => exact q5.symm
          | k + 6, hj => exact absurd hj (by show ¬ (k + 6 < 6); omega)
        · intro k b hk
          match k, hk with
          | 0, hk => cases hk; exact (show ((-241) : Int) ≤ (wG (wN h) (wB h) 10 (0) ((wSk (wN h) (wB h) (p)))) ∧ (wG (wN h) (wB h) 10 (0) ((wSk (wN h) (wB h) (p)))) ≤ ((-1) : Int) by omega)
          | k + 1, hk => cases hk
        · exact pAll1 (show (0 + (1 * ρ 2 + ((-1) * ρ 4 + 0)) : Int) ≤ 0 by omega) (pAll1 (show (0 + ((-1) * ρ 1 + (1 * ρ 4 + 0)) : Int) ≤ 0 by omega) (pAll1 (show (1 + ((-1) * ρ 1 + (1 * ρ 4 + 0)) : Int) ≤ 0 by omega) (pAll1 (show (1 + ((-1) * ρ 5 + 0) : Int) ≤ 0 by omega) (pAll1 (show ((-33) + (1 * ρ 5 + 0) : Int) ≤ 0 by omega) (pAll1 (show (33 + ((-1) * ρ 5 + 0) : Int) ≤ 0 by omega) (pAll1 (show (0 + (1 * ρ 3 + ((-1) * (wG (wN h) (wB h) 10 (0) ((wSk (wN h) (wB h) (p)))) + 0)) : Int) ≤ 0 by omega) (pAll1 (show (0 + ((-1) * ρ 3 + (1 * (wG (wN h) (wB h) 10 (0) ((wSk (wN h) (wB h) (p)))) + 0)) : Int) ≤ 0 by omega) (pAll0))))))))
        · exact pAll1 (pgG ho hh 512 10 rfl rfl (0) ((wSk (wN h) (wB h) (p))) (by omega) (by omega) (show (0 + (1 * ρ 4 + 0) : Int) = _ by omega) (show (0 + (1 * (wG (wN h) (wB h) 10 (0) ((wSk (wN h) (wB h) (p)))) + 0) : Int) = _ by omega)) (pAll0)
      · refine ⟨rC1m_2, List.mem_of_getElem? (i := 2) rfl, pEnd [ρ 0, ρ 1, ρ 2, ρ 3, ρ 4, ρ 5, (wG (wN h) (wB h) 10 (0) ((wSk (wN h) (wB h) (p))))] rfl ?_ ?_ ?_ ?_⟩
        · intro j hj
          match j, hj with
          | 0, _ => exact q0.symm
          | 1, _ => exact q1.symm
          | 2, _ => exact q2.symm
          | 3, _ => exact q3.symm
          | 4, _ => exact q4.symm
          | 5, _ => exact q5.symm
          | k + 6, hj => exact absurd hj (by show ¬ (k + 6 < 6); omega)
        · intro k b hk
          match k, hk with
          | 0, hk => cases hk; exact (show ((-241) : Int) ≤ (wG (wN h) (wB h) 10 (0) ((wSk (wN h) (wB h) (p)))) ∧ (wG (wN h) (wB h) 10 (0) ((wSk (wN h) (wB h) (p)))) ≤ ((-1) : Int) by omega)
          | k + 1, hk => cases hk
        · exact pAll1 (show (0 + (1 * ρ 2 + ((-1) * ρ 4 + 0)) : Int) ≤ 0 by omega) (pAll1 (show (0 + ((-1) * ρ 1 + (1 * ρ 4 + 0)) : Int) ≤ 0 by omega) (pAll1 (show (1 + ((-1) * ρ 1 + (1 * ρ 4 + 0)) : Int) ≤ 0 by omega) (pAll1 (show (1 + ((-1) * ρ 5 + 0) : Int) ≤ 0 by omega) (pAll1 (show ((-40) + (1 * ρ 5 + 0) : Int) ≤ 0 by omega) (pAll1 (show (40 + ((-1) * ρ 5 + 0) : Int) ≤ 0 by omega) (pAll1 (show (0 + (1 * ρ 3 + ((-1) * (wG (wN h) (wB h) 10 (0) ((wSk (wN h) (wB h) (p)))) + 0)) : Int) ≤ 0 by omega) (pAll1 (show (0 + ((-1) * ρ 3 + (1 * (wG (wN h) (wB h) 10 (0) ((wSk (wN h) (wB h) (p)))) + 0)) : Int) ≤ 0 by omega) (pAll0))))))))
        · exact pAll1 (pgG ho hh 512 10 rfl rfl (0) ((wSk (wN h) (wB h) (p))) (by omega) (by omega) (show (0 + (1 * ρ 4 + 0) : Int) = _ by omega) (show (0 + (1 * (wG (wN h) (wB h) 10 (0) ((wSk (wN h) (wB h) (p)))) + 0) : Int) = _ by omega)) (pAll0)
    · have a2 : (wSk (wN h) (wB h) (p)) + 1 ≤ s := a2
      rcases h1 with h1 | h1
      · refine ⟨rC1m_1, List.mem_of_getElem? (i := 1) rfl, pEnd [ρ 0, ρ 1, ρ 2, ρ 3, ρ 4, ρ 5, (s : Int)] rfl ?_ ?_ ?_ ?_⟩
        · intro j hj
          match j, hj with
          | 0, _ => exact q0.symm
          | 1, _ => exact q1.symm
          | 2, _ => exact q2.symm
          | 3, _ => exact q3.symm
          | 4, _ => exact q4.symm
          | 5, _ => exact q5.symm
          | k + 6, hj => exact absurd hj (by show ¬ (k + 6 < 6); omega)
        · intro k b hk
          match k, hk with
          | 0, hk => cases hk; exact (show (0 : Int) ≤ (s : Int) ∧ (s : Int) ≤ (240 : Int) by omega)
          | k + 1, hk => cases hk
        · exact pAll1 (show (0 + (1 * ρ 2 + ((-1) * ρ 4 + 0)) : Int) ≤ 0 by omega) (pAll1 (show (0 + ((-1) * ρ 1 + (1 * ρ 4 + 0)) : Int) ≤ 0 by omega) (pAll1 (show (1 + ((-1) * ρ 1 + (1 * ρ 4 + 0)) : Int) ≤ 0 by omega) (pAll1 (show (1 + ((-1) * ρ 5 + 0) : Int) ≤ 0 by omega) (pAll1 (show ((-33) + (1 * ρ 5 + 0) : Int) ≤ 0 by omega) (pAll1 (show (33 + ((-1) * ρ 5 + 0) : Int) ≤ 0 by omega) (pAll1 (show (1 + (1 * ρ 4 + ((-1) * (s : Int) + 0)) : Int) ≤ 0 by omega) (pAll1 (show (0 + ((-1) * ρ 1 + (1 * (s : Int) + 0)) : Int) ≤ 0 by omega) (pAll0))))))))
        · exact pAll1 (pgG ho hh 512 10 rfl rfl (0) ((wSk (wN h) (wB h) (p))) (by omega) (by omega) (show (0 + (1 * ρ 4 + 0) : Int) = _ by omega) (show (0 + (1 * (s : Int) + 0) : Int) = _ by omega)) (pAll1 (pgG ho hh 520 18 rfl rfl (0) (s) (by omega) (by omega) (show (0 + (1 * (s : Int) + 0) : Int) = _ by omega) (show (0 + (1 * ρ 3 + 0) : Int) = _ by omega)) (pAll0))
      · refine ⟨rC1m_3, List.mem_of_getElem? (i := 3) rfl, pEnd [ρ 0, ρ 1, ρ 2, ρ 3, ρ 4, ρ 5, (s : Int)] rfl ?_ ?_ ?_ ?_⟩
        · intro j hj
          match j, hj with
          | 0, _ => exact q0.symm
          | 1, _ => exact q1.symm
          | 2, _ => exact q2.symm
          | 3, _ => exact q3.symm
          | 4, _ => exact q4.symm
          | 5, _ => exact q5.symm
          | k + 6, hj => exact absurd hj (by show ¬ (k + 6 < 6); omega)
        · intro k b hk
          match k, hk with
          | 0, hk => cases hk; exact (show (0 : Int) ≤ (s : Int) ∧ (s : Int) ≤ (240 : Int) by omega)
          | k + 1, hk => cases hk
        · exact pAll1 (show (0 + (1 * ρ 2 + ((-1) * ρ 4 + 0)) : Int) ≤ 0 by omega) (pAll1 (show (0 + ((-1) * ρ 1 + (1 * ρ 4 + 0)) : Int) ≤ 0 by omega) (pAll1 (show (1 + ((-1) * ρ 1 + (1 * ρ 4 + 0)) : Int) ≤ 0 by omega) (pAll1 (show (1 + ((-1) * ρ 5 + 0) : Int) ≤ 0 by omega) (pAll1 (show ((-40) + (1 * ρ 5 + 0) : Int) ≤ 0 by omega) (pAll1 (show (40 + ((-1) * ρ 5 + 0) : Int) ≤ 0 by omega) (pAll1 (show (1 + (1 * ρ 4 + ((-1) * (s : Int) + 0)) : Int) ≤ 0 by omega) (pAll1 (show (0 + ((-1) * ρ 1 + (1 * (s : Int) + 0)) : Int) ≤ 0 by omega) (pAll0))))))))
        · exact pAll1 (pgG ho hh 512 10 rfl rfl (0) ((wSk (wN h) (wB h) (p))) (by omega) (by omega) (show (0 + (1 * ρ 4 + 0) : Int) = _ by omega) (show (0 + (1 * (s : Int) + 0) : Int) = _ by omega)) (pAll1 (pgG ho hh 520 18 rfl rfl (0) (s) (by omega) (by omega) (show (0 + (1 * (s : Int) + 0) : Int) = _ by omega) (show (0 + (1 * ρ 3 + 0) : Int) = _ by omega)) (pAll0))
  · rw [if_neg h1] at er
    have g := wG_gd (n := wN h) (B := wB h) 3 0 (wSk (wN h) (wB h) (p)) rfl s2
    rcases wBd_el er g with ⟨a1, a2⟩ | ⟨s, a1, a2, a3, a4⟩
    · have := g.1 a1
      have hu : (wCh (wN h) (wB h) ((wSk (wN h) (wB h) (p)))) ≤ 32 ∨ (34 ≤ (wCh (wN h) (wB h) ((wSk (wN h) (wB h) (p)))) ∧ (wCh (wN h) (wB h) ((wSk (wN h) (wB h) (p)))) ≤ 39) ∨ 41 ≤ (wCh (wN h) (wB h) ((wSk (wN h) (wB h) (p)))) := by omega
      rcases hu with hu | hu | hu
      · refine ⟨rC1m_4, List.mem_of_getElem? (i := 4) rfl, pEnd [ρ 0, ρ 1, ρ 2, ρ 3, ρ 4, ρ 5, (wG (wN h) (wB h) 3 (0) ((wSk (wN h) (wB h) (p))))] rfl ?_ ?_ ?_ ?_⟩
        · intro j hj
          match j, hj with
          | 0, _ => exact q0.symm
          | 1, _ => exact q1.symm
          | 2, _ => exact q2.symm
          | 3, _ => exact q3.symm
          | 4, _ => exact q4.symm
          | 5, _ => exact q5.symm
          | k + 6, hj => exact absurd hj (by show ¬ (k + 6 < 6); omega)
        · intro k b hk
          match k, hk with
          | 0, hk => cases hk; exact (show ((-241) : Int) ≤ (wG (wN h) (wB h) 3 (0) ((wSk (wN h) (wB h) (p)))) ∧ (wG (wN h) (wB h) 3 (0) ((wSk (wN h) (wB h) (p)))) ≤ ((-1) : Int) by omega)
          | k + 1, hk => cases hk
        · exact pAll1 (show (0 + (1 * ρ 2 + ((-1) * ρ 4 + 0)) : Int) ≤ 0 by omega) (pAll1 (show (0 + ((-1) * ρ 1 + (1 * ρ 4 + 0)) : Int) ≤ 0 by omega) (pAll1 (show ((-32) + (1 * ρ 5 + 0) : Int) ≤ 0 by omega) (pAll1 (show (0 + (1 * ρ 3 + ((-1) * (wG (wN h) (wB h) 3 (0) ((wSk (wN h) (wB h) (p)))) + 0)) : Int) ≤ 0 by omega) (pAll1 (show (0 + ((-1) * ρ 3 + (1 * (wG (wN h) (wB h) 3 (0) ((wSk (wN h) (wB h) (p)))) + 0)) : Int) ≤ 0 by omega) (pAll0)))))
        · exact pAll1 (pgG ho hh 505 3 rfl rfl (0) ((wSk (wN h) (wB h) (p))) (by omega) (by omega) (show (0 + (1 * ρ 4 + 0) : Int) = _ by omega) (show (0 + (1 * (wG (wN h) (wB h) 3 (0) ((wSk (wN h) (wB h) (p)))) + 0) : Int) = _ by omega)) (pAll0)
      · refine ⟨rC1m_9, List.mem_of_getElem? (i := 9) rfl, pEnd [ρ 0, ρ 1, ρ 2, ρ 3, ρ 4, ρ 5, (wG (wN h) (wB h) 3 (0) ((wSk (wN h) (wB h) (p))))] rfl ?_ ?_ ?_ ?_⟩
        · intro j hj
          match j, hj with
          | 0, _ => exact q0.symm
          | 1, _ => exact q1.symm
          | 2, _ => exact q2.symm
          | 3, _ => exact q3.symm
          | 4, _ => exact q4.symm
          | 5, _ => exact q5.symm
          | k + 6, hj => exact absurd hj (by show ¬ (k + 6 < 6); omega)
        · intro k b hk
          match k, hk with
          | 0, hk => cases hk; exact (show ((-241) : Int) ≤ (wG (wN h) (wB h) 3 (0) ((wSk (wN h) (wB h) (p)))) ∧ (wG (wN h) (wB h) 3 (0) ((wSk (wN h) (wB h) (p)))) ≤ ((-1) : Int) by omega)
          | k + 1, hk => cases hk
        · exact pAll1 (show (0 + (1 * ρ 2 + ((-1) * ρ 4 + 0)) : Int) ≤ 0 by omega) (pAll1 (show (0 + ((-1) * ρ 1 + (1 * ρ 4 + 0)) : Int) ≤ 0 by omega) (pAll1 (show (34 + ((-1) * ρ 5 + 0) : Int) ≤ 0 by omega) (pAll1 (show ((-39) + (1 * ρ 5 + 0) : Int) ≤ 0 by omega) (pAll1 (show (0 + (1 * ρ 3 + ((-1) * (wG (wN h) (wB h) 3 (0) ((wSk (wN h) (wB h) (p)))) + 0)) : Int) ≤ 0 by omega) (pAll1 (show (0 + ((-1) * ρ 3 + (1 * (wG (wN h) (wB h) 3 (0) ((wSk (wN h) (wB h) (p)))) + 0)) : Int) ≤ 0 by omega) (pAll0))))))
        · exact pAll1 (pgG ho hh 505 3 rfl rfl (0) ((wSk (wN h) (wB h) (p))) (by omega) (by omega) (show (0 + (1 * ρ 4 + 0) : Int) = _ by omega) (show (0 + (1 * (wG (wN h) (wB h) 3 (0) ((wSk (wN h) (wB h) (p)))) + 0) : Int) = _ by omega)) (pAll0)
      · refine ⟨rC1m_14, List.mem_of_getElem? (i := 14) rfl, pEnd [ρ 0, ρ 1, ρ 2, ρ 3, ρ 4, ρ 5, (wG (wN h) (wB h) 3 (0) ((wSk (wN h) (wB h) (p))))] rfl ?_ ?_ ?_ ?_⟩
        · intro j hj
          match j, hj with
          | 0, _ => exact q0.symm
          | 1, _ => exact q1.symm
          | 2, _ => exact q2.symm
          | 3, _ => exact q3.symm
          | 4, _ => exact q4.symm
          | 5, _ => exact q5.symm
          | k + 6, hj => exact absurd hj (by show ¬ (k + 6 < 6); omega)
        · intro k b hk
          match k, hk with
          | 0, hk => cases hk; exact (show ((-241) : Int) ≤ (wG (wN h) (wB h) 3 (0) ((wSk (wN h) (wB h) (p)))) ∧ (wG (wN h) (wB h) 3 (0) ((wSk (wN h) (wB h) (p)))) ≤ ((-1) : Int) by omega)
          | k + 1, hk => cases hk
        · exact pAll1 (show (0 + (1 * ρ 2 + ((-1) * ρ 4 + 0)) : Int) ≤ 0 by omega) (pAll1 (show (0 + ((-1) * ρ 1 + (1 * ρ 4 + 0)) : Int) ≤ 0 by omega) (pAll1 (show (41 + ((-1) * ρ 5 + 0) : Int) ≤ 0 by omega) (pAll1 (show (0 + (1 * ρ 3 + ((-1) * (wG (wN h) (wB h) 3 (0) ((wSk (wN h) (wB h) (p)))) + 0)) : Int) ≤ 0 by omega) (pAll1 (show (0 + ((-1) * ρ 3 + (1 * (wG (wN h) (wB h) 3 (0) ((wSk (wN h) (wB h) (p)))) + 0)) : Int) ≤ 0 by omega) (pAll0)))))
        · exact pAll1 (pgG ho hh 505 3 rfl rfl (0) ((wSk (wN h) (wB h) (p))) (by omega) (by omega) (show (0 + (1 * ρ 4 + 0) : Int) = _ by omega) (show (0 + (1 * (wG (wN h) (wB h) 3 (0) ((wSk (wN h) (wB h) (p)))) + 0) : Int) = _ by omega)) (pAll0)
    · have a2 : (wSk (wN h) (wB h) (p)) + 1 ≤ s := a2
      obtain ⟨t1, t2⟩ := wSk_le (B := wB h) a3
      have cs := wCh_bd ho (wSk (wN h) (wB h) (s))
      by_cases h3 : 60 ≤ (wCh (wN h) (wB h) ((wSk (wN h) (wB h) (s)))) ∧ (wCh (wN h) (wB h) ((wSk (wN h) (wB h) (s)))) ≤ 62
      · rw [if_pos h3] at a4
        have := wCh_lt (n := wN h) (B := wB h) (p := (wSk (wN h) (wB h) (s))) (by omega)
        have g2 := wG_gd (n := wN h) (B := wB h) 16 0 (wSk (wN h) (wB h) (s)) rfl t2
        rcases wBd_el a4 g2 with ⟨d1, d2⟩ | ⟨b, d1, d2, d3, d4⟩
        · have := g2.1 d1
          have hu : (wCh (wN h) (wB h) ((wSk (wN h) (wB h) (p)))) ≤ 32 ∨ (34 ≤ (wCh (wN h) (wB h) ((wSk (wN h) (wB h) (p)))) ∧ (wCh (wN h) (wB h) ((wSk (wN h) (wB h) (p)))) ≤ 39) ∨ 41 ≤ (wCh (wN h) (wB h) ((wSk (wN h) (wB h) (p)))) := by omega
          rcases hu with hu | hu | hu
          · refine ⟨rC1m_7, List.mem_of_getElem? (i := 7) rfl, pEnd [ρ 0, ρ 1, ρ 2, ρ 3, ρ 4, ρ 5, (s : Int), ((wSk (wN h) (wB h) (s)) : Int), (wCh (wN h) (wB h) ((wSk (wN h) (wB h) (s)))), (wG (wN h) (wB h) 16 (0) ((wSk (wN h) (wB h) (s))))] rfl ?_ ?_ ?_ ?_⟩
            · intro j hj
              match j, hj with
              | 0, _ => exact q0.symm
              | 1, _ => exact q1.symm
              | 2, _ => exact q2.symm
              | 3, _ => exact q3.symm
              | 4, _ => exact q4.symm
              | 5, _ => exact q5.symm
              | k + 6, hj => exact absurd hj (by show ¬ (k + 6 < 6); omega)
            · intro k b hk
              match k, hk with
              | 0, hk => cases hk; exact (show (0 : Int) ≤ (s : Int) ∧ (s : Int) ≤ (240 : Int) by omega)
              | 1, hk => cases hk; exact (show (0 : Int) ≤ ((wSk (wN h) (wB h) (s)) : Int) ∧ ((wSk (wN h) (wB h) (s)) : Int) ≤ (240 : Int) by omega)
              | 2, hk => cases hk; exact (show (60 : Int) ≤ (wCh (wN h) (wB h) ((wSk (wN h) (wB h) (s)))) ∧ (wCh (wN h) (wB h) ((wSk (wN h) (wB h) (s)))) ≤ (62 : Int) by omega)
              | 3, hk => cases hk; exact (show ((-241) : Int) ≤ (wG (wN h) (wB h) 16 (0) ((wSk (wN h) (wB h) (s)))) ∧ (wG (wN h) (wB h) 16 (0) ((wSk (wN h) (wB h) (s)))) ≤ ((-1) : Int) by omega)
              | k + 4, hk => cases hk
            · exact pAll1 (show (0 + (1 * ρ 2 + ((-1) * ρ 4 + 0)) : Int) ≤ 0 by omega) (pAll1 (show (0 + ((-1) * ρ 1 + (1 * ρ 4 + 0)) : Int) ≤ 0 by omega) (pAll1 (show ((-32) + (1 * ρ 5 + 0) : Int) ≤ 0 by omega) (pAll1 (show (1 + (1 * ρ 4 + ((-1) * (s : Int) + 0)) : Int) ≤ 0 by omega) (pAll1 (show (0 + (1 * (s : Int) + ((-1) * ((wSk (wN h) (wB h) (s)) : Int) + 0)) : Int) ≤ 0 by omega) (pAll1 (show (0 + ((-1) * ρ 1 + (1 * ((wSk (wN h) (wB h) (s)) : Int) + 0)) : Int) ≤ 0 by omega) (pAll1 (show (1 + ((-1) * ρ 1 + (1 * ((wSk (wN h) (wB h) (s)) : Int) + 0)) : Int) ≤ 0 by omega) (pAll1 (show (0 + (1 * ρ 3 + ((-1) * (wG (wN h) (wB h) 16 (0) ((wSk (wN h) (wB h) (s)))) + 0)) : Int) ≤ 0 by omega) (pAll1 (show (0 + ((-1) * ρ 3 + (1 * (wG (wN h) (wB h) 16 (0) ((wSk (wN h) (wB h) (s)))) + 0)) : Int) ≤ 0 by omega) (pAll0)))))))))
            · exact pAll1 (pgG ho hh 505 3 rfl rfl (0) ((wSk (wN h) (wB h) (p))) (by omega) (by omega) (show (0 + (1 * ρ 4 + 0) : Int) = _ by omega) (show (0 + (1 * (s : Int) + 0) : Int) = _ by omega)) (pAll1 (pgS ho hh (s) (by omega) (show (0 + (1 * (s : Int) + 0) : Int) = _ by omega) (show (0 + (1 * ((wSk (wN h) (wB h) (s)) : Int) + 0) : Int) = _ by omega)) (pAll1 (pgC ho hh ((wSk (wN h) (wB h) (s))) (by omega) (show (0 + (1 * ((wSk (wN h) (wB h) (s)) : Int) + 0) : Int) = _ by omega) (show (0 + (1 * (wCh (wN h) (wB h) ((wSk (wN h) (wB h) (s)))) + 0) : Int) = _ by omega)) (pAll1 (pgG ho hh 518 16 rfl rfl (0) ((wSk (wN h) (wB h) (s))) (by omega) (by omega) (show (0 + (1 * ((wSk (wN h) (wB h) (s)) : Int) + 0) : Int) = _ by omega) (show (0 + (1 * (wG (wN h) (wB h) 16 (0) ((wSk (wN h) (wB h) (s)))) + 0) : Int) = _ by omega)) (pAll0))))
          · refine ⟨rC1m_12, List.mem_of_getElem? (i := 12) rfl, pEnd [ρ 0, ρ 1, ρ 2, ρ 3, ρ 4, ρ 5, (s : Int), ((wSk (wN h) (wB h) (s)) : Int), (wCh (wN h) (wB h) ((wSk (wN h) (wB h) (s)))), (wG (wN h) (wB h) 16 (0) ((wSk (wN h) (wB h) (s))))] rfl ?_ ?_ ?_ ?_⟩
            · intro j hj
              match j, hj with
              | 0, _ => exact q0.symm
              | 1, _ => exact q1.symm
              | 2, _ => exact q2.symm
              | 3, _ => exact q3.symm
              | 4, _ => exact q4.symm
              | 5, _ => exact q5.symm
              | k + 6, hj => exact absurd hj (by show ¬ (k + 6 < 6); omega)
            · intro k b hk
              match k, hk with
              | 0, hk => cases hk; exact (show (0 : Int) ≤ (s : Int) ∧ (s : Int) ≤ (240 : Int) by omega)
              | 1, hk => cases hk; exact (show (0 : Int) ≤ ((wSk (wN h) (wB h) (s)) : Int) ∧ ((wSk (wN h) (wB h) (s)) : Int) ≤ (240 : Int) by omega)
              | 2, hk => cases hk; exact (show (60 : Int) ≤ (wCh (wN h) (wB h) ((wSk (wN h) (wB h) (s)))) ∧ (wCh (wN h) (wB h) ((wSk (wN h) (wB h) (s)))) ≤ (62 : Int) by omega)
              | 3, hk => cases hk; exact (show ((-241) : Int) ≤ (wG (wN h) (wB h) 16 (0) ((wSk (wN h) (wB h) (s)))) ∧ (wG (wN h) (wB h) 16 (0) ((wSk (wN h) (wB h) (s)))) ≤ ((-1) : Int) by omega)
              | k + 4, hk => cases hk
            · exact pAll1 (show (0 + (1 * ρ 2 + ((-1) * ρ 4 + 0)) : Int) ≤ 0 by omega) (pAll1 (show (0 + ((-1) * ρ 1 + (1 * ρ 4 + 0)) : Int) ≤ 0 by omega) (pAll1 (show (34 + ((-1) * ρ 5 + 0) : Int) ≤ 0 by omega) (pAll1 (show ((-39) + (1 * ρ 5 + 0) : Int) ≤ 0 by omega) (pAll1 (show (1 + (1 * ρ 4 + ((-1) * (s : Int) + 0)) : Int) ≤ 0 by omega) (pAll1 (show (0 + (1 * (s : Int) + ((-1) * ((wSk (wN h) (wB h) (s)) : Int) + 0)) : Int) ≤ 0 by omega) (pAll1 (show (0 + ((-1) * ρ 1 + (1 * ((wSk (wN h) (wB h) (s)) : Int) + 0)) : Int) ≤ 0 by omega) (pAll1 (show (1 + ((-1) * ρ 1 + (1 * ((wSk (wN h) (wB h) (s)) : Int) + 0)) : Int) ≤ 0 by omega) (pAll1 (show (0 + (1 * ρ 3 + ((-1) * (wG (wN h) (wB h) 16 (0) ((wSk (wN h) (wB h) (s)))) + 0)) : Int) ≤ 0 by omega) (pAll1 (show (0 + ((-1) * ρ 3 + (1 * (wG (wN h) (wB h) 16 (0) ((wSk (wN h) (wB h) (s)))) + 0)) : Int) ≤ 0 by omega) (pAll0))))))))))
            · exact pAll1 (pgG ho hh 505 3 rfl rfl (0) ((wSk (wN h) (wB h) (p))) (by omega) (by omega) (show (0 + (1 * ρ 4 + 0) : Int) = _ by omega) (show (0 + (1 * (s : Int) + 0) : Int) = _ by omega)) (pAll1 (pgS ho hh (s) (by omega) (show (0 + (1 * (s : Int) + 0) : Int) = _ by omega) (show (0 + (1 * ((wSk (wN h) (wB h) (s)) : Int) + 0) : Int) = _ by omega)) (pAll1 (pgC ho hh ((wSk (wN h) (wB h) (s))) (by omega) (show (0 + (1 * ((wSk (wN h) (wB h) (s)) : Int) + 0) : Int) = _ by omega) (show (0 + (1 * (wCh (wN h) (wB h) ((wSk (wN h) (wB h) (s)))) + 0) : Int) = _ by omega)) (pAll1 (pgG ho hh 518 16 rfl rfl (0) ((wSk (wN h) (wB h) (s))) (by omega) (by omega) (show (0 + (1 * ((wSk (wN h) (wB h) (s)) : Int) + 0) : Int) = _ by omega) (show (0 + (1 * (wG (wN h) (wB h) 16 (0) ((wSk (wN h) (wB h) (s)))) + 0) : Int) = _ by omega)) (pAll0))))
          · refine ⟨rC1m_17, List.mem_of_getElem? (i := 17) rfl, pEnd [ρ 0, ρ 1, ρ 2, ρ 3, ρ 4, ρ 5, (s : Int), ((wSk (wN h) (wB h) (s)) : Int), (wCh (wN h) (wB h) ((wSk (wN h) (wB h) (s)))), (wG (wN h) (wB h) 16 (0) ((wSk (wN h) (wB h) (s))))] rfl ?_ ?_ ?_ ?_⟩
            · intro j hj
              match j, hj with
              | 0, _ => exact q0.symm
              | 1, _ => exact q1.symm
              | 2, _ => exact q2.symm
              | 3, _ => exact q3.symm
              | 4, _ => exact q4.symm
              | 5, _ => exact q5.symm
              | k + 6, hj => exact absurd hj (by show ¬ (k + 6 < 6); omega)
            · intro k b hk
              match k, hk with
              | 0, hk => cases hk; exact (show (0 : Int) ≤ (s : Int) ∧ (s : Int) ≤ (240 : Int) by omega)
              | 1, hk => cases hk; exact (show (0 : Int) ≤ ((wSk (wN h) (wB h) (s)) : Int) ∧ ((wSk (wN h) (wB h) (s)) : Int) ≤ (240 : Int) by omega)
              | 2, hk => cases hk; exact (show (60 : Int) ≤ (wCh (wN h) (wB h) ((wSk (wN h) (wB h) (s)))) ∧ (wCh (wN h) (wB h) ((wSk (wN h) (wB h) (s)))) ≤ (62 : Int) by omega)
              | 3, hk => cases hk; exact (show ((-241) : Int) ≤ (wG (wN h) (wB h) 16 (0) ((wSk (wN h) (wB h) (s)))) ∧ (wG (wN h) (wB h) 16 (0) ((wSk (wN h) (wB h) (s)))) ≤ ((-1) : Int) by omega)
              | k + 4, hk => cases hk
            · exact pAll1 (show (0 + (1 * ρ 2 + ((-1) * ρ 4 + 0)) : Int) ≤ 0 by omega) (pAll1 (show (0 + ((-1) * ρ 1 + (1 * ρ 4 + 0)) : Int) ≤ 0 by omega) (pAll1 (show (41 + ((-1) * ρ 5 + 0) : Int) ≤ 0 by omega) (pAll1 (show (1 + (1 * ρ 4 + ((-1) * (s : Int) + 0)) : Int) ≤ 0 by omega) (pAll1 (show (0 + (1 * (s : Int) + ((-1) * ((wSk (wN h) (wB h) (s)) : Int) + 0)) : Int) ≤ 0 by omega) (pAll1 (show (0 + ((-1) * ρ 1 + (1 * ((wSk (wN h) (wB h) (s)) : Int) + 0)) : Int) ≤ 0 by omega) (pAll1 (show (1 + ((-1) * ρ 1 + (1 * ((wSk (wN h) (wB h) (s)) : Int) + 0)) : Int) ≤ 0 by omega) (pAll1 (show (0 + (1 * ρ 3 + ((-1) * (wG (wN h) (wB h) 16 (0) ((wSk (wN h) (wB h) (s)))) + 0)) : Int) ≤ 0 by omega) (pAll1 (show (0 + ((-1) * ρ 3 + (1 * (wG (wN h) (wB h) 16 (0) ((wSk (wN h) (wB h) (s)))) + 0)) : Int) ≤ 0 by omega) (pAll0)))))))))
            · exact pAll1 (pgG ho hh 505 3 rfl rfl (0) ((wSk (wN h) (wB h) (p))) (by omega) (by omega) (show (0 + (1 * ρ 4 + 0) : Int) = _ by omega) (show (0 + (1 * (s : Int) + 0) : Int) = _ by omega)) (pAll1 (pgS ho hh (s) (by omega) (show (0 + (1 * (s : Int) + 0) : Int) = _ by omega) (show (0 + (1 * ((wSk (wN h) (wB h) (s)) : Int) + 0) : Int) = _ by omega)) (pAll1 (pgC ho hh ((wSk (wN h) (wB h) (s))) (by omega) (show (0 + (1 * ((wSk (wN h) (wB h) (s)) : Int) + 0) : Int) = _ by omega) (show (0 + (1 * (wCh (wN h) (wB h) ((wSk (wN h) (wB h) (s)))) + 0) : Int) = _ by omega)) (pAll1 (pgG ho hh 518 16 rfl rfl (0) ((wSk (wN h) (wB h) (s))) (by omega) (by omega) (show (0 + (1 * ((wSk (wN h) (wB h) (s)) : Int) + 0) : Int) = _ by omega) (show (0 + (1 * (wG (wN h) (wB h) 16 (0) ((wSk (wN h) (wB h) (s)))) + 0) : Int) = _ by omega)) (pAll0))))
        · have d2 : (wSk (wN h) (wB h) (s)) + 1 ≤ b := d2
          have hu : (wCh (wN h) (wB h) ((wSk (wN h) (wB h) (p)))) ≤ 32 ∨ (34 ≤ (wCh (wN h) (wB h) ((wSk (wN h) (wB h) (p)))) ∧ (wCh (wN h) (wB h) ((wSk (wN h) (wB h) (p)))) ≤ 39) ∨ 41 ≤ (wCh (wN h) (wB h) ((wSk (wN h) (wB h) (p)))) := by omega
          rcases hu with hu | hu | hu
          · refine ⟨rC1m_8, List.mem_of_getElem? (i := 8) rfl, pEnd [ρ 0, ρ 1, ρ 2, ρ 3, ρ 4, ρ 5, (s : Int), ((wSk (wN h) (wB h) (s)) : Int), (wCh (wN h) (wB h) ((wSk (wN h) (wB h) (s)))), (b : Int)] rfl ?_ ?_ ?_ ?_⟩
            · intro j hj
              match j, hj with
              | 0, _ => exact q0.symm
              | 1, _ => exact q1.symm
              | 2, _ => exact q2.symm
              | 3, _ => exact q3.symm
              | 4, _ => exact q4.symm
              | 5, _ => exact q5.symm
              | k + 6, hj => exact absurd hj (by show ¬ (k + 6 < 6); omega)
            · intro k b hk
              match k, hk with
              | 0, hk => cases hk; exact (show (0 : Int) ≤ (s : Int) ∧ (s : Int) ≤ (240 : Int) by omega)
              | 1, hk => cases hk; exact (show (0 : Int) ≤ ((wSk (wN h) (wB h) (s)) : Int) ∧ ((wSk (wN h) (wB h) (s)) : Int) ≤ (240 : Int) by omega)
              | 2, hk => cases hk; exact (show (60 : Int) ≤ (wCh (wN h) (wB h) ((wSk (wN h) (wB h) (s)))) ∧ (wCh (wN h) (wB h) ((wSk (wN h) (wB h) (s)))) ≤ (62 : Int) by omega)
              | 3, hk => cases hk; exact (show (0 : Int) ≤ (b : Int) ∧ (b : Int) ≤ (240 : Int) by omega)
              | k + 4, hk => cases hk
            · exact pAll1 (show (0 + (1 * ρ 2 + ((-1) * ρ 4 + 0)) : Int) ≤ 0 by omega) (pAll1 (show (0 + ((-1) * ρ 1 + (1 * ρ 4 + 0)) : Int) ≤ 0 by omega) (pAll1 (show ((-32) + (1 * ρ 5 + 0) : Int) ≤ 0 by omega) (pAll1 (show (1 + (1 * ρ 4 + ((-1) * (s : Int) + 0)) : Int) ≤ 0 by omega) (pAll1 (show (0 + (1 * (s : Int) + ((-1) * ((wSk (wN h) (wB h) (s)) : Int) + 0)) : Int) ≤ 0 by omega) (pAll1 (show (0 + ((-1) * ρ 1 + (1 * ((wSk (wN h) (wB h) (s)) : Int) + 0)) : Int) ≤ 0 by omega) (pAll1 (show (1 + ((-1) * ρ 1 + (1 * ((wSk (wN h) (wB h) (s)) : Int) + 0)) : Int) ≤ 0 by omega) (pAll1 (show (1 + (1 * ((wSk (wN h) (wB h) (s)) : Int) + ((-1) * (b : Int) + 0)) : Int) ≤ 0 by omega) (pAll1 (show (0 + ((-1) * ρ 1 + (1 * (b : Int) + 0)) : Int) ≤ 0 by omega) (pAll0)))))))))
            · exact pAll1 (pgG ho hh 505 3 rfl rfl (0) ((wSk (wN h) (wB h) (p))) (by omega) (by omega) (show (0 + (1 * ρ 4 + 0) : Int) = _ by omega) (show (0 + (1 * (s : Int) + 0) : Int) = _ by omega)) (pAll1 (pgS ho hh (s) (by omega) (show (0 + (1 * (s : Int) + 0) : Int) = _ by omega) (show (0 + (1 * ((wSk (wN h) (wB h) (s)) : Int) + 0) : Int) = _ by omega)) (pAll1 (pgC ho hh ((wSk (wN h) (wB h) (s))) (by omega) (show (0 + (1 * ((wSk (wN h) (wB h) (s)) : Int) + 0) : Int) = _ by omega) (show (0 + (1 * (wCh (wN h) (wB h) ((wSk (wN h) (wB h) (s)))) + 0) : Int) = _ by omega)) (pAll1 (pgG ho hh 518 16 rfl rfl (0) ((wSk (wN h) (wB h) (s))) (by omega) (by omega) (show (0 + (1 * ((wSk (wN h) (wB h) (s)) : Int) + 0) : Int) = _ by omega) (show (0 + (1 * (b : Int) + 0) : Int) = _ by omega)) (pAll1 (pgG ho hh 520 18 rfl rfl (0) (b) (by omega) (by omega) (show (0 + (1 * (b : Int) + 0) : Int) = _ by omega) (show (0 + (1 * ρ 3 + 0) : Int) = _ by omega)) (pAll0)))))
          · refine ⟨rC1m_13, List.mem_of_getElem? (i := 13) rfl, pEnd [ρ 0, ρ 1, ρ 2, ρ 3, ρ 4, ρ 5, (s : Int), ((wSk (wN h) (wB h) (s)) : Int), (wCh (wN h) (wB h) ((wSk (wN h) (wB h) (s)))), (b : Int)] rfl ?_ ?_ ?_ ?_⟩
            · intro j hj
              match j, hj with
              | 0, _ => exact q0.symm
              | 1, _ => exact q1.symm
              | 2, _ => exact q2.symm
              | 3, _ => exact q3.symm
              | 4, _ => exact q4.symm
              | 5, _ => exact q5.symm
              | k + 6, hj => exact absurd hj (by show ¬ (k + 6 < 6); omega)
            · intro k b hk
              match k, hk with
              | 0, hk => cases hk; exact (show (0 : Int) ≤ (s : Int) ∧ (s : Int) ≤ (240 : Int) by omega)
              | 1, hk => cases hk; exact (show (0 : Int) ≤ ((wSk (wN h) (wB h) (s)) : Int) ∧ ((wSk (wN h) (wB h) (s)) : Int) ≤ (240 : Int) by omega)
              | 2, hk => cases hk; exact (show (60 : Int) ≤ (wCh (wN h) (wB h) ((wSk (wN h) (wB h) (s)))) ∧ (wCh (wN h) (wB h) ((wSk (wN h) (wB h) (s)))) ≤ (62 : Int) by omega)
              | 3, hk => cases hk; exact (show (0 : Int) ≤ (b : Int) ∧ (b : Int) ≤ (240 : Int) by omega)
              | k + 4, hk => cases hk
            · exact pAll1 (show (0 + (1 * ρ 2 + ((-1) * ρ 4 + 0)) : Int) ≤ 0 by omega) (pAll1 (show (0 + ((-1) * ρ 1 + (1 * ρ 4 + 0)) : Int) ≤ 0 by omega) (pAll1 (show (34 + ((-1) * ρ 5 + 0) : Int) ≤ 0 by omega) (pAll1 (show ((-39) + (1 * ρ 5 + 0) : Int) ≤ 0 by omega) (pAll1 (show (1 + (1 * ρ 4 + ((-1) * (s : Int) + 0)) : Int) ≤ 0 by omega) (pAll1 (show (0 + (1 * (s : Int) + ((-1) * ((wSk (wN h) (wB h) (s)) : Int) + 0)) : Int) ≤ 0 by omega) (pAll1 (show (0 + ((-1) * ρ 1 + (1 * ((wSk (wN h) (wB h) (s)) : Int) + 0)) : Int) ≤ 0 by omega) (pAll1 (show (1 + ((-1) * ρ 1 + (1 * ((wSk (wN h) (wB h) (s)) : Int) + 0)) : Int) ≤ 0 by omega) (pAll1 (show (1 + (1 * ((wSk (wN h) (wB h) (s)) : Int) + ((-1) * (b : Int) + 0)) : Int) ≤ 0 by omega) (pAll1 (show (0 + ((-1) * ρ 1 + (1 * (b : Int) + 0)) : Int) ≤ 0 by omega) (pAll0))))))))))
            · exact pAll1 (pgG ho hh 505 3 rfl rfl (0) ((wSk (wN h) (wB h) (p))) (by omega) (by omega) (show (0 + (1 * ρ 4 + 0) : Int) = _ by omega) (show (0 + (1 * (s : Int) + 0) : Int) = _ by omega)) (pAll1 (pgS ho hh (s) (by omega) (show (0 + (1 * (s : Int) + 0) : Int) = _ by omega) (show (0 + (1 * ((wSk (wN h) (wB h) (s)) : Int) + 0) : Int) = _ by omega)) (pAll1 (pgC ho hh ((wSk (wN h) (wB h) (s))) (by omega) (show (0 + (1 * ((wSk (wN h) (wB h) (s)) : Int) + 0) : Int) = _ by omega) (show (0 + (1 * (wCh (wN h) (wB h) ((wSk (wN h) (wB h) (s)))) + 0) : Int) = _ by omega)) (pAll1 (pgG ho hh 518 16 rfl rfl (0) ((wSk (wN h) (wB h) (s))) (by omega) (by omega) (show (0 + (1 * ((wSk (wN h) (wB h) (s)) : Int) + 0) : Int) = _ by omega) (show (0 + (1 * (b : Int) + 0) : Int) = _ by omega)) (pAll1 (pgG ho hh 520 18 rfl rfl (0) (b) (by omega) (by omega) (show (0 + (1 * (b : Int) + 0) : Int) = _ by omega) (show (0 + (1 * ρ 3 + 0) : Int) = _ by omega)) (pAll0)))))
          · refine ⟨rC1m_18, List.mem_of_getElem? (i := 18) rfl, pEnd [ρ 0, ρ 1, ρ 2, ρ 3, ρ 4, ρ 5, (s : Int), ((wSk (wN h) (wB h) (s)) : Int), (wCh (wN h) (wB h) ((wSk (wN h) (wB h) (s)))), (b : Int)] rfl ?_ ?_ ?_ ?_⟩
            · intro j hj
              match j, hj with
              | 0, _ => exact q0.symm
              | 1, _ => exact q1.symm
              | 2, _ => exact q2.symm
              | 3, _ => exact q3.symm
              | 4, _ => exact q4.symm
              | 5, _ => exact q5.symm
              | k + 6, hj => exact absurd hj (by show ¬ (k + 6 < 6); omega)
            · intro k b hk
              match k, hk with
              | 0, hk => cases hk; exact (show (0 : Int) ≤ (s : Int) ∧ (s : Int) ≤ (240 : Int) by omega)
              | 1, hk => cases hk; exact (show (0 : Int) ≤ ((wSk (wN h) (wB h) (s)) : Int) ∧ ((wSk (wN h) (wB h) (s)) : Int) ≤ (240 : Int) by omega)
              | 2, hk => cases hk; exact (show (60 : Int) ≤ (wCh (wN h) (wB h) ((wSk (wN h) (wB h) (s)))) ∧ (wCh (wN h) (wB h) ((wSk (wN h) (wB h) (s)))) ≤ (62 : Int) by omega)
              | 3, hk => cases hk; exact (show (0 : Int) ≤ (b : Int) ∧ (b : Int) ≤ (240 : Int) by omega)
              | k + 4, hk => cases hk
            · exact pAll1 (show (0 + (1 * ρ 2 + ((-1) * ρ 4 + 0)) : Int) ≤ 0 by omega) (pAll1 (show (0 + ((-1) * ρ 1 + (1 * ρ 4 + 0)) : Int) ≤ 0 by omega) (pAll1 (show (41 + ((-1) * ρ 5 + 0) : Int) ≤ 0 by omega) (pAll1 (show (1 + (1 * ρ 4 + ((-1) * (s : Int) + 0)) : Int) ≤ 0 by omega) (pAll1 (show (0 + (1 * (s : Int) + ((-1) * ((wSk (wN h) (wB h) (s)) : Int) + 0)) : Int) ≤ 0 by omega) (pAll1 (show (0 + ((-1) * ρ 1 + (1 * ((wSk (wN h) (wB h) (s)) : Int) + 0)) : Int) ≤ 0 by omega) (pAll1 (show (1 + ((-1) * ρ 1 + (1 * ((wSk (wN h) (wB h) (s)) : Int) + 0)) : Int) ≤ 0 by omega) (pAll1 (show (1 + (1 * ((wSk (wN h) (wB h) (s)) : Int) + ((-1) * (b : Int) + 0)) : Int) ≤ 0 by omega) (pAll1 (show (0 + ((-1) * ρ 1 + (1 * (b : Int) + 0)) : Int) ≤ 0 by omega) (pAll0)))))))))
            · exact pAll1 (pgG ho hh 505 3 rfl rfl (0) ((wSk (wN h) (wB h) (p))) (by omega) (by omega) (show (0 + (1 * ρ 4 + 0) : Int) = _ by omega) (show (0 + (1 * (s : Int) + 0) : Int) = _ by omega)) (pAll1 (pgS ho hh (s) (by omega) (show (0 + (1 * (s : Int) + 0) : Int) = _ by omega) (show (0 + (1 * ((wSk (wN h) (wB h) (s)) : Int) + 0) : Int) = _ by omega)) (pAll1 (pgC ho hh ((wSk (wN h) (wB h) (s))) (by omega) (show (0 + (1 * ((wSk (wN h) (wB h) (s)) : Int) + 0) : Int) = _ by omega) (show (0 + (1 * (wCh (wN h) (wB h) ((wSk (wN h) (wB h) (s)))) + 0) : Int) = _ by omega)) (pAll1 (pgG ho hh 518 16 rfl rfl (0) ((wSk (wN h) (wB h) (s))) (by omega) (by omega) (show (0 + (1 * ((wSk (wN h) (wB h) (s)) : Int) + 0) : Int) = _ by omega) (show (0 + (1 * (b : Int) + 0) : Int) = _ by omega)) (pAll1 (pgG ho hh 520 18 rfl rfl (0) (b) (by omega) (by omega) (show (0 + (1 * (b : Int) + 0) : Int) = _ by omega) (show (0 + (1 * ρ 3 + 0) : Int) = _ by omega)) (pAll0)))))
      · rw [if_neg h3] at a4
        have hv : (wCh (wN h) (wB h) ((wSk (wN h) (wB h) (s)))) ≤ 59 ∨ 63 ≤ (wCh (wN h) (wB h) ((wSk (wN h) (wB h) (s)))) := by omega
        rcases hv with hv | hv
        · have hu : (wCh (wN h) (wB h) ((wSk (wN h) (wB h) (p)))) ≤ 32 ∨ (34 ≤ (wCh (wN h) (wB h) ((wSk (wN h) (wB h) (p)))) ∧ (wCh (wN h) (wB h) ((wSk (wN h) (wB h) (p)))) ≤ 39) ∨ 41 ≤ (wCh (wN h) (wB h) ((wSk (wN h) (wB h) (p)))) := by omega
          rcases hu with hu | hu | hu
          · refine ⟨rC1m_5, List.mem_of_getElem? (i := 5) rfl, pEnd [ρ 0, ρ 1, ρ 2, ρ 3, ρ 4, ρ 5, (s : Int), ((wSk (wN h) (wB h) (s)) : Int), (wCh (wN h) (wB h) ((wSk (wN h) (wB h) (s))))] rfl ?_ ?_ ?_ ?_⟩
            · intro j hj
              match j, hj with
              | 0, _ => exact q0.symm
              | 1, _ => exact q1.symm
              | 2, _ => exact q2.symm
              | 3, _ => exact q3.symm
              | 4, _ => exact q4.symm
              | 5, _ => exact q5.symm
              | k + 6, hj => exact absurd hj (by show ¬ (k + 6 < 6); omega)
            · intro k b hk
              match k, hk with
              | 0, hk => cases hk; exact (show (0 : Int) ≤ (s : Int) ∧ (s : Int) ≤ (240 : Int) by omega)
              | 1, hk => cases hk; exact (show (0 : Int) ≤ ((wSk (wN h) (wB h) (s)) : Int) ∧ ((wSk (wN h) (wB h) (s)) : Int) ≤ (240 : Int) by omega)
              | 2, hk => cases hk; exact (show (0 : Int) ≤ (wCh (wN h) (wB h) ((wSk (wN h) (wB h) (s)))) ∧ (wCh (wN h) (wB h) ((wSk (wN h) (wB h) (s)))) ≤ (59 : Int) by omega)
              | k + 3, hk => cases hk
            · exact pAll1 (show (0 + (1 * ρ 2 + ((-1) * ρ 4 + 0)) : Int) ≤ 0 by omega) (pAll1 (show (0 + ((-1) * ρ 1 + (1 * ρ 4 + 0)) : Int) ≤ 0 by omega) (pAll1 (show ((-32) + (1 * ρ 5 + 0) : Int) ≤ 0 by omega) (pAll1 (show (1 + (1 * ρ 4 + ((-1) * (s : Int) + 0)) : Int) ≤ 0 by omega) (pAll1 (show (0 + (1 * (s : Int) + ((-1) * ((wSk (wN h) (wB h) (s)) : Int) + 0)) : Int) ≤ 0 by omega) (pAll1 (show (0 + ((-1) * ρ 1 + (1 * ((wSk (wN h) (wB h) (s)) : Int) + 0)) : Int) ≤ 0 by omega) (pAll1 (show (0 + (1 * ρ 3 + ((-1) * ((wSk (wN h) (wB h) (s)) : Int) + 0)) : Int) ≤ 0 by omega) (pAll1 (show (0 + ((-1) * ρ 3 + (1 * ((wSk (wN h) (wB h) (s)) : Int) + 0)) : Int) ≤ 0 by omega) (pAll0))))))))
            · exact pAll1 (pgG ho hh 505 3 rfl rfl (0) ((wSk (wN h) (wB h) (p))) (by omega) (by omega) (show (0 + (1 * ρ 4 + 0) : Int) = _ by omega) (show (0 + (1 * (s : Int) + 0) : Int) = _ by omega)) (pAll1 (pgS ho hh (s) (by omega) (show (0 + (1 * (s : Int) + 0) : Int) = _ by omega) (show (0 + (1 * ((wSk (wN h) (wB h) (s)) : Int) + 0) : Int) = _ by omega)) (pAll1 (pgC ho hh ((wSk (wN h) (wB h) (s))) (by omega) (show (0 + (1 * ((wSk (wN h) (wB h) (s)) : Int) + 0) : Int) = _ by omega) (show (0 + (1 * (wCh (wN h) (wB h) ((wSk (wN h) (wB h) (s)))) + 0) : Int) = _ by omega)) (pAll0)))
          · refine ⟨rC1m_10, List.mem_of_getElem? (i := 10) rfl, pEnd [ρ 0, ρ 1, ρ 2, ρ 3, ρ 4, ρ 5, (s : Int), ((wSk (wN h) (wB h) (s)) : Int), (wCh (wN h) (wB h) ((wSk (wN h) (wB h) (s))))] rfl ?_ ?_ ?_ ?_⟩
            · intro j hj
              match j, hj with
              | 0, _ => exact q0.symm
              | 1, _ => exact q1.symm
              | 2, _ => exact q2.symm
              | 3, _ => exact q3.symm
              | 4, _ => exact q4.symm
              | 5, _ => exact q5.symm
              | k + 6, hj => exact absurd hj (by show ¬ (k + 6 < 6); omega)
            · intro k b hk
              match k, hk with
              | 0, hk => cases hk; exact (show (0 : Int) ≤ (s : Int) ∧ (s : Int) ≤ (240 : Int) by omega)
              | 1, hk => cases hk; exact (show (0 : Int) ≤ ((wSk (wN h) (wB h) (s)) : Int) ∧ ((wSk (wN h) (wB h) (s)) : Int) ≤ (240 : Int) by omega)
              | 2, hk => cases hk; exact (show (0 : Int) ≤ (wCh (wN h) (wB h) ((wSk (wN h) (wB h) (s)))) ∧ (wCh (wN h) (wB h) ((wSk (wN h) (wB h) (s)))) ≤ (59 : Int) by omega)
              | k + 3, hk => cases hk
            · exact pAll1 (show (0 + (1 * ρ 2 + ((-1) * ρ 4 + 0)) : Int) ≤ 0 by omega) (pAll1 (show (0 + ((-1) * ρ 1 + (1 * ρ 4 + 0)) : Int) ≤ 0 by omega) (pAll1 (show (34 + ((-1) * ρ 5 + 0) : Int) ≤ 0 by omega) (pAll1 (show ((-39) + (1 * ρ 5 + 0) : Int) ≤ 0 by omega) (pAll1 (show (1 + (1 * ρ 4 + ((-1) * (s : Int) + 0)) : Int) ≤ 0 by omega) (pAll1 (show (0 + (1 * (s : Int) + ((-1) * ((wSk (wN h) (wB h) (s)) : Int) + 0)) : Int) ≤ 0 by omega) (pAll1 (show (0 + ((-1) * ρ 1 + (1 * ((wSk (wN h) (wB h) (s)) : Int) + 0)) : Int) ≤ 0 by omega) (pAll1 (show (0 + (1 * ρ 3 + ((-1) * ((wSk (wN h) (wB h) (s)) : Int) + 0)) : Int) ≤ 0 by omega) (pAll1 (show (0 + ((-1) * ρ 3 + (1 * ((wSk (wN h) (wB h) (s)) : Int) + 0)) : Int) ≤ 0 by omega) (pAll0)))))))))
            · exact pAll1 (pgG ho hh 505 3 rfl rfl (0) ((wSk (wN h) (wB h) (p))) (by omega) (by omega) (show (0 + (1 * ρ 4 + 0) : Int) = _ by omega) (show (0 + (1 * (s : Int) + 0) : Int) = _ by omega)) (pAll1 (pgS ho hh (s) (by omega) (show (0 + (1 * (s : Int) + 0) : Int) = _ by omega) (show (0 + (1 * ((wSk (wN h) (wB h) (s)) : Int) + 0) : Int) = _ by omega)) (pAll1 (pgC ho hh ((wSk (wN h) (wB h) (s))) (by omega) (show (0 + (1 * ((wSk (wN h) (wB h) (s)) : Int) + 0) : Int) = _ by omega) (show (0 + (1 * (wCh (wN h) (wB h) ((wSk (wN h) (wB h) (s)))) + 0) : Int) = _ by omega)) (pAll0)))
          · refine ⟨rC1m_15, List.mem_of_getElem? (i := 15) rfl, pEnd [ρ 0, ρ 1, ρ 2, ρ 3, ρ 4, ρ 5, (s : Int), ((wSk (wN h) (wB h) (s)) : Int), (wCh (wN h) (wB h) ((wSk (wN h) (wB h) (s))))] rfl ?_ ?_ ?_ ?_⟩
            · intro j hj
              match j, hj with
              | 0, _ => exact q0.symm
              | 1, _ => exact q1.symm
              | 2, _ => exact q2.symm
              | 3, _ => exact q3.symm
              | 4, _ => exact q4.symm
              | 5, _ => exact q5.symm
              | k + 6, hj => exact absurd hj (by show ¬ (k + 6 < 6); omega)
            · intro k b hk
              match k, hk with
              | 0, hk => cases hk; exact (show (0 : Int) ≤ (s : Int) ∧ (s : Int) ≤ (240 : Int) by omega)
              | 1, hk => cases hk; exact (show (0 : Int) ≤ ((wSk (wN h) (wB h) (s)) : Int) ∧ ((wSk (wN h) (wB h) (s)) : Int) ≤ (240 : Int) by omega)
              | 2, hk => cases hk; exact (show (0 : Int) ≤ (wCh (wN h) (wB h) ((wSk (wN h) (wB h) (s)))) ∧ (wCh (wN h) (wB h) ((wSk (wN h) (wB h) (s)))) ≤ (59 : Int) by omega)
              | k + 3, hk => cases hk
            · exact pAll1 (show (0 + (1 * ρ 2 + ((-1) * ρ 4 + 0)) : Int) ≤ 0 by omega) (pAll1 (show (0 + ((-1) * ρ 1 + (1 * ρ 4 + 0)) : Int) ≤ 0 by omega) (pAll1 (show (41 + ((-1) * ρ 5 + 0) : Int) ≤ 0 by omega) (pAll1 (show (1 + (1 * ρ 4 + ((-1) * (s : Int) + 0)) : Int) ≤ 0 by omega) (pAll1 (show (0 + (1 * (s : Int) + ((-1) * ((wSk (wN h) (wB h) (s)) : Int) + 0)) : Int) ≤ 0 by omega) (pAll1 (show (0 + ((-1) * ρ 1 + (1 * ((wSk (wN h) (wB h) (s)) : Int) + 0)) : Int) ≤ 0 by omega) (pAll1 (show (0 + (1 * ρ 3 + ((-1) * ((wSk (wN h) (wB h) (s)) : Int) + 0)) : Int) ≤ 0 by omega) (pAll1 (show (0 + ((-1) * ρ 3 + (1 * ((wSk (wN h) (wB h) (s)) : Int) + 0)) : Int) ≤ 0 by omega) (pAll0))))))))
            · exact pAll1 (pgG ho hh 505 3 rfl rfl (0) ((wSk (wN h) (wB h) (p))) (by omega) (by omega) (show (0 + (1 * ρ 4 + 0) : Int) = _ by omega) (show (0 + (1 * (s : Int) + 0) : Int) = _ by omega)) (pAll1 (pgS ho hh (s) (by omega) (show (0 + (1 * (s : Int) + 0) : Int) = _ by omega) (show (0 + (1 * ((wSk (wN h) (wB h) (s)) : Int) + 0) : Int) = _ by omega)) (pAll1 (pgC ho hh ((wSk (wN h) (wB h) (s))) (by omega) (show (0 + (1 * ((wSk (wN h) (wB h) (s)) : Int) + 0) : Int) = _ by omega) (show (0 + (1 * (wCh (wN h) (wB h) ((wSk (wN h) (wB h) (s)))) + 0) : Int) = _ by omega)) (pAll0)))
        · have hu : (wCh (wN h) (wB h) ((wSk (wN h) (wB h) (p)))) ≤ 32 ∨ (34 ≤ (wCh (wN h) (wB h) ((wSk (wN h) (wB h) (p)))) ∧ (wCh (wN h) (wB h) ((wSk (wN h) (wB h) (p)))) ≤ 39) ∨ 41 ≤ (wCh (wN h) (wB h) ((wSk (wN h) (wB h) (p)))) := by omega
          rcases hu with hu | hu | hu
          · refine ⟨rC1m_6, List.mem_of_getElem? (i := 6) rfl, pEnd [ρ 0, ρ 1, ρ 2, ρ 3, ρ 4, ρ 5, (s : Int), ((wSk (wN h) (wB h) (s)) : Int), (wCh (wN h) (wB h) ((wSk (wN h) (wB h) (s))))] rfl ?_ ?_ ?_ ?_⟩
            · intro j hj
              match j, hj with
              | 0, _ => exact q0.symm
              | 1, _ => exact q1.symm
              | 2, _ => exact q2.symm
              | 3, _ => exact q3.symm
              | 4, _ => exact q4.symm
              | 5, _ => exact q5.symm
              | k + 6, hj => exact absurd hj (by show ¬ (k + 6 < 6); omega)
            · intro k b hk
              match k, hk with
              | 0, hk => cases hk; exact (show (0 : Int) ≤ (s : Int) ∧ (s : Int) ≤ (240 : Int) by omega)
              | 1, hk => cases hk; exact (show (0 : Int) ≤ ((wSk (wN h) (wB h) (s)) : Int) ∧ ((wSk (wN h) (wB h) (s)) : Int) ≤ (240 : Int) by omega)
              | 2, hk => cases hk; exact (show (63 : Int) ≤ (wCh (wN h) (wB h) ((wSk (wN h) (wB h) (s)))) ∧ (wCh (wN h) (wB h) ((wSk (wN h) (wB h) (s)))) ≤ (255 : Int) by omega)
              | k + 3, hk => cases hk
            · exact pAll1 (show (0 + (1 * ρ 2 + ((-1) * ρ 4 + 0)) : Int) ≤ 0 by omega) (pAll1 (show (0 + ((-1) * ρ 1 + (1 * ρ 4 + 0)) : Int) ≤ 0 by omega) (pAll1 (show ((-32) + (1 * ρ 5 + 0) : Int) ≤ 0 by omega) (pAll1 (show (1 + (1 * ρ 4 + ((-1) * (s : Int) + 0)) : Int) ≤ 0 by omega) (pAll1 (show (0 + (1 * (s : Int) + ((-1) * ((wSk (wN h) (wB h) (s)) : Int) + 0)) : Int) ≤ 0 by omega) (pAll1 (show (0 + ((-1) * ρ 1 + (1 * ((wSk (wN h) (wB h) (s)) : Int) + 0)) : Int) ≤ 0 by omega) (pAll1 (show (0 + (1 * ρ 3 + ((-1) * ((wSk (wN h) (wB h) (s)) : Int) + 0)) : Int) ≤ 0 by omega) (pAll1 (show (0 + ((-1) * ρ 3 + (1 * ((wSk (wN h) (wB h) (s)) : Int) + 0)) : Int) ≤ 0 by omega) (pAll0))))))))
            · exact pAll1 (pgG ho hh 505 3 rfl rfl (0) ((wSk (wN h) (wB h) (p))) (by omega) (by omega) (show (0 + (1 * ρ 4 + 0) : Int) = _ by omega) (show (0 + (1 * (s : Int) + 0) : Int) = _ by omega)) (pAll1 (pgS ho hh (s) (by omega) (show (0 + (1 * (s : Int) + 0) : Int) = _ by omega) (show (0 + (1 * ((wSk (wN h) (wB h) (s)) : Int) + 0) : Int) = _ by omega)) (pAll1 (pgC ho hh ((wSk (wN h) (wB h) (s))) (by omega) (show (0 + (1 * ((wSk (wN h) (wB h) (s)) : Int) + 0) : Int) = _ by omega) (show (0 + (1 * (wCh (wN h) (wB h) ((wSk (wN h) (wB h) (s)))) + 0) : Int) = _ by omega)) (pAll0)))
          · refine ⟨rC1m_11, List.mem_of_getElem? (i := 11) rfl, pEnd [ρ 0, ρ 1, ρ 2, ρ 3, ρ 4, ρ 5, (s : Int), ((wSk (wN h) (wB h) (s)) : Int), (wCh (wN h) (wB h) ((wSk (wN h) (wB h) (s))))] rfl ?_ ?_ ?_ ?_⟩
            · intro j hj
              match j, hj with
              | 0, _ => exact q0.symm
              | 1, _ => exact q1.symm
              | 2, _ => exact q2.symm
              | 3, _ => exact q3.symm
              | 4, _ => exact q4.symm
              | 5, _ => exact q5.symm
              | k + 6, hj => exact absurd hj (by show ¬ (k + 6 < 6); omega)
            · intro k b hk
              match k, hk with
              | 0, hk => cases hk; exact (show (0 : Int) ≤ (s : Int) ∧ (s : Int) ≤ (240 : Int) by omega)
              | 1, hk => cases hk; exact (show (0 : Int) ≤ ((wSk (wN h) (wB h) (s)) : Int) ∧ ((wSk (wN h) (wB h) (s)) : Int) ≤ (240 : Int) by omega)
              | 2, hk => cases hk; exact (show (63 : Int) ≤ (wCh (wN h) (wB h) ((wSk (wN h) (wB h) (s)))) ∧ (wCh (wN h) (wB h) ((wSk (wN h) (wB h) (s)))) ≤ (255 : Int) by omega)
              | k + 3, hk => cases hk
            · exact pAll1 (show (0 + (1 * ρ 2 + ((-1) * ρ 4 + 0)) : Int) ≤ 0 by omega) (pAll1 (show (0 + ((-1) * ρ 1 + (1 * ρ 4 + 0)) : Int) ≤ 0 by omega) (pAll1 (show (34 + ((-1) * ρ 5 + 0) : Int) ≤ 0 by omega) (pAll1 (show ((-39) + (1 * ρ 5 + 0) : Int) ≤ 0 by omega) (pAll1 (show (1 + (1 * ρ 4 + ((-1) * (s : Int) + 0)) : Int) ≤ 0 by omega) (pAll1 (show (0 + (1 * (s : Int) + ((-1) * ((wSk (wN h) (wB h) (s)) : Int) + 0)) : Int) ≤ 0 by omega) (pAll1 (show (0 + ((-1) * ρ 1 + (1 * ((wSk (wN h) (wB h) (s)) : Int) + 0)) : Int) ≤ 0 by omega) (pAll1 (show (0 + (1 * ρ 3 + ((-1) * ((wSk (wN h) (wB h) (s)) : Int) + 0)) : Int) ≤ 0 by omega) (pAll1 (show (0 + ((-1) * ρ 3 + (1 * ((wSk (wN h) (wB h) (s)) : Int) + 0)) : Int) ≤ 0 by omega) (pAll0)))))))))
            · exact pAll1 (pgG ho hh 505 3 rfl rfl (0) ((wSk (wN h) (wB h) (p))) (by omega) (by omega) (show (0 + (1 * ρ 4 + 0) : Int) = _ by omega) (show (0 + (1 * (s : Int) + 0) : Int) = _ by omega)) (pAll1 (pgS ho hh (s) (by omega) (show (0 + (1 * (s : Int) + 0) : Int) = _ by omega) (show (0 + (1 * ((wSk (wN h) (wB h) (s)) : Int) + 0) : Int) = _ by omega)) (pAll1 (pgC ho hh ((wSk (wN h) (wB h) (s))) (by omega) (show (0 + (1 * ((wSk (wN h) (wB h) (s)) : Int) + 0) : Int) = _ by omega) (show (0 + (1 * (wCh (wN h) (wB h) ((wSk (wN h) (wB h) (s)))) + 0) : Int) = _ by omega)) (pAll0)))
          · refine ⟨rC1m_16, List.mem_of_getElem? (i := 16) rfl, pEnd [ρ 0, ρ 1, ρ 2, ρ 3, ρ 4, ρ 5, (s : Int), ((wSk (wN h) (wB h) (s)) : Int), (wCh (wN h) (wB h) ((wSk (wN h) (wB h) (s))))] rfl ?_ ?_ ?_ ?_⟩
            · intro j hj
              match j, hj with
              | 0, _ => exact q0.symm
              | 1, _ => exact q1.symm
              | 2, _ => exact q2.symm
              | 3, _ => exact q3.symm
              | 4, _ => exact q4.symm
              | 5, _ => exact q5.symm
              | k + 6, hj => exact absurd hj (by show ¬ (k + 6 < 6); omega)
            · intro k b hk
              match k, hk with
              | 0, hk => cases hk; exact (show (0 : Int) ≤ (s : Int) ∧ (s : Int) ≤ (240 : Int) by omega)
              | 1, hk => cases hk; exact (show (0 : Int) ≤ ((wSk (wN h) (wB h) (s)) : Int) ∧ ((wSk (wN h) (wB h) (s)) : Int) ≤ (240 : Int) by omega)
              | 2, hk => cases hk; exact (show (63 : Int) ≤ (wCh (wN h) (wB h) ((wSk (wN h) (wB h) (s)))) ∧ (wCh (wN h) (wB h) ((wSk (wN h) (wB h) (s)))) ≤ (255 : Int) by omega)
              | k + 3, hk => cases hk
            · exact pAll1 (show (0 + (1 * ρ 2 + ((-1) * ρ 4 + 0)) : Int) ≤ 0 by omega) (pAll1 (show (0 + ((-1) * ρ 1 + (1 * ρ 4 + 0)) : Int) ≤ 0 by omega) (pAll1 (show (41 + ((-1) * ρ 5 + 0) : Int) ≤ 0 by omega) (pAll1 (show (1 + (1 * ρ 4 + ((-1) * (s : Int) + 0)) : Int) ≤ 0 by omega) (pAll1 (show (0 + (1 * (s : Int) + ((-1) * ((wSk (wN h) (wB h) (s)) : Int) + 0)) : Int) ≤ 0 by omega) (pAll1 (show (0 + ((-1) * ρ 1 + (1 * ((wSk (wN h) (wB h) (s)) : Int) + 0)) : Int) ≤ 0 by omega) (pAll1 (show (0 + (1 * ρ 3 + ((-1) * ((wSk (wN h) (wB h) (s)) : Int) + 0)) : Int) ≤ 0 by omega) (pAll1 (show (0 + ((-1) * ρ 3 + (1 * ((wSk (wN h) (wB h) (s)) : Int) + 0)) : Int) ≤ 0 by omega) (pAll0))))))))
            · exact pAll1 (pgG ho hh 505 3 rfl rfl (0) ((wSk (wN h) (wB h) (p))) (by omega) (by omega) (show (0 + (1 * ρ 4 + 0) : Int) = _ by omega) (show (0 + (1 * (s : Int) + 0) : Int) = _ by omega)) (pAll1 (pgS ho hh (s) (by omega) (show (0 + (1 * (s : Int) + 0) : Int) = _ by omega) (show (0 + (1 * ((wSk (wN h) (wB h) (s)) : Int) + 0) : Int) = _ by omega)) (pAll1 (pgC ho hh ((wSk (wN h) (wB h) (s))) (by omega) (show (0 + (1 * ((wSk (wN h) (wB h) (s)) : Int) + 0) : Int) = _ by omega) (show (0 + (1 * (wCh (wN h) (wB h) ((wSk (wN h) (wB h) (s)))) + 0) : Int) = _ by omega)) (pAll0)))
noncomputable def rLTm_0 : sX := (none, [(513, (0, [(2, 1)]), (0, [(4, 1)]))], [((-241), (-1))], [(0, [(3, 1), (4, (-1))]), (0, [(3, (-1)), (4, 1)])], [])
noncomputable def rLTm_1 : sX := (none, [(513, (0, [(2, 1)]), (0, [(4, 1)])), (500, (0, [(4, 1)]), (0, [(5, 1)])), (501, (0, [(5, 1)]), (0, [(6, 1)])), (500, (0, [(5, 1)]), (0, [(5, 1)])), (514, (1, [(5, 1)]), (0, [(3, 1)]))], [(0, 240), (0, 240), (59, 59)], [(1, [(2, 1), (4, (-1))]), (0, [(4, 1), (5, (-1))]), (1, [(1, (-1)), (5, 1)])], [])
noncomputable def rLTm_2 : sX := (none, [(513, (0, [(2, 1)]), (0, [(4, 1)])), (500, (0, [(4, 1)]), (0, [(5, 1)])), (501, (0, [(5, 1)]), (0, [(6, 1)])), (500, (0, [(5, 1)]), (0, [(5, 1)]))], [(0, 240), (0, 240), (0, 0)], [(1, [(2, 1), (4, (-1))]), (0, [(4, 1), (5, (-1))]), (0, [(1, (-1)), (5, 1)]), (0, [(1, 1), (5, (-1))]), (0, [(3, 1), (5, (-1))]), (0, [(3, (-1)), (5, 1)])], [])
noncomputable def rLTm_3 : sX := (none, [(513, (0, [(2, 1)]), (0, [(4, 1)])), (500, (0, [(4, 1)]), (0, [(5, 1)])), (501, (0, [(5, 1)]), (0, [(6, 1)])), (500, (0, [(5, 1)]), (0, [(5, 1)]))], [(0, 240), (0, 240), (1, 58)], [(1, [(2, 1), (4, (-1))]), (0, [(4, 1), (5, (-1))]), (1, [(1, (-1)), (5, 1)]), (1, [(3, 1), (5, 1)]), ((-1), [(3, (-1)), (5, (-1))])], [])
noncomputable def rLTm_4 : sX := (none, [(513, (0, [(2, 1)]), (0, [(4, 1)])), (500, (0, [(4, 1)]), (0, [(5, 1)])), (501, (0, [(5, 1)]), (0, [(6, 1)])), (500, (0, [(5, 1)]), (0, [(5, 1)]))], [(0, 240), (0, 240), (60, 255)], [(1, [(2, 1), (4, (-1))]), (0, [(4, 1), (5, (-1))]), (1, [(1, (-1)), (5, 1)]), (1, [(3, 1), (5, 1)]), ((-1), [(3, (-1)), (5, (-1))])], [])
noncomputable def rLTm : sQ := (0, ([], [(2, 1013, (0, [])), (2, 120, (2, [])), (2, 120, (3, [])), (2, 514, (0, [(2, 1)]))], [(1, 1), (0, 240), (0, 240), ((-241), 240)], [(0, [(1, (-1)), (2, 1)])], [(0, 0), (1, 1), (2, 2), (3, 3)], (0, [])), [rLTm_0, rLTm_1, rLTm_2, rLTm_3, rLTm_4], [], 0)
theorem rLTm_ok : pRul pReg pG pgv rLTm := by
  intro loc h ρ ρ0 hG hM
  have hM : sMt pReg pgv ρ ρ0 (sAs rLTm.2.1) loc [] h := hM
  have q0 : ρ0 1 = ρ 0 := (hM.2.2.2.2.2 (1, sY 0) (List.mem_of_getElem? (i := 1) rfl)).trans (sY_v ρ 0)
  have q1 : ρ0 2 = ρ 1 := (hM.2.2.2.2.2 (2, sY 1) (List.mem_of_getElem? (i := 2) rfl)).trans (sY_v ρ 1)
  have q2 : ρ0 3 = ρ 2 := (hM.2.2.2.2.2 (3, sY 2) (List.mem_of_getElem? (i := 3) rfl)).trans (sY_v ρ 2)
  have q3 : ρ0 4 = ρ 3 := (hM.2.2.2.2.2 (4, sY 3) (List.mem_of_getElem? (i := 4) rfl)).trans (sY_v ρ 3)
  have hL : ∀ j, j < 4 → pL [ρ 0, ρ 1, ρ 2, ρ 3] j = ρ0 (j + 1) := by
    intro j hj
    match j, hj with
    | 0, _ => exact q0.symm
    | 1, _ => exact q1.symm
    | 2, _ => exact q2.symm
    | 3, _ => exact q3.symm
    | k + 4, hj => omega
  have b0 : (1 : Int) ≤ ρ 0 ∧ ρ 0 ≤ 1 := hM.2.2.2.1 0 (1, 1) rfl
  have b1 : (0 : Int) ≤ ρ 1 ∧ ρ 1 ≤ 240 := hM.2.2.2.1 1 (0, 240) rfl
  have b2 : (0 : Int) ≤ ρ 2 ∧ ρ 2 ≤ 240 := hM.2.2.2.1 2 (0, 240) rfl
  have b3 : ((-241) : Int) ≤ ρ 3 ∧ ρ 3 ≤ 240 := hM.2.2.2.1 3 ((-241), 240) rfl
  have c0 : (0 + ((-1) * ρ 1 + (1 * ρ 2 + 0)) : Int) ≤ 0 := hM.2.2.2.2.1 (0, [(1, (-1)), (2, 1)]) (List.mem_of_getElem? (i := 0) rfl)
  obtain ⟨ho, hs, hh⟩ := pTold13 hM 0 (0, []) rfl b0.1
  have hn := ho.1
  have en : ρ 1 = (wN h : Int) := (pPl hM 1 120 (2, []) rfl (by omega) 440 2 (by decide +kernel) rfl).symm.trans hs.1
  obtain ⟨p, ep⟩ : ∃ p : Nat, ρ 2 = (p : Int) := ⟨(ρ 2).toNat, by omega⟩
  have hp : p ≤ wN h := by omega
  obtain ⟨s1, s2⟩ := wSk_le (B := wB h) hp
  have er : ρ 3 = (wG (wN h) (wB h) 12 (0) (p)) := pfG hM ho hh 3 514 12 (0, [(2, 1)]) rfl rfl rfl (d := 0) (p := p) (by omega) (by omega) (by show (0 + (1 * ρ 2 + 0) : Int) = _; omega)
  rw [wE_LT hp] at er
  have g := wG_gd (n := wN h) (B := wB h) 11 0 p rfl hp
  rcases wBd_el er g with ⟨a1, a2⟩ | ⟨s, a1, a2, a3, a4⟩
  · have := g.1 a1
    refine ⟨rLTm_0, List.mem_of_getElem? (i := 0) rfl, pEnd [ρ 0, ρ 1, ρ 2, ρ 3, (wG (wN h) (wB h) 11 (0) (p))] rfl ?_ ?_ ?_ ?_⟩
    · intro j hj
      match j, hj with
      | 0, _ => exact q0.symm
      | 1, _ => exact q1.symm
      | 2, _ => exact q2.symm
      | 3, _ => exact q3.symm
      | k + 4, hj => exact absurd hj (by show ¬ (k + 4 < 4); omega)
    · intro k b hk
      match k, hk with
      | 0, hk => cases hk; exact (show ((-241) : Int) ≤ (wG (wN h) (wB h) 11 (0) (p)) ∧ (wG (wN h) (wB h) 11 (0) (p)) ≤ ((-1) : Int) by omega)
      | k + 1, hk => cases hk
    · exact pAll1 (show (0 + (1 * ρ 3 + ((-1) * (wG (wN h) (wB h) 11 (0) (p)) + 0)) : Int) ≤ 0 by omega) (pAll1 (show (0 + ((-1) * ρ 3 + (1 * (wG (wN h) (wB h) 11 (0) (p)) + 0)) : Int) ≤ 0 by omega) (pAll0))
    · exact pAll1 (pgG ho hh 513 11 rfl rfl (0) (p) (by omega) (by omega) (show (0 + (1 * ρ 2 + 0) : Int) = _ by omega) (show (0 + (1 * (wG (wN h) (wB h) 11 (0) (p)) + 0) : Int) = _ by omega)) (pAll0)
  · have a2 : p + 1 ≤ s := a2
    obtain ⟨t1, t2⟩ := wSk_le (B := wB h) a3
    have cs := wCh_bd ho (wSk (wN h) (wB h) (s))
    have hi := wSk_id (B := wB h) a3
    have cl : (wCh (wN h) (wB h) ((wSk (wN h) (wB h) (s)))) ≠ 0 → (wSk (wN h) (wB h) (s)) < wN h := wCh_lt
    by_cases h1 : (wCh (wN h) (wB h) ((wSk (wN h) (wB h) (s)))) = 59
    · rw [if_pos h1] at a4
      have := cl (by omega)
      refine ⟨rLTm_1, List.mem_of_getElem? (i := 1) rfl, pEnd [ρ 0, ρ 1, ρ 2, ρ 3, (s : Int), ((wSk (wN h) (wB h) (s)) : Int), (wCh (wN h) (wB h) ((wSk (wN h) (wB h) (s))))] rfl ?_ ?_ ?_ ?_⟩
      · intro j hj
        match j, hj with
        | 0, _ => exact q0.symm
        | 1, _ => exact q1.symm
        | 2, _ => exact q2.symm
        | 3, _ => exact q3.symm
        | k + 4, hj => exact absurd hj (by show ¬ (k + 4 < 4); omega)
      · intro k b hk
        match k, hk with
        | 0, hk => cases hk; exact (show (0 : Int) ≤ (s : Int) ∧ (s : Int) ≤ (240 : Int) by omega)
        | 1, hk => cases hk; exact (show (0 : Int) ≤ ((wSk (wN h) (wB h) (s)) : Int) ∧ ((wSk (wN h) (wB h) (s)) : Int) ≤ (240 : Int) by omega)
        | 2, hk => cases hk; exact (show (59 : Int) ≤ (wCh (wN h) (wB h) ((wSk (wN h) (wB h) (s)))) ∧ (wCh (wN h) (wB h) ((wSk (wN h) (wB h) (s)))) ≤ (59 : Int) by omega)
        | k + 3, hk => cases hk
      · exact pAll1 (show (1 + (1 * ρ 2 + ((-1) * (s : Int) + 0)) : Int) ≤ 0 by omega) (pAll1 (show (0 + (1 * (s : Int) + ((-1) * ((wSk (wN h) (wB h) (s)) : Int) + 0)) : Int) ≤ 0 by omega) (pAll1 (show (1 + ((-1) * ρ 1 + (1 * ((wSk (wN h) (wB h) (s)) : Int) + 0)) : Int) ≤ 0 by omega) (pAll0)))
      · exact pAll1 (pgG ho hh 513 11 rfl rfl (0) (p) (by omega) (by omega) (show (0 + (1 * ρ 2 + 0) : Int) = _ by omega) (show (0 + (1 * (s : Int) + 0) : Int) = _ by omega)) (pAll1 (pgS ho hh (s) (by omega) (show (0 + (1 * (s : Int) + 0) : Int) = _ by omega) (show (0 + (1 * ((wSk (wN h) (wB h) (s)) : Int) + 0) : Int) = _ by omega)) (pAll1 (pgC ho hh ((wSk (wN h) (wB h) (s))) (by omega) (show (0 + (1 * ((wSk (wN h) (wB h) (s)) : Int) + 0) : Int) = _ by omega) (show (0 + (1 * (wCh (wN h) (wB h) ((wSk (wN h) (wB h) (s)))) + 0) : Int) = _ by omega)) (pAll1 (pgS ho hh ((wSk (wN h) (wB h) (s))) (by omega) (show (0 + (1 * ((wSk (wN h) (wB h) (s)) : Int) + 0) : Int) = _ by omega) (show (0 + (1 * ((wSk (wN h) (wB h) (s)) : Int) + 0) : Int) = _ by omega)) (pAll1 (pgG ho hh 514 12 rfl rfl (0) ((wSk (wN h) (wB h) (s)) + 1) (by omega) (by omega) (show (1 + (1 * ((wSk (wN h) (wB h) (s)) : Int) + 0) : Int) = _ by omega) (show (0 + (1 * ρ 3 + 0) : Int) = _ by omega)) (pAll0)))))
    · rw [if_neg h1] at a4
      by_cases h2 : (wCh (wN h) (wB h) ((wSk (wN h) (wB h) (s)))) = 0
      · rw [if_pos h2] at a4
        have : ¬ (wSk (wN h) (wB h) (s)) < wN h := fun z => by have := cs.2.2 z; omega
        refine ⟨rLTm_2, List.mem_of_getElem? (i := 2) rfl, pEnd [ρ 0, ρ 1, ρ 2, ρ 3, (s : Int), ((wSk (wN h) (wB h) (s)) : Int), (wCh (wN h) (wB h) ((wSk (wN h) (wB h) (s))))] rfl ?_ ?_ ?_ ?_⟩
        · intro j hj
          match j, hj with
          | 0, _ => exact q0.symm
          | 1, _ => exact q1.symm
          | 2, _ => exact q2.symm
          | 3, _ => exact q3.symm
          | k + 4, hj => exact absurd hj (by show ¬ (k + 4 < 4); omega)
        · intro k b hk
          match k, hk with
          | 0, hk => cases hk; exact (show (0 : Int) ≤ (s : Int) ∧ (s : Int) ≤ (240 : Int) by omega)
          | 1, hk => cases hk; exact (show (0 : Int) ≤ ((wSk (wN h) (wB h) (s)) : Int) ∧ ((wSk (wN h) (wB h) (s)) : Int) ≤ (240 : Int) by omega)
          | 2, hk => cases hk; exact (show (0 : Int) ≤ (wCh (wN h) (wB h) ((wSk (wN h) (wB h) (s)))) ∧ (wCh (wN h) (wB h) ((wSk (wN h) (wB h) (s)))) ≤ (0 : Int) by omega)
          | k + 3, hk => cases hk
        · exact pAll1 (show (1 + (1 * ρ 2 + ((-1) * (s : Int) + 0)) : Int) ≤ 0 by omega) (pAll1 (show (0 + (1 * (s : Int) + ((-1) * ((wSk (wN h) (wB h) (s)) : Int) + 0)) : Int) ≤ 0 by omega) (pAll1 (show (0 + ((-1) * ρ 1 + (1 * ((wSk (wN h) (wB h) (s)) : Int) + 0)) : Int) ≤ 0 by omega) (pAll1 (show (0 + (1 * ρ 1 + ((-1) * ((wSk (wN h) (wB h) (s)) : Int) + 0)) : Int) ≤ 0 by omega) (pAll1 (show (0 + (1 * ρ 3 + ((-1) * ((wSk (wN h) (wB h) (s)) : Int) + 0)) : Int) ≤ 0 by omega) (pAll1 (show (0 + ((-1) * ρ 3 + (1 * ((wSk (wN h) (wB h) (s)) : Int) + 0)) : Int) ≤ 0 by omega) (pAll0))))))
        · exact pAll1 (pgG ho hh 513 11 rfl rfl (0) (p) (by omega) (by omega) (show (0 + (1 * ρ 2 + 0) : Int) = _ by omega) (show (0 + (1 * (s : Int) + 0) : Int) = _ by omega)) (pAll1 (pgS ho hh (s) (by omega) (show (0 + (1 * (s : Int) + 0) : Int) = _ by omega) (show (0 + (1 * ((wSk (wN h) (wB h) (s)) : Int) + 0) : Int) = _ by omega)) (pAll1 (pgC ho hh ((wSk (wN h) (wB h) (s))) (by omega) (show (0 + (1 * ((wSk (wN h) (wB h) (s)) : Int) + 0) : Int) = _ by omega) (show (0 + (1 * (wCh (wN h) (wB h) ((wSk (wN h) (wB h) (s)))) + 0) : Int) = _ by omega)) (pAll1 (pgS ho hh ((wSk (wN h) (wB h) (s))) (by omega) (show (0 + (1 * ((wSk (wN h) (wB h) (s)) : Int) + 0) : Int) = _ by omega) (show (0 + (1 * ((wSk (wN h) (wB h) (s)) : Int) + 0) : Int) = _ by omega)) (pAll0))))
      · rw [if_neg h2] at a4
        unfold wFl at a4
        have := cl (by omega)
        have hu : (wCh (wN h) (wB h) ((wSk (wN h) (wB h) (s)))) ≤ 58 ∨ 60 ≤ (wCh (wN h) (wB h) ((wSk (wN h) (wB h) (s)))) := by omega
        rcases hu with hu | hu
        · refine ⟨rLTm_3, List.mem_of_getElem? (i := 3) rfl, pEnd [ρ 0, ρ 1, ρ 2, ρ 3, (s : Int), ((wSk (wN h) (wB h) (s)) : Int), (wCh (wN h) (wB h) ((wSk (wN h) (wB h) (s))))] rfl ?_ ?_ ?_ ?_⟩
          · intro j hj
            match j, hj with
            | 0, _ => exact q0.symm
            | 1, _ => exact q1.symm
            | 2, _ => exact q2.symm
            | 3, _ => exact q3.symm
            | k + 4, hj => exact absurd hj (by show ¬ (k + 4 < 4); omega)
          · intro k b hk
            match k, hk with
            | 0, hk => cases hk; exact (show (0 : Int) ≤ (s : Int) ∧ (s : Int) ≤ (240 : Int) by omega)
            | 1, hk => cases hk; exact (show (0 : Int) ≤ ((wSk (wN h) (wB h) (s)) : Int) ∧ ((wSk (wN h) (wB h) (s)) : Int) ≤ (240 : Int) by omega)
            | 2, hk => cases hk; exact (show (1 : Int) ≤ (wCh (wN h) (wB h) ((wSk (wN h) (wB h) (s)))) ∧ (wCh (wN h) (wB h) ((wSk (wN h) (wB h) (s)))) ≤ (58 : Int) by omega)
            | k + 3, hk => cases hk
          · exact pAll1 (show (1 + (1 * ρ 2 + ((-1) * (s : Int) + 0)) : Int) ≤ 0 by omega) (pAll1 (show (0 + (1 * (s : Int) + ((-1) * ((wSk (wN h) (wB h) (s)) : Int) + 0)) : Int) ≤ 0 by omega) (pAll1 (show (1 + ((-1) * ρ 1 + (1 * ((wSk (wN h) (wB h) (s)) : Int) + 0)) : Int) ≤ 0 by omega) (pAll1 (show (1 + (1 * ρ 3 + (1 * ((wSk (wN h) (wB h) (s)) : Int) + 0)) : Int) ≤ 0 by omega) (pAll1 (show ((-1) + ((-1) * ρ 3 + ((-1) * ((wSk (wN h) (wB h) (s)) : Int) + 0)) : Int) ≤ 0 by omega) (pAll0)))))
          · exact pAll1 (pgG ho hh 513 11 rfl rfl (0) (p) (by omega) (by omega) (show (0 + (1 * ρ 2 + 0) : Int) = _ by omega) (show (0 + (1 * (s : Int) + 0) : Int) = _ by omega)) (pAll1 (pgS ho hh (s) (by omega) (show (0 + (1 * (s : Int) + 0) : Int) = _ by omega) (show (0 + (1 * ((wSk (wN h) (wB h) (s)) : Int) + 0) : Int) = _ by omega)) (pAll1 (pgC ho hh ((wSk (wN h) (wB h) (s))) (by omega) (show (0 + (1 * ((wSk (wN h) (wB h) (s)) : Int) + 0) : Int) = _ by omega) (show (0 + (1 * (wCh (wN h) (wB h) ((wSk (wN h) (wB h) (s)))) + 0) : Int) = _ by omega)) (pAll1 (pgS ho hh ((wSk (wN h) (wB h) (s))) (by omega) (show (0 + (1 * ((wSk (wN h) (wB h) (s)) : Int) + 0) : Int) = _ by omega) (show (0 + (1 * ((wSk (wN h) (wB h) (s)) : Int) + 0) : Int) = _ by omega)) (pAll0))))
        · refine ⟨rLTm_4, List.mem_of_getElem? (i := 4) rfl, pEnd [ρ 0, ρ 1, ρ 2, ρ 3, (s : Int), ((wSk (wN h) (wB h) (s)) : Int), (wCh (wN h) (wB h) ((wSk (wN h) (wB h) (s))))] rfl ?_ ?_ ?_ ?_⟩
          · intro j hj
            match j, hj with
            | 0, _ => exact q0.symm
            | 1, _ => exact q1.symm
            | 2, _ => exact q2.symm
            | 3, _ => exact q3.symm
            | k + 4, hj => exact absurd hj (by show ¬ (k + 4 < 4); omega)
          · intro k b hk
            match k, hk with
            | 0, hk => cases hk; exact (show (0 : Int) ≤ (s : Int) ∧ (s : Int) ≤ (240 : Int) by omega)
            | 1, hk => cases hk; exact (show (0 : Int) ≤ ((wSk (wN h) (wB h) (s)) : Int) ∧ ((wSk (wN h) (wB h) (s)) : Int) ≤ (240 : Int) by omega)
            | 2, hk => cases hk; exact (show (60 : Int) ≤ (wCh (wN h) (wB h) ((wSk (wN h) (wB h) (s)))) ∧ (wCh (wN h) (wB h) ((wSk (wN h) (wB h) (s)))) ≤ (255 : Int) by omega)
            | k + 3, hk => cases hk
          · exact pAll1 (show (1 + (1 * ρ 2 + ((-1) * (s : Int) + 0)) : Int) ≤ 0 by omega) (pAll1 (show (0 + (1 * (s : Int) + ((-1) * ((wSk (wN h) (wB h) (s)) : Int) + 0)) : Int) ≤ 0 by omega) (pAll1 (show (1 + ((-1) * ρ 1 + (1 * ((wSk (wN h) (wB h) (s)) : Int) + 0)) : Int) ≤ 0 by omega) (pAll1 (show (1 + (1 * ρ 3 + (1 * ((wSk (wN h) (wB h) (s)) : Int) + 0)) : Int) ≤ 0 by omega) (pAll1 (show ((-1) + ((-1) * ρ 3 + ((-1) * ((wSk (wN h) (wB h) (s)) : Int) + 0)) : Int) ≤ 0 by omega) (pAll0)))))
          · exact pAll1 (pgG ho hh 513 11 rfl rfl (0) (p) (by omega) (by omega) (show (0 + (1 * ρ 2 + 0) : Int) = _ by omega) (show (0 + (1 * (s : Int) + 0) : Int) = _ by omega)) (pAll1 (pgS ho hh (s) (by omega) (show (0 + (1 * (s : Int) + 0) : Int) = _ by omega) (show (0 + (1 * ((wSk (wN h) (wB h) (s)) : Int) + 0) : Int) = _ by omega)) (pAll1 (pgC ho hh ((wSk (wN h) (wB h) (s))) (by omega) (show (0 + (1 * ((wSk (wN h) (wB h) (s)) : Int) + 0) : Int) = _ by omega) (show (0 + (1 * (wCh (wN h) (wB h) ((wSk (wN h) (wB h) (s)))) + 0) : Int) = _ by omega)) (pAll1 (pgS ho hh ((wSk (wN h) (wB h) (s))) (by omega) (show (0 + (1 * ((wSk (wN h) (wB h) (s)) : Int) + 0) : Int) = _ by omega) (show (0 + (1 * ((wSk (wN h) (wB h) (s)) : Int) + 0) : Int) = _ by omega)) (pAll0))))
noncomputable def rOOm_0 : sX := (none, [(507, (1, [(3, 241), (5, 1)]), (0, [(7, 1)]))], [((-241), (-1))], [(0, [(2, 1), (5, (-1))]), (1, [(1, (-1)), (5, 1)]), ((-124), [(6, 1)]), (124, [(6, (-1))]), (0, [(4, 1), (7, (-1))]), (0, [(4, (-1)), (7, 1)])], [])
noncomputable def rOOm_1 : sX := (none, [(507, (1, [(3, 241), (5, 1)]), (0, [(7, 1)])), (509, (0, [(3, 241), (7, 1)]), (0, [(8, 1)]))], [(0, 240), ((-241), (-1))], [(0, [(2, 1), (5, (-1))]), (1, [(1, (-1)), (5, 1)]), ((-124), [(6, 1)]), (124, [(6, (-1))]), (2, [(5, 1), (7, (-1))]), (0, [(1, (-1)), (7, 1)]), (0, [(4, 1), (8, (-1))]), (0, [(4, (-1)), (8, 1)])], [])
noncomputable def rOOm_2 : sX := (none, [(507, (1, [(3, 241), (5, 1)]), (0, [(7, 1)])), (509, (0, [(3, 241), (7, 1)]), (0, [(8, 1)])), (511, (0, [(3, 241), (8, 1)]), (0, [(4, 1)]))], [(0, 240), (0, 240)], [(0, [(2, 1), (5, (-1))]), (1, [(1, (-1)), (5, 1)]), ((-124), [(6, 1)]), (124, [(6, (-1))]), (2, [(5, 1), (7, (-1))]), (0, [(1, (-1)), (7, 1)]), (2, [(5, 1), (8, (-1))]), (0, [(1, (-1)), (8, 1)])], [])
noncomputable def rOOm_3 : sX := (none, [], [], [(0, [(2, 1), (5, (-1))]), (0, [(1, (-1)), (5, 1)]), (0, [(4, 1), (5, (-1))]), (0, [(4, (-1)), (5, 1)]), ((-123), [(6, 1)])], [])
noncomputable def rOOm_4 : sX := (none, [], [], [(0, [(2, 1), (5, (-1))]), (0, [(1, (-1)), (5, 1)]), (0, [(4, 1), (5, (-1))]), (0, [(4, (-1)), (5, 1)]), (125, [(6, (-1))])], [])
noncomputable def rOOm : sQ := (0, ([], [(2, 1013, (0, [])), (2, 120, (2, [])), (2, 120, (3, [])), (2, 120, (5, [])), (2, 511, (0, [(2, 1), (3, 241)])), (2, 500, (0, [(2, 1)])), (2, 501, (0, [(5, 1)]))], [(1, 1), (0, 240), (0, 240), (0, 6), ((-241), 240), (0, 240), (0, 255)], [(0, [(1, (-1)), (2, 1)])], [(0, 0), (1, 1), (2, 2), (3, 3), (4, 4), (5, 5), (6, 6)], (0, [])), [rOOm_0, rOOm_1, rOOm_2, rOOm_3, rOOm_4], [], 0)
theorem rOOm_ok : pRul pReg pG pgv rOOm := by
  intro loc h ρ ρ0 hG hM
  have hM : sMt pReg pgv ρ ρ0 (sAs rOOm.2.1) loc [] h := hM
  have q0 : ρ0 1 = ρ 0 := (hM.2.2.2.2.2 (1, sY 0) (List.mem_of_getElem? (i := 1) rfl)).trans (sY_v ρ 0)
  have q1 : ρ0 2 = ρ 1 := (hM.2.2.2.2.2 (2, sY 1) (List.mem_of_getElem? (i := 2) rfl)).trans (sY_v ρ 1)
  have q2 : ρ0 3 = ρ 2 := (hM.2.2.2.2.2 (3, sY 2) (List.mem_of_getElem? (i := 3) rfl)).trans (sY_v ρ 2)
  have q3 : ρ0 4 = ρ 3 := (hM.2.2.2.2.2 (4, sY 3) (List.mem_of_getElem? (i := 4) rfl)).trans (sY_v ρ 3)
  have q4 : ρ0 5 = ρ 4 := (hM.2.2.2.2.2 (5, sY 4) (List.mem_of_getElem? (i := 5) rfl)).trans (sY_v ρ 4)
  have q5 : ρ0 6 = ρ 5 := (hM.2.2.2.2.2 (6, sY 5) (List.mem_of_getElem? (i := 6) rfl)).trans (sY_v ρ 5)
  have q6 : ρ0 7 = ρ 6 := (hM.2.2.2.2.2 (7, sY 6) (List.mem_of_getElem? (i := 7) rfl)).trans (sY_v ρ 6)
  have hL : ∀ j, j < 7 → pL [ρ 0, ρ 1, ρ 2, ρ 3, ρ 4, ρ 5, ρ 6] j = ρ0 (j + 1) := by
    intro j hj
    match j, hj with
    | 0, _ => exact q0.symm
    | 1, _ => exact q1.symm
    | 2, _ => exact q2.symm
    | 3, _ => exact q3.symm
    | 4, _ => exact q4.symm
    | 5, _ => exact q5.symm
    | 6, _ => exact q6.symm
    | k + 7, hj => omega
  have b0 : (1 : Int) ≤ ρ 0 ∧ ρ 0 ≤ 1 := hM.2.2.2.1 0 (1, 1) rfl
  have b1 : (0 : Int) ≤ ρ 1 ∧ ρ 1 ≤ 240 := hM.2.2.2.1 1 (0, 240) rfl
  have b2 : (0 : Int) ≤ ρ 2 ∧ ρ 2 ≤ 240 := hM.2.2.2.1 2 (0, 240) rfl
  have b3 : (0 : Int) ≤ ρ 3 ∧ ρ 3 ≤ 6 := hM.2.2.2.1 3 (0, 6) rfl
  have b4 : ((-241) : Int) ≤ ρ 4 ∧ ρ 4 ≤ 240 := hM.2.2.2.1 4 ((-241), 240) rfl
  have b5 : (0 : Int) ≤ ρ 5 ∧ ρ 5 ≤ 240 := hM.2.2.2.1 5 (0, 240) rfl
  have b6 : (0 : Int) ≤ ρ 6 ∧ ρ 6 ≤ 255 := hM.2.2.2.1 6 (0, 255) rfl
  have c0 : (0 + ((-1) * ρ 1 + (1 * ρ 2 + 0)) : Int) ≤ 0 := hM.2.2.2.2.1 (0, [(1, (-1)), (2, 1)]) (List.mem_of_getElem? (i := 0) rfl)
  obtain ⟨ho, hs, hh⟩ := pTold13 hM 0 (0, []) rfl b0.1
  have hn := ho.1
  have en : ρ 1 = (wN h : Int) := (pPl hM 1 120 (2, []) rfl (by omega) 440 2 (by decide +kernel) rfl).symm.trans hs.1
  obtain ⟨p, ep⟩ : ∃ p : Nat, ρ 2 = (p : Int) := ⟨(ρ 2).toNat, by omega⟩
  have hp : p ≤ wN h := by omega
  obtain ⟨s1, s2⟩ := wSk_le (B := wB h) hp
  obtain ⟨d, ed⟩ : ∃ d : Nat, ρ 3 = (d : Int) := ⟨(ρ 3).toNat, by omega⟩
  have er : ρ 4 = (wG (wN h) (wB h) 9 (d) (p)) := pfG hM ho hh 4 511 9 (0, [(2, 1), (3, 241)]) rfl rfl rfl (d := d) (p := p) (by omega) (by omega) (by show (0 + (1 * ρ 2 + (241 * ρ 3 + 0)) : Int) = _; omega)
  have eq : ρ 5 = ((wSk (wN h) (wB h) (p)) : Int) := pfS hM ho hh 5 (0, [(2, 1)]) rfl (p := p) (by omega) (by show (0 + (1 * ρ 2 + 0) : Int) = _; omega)
  have ec : ρ 6 = (wCh (wN h) (wB h) ((wSk (wN h) (wB h) (p)))) := pfC hM ho hh 6 (0, [(5, 1)]) rfl (p := (wSk (wN h) (wB h) (p))) (by omega) (by show (0 + (1 * ρ 5 + 0) : Int) = _; omega)
  have cbc := wCh_bd ho ((wSk (wN h) (wB h) (p)))
  have clc : (wCh (wN h) (wB h) ((wSk (wN h) (wB h) (p)))) ≠ 0 → (wSk (wN h) (wB h) (p)) < wN h := wCh_lt
  rw [wE_OT hp] at er
  by_cases h1 : (wCh (wN h) (wB h) ((wSk (wN h) (wB h) (p)))) = 124
  · rw [if_pos h1] at er
    have hq := clc (by omega)
    have g := wG_gd (n := wN h) (B := wB h) 8 d ((wSk (wN h) (wB h) (p)) + 1) rfl (by omega)
    have gu := wG_gd (n := wN h) (B := wB h) 5 d ((wSk (wN h) (wB h) (p)) + 1) rfl (by omega)
    have e8 := wE_TR (n := wN h) (B := wB h) (d := d) (p := (wSk (wN h) (wB h) (p)) + 1) (by omega)
    rcases wBd_el e8 gu with ⟨f1, f2⟩ | ⟨u, f1, f2, f3, f4⟩
    · have := gu.1 f1
      rcases wBd_el er g with ⟨a1, a2⟩ | ⟨s, a1, a2, a3, a4⟩
      · refine ⟨rOOm_0, List.mem_of_getElem? (i := 0) rfl, pEnd [ρ 0, ρ 1, ρ 2, ρ 3, ρ 4, ρ 5, ρ 6, (wG (wN h) (wB h) 5 (d) ((wSk (wN h) (wB h) (p)) + 1))] rfl ?_ ?_ ?_ ?_⟩
        · intro j hj
          match j, hj with
          | 0, _ => exact q0.symm
          | 1, _ => exact q1.symm
          | 2, _ => exact q2.symm
          | 3, _ => exact q3.symm
          | 4, _ => exact q4.symm
          | 5, _ => exact q5.symm
          | 6, _ => exact q6.symm
          | k + 7, hj => exact absurd hj (by show ¬ (k + 7 < 7); omega)
        · intro k b hk
          match k, hk with
          | 0, hk => cases hk; exact (show ((-241) : Int) ≤ (wG (wN h) (wB h) 5 (d) ((wSk (wN h) (wB h) (p)) + 1)) ∧ (wG (wN h) (wB h) 5 (d) ((wSk (wN h) (wB h) (p)) + 1)) ≤ ((-1) : Int) by omega)
          | k + 1, hk => cases hk
        · exact pAll1 (show (0 + (1 * ρ 2 + ((-1) * ρ 5 + 0)) : Int) ≤ 0 by omega) (pAll1 (show (1 + ((-1) * ρ 1 + (1 * ρ 5 + 0)) : Int) ≤ 0 by omega) (pAll1 (show ((-124) + (1 * ρ 6 + 0) : Int) ≤ 0 by omega) (pAll1 (show (124 + ((-1) * ρ 6 + 0) : Int) ≤ 0 by omega) (pAll1 (show (0 + (1 * ρ 4 + ((-1) * (wG (wN h) (wB h) 5 (d) ((wSk (wN h) (wB h) (p)) + 1)) + 0)) : Int) ≤ 0 by omega) (pAll1 (show (0 + ((-1) * ρ 4 + (1 * (wG (wN h) (wB h) 5 (d) ((wSk (wN h) (wB h) (p)) + 1)) + 0)) : Int) ≤ 0 by omega) (pAll0))))))
        · exact pAll1 (pgG ho hh 507 5 rfl rfl (d) ((wSk (wN h) (wB h) (p)) + 1) (by omega) (by omega) (show (1 + (241 * ρ 3 + (1 * ρ 5 + 0)) : Int) = _ by omega) (show (0 + (1 * (wG (wN h) (wB h) 5 (d) ((wSk (wN h) (wB h) (p)) + 1)) + 0) : Int) = _ by omega)) (pAll0)
      · omega
    · have f2 : (wSk (wN h) (wB h) (p)) + 1 + 1 ≤ u := f2
      rcases wBd_el er g with ⟨a1, a2⟩ | ⟨s, a1, a2, a3, a4⟩
      · have := g.1 a1
        refine ⟨rOOm_1, List.mem_of_getElem? (i := 1) rfl, pEnd [ρ 0, ρ 1, ρ 2, ρ 3, ρ 4, ρ 5, ρ 6, (u : Int), (wG (wN h) (wB h) 7 (d) (u))] rfl ?_ ?_ ?_ ?_⟩
        · intro j hj
          match j, hj with
          | 0, _ => exact q0.symm
          | 1, _ => exact q1.symm
          | 2, _ => exact q2.symm
          | 3, _ => exact q3.symm
          | 4, _ => exact q4.symm
          | 5, _ => exact q5.symm
          | 6, _ => exact q6.symm
          | k + 7, hj => exact absurd hj (by show ¬ (k + 7 < 7); omega)
        · intro k b hk
          match k, hk with
          | 0, hk => cases hk; exact (show (0 : Int) ≤ (u : Int) ∧ (u : Int) ≤ (240 : Int) by omega)
          | 1, hk => cases hk; exact (show ((-241) : Int) ≤ (wG (wN h) (wB h) 7 (d) (u)) ∧ (wG (wN h) (wB h) 7 (d) (u)) ≤ ((-1) : Int) by omega)
          | k + 2, hk => cases hk
        · exact pAll1 (show (0 + (1 * ρ 2 + ((-1) * ρ 5 + 0)) : Int) ≤ 0 by omega) (pAll1 (show (1 + ((-1) * ρ 1 + (1 * ρ 5 + 0)) : Int) ≤ 0 by omega) (pAll1 (show ((-124) + (1 * ρ 6 + 0) : Int) ≤ 0 by omega) (pAll1 (show (124 + ((-1) * ρ 6 + 0) : Int) ≤ 0 by omega) (pAll1 (show (2 + (1 * ρ 5 + ((-1) * (u : Int) + 0)) : Int) ≤ 0 by omega) (pAll1 (show (0 + ((-1) * ρ 1 + (1 * (u : Int) + 0)) : Int) ≤ 0 by omega) (pAll1 (show (0 + (1 * ρ 4 + ((-1) * (wG (wN h) (wB h) 7 (d) (u)) + 0)) : Int) ≤ 0 by omega) (pAll1 (show (0 + ((-1) * ρ 4 + (1 * (wG (wN h) (wB h) 7 (d) (u)) + 0)) : Int) ≤ 0 by omega) (pAll0))))))))
        · exact pAll1 (pgG ho hh 507 5 rfl rfl (d) ((wSk (wN h) (wB h) (p)) + 1) (by omega) (by omega) (show (1 + (241 * ρ 3 + (1 * ρ 5 + 0)) : Int) = _ by omega) (show (0 + (1 * (u : Int) + 0) : Int) = _ by omega)) (pAll1 (pgG ho hh 509 7 rfl rfl (d) (u) (by omega) (by omega) (show (0 + (241 * ρ 3 + (1 * (u : Int) + 0)) : Int) = _ by omega) (show (0 + (1 * (wG (wN h) (wB h) 7 (d) (u)) + 0) : Int) = _ by omega)) (pAll0))
      · have a2 : (wSk (wN h) (wB h) (p)) + 1 + 1 ≤ s := a2
        refine ⟨rOOm_2, List.mem_of_getElem? (i := 2) rfl, pEnd [ρ 0, ρ 1, ρ 2, ρ 3, ρ 4, ρ 5, ρ 6, (u : Int), (s : Int)] rfl ?_ ?_ ?_ ?_⟩
        · intro j hj
          match j, hj with
          | 0, _ => exact q0.symm
          | 1, _ => exact q1.symm
          | 2, _ => exact q2.symm
          | 3, _ => exact q3.symm
          | 4, _ => exact q4.symm
          | 5, _ => exact q5.symm
          | 6, _ => exact q6.symm
          | k + 7, hj => exact absurd hj (by show ¬ (k + 7 < 7); omega)
        · intro k b hk
          match k, hk with
          | 0, hk => cases hk; exact (show (0 : Int) ≤ (u : Int) ∧ (u : Int) ≤ (240 : Int) by omega)
          | 1, hk => cases hk; exact (show (0 : Int) ≤ (s : Int) ∧ (s : Int) ≤ (240 : Int) by omega)
          | k + 2, hk => cases hk
        · exact pAll1 (show (0 + (1 * ρ 2 + ((-1) * ρ 5 + 0)) : Int) ≤ 0 by omega) (pAll1 (show (1 + ((-1) * ρ 1 + (1 * ρ 5 + 0)) : Int) ≤ 0 by omega) (pAll1 (show ((-124) + (1 * ρ 6 + 0) : Int) ≤ 0 by omega) (pAll1 (show (124 + ((-1) * ρ 6 + 0) : Int) ≤ 0 by omega) (pAll1 (show (2 + (1 * ρ 5 + ((-1) * (u : Int) + 0)) : Int) ≤ 0 by omega) (pAll1 (show (0 + ((-1) * ρ 1 + (1 * (u : Int) + 0)) : Int) ≤ 0 by omega) (pAll1 (show (2 + (1 * ρ 5 + ((-1) * (s : Int) + 0)) : Int) ≤ 0 by omega) (pAll1 (show (0 + ((-1) * ρ 1 + (1 * (s : Int) + 0)) : Int) ≤ 0 by omega) (pAll0))))))))
        · exact pAll1 (pgG ho hh 507 5 rfl rfl (d) ((wSk (wN h) (wB h) (p)) + 1) (by omega) (by omega) (show (1 + (241 * ρ 3 + (1 * ρ 5 + 0)) : Int) = _ by omega) (show (0 + (1 * (u : Int) + 0) : Int) = _ by omega)) (pAll1 (pgG ho hh 509 7 rfl rfl (d) (u) (by omega) (by omega) (show (0 + (241 * ρ 3 + (1 * (u : Int) + 0)) : Int) = _ by omega) (show (0 + (1 * (s : Int) + 0) : Int) = _ by omega)) (pAll1 (pgG ho hh 511 9 rfl rfl (d) (s) (by omega) (by omega) (show (0 + (241 * ρ 3 + (1 * (s : Int) + 0)) : Int) = _ by omega) (show (0 + (1 * ρ 4 + 0) : Int) = _ by omega)) (pAll0)))
  · rw [if_neg h1] at er
    have hu : (wCh (wN h) (wB h) ((wSk (wN h) (wB h) (p)))) ≤ 123 ∨ 125 ≤ (wCh (wN h) (wB h) ((wSk (wN h) (wB h) (p)))) := by omega
    rcases hu with hu | hu
    · refine ⟨rOOm_3, List.mem_of_getElem? (i := 3) rfl, pEnd [ρ 0, ρ 1, ρ 2, ρ 3, ρ 4, ρ 5, ρ 6] rfl ?_ ?_ ?_ ?_⟩
      · exact hL
      · intro k b hk
        cases hk
      · exact pAll1 (show (0 + (1 * ρ 2 + ((-1) * ρ 5 + 0)) : Int) ≤ 0 by omega) (pAll1 (show (0 + ((-1) * ρ 1 + (1 * ρ 5 + 0)) : Int) ≤ 0 by omega) (pAll1 (show (0 + (1 * ρ 4 + ((-1) * ρ 5 + 0)) : Int) ≤ 0 by omega) (pAll1 (show (0 + ((-1) * ρ 4 + (1 * ρ 5 + 0)) : Int) ≤ 0 by omega) (pAll1 (show ((-123) + (1 * ρ 6 + 0) : Int) ≤ 0 by omega) (pAll0)))))
      · exact pAll0
    · refine ⟨rOOm_4, List.mem_of_getElem? (i := 4) rfl, pEnd [ρ 0, ρ 1, ρ 2, ρ 3, ρ 4, ρ 5, ρ 6] rfl ?_ ?_ ?_ ?_⟩
      · exact hL
      · intro k b hk
        cases hk
      · exact pAll1 (show (0 + (1 * ρ 2 + ((-1) * ρ 5 + 0)) : Int) ≤ 0 by omega) (pAll1 (show (0 + ((-1) * ρ 1 + (1 * ρ 5 + 0)) : Int) ≤ 0 by omega) (pAll1 (show (0 + (1 * ρ 4 + ((-1) * ρ 5 + 0)) : Int) ≤ 0 by omega) (pAll1 (show (0 + ((-1) * ρ 4 + (1 * ρ 5 + 0)) : Int) ≤ 0 by omega) (pAll1 (show (125 + ((-1) * ρ 6 + 0) : Int) ≤ 0 by omega) (pAll0)))))
      · exact pAll0
