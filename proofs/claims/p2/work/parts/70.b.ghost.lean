/-! tables with ghost cells: numbers 500 .. 899, a region each; the reader's six rows a region each (951 .. 956); the reference's place, fault and depth are left free -/
noncomputable def pReg (k : Nat) : Nat := if 500 ≤ k ∧ k < 900 then k else if 355 ≤ k ∧ k ≤ 360 then k + 596 else yReg k
noncomputable def pSin (r : Nat) : Bool := (decide (500 ≤ r) && decide (r < 900)) || ((decide (951 ≤ r) && decide (r ≤ 956)) || ySin r)
noncomputable def pRin (r : Nat) : (Nat × List Nat) ⊕ (Nat × Nat × List Nat) := if 951 ≤ r ∧ r ≤ 956 then .inr (0, 4, []) else if r = 44 then .inr (3, 6, [951, 952, 953, 954, 955, 956]) else yRin r
/-- the bounds of a ghost cell's places -/
noncomputable def pGf (r : Nat) : List (Nat × Nat × Int × Int) := if r = 500 ∨ r = 521 then [(0, 99999, 0, 240)] else if r = 501 then [(0, 99999, 0, 255)] else if r = 522 then [(0, 99999, 1, 255)] else if r < 532 ∨ r = 533 ∨ r = 542 then [(0, 99999, -241, 240)] else if r < 538 ∨ r = 541 then [(0, 99999, 0, 1)] else if r = 538 ∨ r = 543 then [(0, 99999, 0, 99)] else if r = 539 then [(0, 0, 4, 10), (1, 1, 1, 20), (2, 2, 0, 99)] else if r = 540 then [(0, 99999, 0, 6)] else if r = 544 ∨ r = 547 then [(0, 99999, 0, 255)] else if r = 545 then [(0, 99999, 0, 1)] else if r = 546 then [(0, 99999, 0, 260)] else if 560 ≤ r ∧ r < 567 then [(0, 400000, 0, 99)] else []
noncomputable def pG (r : Nat) : List (Nat × Nat × Int × Int) := if 500 ≤ r then pGf r else if r = 120 then (yG 120).filter (fun z => !(z.1 == 3) && (!(z.1 == 4) && !(z.1 == 5))) else if r = 97 then [] else yG r
theorem pReg_g {k : Nat} (h1 : 500 ≤ k) (h2 : k < 900) : pReg k = k := if_pos ⟨h1, h2⟩
theorem yReg_lt {k : Nat} (hk : k < 453) : yReg k < 133 := of_decide_eq_true (yAll (f := fun k => decide (yReg k < 133)) (n := 453) (by decide +kernel) hk)
theorem yRin_d {r : Nat} (h : 133 ≤ r) : yRin r = .inr (7, 0, []) := by
  unfold yRin
  rw [List.getD_eq_getElem?_getD, List.getElem?_eq_none (by rw [show yRinL.length = 133 by decide +kernel]; exact h)]
  rfl
theorem pRin_d {r : Nat} (h : 133 ≤ r) (h2 : r < 951 ∨ 956 < r) : pRin r = .inr (7, 0, []) := by
  unfold pRin
  rw [if_neg (by omega), if_neg (by omega), yRin_d h]
theorem pComp : ∀ k, pRin (pReg k) = smT pReg (yTab k) := by
  intro k
  by_cases hk : k < 453
  · exact yE1_eq (yAll (f := fun k => yE1 (pRin (pReg k)) (smT pReg (yTab k))) (n := 453) (by decide +kernel) hk)
  · rw [(yReg_d (k := k) (by omega)).2]
    by_cases hg : 500 ≤ k ∧ k < 900
    · rw [pReg_g hg.1 hg.2, pRin_d (by omega) (by omega)]
      rfl
    · unfold pReg
      rw [if_neg hg, if_neg (by omega), (yReg_d (k := k) (by omega)).1]
      rfl
theorem pR1000 : ∀ k, pReg k < 1000 := by
  intro k
  unfold pReg
  split
  · omega
  · split
    · omega
    · exact yR1000 k
/-- a cell is a ghost, a row, or as it was -/
theorem pCase (k : Nat) : (500 ≤ k ∧ k < 900 ∧ pReg k = k) ∨ (355 ≤ k ∧ k ≤ 360 ∧ pReg k = k + 596) ∨ (¬ (500 ≤ k ∧ k < 900) ∧ ¬ (355 ≤ k ∧ k ≤ 360) ∧ pReg k = yReg k ∧ (yReg k < 133 ∨ yReg k = 999)) := by
  unfold pReg
  by_cases h1 : 500 ≤ k ∧ k < 900
  · exact Or.inl ⟨h1.1, h1.2, if_pos h1⟩
  · by_cases h2 : 355 ≤ k ∧ k ≤ 360
    · exact Or.inr (Or.inl ⟨h2.1, h2.2, by rw [if_neg h1, if_pos h2]⟩)
    · refine Or.inr (Or.inr ⟨h1, h2, by rw [if_neg h1, if_neg h2], ?_⟩)
      by_cases hk : k < 453
      · exact Or.inl (yReg_lt hk)
      · exact Or.inr (yReg_d (k := k) (by omega)).1
theorem pSin_y {r : Nat} (hs : pSin r = true) (h : r < 133 ∨ r = 999) : ySin r = true := by
  unfold pSin at hs
  rw [Bool.or_eq_true, Bool.or_eq_true] at hs
  rcases hs with hs | hs | hs
  · simp only [Bool.and_eq_true, decide_eq_true_eq] at hs
    omega
  · simp only [Bool.and_eq_true, decide_eq_true_eq] at hs
    omega
  · exact hs
theorem pSing : ∀ k k', pSin (pReg k) = true → pReg k' = pReg k → k' = k := by
  intro k k' hs he
  rcases pCase k with ⟨a1, a2, a3⟩ | ⟨a1, a2, a3⟩ | ⟨a1, a2, a3, a4⟩ <;> rcases pCase k' with ⟨b1, b2, b3⟩ | ⟨b1, b2, b3⟩ | ⟨b1, b2, b3, b4⟩ <;> rw [a3, b3] at he
  · exact he
  · omega
  · omega
  · omega
  · omega
  · omega
  · omega
  · omega
  · rw [a3] at hs
    exact ySing k k' (pSin_y hs a4) he
theorem pCell : ∀ r, pSin r = true → ∃ k, pReg k = r := by
  intro r hs
  unfold pSin at hs
  rw [Bool.or_eq_true, Bool.or_eq_true] at hs
  rcases hs with hs | hs | hs
  · simp only [Bool.and_eq_true, decide_eq_true_eq] at hs
    exact ⟨r, pReg_g hs.1 hs.2⟩
  · simp only [Bool.and_eq_true, decide_eq_true_eq] at hs
    refine ⟨r - 596, ?_⟩
    rcases pCase (r - 596) with ⟨b1, b2, b3⟩ | ⟨b1, b2, b3⟩ | ⟨b1, b2, b3, b4⟩
    · omega
    · omega
    · omega
  · obtain ⟨k, hk⟩ := yCell r hs
    rcases pCase k with ⟨b1, b2, b3⟩ | ⟨b1, b2, b3⟩ | ⟨b1, b2, b3, b4⟩
    · rw [(yReg_d (k := k) (by omega)).1] at hk
      rw [← hk] at hs
      exact absurd hs (by decide +kernel)
    · have : ySin (yReg k) = false := by
        have := yAll (f := fun j => decide (ySin (yReg (355 + j)) = false)) (n := 6) (by decide +kernel) (k := k - 355) (by omega)
        rw [show 355 + (k - 355) = k by omega] at this
        exact of_decide_eq_true this
      rw [hk, hs] at this
      cases this
    · exact ⟨k, b3.trans hk⟩
