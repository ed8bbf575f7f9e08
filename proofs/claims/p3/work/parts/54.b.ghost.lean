/-! tables with ghost cells: numbers 500 .. 899, a region each; the heights of the reference's codes are left free -/
def pReg (k : Nat) : Nat := if 500 ≤ k ∧ k < 900 then k else yReg k
def pSin (r : Nat) : Bool := (decide (500 ≤ r) && decide (r < 900)) || ySin r
def pG (r : Nat) : List (Nat × Nat × Int × Int) := if 500 ≤ r then (if r = 500 then [(0, 99999, 0, 240)] else if r = 501 then [(0, 99999, 0, 255)] else if r < 560 then [(0, 99999, -241, 240)] else if r < 600 then [(0, 99999, -1, 99)] else []) else if r = 120 then (yG 120).filter (fun z => !(z.1 == 3) && (!(z.1 == 4) && !(z.1 == 5))) else yG r
theorem pReg_r {k : Nat} (hk : k < 453) : pReg k = yReg k := if_neg (by omega)
theorem pReg_g {k : Nat} (h1 : 500 ≤ k) (h2 : k < 900) : pReg k = k := if_pos ⟨h1, h2⟩
theorem yReg_lt {k : Nat} (hk : k < 453) : yReg k < 133 := of_decide_eq_true (yAll (f := fun k => decide (yReg k < 133)) (n := 453) (by decide +kernel) hk)
theorem yRin_d {r : Nat} (h : 133 ≤ r) : yRin r = .inr (7, 0, []) := by
  unfold yRin
  rw [List.getD_eq_getElem?_getD, List.getElem?_eq_none (by rw [show yRinL.length = 133 by decide +kernel]; exact h)]
  rfl
theorem pComp : ∀ k, yRin (pReg k) = smT pReg (yTab k) := by
  intro k
  by_cases hk : k < 453
  · exact yE1_eq (yAll (f := fun k => yE1 (yRin (pReg k)) (smT pReg (yTab k))) (n := 453) (by decide +kernel) hk)
  · rw [(yReg_d (k := k) (by omega)).2]
    by_cases hg : 500 ≤ k ∧ k < 900
    · rw [pReg_g hg.1 hg.2, yRin_d (by omega)]
      rfl
    · unfold pReg
      rw [if_neg hg, (yReg_d (k := k) (by omega)).1]
      rfl
theorem pR1000 : ∀ k, pReg k < 1000 := by
  intro k
  unfold pReg
  split
  · omega
  · exact yR1000 k
theorem pSing : ∀ k k', pSin (pReg k) = true → pReg k' = pReg k → k' = k := by
  have big : ∀ k, ¬ (500 ≤ k ∧ k < 900) → yReg k < 133 ∨ yReg k = 999 := by
    intro k _
    by_cases hk : k < 453
    · exact Or.inl (yReg_lt hk)
    · exact Or.inr (yReg_d (k := k) (by omega)).1
  intro k k' hs he
  by_cases hk : 500 ≤ k ∧ k < 900
  · rw [pReg_g hk.1 hk.2] at he
    by_cases hk' : 500 ≤ k' ∧ k' < 900
    · rw [pReg_g hk'.1 hk'.2] at he
      exact he
    · unfold pReg at he
      rw [if_neg hk'] at he
      rcases big k' hk' with q | q <;> omega
  · have e1 : pReg k = yReg k := if_neg hk
    rw [e1] at hs he
    by_cases hk' : 500 ≤ k' ∧ k' < 900
    · rw [pReg_g hk'.1 hk'.2] at he
      rcases big k hk with q | q <;> omega
    · have e2 : pReg k' = yReg k' := if_neg hk'
      rw [e2] at he
      refine ySing k k' ?_ he
      unfold pSin at hs
      rw [Bool.or_eq_true] at hs
      rcases hs with hs | hs
      · simp only [Bool.and_eq_true, decide_eq_true_eq] at hs
        rcases big k hk with q | q <;> omega
      · exact hs
theorem pCell : ∀ r, pSin r = true → ∃ k, pReg k = r := by
  intro r hs
  unfold pSin at hs
  rw [Bool.or_eq_true] at hs
  rcases hs with hs | hs
  · simp only [Bool.and_eq_true, decide_eq_true_eq] at hs
    exact ⟨r, pReg_g hs.1 hs.2⟩
  · obtain ⟨k, hk⟩ := yCell r hs
    by_cases hg : 500 ≤ k ∧ k < 900
    · rw [(yReg_d (k := k) (by omega)).1] at hk
      rw [← hk] at hs
      exact absurd hs (by decide +kernel)
    · exact ⟨k, by unfold pReg; rw [if_neg hg]; exact hk⟩
