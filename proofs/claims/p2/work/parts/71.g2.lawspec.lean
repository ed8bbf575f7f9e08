/-! what law, seen, said and text tell -/
set_option maxHeartbeats 1000000 in
theorem pe_cLaw8 {h h' : zH} {a : Int32} {x : Int32} {m dq : Nat} (hG : sG pReg pG h) (hb0 : ((-2147483648) : Int) ≤ a.toInt ∧ a.toInt ≤ 2147483647) (hb1 : (0 : Int) ≤ (h.1 374 4).toInt ∧ (h.1 374 4).toInt ≤ 4) (hrun : yrun m dq 60 [.inr (.inr 406), .inl a] h = some (some (.inl x), h')) : sG pReg pG h' ∧ sF pReg [(54, 5, 5)] h h' ∧ ((x.toInt = (0 + 0 : Int) ∧ (2 + (1 * a.toInt + 0) : Int) ≤ 0) ∨ (x.toInt = (1 + 0 : Int) ∧ ((-1) + ((-1) * a.toInt + 0) : Int) ≤ 0 ∧ (1 + (1 * a.toInt + ((-1) * (h.1 374 4).toInt + 0)) : Int) ≤ 0) ∨ (x.toInt = (0 + 0 : Int) ∧ (0 + ((-1) * a.toInt + (1 * (h.1 374 4).toInt + 0)) : Int) ≤ 0)) := by
  have hM : sMt pReg pgv (pL [a.toInt, (h.1 374 4).toInt]) (pL0 [a.toInt, (h.1 374 4).toInt]) (sAs tcLaw8.2.1) (zent 0 [.inr (.inr 406), .inl a]) [] h := pmkk (ya1 ⟨406, rfl, by decide +kernel⟩ ya0) (ya1 ⟨_, rfl, rfl⟩ (ya1 (psm_p (k := 374) (by decide) (by decide +kernel) (by decide +kernel) 4 rfl (by rw [sY_v]; rfl)) (ya0))) (ya1 hb0 (ya1 hb1 (ya0))) (ya1 (show (0 + 0 : Int) ≤ 0 by decide) (ya0)) (ya1 rfl (ya1 rfl (ya0))) rfl
  obtain ⟨g1, g2, hx⟩ := pGo tcLaw8_ok hG hM hrun
  refine ⟨g1, g2, ?_⟩
  refine pone hx (ya1 ?_ (ya1 ?_ (ya1 ?_ (ya0))))
  · intro hE
    obtain ⟨ρx, eQ, -, ⟨k0, -⟩, -, hr⟩ := pexU hE
    have e0 : ρx 0 = a.toInt := eQ 0 (by decide)
    have e1 : ρx 1 = (h.1 374 4).toInt := eQ 1 (by decide)
    have hr : x.toInt = (0 + 0 : Int) := hr
    have k0 : (2 + (1 * ρx 0 + 0) : Int) ≤ 0 := k0
    rw [e0] at k0
    exact Or.inl ⟨(by rw [hr]), k0⟩
  · intro hE
    obtain ⟨ρx, eQ, -, ⟨k0, k1, -⟩, -, hr⟩ := pexU hE
    have e0 : ρx 0 = a.toInt := eQ 0 (by decide)
    have e1 : ρx 1 = (h.1 374 4).toInt := eQ 1 (by decide)
    have hr : x.toInt = (1 + 0 : Int) := hr
    have k0 : ((-1) + ((-1) * ρx 0 + 0) : Int) ≤ 0 := k0
    rw [e0] at k0
    have k1 : (1 + (1 * ρx 0 + ((-1) * ρx 1 + 0)) : Int) ≤ 0 := k1
    rw [e0, e1] at k1
    exact Or.inr (Or.inl ⟨(by rw [hr]), k0, k1⟩)
  · intro hE
    obtain ⟨ρx, eQ, -, ⟨k0, -⟩, -, hr⟩ := pexU hE
    have e0 : ρx 0 = a.toInt := eQ 0 (by decide)
    have e1 : ρx 1 = (h.1 374 4).toInt := eQ 1 (by decide)
    have hr : x.toInt = (0 + 0 : Int) := hr
    have k0 : (0 + ((-1) * ρx 0 + (1 * ρx 1 + 0)) : Int) ≤ 0 := k0
    rw [e0, e1] at k0
    exact Or.inr (Or.inr (⟨(by rw [hr]), k0⟩))
set_option maxHeartbeats 1000000 in
theorem pe_mLaw8 {h h' : zH} {a : Int32} {x : Int32} {m dq : Nat} (hG : sG pReg pG h) (hb0 : ((-2147483648) : Int) ≤ a.toInt ∧ a.toInt ≤ 2147483647) (hb1 : (0 : Int) ≤ (h.1 440 13).toInt ∧ (h.1 440 13).toInt ≤ 4) (hrun : yrun m dq 149 [.inr (.inr 440), .inl a] h = some (some (.inl x), h')) : sG pReg pG h' ∧ sF pReg [(120, 25, 25)] h h' ∧ ((x.toInt = (0 + 0 : Int) ∧ (2 + (1 * a.toInt + 0) : Int) ≤ 0) ∨ (x.toInt = (1 + 0 : Int) ∧ ((-1) + ((-1) * a.toInt + 0) : Int) ≤ 0 ∧ (1 + (1 * a.toInt + ((-1) * (h.1 440 13).toInt + 0)) : Int) ≤ 0) ∨ (x.toInt = (0 + 0 : Int) ∧ (0 + ((-1) * a.toInt + (1 * (h.1 440 13).toInt + 0)) : Int) ≤ 0)) := by
  have hM : sMt pReg pgv (pL [a.toInt, (h.1 440 13).toInt]) (pL0 [a.toInt, (h.1 440 13).toInt]) (sAs tmLaw8.2.1) (zent 0 [.inr (.inr 440), .inl a]) [] h := pmkk (ya1 ⟨440, rfl, by decide +kernel⟩ ya0) (ya1 ⟨_, rfl, rfl⟩ (ya1 (psm_p (k := 440) (by decide) (by decide +kernel) (by decide +kernel) 13 rfl (by rw [sY_v]; rfl)) (ya0))) (ya1 hb0 (ya1 hb1 (ya0))) (ya1 (show (0 + 0 : Int) ≤ 0 by decide) (ya0)) (ya1 rfl (ya1 rfl (ya0))) rfl
  obtain ⟨g1, g2, hx⟩ := pGo tmLaw8_ok hG hM hrun
  refine ⟨g1, g2, ?_⟩
  refine pone hx (ya1 ?_ (ya1 ?_ (ya1 ?_ (ya0))))
  · intro hE
    obtain ⟨ρx, eQ, -, ⟨k0, -⟩, -, hr⟩ := pexU hE
    have e0 : ρx 0 = a.toInt := eQ 0 (by decide)
    have e1 : ρx 1 = (h.1 440 13).toInt := eQ 1 (by decide)
    have hr : x.toInt = (0 + 0 : Int) := hr
    have k0 : (2 + (1 * ρx 0 + 0) : Int) ≤ 0 := k0
    rw [e0] at k0
    exact Or.inl ⟨(by rw [hr]), k0⟩
  · intro hE
    obtain ⟨ρx, eQ, -, ⟨k0, k1, -⟩, -, hr⟩ := pexU hE
    have e0 : ρx 0 = a.toInt := eQ 0 (by decide)
    have e1 : ρx 1 = (h.1 440 13).toInt := eQ 1 (by decide)
    have hr : x.toInt = (1 + 0 : Int) := hr
    have k0 : ((-1) + ((-1) * ρx 0 + 0) : Int) ≤ 0 := k0
    rw [e0] at k0
    have k1 : (1 + (1 * ρx 0 + ((-1) * ρx 1 + 0)) : Int) ≤ 0 := k1
    rw [e0, e1] at k1
    exact Or.inr (Or.inl ⟨(by rw [hr]), k0, k1⟩)
  · intro hE
    obtain ⟨ρx, eQ, -, ⟨k0, -⟩, -, hr⟩ := pexU hE
    have e0 : ρx 0 = a.toInt := eQ 0 (by decide)
    have e1 : ρx 1 = (h.1 440 13).toInt := eQ 1 (by decide)
    have hr : x.toInt = (0 + 0 : Int) := hr
    have k0 : (0 + ((-1) * ρx 0 + (1 * ρx 1 + 0)) : Int) ≤ 0 := k0
    rw [e0, e1] at k0
    exact Or.inr (Or.inr (⟨(by rw [hr]), k0⟩))
