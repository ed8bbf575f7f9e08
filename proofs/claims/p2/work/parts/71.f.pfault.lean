/-! fault: the pair -/
theorem pr_fault {h : zH} (hI : yInv h) (hr : r0 h) (a : Int32) : pRun r0 (fun x y => x = y) 51 121 [.inl a] h := by
  have hr' := r0_fill hr
  have hI' := gFill_inv hI
  have gG := gFill_p hI.1
  obtain ⟨n1, x, h1, e1, i1, -, -⟩ := yP_X11_fault hI' a
  obtain ⟨n2, y, h2, e2, i2, -, -⟩ := yP_X12_fault i1 a
  have l1 := gLen hI'.1
  have q1 := congrArg Int32.toInt hr'.1
  have q2 := congrArg Int32.toInt hr'.2.1
  have ha := si32 a
  have t0 : (1 : Int) ≤ pgv 0 (gFill h) ∧ pgv 0 (gFill h) ≤ 1 := by rw [gT0 hI.1 hr]; exact ⟨Int.le_refl _, Int.le_refl _⟩
  have t13 : (1 : Int) ≤ pgv 13 (gFill h) ∧ pgv 13 (gFill h) ≤ 1 := by rw [gT13 hI.1 hr]; exact ⟨Int.le_refl _, Int.le_refl _⟩
  have t20 : (1 : Int) ≤ pgv 20 (gFill h) ∧ pgv 20 (gFill h) ≤ 1 := by rw [gT20 hI.1]; exact ⟨Int.le_refl _, Int.le_refl _⟩
  have fin : ∀ {md1 md2 : sD}, sF pReg md1 (gFill h) h1 → sF pReg md2 h1 h2 → (md1.all (fun z => !decide (pReg 352 = z.1) && !decide (pReg 407 = z.1)) = true) → (md2.all (fun z => !decide (pReg 352 = z.1) && !decide (pReg 407 = z.1)) = true) → (∀ c ∈ [((353 : Nat), (1 : Nat)), (440, 2), (374, 4), (440, 13)], (md1.all (fun z => !(decide (pReg c.1 = z.1) && (decide (z.2.1 ≤ (c.2 : Int)) && decide ((c.2 : Int) ≤ z.2.2)))) && md2.all (fun z => !(decide (pReg c.1 = z.1) && (decide (z.2.1 ≤ (c.2 : Int)) && decide ((c.2 : Int) ≤ z.2.2))))) = true) → x.toInt = y.toInt → pRun r0 (fun x y => x = y) 51 121 [.inl a] h := by
    intro md1 md2 f1 f2 c1 c2 c3 hxy
    have u : ∀ c ∈ [((353 : Nat), (1 : Nat)), (440, 2), (374, 4), (440, 13)], h2.1 c.1 c.2 = (gFill h).1 c.1 c.2 := fun c hc => by
      have := Bool.and_eq_true_iff.mp (c3 c hc)
      exact (pfr f2 c.1 c.2 this.2).trans (pfr f1 c.1 c.2 this.1)
    have u1 : h2.1 353 1 = (gFill h).1 353 1 := u (353, 1) (List.mem_of_getElem? (i := 0) rfl)
    have u2 : h2.1 440 2 = (gFill h).1 440 2 := u (440, 2) (List.mem_of_getElem? (i := 1) rfl)
    have u3 : h2.1 374 4 = (gFill h).1 374 4 := u (374, 4) (List.mem_of_getElem? (i := 2) rfl)
    have u4 : h2.1 440 13 = (gFill h).1 440 13 := u (440, 13) (List.mem_of_getElem? (i := 3) rfl)
    exact pr_fin hI hr e1 i1 e2 i2 f1 f2 c1 c2 hxy (by rw [u1, u2]; exact q1) (by rw [u1]; exact Int.le_refl _) (by rw [u3, u4]; exact q2)
  rcases Int.lt_or_le a.toInt 0 with h0 | h0
  · obtain ⟨g1, f1, c1⟩ := pe_cFaultX0 gG ⟨ha.1, by omega⟩ e1
    obtain ⟨g2, f2, c2⟩ := pe_mFaultX0 g1 ⟨ha.1, by omega⟩ e2
    exact fin f1 f2 rfl rfl (fun c hc => rfl) (by omega)
  · rcases Int.lt_or_le a.toInt 2 with h2' | h2'
    · by_cases ha0 : a.toInt = 0
      · obtain ⟨g1, f1, c1⟩ := pe_cFaultF gG ⟨by omega, by omega⟩ t0 t20 l1 (gb533 gG) (gb541 gG) (gb540 gG) (gOn0 hI.1) e1
        have v2 : h1.1 440 2 = (gFill h).1 440 2 := pfr f1 440 2 (by decide +kernel)
        have v3 : h1.1 533 0 = (gFill h).1 533 0 := pfr f1 533 0 (by decide +kernel)
        have v4 : h1.1 541 0 = (gFill h).1 541 0 := pfr f1 541 0 (by decide +kernel)
        have v5 : h1.1 540 0 = (gFill h).1 540 0 := pfr f1 540 0 (by decide +kernel)
        have v6 : h1.1 532 0 = (gFill h).1 532 0 := pfr f1 532 0 (by decide +kernel)
        obtain ⟨g2, f2, c2⟩ := pe_mFaultF g1 ⟨by omega, by omega⟩ (by rw [pgf f1 (by decide +kernel)]; exact t13) (by rw [pgf f1 (by decide +kernel)]; exact t20) (by rw [v2, ← hr'.1]; exact l1) (by rw [v3]; exact gb533 gG) (by rw [v4]; exact gb541 gG) (by rw [v5]; exact gb540 gG) (by rw [v6]; exact gOn0 hI.1) e2
        rw [v2, v3, v4, v5] at c2
        have key : x.toInt = y.toInt := by
          rcases c1 with ⟨a1, a2, a3⟩ | ⟨a1, a2, a3, a4, a5⟩ | ⟨a1, a2, a3, a4, a5⟩ <;> rcases c2 with ⟨b1, b2, b3⟩ | ⟨b1, b2, b3, b4, b5⟩ | ⟨b1, b2, b3, b4, b5⟩ <;> omega
        exact fin f1 f2 (by decide +kernel) (by decide +kernel) (by decide +kernel) key
      · obtain ⟨g1, f1, c1⟩ := pe_cFaultL gG ⟨by omega, by omega⟩ t0 l1 (gb514 gG) e1
        have v2 : h1.1 440 2 = (gFill h).1 440 2 := pfr f1 440 2 (by decide +kernel)
        have v3 : h1.1 514 0 = (gFill h).1 514 0 := pfr f1 514 0 (by decide +kernel)
        obtain ⟨g2, f2, c2⟩ := pe_mFaultL g1 ⟨by omega, by omega⟩ (by rw [pgf f1 (by decide +kernel)]; exact t13) (by rw [v2, ← hr'.1]; exact l1) (by rw [v3]; exact gb514 gG) e2
        rw [v3] at c2
        have key : x.toInt = y.toInt := by
          rcases c1 with ⟨a1, a2⟩ | ⟨a1, a2⟩ <;> rcases c2 with ⟨b1, b2⟩ | ⟨b1, b2⟩ <;> omega
        exact fin f1 f2 (by decide +kernel) (by decide +kernel) (by decide +kernel) key
    · obtain ⟨g1, f1, c1⟩ := pe_cFaultX1 gG ⟨h2', ha.2⟩ e1
      obtain ⟨g2, f2, c2⟩ := pe_mFaultX1 g1 ⟨h2', ha.2⟩ e2
      exact fin f1 f2 rfl rfl (fun c hc => rfl) (by omega)
