/-! law: the pair -/
theorem pr_law {h : zH} (hI : yInv h) (hr : r0 h) (a : Int32) : pRun r0 (fun x y => x = y) 60 149 [.inl a] h := by
  have hr' := r0_fill hr
  have hI' := gFill_inv hI
  have gG := gFill_p hI.1
  obtain ⟨n1, x, h1, e1, i1, -, -⟩ := yP_X11_law hI' a
  obtain ⟨n2, y, h2, e2, i2, -, -⟩ := yP_X12_law i1 a
  have q1 := congrArg Int32.toInt hr'.1
  have q2 := congrArg Int32.toInt hr'.2.1
  have b4 : 0 ≤ ((gFill h).1 374 4).toInt ∧ ((gFill h).1 374 4).toInt ≤ 4 := hI'.1 374 (4, 4, 0, 4) (by decide +kernel) 4 (Nat.le_refl _) (Nat.le_refl _)
  obtain ⟨g1, f1, c1⟩ := pe_cLaw8 gG (si32 a) b4 e1
  have v : h1.1 440 13 = (gFill h).1 440 13 := pfr f1 440 13 (by decide +kernel)
  obtain ⟨g2, f2, c2⟩ := pe_mLaw8 g1 (si32 a) (by rw [v, ← hr'.2.1]; exact b4) e2
  rw [v] at c2
  have u1 : h2.1 353 1 = (gFill h).1 353 1 := (pfr f2 353 1 (by decide +kernel)).trans (pfr f1 353 1 (by decide +kernel))
  have u2 : h2.1 440 2 = (gFill h).1 440 2 := (pfr f2 440 2 (by decide +kernel)).trans (pfr f1 440 2 (by decide +kernel))
  have u3 : h2.1 374 4 = (gFill h).1 374 4 := (pfr f2 374 4 (by decide +kernel)).trans (pfr f1 374 4 (by decide +kernel))
  have u4 : h2.1 440 13 = (gFill h).1 440 13 := (pfr f2 440 13 (by decide +kernel)).trans (pfr f1 440 13 (by decide +kernel))
  have key : x.toInt = y.toInt := by
    rcases c1 with ⟨a1, a2⟩ | ⟨a1, a2, a3⟩ | ⟨a1, a2⟩ <;> rcases c2 with ⟨b1, b2⟩ | ⟨b1, b2, b3⟩ | ⟨b1, b2⟩ <;> omega
  exact pr_fin hI hr e1 i1 e2 i2 f1 f2 (by decide +kernel) (by decide +kernel) key (by rw [u1, u2]; exact q1) (by rw [u1]; exact Int.le_refl _) (by rw [u3, u4]; exact q2)
