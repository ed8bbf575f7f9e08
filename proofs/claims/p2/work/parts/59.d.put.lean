/-! put, by hand -/
theorem yput {gv : Nat → zH → Int} (hg : sGv yReg yGu gv) {args : List zV} {h : zH} (hG : sG yReg yG h) {c v : Int32} {t s : Nat} (a0 : yrf (zent 0 args) 0 (0, 120)) (a1 : zget (zent 0 args) 1 = some (.inl c)) (a2 : zget (zent 0 args) 2 = some (.inl v)) (ht : t < 5) (hs : s ≤ 518) (e1 : yv h 440 14 = t) (e2 : yv h 410 t = s) (d : Nat) :
    ∃ m h', yrun m d yQ_putL.1 args h = some (none, h') ∧ sG yReg yG h' ∧ sF yReg yQ_putL.2.2.2.1 h h' ∧ yv h' 408 (520 * t + s) = c.toInt ∧ yv h' 409 (520 * t + s) = v.toInt ∧ yv h' 410 t = s + 1 ∧ ∀ i, i < 2600 → i ≠ 520 * t + s → yv h' 408 i = yv h 408 i ∧ yv h' 409 i = yv h 409 i := by
  have key : ∀ q : Nat, q < 2600 → ∃ m h', yrun m d yQ_putL.1 args h = some (none, h') ∧ sG yReg yG h' ∧ sF yReg yQ_putL.2.2.2.1 h h' ∧ yv h' 408 (520 * t + s) = c.toInt ∧ yv h' 409 (520 * t + s) = v.toInt ∧ yv h' 410 t = s + 1 ∧ (q ≠ 520 * t + s → yv h' 408 q = yv h 408 q ∧ yv h' 409 q = yv h 409 q) := by
    intro q hq
    have i1 := si32 c
    have i3 := si32 v
    have i5 := si32 (h.1 408 q)
    have i7 := si32 (h.1 409 q)
    have hM : sMt yReg gv (yρ [c.toInt, v.toInt, t, s, q, yv h 408 q, yv h 409 q]) (yρ0 [c.toInt, v.toInt, t, s, q, yv h 408 q, yv h 409 q] yQ_putL.2.1.2.2.2.2.2) (sAs yQ_putL.2.1) (zent 0 args) [] h := by
      refine ymk (ya1 a0 ya0) (ya1 (yvr0 a1 rfl) (ya1 (yvr0 a2 rfl) (ya1 (yvr2 (ysm_p (k := 440) (by decide) (by decide +kernel) (by decide +kernel) 14 rfl ?_)) (ya1 (yvr2 (ysm_p (k := 410) (by decide) (by decide +kernel) (by decide +kernel) t ?_ ?_)) (ya1 yvr3 (ya1 (yvr2 (ysm_p (k := 408) (by decide) (by decide +kernel) (by decide +kernel) q ?_ ?_)) (ya1 (yvr2 (ysm_p (k := 409) (by decide) (by decide +kernel) (by decide +kernel) q ?_ ?_)) ya0))))))) (ya1 ?_ (ya1 ?_ (ya1 ?_ (ya1 ?_ (ya1 ?_ (ya1 ?_ (ya1 ?_ ya0))))))) ya0 (ya1 rfl (ya1 rfl (ya1 rfl (ya1 rfl (ya1 rfl (ya1 rfl (ya1 rfl ya0))))))) rfl
      · rw [sY_v]; exact e1
      · show 0 + (1 * (t : Int) + 0) = t; omega
      · rw [sY_v]; exact e2
      · show 0 + (1 * (q : Int) + 0) = q; omega
      · rw [sY_v]; rfl
      · show 0 + (1 * (q : Int) + 0) = q; omega
      · rw [sY_v]; rfl
      · exact i1
      · exact i3
      · show (0 : Int) ≤ t ∧ (t : Int) ≤ 4; omega
      · show (0 : Int) ≤ s ∧ (s : Int) ≤ 518; omega
      · show (0 : Int) ≤ q ∧ (q : Int) ≤ 2599; omega
      · exact i5
      · exact i7
    obtain ⟨m, r, h', r1, r2, r3, hx⟩ := yS_putL hg args h _ _ hG hM d (Nat.zero_le _)
    have ρe : ∀ (ρx : Nat → Int), (∀ j, j < 7 → ρx j = yρ0 [c.toInt, v.toInt, t, s, q, yv h 408 q, yv h 409 q] yQ_putL.2.1.2.2.2.2.2 (j + 1)) → ρx 0 = c.toInt ∧ ρx 1 = v.toInt ∧ ρx 2 = t ∧ ρx 3 = s ∧ ρx 4 = q ∧ ρx 5 = yv h 408 q ∧ ρx 6 = yv h 409 q := fun ρx a => ⟨a 0 (by decide), a 1 (by decide), a 2 (by decide), a 3 (by decide), a 4 (by decide), a 5 (by decide), a 6 (by decide)⟩
    have fin : ∀ (ρx : Nat → Int), (ρx 0 = c.toInt ∧ ρx 1 = v.toInt ∧ ρx 2 = t ∧ ρx 3 = s ∧ ρx 4 = q ∧ ρx 5 = yv h 408 q ∧ ρx 6 = yv h 409 q) → smm yReg gv ρx h' (90, (0, [(2, 1)]), (1, [(3, 1)])) → smm yReg gv ρx h' (88, (0, [(2, 520), (3, 1)]), (0, [(0, 1)])) → smm yReg gv ρx h' (89, (0, [(2, 520), (3, 1)]), (0, [(1, 1)])) → yv h' 408 (520 * t + s) = c.toInt ∧ yv h' 409 (520 * t + s) = v.toInt ∧ yv h' 410 t = s + 1 := by
      intro ρx ⟨b0, b1, b2, b3, b4, b5, b6⟩ m1 m2 m3
      have u1 := ysm_u (k := 410) (by decide) (by decide +kernel) m1 t (by show 0 + (1 * ρx 2 + 0) = _; rw [b2]; omega)
      have u2 := ysm_u (k := 408) (by decide) (by decide +kernel) m2 (520 * t + s) (by show 0 + (520 * ρx 2 + (1 * ρx 3 + 0)) = _; rw [b2, b3]; omega)
      have u3 := ysm_u (k := 409) (by decide) (by decide +kernel) m3 (520 * t + s) (by show 0 + (520 * ρx 2 + (1 * ρx 3 + 0)) = _; rw [b2, b3]; omega)
      rw [u1, u2, u3]
      refine ⟨?_, ?_, ?_⟩
      · show 0 + (1 * ρx 0 + 0) = _; rw [b0]; omega
      · show 0 + (1 * ρx 1 + 0) = _; rw [b1]; omega
      · show 1 + (1 * ρx 3 + 0) = _; rw [b3]; omega
    have same : ∀ (ρx : Nat → Int), (ρx 0 = c.toInt ∧ ρx 1 = v.toInt ∧ ρx 2 = t ∧ ρx 3 = s ∧ ρx 4 = q ∧ ρx 5 = yv h 408 q ∧ ρx 6 = yv h 409 q) → smm yReg gv ρx h' (88, (0, [(4, 1)]), (0, [(5, 1)])) → smm yReg gv ρx h' (89, (0, [(4, 1)]), (0, [(6, 1)])) → yv h' 408 q = yv h 408 q ∧ yv h' 409 q = yv h 409 q := by
      intro ρx ⟨b0, b1, b2, b3, b4, b5, b6⟩ m2 m3
      have u2 := ysm_u (k := 408) (by decide) (by decide +kernel) m2 q (by show 0 + (1 * ρx 4 + 0) = _; rw [b4]; omega)
      have u3 := ysm_u (k := 409) (by decide) (by decide +kernel) m3 q (by show 0 + (1 * ρx 4 + 0) = _; rw [b4]; omega)
      rw [u2, u3]
      refine ⟨?_, ?_⟩
      · show 0 + (1 * ρx 5 + 0) = _; rw [b5]; omega
      · show 0 + (1 * ρx 6 + 0) = _; rw [b6]; omega
    refine yone hx (ya1 ?_ (ya1 ?_ (ya1 ?_ ya0)))
    · intro hE
      obtain ⟨ρx, a, -, -, ⟨m1, m2, m3, m4, m5, -⟩, hr⟩ := yexU hE
      have b := ρe ρx a
      obtain ⟨f1, f2, f3⟩ := fin ρx b m1 m2 m3
      have hr : r = none := by
        match r, hr with
        | none, _ => rfl
      rw [hr] at r1
      exact ⟨m, h', r1, r2, r3, f1, f2, f3, fun _ => same ρx b m4 m5⟩
    · intro hE
      obtain ⟨ρx, a, -, ⟨c1, c2, c3, -⟩, ⟨m1, m2, m3, -⟩, hr⟩ := yexU hE
      have b := ρe ρx a
      obtain ⟨f1, f2, f3⟩ := fin ρx b m1 m2 m3
      have hr : r = none := by
        match r, hr with
        | none, _ => rfl
      rw [hr] at r1
      have c2 : 0 + (-520 * ρx 2 + (-1 * ρx 3 + (1 * ρx 4 + 0))) ≤ 0 := c2
      have c3 : 0 + (520 * ρx 2 + (1 * ρx 3 + (-1 * ρx 4 + 0))) ≤ 0 := c3
      obtain ⟨b0, b1, b2, b3, b4, b5, b6⟩ := b
      rw [b2, b3, b4] at c2 c3
      exact ⟨m, h', r1, r2, r3, f1, f2, f3, fun hne => absurd (show q = 520 * t + s by omega) hne⟩
    · intro hE
      obtain ⟨ρx, a, -, -, ⟨m1, m2, m3, m4, m5, -⟩, hr⟩ := yexU hE
      have b := ρe ρx a
      obtain ⟨f1, f2, f3⟩ := fin ρx b m1 m2 m3
      have hr : r = none := by
        match r, hr with
        | none, _ => rfl
      rw [hr] at r1
      exact ⟨m, h', r1, r2, r3, f1, f2, f3, fun _ => same ρx b m4 m5⟩
  obtain ⟨m, h', r1, r2, r3, f1, f2, f3, -⟩ := key 0 (by decide)
  refine ⟨m, h', r1, r2, r3, f1, f2, f3, ?_⟩
  intro i hi hne
  obtain ⟨m2, h2, q1, -, -, -, -, -, q2⟩ := key i hi
  have := yrun_u r1 q1
  cases this
  exact q2 hne
