/-! open, by hand -/
theorem yopen {gv : Nat → zH → Int} (hg : sGv yReg yGu gv) {args : List zV} {h : zH} (hG : sG yReg yG h) (a0 : yrf (zent 0 args) 0 (0, 120)) {c : Int32} {n : Nat} (a1 : zget (zent 0 args) 1 = some (.inl c)) (hn : n < 5) (hc : c.toInt = n) (d : Nat) :
    ∃ m h', yrun m d yQ_openL.1 args h = some (none, h') ∧ sG yReg yG h' ∧ sF yReg yQ_openL.2.2.2.1 h h' ∧ yv h' 440 14 = n ∧ yv h' 440 3 = 0 ∧ yv h' 440 4 = -1 ∧ yv h' 440 5 = 0 ∧ yv h' 410 n = 0 ∧ yv h' 411 n = 0 ∧ ∀ q, q < 5 → q ≠ n → yv h' 411 q = yv h 411 q := by
  have f1 : 0 ≤ yv h 440 14 ∧ yv h 440 14 ≤ 4 := hG 440 (14, 14, 0, 4) (by decide +kernel) 14 (by decide) (by decide)
  have f2 : 0 ≤ yv h 440 3 ∧ yv h 440 3 ≤ 260 := hG 440 (3, 3, 0, 260) (by decide +kernel) 3 (by decide) (by decide)
  have f3 : -1 ≤ yv h 440 4 ∧ yv h 440 4 ≤ 260 := hG 440 (4, 4, -1, 260) (by decide +kernel) 4 (by decide) (by decide)
  have f4 : 0 ≤ yv h 440 5 ∧ yv h 440 5 ≤ 10 := hG 440 (5, 5, 0, 10) (by decide +kernel) 5 (by decide) (by decide)
  have key : ∀ q : Nat, q < 5 → ∃ m h', yrun m d yQ_openL.1 args h = some (none, h') ∧ sG yReg yG h' ∧ sF yReg yQ_openL.2.2.2.1 h h' ∧ yv h' 440 14 = n ∧ yv h' 440 3 = 0 ∧ yv h' 440 4 = -1 ∧ yv h' 440 5 = 0 ∧ yv h' 410 n = 0 ∧ yv h' 411 n = 0 ∧ (q ≠ n → yv h' 411 q = yv h 411 q) := by
    intro q hq
    have i5 := si32 (h.1 411 q)
    have hM : sMt yReg gv (yρ [n, yv h 440 14, yv h 440 3, yv h 440 4, yv h 440 5, q, yv h 411 q]) (yρ0 [n, yv h 440 14, yv h 440 3, yv h 440 4, yv h 440 5, q, yv h 411 q] yQ_openL.2.1.2.2.2.2.2) (sAs yQ_openL.2.1) (zent 0 args) [] h := by
      refine ymk (ya1 a0 ya0) (ya1 (yvr0 a1 hc) (ya1 (yvr2 (ysm_p (k := 440) (by decide) (by decide +kernel) (by decide +kernel) 14 rfl ?_)) (ya1 (yvr2 (ysm_p (k := 440) (by decide) (by decide +kernel) (by decide +kernel) 3 rfl ?_)) (ya1 (yvr2 (ysm_p (k := 440) (by decide) (by decide +kernel) (by decide +kernel) 4 rfl ?_)) (ya1 (yvr2 (ysm_p (k := 440) (by decide) (by decide +kernel) (by decide +kernel) 5 rfl ?_)) (ya1 yvr3 (ya1 (yvr2 (ysm_p (k := 411) (by decide) (by decide +kernel) (by decide +kernel) q ?_ ?_)) ya0))))))) (ya1 ?_ (ya1 f1 (ya1 f2 (ya1 f3 (ya1 f4 (ya1 ?_ (ya1 i5 ya0))))))) ya0 (ya1 rfl (ya1 rfl (ya1 rfl (ya1 rfl (ya1 rfl (ya1 rfl (ya1 rfl ya0))))))) rfl
      · rw [sY_v]; rfl
      · rw [sY_v]; rfl
      · rw [sY_v]; rfl
      · rw [sY_v]; rfl
      · show 0 + (1 * (q : Int) + 0) = q; omega
      · rw [sY_v]; rfl
      · show (0 : Int) ≤ n ∧ (n : Int) ≤ 4; omega
      · show (0 : Int) ≤ q ∧ (q : Int) ≤ 4; omega
    obtain ⟨m, r, h', r1, r2, r3, hx⟩ := yS_openL hg args h _ _ hG hM d (Nat.zero_le _)
    have fin : ∀ (ρx : Nat → Int), ρx 0 = n → smm yReg gv ρx h' (120, (14, []), (0, [(0, 1)])) → smm yReg gv ρx h' (120, (3, []), (0, [])) → smm yReg gv ρx h' (120, (4, []), ((-1), [])) → smm yReg gv ρx h' (120, (5, []), (0, [])) → smm yReg gv ρx h' (91, (0, [(0, 1)]), (0, [])) → smm yReg gv ρx h' (90, (0, [(0, 1)]), (0, [])) → yv h' 440 14 = n ∧ yv h' 440 3 = 0 ∧ yv h' 440 4 = -1 ∧ yv h' 440 5 = 0 ∧ yv h' 410 n = 0 ∧ yv h' 411 n = 0 := by
      intro ρx b0 m1 m2 m3 m4 m5 m6
      have u1 : yv h' 440 14 = 0 + (1 * ρx 0 + 0) := ysm_u (k := 440) (by decide) (by decide +kernel) m1 14 rfl
      have u2 : yv h' 440 3 = 0 + 0 := ysm_u (k := 440) (by decide) (by decide +kernel) m2 3 rfl
      have u3 : yv h' 440 4 = -1 + 0 := ysm_u (k := 440) (by decide) (by decide +kernel) m3 4 rfl
      have u4 : yv h' 440 5 = 0 + 0 := ysm_u (k := 440) (by decide) (by decide +kernel) m4 5 rfl
      have u5 : yv h' 411 n = 0 + 0 := ysm_u (k := 411) (by decide) (by decide +kernel) m5 n (by show 0 + (1 * ρx 0 + 0) = _; rw [b0]; omega)
      have u6 : yv h' 410 n = 0 + 0 := ysm_u (k := 410) (by decide) (by decide +kernel) m6 n (by show 0 + (1 * ρx 0 + 0) = _; rw [b0]; omega)
      exact ⟨by rw [u1, b0]; omega, u2, u3, u4, u6, u5⟩
    refine yone hx (ya1 ?_ (ya1 ?_ (ya1 ?_ ya0)))
    · intro hE
      obtain ⟨ρx, a, -, -, ⟨m1, m2, m3, m4, m7, m5, m6, -⟩, hr⟩ := yexU hE
      have hr : r = none := by
        match r, hr with
        | none, _ => rfl
      rw [hr] at r1
      have b0 : ρx 0 = n := a 0 (by decide)
      have b5 : ρx 5 = q := a 5 (by decide)
      have b6 : ρx 6 = yv h 411 q := a 6 (by decide)
      obtain ⟨x1, x2, x3, x4, x5, x6⟩ := fin ρx b0 m1 m2 m3 m4 m5 m6
      refine ⟨m, h', r1, r2, r3, x1, x2, x3, x4, x5, x6, fun _ => ?_⟩
      have u : yv h' 411 q = 0 + (1 * ρx 6 + 0) := ysm_u (k := 411) (by decide) (by decide +kernel) m7 q (by show 0 + (1 * ρx 5 + 0) = _; rw [b5]; omega)
      rw [u, b6]
      omega
    · intro hE
      obtain ⟨ρx, a, -, ⟨k1, k2, -⟩, ⟨m1, m2, m3, m4, m5, m6, -⟩, hr⟩ := yexU hE
      have hr : r = none := by
        match r, hr with
        | none, _ => rfl
      rw [hr] at r1
      have b0 : ρx 0 = n := a 0 (by decide)
      have b5 : ρx 5 = q := a 5 (by decide)
      have k1 : 0 + (1 * ρx 0 + (-1 * ρx 5 + 0)) ≤ 0 := k1
      have k2 : 0 + (-1 * ρx 0 + (1 * ρx 5 + 0)) ≤ 0 := k2
      obtain ⟨x1, x2, x3, x4, x5, x6⟩ := fin ρx b0 m1 m2 m3 m4 m5 m6
      exact ⟨m, h', r1, r2, r3, x1, x2, x3, x4, x5, x6, fun hne => absurd (show q = n by omega) hne⟩
    · intro hE
      obtain ⟨ρx, a, -, -, ⟨m1, m2, m3, m4, m7, m5, m6, -⟩, hr⟩ := yexU hE
      have hr : r = none := by
        match r, hr with
        | none, _ => rfl
      rw [hr] at r1
      have b0 : ρx 0 = n := a 0 (by decide)
      have b5 : ρx 5 = q := a 5 (by decide)
      have b6 : ρx 6 = yv h 411 q := a 6 (by decide)
      obtain ⟨x1, x2, x3, x4, x5, x6⟩ := fin ρx b0 m1 m2 m3 m4 m5 m6
      refine ⟨m, h', r1, r2, r3, x1, x2, x3, x4, x5, x6, fun _ => ?_⟩
      have u : yv h' 411 q = 0 + (1 * ρx 6 + 0) := ysm_u (k := 411) (by decide) (by decide +kernel) m7 q (by show 0 + (1 * ρx 5 + 0) = _; rw [b5]; omega)
      rw [u, b6]
      omega
  obtain ⟨m, h', r1, r2, r3, x1, x2, x3, x4, x5, x6, -⟩ := key 0 (by decide)
  refine ⟨m, h', r1, r2, r3, x1, x2, x3, x4, x5, x6, ?_⟩
  intro q hq hne
  obtain ⟨m2, h2, e1, -, -, -, -, -, -, -, -, e2⟩ := key q hq
  have := yrun_u r1 e1
  cases this
  exact e2 hne
theorem yvc {h h' : zH} {k : Nat} (e : ∀ i, h'.1 k i = h.1 k i) (i : Nat) : yv h' k i = yv h k i := by
  unfold yv
  rw [e]
theorem yT11_ok {t s : Nat} (ht : t < 5) {c0 v0 : Nat → Int} {ar : Nat → Int32} : ySum (yGv t s c0 v0 ar) yT11 := by
  intro args h ρ ρ0 hG hM d hd
  obtain ⟨⟨a0, -⟩, ⟨⟨c, c1, c2⟩, m1, m2, -⟩, ⟨b0, b1, b2, -⟩, ⟨k0, -⟩, ⟨p0, p1, p2, -⟩, -⟩ := yun hM
  have c2 : c.toInt = ρ 0 := c2
  have b0 : 0 ≤ ρ 0 ∧ ρ 0 ≤ 4 := b0
  have b1 : 0 ≤ ρ 1 ∧ ρ 1 ≤ 4 := b1
  have b2 : 1 ≤ ρ 2 ∧ ρ 2 ≤ 1 := b2
  have k0 : 0 + (-1 * ρ 0 + (1 * ρ 1 + 0)) ≤ 0 := k0
  have p0 : ρ0 1 = ρ 0 := p0
  have g4 : yG4 h := by
    have := ysm_gu (a := 4) m2
    rw [sY_v] at this
    have q : ρ 2 = 1 := by omega
    have this : yGv t s c0 v0 ar 4 h = ρ 2 := this
    rw [q] at this
    exact yB_1.mp this
  have lw := ysm_u (k := 440) (by decide) (by decide +kernel) m1 13 rfl
  rw [sY_v] at lw
  have lw : yv h 440 13 = ρ 1 := lw
  obtain ⟨n, hn⟩ : ∃ x : Nat, ρ 0 = x := ⟨(ρ 0).toNat, by omega⟩
  obtain ⟨m, h', r1, r2, r3, x1, x2, x3, x4, x5, x6, x7⟩ := yopen (yGvOk (s := s) (c0 := c0) (v0 := v0) (ar := ar) ht) hG a0 c1 (n := n) (by omega) (by omega) d
  have e13 : yv h' 440 13 = yv h 440 13 := yfv r3 (by decide +kernel)
  have e25 : yv h' 440 25 = yv h 440 25 := yfv r3 (by decide +kernel)
  have q8 := yfc r3 (k := 408) (by decide +kernel)
  have q9 := yfc r3 (k := 409) (by decide +kernel)
  have q12 := yfc r3 (k := 412) (by decide +kernel)
  have q13 := yfc r3 (k := 413) (by decide +kernel)
  have q14 := yfc r3 (k := 414) (by decide +kernel)
  have eco : ∀ i, yco h i = yco h' i := by
    intro i
    unfold yco
    rw [yvc q8]
  have eva : ∀ i, yva h i = yva h' i := by
    intro i
    unfold yva
    rw [yvc q9]
  have G12 : yG12 h' := by
    refine ⟨⟨?_, ?_⟩, ?_⟩
    · rw [e13, e25]
      exact g4.1
    · rw [e13]
      intro k hk hk2
      have := g4.2 k hk hk2
      refine (ylw_c eco eva ?_ ?_).mp this
      · rw [x7 k hk (by omega)]
      · intro i hi
        rw [yvc q12, yvc q13, yvc q14]
        exact ⟨rfl, rfl, rfl⟩
    · rw [e13, x1]
      omega
  have G11 : yG11 h' := ⟨n, 0, 0, by omega, x1, x6, by omega, x5, by omega, fun c hc => absurd hc (Nat.not_lt_zero c)⟩
  have r4 : sF yReg yT11.2.2.2.1 h h' := by
    intro k i hne
    obtain ⟨z, hz, e1, e2, e3⟩ := r3 k i hne
    have hz : z ∈ ([(120, 3, 5), (120, 14, 14), (91, 0, 4), (90, 0, 4)] : sD) := hz
    simp only [List.mem_cons, List.not_mem_nil, or_false] at hz
    rcases hz with rfl | rfl | rfl | rfl
    · have e2 : (3 : Int) ≤ i := e2
      have e3 : (i : Int) ≤ 5 := e3
      have : i = 3 ∨ i = 4 ∨ i = 5 := by omega
      rcases this with rfl | rfl | rfl
      · exact ⟨(120, 3, 3), by decide +kernel, e1, by decide, by decide⟩
      · exact ⟨(120, 4, 4), by decide +kernel, e1, by decide, by decide⟩
      · exact ⟨(120, 5, 5), by decide +kernel, e1, by decide, by decide⟩
    · exact ⟨(120, 14, 14), by decide +kernel, e1, e2, e3⟩
    · exact ⟨(91, 0, 4), by decide +kernel, e1, e2, e3⟩
    · exact ⟨(90, 0, 4), by decide +kernel, e1, e2, e3⟩
  refine ⟨m, none, h', r1, r2, r4, _, List.mem_cons_self .., yexM (fun j => ρ0 (j + 1)) (fun j _ => rfl) ya0 ya0 (ya1 ?_ (ya1 ?_ (ya1 ?_ (ya1 ?_ (ya1 ?_ (ya1 ?_ (ya1 ?_ (ya1 ?_ ya0)))))))) trivial⟩
  · refine ysm_p (k := 440) (by decide) (by decide +kernel) (by decide +kernel) 14 rfl ?_
    show _ = 0 + (1 * ρ0 1 + 0)
    rw [x1, p0]
    omega
  · refine ysm_p (k := 440) (by decide) (by decide +kernel) (by decide +kernel) 3 rfl ?_
    rw [x2]
    rfl
  · refine ysm_p (k := 440) (by decide) (by decide +kernel) (by decide +kernel) 4 rfl ?_
    rw [x3]
    rfl
  · refine ysm_p (k := 440) (by decide) (by decide +kernel) (by decide +kernel) 5 rfl ?_
    rw [x4]
    rfl
  · refine ysm_p (k := 410) (by decide) (by decide +kernel) (by decide +kernel) n ?_ ?_
    · show 0 + (1 * ρ0 1 + 0) = _
      rw [p0]
      omega
    · rw [x5]
      rfl
  · refine ysm_p (k := 411) (by decide) (by decide +kernel) (by decide +kernel) n ?_ ?_
    · show 0 + (1 * ρ0 1 + 0) = _
      rw [p0]
      omega
    · rw [x6]
      rfl
  · refine ysm_g (a := 11) ?_
    show yB (yG11 h') = 1
    exact yB_1.mpr G11
  · refine ysm_g (a := 12) ?_
    show yB (yG12 h') = 1
    exact yB_1.mpr G12
