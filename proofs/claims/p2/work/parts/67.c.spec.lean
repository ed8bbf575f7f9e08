/-! law, snow, feed, undo, back, image, ring -/
noncomputable def yQ_law : sQ := (149, ([(0, 120)], [(0, 1, (0, [])), (2, 120, (13, [])), (2, 120, (25, []))], [((-2147483648), 2147483647), (0, 4), ((-1), 3)], [(1, [(1, (-1)), (2, 1)])], [(0, 0), (1, 1), (2, 2)], (0, [])), [(some (0, (0, [])), [(120, (13, []), (0, [(1, 1)])), (120, (25, []), (0, [(2, 1)]))], [], [(1, [(1, (-1)), (2, 1)])], []), (some (0, (1, [])), [(120, (13, []), (0, [(1, 1)])), (120, (25, []), (0, [(0, 1)]))], [], [(1, [(0, 1), (1, (-1))])], [])], [(120, 25, 25)], 1)
theorem yS_law {gv : Nat → zH → Int} (hg : sGv yReg yGu gv) : ySum gv yQ_law := yOk hg (F := 500) (sp := []) (L := []) (Qs := [yQ221]) (by decide +kernel) (yCons (yS221 hg) yNil)
theorem yP_X12_law {h : zH} (hI : yInv h) (a : Int32) : yGood 60 149 [.inr (.inr 440), .inl a] h := by
  obtain ⟨hG, g4, g5, g6, g7, gm⟩ := hI
  have b13 := hG 440 (13, 13, 0, 4) (by decide +kernel) 13 (Nat.le_refl _) (Nat.le_refl _)
  have b25 := hG 440 (25, 25, -1, 3) (by decide +kernel) 25 (Nat.le_refl _) (Nat.le_refl _)
  have ia := si32 a
  have hM : sMt yReg yG0 (yρ [a.toInt, yv h 440 13, yv h 440 25]) (yρ0 [a.toInt, yv h 440 13, yv h 440 25] (0, [])) (sAs yQ_law.2.1) (zent 0 [.inr (.inr 440), .inl a]) [] h := by
    refine ymk (ya1 ⟨440, rfl, by decide +kernel⟩ ya0) (ya1 (yvr0 (x := a) rfl rfl) (ya1 (yvr2 (ysm_p (k := 440) (by decide) (by decide +kernel) (by decide +kernel) 13 rfl ?_)) (ya1 (yvr2 (ysm_p (k := 440) (by decide) (by decide +kernel) (by decide +kernel) 25 rfl ?_)) ya0))) (ya1 ia (ya1 b13 (ya1 b25 ya0))) (ya1 ?_ ya0) (ya1 rfl (ya1 rfl (ya1 rfl ya0))) rfl
    · rw [sY_v]; rfl
    · rw [sY_v]; rfl
    · show 1 + (-1 * yv h 440 13 + (1 * yv h 440 25 + 0)) ≤ 0
      have := g4.1
      omega
  obtain ⟨m, r, h', r1, r2, r3, hx⟩ := yS_law (yGvOk (by decide)) _ h _ _ hG hM 60 (by decide)
  have fin : ∀ x : Int32, r = some (.inl x) → yv h' 440 25 < yv h' 440 13 → yGood 60 149 [.inr (.inr 440), .inl a] h := by
    intro x hr hlt
    subst hr
    have fr : ∀ b, yfre yQ_law.2.2.2.1 (yGu b) = true → yG0 b h = yG0 b h' := fun b hb => yGvOk (by decide) b h h' (fun k i hz => yfre_ok hb r3 hz)
    refine ⟨m, x, h', r1, ⟨r2, ⟨hlt, ?_⟩, ?_, ?_, ?_, ?_⟩, yfr r3 (by decide +kernel), yfr r3 (by decide +kernel)⟩
    · have e13 : yv h' 440 13 = yv h 440 13 := yfv r3 (by decide +kernel)
      rw [e13]
      refine (yls_c (fun n hn => ylw_c (fun i => ?_) (fun i => ?_) ?_ (fun i hi => ?_))).mp g4.2
      · unfold yco yv
        rw [yfc r3 (by decide +kernel)]
      · unfold yva yv
        rw [yfc r3 (by decide +kernel)]
      · unfold yv
        rw [yfc r3 (by decide +kernel)]
      · unfold yv
        rw [yfc r3 (by decide +kernel), yfc (k := 413) r3 (by decide +kernel), yfc (k := 414) r3 (by decide +kernel)]
        exact ⟨rfl, rfl, rfl⟩
    · refine yB_1.mp ?_
      show yG0 5 h' = 1
      rw [← fr 5 (by decide +kernel)]
      exact yB_1.mpr g5
    · refine yB_1.mp ?_
      show yG0 6 h' = 1
      rw [← fr 6 (by decide +kernel)]
      exact yB_1.mpr g6
    · refine yB_1.mp ?_
      show yG0 7 h' = 1
      rw [← fr 7 (by decide +kernel)]
      exact yB_1.mpr g7
    · rw [yfv (k := 440) (i := 22) r3 (by decide +kernel), yfv (k := 419) (i := 0) r3 (by decide +kernel)]
      exact gm
  refine yone hx (ya1 ?_ (ya1 ?_ ya0))
  · intro hE
    obtain ⟨ρx, a', -, ⟨c0, -⟩, ⟨m0, m1, -⟩, hr⟩ := yexU hE
    have v13 : yv h' 440 13 = 0 + (1 * ρx 1 + 0) := ysm_u (k := 440) (by decide) (by decide +kernel) m0 13 rfl
    have v25 : yv h' 440 25 = 0 + (1 * ρx 2 + 0) := ysm_u (k := 440) (by decide) (by decide +kernel) m1 25 rfl
    have c0 : 1 + (-1 * ρx 1 + (1 * ρx 2 + 0)) ≤ 0 := c0
    match r, hr with
    | some (.inl z), _ => exact fin z rfl (by omega)
  · intro hE
    obtain ⟨ρx, a', -, ⟨c0, -⟩, ⟨m0, m1, -⟩, hr⟩ := yexU hE
    have v13 : yv h' 440 13 = 0 + (1 * ρx 1 + 0) := ysm_u (k := 440) (by decide) (by decide +kernel) m0 13 rfl
    have v25 : yv h' 440 25 = 0 + (1 * ρx 0 + 0) := ysm_u (k := 440) (by decide) (by decide +kernel) m1 25 rfl
    have c0 : 1 + (1 * ρx 0 + (-1 * ρx 1 + 0)) ≤ 0 := c0
    match r, hr with
    | some (.inl z), _ => exact fin z rfl (by omega)
/-- snow, of a receiver's region, cell, field -/
noncomputable def yQ_sn (mid reg fi : Nat) (dep : Nat) : sQ := (mid, ([(0, reg)], [(0, 1, (0, [])), (2, reg, ((fi : Int), []))], [((-2147483648), 2147483647), ((-2147483648), 2147483647)], [], [(0, 0), (1, 1)], (0, [])), [(some (0, (0, [])), [(reg, ((fi : Int), []), (0, [(1, 1)]))], [], [(1, [(0, 1)])], []), (some (0, (0, [])), [(reg, ((fi : Int), []), (0, [(1, 1)]))], [], [(10, [(0, (-1))])], []), (some (0, (0, [])), [(reg, ((fi : Int), []), (0, [(1, 1)]))], [], [(0, [(0, 1), (1, (-1))]), (0, [(0, (-1)), (1, 1)])], []), (some (0, (1, [])), [(reg, ((fi : Int), []), (0, [(0, 1)]))], [], [((-9), [(0, 1)]), (0, [(0, (-1))]), (1, [(0, 1), (1, (-1))])], []), (some (0, (1, [])), [(reg, ((fi : Int), []), (0, [(0, 1)]))], [], [((-9), [(0, 1)]), (0, [(0, (-1))]), (1, [(0, (-1)), (1, 1)])], [])], [(reg, (fi : Int), (fi : Int))], dep)
theorem yS_snG {gv : Nat → zH → Int} (hg : sGv yReg yGu gv) : ySum gv (yQ_sn 85 86 18 0) := yOk hg (F := 500) (sp := [((0, [(0, 1), (1, (-1))]), [0, 1])]) (L := []) (Qs := []) (by decide +kernel) yNil
theorem yS_snM {gv : Nat → zH → Int} (hg : sGv yReg yGu gv) : ySum gv (yQ_sn 184 120 26 1) := yOk hg (F := 500) (sp := [((0, [(0, 1), (1, (-1))]), [0, 1])]) (L := []) (Qs := [yQ221]) (by decide +kernel) (yCons (yS221 hg) yNil)
/-- what snow does -/
noncomputable def ysn (v c : Int) (r c' : Int) : Prop := (r = 1 ∧ c' = v ∧ 0 ≤ v ∧ v ≤ 9 ∧ v ≠ c) ∨ (r = 0 ∧ c' = c ∧ (v < 0 ∨ 9 < v ∨ v = c))
theorem ysn_u {v c r c' r2 c2 : Int} (h1 : ysn v c r c') (h2 : ysn v c r2 c2) : r = r2 ∧ c' = c2 := by
  unfold ysn at h1 h2
  omega
theorem ysnow {mid reg cell fi dep : Nat} (hreg : reg < 1000) (hcell : yReg cell = reg) (hsin : ySin reg = true) (hS : ySum yG0 (yQ_sn mid reg fi dep)) (hd : dep ≤ 60) (hf : (yfre [(reg, (fi : Int), (fi : Int))] (yGu 4) && (yfre [(reg, (fi : Int), (fi : Int))] (yGu 5) && (yfre [(reg, (fi : Int), (fi : Int))] (yGu 6) && (yfre [(reg, (fi : Int), (fi : Int))] (yGu 7) && yfre [(reg, (fi : Int), (fi : Int))] [(120, 22, 22), (99, 0, 0)])))) = true) {h : zH} (hI : yInv h) (a : Int32) : ∃ m x h', yrun m 60 mid [.inr (.inr cell), .inl a] h = some (some (.inl x), h') ∧ yInv h' ∧ ysn a.toInt (yv h cell fi) x.toInt (yv h' cell fi) ∧ sF yReg [(reg, (fi : Int), (fi : Int))] h h' := by
  obtain ⟨hG, g4, g5, g6, g7, gm⟩ := hI
  simp only [Bool.and_eq_true] at hf
  obtain ⟨f4, f5, f6, f7, fm⟩ := hf
  have ia := si32 a
  have ic := si32 (h.1 cell fi)
  have hM : sMt yReg yG0 (yρ [a.toInt, yv h cell fi]) (yρ0 [a.toInt, yv h cell fi] (0, [])) (sAs (yQ_sn mid reg fi dep).2.1) (zent 0 [.inr (.inr cell), .inl a]) [] h := by
    refine ymk (ya1 ⟨cell, rfl, hcell⟩ ya0) (ya1 (yvr0 (x := a) rfl rfl) (ya1 (yvr2 (ysm_p (k := cell) hreg hcell hsin fi ?_ ?_)) ya0)) (ya1 ia (ya1 ic ya0)) ya0 (ya1 rfl (ya1 rfl ya0)) rfl
    · show (fi : Int) + 0 = fi; omega
    · rw [sY_v]; rfl
  obtain ⟨m, r, h', r1, r2, r3, hx⟩ := hS _ h _ _ hG hM 60 hd
  have r3 : sF yReg [(reg, (fi : Int), (fi : Int))] h h' := r3
  have fr : ∀ b, yfre [(reg, (fi : Int), (fi : Int))] (yGu b) = true → yG0 b h = yG0 b h' := fun b hb => yGvOk (by decide) b h h' (fun k i hz => yfre_ok hb r3 hz)
  have fin : ∀ x : Int32, r = some (.inl x) → ysn a.toInt (yv h cell fi) x.toInt (yv h' cell fi) → ∃ m x h', yrun m 60 mid [.inr (.inr cell), .inl a] h = some (some (.inl x), h') ∧ yInv h' ∧ ysn a.toInt (yv h cell fi) x.toInt (yv h' cell fi) ∧ sF yReg [(reg, (fi : Int), (fi : Int))] h h' := by
    intro x hr hs
    subst hr
    refine ⟨m, x, h', r1, ⟨r2, ?_, ?_, ?_, ?_, ?_⟩, hs, r3⟩
    · refine yB_1.mp ?_
      show yG0 4 h' = 1
      rw [← fr 4 f4]
      exact yB_1.mpr g4
    · refine yB_1.mp ?_
      show yG0 5 h' = 1
      rw [← fr 5 f5]
      exact yB_1.mpr g5
    · refine yB_1.mp ?_
      show yG0 6 h' = 1
      rw [← fr 6 f6]
      exact yB_1.mpr g6
    · refine yB_1.mp ?_
      show yG0 7 h' = 1
      rw [← fr 7 f7]
      exact yB_1.mpr g7
    · have e1 : h.1 440 22 = h'.1 440 22 := yfre_ok fm r3 ⟨(120, 22, 22), List.mem_cons_self .., by decide +kernel, by decide, by decide⟩
      have e2 : h.1 419 0 = h'.1 419 0 := yfre_ok fm r3 ⟨(99, 0, 0), List.mem_cons_of_mem _ (List.mem_cons_self ..), by decide +kernel, by decide, by decide⟩
      unfold yv at gm ⊢
      rw [← e1, ← e2]
      exact gm
  have pl : ∀ (ρx : Nat → Int) (j : Nat), smm yReg yG0 ρx h' (reg, ((fi : Int), []), (0, [(j, 1)])) → yv h' cell fi = 0 + (1 * ρx j + 0) := fun ρx j mm => ysm_u (k := cell) hreg hcell mm fi (by show (fi : Int) + 0 = fi; omega)
  refine yone hx (ya1 ?_ (ya1 ?_ (ya1 ?_ (ya1 ?_ (ya1 ?_ ya0)))))
  · intro hE
    obtain ⟨ρx, q, -, ⟨c0, -⟩, ⟨mm, -⟩, hr⟩ := yexU hE
    have q0 : ρx 0 = a.toInt := q 0 (show 0 < 2 by decide)
    have q1 : ρx 1 = yv h cell fi := q 1 (show 1 < 2 by decide)
    have := pl ρx 1 mm
    have c0 : 1 + (1 * ρx 0 + 0) ≤ 0 := c0
    match r, hr with
    | some (.inl z), hr =>
      have hr : z.toInt = 0 + 0 := hr
      refine fin z rfl ?_
      unfold ysn
      omega
  · intro hE
    obtain ⟨ρx, q, -, ⟨c0, -⟩, ⟨mm, -⟩, hr⟩ := yexU hE
    have q0 : ρx 0 = a.toInt := q 0 (show 0 < 2 by decide)
    have q1 : ρx 1 = yv h cell fi := q 1 (show 1 < 2 by decide)
    have := pl ρx 1 mm
    have c0 : 10 + (-1 * ρx 0 + 0) ≤ 0 := c0
    match r, hr with
    | some (.inl z), hr =>
      have hr : z.toInt = 0 + 0 := hr
      refine fin z rfl ?_
      unfold ysn
      omega
  · intro hE
    obtain ⟨ρx, q, -, ⟨c0, c1, -⟩, ⟨mm, -⟩, hr⟩ := yexU hE
    have q0 : ρx 0 = a.toInt := q 0 (show 0 < 2 by decide)
    have q1 : ρx 1 = yv h cell fi := q 1 (show 1 < 2 by decide)
    have := pl ρx 1 mm
    have c0 : 0 + (1 * ρx 0 + (-1 * ρx 1 + 0)) ≤ 0 := c0
    have c1 : 0 + (-1 * ρx 0 + (1 * ρx 1 + 0)) ≤ 0 := c1
    match r, hr with
    | some (.inl z), hr =>
      have hr : z.toInt = 0 + 0 := hr
      refine fin z rfl ?_
      unfold ysn
      omega
  · intro hE
    obtain ⟨ρx, q, -, ⟨c0, c1, c2, -⟩, ⟨mm, -⟩, hr⟩ := yexU hE
    have q0 : ρx 0 = a.toInt := q 0 (show 0 < 2 by decide)
    have q1 : ρx 1 = yv h cell fi := q 1 (show 1 < 2 by decide)
    have := pl ρx 0 mm
    have c0 : -9 + (1 * ρx 0 + 0) ≤ 0 := c0
    have c1 : 0 + (-1 * ρx 0 + 0) ≤ 0 := c1
    have c2 : 1 + (1 * ρx 0 + (-1 * ρx 1 + 0)) ≤ 0 := c2
    match r, hr with
    | some (.inl z), hr =>
      have hr : z.toInt = 1 + 0 := hr
      refine fin z rfl ?_
      unfold ysn
      omega
  · intro hE
    obtain ⟨ρx, q, -, ⟨c0, c1, c2, -⟩, ⟨mm, -⟩, hr⟩ := yexU hE
    have q0 : ρx 0 = a.toInt := q 0 (show 0 < 2 by decide)
    have q1 : ρx 1 = yv h cell fi := q 1 (show 1 < 2 by decide)
    have := pl ρx 0 mm
    have c0 : -9 + (1 * ρx 0 + 0) ≤ 0 := c0
    have c1 : 0 + (-1 * ρx 0 + 0) ≤ 0 := c1
    have c2 : 1 + (-1 * ρx 0 + (1 * ρx 1 + 0)) ≤ 0 := c2
    match r, hr with
    | some (.inl z), hr =>
      have hr : z.toInt = 1 + 0 := hr
      refine fin z rfl ?_
      unfold ysn
      omega
/-- the class's snow, then the reference's: the same answer -/
theorem yP_snow {h : zH} (hI : yInv h) (he : h.1 406 18 = h.1 440 26) (a : Int32) : ∃ m x h', yrun m 60 85 [.inr (.inr 406), .inl a] h = some (some (.inl x), h') ∧ ∃ m2 h2, yrun m2 60 184 [.inr (.inr 440), .inl a] h' = some (some (.inl x), h2) ∧ yInv h2 ∧ h2.1 406 18 = h2.1 440 26 := by
  obtain ⟨m, x, h', r1, i1, s1, f1⟩ := ysnow (cell := 406) (by decide) (by decide +kernel) (by decide +kernel) (yS_snG (yGvOk (by decide))) (by decide) (by decide +kernel) hI a
  obtain ⟨m2, x2, h2, r2, i2, s2, f2⟩ := ysnow (cell := 440) (by decide) (by decide +kernel) (by decide +kernel) (yS_snM (yGvOk (by decide))) (by decide) (by decide +kernel) i1 a
  have e1 : yv h' 440 26 = yv h 440 26 := yfv f1 (by decide +kernel)
  have e2 : yv h2 406 18 = yv h' 406 18 := yfv f2 (by decide +kernel)
  have he' : yv h 406 18 = yv h 440 26 := by unfold yv; rw [he]
  rw [e1, ← he'] at s2
  obtain ⟨q1, q2⟩ := ysn_u s1 s2
  have hx : x = x2 := Int32.toInt_inj.mp q1
  subst hx
  refine ⟨m, x, h', r1, m2, h2, r2, i2, Int32.toInt_inj.mp ?_⟩
  show yv h2 406 18 = yv h2 440 26
  rw [e2, q2]
