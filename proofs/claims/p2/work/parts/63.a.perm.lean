/-! places of men, by hand: manAt, swapNow, begin -/
theorem yT7_ok {t s : Nat} (ht : t < 5) {c0 v0 : Nat → Int} {ar : Nat → Int32} : ySum (yGv t s c0 v0 ar) yT7 := by
  intro args h ρ ρ0 hG hM d hd
  obtain ⟨⟨a0, -⟩, ⟨⟨c, c1, c2⟩, m1, m2, -⟩, ⟨b0, b1, b2, -⟩, ⟨k0, -⟩, ⟨p0, p1, p2, -⟩, -⟩ := yun hM
  have c2 : c.toInt = ρ 0 := c2
  have b0 : 0 ≤ ρ 0 ∧ ρ 0 ≤ 5 := b0
  have b1 : 1 ≤ ρ 1 ∧ ρ 1 ≤ 6 := b1
  have b2 : 1 ≤ ρ 2 ∧ ρ 2 ≤ 1 := b2
  have k0 : 1 + (1 * ρ 0 + (-1 * ρ 1 + 0)) ≤ 0 := k0
  have p0 : ρ0 1 = ρ 0 := p0
  have p1 : ρ0 2 = ρ 1 := p1
  have p2 : ρ0 3 = ρ 2 := p2
  have g5 : yG5 h := by
    have := ysm_gu (a := 5) m2
    rw [sY_v] at this
    have q : ρ 2 = 1 := by omega
    have this : yGv t s c0 v0 ar 5 h = ρ 2 := this
    rw [q] at this
    exact yB_1.mp this
  have mn := ysm_u (k := 440) (by decide) (by decide +kernel) m1 22 rfl
  rw [sY_v] at mn
  have mn : yv h 440 22 = ρ 1 := mn
  obtain ⟨x, hx⟩ : ∃ x : Nat, ρ 0 = x := ⟨(ρ 0).toNat, by omega⟩
  obtain ⟨q, q1, q2, q3⟩ := g5 x (by omega) (by rw [mn]; omega)
  rw [mn] at q2
  rw [Nat.zero_add] at q3
  have hM2 : sMt yReg (yGv t s c0 v0 ar) (yρ [ρ 0, ρ 1, q, yv h 421 (30 + q)]) (yρ0 [ρ 0, ρ 1, q, yv h 421 (30 + q)] yQ_manAtL.2.1.2.2.2.2.2) (sAs yQ_manAtL.2.1) (zent 0 args) [] h := by
    refine ymk (ya1 a0 ya0) (ya1 (yvr0 c1 c2) (ya1 (yvr2 (ysm_p (k := 440) (by decide) (by decide +kernel) (by decide +kernel) 22 rfl ?_)) (ya1 yvr3 (ya1 (yvr2 (ysm_p (k := 421) (by decide) (by decide +kernel) (by decide +kernel) (30 + q) ?_ ?_)) ya0)))) (ya1 ?_ (ya1 ?_ (ya1 ?_ (ya1 ?_ ya0)))) (ya1 ?_ (ya1 ?_ (ya1 ?_ ya0))) (ya1 rfl (ya1 rfl (ya1 rfl (ya1 rfl ya0)))) rfl
    · rw [sY_v]; exact mn
    · show 30 + (1 * (q : Int) + 0) = ((30 + q : Nat) : Int); omega
    · rw [sY_v]; rfl
    · show 0 ≤ ρ 0 ∧ ρ 0 ≤ 5; omega
    · show 1 ≤ ρ 1 ∧ ρ 1 ≤ 6; omega
    · show (0 : Int) ≤ q ∧ (q : Int) ≤ 5; omega
    · show 0 ≤ yv h 421 (30 + q) ∧ yv h 421 (30 + q) ≤ 5; omega
    · show 1 + (-1 * ρ 1 + (1 * (q : Int) + 0)) ≤ 0; omega
    · show 0 + (-1 * ρ 0 + (1 * yv h 421 (30 + q) + 0)) ≤ 0; omega
    · show 0 + (1 * ρ 0 + (-1 * yv h 421 (30 + q) + 0)) ≤ 0; omega
  obtain ⟨m, r, h', r1, r2, r3, hx⟩ := yS_manAtL (yGvOk (s := s) (c0 := c0) (v0 := v0) (ar := ar) ht) args h _ _ hG hM2 d (Nat.zero_le _)
  have fin : ∀ (ρx : Nat → Int) (y : Int), (∃ z : Int32, r = some (.inl z) ∧ z.toInt = y) → 0 ≤ y → y ≤ 5 → y < ρ 1 → ∃ m r h', yrun m d yT7.1 args h = some (r, h') ∧ sG yReg yG h' ∧ sF yReg yT7.2.2.2.1 h h' ∧ ∃ X ∈ yT7.2.2.1, sEx yReg (yGv t s c0 v0 ar) yT7.2.1.2.1.length X ρ0 r h' := by
    intro ρx y ⟨z, z1, z2⟩ h1 h2 h3
    refine ⟨m, r, h', r1, r2, r3, _, List.mem_cons_self .., yexM (fun j => if j = 3 then y else ρ0 (j + 1)) ?_ (ya1 ?_ ya0) (ya1 ?_ ya0) ya0 ?_⟩
    · intro j hj
      have hj : j < 3 := hj
      show (if j = 3 then y else ρ0 (j + 1)) = _
      rw [if_neg (by omega)]
    · show 0 ≤ y ∧ y ≤ 5
      omega
    · show 1 + (-1 * ρ0 2 + (1 * y + 0)) ≤ 0
      rw [p1]
      omega
    · rw [z1]
      show z.toInt = 0 + (1 * y + 0)
      omega
  refine yone hx (ya1 ?_ (ya1 ?_ ya0))
  · intro hE
    obtain ⟨ρx, a, ⟨e1, -⟩, ⟨-, k1, -⟩, -, hr⟩ := yexU hE
    have e1 : 0 ≤ ρx 4 ∧ ρx 4 ≤ 4 := e1
    have k1 : 1 + (-1 * ρx 1 + (1 * ρx 4 + 0)) ≤ 0 := k1
    have a1 : ρx 1 = ρ 1 := a 1 (by decide)
    refine fin ρx (ρx 4) ?_ (by omega) (by omega) (by omega)
    match r, hr with
    | some (.inl z), hr =>
      have hr : z.toInt = 0 + (1 * ρx 4 + 0) := hr
      exact ⟨z, rfl, by omega⟩
  · intro hE
    obtain ⟨ρx, a, ⟨e1, -⟩, ⟨k1, -⟩, -, hr⟩ := yexU hE
    have e1 : 0 ≤ ρx 4 ∧ ρx 4 ≤ 5 := e1
    have k1 : 1 + (-1 * ρx 1 + (1 * ρx 4 + 0)) ≤ 0 := k1
    have a1 : ρx 1 = ρ 1 := a 1 (by decide)
    refine fin ρx (ρx 4) ?_ (by omega) (by omega) (by omega)
    match r, hr with
    | some (.inl z), hr =>
      have hr : z.toInt = 0 + (1 * ρx 4 + 0) := hr
      exact ⟨z, rfl, by omega⟩
theorem ynow {h : zH} (hG : sG yReg yG h) {i : Nat} (h1 : 30 ≤ i) (h2 : i ≤ 35) : 0 ≤ yv h 421 i ∧ yv h 421 i ≤ 5 := hG 421 (30, 35, 0, 5) (by decide +kernel) i h1 h2
theorem yT8_ok {t s : Nat} (ht : t < 5) {c0 v0 : Nat → Int} {ar : Nat → Int32} : ySum (yGv t s c0 v0 ar) yT8 := by
  intro args h ρ ρ0 hG hM d hd
  obtain ⟨⟨a0, -⟩, ⟨⟨c, c1, c2⟩, ⟨o, o1, o2⟩, m1, m2, -⟩, ⟨b0, b1, b2, b3, -⟩, ⟨k0, k1, -⟩, -, -⟩ := yun hM
  have c2 : c.toInt = ρ 0 := c2
  have o2 : o.toInt = ρ 1 := o2
  have b0 : 0 ≤ ρ 0 ∧ ρ 0 ≤ 5 := b0
  have b1 : 0 ≤ ρ 1 ∧ ρ 1 ≤ 5 := b1
  have b2 : 1 ≤ ρ 2 ∧ ρ 2 ≤ 6 := b2
  have b3 : 1 ≤ ρ 3 ∧ ρ 3 ≤ 1 := b3
  have k0 : 1 + (1 * ρ 0 + (-1 * ρ 2 + 0)) ≤ 0 := k0
  have k1 : 1 + (1 * ρ 1 + (-1 * ρ 2 + 0)) ≤ 0 := k1
  have g5 : yG5 h := by
    have := ysm_gu (a := 5) m2
    rw [sY_v] at this
    have q : ρ 3 = 1 := by omega
    have this : yGv t s c0 v0 ar 5 h = ρ 3 := this
    rw [q] at this
    exact yB_1.mp this
  have mn := ysm_u (k := 440) (by decide) (by decide +kernel) m1 22 rfl
  rw [sY_v] at mn
  have mn : yv h 440 22 = ρ 2 := mn
  obtain ⟨x, hx⟩ : ∃ x : Nat, ρ 0 = x := ⟨(ρ 0).toNat, by omega⟩
  obtain ⟨y, hy⟩ : ∃ y : Nat, ρ 1 = y := ⟨(ρ 1).toNat, by omega⟩
  have key : ∀ q : Nat, q < 6 → (q : Int) < ρ 2 → ∃ m h', yrun m d yQ_swapNowL.1 args h = some (none, h') ∧ sG yReg yG h' ∧ sF yReg yQ_swapNowL.2.2.2.1 h h' ∧ ∃ q' : Nat, q' < 6 ∧ (q' : Int) < ρ 2 ∧ yv h' 421 (30 + q') = yv h 421 (30 + q) := by
    intro q hq hq2
    have hn := ynow hG (i := 30 + q) (by omega) (by omega)
    have hM2 : sMt yReg (yGv t s c0 v0 ar) (yρ [ρ 0, ρ 1, ρ 2, q, yv h 421 (30 + q)]) (yρ0 [ρ 0, ρ 1, ρ 2, q, yv h 421 (30 + q)] yQ_swapNowL.2.1.2.2.2.2.2) (sAs yQ_swapNowL.2.1) (zent 0 args) [] h := by
      refine ymk (ya1 a0 ya0) (ya1 (yvr0 c1 c2) (ya1 (yvr0 o1 o2) (ya1 (yvr2 (ysm_p (k := 440) (by decide) (by decide +kernel) (by decide +kernel) 22 rfl ?_)) (ya1 yvr3 (ya1 (yvr2 (ysm_p (k := 421) (by decide) (by decide +kernel) (by decide +kernel) (30 + q) ?_ ?_)) ya0))))) (ya1 ?_ (ya1 ?_ (ya1 ?_ (ya1 ?_ (ya1 ?_ ya0))))) (ya1 ?_ (ya1 ?_ (ya1 ?_ ya0))) (ya1 rfl (ya1 rfl (ya1 rfl (ya1 rfl (ya1 rfl ya0))))) rfl
      · rw [sY_v]; exact mn
      · show 30 + (1 * (q : Int) + 0) = ((30 + q : Nat) : Int); omega
      · rw [sY_v]; rfl
      · show 0 ≤ ρ 0 ∧ ρ 0 ≤ 5; omega
      · show 0 ≤ ρ 1 ∧ ρ 1 ≤ 5; omega
      · show 1 ≤ ρ 2 ∧ ρ 2 ≤ 6; omega
      · show (0 : Int) ≤ q ∧ (q : Int) ≤ 5; omega
      · show 0 ≤ yv h 421 (30 + q) ∧ yv h 421 (30 + q) ≤ 5; omega
      · show 1 + (1 * ρ 0 + (-1 * ρ 2 + 0)) ≤ 0; omega
      · show 1 + (1 * ρ 1 + (-1 * ρ 2 + 0)) ≤ 0; omega
      · show 1 + (-1 * ρ 2 + (1 * (q : Int) + 0)) ≤ 0; omega
    obtain ⟨m, r, h', r1, r2, r3, hx2⟩ := yS_swapNowL (yGvOk (s := s) (c0 := c0) (v0 := v0) (ar := ar) ht) args h _ _ hG hM2 d (Nat.zero_le _)
    have fin : ∀ (ρx : Nat → Int), (∀ j, j < 5 → ρx j = yρ0 [ρ 0, ρ 1, ρ 2, q, yv h 421 (30 + q)] yQ_swapNowL.2.1.2.2.2.2.2 (j + 1)) → srt yReg ρx none r → ∀ (j z : Nat), z < 6 → (z : Int) < ρ 2 → ρx j = z → smm yReg (yGv t s c0 v0 ar) ρx h' (101, (30, [(j, 1)]), (0, [(4, 1)])) → ∃ m h', yrun m d yQ_swapNowL.1 args h = some (none, h') ∧ sG yReg yG h' ∧ sF yReg yQ_swapNowL.2.2.2.1 h h' ∧ ∃ q' : Nat, q' < 6 ∧ (q' : Int) < ρ 2 ∧ yv h' 421 (30 + q') = yv h 421 (30 + q) := by
      intro ρx a hr j z z1 z2 z3 mm
      have hr : r = none := by
        match r, hr with
        | none, _ => rfl
      rw [hr] at r1
      have u := ysm_u (k := 421) (by decide) (by decide +kernel) mm (30 + z) (by show 30 + (1 * ρx j + 0) = _; rw [z3]; omega)
      have a4 : ρx 4 = yv h 421 (30 + q) := a 4 (by decide)
      refine ⟨m, h', r1, r2, r3, z, z1, z2, ?_⟩
      rw [u]
      show 0 + (1 * ρx 4 + 0) = _
      rw [a4]
      omega
    have f3 : ∀ (ρx : Nat → Int), (∀ j, j < 5 → ρx j = yρ0 [ρ 0, ρ 1, ρ 2, q, yv h 421 (30 + q)] yQ_swapNowL.2.1.2.2.2.2.2 (j + 1)) → ρx 3 = q := fun ρx a => a 3 (by decide)
    have f0 : ∀ (ρx : Nat → Int), (∀ j, j < 5 → ρx j = yρ0 [ρ 0, ρ 1, ρ 2, q, yv h 421 (30 + q)] yQ_swapNowL.2.1.2.2.2.2.2 (j + 1)) → ρx 0 = x := fun ρx a => (a 0 (by decide)).trans hx
    have f1 : ∀ (ρx : Nat → Int), (∀ j, j < 5 → ρx j = yρ0 [ρ 0, ρ 1, ρ 2, q, yv h 421 (30 + q)] yQ_swapNowL.2.1.2.2.2.2.2 (j + 1)) → ρx 1 = y := fun ρx a => (a 1 (by decide)).trans hy
    refine yone hx2 (ya1 ?_ (ya1 ?_ (ya1 ?_ (ya1 ?_ (ya1 ?_ (ya1 ?_ (ya1 ?_ (ya1 ?_ (ya1 ?_ ya0)))))))))
    · intro hE
      obtain ⟨ρx, a, -, -, ⟨mm, -⟩, hr⟩ := yexU hE
      exact fin ρx a hr 3 q hq hq2 (f3 ρx a) mm
    · intro hE
      obtain ⟨ρx, a, -, -, ⟨mm, -⟩, hr⟩ := yexU hE
      exact fin ρx a hr 0 x (by omega) (by omega) (f0 ρx a) mm
    · intro hE
      obtain ⟨ρx, a, -, -, ⟨mm, -⟩, hr⟩ := yexU hE
      exact fin ρx a hr 3 q hq hq2 (f3 ρx a) mm
    · intro hE
      obtain ⟨ρx, a, -, -, ⟨mm, -⟩, hr⟩ := yexU hE
      exact fin ρx a hr 1 y (by omega) (by omega) (f1 ρx a) mm
    · intro hE
      obtain ⟨ρx, a, -, -, ⟨mm, -⟩, hr⟩ := yexU hE
      exact fin ρx a hr 1 y (by omega) (by omega) (f1 ρx a) mm
    · intro hE
      obtain ⟨ρx, a, -, -, ⟨mm, -⟩, hr⟩ := yexU hE
      exact fin ρx a hr 1 y (by omega) (by omega) (f1 ρx a) mm
    · intro hE
      obtain ⟨ρx, a, -, -, ⟨mm, -⟩, hr⟩ := yexU hE
      exact fin ρx a hr 3 q hq hq2 (f3 ρx a) mm
    · intro hE
      obtain ⟨ρx, a, -, -, ⟨mm, -⟩, hr⟩ := yexU hE
      exact fin ρx a hr 0 x (by omega) (by omega) (f0 ρx a) mm
    · intro hE
      obtain ⟨ρx, a, -, -, ⟨mm, -⟩, hr⟩ := yexU hE
      exact fin ρx a hr 3 q hq hq2 (f3 ρx a) mm
  obtain ⟨m, h', r1, r2, r3, -⟩ := key 0 (by decide) (by omega)
  have mn' : yv h' 440 22 = ρ 2 := by
    rw [yfv r3 (by decide +kernel)]
    exact mn
  refine ⟨m, none, h', r1, r2, r3, _, List.mem_cons_self .., yexM (fun j => ρ0 (j + 1)) (fun j _ => rfl) ya0 ya0 (ya1 ?_ ya0) trivial⟩
  refine ysm_g (a := 5) ?_
  show yB (yG5 h') = 1
  refine yB_1.mpr ?_
  intro z z1 z2
  rw [mn'] at z2
  obtain ⟨q, q1, q2, q3⟩ := g5 z z1 (by rw [mn]; exact z2)
  rw [mn] at q2
  obtain ⟨m2, h2, e1, -, -, q', e2, e3, e4⟩ := key q q1 q2
  have := yrun_u r1 e1
  cases this
  refine ⟨q', e2, by rw [mn']; exact e3, ?_⟩
  rw [Nat.zero_add] at q3 ⊢
  rw [e4]
  exact q3
theorem yT10_ok {t s : Nat} (ht : t < 5) {c0 v0 : Nat → Int} {ar : Nat → Int32} : ySum (yGv t s c0 v0 ar) yT10 := by
  intro args h ρ ρ0 hG hM d hd
  obtain ⟨⟨a0, -⟩, ⟨m1, -⟩, ⟨b0, -⟩, -, -, -⟩ := yun hM
  have b0 : 1 ≤ ρ 0 ∧ ρ 0 ≤ 6 := b0
  have hd : 2 ≤ d := hd
  have mn := ysm_u (k := 440) (by decide) (by decide +kernel) m1 22 rfl
  rw [sY_v] at mn
  have mn : yv h 440 22 = ρ 0 := mn
  have key : ∀ q : Nat, q < 6 → (q : Int) < ρ 0 → ∃ m h', yrun m d yQ_beginL.1 args h = some (none, h') ∧ sG yReg yG h' ∧ sF yReg yQ_beginL.2.2.2.1 h h' ∧ yv h' 421 (30 + q) = q := by
    intro q hq hq2
    have hM2 : sMt yReg (yGv t s c0 v0 ar) (yρ [ρ 0, q]) (yρ0 [ρ 0, q] yQ_beginL.2.1.2.2.2.2.2) (sAs yQ_beginL.2.1) (zent 0 args) [] h := by
      refine ymk (ya1 a0 ya0) (ya1 (yvr2 (ysm_p (k := 440) (by decide) (by decide +kernel) (by decide +kernel) 22 rfl ?_)) (ya1 yvr3 ya0)) (ya1 ?_ (ya1 ?_ ya0)) (ya1 ?_ ya0) (ya1 rfl (ya1 rfl ya0)) rfl
      · rw [sY_v]; exact mn
      · show 0 ≤ ρ 0 ∧ ρ 0 ≤ 6; omega
      · show (0 : Int) ≤ q ∧ (q : Int) ≤ 5; omega
      · show 1 + (-1 * ρ 0 + (1 * (q : Int) + 0)) ≤ 0; omega
    obtain ⟨m, r, h', r1, r2, r3, hx2⟩ := yS_beginL (yGvOk (s := s) (c0 := c0) (v0 := v0) (ar := ar) ht) args h _ _ hG hM2 d (Nat.le_trans (by decide) hd)
    refine yone hx2 (ya1 ?_ ya0)
    intro hE
    obtain ⟨ρx, a, -, ⟨-, k1, k2, -⟩, ⟨mm, -⟩, hr⟩ := yexU hE
    have k1 : 0 + (-1 * ρx 1 + (1 * ρx 2 + 0)) ≤ 0 := k1
    have k2 : 0 + (1 * ρx 1 + (-1 * ρx 2 + 0)) ≤ 0 := k2
    have a1 : ρx 1 = q := a 1 (by decide)
    have hr : r = none := by
      match r, hr with
      | none, _ => rfl
    rw [hr] at r1
    have u := ysm_u (k := 421) (by decide) (by decide +kernel) mm (30 + q) (by show 30 + (1 * ρx 1 + 0) = _; rw [a1]; omega)
    refine ⟨m, h', r1, r2, r3, ?_⟩
    rw [u]
    show 0 + (1 * ρx 2 + 0) = _
    omega
  obtain ⟨m, h', r1, r2, r3, -⟩ := key 0 (by decide) (by omega)
  have mn' : yv h' 440 22 = ρ 0 := by
    rw [yfv r3 (by decide +kernel)]
    exact mn
  refine ⟨m, none, h', r1, r2, r3, _, List.mem_cons_self .., yexM (fun j => ρ0 (j + 1)) (fun j _ => rfl) ya0 ya0 (ya1 ?_ ya0) trivial⟩
  refine ysm_g (a := 5) ?_
  show yB (yG5 h') = 1
  refine yB_1.mpr ?_
  intro z z1 z2
  rw [mn'] at z2
  obtain ⟨m2, h2, e1, -, -, e4⟩ := key z z1 z2
  have := yrun_u r1 e1
  cases this
  refine ⟨z, z1, by rw [mn']; exact z2, ?_⟩
  rw [Nat.zero_add]
  exact e4
