/-! layTold, rested, readLaw, by hand -/
theorem ylay {h h' : zH} (mn : yv h' 440 22 = yv h 440 22) (e : ∀ q : Nat, 30 ≤ q → q ≤ 35 → yv h' 421 q = yv h 421 q) (g5 : yG5 h) : yG5 h' :=
  (ypm_c (c := 421) (b := 0) mn.symm (fun d hd => (e (0 + 30 + d) (by omega) (by omega)).symm)).mp g5
theorem yT34_ok {t s : Nat} (ht : t < 5) {c0 v0 : Nat → Int} {ar : Nat → Int32} (hp : yHy (yGv t s c0 v0 ar) 11) : ySum (yGv t s c0 v0 ar) yT34 := by
  intro args h ρ ρ0 hG hM d hd
  obtain ⟨⟨a0, -⟩, ⟨⟨c, c1, c2⟩, m1, m2, m3, -⟩, ⟨b0, b1, b2, b3, -⟩, -, -, -⟩ := yun hM
  have c2 : c.toInt = ρ 0 := c2
  have b0 : 1 ≤ ρ 0 ∧ ρ 0 ≤ 9 := b0
  have b1 : 1 ≤ ρ 1 ∧ ρ 1 ≤ 6 := b1
  have b2 : 1 ≤ ρ 2 ∧ ρ 2 ≤ 1 := b2
  have b3 : 1 ≤ ρ 3 ∧ ρ 3 ≤ 1 := b3
  have hd : 11 ≤ d := hd
  have g4 : yGv t s c0 v0 ar 4 h = ρ 2 := by
    have := ysm_gu (a := 4) m2
    rw [sY_v] at this
    exact this
  have g5 : yG5 h := by
    have := ysm_gu (a := 5) m3
    rw [sY_v] at this
    have q : ρ 3 = 1 := by omega
    have this : yGv t s c0 v0 ar 5 h = ρ 3 := this
    rw [q] at this
    exact yB_1.mp this
  have mn := ysm_u (k := 440) (by decide) (by decide +kernel) m1 22 rfl
  rw [sY_v] at mn
  have mn : yv h 440 22 = ρ 1 := mn
  have key : ∀ q : Nat, 30 ≤ q → q ≤ 35 → ∃ m h', yrun m d yQ_layToldL.1 args h = some (none, h') ∧ sG yReg yG h' ∧ sF yReg yQ_layToldL.2.2.2.1 h h' ∧ yv h' 421 q = yv h 421 q := by
    intro q q1 q2
    have hn := ynow hG q1 q2
    have hM2 : sMt yReg (yGv t s c0 v0 ar) (yρ [ρ 0, ρ 1, ρ 2, q, yv h 421 q]) (yρ0 [ρ 0, ρ 1, ρ 2, q, yv h 421 q] yQ_layToldL.2.1.2.2.2.2.2) (sAs yQ_layToldL.2.1) (zent 0 args) [] h := by
      refine ymk (ya1 a0 ya0) (ya1 (yvr0 c1 c2) (ya1 (yvr2 (ysm_p (k := 440) (by decide) (by decide +kernel) (by decide +kernel) 22 rfl ?_)) (ya1 (yvr2 (ysm_g (a := 4) ?_)) (ya1 yvr3 (ya1 (yvr2 (ysm_p (k := 421) (by decide) (by decide +kernel) (by decide +kernel) q ?_ ?_)) ya0))))) (ya1 b0 (ya1 b1 (ya1 b2 (ya1 ?_ (ya1 hn ya0))))) ya0 (ya1 rfl (ya1 rfl (ya1 rfl (ya1 rfl (ya1 rfl ya0))))) rfl
      · rw [sY_v]; exact mn
      · rw [sY_v]; exact g4
      · show 0 + (1 * (q : Int) + 0) = q; omega
      · rw [sY_v]; rfl
      · show (30 : Int) ≤ q ∧ (q : Int) ≤ 35; omega
    obtain ⟨m, r, h', r1, r2, r3, hx⟩ := yS_layToldL (yGvOk (s := s) (c0 := c0) (v0 := v0) (ar := ar) ht) hp args h _ _ hG hM2 d (Nat.le_trans (by decide) hd)
    refine yone hx (ya1 ?_ ya0)
    intro hE
    obtain ⟨ρx, a, -, -, ⟨mm, -⟩, hr⟩ := yexU hE
    have hr : r = none := by
      match r, hr with
      | none, _ => rfl
    rw [hr] at r1
    have a3 : ρx 3 = q := a 3 (by decide)
    have a4 : ρx 4 = yv h 421 q := a 4 (by decide)
    have u : yv h' 421 q = 0 + (1 * ρx 4 + 0) := ysm_u (k := 421) (by decide) (by decide +kernel) mm q (by show 0 + (1 * ρx 3 + 0) = _; rw [a3]; omega)
    exact ⟨m, h', r1, r2, r3, by rw [u, a4]; omega⟩
  obtain ⟨m, h', r1, r2, r3, -⟩ := key 30 (by decide) (by decide)
  refine ⟨m, none, h', r1, r2, smo_ok (md := yT34.2.2.2.1) (by decide +kernel) (fun _ _ hne => absurd rfl hne) r3, _, List.mem_cons_self .., yexM (fun j => ρ0 (j + 1)) (fun j _ => rfl) ya0 ya0 (ya1 ?_ ya0) trivial⟩
  refine ysm_g (a := 5) ?_
  show yB (yG5 h') = 1
  refine yB_1.mpr (ylay (yfv r3 (by decide +kernel)) ?_ g5)
  intro q q1 q2
  obtain ⟨m2, h2, e1, -, -, e4⟩ := key q q1 q2
  have := yrun_u r1 e1
  cases this
  exact e4
theorem yT35_ok {t s : Nat} (ht : t < 5) {c0 v0 : Nat → Int} {ar : Nat → Int32} (hp : yHy (yGv t s c0 v0 ar) 7) : ySum (yGv t s c0 v0 ar) yT35 := by
  intro args h ρ ρ0 hG hM d hd
  obtain ⟨⟨a0, -⟩, ⟨m1, m2, m3, -⟩, ⟨b1, b2, b3, -⟩, -, -, -⟩ := yun hM
  have b1 : 1 ≤ ρ 0 ∧ ρ 0 ≤ 6 := b1
  have b2 : 1 ≤ ρ 1 ∧ ρ 1 ≤ 1 := b2
  have b3 : 1 ≤ ρ 2 ∧ ρ 2 ≤ 1 := b3
  have hd : 12 ≤ d := hd
  have g4 : yGv t s c0 v0 ar 4 h = ρ 1 := by
    have := ysm_gu (a := 4) m2
    rw [sY_v] at this
    exact this
  have g5 : yG5 h := by
    have := ysm_gu (a := 5) m3
    rw [sY_v] at this
    have q : ρ 2 = 1 := by omega
    have this : yGv t s c0 v0 ar 5 h = ρ 2 := this
    rw [q] at this
    exact yB_1.mp this
  have mn := ysm_u (k := 440) (by decide) (by decide +kernel) m1 22 rfl
  rw [sY_v] at mn
  have mn : yv h 440 22 = ρ 0 := mn
  have key : ∀ q : Nat, 30 ≤ q → q ≤ 35 → ∃ m h', ∃ z : Int32, yrun m d yQ_restedL.1 args h = some (some (.inl z), h') ∧ -1 ≤ z.toInt ∧ z.toInt ≤ 60 ∧ sG yReg yG h' ∧ sF yReg yQ_restedL.2.2.2.1 h h' ∧ yv h' 421 q = yv h 421 q := by
    intro q q1 q2
    have hn := ynow hG q1 q2
    have hM2 : sMt yReg (yGv t s c0 v0 ar) (yρ [ρ 0, ρ 1, q, yv h 421 q]) (yρ0 [ρ 0, ρ 1, q, yv h 421 q] yQ_restedL.2.1.2.2.2.2.2) (sAs yQ_restedL.2.1) (zent 0 args) [] h := by
      refine ymk (ya1 a0 ya0) (ya1 (yvr2 (ysm_p (k := 440) (by decide) (by decide +kernel) (by decide +kernel) 22 rfl ?_)) (ya1 (yvr2 (ysm_g (a := 4) ?_)) (ya1 yvr3 (ya1 (yvr2 (ysm_p (k := 421) (by decide) (by decide +kernel) (by decide +kernel) q ?_ ?_)) ya0)))) (ya1 b1 (ya1 b2 (ya1 ?_ (ya1 hn ya0)))) ya0 (ya1 rfl (ya1 rfl (ya1 rfl (ya1 rfl ya0)))) rfl
      · rw [sY_v]; exact mn
      · rw [sY_v]; exact g4
      · show 0 + (1 * (q : Int) + 0) = q; omega
      · rw [sY_v]; rfl
      · show (30 : Int) ≤ q ∧ (q : Int) ≤ 35; omega
    obtain ⟨m, r, h', r1, r2, r3, hx⟩ := yS_restedL (yGvOk (s := s) (c0 := c0) (v0 := v0) (ar := ar) ht) hp args h _ _ hG hM2 d (Nat.le_trans (by decide) hd)
    refine yone hx (ya1 ?_ (ya1 ?_ ya0))
    · intro hE
      obtain ⟨ρx, a, -, -, ⟨mm, -⟩, hr⟩ := yexU hE
      have a3 : ρx 2 = q := a 2 (by decide)
      have a4 : ρx 3 = yv h 421 q := a 3 (by decide)
      have u : yv h' 421 q = 0 + (1 * ρx 3 + 0) := ysm_u (k := 421) (by decide) (by decide +kernel) mm q (by show 0 + (1 * ρx 2 + 0) = _; rw [a3]; omega)
      match r, hr, r1 with
      | some (.inl z), hr, r1 =>
        have hr : z.toInt = -1 + 0 := hr
        exact ⟨m, h', z, r1, by omega, by omega, r2, r3, by rw [u, a4]; omega⟩
    · intro hE
      obtain ⟨ρx, a, ⟨n4, -⟩, -, ⟨mm, -⟩, hr⟩ := yexU hE
      have a3 : ρx 2 = q := a 2 (by decide)
      have a4 : ρx 3 = yv h 421 q := a 3 (by decide)
      have n4 : 0 ≤ ρx 4 ∧ ρx 4 ≤ 60 := n4
      have u : yv h' 421 q = 0 + (1 * ρx 3 + 0) := ysm_u (k := 421) (by decide) (by decide +kernel) mm q (by show 0 + (1 * ρx 2 + 0) = _; rw [a3]; omega)
      match r, hr, r1 with
      | some (.inl z), hr, r1 =>
        have hr : z.toInt = 0 + (1 * ρx 4 + 0) := hr
        exact ⟨m, h', z, r1, by omega, by omega, r2, r3, by rw [u, a4]; omega⟩
  obtain ⟨m, h', z, r1, z1, z2, r2, r3, -⟩ := key 30 (by decide) (by decide)
  refine ⟨m, some (.inl z), h', r1, r2, smo_ok (md := yT35.2.2.2.1) (by decide +kernel) (fun _ _ hne => absurd rfl hne) r3, _, List.mem_cons_self .., yexM (fun j => if j = 3 then z.toInt else ρ0 (j + 1)) ?_ (ya1 ?_ ya0) ya0 (ya1 ?_ ya0) ?_⟩
  · intro j hj
    have hj : j < 3 := hj
    show (if j = 3 then z.toInt else ρ0 (j + 1)) = _
    rw [if_neg (by omega)]
  · show -1 ≤ z.toInt ∧ z.toInt ≤ 60
    exact ⟨z1, z2⟩
  · refine ysm_g (a := 5) ?_
    show yB (yG5 h') = 1
    refine yB_1.mpr (ylay (yfv r3 (by decide +kernel)) ?_ g5)
    intro q q1 q2
    obtain ⟨m2, h2, z3, e1, -, -, -, -, e4⟩ := key q q1 q2
    have := yrun_u r1 e1
    cases this
    exact e4
  · show z.toInt = 0 + (1 * z.toInt + 0)
    omega
/-! readLaw, by hand -/
theorem ycl_le {h : zH} {n c e f : Nat} (hef : e ≤ f) : ycl h n c e → ycl h n c f := by
  rintro ⟨tf, sf, st, a1, a2, a3, a4, a5, a6, a7, a8⟩
  exact ⟨tf, sf, st, a1, a2, a3, a4, a5, by omega, a7, a8⟩
/-- a run of readLaw, and what it leaves -/
theorem yread {t s : Nat} (ht : t < 5) {c0 v0 : Nat → Int} {ar : Nat → Int32} (hp : yHy (yGv t s c0 v0 ar) 34) {args : List zV} {h : zH} (hG : sG yReg yG h) (a0 : yrf (zent 0 args) 0 (0, 120)) {c : Int32} {n : Nat} (a1 : zget (zent 0 args) 1 = some (.inl c)) (hn : n < 5) (hc : c.toInt = n) (hl : yv h 440 13 ≤ n) (g4 : yG4 h) {d : Nat} (hd : 36 ≤ d) :
    ∃ m h', ∃ z : Int32, yrun m d yQ_readLawL.1 args h = some (some (.inl z), h') ∧ sG yReg yG h' ∧ sF yReg yQ_readLawL.2.2.2.1 h h' ∧ yG12 h' ∧ yv h' 440 14 = n ∧ ((z.toInt = -1 ∧ yG11 h') ∨ (0 ≤ z.toInt ∧ z.toInt ≤ 250)) := by
  have f1 : 0 ≤ yv h 440 14 ∧ yv h 440 14 ≤ 4 := hG 440 (14, 14, 0, 4) (by decide +kernel) 14 (by decide) (by decide)
  have f2 : 0 ≤ yv h 440 2 ∧ yv h 440 2 ≤ 240 := hG 440 (2, 2, 0, 240) (by decide +kernel) 2 (by decide) (by decide)
  have f3 : 0 ≤ yv h 440 13 ∧ yv h 440 13 ≤ 4 := hG 440 (13, 13, 0, 4) (by decide +kernel) 13 (by decide) (by decide)
  have i4 := si32 (h.1 410 n)
  have i5 := si32 (h.1 411 n)
  have hM : sMt yReg (yGv t s c0 v0 ar) (yρ [n, yv h 440 2, yv h 440 13, yv h 440 14, yv h 410 n, yv h 411 n, 1]) (yρ0 [n, yv h 440 2, yv h 440 13, yv h 440 14, yv h 410 n, yv h 411 n, 1] yQ_readLawL.2.1.2.2.2.2.2) (sAs yQ_readLawL.2.1) (zent 0 args) [] h := by
    refine ymk (ya1 a0 ya0) (ya1 (yvr0 a1 hc) (ya1 (yvr2 (ysm_p (k := 440) (by decide) (by decide +kernel) (by decide +kernel) 2 rfl ?_)) (ya1 (yvr2 (ysm_p (k := 440) (by decide) (by decide +kernel) (by decide +kernel) 13 rfl ?_)) (ya1 (yvr2 (ysm_p (k := 440) (by decide) (by decide +kernel) (by decide +kernel) 14 rfl ?_)) (ya1 (yvr2 (ysm_p (k := 410) (by decide) (by decide +kernel) (by decide +kernel) n ?_ ?_)) (ya1 (yvr2 (ysm_p (k := 411) (by decide) (by decide +kernel) (by decide +kernel) n ?_ ?_)) (ya1 (yvr2 (ysm_g (a := 4) ?_)) ya0))))))) (ya1 ?_ (ya1 f2 (ya1 f3 (ya1 f1 (ya1 i4 (ya1 i5 (ya1 ?_ ya0))))))) (ya1 ?_ ya0) (ya1 rfl (ya1 rfl (ya1 rfl (ya1 rfl (ya1 rfl (ya1 rfl (ya1 rfl ya0))))))) rfl
    · rw [sY_v]; rfl
    · rw [sY_v]; rfl
    · rw [sY_v]; rfl
    · show 0 + (1 * (n : Int) + 0) = n; omega
    · rw [sY_v]; rfl
    · show 0 + (1 * (n : Int) + 0) = n; omega
    · rw [sY_v]; rfl
    · rw [sY_v]; exact yB_1.mpr g4
    · show (0 : Int) ≤ n ∧ (n : Int) ≤ 4; omega
    · show (1 : Int) ≤ 1 ∧ (1 : Int) ≤ 1; omega
    · show 0 + (-1 * (n : Int) + (1 * yv h 440 13 + 0)) ≤ 0; omega
  obtain ⟨m, r, h', r1, r2, r3, hx⟩ := yS_readLawL (yGvOk (s := s) (c0 := c0) (v0 := v0) (ar := ar) ht) hp args h _ _ hG hM d (Nat.le_trans (by decide) hd)
  have g12 : ∀ (ρx : Nat → Int) (j : Nat), 1 ≤ ρx j ∧ ρx j ≤ 1 → smm yReg (yGv t s c0 v0 ar) ρx h' (1012, (0, []), (0, [(j, 1)])) → yG12 h' := by
    intro ρx j b mm
    have := ysm_gu (a := 12) mm
    have this : yGv t s c0 v0 ar 12 h' = 0 + (1 * ρx j + 0) := this
    have q : yGv t s c0 v0 ar 12 h' = 1 := by omega
    exact yB_1.mp q
  have tx : ∀ (ρx : Nat → Int), ρx 0 = n → 0 + (-1 * ρx 0 + (1 * ρx 8 + 0)) ≤ 0 → 0 + (1 * ρx 0 + (-1 * ρx 8 + 0)) ≤ 0 → smm yReg (yGv t s c0 v0 ar) ρx h' (120, (14, []), (0, [(8, 1)])) → yv h' 440 14 = n := by
    intro ρx b k1 k2 mm
    have u : yv h' 440 14 = 0 + (1 * ρx 8 + 0) := ysm_u (k := 440) (by decide) (by decide +kernel) mm 14 rfl
    rw [u]
    omega
  refine yone hx (ya1 ?_ (ya1 ?_ (ya1 ?_ ya0)))
  · intro hE
    obtain ⟨ρx, a, ⟨n7, n8, n9, n10, n11, n12, -⟩, ⟨k0, k1, k2, -⟩, ⟨m1, m2, m3, m4, m5, -⟩, hr⟩ := yexU hE
    have b0 : ρx 0 = n := a 0 (by decide)
    have n7 : -1 ≤ ρx 7 ∧ ρx 7 ≤ -1 := n7
    have n11 : 1 ≤ ρx 11 ∧ ρx 11 ≤ 1 := n11
    have G11 : yG11 h' := by
      have := ysm_gu (a := 11) m4
      have this : yGv t s c0 v0 ar 11 h' = 0 + (1 * ρx 11 + 0) := this
      have q : yGv t s c0 v0 ar 11 h' = 1 := by omega
      exact yB_1.mp q
    match r, hr, r1 with
    | some (.inl z), hr, r1 =>
      have hr : z.toInt = 0 + (1 * ρx 7 + 0) := hr
      exact ⟨m, h', z, r1, r2, r3, g12 ρx 12 n12 m5, tx ρx b0 k1 k2 m1, Or.inl ⟨by omega, G11⟩⟩
  · intro hE
    obtain ⟨ρx, a, ⟨n7, n8, n9, n10, n11, n12, -⟩, ⟨k0, kx, ky, k1, k2, -⟩, ⟨m1, m2, m3, m4, m5, -⟩, hr⟩ := yexU hE
    have b0 : ρx 0 = n := a 0 (by decide)
    have n7 : 2 ≤ ρx 7 ∧ ρx 7 ≤ 239 := n7
    match r, hr, r1 with
    | some (.inl z), hr, r1 =>
      have hr : z.toInt = 0 + (1 * ρx 7 + 0) := hr
      exact ⟨m, h', z, r1, r2, r3, g12 ρx 12 n12 m5, tx ρx b0 k1 k2 m1, Or.inr ⟨by omega, by omega⟩⟩
  · intro hE
    obtain ⟨ρx, a, ⟨n7, n8, n9, n10, n11, -⟩, ⟨k1, k2, -⟩, ⟨m1, m2, m3, m5, -⟩, hr⟩ := yexU hE
    have b0 : ρx 0 = n := a 0 (by decide)
    have n7 : 0 ≤ ρx 7 ∧ ρx 7 ≤ 250 := n7
    match r, hr, r1 with
    | some (.inl z), hr, r1 =>
      have hr : z.toInt = 0 + (1 * ρx 7 + 0) := hr
      exact ⟨m, h', z, r1, r2, r3, g12 ρx 11 n11 m5, tx ρx b0 k1 k2 m1, Or.inr ⟨by omega, by omega⟩⟩
theorem yT36_ok {t s : Nat} (ht : t < 5) {c0 v0 : Nat → Int} {ar : Nat → Int32} (hp : yHy (yGv t s c0 v0 ar) 34) : ySum (yGv t s c0 v0 ar) yT36 := by
  intro args h ρ ρ0 hG hM d hd
  obtain ⟨⟨a0, -⟩, ⟨⟨c, c1, c2⟩, m1, m2, -⟩, ⟨b0, b1, b2, -⟩, ⟨k0, k1, -⟩, ⟨p0, p1, p2, -⟩, -⟩ := yun hM
  have c2 : c.toInt = ρ 0 := c2
  have b0 : 0 ≤ ρ 0 ∧ ρ 0 ≤ 3 := b0
  have b2 : 1 ≤ ρ 2 ∧ ρ 2 ≤ 1 := b2
  have k0 : 0 + (-1 * ρ 0 + (1 * ρ 1 + 0)) ≤ 0 := k0
  have k1 : 0 + (1 * ρ 0 + (-1 * ρ 1 + 0)) ≤ 0 := k1
  have p0 : ρ0 1 = ρ 0 := p0
  have hd : 37 ≤ d := hd
  have g4 : yG4 h := by
    have := ysm_gu (a := 4) m2
    rw [sY_v] at this
    have q : ρ 2 = 1 := by omega
    have this : yGv t s c0 v0 ar 4 h = ρ 2 := this
    rw [q] at this
    exact yB_1.mp this
  have lw := ysm_u (k := 440) (by decide) (by decide +kernel) m1 13 rfl
  rw [sY_v] at lw
  have lw : yv h 440 13 = ρ 1 := lw
  obtain ⟨n, hn⟩ : ∃ x : Nat, ρ 0 = x := ⟨(ρ 0).toNat, by omega⟩
  obtain ⟨m, h', z, r1, r2, r3, G12, tx, hz⟩ := yread ht hp hG a0 c1 (n := n) (by omega) (by omega) (by omega) g4 (d := d) (by omega)
  have e13 : yv h' 440 13 = yv h 440 13 := yfv r3 (by decide +kernel)
  rcases hz with ⟨z1, G11⟩ | ⟨z1, z2⟩
  · have G9 : yG9 h' := by
      refine ⟨?_, ?_⟩
      · have := G12.1.1
        have := G12.2
        omega
      · intro k hk hk2
        rw [tx] at hk2
        by_cases hkn : k = n
        · subst hkn
          obtain ⟨u, j, e, q1, q2, q3, q4, q5, q6, q7⟩ := G11
          have hu : u = k := by
            rw [tx] at q2
            omega
          subst hu
          exact ⟨j, q3, q4, fun c hc => ycl_le q6 (q7 c hc)⟩
        · exact G12.1.2 k hk (by rw [e13]; omega)
    refine ⟨m, some (.inl z), h', r1, r2, smo_ok (md := yT36.2.2.2.1) (by decide +kernel) (fun _ _ hne => absurd rfl hne) r3, _, List.mem_cons_self .., yexM (fun j => ρ0 (j + 1)) (fun j _ => rfl) ya0 ya0 (ya1 ?_ (ya1 ?_ (ya1 ?_ ya0))) ?_⟩
    · refine ysm_p (k := 440) (by decide) (by decide +kernel) (by decide +kernel) 14 rfl ?_
      show _ = 0 + (1 * ρ0 1 + 0)
      rw [tx, p0]
      omega
    · refine ysm_g (a := 4) ?_
      show yB (yG4 h') = 1
      exact yB_1.mpr G12.1
    · refine ysm_g (a := 9) ?_
      show yB (yG9 h') = 1
      exact yB_1.mpr G9
    · show z.toInt = -1 + 0
      omega
  · refine ⟨m, some (.inl z), h', r1, r2, smo_ok (md := yT36.2.2.2.1) (by decide +kernel) (fun _ _ hne => absurd rfl hne) r3, _, List.mem_cons_of_mem _ (List.mem_cons_self ..), yexM (fun j => if j = 3 then z.toInt else ρ0 (j + 1)) ?_ (ya1 ?_ ya0) ya0 (ya1 ?_ ya0) ?_⟩
    · intro j hj
      have hj : j < 3 := hj
      show (if j = 3 then z.toInt else ρ0 (j + 1)) = _
      rw [if_neg (by omega)]
    · show 0 ≤ z.toInt ∧ z.toInt ≤ 250
      exact ⟨z1, z2⟩
    · refine ysm_g (a := 4) ?_
      show yB (yG4 h') = 1
      exact yB_1.mpr G12.1
    · show z.toInt = 0 + (1 * z.toInt + 0)
      omega
theorem yT37_ok {t s : Nat} (ht : t < 5) {c0 v0 : Nat → Int} {ar : Nat → Int32} (hp : yHy (yGv t s c0 v0 ar) 34) : ySum (yGv t s c0 v0 ar) yT37 := by
  intro args h ρ ρ0 hG hM d hd
  obtain ⟨⟨a0, -⟩, ⟨⟨c, c1, c2⟩, m1, m2, -⟩, ⟨b0, b1, b2, -⟩, -, -, -⟩ := yun hM
  have c2 : c.toInt = ρ 0 := c2
  have b0 : 4 ≤ ρ 0 ∧ ρ 0 ≤ 4 := b0
  have b1 : 0 ≤ ρ 1 ∧ ρ 1 ≤ 4 := b1
  have b2 : 1 ≤ ρ 2 ∧ ρ 2 ≤ 1 := b2
  have hd : 37 ≤ d := hd
  have g4 : yG4 h := by
    have := ysm_gu (a := 4) m2
    rw [sY_v] at this
    have q : ρ 2 = 1 := by omega
    have this : yGv t s c0 v0 ar 4 h = ρ 2 := this
    rw [q] at this
    exact yB_1.mp this
  have lw := ysm_u (k := 440) (by decide) (by decide +kernel) m1 13 rfl
  rw [sY_v] at lw
  have lw : yv h 440 13 = ρ 1 := lw
  obtain ⟨m, h', z, r1, r2, r3, G12, tx, hz⟩ := yread ht hp hG a0 c1 (n := 4) (by omega) (by omega) (by omega) g4 (d := d) (by omega)
  rcases hz with ⟨z1, -⟩ | ⟨z1, z2⟩
  · refine ⟨m, some (.inl z), h', r1, r2, smo_ok (md := yT37.2.2.2.1) (by decide +kernel) (fun _ _ hne => absurd rfl hne) r3, _, List.mem_cons_self .., yexM (fun j => ρ0 (j + 1)) (fun j _ => rfl) ya0 ya0 (ya1 ?_ ya0) ?_⟩
    · refine ysm_g (a := 4) ?_
      show yB (yG4 h') = 1
      exact yB_1.mpr G12.1
    · show z.toInt = -1 + 0
      omega
  · refine ⟨m, some (.inl z), h', r1, r2, smo_ok (md := yT37.2.2.2.1) (by decide +kernel) (fun _ _ hne => absurd rfl hne) r3, _, List.mem_cons_of_mem _ (List.mem_cons_self ..), yexM (fun j => if j = 3 then z.toInt else ρ0 (j + 1)) ?_ (ya1 ?_ ya0) ya0 (ya1 ?_ ya0) ?_⟩
    · intro j hj
      have hj : j < 3 := hj
      show (if j = 3 then z.toInt else ρ0 (j + 1)) = _
      rw [if_neg (by omega)]
    · show 0 ≤ z.toInt ∧ z.toInt ≤ 250
      exact ⟨z1, z2⟩
    · refine ysm_g (a := 4) ?_
      show yB (yG4 h') = 1
      exact yB_1.mpr G12.1
    · show z.toInt = 0 + (1 * z.toInt + 0)
      omega
/-! ways on expressions, to an end of any kind -/
section SSEGP
variable {tab : Nat → (Nat × List Nat) ⊕ (Nat × Nat × List Nat)} {pI : Nat → Nat → Option Instr} {mL : Nat → Nat} {mR : Nat → Option FieldType} {fld : Nat → Nat → Option (Nat × Nat × Nat)} {kI : Nat → Nat → Option Int32} {kL : Nat → Nat → Option Int64} {gst : Nat → Nat → Option zV} {ldS fldS : Nat → Nat → Option Nat} {acp : Nat → Nat → Bool} {cal : Nat → Nat → Option (Nat × Nat × Nat)}
variable {reg : Nat → Nat} {rin : Nat → (Nat × List Nat) ⊕ (Nat × Nat × List Nat)} {sing : Nat → Bool} {gG : Nat → List (Nat × Nat × Int × Int)} {gu : Nat → sD} {gv : Nat → zH → Int} {ρ ρ0 : Nat → Int} {S : sS} {loc : zL} {stk : List zV} {h h0 : zH}
theorem sseg_okP (hcomp : ∀ k, rin (reg k) = smT reg (tab k)) (hsing : ∀ k k', sing (reg k) = true → reg k' = reg k → k' = k) (hcell : ∀ r, sing r = true → ∃ k, reg k = r) (hr : ∀ k, reg k < 1000) (hgv : sGv reg gu gv) {labs : Nat → List sA} {Qs : List sQ} {md : sD} {dep n : Nat} {Xs : List sX} {mid d : Nat} (hd : dep ≤ d) (hQs : ∀ Q ∈ Qs, sSum tab pI mL mR fld kI kL gst ldS fldS acp cal reg gG gv Q) {h0 : zH} {P : Option zV → zH → Prop} :
    ∀ (f pc : Nat) (first : Bool) (S : sS) (loc : zL) (stk : List zV) (h : zH) (ρ ρ0 : Nat → Int), sseg pI mL mR fld kI kL gst ldS fldS acp cal reg rin sing gG gu labs Qs md dep n Xs mid f pc first S = true → sMt reg gv ρ ρ0 S loc stk h → sG reg gG h → sF reg md h0 h →
    (∀ pc A, A ∈ labs pc → ∀ (loc : zL) (h : zH) (ρ ρ0' : Nat → Int), (∀ j, ρ0' (j + 1) = ρ0 (j + 1)) → 0 ≤ ρ0' 0 → ρ0' 0 < ρ0 0 → sMt reg gv ρ ρ0' (sAs A) loc [] h → sG reg gG h → sF reg md h0 h → ∃ m r h', zrun tab pI mL mR fld kI kL gst ldS fldS acp cal m d mid pc loc [] h = some (r, h') ∧ P r h') →
    (∀ r h', sG reg gG h' → sF reg md h0 h' → (∃ X ∈ Xs, sEx reg gv n X ρ0 r h') → P r h') → ∃ m r h', zrun tab pI mL mR fld kI kL gst ldS fldS acp cal m d mid pc loc stk h = some (r, h') ∧ P r h'
  | 0, _, _, _, _, _, _, _, _, hs, _, _, _, _, _ => by cases hs
  | f + 1, pc, first, S, loc, stk, h, ρ, ρ0, hs, hM, hG, hF, IH, hX0 => by
    unfold sseg at hs
    split at hs
    case isTrue hlab =>
      rw [Bool.and_eq_true, List.isEmpty_iff] at hs
      obtain ⟨A, hA, hA2⟩ := List.any_eq_true.mp hs.2
      have hst := hM.2.1
      rw [hs.1] at hst
      have hstk : stk = [] := List.eq_nil_of_length_eq_zero (by have := sms_len hst; simpa using this)
      subst hstk
      obtain ⟨ρ', ρ0', a1, a2, a3, a4⟩ := sarr_ok hsing hcell hG hM hA2
      exact IH pc A hA loc h ρ' ρ0' a1 a2 a3 a4 hG hF
    case isFalse =>
      cases hi : pI mid pc with
      | none => simp only [hi] at hs; cases hs
      | some i =>
        simp only [hi] at hs
        split at hs
        case h_1 hk =>
          cases hst : sstp fld kI kL gst ldS fldS acp reg rin sing gG gu mid md i pc S with
          | none => simp only [hst] at hs; cases hs
          | some L =>
            simp only [hst] at hs
            obtain ⟨q, q1, q2, q3, z, hz, ρ', q4, q5⟩ := sstp_ok hcomp hsing hr hgv hG hF hM hst
            have hz2 := (List.all_eq_true.mp hs) z hz
            rw [← q4] at hz2
            obtain ⟨m, r, h', r1, r2⟩ := sseg_okP hcomp hsing hcell hr hgv hd hQs f q.1 false z.2 q.2.1 q.2.2.1 q.2.2.2 ρ' ρ0 hz2 q5 q2 q3 IH hX0
            refine ⟨m + 1, r, h', ?_, r2⟩
            obtain ⟨k1, k2⟩ := skd0 (tab := tab) (mL := mL) (mR := mR) (stk := stk) hk
            rw [zrun]
            simp only [hi, k1, k2, q1]
            exact r1
        case h_2 hk =>
          cases hc : scl cal mid i with
          | none => simp only [hc] at hs; cases hs
          | some z =>
            simp only [hc] at hs
            cases hfs : Qs.findSome? (fun Q => if (smo md Q.2.2.2.1 && decide (Q.2.2.2.2 < dep)) = true then scal sing gG gu rin mL S z.1 z.2.1 z.2.2 Q else none) with
            | none => simp only [hfs] at hs; cases hs
            | some L =>
              simp only [hfs] at hs
              obtain ⟨Q, hQ, hQ2⟩ := List.exists_of_findSome?_eq_some hfs
              split at hQ2
              case isFalse => cases hQ2
              case isTrue hmo =>
                rw [Bool.and_eq_true, decide_eq_true_eq] at hmo
                obtain ⟨d', rfl⟩ : ∃ d', d = d' + 1 := ⟨d - 1, by omega⟩
                obtain ⟨p1, p2, p3, p4, m1, r1, h1, u1, u2, u3, T, hT, ρ', u4⟩ := scal_ok hcomp hsing hcell hgv hG hM (d := d') (hQs Q hQ) (by omega) hQ2
                have hT2 := (List.all_eq_true.mp hs) T hT
                obtain ⟨m, r, h', v1, v2⟩ := sseg_okP hcomp hsing hcell hr hgv hd hQs f (pc + 3) false T loc (r1.toList ++ stk.drop z.2.1) h1 ρ' ρ0 hT2 u4 u2 (smo_ok hmo.1 hF u3) IH hX0
                have hcl : zcl tab mL cal mid i stk = some (z.1, (stk.take z.2.1).reverse, stk.drop z.2.1) := by
                  cases i
                  case invokevirtual idx =>
                    simp only [scl] at hc
                    cases hca : cal mid idx with
                    | none => simp only [hca] at hc; cases hc
                    | some y =>
                      simp only [hca] at hc
                      split at hc
                      case isFalse => cases hc
                      case isTrue hlt =>
                        cases hc
                        obtain ⟨callee, na, kc⟩ := z
                        simp only [zcl, hca]
                        rw [if_pos]
                        simp only [Bool.and_eq_true, decide_eq_true_eq]
                        simp only at p1 p2 p3 p4 hlt
                        rcases p4 with p4 | p4
                        · omega
                        · exact ⟨⟨⟨⟨hlt, p1⟩, p2⟩, p3⟩, p4.2⟩
                  case invokestatic idx =>
                    simp only [scl] at hc
                    cases hca : cal mid idx with
                    | none => simp only [hca] at hc; cases hc
                    | some y =>
                      simp only [hca] at hc
                      split at hc
                      case isFalse => cases hc
                      case isTrue hlt =>
                        cases hc
                        obtain ⟨callee, na, kc⟩ := z
                        simp only [zcl, hca]
                        rw [if_pos]
                        simp only [Bool.and_eq_true, decide_eq_true_eq]
                        exact ⟨⟨⟨hlt, p1⟩, p2⟩, p3⟩
                  all_goals cases hc
                refine ⟨max m m1 + 1, r, h', ?_, v2⟩
                rw [zrun]
                simp only [hi, hcl]
                rw [zrun_le (Nat.le_max_right m m1) u1]
                exact zrun_le (Nat.le_max_left m m1) v1
        case h_3 =>
          rw [Bool.and_eq_true] at hs
          obtain ⟨X, hX, hX2⟩ := List.any_eq_true.mp hs.2
          obtain ⟨x1, x2⟩ := sxr_ok hsing hcell hG hM hX2
          have hrk := hs.1
          have hze : zcl tab mL cal mid i stk = none ∧ zend (mR mid) i stk = some stk.head? := by
            rcases srk_el hrk with ⟨rfl, hret, e, hst⟩ | ⟨rfl, hret, e, hst, hq⟩ | ⟨rfl, hret, e, hst, hq⟩ | ⟨rfl, hret, e, hst⟩ | ⟨rfl, hret, hst⟩
            · rcases x2 with ⟨x, e', rfl, q1, q2⟩ | ⟨y, e', rfl, q1⟩ | ⟨rfl, q1⟩
              · exact ⟨rfl, by rw [hret]; rfl⟩
              · rw [q1] at hst; cases hst
              · rw [q1] at hst; cases hst
            · rcases x2 with ⟨x, e', rfl, q1, q2⟩ | ⟨y, e', rfl, q1⟩ | ⟨rfl, q1⟩
              · rw [q1] at hst
                cases hst
                have := sb01_ok hM hq q2
                refine ⟨rfl, ?_⟩
                rw [hret]
                show (if x = 0 ∨ x = 1 then _ else _) = _
                rw [if_pos this]
                rfl
              · rw [q1] at hst; cases hst
              · rw [q1] at hst; cases hst
            · rcases x2 with ⟨x, e', rfl, q1, q2⟩ | ⟨y, e', rfl, q1⟩ | ⟨rfl, q1⟩
              · rw [q1] at hst
                cases hst
                rw [Bool.and_eq_true] at hq
                have p1 := spr_le hM hq.1
                have p2 := spr_le hM hq.2
                rw [sng_v] at p2
                have : x = 0 := Int32.toInt_inj.mp (by rw [q2]; show _ = (0 : Int); omega)
                refine ⟨rfl, ?_⟩
                rw [hret]
                show (if x = 0 then _ else _) = _
                rw [if_pos this]
                rfl
              · rw [q1] at hst; cases hst
              · rw [q1] at hst; cases hst
            · rcases x2 with ⟨x, e', rfl, q1, q2⟩ | ⟨y, e', rfl, q1⟩ | ⟨rfl, q1⟩
              · rw [q1] at hst; cases hst
              · exact ⟨rfl, by rw [hret]; rfl⟩
              · rw [q1] at hst; cases hst
            · rcases x2 with ⟨x, e', rfl, q1, q2⟩ | ⟨y, e', rfl, q1⟩ | ⟨rfl, q1⟩
              · rw [q1] at hst; cases hst
              · rw [q1] at hst; cases hst
              · exact ⟨rfl, by rw [hret]; rfl⟩
          refine ⟨1, stk.head?, h, ?_, hX0 _ _ hG hF ⟨X, hX, x1⟩⟩
          rw [zrun]
          simp only [hi, hze.1, hze.2]
end SSEGP
section SMETH3
variable {tab : Nat → (Nat × List Nat) ⊕ (Nat × Nat × List Nat)} {pI : Nat → Nat → Option Instr} {mL : Nat → Nat} {mR : Nat → Option FieldType} {fld : Nat → Nat → Option (Nat × Nat × Nat)} {kI : Nat → Nat → Option Int32} {kL : Nat → Nat → Option Int64} {gst : Nat → Nat → Option zV} {ldS fldS : Nat → Nat → Option Nat} {acp : Nat → Nat → Bool} {cal : Nat → Nat → Option (Nat × Nat × Nat)}
variable {reg : Nat → Nat} {rin : Nat → (Nat × List Nat) ⊕ (Nat × Nat × List Nat)} {sing : Nat → Bool} {gG : Nat → List (Nat × Nat × Int × Int)} {gu : Nat → sD} {gv : Nat → zH → Int}
/-- a method's ways with a cut: what comes to the cut goes on by K -/
theorem smeth3 (hcomp : ∀ k, rin (reg k) = smT reg (tab k)) (hsing : ∀ k k', sing (reg k) = true → reg k' = reg k → k' = k) (hcell : ∀ r, sing r = true → ∃ k, reg k = r) (hr : ∀ k, reg k < 1000) (hgv : sGv reg gu gv) {labs : Nat → List sA} {Qs : List sQ} {Q : sQ} (hQs : ∀ Q ∈ Qs, sSum tab pI mL mR fld kI kL gst ldS fldS acp cal reg gG gv Q) {F cut : Nat} {P : Option zV → zH → Prop}
    (hl : ∀ pc A, A ∈ labs pc → pc ≠ cut → ∃ sp : List (sE × List Int), ∀ S ∈ ssps sp [sAs A], sseg pI mL mR fld kI kL gst ldS fldS acp cal reg rin sing gG gu labs Qs Q.2.2.2.1 Q.2.2.2.2 Q.2.1.2.1.length Q.2.2.1 Q.1 F pc true S = true)
    {h : zH} {ρ0 : Nat → Int} {d : Nat} (hd : Q.2.2.2.2 ≤ d)
    (hX : ∀ r h', sG reg gG h' → sF reg Q.2.2.2.1 h h' → (∃ X ∈ Q.2.2.1, sEx reg gv Q.2.1.2.1.length X ρ0 r h') → P r h')
    (hK : ∀ A, A ∈ labs cut → ∀ (loc : zL) (h1 : zH) (ρ ρ1 : Nat → Int), (∀ j, ρ1 (j + 1) = ρ0 (j + 1)) → sMt reg gv ρ ρ1 (sAs A) loc [] h1 → sG reg gG h1 → sF reg Q.2.2.2.1 h h1 → ∃ m r h', zrun tab pI mL mR fld kI kL gst ldS fldS acp cal m d Q.1 cut loc [] h1 = some (r, h') ∧ P r h') :
    ∀ (k : Nat) (pc : Nat) (A : sA), A ∈ labs pc → ∀ (loc : zL) (h1 : zH) (ρ ρ1 : Nat → Int), (ρ1 0).toNat ≤ k → (∀ j, ρ1 (j + 1) = ρ0 (j + 1)) → sMt reg gv ρ ρ1 (sAs A) loc [] h1 → sG reg gG h1 → sF reg Q.2.2.2.1 h h1 → ∃ m r h', zrun tab pI mL mR fld kI kL gst ldS fldS acp cal m d Q.1 pc loc [] h1 = some (r, h') ∧ P r h' := by
  have hX1 : ∀ ρ1 : Nat → Int, (∀ j, ρ1 (j + 1) = ρ0 (j + 1)) → ∀ r h', sG reg gG h' → sF reg Q.2.2.2.1 h h' → (∃ X ∈ Q.2.2.1, sEx reg gv Q.2.1.2.1.length X ρ1 r h') → P r h' := by
    intro ρ1 e r h' a b ⟨X, x1, x2⟩
    exact hX r h' a b ⟨X, x1, sEx_congr e x2⟩
  intro k
  induction k with
  | zero =>
    intro pc A hA loc h1 ρ ρ1 hk he hM hG hF
    by_cases hc : pc = cut
    · subst hc
      exact hK A hA loc h1 ρ ρ1 he hM hG hF
    obtain ⟨sp, hsp⟩ := hl pc A hA hc
    obtain ⟨T, hT, hMT⟩ := ssps_ok sp ⟨_, List.mem_singleton.mpr rfl, hM⟩
    refine sseg_okP hcomp hsing hcell hr hgv hd hQs F pc true T loc [] h1 ρ ρ1 (hsp T hT) hMT hG hF ?_ (hX1 ρ1 he)
    intro pc2 A2 hA2 loc2 h2 ρ2 ρ0' e1 e2 e3
    omega
  | succ k ih =>
    intro pc A hA loc h1 ρ ρ1 hk he hM hG hF
    by_cases hc : pc = cut
    · subst hc
      exact hK A hA loc h1 ρ ρ1 he hM hG hF
    obtain ⟨sp, hsp⟩ := hl pc A hA hc
    obtain ⟨T, hT, hMT⟩ := ssps_ok sp ⟨_, List.mem_singleton.mpr rfl, hM⟩
    refine sseg_okP hcomp hsing hcell hr hgv hd hQs F pc true T loc [] h1 ρ ρ1 (hsp T hT) hMT hG hF ?_ (hX1 ρ1 he)
    intro pc2 A2 hA2 loc2 h2 ρ2 ρ0' e1 e2 e3 hM2 hG2 hF2
    exact ih pc2 A2 hA2 loc2 h2 ρ2 ρ0' (by omega) (fun j => (e1 j).trans (he j)) hM2 hG2 hF2
end SMETH3
/-! every public method keeps what is told of the heap -/
def yInv (h : zH) : Prop := sG yReg yG h ∧ yG4 h ∧ yG5 h ∧ yG6 h ∧ yG7 h ∧ yv h 440 22 ≤ 6 * yv h 419 0
/-- a variable's value at a method's start -/
def ywl (gv : Nat → zH → Int) (args : List zV) (h : zH) (v : Nat × Nat × sE) : Int := match v with
  | (0, a, _) => (match zget (zent 0 args) a with
    | some (.inl x) => x.toInt
    | _ => 0)
  | (1, a, _) => (match zget (zent 0 args) a with
    | some (.inr (.inl x)) => x.toInt
    | _ => 0)
  | (2, r, e) => if r < 1000 then yv h (yCel r) e.1.toNat else gv (r - 1000) h
  | _ => 0
/-- an argument's kind and bounds -/
def ytyp (args : List zV) (z : Nat × Nat × Int × Int) : Prop := match z.2.1 with
  | 0 => ∃ x : Int32, zget (zent 0 args) z.1 = some (.inl x) ∧ z.2.2.1 ≤ x.toInt ∧ x.toInt ≤ z.2.2.2
  | _ => ∃ x : Int64, zget (zent 0 args) z.1 = some (.inr (.inl x)) ∧ z.2.2.1 ≤ x.toInt ∧ x.toInt ≤ z.2.2.2
def yVok (tys : List (Nat × Nat × Int × Int)) (gs : List (Nat × Int × Int)) (v : Nat × Nat × sE) (b : Int × Int) : Bool := match v with
  | (0, a, _) => tys.any (fun z => decide (z.1 = a) && (decide (z.2.1 = 0) && (decide (b.1 ≤ z.2.2.1) && decide (z.2.2.2 ≤ b.2))))
  | (1, a, _) => tys.any (fun z => decide (z.1 = a) && (decide (z.2.1 = 1) && (decide (b.1 ≤ z.2.2.1) && decide (z.2.2.2 ≤ b.2))))
  | (2, r, e) => if r < 1000 then (ySin r && (decide (yReg (yCel r) = r) && (e.2.isEmpty && (decide (0 ≤ e.1) && (decide (b.1 ≤ (sgb yG r e.1 e.1).1) && decide ((sgb yG r e.1 e.1).2 ≤ b.2))))))
    else gs.any (fun z => decide (z.1 = r - 1000) && (decide (b.1 ≤ z.2.1) && decide (z.2.2 ≤ b.2)))
  | _ => false
abbrev yKc : Type := Int × List ((Nat × Nat × sE) × Int)
def ysum (f : Nat × Nat × sE → Int) : List ((Nat × Nat × sE) × Int) → Int
  | [] => 0
  | p :: l => p.2 * f p.1 + ysum f l
def yPok (r0 : Nat) (tys : List (Nat × Nat × Int × Int)) (gs : List (Nat × Int × Int)) (kcs : List yKc) (A : sA) : Bool :=
  A.1.all (fun p => decide (p.1 = 0) && decide (p.2 = r0)) && (decide (A.2.2.1.length = A.2.1.length) && ((List.range A.2.1.length).all (fun j => yVok tys gs (A.2.1.getD j (9, 0, (0, []))) (A.2.2.1.getD j (0, 0))) && (A.2.2.2.1.all (fun c => kcs.any (fun k => decide (k = (c.1, c.2.map (fun p => (A.2.1.getD p.1 (9, 0, (0, [])), p.2)))))) && A.2.2.2.2.1.all (fun p => decide (p.1 = p.2)))))
theorem ysum_T (f : Nat × Nat × sE → Int) (g : Nat → Nat × Nat × sE) : ∀ l : List (Nat × Int), sT (fun j => f (g j)) l = ysum f (l.map (fun p => (g p.1, p.2)))
  | [] => rfl
  | p :: l => by
    show p.2 * f (g p.1) + sT (fun j => f (g j)) l = p.2 * f (g p.1) + ysum f (l.map (fun p => (g p.1, p.2)))
    rw [ysum_T f g l]
/-- a place's bounds -/
theorem ysgb {h : zH} (hG : sG yReg yG h) (k c : Nat) : (sgb yG (yReg k) c c).1 ≤ yv h k c ∧ yv h k c ≤ (sgb yG (yReg k) c c).2 := by
  unfold sgb
  cases hg : (yG (yReg k)).find? (fun z => decide ((z.1 : Int) ≤ c) && decide ((c : Int) ≤ (z.2.1 : Int))) with
  | none => exact si32 (h.1 k c)
  | some z =>
    have hz := List.find?_some hg
    simp only [Bool.and_eq_true, decide_eq_true_eq] at hz
    exact hG k z (List.mem_of_find?_eq_some hg) c (by omega) (by omega)
section YTOP
variable {gv : Nat → zH → Int} {args : List zV} {h : zH} {A : sA} {r0 : Nat} {tys : List (Nat × Nat × Int × Int)} {gs : List (Nat × Int × Int)} {kcs : List yKc}
theorem yVok_b (hG : sG yReg yG h) (hty : ∀ z ∈ tys, ytyp args z) (hgs : ∀ z ∈ gs, z.2.1 ≤ gv z.1 h ∧ gv z.1 h ≤ z.2.2) {v : Nat × Nat × sE} {b : Int × Int} (hc : yVok tys gs v b = true) : b.1 ≤ ywl gv args h v ∧ ywl gv args h v ≤ b.2 := by
  match v, hc with
  | (0, a, e), hc =>
    obtain ⟨z, hz, hz2⟩ := List.any_eq_true.mp hc
    simp only [Bool.and_eq_true, decide_eq_true_eq] at hz2
    obtain ⟨q1, q2, q3, q4⟩ := hz2
    have ht := hty z hz
    unfold ytyp at ht
    rw [q2, q1] at ht
    obtain ⟨x, e1, e2, e3⟩ := ht
    unfold ywl
    rw [e1]
    exact ⟨Int.le_trans q3 e2, Int.le_trans e3 q4⟩
  | (1, a, e), hc =>
    obtain ⟨z, hz, hz2⟩ := List.any_eq_true.mp hc
    simp only [Bool.and_eq_true, decide_eq_true_eq] at hz2
    obtain ⟨q1, q2, q3, q4⟩ := hz2
    have ht := hty z hz
    unfold ytyp at ht
    rw [q2, q1] at ht
    obtain ⟨x, e1, e2, e3⟩ := ht
    unfold ywl
    rw [e1]
    exact ⟨Int.le_trans q3 e2, Int.le_trans e3 q4⟩
  | (2, r, e), hc =>
    unfold yVok at hc
    unfold ywl
    simp only at hc ⊢
    by_cases hr : r < 1000
    · rw [if_pos hr] at hc ⊢
      simp only [Bool.and_eq_true, decide_eq_true_eq] at hc
      obtain ⟨c1, c2, c3, c4, c5, c6⟩ := hc
      have := ysgb hG (yCel r) e.1.toNat
      rw [c2, Int.toNat_of_nonneg c4] at this
      exact ⟨Int.le_trans c5 this.1, Int.le_trans this.2 c6⟩
    · rw [if_neg hr] at hc ⊢
      obtain ⟨z, hz, hz2⟩ := List.any_eq_true.mp hc
      simp only [Bool.and_eq_true, decide_eq_true_eq] at hz2
      have := hgs z hz
      rw [hz2.1] at this
      exact ⟨Int.le_trans hz2.2.1 this.1, Int.le_trans this.2 hz2.2.2⟩
  | (k + 3, a, e), hc => cases hc
theorem yVok_v (hty : ∀ z ∈ tys, ytyp args z) {ρ : Nat → Int} {i : Nat} {v : Nat × Nat × sE} {b : Int × Int} (hρ : ρ i = ywl gv args h v) (hc : yVok tys gs v b = true) : yvr gv ρ (zent 0 args) h i v := by
  match v, hc, hρ with
  | (0, a, e), hc, hρ =>
    obtain ⟨z, hz, hz2⟩ := List.any_eq_true.mp hc
    simp only [Bool.and_eq_true, decide_eq_true_eq] at hz2
    obtain ⟨q1, q2, q3, q4⟩ := hz2
    have ht := hty z hz
    unfold ytyp at ht
    rw [q2, q1] at ht
    obtain ⟨x, e1, e2, e3⟩ := ht
    refine ⟨x, e1, ?_⟩
    rw [hρ]
    unfold ywl
    rw [e1]
  | (1, a, e), hc, hρ =>
    obtain ⟨z, hz, hz2⟩ := List.any_eq_true.mp hc
    simp only [Bool.and_eq_true, decide_eq_true_eq] at hz2
    obtain ⟨q1, q2, q3, q4⟩ := hz2
    have ht := hty z hz
    unfold ytyp at ht
    rw [q2, q1] at ht
    obtain ⟨x, e1, e2, e3⟩ := ht
    refine ⟨x, e1, ?_⟩
    rw [hρ]
    unfold ywl
    rw [e1]
  | (2, r, e), hc, hρ =>
    unfold yVok at hc
    unfold ywl at hρ
    simp only at hc hρ
    by_cases hr : r < 1000
    · rw [if_pos hr] at hc hρ
      simp only [Bool.and_eq_true, decide_eq_true_eq] at hc
      obtain ⟨c1, c2, c3, c4, c5, c6⟩ := hc
      refine ysm_p (k := yCel r) hr c2 c1 e.1.toNat ?_ ?_
      · rw [List.isEmpty_iff] at c3
        show e.1 + sT ρ e.2 = _
        rw [c3, Int.toNat_of_nonneg c4]
        show e.1 + 0 = e.1
        omega
      · rw [sY_v]
        exact hρ.symm
    · rw [if_neg hr] at hρ
      show smm yReg gv ρ h (r, e, sY i)
      unfold smm
      rw [if_neg hr]
      show gv (r - 1000) h = sv ρ (sY i)
      rw [sY_v]
      exact hρ.symm
  | (k + 3, a, e), hc, hρ => cases hc
/-- the values of a start's variables -/
def yρs (gv : Nat → zH → Int) (args : List zV) (h : zH) (A : sA) (j : Nat) : Int := ywl gv args h (A.2.1.getD j (9, 0, (0, [])))
def yρt (gv : Nat → zH → Int) (args : List zV) (h : zH) (A : sA) : Nat → Int
  | 0 => sv (yρs gv args h A) A.2.2.2.2.2
  | j + 1 => yρs gv args h A j
theorem ypre (hG : sG yReg yG h) (hrf : ∃ k, zget (zent 0 args) 0 = some (.inr (.inr k)) ∧ yReg k = r0) (hty : ∀ z ∈ tys, ytyp args z) (hgs : ∀ z ∈ gs, z.2.1 ≤ gv z.1 h ∧ gv z.1 h ≤ z.2.2) (hks : ∀ k ∈ kcs, k.1 + ysum (ywl gv args h) k.2 ≤ 0) (hc : yPok r0 tys gs kcs A = true) : sMt yReg gv (yρs gv args h A) (yρt gv args h A) (sAs A) (zent 0 args) [] h := by
  unfold yPok at hc
  simp only [Bool.and_eq_true, decide_eq_true_eq, List.all_eq_true] at hc
  obtain ⟨c1, c2, c3, c4, c5⟩ := hc
  have hgd : ∀ {j : Nat} {a : Nat × Nat × sE}, A.2.1[j]? = some a → A.2.1.getD j (9, 0, (0, [])) = a := by
    intro j a e
    rw [List.getD_eq_getElem?_getD, e]
    rfl
  refine ymk (yall_mk ?_) (yall_mk ?_) (yall_mk ?_) (yall_mk ?_) (yall_mk ?_) rfl
  · intro j p e
    have := c1 p (List.mem_of_getElem? e)
    obtain ⟨k, k1, k2⟩ := hrf
    refine ⟨k, ?_, ?_⟩
    · rw [this.1]
      exact k1
    · rw [this.2]
      exact k2
  · intro j a e
    have hj : j < A.2.1.length := (List.getElem?_eq_some_iff.mp e).1
    have := c3 j (List.mem_range.mpr hj)
    rw [hgd e] at this
    rw [Nat.zero_add]
    refine yVok_v hty ?_ this
    show ywl gv args h (A.2.1.getD j (9, 0, (0, []))) = _
    rw [hgd e]
  · intro j b e
    have hj : j < A.2.2.1.length := (List.getElem?_eq_some_iff.mp e).1
    have := c3 j (List.mem_range.mpr (by omega))
    rw [show A.2.2.1.getD j (0, 0) = b by rw [List.getD_eq_getElem?_getD, e]; rfl] at this
    rw [Nat.zero_add]
    exact yVok_b hG hty hgs this
  · intro j c e
    obtain ⟨k, hk, hk2⟩ := List.any_eq_true.mp (c4 c (List.mem_of_getElem? e))
    have hk2 := of_decide_eq_true hk2
    have := hks k hk
    rw [hk2] at this
    show c.1 + sT (yρs gv args h A) c.2 ≤ 0
    have e2 := ysum_T (ywl gv args h) (fun j => A.2.1.getD j (9, 0, (0, []))) c.2
    have e3 : sT (yρs gv args h A) c.2 = ysum (ywl gv args h) (c.2.map (fun p => (A.2.1.getD p.1 (9, 0, (0, [])), p.2))) := e2
    rw [e3]
    exact this
  · intro j p e
    have := c5 p (List.mem_of_getElem? e)
    show yρs gv args h A p.1 = yρs gv args h A p.2
    rw [this]
end YTOP
/-- no place in common -/
def yfre (md u : sD) : Bool := md.all (fun z => u.all (fun w => !decide (w.1 = z.1) || (decide (z.2.2 < w.2.1) || decide (w.2.2 < z.2.1))))
theorem yfre_ok {md u : sD} {h h' : zH} (hc : yfre md u = true) (hF : sF yReg md h h') {k i : Nat} (hz : ∃ z ∈ u, yReg k = z.1 ∧ z.2.1 ≤ (i : Int) ∧ (i : Int) ≤ z.2.2) : h.1 k i = h'.1 k i := by
  by_cases q : h'.1 k i = h.1 k i
  · exact q.symm
  · obtain ⟨z, hz1, e1, e2, e3⟩ := hF k i q
    obtain ⟨w, hw1, f1, f2, f3⟩ := hz
    have := (List.all_eq_true.mp ((List.all_eq_true.mp hc) z hz1)) w hw1
    simp only [Bool.or_eq_true, Bool.not_eq_true', decide_eq_false_iff_not, decide_eq_true_eq] at this
    rcases this with a | a | a
    · exact absurd (f1.symm.trans e1) a
    · omega
    · omega
def ybt (B : sB) (e : sE) (c : Int) : Bool := match sLb B e, sUb B e with
  | some a, some b => decide (c ≤ a) && decide (b ≤ c)
  | _, _ => false
theorem ybt_v {B : sB} {ρ : Nat → Int} (hB : sOk B ρ) {e : sE} {c : Int} (hc : ybt B e c = true) : sv ρ e = c := by
  unfold ybt at hc
  cases h1 : sLb B e with
  | none => rw [h1] at hc; cases hc
  | some a =>
    cases h2 : sUb B e with
    | none => rw [h1, h2] at hc; cases hc
    | some b =>
      rw [h1, h2] at hc
      simp only [Bool.and_eq_true, decide_eq_true_eq] at hc
      have := sLb_le hB h1
      have := sUb_le hB h2
      omega
/-- an end tells c of the quantity a -/
def ytl (X : sX) (B : sB) (a : Nat) (c : Int) : Bool := X.2.1.any (fun m => decide (m.1 = a) && ybt B m.2.2 c)
/-- an end tells c of the reference's field i -/
def ytf (X : sX) (B : sB) (i c : Int) : Bool := X.2.1.any (fun m => decide (m.1 = 120) && (decide (m.2.1 = (i, [])) && ybt B m.2.2 c))
/-- an end tells of two places, f of one is at most g of the other -/
def ytw (X : sX) (B : sB) (r1 : Nat) (i1 : Int) (r2 : Nat) (i2 : Int) (k c : Int) : Bool := X.2.1.any (fun m => decide (m.1 = r1) && (decide (m.2.1 = (i1, [])) && X.2.1.any (fun n => decide (n.1 = r2) && (decide (n.2.1 = (i2, [])) && sp0 B X.2.2.2.1 (sac (sadd m.2.2 n.2.2 k) c)))))
def yXok (md : sD) (B : sB) (X : sX) : Bool :=
  (yfre md (yGu 4) || (ytl X B 1004 1 || (ytl X B 1009 1 && (ytw X B 120 13 120 14 (-1) (-1) && ytw X B 120 14 120 13 (-1) 1)))) && ((yfre md (yGu 5) || ytl X B 1005 1) && ((yfre md (yGu 6) || (ytl X B 1006 1 || ytf X B 39 0)) && ((yfre md (yGu 7) || (ytl X B 1007 1 || ytf X B 55 0)) && ((yfre md [(120, 22, 22), (99, 0, 0)] || ytw X B 120 22 99 0 (-6) 0) && (match X.1 with
    | some (0, _) => true
    | _ => false)))))
def yTok (r0 : Nat) (tys : List (Nat × Nat × Int × Int)) (gs : List (Nat × Int × Int)) (kcs : List yKc) (Q : sQ) : Bool := yPok r0 tys gs kcs Q.2.1 && Q.2.2.1.all (fun X => yXok Q.2.2.2.1 (Q.2.1.2.2.1 ++ X.2.2.1) X)
section YTOP2
variable {t s : Nat} {c0 v0 : Nat → Int} {ar : Nat → Int32} {args : List zV} {h : zH} {Q : sQ} {r0 : Nat} {tys : List (Nat × Nat × Int × Int)} {gs : List (Nat × Int × Int)} {kcs : List yKc}
theorem ytl_ok {gv : Nat → zH → Int} {X : sX} {B : sB} {ρ : Nat → Int} {h' : zH} {a : Nat} {c : Int} (hB : sOk B ρ) (hm : ∀ m ∈ X.2.1, smm yReg gv ρ h' m) (ht : ytl X B (1000 + a) c = true) : gv a h' = c := by
  obtain ⟨m, m1, m2⟩ := List.any_eq_true.mp ht
  rw [Bool.and_eq_true, decide_eq_true_eq] at m2
  have := hm m m1
  obtain ⟨r, e, v⟩ := m
  have e1 : r = 1000 + a := m2.1
  subst e1
  rw [ysm_gu this]
  exact ybt_v hB m2.2
theorem ytf_ok {gv : Nat → zH → Int} {X : sX} {B : sB} {ρ : Nat → Int} {h' : zH} {i : Nat} {c : Int} (hB : sOk B ρ) (hm : ∀ m ∈ X.2.1, smm yReg gv ρ h' m) (ht : ytf X B i c = true) : yv h' 440 i = c := by
  obtain ⟨m, m1, m2⟩ := List.any_eq_true.mp ht
  simp only [Bool.and_eq_true, decide_eq_true_eq] at m2
  have := hm m m1
  obtain ⟨r, e, v⟩ := m
  obtain ⟨e1, e2, e3⟩ := m2
  have e1 : r = 120 := e1
  have e2 : e = ((i : Int), []) := e2
  subst e1 e2
  rw [ysm_u (k := 440) (by decide) (by decide +kernel) this i (by show (i : Int) + 0 = i; omega)]
  exact ybt_v hB e3
theorem ytw_ok {gv : Nat → zH → Int} {X : sX} {B : sB} {ρ : Nat → Int} {h' : zH} {r1 i1 r2 i2 k1 k2 : Nat} {k c : Int} (hB : sOk B ρ) (hC : ∀ c ∈ X.2.2.2.1, sv ρ c ≤ 0) (hm : ∀ m ∈ X.2.1, smm yReg gv ρ h' m) (hr1 : r1 < 1000) (hr2 : r2 < 1000) (hk1 : yReg k1 = r1) (hk2 : yReg k2 = r2) (ht : ytw X B r1 i1 r2 i2 k c = true) : yv h' k1 i1 + k * yv h' k2 i2 + c ≤ 0 := by
  obtain ⟨m, m1, m2⟩ := List.any_eq_true.mp ht
  simp only [Bool.and_eq_true, decide_eq_true_eq] at m2
  obtain ⟨e1, e2, e3⟩ := m2
  obtain ⟨n, n1, n2⟩ := List.any_eq_true.mp e3
  simp only [Bool.and_eq_true, decide_eq_true_eq] at n2
  obtain ⟨f1, f2, f3⟩ := n2
  have q1 := hm m m1
  have q2 := hm n n1
  obtain ⟨r, e, v⟩ := m
  obtain ⟨r', e', v'⟩ := n
  have e1 : r = r1 := e1
  have e2 : e = ((i1 : Int), []) := e2
  have f1 : r' = r2 := f1
  have f2 : e' = ((i2 : Int), []) := f2
  subst e1 e2 f1 f2
  rw [ysm_u (k := k1) hr1 hk1 q1 i1 (by show (i1 : Int) + 0 = i1; omega), ysm_u (k := k2) hr2 hk2 q2 i2 (by show (i2 : Int) + 0 = i2; omega)]
  have := sp0_le hB hC f3
  rw [sac_v, sadd_v] at this
  exact this
/-- an end keeps what is told -/
theorem yXok_ok (ht : t < 5) {n : Nat} {md : sD} {X : sX} {h' : zH} {r : Option zV} {ρ0 : Nat → Int} {B0 : sB} (hn : B0.length = n) (hB0 : ∀ j b, B0[j]? = some b → b.1 ≤ ρ0 (j + 1) ∧ ρ0 (j + 1) ≤ b.2) (hI : yInv h) (hG' : sG yReg yG h') (hF : sF yReg md h h') (hE : sEx yReg (yGv t s c0 v0 ar) n X ρ0 r h') (hc : yXok md (B0 ++ X.2.2.1) X = true) : yInv h' ∧ ∃ x : Int32, r = some (.inl x) := by
  obtain ⟨hG, g4, g5, g6, g7, gm⟩ := hI
  obtain ⟨ρx, x1, x2, x3, x4, x5⟩ := hE
  unfold yXok at hc
  simp only [Bool.and_eq_true, Bool.or_eq_true] at hc
  obtain ⟨k4, k5, k6, k7, km, kr⟩ := hc
  have hB : sOk (B0 ++ X.2.2.1) ρx := by
    intro j b e
    by_cases hj : j < B0.length
    · rw [List.getElem?_append_left hj] at e
      rw [x1 j (by omega)]
      exact hB0 j b e
    · rw [List.getElem?_append_right (by omega)] at e
      have := x2 _ b e
      rw [show n + (j - B0.length) = j by omega] at this
      exact this
  have hfr : ∀ a, yfre md (yGu a) = true → yGv t s c0 v0 ar a h = yGv t s c0 v0 ar a h' := fun a ha => yGvOk ht a h h' (fun k i hz => yfre_ok ha hF hz)
  refine ⟨⟨hG', ?_, ?_, ?_, ?_, ?_⟩, ?_⟩
  · rcases k4 with k | k | ⟨k, ka, kb⟩
    · refine yB_1.mp ?_
      show yGv t s c0 v0 ar 4 h' = 1
      rw [← hfr 4 k]
      exact yB_1.mpr g4
    · exact yB_1.mp (ytl_ok (a := 4) hB x4 k)
    · have g9 : yG9 h' := yB_1.mp (ytl_ok (a := 9) hB x4 k)
      have a1 := ytw_ok (k1 := 440) (k2 := 440) (i1 := 13) (i2 := 14) hB x3 x4 (by decide) (by decide) (by decide +kernel) (by decide +kernel) ka
      have a2 := ytw_ok (k1 := 440) (k2 := 440) (i1 := 14) (i2 := 13) hB x3 x4 (by decide) (by decide) (by decide +kernel) (by decide +kernel) kb
      have a3 : yv h' 440 13 = yv h' 440 14 + 1 := by omega
      refine ⟨by have := g9.1; omega, ?_⟩
      rw [a3]
      exact g9.2
  · rcases k5 with k | k
    · refine yB_1.mp ?_
      show yGv t s c0 v0 ar 5 h' = 1
      rw [← hfr 5 k]
      exact yB_1.mpr g5
    · exact yB_1.mp (ytl_ok (a := 5) hB x4 k)
  · rcases k6 with k | k | k
    · refine yB_1.mp ?_
      show yGv t s c0 v0 ar 6 h' = 1
      rw [← hfr 6 k]
      exact yB_1.mpr g6
    · exact yB_1.mp (ytl_ok (a := 6) hB x4 k)
    · have := ytf_ok (i := 39) hB x4 k
      intro a a1 a2
      omega
  · rcases k7 with k | k | k
    · refine yB_1.mp ?_
      show yGv t s c0 v0 ar 7 h' = 1
      rw [← hfr 7 k]
      exact yB_1.mpr g7
    · exact yB_1.mp (ytl_ok (a := 7) hB x4 k)
    · exact Or.inl (ytf_ok (i := 55) hB x4 k)
  · rcases km with k | k
    · have e1 : h.1 440 22 = h'.1 440 22 := yfre_ok k hF ⟨(120, 22, 22), List.mem_cons_self .., by decide +kernel, by decide, by decide⟩
      have e2 : h.1 419 0 = h'.1 419 0 := yfre_ok k hF ⟨(99, 0, 0), List.mem_cons_of_mem _ (List.mem_cons_self ..), by decide +kernel, by decide, by decide⟩
      unfold yv at gm ⊢
      rw [← e1, ← e2]
      exact gm
    · have := ytw_ok (k1 := 440) (k2 := 419) (i1 := 22) (i2 := 0) hB x3 x4 (by decide) (by decide) (by decide +kernel) (by decide +kernel) k
      omega
  · match hx : X.1, kr, x5 with
    | some (0, e), _, x5 =>
      match r, x5 with
      | some (.inl x), _ => exact ⟨x, rfl⟩
theorem ytop (ht : t < 5) (hS : ySum (yGv t s c0 v0 ar) Q) (hI : yInv h) (hrf : ∃ k, zget (zent 0 args) 0 = some (.inr (.inr k)) ∧ yReg k = r0) (hty : ∀ z ∈ tys, ytyp args z) (hgs : ∀ z ∈ gs, z.2.1 ≤ yGv t s c0 v0 ar z.1 h ∧ yGv t s c0 v0 ar z.1 h ≤ z.2.2) (hks : ∀ k ∈ kcs, k.1 + ysum (ywl (yGv t s c0 v0 ar) args h) k.2 ≤ 0) (hc : yTok r0 tys gs kcs Q = true) {d : Nat} (hd : Q.2.2.2.2 ≤ d) : ∃ m x h', yrun m d Q.1 args h = some (some (.inl x), h') ∧ yInv h' ∧ sF yReg Q.2.2.2.1 h h' := by
  unfold yTok at hc
  rw [Bool.and_eq_true] at hc
  have hM := ypre hI.1 hrf hty hgs hks hc.1
  obtain ⟨m, r, h', r1, r2, r3, X, hX, hE⟩ := hS args h _ _ hI.1 hM d hd
  have hb := hM.2.2.2.1
  have hlen : Q.2.1.2.2.1.length = Q.2.1.2.1.length := by
    have := hc.1
    unfold yPok at this
    simp only [Bool.and_eq_true, decide_eq_true_eq] at this
    exact this.2.1
  obtain ⟨i1, x, i2⟩ := yXok_ok ht hlen (fun j b e => hb j b e) hI r2 r3 hE ((List.all_eq_true.mp hc.2) X hX)
  subst i2
  exact ⟨m, x, h', r1, i1, r3⟩
end YTOP2
/-! worked, bounded -/
/-- J9_max_f86c9 (None,) -/
def yQ_w0 : sQ := (23, ([], [(1, 0, (0, [])), (1, 2, (0, []))], [((-1000000), (-1000000)), ((-9223372036854775808), 1000000)], [], [(0, 0), (1, 1)], (0, [])), [(some (1, (0, [(1, 1)])), [], [], [((-999999), [(1, (-1))]), (1, [(0, 1), (1, (-1))])], []), (some (1, (0, [(0, 1)])), [], [], [(1000001, [(1, 1)]), (1, [(0, (-1)), (1, 1)])], []), (some (1, (0, [(0, 1)])), [], [], [(1000000, [(1, 1)]), ((-1000000), [(1, (-1))]), (0, [(0, (-1)), (1, 1)]), (0, [(0, 1), (1, (-1))])], [])], [], 0)
def yL_w0 : List (Nat × List sAp) := []
def yP_w0 : List (sE × List Int) := []
theorem yS_w0 {gv : Nat → zH → Int} (hg : sGv yReg yGu gv) : ySum gv yQ_w0 := yOk hg (F := 500) (sp := yP_w0) (L := yL_w0) (Qs := []) (by decide +kernel) yNil
/-- J9_min_f86c9 (None,) -/
def yQ_w1 : sQ := (25, ([], [(1, 0, (0, [])), (1, 2, (0, []))], [(1000000, 1000000), ((-9223372036854775808), 9223372036854775807)], [], [(0, 0), (1, 1)], (0, [])), [(some (1, (0, [(0, 1)])), [], [], [(1000001, [(1, (-1))]), (1, [(0, 1), (1, (-1))])], []), (some (1, (0, [(1, 1)])), [], [], [((-999999), [(1, 1)]), (1, [(0, (-1)), (1, 1)])], []), (some (1, (0, [(0, 1)])), [], [], [((-1000000), [(1, 1)]), (1000000, [(1, (-1))]), (0, [(0, (-1)), (1, 1)]), (0, [(0, 1), (1, (-1))])], [])], [], 0)
def yL_w1 : List (Nat × List sAp) := []
def yP_w1 : List (sE × List Int) := []
theorem yS_w1 {gv : Nat → zH → Int} (hg : sGv yReg yGu gv) : ySum gv yQ_w1 := yOk hg (F := 500) (sp := yP_w1) (L := yL_w1) (Qs := []) (by decide +kernel) yNil
/-- X12_bounded (None,) -/
def yQ_w2 : sQ := (109, ([], [(1, 0, (0, []))], [((-9223372036854775808), 9223372036854775807)], [], [(0, 0)], (0, [])), [(some (0, (1000000, [])), [], [], [(1000001, [(0, (-1))])], []), (some (0, (1000000, [])), [], [], [((-1000000), [(0, 1)]), (1000000, [(0, (-1))])], []), (some (0, (0, [(0, 1)])), [], [], [((-999999), [(0, 1)]), ((-999999), [(0, (-1))])], []), (some (0, ((-1000000), [])), [], [], [(1000000, [(0, 1)]), ((-1000000), [(0, (-1))])], []), (some (0, ((-1000000), [])), [], [], [(1000001, [(0, 1)])], [])], [], 1)
def yL_w2 : List (Nat × List sAp) := []
def yP_w2 : List (sE × List Int) := []
theorem yS_w2 {gv : Nat → zH → Int} (hg : sGv yReg yGu gv) : ySum gv yQ_w2 := yOk hg (F := 500) (sp := yP_w2) (L := yL_w2) (Qs := [yQ_w0, yQ_w1]) (by decide +kernel) (yCons (yS_w0 hg) (yCons (yS_w1 hg) yNil))
/-- X12_worked (None,) -/
def yQ_w3 : sQ := (207, ([], [(0, 0, (0, [])), (1, 1, (0, [])), (1, 3, (0, []))], [(2, 11), ((-2147483648), 2147483647), ((-2147483648), 2147483647)], [], [(0, 0), (1, 1), (2, 2)], (0, [])), [(some (0, (0, [(3, 1)])), [], [((-1000000), 1000000)], [((-5), [(0, 1)])], [0]), (some (0, (1, [])), [], [], [(6, [(0, (-1))])], []), (some (0, (0, [])), [], [], [(5, [(0, (-1))])], [])], [], 2)
def yL_w3 : List (Nat × List sAp) := []
def yP_w3 : List (sE × List Int) := []
theorem yS_w3 {gv : Nat → zH → Int} (hg : sGv yReg yGu gv) : ySum gv yQ_w3 := yOk hg (F := 500) (sp := yP_w3) (L := yL_w3) (Qs := [yQ_w2]) (by decide +kernel) (yCons (yS_w2 hg) yNil)
/-! workOut, worthOf: by hand, a turn of each loop by its ways -/
abbrev yZr (m d mid pc : Nat) (loc : zL) (h : zH) : Option (Option zV × zH) := zrun yTab yPI yMl yMr yFld yKI yKL yGst yLdS yFldS yAcp yCal m d mid pc loc [] h
abbrev ySg (labs : Nat → List sA) (Qs : List sQ) (md : sD) (dep n : Nat) (Xs : List sX) (mid pc : Nat) (A : sA) : Bool := sseg yPI yMl yMr yFld yKI yKL yGst yLdS yFldS yAcp yCal yReg yRin ySin yG yGu labs Qs md dep n Xs mid 300 pc true (sAs A)
def yXi (n : Nat) : sX := (some (0, (0, [(n, 1)])), [], [((-2147483648), 2147483647)], [], [0])
def yPr (h0 : zH) (r : Option zV) (h' : zH) : Prop := (∃ x : Int32, r = some (.inl x)) ∧ sG yReg yG h' ∧ sF yReg [(96, 0, 79)] h0 h'
def yAs0 : sA := ([(0, 120)], [(0, 1, (0, [])), (0, 2, (0, [])), (0, 3, (0, []))], [(0, 4), (0, 520), (0, 520)], [], [(0, 0), (1, 1), (2, 2)], (1, []))
def yAs1 : sA := ([(0, 120)], [(0, 1, (0, [])), (0, 3, (0, [])), (0, 4, (0, [])), (0, 5, (0, [])), (3, 0, (0, [])), (3, 1, (0, [])), (3, 2, (0, []))], [(0, 4), (0, 520), (0, 0), (0, 2600), (0, 4), (0, 520), (0, 520)], [(0, [(0, 1), (4, (-1))]), (0, [(0, (-1)), (4, 1)]), (0, [(1, 1), (6, (-1))]), (0, [(1, (-1)), (6, 1)]), (0, [(3, 1), (4, (-520)), (5, (-1))]), (0, [(3, (-1)), (4, 520), (5, 1)])], [(0, 4), (1, 5), (2, 6)], (0, []))
def yAk (cb vb tb : Int × Int) : sA := ([(0, 120)], [(0, 1, (0, [])), (0, 3, (0, [])), (0, 4, (0, [])), (0, 5, (0, [])), (2, 88, (0, [(3, 1)])), (2, 89, (0, [(3, 1)]))], [(0, 4), (0, 520), tb, (0, 2599), cb, vb], [(1, [(0, (-520)), (1, (-1)), (3, 1)])], [(0, 0), (1, 1), (2, 2), (3, 3), (4, 4), (5, 5)], (1, []))
def yAr (dl : Int) : sA := ([(0, 120)], [(0, 1, (0, [])), (0, 3, (0, [])), (0, 4, (0, [])), (0, 5, (0, [])), (3, 2, (0, [])), (3, 3, (0, [])), (3, 0, (0, [])), (3, 1, (0, []))], [(0, 4), (0, 520), ((-1), 81), (0, 2600), (0, 80), (0, 2599), (0, 4), (0, 520)], [(-dl, [(2, 1), (4, (-1))]), (dl, [(2, (-1)), (4, 1)]), ((-1), [(3, 1), (5, (-1))]), (1, [(3, (-1)), (5, 1)]), (0, [(0, 1), (6, (-1))]), (0, [(0, (-1)), (6, 1)]), (0, [(1, 1), (7, (-1))]), (0, [(1, (-1)), (7, 1)])], [(2, 4), (3, 5), (0, 6), (1, 7)], (0, []))
def yAe : sA := ([(0, 120)], [(0, 1, (0, [])), (0, 3, (0, [])), (0, 4, (0, [])), (0, 5, (0, []))], [(0, 4), (0, 520), ((-2147483648), 2147483647), (0, 2600)], [(0, [(0, 520), (1, 1), (3, (-1))])], [(0, 0), (1, 1), (2, 2), (3, 3)], (1, []))
def ylb (A : sA) (p : Nat) (pc : Nat) : List sA := if pc = p then [A] else []
theorem ylb_m {A B : sA} {p pc : Nat} (h : B ∈ ylb A p pc) : pc = p ∧ B = A := by
  unfold ylb at h
  by_cases q : pc = p
  · rw [if_pos q] at h
    exact ⟨q, List.mem_singleton.mp h⟩
  · rw [if_neg q] at h
    cases h
theorem yW_s : ySg (ylb yAs1 12) [] [(96, 0, 79)] 3 3 [] 206 0 yAs0 = true := by decide +kernel
theorem yW_e : ySg (fun _ => []) [] [(96, 0, 79)] 3 4 [yXi 4] 206 12 yAe = true := by decide +kernel
theorem yW_0 : ySg (ylb (yAr 1) 12) [] [(96, 0, 79)] 3 6 [] 206 12 (yAk (0, 0) ((-2147483648), 2147483647) (0, 79)) = true := by decide +kernel
theorem yW_1 : ySg (ylb (yAr 1) 12) [] [(96, 0, 79)] 3 6 [] 206 12 (yAk (1, 1) (0, 5) (0, 79)) = true := by decide +kernel
theorem yW_9 : ySg (ylb (yAr 0) 12) [] [(96, 0, 79)] 3 6 [] 206 12 (yAk (9, 9) ((-2147483648), 2147483647) (1, 80)) = true := by decide +kernel
theorem yW_2 : ySg (ylb (yAr (-1)) 12) [yQ_w3] [(96, 0, 79)] 3 6 [] 206 12 (yAk (2, 8) ((-2147483648), 2147483647) (2, 80)) = true := by decide +kernel
theorem yW_10 : ySg (ylb (yAr (-1)) 12) [yQ_w3] [(96, 0, 79)] 3 6 [] 206 12 (yAk (10, 11) ((-2147483648), 2147483647) (2, 80)) = true := by decide +kernel
def yli (loc : zL) (a : Nat) (z : Int) : Prop := ∃ x : Int32, zget loc a = some (.inl x) ∧ x.toInt = z
def ylc (loc : zL) (n t : Nat) (top : Int) (k : Nat) : Prop := yrf loc 0 (0, 120) ∧ yli loc 1 n ∧ yli loc 3 t ∧ yli loc 4 top ∧ yli loc 5 k
theorem yturn {gv : Nat → zH → Int} (hg : sGv yReg yGu gv) {d : Nat} (hd : 3 ≤ d) {h0 h : zH} {P : Option zV → zH → Prop} {Qs : List sQ} (hQs : ∀ Q ∈ Qs, ySum gv Q) {cb vb tb : Int × Int} {dl : Int} (hchk : ySg (ylb (yAr dl) 12) Qs [(96, 0, 79)] 3 6 [] 206 12 (yAk cb vb tb) = true) {loc : zL} {n t : Nat} {top : Int} {k : Nat} (hn : n < 5) (ht : t ≤ 520) (hl : ylc loc n t top k) (hk : k < 2600) (hkt : k < 520 * n + t) (hc : cb.1 ≤ yv h 408 k ∧ yv h 408 k ≤ cb.2) (hv : vb.1 ≤ yv h 409 k ∧ yv h 409 k ≤ vb.2) (htb : tb.1 ≤ top ∧ top ≤ tb.2) (hG : sG yReg yG h) (hF : sF yReg [(96, 0, 79)] h0 h)
    (K : ∀ (loc' : zL) (h' : zH), ylc loc' n t (top + dl) (k + 1) → sG yReg yG h' → sF yReg [(96, 0, 79)] h0 h' → ∃ m r h'', yZr m d 206 12 loc' h' = some (r, h'') ∧ P r h'') : ∃ m r h'', yZr m d 206 12 loc h = some (r, h'') ∧ P r h'' := by
  obtain ⟨l0, ⟨x1, l1, l1'⟩, ⟨x3, l3, l3'⟩, ⟨x4, l4, l4'⟩, ⟨x5, l5, l5'⟩⟩ := hl
  have hM : sMt yReg gv (yρ [n, t, top, k, yv h 408 k, yv h 409 k]) (yρ0 [n, t, top, k, yv h 408 k, yv h 409 k] (1, [])) (sAs (yAk cb vb tb)) loc [] h := by
    refine ymk (ya1 l0 ya0) (ya1 (yvr0 l1 l1') (ya1 (yvr0 l3 l3') (ya1 (yvr0 l4 l4') (ya1 (yvr0 l5 l5') (ya1 (yvr2 (ysm_p (k := 408) (by decide) (by decide +kernel) (by decide +kernel) k ?_ ?_)) (ya1 (yvr2 (ysm_p (k := 409) (by decide) (by decide +kernel) (by decide +kernel) k ?_ ?_)) ya0)))))) (ya1 ?_ (ya1 ?_ (ya1 htb (ya1 ?_ (ya1 hc (ya1 hv ya0)))))) (ya1 ?_ ya0) (ya1 rfl (ya1 rfl (ya1 rfl (ya1 rfl (ya1 rfl (ya1 rfl ya0)))))) rfl
    · show 0 + (1 * (k : Int) + 0) = k; omega
    · rw [sY_v]; rfl
    · show 0 + (1 * (k : Int) + 0) = k; omega
    · rw [sY_v]; rfl
    · show (0 : Int) ≤ n ∧ (n : Int) ≤ 4; omega
    · show (0 : Int) ≤ t ∧ (t : Int) ≤ 520; omega
    · show (0 : Int) ≤ k ∧ (k : Int) ≤ 2599; omega
    · show 1 + (-520 * (n : Int) + (-1 * (t : Int) + (1 * (k : Int) + 0))) ≤ 0; omega
  refine sseg_okP yComp ySing yCell yR1000 hg hd hQs 300 12 true _ loc [] h _ _ hchk hM hG hF ?_ ?_
  · intro pc A hA loc' h' ρ ρ0' e1 e2 e3 hM' hG' hF'
    obtain ⟨rfl, rfl⟩ := ylb_m hA
    obtain ⟨⟨a0, -⟩, ⟨v0, v1, v2, v3, -⟩, -, ⟨c0, c1, c2, c3, c4, c5, c6, c7, -⟩, ⟨p0, p1, p2, p3, -⟩, -⟩ := yun hM'
    have c0 : -dl + (1 * ρ 2 + (-1 * ρ 4 + 0)) ≤ 0 := c0
    have c1 : dl + (-1 * ρ 2 + (1 * ρ 4 + 0)) ≤ 0 := c1
    have c2 : -1 + (1 * ρ 3 + (-1 * ρ 5 + 0)) ≤ 0 := c2
    have c3 : 1 + (-1 * ρ 3 + (1 * ρ 5 + 0)) ≤ 0 := c3
    have c4 : 0 + (1 * ρ 0 + (-1 * ρ 6 + 0)) ≤ 0 := c4
    have c5 : 0 + (-1 * ρ 0 + (1 * ρ 6 + 0)) ≤ 0 := c5
    have c6 : 0 + (1 * ρ 1 + (-1 * ρ 7 + 0)) ≤ 0 := c6
    have c7 : 0 + (-1 * ρ 1 + (1 * ρ 7 + 0)) ≤ 0 := c7
    have p0 : ρ0' 3 = ρ 4 := p0
    have p1 : ρ0' 4 = ρ 5 := p1
    have p2 : ρ0' 1 = ρ 6 := p2
    have p3 : ρ0' 2 = ρ 7 := p3
    have q0 : ρ0' 3 = top := e1 2
    have q1 : ρ0' 4 = k := e1 3
    have q2 : ρ0' 1 = n := e1 0
    have q3 : ρ0' 2 = t := e1 1
    obtain ⟨y1, y1a, y1b⟩ := v0
    obtain ⟨y3, y3a, y3b⟩ := v1
    obtain ⟨y4, y4a, y4b⟩ := v2
    obtain ⟨y5, y5a, y5b⟩ := v3
    have y1b : y1.toInt = ρ 0 := y1b
    have y3b : y3.toInt = ρ 1 := y3b
    have y4b : y4.toInt = ρ 2 := y4b
    have y5b : y5.toInt = ρ 3 := y5b
    exact K loc' h' ⟨a0, ⟨y1, y1a, by omega⟩, ⟨y3, y3a, by omega⟩, ⟨y4, y4a, by omega⟩, ⟨y5, y5a, by rw [y5b]; show ρ 3 = ((k + 1 : Nat) : Int); omega⟩⟩ hG' hF'
  · intro r h' _ _ ⟨X, hX, _⟩
    cases hX
theorem yloop {gv : Nat → zH → Int} (hg : sGv yReg yGu gv) {d : Nat} (hd : 3 ≤ d) {h0 : zH} {n f t : Nat} (hn : n < 5) (ht : t ≤ 520) (hw : ywf h0 (520 * n + f) (t - f)) : ∀ (r j : Nat) (loc : zL) (h : zH), f + j + r = t → ylc loc n t (yht h0 (520 * n + f) j) (520 * n + f + j) → sG yReg yG h → sF yReg [(96, 0, 79)] h0 h → ∃ m r h'', yZr m d 206 12 loc h = some (r, h'') ∧ yPr h0 r h'' := by
  intro r
  induction r with
  | zero =>
    intro j loc h hj hl hG hF
    obtain ⟨l0, ⟨x1, l1, l1'⟩, ⟨x3, l3, l3'⟩, ⟨x4, l4, l4'⟩, ⟨x5, l5, l5'⟩⟩ := hl
    have i4 := si32 x4
    have hM : sMt yReg gv (yρ [n, t, x4.toInt, (520 * n + f + j : Nat)]) (yρ0 [n, t, x4.toInt, (520 * n + f + j : Nat)] (1, [])) (sAs yAe) loc [] h := by
      refine ymk (ya1 l0 ya0) (ya1 (yvr0 l1 l1') (ya1 (yvr0 l3 l3') (ya1 (yvr0 l4 rfl) (ya1 (yvr0 l5 l5') ya0)))) (ya1 ?_ (ya1 ?_ (ya1 i4 (ya1 ?_ ya0)))) (ya1 ?_ ya0) (ya1 rfl (ya1 rfl (ya1 rfl (ya1 rfl ya0)))) rfl
      · show (0 : Int) ≤ n ∧ (n : Int) ≤ 4; omega
      · show (0 : Int) ≤ t ∧ (t : Int) ≤ 520; omega
      · show (0 : Int) ≤ ((520 * n + f + j : Nat) : Int) ∧ ((520 * n + f + j : Nat) : Int) ≤ 2600; omega
      · show 0 + (520 * (n : Int) + (1 * (t : Int) + (-1 * ((520 * n + f + j : Nat) : Int) + 0))) ≤ 0; omega
    refine sseg_okP yComp ySing yCell yR1000 hg hd yNil 300 12 true _ loc [] h _ _ yW_e hM hG hF ?_ ?_
    · intro pc A hA
      cases hA
    · intro r h' hG' hF' ⟨X, hX, hE⟩
      have := List.mem_singleton.mp hX
      subst this
      refine ⟨?_, hG', hF'⟩
      obtain ⟨ρx, -, -, -, -, hr⟩ := yexU hE
      match r, hr with
      | some (.inl z), _ => exact ⟨z, rfl⟩
  | succ r ih =>
    intro j loc h hj hl hG hF
    have hst := hw j (by omega)
    have hk : 520 * n + f + j < 2600 := by omega
    have ec : yv h 408 (520 * n + f + j) = yco h0 (520 * n + f + j) := by
      rw [yfv hF (by decide +kernel)]
      unfold yco
      rw [if_pos hk]
    have ev : yv h 409 (520 * n + f + j) = yva h0 (520 * n + f + j) := by
      rw [yfv hF (by decide +kernel)]
      unfold yva
      rw [if_pos hk]
    have iv := si32 (h.1 409 (520 * n + f + j))
    have iv : -2147483648 ≤ yv h 409 (520 * n + f + j) ∧ yv h 409 (520 * n + f + j) ≤ 2147483647 := iv
    have go : ∀ (cb vb tb : Int × Int) (dl : Int) (Qs : List sQ), (∀ Q ∈ Qs, ySum gv Q) → ySg (ylb (yAr dl) 12) Qs [(96, 0, 79)] 3 6 [] 206 12 (yAk cb vb tb) = true → yd (yco h0 (520 * n + f + j)) = dl → (cb.1 ≤ yv h 408 (520 * n + f + j) ∧ yv h 408 (520 * n + f + j) ≤ cb.2) → (vb.1 ≤ yv h 409 (520 * n + f + j) ∧ yv h 409 (520 * n + f + j) ≤ vb.2) → (tb.1 ≤ yht h0 (520 * n + f) j ∧ yht h0 (520 * n + f) j ≤ tb.2) → ∃ m r h'', yZr m d 206 12 loc h = some (r, h'') ∧ yPr h0 r h'' := by
      intro cb vb tb dl Qs hQs hchk hdl hc hv htb
      refine yturn hg hd hQs hchk hn ht hl hk (by omega) hc hv htb hG hF ?_
      intro loc' h' hl' hG' hF'
      refine ih (j + 1) loc' h' (by omega) ?_ hG' hF'
      have e1 : yht h0 (520 * n + f) (j + 1) = yht h0 (520 * n + f) j + dl := by
        show yht h0 (520 * n + f) j + yd (yco h0 (520 * n + f + j)) = _
        rw [hdl]
      rw [e1]
      exact hl'
    rcases hst with ⟨a, b, c⟩ | ⟨a, b, c, e, f'⟩ | ⟨a, b, c⟩ | ⟨a, b, c, e, f'⟩
    · refine go (0, 0) (-2147483648, 2147483647) (0, 79) 1 [] yNil yW_0 ?_ ?_ iv ⟨b, c⟩
      · rw [a]; rfl
      · rw [ec, a]; exact ⟨Int.le_refl _, Int.le_refl _⟩
    · refine go (1, 1) (0, 5) (0, 79) 1 [] yNil yW_1 ?_ ?_ ?_ ⟨b, c⟩
      · rw [a]; rfl
      · rw [ec, a]; exact ⟨Int.le_refl _, Int.le_refl _⟩
      · rw [ev]; exact ⟨e, f'⟩
    · refine go (9, 9) (-2147483648, 2147483647) (1, 80) 0 [] yNil yW_9 ?_ ?_ iv ⟨b, c⟩
      · rw [a]; rfl
      · rw [ec, a]; exact ⟨Int.le_refl _, Int.le_refl _⟩
    · have hd1 : yd (yco h0 (520 * n + f + j)) = -1 := by
        unfold yd
        rw [if_neg (by omega), if_neg c]
      by_cases q : yco h0 (520 * n + f + j) ≤ 8
      · exact go (2, 8) (-2147483648, 2147483647) (2, 80) (-1) [yQ_w3] (yCons (yS_w3 hg) yNil) yW_2 hd1 (by rw [ec]; exact ⟨a, q⟩) iv ⟨e, f'⟩
      · exact go (10, 11) (-2147483648, 2147483647) (2, 80) (-1) [yQ_w3] (yCons (yS_w3 hg) yNil) yW_10 hd1 (by rw [ec]; show (10 : Int) ≤ _ ∧ _ ≤ (11 : Int); omega) iv ⟨e, f'⟩
/-- workOut, over steps that are well -/
theorem ywork {gv : Nat → zH → Int} (hg : sGv yReg yGu gv) {d : Nat} (hd : 3 ≤ d) {h : zH} {n f t : Nat} (hn : n < 5) (ht : t ≤ 520) (hft : f ≤ t) (hw : ywf h (520 * n + f) (t - f)) {args : List zV} (hG : sG yReg yG h) (a0 : yrf (zent 0 args) 0 (0, 120)) (a1 : yli (zent 0 args) 1 n) (a2 : yli (zent 0 args) 2 f) (a3 : yli (zent 0 args) 3 t) : ∃ m r h', yrun m d 206 args h = some (r, h') ∧ yPr h r h' := by
  obtain ⟨x1, l1, l1'⟩ := a1
  obtain ⟨x2, l2, l2'⟩ := a2
  obtain ⟨x3, l3, l3'⟩ := a3
  have hM : sMt yReg gv (yρ [n, f, t]) (yρ0 [n, f, t] (1, [])) (sAs yAs0) (zent 0 args) [] h := by
    refine ymk (ya1 a0 ya0) (ya1 (yvr0 l1 l1') (ya1 (yvr0 l2 l2') (ya1 (yvr0 l3 l3') ya0))) (ya1 ?_ (ya1 ?_ (ya1 ?_ ya0))) ya0 (ya1 rfl (ya1 rfl (ya1 rfl ya0))) rfl
    · show (0 : Int) ≤ n ∧ (n : Int) ≤ 4; omega
    · show (0 : Int) ≤ f ∧ (f : Int) ≤ 520; omega
    · show (0 : Int) ≤ t ∧ (t : Int) ≤ 520; omega
  refine sseg_okP yComp ySing yCell yR1000 hg hd yNil 300 0 true _ (zent 0 args) [] h _ _ yW_s hM hG (fun _ _ hne => absurd rfl hne) ?_ ?_
  · intro pc A hA loc' h' ρ ρ0' e1 e2 e3 hM' hG' hF'
    obtain ⟨rfl, rfl⟩ := ylb_m hA
    obtain ⟨⟨b0, -⟩, ⟨v0, v1, v2, v3, -⟩, ⟨-, -, b2, -⟩, ⟨c0, c1, c2, c3, c4, c5, -⟩, ⟨p0, p1, p2, -⟩, -⟩ := yun hM'
    have c0 : 0 + (1 * ρ 0 + (-1 * ρ 4 + 0)) ≤ 0 := c0
    have c1 : 0 + (-1 * ρ 0 + (1 * ρ 4 + 0)) ≤ 0 := c1
    have c2 : 0 + (1 * ρ 1 + (-1 * ρ 6 + 0)) ≤ 0 := c2
    have c3 : 0 + (-1 * ρ 1 + (1 * ρ 6 + 0)) ≤ 0 := c3
    have c4 : 0 + (1 * ρ 3 + (-520 * ρ 4 + (-1 * ρ 5 + 0))) ≤ 0 := c4
    have c5 : 0 + (-1 * ρ 3 + (520 * ρ 4 + (1 * ρ 5 + 0))) ≤ 0 := c5
    have b2 : 0 ≤ ρ 2 ∧ ρ 2 ≤ 0 := b2
    have p0 : ρ0' 1 = ρ 4 := p0
    have p1 : ρ0' 2 = ρ 5 := p1
    have p2 : ρ0' 3 = ρ 6 := p2
    have q0 : ρ0' 1 = n := e1 0
    have q1 : ρ0' 2 = f := e1 1
    have q2 : ρ0' 3 = t := e1 2
    obtain ⟨y1, y1a, y1b⟩ := v0
    obtain ⟨y3, y3a, y3b⟩ := v1
    obtain ⟨y4, y4a, y4b⟩ := v2
    obtain ⟨y5, y5a, y5b⟩ := v3
    have y1b : y1.toInt = ρ 0 := y1b
    have y3b : y3.toInt = ρ 1 := y3b
    have y4b : y4.toInt = ρ 2 := y4b
    have y5b : y5.toInt = ρ 3 := y5b
    refine yloop hg hd hn ht hw (t - f) 0 loc' h' (by omega) ⟨b0, ⟨y1, y1a, by omega⟩, ⟨y3, y3a, by omega⟩, ⟨y4, y4a, ?_⟩, ⟨y5, y5a, ?_⟩⟩ hG' hF'
    · show _ = (0 : Int)
      omega
    · rw [y5b]
      show ρ 3 = ((520 * n + f + 0 : Nat) : Int)
      omega
  · intro r h' _ _ ⟨X, hX, _⟩
    cases hX
/-- the steps of a clause, by numbers -/
noncomputable def yGk (n f s t : Nat) (a : Nat) (h : zH) : Int := if a = 8 then yB (ywf h (520 * n + f) (s - f)) else if a = 1 then yB (ywf h (520 * n + s) (t - s)) else if a = 15 then (n : Int) else if a = 16 then (f : Int) else if a = 17 then (s : Int) else if a = 18 then (t : Int) else 0
theorem yGkOk {n f s t : Nat} : sGv yReg yGu (yGk n f s t) := by
  intro a h h' H
  have H : yag a h h' := H
  unfold yGk
  by_cases q : a = 8
  · subst q
    rw [if_pos rfl, if_pos rfl, ywf_c (yag_co H (by decide +kernel)) (yag_va H (by decide +kernel))]
  rw [if_neg q, if_neg q]
  by_cases q : a = 1
  · subst q
    rw [if_pos rfl, if_pos rfl, ywf_c (yag_co H (by decide +kernel)) (yag_va H (by decide +kernel))]
  rw [if_neg q, if_neg q]
def yQ_k (a b g : Nat) : sQ := (206, ([(0, 120)], [(0, 1, (0, [])), (0, 2, (0, [])), (0, 3, (0, [])), (2, 1015, (0, [])), (2, 1000 + a, (0, [])), (2, 1000 + b, (0, [])), (2, 1000 + g, (0, []))], [(0, 4), (0, 520), (0, 520), (0, 4), (0, 520), (0, 520), (1, 1)], [(0, [(0, 1), (3, (-1))]), (0, [(0, (-1)), (3, 1)]), (0, [(1, 1), (4, (-1))]), (0, [(1, (-1)), (4, 1)]), (0, [(2, 1), (5, (-1))]), (0, [(2, (-1)), (5, 1)])], [(0, 0), (1, 1), (2, 2), (3, 3), (4, 4), (5, 5), (6, 6)], (0, [])), [(some (0, (0, [(7, 1)])), [], [((-2147483648), 2147483647)], [], [])], [(96, 0, 79)], 3)
theorem yS_k {n f s t a b g u v : Nat} (hn : n < 5) (hv : v ≤ 520) (huv : u ≤ v) (ea : ∀ h, yGk n f s t a h = u) (eb : ∀ h, yGk n f s t b h = v) (eg : ∀ h, yGk n f s t g h = yB (ywf h (520 * n + u) (v - u))) : ySum (yGk n f s t) (yQ_k a b g) := by
  intro args h ρ ρ0 hG hM d hd
  obtain ⟨⟨a0, -⟩, ⟨⟨x1, l1, l1'⟩, ⟨x2, l2, l2'⟩, ⟨x3, l3, l3'⟩, m3, m4, m5, m6, -⟩, ⟨-, -, -, -, -, -, b6, -⟩, ⟨c0, c1, c2, c3, c4, c5, -⟩, -, -⟩ := yun hM
  have m3 : yGk n f s t 15 h = ρ 3 := by rw [ysm_gu (a := 15) m3, sY_v]
  have m4 : yGk n f s t a h = ρ 4 := by rw [ysm_gu (a := a) m4, sY_v]
  have m5 : yGk n f s t b h = ρ 5 := by rw [ysm_gu (a := b) m5, sY_v]
  have m6 : yGk n f s t g h = ρ 6 := by rw [ysm_gu (a := g) m6, sY_v]
  have m3 : (n : Int) = ρ 3 := m3
  rw [ea] at m4
  rw [eb] at m5
  rw [eg] at m6
  have b6 : 1 ≤ ρ 6 ∧ ρ 6 ≤ 1 := b6
  have hw : ywf h (520 * n + u) (v - u) := yB_1.mp (by omega)
  have c0 : 0 + (1 * ρ 0 + (-1 * ρ 3 + 0)) ≤ 0 := c0
  have c1 : 0 + (-1 * ρ 0 + (1 * ρ 3 + 0)) ≤ 0 := c1
  have c2 : 0 + (1 * ρ 1 + (-1 * ρ 4 + 0)) ≤ 0 := c2
  have c3 : 0 + (-1 * ρ 1 + (1 * ρ 4 + 0)) ≤ 0 := c3
  have c4 : 0 + (1 * ρ 2 + (-1 * ρ 5 + 0)) ≤ 0 := c4
  have c5 : 0 + (-1 * ρ 2 + (1 * ρ 5 + 0)) ≤ 0 := c5
  have l1' : x1.toInt = ρ 0 := l1'
  have l2' : x2.toInt = ρ 1 := l2'
  have l3' : x3.toInt = ρ 2 := l3'
  obtain ⟨m, r, h', r1, ⟨x, rfl⟩, r2, r3⟩ := ywork (gv := yGk n f s t) yGkOk (d := d) hd (n := n) (f := u) (t := v) hn hv huv hw hG a0 ⟨x1, l1, by omega⟩ ⟨x2, l2, by omega⟩ ⟨x3, l3, by omega⟩
  refine ⟨m, _, h', r1, r2, r3, _, List.mem_cons_self .., yexM (fun j => if j = 7 then x.toInt else ρ0 (j + 1)) ?_ (ya1 ?_ ya0) ya0 ya0 ?_⟩
  · intro j hj
    have hj : j < 7 := hj
    show (if j = 7 then x.toInt else ρ0 (j + 1)) = _
    rw [if_neg (by omega)]
  · exact si32 x
  · show x.toInt = 0 + (1 * x.toInt + 0)
    omega
def yAw0 : sA := ([(0, 120)], [(0, 1, (0, []))], [(0, 3)], [], [(0, 0)], (1, []))
def yAw1 : sA := ([(0, 120)], [(0, 1, (0, [])), (0, 2, (0, [])), (3, 0, (0, []))], [(0, 3), (0, 560), (0, 3)], [(0, [(0, 1), (2, (-1))]), (0, [(0, (-1)), (2, 1)]), (0, [(1, 1), (2, (-140))]), (0, [(1, (-1)), (2, 140)])], [(0, 2)], (0, []))
def yAw2 : sA := ([(0, 120)], [(0, 1, (0, [])), (0, 2, (0, [])), (2, 91, (0, [(0, 1)])), (2, 92, (0, [(1, 1)])), (2, 93, (0, [(1, 1)])), (2, 94, (0, [(1, 1)])), (2, 1015, (0, [])), (2, 1016, (0, [])), (2, 1017, (0, [])), (2, 1018, (0, [])), (2, 1008, (0, [])), (2, 1001, (0, []))], [(0, 3), (0, 699), (0, 140), (0, 520), (0, 520), (0, 520), (0, 4), (0, 520), (0, 520), (0, 520), (1, 1), (1, 1)], [(1, [(0, (-140)), (1, 1), (2, (-1))]), (0, [(0, 1), (6, (-1))]), (0, [(0, (-1)), (6, 1)]), (0, [(3, 1), (7, (-1))]), (0, [(3, (-1)), (7, 1)]), (0, [(4, 1), (8, (-1))]), (0, [(4, (-1)), (8, 1)]), (0, [(5, 1), (9, (-1))]), (0, [(5, (-1)), (9, 1)])], [(0, 0), (1, 1), (2, 2), (3, 3), (4, 4), (5, 5), (6, 6), (7, 7), (8, 8), (9, 9), (10, 10), (11, 11)], (1, []))
def yAw3 : sA := ([(0, 120)], [(0, 1, (0, [])), (0, 2, (0, [])), (3, 0, (0, [])), (3, 1, (0, []))], [(0, 3), (0, 700), (0, 3), (0, 699)], [(0, [(0, 1), (2, (-1))]), (0, [(0, (-1)), (2, 1)]), ((-1), [(1, 1), (3, (-1))]), (1, [(1, (-1)), (3, 1)])], [(0, 2), (1, 3)], (0, []))
def yAw4 : sA := ([(0, 120)], [(0, 1, (0, [])), (0, 2, (0, [])), (2, 91, (0, [(0, 1)]))], [(0, 3), (0, 700), (0, 140)], [(0, [(0, 140), (1, (-1)), (2, 1)])], [(0, 0), (1, 1), (2, 2)], (1, []))
theorem yV_s : ySg (ylb yAw1 6) [] [(96, 0, 79)] 6 1 [] 208 0 yAw0 = true := by decide +kernel
theorem yV_t : ySg (ylb yAw3 6) [yQ_k 16 17 8, yQ_k 17 18 1] [(96, 0, 79)] 6 12 [yXi 12] 208 6 yAw2 = true := by decide +kernel
theorem yV_e : ySg (fun _ => []) [] [(96, 0, 79)] 6 3 [yXi 3] 208 6 yAw4 = true := by decide +kernel
theorem yXi_r {gv : Nat → zH → Int} {n N : Nat} {ρ0 : Nat → Int} {r : Option zV} {h' : zH} (hE : ∃ X ∈ [yXi N], sEx yReg gv n X ρ0 r h') : ∃ x : Int32, r = some (.inl x) := by
  obtain ⟨X, hX, hE⟩ := hE
  have := List.mem_singleton.mp hX
  subst this
  obtain ⟨ρx, -, -, -, -, hr⟩ := yexU hE
  match r, hr with
  | some (.inl z), _ => exact ⟨z, rfl⟩
theorem yworth {d : Nat} (hd : 6 ≤ d) {h0 : zH} {n k : Nat} (hn : n < 4) (hk : yv h0 411 n = k) (hk2 : k ≤ 140) (hw : ∀ c, c < k → ycl h0 n c 520) : ∀ (r c : Nat) (loc : zL) (h : zH), c + r = k → yrf loc 0 (0, 120) → yli loc 1 n → yli loc 2 (140 * n + c : Nat) → sG yReg yG h → sF yReg [(96, 0, 79)] h0 h → ∃ m r h'', yZr m d 208 6 loc h = some (r, h'') ∧ yPr h0 r h'' := by
  intro r
  induction r with
  | zero =>
    intro c loc h hc l0 ⟨x1, l1, l1'⟩ ⟨x2, l2, l2'⟩ hG hF
    have ek : yv h 411 n = k := by
      rw [yfv hF (by decide +kernel)]
      exact hk
    have hM : sMt yReg (yGk 0 0 0 0) (yρ [n, (140 * n + c : Nat), k]) (yρ0 [n, (140 * n + c : Nat), k] (1, [])) (sAs yAw4) loc [] h := by
      refine ymk (ya1 l0 ya0) (ya1 (yvr0 l1 l1') (ya1 (yvr0 l2 l2') (ya1 (yvr2 (ysm_p (k := 411) (by decide) (by decide +kernel) (by decide +kernel) n ?_ ?_)) ya0))) (ya1 ?_ (ya1 ?_ (ya1 ?_ ya0))) (ya1 ?_ ya0) (ya1 rfl (ya1 rfl (ya1 rfl ya0))) rfl
      · show 0 + (1 * (n : Int) + 0) = n; omega
      · rw [sY_v]; exact ek
      · show (0 : Int) ≤ n ∧ (n : Int) ≤ 3; omega
      · show (0 : Int) ≤ ((140 * n + c : Nat) : Int) ∧ ((140 * n + c : Nat) : Int) ≤ 700; omega
      · show (0 : Int) ≤ k ∧ (k : Int) ≤ 140; omega
      · show 0 + (140 * (n : Int) + (-1 * ((140 * n + c : Nat) : Int) + (1 * (k : Int) + 0))) ≤ 0; omega
    refine sseg_okP yComp ySing yCell yR1000 yGkOk hd yNil 300 6 true _ loc [] h _ _ yV_e hM hG hF ?_ ?_
    · intro pc A hA
      cases hA
    · intro r h' hG' hF' hE
      exact ⟨yXi_r hE, hG', hF'⟩
  | succ r ih =>
    intro c loc h hc l0 ⟨x1, l1, l1'⟩ ⟨x2, l2, l2'⟩ hG hF
    obtain ⟨tf, sf, st, e1, e2, e3, e4, e5, e6, w1, w2⟩ := hw c (by omega)
    have ek : yv h 411 n = k := by
      rw [yfv hF (by decide +kernel)]
      exact hk
    have fc : ∀ i, h.1 412 i = h0.1 412 i ∧ h.1 413 i = h0.1 413 i ∧ h.1 414 i = h0.1 414 i ∧ h.1 408 i = h0.1 408 i ∧ h.1 409 i = h0.1 409 i := fun i => ⟨yfc hF (by decide +kernel) i, yfc hF (by decide +kernel) i, yfc hF (by decide +kernel) i, yfc hF (by decide +kernel) i, yfc hF (by decide +kernel) i⟩
    have f1 : yv h 412 (140 * n + c) = tf := by
      unfold yv
      rw [(fc _).1]
      exact e1
    have f2 : yv h 413 (140 * n + c) = sf := by
      unfold yv
      rw [(fc _).2.1]
      exact e2
    have f3 : yv h 414 (140 * n + c) = st := by
      unfold yv
      rw [(fc _).2.2.1]
      exact e3
    have co : ∀ i, yco h0 i = yco h i := by
      intro i
      unfold yco yv
      rw [(fc i).2.2.2.1]
    have va : ∀ i, yva h0 i = yva h i := by
      intro i
      unfold yva yv
      rw [(fc i).2.2.2.2]
    have w1 : ywf h (520 * n + tf) (sf - tf) := (ywf_c co va _ _).mp w1
    have w2 : ywf h (520 * n + sf) (st - sf) := (ywf_c co va _ _).mp w2
    have hM : sMt yReg (yGk n tf sf st) (yρ [n, (140 * n + c : Nat), k, tf, sf, st, n, tf, sf, st, 1, 1]) (yρ0 [n, (140 * n + c : Nat), k, tf, sf, st, n, tf, sf, st, 1, 1] (1, [])) (sAs yAw2) loc [] h := by
      refine ymk (ya1 l0 ya0) (ya1 (yvr0 l1 l1') (ya1 (yvr0 l2 l2') (ya1 (yvr2 (ysm_p (k := 411) (by decide) (by decide +kernel) (by decide +kernel) n ?_ ?_)) (ya1 (yvr2 (ysm_p (k := 412) (by decide) (by decide +kernel) (by decide +kernel) (140 * n + c) ?_ ?_)) (ya1 (yvr2 (ysm_p (k := 413) (by decide) (by decide +kernel) (by decide +kernel) (140 * n + c) ?_ ?_)) (ya1 (yvr2 (ysm_p (k := 414) (by decide) (by decide +kernel) (by decide +kernel) (140 * n + c) ?_ ?_)) (ya1 (yvr2 (ysm_g (a := 15) ?_)) (ya1 (yvr2 (ysm_g (a := 16) ?_)) (ya1 (yvr2 (ysm_g (a := 17) ?_)) (ya1 (yvr2 (ysm_g (a := 18) ?_)) (ya1 (yvr2 (ysm_g (a := 8) ?_)) (ya1 (yvr2 (ysm_g (a := 1) ?_)) ya0)))))))))))) (ya1 ?_ (ya1 ?_ (ya1 ?_ (ya1 ?_ (ya1 ?_ (ya1 ?_ (ya1 ?_ (ya1 ?_ (ya1 ?_ (ya1 ?_ (ya1 ?_ (ya1 ?_ ya0)))))))))))) (ya1 ?_ (ya1 ?_ (ya1 ?_ (ya1 ?_ (ya1 ?_ (ya1 ?_ (ya1 ?_ (ya1 ?_ (ya1 ?_ ya0))))))))) (ya1 rfl (ya1 rfl (ya1 rfl (ya1 rfl (ya1 rfl (ya1 rfl (ya1 rfl (ya1 rfl (ya1 rfl (ya1 rfl (ya1 rfl (ya1 rfl ya0)))))))))))) rfl
      · show 0 + (1 * (n : Int) + 0) = n; omega
      · rw [sY_v]; exact ek
      · show 0 + (1 * ((140 * n + c : Nat) : Int) + 0) = ((140 * n + c : Nat) : Int); omega
      · rw [sY_v]; exact f1
      · show 0 + (1 * ((140 * n + c : Nat) : Int) + 0) = ((140 * n + c : Nat) : Int); omega
      · rw [sY_v]; exact f2
      · show 0 + (1 * ((140 * n + c : Nat) : Int) + 0) = ((140 * n + c : Nat) : Int); omega
      · rw [sY_v]; exact f3
      · rw [sY_v]; rfl
      · rw [sY_v]; rfl
      · rw [sY_v]; rfl
      · rw [sY_v]; rfl
      · rw [sY_v]; exact yB_1.mpr w1
      · rw [sY_v]; exact yB_1.mpr w2
      · show (0 : Int) ≤ n ∧ (n : Int) ≤ 3; omega
      · show (0 : Int) ≤ ((140 * n + c : Nat) : Int) ∧ ((140 * n + c : Nat) : Int) ≤ 699; omega
      · show (0 : Int) ≤ k ∧ (k : Int) ≤ 140; omega
      · show (0 : Int) ≤ tf ∧ (tf : Int) ≤ 520; omega
      · show (0 : Int) ≤ sf ∧ (sf : Int) ≤ 520; omega
      · show (0 : Int) ≤ st ∧ (st : Int) ≤ 520; omega
      · show (0 : Int) ≤ n ∧ (n : Int) ≤ 4; omega
      · show (0 : Int) ≤ tf ∧ (tf : Int) ≤ 520; omega
      · show (0 : Int) ≤ sf ∧ (sf : Int) ≤ 520; omega
      · show (0 : Int) ≤ st ∧ (st : Int) ≤ 520; omega
      · exact ⟨Int.le_refl _, Int.le_refl _⟩
      · exact ⟨Int.le_refl _, Int.le_refl _⟩
      · show 1 + (-140 * (n : Int) + (1 * ((140 * n + c : Nat) : Int) + (-1 * (k : Int) + 0))) ≤ 0; omega
      · show 0 + (1 * (n : Int) + (-1 * (n : Int) + 0)) ≤ 0; omega
      · show 0 + (-1 * (n : Int) + (1 * (n : Int) + 0)) ≤ 0; omega
      · show 0 + (1 * (tf : Int) + (-1 * (tf : Int) + 0)) ≤ 0; omega
      · show 0 + (-1 * (tf : Int) + (1 * (tf : Int) + 0)) ≤ 0; omega
      · show 0 + (1 * (sf : Int) + (-1 * (sf : Int) + 0)) ≤ 0; omega
      · show 0 + (-1 * (sf : Int) + (1 * (sf : Int) + 0)) ≤ 0; omega
      · show 0 + (1 * (st : Int) + (-1 * (st : Int) + 0)) ≤ 0; omega
      · show 0 + (-1 * (st : Int) + (1 * (st : Int) + 0)) ≤ 0; omega
    refine sseg_okP yComp ySing yCell yR1000 yGkOk hd (yCons (yS_k (u := tf) (v := sf) (by omega) (by omega) e4 (fun _ => rfl) (fun _ => rfl) (fun _ => rfl)) (yCons (yS_k (u := sf) (v := st) (by omega) (by omega) e5 (fun _ => rfl) (fun _ => rfl) (fun _ => rfl)) yNil)) 300 6 true _ loc [] h _ _ yV_t hM hG hF ?_ ?_
    · intro pc A hA loc' h' ρ ρ0' q1 q2 q3 hM' hG' hF'
      obtain ⟨rfl, rfl⟩ := ylb_m hA
      obtain ⟨⟨b0, -⟩, ⟨v0, v1, -⟩, -, ⟨c0, c1, c2, c3, -⟩, ⟨p0, p1, -⟩, -⟩ := yun hM'
      have c0 : 0 + (1 * ρ 0 + (-1 * ρ 2 + 0)) ≤ 0 := c0
      have c1 : 0 + (-1 * ρ 0 + (1 * ρ 2 + 0)) ≤ 0 := c1
      have c2 : -1 + (1 * ρ 1 + (-1 * ρ 3 + 0)) ≤ 0 := c2
      have c3 : 1 + (-1 * ρ 1 + (1 * ρ 3 + 0)) ≤ 0 := c3
      have p0 : ρ0' 1 = ρ 2 := p0
      have p1 : ρ0' 2 = ρ 3 := p1
      have t0 : ρ0' 1 = n := q1 0
      have t1 : ρ0' 2 = ((140 * n + c : Nat) : Int) := q1 1
      obtain ⟨y1, y1a, y1b⟩ := v0
      obtain ⟨y2, y2a, y2b⟩ := v1
      have y1b : y1.toInt = ρ 0 := y1b
      have y2b : y2.toInt = ρ 1 := y2b
      refine ih (c + 1) loc' h' (by omega) b0 ⟨y1, y1a, by omega⟩ ⟨y2, y2a, ?_⟩ hG' hF'
      rw [y2b]
      omega
    · intro r h' hG' hF' hE
      exact ⟨yXi_r hE, hG', hF'⟩
theorem yT6_ok {t s : Nat} (ht : t < 5) {c0 v0 : Nat → Int} {ar : Nat → Int32} : ySum (yGv t s c0 v0 ar) yT6 := by
  intro args h ρ ρ0 hG hM d hd
  have hd : 6 ≤ d := hd
  obtain ⟨⟨a0, -⟩, ⟨⟨x, l1, l1'⟩, m1, m2, -⟩, ⟨b0, b1, b2, -⟩, ⟨k0, k1, -⟩, -, -⟩ := yun hM
  have l1' : x.toInt = ρ 0 := l1'
  have b0 : 0 ≤ ρ 0 ∧ ρ 0 ≤ 3 := b0
  have b2 : 1 ≤ ρ 2 ∧ ρ 2 ≤ 1 := b2
  have k0 : 0 + (1 * ρ 0 + (-1 * ρ 1 + 0)) ≤ 0 := k0
  have k1 : 0 + (-1 * ρ 0 + (1 * ρ 1 + 0)) ≤ 0 := k1
  have g4 : yG4 h := by
    have := ysm_gu (a := 4) m2
    rw [sY_v] at this
    have this : yGv t s c0 v0 ar 4 h = ρ 2 := this
    rw [show ρ 2 = 1 by omega] at this
    exact yB_1.mp this
  have ho := ysm_u (k := 440) (by decide) (by decide +kernel) m1 25 rfl
  rw [sY_v] at ho
  have ho : yv h 440 25 = ρ 1 := ho
  obtain ⟨n, hn⟩ : ∃ n : Nat, ρ 0 = n := ⟨(ρ 0).toNat, by omega⟩
  have g1 := g4.1
  obtain ⟨k, hk, hk2, hw⟩ := g4.2 n (by omega) (by omega)
  have hM2 : sMt yReg (yGk 0 0 0 0) (yρ [n]) (yρ0 [n] (1, [])) (sAs yAw0) (zent 0 args) [] h := by
    refine ymk (ya1 a0 ya0) (ya1 (yvr0 l1 ?_) ya0) (ya1 ?_ ya0) ya0 (ya1 rfl ya0) rfl
    · show x.toInt = n; omega
    · show (0 : Int) ≤ n ∧ (n : Int) ≤ 3; omega
  have key : ∃ m r h', yZr m d 208 0 (zent 0 args) h = some (r, h') ∧ yPr h r h' := by
    refine sseg_okP yComp ySing yCell yR1000 yGkOk hd yNil 300 0 true _ (zent 0 args) [] h _ _ yV_s hM2 hG (fun _ _ hne => absurd rfl hne) ?_ ?_
    · intro pc A hA loc' h' ρ' ρ0' q1 q2 q3 hM' hG' hF'
      obtain ⟨rfl, rfl⟩ := ylb_m hA
      obtain ⟨⟨b0, -⟩, ⟨v0, v1, -⟩, -, ⟨c0, c1, c2, c3, -⟩, ⟨p0, -⟩, -⟩ := yun hM'
      have c0 : 0 + (1 * ρ' 0 + (-1 * ρ' 2 + 0)) ≤ 0 := c0
      have c1 : 0 + (-1 * ρ' 0 + (1 * ρ' 2 + 0)) ≤ 0 := c1
      have c2 : 0 + (1 * ρ' 1 + (-140 * ρ' 2 + 0)) ≤ 0 := c2
      have c3 : 0 + (-1 * ρ' 1 + (140 * ρ' 2 + 0)) ≤ 0 := c3
      have p0 : ρ0' 1 = ρ' 2 := p0
      have t0 : ρ0' 1 = n := q1 0
      obtain ⟨y1, y1a, y1b⟩ := v0
      obtain ⟨y2, y2a, y2b⟩ := v1
      have y1b : y1.toInt = ρ' 0 := y1b
      have y2b : y2.toInt = ρ' 1 := y2b
      refine yworth hd (by omega) hk hk2 hw k 0 loc' h' (by omega) b0 ⟨y1, y1a, by omega⟩ ⟨y2, y2a, ?_⟩ hG' hF'
      rw [y2b]
      omega
    · intro r h' _ _ ⟨X, hX, _⟩
      cases hX
  obtain ⟨m, r, h', r1, ⟨z, rfl⟩, r2, r3⟩ := key
  refine ⟨m, _, h', r1, r2, r3, _, List.mem_cons_self .., yexM (fun j => if j = 3 then z.toInt else ρ0 (j + 1)) ?_ (ya1 ?_ ya0) ya0 ya0 ?_⟩
  · intro j hj
    have hj : j < 3 := hj
    show (if j = 3 then z.toInt else ρ0 (j + 1)) = _
    rw [if_neg (by omega)]
  · exact si32 z
  · show z.toInt = 0 + (1 * z.toInt + 0)
    omega
