/-! layTold, rested, readLaw, by hand -/
theorem ylay {h h' : zH} (mn : yv h' 440 22 = yv h 440 22) (e : ∀ q : Nat, 30 ≤ q → q ≤ 35 → yv h' 421 q = yv h 421 q) (g5 : yG5 h) : yG5 h' :=
  (ypm_c (c := 421) (b := 0) mn.symm (fun d hd => (e (0 + 30 + d) (by omega) (by omega)).symm)).mp g5
theorem yT34_ok {t s : Nat} (ht : t < 5) {c0 v0 : Nat → Int} {ar : Nat → Int32} (hp : yHy (yGv t s c0 v0 ar) 11) : ySum (yGv t s c0 v0 ar) yT34 := by
  intro args h ρ ρ0 hG hM d hd
  obtain ⟨⟨a0, -⟩, ⟨⟨c, c1, c2⟩, m1, m2, m3, -⟩, ⟨b0, b1, b2, b3, -⟩, -, -, -⟩ := yun hM
  have c2 : c.toInt = ρ 0 := c2
  have b0 : 1 ≤ ρ 0 ∧ ρ 0 ≤ 9 := b0
  have b1 : 1 ≤ ρ 1 ∧ ρ 1 ≤ 6 := b1
  have b2 : 1 ≤ ρ 2 ∧ ρ 2 ≤ 1 := b2
  have b3 : 1 ≤ ρ 3 ∧ ρ 3 ≤ 1 := b3
  have hd : 11 ≤ d := hd
  have g4 : yGv t s c0 v0 ar 4 h = ρ 2 := by
    have := ysm_gu (a := 4) m2
    rw [sY_v] at this
    exact this
  have g5 : yG5 h := by
    have := ysm_gu (a := 5) m3
    rw [sY_v] at this
    have q : ρ 3 = 1 := by omega
    have this : yGv t s c0 v0 ar 5 h = ρ 3 := this
    rw [q] at this
    exact yB_1.mp this
  have mn := ysm_u (k := 440) (by decide) (by decide +kernel) m1 22 rfl
  rw [sY_v] at mn
  have mn : yv h 440 22 = ρ 1 := mn
  have key : ∀ q : Nat, 30 ≤ q → q ≤ 35 → ∃ m h', yrun m d yQ_layToldL.1 args h = some (none, h') ∧ sG yReg yG h' ∧ sF yReg yQ_layToldL.2.2.2.1 h h' ∧ yv h' 421 q = yv h 421 q := by
    intro q q1 q2
    have hn := ynow hG q1 q2
    have hM2 : sMt yReg (yGv t s c0 v0 ar) (yρ [ρ 0, ρ 1, ρ 2, q, yv h 421 q]) (yρ0 [ρ 0, ρ 1, ρ 2, q, yv h 421 q] yQ_layToldL.2.1.2.2.2.2.2) (sAs yQ_layToldL.2.1) (zent 0 args) [] h := by
      refine ymk (ya1 a0 ya0) (ya1 (yvr0 c1 c2) (ya1 (yvr2 (ysm_p (k := 440) (by decide) (by decide +kernel) (by decide +kernel) 22 rfl ?_)) (ya1 (yvr2 (ysm_g (a := 4) ?_)) (ya1 yvr3 (ya1 (yvr2 (ysm_p (k := 421) (by decide) (by decide +kernel) (by decide +kernel) q ?_ ?_)) ya0))))) (ya1 b0 (ya1 b1 (ya1 b2 (ya1 ?_ (ya1 hn ya0))))) ya0 (ya1 rfl (ya1 rfl (ya1 rfl (ya1 rfl (ya1 rfl ya0))))) rfl
      · rw [sY_v]; exact mn
      · rw [sY_v]; exact g4
      · show 0 + (1 * (q : Int) + 0) = q; omega
      · rw [sY_v]; rfl
      · show (30 : Int) ≤ q ∧ (q : Int) ≤ 35; omega
    obtain ⟨m, r, h', r1, r2, r3, hx⟩ := yS_layToldL (yGvOk (s := s) (c0 := c0) (v0 := v0) (ar := ar) ht) hp args h _ _ hG hM2 d (Nat.le_trans (by decide) hd)
    refine yone hx (ya1 ?_ ya0)
    intro hE
    obtain ⟨ρx, a, -, -, ⟨mm, -⟩, hr⟩ := yexU hE
    have hr : r = none := by
      match r, hr with
      | none, _ => rfl
    rw [hr] at r1
    have a3 : ρx 3 = q := a 3 (by decide)
    have a4 : ρx 4 = yv h 421 q := a 4 (by decide)
    have u : yv h' 421 q = 0 + (1 * ρx 4 + 0) := ysm_u (k := 421) (by decide) (by decide +kernel) mm q (by show 0 + (1 * ρx 3 + 0) = _; rw [a3]; omega)
    exact ⟨m, h', r1, r2, r3, by rw [u, a4]; omega⟩
  obtain ⟨m, h', r1, r2, r3, -⟩ := key 30 (by decide) (by decide)
  refine ⟨m, none, h', r1, r2, smo_ok (md := yT34.2.2.2.1) (by decide +kernel) (fun _ _ hne => absurd rfl hne) r3, _, List.mem_cons_self .., yexM (fun j => ρ0 (j + 1)) (fun j _ => rfl) ya0 ya0 (ya1 ?_ ya0) trivial⟩
  refine ysm_g (a := 5) ?_
  show yB (yG5 h') = 1
  refine yB_1.mpr (ylay (yfv r3 (by decide +kernel)) ?_ g5)
  intro q q1 q2
  obtain ⟨m2, h2, e1, -, -, e4⟩ := key q q1 q2
  have := yrun_u r1 e1
  cases this
  exact e4
theorem yT35_ok {t s : Nat} (ht : t < 5) {c0 v0 : Nat → Int} {ar : Nat → Int32} (hp : yHy (yGv t s c0 v0 ar) 7) : ySum (yGv t s c0 v0 ar) yT35 := by
  intro args h ρ ρ0 hG hM d hd
  obtain ⟨⟨a0, -⟩, ⟨m1, m2, m3, -⟩, ⟨b1, b2, b3, -⟩, -, -, -⟩ := yun hM
  have b1 : 1 ≤ ρ 0 ∧ ρ 0 ≤ 6 := b1
  have b2 : 1 ≤ ρ 1 ∧ ρ 1 ≤ 1 := b2
  have b3 : 1 ≤ ρ 2 ∧ ρ 2 ≤ 1 := b3
  have hd : 12 ≤ d := hd
  have g4 : yGv t s c0 v0 ar 4 h = ρ 1 := by
    have := ysm_gu (a := 4) m2
    rw [sY_v] at this
    exact this
  have g5 : yG5 h := by
    have := ysm_gu (a := 5) m3
    rw [sY_v] at this
    have q : ρ 2 = 1 := by omega
    have this : yGv t s c0 v0 ar 5 h = ρ 2 := this
    rw [q] at this
    exact yB_1.mp this
  have mn := ysm_u (k := 440) (by decide) (by decide +kernel) m1 22 rfl
  rw [sY_v] at mn
  have mn : yv h 440 22 = ρ 0 := mn
  have key : ∀ q : Nat, 30 ≤ q → q ≤ 35 → ∃ m h', ∃ z : Int32, yrun m d yQ_restedL.1 args h = some (some (.inl z), h') ∧ -1 ≤ z.toInt ∧ z.toInt ≤ 60 ∧ sG yReg yG h' ∧ sF yReg yQ_restedL.2.2.2.1 h h' ∧ yv h' 421 q = yv h 421 q := by
    intro q q1 q2
    have hn := ynow hG q1 q2
    have hM2 : sMt yReg (yGv t s c0 v0 ar) (yρ [ρ 0, ρ 1, q, yv h 421 q]) (yρ0 [ρ 0, ρ 1, q, yv h 421 q] yQ_restedL.2.1.2.2.2.2.2) (sAs yQ_restedL.2.1) (zent 0 args) [] h := by
      refine ymk (ya1 a0 ya0) (ya1 (yvr2 (ysm_p (k := 440) (by decide) (by decide +kernel) (by decide +kernel) 22 rfl ?_)) (ya1 (yvr2 (ysm_g (a := 4) ?_)) (ya1 yvr3 (ya1 (yvr2 (ysm_p (k := 421) (by decide) (by decide +kernel) (by decide +kernel) q ?_ ?_)) ya0)))) (ya1 b1 (ya1 b2 (ya1 ?_ (ya1 hn ya0)))) ya0 (ya1 rfl (ya1 rfl (ya1 rfl (ya1 rfl ya0)))) rfl
      · rw [sY_v]; exact mn
      · rw [sY_v]; exact g4
      · show 0 + (1 * (q : Int) + 0) = q; omega
      · rw [sY_v]; rfl
      · show (30 : Int) ≤ q ∧ (q : Int) ≤ 35; omega
    obtain ⟨m, r, h', r1, r2, r3, hx⟩ := yS_restedL (yGvOk (s := s) (c0 := c0) (v0 := v0) (ar := ar) ht) hp args h _ _ hG hM2 d (Nat.le_trans (by decide) hd)
    refine yone hx (ya1 ?_ (ya1 ?_ ya0))
    · intro hE
      obtain ⟨ρx, a, -, -, ⟨mm, -⟩, hr⟩ := yexU hE
      have a3 : ρx 2 = q := a 2 (by decide)
      have a4 : ρx 3 = yv h 421 q := a 3 (by decide)
      have u : yv h' 421 q = 0 + (1 * ρx 3 + 0) := ysm_u (k := 421) (by decide) (by decide +kernel) mm q (by show 0 + (1 * ρx 2 + 0) = _; rw [a3]; omega)
      match r, hr, r1 with
      | some (.inl z), hr, r1 =>
        have hr : z.toInt = -1 + 0 := hr
        exact ⟨m, h', z, r1, by omega, by omega, r2, r3, by rw [u, a4]; omega⟩
    · intro hE
      obtain ⟨ρx, a, ⟨n4, -⟩, -, ⟨mm, -⟩, hr⟩ := yexU hE
      have a3 : ρx 2 = q := a 2 (by decide)
      have a4 : ρx 3 = yv h 421 q := a 3 (by decide)
      have n4 : 0 ≤ ρx 4 ∧ ρx 4 ≤ 60 := n4
      have u : yv h' 421 q = 0 + (1 * ρx 3 + 0) := ysm_u (k := 421) (by decide) (by decide +kernel) mm q (by show 0 + (1 * ρx 2 + 0) = _; rw [a3]; omega)
      match r, hr, r1 with
      | some (.inl z), hr, r1 =>
        have hr : z.toInt = 0 + (1 * ρx 4 + 0) := hr
        exact ⟨m, h', z, r1, by omega, by omega, r2, r3, by rw [u, a4]; omega⟩
  obtain ⟨m, h', z, r1, z1, z2, r2, r3, -⟩ := key 30 (by decide) (by decide)
  refine ⟨m, some (.inl z), h', r1, r2, smo_ok (md := yT35.2.2.2.1) (by decide +kernel) (fun _ _ hne => absurd rfl hne) r3, _, List.mem_cons_self .., yexM (fun j => if j = 3 then z.toInt else ρ0 (j + 1)) ?_ (ya1 ?_ ya0) ya0 (ya1 ?_ ya0) ?_⟩
  · intro j hj
    have hj : j < 3 := hj
    show (if j = 3 then z.toInt else ρ0 (j + 1)) = _
    rw [if_neg (by omega)]
  · show -1 ≤ z.toInt ∧ z.toInt ≤ 60
    exact ⟨z1, z2⟩
  · refine ysm_g (a := 5) ?_
    show yB (yG5 h') = 1
    refine yB_1.mpr (ylay (yfv r3 (by decide +kernel)) ?_ g5)
    intro q q1 q2
    obtain ⟨m2, h2, z3, e1, -, -, -, -, e4⟩ := key q q1 q2
    have := yrun_u r1 e1
    cases this
    exact e4
  · show z.toInt = 0 + (1 * z.toInt + 0)
    omega
