/-! put's contracts, with heights -/
theorem yT0_ok {t s : Nat} (ht : t < 5) {c0 v0 : Nat → Int} {ar : Nat → Int32} : ySum (yGv t s c0 v0 ar) yT0 := by
  intro args h ρ ρ0 hG hM d hd
  obtain ⟨⟨a0, -⟩, ⟨⟨c, c1, c2⟩, ⟨v, v1, v2⟩, m2, m3, m4, m5, m6, -⟩, ⟨b0, b1, b2, b3, b4, b5, b6, -⟩, -, ⟨p0, p1, p2, p3, p4, p5, p6, -⟩, -⟩ := yun hM
  have g0 : yGv t s c0 v0 ar 0 h = ρ 4 := by
    have := ysm_gu (a := 0) m4
    rw [sY_v] at this
    exact this
  have g1 : yG1 t s h := by
    have := ysm_gu (a := 1) m5
    rw [sY_v] at this
    have q : ρ 5 = 1 := Int.le_antisymm b5.2 b5.1
    rw [q] at this
    exact yB_1.mp this
  have g8 : yG8 t s c0 v0 h := by
    have := ysm_gu (a := 8) m6
    rw [sY_v] at this
    have q : ρ 6 = 1 := Int.le_antisymm b6.2 b6.1
    rw [q] at this
    exact yB_1.mp this
  have tx := ysm_u (k := 440) (by decide) (by decide +kernel) m2 14 rfl
  rw [sY_v, g1.1] at tx
  have cd := ysm_u (k := 410) (by decide) (by decide +kernel) m3 t (by show 0 + (1 * ρ 2 + 0) = _; rw [← tx]; omega)
  rw [sY_v] at cd
  have b3 : 0 ≤ ρ 3 ∧ ρ 3 ≤ 518 := b3
  obtain ⟨e, he⟩ : ∃ e : Nat, ρ 3 = e := ⟨(ρ 3).toNat, by omega⟩
  rw [he] at cd
  have gs := g1.2.1
  rw [cd] at gs
  obtain ⟨m, h', r1, r2, r3, f1, f2, f3, f4⟩ := yput (yGvOk (s := s) (c0 := c0) (v0 := v0) (ar := ar) ht) hG (t := t) (s := e) a0 c1 v1 ht (by omega) g1.1 cd d
  have f0 : yv h' 440 14 = t := by
    rw [yfv r3 (by decide +kernel)]
    exact g1.1
  obtain ⟨s1, s2, s3⟩ := ystep (s := s) (e := e) (c0 := c0) (v0 := v0) (by omega) (by omega) ht g1.1 cd f0 f1 f2 f3 f4
  have b4 : 0 ≤ ρ 4 ∧ ρ 4 ≤ 78 := b4
  have g0 : yht h (520 * t + s) (yv h 410 t - s).toNat = ρ 4 := g0
  have b0 : 0 ≤ ρ 0 ∧ ρ 0 ≤ 0 := b0
  have b1 : -2147483648 ≤ ρ 1 ∧ ρ 1 ≤ 2147483647 := b1
  have v2 : v.toInt = ρ 1 := v2
  have hd1 : yd c.toInt = 1 := by
    rw [c2]
    unfold yd
    rw [if_pos (by omega)]
  have hst : yst c.toInt v.toInt (ρ 4) := by
    rw [c2, v2]
    unfold yst
    omega
  refine ⟨m, none, h', r1, r2, smo_ok (md := yT0.2.2.2.1) (by decide +kernel) (fun _ _ hne => absurd rfl hne) r3, _, List.mem_cons_self .., yexM (fun j => ρ0 (j + 1)) (fun j _ => rfl) ya0 ya0 (ya1 ?_ (ya1 ?_ (ya1 ?_ (ya1 ?_ ya0)))) trivial⟩
  · refine ysm_p (k := 410) (by decide) (by decide +kernel) (by decide +kernel) t ?_ ?_
    · show 0 + (1 * ρ0 3 + 0) = _
      have p2 : ρ0 3 = ρ 2 := p2
      rw [p2, ← tx]
      omega
    · show _ = 1 + (1 * ρ0 4 + 0)
      have p3 : ρ0 4 = ρ 3 := p3
      rw [p3, he, f3]
      omega
  · refine ysm_g (a := 0) ?_
    show yht h' (520 * t + s) (yv h' 410 t - s).toNat = 1 + (1 * ρ0 5 + 0)
    have p4 : ρ0 5 = ρ 4 := p4
    rw [p4, s2, g0, hd1]
    omega
  · refine ysm_g (a := 1) ?_
    show yB (yG1 t s h') = 1
    exact yB_1.mpr (s3 g1 (by rw [g0]; exact hst))
  · refine ysm_g (a := 8) ?_
    show yB (yG8 t s c0 v0 h') = 1
    exact yB_1.mpr (s1 g8)
theorem yT1_ok {t s : Nat} (ht : t < 5) {c0 v0 : Nat → Int} {ar : Nat → Int32} : ySum (yGv t s c0 v0 ar) yT1 := by
  intro args h ρ ρ0 hG hM d hd
  obtain ⟨⟨a0, -⟩, ⟨⟨c, c1, c2⟩, ⟨v, v1, v2⟩, m2, m3, m4, m5, m6, -⟩, ⟨b0, b1, b2, b3, b4, b5, b6, -⟩, -, ⟨p0, p1, p2, p3, p4, p5, p6, -⟩, -⟩ := yun hM
  have g0 : yGv t s c0 v0 ar 0 h = ρ 4 := by
    have := ysm_gu (a := 0) m4
    rw [sY_v] at this
    exact this
  have g1 : yG1 t s h := by
    have := ysm_gu (a := 1) m5
    rw [sY_v] at this
    have q : ρ 5 = 1 := Int.le_antisymm b5.2 b5.1
    rw [q] at this
    exact yB_1.mp this
  have g8 : yG8 t s c0 v0 h := by
    have := ysm_gu (a := 8) m6
    rw [sY_v] at this
    have q : ρ 6 = 1 := Int.le_antisymm b6.2 b6.1
    rw [q] at this
    exact yB_1.mp this
  have tx := ysm_u (k := 440) (by decide) (by decide +kernel) m2 14 rfl
  rw [sY_v, g1.1] at tx
  have cd := ysm_u (k := 410) (by decide) (by decide +kernel) m3 t (by show 0 + (1 * ρ 2 + 0) = _; rw [← tx]; omega)
  rw [sY_v] at cd
  have b3 : 0 ≤ ρ 3 ∧ ρ 3 ≤ 518 := b3
  obtain ⟨e, he⟩ : ∃ e : Nat, ρ 3 = e := ⟨(ρ 3).toNat, by omega⟩
  rw [he] at cd
  have gs := g1.2.1
  rw [cd] at gs
  obtain ⟨m, h', r1, r2, r3, f1, f2, f3, f4⟩ := yput (yGvOk (s := s) (c0 := c0) (v0 := v0) (ar := ar) ht) hG (t := t) (s := e) a0 c1 v1 ht (by omega) g1.1 cd d
  have f0 : yv h' 440 14 = t := by
    rw [yfv r3 (by decide +kernel)]
    exact g1.1
  obtain ⟨s1, s2, s3⟩ := ystep (s := s) (e := e) (c0 := c0) (v0 := v0) (by omega) (by omega) ht g1.1 cd f0 f1 f2 f3 f4
  have b4 : 0 ≤ ρ 4 ∧ ρ 4 ≤ 78 := b4
  have g0 : yht h (520 * t + s) (yv h 410 t - s).toNat = ρ 4 := g0
  have b0 : 1 ≤ ρ 0 ∧ ρ 0 ≤ 1 := b0
  have b1 : 0 ≤ ρ 1 ∧ ρ 1 ≤ 5 := b1
  have v2 : v.toInt = ρ 1 := v2
  have hd1 : yd c.toInt = 1 := by
    rw [c2]
    unfold yd
    rw [if_pos (by omega)]
  have hst : yst c.toInt v.toInt (ρ 4) := by
    rw [c2, v2]
    unfold yst
    omega
  refine ⟨m, none, h', r1, r2, smo_ok (md := yT1.2.2.2.1) (by decide +kernel) (fun _ _ hne => absurd rfl hne) r3, _, List.mem_cons_self .., yexM (fun j => ρ0 (j + 1)) (fun j _ => rfl) ya0 ya0 (ya1 ?_ (ya1 ?_ (ya1 ?_ (ya1 ?_ ya0)))) trivial⟩
  · refine ysm_p (k := 410) (by decide) (by decide +kernel) (by decide +kernel) t ?_ ?_
    · show 0 + (1 * ρ0 3 + 0) = _
      have p2 : ρ0 3 = ρ 2 := p2
      rw [p2, ← tx]
      omega
    · show _ = 1 + (1 * ρ0 4 + 0)
      have p3 : ρ0 4 = ρ 3 := p3
      rw [p3, he, f3]
      omega
  · refine ysm_g (a := 0) ?_
    show yht h' (520 * t + s) (yv h' 410 t - s).toNat = 1 + (1 * ρ0 5 + 0)
    have p4 : ρ0 5 = ρ 4 := p4
    rw [p4, s2, g0, hd1]
    omega
  · refine ysm_g (a := 1) ?_
    show yB (yG1 t s h') = 1
    exact yB_1.mpr (s3 g1 (by rw [g0]; exact hst))
  · refine ysm_g (a := 8) ?_
    show yB (yG8 t s c0 v0 h') = 1
    exact yB_1.mpr (s1 g8)
theorem yT2_ok {t s : Nat} (ht : t < 5) {c0 v0 : Nat → Int} {ar : Nat → Int32} : ySum (yGv t s c0 v0 ar) yT2 := by
  intro args h ρ ρ0 hG hM d hd
  obtain ⟨⟨a0, -⟩, ⟨⟨c, c1, c2⟩, ⟨v, v1, v2⟩, m2, m3, m4, m5, m6, -⟩, ⟨b0, b1, b2, b3, b4, b5, b6, -⟩, -, ⟨p0, p1, p2, p3, p4, p5, p6, -⟩, -⟩ := yun hM
  have g0 : yGv t s c0 v0 ar 0 h = ρ 4 := by
    have := ysm_gu (a := 0) m4
    rw [sY_v] at this
    exact this
  have g1 : yG1 t s h := by
    have := ysm_gu (a := 1) m5
    rw [sY_v] at this
    have q : ρ 5 = 1 := Int.le_antisymm b5.2 b5.1
    rw [q] at this
    exact yB_1.mp this
  have g8 : yG8 t s c0 v0 h := by
    have := ysm_gu (a := 8) m6
    rw [sY_v] at this
    have q : ρ 6 = 1 := Int.le_antisymm b6.2 b6.1
    rw [q] at this
    exact yB_1.mp this
  have tx := ysm_u (k := 440) (by decide) (by decide +kernel) m2 14 rfl
  rw [sY_v, g1.1] at tx
  have cd := ysm_u (k := 410) (by decide) (by decide +kernel) m3 t (by show 0 + (1 * ρ 2 + 0) = _; rw [← tx]; omega)
  rw [sY_v] at cd
  have b3 : 0 ≤ ρ 3 ∧ ρ 3 ≤ 518 := b3
  obtain ⟨e, he⟩ : ∃ e : Nat, ρ 3 = e := ⟨(ρ 3).toNat, by omega⟩
  rw [he] at cd
  have gs := g1.2.1
  rw [cd] at gs
  obtain ⟨m, h', r1, r2, r3, f1, f2, f3, f4⟩ := yput (yGvOk (s := s) (c0 := c0) (v0 := v0) (ar := ar) ht) hG (t := t) (s := e) a0 c1 v1 ht (by omega) g1.1 cd d
  have f0 : yv h' 440 14 = t := by
    rw [yfv r3 (by decide +kernel)]
    exact g1.1
  obtain ⟨s1, s2, s3⟩ := ystep (s := s) (e := e) (c0 := c0) (v0 := v0) (by omega) (by omega) ht g1.1 cd f0 f1 f2 f3 f4
  have b4 : 1 ≤ ρ 4 ∧ ρ 4 ≤ 79 := b4
  have g0 : yht h (520 * t + s) (yv h 410 t - s).toNat = ρ 4 := g0
  have b0 : 9 ≤ ρ 0 ∧ ρ 0 ≤ 9 := b0
  have b1 : -2147483648 ≤ ρ 1 ∧ ρ 1 ≤ 2147483647 := b1
  have v2 : v.toInt = ρ 1 := v2
  have hd1 : yd c.toInt = 0 := by
    rw [c2]
    unfold yd
    rw [if_neg (by omega), if_pos (by omega)]
  have hst : yst c.toInt v.toInt (ρ 4) := by
    rw [c2, v2]
    unfold yst
    omega
  refine ⟨m, none, h', r1, r2, smo_ok (md := yT2.2.2.2.1) (by decide +kernel) (fun _ _ hne => absurd rfl hne) r3, _, List.mem_cons_self .., yexM (fun j => ρ0 (j + 1)) (fun j _ => rfl) ya0 ya0 (ya1 ?_ (ya1 ?_ (ya1 ?_ (ya1 ?_ ya0)))) trivial⟩
  · refine ysm_p (k := 410) (by decide) (by decide +kernel) (by decide +kernel) t ?_ ?_
    · show 0 + (1 * ρ0 3 + 0) = _
      have p2 : ρ0 3 = ρ 2 := p2
      rw [p2, ← tx]
      omega
    · show _ = 1 + (1 * ρ0 4 + 0)
      have p3 : ρ0 4 = ρ 3 := p3
      rw [p3, he, f3]
      omega
  · refine ysm_g (a := 0) ?_
    show yht h' (520 * t + s) (yv h' 410 t - s).toNat = 0 + (1 * ρ0 5 + 0)
    have p4 : ρ0 5 = ρ 4 := p4
    rw [p4, s2, g0, hd1]
    omega
  · refine ysm_g (a := 1) ?_
    show yB (yG1 t s h') = 1
    exact yB_1.mpr (s3 g1 (by rw [g0]; exact hst))
  · refine ysm_g (a := 8) ?_
    show yB (yG8 t s c0 v0 h') = 1
    exact yB_1.mpr (s1 g8)
theorem yT3_ok {t s : Nat} (ht : t < 5) {c0 v0 : Nat → Int} {ar : Nat → Int32} : ySum (yGv t s c0 v0 ar) yT3 := by
  intro args h ρ ρ0 hG hM d hd
  obtain ⟨⟨a0, -⟩, ⟨⟨c, c1, c2⟩, ⟨v, v1, v2⟩, m2, m3, m4, m5, m6, -⟩, ⟨b0, b1, b2, b3, b4, b5, b6, -⟩, -, ⟨p0, p1, p2, p3, p4, p5, p6, -⟩, -⟩ := yun hM
  have g0 : yGv t s c0 v0 ar 0 h = ρ 4 := by
    have := ysm_gu (a := 0) m4
    rw [sY_v] at this
    exact this
  have g1 : yG1 t s h := by
    have := ysm_gu (a := 1) m5
    rw [sY_v] at this
    have q : ρ 5 = 1 := Int.le_antisymm b5.2 b5.1
    rw [q] at this
    exact yB_1.mp this
  have g8 : yG8 t s c0 v0 h := by
    have := ysm_gu (a := 8) m6
    rw [sY_v] at this
    have q : ρ 6 = 1 := Int.le_antisymm b6.2 b6.1
    rw [q] at this
    exact yB_1.mp this
  have tx := ysm_u (k := 440) (by decide) (by decide +kernel) m2 14 rfl
  rw [sY_v, g1.1] at tx
  have cd := ysm_u (k := 410) (by decide) (by decide +kernel) m3 t (by show 0 + (1 * ρ 2 + 0) = _; rw [← tx]; omega)
  rw [sY_v] at cd
  have b3 : 0 ≤ ρ 3 ∧ ρ 3 ≤ 518 := b3
  obtain ⟨e, he⟩ : ∃ e : Nat, ρ 3 = e := ⟨(ρ 3).toNat, by omega⟩
  rw [he] at cd
  have gs := g1.2.1
  rw [cd] at gs
  obtain ⟨m, h', r1, r2, r3, f1, f2, f3, f4⟩ := yput (yGvOk (s := s) (c0 := c0) (v0 := v0) (ar := ar) ht) hG (t := t) (s := e) a0 c1 v1 ht (by omega) g1.1 cd d
  have f0 : yv h' 440 14 = t := by
    rw [yfv r3 (by decide +kernel)]
    exact g1.1
  obtain ⟨s1, s2, s3⟩ := ystep (s := s) (e := e) (c0 := c0) (v0 := v0) (by omega) (by omega) ht g1.1 cd f0 f1 f2 f3 f4
  have b4 : 2 ≤ ρ 4 ∧ ρ 4 ≤ 79 := b4
  have g0 : yht h (520 * t + s) (yv h 410 t - s).toNat = ρ 4 := g0
  have b0 : 2 ≤ ρ 0 ∧ ρ 0 ≤ 8 := b0
  have b1 : -2147483648 ≤ ρ 1 ∧ ρ 1 ≤ 2147483647 := b1
  have v2 : v.toInt = ρ 1 := v2
  have hd1 : yd c.toInt = -1 := by
    rw [c2]
    unfold yd
    rw [if_neg (by omega), if_neg (by omega)]
  have hst : yst c.toInt v.toInt (ρ 4) := by
    rw [c2, v2]
    unfold yst
    omega
  refine ⟨m, none, h', r1, r2, smo_ok (md := yT3.2.2.2.1) (by decide +kernel) (fun _ _ hne => absurd rfl hne) r3, _, List.mem_cons_self .., yexM (fun j => ρ0 (j + 1)) (fun j _ => rfl) ya0 ya0 (ya1 ?_ (ya1 ?_ (ya1 ?_ (ya1 ?_ ya0)))) trivial⟩
  · refine ysm_p (k := 410) (by decide) (by decide +kernel) (by decide +kernel) t ?_ ?_
    · show 0 + (1 * ρ0 3 + 0) = _
      have p2 : ρ0 3 = ρ 2 := p2
      rw [p2, ← tx]
      omega
    · show _ = 1 + (1 * ρ0 4 + 0)
      have p3 : ρ0 4 = ρ 3 := p3
      rw [p3, he, f3]
      omega
  · refine ysm_g (a := 0) ?_
    show yht h' (520 * t + s) (yv h' 410 t - s).toNat = -1 + (1 * ρ0 5 + 0)
    have p4 : ρ0 5 = ρ 4 := p4
    rw [p4, s2, g0, hd1]
    omega
  · refine ysm_g (a := 1) ?_
    show yB (yG1 t s h') = 1
    exact yB_1.mpr (s3 g1 (by rw [g0]; exact hst))
  · refine ysm_g (a := 8) ?_
    show yB (yG8 t s c0 v0 h') = 1
    exact yB_1.mpr (s1 g8)
theorem yT4_ok {t s : Nat} (ht : t < 5) {c0 v0 : Nat → Int} {ar : Nat → Int32} : ySum (yGv t s c0 v0 ar) yT4 := by
  intro args h ρ ρ0 hG hM d hd
  obtain ⟨⟨a0, -⟩, ⟨⟨c, c1, c2⟩, ⟨v, v1, v2⟩, m2, m3, m4, m5, m6, -⟩, ⟨b0, b1, b2, b3, b4, b5, b6, -⟩, -, ⟨p0, p1, p2, p3, p4, p5, p6, -⟩, -⟩ := yun hM
  have g0 : yGv t s c0 v0 ar 0 h = ρ 4 := by
    have := ysm_gu (a := 0) m4
    rw [sY_v] at this
    exact this
  have g1 : yG1 t s h := by
    have := ysm_gu (a := 1) m5
    rw [sY_v] at this
    have q : ρ 5 = 1 := Int.le_antisymm b5.2 b5.1
    rw [q] at this
    exact yB_1.mp this
  have g8 : yG8 t s c0 v0 h := by
    have := ysm_gu (a := 8) m6
    rw [sY_v] at this
    have q : ρ 6 = 1 := Int.le_antisymm b6.2 b6.1
    rw [q] at this
    exact yB_1.mp this
  have tx := ysm_u (k := 440) (by decide) (by decide +kernel) m2 14 rfl
  rw [sY_v, g1.1] at tx
  have cd := ysm_u (k := 410) (by decide) (by decide +kernel) m3 t (by show 0 + (1 * ρ 2 + 0) = _; rw [← tx]; omega)
  rw [sY_v] at cd
  have b3 : 0 ≤ ρ 3 ∧ ρ 3 ≤ 518 := b3
  obtain ⟨e, he⟩ : ∃ e : Nat, ρ 3 = e := ⟨(ρ 3).toNat, by omega⟩
  rw [he] at cd
  have gs := g1.2.1
  rw [cd] at gs
  obtain ⟨m, h', r1, r2, r3, f1, f2, f3, f4⟩ := yput (yGvOk (s := s) (c0 := c0) (v0 := v0) (ar := ar) ht) hG (t := t) (s := e) a0 c1 v1 ht (by omega) g1.1 cd d
  have f0 : yv h' 440 14 = t := by
    rw [yfv r3 (by decide +kernel)]
    exact g1.1
  obtain ⟨s1, s2, s3⟩ := ystep (s := s) (e := e) (c0 := c0) (v0 := v0) (by omega) (by omega) ht g1.1 cd f0 f1 f2 f3 f4
  have b4 : 2 ≤ ρ 4 ∧ ρ 4 ≤ 79 := b4
  have g0 : yht h (520 * t + s) (yv h 410 t - s).toNat = ρ 4 := g0
  have b0 : 10 ≤ ρ 0 ∧ ρ 0 ≤ 11 := b0
  have b1 : -2147483648 ≤ ρ 1 ∧ ρ 1 ≤ 2147483647 := b1
  have v2 : v.toInt = ρ 1 := v2
  have hd1 : yd c.toInt = -1 := by
    rw [c2]
    unfold yd
    rw [if_neg (by omega), if_neg (by omega)]
  have hst : yst c.toInt v.toInt (ρ 4) := by
    rw [c2, v2]
    unfold yst
    omega
  refine ⟨m, none, h', r1, r2, smo_ok (md := yT4.2.2.2.1) (by decide +kernel) (fun _ _ hne => absurd rfl hne) r3, _, List.mem_cons_self .., yexM (fun j => ρ0 (j + 1)) (fun j _ => rfl) ya0 ya0 (ya1 ?_ (ya1 ?_ (ya1 ?_ (ya1 ?_ ya0)))) trivial⟩
  · refine ysm_p (k := 410) (by decide) (by decide +kernel) (by decide +kernel) t ?_ ?_
    · show 0 + (1 * ρ0 3 + 0) = _
      have p2 : ρ0 3 = ρ 2 := p2
      rw [p2, ← tx]
      omega
    · show _ = 1 + (1 * ρ0 4 + 0)
      have p3 : ρ0 4 = ρ 3 := p3
      rw [p3, he, f3]
      omega
  · refine ysm_g (a := 0) ?_
    show yht h' (520 * t + s) (yv h' 410 t - s).toNat = -1 + (1 * ρ0 5 + 0)
    have p4 : ρ0 5 = ρ 4 := p4
    rw [p4, s2, g0, hd1]
    omega
  · refine ysm_g (a := 1) ?_
    show yB (yG1 t s h') = 1
    exact yB_1.mpr (s3 g1 (by rw [g0]; exact hst))
  · refine ysm_g (a := 8) ?_
    show yB (yG8 t s c0 v0 h') = 1
    exact yB_1.mpr (s1 g8)
theorem yT5_ok {t s : Nat} (ht : t < 5) {c0 v0 : Nat → Int} {ar : Nat → Int32} : ySum (yGv t s c0 v0 ar) yT5 := by
  intro args h ρ ρ0 hG hM d hd
  obtain ⟨⟨a0, -⟩, ⟨⟨c, c1, c2⟩, ⟨v, v1, v2⟩, m2, m3, m6, -⟩, ⟨b0, b1, b2, b3, b6, -⟩, -, ⟨p0, p1, p2, p3, p6, -⟩, -⟩ := yun hM
  have g8 : yG8 t s c0 v0 h := by
    have := ysm_gu (a := 8) m6
    rw [sY_v] at this
    have q : ρ 4 = 1 := Int.le_antisymm b6.2 b6.1
    rw [q] at this
    exact yB_1.mp this
  have tx := ysm_u (k := 440) (by decide) (by decide +kernel) m2 14 rfl
  rw [sY_v, g8.1] at tx
  have cd := ysm_u (k := 410) (by decide) (by decide +kernel) m3 t (by show 0 + (1 * ρ 2 + 0) = _; rw [← tx]; omega)
  rw [sY_v] at cd
  have b3 : 0 ≤ ρ 3 ∧ ρ 3 ≤ 518 := b3
  obtain ⟨e, he⟩ : ∃ e : Nat, ρ 3 = e := ⟨(ρ 3).toNat, by omega⟩
  rw [he] at cd
  have gs := g8.2.1
  rw [cd] at gs
  obtain ⟨m, h', r1, r2, r3, f1, f2, f3, f4⟩ := yput (yGvOk (s := s) (c0 := c0) (v0 := v0) (ar := ar) ht) hG (t := t) (s := e) a0 c1 v1 ht (by omega) g8.1 cd d
  have f0 : yv h' 440 14 = t := by
    rw [yfv r3 (by decide +kernel)]
    exact g8.1
  obtain ⟨s1, s2, s3⟩ := ystep (s := s) (e := e) (c0 := c0) (v0 := v0) (by omega) (by omega) ht g8.1 cd f0 f1 f2 f3 f4
  refine ⟨m, none, h', r1, r2, smo_ok (md := yT5.2.2.2.1) (by decide +kernel) (fun _ _ hne => absurd rfl hne) r3, _, List.mem_cons_self .., yexM (fun j => ρ0 (j + 1)) (fun j _ => rfl) ya0 ya0 (ya1 ?_ (ya1 ?_ ya0)) trivial⟩
  · refine ysm_p (k := 410) (by decide) (by decide +kernel) (by decide +kernel) t ?_ ?_
    · show 0 + (1 * ρ0 3 + 0) = _
      have p2 : ρ0 3 = ρ 2 := p2
      rw [p2, ← tx]
      omega
    · show _ = 1 + (1 * ρ0 4 + 0)
      have p3 : ρ0 4 = ρ 3 := p3
      rw [p3, he, f3]
      omega
  · refine ysm_g (a := 8) ?_
    show yB (yG8 t s c0 v0 h') = 1
    exact yB_1.mpr (s1 g8)
