/-! keep, by hand -/
theorem ynow9 {h : zH} (hG : sG yReg yG h) : 0 ≤ yv h 421 39 ∧ yv h 421 39 ≤ 60 := hG 421 (39, 39, 0, 60) (by decide +kernel) 39 (by decide) (by decide)
theorem yd6 {P : Nat → Prop} (h0 : P 0) (h1 : P 1) (h2 : P 2) (h3 : P 3) (h4 : P 4) (h5 : P 5) : ∀ d, d < 6 → P d
  | 0, _ => h0
  | 1, _ => h1
  | 2, _ => h2
  | 3, _ => h3
  | 4, _ => h4
  | 5, _ => h5
  | n + 6, h => by omega
/-- the new row -/
theorem ykeep2 {gv : Nat → zH → Int} (hg : sGv yReg yGu gv) {args : List zV} {h : zH} (hG : sG yReg yG h) (a0 : yrf (zent 0 args) 0 (0, 120)) {ac : Nat} (hac : ac ≤ 40) (e1 : yv h 440 39 = ac) (d : Nat) :
    ∃ m h', yrun m d yQ_keepL2.1 args h = some (none, h') ∧ sG yReg yG h' ∧ sF yReg yQ_keepL2.2.2.2.1 h h' ∧ ∃ b : Nat, (ac < 40 → b = ac) ∧ (ac = 40 → b = 39) ∧ yv h' 440 39 = b + 1 ∧ (∀ j, j < 6 → yv h' 429 (220 * b + 30 + j) = yv h 421 (30 + j)) ∧ yv h' 429 (220 * b + 39) = yv h 421 39 := by
  have n0 := ynow hG (i := 30) (by decide) (by decide)
  have n1 := ynow hG (i := 31) (by decide) (by decide)
  have n2 := ynow hG (i := 32) (by decide) (by decide)
  have n3 := ynow hG (i := 33) (by decide) (by decide)
  have n4 := ynow hG (i := 34) (by decide) (by decide)
  have n5 := ynow hG (i := 35) (by decide) (by decide)
  have n9 := ynow9 hG
  have hM : sMt yReg gv (yρ [ac, yv h 421 30, yv h 421 31, yv h 421 32, yv h 421 33, yv h 421 34, yv h 421 35, yv h 421 39]) (yρ0 [ac, yv h 421 30, yv h 421 31, yv h 421 32, yv h 421 33, yv h 421 34, yv h 421 35, yv h 421 39] yQ_keepL2.2.1.2.2.2.2.2) (sAs yQ_keepL2.2.1) (zent 0 args) [] h := by
    refine ymk (ya1 a0 ya0) (ya1 (yvr2 (ysm_p (k := 440) (by decide) (by decide +kernel) (by decide +kernel) 39 rfl ?_)) (ya1 (yvr2 (ysm_p (k := 421) (by decide) (by decide +kernel) (by decide +kernel) 30 rfl ?_)) (ya1 (yvr2 (ysm_p (k := 421) (by decide) (by decide +kernel) (by decide +kernel) 31 rfl ?_)) (ya1 (yvr2 (ysm_p (k := 421) (by decide) (by decide +kernel) (by decide +kernel) 32 rfl ?_)) (ya1 (yvr2 (ysm_p (k := 421) (by decide) (by decide +kernel) (by decide +kernel) 33 rfl ?_)) (ya1 (yvr2 (ysm_p (k := 421) (by decide) (by decide +kernel) (by decide +kernel) 34 rfl ?_)) (ya1 (yvr2 (ysm_p (k := 421) (by decide) (by decide +kernel) (by decide +kernel) 35 rfl ?_)) (ya1 (yvr2 (ysm_p (k := 421) (by decide) (by decide +kernel) (by decide +kernel) 39 rfl ?_)) ya0)))))))) (ya1 ?_ (ya1 n0 (ya1 n1 (ya1 n2 (ya1 n3 (ya1 n4 (ya1 n5 (ya1 n9 ya0)))))))) ya0 (ya1 rfl (ya1 rfl (ya1 rfl (ya1 rfl (ya1 rfl (ya1 rfl (ya1 rfl (ya1 rfl ya0)))))))) rfl
    · rw [sY_v]; exact e1
    · rw [sY_v]; rfl
    · rw [sY_v]; rfl
    · rw [sY_v]; rfl
    · rw [sY_v]; rfl
    · rw [sY_v]; rfl
    · rw [sY_v]; rfl
    · rw [sY_v]; rfl
    · show (0 : Int) ≤ ac ∧ (ac : Int) ≤ 40; omega
  obtain ⟨m, r, h', r1, r2, r3, hx⟩ := yS_keepL2 hg args h _ _ hG hM d (Nat.zero_le _)
  refine yone hx (ya1 ?_ (ya1 ?_ ya0))
  · intro hE
    obtain ⟨ρx, a, -, ⟨k1, -⟩, ⟨m0, m1, m2, m3, m4, m5, m6, m7, -⟩, hr⟩ := yexU hE
    have hr : r = none := by
      match r, hr with
      | none, _ => rfl
    rw [hr] at r1
    have a0 : ρx 0 = ac := a 0 (by decide)
    have a1 : ρx 1 = yv h 421 30 := a 1 (by decide)
    have a2 : ρx 2 = yv h 421 31 := a 2 (by decide)
    have a3 : ρx 3 = yv h 421 32 := a 3 (by decide)
    have a4 : ρx 4 = yv h 421 33 := a 4 (by decide)
    have a5 : ρx 5 = yv h 421 34 := a 5 (by decide)
    have a6 : ρx 6 = yv h 421 35 := a 6 (by decide)
    have a7 : ρx 7 = yv h 421 39 := a 7 (by decide)
    have k1 : -39 + (1 * ρx 0 + 0) ≤ 0 := k1
    rw [a0] at k1
    have u0 : yv h' 440 39 = 1 + (1 * ρx 0 + 0) := ysm_u (k := 440) (by decide) (by decide +kernel) m0 39 rfl
    have w : ∀ (j : Nat) (e v : sE), smm yReg gv ρx h' (109, e, v) → sv ρx e = (j : Int) + (220 * ρx 0 + 0) → yv h' 429 (220 * ac + j) = sv ρx v := by
      intro j e v mm he
      refine ysm_u (k := 429) (by decide) (by decide +kernel) mm (220 * ac + j) ?_
      rw [he, a0]
      omega
    have u1 : yv h' 429 (220 * ac + 30) = 0 + (1 * ρx 1 + 0) := w 30 _ _ m1 rfl
    have u2 : yv h' 429 (220 * ac + 31) = 0 + (1 * ρx 2 + 0) := w 31 _ _ m2 rfl
    have u3 : yv h' 429 (220 * ac + 32) = 0 + (1 * ρx 3 + 0) := w 32 _ _ m3 rfl
    have u4 : yv h' 429 (220 * ac + 33) = 0 + (1 * ρx 4 + 0) := w 33 _ _ m4 rfl
    have u5 : yv h' 429 (220 * ac + 34) = 0 + (1 * ρx 5 + 0) := w 34 _ _ m5 rfl
    have u6 : yv h' 429 (220 * ac + 35) = 0 + (1 * ρx 6 + 0) := w 35 _ _ m6 rfl
    have u7 : yv h' 429 (220 * ac + 39) = 0 + (1 * ρx 7 + 0) := w 39 _ _ m7 rfl
    refine ⟨m, h', r1, r2, r3, ac, fun _ => rfl, fun e => by omega, by rw [u0, a0]; omega, yd6 ?_ ?_ ?_ ?_ ?_ ?_, by rw [u7, a7]; omega⟩
    · show yv h' 429 (220 * ac + 30) = _; rw [u1, a1]; show _ = yv h 421 30; omega
    · show yv h' 429 (220 * ac + 31) = _; rw [u2, a2]; show _ = yv h 421 31; omega
    · show yv h' 429 (220 * ac + 32) = _; rw [u3, a3]; show _ = yv h 421 32; omega
    · show yv h' 429 (220 * ac + 33) = _; rw [u4, a4]; show _ = yv h 421 33; omega
    · show yv h' 429 (220 * ac + 34) = _; rw [u5, a5]; show _ = yv h 421 34; omega
    · show yv h' 429 (220 * ac + 35) = _; rw [u6, a6]; show _ = yv h 421 35; omega
  · intro hE
    obtain ⟨ρx, a, ⟨q8, -⟩, ⟨k1, -⟩, ⟨m0, m1, m2, m3, m4, m5, m6, m7, -⟩, hr⟩ := yexU hE
    have hr : r = none := by
      match r, hr with
      | none, _ => rfl
    rw [hr] at r1
    have a0 : ρx 0 = ac := a 0 (by decide)
    have a1 : ρx 1 = yv h 421 30 := a 1 (by decide)
    have a2 : ρx 2 = yv h 421 31 := a 2 (by decide)
    have a3 : ρx 3 = yv h 421 32 := a 3 (by decide)
    have a4 : ρx 4 = yv h 421 33 := a 4 (by decide)
    have a5 : ρx 5 = yv h 421 34 := a 5 (by decide)
    have a6 : ρx 6 = yv h 421 35 := a 6 (by decide)
    have a7 : ρx 7 = yv h 421 39 := a 7 (by decide)
    have q8 : 40 ≤ ρx 8 ∧ ρx 8 ≤ 40 := q8
    have k1 : 40 + (-1 * ρx 0 + 0) ≤ 0 := k1
    rw [a0] at k1
    have u0 : yv h' 440 39 = 0 + (1 * ρx 8 + 0) := ysm_u (k := 440) (by decide) (by decide +kernel) m0 39 rfl
    have u1 : yv h' 429 8610 = 0 + (1 * ρx 1 + 0) := ysm_u (k := 429) (by decide) (by decide +kernel) m1 8610 rfl
    have u2 : yv h' 429 8611 = 0 + (1 * ρx 2 + 0) := ysm_u (k := 429) (by decide) (by decide +kernel) m2 8611 rfl
    have u3 : yv h' 429 8612 = 0 + (1 * ρx 3 + 0) := ysm_u (k := 429) (by decide) (by decide +kernel) m3 8612 rfl
    have u4 : yv h' 429 8613 = 0 + (1 * ρx 4 + 0) := ysm_u (k := 429) (by decide) (by decide +kernel) m4 8613 rfl
    have u5 : yv h' 429 8614 = 0 + (1 * ρx 5 + 0) := ysm_u (k := 429) (by decide) (by decide +kernel) m5 8614 rfl
    have u6 : yv h' 429 8615 = 0 + (1 * ρx 6 + 0) := ysm_u (k := 429) (by decide) (by decide +kernel) m6 8615 rfl
    have u7 : yv h' 429 8619 = 0 + (1 * ρx 7 + 0) := ysm_u (k := 429) (by decide) (by decide +kernel) m7 8619 rfl
    refine ⟨m, h', r1, r2, r3, 39, fun e => by omega, fun _ => rfl, by rw [u0]; omega, yd6 ?_ ?_ ?_ ?_ ?_ ?_, by show yv h' 429 8619 = _; rw [u7, a7]; omega⟩
    · show yv h' 429 8610 = yv h 421 30; rw [u1, a1]; omega
    · show yv h' 429 8611 = yv h 421 31; rw [u2, a2]; omega
    · show yv h' 429 8612 = yv h 421 32; rw [u3, a3]; omega
    · show yv h' 429 8613 = yv h 421 33; rw [u4, a4]; omega
    · show yv h' 429 8614 = yv h 421 34; rw [u5, a5]; omega
    · show yv h' 429 8615 = yv h 421 35; rw [u6, a6]; omega
/-- an old place -/
theorem ykeep1 {gv : Nat → zH → Int} (hg : sGv yReg yGu gv) {args : List zV} {h : zH} (hG : sG yReg yG h) (a0 : yrf (zent 0 args) 0 (0, 120)) {ac : Nat} (hac : ac ≤ 40) (e1 : yv h 440 39 = ac) (d q : Nat) (hq : q < 220 * ac) :
    ∃ m h', yrun m d yQ_keepL1b.1 args h = some (none, h') ∧ (ac < 40 → yv h' 429 q = yv h 429 q) ∧ (ac = 40 → 220 ≤ q → yv h' 429 (q - 220) = yv h 429 q) := by
  have i5 := si32 (h.1 429 q)
  have hM : sMt yReg gv (yρ [ac, q, yv h 429 q]) (yρ0 [ac, q, yv h 429 q] yQ_keepL1b.2.1.2.2.2.2.2) (sAs yQ_keepL1b.2.1) (zent 0 args) [] h := by
    refine ymk (ya1 a0 ya0) (ya1 (yvr2 (ysm_p (k := 440) (by decide) (by decide +kernel) (by decide +kernel) 39 rfl ?_)) (ya1 yvr3 (ya1 (yvr2 (ysm_p (k := 429) (by decide) (by decide +kernel) (by decide +kernel) q ?_ ?_)) ya0))) (ya1 ?_ (ya1 ?_ (ya1 i5 ya0))) (ya1 ?_ (ya1 ?_ ya0)) (ya1 rfl (ya1 rfl (ya1 rfl ya0))) rfl
    · rw [sY_v]; exact e1
    · show 0 + (1 * (q : Int) + 0) = q; omega
    · rw [sY_v]; rfl
    · show (0 : Int) ≤ ac ∧ (ac : Int) ≤ 40; omega
    · show (0 : Int) ≤ q ∧ (q : Int) ≤ 8799; omega
    · show 1 + (-220 * (ac : Int) + (1 * (q : Int) + 0)) ≤ 0; omega
    · show 1 + (-1 * (ac : Int) + 0) ≤ 0; omega
  obtain ⟨m, r, h', r1, r2, r3, hx⟩ := yS_keepL1b hg args h _ _ hG hM d (Nat.zero_le _)
  refine yone hx (ya1 ?_ (ya1 ?_ (ya1 ?_ (ya1 ?_ ya0))))
  · intro hE
    obtain ⟨ρx, a, -, ⟨k1, -⟩, ⟨-, m1, -⟩, hr⟩ := yexU hE
    have hr : r = none := by
      match r, hr with
      | none, _ => rfl
    rw [hr] at r1
    have a0 : ρx 0 = ac := a 0 (by decide)
    have a1 : ρx 1 = q := a 1 (by decide)
    have a2 : ρx 2 = yv h 429 q := a 2 (by decide)
    have k1 : -39 + (1 * ρx 0 + 0) ≤ 0 := k1
    have u : yv h' 429 q = 0 + (1 * ρx 2 + 0) := ysm_u (k := 429) (by decide) (by decide +kernel) m1 q (by show 0 + (1 * ρx 1 + 0) = _; rw [a1]; omega)
    exact ⟨m, h', r1, fun _ => by rw [u, a2]; omega, fun e => by omega⟩
  · intro hE
    obtain ⟨ρx, a, -, ⟨k1, -⟩, ⟨-, m1, -⟩, hr⟩ := yexU hE
    have hr : r = none := by
      match r, hr with
      | none, _ => rfl
    rw [hr] at r1
    have a0 : ρx 0 = ac := a 0 (by decide)
    have a1 : ρx 1 = q := a 1 (by decide)
    have a2 : ρx 2 = yv h 429 q := a 2 (by decide)
    have k1 : -39 + (1 * ρx 0 + 0) ≤ 0 := k1
    have u : yv h' 429 q = 0 + (1 * ρx 2 + 0) := ysm_u (k := 429) (by decide) (by decide +kernel) m1 q (by show 0 + (1 * ρx 1 + 0) = _; rw [a1]; omega)
    exact ⟨m, h', r1, fun _ => by rw [u, a2]; omega, fun e => by omega⟩
  · intro hE
    obtain ⟨ρx, a, -, ⟨k1, k2, -⟩, -, hr⟩ := yexU hE
    have hr : r = none := by
      match r, hr with
      | none, _ => rfl
    rw [hr] at r1
    have a0 : ρx 0 = ac := a 0 (by decide)
    have a1 : ρx 1 = q := a 1 (by decide)
    have k1 : 40 + (-1 * ρx 0 + 0) ≤ 0 := k1
    have k2 : -219 + (1 * ρx 1 + 0) ≤ 0 := k2
    exact ⟨m, h', r1, fun e => by omega, fun _ e => by omega⟩
  · intro hE
    obtain ⟨ρx, a, -, ⟨k1, k2, -⟩, ⟨-, m1, -⟩, hr⟩ := yexU hE
    have hr : r = none := by
      match r, hr with
      | none, _ => rfl
    rw [hr] at r1
    have a0 : ρx 0 = ac := a 0 (by decide)
    have a1 : ρx 1 = q := a 1 (by decide)
    have a2 : ρx 2 = yv h 429 q := a 2 (by decide)
    have k1 : 40 + (-1 * ρx 0 + 0) ≤ 0 := k1
    have k2 : 220 + (-1 * ρx 1 + 0) ≤ 0 := k2
    have u : yv h' 429 (q - 220) = 0 + (1 * ρx 2 + 0) := ysm_u (k := 429) (by decide) (by decide +kernel) m1 (q - 220) (by show -220 + (1 * ρx 1 + 0) = _; rw [a1]; omega)
    exact ⟨m, h', r1, fun e => by omega, fun _ _ => by rw [u, a2]; omega⟩
theorem yT9_ok {t s : Nat} (ht : t < 5) {c0 v0 : Nat → Int} {ar : Nat → Int32} : ySum (yGv t s c0 v0 ar) yT9 := by
  intro args h ρ ρ0 hG hM d hd
  obtain ⟨⟨a0, -⟩, ⟨m0, m1, m2, -⟩, ⟨b0, b1, b2, -⟩, -, -, -⟩ := yun hM
  have b0 : 0 ≤ ρ 0 ∧ ρ 0 ≤ 40 := b0
  have b1 : 1 ≤ ρ 1 ∧ ρ 1 ≤ 1 := b1
  have b2 : 1 ≤ ρ 2 ∧ ρ 2 ≤ 1 := b2
  have g5 : yG5 h := by
    have := ysm_gu (a := 5) m1
    rw [sY_v] at this
    have q : ρ 1 = 1 := by omega
    have this : yGv t s c0 v0 ar 5 h = ρ 1 := this
    rw [q] at this
    exact yB_1.mp this
  have g6 : yG6 h := by
    have := ysm_gu (a := 6) m2
    rw [sY_v] at this
    have q : ρ 2 = 1 := by omega
    have this : yGv t s c0 v0 ar 6 h = ρ 2 := this
    rw [q] at this
    exact yB_1.mp this
  have ha := ysm_u (k := 440) (by decide) (by decide +kernel) m0 39 rfl
  rw [sY_v] at ha
  have ha : yv h 440 39 = ρ 0 := ha
  obtain ⟨ac, hac⟩ : ∃ x : Nat, ρ 0 = x := ⟨(ρ 0).toNat, by omega⟩
  rw [hac] at ha
  have hg := yGvOk (s := s) (c0 := c0) (v0 := v0) (ar := ar) ht
  obtain ⟨m, h', r1, r2, r3, b, w1, w2, w3, w4, w5⟩ := ykeep2 hg hG a0 (ac := ac) (by omega) ha d
  have mn : yv h' 440 22 = yv h 440 22 := yfv r3 (by decide +kernel)
  have old : ∀ q, q < 220 * ac → (ac < 40 → yv h' 429 q = yv h 429 q) ∧ (ac = 40 → 220 ≤ q → yv h' 429 (q - 220) = yv h 429 q) := by
    intro q hq
    obtain ⟨m2, h2, e1, e2, e3⟩ := ykeep1 hg hG a0 (ac := ac) (by omega) ha d q hq
    have := yrun_u r1 e1
    cases this
    exact ⟨e2, e3⟩
  have hb : b < 40 := by omega
  have G6 : yG6 h' := by
    intro a h1 h2
    rw [w3] at h2
    by_cases hab : a = b
    · subst hab
      refine ⟨?_, ?_, ?_⟩
      · intro z z1 z2
        rw [mn] at z2
        obtain ⟨d2, d3, d4, d5⟩ := g5 z z1 z2
        refine ⟨d2, d3, by rw [mn]; exact d4, ?_⟩
        rw [w4 d2 d3]
        rw [Nat.zero_add] at d5
        exact d5
      · intro d2 hd2
        rw [w4 d2 hd2]
        exact ynow hG (by omega) (by omega)
      · rw [w5]
        exact ynow9 hG
    · by_cases h40 : ac = 40
      · have hb2 := w2 h40
        have sh : ∀ i, i < 220 → yv h' 429 (220 * a + i) = yv h 429 (220 * (a + 1) + i) := by
          intro i hi
          have := (old (220 * (a + 1) + i) (by omega)).2 h40 (by omega)
          rw [show 220 * (a + 1) + i - 220 = 220 * a + i by omega] at this
          exact this
        obtain ⟨x1, x2, x3⟩ := g6 (a + 1) (by omega) (by rw [ha]; omega)
        refine ⟨?_, ?_, ?_⟩
        · intro z z1 z2
          rw [mn] at z2
          obtain ⟨d2, d3, d4, d5⟩ := x1 z z1 z2
          refine ⟨d2, d3, by rw [mn]; exact d4, ?_⟩
          rw [Nat.add_assoc, sh (30 + d2) (by omega), ← Nat.add_assoc]
          exact d5
        · intro d2 hd2
          have := x2 d2 hd2
          rw [Nat.add_assoc, sh (30 + d2) (by omega), ← Nat.add_assoc]
          exact this
        · rw [sh 39 (by omega)]
          exact x3
      · have hb2 := w1 (by omega)
        have sh : ∀ i, i < 220 → yv h' 429 (220 * a + i) = yv h 429 (220 * a + i) := fun i hi => (old (220 * a + i) (by omega)).1 (by omega)
        obtain ⟨x1, x2, x3⟩ := g6 a (by omega) (by rw [ha]; omega)
        refine ⟨?_, ?_, ?_⟩
        · intro z z1 z2
          rw [mn] at z2
          obtain ⟨d2, d3, d4, d5⟩ := x1 z z1 z2
          refine ⟨d2, d3, by rw [mn]; exact d4, ?_⟩
          rw [Nat.add_assoc, sh (30 + d2) (by omega), ← Nat.add_assoc]
          exact d5
        · intro d2 hd2
          have := x2 d2 hd2
          rw [Nat.add_assoc, sh (30 + d2) (by omega), ← Nat.add_assoc]
          exact this
        · rw [sh 39 (by omega)]
          exact x3
  refine ⟨m, none, h', r1, r2, smo_ok (md := yT9.2.2.2.1) (by decide +kernel) (fun _ _ hne => absurd rfl hne) r3, _, List.mem_cons_self .., yexM (fun j => if j = 3 then (b : Int) + 1 else ρ0 (j + 1)) ?_ (ya1 ?_ ya0) ya0 (ya1 ?_ (ya1 ?_ ya0)) trivial⟩
  · intro j hj
    have hj : j < 3 := hj
    show (if j = 3 then (b : Int) + 1 else ρ0 (j + 1)) = _
    rw [if_neg (by omega)]
  · show 1 ≤ (b : Int) + 1 ∧ (b : Int) + 1 ≤ 40
    omega
  · refine ysm_p (k := 440) (by decide) (by decide +kernel) (by decide +kernel) 39 rfl ?_
    show _ = 0 + (1 * ((b : Int) + 1) + 0)
    rw [w3]
    omega
  · refine ysm_g (a := 6) ?_
    show yB (yG6 h') = 1
    exact yB_1.mpr G6
