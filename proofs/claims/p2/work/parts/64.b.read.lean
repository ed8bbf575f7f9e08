/-! readLaw, by hand -/
theorem ycl_le {h : zH} {n c e f : Nat} (hef : e ≤ f) : ycl h n c e → ycl h n c f := by
  rintro ⟨tf, sf, st, a1, a2, a3, a4, a5, a6, a7, a8⟩
  exact ⟨tf, sf, st, a1, a2, a3, a4, a5, by omega, a7, a8⟩
/-- a run of readLaw, and what it leaves -/
theorem yread {t s : Nat} (ht : t < 5) {c0 v0 : Nat → Int} {ar : Nat → Int32} (hp : yHy (yGv t s c0 v0 ar) 34) {args : List zV} {h : zH} (hG : sG yReg yG h) (a0 : yrf (zent 0 args) 0 (0, 120)) {c : Int32} {n : Nat} (a1 : zget (zent 0 args) 1 = some (.inl c)) (hn : n < 5) (hc : c.toInt = n) (hl : yv h 440 13 ≤ n) (g4 : yG4 h) {d : Nat} (hd : 36 ≤ d) :
    ∃ m h', ∃ z : Int32, yrun m d yQ_readLawL.1 args h = some (some (.inl z), h') ∧ sG yReg yG h' ∧ sF yReg yQ_readLawL.2.2.2.1 h h' ∧ yG12 h' ∧ yv h' 440 14 = n ∧ ((z.toInt = -1 ∧ yG11 h') ∨ (0 ≤ z.toInt ∧ z.toInt ≤ 250)) := by
  have f1 : 0 ≤ yv h 440 14 ∧ yv h 440 14 ≤ 4 := hG 440 (14, 14, 0, 4) (by decide +kernel) 14 (by decide) (by decide)
  have f2 : 0 ≤ yv h 440 2 ∧ yv h 440 2 ≤ 240 := hG 440 (2, 2, 0, 240) (by decide +kernel) 2 (by decide) (by decide)
  have f3 : 0 ≤ yv h 440 13 ∧ yv h 440 13 ≤ 4 := hG 440 (13, 13, 0, 4) (by decide +kernel) 13 (by decide) (by decide)
  have i4 := si32 (h.1 410 n)
  have i5 := si32 (h.1 411 n)
  have hM : sMt yReg (yGv t s c0 v0 ar) (yρ [n, yv h 440 2, yv h 440 13, yv h 440 14, yv h 410 n, yv h 411 n, 1]) (yρ0 [n, yv h 440 2, yv h 440 13, yv h 440 14, yv h 410 n, yv h 411 n, 1] yQ_readLawL.2.1.2.2.2.2.2) (sAs yQ_readLawL.2.1) (zent 0 args) [] h := by
    refine ymk (ya1 a0 ya0) (ya1 (yvr0 a1 hc) (ya1 (yvr2 (ysm_p (k := 440) (by decide) (by decide +kernel) (by decide +kernel) 2 rfl ?_)) (ya1 (yvr2 (ysm_p (k := 440) (by decide) (by decide +kernel) (by decide +kernel) 13 rfl ?_)) (ya1 (yvr2 (ysm_p (k := 440) (by decide) (by decide +kernel) (by decide +kernel) 14 rfl ?_)) (ya1 (yvr2 (ysm_p (k := 410) (by decide) (by decide +kernel) (by decide +kernel) n ?_ ?_)) (ya1 (yvr2 (ysm_p (k := 411) (by decide) (by decide +kernel) (by decide +kernel) n ?_ ?_)) (ya1 (yvr2 (ysm_g (a := 4) ?_)) ya0))))))) (ya1 ?_ (ya1 f2 (ya1 f3 (ya1 f1 (ya1 i4 (ya1 i5 (ya1 ?_ ya0))))))) (ya1 ?_ ya0) (ya1 rfl (ya1 rfl (ya1 rfl (ya1 rfl (ya1 rfl (ya1 rfl (ya1 rfl ya0))))))) rfl
    · rw [sY_v]; rfl
    · rw [sY_v]; rfl
    · rw [sY_v]; rfl
    · show 0 + (1 * (n : Int) + 0) = n; omega
    · rw [sY_v]; rfl
    · show 0 + (1 * (n : Int) + 0) = n; omega
    · rw [sY_v]; rfl
    · rw [sY_v]; exact yB_1.mpr g4
    · show (0 : Int) ≤ n ∧ (n : Int) ≤ 4; omega
    · show (1 : Int) ≤ 1 ∧ (1 : Int) ≤ 1; omega
    · show 0 + (-1 * (n : Int) + (1 * yv h 440 13 + 0)) ≤ 0; omega
  obtain ⟨m, r, h', r1, r2, r3, hx⟩ := yS_readLawL (yGvOk (s := s) (c0 := c0) (v0 := v0) (ar := ar) ht) hp args h _ _ hG hM d (Nat.le_trans (by decide) hd)
  have g12 : ∀ (ρx : Nat → Int) (j : Nat), 1 ≤ ρx j ∧ ρx j ≤ 1 → smm yReg (yGv t s c0 v0 ar) ρx h' (1012, (0, []), (0, [(j, 1)])) → yG12 h' := by
    intro ρx j b mm
    have := ysm_gu (a := 12) mm
    have this : yGv t s c0 v0 ar 12 h' = 0 + (1 * ρx j + 0) := this
    have q : yGv t s c0 v0 ar 12 h' = 1 := by omega
    exact yB_1.mp q
  have tx : ∀ (ρx : Nat → Int), ρx 0 = n → 0 + (-1 * ρx 0 + (1 * ρx 8 + 0)) ≤ 0 → 0 + (1 * ρx 0 + (-1 * ρx 8 + 0)) ≤ 0 → smm yReg (yGv t s c0 v0 ar) ρx h' (120, (14, []), (0, [(8, 1)])) → yv h' 440 14 = n := by
    intro ρx b k1 k2 mm
    have u : yv h' 440 14 = 0 + (1 * ρx 8 + 0) := ysm_u (k := 440) (by decide) (by decide +kernel) mm 14 rfl
    rw [u]
    omega
  refine yone hx (ya1 ?_ (ya1 ?_ (ya1 ?_ ya0)))
  · intro hE
    obtain ⟨ρx, a, ⟨n7, n8, n9, n10, n11, n12, -⟩, ⟨k0, k1, k2, -⟩, ⟨m1, m2, m3, m4, m5, -⟩, hr⟩ := yexU hE
    have b0 : ρx 0 = n := a 0 (by decide)
    have n7 : -1 ≤ ρx 7 ∧ ρx 7 ≤ -1 := n7
    have n11 : 1 ≤ ρx 11 ∧ ρx 11 ≤ 1 := n11
    have G11 : yG11 h' := by
      have := ysm_gu (a := 11) m4
      have this : yGv t s c0 v0 ar 11 h' = 0 + (1 * ρx 11 + 0) := this
      have q : yGv t s c0 v0 ar 11 h' = 1 := by omega
      exact yB_1.mp q
    match r, hr, r1 with
    | some (.inl z), hr, r1 =>
      have hr : z.toInt = 0 + (1 * ρx 7 + 0) := hr
      exact ⟨m, h', z, r1, r2, r3, g12 ρx 12 n12 m5, tx ρx b0 k1 k2 m1, Or.inl ⟨by omega, G11⟩⟩
  · intro hE
    obtain ⟨ρx, a, ⟨n7, n8, n9, n10, n11, n12, -⟩, ⟨k0, kx, ky, k1, k2, -⟩, ⟨m1, m2, m3, m4, m5, -⟩, hr⟩ := yexU hE
    have b0 : ρx 0 = n := a 0 (by decide)
    have n7 : 2 ≤ ρx 7 ∧ ρx 7 ≤ 239 := n7
    match r, hr, r1 with
    | some (.inl z), hr, r1 =>
      have hr : z.toInt = 0 + (1 * ρx 7 + 0) := hr
      exact ⟨m, h', z, r1, r2, r3, g12 ρx 12 n12 m5, tx ρx b0 k1 k2 m1, Or.inr ⟨by omega, by omega⟩⟩
  · intro hE
    obtain ⟨ρx, a, ⟨n7, n8, n9, n10, n11, -⟩, ⟨k1, k2, -⟩, ⟨m1, m2, m3, m5, -⟩, hr⟩ := yexU hE
    have b0 : ρx 0 = n := a 0 (by decide)
    have n7 : 0 ≤ ρx 7 ∧ ρx 7 ≤ 250 := n7
    match r, hr, r1 with
    | some (.inl z), hr, r1 =>
      have hr : z.toInt = 0 + (1 * ρx 7 + 0) := hr
      exact ⟨m, h', z, r1, r2, r3, g12 ρx 11 n11 m5, tx ρx b0 k1 k2 m1, Or.inr ⟨by omega, by omega⟩⟩
theorem yT36_ok {t s : Nat} (ht : t < 5) {c0 v0 : Nat → Int} {ar : Nat → Int32} (hp : yHy (yGv t s c0 v0 ar) 34) : ySum (yGv t s c0 v0 ar) yT36 := by
  intro args h ρ ρ0 hG hM d hd
  obtain ⟨⟨a0, -⟩, ⟨⟨c, c1, c2⟩, m1, m2, -⟩, ⟨b0, b1, b2, -⟩, ⟨k0, k1, -⟩, ⟨p0, p1, p2, -⟩, -⟩ := yun hM
  have c2 : c.toInt = ρ 0 := c2
  have b0 : 0 ≤ ρ 0 ∧ ρ 0 ≤ 3 := b0
  have b2 : 1 ≤ ρ 2 ∧ ρ 2 ≤ 1 := b2
  have k0 : 0 + (-1 * ρ 0 + (1 * ρ 1 + 0)) ≤ 0 := k0
  have k1 : 0 + (1 * ρ 0 + (-1 * ρ 1 + 0)) ≤ 0 := k1
  have p0 : ρ0 1 = ρ 0 := p0
  have hd : 37 ≤ d := hd
  have g4 : yG4 h := by
    have := ysm_gu (a := 4) m2
    rw [sY_v] at this
    have q : ρ 2 = 1 := by omega
    have this : yGv t s c0 v0 ar 4 h = ρ 2 := this
    rw [q] at this
    exact yB_1.mp this
  have lw := ysm_u (k := 440) (by decide) (by decide +kernel) m1 13 rfl
  rw [sY_v] at lw
  have lw : yv h 440 13 = ρ 1 := lw
  obtain ⟨n, hn⟩ : ∃ x : Nat, ρ 0 = x := ⟨(ρ 0).toNat, by omega⟩
  obtain ⟨m, h', z, r1, r2, r3, G12, tx, hz⟩ := yread ht hp hG a0 c1 (n := n) (by omega) (by omega) (by omega) g4 (d := d) (by omega)
  have e13 : yv h' 440 13 = yv h 440 13 := yfv r3 (by decide +kernel)
  rcases hz with ⟨z1, G11⟩ | ⟨z1, z2⟩
  · have G9 : yG9 h' := by
      refine ⟨?_, ?_⟩
      · have := G12.1.1
        have := G12.2
        omega
      · intro k hk hk2
        rw [tx] at hk2
        by_cases hkn : k = n
        · subst hkn
          obtain ⟨u, j, e, q1, q2, q3, q4, q5, q6, q7⟩ := G11
          have hu : u = k := by
            rw [tx] at q2
            omega
          subst hu
          exact ⟨j, q3, q4, fun c hc => ycl_le q6 (q7 c hc)⟩
        · exact G12.1.2 k hk (by rw [e13]; omega)
    refine ⟨m, some (.inl z), h', r1, r2, smo_ok (md := yT36.2.2.2.1) (by decide +kernel) (fun _ _ hne => absurd rfl hne) r3, _, List.mem_cons_self .., yexM (fun j => ρ0 (j + 1)) (fun j _ => rfl) ya0 ya0 (ya1 ?_ (ya1 ?_ (ya1 ?_ ya0))) ?_⟩
    · refine ysm_p (k := 440) (by decide) (by decide +kernel) (by decide +kernel) 14 rfl ?_
      show _ = 0 + (1 * ρ0 1 + 0)
      rw [tx, p0]
      omega
    · refine ysm_g (a := 4) ?_
      show yB (yG4 h') = 1
      exact yB_1.mpr G12.1
    · refine ysm_g (a := 9) ?_
      show yB (yG9 h') = 1
      exact yB_1.mpr G9
    · show z.toInt = -1 + 0
      omega
  · refine ⟨m, some (.inl z), h', r1, r2, smo_ok (md := yT36.2.2.2.1) (by decide +kernel) (fun _ _ hne => absurd rfl hne) r3, _, List.mem_cons_of_mem _ (List.mem_cons_self ..), yexM (fun j => if j = 3 then z.toInt else ρ0 (j + 1)) ?_ (ya1 ?_ ya0) ya0 (ya1 ?_ ya0) ?_⟩
    · intro j hj
      have hj : j < 3 := hj
      show (if j = 3 then z.toInt else ρ0 (j + 1)) = _
      rw [if_neg (by omega)]
    · show 0 ≤ z.toInt ∧ z.toInt ≤ 250
      exact ⟨z1, z2⟩
    · refine ysm_g (a := 4) ?_
      show yB (yG4 h') = 1
      exact yB_1.mpr G12.1
    · show z.toInt = 0 + (1 * z.toInt + 0)
      omega
theorem yT37_ok {t s : Nat} (ht : t < 5) {c0 v0 : Nat → Int} {ar : Nat → Int32} (hp : yHy (yGv t s c0 v0 ar) 34) : ySum (yGv t s c0 v0 ar) yT37 := by
  intro args h ρ ρ0 hG hM d hd
  obtain ⟨⟨a0, -⟩, ⟨⟨c, c1, c2⟩, m1, m2, -⟩, ⟨b0, b1, b2, -⟩, -, -, -⟩ := yun hM
  have c2 : c.toInt = ρ 0 := c2
  have b0 : 4 ≤ ρ 0 ∧ ρ 0 ≤ 4 := b0
  have b1 : 0 ≤ ρ 1 ∧ ρ 1 ≤ 4 := b1
  have b2 : 1 ≤ ρ 2 ∧ ρ 2 ≤ 1 := b2
  have hd : 37 ≤ d := hd
  have g4 : yG4 h := by
    have := ysm_gu (a := 4) m2
    rw [sY_v] at this
    have q : ρ 2 = 1 := by omega
    have this : yGv t s c0 v0 ar 4 h = ρ 2 := this
    rw [q] at this
    exact yB_1.mp this
  have lw := ysm_u (k := 440) (by decide) (by decide +kernel) m1 13 rfl
  rw [sY_v] at lw
  have lw : yv h 440 13 = ρ 1 := lw
  obtain ⟨m, h', z, r1, r2, r3, G12, tx, hz⟩ := yread ht hp hG a0 c1 (n := 4) (by omega) (by omega) (by omega) g4 (d := d) (by omega)
  rcases hz with ⟨z1, -⟩ | ⟨z1, z2⟩
  · refine ⟨m, some (.inl z), h', r1, r2, smo_ok (md := yT37.2.2.2.1) (by decide +kernel) (fun _ _ hne => absurd rfl hne) r3, _, List.mem_cons_self .., yexM (fun j => ρ0 (j + 1)) (fun j _ => rfl) ya0 ya0 (ya1 ?_ ya0) ?_⟩
    · refine ysm_g (a := 4) ?_
      show yB (yG4 h') = 1
      exact yB_1.mpr G12.1
    · show z.toInt = -1 + 0
      omega
  · refine ⟨m, some (.inl z), h', r1, r2, smo_ok (md := yT37.2.2.2.1) (by decide +kernel) (fun _ _ hne => absurd rfl hne) r3, _, List.mem_cons_of_mem _ (List.mem_cons_self ..), yexM (fun j => if j = 3 then z.toInt else ρ0 (j + 1)) ?_ (ya1 ?_ ya0) ya0 (ya1 ?_ ya0) ?_⟩
    · intro j hj
      have hj : j < 3 := hj
      show (if j = 3 then z.toInt else ρ0 (j + 1)) = _
      rw [if_neg (by omega)]
    · show 0 ≤ z.toInt ∧ z.toInt ≤ 250
      exact ⟨z1, z2⟩
    · refine ysm_g (a := 4) ?_
      show yB (yG4 h') = 1
      exact yB_1.mpr G12.1
    · show z.toInt = 0 + (1 * z.toInt + 0)
      omega
