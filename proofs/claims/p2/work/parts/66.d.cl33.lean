/-! clause's contract -/
theorem ycl0 {h h' : zH} {n c e : Nat} (hco : ∀ i, i < 520 * n + e → yco h' i = yco h i ∧ yva h' i = yva h i) (e1 : yv h' 412 (140 * n + c) = yv h 412 (140 * n + c)) (e2 : yv h' 413 (140 * n + c) = yv h 413 (140 * n + c)) (e3 : yv h' 414 (140 * n + c) = yv h 414 (140 * n + c)) (H : ycl h n c e) : ycl h' n c e := by
  obtain ⟨tf, sf, st, a1, a2, a3, a4, a5, a6, w1, w2⟩ := H
  exact ⟨tf, sf, st, e1.trans a1, e2.trans a2, e3.trans a3, a4, a5, a6, ywf0 (fun i hi => hco i (by omega)) w1, ywf0 (fun i hi => hco i (by omega)) w2⟩
theorem ycl_mono {h : zH} {n c e e' : Nat} (he : e ≤ e') (H : ycl h n c e) : ycl h n c e' := by
  obtain ⟨tf, sf, st, a1, a2, a3, a4, a5, a6, w1, w2⟩ := H
  exact ⟨tf, sf, st, a1, a2, a3, a4, a5, Nat.le_trans a6 he, w1, w2⟩
theorem yT33_ok {t s : Nat} (ht : t < 5) {c0 v0 : Nat → Int} {ar : Nat → Int32} : ySum (yGv t s c0 v0 ar) yT33 := by
  intro args h ρ ρ0 hG hM d hd
  have hd : 35 ≤ d := hd
  obtain ⟨⟨r0, -⟩, ⟨m0, m1, m2, m3, m4, m5, m6, m7, m8, -⟩, ⟨b0, b1, b2, b3, b4, b5, b6, b7, b8, -⟩, ⟨k0, k1, k2, -⟩, ⟨p0, p1, p2, p3, p4, p5, p6, -⟩, -⟩ := yun hM
  have b0 : 0 ≤ ρ 0 ∧ ρ 0 ≤ 240 := b0
  have b1 : 0 ≤ ρ 1 ∧ ρ 1 ≤ 240 := b1
  have b2 : -1 ≤ ρ 2 ∧ ρ 2 ≤ -1 := b2
  have b3 : 0 ≤ ρ 3 ∧ ρ 3 ≤ 0 := b3
  have b4 : 0 ≤ ρ 4 ∧ ρ 4 ≤ 4 := b4
  have b5 : 0 ≤ ρ 5 ∧ ρ 5 ≤ 480 := b5
  have b6 : 0 ≤ ρ 6 ∧ ρ 6 ≤ 120 := b6
  have b7 : 1 ≤ ρ 7 ∧ ρ 7 ≤ 1 := b7
  have b8 : 1 ≤ ρ 8 ∧ ρ 8 ≤ 1 := b8
  have k0 : 0 + (1 * ρ 0 + (-1 * ρ 1 + 0)) ≤ 0 := k0
  have k1 : 0 + (-2 * ρ 0 + (1 * ρ 5 + 0)) ≤ 0 := k1
  have k2 : 0 + (-1 * ρ 0 + (2 * ρ 6 + 0)) ≤ 0 := k2
  have p0 : ρ0 1 = ρ 0 := p0
  have p1 : ρ0 2 = ρ 1 := p1
  have p4 : ρ0 5 = ρ 4 := p4
  have p5 : ρ0 6 = ρ 5 := p5
  have p6 : ρ0 7 = ρ 6 := p6
  have g11 : yG11 h := by
    have := ysm_gu (a := 11) m7
    rw [sY_v] at this
    have this : yGv t s c0 v0 ar 11 h = ρ 7 := this
    rw [show ρ 7 = 1 by omega] at this
    exact yB_1.mp this
  have g12 : yG12 h := by
    have := ysm_gu (a := 12) m8
    rw [sY_v] at this
    have this : yGv t s c0 v0 ar 12 h = ρ 8 := this
    rw [show ρ 8 = 1 by omega] at this
    exact yB_1.mp this
  have v3 := ysm_u (k := 440) (by decide) (by decide +kernel) m0 3 rfl
  have v2 := ysm_u (k := 440) (by decide) (by decide +kernel) m1 2 rfl
  have v4 := ysm_u (k := 440) (by decide) (by decide +kernel) m2 4 rfl
  have v5 := ysm_u (k := 440) (by decide) (by decide +kernel) m3 5 rfl
  have v14 := ysm_u (k := 440) (by decide) (by decide +kernel) m4 14 rfl
  rw [sY_v] at v3 v2 v4 v5 v14
  have v3 : yv h 440 3 = ρ 0 := v3
  have v2 : yv h 440 2 = ρ 1 := v2
  have v4 : yv h 440 4 = ρ 2 := v4
  have v5 : yv h 440 5 = ρ 3 := v5
  have v14 : yv h 440 14 = ρ 4 := v14
  obtain ⟨tx, htx⟩ : ∃ u : Nat, ρ 4 = u := ⟨(ρ 4).toNat, by omega⟩
  obtain ⟨s0, hs0⟩ : ∃ u : Nat, ρ 5 = u := ⟨(ρ 5).toNat, by omega⟩
  obtain ⟨n0, hn0⟩ : ∃ u : Nat, ρ 6 = u := ⟨(ρ 6).toNat, by omega⟩
  have vc := ysm_u (k := 410) (by decide) (by decide +kernel) m5 tx (by show 0 + (1 * ρ 4 + 0) = _; omega)
  have vk := ysm_u (k := 411) (by decide) (by decide +kernel) m6 tx (by show 0 + (1 * ρ 4 + 0) = _; omega)
  rw [sY_v] at vc vk
  have vc : yv h 410 tx = ρ 5 := vc
  have vk : yv h 411 tx = ρ 6 := vk
  have runB : ∀ q : Nat, q < 140 * tx + n0 → ∃ m r h', yrun m d 111 args h = some (r, h') ∧ (yv h' 412 q = yv h 412 q ∧ yv h' 413 q = yv h 413 q ∧ yv h' 414 q = yv h 414 q) := fun q hq => ycl_B (by omega) hG r0 (t := tx) (s0 := s0) (k0 := n0) (by omega) v3 v2 (by omega) (by omega) (by omega) (vc.trans hs0) (vk.trans hn0) b0 b1 (by omega) (by omega) (by omega) (by omega) (by omega) hq
  have runC : ∀ q : Nat, q < tx → ∃ m r h', yrun m d 111 args h = some (r, h') ∧ (yv h' 411 q = yv h 411 q) := fun q hq => ycl_C (by omega) hG r0 (t := tx) (s0 := s0) (k0 := n0) (by omega) v3 v2 (by omega) (by omega) (by omega) (vc.trans hs0) (vk.trans hn0) b0 b1 (by omega) (by omega) (by omega) (by omega) (by omega) hq
  obtain ⟨m, r, h', r1, rfl, hG', hF', hU, hE⟩ := ycl_A (d := d) (by omega) hG r0 (t := tx) (s0 := s0) (k0 := n0) (by omega) v3 v2 (by omega) (by omega) (by omega) (vc.trans hs0) (vk.trans hn0) b0 b1 (by omega) (by omega) (by omega) (by omega) (by omega)
  have fB : ∀ q : Nat, q < 140 * tx + n0 → yv h' 412 q = yv h 412 q ∧ yv h' 413 q = yv h 413 q ∧ yv h' 414 q = yv h 414 q := by
    intro q hq
    obtain ⟨m2, r2, h2, e1, e2⟩ := runB q hq
    have := yrun_u r1 e1
    cases this
    exact e2
  have fC : ∀ q : Nat, q < tx → yv h' 411 q = yv h 411 q := by
    intro q hq
    obtain ⟨m2, r2, h2, e1, e2⟩ := runC q hq
    have := yrun_u r1 e1
    cases this
    exact e2
  have co : ∀ i, i < 520 * tx + s0 → yco h' i = yco h i ∧ yva h' i = yva h i := by
    intro i hi
    unfold yco yva
    rw [if_pos (by omega), if_pos (by omega), if_pos (by omega), if_pos (by omega)]
    exact hU i (by omega) (Or.inl hi)
  have w14 : yv h' 440 14 = yv h 440 14 := yfv hF' (by decide +kernel)
  have w13 : yv h' 440 13 = yv h 440 13 := yfv hF' (by decide +kernel)
  have w25 : yv h' 440 25 = yv h 440 25 := yfv hF' (by decide +kernel)
  have G12 : yG12 h' := by
    obtain ⟨⟨a1, a2⟩, a3⟩ := g12
    refine ⟨⟨by rw [w25, w13]; exact a1, ?_⟩, by rw [w13, w14]; exact a3⟩
    intro n h1 h2
    rw [w13] at h2
    obtain ⟨k, q1, q2, q3⟩ := a2 n h1 h2
    have hnt : n < tx := by omega
    refine ⟨k, (fC n hnt).trans q1, q2, ?_⟩
    intro c hc
    have := fB (140 * n + c) (by omega)
    exact ycl0 (fun i hi => co i (by omega)) this.1 this.2.1 this.2.2 (q3 c hc)
  have hF2 : sF yReg yT33.2.2.2.1 h h' := by
    refine smo_ok (md := yT33.2.2.2.1) (d := (120, 3, 3) :: (120, 4, 4) :: (120, 5, 5) :: yQ_clA.2.2.2.1.drop 1) (by decide +kernel) (fun _ _ hne => absurd rfl hne) ?_
    intro k i hne
    obtain ⟨z, hz, f1, f2, f3⟩ := hF' k i hne
    rcases List.mem_cons.mp (show z ∈ (120, 3, 5) :: yQ_clA.2.2.2.1.drop 1 from hz) with rfl | hz
    · have f2 : (3 : Int) ≤ (i : Int) := f2
      have f3 : (i : Int) ≤ 5 := f3
      rcases (show i = 3 ∨ i = 4 ∨ i = 5 by omega) with rfl | rfl | rfl
      · exact ⟨(120, 3, 3), List.mem_cons_self .., f1, Int.le_refl _, Int.le_refl _⟩
      · exact ⟨(120, 4, 4), List.mem_cons_of_mem _ (List.mem_cons_self ..), f1, Int.le_refl _, Int.le_refl _⟩
      · exact ⟨(120, 5, 5), List.mem_cons_of_mem _ (List.mem_cons_of_mem _ (List.mem_cons_self ..)), f1, Int.le_refl _, Int.le_refl _⟩
    · exact ⟨z, List.mem_cons_of_mem _ (List.mem_cons_of_mem _ (List.mem_cons_of_mem _ hz)), f1, f2, f3⟩
  rcases hE with ⟨⟨a1, a1'⟩, a2, a3, a4, a5, sf, e, f1, f2, f3, f4, f5, f6, f7, f8, f9, f10⟩ | ⟨x1, x2, x3, x4, x5⟩
  · have G11 : yG11 h' := by
      obtain ⟨u, k, e0, q1, q2, q3, q4, q5, q6, q7⟩ := g11
      have hu : u = tx := by omega
      subst hu
      have hk : k = n0 := by omega
      have he0 : e0 = s0 := by omega
      subst hk he0
      refine ⟨u, k + 1, e, q1, w14.trans q2, by rw [a4]; rfl, by omega, f1, by omega, ?_⟩
      intro c hc
      by_cases hck : c < k
      · have := fB (140 * u + c) (by omega)
        exact ycl_mono (by omega) (ycl0 (fun i hi => co i hi) this.1 this.2.1 this.2.2 (q7 c hck))
      · have : c = k := by omega
        subst this
        exact ⟨e0, sf, e, f6, f7, f8, f4, f5, Nat.le_refl _, f9, f10⟩
    refine ⟨m, none, h', r1, hG', hF2, _, List.mem_cons_self .., yexM (fun j => if j = 9 then yv h' 440 3 else if j = 10 then (e : Int) else ρ0 (j + 1)) ?_ (ya1 ?_ (ya1 ?_ ya0)) (ya1 ?_ (ya1 ?_ (ya1 ?_ (ya1 ?_ ya0)))) (ya1 ?_ (ya1 ?_ (ya1 ?_ (ya1 ?_ (ya1 ?_ (ya1 ?_ (ya1 ?_ ya0))))))) trivial⟩
    · intro j hj
      have hj : j < 9 := hj
      show (if j = 9 then yv h' 440 3 else if j = 10 then (e : Int) else ρ0 (j + 1)) = _
      rw [if_neg (by omega), if_neg (by omega)]
    · show 0 ≤ yv h' 440 3 ∧ yv h' 440 3 ≤ 240
      omega
    · show 0 ≤ (e : Int) ∧ (e : Int) ≤ 481
      omega
    · show 0 + (1 * ρ0 1 + (-1 * yv h' 440 3 + 0)) ≤ 0
      omega
    · show 0 + (-1 * ρ0 2 + (1 * yv h' 440 3 + 0)) ≤ 0
      omega
    · show -1 + (-2 * yv h' 440 3 + (1 * (e : Int) + 0)) ≤ 0
      omega
    · show 2 + (2 * ρ0 7 + (-1 * yv h' 440 3 + 0)) ≤ 0
      omega
    · refine ysm_p (k := 440) (by decide) (by decide +kernel) (by decide +kernel) 3 rfl ?_
      show yv h' 440 3 = 0 + (1 * yv h' 440 3 + 0)
      omega
    · exact ysm_p (k := 440) (by decide) (by decide +kernel) (by decide +kernel) 4 rfl a2
    · exact ysm_p (k := 440) (by decide) (by decide +kernel) (by decide +kernel) 5 rfl a3
    · refine ysm_p (k := 410) (by decide) (by decide +kernel) (by decide +kernel) tx ?_ ?_
      · show 0 + (1 * ρ0 5 + 0) = _
        omega
      · show yv h' 410 tx = 0 + (1 * (e : Int) + 0)
        omega
    · refine ysm_p (k := 411) (by decide) (by decide +kernel) (by decide +kernel) tx ?_ ?_
      · show 0 + (1 * ρ0 5 + 0) = _
        omega
      · show yv h' 411 tx = 1 + (1 * ρ0 7 + 0)
        omega
    · refine ysm_g (a := 11) ?_
      show yB (yG11 h') = 1
      exact yB_1.mpr G11
    · refine ysm_g (a := 12) ?_
      show yB (yG12 h') = 1
      exact yB_1.mpr G12
  · refine ⟨m, none, h', r1, hG', hF2, _, List.mem_cons_of_mem _ (List.mem_cons_self ..), yexM (fun j => if j = 9 then yv h' 440 3 else if j = 10 then yv h' 440 4 else if j = 11 then yv h' 440 5 else if j = 12 then yv h' 410 tx else if j = 13 then yv h' 411 tx else ρ0 (j + 1)) ?_ (ya1 x1 (ya1 x2 (ya1 x3 (ya1 x4 (ya1 x5 ya0))))) ya0 (ya1 ?_ (ya1 ?_ (ya1 ?_ (ya1 ?_ (ya1 ?_ (ya1 ?_ ya0)))))) trivial⟩
    · intro j hj
      have hj : j < 9 := hj
      show (if j = 9 then yv h' 440 3 else if j = 10 then yv h' 440 4 else if j = 11 then yv h' 440 5 else if j = 12 then yv h' 410 tx else if j = 13 then yv h' 411 tx else ρ0 (j + 1)) = _
      rw [if_neg (by omega), if_neg (by omega), if_neg (by omega), if_neg (by omega), if_neg (by omega)]
    · refine ysm_p (k := 440) (by decide) (by decide +kernel) (by decide +kernel) 3 rfl ?_
      show yv h' 440 3 = 0 + (1 * yv h' 440 3 + 0)
      omega
    · refine ysm_p (k := 440) (by decide) (by decide +kernel) (by decide +kernel) 4 rfl ?_
      show yv h' 440 4 = 0 + (1 * yv h' 440 4 + 0)
      omega
    · refine ysm_p (k := 440) (by decide) (by decide +kernel) (by decide +kernel) 5 rfl ?_
      show yv h' 440 5 = 0 + (1 * yv h' 440 5 + 0)
      omega
    · refine ysm_p (k := 410) (by decide) (by decide +kernel) (by decide +kernel) tx ?_ ?_
      · show 0 + (1 * ρ0 5 + 0) = _
        omega
      · show yv h' 410 tx = 0 + (1 * yv h' 410 tx + 0)
        omega
    · refine ysm_p (k := 411) (by decide) (by decide +kernel) (by decide +kernel) tx ?_ ?_
      · show 0 + (1 * ρ0 5 + 0) = _
        omega
      · show yv h' 411 tx = 0 + (1 * yv h' 411 tx + 0)
        omega
    · refine ysm_g (a := 12) ?_
      show yB (yG12 h') = 1
      exact yB_1.mpr G12
