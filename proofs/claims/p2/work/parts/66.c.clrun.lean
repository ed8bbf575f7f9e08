/-! clause, by hand: its run cut where the sum begins -/
theorem yCut {Q : sQ} {L : List (Nat × List sAp)} {Qs : List sQ} {cut : Nat} (hc : (ySeg 500 Q L Qs 0 Q.2.1 [] && L.all (fun p => p.1 == cut || p.2.all (fun A => ySeg 500 Q L Qs p.1 A.1 A.2))) = true) : ∀ pc A, A ∈ slab Q L pc → pc ≠ cut → ∃ sp : List (sE × List Int), ∀ S ∈ ssps sp [sAs A], sseg yPI yMl yMr yFld yKI yKL yGst yLdS yFldS yAcp yCal yReg yRin ySin yG yGu (slab Q L) Qs Q.2.2.2.1 Q.2.2.2.2 Q.2.1.2.1.length Q.2.2.1 Q.1 500 pc true S = true := by
  intro pc A hA hne
  rw [Bool.and_eq_true] at hc
  have hf : ∀ (A : sA), A ∈ (slb0 L pc).map (·.1) → ∃ sp, ySeg 500 Q L Qs pc A sp = true := by
    intro A hA
    obtain ⟨B, hB, rfl⟩ := List.mem_map.mp hA
    unfold slb0 at hB
    cases hl : L.find? (fun p => p.1 == pc) with
    | none => rw [hl] at hB; cases hB
    | some p =>
      rw [hl] at hB
      have h1 : p.1 = pc := by have := List.find?_some hl; simpa using this
      have := (List.all_eq_true.mp hc.2) p (List.mem_of_find?_eq_some hl)
      rw [h1] at this
      rcases Bool.or_eq_true_iff.mp this with q | q
      · exact absurd (by simpa using q) hne
      · exact ⟨_, (List.all_eq_true.mp q) B hB⟩
  have key : ∃ sp, ySeg 500 Q L Qs pc A sp = true := by
    unfold slab at hA
    by_cases h0 : pc = 0
    · rw [if_pos h0] at hA
      rcases List.mem_cons.mp hA with rfl | hA
      · rw [h0]
        exact ⟨_, hc.1⟩
      · exact hf A (by rw [h0]; exact hA)
    · rw [if_neg h0] at hA
      exact hf A hA
  obtain ⟨sp, hs⟩ := key
  exact ⟨sp, List.all_eq_true.mp hs⟩
/-- the first six contracts by hand -/
theorem yHy6 {t s : Nat} (ht : t < 5) {c0 v0 : Nat → Int} {ar : Nat → Int32} : yHy (yGv t s c0 v0 ar) 6 := by
  intro i Q hi e
  match i, hi, e with
  | 0, _, e => cases e; exact yT0_ok ht
  | 1, _, e => cases e; exact yT1_ok ht
  | 2, _, e => cases e; exact yT2_ok ht
  | 3, _, e => cases e; exact yT3_ok ht
  | 4, _, e => cases e; exact yT4_ok ht
  | 5, _, e => cases e; exact yT5_ok ht
  | k + 6, hi, _ => omega
noncomputable def yclU (t s0 : Nat) (h h' : zH) : Prop := ∀ i, i < 2600 → (i < 520 * t + s0 ∨ 520 * t + 520 ≤ i) → yv h' 408 i = yv h 408 i ∧ yv h' 409 i = yv h 409 i
noncomputable def yclG (t s0 k0 : Nat) (a0 z : Int) (h' : zH) : Prop := (a0 ≤ yv h' 440 3 ∧ yv h' 440 3 ≤ z) ∧ yv h' 440 4 = -1 ∧ yv h' 440 5 = 0 ∧ yv h' 411 t = k0 + 1 ∧ 2 * (k0 : Int) + 2 ≤ yv h' 440 3 ∧ ∃ sf e : Nat, yv h' 410 t = e ∧ (e : Int) ≤ 2 * yv h' 440 3 + 1 ∧ e ≤ 481 ∧ s0 ≤ sf ∧ sf ≤ e ∧ yv h' 412 (140 * t + k0) = s0 ∧ yv h' 413 (140 * t + k0) = sf ∧ yv h' 414 (140 * t + k0) = e ∧ ywf h' (520 * t + s0) (sf - s0) ∧ ywf h' (520 * t + sf) (e - sf)
noncomputable def yclX (t : Nat) (h' : zH) : Prop := (0 ≤ yv h' 440 3 ∧ yv h' 440 3 ≤ 250) ∧ (0 ≤ yv h' 440 4 ∧ yv h' 440 4 ≤ 250) ∧ (0 ≤ yv h' 440 5 ∧ yv h' 440 5 ≤ 10) ∧ (0 ≤ yv h' 410 t ∧ yv h' 410 t ≤ 519) ∧ (0 ≤ yv h' 411 t ∧ yv h' 411 t ≤ 139)
theorem ycl_A {d : Nat} (hd : 34 ≤ d) {h : zH} (hG : sG yReg yG h) {args : List zV} (ar0 : yrf (zent 0 args) 0 (0, 120)) {a0 z : Int} {t s0 k0 : Nat} (ht : t < 5) (e3 : yv h 440 3 = a0) (e2 : yv h 440 2 = z) (e4 : yv h 440 4 = -1) (e5 : yv h 440 5 = 0) (e14 : yv h 440 14 = t) (ec : yv h 410 t = s0) (ek : yv h 411 t = k0) (b0 : 0 ≤ a0 ∧ a0 ≤ 240) (bz : 0 ≤ z ∧ z ≤ 240) (bs : s0 ≤ 480) (bk : k0 ≤ 120) (k1 : a0 ≤ z) (k2 : (s0 : Int) ≤ 2 * a0) (k3 : 2 * (k0 : Int) ≤ a0) : ∃ m r h', yrun m d 111 args h = some (r, h') ∧ (r = none ∧ sG yReg yG h' ∧ sF yReg yQ_clA.2.2.2.1 h h' ∧ yclU t s0 h h' ∧ (yclG t s0 k0 a0 z h' ∨ yclX t h')) := by
  have hn0 : (yv h 410 t - (s0 : Int)).toNat = 0 := by rw [ec]; omega
  have hM : sMt yReg (yGv t s0 (yv h 408) (yv h 409) (fun _ => 0)) (yρ [a0, z, (-1), 0, (t : Int), (s0 : Int), (k0 : Int), 0, 1, 1]) (yρ0 [a0, z, (-1), 0, (t : Int), (s0 : Int), (k0 : Int), 0, 1, 1] yQ_clA1.2.1.2.2.2.2.2) (sAs yQ_clA1.2.1) (zent 0 args) [] h := by
    refine ymk (ya1 ar0 ya0) (ya1 (yvr2 (ysm_p (k := 440) (by decide) (by decide +kernel) (by decide +kernel) (3) ?_ ?_)) (ya1 (yvr2 (ysm_p (k := 440) (by decide) (by decide +kernel) (by decide +kernel) (2) ?_ ?_)) (ya1 (yvr2 (ysm_p (k := 440) (by decide) (by decide +kernel) (by decide +kernel) (4) ?_ ?_)) (ya1 (yvr2 (ysm_p (k := 440) (by decide) (by decide +kernel) (by decide +kernel) (5) ?_ ?_)) (ya1 (yvr2 (ysm_p (k := 440) (by decide) (by decide +kernel) (by decide +kernel) (14) ?_ ?_)) (ya1 (yvr2 (ysm_p (k := 410) (by decide) (by decide +kernel) (by decide +kernel) (t) ?_ ?_)) (ya1 (yvr2 (ysm_p (k := 411) (by decide) (by decide +kernel) (by decide +kernel) (t) ?_ ?_)) (ya1 (yvr2 (ysm_g (a := 0) ?_)) (ya1 (yvr2 (ysm_g (a := 1) ?_)) (ya1 (yvr2 (ysm_g (a := 8) ?_)) ya0)))))))))) (ya1 ?_ (ya1 ?_ (ya1 ?_ (ya1 ?_ (ya1 ?_ (ya1 ?_ (ya1 ?_ (ya1 ?_ (ya1 ?_ (ya1 ?_ ya0)))))))))) (ya1 ?_ (ya1 ?_ (ya1 ?_ ya0))) (ya1 rfl (ya1 rfl (ya1 rfl (ya1 rfl (ya1 rfl (ya1 rfl (ya1 rfl (ya1 rfl (ya1 rfl (ya1 rfl ya0)))))))))) rfl
    · rfl
    · rw [sY_v]; exact e3
    · rfl
    · rw [sY_v]; exact e2
    · rfl
    · rw [sY_v]; exact e4
    · rfl
    · rw [sY_v]; exact e5
    · rfl
    · rw [sY_v]; exact e14
    · show 0 + (1 * (t : Int) + 0) = t; omega
    · rw [sY_v]; exact ec
    · show 0 + (1 * (t : Int) + 0) = t; omega
    · rw [sY_v]; exact ek
    · rw [sY_v]; show yht h (520 * t + s0) (yv h 410 t - (s0 : Int)).toNat = 0; rw [hn0]; rfl
    · rw [sY_v]; show yB (yG1 t s0 h) = 1; exact yB_1.mpr ⟨e14, by rw [ec]; exact Int.le_refl _, by rw [hn0]; exact fun j hj => absurd hj (Nat.not_lt_zero j)⟩
    · rw [sY_v]; show yB (yG8 t s0 (yv h 408) (yv h 409) h) = 1; exact yB_1.mpr ⟨e14, by rw [ec]; exact Int.le_refl _, fun i _ _ => ⟨rfl, rfl⟩⟩
    · show (0 : Int) ≤ a0 ∧ a0 ≤ (240 : Int); omega
    · show (0 : Int) ≤ z ∧ z ≤ (240 : Int); omega
    · show (-1 : Int) ≤ (-1 : Int) ∧ (-1 : Int) ≤ (-1 : Int); omega
    · show (0 : Int) ≤ (0 : Int) ∧ (0 : Int) ≤ (0 : Int); omega
    · show (0 : Int) ≤ (t : Int) ∧ (t : Int) ≤ (4 : Int); omega
    · show (0 : Int) ≤ (s0 : Int) ∧ (s0 : Int) ≤ (480 : Int); omega
    · show (0 : Int) ≤ (k0 : Int) ∧ (k0 : Int) ≤ (120 : Int); omega
    · show (0 : Int) ≤ (0 : Int) ∧ (0 : Int) ≤ (0 : Int); omega
    · show (1 : Int) ≤ (1 : Int) ∧ (1 : Int) ≤ (1 : Int); omega
    · show (1 : Int) ≤ (1 : Int) ∧ (1 : Int) ≤ (1 : Int); omega
    · show 0 + (1 * a0 + (-1 * z + 0)) ≤ 0; omega
    · show 0 + (-2 * a0 + (1 * (s0 : Int) + 0)) ≤ 0; omega
    · show 0 + (-1 * a0 + (2 * (k0 : Int) + 0)) ≤ 0; omega
  refine smeth3 (Q := yQ_clA1) (labs := slab yQ_clA1 yL_clA) (F := 500) (cut := 247) (P := fun r h' => r = none ∧ sG yReg yG h' ∧ sF yReg yQ_clA.2.2.2.1 h h' ∧ yclU t s0 h h' ∧ (yclG t s0 k0 a0 z h' ∨ yclX t h')) yComp ySing yCell yR1000 (yGvOk ht) (yHs_clA (yGvOk ht) (yHy6 ht)) (yCut yC_clA) (h := h) (ρ0 := yρ0 [a0, z, (-1), 0, (t : Int), (s0 : Int), (k0 : Int), 0, 1, 1] yQ_clA1.2.1.2.2.2.2.2) hd ?_ ?_ _ 0 _ (List.mem_cons_self ..) (zent 0 args) h _ _ (Nat.le_refl _) (fun _ => rfl) hM hG (fun _ _ hne => absurd rfl hne)
  · intro r h' hG' hF' hE
    refine yone hE (ya1 ?_ (ya1 ?_ (ya1 ?_ (ya1 ?_ (ya1 ?_ ya0)))))
    · intro hX
      obtain ⟨ρx, a, ⟨n0, n1, -⟩, -, ⟨m0, m1, m2, m3, m4, g8, -⟩, hr⟩ := yexU hX
      have x0 : ρx 0 = a0 := a 0 (by decide)
      have x1 : ρx 1 = z := a 1 (by decide)
      have x2 : ρx 2 = (-1) := a 2 (by decide)
      have x3 : ρx 3 = 0 := a 3 (by decide)
      have x4 : ρx 4 = (t : Int) := a 4 (by decide)
      have x5 : ρx 5 = (s0 : Int) := a 5 (by decide)
      have x6 : ρx 6 = (k0 : Int) := a 6 (by decide)
      have x7 : ρx 7 = 0 := a 7 (by decide)
      have x8 : ρx 8 = 1 := a 8 (by decide)
      have x9 : ρx 9 = 1 := a 9 (by decide)
      have hr : r = none := by
        match r, hr with
        | none, _ => rfl
      have v3 := ysm_u (k := 440) (by decide) (by decide +kernel) m0 3 rfl
      have v4 := ysm_u (k := 440) (by decide) (by decide +kernel) m1 4 rfl
      have v5 := ysm_u (k := 440) (by decide) (by decide +kernel) m2 5 rfl
      have vc := ysm_u (k := 410) (by decide) (by decide +kernel) m3 t (by show 0 + (1 * ρx 4 + 0) = _; rw [x4]; omega)
      have vk := ysm_u (k := 411) (by decide) (by decide +kernel) m4 t (by show 0 + (1 * ρx 4 + 0) = _; rw [x4]; omega)
      have g8 : yG8 t s0 (yv h 408) (yv h 409) h' := by
        have q := ysm_gu (a := 8) g8
        have q : yB (yG8 t s0 (yv h 408) (yv h 409) h') = 0 + (1 * ρx 9 + 0) := q
        rw [x9] at q
        exact yB_1.mp q
      have n0 : 2 ≤ ρx 10 ∧ ρx 10 ≤ 242 := n0
      have n1 : 0 ≤ ρx 11 ∧ ρx 11 ≤ 240 := n1
      have v3 : yv h' 440 3 = 0 + (1 * ρx 10 + 0) := v3
      have v4 : yv h' 440 4 = 0 + (1 * ρx 11 + 0) := v4
      have v5 : yv h' 440 5 = 0 + (1 * ρx 3 + 0) := v5
      have vc : yv h' 410 t = 0 + (1 * ρx 5 + 0) := vc
      have vk : yv h' 411 t = 0 + (1 * ρx 6 + 0) := vk
      exact ⟨hr, hG', hF', (fun i i1 i2 => g8.2.2 i i1 i2), Or.inr ⟨by omega, by omega, by omega, by omega, by omega⟩⟩
    · intro hX
      obtain ⟨ρx, a, ⟨n0, n1, -, n3, n4, -⟩, ⟨-, -, c2, c3, c4, c5, -⟩, ⟨m0, m1, m2, m3, m4, -, g1, g8, w1, w2, w3, -⟩, hr⟩ := yexU hX
      have x0 : ρx 0 = a0 := a 0 (by decide)
      have x1 : ρx 1 = z := a 1 (by decide)
      have x2 : ρx 2 = (-1) := a 2 (by decide)
      have x3 : ρx 3 = 0 := a 3 (by decide)
      have x4 : ρx 4 = (t : Int) := a 4 (by decide)
      have x5 : ρx 5 = (s0 : Int) := a 5 (by decide)
      have x6 : ρx 6 = (k0 : Int) := a 6 (by decide)
      have x7 : ρx 7 = 0 := a 7 (by decide)
      have x8 : ρx 8 = 1 := a 8 (by decide)
      have x9 : ρx 9 = 1 := a 9 (by decide)
      have hr : r = none := by
        match r, hr with
        | none, _ => rfl
      have v3 := ysm_u (k := 440) (by decide) (by decide +kernel) m0 3 rfl
      have v4 := ysm_u (k := 440) (by decide) (by decide +kernel) m1 4 rfl
      have v5 := ysm_u (k := 440) (by decide) (by decide +kernel) m2 5 rfl
      have vc := ysm_u (k := 410) (by decide) (by decide +kernel) m3 t (by show 0 + (1 * ρx 4 + 0) = _; rw [x4]; omega)
      have vk := ysm_u (k := 411) (by decide) (by decide +kernel) m4 t (by show 0 + (1 * ρx 4 + 0) = _; rw [x4]; omega)
      have n0 : 2 ≤ ρx 10 ∧ ρx 10 ≤ 240 := n0
      have n1 : 1 ≤ ρx 11 ∧ ρx 11 ≤ 481 := n1
      have n3 : 1 ≤ ρx 13 ∧ ρx 13 ≤ 1 := n3
      have n4 : 1 ≤ ρx 14 ∧ ρx 14 ≤ 1 := n4
      have y14 : ρx 14 = 1 := by omega
      have y13 : ρx 13 = 1 := by omega
      have g8 : yG8 t s0 (yv h 408) (yv h 409) h' := by
        have q := ysm_gu (a := 8) g8
        have q : yB (yG8 t s0 (yv h 408) (yv h 409) h') = 0 + (1 * ρx 14 + 0) := q
        rw [y14] at q
        exact yB_1.mp q
      have g1 : yG1 t s0 h' := by
        have q := ysm_gu (a := 1) g1
        have q : yB (yG1 t s0 h') = 0 + (1 * ρx 13 + 0) := q
        rw [y13] at q
        exact yB_1.mp q
      have c2 : 0 + (1 * ρx 0 + (-1 * ρx 10 + 0)) ≤ 0 := c2
      have c3 : 0 + (-1 * ρx 1 + (1 * ρx 10 + 0)) ≤ 0 := c3
      have c4 : -1 + (-2 * ρx 10 + (1 * ρx 11 + 0)) ≤ 0 := c4
      have c5 : 2 + (2 * ρx 6 + (-1 * ρx 10 + 0)) ≤ 0 := c5
      have w1 := ysm_u (k := 412) (by decide) (by decide +kernel) w1 (140 * t + k0) (by show 0 + (140 * ρx 4 + (1 * ρx 6 + 0)) = _; rw [x4, x6]; omega)
      have w2 := ysm_u (k := 413) (by decide) (by decide +kernel) w2 (140 * t + k0) (by show 0 + (140 * ρx 4 + (1 * ρx 6 + 0)) = _; rw [x4, x6]; omega)
      have w3 := ysm_u (k := 414) (by decide) (by decide +kernel) w3 (140 * t + k0) (by show 0 + (140 * ρx 4 + (1 * ρx 6 + 0)) = _; rw [x4, x6]; omega)
      have v3 : yv h' 440 3 = 0 + (1 * ρx 10 + 0) := v3
      have v4 : yv h' 440 4 = 0 + (1 * ρx 2 + 0) := v4
      have v5 : yv h' 440 5 = 0 + (1 * ρx 3 + 0) := v5
      have vc : yv h' 410 t = 0 + (1 * ρx 11 + 0) := vc
      have vk : yv h' 411 t = 1 + (1 * ρx 6 + 0) := vk
      have w1 : yv h' 412 (140 * t + k0) = 0 + (1 * ρx 5 + 0) := w1
      have w2 : yv h' 413 (140 * t + k0) = 0 + (1 * ρx 5 + 0) := w2
      have w3 : yv h' 414 (140 * t + k0) = 0 + (1 * ρx 11 + 0) := w3
      obtain ⟨e, he⟩ : ∃ e : Nat, ρx 11 = e := ⟨(ρx 11).toNat, by omega⟩
      have q2 := g1.2.1
      have q3 := g1.2.2
      rw [show (yv h' 410 t - (s0 : Int)).toNat = e - s0 by omega] at q3
      refine ⟨hr, hG', hF', (fun i i1 i2 => g8.2.2 i i1 i2), Or.inl ⟨by omega, by omega, by omega, by omega, by omega, s0, e, by omega, by omega, by omega, Nat.le_refl _, by omega, by omega, by omega, by omega, ?_, q3⟩⟩
      rw [Nat.sub_self]
      exact fun j hj => absurd hj (Nat.not_lt_zero j)
    · intro hX
      obtain ⟨ρx, a, ⟨n0, n1, n2, n3, n4, -⟩, -, ⟨m0, m1, m2, m3, m4, g8, -⟩, hr⟩ := yexU hX
      have x0 : ρx 0 = a0 := a 0 (by decide)
      have x1 : ρx 1 = z := a 1 (by decide)
      have x2 : ρx 2 = (-1) := a 2 (by decide)
      have x3 : ρx 3 = 0 := a 3 (by decide)
      have x4 : ρx 4 = (t : Int) := a 4 (by decide)
      have x5 : ρx 5 = (s0 : Int) := a 5 (by decide)
      have x6 : ρx 6 = (k0 : Int) := a 6 (by decide)
      have x7 : ρx 7 = 0 := a 7 (by decide)
      have x8 : ρx 8 = 1 := a 8 (by decide)
      have x9 : ρx 9 = 1 := a 9 (by decide)
      have hr : r = none := by
        match r, hr with
        | none, _ => rfl
      have v3 := ysm_u (k := 440) (by decide) (by decide +kernel) m0 3 rfl
      have v4 := ysm_u (k := 440) (by decide) (by decide +kernel) m1 4 rfl
      have v5 := ysm_u (k := 440) (by decide) (by decide +kernel) m2 5 rfl
      have vc := ysm_u (k := 410) (by decide) (by decide +kernel) m3 t (by show 0 + (1 * ρx 4 + 0) = _; rw [x4]; omega)
      have vk := ysm_u (k := 411) (by decide) (by decide +kernel) m4 t (by show 0 + (1 * ρx 4 + 0) = _; rw [x4]; omega)
      have n0 : 2 ≤ ρx 10 ∧ ρx 10 ≤ 246 := n0
      have n1 : 2 ≤ ρx 11 ∧ ρx 11 ≤ 240 := n1
      have n2 : 0 ≤ ρx 12 ∧ ρx 12 ≤ 1 := n2
      have n3 : 0 ≤ ρx 13 ∧ ρx 13 ≤ 493 := n3
      have n4 : 1 ≤ ρx 14 ∧ ρx 14 ≤ 1 := n4
      have y14 : ρx 14 = 1 := by omega
      have g8 : yG8 t s0 (yv h 408) (yv h 409) h' := by
        have q := ysm_gu (a := 8) g8
        have q : yB (yG8 t s0 (yv h 408) (yv h 409) h') = 0 + (1 * ρx 14 + 0) := q
        rw [y14] at q
        exact yB_1.mp q
      have v3 : yv h' 440 3 = 0 + (1 * ρx 10 + 0) := v3
      have v4 : yv h' 440 4 = 0 + (1 * ρx 11 + 0) := v4
      have v5 : yv h' 440 5 = 0 + (1 * ρx 12 + 0) := v5
      have vc : yv h' 410 t = 0 + (1 * ρx 13 + 0) := vc
      have vk : yv h' 411 t = 1 + (1 * ρx 6 + 0) := vk
      exact ⟨hr, hG', hF', (fun i i1 i2 => g8.2.2 i i1 i2), Or.inr ⟨by omega, by omega, by omega, by omega, by omega⟩⟩
    · intro hX
      obtain ⟨ρx, a, ⟨n0, n1, n2, n3, -⟩, -, ⟨m0, m1, m2, m3, m4, g8, -⟩, hr⟩ := yexU hX
      have x0 : ρx 0 = a0 := a 0 (by decide)
      have x1 : ρx 1 = z := a 1 (by decide)
      have x2 : ρx 2 = (-1) := a 2 (by decide)
      have x3 : ρx 3 = 0 := a 3 (by decide)
      have x4 : ρx 4 = (t : Int) := a 4 (by decide)
      have x5 : ρx 5 = (s0 : Int) := a 5 (by decide)
      have x6 : ρx 6 = (k0 : Int) := a 6 (by decide)
      have x7 : ρx 7 = 0 := a 7 (by decide)
      have x8 : ρx 8 = 1 := a 8 (by decide)
      have x9 : ρx 9 = 1 := a 9 (by decide)
      have hr : r = none := by
        match r, hr with
        | none, _ => rfl
      have v3 := ysm_u (k := 440) (by decide) (by decide +kernel) m0 3 rfl
      have v4 := ysm_u (k := 440) (by decide) (by decide +kernel) m1 4 rfl
      have v5 := ysm_u (k := 440) (by decide) (by decide +kernel) m2 5 rfl
      have vc := ysm_u (k := 410) (by decide) (by decide +kernel) m3 t (by show 0 + (1 * ρx 4 + 0) = _; rw [x4]; omega)
      have vk := ysm_u (k := 411) (by decide) (by decide +kernel) m4 t (by show 0 + (1 * ρx 4 + 0) = _; rw [x4]; omega)
      have n0 : 3 ≤ ρx 10 ∧ ρx 10 ≤ 240 := n0
      have n1 : 3 ≤ ρx 11 ∧ ρx 11 ≤ 240 := n1
      have n2 : 2 ≤ ρx 12 ∧ ρx 12 ≤ 481 := n2
      have n3 : 1 ≤ ρx 13 ∧ ρx 13 ≤ 1 := n3
      have y13 : ρx 13 = 1 := by omega
      have g8 : yG8 t s0 (yv h 408) (yv h 409) h' := by
        have q := ysm_gu (a := 8) g8
        have q : yB (yG8 t s0 (yv h 408) (yv h 409) h') = 0 + (1 * ρx 13 + 0) := q
        rw [y13] at q
        exact yB_1.mp q
      have v3 : yv h' 440 3 = 0 + (1 * ρx 10 + 0) := v3
      have v4 : yv h' 440 4 = 0 + (1 * ρx 11 + 0) := v4
      have v5 : yv h' 440 5 = 0 + (1 * ρx 3 + 0) := v5
      have vc : yv h' 410 t = 0 + (1 * ρx 12 + 0) := vc
      have vk : yv h' 411 t = 0 + (1 * ρx 6 + 0) := vk
      exact ⟨hr, hG', hF', (fun i i1 i2 => g8.2.2 i i1 i2), Or.inr ⟨by omega, by omega, by omega, by omega, by omega⟩⟩
    · intro hX
      obtain ⟨ρx, a, ⟨n0, n1, n2, n3, n4, -⟩, -, ⟨m0, m1, m2, m3, m4, g8, -⟩, hr⟩ := yexU hX
      have x0 : ρx 0 = a0 := a 0 (by decide)
      have x1 : ρx 1 = z := a 1 (by decide)
      have x2 : ρx 2 = (-1) := a 2 (by decide)
      have x3 : ρx 3 = 0 := a 3 (by decide)
      have x4 : ρx 4 = (t : Int) := a 4 (by decide)
      have x5 : ρx 5 = (s0 : Int) := a 5 (by decide)
      have x6 : ρx 6 = (k0 : Int) := a 6 (by decide)
      have x7 : ρx 7 = 0 := a 7 (by decide)
      have x8 : ρx 8 = 1 := a 8 (by decide)
      have x9 : ρx 9 = 1 := a 9 (by decide)
      have hr : r = none := by
        match r, hr with
        | none, _ => rfl
      have v3 := ysm_u (k := 440) (by decide) (by decide +kernel) m0 3 rfl
      have v4 := ysm_u (k := 440) (by decide) (by decide +kernel) m1 4 rfl
      have v5 := ysm_u (k := 440) (by decide) (by decide +kernel) m2 5 rfl
      have vc := ysm_u (k := 410) (by decide) (by decide +kernel) m3 t (by show 0 + (1 * ρx 4 + 0) = _; rw [x4]; omega)
      have vk := ysm_u (k := 411) (by decide) (by decide +kernel) m4 t (by show 0 + (1 * ρx 4 + 0) = _; rw [x4]; omega)
      have n0 : 2 ≤ ρx 10 ∧ ρx 10 ≤ 246 := n0
      have n1 : 2 ≤ ρx 11 ∧ ρx 11 ≤ 240 := n1
      have n2 : 0 ≤ ρx 12 ∧ ρx 12 ≤ 1 := n2
      have n3 : 0 ≤ ρx 13 ∧ ρx 13 ≤ 493 := n3
      have n4 : 1 ≤ ρx 14 ∧ ρx 14 ≤ 1 := n4
      have y14 : ρx 14 = 1 := by omega
      have g8 : yG8 t s0 (yv h 408) (yv h 409) h' := by
        have q := ysm_gu (a := 8) g8
        have q : yB (yG8 t s0 (yv h 408) (yv h 409) h') = 0 + (1 * ρx 14 + 0) := q
        rw [y14] at q
        exact yB_1.mp q
      have v3 : yv h' 440 3 = 0 + (1 * ρx 10 + 0) := v3
      have v4 : yv h' 440 4 = 0 + (1 * ρx 11 + 0) := v4
      have v5 : yv h' 440 5 = 0 + (1 * ρx 12 + 0) := v5
      have vc : yv h' 410 t = 0 + (1 * ρx 13 + 0) := vc
      have vk : yv h' 411 t = 1 + (1 * ρx 6 + 0) := vk
      exact ⟨hr, hG', hF', (fun i i1 i2 => g8.2.2 i i1 i2), Or.inr ⟨by omega, by omega, by omega, by omega, by omega⟩⟩
  · intro A hA loc h1 ρ ρ1 hρ hM1 hG1 hF1
    rw [yJ_clA] at hA
    have hA := List.mem_singleton.mp hA
    subst hA
    obtain ⟨⟨r0, -⟩, ⟨⟨x1, l1, l1'⟩, ⟨x2, l2, l2'⟩, m2, m3, m4, m5, m6, m7, m8, -, g1, g8, m12, m13, -⟩, ⟨b0, b1, b2, b3, b4, b5, b6, b7, b8, b9, b10, b11, b12, b13, b14, -⟩, ⟨c0, c1, c2, c3, c4, c5, c6, c7, c8, -⟩, ⟨p0, p1, p2, p3, p4, p5, p6, -⟩, -⟩ := yun hM1
    have p0 : ρ1 2 = ρ 3 := p0
    have q0 : ρ1 2 = z := hρ 1
    have p1 : ρ1 3 = ρ 4 := p1
    have q1 : ρ1 3 = (-1) := hρ 2
    have p2 : ρ1 4 = ρ 5 := p2
    have q2 : ρ1 4 = 0 := hρ 3
    have p3 : ρ1 5 = ρ 6 := p3
    have q3 : ρ1 5 = (t : Int) := hρ 4
    have p4 : ρ1 7 = ρ 8 := p4
    have q4 : ρ1 7 = (k0 : Int) := hρ 6
    have p5 : ρ1 6 = ρ 12 := p5
    have q5 : ρ1 6 = (s0 : Int) := hρ 5
    have p6 : ρ1 1 = ρ 14 := p6
    have q6 : ρ1 1 = a0 := hρ 0
    have b0 : (0 : Int) ≤ ρ 0 ∧ ρ 0 ≤ (680 : Int) := b0
    have b1 : (1 : Int) ≤ ρ 1 ∧ ρ 1 ≤ (1 : Int) := b1
    have b2 : (4 : Int) ≤ ρ 2 ∧ ρ 2 ≤ (240 : Int) := b2
    have b3 : (4 : Int) ≤ ρ 3 ∧ ρ 3 ≤ (240 : Int) := b3
    have b4 : (-1 : Int) ≤ ρ 4 ∧ ρ 4 ≤ (-1 : Int) := b4
    have b5 : (0 : Int) ≤ ρ 5 ∧ ρ 5 ≤ (0 : Int) := b5
    have b6 : (0 : Int) ≤ ρ 6 ∧ ρ 6 ≤ (4 : Int) := b6
    have b7 : (2 : Int) ≤ ρ 7 ∧ ρ 7 ≤ (479 : Int) := b7
    have b8 : (0 : Int) ≤ ρ 8 ∧ ρ 8 ≤ (120 : Int) := b8
    have b9 : (1 : Int) ≤ ρ 9 ∧ ρ 9 ≤ (1 : Int) := b9
    have b10 : (1 : Int) ≤ ρ 10 ∧ ρ 10 ≤ (1 : Int) := b10
    have b11 : (1 : Int) ≤ ρ 11 ∧ ρ 11 ≤ (1 : Int) := b11
    have b12 : (0 : Int) ≤ ρ 12 ∧ ρ 12 ≤ (480 : Int) := b12
    have b13 : (2 : Int) ≤ ρ 13 ∧ ρ 13 ≤ (479 : Int) := b13
    have l1' : x1.toInt = ρ 0 := l1'
    have l2' : x2.toInt = ρ 1 := l2'
    have c0 : 0 + (-1 * ρ 2 + (1 * ρ 14 + 0)) ≤ 0 := c0
    have c1 : 0 + (1 * ρ 2 + (-1 * ρ 3 + 0)) ≤ 0 := c1
    have c2 : 0 + (-2 * ρ 2 + (1 * ρ 7 + 0)) ≤ 0 := c2
    have c3 : -1 + (-2 * ρ 2 + (1 * ρ 7 + 0)) ≤ 0 := c3
    have c4 : 2 + (-1 * ρ 2 + (2 * ρ 8 + 0)) ≤ 0 := c4
    have c5 : 0 + (1 * ρ 0 + (-140 * ρ 6 + (-1 * ρ 8 + 0))) ≤ 0 := c5
    have c6 : 0 + (-1 * ρ 0 + (140 * ρ 6 + (1 * ρ 8 + 0))) ≤ 0 := c6
    have c7 : 0 + (-1 * ρ 7 + (1 * ρ 13 + 0)) ≤ 0 := c7
    have c8 : 0 + (1 * ρ 7 + (-1 * ρ 13 + 0)) ≤ 0 := c8
    have et : ρ 6 = t := by omega
    have ek1 : ρ 8 = k0 := by omega
    obtain ⟨s1, hs1⟩ : ∃ s1 : Nat, ρ 7 = s1 := ⟨(ρ 7).toNat, by omega⟩
    have v3 := ysm_u (k := 440) (by decide) (by decide +kernel) m2 3 rfl
    have v2 := ysm_u (k := 440) (by decide) (by decide +kernel) m3 2 rfl
    have v4 := ysm_u (k := 440) (by decide) (by decide +kernel) m4 4 rfl
    have v5 := ysm_u (k := 440) (by decide) (by decide +kernel) m5 5 rfl
    have v14 := ysm_u (k := 440) (by decide) (by decide +kernel) m6 14 rfl
    have vc := ysm_u (k := 410) (by decide) (by decide +kernel) m7 t (by show 0 + (1 * ρ 6 + 0) = _; rw [et]; omega)
    have vk := ysm_u (k := 411) (by decide) (by decide +kernel) m8 t (by show 0 + (1 * ρ 6 + 0) = _; rw [et]; omega)
    have w1 := ysm_u (k := 412) (by decide) (by decide +kernel) m12 (140 * t + k0) (by show 0 + (140 * ρ 6 + (1 * ρ 8 + 0)) = _; rw [et, ek1]; omega)
    have w2 := ysm_u (k := 413) (by decide) (by decide +kernel) m13 (140 * t + k0) (by show 0 + (140 * ρ 6 + (1 * ρ 8 + 0)) = _; rw [et, ek1]; omega)
    rw [sY_v] at v3 v2 v4 v5 v14 vc vk w1 w2
    have v3 : yv h1 440 3 = ρ 2 := v3
    have v2 : yv h1 440 2 = ρ 3 := v2
    have v4 : yv h1 440 4 = ρ 4 := v4
    have v5 : yv h1 440 5 = ρ 5 := v5
    have v14 : yv h1 440 14 = ρ 6 := v14
    have vc : yv h1 410 t = ρ 7 := vc
    have vk : yv h1 411 t = ρ 8 := vk
    have w1 : yv h1 412 (140 * t + k0) = ρ 12 := w1
    have w2 : yv h1 413 (140 * t + k0) = ρ 13 := w2
    have g1 : yG1 t s0 h1 := by
      have q := ysm_gu (a := 1) g1
      rw [sY_v] at q
      have q : yB (yG1 t s0 h1) = ρ 10 := q
      rw [show ρ 10 = 1 by omega] at q
      exact yB_1.mp q
    have g8 : yG8 t s0 (yv h 408) (yv h 409) h1 := by
      have q := ysm_gu (a := 8) g8
      rw [sY_v] at q
      have q : yB (yG8 t s0 (yv h 408) (yv h 409) h1) = ρ 11 := q
      rw [show ρ 11 = 1 by omega] at q
      exact yB_1.mp q
    have hn1 : (yv h1 410 t - (s1 : Int)).toNat = 0 := by rw [vc, hs1]; omega
    have hM2 : sMt yReg (yGv t s1 (yv h1 408) (yv h1 409) (fun _ => 0)) (yρ [ρ 0, ρ 1, ρ 2, ρ 3, ρ 4, ρ 5, ρ 6, ρ 7, ρ 8, 0, 1, 1, ρ 12, ρ 13]) (yρ0 [ρ 0, ρ 1, ρ 2, ρ 3, ρ 4, ρ 5, ρ 6, ρ 7, ρ 8, 0, 1, 1, ρ 12, ρ 13] (1, [])) (sAs yE_clA) loc [] h1 := by
      refine ymk (ya1 r0 ya0) (ya1 (yvr0 l1 l1') (ya1 (yvr0 l2 l2') (ya1 (yvr2 (ysm_p (k := 440) (by decide) (by decide +kernel) (by decide +kernel) (3) ?_ ?_)) (ya1 (yvr2 (ysm_p (k := 440) (by decide) (by decide +kernel) (by decide +kernel) (2) ?_ ?_)) (ya1 (yvr2 (ysm_p (k := 440) (by decide) (by decide +kernel) (by decide +kernel) (4) ?_ ?_)) (ya1 (yvr2 (ysm_p (k := 440) (by decide) (by decide +kernel) (by decide +kernel) (5) ?_ ?_)) (ya1 (yvr2 (ysm_p (k := 440) (by decide) (by decide +kernel) (by decide +kernel) (14) ?_ ?_)) (ya1 (yvr2 (ysm_p (k := 410) (by decide) (by decide +kernel) (by decide +kernel) (t) ?_ ?_)) (ya1 (yvr2 (ysm_p (k := 411) (by decide) (by decide +kernel) (by decide +kernel) (t) ?_ ?_)) (ya1 (yvr2 (ysm_g (a := 0) ?_)) (ya1 (yvr2 (ysm_g (a := 1) ?_)) (ya1 (yvr2 (ysm_g (a := 8) ?_)) (ya1 (yvr2 (ysm_p (k := 412) (by decide) (by decide +kernel) (by decide +kernel) (140 * t + k0) ?_ ?_)) (ya1 (yvr2 (ysm_p (k := 413) (by decide) (by decide +kernel) (by decide +kernel) (140 * t + k0) ?_ ?_)) ya0)))))))))))))) (ya1 ?_ (ya1 ?_ (ya1 ?_ (ya1 ?_ (ya1 ?_ (ya1 ?_ (ya1 ?_ (ya1 ?_ (ya1 ?_ (ya1 ?_ (ya1 ?_ (ya1 ?_ (ya1 ?_ (ya1 ?_ ya0)))))))))))))) (ya1 ?_ (ya1 ?_ (ya1 ?_ (ya1 ?_ (ya1 ?_ (ya1 ?_ (ya1 ?_ (ya1 ?_ ya0)))))))) (ya1 rfl (ya1 rfl (ya1 rfl (ya1 rfl (ya1 rfl (ya1 rfl (ya1 rfl (ya1 rfl (ya1 rfl (ya1 rfl (ya1 rfl (ya1 rfl (ya1 rfl (ya1 rfl ya0)))))))))))))) rfl
      · rfl
      · rw [sY_v]; exact v3
      · rfl
      · rw [sY_v]; exact v2
      · rfl
      · rw [sY_v]; exact v4
      · rfl
      · rw [sY_v]; exact v5
      · rfl
      · rw [sY_v]; exact v14
      · show 0 + (1 * ρ 6 + 0) = _; omega
      · rw [sY_v]; exact vc
      · show 0 + (1 * ρ 6 + 0) = _; omega
      · rw [sY_v]; exact vk
      · rw [sY_v]; show yht h1 (520 * t + s1) (yv h1 410 t - (s1 : Int)).toNat = 0; rw [hn1]; rfl
      · rw [sY_v]; show yB (yG1 t s1 h1) = 1; exact yB_1.mpr ⟨by omega, by omega, by rw [hn1]; exact fun j hj => absurd hj (Nat.not_lt_zero j)⟩
      · rw [sY_v]; show yB (yG8 t s1 (yv h1 408) (yv h1 409) h1) = 1; exact yB_1.mpr ⟨by omega, by omega, fun i _ _ => ⟨rfl, rfl⟩⟩
      · show 0 + (140 * ρ 6 + (1 * ρ 8 + 0)) = _; omega
      · rw [sY_v]; exact w1
      · show 0 + (140 * ρ 6 + (1 * ρ 8 + 0)) = _; omega
      · rw [sY_v]; exact w2
      · exact b0
      · exact b1
      · exact b2
      · exact b3
      · exact b4
      · exact b5
      · exact b6
      · exact b7
      · exact b8
      · exact ⟨Int.le_refl _, Int.le_refl _⟩
      · exact ⟨Int.le_refl _, Int.le_refl _⟩
      · exact ⟨Int.le_refl _, Int.le_refl _⟩
      · exact b12
      · exact b13
      · exact c1
      · exact c2
      · exact c3
      · exact c4
      · exact c5
      · exact c6
      · exact c7
      · exact c8
    refine sseg_okP yComp ySing yCell yR1000 (yGvOk ht) hd (yHs_clA (yGvOk ht) (yHy6 ht)) 500 247 true _ loc [] h1 _ _ yD_clA hM2 hG1 hF1 ?_ ?_
    · intro pc A hA
      cases hA
    · intro r h' hG' hF' hE
      refine yone hE (ya1 ?_ (ya1 ?_ ya0))
      · intro hX
        obtain ⟨ρx, a, ⟨n0, n1, -, n3, n4, -⟩, ⟨d0, d1, d2, -⟩, ⟨m0, m1, m2, m3, m4, -, f1, f8, z1, z2, z3, -⟩, hr⟩ := yexU hX
        have x0 : ρx 0 = ρ 0 := a 0 (by decide)
        have x2 : ρx 2 = ρ 2 := a 2 (by decide)
        have x3 : ρx 3 = ρ 3 := a 3 (by decide)
        have x4 : ρx 4 = ρ 4 := a 4 (by decide)
        have x5 : ρx 5 = ρ 5 := a 5 (by decide)
        have x6 : ρx 6 = ρ 6 := a 6 (by decide)
        have x7 : ρx 7 = ρ 7 := a 7 (by decide)
        have x8 : ρx 8 = ρ 8 := a 8 (by decide)
        have x12 : ρx 12 = ρ 12 := a 12 (by decide)
        have x13 : ρx 13 = ρ 13 := a 13 (by decide)
        have hr : r = none := by
          match r, hr with
          | none, _ => rfl
        have n0 : 4 ≤ ρx 14 ∧ ρx 14 ≤ 240 := n0
        have n1 : 1 ≤ ρx 15 ∧ ρx 15 ≤ 481 := n1
        have n3 : 1 ≤ ρx 17 ∧ ρx 17 ≤ 1 := n3
        have n4 : 1 ≤ ρx 18 ∧ ρx 18 ≤ 1 := n4
        have d0 : 0 + (1 * ρx 2 + (-1 * ρx 14 + 0)) ≤ 0 := d0
        have d1 : 0 + (-1 * ρx 3 + (1 * ρx 14 + 0)) ≤ 0 := d1
        have d2 : -1 + (-2 * ρx 14 + (1 * ρx 15 + 0)) ≤ 0 := d2
        have o3 : yv h' 440 3 = 0 + (1 * ρx 14 + 0) := ysm_u (k := 440) (by decide) (by decide +kernel) m0 3 rfl
        have o4 : yv h' 440 4 = 0 + (1 * ρx 4 + 0) := ysm_u (k := 440) (by decide) (by decide +kernel) m1 4 rfl
        have o5 : yv h' 440 5 = 0 + (1 * ρx 5 + 0) := ysm_u (k := 440) (by decide) (by decide +kernel) m2 5 rfl
        have oc : yv h' 410 t = 0 + (1 * ρx 15 + 0) := ysm_u (k := 410) (by decide) (by decide +kernel) m3 t (by show 0 + (1 * ρx 6 + 0) = _; omega)
        have ok : yv h' 411 t = 1 + (1 * ρx 8 + 0) := ysm_u (k := 411) (by decide) (by decide +kernel) m4 t (by show 0 + (1 * ρx 6 + 0) = _; omega)
        have z1 : yv h' 412 (140 * t + k0) = 0 + (1 * ρx 12 + 0) := ysm_u (k := 412) (by decide) (by decide +kernel) z1 (140 * t + k0) (by show 0 + (140 * ρx 6 + (1 * ρx 8 + 0)) = _; omega)
        have z2 : yv h' 413 (140 * t + k0) = 0 + (1 * ρx 13 + 0) := ysm_u (k := 413) (by decide) (by decide +kernel) z2 (140 * t + k0) (by show 0 + (140 * ρx 6 + (1 * ρx 8 + 0)) = _; omega)
        have z3 : yv h' 414 (140 * t + k0) = 0 + (1 * ρx 15 + 0) := ysm_u (k := 414) (by decide) (by decide +kernel) z3 (140 * t + k0) (by show 0 + (140 * ρx 6 + (1 * ρx 8 + 0)) = _; omega)
        have f1 : yG1 t s1 h' := by
          have q := ysm_gu (a := 1) f1
          have q : yB (yG1 t s1 h') = 0 + (1 * ρx 17 + 0) := q
          rw [show ρx 17 = 1 by omega] at q
          exact yB_1.mp q
        have f8 : yG8 t s1 (yv h1 408) (yv h1 409) h' := by
          have q := ysm_gu (a := 8) f8
          have q : yB (yG8 t s1 (yv h1 408) (yv h1 409) h') = 0 + (1 * ρx 18 + 0) := q
          rw [show ρx 18 = 1 by omega] at q
          exact yB_1.mp q
        obtain ⟨e, he⟩ : ∃ e : Nat, ρx 15 = e := ⟨(ρx 15).toNat, by omega⟩
        have q2 := f1.2.1
        have q3 := f1.2.2
        rw [show (yv h' 410 t - (s1 : Int)).toNat = e - s1 by omega] at q3
        have q4 := g1.2.1
        have q5 := g1.2.2
        rw [show (yv h1 410 t - (s0 : Int)).toNat = s1 - s0 by omega] at q5
        have hs : s0 ≤ s1 := by omega
        have hU : yclU t s0 h h' := fun i i1 i2 => by
          have r1 := f8.2.2 i i1 (by omega)
          have r2 := g8.2.2 i i1 i2
          exact ⟨r1.1.trans r2.1, r1.2.trans r2.2⟩
        refine ⟨hr, hG', hF', hU, Or.inl ⟨by omega, by omega, by omega, by omega, by omega, s1, e, by omega, by omega, by omega, hs, by omega, by omega, by omega, by omega, ?_, q3⟩⟩
        refine ywf0 (h := h1) (fun i hi => ?_) q5
        unfold yco yva
        rw [if_pos (by omega), if_pos (by omega), if_pos (by omega), if_pos (by omega)]
        exact f8.2.2 i (by omega) (by omega)
      · intro hX
        obtain ⟨ρx, a, ⟨n0, n1, n2, n3, n4, -⟩, -, ⟨m0, m1, m2, m3, m4, f8, -⟩, hr⟩ := yexU hX
        have x0 : ρx 0 = ρ 0 := a 0 (by decide)
        have x2 : ρx 2 = ρ 2 := a 2 (by decide)
        have x3 : ρx 3 = ρ 3 := a 3 (by decide)
        have x4 : ρx 4 = ρ 4 := a 4 (by decide)
        have x5 : ρx 5 = ρ 5 := a 5 (by decide)
        have x6 : ρx 6 = ρ 6 := a 6 (by decide)
        have x7 : ρx 7 = ρ 7 := a 7 (by decide)
        have x8 : ρx 8 = ρ 8 := a 8 (by decide)
        have x12 : ρx 12 = ρ 12 := a 12 (by decide)
        have x13 : ρx 13 = ρ 13 := a 13 (by decide)
        have hr : r = none := by
          match r, hr with
          | none, _ => rfl
        have n0 : 2 ≤ ρx 14 ∧ ρx 14 ≤ 246 := n0
        have n1 : 2 ≤ ρx 15 ∧ ρx 15 ≤ 240 := n1
        have n2 : 0 ≤ ρx 16 ∧ ρx 16 ≤ 1 := n2
        have n3 : 0 ≤ ρx 17 ∧ ρx 17 ≤ 493 := n3
        have n4 : 1 ≤ ρx 18 ∧ ρx 18 ≤ 1 := n4
        have o3 : yv h' 440 3 = 0 + (1 * ρx 14 + 0) := ysm_u (k := 440) (by decide) (by decide +kernel) m0 3 rfl
        have o4 : yv h' 440 4 = 0 + (1 * ρx 15 + 0) := ysm_u (k := 440) (by decide) (by decide +kernel) m1 4 rfl
        have o5 : yv h' 440 5 = 0 + (1 * ρx 16 + 0) := ysm_u (k := 440) (by decide) (by decide +kernel) m2 5 rfl
        have oc : yv h' 410 t = 0 + (1 * ρx 17 + 0) := ysm_u (k := 410) (by decide) (by decide +kernel) m3 t (by show 0 + (1 * ρx 6 + 0) = _; omega)
        have ok : yv h' 411 t = 1 + (1 * ρx 8 + 0) := ysm_u (k := 411) (by decide) (by decide +kernel) m4 t (by show 0 + (1 * ρx 6 + 0) = _; omega)
        have f8 : yG8 t s1 (yv h1 408) (yv h1 409) h' := by
          have q := ysm_gu (a := 8) f8
          have q : yB (yG8 t s1 (yv h1 408) (yv h1 409) h') = 0 + (1 * ρx 18 + 0) := q
          rw [show ρx 18 = 1 by omega] at q
          exact yB_1.mp q
        have q4 := g1.2.1
        have hU : yclU t s0 h h' := fun i i1 i2 => by
          have r1 := f8.2.2 i i1 (by omega)
          have r2 := g8.2.2 i i1 i2
          exact ⟨r1.1.trans r2.1, r1.2.trans r2.2⟩
        exact ⟨hr, hG', hF', hU, Or.inr ⟨by omega, by omega, by omega, by omega, by omega⟩⟩
theorem ycl_B {d : Nat} (hd : 34 ≤ d) {h : zH} (hG : sG yReg yG h) {args : List zV} (ar0 : yrf (zent 0 args) 0 (0, 120)) {a0 z : Int} {t s0 k0 : Nat} (ht : t < 5) (e3 : yv h 440 3 = a0) (e2 : yv h 440 2 = z) (e4 : yv h 440 4 = -1) (e5 : yv h 440 5 = 0) (e14 : yv h 440 14 = t) (ec : yv h 410 t = s0) (ek : yv h 411 t = k0) (b0 : 0 ≤ a0 ∧ a0 ≤ 240) (bz : 0 ≤ z ∧ z ≤ 240) (bs : s0 ≤ 480) (bk : k0 ≤ 120) (k1 : a0 ≤ z) (k2 : (s0 : Int) ≤ 2 * a0) (k3 : 2 * (k0 : Int) ≤ a0) {q : Nat} (hq : q < 140 * t + k0) : ∃ m r h', yrun m d 111 args h = some (r, h') ∧ (yv h' 412 q = yv h 412 q ∧ yv h' 413 q = yv h 413 q ∧ yv h' 414 q = yv h 414 q) := by
  have hn0 : (yv h 410 t - (s0 : Int)).toNat = 0 := by rw [ec]; omega
  have hM : sMt yReg (yGv t s0 (yv h 408) (yv h 409) (fun _ => 0)) (yρ [a0, z, (-1), 0, (t : Int), (s0 : Int), (k0 : Int), 0, 1, 1, (q : Int), yv h 412 q, yv h 413 q, yv h 414 q]) (yρ0 [a0, z, (-1), 0, (t : Int), (s0 : Int), (k0 : Int), 0, 1, 1, (q : Int), yv h 412 q, yv h 413 q, yv h 414 q] yQ_clB1.2.1.2.2.2.2.2) (sAs yQ_clB1.2.1) (zent 0 args) [] h := by
    refine ymk (ya1 ar0 ya0) (ya1 (yvr2 (ysm_p (k := 440) (by decide) (by decide +kernel) (by decide +kernel) (3) ?_ ?_)) (ya1 (yvr2 (ysm_p (k := 440) (by decide) (by decide +kernel) (by decide +kernel) (2) ?_ ?_)) (ya1 (yvr2 (ysm_p (k := 440) (by decide) (by decide +kernel) (by decide +kernel) (4) ?_ ?_)) (ya1 (yvr2 (ysm_p (k := 440) (by decide) (by decide +kernel) (by decide +kernel) (5) ?_ ?_)) (ya1 (yvr2 (ysm_p (k := 440) (by decide) (by decide +kernel) (by decide +kernel) (14) ?_ ?_)) (ya1 (yvr2 (ysm_p (k := 410) (by decide) (by decide +kernel) (by decide +kernel) (t) ?_ ?_)) (ya1 (yvr2 (ysm_p (k := 411) (by decide) (by decide +kernel) (by decide +kernel) (t) ?_ ?_)) (ya1 (yvr2 (ysm_g (a := 0) ?_)) (ya1 (yvr2 (ysm_g (a := 1) ?_)) (ya1 (yvr2 (ysm_g (a := 8) ?_)) (ya1 yvr3 (ya1 (yvr2 (ysm_p (k := 412) (by decide) (by decide +kernel) (by decide +kernel) (q) ?_ ?_)) (ya1 (yvr2 (ysm_p (k := 413) (by decide) (by decide +kernel) (by decide +kernel) (q) ?_ ?_)) (ya1 (yvr2 (ysm_p (k := 414) (by decide) (by decide +kernel) (by decide +kernel) (q) ?_ ?_)) ya0)))))))))))))) (ya1 ?_ (ya1 ?_ (ya1 ?_ (ya1 ?_ (ya1 ?_ (ya1 ?_ (ya1 ?_ (ya1 ?_ (ya1 ?_ (ya1 ?_ (ya1 ?_ (ya1 ?_ (ya1 ?_ (ya1 ?_ ya0)))))))))))))) (ya1 ?_ (ya1 ?_ (ya1 ?_ (ya1 ?_ ya0)))) (ya1 rfl (ya1 rfl (ya1 rfl (ya1 rfl (ya1 rfl (ya1 rfl (ya1 rfl (ya1 rfl (ya1 rfl (ya1 rfl (ya1 rfl (ya1 rfl (ya1 rfl (ya1 rfl ya0)))))))))))))) rfl
    · rfl
    · rw [sY_v]; exact e3
    · rfl
    · rw [sY_v]; exact e2
    · rfl
    · rw [sY_v]; exact e4
    · rfl
    · rw [sY_v]; exact e5
    · rfl
    · rw [sY_v]; exact e14
    · show 0 + (1 * (t : Int) + 0) = t; omega
    · rw [sY_v]; exact ec
    · show 0 + (1 * (t : Int) + 0) = t; omega
    · rw [sY_v]; exact ek
    · rw [sY_v]; show yht h (520 * t + s0) (yv h 410 t - (s0 : Int)).toNat = 0; rw [hn0]; rfl
    · rw [sY_v]; show yB (yG1 t s0 h) = 1; exact yB_1.mpr ⟨e14, by rw [ec]; exact Int.le_refl _, by rw [hn0]; exact fun j hj => absurd hj (Nat.not_lt_zero j)⟩
    · rw [sY_v]; show yB (yG8 t s0 (yv h 408) (yv h 409) h) = 1; exact yB_1.mpr ⟨e14, by rw [ec]; exact Int.le_refl _, fun i _ _ => ⟨rfl, rfl⟩⟩
    · show 0 + (1 * (q : Int) + 0) = q; omega
    · rw [sY_v]; rfl
    · show 0 + (1 * (q : Int) + 0) = q; omega
    · rw [sY_v]; rfl
    · show 0 + (1 * (q : Int) + 0) = q; omega
    · rw [sY_v]; rfl
    · show (0 : Int) ≤ a0 ∧ a0 ≤ (240 : Int); omega
    · show (0 : Int) ≤ z ∧ z ≤ (240 : Int); omega
    · show (-1 : Int) ≤ (-1 : Int) ∧ (-1 : Int) ≤ (-1 : Int); omega
    · show (0 : Int) ≤ (0 : Int) ∧ (0 : Int) ≤ (0 : Int); omega
    · show (0 : Int) ≤ (t : Int) ∧ (t : Int) ≤ (4 : Int); omega
    · show (0 : Int) ≤ (s0 : Int) ∧ (s0 : Int) ≤ (480 : Int); omega
    · show (0 : Int) ≤ (k0 : Int) ∧ (k0 : Int) ≤ (120 : Int); omega
    · show (0 : Int) ≤ (0 : Int) ∧ (0 : Int) ≤ (0 : Int); omega
    · show (1 : Int) ≤ (1 : Int) ∧ (1 : Int) ≤ (1 : Int); omega
    · show (1 : Int) ≤ (1 : Int) ∧ (1 : Int) ≤ (1 : Int); omega
    · show (0 : Int) ≤ q ∧ (q : Int) ≤ 699; omega
    · exact si32 (h.1 412 q)
    · exact si32 (h.1 413 q)
    · exact si32 (h.1 414 q)
    · show 0 + (1 * a0 + (-1 * z + 0)) ≤ 0; omega
    · show 0 + (-2 * a0 + (1 * (s0 : Int) + 0)) ≤ 0; omega
    · show 0 + (-1 * a0 + (2 * (k0 : Int) + 0)) ≤ 0; omega
    · show 1 + (-140 * (t : Int) + (-1 * (k0 : Int) + (1 * (q : Int) + 0))) ≤ 0; omega
  refine smeth3 (Q := yQ_clB1) (labs := slab yQ_clB1 yL_clB) (F := 500) (cut := 247) (P := fun r h' => yv h' 412 q = yv h 412 q ∧ yv h' 413 q = yv h 413 q ∧ yv h' 414 q = yv h 414 q) yComp ySing yCell yR1000 (yGvOk ht) (yHs_clB (yGvOk ht) (yHy6 ht)) (yCut yC_clB) (h := h) (ρ0 := yρ0 [a0, z, (-1), 0, (t : Int), (s0 : Int), (k0 : Int), 0, 1, 1, (q : Int), yv h 412 q, yv h 413 q, yv h 414 q] yQ_clB1.2.1.2.2.2.2.2) hd ?_ ?_ _ 0 _ (List.mem_cons_self ..) (zent 0 args) h _ _ (Nat.le_refl _) (fun _ => rfl) hM hG (fun _ _ hne => absurd rfl hne)
  · intro r h' hG' hF' hE
    refine yone hE (ya1 ?_ (ya1 ?_ (ya1 ?_ (ya1 ?_ (ya1 ?_ ya0)))))
    · intro hX
      obtain ⟨ρx, a, -, -, ⟨-, -, -, -, -, -, u0, u1, u2, -⟩, -⟩ := yexU hX
      have xq : ρx 10 = q := a 10 (by decide)
      have y0 : ρx 11 = yv h 412 q := a 11 (by decide)
      have u0 := ysm_u (k := 412) (by decide) (by decide +kernel) u0 q (by show 0 + (1 * ρx 10 + 0) = _; rw [xq]; omega)
      have u0 : yv h' 412 q = 0 + (1 * ρx 11 + 0) := u0
      have y1 : ρx 12 = yv h 413 q := a 12 (by decide)
      have u1 := ysm_u (k := 413) (by decide) (by decide +kernel) u1 q (by show 0 + (1 * ρx 10 + 0) = _; rw [xq]; omega)
      have u1 : yv h' 413 q = 0 + (1 * ρx 12 + 0) := u1
      have y2 : ρx 13 = yv h 414 q := a 13 (by decide)
      have u2 := ysm_u (k := 414) (by decide) (by decide +kernel) u2 q (by show 0 + (1 * ρx 10 + 0) = _; rw [xq]; omega)
      have u2 : yv h' 414 q = 0 + (1 * ρx 13 + 0) := u2
      exact ⟨by omega, by omega, by omega⟩
    · intro hX
      obtain ⟨ρx, a, -, -, ⟨-, -, -, -, -, -, -, -, -, -, -, u0, u1, u2, -⟩, -⟩ := yexU hX
      have xq : ρx 10 = q := a 10 (by decide)
      have y0 : ρx 11 = yv h 412 q := a 11 (by decide)
      have u0 := ysm_u (k := 412) (by decide) (by decide +kernel) u0 q (by show 0 + (1 * ρx 10 + 0) = _; rw [xq]; omega)
      have u0 : yv h' 412 q = 0 + (1 * ρx 11 + 0) := u0
      have y1 : ρx 12 = yv h 413 q := a 12 (by decide)
      have u1 := ysm_u (k := 413) (by decide) (by decide +kernel) u1 q (by show 0 + (1 * ρx 10 + 0) = _; rw [xq]; omega)
      have u1 : yv h' 413 q = 0 + (1 * ρx 12 + 0) := u1
      have y2 : ρx 13 = yv h 414 q := a 13 (by decide)
      have u2 := ysm_u (k := 414) (by decide) (by decide +kernel) u2 q (by show 0 + (1 * ρx 10 + 0) = _; rw [xq]; omega)
      have u2 : yv h' 414 q = 0 + (1 * ρx 13 + 0) := u2
      exact ⟨by omega, by omega, by omega⟩
    · intro hX
      obtain ⟨ρx, a, -, -, ⟨-, -, -, -, -, -, -, -, -, u0, u1, u2, -⟩, -⟩ := yexU hX
      have xq : ρx 10 = q := a 10 (by decide)
      have y0 : ρx 11 = yv h 412 q := a 11 (by decide)
      have u0 := ysm_u (k := 412) (by decide) (by decide +kernel) u0 q (by show 0 + (1 * ρx 10 + 0) = _; rw [xq]; omega)
      have u0 : yv h' 412 q = 0 + (1 * ρx 11 + 0) := u0
      have y1 : ρx 12 = yv h 413 q := a 12 (by decide)
      have u1 := ysm_u (k := 413) (by decide) (by decide +kernel) u1 q (by show 0 + (1 * ρx 10 + 0) = _; rw [xq]; omega)
      have u1 : yv h' 413 q = 0 + (1 * ρx 12 + 0) := u1
      have y2 : ρx 13 = yv h 414 q := a 13 (by decide)
      have u2 := ysm_u (k := 414) (by decide) (by decide +kernel) u2 q (by show 0 + (1 * ρx 10 + 0) = _; rw [xq]; omega)
      have u2 : yv h' 414 q = 0 + (1 * ρx 13 + 0) := u2
      exact ⟨by omega, by omega, by omega⟩
    · intro hX
      obtain ⟨ρx, a, -, -, ⟨-, -, -, -, -, -, -, -, u0, u1, u2, -⟩, -⟩ := yexU hX
      have xq : ρx 10 = q := a 10 (by decide)
      have y0 : ρx 11 = yv h 412 q := a 11 (by decide)
      have u0 := ysm_u (k := 412) (by decide) (by decide +kernel) u0 q (by show 0 + (1 * ρx 10 + 0) = _; rw [xq]; omega)
      have u0 : yv h' 412 q = 0 + (1 * ρx 11 + 0) := u0
      have y1 : ρx 12 = yv h 413 q := a 12 (by decide)
      have u1 := ysm_u (k := 413) (by decide) (by decide +kernel) u1 q (by show 0 + (1 * ρx 10 + 0) = _; rw [xq]; omega)
      have u1 : yv h' 413 q = 0 + (1 * ρx 12 + 0) := u1
      have y2 : ρx 13 = yv h 414 q := a 13 (by decide)
      have u2 := ysm_u (k := 414) (by decide) (by decide +kernel) u2 q (by show 0 + (1 * ρx 10 + 0) = _; rw [xq]; omega)
      have u2 : yv h' 414 q = 0 + (1 * ρx 13 + 0) := u2
      exact ⟨by omega, by omega, by omega⟩
    · intro hX
      obtain ⟨ρx, a, -, -, ⟨-, -, -, -, -, -, -, -, -, u0, u1, u2, -⟩, -⟩ := yexU hX
      have xq : ρx 10 = q := a 10 (by decide)
      have y0 : ρx 11 = yv h 412 q := a 11 (by decide)
      have u0 := ysm_u (k := 412) (by decide) (by decide +kernel) u0 q (by show 0 + (1 * ρx 10 + 0) = _; rw [xq]; omega)
      have u0 : yv h' 412 q = 0 + (1 * ρx 11 + 0) := u0
      have y1 : ρx 12 = yv h 413 q := a 12 (by decide)
      have u1 := ysm_u (k := 413) (by decide) (by decide +kernel) u1 q (by show 0 + (1 * ρx 10 + 0) = _; rw [xq]; omega)
      have u1 : yv h' 413 q = 0 + (1 * ρx 12 + 0) := u1
      have y2 : ρx 13 = yv h 414 q := a 13 (by decide)
      have u2 := ysm_u (k := 414) (by decide) (by decide +kernel) u2 q (by show 0 + (1 * ρx 10 + 0) = _; rw [xq]; omega)
      have u2 : yv h' 414 q = 0 + (1 * ρx 13 + 0) := u2
      exact ⟨by omega, by omega, by omega⟩
  · intro A hA loc h1 ρ ρ1 hρ hM1 hG1 hF1
    rw [yJ_clB] at hA
    have hA := List.mem_singleton.mp hA
    subst hA
    obtain ⟨⟨r0, -⟩, ⟨⟨x1, l1, l1'⟩, ⟨x2, l2, l2'⟩, m2, m3, m4, m5, m6, m7, m8, -, g1, g8, m12, m13, -, u0, u1, u2, -⟩, ⟨b0, b1, b2, b3, b4, b5, b6, b7, b8, b9, b10, b11, b12, b13, b14, b15, b16, b17, b18, -⟩, ⟨c0, c1, c2, c3, c4, c5, c6, c7, c8, c9, -⟩, ⟨p0, p1, p2, p3, p4, p5, p6, p7, p8, p9, p10, -⟩, -⟩ := yun hM1
    have p0 : ρ1 2 = ρ 3 := p0
    have q0 : ρ1 2 = z := hρ 1
    have p1 : ρ1 3 = ρ 4 := p1
    have q1 : ρ1 3 = (-1) := hρ 2
    have p2 : ρ1 4 = ρ 5 := p2
    have q2 : ρ1 4 = 0 := hρ 3
    have p3 : ρ1 5 = ρ 6 := p3
    have q3 : ρ1 5 = (t : Int) := hρ 4
    have p4 : ρ1 7 = ρ 8 := p4
    have q4 : ρ1 7 = (k0 : Int) := hρ 6
    have p5 : ρ1 6 = ρ 12 := p5
    have q5 : ρ1 6 = (s0 : Int) := hρ 5
    have p6 : ρ1 11 = ρ 14 := p6
    have q6 : ρ1 11 = (q : Int) := hρ 10
    have p7 : ρ1 12 = ρ 15 := p7
    have q7 : ρ1 12 = yv h 412 q := hρ 11
    have p8 : ρ1 13 = ρ 16 := p8
    have q8 : ρ1 13 = yv h 413 q := hρ 12
    have p9 : ρ1 14 = ρ 17 := p9
    have q9 : ρ1 14 = yv h 414 q := hρ 13
    have p10 : ρ1 1 = ρ 18 := p10
    have q10 : ρ1 1 = a0 := hρ 0
    have b0 : (1 : Int) ≤ ρ 0 ∧ ρ 0 ≤ (680 : Int) := b0
    have b1 : (1 : Int) ≤ ρ 1 ∧ ρ 1 ≤ (1 : Int) := b1
    have b2 : (4 : Int) ≤ ρ 2 ∧ ρ 2 ≤ (240 : Int) := b2
    have b3 : (4 : Int) ≤ ρ 3 ∧ ρ 3 ≤ (240 : Int) := b3
    have b4 : (-1 : Int) ≤ ρ 4 ∧ ρ 4 ≤ (-1 : Int) := b4
    have b5 : (0 : Int) ≤ ρ 5 ∧ ρ 5 ≤ (0 : Int) := b5
    have b6 : (0 : Int) ≤ ρ 6 ∧ ρ 6 ≤ (4 : Int) := b6
    have b7 : (2 : Int) ≤ ρ 7 ∧ ρ 7 ≤ (479 : Int) := b7
    have b8 : (0 : Int) ≤ ρ 8 ∧ ρ 8 ≤ (120 : Int) := b8
    have b9 : (1 : Int) ≤ ρ 9 ∧ ρ 9 ≤ (1 : Int) := b9
    have b10 : (1 : Int) ≤ ρ 10 ∧ ρ 10 ≤ (1 : Int) := b10
    have b11 : (1 : Int) ≤ ρ 11 ∧ ρ 11 ≤ (1 : Int) := b11
    have b12 : (0 : Int) ≤ ρ 12 ∧ ρ 12 ≤ (480 : Int) := b12
    have b13 : (2 : Int) ≤ ρ 13 ∧ ρ 13 ≤ (479 : Int) := b13
    have l1' : x1.toInt = ρ 0 := l1'
    have l2' : x2.toInt = ρ 1 := l2'
    have c0 : 0 + (-1 * ρ 2 + (1 * ρ 18 + 0)) ≤ 0 := c0
    have c1 : 0 + (1 * ρ 2 + (-1 * ρ 3 + 0)) ≤ 0 := c1
    have c2 : 0 + (-2 * ρ 2 + (1 * ρ 7 + 0)) ≤ 0 := c2
    have c3 : -1 + (-2 * ρ 2 + (1 * ρ 7 + 0)) ≤ 0 := c3
    have c4 : 2 + (-1 * ρ 2 + (2 * ρ 8 + 0)) ≤ 0 := c4
    have c5 : 0 + (1 * ρ 0 + (-140 * ρ 6 + (-1 * ρ 8 + 0))) ≤ 0 := c5
    have c6 : 0 + (-1 * ρ 0 + (140 * ρ 6 + (1 * ρ 8 + 0))) ≤ 0 := c6
    have c7 : 0 + (-1 * ρ 7 + (1 * ρ 13 + 0)) ≤ 0 := c7
    have c8 : 0 + (1 * ρ 7 + (-1 * ρ 13 + 0)) ≤ 0 := c8
    have et : ρ 6 = t := by omega
    have ek1 : ρ 8 = k0 := by omega
    obtain ⟨s1, hs1⟩ : ∃ s1 : Nat, ρ 7 = s1 := ⟨(ρ 7).toNat, by omega⟩
    have v3 := ysm_u (k := 440) (by decide) (by decide +kernel) m2 3 rfl
    have v2 := ysm_u (k := 440) (by decide) (by decide +kernel) m3 2 rfl
    have v4 := ysm_u (k := 440) (by decide) (by decide +kernel) m4 4 rfl
    have v5 := ysm_u (k := 440) (by decide) (by decide +kernel) m5 5 rfl
    have v14 := ysm_u (k := 440) (by decide) (by decide +kernel) m6 14 rfl
    have vc := ysm_u (k := 410) (by decide) (by decide +kernel) m7 t (by show 0 + (1 * ρ 6 + 0) = _; rw [et]; omega)
    have vk := ysm_u (k := 411) (by decide) (by decide +kernel) m8 t (by show 0 + (1 * ρ 6 + 0) = _; rw [et]; omega)
    have w1 := ysm_u (k := 412) (by decide) (by decide +kernel) m12 (140 * t + k0) (by show 0 + (140 * ρ 6 + (1 * ρ 8 + 0)) = _; rw [et, ek1]; omega)
    have w2 := ysm_u (k := 413) (by decide) (by decide +kernel) m13 (140 * t + k0) (by show 0 + (140 * ρ 6 + (1 * ρ 8 + 0)) = _; rw [et, ek1]; omega)
    rw [sY_v] at v3 v2 v4 v5 v14 vc vk w1 w2
    have v3 : yv h1 440 3 = ρ 2 := v3
    have v2 : yv h1 440 2 = ρ 3 := v2
    have v4 : yv h1 440 4 = ρ 4 := v4
    have v5 : yv h1 440 5 = ρ 5 := v5
    have v14 : yv h1 440 14 = ρ 6 := v14
    have vc : yv h1 410 t = ρ 7 := vc
    have vk : yv h1 411 t = ρ 8 := vk
    have w1 : yv h1 412 (140 * t + k0) = ρ 12 := w1
    have w2 : yv h1 413 (140 * t + k0) = ρ 13 := w2
    have u0 := ysm_u (k := 412) (by decide) (by decide +kernel) u0 q (by show 0 + (1 * ρ 14 + 0) = _; omega)
    rw [sY_v] at u0
    have u0 : yv h1 412 q = ρ 15 := u0
    have u1 := ysm_u (k := 413) (by decide) (by decide +kernel) u1 q (by show 0 + (1 * ρ 14 + 0) = _; omega)
    rw [sY_v] at u1
    have u1 : yv h1 413 q = ρ 16 := u1
    have u2 := ysm_u (k := 414) (by decide) (by decide +kernel) u2 q (by show 0 + (1 * ρ 14 + 0) = _; omega)
    rw [sY_v] at u2
    have u2 : yv h1 414 q = ρ 17 := u2
    have hn1 : (yv h1 410 t - (s1 : Int)).toNat = 0 := by rw [vc, hs1]; omega
    have hM2 : sMt yReg (yGv t s1 (yv h1 408) (yv h1 409) (fun _ => 0)) (yρ [ρ 0, ρ 1, ρ 2, ρ 3, ρ 4, ρ 5, ρ 6, ρ 7, ρ 8, 0, 1, 1, ρ 12, ρ 13, ρ 14, ρ 15, ρ 16, ρ 17]) (yρ0 [ρ 0, ρ 1, ρ 2, ρ 3, ρ 4, ρ 5, ρ 6, ρ 7, ρ 8, 0, 1, 1, ρ 12, ρ 13, ρ 14, ρ 15, ρ 16, ρ 17] (1, [])) (sAs yE_clB) loc [] h1 := by
      refine ymk (ya1 r0 ya0) (ya1 (yvr0 l1 l1') (ya1 (yvr0 l2 l2') (ya1 (yvr2 (ysm_p (k := 440) (by decide) (by decide +kernel) (by decide +kernel) (3) ?_ ?_)) (ya1 (yvr2 (ysm_p (k := 440) (by decide) (by decide +kernel) (by decide +kernel) (2) ?_ ?_)) (ya1 (yvr2 (ysm_p (k := 440) (by decide) (by decide +kernel) (by decide +kernel) (4) ?_ ?_)) (ya1 (yvr2 (ysm_p (k := 440) (by decide) (by decide +kernel) (by decide +kernel) (5) ?_ ?_)) (ya1 (yvr2 (ysm_p (k := 440) (by decide) (by decide +kernel) (by decide +kernel) (14) ?_ ?_)) (ya1 (yvr2 (ysm_p (k := 410) (by decide) (by decide +kernel) (by decide +kernel) (t) ?_ ?_)) (ya1 (yvr2 (ysm_p (k := 411) (by decide) (by decide +kernel) (by decide +kernel) (t) ?_ ?_)) (ya1 (yvr2 (ysm_g (a := 0) ?_)) (ya1 (yvr2 (ysm_g (a := 1) ?_)) (ya1 (yvr2 (ysm_g (a := 8) ?_)) (ya1 (yvr2 (ysm_p (k := 412) (by decide) (by decide +kernel) (by decide +kernel) (140 * t + k0) ?_ ?_)) (ya1 (yvr2 (ysm_p (k := 413) (by decide) (by decide +kernel) (by decide +kernel) (140 * t + k0) ?_ ?_)) (ya1 yvr3 (ya1 (yvr2 (ysm_p (k := 412) (by decide) (by decide +kernel) (by decide +kernel) (q) ?_ ?_)) (ya1 (yvr2 (ysm_p (k := 413) (by decide) (by decide +kernel) (by decide +kernel) (q) ?_ ?_)) (ya1 (yvr2 (ysm_p (k := 414) (by decide) (by decide +kernel) (by decide +kernel) (q) ?_ ?_)) ya0)))))))))))))))))) (ya1 ?_ (ya1 ?_ (ya1 ?_ (ya1 ?_ (ya1 ?_ (ya1 ?_ (ya1 ?_ (ya1 ?_ (ya1 ?_ (ya1 ?_ (ya1 ?_ (ya1 ?_ (ya1 ?_ (ya1 ?_ (ya1 ?_ (ya1 ?_ (ya1 ?_ (ya1 ?_ ya0)))))))))))))))))) (ya1 ?_ (ya1 ?_ (ya1 ?_ (ya1 ?_ (ya1 ?_ (ya1 ?_ (ya1 ?_ (ya1 ?_ (ya1 ?_ ya0))))))))) (ya1 rfl (ya1 rfl (ya1 rfl (ya1 rfl (ya1 rfl (ya1 rfl (ya1 rfl (ya1 rfl (ya1 rfl (ya1 rfl (ya1 rfl (ya1 rfl (ya1 rfl (ya1 rfl (ya1 rfl (ya1 rfl (ya1 rfl (ya1 rfl ya0)))))))))))))))))) rfl
      · rfl
      · rw [sY_v]; exact v3
      · rfl
      · rw [sY_v]; exact v2
      · rfl
      · rw [sY_v]; exact v4
      · rfl
      · rw [sY_v]; exact v5
      · rfl
      · rw [sY_v]; exact v14
      · show 0 + (1 * ρ 6 + 0) = _; omega
      · rw [sY_v]; exact vc
      · show 0 + (1 * ρ 6 + 0) = _; omega
      · rw [sY_v]; exact vk
      · rw [sY_v]; show yht h1 (520 * t + s1) (yv h1 410 t - (s1 : Int)).toNat = 0; rw [hn1]; rfl
      · rw [sY_v]; show yB (yG1 t s1 h1) = 1; exact yB_1.mpr ⟨by omega, by omega, by rw [hn1]; exact fun j hj => absurd hj (Nat.not_lt_zero j)⟩
      · rw [sY_v]; show yB (yG8 t s1 (yv h1 408) (yv h1 409) h1) = 1; exact yB_1.mpr ⟨by omega, by omega, fun i _ _ => ⟨rfl, rfl⟩⟩
      · show 0 + (140 * ρ 6 + (1 * ρ 8 + 0)) = _; omega
      · rw [sY_v]; exact w1
      · show 0 + (140 * ρ 6 + (1 * ρ 8 + 0)) = _; omega
      · rw [sY_v]; exact w2
      · show 0 + (1 * ρ 14 + 0) = _; omega
      · rw [sY_v]; exact u0
      · show 0 + (1 * ρ 14 + 0) = _; omega
      · rw [sY_v]; exact u1
      · show 0 + (1 * ρ 14 + 0) = _; omega
      · rw [sY_v]; exact u2
      · exact b0
      · exact b1
      · exact b2
      · exact b3
      · exact b4
      · exact b5
      · exact b6
      · exact b7
      · exact b8
      · exact ⟨Int.le_refl _, Int.le_refl _⟩
      · exact ⟨Int.le_refl _, Int.le_refl _⟩
      · exact ⟨Int.le_refl _, Int.le_refl _⟩
      · exact b12
      · exact b13
      · exact b14
      · exact b15
      · exact b16
      · exact b17
      · exact c1
      · exact c2
      · exact c3
      · exact c4
      · exact c5
      · exact c6
      · exact c7
      · exact c8
      · exact c9
    refine sseg_okP yComp ySing yCell yR1000 (yGvOk ht) hd (yHs_clB (yGvOk ht) (yHy6 ht)) 500 247 true _ loc [] h1 _ _ yD_clB hM2 hG1 hF1 ?_ ?_
    · intro pc A hA
      cases hA
    · intro r h' hG' hF' hE
      refine yone hE (ya1 ?_ (ya1 ?_ ya0))
      · intro hX
        obtain ⟨ρx, a, -, -, ⟨-, -, -, -, -, -, -, -, -, -, -, u0, u1, u2, -⟩, -⟩ := yexU hX
        have xq : ρx 14 = q := (a 14 (by decide)).trans (show ρ 14 = q by omega)
        have y0 : ρx 15 = yv h 412 q := (a 15 (by decide)).trans (show ρ 15 = yv h 412 q by omega)
        have u0 := ysm_u (k := 412) (by decide) (by decide +kernel) u0 q (by show 0 + (1 * ρx 14 + 0) = _; rw [xq]; omega)
        have u0 : yv h' 412 q = 0 + (1 * ρx 15 + 0) := u0
        have y1 : ρx 16 = yv h 413 q := (a 16 (by decide)).trans (show ρ 16 = yv h 413 q by omega)
        have u1 := ysm_u (k := 413) (by decide) (by decide +kernel) u1 q (by show 0 + (1 * ρx 14 + 0) = _; rw [xq]; omega)
        have u1 : yv h' 413 q = 0 + (1 * ρx 16 + 0) := u1
        have y2 : ρx 17 = yv h 414 q := (a 17 (by decide)).trans (show ρ 17 = yv h 414 q by omega)
        have u2 := ysm_u (k := 414) (by decide) (by decide +kernel) u2 q (by show 0 + (1 * ρx 14 + 0) = _; rw [xq]; omega)
        have u2 : yv h' 414 q = 0 + (1 * ρx 17 + 0) := u2
        exact ⟨by omega, by omega, by omega⟩
      · intro hX
        obtain ⟨ρx, a, -, -, ⟨-, -, -, -, -, -, u0, u1, u2, -⟩, -⟩ := yexU hX
        have xq : ρx 14 = q := (a 14 (by decide)).trans (show ρ 14 = q by omega)
        have y0 : ρx 15 = yv h 412 q := (a 15 (by decide)).trans (show ρ 15 = yv h 412 q by omega)
        have u0 := ysm_u (k := 412) (by decide) (by decide +kernel) u0 q (by show 0 + (1 * ρx 14 + 0) = _; rw [xq]; omega)
        have u0 : yv h' 412 q = 0 + (1 * ρx 15 + 0) := u0
        have y1 : ρx 16 = yv h 413 q := (a 16 (by decide)).trans (show ρ 16 = yv h 413 q by omega)
        have u1 := ysm_u (k := 413) (by decide) (by decide +kernel) u1 q (by show 0 + (1 * ρx 14 + 0) = _; rw [xq]; omega)
        have u1 : yv h' 413 q = 0 + (1 * ρx 16 + 0) := u1
        have y2 : ρx 17 = yv h 414 q := (a 17 (by decide)).trans (show ρ 17 = yv h 414 q by omega)
        have u2 := ysm_u (k := 414) (by decide) (by decide +kernel) u2 q (by show 0 + (1 * ρx 14 + 0) = _; rw [xq]; omega)
        have u2 : yv h' 414 q = 0 + (1 * ρx 17 + 0) := u2
        exact ⟨by omega, by omega, by omega⟩
theorem ycl_C {d : Nat} (hd : 34 ≤ d) {h : zH} (hG : sG yReg yG h) {args : List zV} (ar0 : yrf (zent 0 args) 0 (0, 120)) {a0 z : Int} {t s0 k0 : Nat} (ht : t < 5) (e3 : yv h 440 3 = a0) (e2 : yv h 440 2 = z) (e4 : yv h 440 4 = -1) (e5 : yv h 440 5 = 0) (e14 : yv h 440 14 = t) (ec : yv h 410 t = s0) (ek : yv h 411 t = k0) (b0 : 0 ≤ a0 ∧ a0 ≤ 240) (bz : 0 ≤ z ∧ z ≤ 240) (bs : s0 ≤ 480) (bk : k0 ≤ 120) (k1 : a0 ≤ z) (k2 : (s0 : Int) ≤ 2 * a0) (k3 : 2 * (k0 : Int) ≤ a0) {q : Nat} (hq : q < t) : ∃ m r h', yrun m d 111 args h = some (r, h') ∧ (yv h' 411 q = yv h 411 q) := by
  have hn0 : (yv h 410 t - (s0 : Int)).toNat = 0 := by rw [ec]; omega
  have hM : sMt yReg (yGv t s0 (yv h 408) (yv h 409) (fun _ => 0)) (yρ [a0, z, (-1), 0, (t : Int), (s0 : Int), (k0 : Int), 0, 1, 1, (q : Int), yv h 411 q]) (yρ0 [a0, z, (-1), 0, (t : Int), (s0 : Int), (k0 : Int), 0, 1, 1, (q : Int), yv h 411 q] yQ_clC1.2.1.2.2.2.2.2) (sAs yQ_clC1.2.1) (zent 0 args) [] h := by
    refine ymk (ya1 ar0 ya0) (ya1 (yvr2 (ysm_p (k := 440) (by decide) (by decide +kernel) (by decide +kernel) (3) ?_ ?_)) (ya1 (yvr2 (ysm_p (k := 440) (by decide) (by decide +kernel) (by decide +kernel) (2) ?_ ?_)) (ya1 (yvr2 (ysm_p (k := 440) (by decide) (by decide +kernel) (by decide +kernel) (4) ?_ ?_)) (ya1 (yvr2 (ysm_p (k := 440) (by decide) (by decide +kernel) (by decide +kernel) (5) ?_ ?_)) (ya1 (yvr2 (ysm_p (k := 440) (by decide) (by decide +kernel) (by decide +kernel) (14) ?_ ?_)) (ya1 (yvr2 (ysm_p (k := 410) (by decide) (by decide +kernel) (by decide +kernel) (t) ?_ ?_)) (ya1 (yvr2 (ysm_p (k := 411) (by decide) (by decide +kernel) (by decide +kernel) (t) ?_ ?_)) (ya1 (yvr2 (ysm_g (a := 0) ?_)) (ya1 (yvr2 (ysm_g (a := 1) ?_)) (ya1 (yvr2 (ysm_g (a := 8) ?_)) (ya1 yvr3 (ya1 (yvr2 (ysm_p (k := 411) (by decide) (by decide +kernel) (by decide +kernel) (q) ?_ ?_)) ya0)))))))))))) (ya1 ?_ (ya1 ?_ (ya1 ?_ (ya1 ?_ (ya1 ?_ (ya1 ?_ (ya1 ?_ (ya1 ?_ (ya1 ?_ (ya1 ?_ (ya1 ?_ (ya1 ?_ ya0)))))))))))) (ya1 ?_ (ya1 ?_ (ya1 ?_ (ya1 ?_ ya0)))) (ya1 rfl (ya1 rfl (ya1 rfl (ya1 rfl (ya1 rfl (ya1 rfl (ya1 rfl (ya1 rfl (ya1 rfl (ya1 rfl (ya1 rfl (ya1 rfl ya0)))))))))))) rfl
    · rfl
    · rw [sY_v]; exact e3
    · rfl
    · rw [sY_v]; exact e2
    · rfl
    · rw [sY_v]; exact e4
    · rfl
    · rw [sY_v]; exact e5
    · rfl
    · rw [sY_v]; exact e14
    · show 0 + (1 * (t : Int) + 0) = t; omega
    · rw [sY_v]; exact ec
    · show 0 + (1 * (t : Int) + 0) = t; omega
    · rw [sY_v]; exact ek
    · rw [sY_v]; show yht h (520 * t + s0) (yv h 410 t - (s0 : Int)).toNat = 0; rw [hn0]; rfl
    · rw [sY_v]; show yB (yG1 t s0 h) = 1; exact yB_1.mpr ⟨e14, by rw [ec]; exact Int.le_refl _, by rw [hn0]; exact fun j hj => absurd hj (Nat.not_lt_zero j)⟩
    · rw [sY_v]; show yB (yG8 t s0 (yv h 408) (yv h 409) h) = 1; exact yB_1.mpr ⟨e14, by rw [ec]; exact Int.le_refl _, fun i _ _ => ⟨rfl, rfl⟩⟩
    · show 0 + (1 * (q : Int) + 0) = q; omega
    · rw [sY_v]; rfl
    · show (0 : Int) ≤ a0 ∧ a0 ≤ (240 : Int); omega
    · show (0 : Int) ≤ z ∧ z ≤ (240 : Int); omega
    · show (-1 : Int) ≤ (-1 : Int) ∧ (-1 : Int) ≤ (-1 : Int); omega
    · show (0 : Int) ≤ (0 : Int) ∧ (0 : Int) ≤ (0 : Int); omega
    · show (0 : Int) ≤ (t : Int) ∧ (t : Int) ≤ (4 : Int); omega
    · show (0 : Int) ≤ (s0 : Int) ∧ (s0 : Int) ≤ (480 : Int); omega
    · show (0 : Int) ≤ (k0 : Int) ∧ (k0 : Int) ≤ (120 : Int); omega
    · show (0 : Int) ≤ (0 : Int) ∧ (0 : Int) ≤ (0 : Int); omega
    · show (1 : Int) ≤ (1 : Int) ∧ (1 : Int) ≤ (1 : Int); omega
    · show (1 : Int) ≤ (1 : Int) ∧ (1 : Int) ≤ (1 : Int); omega
    · show (0 : Int) ≤ q ∧ (q : Int) ≤ 4; omega
    · exact si32 (h.1 411 q)
    · show 0 + (1 * a0 + (-1 * z + 0)) ≤ 0; omega
    · show 0 + (-2 * a0 + (1 * (s0 : Int) + 0)) ≤ 0; omega
    · show 0 + (-1 * a0 + (2 * (k0 : Int) + 0)) ≤ 0; omega
    · show 1 + (-1 * (t : Int) + (1 * (q : Int) + 0)) ≤ 0; omega
  refine smeth3 (Q := yQ_clC1) (labs := slab yQ_clC1 yL_clC) (F := 500) (cut := 247) (P := fun r h' => yv h' 411 q = yv h 411 q) yComp ySing yCell yR1000 (yGvOk ht) (yHs_clC (yGvOk ht) (yHy6 ht)) (yCut yC_clC) (h := h) (ρ0 := yρ0 [a0, z, (-1), 0, (t : Int), (s0 : Int), (k0 : Int), 0, 1, 1, (q : Int), yv h 411 q] yQ_clC1.2.1.2.2.2.2.2) hd ?_ ?_ _ 0 _ (List.mem_cons_self ..) (zent 0 args) h _ _ (Nat.le_refl _) (fun _ => rfl) hM hG (fun _ _ hne => absurd rfl hne)
  · intro r h' hG' hF' hE
    refine yone hE (ya1 ?_ (ya1 ?_ (ya1 ?_ (ya1 ?_ (ya1 ?_ ya0)))))
    · intro hX
      obtain ⟨ρx, a, -, -, ⟨-, -, -, -, -, -, u0, -⟩, -⟩ := yexU hX
      have xq : ρx 10 = q := a 10 (by decide)
      have y0 : ρx 11 = yv h 411 q := a 11 (by decide)
      have u0 := ysm_u (k := 411) (by decide) (by decide +kernel) u0 q (by show 0 + (1 * ρx 10 + 0) = _; rw [xq]; omega)
      have u0 : yv h' 411 q = 0 + (1 * ρx 11 + 0) := u0
      exact by omega
    · intro hX
      obtain ⟨ρx, a, -, -, ⟨-, -, -, -, -, -, -, -, -, -, -, u0, -⟩, -⟩ := yexU hX
      have xq : ρx 10 = q := a 10 (by decide)
      have y0 : ρx 11 = yv h 411 q := a 11 (by decide)
      have u0 := ysm_u (k := 411) (by decide) (by decide +kernel) u0 q (by show 0 + (1 * ρx 10 + 0) = _; rw [xq]; omega)
      have u0 : yv h' 411 q = 0 + (1 * ρx 11 + 0) := u0
      exact by omega
    · intro hX
      obtain ⟨ρx, a, -, -, ⟨-, -, -, -, -, -, -, -, -, u0, -⟩, -⟩ := yexU hX
      have xq : ρx 10 = q := a 10 (by decide)
      have y0 : ρx 11 = yv h 411 q := a 11 (by decide)
      have u0 := ysm_u (k := 411) (by decide) (by decide +kernel) u0 q (by show 0 + (1 * ρx 10 + 0) = _; rw [xq]; omega)
      have u0 : yv h' 411 q = 0 + (1 * ρx 11 + 0) := u0
      exact by omega
    · intro hX
      obtain ⟨ρx, a, -, -, ⟨-, -, -, -, -, -, -, -, u0, -⟩, -⟩ := yexU hX
      have xq : ρx 10 = q := a 10 (by decide)
      have y0 : ρx 11 = yv h 411 q := a 11 (by decide)
      have u0 := ysm_u (k := 411) (by decide) (by decide +kernel) u0 q (by show 0 + (1 * ρx 10 + 0) = _; rw [xq]; omega)
      have u0 : yv h' 411 q = 0 + (1 * ρx 11 + 0) := u0
      exact by omega
    · intro hX
      obtain ⟨ρx, a, -, -, ⟨-, -, -, -, -, -, -, -, -, u0, -⟩, -⟩ := yexU hX
      have xq : ρx 10 = q := a 10 (by decide)
      have y0 : ρx 11 = yv h 411 q := a 11 (by decide)
      have u0 := ysm_u (k := 411) (by decide) (by decide +kernel) u0 q (by show 0 + (1 * ρx 10 + 0) = _; rw [xq]; omega)
      have u0 : yv h' 411 q = 0 + (1 * ρx 11 + 0) := u0
      exact by omega
  · intro A hA loc h1 ρ ρ1 hρ hM1 hG1 hF1
    rw [yJ_clC] at hA
    have hA := List.mem_singleton.mp hA
    subst hA
    obtain ⟨⟨r0, -⟩, ⟨⟨x1, l1, l1'⟩, ⟨x2, l2, l2'⟩, m2, m3, m4, m5, m6, m7, m8, -, g1, g8, m12, m13, -, u0, -⟩, ⟨b0, b1, b2, b3, b4, b5, b6, b7, b8, b9, b10, b11, b12, b13, b14, b15, b16, -⟩, ⟨c0, c1, c2, c3, c4, c5, c6, c7, c8, c9, -⟩, ⟨p0, p1, p2, p3, p4, p5, p6, p7, p8, -⟩, -⟩ := yun hM1
    have p0 : ρ1 2 = ρ 3 := p0
    have q0 : ρ1 2 = z := hρ 1
    have p1 : ρ1 3 = ρ 4 := p1
    have q1 : ρ1 3 = (-1) := hρ 2
    have p2 : ρ1 4 = ρ 5 := p2
    have q2 : ρ1 4 = 0 := hρ 3
    have p3 : ρ1 5 = ρ 6 := p3
    have q3 : ρ1 5 = (t : Int) := hρ 4
    have p4 : ρ1 7 = ρ 8 := p4
    have q4 : ρ1 7 = (k0 : Int) := hρ 6
    have p5 : ρ1 6 = ρ 12 := p5
    have q5 : ρ1 6 = (s0 : Int) := hρ 5
    have p6 : ρ1 11 = ρ 14 := p6
    have q6 : ρ1 11 = (q : Int) := hρ 10
    have p7 : ρ1 12 = ρ 15 := p7
    have q7 : ρ1 12 = yv h 411 q := hρ 11
    have p8 : ρ1 1 = ρ 16 := p8
    have q8 : ρ1 1 = a0 := hρ 0
    have b0 : (140 : Int) ≤ ρ 0 ∧ ρ 0 ≤ (680 : Int) := b0
    have b1 : (1 : Int) ≤ ρ 1 ∧ ρ 1 ≤ (1 : Int) := b1
    have b2 : (4 : Int) ≤ ρ 2 ∧ ρ 2 ≤ (240 : Int) := b2
    have b3 : (4 : Int) ≤ ρ 3 ∧ ρ 3 ≤ (240 : Int) := b3
    have b4 : (-1 : Int) ≤ ρ 4 ∧ ρ 4 ≤ (-1 : Int) := b4
    have b5 : (0 : Int) ≤ ρ 5 ∧ ρ 5 ≤ (0 : Int) := b5
    have b6 : (1 : Int) ≤ ρ 6 ∧ ρ 6 ≤ (4 : Int) := b6
    have b7 : (2 : Int) ≤ ρ 7 ∧ ρ 7 ≤ (479 : Int) := b7
    have b8 : (0 : Int) ≤ ρ 8 ∧ ρ 8 ≤ (120 : Int) := b8
    have b9 : (1 : Int) ≤ ρ 9 ∧ ρ 9 ≤ (1 : Int) := b9
    have b10 : (1 : Int) ≤ ρ 10 ∧ ρ 10 ≤ (1 : Int) := b10
    have b11 : (1 : Int) ≤ ρ 11 ∧ ρ 11 ≤ (1 : Int) := b11
    have b12 : (0 : Int) ≤ ρ 12 ∧ ρ 12 ≤ (480 : Int) := b12
    have b13 : (2 : Int) ≤ ρ 13 ∧ ρ 13 ≤ (479 : Int) := b13
    have l1' : x1.toInt = ρ 0 := l1'
    have l2' : x2.toInt = ρ 1 := l2'
    have c0 : 0 + (-1 * ρ 2 + (1 * ρ 16 + 0)) ≤ 0 := c0
    have c1 : 0 + (1 * ρ 2 + (-1 * ρ 3 + 0)) ≤ 0 := c1
    have c2 : 0 + (-2 * ρ 2 + (1 * ρ 7 + 0)) ≤ 0 := c2
    have c3 : -1 + (-2 * ρ 2 + (1 * ρ 7 + 0)) ≤ 0 := c3
    have c4 : 2 + (-1 * ρ 2 + (2 * ρ 8 + 0)) ≤ 0 := c4
    have c5 : 0 + (1 * ρ 0 + (-140 * ρ 6 + (-1 * ρ 8 + 0))) ≤ 0 := c5
    have c6 : 0 + (-1 * ρ 0 + (140 * ρ 6 + (1 * ρ 8 + 0))) ≤ 0 := c6
    have c7 : 0 + (-1 * ρ 7 + (1 * ρ 13 + 0)) ≤ 0 := c7
    have c8 : 0 + (1 * ρ 7 + (-1 * ρ 13 + 0)) ≤ 0 := c8
    have et : ρ 6 = t := by omega
    have ek1 : ρ 8 = k0 := by omega
    obtain ⟨s1, hs1⟩ : ∃ s1 : Nat, ρ 7 = s1 := ⟨(ρ 7).toNat, by omega⟩
    have v3 := ysm_u (k := 440) (by decide) (by decide +kernel) m2 3 rfl
    have v2 := ysm_u (k := 440) (by decide) (by decide +kernel) m3 2 rfl
    have v4 := ysm_u (k := 440) (by decide) (by decide +kernel) m4 4 rfl
    have v5 := ysm_u (k := 440) (by decide) (by decide +kernel) m5 5 rfl
    have v14 := ysm_u (k := 440) (by decide) (by decide +kernel) m6 14 rfl
    have vc := ysm_u (k := 410) (by decide) (by decide +kernel) m7 t (by show 0 + (1 * ρ 6 + 0) = _; rw [et]; omega)
    have vk := ysm_u (k := 411) (by decide) (by decide +kernel) m8 t (by show 0 + (1 * ρ 6 + 0) = _; rw [et]; omega)
    have w1 := ysm_u (k := 412) (by decide) (by decide +kernel) m12 (140 * t + k0) (by show 0 + (140 * ρ 6 + (1 * ρ 8 + 0)) = _; rw [et, ek1]; omega)
    have w2 := ysm_u (k := 413) (by decide) (by decide +kernel) m13 (140 * t + k0) (by show 0 + (140 * ρ 6 + (1 * ρ 8 + 0)) = _; rw [et, ek1]; omega)
    rw [sY_v] at v3 v2 v4 v5 v14 vc vk w1 w2
    have v3 : yv h1 440 3 = ρ 2 := v3
    have v2 : yv h1 440 2 = ρ 3 := v2
    have v4 : yv h1 440 4 = ρ 4 := v4
    have v5 : yv h1 440 5 = ρ 5 := v5
    have v14 : yv h1 440 14 = ρ 6 := v14
    have vc : yv h1 410 t = ρ 7 := vc
    have vk : yv h1 411 t = ρ 8 := vk
    have w1 : yv h1 412 (140 * t + k0) = ρ 12 := w1
    have w2 : yv h1 413 (140 * t + k0) = ρ 13 := w2
    have u0 := ysm_u (k := 411) (by decide) (by decide +kernel) u0 q (by show 0 + (1 * ρ 14 + 0) = _; omega)
    rw [sY_v] at u0
    have u0 : yv h1 411 q = ρ 15 := u0
    have hn1 : (yv h1 410 t - (s1 : Int)).toNat = 0 := by rw [vc, hs1]; omega
    have hM2 : sMt yReg (yGv t s1 (yv h1 408) (yv h1 409) (fun _ => 0)) (yρ [ρ 0, ρ 1, ρ 2, ρ 3, ρ 4, ρ 5, ρ 6, ρ 7, ρ 8, 0, 1, 1, ρ 12, ρ 13, ρ 14, ρ 15]) (yρ0 [ρ 0, ρ 1, ρ 2, ρ 3, ρ 4, ρ 5, ρ 6, ρ 7, ρ 8, 0, 1, 1, ρ 12, ρ 13, ρ 14, ρ 15] (1, [])) (sAs yE_clC) loc [] h1 := by
      refine ymk (ya1 r0 ya0) (ya1 (yvr0 l1 l1') (ya1 (yvr0 l2 l2') (ya1 (yvr2 (ysm_p (k := 440) (by decide) (by decide +kernel) (by decide +kernel) (3) ?_ ?_)) (ya1 (yvr2 (ysm_p (k := 440) (by decide) (by decide +kernel) (by decide +kernel) (2) ?_ ?_)) (ya1 (yvr2 (ysm_p (k := 440) (by decide) (by decide +kernel) (by decide +kernel) (4) ?_ ?_)) (ya1 (yvr2 (ysm_p (k := 440) (by decide) (by decide +kernel) (by decide +kernel) (5) ?_ ?_)) (ya1 (yvr2 (ysm_p (k := 440) (by decide) (by decide +kernel) (by decide +kernel) (14) ?_ ?_)) (ya1 (yvr2 (ysm_p (k := 410) (by decide) (by decide +kernel) (by decide +kernel) (t) ?_ ?_)) (ya1 (yvr2 (ysm_p (k := 411) (by decide) (by decide +kernel) (by decide +kernel) (t) ?_ ?_)) (ya1 (yvr2 (ysm_g (a := 0) ?_)) (ya1 (yvr2 (ysm_g (a := 1) ?_)) (ya1 (yvr2 (ysm_g (a := 8) ?_)) (ya1 (yvr2 (ysm_p (k := 412) (by decide) (by decide +kernel) (by decide +kernel) (140 * t + k0) ?_ ?_)) (ya1 (yvr2 (ysm_p (k := 413) (by decide) (by decide +kernel) (by decide +kernel) (140 * t + k0) ?_ ?_)) (ya1 yvr3 (ya1 (yvr2 (ysm_p (k := 411) (by decide) (by decide +kernel) (by decide +kernel) (q) ?_ ?_)) ya0)))))))))))))))) (ya1 ?_ (ya1 ?_ (ya1 ?_ (ya1 ?_ (ya1 ?_ (ya1 ?_ (ya1 ?_ (ya1 ?_ (ya1 ?_ (ya1 ?_ (ya1 ?_ (ya1 ?_ (ya1 ?_ (ya1 ?_ (ya1 ?_ (ya1 ?_ ya0)))))))))))))))) (ya1 ?_ (ya1 ?_ (ya1 ?_ (ya1 ?_ (ya1 ?_ (ya1 ?_ (ya1 ?_ (ya1 ?_ (ya1 ?_ ya0))))))))) (ya1 rfl (ya1 rfl (ya1 rfl (ya1 rfl (ya1 rfl (ya1 rfl (ya1 rfl (ya1 rfl (ya1 rfl (ya1 rfl (ya1 rfl (ya1 rfl (ya1 rfl (ya1 rfl (ya1 rfl (ya1 rfl ya0)))))))))))))))) rfl
      · rfl
      · rw [sY_v]; exact v3
      · rfl
      · rw [sY_v]; exact v2
      · rfl
      · rw [sY_v]; exact v4
      · rfl
      · rw [sY_v]; exact v5
      · rfl
      · rw [sY_v]; exact v14
      · show 0 + (1 * ρ 6 + 0) = _; omega
      · rw [sY_v]; exact vc
      · show 0 + (1 * ρ 6 + 0) = _; omega
      · rw [sY_v]; exact vk
      · rw [sY_v]; show yht h1 (520 * t + s1) (yv h1 410 t - (s1 : Int)).toNat = 0; rw [hn1]; rfl
      · rw [sY_v]; show yB (yG1 t s1 h1) = 1; exact yB_1.mpr ⟨by omega, by omega, by rw [hn1]; exact fun j hj => absurd hj (Nat.not_lt_zero j)⟩
      · rw [sY_v]; show yB (yG8 t s1 (yv h1 408) (yv h1 409) h1) = 1; exact yB_1.mpr ⟨by omega, by omega, fun i _ _ => ⟨rfl, rfl⟩⟩
      · show 0 + (140 * ρ 6 + (1 * ρ 8 + 0)) = _; omega
      · rw [sY_v]; exact w1
      · show 0 + (140 * ρ 6 + (1 * ρ 8 + 0)) = _; omega
      · rw [sY_v]; exact w2
      · show 0 + (1 * ρ 14 + 0) = _; omega
      · rw [sY_v]; exact u0
      · exact b0
      · exact b1
      · exact b2
      · exact b3
      · exact b4
      · exact b5
      · exact b6
      · exact b7
      · exact b8
      · exact ⟨Int.le_refl _, Int.le_refl _⟩
      · exact ⟨Int.le_refl _, Int.le_refl _⟩
      · exact ⟨Int.le_refl _, Int.le_refl _⟩
      · exact b12
      · exact b13
      · exact b14
      · exact b15
      · exact c1
      · exact c2
      · exact c3
      · exact c4
      · exact c5
      · exact c6
      · exact c7
      · exact c8
      · exact c9
    refine sseg_okP yComp ySing yCell yR1000 (yGvOk ht) hd (yHs_clC (yGvOk ht) (yHy6 ht)) 500 247 true _ loc [] h1 _ _ yD_clC hM2 hG1 hF1 ?_ ?_
    · intro pc A hA
      cases hA
    · intro r h' hG' hF' hE
      refine yone hE (ya1 ?_ (ya1 ?_ ya0))
      · intro hX
        obtain ⟨ρx, a, -, -, ⟨-, -, -, -, -, -, -, -, -, -, -, u0, -⟩, -⟩ := yexU hX
        have xq : ρx 14 = q := (a 14 (by decide)).trans (show ρ 14 = q by omega)
        have y0 : ρx 15 = yv h 411 q := (a 15 (by decide)).trans (show ρ 15 = yv h 411 q by omega)
        have u0 := ysm_u (k := 411) (by decide) (by decide +kernel) u0 q (by show 0 + (1 * ρx 14 + 0) = _; rw [xq]; omega)
        have u0 : yv h' 411 q = 0 + (1 * ρx 15 + 0) := u0
        exact by omega
      · intro hX
        obtain ⟨ρx, a, -, -, ⟨-, -, -, -, -, -, u0, -⟩, -⟩ := yexU hX
        have xq : ρx 14 = q := (a 14 (by decide)).trans (show ρ 14 = q by omega)
        have y0 : ρx 15 = yv h 411 q := (a 15 (by decide)).trans (show ρ 15 = yv h 411 q by omega)
        have u0 := ysm_u (k := 411) (by decide) (by decide +kernel) u0 q (by show 0 + (1 * ρx 14 + 0) = _; rw [xq]; omega)
        have u0 : yv h' 411 q = 0 + (1 * ρx 15 + 0) := u0
        exact by omega
