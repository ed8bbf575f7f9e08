/-! workOut, worthOf: by hand, a turn of each loop by its ways -/
noncomputable abbrev yZr (m d mid pc : Nat) (loc : zL) (h : zH) : Option (Option zV × zH) := zrun yTab yPI yMl yMr yFld yKI yKL yGst yLdS yFldS yAcp yCal m d mid pc loc [] h
noncomputable abbrev ySg (labs : Nat → List sA) (Qs : List sQ) (md : sD) (dep n : Nat) (Xs : List sX) (mid pc : Nat) (A : sA) : Bool := sseg yPI yMl yMr yFld yKI yKL yGst yLdS yFldS yAcp yCal yReg yRin ySin yG yGu labs Qs md dep n Xs mid 300 pc true (sAs A)
theorem yfcv {md : sD} {h h' : zH} (hF : sF yReg md h h') {k : Nat} (hn : md.all (fun z => !decide (z.1 = yReg k)) = true) {i : Nat} : yv h' k i = yv h k i := by
  unfold yv
  rw [yfc hF hn i]
noncomputable def yXi (n : Nat) : sX := (some (0, (0, [(n, 1)])), [], [((-2147483648), 2147483647)], [], [0])
noncomputable def yPr (h0 : zH) (r : Option zV) (h' : zH) : Prop := (∃ x : Int32, r = some (.inl x)) ∧ sG yReg yG h' ∧ sF yReg [(96, 0, 79)] h0 h'
noncomputable def yAs0 : sA := ([(0, 120)], [(0, 1, (0, [])), (0, 2, (0, [])), (0, 3, (0, []))], [(0, 4), (0, 520), (0, 520)], [], [(0, 0), (1, 1), (2, 2)], (1, []))
noncomputable def yAs1 : sA := ([(0, 120)], [(0, 1, (0, [])), (0, 3, (0, [])), (0, 4, (0, [])), (0, 5, (0, [])), (3, 0, (0, [])), (3, 1, (0, [])), (3, 2, (0, []))], [(0, 4), (0, 520), (0, 0), (0, 2600), (0, 4), (0, 520), (0, 520)], [(0, [(0, 1), (4, (-1))]), (0, [(0, (-1)), (4, 1)]), (0, [(1, 1), (6, (-1))]), (0, [(1, (-1)), (6, 1)]), (0, [(3, 1), (4, (-520)), (5, (-1))]), (0, [(3, (-1)), (4, 520), (5, 1)])], [(0, 4), (1, 5), (2, 6)], (0, []))
noncomputable def yAk (cb vb tb : Int × Int) : sA := ([(0, 120)], [(0, 1, (0, [])), (0, 3, (0, [])), (0, 4, (0, [])), (0, 5, (0, [])), (2, 88, (0, [(3, 1)])), (2, 89, (0, [(3, 1)]))], [(0, 4), (0, 520), tb, (0, 2599), cb, vb], [(1, [(0, (-520)), (1, (-1)), (3, 1)])], [(0, 0), (1, 1), (2, 2), (3, 3), (4, 4), (5, 5)], (1, []))
noncomputable def yAr (dl : Int) : sA := ([(0, 120)], [(0, 1, (0, [])), (0, 3, (0, [])), (0, 4, (0, [])), (0, 5, (0, [])), (3, 2, (0, [])), (3, 3, (0, [])), (3, 0, (0, [])), (3, 1, (0, []))], [(0, 4), (0, 520), ((-1), 81), (0, 2600), (0, 80), (0, 2599), (0, 4), (0, 520)], [(-dl, [(2, 1), (4, (-1))]), (dl, [(2, (-1)), (4, 1)]), ((-1), [(3, 1), (5, (-1))]), (1, [(3, (-1)), (5, 1)]), (0, [(0, 1), (6, (-1))]), (0, [(0, (-1)), (6, 1)]), (0, [(1, 1), (7, (-1))]), (0, [(1, (-1)), (7, 1)])], [(2, 4), (3, 5), (0, 6), (1, 7)], (0, []))
noncomputable def yAe : sA := ([(0, 120)], [(0, 1, (0, [])), (0, 3, (0, [])), (0, 4, (0, [])), (0, 5, (0, []))], [(0, 4), (0, 520), ((-2147483648), 2147483647), (0, 2600)], [(0, [(0, 520), (1, 1), (3, (-1))])], [(0, 0), (1, 1), (2, 2), (3, 3)], (1, []))
noncomputable def ylb (A : sA) (p : Nat) (pc : Nat) : List sA := if pc = p then [A] else []
theorem ylb_m {A B : sA} {p pc : Nat} (h : B ∈ ylb A p pc) : pc = p ∧ B = A := by
  unfold ylb at h
  by_cases q : pc = p
  · rw [if_pos q] at h
    exact ⟨q, List.mem_singleton.mp h⟩
  · rw [if_neg q] at h
    cases h
theorem yW_s : ySg (ylb yAs1 12) [] [(96, 0, 79)] 3 3 [] 206 0 yAs0 = true := by decide +kernel
theorem yW_e : ySg (fun _ => []) [] [(96, 0, 79)] 3 4 [yXi 4] 206 12 yAe = true := by decide +kernel
theorem yW_0 : ySg (ylb (yAr 1) 12) [] [(96, 0, 79)] 3 6 [] 206 12 (yAk (0, 0) ((-2147483648), 2147483647) (0, 79)) = true := by decide +kernel
theorem yW_1 : ySg (ylb (yAr 1) 12) [] [(96, 0, 79)] 3 6 [] 206 12 (yAk (1, 1) (0, 5) (0, 79)) = true := by decide +kernel
theorem yW_9 : ySg (ylb (yAr 0) 12) [] [(96, 0, 79)] 3 6 [] 206 12 (yAk (9, 9) ((-2147483648), 2147483647) (1, 80)) = true := by decide +kernel
theorem yW_2 : ySg (ylb (yAr (-1)) 12) [yQ_w3] [(96, 0, 79)] 3 6 [] 206 12 (yAk (2, 8) ((-2147483648), 2147483647) (2, 80)) = true := by decide +kernel
theorem yW_10 : ySg (ylb (yAr (-1)) 12) [yQ_w3] [(96, 0, 79)] 3 6 [] 206 12 (yAk (10, 11) ((-2147483648), 2147483647) (2, 80)) = true := by decide +kernel
noncomputable def yli (loc : zL) (a : Nat) (z : Int) : Prop := ∃ x : Int32, zget loc a = some (.inl x) ∧ x.toInt = z
noncomputable def ylc (loc : zL) (n t : Nat) (top : Int) (k : Nat) : Prop := yrf loc 0 (0, 120) ∧ yli loc 1 n ∧ yli loc 3 t ∧ yli loc 4 top ∧ yli loc 5 k
theorem yturn {gv : Nat → zH → Int} (hg : sGv yReg yGu gv) {d : Nat} (hd : 3 ≤ d) {h0 h : zH} {P : Option zV → zH → Prop} {Qs : List sQ} (hQs : ∀ Q ∈ Qs, ySum gv Q) {cb vb tb : Int × Int} {dl : Int} (hchk : ySg (ylb (yAr dl) 12) Qs [(96, 0, 79)] 3 6 [] 206 12 (yAk cb vb tb) = true) {loc : zL} {n t : Nat} {top : Int} {k : Nat} (hn : n < 5) (ht : t ≤ 520) (hl : ylc loc n t top k) (hk : k < 2600) (hkt : k < 520 * n + t) (hc : cb.1 ≤ yv h 408 k ∧ yv h 408 k ≤ cb.2) (hv : vb.1 ≤ yv h 409 k ∧ yv h 409 k ≤ vb.2) (htb : tb.1 ≤ top ∧ top ≤ tb.2) (hG : sG yReg yG h) (hF : sF yReg [(96, 0, 79)] h0 h)
    (K : ∀ (loc' : zL) (h' : zH), ylc loc' n t (top + dl) (k + 1) → sG yReg yG h' → sF yReg [(96, 0, 79)] h0 h' → ∃ m r h'', yZr m d 206 12 loc' h' = some (r, h'') ∧ P r h'') : ∃ m r h'', yZr m d 206 12 loc h = some (r, h'') ∧ P r h'' := by
  obtain ⟨l0, ⟨x1, l1, l1'⟩, ⟨x3, l3, l3'⟩, ⟨x4, l4, l4'⟩, ⟨x5, l5, l5'⟩⟩ := hl
  have hM : sMt yReg gv (yρ [n, t, top, k, yv h 408 k, yv h 409 k]) (yρ0 [n, t, top, k, yv h 408 k, yv h 409 k] (1, [])) (sAs (yAk cb vb tb)) loc [] h := by
    refine ymk (ya1 l0 ya0) (ya1 (yvr0 l1 l1') (ya1 (yvr0 l3 l3') (ya1 (yvr0 l4 l4') (ya1 (yvr0 l5 l5') (ya1 (yvr2 (ysm_p (k := 408) (by decide) (by decide +kernel) (by decide +kernel) k ?_ ?_)) (ya1 (yvr2 (ysm_p (k := 409) (by decide) (by decide +kernel) (by decide +kernel) k ?_ ?_)) ya0)))))) (ya1 ?_ (ya1 ?_ (ya1 htb (ya1 ?_ (ya1 hc (ya1 hv ya0)))))) (ya1 ?_ ya0) (ya1 rfl (ya1 rfl (ya1 rfl (ya1 rfl (ya1 rfl (ya1 rfl ya0)))))) rfl
    · show 0 + (1 * (k : Int) + 0) = k; omega
    · rw [sY_v]; rfl
    · show 0 + (1 * (k : Int) + 0) = k; omega
    · rw [sY_v]; rfl
    · show (0 : Int) ≤ n ∧ (n : Int) ≤ 4; omega
    · show (0 : Int) ≤ t ∧ (t : Int) ≤ 520; omega
    · show (0 : Int) ≤ k ∧ (k : Int) ≤ 2599; omega
    · show 1 + (-520 * (n : Int) + (-1 * (t : Int) + (1 * (k : Int) + 0))) ≤ 0; omega
  refine sseg_okP yComp ySing yCell yR1000 hg hd hQs 300 12 true _ loc [] h _ _ hchk hM hG hF ?_ ?_
  · intro pc A hA loc' h' ρ ρ0' e1 e2 e3 hM' hG' hF'
    obtain ⟨rfl, rfl⟩ := ylb_m hA
    obtain ⟨⟨a0, -⟩, ⟨v0, v1, v2, v3, -⟩, -, ⟨c0, c1, c2, c3, c4, c5, c6, c7, -⟩, ⟨p0, p1, p2, p3, -⟩, -⟩ := yun hM'
    have c0 : -dl + (1 * ρ 2 + (-1 * ρ 4 + 0)) ≤ 0 := c0
    have c1 : dl + (-1 * ρ 2 + (1 * ρ 4 + 0)) ≤ 0 := c1
    have c2 : -1 + (1 * ρ 3 + (-1 * ρ 5 + 0)) ≤ 0 := c2
    have c3 : 1 + (-1 * ρ 3 + (1 * ρ 5 + 0)) ≤ 0 := c3
    have c4 : 0 + (1 * ρ 0 + (-1 * ρ 6 + 0)) ≤ 0 := c4
    have c5 : 0 + (-1 * ρ 0 + (1 * ρ 6 + 0)) ≤ 0 := c5
    have c6 : 0 + (1 * ρ 1 + (-1 * ρ 7 + 0)) ≤ 0 := c6
    have c7 : 0 + (-1 * ρ 1 + (1 * ρ 7 + 0)) ≤ 0 := c7
    have p0 : ρ0' 3 = ρ 4 := p0
    have p1 : ρ0' 4 = ρ 5 := p1
    have p2 : ρ0' 1 = ρ 6 := p2
    have p3 : ρ0' 2 = ρ 7 := p3
    have q0 : ρ0' 3 = top := e1 2
    have q1 : ρ0' 4 = k := e1 3
    have q2 : ρ0' 1 = n := e1 0
    have q3 : ρ0' 2 = t := e1 1
    obtain ⟨y1, y1a, y1b⟩ := v0
    obtain ⟨y3, y3a, y3b⟩ := v1
    obtain ⟨y4, y4a, y4b⟩ := v2
    obtain ⟨y5, y5a, y5b⟩ := v3
    have y1b : y1.toInt = ρ 0 := y1b
    have y3b : y3.toInt = ρ 1 := y3b
    have y4b : y4.toInt = ρ 2 := y4b
    have y5b : y5.toInt = ρ 3 := y5b
    exact K loc' h' ⟨a0, ⟨y1, y1a, by omega⟩, ⟨y3, y3a, by omega⟩, ⟨y4, y4a, by omega⟩, ⟨y5, y5a, by rw [y5b]; show ρ 3 = ((k + 1 : Nat) : Int); omega⟩⟩ hG' hF'
  · intro r h' _ _ ⟨X, hX, _⟩
    cases hX
theorem yloop {gv : Nat → zH → Int} (hg : sGv yReg yGu gv) {d : Nat} (hd : 3 ≤ d) {h0 : zH} {n f t : Nat} (hn : n < 5) (ht : t ≤ 520) (hw : ywf h0 (520 * n + f) (t - f)) : ∀ (r j : Nat) (loc : zL) (h : zH), f + j + r = t → ylc loc n t (yht h0 (520 * n + f) j) (520 * n + f + j) → sG yReg yG h → sF yReg [(96, 0, 79)] h0 h → ∃ m r h'', yZr m d 206 12 loc h = some (r, h'') ∧ yPr h0 r h'' := by
  intro r
  induction r with
  | zero =>
    intro j loc h hj hl hG hF
    obtain ⟨l0, ⟨x1, l1, l1'⟩, ⟨x3, l3, l3'⟩, ⟨x4, l4, l4'⟩, ⟨x5, l5, l5'⟩⟩ := hl
    have i4 := si32 x4
    have hM : sMt yReg gv (yρ [n, t, x4.toInt, (520 * n + f + j : Nat)]) (yρ0 [n, t, x4.toInt, (520 * n + f + j : Nat)] (1, [])) (sAs yAe) loc [] h := by
      refine ymk (ya1 l0 ya0) (ya1 (yvr0 l1 l1') (ya1 (yvr0 l3 l3') (ya1 (yvr0 l4 rfl) (ya1 (yvr0 l5 l5') ya0)))) (ya1 ?_ (ya1 ?_ (ya1 i4 (ya1 ?_ ya0)))) (ya1 ?_ ya0) (ya1 rfl (ya1 rfl (ya1 rfl (ya1 rfl ya0)))) rfl
      · show (0 : Int) ≤ n ∧ (n : Int) ≤ 4; omega
      · show (0 : Int) ≤ t ∧ (t : Int) ≤ 520; omega
      · show (0 : Int) ≤ ((520 * n + f + j : Nat) : Int) ∧ ((520 * n + f + j : Nat) : Int) ≤ 2600; omega
      · show 0 + (520 * (n : Int) + (1 * (t : Int) + (-1 * ((520 * n + f + j : Nat) : Int) + 0))) ≤ 0; omega
    refine sseg_okP yComp ySing yCell yR1000 hg hd yNil 300 12 true _ loc [] h _ _ yW_e hM hG hF ?_ ?_
    · intro pc A hA
      cases hA
    · intro r h' hG' hF' ⟨X, hX, hE⟩
      have := List.mem_singleton.mp hX
      subst this
      refine ⟨?_, hG', hF'⟩
      obtain ⟨ρx, -, -, -, -, hr⟩ := yexU hE
      match r, hr with
      | some (.inl z), _ => exact ⟨z, rfl⟩
  | succ r ih =>
    intro j loc h hj hl hG hF
    have hst := hw j (by omega)
    have hk : 520 * n + f + j < 2600 := by omega
    have ec : yv h 408 (520 * n + f + j) = yco h0 (520 * n + f + j) := by
      rw [yfcv hF (by decide +kernel)]
      unfold yco
      rw [if_pos hk]
    have ev : yv h 409 (520 * n + f + j) = yva h0 (520 * n + f + j) := by
      rw [yfcv hF (by decide +kernel)]
      unfold yva
      rw [if_pos hk]
    have iv := si32 (h.1 409 (520 * n + f + j))
    have iv : -2147483648 ≤ yv h 409 (520 * n + f + j) ∧ yv h 409 (520 * n + f + j) ≤ 2147483647 := iv
    have go : ∀ (cb vb tb : Int × Int) (dl : Int) (Qs : List sQ), (∀ Q ∈ Qs, ySum gv Q) → ySg (ylb (yAr dl) 12) Qs [(96, 0, 79)] 3 6 [] 206 12 (yAk cb vb tb) = true → yd (yco h0 (520 * n + f + j)) = dl → (cb.1 ≤ yv h 408 (520 * n + f + j) ∧ yv h 408 (520 * n + f + j) ≤ cb.2) → (vb.1 ≤ yv h 409 (520 * n + f + j) ∧ yv h 409 (520 * n + f + j) ≤ vb.2) → (tb.1 ≤ yht h0 (520 * n + f) j ∧ yht h0 (520 * n + f) j ≤ tb.2) → ∃ m r h'', yZr m d 206 12 loc h = some (r, h'') ∧ yPr h0 r h'' := by
      intro cb vb tb dl Qs hQs hchk hdl hc hv htb
      refine yturn hg hd hQs hchk hn ht hl hk (by omega) hc hv htb hG hF ?_
      intro loc' h' hl' hG' hF'
      refine ih (j + 1) loc' h' (by omega) ?_ hG' hF'
      have e1 : yht h0 (520 * n + f) (j + 1) = yht h0 (520 * n + f) j + dl := by
        show yht h0 (520 * n + f) j + yd (yco h0 (520 * n + f + j)) = _
        rw [hdl]
      rw [e1]
      exact hl'
    rcases hst with ⟨a, b, c⟩ | ⟨a, b, c, e, f'⟩ | ⟨a, b, c⟩ | ⟨a, b, c, e, f'⟩
    · refine go (0, 0) (-2147483648, 2147483647) (0, 79) 1 [] yNil yW_0 ?_ ?_ iv ⟨b, c⟩
      · rw [a]; rfl
      · rw [ec, a]; exact ⟨Int.le_refl _, Int.le_refl _⟩
    · refine go (1, 1) (0, 5) (0, 79) 1 [] yNil yW_1 ?_ ?_ ?_ ⟨b, c⟩
      · rw [a]; rfl
      · rw [ec, a]; exact ⟨Int.le_refl _, Int.le_refl _⟩
      · rw [ev]; exact ⟨e, f'⟩
    · refine go (9, 9) (-2147483648, 2147483647) (1, 80) 0 [] yNil yW_9 ?_ ?_ iv ⟨b, c⟩
      · rw [a]; rfl
      · rw [ec, a]; exact ⟨Int.le_refl _, Int.le_refl _⟩
    · have hd1 : yd (yco h0 (520 * n + f + j)) = -1 := by
        unfold yd
        rw [if_neg (by omega), if_neg c]
      by_cases q : yco h0 (520 * n + f + j) ≤ 8
      · exact go (2, 8) (-2147483648, 2147483647) (2, 80) (-1) [yQ_w3] (yCons (yS_w3 hg) yNil) yW_2 hd1 (by rw [ec]; exact ⟨a, q⟩) iv ⟨e, f'⟩
      · exact go (10, 11) (-2147483648, 2147483647) (2, 80) (-1) [yQ_w3] (yCons (yS_w3 hg) yNil) yW_10 hd1 (by rw [ec]; show (10 : Int) ≤ _ ∧ _ ≤ (11 : Int); omega) iv ⟨e, f'⟩
/-- workOut, over steps that are well -/
theorem ywork {gv : Nat → zH → Int} (hg : sGv yReg yGu gv) {d : Nat} (hd : 3 ≤ d) {h : zH} {n f t : Nat} (hn : n < 5) (ht : t ≤ 520) (hft : f ≤ t) (hw : ywf h (520 * n + f) (t - f)) {args : List zV} (hG : sG yReg yG h) (a0 : yrf (zent 0 args) 0 (0, 120)) (a1 : yli (zent 0 args) 1 n) (a2 : yli (zent 0 args) 2 f) (a3 : yli (zent 0 args) 3 t) : ∃ m r h', yrun m d 206 args h = some (r, h') ∧ yPr h r h' := by
  obtain ⟨x1, l1, l1'⟩ := a1
  obtain ⟨x2, l2, l2'⟩ := a2
  obtain ⟨x3, l3, l3'⟩ := a3
  have hM : sMt yReg gv (yρ [n, f, t]) (yρ0 [n, f, t] (1, [])) (sAs yAs0) (zent 0 args) [] h := by
    refine ymk (ya1 a0 ya0) (ya1 (yvr0 l1 l1') (ya1 (yvr0 l2 l2') (ya1 (yvr0 l3 l3') ya0))) (ya1 ?_ (ya1 ?_ (ya1 ?_ ya0))) ya0 (ya1 rfl (ya1 rfl (ya1 rfl ya0))) rfl
    · show (0 : Int) ≤ n ∧ (n : Int) ≤ 4; omega
    · show (0 : Int) ≤ f ∧ (f : Int) ≤ 520; omega
    · show (0 : Int) ≤ t ∧ (t : Int) ≤ 520; omega
  refine sseg_okP yComp ySing yCell yR1000 hg hd yNil 300 0 true _ (zent 0 args) [] h _ _ yW_s hM hG (fun _ _ hne => absurd rfl hne) ?_ ?_
  · intro pc A hA loc' h' ρ ρ0' e1 e2 e3 hM' hG' hF'
    obtain ⟨rfl, rfl⟩ := ylb_m hA
    obtain ⟨⟨b0, -⟩, ⟨v0, v1, v2, v3, -⟩, ⟨-, -, b2, -⟩, ⟨c0, c1, c2, c3, c4, c5, -⟩, ⟨p0, p1, p2, -⟩, -⟩ := yun hM'
    have c0 : 0 + (1 * ρ 0 + (-1 * ρ 4 + 0)) ≤ 0 := c0
    have c1 : 0 + (-1 * ρ 0 + (1 * ρ 4 + 0)) ≤ 0 := c1
    have c2 : 0 + (1 * ρ 1 + (-1 * ρ 6 + 0)) ≤ 0 := c2
    have c3 : 0 + (-1 * ρ 1 + (1 * ρ 6 + 0)) ≤ 0 := c3
    have c4 : 0 + (1 * ρ 3 + (-520 * ρ 4 + (-1 * ρ 5 + 0))) ≤ 0 := c4
    have c5 : 0 + (-1 * ρ 3 + (520 * ρ 4 + (1 * ρ 5 + 0))) ≤ 0 := c5
    have b2 : 0 ≤ ρ 2 ∧ ρ 2 ≤ 0 := b2
    have p0 : ρ0' 1 = ρ 4 := p0
    have p1 : ρ0' 2 = ρ 5 := p1
    have p2 : ρ0' 3 = ρ 6 := p2
    have q0 : ρ0' 1 = n := e1 0
    have q1 : ρ0' 2 = f := e1 1
    have q2 : ρ0' 3 = t := e1 2
    obtain ⟨y1, y1a, y1b⟩ := v0
    obtain ⟨y3, y3a, y3b⟩ := v1
    obtain ⟨y4, y4a, y4b⟩ := v2
    obtain ⟨y5, y5a, y5b⟩ := v3
    have y1b : y1.toInt = ρ 0 := y1b
    have y3b : y3.toInt = ρ 1 := y3b
    have y4b : y4.toInt = ρ 2 := y4b
    have y5b : y5.toInt = ρ 3 := y5b
    refine yloop hg hd hn ht hw (t - f) 0 loc' h' (by omega) ⟨b0, ⟨y1, y1a, by omega⟩, ⟨y3, y3a, by omega⟩, ⟨y4, y4a, ?_⟩, ⟨y5, y5a, ?_⟩⟩ hG' hF'
    · show _ = (0 : Int)
      omega
    · rw [y5b]
      show ρ 3 = ((520 * n + f + 0 : Nat) : Int)
      omega
  · intro r h' _ _ ⟨X, hX, _⟩
    cases hX
/-- the steps of a clause, by numbers -/
noncomputable def yGk (n f s t : Nat) (a : Nat) (h : zH) : Int := if a = 8 then yB (ywf h (520 * n + f) (s - f)) else if a = 1 then yB (ywf h (520 * n + s) (t - s)) else if a = 15 then (n : Int) else if a = 16 then (f : Int) else if a = 17 then (s : Int) else if a = 18 then (t : Int) else 0
theorem yGkOk {n f s t : Nat} : sGv yReg yGu (yGk n f s t) := by
  intro a h h' H
  have H : yag a h h' := H
  unfold yGk
  by_cases q : a = 8
  · subst q
    rw [if_pos rfl, if_pos rfl, ywf_c (yag_co H (by decide +kernel)) (yag_va H (by decide +kernel))]
  rw [if_neg q, if_neg q]
  by_cases q : a = 1
  · subst q
    rw [if_pos rfl, if_pos rfl, ywf_c (yag_co H (by decide +kernel)) (yag_va H (by decide +kernel))]
  rw [if_neg q, if_neg q]
noncomputable def yQ_k (a b g : Nat) : sQ := (206, ([(0, 120)], [(0, 1, (0, [])), (0, 2, (0, [])), (0, 3, (0, [])), (2, 1015, (0, [])), (2, 1000 + a, (0, [])), (2, 1000 + b, (0, [])), (2, 1000 + g, (0, []))], [(0, 4), (0, 520), (0, 520), (0, 4), (0, 520), (0, 520), (1, 1)], [(0, [(0, 1), (3, (-1))]), (0, [(0, (-1)), (3, 1)]), (0, [(1, 1), (4, (-1))]), (0, [(1, (-1)), (4, 1)]), (0, [(2, 1), (5, (-1))]), (0, [(2, (-1)), (5, 1)])], [(0, 0), (1, 1), (2, 2), (3, 3), (4, 4), (5, 5), (6, 6)], (0, [])), [(some (0, (0, [(7, 1)])), [], [((-2147483648), 2147483647)], [], [])], [(96, 0, 79)], 3)
theorem yS_k {n f s t a b g u v : Nat} (hn : n < 5) (hv : v ≤ 520) (huv : u ≤ v) (ea : ∀ h, yGk n f s t a h = u) (eb : ∀ h, yGk n f s t b h = v) (eg : ∀ h, yGk n f s t g h = yB (ywf h (520 * n + u) (v - u))) : ySum (yGk n f s t) (yQ_k a b g) := by
  intro args h ρ ρ0 hG hM d hd
  obtain ⟨⟨a0, -⟩, ⟨⟨x1, l1, l1'⟩, ⟨x2, l2, l2'⟩, ⟨x3, l3, l3'⟩, m3, m4, m5, m6, -⟩, ⟨-, -, -, -, -, -, b6, -⟩, ⟨c0, c1, c2, c3, c4, c5, -⟩, -, -⟩ := yun hM
  have m3 : yGk n f s t 15 h = ρ 3 := by rw [ysm_gu (a := 15) m3, sY_v]
  have m4 : yGk n f s t a h = ρ 4 := by rw [ysm_gu (a := a) m4, sY_v]
  have m5 : yGk n f s t b h = ρ 5 := by rw [ysm_gu (a := b) m5, sY_v]
  have m6 : yGk n f s t g h = ρ 6 := by rw [ysm_gu (a := g) m6, sY_v]
  have m3 : (n : Int) = ρ 3 := m3
  rw [ea] at m4
  rw [eb] at m5
  rw [eg] at m6
  have b6 : 1 ≤ ρ 6 ∧ ρ 6 ≤ 1 := b6
  have hw : ywf h (520 * n + u) (v - u) := yB_1.mp (by omega)
  have c0 : 0 + (1 * ρ 0 + (-1 * ρ 3 + 0)) ≤ 0 := c0
  have c1 : 0 + (-1 * ρ 0 + (1 * ρ 3 + 0)) ≤ 0 := c1
  have c2 : 0 + (1 * ρ 1 + (-1 * ρ 4 + 0)) ≤ 0 := c2
  have c3 : 0 + (-1 * ρ 1 + (1 * ρ 4 + 0)) ≤ 0 := c3
  have c4 : 0 + (1 * ρ 2 + (-1 * ρ 5 + 0)) ≤ 0 := c4
  have c5 : 0 + (-1 * ρ 2 + (1 * ρ 5 + 0)) ≤ 0 := c5
  have l1' : x1.toInt = ρ 0 := l1'
  have l2' : x2.toInt = ρ 1 := l2'
  have l3' : x3.toInt = ρ 2 := l3'
  obtain ⟨m, r, h', r1, ⟨x, rfl⟩, r2, r3⟩ := ywork (gv := yGk n f s t) yGkOk (d := d) hd (n := n) (f := u) (t := v) hn hv huv hw hG a0 ⟨x1, l1, by omega⟩ ⟨x2, l2, by omega⟩ ⟨x3, l3, by omega⟩
  refine ⟨m, _, h', r1, r2, r3, _, List.mem_cons_self .., yexM (fun j => if j = 7 then x.toInt else ρ0 (j + 1)) ?_ (ya1 ?_ ya0) ya0 ya0 ?_⟩
  · intro j hj
    have hj : j < 7 := hj
    show (if j = 7 then x.toInt else ρ0 (j + 1)) = _
    rw [if_neg (by omega)]
  · exact si32 x
  · show x.toInt = 0 + (1 * x.toInt + 0)
    omega
noncomputable def yAw0 : sA := ([(0, 120)], [(0, 1, (0, []))], [(0, 3)], [], [(0, 0)], (1, []))
noncomputable def yAw1 : sA := ([(0, 120)], [(0, 1, (0, [])), (0, 2, (0, [])), (3, 0, (0, []))], [(0, 3), (0, 560), (0, 3)], [(0, [(0, 1), (2, (-1))]), (0, [(0, (-1)), (2, 1)]), (0, [(1, 1), (2, (-140))]), (0, [(1, (-1)), (2, 140)])], [(0, 2)], (0, []))
noncomputable def yAw2 : sA := ([(0, 120)], [(0, 1, (0, [])), (0, 2, (0, [])), (2, 91, (0, [(0, 1)])), (2, 92, (0, [(1, 1)])), (2, 93, (0, [(1, 1)])), (2, 94, (0, [(1, 1)])), (2, 1015, (0, [])), (2, 1016, (0, [])), (2, 1017, (0, [])), (2, 1018, (0, [])), (2, 1008, (0, [])), (2, 1001, (0, []))], [(0, 3), (0, 699), (0, 140), (0, 520), (0, 520), (0, 520), (0, 4), (0, 520), (0, 520), (0, 520), (1, 1), (1, 1)], [(1, [(0, (-140)), (1, 1), (2, (-1))]), (0, [(0, 1), (6, (-1))]), (0, [(0, (-1)), (6, 1)]), (0, [(3, 1), (7, (-1))]), (0, [(3, (-1)), (7, 1)]), (0, [(4, 1), (8, (-1))]), (0, [(4, (-1)), (8, 1)]), (0, [(5, 1), (9, (-1))]), (0, [(5, (-1)), (9, 1)])], [(0, 0), (1, 1), (2, 2), (3, 3), (4, 4), (5, 5), (6, 6), (7, 7), (8, 8), (9, 9), (10, 10), (11, 11)], (1, []))
noncomputable def yAw3 : sA := ([(0, 120)], [(0, 1, (0, [])), (0, 2, (0, [])), (3, 0, (0, [])), (3, 1, (0, []))], [(0, 3), (0, 700), (0, 3), (0, 699)], [(0, [(0, 1), (2, (-1))]), (0, [(0, (-1)), (2, 1)]), ((-1), [(1, 1), (3, (-1))]), (1, [(1, (-1)), (3, 1)])], [(0, 2), (1, 3)], (0, []))
noncomputable def yAw4 : sA := ([(0, 120)], [(0, 1, (0, [])), (0, 2, (0, [])), (2, 91, (0, [(0, 1)]))], [(0, 3), (0, 700), (0, 140)], [(0, [(0, 140), (1, (-1)), (2, 1)])], [(0, 0), (1, 1), (2, 2)], (1, []))
theorem yV_s : ySg (ylb yAw1 6) [] [(96, 0, 79)] 6 1 [] 208 0 yAw0 = true := by decide +kernel
theorem yV_t : ySg (ylb yAw3 6) [yQ_k 16 17 8, yQ_k 17 18 1] [(96, 0, 79)] 6 12 [yXi 12] 208 6 yAw2 = true := by decide +kernel
theorem yV_e : ySg (fun _ => []) [] [(96, 0, 79)] 6 3 [yXi 3] 208 6 yAw4 = true := by decide +kernel
theorem yXi_r {gv : Nat → zH → Int} {n N : Nat} {ρ0 : Nat → Int} {r : Option zV} {h' : zH} (hE : ∃ X ∈ [yXi N], sEx yReg gv n X ρ0 r h') : ∃ x : Int32, r = some (.inl x) := by
  obtain ⟨X, hX, hE⟩ := hE
  have := List.mem_singleton.mp hX
  subst this
  obtain ⟨ρx, -, -, -, -, hr⟩ := yexU hE
  match r, hr with
  | some (.inl z), _ => exact ⟨z, rfl⟩
theorem yworth {d : Nat} (hd : 6 ≤ d) {h0 : zH} {n k : Nat} (hn : n < 4) (hk : yv h0 411 n = k) (hk2 : k ≤ 140) (hw : ∀ c, c < k → ycl h0 n c 520) : ∀ (r c : Nat) (loc : zL) (h : zH), c + r = k → yrf loc 0 (0, 120) → yli loc 1 n → yli loc 2 (140 * n + c : Nat) → sG yReg yG h → sF yReg [(96, 0, 79)] h0 h → ∃ m r h'', yZr m d 208 6 loc h = some (r, h'') ∧ yPr h0 r h'' := by
  intro r
  induction r with
  | zero =>
    intro c loc h hc l0 ⟨x1, l1, l1'⟩ ⟨x2, l2, l2'⟩ hG hF
    have ek : yv h 411 n = k := by
      rw [yfcv hF (by decide +kernel)]
      exact hk
    have hM : sMt yReg (yGk 0 0 0 0) (yρ [n, (140 * n + c : Nat), k]) (yρ0 [n, (140 * n + c : Nat), k] (1, [])) (sAs yAw4) loc [] h := by
      refine ymk (ya1 l0 ya0) (ya1 (yvr0 l1 l1') (ya1 (yvr0 l2 l2') (ya1 (yvr2 (ysm_p (k := 411) (by decide) (by decide +kernel) (by decide +kernel) n ?_ ?_)) ya0))) (ya1 ?_ (ya1 ?_ (ya1 ?_ ya0))) (ya1 ?_ ya0) (ya1 rfl (ya1 rfl (ya1 rfl ya0))) rfl
      · show 0 + (1 * (n : Int) + 0) = n; omega
      · rw [sY_v]; exact ek
      · show (0 : Int) ≤ n ∧ (n : Int) ≤ 3; omega
      · show (0 : Int) ≤ ((140 * n + c : Nat) : Int) ∧ ((140 * n + c : Nat) : Int) ≤ 700; omega
      · show (0 : Int) ≤ k ∧ (k : Int) ≤ 140; omega
      · show 0 + (140 * (n : Int) + (-1 * ((140 * n + c : Nat) : Int) + (1 * (k : Int) + 0))) ≤ 0; omega
    refine sseg_okP yComp ySing yCell yR1000 yGkOk hd yNil 300 6 true _ loc [] h _ _ yV_e hM hG hF ?_ ?_
    · intro pc A hA
      cases hA
    · intro r h' hG' hF' hE
      exact ⟨yXi_r hE, hG', hF'⟩
  | succ r ih =>
    intro c loc h hc l0 ⟨x1, l1, l1'⟩ ⟨x2, l2, l2'⟩ hG hF
    obtain ⟨tf, sf, st, e1, e2, e3, e4, e5, e6, w1, w2⟩ := hw c (by omega)
    have ek : yv h 411 n = k := by
      rw [yfcv hF (by decide +kernel)]
      exact hk
    have fc : ∀ i, h.1 412 i = h0.1 412 i ∧ h.1 413 i = h0.1 413 i ∧ h.1 414 i = h0.1 414 i ∧ h.1 408 i = h0.1 408 i ∧ h.1 409 i = h0.1 409 i := fun i => ⟨yfc hF (by decide +kernel) i, yfc hF (by decide +kernel) i, yfc hF (by decide +kernel) i, yfc hF (by decide +kernel) i, yfc hF (by decide +kernel) i⟩
    have f1 : yv h 412 (140 * n + c) = tf := by
      unfold yv
      rw [(fc _).1]
      exact e1
    have f2 : yv h 413 (140 * n + c) = sf := by
      unfold yv
      rw [(fc _).2.1]
      exact e2
    have f3 : yv h 414 (140 * n + c) = st := by
      unfold yv
      rw [(fc _).2.2.1]
      exact e3
    have co : ∀ i, yco h0 i = yco h i := by
      intro i
      unfold yco yv
      rw [(fc i).2.2.2.1]
    have va : ∀ i, yva h0 i = yva h i := by
      intro i
      unfold yva yv
      rw [(fc i).2.2.2.2]
    have w1 : ywf h (520 * n + tf) (sf - tf) := (ywf_c co va _ _).mp w1
    have w2 : ywf h (520 * n + sf) (st - sf) := (ywf_c co va _ _).mp w2
    have hM : sMt yReg (yGk n tf sf st) (yρ [n, (140 * n + c : Nat), k, tf, sf, st, n, tf, sf, st, 1, 1]) (yρ0 [n, (140 * n + c : Nat), k, tf, sf, st, n, tf, sf, st, 1, 1] (1, [])) (sAs yAw2) loc [] h := by
      refine ymk (ya1 l0 ya0) (ya1 (yvr0 l1 l1') (ya1 (yvr0 l2 l2') (ya1 (yvr2 (ysm_p (k := 411) (by decide) (by decide +kernel) (by decide +kernel) n ?_ ?_)) (ya1 (yvr2 (ysm_p (k := 412) (by decide) (by decide +kernel) (by decide +kernel) (140 * n + c) ?_ ?_)) (ya1 (yvr2 (ysm_p (k := 413) (by decide) (by decide +kernel) (by decide +kernel) (140 * n + c) ?_ ?_)) (ya1 (yvr2 (ysm_p (k := 414) (by decide) (by decide +kernel) (by decide +kernel) (140 * n + c) ?_ ?_)) (ya1 (yvr2 (ysm_g (a := 15) ?_)) (ya1 (yvr2 (ysm_g (a := 16) ?_)) (ya1 (yvr2 (ysm_g (a := 17) ?_)) (ya1 (yvr2 (ysm_g (a := 18) ?_)) (ya1 (yvr2 (ysm_g (a := 8) ?_)) (ya1 (yvr2 (ysm_g (a := 1) ?_)) ya0)))))))))))) (ya1 ?_ (ya1 ?_ (ya1 ?_ (ya1 ?_ (ya1 ?_ (ya1 ?_ (ya1 ?_ (ya1 ?_ (ya1 ?_ (ya1 ?_ (ya1 ?_ (ya1 ?_ ya0)))))))))))) (ya1 ?_ (ya1 ?_ (ya1 ?_ (ya1 ?_ (ya1 ?_ (ya1 ?_ (ya1 ?_ (ya1 ?_ (ya1 ?_ ya0))))))))) (ya1 rfl (ya1 rfl (ya1 rfl (ya1 rfl (ya1 rfl (ya1 rfl (ya1 rfl (ya1 rfl (ya1 rfl (ya1 rfl (ya1 rfl (ya1 rfl ya0)))))))))))) rfl
      · show 0 + (1 * (n : Int) + 0) = n; omega
      · rw [sY_v]; exact ek
      · show 0 + (1 * ((140 * n + c : Nat) : Int) + 0) = ((140 * n + c : Nat) : Int); omega
      · rw [sY_v]; exact f1
      · show 0 + (1 * ((140 * n + c : Nat) : Int) + 0) = ((140 * n + c : Nat) : Int); omega
      · rw [sY_v]; exact f2
      · show 0 + (1 * ((140 * n + c : Nat) : Int) + 0) = ((140 * n + c : Nat) : Int); omega
      · rw [sY_v]; exact f3
      · rw [sY_v]; rfl
      · rw [sY_v]; rfl
      · rw [sY_v]; rfl
      · rw [sY_v]; rfl
      · rw [sY_v]; exact yB_1.mpr w1
      · rw [sY_v]; exact yB_1.mpr w2
      · show (0 : Int) ≤ n ∧ (n : Int) ≤ 3; omega
      · show (0 : Int) ≤ ((140 * n + c : Nat) : Int) ∧ ((140 * n + c : Nat) : Int) ≤ 699; omega
      · show (0 : Int) ≤ k ∧ (k : Int) ≤ 140; omega
      · show (0 : Int) ≤ tf ∧ (tf : Int) ≤ 520; omega
      · show (0 : Int) ≤ sf ∧ (sf : Int) ≤ 520; omega
      · show (0 : Int) ≤ st ∧ (st : Int) ≤ 520; omega
      · show (0 : Int) ≤ n ∧ (n : Int) ≤ 4; omega
      · show (0 : Int) ≤ tf ∧ (tf : Int) ≤ 520; omega
      · show (0 : Int) ≤ sf ∧ (sf : Int) ≤ 520; omega
      · show (0 : Int) ≤ st ∧ (st : Int) ≤ 520; omega
      · exact ⟨Int.le_refl _, Int.le_refl _⟩
      · exact ⟨Int.le_refl _, Int.le_refl _⟩
      · show 1 + (-140 * (n : Int) + (1 * ((140 * n + c : Nat) : Int) + (-1 * (k : Int) + 0))) ≤ 0; omega
      · show 0 + (1 * (n : Int) + (-1 * (n : Int) + 0)) ≤ 0; omega
      · show 0 + (-1 * (n : Int) + (1 * (n : Int) + 0)) ≤ 0; omega
      · show 0 + (1 * (tf : Int) + (-1 * (tf : Int) + 0)) ≤ 0; omega
      · show 0 + (-1 * (tf : Int) + (1 * (tf : Int) + 0)) ≤ 0; omega
      · show 0 + (1 * (sf : Int) + (-1 * (sf : Int) + 0)) ≤ 0; omega
      · show 0 + (-1 * (sf : Int) + (1 * (sf : Int) + 0)) ≤ 0; omega
      · show 0 + (1 * (st : Int) + (-1 * (st : Int) + 0)) ≤ 0; omega
      · show 0 + (-1 * (st : Int) + (1 * (st : Int) + 0)) ≤ 0; omega
    refine sseg_okP yComp ySing yCell yR1000 yGkOk hd (yCons (yS_k (u := tf) (v := sf) (by omega) (by omega) e4 (fun _ => rfl) (fun _ => rfl) (fun _ => rfl)) (yCons (yS_k (u := sf) (v := st) (by omega) (by omega) e5 (fun _ => rfl) (fun _ => rfl) (fun _ => rfl)) yNil)) 300 6 true _ loc [] h _ _ yV_t hM hG hF ?_ ?_
    · intro pc A hA loc' h' ρ ρ0' q1 q2 q3 hM' hG' hF'
      obtain ⟨rfl, rfl⟩ := ylb_m hA
      obtain ⟨⟨b0, -⟩, ⟨v0, v1, -⟩, -, ⟨c0, c1, c2, c3, -⟩, ⟨p0, p1, -⟩, -⟩ := yun hM'
      have c0 : 0 + (1 * ρ 0 + (-1 * ρ 2 + 0)) ≤ 0 := c0
      have c1 : 0 + (-1 * ρ 0 + (1 * ρ 2 + 0)) ≤ 0 := c1
      have c2 : -1 + (1 * ρ 1 + (-1 * ρ 3 + 0)) ≤ 0 := c2
      have c3 : 1 + (-1 * ρ 1 + (1 * ρ 3 + 0)) ≤ 0 := c3
      have p0 : ρ0' 1 = ρ 2 := p0
      have p1 : ρ0' 2 = ρ 3 := p1
      have t0 : ρ0' 1 = n := q1 0
      have t1 : ρ0' 2 = ((140 * n + c : Nat) : Int) := q1 1
      obtain ⟨y1, y1a, y1b⟩ := v0
      obtain ⟨y2, y2a, y2b⟩ := v1
      have y1b : y1.toInt = ρ 0 := y1b
      have y2b : y2.toInt = ρ 1 := y2b
      refine ih (c + 1) loc' h' (by omega) b0 ⟨y1, y1a, by omega⟩ ⟨y2, y2a, ?_⟩ hG' hF'
      rw [y2b]
      omega
    · intro r h' hG' hF' hE
      exact ⟨yXi_r hE, hG', hF'⟩
theorem yT6_ok {t s : Nat} (ht : t < 5) {c0 v0 : Nat → Int} {ar : Nat → Int32} : ySum (yGv t s c0 v0 ar) yT6 := by
  intro args h ρ ρ0 hG hM d hd
  have hd : 6 ≤ d := hd
  obtain ⟨⟨a0, -⟩, ⟨⟨x, l1, l1'⟩, m1, m2, -⟩, ⟨b0, b1, b2, -⟩, ⟨k0, k1, -⟩, -, -⟩ := yun hM
  have l1' : x.toInt = ρ 0 := l1'
  have b0 : 0 ≤ ρ 0 ∧ ρ 0 ≤ 3 := b0
  have b2 : 1 ≤ ρ 2 ∧ ρ 2 ≤ 1 := b2
  have k0 : 0 + (1 * ρ 0 + (-1 * ρ 1 + 0)) ≤ 0 := k0
  have k1 : 0 + (-1 * ρ 0 + (1 * ρ 1 + 0)) ≤ 0 := k1
  have g4 : yG4 h := by
    have := ysm_gu (a := 4) m2
    rw [sY_v] at this
    have this : yGv t s c0 v0 ar 4 h = ρ 2 := this
    rw [show ρ 2 = 1 by omega] at this
    exact yB_1.mp this
  have ho := ysm_u (k := 440) (by decide) (by decide +kernel) m1 25 rfl
  rw [sY_v] at ho
  have ho : yv h 440 25 = ρ 1 := ho
  obtain ⟨n, hn⟩ : ∃ n : Nat, ρ 0 = n := ⟨(ρ 0).toNat, by omega⟩
  have g1 := g4.1
  obtain ⟨k, hk, hk2, hw⟩ := g4.2 n (by omega) (by omega)
  have hM2 : sMt yReg (yGk 0 0 0 0) (yρ [n]) (yρ0 [n] (1, [])) (sAs yAw0) (zent 0 args) [] h := by
    refine ymk (ya1 a0 ya0) (ya1 (yvr0 l1 ?_) ya0) (ya1 ?_ ya0) ya0 (ya1 rfl ya0) rfl
    · show x.toInt = n; omega
    · show (0 : Int) ≤ n ∧ (n : Int) ≤ 3; omega
  have key : ∃ m r h', yZr m d 208 0 (zent 0 args) h = some (r, h') ∧ yPr h r h' := by
    refine sseg_okP yComp ySing yCell yR1000 yGkOk hd yNil 300 0 true _ (zent 0 args) [] h _ _ yV_s hM2 hG (fun _ _ hne => absurd rfl hne) ?_ ?_
    · intro pc A hA loc' h' ρ' ρ0' q1 q2 q3 hM' hG' hF'
      obtain ⟨rfl, rfl⟩ := ylb_m hA
      obtain ⟨⟨b0, -⟩, ⟨v0, v1, -⟩, -, ⟨c0, c1, c2, c3, -⟩, ⟨p0, -⟩, -⟩ := yun hM'
      have c0 : 0 + (1 * ρ' 0 + (-1 * ρ' 2 + 0)) ≤ 0 := c0
      have c1 : 0 + (-1 * ρ' 0 + (1 * ρ' 2 + 0)) ≤ 0 := c1
      have c2 : 0 + (1 * ρ' 1 + (-140 * ρ' 2 + 0)) ≤ 0 := c2
      have c3 : 0 + (-1 * ρ' 1 + (140 * ρ' 2 + 0)) ≤ 0 := c3
      have p0 : ρ0' 1 = ρ' 2 := p0
      have t0 : ρ0' 1 = n := q1 0
      obtain ⟨y1, y1a, y1b⟩ := v0
      obtain ⟨y2, y2a, y2b⟩ := v1
      have y1b : y1.toInt = ρ' 0 := y1b
      have y2b : y2.toInt = ρ' 1 := y2b
      refine yworth hd (by omega) hk hk2 hw k 0 loc' h' (by omega) b0 ⟨y1, y1a, by omega⟩ ⟨y2, y2a, ?_⟩ hG' hF'
      rw [y2b]
      omega
    · intro r h' _ _ ⟨X, hX, _⟩
      cases hX
  obtain ⟨m, r, h', r1, ⟨z, rfl⟩, r2, r3⟩ := key
  refine ⟨m, _, h', r1, r2, r3, _, List.mem_cons_self .., yexM (fun j => if j = 3 then z.toInt else ρ0 (j + 1)) ?_ (ya1 ?_ ya0) ya0 ya0 ?_⟩
  · intro j hj
    have hj : j < 3 := hj
    show (if j = 3 then z.toInt else ρ0 (j + 1)) = _
    rw [if_neg (by omega)]
  · exact si32 z
  · show z.toInt = 0 + (1 * z.toInt + 0)
    omega
