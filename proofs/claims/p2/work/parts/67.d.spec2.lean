/-! undo, back, image, ring -/
theorem yfrG {md : sD} {h h' : zH} (hF : sF yReg md h h') {b : Nat} (hb : yfre md (yGu b) = true) : yG0 b h = yG0 b h' := yGvOk (by decide) b h h' (fun k i hz => yfre_ok hb hF hz)
theorem yfr4 {md : sD} {h h' : zH} (hF : sF yReg md h h') (hb : yfre md (yGu 4) = true) (g : yG4 h) : yG4 h' := yB_1.mp (show yG0 4 h' = 1 by rw [← yfrG hF hb]; exact yB_1.mpr g)
theorem yfr5 {md : sD} {h h' : zH} (hF : sF yReg md h h') (hb : yfre md (yGu 5) = true) (g : yG5 h) : yG5 h' := yB_1.mp (show yG0 5 h' = 1 by rw [← yfrG hF hb]; exact yB_1.mpr g)
theorem yfr6 {md : sD} {h h' : zH} (hF : sF yReg md h h') (hb : yfre md (yGu 6) = true) (g : yG6 h) : yG6 h' := yB_1.mp (show yG0 6 h' = 1 by rw [← yfrG hF hb]; exact yB_1.mpr g)
theorem yfr7 {md : sD} {h h' : zH} (hF : sF yReg md h h') (hb : yfre md (yGu 7) = true) (g : yG7 h) : yG7 h' := yB_1.mp (show yG0 7 h' = 1 by rw [← yfrG hF hb]; exact yB_1.mpr g)
theorem yfrm {md : sD} {h h' : zH} (hF : sF yReg md h h') (hb : yfre md [(120, 22, 22), (99, 0, 0)] = true) (g : yv h 440 22 ≤ 6 * yv h 419 0) : yv h' 440 22 ≤ 6 * yv h' 419 0 := by
  have e1 : h.1 440 22 = h'.1 440 22 := yfre_ok hb hF ⟨(120, 22, 22), List.mem_cons_self .., by decide +kernel, by decide, by decide⟩
  have e2 : h.1 419 0 = h'.1 419 0 := yfre_ok hb hF ⟨(99, 0, 0), List.mem_cons_of_mem _ (List.mem_cons_self ..), by decide +kernel, by decide, by decide⟩
  unfold yv at g ⊢
  rw [← e1, ← e2]
  exact g
theorem yrt {ρ : Nat → Int} {e : sE} {r : Option zV} (hr : srt yReg ρ (some (0, e)) r) : ∃ x : Int32, r = some (.inl x) := by
  match r, hr with
  | some (.inl z), _ => exact ⟨z, rfl⟩
/-- nothing changed -/
noncomputable def yQ_z (mid : Nat) (vs : List (Nat × Nat × sE)) (b : sB) (en : List (Nat × Nat)) : sQ := (mid, ([(0, 120)], vs, b, [], en, (0, [])), [(some (0, ((-1), [])), [], [], [], [])], [], 0)
theorem yzero {mid : Nat} {vs : List (Nat × Nat × sE)} {b : sB} {en : List (Nat × Nat)} (hS : ySum yG0 (yQ_z mid vs b en)) {args : List zV} {h : zH} {ρ ρ0 : Nat → Int} (hI : yInv h) (hM : sMt yReg yG0 ρ ρ0 (sAs (yQ_z mid vs b en).2.1) (zent 0 args) [] h) : yGood 60 mid args h := by
  obtain ⟨hG, g4, g5, g6, g7, gm⟩ := hI
  obtain ⟨m, r, h', r1, r2, r3, hx⟩ := hS args h _ _ hG hM 60 (show 0 ≤ 60 by decide)
  have r3 : sF yReg [] h h' := r3
  refine yone hx (ya1 ?_ ya0)
  intro hE
  obtain ⟨ρx, -, -, -, -, hr⟩ := yexU hE
  obtain ⟨x, rfl⟩ := yrt hr
  exact ⟨m, x, h', r1, ⟨r2, yfr4 r3 rfl g4, yfr5 r3 rfl g5, yfr6 r3 rfl g6, yfr7 r3 rfl g7, yfrm r3 rfl gm⟩, yfr r3 rfl, yfr r3 rfl⟩
theorem yS_u0 {gv : Nat → zH → Int} (hg : sGv yReg yGu gv) : ySum gv (yQ_z 200 [(2, 120, (39, []))] [(0, 0)] [(0, 0)]) := yOk hg (F := 500) (sp := []) (L := []) (Qs := []) (by decide +kernel) yNil
theorem yP_X12_undo {h : zH} (hI : yInv h) : yGood 60 200 [.inr (.inr 440)] h := by
  have b39 := hI.1 440 (39, 39, 0, 40) (by decide +kernel) 39 (Nat.le_refl _) (Nat.le_refl _)
  have b39 : 0 ≤ yv h 440 39 ∧ yv h 440 39 ≤ 40 := b39
  by_cases h0 : yv h 440 39 = 0
  · refine yzero (yS_u0 (yGvOk (by decide))) (ρ := yρ [yv h 440 39]) (ρ0 := yρ0 [yv h 440 39] (0, [])) hI ?_
    refine ymk (ya1 ⟨440, rfl, by decide +kernel⟩ ya0) (ya1 (yvr2 (ysm_p (k := 440) (by decide) (by decide +kernel) (by decide +kernel) 39 rfl ?_)) ya0) (ya1 ?_ ya0) ya0 (ya1 rfl ya0) rfl
    · rw [sY_v]; rfl
    · show 0 ≤ yv h 440 39 ∧ yv h 440 39 ≤ 0; omega
  · obtain ⟨hG, g4, g5, g6, g7, gm⟩ := hI
    obtain ⟨a, ha⟩ : ∃ a : Nat, yv h 440 39 = a + 1 := ⟨(yv h 440 39 - 1).toNat, by omega⟩
    obtain ⟨pm, bd, n0, n1⟩ := g6 a (by omega) (by omega)
    have hM : sMt yReg yG0 (yρ [yv h 440 39, yv h 429 (220 * a + 30 + 0), yv h 429 (220 * a + 30 + 1), yv h 429 (220 * a + 30 + 2), yv h 429 (220 * a + 30 + 3), yv h 429 (220 * a + 30 + 4), yv h 429 (220 * a + 30 + 5), yv h 429 (220 * a + 39)]) (yρ0 [yv h 440 39, yv h 429 (220 * a + 30 + 0), yv h 429 (220 * a + 30 + 1), yv h 429 (220 * a + 30 + 2), yv h 429 (220 * a + 30 + 3), yv h 429 (220 * a + 30 + 4), yv h 429 (220 * a + 30 + 5), yv h 429 (220 * a + 39)] yQ906.2.1.2.2.2.2.2) (sAs yQ906.2.1) (zent 0 [.inr (.inr 440)]) [] h := by
      refine ymk (ya1 ⟨440, rfl, by decide +kernel⟩ ya0) (ya1 (yvr2 (ysm_p (k := 440) (by decide) (by decide +kernel) (by decide +kernel) 39 rfl ?_)) (ya1 (yvr2 (ysm_p (k := 429) (by decide) (by decide +kernel) (by decide +kernel) (220 * a + 30 + 0) ?_ ?_)) (ya1 (yvr2 (ysm_p (k := 429) (by decide) (by decide +kernel) (by decide +kernel) (220 * a + 30 + 1) ?_ ?_)) (ya1 (yvr2 (ysm_p (k := 429) (by decide) (by decide +kernel) (by decide +kernel) (220 * a + 30 + 2) ?_ ?_)) (ya1 (yvr2 (ysm_p (k := 429) (by decide) (by decide +kernel) (by decide +kernel) (220 * a + 30 + 3) ?_ ?_)) (ya1 (yvr2 (ysm_p (k := 429) (by decide) (by decide +kernel) (by decide +kernel) (220 * a + 30 + 4) ?_ ?_)) (ya1 (yvr2 (ysm_p (k := 429) (by decide) (by decide +kernel) (by decide +kernel) (220 * a + 30 + 5) ?_ ?_)) (ya1 (yvr2 (ysm_p (k := 429) (by decide) (by decide +kernel) (by decide +kernel) (220 * a + 39) ?_ ?_)) ya0)))))))) (ya1 b39 (ya1 (bd 0 (by decide)) (ya1 (bd 1 (by decide)) (ya1 (bd 2 (by decide)) (ya1 (bd 3 (by decide)) (ya1 (bd 4 (by decide)) (ya1 (bd 5 (by decide)) (ya1 ⟨n0, n1⟩ ya0)))))))) (ya1 ?_ ya0) (ya1 rfl (ya1 rfl (ya1 rfl (ya1 rfl (ya1 rfl (ya1 rfl (ya1 rfl (ya1 rfl ya0)))))))) rfl
      · rw [sY_v]; rfl
      · show -190 + (220 * yv h 440 39 + 0) = _; omega
      · rw [sY_v]; rfl
      · show -189 + (220 * yv h 440 39 + 0) = _; omega
      · rw [sY_v]; rfl
      · show -188 + (220 * yv h 440 39 + 0) = _; omega
      · rw [sY_v]; rfl
      · show -187 + (220 * yv h 440 39 + 0) = _; omega
      · rw [sY_v]; rfl
      · show -186 + (220 * yv h 440 39 + 0) = _; omega
      · rw [sY_v]; rfl
      · show -185 + (220 * yv h 440 39 + 0) = _; omega
      · rw [sY_v]; rfl
      · show -181 + (220 * yv h 440 39 + 0) = _; omega
      · rw [sY_v]; rfl
      · show 1 + (-1 * yv h 440 39 + 0) ≤ 0; omega
    obtain ⟨m, r, h', r1, r2, r3, hx⟩ := yS_undoL (yGvOk (by decide)) _ h _ _ hG hM 60 (Nat.zero_le _)
    have r3 : sF yReg [(120, 39, 39), (101, 0, 219)] h h' := r3
    refine yone hx (ya1 ?_ ya0)
    intro hE
    obtain ⟨ρx, q, -, ⟨-, c1, c2, -⟩, ⟨m0, m1, m2, m3, m4, m5, m6, -⟩, hr⟩ := yexU hE
    obtain ⟨x, rfl⟩ := yrt hr
    have q0 : ρx 0 = yv h 440 39 := q 0 (by decide)
    have c1 : 1 + (-1 * ρx 0 + (1 * ρx 8 + 0)) ≤ 0 := c1
    have c2 : -1 + (1 * ρx 0 + (-1 * ρx 8 + 0)) ≤ 0 := c2
    have w39 : yv h' 440 39 = 0 + (1 * ρx 8 + 0) := ysm_u (k := 440) (by decide) (by decide +kernel) m0 39 rfl
    have mn : yv h' 440 22 = yv h 440 22 := yfv r3 (by decide +kernel)
    have nw : ∀ d : Nat, d < 6 → yv h' 421 (0 + 30 + d) = yv h 429 (220 * a + 30 + d) := by
      intro d hd
      have e1 : yv h' 421 30 = 0 + (1 * ρx 1 + 0) := ysm_u (k := 421) (by decide) (by decide +kernel) m1 30 rfl
      have e2 : yv h' 421 31 = 0 + (1 * ρx 2 + 0) := ysm_u (k := 421) (by decide) (by decide +kernel) m2 31 rfl
      have e3 : yv h' 421 32 = 0 + (1 * ρx 3 + 0) := ysm_u (k := 421) (by decide) (by decide +kernel) m3 32 rfl
      have e4 : yv h' 421 33 = 0 + (1 * ρx 4 + 0) := ysm_u (k := 421) (by decide) (by decide +kernel) m4 33 rfl
      have e5 : yv h' 421 34 = 0 + (1 * ρx 5 + 0) := ysm_u (k := 421) (by decide) (by decide +kernel) m5 34 rfl
      have e6 : yv h' 421 35 = 0 + (1 * ρx 6 + 0) := ysm_u (k := 421) (by decide) (by decide +kernel) m6 35 rfl
      have f1 : ρx 1 = yv h 429 (220 * a + 30 + 0) := q 1 (by decide)
      have f2 : ρx 2 = yv h 429 (220 * a + 30 + 1) := q 2 (by decide)
      have f3 : ρx 3 = yv h 429 (220 * a + 30 + 2) := q 3 (by decide)
      have f4 : ρx 4 = yv h 429 (220 * a + 30 + 3) := q 4 (by decide)
      have f5 : ρx 5 = yv h 429 (220 * a + 30 + 4) := q 5 (by decide)
      have f6 : ρx 6 = yv h 429 (220 * a + 30 + 5) := q 6 (by decide)
      rcases (show d = 0 ∨ d = 1 ∨ d = 2 ∨ d = 3 ∨ d = 4 ∨ d = 5 by omega) with rfl | rfl | rfl | rfl | rfl | rfl
      · rw [← f1]; show yv h' 421 30 = _; omega
      · rw [← f2]; show yv h' 421 31 = _; omega
      · rw [← f3]; show yv h' 421 32 = _; omega
      · rw [← f4]; show yv h' 421 33 = _; omega
      · rw [← f5]; show yv h' 421 34 = _; omega
      · rw [← f6]; show yv h' 421 35 = _; omega
    refine ⟨m, x, h', r1, ⟨r2, yfr4 r3 (by decide +kernel) g4, ?_, ?_, yfr7 r3 (by decide +kernel) g7, yfrm r3 (by decide +kernel) gm⟩, yfr r3 (by decide +kernel), yfr r3 (by decide +kernel)⟩
    · intro s s1 s2
      rw [mn] at s2
      obtain ⟨d, d1, d2, d3⟩ := pm s s1 s2
      exact ⟨d, d1, by rw [mn]; exact d2, (nw d d1).trans d3⟩
    · intro b b1 b2
      obtain ⟨p1, p2, p3, p4⟩ := g6 b b1 (by omega)
      have kv : ∀ i, yv h' 429 i = yv h 429 i := fun i => by
        unfold yv
        rw [yfc r3 (by decide +kernel)]
      refine ⟨(ypm_c mn.symm (fun d _ => (kv _).symm)).mp p1, fun d hd => ?_, ?_, ?_⟩
      · rw [kv]; exact p2 d hd
      · rw [kv]; exact p3
      · rw [kv]; exact p4
noncomputable def yQ_bk : sQ := (104, ([(0, 120)], [(2, 120, (55, []))], [(1, 1)], [], [(0, 0)], (300, [])), [(some (0, (0, [(1, 1)])), [(120, (39, []), (0, []))], [((-2147483648), 2147483647)], [], [0])], [(120, 39, 39), (101, 0, 219)], 0)
theorem yS_bk {gv : Nat → zH → Int} (hg : sGv yReg yGu gv) : ySum gv yQ_bk := yOk hg (F := 500) (sp := []) (L := [(11, [(([(0, 120)], [(0, 1, (0, []))], [(0, 220)], [], [], (220, [(0, (-1))])), [((0, [(0, 1)]), [30, 36, 39, 40])])])]) (Qs := []) (by decide +kernel) yNil
theorem yS_b0 {gv : Nat → zH → Int} (hg : sGv yReg yGu gv) : ySum gv (yQ_z 104 [(2, 120, (55, []))] [(0, 0)] [(0, 0)]) := yOk hg (F := 500) (sp := []) (L := []) (Qs := []) (by decide +kernel) yNil
theorem yP_X12_back {h : zH} (hI : yInv h) : yGood 60 104 [.inr (.inr 440)] h := by
  have b55 := hI.1 440 (55, 55, 0, 1) (by decide +kernel) 55 (Nat.le_refl _) (Nat.le_refl _)
  have b55 : 0 ≤ yv h 440 55 ∧ yv h 440 55 ≤ 1 := b55
  by_cases h0 : yv h 440 55 = 0
  · refine yzero (yS_b0 (yGvOk (by decide))) (ρ := yρ [yv h 440 55]) (ρ0 := yρ0 [yv h 440 55] (0, [])) hI ?_
    refine ymk (ya1 ⟨440, rfl, by decide +kernel⟩ ya0) (ya1 (yvr2 (ysm_p (k := 440) (by decide) (by decide +kernel) (by decide +kernel) 55 rfl ?_)) ya0) (ya1 ?_ ya0) ya0 (ya1 rfl ya0) rfl
    · rw [sY_v]; rfl
    · show 0 ≤ yv h 440 55 ∧ yv h 440 55 ≤ 0; omega
  · obtain ⟨hG, g4, g5, g6, g7, gm⟩ := hI
    have hM : sMt yReg yG0 (yρ [yv h 440 55]) (yρ0 [yv h 440 55] (300, [])) (sAs yQ_bk.2.1) (zent 0 [.inr (.inr 440)]) [] h := by
      refine ymk (ya1 ⟨440, rfl, by decide +kernel⟩ ya0) (ya1 (yvr2 (ysm_p (k := 440) (by decide) (by decide +kernel) (by decide +kernel) 55 rfl ?_)) ya0) (ya1 ?_ ya0) ya0 (ya1 rfl ya0) rfl
      · rw [sY_v]; rfl
      · show 1 ≤ yv h 440 55 ∧ yv h 440 55 ≤ 1; omega
    obtain ⟨m, r, h', r1, r2, r3, hx⟩ := yS_bk (yGvOk (by decide)) _ h _ _ hG hM 60 (Nat.zero_le _)
    have r3 : sF yReg [(120, 39, 39), (101, 0, 219)] h h' := r3
    have key : ∀ q : Nat, q < 6 → yv h' 421 (0 + 30 + q) = yv h 439 (0 + 30 + q) := by
      intro q hq
      have bi := hG 439 (30, 35, 0, 5) (by decide +kernel) (30 + q) (by show 30 ≤ 30 + q; omega) (by show 30 + q ≤ 35; omega)
      have hM2 : sMt yReg yG0 (yρ [yv h 440 55, (30 + q : Nat), yv h 439 (30 + q)]) (yρ0 [yv h 440 55, (30 + q : Nat), yv h 439 (30 + q)] yQ286.2.1.2.2.2.2.2) (sAs yQ286.2.1) (zent 0 [.inr (.inr 440)]) [] h := by
        refine ymk (ya1 ⟨440, rfl, by decide +kernel⟩ ya0) (ya1 (yvr2 (ysm_p (k := 440) (by decide) (by decide +kernel) (by decide +kernel) 55 rfl ?_)) (ya1 yvr3 (ya1 (yvr2 (ysm_p (k := 439) (by decide) (by decide +kernel) (by decide +kernel) (30 + q) ?_ ?_)) ya0))) (ya1 b55 (ya1 ?_ (ya1 bi ya0))) ya0 (ya1 rfl (ya1 rfl (ya1 rfl ya0))) rfl
        · rw [sY_v]; rfl
        · show 0 + (1 * ((30 + q : Nat) : Int) + 0) = _; omega
        · rw [sY_v]; rfl
        · show (30 : Int) ≤ ((30 + q : Nat) : Int) ∧ ((30 + q : Nat) : Int) ≤ 35; omega
      obtain ⟨m2, r', h2, t1, -, -, hx2⟩ := yS_backL (yGvOk (by decide)) _ h _ _ hG hM2 60 (Nat.zero_le _)
      have := yrun_u r1 t1
      cases this
      refine yone hx2 (ya1 ?_ (ya1 ?_ ya0))
      · intro hE
        obtain ⟨ρx, p, -, ⟨c0, -⟩, -, -⟩ := yexU hE
        have c0 : 0 + (1 * ρx 0 + 0) ≤ 0 := c0
        have p0 : ρx 0 = yv h 440 55 := p 0 (by decide)
        omega
      · intro hE
        obtain ⟨ρx, p, -, -, ⟨mm, -⟩, -⟩ := yexU hE
        have p1 : ρx 1 = ((30 + q : Nat) : Int) := p 1 (by decide)
        have p2 : ρx 2 = yv h 439 (30 + q) := p 2 (by decide)
        have u : yv h' 421 (30 + q) = 0 + (1 * ρx 2 + 0) := ysm_u (k := 421) (by decide) (by decide +kernel) mm (30 + q) (by show 0 + (1 * ρx 1 + 0) = _; omega)
        rw [Nat.zero_add]
        omega
    refine yone hx (ya1 ?_ ya0)
    intro hE
    obtain ⟨ρx, -, -, -, ⟨m0, -⟩, hr⟩ := yexU hE
    obtain ⟨x, rfl⟩ := yrt hr
    have w39 : yv h' 440 39 = 0 + 0 := ysm_u (k := 440) (by decide) (by decide +kernel) m0 39 rfl
    have mn : yv h' 440 22 = yv h 440 22 := yfv r3 (by decide +kernel)
    have pm : ypm h 439 0 := by
      rcases g7 with g | g
      · exact absurd g h0
      · exact g
    refine ⟨m, x, h', r1, ⟨r2, yfr4 r3 (by decide +kernel) g4, ?_, ?_, yfr7 r3 (by decide +kernel) g7, yfrm r3 (by decide +kernel) gm⟩, yfr r3 (by decide +kernel), yfr r3 (by decide +kernel)⟩
    · intro s s1 s2
      rw [mn] at s2
      obtain ⟨d, d1, d2, d3⟩ := pm s s1 s2
      exact ⟨d, d1, by rw [mn]; exact d2, (key d d1).trans d3⟩
    · intro b b1 b2
      omega
theorem yP_X12_image {h : zH} (hI : yInv h) : yGood 60 132 [.inr (.inr 440)] h := by
  obtain ⟨hG, g4, g5, g6, g7, gm⟩ := hI
  have b22 := hG 440 (22, 22, 0, 6) (by decide +kernel) 22 (Nat.le_refl _) (Nat.le_refl _)
  have b22 : 0 ≤ yv h 440 22 ∧ yv h 440 22 ≤ 6 := b22
  have b55 := hG 440 (55, 55, 0, 1) (by decide +kernel) 55 (Nat.le_refl _) (Nat.le_refl _)
  have go : ∀ q : Nat, q < 6 → ∃ m x h', yrun m 60 132 [.inr (.inr 440)] h = some (some (.inl x), h') ∧ sG yReg yG h' ∧ sF yReg [(120, 55, 55), (119, 0, 219)] h h' ∧ (yv h 440 22 ≤ 0 ∨ yv h' 439 (0 + 30 + q) = yv h 421 (0 + 30 + q)) := by
    intro q hq
    have bi := hG 421 (30, 35, 0, 5) (by decide +kernel) (30 + q) (by show 30 ≤ 30 + q; omega) (by show 30 + q ≤ 35; omega)
    have hM2 : sMt yReg yG0 (yρ [yv h 440 22, yv h 440 55, (30 + q : Nat), yv h 421 (30 + q)]) (yρ0 [yv h 440 22, yv h 440 55, (30 + q : Nat), yv h 421 (30 + q)] yQ738.2.1.2.2.2.2.2) (sAs yQ738.2.1) (zent 0 [.inr (.inr 440)]) [] h := by
      refine ymk (ya1 ⟨440, rfl, by decide +kernel⟩ ya0) (ya1 (yvr2 (ysm_p (k := 440) (by decide) (by decide +kernel) (by decide +kernel) 22 rfl ?_)) (ya1 (yvr2 (ysm_p (k := 440) (by decide) (by decide +kernel) (by decide +kernel) 55 rfl ?_)) (ya1 yvr3 (ya1 (yvr2 (ysm_p (k := 421) (by decide) (by decide +kernel) (by decide +kernel) (30 + q) ?_ ?_)) ya0)))) (ya1 b22 (ya1 b55 (ya1 ?_ (ya1 bi ya0)))) ya0 (ya1 rfl (ya1 rfl (ya1 rfl (ya1 rfl ya0)))) rfl
      · rw [sY_v]; rfl
      · rw [sY_v]; rfl
      · show 0 + (1 * ((30 + q : Nat) : Int) + 0) = _; omega
      · rw [sY_v]; rfl
      · show (30 : Int) ≤ ((30 + q : Nat) : Int) ∧ ((30 + q : Nat) : Int) ≤ 35; omega
    obtain ⟨m, r, h', r1, r2, r3, hx⟩ := yS_imageL (yGvOk (by decide)) _ h _ _ hG hM2 60 (Nat.zero_le _)
    refine yone hx (ya1 ?_ (ya1 ?_ ya0))
    · intro hE
      obtain ⟨ρx, p, -, ⟨c0, -⟩, -, hr⟩ := yexU hE
      obtain ⟨x, rfl⟩ := yrt hr
      have c0 : 0 + (1 * ρx 0 + 0) ≤ 0 := c0
      have p0 : ρx 0 = yv h 440 22 := p 0 (by decide)
      exact ⟨m, x, h', r1, r2, r3, Or.inl (by omega)⟩
    · intro hE
      obtain ⟨ρx, p, -, -, ⟨-, mm, -⟩, hr⟩ := yexU hE
      obtain ⟨x, rfl⟩ := yrt hr
      have p2 : ρx 2 = ((30 + q : Nat) : Int) := p 2 (by decide)
      have p3 : ρx 3 = yv h 421 (30 + q) := p 3 (by decide)
      have u : yv h' 439 (30 + q) = 0 + (1 * ρx 3 + 0) := ysm_u (k := 439) (by decide) (by decide +kernel) mm (30 + q) (by show 0 + (1 * ρx 2 + 0) = _; omega)
      refine ⟨m, x, h', r1, r2, r3, Or.inr ?_⟩
      rw [Nat.zero_add]
      omega
  obtain ⟨m, x, h', r1, r2, r3, -⟩ := go 0 (by decide)
  have key : ∀ q : Nat, q < 6 → yv h 440 22 ≤ 0 ∨ yv h' 439 (0 + 30 + q) = yv h 421 (0 + 30 + q) := by
    intro q hq
    obtain ⟨m2, x2, h2, t1, -, -, t2⟩ := go q hq
    have := yrun_u r1 t1
    cases this
    exact t2
  have mn : yv h' 440 22 = yv h 440 22 := yfv r3 (by decide +kernel)
  refine ⟨m, x, h', r1, ⟨r2, yfr4 r3 (by decide +kernel) g4, yfr5 r3 (by decide +kernel) g5, yfr6 r3 (by decide +kernel) g6, Or.inr ?_, yfrm r3 (by decide +kernel) gm⟩, yfr r3 (by decide +kernel), yfr r3 (by decide +kernel)⟩
  intro s s1 s2
  rw [mn] at s2
  obtain ⟨d, d1, d2, d3⟩ := g5 s s1 s2
  refine ⟨d, d1, by rw [mn]; exact d2, ?_⟩
  rcases key d d1 with k | k
  · omega
  · exact k.trans d3
theorem yS_r0 {gv : Nat → zH → Int} (hg : sGv yReg yGu gv) : ySum gv (yQ_z 177 [(0, 1, (0, [])), (2, 120, (22, []))] [((-2147483648), 2147483647), (0, 0)] [(0, 0), (1, 1)]) := yOk hg (F := 500) (sp := []) (L := []) (Qs := []) (by decide +kernel) yNil
theorem yP_X12_ring {h : zH} (hI : yInv h) (a : Int32) : yGood 60 177 [.inr (.inr 440), .inl a] h := by
  have b22 := hI.1 440 (22, 22, 0, 6) (by decide +kernel) 22 (Nat.le_refl _) (Nat.le_refl _)
  have b22 : 0 ≤ yv h 440 22 ∧ yv h 440 22 ≤ 6 := b22
  by_cases h0 : yv h 440 22 = 0
  · refine yzero (yS_r0 (yGvOk (by decide))) (ρ := yρ [a.toInt, yv h 440 22]) (ρ0 := yρ0 [a.toInt, yv h 440 22] (0, [])) hI ?_
    refine ymk (ya1 ⟨440, rfl, by decide +kernel⟩ ya0) (ya1 (yvr0 (x := a) rfl rfl) (ya1 (yvr2 (ysm_p (k := 440) (by decide) (by decide +kernel) (by decide +kernel) 22 rfl ?_)) ya0)) (ya1 (si32 a) (ya1 ?_ ya0)) ya0 (ya1 rfl (ya1 rfl ya0)) rfl
    · rw [sY_v]; rfl
    · show 0 ≤ yv h 440 22 ∧ yv h 440 22 ≤ 0; omega
  · obtain ⟨hG, g4, g5, g6, g7, gm⟩ := hI
    have go : ∀ q : Nat, q < 6 → (q : Int) < yv h 440 22 → ∃ m x h', yrun m 60 177 [.inr (.inr 440), .inl a] h = some (some (.inl x), h') ∧ sG yReg yG h' ∧ sF yReg yQ883.2.2.2.1 h h' ∧ yv h' 421 (0 + 30 + q) = yv h 421 (0 + 30 + q) := by
      intro q hq hq2
      have bi := hG 421 (30, 35, 0, 5) (by decide +kernel) (30 + q) (by show 30 ≤ 30 + q; omega) (by show 30 + q ≤ 35; omega)
      have hM2 : sMt yReg yG0 (yρ [a.toInt, yv h 440 22, 1, 1, (q : Int), yv h 421 (30 + q)]) (yρ0 [a.toInt, yv h 440 22, 1, 1, (q : Int), yv h 421 (30 + q)] yQ883.2.1.2.2.2.2.2) (sAs yQ883.2.1) (zent 0 [.inr (.inr 440), .inl a]) [] h := by
        refine ymk (ya1 ⟨440, rfl, by decide +kernel⟩ ya0) (ya1 (yvr0 (x := a) rfl rfl) (ya1 (yvr2 (ysm_p (k := 440) (by decide) (by decide +kernel) (by decide +kernel) 22 rfl ?_)) (ya1 (yvr2 (ysm_g (a := 4) ?_)) (ya1 (yvr2 (ysm_g (a := 5) ?_)) (ya1 yvr3 (ya1 (yvr2 (ysm_p (k := 421) (by decide) (by decide +kernel) (by decide +kernel) (30 + q) ?_ ?_)) ya0)))))) (ya1 (si32 a) (ya1 b22 (ya1 ⟨Int.le_refl _, Int.le_refl _⟩ (ya1 ⟨Int.le_refl _, Int.le_refl _⟩ (ya1 ?_ (ya1 bi ya0)))))) (ya1 ?_ ya0) (ya1 rfl (ya1 rfl (ya1 rfl (ya1 rfl (ya1 rfl (ya1 rfl ya0)))))) rfl
        · rw [sY_v]; rfl
        · rw [sY_v]; exact yB_1.mpr g4
        · rw [sY_v]; exact yB_1.mpr g5
        · show 30 + (1 * (q : Int) + 0) = _; omega
        · rw [sY_v]; rfl
        · show (0 : Int) ≤ q ∧ (q : Int) ≤ 5; omega
        · show 1 + (-1 * yv h 440 22 + (1 * (q : Int) + 0)) ≤ 0; omega
      obtain ⟨m, r, h', r1, r2, r3, hx⟩ := yS_ringL (yGvOk (by decide)) (yHy_le (by decide) (yHyB (by decide))) _ h _ _ hG hM2 60 (by decide)
      have fin : ∀ (ρx : Nat → Int) (e : sE), (∀ j, j < 6 → ρx j = yρ0 [a.toInt, yv h 440 22, 1, 1, (q : Int), yv h 421 (30 + q)] yQ883.2.1.2.2.2.2.2 (j + 1)) → smm yReg yG0 ρx h' (101, (30, [(4, 1)]), (0, [(5, 1)])) → srt yReg ρx (some (0, e)) r → ∃ m x h', yrun m 60 177 [.inr (.inr 440), .inl a] h = some (some (.inl x), h') ∧ sG yReg yG h' ∧ sF yReg yQ883.2.2.2.1 h h' ∧ yv h' 421 (0 + 30 + q) = yv h 421 (0 + 30 + q) := by
        intro ρx e p mm hr
        obtain ⟨x, rfl⟩ := yrt hr
        have p4 : ρx 4 = q := p 4 (by decide)
        have p5 : ρx 5 = yv h 421 (30 + q) := p 5 (by decide)
        have u : yv h' 421 (30 + q) = 0 + (1 * ρx 5 + 0) := ysm_u (k := 421) (by decide) (by decide +kernel) mm (30 + q) (by show 30 + (1 * ρx 4 + 0) = _; omega)
        refine ⟨m, x, h', r1, r2, r3, ?_⟩
        rw [Nat.zero_add]
        omega
      refine yone hx (ya1 ?_ (ya1 ?_ (ya1 ?_ (ya1 ?_ ya0))))
      · intro hE
        obtain ⟨ρx, p, -, -, ⟨-, mm, -⟩, hr⟩ := yexU hE
        exact fin ρx _ p mm hr
      · intro hE
        obtain ⟨ρx, p, -, -, ⟨-, mm, -⟩, hr⟩ := yexU hE
        exact fin ρx _ p mm hr
      · intro hE
        obtain ⟨ρx, p, -, -, ⟨mm, -⟩, hr⟩ := yexU hE
        exact fin ρx _ p mm hr
      · intro hE
        obtain ⟨ρx, p, -, -, ⟨mm, -⟩, hr⟩ := yexU hE
        exact fin ρx _ p mm hr
    obtain ⟨m, x, h', r1, r2, r3, -⟩ := go 0 (by decide) (by show (0 : Int) < _; omega)
    have key : ∀ q : Nat, q < 6 → (q : Int) < yv h 440 22 → yv h' 421 (0 + 30 + q) = yv h 421 (0 + 30 + q) := by
      intro q hq hq2
      obtain ⟨m2, x2, h2, t1, -, -, t2⟩ := go q hq hq2
      have := yrun_u r1 t1
      cases this
      exact t2
    have mn : yv h' 440 22 = yv h 440 22 := yfv r3 (by decide +kernel)
    refine ⟨m, x, h', r1, ⟨r2, yfr4 r3 (by decide +kernel) g4, ?_, yfr6 r3 (by decide +kernel) g6, yfr7 r3 (by decide +kernel) g7, yfrm r3 (by decide +kernel) gm⟩, yfr r3 (by decide +kernel), yfr r3 (by decide +kernel)⟩
    intro s s1 s2
    rw [mn] at s2
    obtain ⟨d, d1, d2, d3⟩ := g5 s s1 s2
    exact ⟨d, d1, by rw [mn]; exact d2, (key d d1 d2).trans d3⟩
