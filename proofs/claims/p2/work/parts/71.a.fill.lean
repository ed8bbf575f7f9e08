/-! ghosts, laid ahead of a call: no cell of the program's own changes -/
noncomputable def gB (h : zH) (i : Nat) : Int := if i < 240 then fCp 1 255 (h.1 352 i).toInt else 0
noncomputable def gVal (h : zH) (c i : Nat) : Int := if c = 521 then (h.1 353 1).toInt else if c = 522 then fCp 1 255 (h.1 352 i).toInt else if c < 521 then wArr (h.1 353 1).toInt.toNat (gB h) c i else if 530 ≤ c ∧ c < 567 then fArr (h.1 353 1).toInt.toNat (gB h) c i else 0
noncomputable def gFill (h : zH) : zH := (fun c i => if 500 ≤ c ∧ c < 900 ∧ i ≤ 400000 then Int32.ofInt (gVal h c i) else h.1 c i, h.2)
theorem fCp_b {lo hi v : Int} (h : lo ≤ hi) : lo ≤ fCp lo hi v ∧ fCp lo hi v ≤ hi := by
  unfold fCp
  split <;> omega
theorem wCl_b (v : Int) : -241 ≤ wCl v ∧ wCl v ≤ 240 := by
  unfold wCl
  split <;> omega
theorem wArr_b (n : Nat) (B : Nat → Int) (r i : Nat) : -241 ≤ wArr n B r i ∧ wArr n B r i ≤ 255 ∧ (r = 500 → 0 ≤ wArr n B r i ∧ wArr n B r i ≤ 240) ∧ (r = 501 → 0 ≤ wArr n B r i) ∧ (r ≠ 501 → wArr n B r i ≤ 240) := by
  unfold wArr
  split
  · split <;> (refine ⟨by omega, by omega, fun _ => ⟨by omega, by omega⟩, fun _ => by omega, fun _ => by omega⟩)
  · split
    · split <;> (refine ⟨by omega, by omega, fun _ => by omega, fun _ => by omega, fun _ => by omega⟩)
    · split
      · have := wCl_b (wNu n B i)
        refine ⟨by omega, by omega, fun _ => by omega, fun _ => by omega, fun _ => by omega⟩
      · have := wCl_b (wG n B (r - 502) (i / 241) (i % 241))
        refine ⟨by omega, by omega, fun _ => by omega, fun _ => by omega, fun _ => by omega⟩
theorem fBd_b (r i : Nat) : -241 ≤ (fBd r i).1 ∧ (fBd r i).1 ≤ (fBd r i).2 ∧ (fBd r i).2 ≤ 240 := by
  unfold fBd
  repeat' split
  all_goals (refine ⟨by decide, by decide, by decide⟩)
theorem fArr_b (n : Nat) (B : Nat → Int) (r i : Nat) : (fBd r i).1 ≤ fArr n B r i ∧ fArr n B r i ≤ (fBd r i).2 := fCp_b (fBd_b r i).2.1
theorem gVal_b {h : zH} (h0 : 0 ≤ (h.1 353 1).toInt ∧ (h.1 353 1).toInt ≤ 240) (c i : Nat) : -241 ≤ gVal h c i ∧ gVal h c i ≤ 255 := by
  unfold gVal
  split
  · omega
  · split
    · have := fCp_b (lo := 1) (hi := 255) (v := (h.1 352 i).toInt) (by decide)
      omega
    · split
      · have := wArr_b (h.1 353 1).toInt.toNat (gB h) c i
        omega
      · split
        · have := fArr_b (h.1 353 1).toInt.toNat (gB h) c i
          have := fBd_b c i
          omega
        · omega
theorem gFill_g {h : zH} (h0 : 0 ≤ (h.1 353 1).toInt ∧ (h.1 353 1).toInt ≤ 240) {c i : Nat} (h1 : 500 ≤ c) (h2 : c < 900) (h3 : i ≤ 400000) : ((gFill h).1 c i).toInt = gVal h c i := by
  have hb := gVal_b h0 c i
  show (if 500 ≤ c ∧ c < 900 ∧ i ≤ 400000 then Int32.ofInt (gVal h c i) else h.1 c i).toInt = _
  rw [if_pos ⟨h1, h2, h3⟩]
  exact so32 (by omega) (by omega)
theorem gFill_o {h : zH} {c : Nat} (hc : c < 500 ∨ 900 ≤ c) (i : Nat) : (gFill h).1 c i = h.1 c i := by
  show (if 500 ≤ c ∧ c < 900 ∧ i ≤ 400000 then Int32.ofInt (gVal h c i) else h.1 c i) = _
  exact if_neg (by omega)
theorem gFill_F {h : zH} : sF yReg [(999, 0, 400000)] h (gFill h) := by
  intro k i hne
  by_cases hk : 500 ≤ k ∧ k < 900 ∧ i ≤ 400000
  · exact ⟨_, List.mem_singleton.mpr rfl, (yReg_d (by omega)).1, by show (0 : Int) ≤ (i : Int); omega, by show (i : Int) ≤ 400000; omega⟩
  · exfalso
    apply hne
    show (if 500 ≤ k ∧ k < 900 ∧ i ≤ 400000 then Int32.ofInt (gVal h k i) else h.1 k i) = _
    exact if_neg hk
theorem gFill_y {h : zH} (hG : sG yReg yG h) : sG yReg yG (gFill h) := by
  intro k z hz i h1 h2
  by_cases hk : 500 ≤ k ∧ k < 900
  · rw [(yReg_d (k := k) (by omega)).1, show yG 999 = [] by decide +kernel] at hz
    cases hz
  · rw [gFill_o (by omega)]
    exact hG k z hz i h1 h2
theorem gFill_inv {h : zH} (hI : yInv h) : yInv (gFill h) := by
  obtain ⟨hG, g4, g5, g6, g7, gm⟩ := hI
  exact ⟨gFill_y hG, yfr4 gFill_F (by decide +kernel) g4, yfr5 gFill_F (by decide +kernel) g5, yfr6 gFill_F (by decide +kernel) g6, yfr7 gFill_F (by decide +kernel) g7, yfrm gFill_F (by decide +kernel) gm⟩
/-- the class's tape's length -/
theorem gLen {h : zH} (hG : sG yReg yG h) : 0 ≤ (h.1 353 1).toInt ∧ (h.1 353 1).toInt ≤ 240 := hG 353 (1, 1, 0, 240) (by decide +kernel) 1 (Nat.le_refl _) (Nat.le_refl _)
theorem pGf_d {r : Nat} (h : 567 ≤ r) : pGf r = [] := by
  unfold pGf
  rw [if_neg (by omega), if_neg (by omega), if_neg (by omega), if_neg (by omega), if_neg (by omega), if_neg (by omega), if_neg (by omega), if_neg (by omega), if_neg (by omega), if_neg (by omega), if_neg (by omega), if_neg (by omega)]
theorem gGhost {h : zH} (h0 : 0 ≤ (h.1 353 1).toInt ∧ (h.1 353 1).toInt ≤ 240) {r : Nat} (hr : 500 ≤ r) {z : Nat × Nat × Int × Int} (hz : z ∈ pGf r) {i : Nat} (h1 : z.1 ≤ i) (h2 : i ≤ z.2.1) : i ≤ 400000 ∧ z.2.2.1 ≤ gVal h r i ∧ gVal h r i ≤ z.2.2.2 := by
  by_cases hb : 567 ≤ r
  · rw [pGf_d hb] at hz
    cases hz
  unfold pGf at hz
  unfold gVal
  have wb := wArr_b (h.1 353 1).toInt.toNat (gB h) r i
  have fb := fArr_b (h.1 353 1).toInt.toNat (gB h) r i
  have cb := fCp_b (lo := 1) (hi := 255) (v := (h.1 352 i).toInt) (by decide)
  unfold fBd at fb
  by_cases q0 : r = 500 ∨ r = 521
  · rw [if_pos q0] at hz
    have hc := q0
    rw [List.mem_singleton] at hz
    subst hz
    have h2 : i ≤ 99999 := h2
    rcases hc with rfl | rfl
    · rw [if_neg (by decide), if_neg (by decide), if_pos (by decide)]
      have := wb.2.2.1 rfl
      exact ⟨by omega, this.1, this.2⟩
    · rw [if_pos rfl]
      exact ⟨by omega, h0.1, h0.2⟩
  · rw [if_neg q0] at hz
    by_cases q1 : r = 501
    · rw [if_pos q1] at hz
      have hc := q1
      rw [List.mem_singleton] at hz
      subst hz hc
      have h2 : i ≤ 99999 := h2
      rw [if_neg (by decide), if_neg (by decide), if_pos (by decide)]
      exact ⟨by omega, wb.2.2.2.1 rfl, wb.2.1⟩
    · rw [if_neg q1] at hz
      have n501 := q1
      by_cases q2 : r = 522
      · rw [if_pos q2] at hz
        have hc := q2
        rw [List.mem_singleton] at hz
        subst hz hc
        have h2 : i ≤ 99999 := h2
        rw [if_neg (by decide), if_pos rfl]
        exact ⟨by omega, cb.1, cb.2⟩
      · rw [if_neg q2] at hz
        have n522 := q2
        have k1 : ¬ r = 521 := by omega
        by_cases q3 : r < 532 ∨ r = 533 ∨ r = 542
        · rw [if_pos q3] at hz
          have hc := q3
          rw [List.mem_singleton] at hz
          subst hz
          have h2 : i ≤ 99999 := h2
          rw [if_neg k1, if_neg n522]
          by_cases hl : r < 521
          · rw [if_pos hl]
            exact ⟨by omega, wb.1, wb.2.2.2.2 n501⟩
          · rw [if_neg hl]
            by_cases h5 : 530 ≤ r ∧ r < 567
            · rw [if_pos h5]
              rw [if_pos hc] at fb
              exact ⟨by omega, fb.1, fb.2⟩
            · rw [if_neg h5]
              exact ⟨by omega, by decide, by decide⟩
        · rw [if_neg q3] at hz
          have n1 := q3
          have hl : ¬ r < 521 := by omega
          have h5 : 530 ≤ r ∧ r < 567 := by omega
          rw [if_neg k1, if_neg n522, if_neg hl, if_pos h5]
          rw [if_neg n1] at fb
          by_cases q4 : r < 538 ∨ r = 541
          · rw [if_pos q4] at hz
            have hc := q4
            rw [List.mem_singleton] at hz
            subst hz
            have h2 : i ≤ 99999 := h2
            rw [if_pos (by omega)] at fb
            exact ⟨by omega, fb.1, fb.2⟩
          · rw [if_neg q4] at hz
            have n2 := q4
            by_cases q5 : r = 538 ∨ r = 543
            · rw [if_pos q5] at hz
              have hc := q5
              rw [List.mem_singleton] at hz
              subst hz
              have h2 : i ≤ 99999 := h2
              rw [if_neg (by omega), if_neg (by omega), if_neg (by omega), if_neg (by omega)] at fb
              exact ⟨by omega, fb.1, fb.2⟩
            · rw [if_neg q5] at hz
              have n3 := q5
              by_cases q6 : r = 539
              · rw [if_pos q6] at hz
                have hc := q6
                subst hc
                simp only [List.mem_cons, List.not_mem_nil, or_false] at hz
                rcases hz with rfl | rfl | rfl
                · have h1 : 0 ≤ i := h1
                  have h2 : i ≤ 0 := h2
                  obtain rfl : i = 0 := by omega
                  exact ⟨by omega, fb.1, fb.2⟩
                · have h1 : 1 ≤ i := h1
                  have h2 : i ≤ 1 := h2
                  obtain rfl : i = 1 := by omega
                  exact ⟨by omega, fb.1, fb.2⟩
                · have h1 : 2 ≤ i := h1
                  have h2 : i ≤ 2 := h2
                  obtain rfl : i = 2 := by omega
                  exact ⟨by omega, fb.1, fb.2⟩
              · rw [if_neg q6] at hz
                have n4 := q6
                have g1 : ¬ (r = 539 ∧ i = 0) := fun q => n4 q.1
                have g2 : ¬ (r = 539 ∧ i = 1) := fun q => n4 q.1
                by_cases q7 : r = 540
                · rw [if_pos q7] at hz
                  have hc := q7
                  rw [List.mem_singleton] at hz
                  subst hz hc
                  have h2 : i ≤ 99999 := h2
                  rw [if_neg (by omega), if_neg g1, if_neg g2, if_pos rfl] at fb
                  exact ⟨by omega, fb.1, fb.2⟩
                · rw [if_neg q7] at hz
                  have n5 := q7
                  have low : (if r < 538 ∨ r = 541 ∨ r = 545 then ((0 : Int), (1 : Int)) else if r = 539 ∧ i = 0 then (4, 10) else if r = 539 ∧ i = 1 then (1, 20) else if r = 540 then (0, 6) else (0, 99)) = if r = 545 then (0, 1) else (0, 99) := by
                    by_cases q : r = 545
                    · rw [if_pos (Or.inr (Or.inr q)), if_pos q]
                    · rw [if_neg (by omega), if_neg g1, if_neg g2, if_neg n5, if_neg q]
                  rw [low] at fb
                  by_cases q8 : r = 544 ∨ r = 547
                  · rw [if_pos q8] at hz
                    have hc := q8
                    rw [List.mem_singleton] at hz
                    subst hz
                    have h2 : i ≤ 99999 := h2
                    rw [if_neg (by omega)] at fb
                    exact ⟨by omega, fb.1, Int.le_trans fb.2 (by decide)⟩
                  · rw [if_neg q8] at hz
                    by_cases q9 : r = 545
                    · rw [if_pos q9] at hz
                      have hc := q9
                      rw [List.mem_singleton] at hz
                      subst hz
                      have h2 : i ≤ 99999 := h2
                      rw [if_pos hc] at fb
                      exact ⟨by omega, fb.1, fb.2⟩
                    · rw [if_neg q9] at hz
                      have n6 := q9
                      rw [if_neg n6] at fb
                      by_cases q10 : r = 546
                      · rw [if_pos q10] at hz
                        rw [List.mem_singleton] at hz
                        subst hz
                        have h2 : i ≤ 99999 := h2
                        exact ⟨by omega, fb.1, Int.le_trans fb.2 (by decide)⟩
                      · rw [if_neg q10] at hz
                        by_cases q11 : 560 ≤ r ∧ r < 567
                        · rw [if_pos q11] at hz
                          rw [List.mem_singleton] at hz
                          subst hz
                          exact ⟨h2, fb.1, fb.2⟩
                        · rw [if_neg q11] at hz
                          cases hz
theorem gFill_p {h : zH} (hG : sG yReg yG h) : sG pReg pG (gFill h) := by
  have h0 := gLen hG
  intro k z hz i h1 h2
  rcases pCase k with ⟨a1, a2, a3⟩ | ⟨a1, a2, a3⟩ | ⟨a1, a2, a3, a4⟩
  · rw [a3] at hz
    unfold pG at hz
    rw [if_pos a1] at hz
    obtain ⟨g1, g2, g3⟩ := gGhost h0 a1 hz h1 h2
    rw [gFill_g h0 a1 a2 g1]
    exact ⟨g2, g3⟩
  · rw [a3] at hz
    unfold pG at hz
    rw [if_pos (by omega), pGf_d (by omega)] at hz
    cases hz
  · rw [a3] at hz
    rw [gFill_o (by omega)]
    unfold pG at hz
    rcases a4 with a4 | a4
    · rw [if_neg (by omega)] at hz
      by_cases q1 : yReg k = 120
      · rw [if_pos q1] at hz
        have := (List.mem_filter.mp hz).1
        rw [← q1] at this
        exact hG k z this i h1 h2
      · rw [if_neg q1] at hz
        by_cases q2 : yReg k = 97
        · rw [if_pos q2] at hz
          cases hz
        · rw [if_neg q2] at hz
          exact hG k z hz i h1 h2
    · rw [if_pos (by omega), pGf_d (by omega)] at hz
      cases hz
/-- both sides' tapes, and how many laws: alike -/
noncomputable def r0 (h : zH) : Prop := h.1 353 1 = h.1 440 2 ∧ h.1 374 4 = h.1 440 13 ∧ ∀ i : Nat, (i : Int) < (h.1 353 1).toInt → h.1 352 i = h.1 407 i ∧ 1 ≤ (h.1 352 i).toInt ∧ (h.1 352 i).toInt ≤ 255
section GTOLD
variable {h : zH}
theorem gF_N (hG : sG yReg yG h) : wN (gFill h) = (h.1 353 1).toInt.toNat := by
  have h0 := gLen hG
  unfold wN
  rw [gFill_g h0 (by decide) (by decide) (by decide)]
  rfl
theorem gF_B (hG : sG yReg yG h) : wB (gFill h) = gB h := by
  have h0 := gLen hG
  funext i
  unfold wB gB
  by_cases hi : i < 240
  · rw [if_pos hi, if_pos hi, gFill_g h0 (by decide) (by decide) (by omega)]
    rfl
  · rw [if_neg hi, if_neg hi]
theorem gF_ok (hG : sG yReg yG h) : wOk (gFill h) := by
  have h0 := gLen hG
  unfold wOk
  rw [gF_N hG, gF_B hG]
  refine ⟨by omega, fun i hi => ?_⟩
  unfold gB
  rw [if_pos (by omega)]
  exact fCp_b (by decide)
theorem gF_c (hG : sG yReg yG h) (hr : r0 h) : wOc (gFill h) := by
  have h0 := gLen hG
  unfold wOc
  rw [gF_N hG, gF_B hG, gFill_o (by decide)]
  refine ⟨by omega, fun i hi => ?_⟩
  rw [gFill_o (by decide)]
  obtain ⟨-, b1, b2⟩ := hr.2.2 i (by omega)
  unfold gB
  rw [if_pos (by omega), fCp_id b1 b2]
theorem gF_m (hG : sG yReg yG h) (hr : r0 h) : wOm (gFill h) := by
  have h0 := gLen hG
  unfold wOm
  rw [gF_N hG, gF_B hG, gFill_o (by decide), ← hr.1]
  refine ⟨by omega, fun i hi => ?_⟩
  obtain ⟨e, b1, b2⟩ := hr.2.2 i (by omega)
  rw [gFill_o (by decide), ← e]
  unfold gB
  rw [if_pos (by omega), fCp_id b1 b2]
theorem gF_g (hG : sG yReg yG h) : wGh (gFill h) := by
  have h0 := gLen hG
  intro r h1 h2 i hi
  rw [gF_N hG, gF_B hG, gFill_g h0 (by omega) (by omega) (by omega)]
  unfold gVal
  rw [if_neg (by omega), if_neg (by omega), if_pos (by omega)]
theorem gF_f (hG : sG yReg yG h) : wFh (gFill h) := by
  have h0 := gLen hG
  intro r h1 h2 i hi
  rw [gF_N hG, gF_B hG, gFill_g h0 (by omega) (by omega) (by omega)]
  unfold gVal
  rw [if_neg (by omega), if_neg (by omega), if_neg (by omega), if_pos ⟨h1, h2⟩]
theorem pgv0 (g : zH) : pgv 0 g = yB (wOk g ∧ wOc g ∧ wGh g) := by
  unfold pgv
  rw [if_pos rfl]
theorem pgv13 (g : zH) : pgv 13 g = yB (wOk g ∧ wOm g ∧ wGh g) := by
  unfold pgv
  rw [if_neg (by decide), if_pos rfl]
theorem pgv20 (g : zH) : pgv 20 g = yB (wOk g ∧ wGh g ∧ wFh g) := by
  unfold pgv
  rw [if_neg (by decide), if_neg (by decide), if_pos rfl]
theorem pgv21 (g : zH) : pgv 21 g = yB (wFd g) := by
  unfold pgv
  rw [if_neg (by decide), if_neg (by decide), if_neg (by decide), if_neg (by decide), if_neg (by decide), if_pos rfl]
theorem gT0 (hG : sG yReg yG h) (hr : r0 h) : pgv 0 (gFill h) = 1 := (pgv0 _).trans <| yB_1.mpr ⟨gF_ok hG, gF_c hG hr, gF_g hG⟩
theorem gT13 (hG : sG yReg yG h) (hr : r0 h) : pgv 13 (gFill h) = 1 := (pgv13 _).trans <| yB_1.mpr ⟨gF_ok hG, gF_m hG hr, gF_g hG⟩
theorem gT20 (hG : sG yReg yG h) : pgv 20 (gFill h) = 1 := (pgv20 _).trans <| yB_1.mpr ⟨gF_ok hG, gF_g hG, gF_f hG⟩
end GTOLD
