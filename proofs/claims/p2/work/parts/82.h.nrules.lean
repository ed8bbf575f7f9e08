/-! the night's rules -/
section NRUL
variable {gv : Nat → Int → Int → zH → Prop}

theorem qR_wpnow_ok (h60 : ∀ x y h, gv 60 x y h → nGh 0 1 2 5 7 9 h) : pRulQ pReg qG gv qR_wpnow := qrul (by decide +kernel) (fun h ρ hG hm hb hc => by
  have b0 : (1 : Int) ≤ ρ 0 ∧ ρ 0 ≤ 1 := hb 0 (1, 1) rfl
  have b1 : (0 : Int) ≤ ρ 1 ∧ ρ 1 ≤ 5 := hb 1 (0, 5) rfl
  have b2 : (2 : Int) ≤ ρ 2 ∧ ρ 2 ≤ 6 := hb 2 (2, 6) rfl
  have b3 : (0 : Int) ≤ ρ 3 ∧ ρ 3 ≤ 5 := hb 3 (0, 5) rfl
  have b4 : ((-2147483648) : Int) ≤ ρ 4 ∧ ρ 4 ≤ 2147483647 := hb 4 ((-2147483648), 2147483647) rfl
  have c0 : (1 + (1 * ρ 1 + ((-1) * ρ 2 + 0)) : Int) ≤ 0 := hc _ (List.mem_of_getElem? (i := 0) rfl)
  obtain ⟨m, e_m⟩ : ∃ x : Nat, ρ 1 = (x : Int) := ⟨(ρ 1).toNat, by omega⟩
  have t0 := h60 _ _ _ (qtl (a := 60) hm 0 rfl (by decide))
  have q2 : rv h 56 (0) = ρ 2 := qrv hm 1 rfl (by decide) (by decide +kernel) (by show (0 + 0 : Int) = ((0 : Nat) : Int); omega)
  have q3 : rv h 606 (m) = ρ 3 := qrv hm 2 rfl (by decide) (by decide +kernel) (by show (0 + (1 * ρ 1 + 0) : Int) = ((m : Nat) : Int); omega)
  have q4 : rv h 5 (m) = ρ 4 := qrv hm 3 rfl (by decide) (by decide +kernel) (by show (0 + (1 * ρ 1 + 0) : Int) = ((m : Nat) : Int); omega)
  obtain ⟨n, H, g0, g1, g2, g3, g4, g5, g6, g7, g8, g9, g10, gW, gS, gA, gO, gD, gU, gQ, gV⟩ := t0
  have hM : ρ 2 = (n : Int) := q2.symm.trans g0
  have hmn : m < n := by omega
  obtain ⟨-, -, -, -, p0, p1⟩ := g6 m hmn
  obtain ⟨-, w1, -⟩ := nWt_lt hmn p0 p1 g7
  have w2 := gW m hmn
  rw [q3] at w2
  rw [q4] at p0 p1
  exact ⟨_, List.mem_of_getElem? (i := 0) rfl, rfl, rfl, (pAll1 (show (0 + ((-1) * ρ 4 + 0) : Int) ≤ 0 by omega) (pAll1 (show (1 + ((-1) * ρ 2 + (1 * ρ 4 + 0)) : Int) ≤ 0 by omega) (pAll1 (show (1 + ((-1) * ρ 2 + (1 * ρ 3 + 0)) : Int) ≤ 0 by omega) pAll0))), pAll0⟩)

theorem qR_asnow_ok (h60 : ∀ x y h, gv 60 x y h → nGh 0 1 2 5 7 9 h) : pRulQ pReg qG gv qR_asnow := qrul (by decide +kernel) (fun h ρ hG hm hb hc => by
  have b0 : (1 : Int) ≤ ρ 0 ∧ ρ 0 ≤ 1 := hb 0 (1, 1) rfl
  have b1 : (0 : Int) ≤ ρ 1 ∧ ρ 1 ≤ 9 := hb 1 (0, 9) rfl
  have b2 : (0 : Int) ≤ ρ 2 ∧ ρ 2 ≤ 5 := hb 2 (0, 5) rfl
  have b3 : (2 : Int) ≤ ρ 3 ∧ ρ 3 ≤ 6 := hb 3 (2, 6) rfl
  have b4 : (4 : Int) ≤ ρ 4 ∧ ρ 4 ≤ 10 := hb 4 (4, 10) rfl
  have b5 : ((-2147483648) : Int) ≤ ρ 5 ∧ ρ 5 ≤ 2147483647 := hb 5 ((-2147483648), 2147483647) rfl
  have b6 : ((-2147483648) : Int) ≤ ρ 6 ∧ ρ 6 ≤ 2147483647 := hb 6 ((-2147483648), 2147483647) rfl
  have b7 : ((-2147483648) : Int) ≤ ρ 7 ∧ ρ 7 ≤ 2147483647 := hb 7 ((-2147483648), 2147483647) rfl
  have b8 : (0 : Int) ≤ ρ 8 ∧ ρ 8 ≤ 1 := hb 8 (0, 1) rfl
  have c0 : (1 + (1 * ρ 2 + ((-1) * ρ 3 + 0)) : Int) ≤ 0 := hc _ (List.mem_of_getElem? (i := 0) rfl)
  have c1 : (1 + (1 * ρ 1 + ((-1) * ρ 4 + 0)) : Int) ≤ 0 := hc _ (List.mem_of_getElem? (i := 1) rfl)
  obtain ⟨t, e_t⟩ : ∃ x : Nat, ρ 1 = (x : Int) := ⟨(ρ 1).toNat, by omega⟩
  obtain ⟨m, e_m⟩ : ∃ x : Nat, ρ 2 = (x : Int) := ⟨(ρ 2).toNat, by omega⟩
  have t0 := h60 _ _ _ (qtl (a := 60) hm 0 rfl (by decide))
  have q3 : rv h 56 (0) = ρ 3 := qrv hm 1 rfl (by decide) (by decide +kernel) (by show (0 + 0 : Int) = ((0 : Nat) : Int); omega)
  have q4 : rv h 56 (1) = ρ 4 := qrv hm 2 rfl (by decide) (by decide +kernel) (by show (1 + 0 : Int) = ((1 : Nat) : Int); omega)
  have q5 : rv h 0 (m) = ρ 5 := qrv hm 3 rfl (by decide) (by decide +kernel) (by show (0 + (1 * ρ 2 + 0) : Int) = ((m : Nat) : Int); omega)
  have q6 : rv h 55 (m) = ρ 6 := qrv hm 4 rfl (by decide) (by decide +kernel) (by show (0 + (1 * ρ 2 + 0) : Int) = ((m : Nat) : Int); omega)
  have q7 : rv h 611 (6 * t + m) = ρ 7 := qrv hm 5 rfl (by decide) (by decide +kernel) (by show (0 + (6 * ρ 1 + (1 * ρ 2 + 0)) : Int) = ((6 * t + m : Nat) : Int); omega)
  have q8 : rv h 607 (6 * t + m) = ρ 8 := qrv hm 6 rfl (by decide) (by decide +kernel) (by show (0 + (6 * ρ 1 + (1 * ρ 2 + 0)) : Int) = ((6 * t + m : Nat) : Int); omega)
  obtain ⟨n, H, g0, g1, g2, g3, g4, g5, g6, g7, g8, g9, g10, gW, gS, gA, gO, gD, gU, gQ, gV⟩ := t0
  have hM : ρ 3 = (n : Int) := q3.symm.trans g0
  have hH : ρ 4 = (H : Int) := q4.symm.trans g1
  have hmn : m < n := by omega
  have htH : t < H := by omega
  obtain ⟨p0, p1, -⟩ := g6 m hmn
  rw [q5] at p0
  rw [q6] at p1
  have k1 := gS t m 1 (by omega) (by omega) (by decide)
  rw [show 610 + 1 = 611 from rfl, q7] at k1
  obtain ⟨-, k2, -⟩ := nSt_b (n := n) (mare := rv h 56 2) (hold := rv h 54 5) (nt := rv h 7 9) (ne := rv h 55) (bd := rv h 0) (ey := rv h 1) (dm := rv h 2) (pl := rv h 5) (W := rv h 620) (g0 := fun a m => rv h (610 + a) m) hmn t
  rw [← k1] at k2
  have k3 := gA t m htH hmn
  rw [q8] at k3
  unfold nA nAs at k3
  rw [← k1, q5, q6] at k3
  simp only [Bool.and_eq_true, decide_eq_true_eq] at k3
  by_cases z1 : ρ 5 ≤ (t : Int)
  · by_cases z2 : (t : Int) < ρ 5 + ρ 6
    · by_cases z3 : ρ 7 = -1
      · rw [if_pos ⟨z1, z2, z3⟩] at k3
        exact ⟨_, List.mem_of_getElem? (i := 0) rfl, rfl, rfl, (pAll1 (show (0 + ((-1) * ρ 5 + 0) : Int) ≤ 0 by omega) (pAll1 (show ((-9) + (1 * ρ 5 + 0) : Int) ≤ 0 by omega) (pAll1 (show (0 + ((-1) * ρ 6 + 0) : Int) ≤ 0 by omega) (pAll1 (show ((-10) + (1 * ρ 6 + 0) : Int) ≤ 0 by omega) (pAll1 (show ((-1) + ((-1) * ρ 7 + 0) : Int) ≤ 0 by omega) (pAll1 (show (1 + ((-1) * ρ 1 + (1 * ρ 7 + 0)) : Int) ≤ 0 by omega) (pAll1 (show ((-1) + (1 * ρ 8 + 0) : Int) ≤ 0 by omega) (pAll1 (show (1 + ((-1) * ρ 8 + 0) : Int) ≤ 0 by omega) (pAll1 (show (0 + ((-1) * ρ 1 + (1 * ρ 5 + 0)) : Int) ≤ 0 by omega) (pAll1 (show (1 + (1 * ρ 1 + ((-1) * ρ 5 + ((-1) * ρ 6 + 0))) : Int) ≤ 0 by omega) (pAll1 (show (1 + (1 * ρ 7 + 0) : Int) ≤ 0 by omega) (pAll1 (show ((-1) + ((-1) * ρ 7 + 0) : Int) ≤ 0 by omega) pAll0)))))))))))), pAll0⟩
      · rw [if_neg (fun z => z3 z.2.2)] at k3
        exact ⟨_, List.mem_of_getElem? (i := 1) rfl, rfl, rfl, (pAll1 (show (0 + ((-1) * ρ 5 + 0) : Int) ≤ 0 by omega) (pAll1 (show ((-9) + (1 * ρ 5 + 0) : Int) ≤ 0 by omega) (pAll1 (show (0 + ((-1) * ρ 6 + 0) : Int) ≤ 0 by omega) (pAll1 (show ((-10) + (1 * ρ 6 + 0) : Int) ≤ 0 by omega) (pAll1 (show ((-1) + ((-1) * ρ 7 + 0) : Int) ≤ 0 by omega) (pAll1 (show (1 + ((-1) * ρ 1 + (1 * ρ 7 + 0)) : Int) ≤ 0 by omega) (pAll1 (show (0 + (1 * ρ 8 + 0) : Int) ≤ 0 by omega) (pAll1 (show (0 + ((-1) * ρ 8 + 0) : Int) ≤ 0 by omega) (pAll1 (show (0 + ((-1) * ρ 1 + (1 * ρ 5 + 0)) : Int) ≤ 0 by omega) (pAll1 (show (1 + (1 * ρ 1 + ((-1) * ρ 5 + ((-1) * ρ 6 + 0))) : Int) ≤ 0 by omega) (pAll1 (show (0 + ((-1) * ρ 7 + 0) : Int) ≤ 0 by omega) pAll0))))))))))), pAll0⟩
    · rw [if_neg (fun z => z2 z.2.1)] at k3
      exact ⟨_, List.mem_of_getElem? (i := 3) rfl, rfl, rfl, (pAll1 (show (0 + ((-1) * ρ 5 + 0) : Int) ≤ 0 by omega) (pAll1 (show ((-9) + (1 * ρ 5 + 0) : Int) ≤ 0 by omega) (pAll1 (show (0 + ((-1) * ρ 6 + 0) : Int) ≤ 0 by omega) (pAll1 (show ((-10) + (1 * ρ 6 + 0) : Int) ≤ 0 by omega) (pAll1 (show ((-1) + ((-1) * ρ 7 + 0) : Int) ≤ 0 by omega) (pAll1 (show (1 + ((-1) * ρ 1 + (1 * ρ 7 + 0)) : Int) ≤ 0 by omega) (pAll1 (show (0 + (1 * ρ 8 + 0) : Int) ≤ 0 by omega) (pAll1 (show (0 + ((-1) * ρ 8 + 0) : Int) ≤ 0 by omega) (pAll1 (show (0 + ((-1) * ρ 1 + (1 * ρ 5 + (1 * ρ 6 + 0))) : Int) ≤ 0 by omega) pAll0))))))))), pAll0⟩
  · rw [if_neg (fun z => z1 z.1)] at k3
    exact ⟨_, List.mem_of_getElem? (i := 2) rfl, rfl, rfl, (pAll1 (show (0 + ((-1) * ρ 5 + 0) : Int) ≤ 0 by omega) (pAll1 (show ((-9) + (1 * ρ 5 + 0) : Int) ≤ 0 by omega) (pAll1 (show (0 + ((-1) * ρ 6 + 0) : Int) ≤ 0 by omega) (pAll1 (show ((-10) + (1 * ρ 6 + 0) : Int) ≤ 0 by omega) (pAll1 (show ((-1) + ((-1) * ρ 7 + 0) : Int) ≤ 0 by omega) (pAll1 (show (1 + ((-1) * ρ 1 + (1 * ρ 7 + 0)) : Int) ≤ 0 by omega) (pAll1 (show (0 + (1 * ρ 8 + 0) : Int) ≤ 0 by omega) (pAll1 (show (0 + ((-1) * ρ 8 + 0) : Int) ≤ 0 by omega) (pAll1 (show (1 + (1 * ρ 1 + ((-1) * ρ 5 + 0)) : Int) ≤ 0 by omega) pAll0))))))))), pAll0⟩)

theorem qR_woAnow_ok (h60 : ∀ x y h, gv 60 x y h → nGh 0 1 2 5 7 9 h) : pRulQ pReg qG gv qR_woAnow := qrul (by decide +kernel) (fun h ρ hG hm hb hc => by
  have b0 : (1 : Int) ≤ ρ 0 ∧ ρ 0 ≤ 1 := hb 0 (1, 1) rfl
  have b1 : (0 : Int) ≤ ρ 1 ∧ ρ 1 ≤ 5 := hb 1 (0, 5) rfl
  have b2 : (0 : Int) ≤ ρ 2 ∧ ρ 2 ≤ 5 := hb 2 (0, 5) rfl
  have b3 : (0 : Int) ≤ ρ 3 ∧ ρ 3 ≤ 5 := hb 3 (0, 5) rfl
  have b4 : (2 : Int) ≤ ρ 4 ∧ ρ 4 ≤ 6 := hb 4 (2, 6) rfl
  have b5 : (0 : Int) ≤ ρ 5 ∧ ρ 5 ≤ 5 := hb 5 (0, 5) rfl
  have b6 : ((-2147483648) : Int) ≤ ρ 6 ∧ ρ 6 ≤ 2147483647 := hb 6 ((-2147483648), 2147483647) rfl
  have b7 : ((-2147483648) : Int) ≤ ρ 7 ∧ ρ 7 ≤ 2147483647 := hb 7 ((-2147483648), 2147483647) rfl
  have c0 : (1 + (1 * ρ 1 + ((-1) * ρ 4 + 0)) : Int) ≤ 0 := hc _ (List.mem_of_getElem? (i := 0) rfl)
  have c1 : (0 + (1 * ρ 3 + ((-1) * ρ 5 + 0)) : Int) ≤ 0 := hc _ (List.mem_of_getElem? (i := 1) rfl)
  have c2 : (0 + (1 * ρ 6 + 0) : Int) ≤ 0 := hc _ (List.mem_of_getElem? (i := 2) rfl)
  have c3 : (0 + ((-1) * ρ 6 + 0) : Int) ≤ 0 := hc _ (List.mem_of_getElem? (i := 3) rfl)
  have c4 : (1 + (1 * ρ 2 + ((-1) * ρ 4 + 0)) : Int) ≤ 0 := hc _ (List.mem_of_getElem? (i := 4) rfl)
  have c5 : ((-1) + ((-1) * ρ 2 + (1 * ρ 4 + 0)) : Int) ≤ 0 := hc _ (List.mem_of_getElem? (i := 5) rfl)
  obtain ⟨m, e_m⟩ : ∃ x : Nat, ρ 1 = (x : Int) := ⟨(ρ 1).toNat, by omega⟩
  obtain ⟨o, e_o⟩ : ∃ x : Nat, ρ 3 = (x : Int) := ⟨(ρ 3).toNat, by omega⟩
  have t0 := h60 _ _ _ (qtl (a := 60) hm 0 rfl (by decide))
  have q4 : rv h 56 (0) = ρ 4 := qrv hm 1 rfl (by decide) (by decide +kernel) (by show (0 + 0 : Int) = ((0 : Nat) : Int); omega)
  have q5 : rv h 606 (m) = ρ 5 := qrv hm 2 rfl (by decide) (by decide +kernel) (by show (0 + (1 * ρ 1 + 0) : Int) = ((m : Nat) : Int); omega)
  have q6 : rv h 5 (m) = ρ 6 := qrv hm 3 rfl (by decide) (by decide +kernel) (by show (0 + (1 * ρ 1 + 0) : Int) = ((m : Nat) : Int); omega)
  have q7 : rv h 5 (o) = ρ 7 := qrv hm 4 rfl (by decide) (by decide +kernel) (by show (0 + (1 * ρ 3 + 0) : Int) = ((o : Nat) : Int); omega)
  obtain ⟨n, H, g0, g1, g2, g3, g4, g5, g6, g7, g8, g9, g10, gW, gS, gA, gO, gD, gU, gQ, gV⟩ := t0
  have hM : ρ 4 = (n : Int) := q4.symm.trans g0
  have hmn : m < n := by omega
  obtain ⟨-, -, -, -, p0, p1⟩ := g6 m hmn
  obtain ⟨w0, w1, w3⟩ := nWt_lt hmn p0 p1 g7
  have w2 := gW m hmn
  rw [q5] at w2
  have hon : o < n := by omega
  obtain ⟨-, -, -, -, r0, r1⟩ := g6 o hon
  rw [q6] at p0 p1
  rw [q7] at r0 r1
  have ha : nAh n (rv h 5) m = ρ 2 := by
    unfold nAh
    rw [q6]
    rw [if_pos (by omega)]
    omega
  rw [ha] at w0 w3
  by_cases e : o = nWt n (rv h 5) m
  · rw [← e, q7] at w0
    exact ⟨_, List.mem_of_getElem? (i := 0) rfl, rfl, rfl, (pAll1 (show (0 + ((-1) * ρ 7 + 0) : Int) ≤ 0 by omega) (pAll1 (show (1 + ((-1) * ρ 4 + (1 * ρ 7 + 0)) : Int) ≤ 0 by omega) (pAll1 (show (1 + ((-1) * ρ 4 + (1 * ρ 5 + 0)) : Int) ≤ 0 by omega) (pAll1 (show (0 + ((-1) * ρ 2 + (1 * ρ 7 + 0)) : Int) ≤ 0 by omega) (pAll1 (show (0 + (1 * ρ 2 + ((-1) * ρ 7 + 0)) : Int) ≤ 0 by omega) (pAll1 (show (0 + ((-1) * ρ 3 + (1 * ρ 5 + 0)) : Int) ≤ 0 by omega) (pAll1 (show (0 + (1 * ρ 3 + ((-1) * ρ 5 + 0)) : Int) ≤ 0 by omega) pAll0))))))), pAll0⟩
  · have w4 := w3 o (by omega)
    rw [q7] at w4
    rcases Int.lt_or_lt_of_ne w4 with z | z
    · exact ⟨_, List.mem_of_getElem? (i := 1) rfl, rfl, rfl, (pAll1 (show (0 + ((-1) * ρ 7 + 0) : Int) ≤ 0 by omega) (pAll1 (show (1 + ((-1) * ρ 4 + (1 * ρ 7 + 0)) : Int) ≤ 0 by omega) (pAll1 (show (1 + ((-1) * ρ 4 + (1 * ρ 5 + 0)) : Int) ≤ 0 by omega) (pAll1 (show (1 + ((-1) * ρ 2 + (1 * ρ 7 + 0)) : Int) ≤ 0 by omega) (pAll1 (show (1 + (1 * ρ 3 + ((-1) * ρ 5 + 0)) : Int) ≤ 0 by omega) pAll0))))), pAll0⟩
    · exact ⟨_, List.mem_of_getElem? (i := 2) rfl, rfl, rfl, (pAll1 (show (0 + ((-1) * ρ 7 + 0) : Int) ≤ 0 by omega) (pAll1 (show (1 + ((-1) * ρ 4 + (1 * ρ 7 + 0)) : Int) ≤ 0 by omega) (pAll1 (show (1 + ((-1) * ρ 4 + (1 * ρ 5 + 0)) : Int) ≤ 0 by omega) (pAll1 (show (1 + (1 * ρ 2 + ((-1) * ρ 7 + 0)) : Int) ≤ 0 by omega) (pAll1 (show (1 + (1 * ρ 3 + ((-1) * ρ 5 + 0)) : Int) ≤ 0 by omega) pAll0))))), pAll0⟩)

theorem qR_woBnow_ok (h60 : ∀ x y h, gv 60 x y h → nGh 0 1 2 5 7 9 h) : pRulQ pReg qG gv qR_woBnow := qrul (by decide +kernel) (fun h ρ hG hm hb hc => by
  have b0 : (1 : Int) ≤ ρ 0 ∧ ρ 0 ≤ 1 := hb 0 (1, 1) rfl
  have b1 : (0 : Int) ≤ ρ 1 ∧ ρ 1 ≤ 5 := hb 1 (0, 5) rfl
  have b2 : (0 : Int) ≤ ρ 2 ∧ ρ 2 ≤ 5 := hb 2 (0, 5) rfl
  have b3 : (0 : Int) ≤ ρ 3 ∧ ρ 3 ≤ 5 := hb 3 (0, 5) rfl
  have b4 : (2 : Int) ≤ ρ 4 ∧ ρ 4 ≤ 6 := hb 4 (2, 6) rfl
  have b5 : (0 : Int) ≤ ρ 5 ∧ ρ 5 ≤ 5 := hb 5 (0, 5) rfl
  have b6 : ((-2147483648) : Int) ≤ ρ 6 ∧ ρ 6 ≤ 2147483647 := hb 6 ((-2147483648), 2147483647) rfl
  have b7 : ((-2147483648) : Int) ≤ ρ 7 ∧ ρ 7 ≤ 2147483647 := hb 7 ((-2147483648), 2147483647) rfl
  have c0 : (1 + (1 * ρ 1 + ((-1) * ρ 4 + 0)) : Int) ≤ 0 := hc _ (List.mem_of_getElem? (i := 0) rfl)
  have c1 : (0 + (1 * ρ 3 + ((-1) * ρ 5 + 0)) : Int) ≤ 0 := hc _ (List.mem_of_getElem? (i := 1) rfl)
  have c2 : (1 + ((-1) * ρ 6 + 0) : Int) ≤ 0 := hc _ (List.mem_of_getElem? (i := 2) rfl)
  have c3 : (1 + (1 * ρ 2 + ((-1) * ρ 6 + 0)) : Int) ≤ 0 := hc _ (List.mem_of_getElem? (i := 3) rfl)
  have c4 : ((-1) + ((-1) * ρ 2 + (1 * ρ 6 + 0)) : Int) ≤ 0 := hc _ (List.mem_of_getElem? (i := 4) rfl)
  obtain ⟨m, e_m⟩ : ∃ x : Nat, ρ 1 = (x : Int) := ⟨(ρ 1).toNat, by omega⟩
  obtain ⟨o, e_o⟩ : ∃ x : Nat, ρ 3 = (x : Int) := ⟨(ρ 3).toNat, by omega⟩
  have t0 := h60 _ _ _ (qtl (a := 60) hm 0 rfl (by decide))
  have q4 : rv h 56 (0) = ρ 4 := qrv hm 1 rfl (by decide) (by decide +kernel) (by show (0 + 0 : Int) = ((0 : Nat) : Int); omega)
  have q5 : rv h 606 (m) = ρ 5 := qrv hm 2 rfl (by decide) (by decide +kernel) (by show (0 + (1 * ρ 1 + 0) : Int) = ((m : Nat) : Int); omega)
  have q6 : rv h 5 (m) = ρ 6 := qrv hm 3 rfl (by decide) (by decide +kernel) (by show (0 + (1 * ρ 1 + 0) : Int) = ((m : Nat) : Int); omega)
  have q7 : rv h 5 (o) = ρ 7 := qrv hm 4 rfl (by decide) (by decide +kernel) (by show (0 + (1 * ρ 3 + 0) : Int) = ((o : Nat) : Int); omega)
  obtain ⟨n, H, g0, g1, g2, g3, g4, g5, g6, g7, g8, g9, g10, gW, gS, gA, gO, gD, gU, gQ, gV⟩ := t0
  have hM : ρ 4 = (n : Int) := q4.symm.trans g0
  have hmn : m < n := by omega
  obtain ⟨-, -, -, -, p0, p1⟩ := g6 m hmn
  obtain ⟨w0, w1, w3⟩ := nWt_lt hmn p0 p1 g7
  have w2 := gW m hmn
  rw [q5] at w2
  have hon : o < n := by omega
  obtain ⟨-, -, -, -, r0, r1⟩ := g6 o hon
  rw [q6] at p0 p1
  rw [q7] at r0 r1
  have ha : nAh n (rv h 5) m = ρ 2 := by
    unfold nAh
    rw [q6]
    rw [if_neg (by omega)]
    omega
  rw [ha] at w0 w3
  by_cases e : o = nWt n (rv h 5) m
  · rw [← e, q7] at w0
    exact ⟨_, List.mem_of_getElem? (i := 0) rfl, rfl, rfl, (pAll1 (show (0 + ((-1) * ρ 7 + 0) : Int) ≤ 0 by omega) (pAll1 (show (1 + ((-1) * ρ 4 + (1 * ρ 7 + 0)) : Int) ≤ 0 by omega) (pAll1 (show (1 + ((-1) * ρ 4 + (1 * ρ 5 + 0)) : Int) ≤ 0 by omega) (pAll1 (show (0 + ((-1) * ρ 2 + (1 * ρ 7 + 0)) : Int) ≤ 0 by omega) (pAll1 (show (0 + (1 * ρ 2 + ((-1) * ρ 7 + 0)) : Int) ≤ 0 by omega) (pAll1 (show (0 + ((-1) * ρ 3 + (1 * ρ 5 + 0)) : Int) ≤ 0 by omega) (pAll1 (show (0 + (1 * ρ 3 + ((-1) * ρ 5 + 0)) : Int) ≤ 0 by omega) pAll0))))))), pAll0⟩
  · have w4 := w3 o (by omega)
    rw [q7] at w4
    rcases Int.lt_or_lt_of_ne w4 with z | z
    · exact ⟨_, List.mem_of_getElem? (i := 1) rfl, rfl, rfl, (pAll1 (show (0 + ((-1) * ρ 7 + 0) : Int) ≤ 0 by omega) (pAll1 (show (1 + ((-1) * ρ 4 + (1 * ρ 7 + 0)) : Int) ≤ 0 by omega) (pAll1 (show (1 + ((-1) * ρ 4 + (1 * ρ 5 + 0)) : Int) ≤ 0 by omega) (pAll1 (show (1 + ((-1) * ρ 2 + (1 * ρ 7 + 0)) : Int) ≤ 0 by omega) (pAll1 (show (1 + (1 * ρ 3 + ((-1) * ρ 5 + 0)) : Int) ≤ 0 by omega) pAll0))))), pAll0⟩
    · exact ⟨_, List.mem_of_getElem? (i := 2) rfl, rfl, rfl, (pAll1 (show (0 + ((-1) * ρ 7 + 0) : Int) ≤ 0 by omega) (pAll1 (show (1 + ((-1) * ρ 4 + (1 * ρ 7 + 0)) : Int) ≤ 0 by omega) (pAll1 (show (1 + ((-1) * ρ 4 + (1 * ρ 5 + 0)) : Int) ≤ 0 by omega) (pAll1 (show (1 + (1 * ρ 2 + ((-1) * ρ 7 + 0)) : Int) ≤ 0 by omega) (pAll1 (show (1 + (1 * ρ 3 + ((-1) * ρ 5 + 0)) : Int) ≤ 0 by omega) pAll0))))), pAll0⟩)

theorem qR_sonow_ok (h60 : ∀ x y h, gv 60 x y h → nGh 0 1 2 5 7 9 h) : pRulQ pReg qG gv qR_sonow := qrul (by decide +kernel) (fun h ρ hG hm hb hc => by
  have b0 : (1 : Int) ≤ ρ 0 ∧ ρ 0 ≤ 1 := hb 0 (1, 1) rfl
  have b1 : (0 : Int) ≤ ρ 1 ∧ ρ 1 ≤ 9 := hb 1 (0, 9) rfl
  have b2 : (0 : Int) ≤ ρ 2 ∧ ρ 2 ≤ 54 := hb 2 (0, 54) rfl
  have b3 : (0 : Int) ≤ ρ 3 ∧ ρ 3 ≤ 5 := hb 3 (0, 5) rfl
  have b4 : (2 : Int) ≤ ρ 4 ∧ ρ 4 ≤ 6 := hb 4 (2, 6) rfl
  have b5 : (4 : Int) ≤ ρ 5 ∧ ρ 5 ≤ 10 := hb 5 (4, 10) rfl
  have b6 : (0 : Int) ≤ ρ 6 ∧ ρ 6 ≤ 5 := hb 6 (0, 5) rfl
  have b7 : (0 : Int) ≤ ρ 7 ∧ ρ 7 ≤ 1 := hb 7 (0, 1) rfl
  have b8 : (0 : Int) ≤ ρ 8 ∧ ρ 8 ≤ 2 := hb 8 (0, 2) rfl
  have b9 : (0 : Int) ≤ ρ 9 ∧ ρ 9 ≤ 1 := hb 9 (0, 1) rfl
  have b10 : (0 : Int) ≤ ρ 10 ∧ ρ 10 ≤ 2 := hb 10 (0, 2) rfl
  have c0 : (1 + (1 * ρ 3 + ((-1) * ρ 4 + 0)) : Int) ≤ 0 := hc _ (List.mem_of_getElem? (i := 0) rfl)
  have c1 : (1 + (1 * ρ 1 + ((-1) * ρ 5 + 0)) : Int) ≤ 0 := hc _ (List.mem_of_getElem? (i := 1) rfl)
  have c2 : (0 + ((-6) * ρ 1 + (1 * ρ 2 + 0)) : Int) ≤ 0 := hc _ (List.mem_of_getElem? (i := 2) rfl)
  have c3 : (0 + (6 * ρ 1 + ((-1) * ρ 2 + 0)) : Int) ≤ 0 := hc _ (List.mem_of_getElem? (i := 3) rfl)
  obtain ⟨t, e_t⟩ : ∃ x : Nat, ρ 1 = (x : Int) := ⟨(ρ 1).toNat, by omega⟩
  obtain ⟨m, e_m⟩ : ∃ x : Nat, ρ 3 = (x : Int) := ⟨(ρ 3).toNat, by omega⟩
  obtain ⟨w, e_w⟩ : ∃ x : Nat, ρ 6 = (x : Int) := ⟨(ρ 6).toNat, by omega⟩
  have t0 := h60 _ _ _ (qtl (a := 60) hm 0 rfl (by decide))
  have q4 : rv h 56 (0) = ρ 4 := qrv hm 1 rfl (by decide) (by decide +kernel) (by show (0 + 0 : Int) = ((0 : Nat) : Int); omega)
  have q5 : rv h 56 (1) = ρ 5 := qrv hm 2 rfl (by decide) (by decide +kernel) (by show (1 + 0 : Int) = ((1 : Nat) : Int); omega)
  have q6 : rv h 606 (m) = ρ 6 := qrv hm 3 rfl (by decide) (by decide +kernel) (by show (0 + (1 * ρ 3 + 0) : Int) = ((m : Nat) : Int); omega)
  have q7 : rv h 607 (6 * t + m) = ρ 7 := qrv hm 4 rfl (by decide) (by decide +kernel) (by show (0 + (6 * ρ 1 + (1 * ρ 3 + 0)) : Int) = ((6 * t + m : Nat) : Int); omega)
  have q8 : rv h 608 (6 * t + m) = ρ 8 := qrv hm 5 rfl (by decide) (by decide +kernel) (by show (0 + (6 * ρ 1 + (1 * ρ 3 + 0)) : Int) = ((6 * t + m : Nat) : Int); omega)
  have q9 : rv h 607 (6 * t + w) = ρ 9 := qrv hm 6 rfl (by decide) (by decide +kernel) (by show (0 + (6 * ρ 1 + (1 * ρ 6 + 0)) : Int) = ((6 * t + w : Nat) : Int); omega)
  have q10 : rv h 608 (6 * t + w) = ρ 10 := qrv hm 7 rfl (by decide) (by decide +kernel) (by show (0 + (6 * ρ 1 + (1 * ρ 6 + 0)) : Int) = ((6 * t + w : Nat) : Int); omega)
  obtain ⟨n, H, g0, g1, g2, g3, g4, g5, g6, g7, g8, g9, g10, gW, gS, gA, gO, gD, gU, gQ, gV⟩ := t0
  have hM : ρ 4 = (n : Int) := q4.symm.trans g0
  have hH : ρ 5 = (H : Int) := q5.symm.trans g1
  have hmn : m < n := by omega
  have htH : t < H := by omega
  obtain ⟨-, -, -, -, p0, p1⟩ := g6 m hmn
  obtain ⟨-, w1, -⟩ := nWt_lt hmn p0 p1 g7
  have w2 := gW m hmn
  rw [q6] at w2
  have ew : nWt n (rv h 5) m = w := by omega
  have hwn : w < n := by omega
  have kA := gA t m htH hmn
  have kO := gO t m htH hmn
  have lA := gA t w htH hwn
  have lO := gO t w htH hwn
  rw [q7] at kA
  rw [q8] at kO
  rw [q9] at lA
  rw [q10] at lO
  unfold nA at kA lA
  unfold nS at kO lO
  have z := nSo_b (n := n) (ne := rv h 55) (bd := rv h 0) (pl := rv h 5) (S := nSt n (rv h 56 2) (rv h 54 5) (rv h 7 9) (rv h 55) (rv h 0) (rv h 1) (rv h 2) (rv h 5) (rv h 620) (fun a m => rv h (610 + a) m) t) (h := t) (m := m)
  have y := nSo_b (n := n) (ne := rv h 55) (bd := rv h 0) (pl := rv h 5) (S := nSt n (rv h 56 2) (rv h 54 5) (rv h 7 9) (rv h 55) (rv h 0) (rv h 1) (rv h 2) (rv h 5) (rv h 620) (fun a m => rv h (610 + a) m) t) (h := t) (m := w)
  rw [ew] at z
  rcases z with ⟨z1, z2⟩ | ⟨z1, z2, z3⟩ | ⟨z1, z2, z3⟩
  · rw [z1, if_neg (by decide)] at kA
    rw [z2] at kO
    rcases Nat.lt_or_ge w m with u | u
    · exact ⟨_, List.mem_of_getElem? (i := 0) rfl, rfl, rfl, (pAll1 (show (1 + ((-1) * ρ 4 + (1 * ρ 6 + 0)) : Int) ≤ 0 by omega) (pAll1 (show (1 + ((-6) * ρ 1 + (1 * ρ 2 + ((-1) * ρ 4 + (1 * ρ 6 + 0)))) : Int) ≤ 0 by omega) (pAll1 (show (0 + (6 * ρ 1 + ((-1) * ρ 2 + ((-1) * ρ 6 + 0))) : Int) ≤ 0 by omega) (pAll1 (show (1 + ((-1) * ρ 3 + (1 * ρ 6 + 0)) : Int) ≤ 0 by omega) (pAll1 (show (1 + ((-6) * ρ 1 + (1 * ρ 2 + ((-1) * ρ 3 + (1 * ρ 6 + 0)))) : Int) ≤ 0 by omega) (pAll1 (show (0 + (1 * ρ 7 + 0) : Int) ≤ 0 by omega) (pAll1 (show (0 + ((-1) * ρ 7 + 0) : Int) ≤ 0 by omega) (pAll1 (show (0 + (1 * ρ 8 + 0) : Int) ≤ 0 by omega) (pAll1 (show (0 + ((-1) * ρ 8 + 0) : Int) ≤ 0 by omega) pAll0))))))))), pAll0⟩
    · exact ⟨_, List.mem_of_getElem? (i := 3) rfl, rfl, rfl, (pAll1 (show (1 + ((-1) * ρ 4 + (1 * ρ 6 + 0)) : Int) ≤ 0 by omega) (pAll1 (show (1 + ((-6) * ρ 1 + (1 * ρ 2 + ((-1) * ρ 4 + (1 * ρ 6 + 0)))) : Int) ≤ 0 by omega) (pAll1 (show (0 + (6 * ρ 1 + ((-1) * ρ 2 + ((-1) * ρ 6 + 0))) : Int) ≤ 0 by omega) (pAll1 (show (0 + (1 * ρ 3 + ((-1) * ρ 6 + 0)) : Int) ≤ 0 by omega) (pAll1 (show (0 + (6 * ρ 1 + ((-1) * ρ 2 + (1 * ρ 3 + ((-1) * ρ 6 + 0)))) : Int) ≤ 0 by omega) (pAll1 (show (0 + (1 * ρ 7 + 0) : Int) ≤ 0 by omega) (pAll1 (show (0 + ((-1) * ρ 7 + 0) : Int) ≤ 0 by omega) (pAll1 (show (0 + (1 * ρ 8 + 0) : Int) ≤ 0 by omega) (pAll1 (show (0 + ((-1) * ρ 8 + 0) : Int) ≤ 0 by omega) pAll0))))))))), pAll0⟩
  · rw [z1, if_pos rfl] at kA
    rw [z2, if_neg (by decide)] at lA
    rw [z3] at kO
    rcases y with ⟨y1, y2⟩ | ⟨y1, y2, y3⟩ | ⟨y1, y2, y3⟩
    · rw [y2] at lO
      rcases Nat.lt_or_ge w m with u | u
      · exact ⟨_, List.mem_of_getElem? (i := 1) rfl, rfl, rfl, (pAll1 (show (1 + ((-1) * ρ 4 + (1 * ρ 6 + 0)) : Int) ≤ 0 by omega) (pAll1 (show (1 + ((-6) * ρ 1 + (1 * ρ 2 + ((-1) * ρ 4 + (1 * ρ 6 + 0)))) : Int) ≤ 0 by omega) (pAll1 (show (0 + (6 * ρ 1 + ((-1) * ρ 2 + ((-1) * ρ 6 + 0))) : Int) ≤ 0 by omega) (pAll1 (show (1 + ((-1) * ρ 3 + (1 * ρ 6 + 0)) : Int) ≤ 0 by omega) (pAll1 (show (1 + ((-6) * ρ 1 + (1 * ρ 2 + ((-1) * ρ 3 + (1 * ρ 6 + 0)))) : Int) ≤ 0 by omega) (pAll1 (show ((-1) + (1 * ρ 7 + 0) : Int) ≤ 0 by omega) (pAll1 (show (1 + ((-1) * ρ 7 + 0) : Int) ≤ 0 by omega) (pAll1 (show (0 + (1 * ρ 9 + 0) : Int) ≤ 0 by omega) (pAll1 (show (0 + ((-1) * ρ 9 + 0) : Int) ≤ 0 by omega) (pAll1 (show (0 + (1 * ρ 10 + 0) : Int) ≤ 0 by omega) (pAll1 (show (0 + ((-1) * ρ 10 + 0) : Int) ≤ 0 by omega) (pAll1 (show ((-2) + (1 * ρ 8 + 0) : Int) ≤ 0 by omega) (pAll1 (show (2 + ((-1) * ρ 8 + 0) : Int) ≤ 0 by omega) pAll0))))))))))))), pAll0⟩
      · exact ⟨_, List.mem_of_getElem? (i := 4) rfl, rfl, rfl, (pAll1 (show (1 + ((-1) * ρ 4 + (1 * ρ 6 + 0)) : Int) ≤ 0 by omega) (pAll1 (show (1 + ((-6) * ρ 1 + (1 * ρ 2 + ((-1) * ρ 4 + (1 * ρ 6 + 0)))) : Int) ≤ 0 by omega) (pAll1 (show (0 + (6 * ρ 1 + ((-1) * ρ 2 + ((-1) * ρ 6 + 0))) : Int) ≤ 0 by omega) (pAll1 (show (0 + (1 * ρ 3 + ((-1) * ρ 6 + 0)) : Int) ≤ 0 by omega) (pAll1 (show (0 + (6 * ρ 1 + ((-1) * ρ 2 + (1 * ρ 3 + ((-1) * ρ 6 + 0)))) : Int) ≤ 0 by omega) (pAll1 (show ((-1) + (1 * ρ 7 + 0) : Int) ≤ 0 by omega) (pAll1 (show (1 + ((-1) * ρ 7 + 0) : Int) ≤ 0 by omega) (pAll1 (show (0 + (1 * ρ 9 + 0) : Int) ≤ 0 by omega) (pAll1 (show (0 + ((-1) * ρ 9 + 0) : Int) ≤ 0 by omega) (pAll1 (show (0 + (1 * ρ 10 + 0) : Int) ≤ 0 by omega) (pAll1 (show (0 + ((-1) * ρ 10 + 0) : Int) ≤ 0 by omega) (pAll1 (show ((-2) + (1 * ρ 8 + 0) : Int) ≤ 0 by omega) (pAll1 (show (2 + ((-1) * ρ 8 + 0) : Int) ≤ 0 by omega) pAll0))))))))))))), pAll0⟩
    · rw [z2] at y1
      cases y1
    · rw [z2] at y1
      cases y1
  · rw [z1, if_pos rfl] at kA
    rw [z2, if_pos rfl] at lA
    rw [z3] at kO
    rcases y with ⟨y1, y2⟩ | ⟨y1, y2, y3⟩ | ⟨y1, y2, y3⟩
    · rw [z2] at y1
      cases y1
    · rw [y3] at lO
      rcases Nat.lt_or_ge w m with u | u
      · exact ⟨_, List.mem_of_getElem? (i := 2) rfl, rfl, rfl, (pAll1 (show (1 + ((-1) * ρ 4 + (1 * ρ 6 + 0)) : Int) ≤ 0 by omega) (pAll1 (show (1 + ((-6) * ρ 1 + (1 * ρ 2 + ((-1) * ρ 4 + (1 * ρ 6 + 0)))) : Int) ≤ 0 by omega) (pAll1 (show (0 + (6 * ρ 1 + ((-1) * ρ 2 + ((-1) * ρ 6 + 0))) : Int) ≤ 0 by omega) (pAll1 (show (1 + ((-1) * ρ 3 + (1 * ρ 6 + 0)) : Int) ≤ 0 by omega) (pAll1 (show (1 + ((-6) * ρ 1 + (1 * ρ 2 + ((-1) * ρ 3 + (1 * ρ 6 + 0)))) : Int) ≤ 0 by omega) (pAll1 (show ((-1) + (1 * ρ 7 + 0) : Int) ≤ 0 by omega) (pAll1 (show (1 + ((-1) * ρ 7 + 0) : Int) ≤ 0 by omega) (pAll1 (show ((-1) + (1 * ρ 9 + 0) : Int) ≤ 0 by omega) (pAll1 (show (1 + ((-1) * ρ 9 + 0) : Int) ≤ 0 by omega) (pAll1 (show (1 + ((-1) * ρ 10 + 0) : Int) ≤ 0 by omega) (pAll1 (show ((-1) + (1 * ρ 8 + 0) : Int) ≤ 0 by omega) (pAll1 (show (1 + ((-1) * ρ 8 + 0) : Int) ≤ 0 by omega) pAll0)))))))))))), pAll0⟩
      · exact ⟨_, List.mem_of_getElem? (i := 5) rfl, rfl, rfl, (pAll1 (show (1 + ((-1) * ρ 4 + (1 * ρ 6 + 0)) : Int) ≤ 0 by omega) (pAll1 (show (1 + ((-6) * ρ 1 + (1 * ρ 2 + ((-1) * ρ 4 + (1 * ρ 6 + 0)))) : Int) ≤ 0 by omega) (pAll1 (show (0 + (6 * ρ 1 + ((-1) * ρ 2 + ((-1) * ρ 6 + 0))) : Int) ≤ 0 by omega) (pAll1 (show (0 + (1 * ρ 3 + ((-1) * ρ 6 + 0)) : Int) ≤ 0 by omega) (pAll1 (show (0 + (6 * ρ 1 + ((-1) * ρ 2 + (1 * ρ 3 + ((-1) * ρ 6 + 0)))) : Int) ≤ 0 by omega) (pAll1 (show ((-1) + (1 * ρ 7 + 0) : Int) ≤ 0 by omega) (pAll1 (show (1 + ((-1) * ρ 7 + 0) : Int) ≤ 0 by omega) (pAll1 (show ((-1) + (1 * ρ 9 + 0) : Int) ≤ 0 by omega) (pAll1 (show (1 + ((-1) * ρ 9 + 0) : Int) ≤ 0 by omega) (pAll1 (show (1 + ((-1) * ρ 10 + 0) : Int) ≤ 0 by omega) (pAll1 (show ((-1) + (1 * ρ 8 + 0) : Int) ≤ 0 by omega) (pAll1 (show (1 + ((-1) * ρ 8 + 0) : Int) ≤ 0 by omega) pAll0)))))))))))), pAll0⟩
    · rw [y3] at lO
      rcases Nat.lt_or_ge w m with u | u
      · exact ⟨_, List.mem_of_getElem? (i := 2) rfl, rfl, rfl, (pAll1 (show (1 + ((-1) * ρ 4 + (1 * ρ 6 + 0)) : Int) ≤ 0 by omega) (pAll1 (show (1 + ((-6) * ρ 1 + (1 * ρ 2 + ((-1) * ρ 4 + (1 * ρ 6 + 0)))) : Int) ≤ 0 by omega) (pAll1 (show (0 + (6 * ρ 1 + ((-1) * ρ 2 + ((-1) * ρ 6 + 0))) : Int) ≤ 0 by omega) (pAll1 (show (1 + ((-1) * ρ 3 + (1 * ρ 6 + 0)) : Int) ≤ 0 by omega) (pAll1 (show (1 + ((-6) * ρ 1 + (1 * ρ 2 + ((-1) * ρ 3 + (1 * ρ 6 + 0)))) : Int) ≤ 0 by omega) (pAll1 (show ((-1) + (1 * ρ 7 + 0) : Int) ≤ 0 by omega) (pAll1 (show (1 + ((-1) * ρ 7 + 0) : Int) ≤ 0 by omega) (pAll1 (show ((-1) + (1 * ρ 9 + 0) : Int) ≤ 0 by omega) (pAll1 (show (1 + ((-1) * ρ 9 + 0) : Int) ≤ 0 by omega) (pAll1 (show (1 + ((-1) * ρ 10 + 0) : Int) ≤ 0 by omega) (pAll1 (show ((-1) + (1 * ρ 8 + 0) : Int) ≤ 0 by omega) (pAll1 (show (1 + ((-1) * ρ 8 + 0) : Int) ≤ 0 by omega) pAll0)))))))))))), pAll0⟩
      · exact ⟨_, List.mem_of_getElem? (i := 5) rfl, rfl, rfl, (pAll1 (show (1 + ((-1) * ρ 4 + (1 * ρ 6 + 0)) : Int) ≤ 0 by omega) (pAll1 (show (1 + ((-6) * ρ 1 + (1 * ρ 2 + ((-1) * ρ 4 + (1 * ρ 6 + 0)))) : Int) ≤ 0 by omega) (pAll1 (show (0 + (6 * ρ 1 + ((-1) * ρ 2 + ((-1) * ρ 6 + 0))) : Int) ≤ 0 by omega) (pAll1 (show (0 + (1 * ρ 3 + ((-1) * ρ 6 + 0)) : Int) ≤ 0 by omega) (pAll1 (show (0 + (6 * ρ 1 + ((-1) * ρ 2 + (1 * ρ 3 + ((-1) * ρ 6 + 0)))) : Int) ≤ 0 by omega) (pAll1 (show ((-1) + (1 * ρ 7 + 0) : Int) ≤ 0 by omega) (pAll1 (show (1 + ((-1) * ρ 7 + 0) : Int) ≤ 0 by omega) (pAll1 (show ((-1) + (1 * ρ 9 + 0) : Int) ≤ 0 by omega) (pAll1 (show (1 + ((-1) * ρ 9 + 0) : Int) ≤ 0 by omega) (pAll1 (show (1 + ((-1) * ρ 10 + 0) : Int) ≤ 0 by omega) (pAll1 (show ((-1) + (1 * ρ 8 + 0) : Int) ≤ 0 by omega) (pAll1 (show (1 + ((-1) * ρ 8 + 0) : Int) ≤ 0 by omega) pAll0)))))))))))), pAll0⟩)

theorem qR_innow_ok (h60 : ∀ x y h, gv 60 x y h → nGh 0 1 2 5 7 9 h) : pRulQ pReg qG gv qR_innow := qrul (by decide +kernel) (fun h ρ hG hm hb hc => by
  have b0 : (1 : Int) ≤ ρ 0 ∧ ρ 0 ≤ 1 := hb 0 (1, 1) rfl
  have b1 : (0 : Int) ≤ ρ 1 ∧ ρ 1 ≤ 5 := hb 1 (0, 5) rfl
  have b2 : (2 : Int) ≤ ρ 2 ∧ ρ 2 ≤ 6 := hb 2 (2, 6) rfl
  have b3 : ((-2147483648) : Int) ≤ ρ 3 ∧ ρ 3 ≤ 2147483647 := hb 3 ((-2147483648), 2147483647) rfl
  have b4 : ((-2147483648) : Int) ≤ ρ 4 ∧ ρ 4 ≤ 2147483647 := hb 4 ((-2147483648), 2147483647) rfl
  have b5 : ((-2147483648) : Int) ≤ ρ 5 ∧ ρ 5 ≤ 2147483647 := hb 5 ((-2147483648), 2147483647) rfl
  have b6 : ((-2147483648) : Int) ≤ ρ 6 ∧ ρ 6 ≤ 2147483647 := hb 6 ((-2147483648), 2147483647) rfl
  have c0 : (1 + (1 * ρ 1 + ((-1) * ρ 2 + 0)) : Int) ≤ 0 := hc _ (List.mem_of_getElem? (i := 0) rfl)
  obtain ⟨m, e_m⟩ : ∃ x : Nat, ρ 1 = (x : Int) := ⟨(ρ 1).toNat, by omega⟩
  have t0 := h60 _ _ _ (qtl (a := 60) hm 0 rfl (by decide))
  have q2 : rv h 56 (0) = ρ 2 := qrv hm 1 rfl (by decide) (by decide +kernel) (by show (0 + 0 : Int) = ((0 : Nat) : Int); omega)
  have q3 : rv h 610 (m) = ρ 3 := qrv hm 2 rfl (by decide) (by decide +kernel) (by show (0 + (1 * ρ 1 + 0) : Int) = ((m : Nat) : Int); omega)
  have q4 : rv h 611 (m) = ρ 4 := qrv hm 3 rfl (by decide) (by decide +kernel) (by show (0 + (1 * ρ 1 + 0) : Int) = ((m : Nat) : Int); omega)
  have q5 : rv h 612 (m) = ρ 5 := qrv hm 4 rfl (by decide) (by decide +kernel) (by show (0 + (1 * ρ 1 + 0) : Int) = ((m : Nat) : Int); omega)
  have q6 : rv h 613 (m) = ρ 6 := qrv hm 5 rfl (by decide) (by decide +kernel) (by show (0 + (1 * ρ 1 + 0) : Int) = ((m : Nat) : Int); omega)
  obtain ⟨n, H, g0, g1, g2, g3, g4, g5, g6, g7, g8, g9, g10, gW, gS, gA, gO, gD, gU, gQ, gV⟩ := t0
  have hM : ρ 2 = (n : Int) := q2.symm.trans g0
  have hmn : m < n := by omega
  have k0 := gS 0 m 0 (by omega) (by omega) (by decide)
  rw [show 610 + 0 = 610 from rfl, show 6 * 0 + m = m by omega, q3] at k0
  simp [nSt, hmn] at k0
  have k1 := gS 0 m 1 (by omega) (by omega) (by decide)
  rw [show 610 + 1 = 611 from rfl, show 6 * 0 + m = m by omega, q4] at k1
  simp [nSt, hmn] at k1
  have k2 := gS 0 m 2 (by omega) (by omega) (by decide)
  rw [show 610 + 2 = 612 from rfl, show 6 * 0 + m = m by omega, q5] at k2
  simp [nSt, hmn] at k2
  have k3 := gS 0 m 3 (by omega) (by omega) (by decide)
  rw [show 610 + 3 = 613 from rfl, show 6 * 0 + m = m by omega, q6] at k3
  simp [nSt, hmn] at k3
  exact ⟨_, List.mem_of_getElem? (i := 0) rfl, rfl, rfl, (pAll1 (show (0 + (1 * ρ 3 + 0) : Int) ≤ 0 by omega) (pAll1 (show (0 + ((-1) * ρ 3 + 0) : Int) ≤ 0 by omega) (pAll1 (show (1 + (1 * ρ 4 + 0) : Int) ≤ 0 by omega) (pAll1 (show ((-1) + ((-1) * ρ 4 + 0) : Int) ≤ 0 by omega) (pAll1 (show (0 + (1 * ρ 5 + 0) : Int) ≤ 0 by omega) (pAll1 (show (0 + ((-1) * ρ 5 + 0) : Int) ≤ 0 by omega) (pAll1 (show (0 + (1 * ρ 6 + 0) : Int) ≤ 0 by omega) (pAll1 (show (0 + ((-1) * ρ 6 + 0) : Int) ≤ 0 by omega) pAll0)))))))), pAll0⟩)

theorem qR_in0now_ok (h60 : ∀ x y h, gv 60 x y h → nGh 0 1 2 5 7 9 h) : pRulQ pReg qG gv qR_in0now := qrul (by decide +kernel) (fun h ρ hG hm hb hc => by
  have b0 : (1 : Int) ≤ ρ 0 ∧ ρ 0 ≤ 1 := hb 0 (1, 1) rfl
  have b1 : (0 : Int) ≤ ρ 1 ∧ ρ 1 ≤ 60 := hb 1 (0, 60) rfl
  have b2 : (0 : Int) ≤ ρ 2 ∧ ρ 2 ≤ 60 := hb 2 (0, 60) rfl
  have b3 : (0 : Int) ≤ ρ 3 ∧ ρ 3 ≤ 10 := hb 3 (0, 10) rfl
  have t0 := h60 _ _ _ (qtl (a := 60) hm 0 rfl (by decide))
  have q1 : rv h 614 (0) = ρ 1 := qrv hm 1 rfl (by decide) (by decide +kernel) (by show (0 + 0 : Int) = ((0 : Nat) : Int); omega)
  have q2 : rv h 615 (0) = ρ 2 := qrv hm 2 rfl (by decide) (by decide +kernel) (by show (0 + 0 : Int) = ((0 : Nat) : Int); omega)
  have q3 : rv h 616 (0) = ρ 3 := qrv hm 3 rfl (by decide) (by decide +kernel) (by show (0 + 0 : Int) = ((0 : Nat) : Int); omega)
  obtain ⟨n, H, g0, g1, g2, g3, g4, g5, g6, g7, g8, g9, g10, gW, gS, gA, gO, gD, gU, gQ, gV⟩ := t0
  have ku := gU 0 (by omega)
  have kq := gQ 0 (by omega)
  rw [q1, q2] at ku
  rw [q3] at kq
  simp [nUN, nOP, nCt] at ku
  simp [nQU, nCt] at kq
  obtain ⟨ku1, ku2⟩ := ku
  exact ⟨_, List.mem_of_getElem? (i := 0) rfl, rfl, rfl, (pAll1 (show (0 + (1 * ρ 1 + 0) : Int) ≤ 0 by omega) (pAll1 (show (0 + ((-1) * ρ 1 + 0) : Int) ≤ 0 by omega) (pAll1 (show (0 + (1 * ρ 2 + 0) : Int) ≤ 0 by omega) (pAll1 (show (0 + ((-1) * ρ 2 + 0) : Int) ≤ 0 by omega) (pAll1 (show (0 + (1 * ρ 3 + 0) : Int) ≤ 0 by omega) (pAll1 (show (0 + ((-1) * ρ 3 + 0) : Int) ≤ 0 by omega) pAll0)))))), pAll0⟩)

theorem qR_aw0now_ok (h60 : ∀ x y h, gv 60 x y h → nGh 0 1 2 5 7 9 h) : pRulQ pReg qG gv qR_aw0now := qrul (by decide +kernel) (fun h ρ hG hm hb hc => by
  have b0 : (1 : Int) ≤ ρ 0 ∧ ρ 0 ≤ 1 := hb 0 (1, 1) rfl
  have b1 : (0 : Int) ≤ ρ 1 ∧ ρ 1 ≤ 9 := hb 1 (0, 9) rfl
  have b2 : (0 : Int) ≤ ρ 2 ∧ ρ 2 ≤ 1 := hb 2 (0, 1) rfl
  obtain ⟨t, e_t⟩ : ∃ x : Nat, ρ 1 = (x : Int) := ⟨(ρ 1).toNat, by omega⟩
  have t0 := h60 _ _ _ (qtl (a := 60) hm 0 rfl (by decide))
  have q2 : rv h 617 (7 * t) = ρ 2 := qrv hm 1 rfl (by decide) (by decide +kernel) (by show (0 + (7 * ρ 1 + 0) : Int) = ((7 * t : Nat) : Int); omega)
  obtain ⟨n, H, g0, g1, g2, g3, g4, g5, g6, g7, g8, g9, g10, gW, gS, gA, gO, gD, gU, gQ, gV⟩ := t0
  have k := gV t 0 (by omega)
  rw [show 7 * t + 0 = 7 * t by omega, q2] at k
  simp [nAW] at k
  exact ⟨_, List.mem_of_getElem? (i := 0) rfl, rfl, rfl, (pAll1 (show (0 + (1 * ρ 2 + 0) : Int) ≤ 0 by omega) (pAll1 (show (0 + ((-1) * ρ 2 + 0) : Int) ≤ 0 by omega) pAll0)), pAll0⟩)

theorem qR_awnow_ok (h60 : ∀ x y h, gv 60 x y h → nGh 0 1 2 5 7 9 h) : pRulQ pReg qG gv qR_awnow := qrul (by decide +kernel) (fun h ρ hG hm hb hc => by
  have b0 : (1 : Int) ≤ ρ 0 ∧ ρ 0 ≤ 1 := hb 0 (1, 1) rfl
  have b1 : (0 : Int) ≤ ρ 1 ∧ ρ 1 ≤ 9 := hb 1 (0, 9) rfl
  have b2 : (0 : Int) ≤ ρ 2 ∧ ρ 2 ≤ 5 := hb 2 (0, 5) rfl
  have b3 : (2 : Int) ≤ ρ 3 ∧ ρ 3 ≤ 6 := hb 3 (2, 6) rfl
  have b4 : (4 : Int) ≤ ρ 4 ∧ ρ 4 ≤ 10 := hb 4 (4, 10) rfl
  have b5 : (0 : Int) ≤ ρ 5 ∧ ρ 5 ≤ 2 := hb 5 (0, 2) rfl
  have b6 : (0 : Int) ≤ ρ 6 ∧ ρ 6 ≤ 1 := hb 6 (0, 1) rfl
  have b7 : (0 : Int) ≤ ρ 7 ∧ ρ 7 ≤ 1 := hb 7 (0, 1) rfl
  have c0 : (1 + (1 * ρ 2 + ((-1) * ρ 3 + 0)) : Int) ≤ 0 := hc _ (List.mem_of_getElem? (i := 0) rfl)
  have c1 : (1 + (1 * ρ 1 + ((-1) * ρ 4 + 0)) : Int) ≤ 0 := hc _ (List.mem_of_getElem? (i := 1) rfl)
  obtain ⟨t, e_t⟩ : ∃ x : Nat, ρ 1 = (x : Int) := ⟨(ρ 1).toNat, by omega⟩
  obtain ⟨m, e_m⟩ : ∃ x : Nat, ρ 2 = (x : Int) := ⟨(ρ 2).toNat, by omega⟩
  have t0 := h60 _ _ _ (qtl (a := 60) hm 0 rfl (by decide))
  have q3 : rv h 56 (0) = ρ 3 := qrv hm 1 rfl (by decide) (by decide +kernel) (by show (0 + 0 : Int) = ((0 : Nat) : Int); omega)
  have q4 : rv h 56 (1) = ρ 4 := qrv hm 2 rfl (by decide) (by decide +kernel) (by show (1 + 0 : Int) = ((1 : Nat) : Int); omega)
  have q5 : rv h 608 (6 * t + m) = ρ 5 := qrv hm 3 rfl (by decide) (by decide +kernel) (by show (0 + (6 * ρ 1 + (1 * ρ 2 + 0)) : Int) = ((6 * t + m : Nat) : Int); omega)
  have q6 : rv h 617 (7 * t + m) = ρ 6 := qrv hm 4 rfl (by decide) (by decide +kernel) (by show (0 + (7 * ρ 1 + (1 * ρ 2 + 0)) : Int) = ((7 * t + m : Nat) : Int); omega)
  have q7 : rv h 617 (7 * t + m + 1) = ρ 7 := qrv hm 5 rfl (by decide) (by decide +kernel) (by show (1 + (7 * ρ 1 + (1 * ρ 2 + 0)) : Int) = ((7 * t + m + 1 : Nat) : Int); omega)
  obtain ⟨n, H, g0, g1, g2, g3, g4, g5, g6, g7, g8, g9, g10, gW, gS, gA, gO, gD, gU, gQ, gV⟩ := t0
  have hM : ρ 3 = (n : Int) := q3.symm.trans g0
  have hH : ρ 4 = (H : Int) := q4.symm.trans g1
  have hmn : m < n := by omega
  have htH : t < H := by omega
  have k := gV t m (by omega)
  have k2 := gV t (m + 1) (by omega)
  rw [q6] at k
  rw [show 7 * t + (m + 1) = 7 * t + m + 1 by omega, q7] at k2
  have kO := gO t m htH hmn
  rw [q5] at kO
  unfold nAW at k2
  rw [← k, ← kO] at k2
  by_cases z : ρ 5 = 2
  · rw [if_pos z] at k2
    exact ⟨_, List.mem_of_getElem? (i := 0) rfl, rfl, rfl, (pAll1 (show ((-2) + (1 * ρ 5 + 0) : Int) ≤ 0 by omega) (pAll1 (show (2 + ((-1) * ρ 5 + 0) : Int) ≤ 0 by omega) (pAll1 (show ((-1) + (1 * ρ 7 + 0) : Int) ≤ 0 by omega) (pAll1 (show (1 + ((-1) * ρ 7 + 0) : Int) ≤ 0 by omega) pAll0)))), pAll0⟩
  · rw [if_neg z] at k2
    exact ⟨_, List.mem_of_getElem? (i := 1) rfl, rfl, rfl, (pAll1 (show ((-1) + (1 * ρ 5 + 0) : Int) ≤ 0 by omega) (pAll1 (show (0 + ((-1) * ρ 6 + (1 * ρ 7 + 0)) : Int) ≤ 0 by omega) (pAll1 (show (0 + (1 * ρ 6 + ((-1) * ρ 7 + 0)) : Int) ≤ 0 by omega) pAll0))), pAll0⟩)

theorem qR_nxnow_ok (h60 : ∀ x y h, gv 60 x y h → nGh 0 1 2 5 7 9 h) : pRulQ pReg qG gv qR_nxnow := qrul (by decide +kernel) (fun h ρ hG hm hb hc => by
  have b0 : (1 : Int) ≤ ρ 0 ∧ ρ 0 ≤ 1 := hb 0 (1, 1) rfl
  have b1 : (0 : Int) ≤ ρ 1 ∧ ρ 1 ≤ 9 := hb 1 (0, 9) rfl
  have b2 : (0 : Int) ≤ ρ 2 ∧ ρ 2 ≤ 5 := hb 2 (0, 5) rfl
  have b3 : (2 : Int) ≤ ρ 3 ∧ ρ 3 ≤ 6 := hb 3 (2, 6) rfl
  have b4 : (4 : Int) ≤ ρ 4 ∧ ρ 4 ≤ 10 := hb 4 (4, 10) rfl
  have b5 : (1 : Int) ≤ ρ 5 ∧ ρ 5 ≤ 20 := hb 5 (1, 20) rfl
  have b6 : (0 : Int) ≤ ρ 6 ∧ ρ 6 ≤ 2 := hb 6 (0, 2) rfl
  have b7 : ((-1) : Int) ≤ ρ 7 ∧ ρ 7 ≤ 20 := hb 7 ((-1), 20) rfl
  have b8 : ((-2147483648) : Int) ≤ ρ 8 ∧ ρ 8 ≤ 2147483647 := hb 8 ((-2147483648), 2147483647) rfl
  have b9 : ((-2147483648) : Int) ≤ ρ 9 ∧ ρ 9 ≤ 2147483647 := hb 9 ((-2147483648), 2147483647) rfl
  have b10 : ((-2147483648) : Int) ≤ ρ 10 ∧ ρ 10 ≤ 2147483647 := hb 10 ((-2147483648), 2147483647) rfl
  have b11 : ((-2147483648) : Int) ≤ ρ 11 ∧ ρ 11 ≤ 2147483647 := hb 11 ((-2147483648), 2147483647) rfl
  have b12 : ((-2147483648) : Int) ≤ ρ 12 ∧ ρ 12 ≤ 2147483647 := hb 12 ((-2147483648), 2147483647) rfl
  have b13 : ((-2147483648) : Int) ≤ ρ 13 ∧ ρ 13 ≤ 2147483647 := hb 13 ((-2147483648), 2147483647) rfl
  have b14 : ((-2147483648) : Int) ≤ ρ 14 ∧ ρ 14 ≤ 2147483647 := hb 14 ((-2147483648), 2147483647) rfl
  have b15 : ((-2147483648) : Int) ≤ ρ 15 ∧ ρ 15 ≤ 2147483647 := hb 15 ((-2147483648), 2147483647) rfl
  have b16 : (0 : Int) ≤ ρ 16 ∧ ρ 16 ≤ 60 := hb 16 (0, 60) rfl
  have b17 : (0 : Int) ≤ ρ 17 ∧ ρ 17 ≤ 60 := hb 17 (0, 60) rfl
  have b18 : (0 : Int) ≤ ρ 18 ∧ ρ 18 ≤ 60 := hb 18 (0, 60) rfl
  have b19 : (0 : Int) ≤ ρ 19 ∧ ρ 19 ≤ 60 := hb 19 (0, 60) rfl
  have c0 : (1 + (1 * ρ 2 + ((-1) * ρ 3 + 0)) : Int) ≤ 0 := hc _ (List.mem_of_getElem? (i := 0) rfl)
  have c1 : (1 + (1 * ρ 1 + ((-1) * ρ 4 + 0)) : Int) ≤ 0 := hc _ (List.mem_of_getElem? (i := 1) rfl)
  have c2 : (1 + ((-1) * ρ 6 + 0) : Int) ≤ 0 := hc _ (List.mem_of_getElem? (i := 2) rfl)
  obtain ⟨t, e_t⟩ : ∃ x : Nat, ρ 1 = (x : Int) := ⟨(ρ 1).toNat, by omega⟩
  obtain ⟨m, e_m⟩ : ∃ x : Nat, ρ 2 = (x : Int) := ⟨(ρ 2).toNat, by omega⟩
  have t0 := h60 _ _ _ (qtl (a := 60) hm 0 rfl (by decide))
  have q3 : rv h 56 (0) = ρ 3 := qrv hm 1 rfl (by decide) (by decide +kernel) (by show (0 + 0 : Int) = ((0 : Nat) : Int); omega)
  have q4 : rv h 56 (1) = ρ 4 := qrv hm 2 rfl (by decide) (by decide +kernel) (by show (1 + 0 : Int) = ((1 : Nat) : Int); omega)
  have q5 : rv h 56 (2) = ρ 5 := qrv hm 3 rfl (by decide) (by decide +kernel) (by show (2 + 0 : Int) = ((2 : Nat) : Int); omega)
  have q6 : rv h 608 (6 * t + m) = ρ 6 := qrv hm 4 rfl (by decide) (by decide +kernel) (by show (0 + (6 * ρ 1 + (1 * ρ 2 + 0)) : Int) = ((6 * t + m : Nat) : Int); omega)
  have q7 : rv h 609 (6 * t + m) = ρ 7 := qrv hm 5 rfl (by decide) (by decide +kernel) (by show (0 + (6 * ρ 1 + (1 * ρ 2 + 0)) : Int) = ((6 * t + m : Nat) : Int); omega)
  have q8 : rv h 610 (6 * t + m) = ρ 8 := qrv hm 6 rfl (by decide) (by decide +kernel) (by show (0 + (6 * ρ 1 + (1 * ρ 2 + 0)) : Int) = ((6 * t + m : Nat) : Int); omega)
  have q9 : rv h 611 (6 * t + m) = ρ 9 := qrv hm 7 rfl (by decide) (by decide +kernel) (by show (0 + (6 * ρ 1 + (1 * ρ 2 + 0)) : Int) = ((6 * t + m : Nat) : Int); omega)
  have q10 : rv h 612 (6 * t + m) = ρ 10 := qrv hm 8 rfl (by decide) (by decide +kernel) (by show (0 + (6 * ρ 1 + (1 * ρ 2 + 0)) : Int) = ((6 * t + m : Nat) : Int); omega)
  have q11 : rv h 613 (6 * t + m) = ρ 11 := qrv hm 9 rfl (by decide) (by decide +kernel) (by show (0 + (6 * ρ 1 + (1 * ρ 2 + 0)) : Int) = ((6 * t + m : Nat) : Int); omega)
  have q12 : rv h 610 (6 * t + m + 6) = ρ 12 := qrv hm 10 rfl (by decide) (by decide +kernel) (by show (6 + (6 * ρ 1 + (1 * ρ 2 + 0)) : Int) = ((6 * t + m + 6 : Nat) : Int); omega)
  have q13 : rv h 611 (6 * t + m + 6) = ρ 13 := qrv hm 11 rfl (by decide) (by decide +kernel) (by show (6 + (6 * ρ 1 + (1 * ρ 2 + 0)) : Int) = ((6 * t + m + 6 : Nat) : Int); omega)
  have q14 : rv h 612 (6 * t + m + 6) = ρ 14 := qrv hm 12 rfl (by decide) (by decide +kernel) (by show (6 + (6 * ρ 1 + (1 * ρ 2 + 0)) : Int) = ((6 * t + m + 6 : Nat) : Int); omega)
  have q15 : rv h 613 (6 * t + m + 6) = ρ 15 := qrv hm 13 rfl (by decide) (by decide +kernel) (by show (6 + (6 * ρ 1 + (1 * ρ 2 + 0)) : Int) = ((6 * t + m + 6 : Nat) : Int); omega)
  have q16 : rv h 614 (6 * t + m) = ρ 16 := qrv hm 14 rfl (by decide) (by decide +kernel) (by show (0 + (6 * ρ 1 + (1 * ρ 2 + 0)) : Int) = ((6 * t + m : Nat) : Int); omega)
  have q17 : rv h 614 (6 * t + m + 1) = ρ 17 := qrv hm 15 rfl (by decide) (by decide +kernel) (by show (1 + (6 * ρ 1 + (1 * ρ 2 + 0)) : Int) = ((6 * t + m + 1 : Nat) : Int); omega)
  have q18 : rv h 615 (6 * t + m) = ρ 18 := qrv hm 16 rfl (by decide) (by decide +kernel) (by show (0 + (6 * ρ 1 + (1 * ρ 2 + 0)) : Int) = ((6 * t + m : Nat) : Int); omega)
  have q19 : rv h 615 (6 * t + m + 1) = ρ 19 := qrv hm 17 rfl (by decide) (by decide +kernel) (by show (1 + (6 * ρ 1 + (1 * ρ 2 + 0)) : Int) = ((6 * t + m + 1 : Nat) : Int); omega)
  obtain ⟨n, H, g0, g1, g2, g3, g4, g5, g6, g7, g8, g9, g10, gW, gS, gA, gO, gD, gU, gQ, gV⟩ := t0
  have hM : ρ 3 = (n : Int) := q3.symm.trans g0
  have hH : ρ 4 = (H : Int) := q4.symm.trans g1
  have hmn : m < n := by omega
  have htH : t < H := by omega
  have k0 := gS t m 0 (by omega) (by omega) (by decide)
  rw [show 610 + 0 = 610 from rfl, q8] at k0
  have l0 := gS (t + 1) m 0 (by omega) (by omega) (by decide)
  rw [show 610 + 0 = 610 from rfl, show 6 * (t + 1) + m = 6 * t + m + 6 by omega, q12, nSt_s] at l0
  unfold nUp at l0
  have k1 := gS t m 1 (by omega) (by omega) (by decide)
  rw [show 610 + 1 = 611 from rfl, q9] at k1
  have l1 := gS (t + 1) m 1 (by omega) (by omega) (by decide)
  rw [show 610 + 1 = 611 from rfl, show 6 * (t + 1) + m = 6 * t + m + 6 by omega, q13, nSt_s] at l1
  unfold nUp at l1
  have k2 := gS t m 2 (by omega) (by omega) (by decide)
  rw [show 610 + 2 = 612 from rfl, q10] at k2
  have l2 := gS (t + 1) m 2 (by omega) (by omega) (by decide)
  rw [show 610 + 2 = 612 from rfl, show 6 * (t + 1) + m = 6 * t + m + 6 by omega, q14, nSt_s] at l2
  unfold nUp at l2
  have k3 := gS t m 3 (by omega) (by omega) (by decide)
  rw [show 610 + 3 = 613 from rfl, q11] at k3
  have l3 := gS (t + 1) m 3 (by omega) (by omega) (by decide)
  rw [show 610 + 3 = 613 from rfl, show 6 * (t + 1) + m = 6 * t + m + 6 by omega, q15, nSt_s] at l3
  unfold nUp at l3
  have kO := gO t m htH hmn
  rw [q6] at kO
  have kD := gD t m htH hmn
  rw [q7] at kD
  have fO := kO
  have fD := kD
  unfold nS at fO
  unfold nD at fD
  obtain ⟨u1, u2⟩ := gU (6 * t + m) (by omega)
  obtain ⟨u3, u4⟩ := gU (6 * t + m + 1) (by omega)
  rw [q16] at u1
  rw [q18] at u2
  rw [q17] at u3
  rw [q19] at u4
  simp only [nUN, nCt] at u1 u3
  simp only [nOP, nCt] at u2 u4
  rw [← u1] at u3
  rw [← u2] at u4
  simp only [show (6 * t + m) % 6 = m by omega, show (6 * t + m) / 6 = t by omega, ← kO, ← kD] at u3 u4
  simp only [q5] at u3 u4
  have B := nSt_b (n := n) (mare := rv h 56 2) (hold := rv h 54 5) (nt := rv h 7 9) (ne := rv h 55) (bd := rv h 0) (ey := rv h 1) (dm := rv h 2) (pl := rv h 5) (W := rv h 620) (g0 := fun a m => rv h (610 + a) m) hmn t
  rw [← k0, ← k1, ← k2, ← k3] at B
  obtain ⟨B0, B1, B2, B3⟩ := B
  have D := nDr_b (n := n) (hold := rv h 54 5) (nt := rv h 7 9) (ne := rv h 55) (bd := rv h 0) (ey := rv h 1) (dm := rv h 2) (pl := rv h 5) (W := rv h 620) (S := nSt n (rv h 56 2) (rv h 54 5) (rv h 7 9) (rv h 55) (rv h 0) (rv h 1) (rv h 2) (rv h 5) (rv h 620) (fun a m => rv h (610 + a) m) t) (h := t) (m := m)
  rw [← fO, ← fD] at D
  have z := nSo_b (n := n) (ne := rv h 55) (bd := rv h 0) (pl := rv h 5) (S := nSt n (rv h 56 2) (rv h 54 5) (rv h 7 9) (rv h 55) (rv h 0) (rv h 1) (rv h 2) (rv h 5) (rv h 620) (fun a m => rv h (610 + a) m) t) (h := t) (m := m)
  rw [← fO] at z
  simp only [← fO, ← fD, ← k0, ← k1, ← k2, ← k3] at l0 l1 l2 l3
  simp only [q5] at l0 l1 l2 l3
  have zz : (ρ 6 = 0) ∨ ((ρ 6 = 2 ∨ ρ 6 = 1) ∧ ρ 9 = -1) := by
    rcases z with ⟨_, z2⟩ | ⟨z1, _, z3⟩ | ⟨z1, _, z3⟩
    · exact Or.inl z2
    · refine Or.inr ⟨Or.inl z3, ?_⟩
      unfold nAs at z1
      simp only [Bool.and_eq_true, decide_eq_true_eq] at z1
      rw [k1]
      exact z1.2.2
    · refine Or.inr ⟨Or.inr z3, ?_⟩
      unfold nAs at z1
      simp only [Bool.and_eq_true, decide_eq_true_eq] at z1
      rw [k1]
      exact z1.2.2
  rcases zz with z1 | ⟨z1 | z1, z2⟩
  · omega
  · obtain ⟨D1, D2⟩ := D.2 (by omega)
    by_cases y : ρ 5 ≤ ρ 7
    · simp [z1, hmn, y] at l0 l1 l2 l3 u3 u4
      exact ⟨_, List.mem_of_getElem? (i := 3) rfl, rfl, rfl, (pAll1 (show (0 + ((-1) * ρ 8 + 0) : Int) ≤ 0 by omega) (pAll1 (show (0 + ((-1) * ρ 1 + (1 * ρ 8 + 0)) : Int) ≤ 0 by omega) (pAll1 (show ((-1) + ((-1) * ρ 9 + 0) : Int) ≤ 0 by omega) (pAll1 (show (1 + ((-1) * ρ 1 + (1 * ρ 9 + 0)) : Int) ≤ 0 by omega) (pAll1 (show (0 + ((-1) * ρ 10 + 0) : Int) ≤ 0 by omega) (pAll1 (show ((-180) + (1 * ρ 10 + 0) : Int) ≤ 0 by omega) (pAll1 (show (0 + ((-1) * ρ 11 + 0) : Int) ≤ 0 by omega) (pAll1 (show (0 + ((-1) * ρ 1 + (1 * ρ 11 + 0)) : Int) ≤ 0 by omega) (pAll1 (show ((-2) + (1 * ρ 6 + 0) : Int) ≤ 0 by omega) (pAll1 (show (2 + ((-1) * ρ 6 + 0) : Int) ≤ 0 by omega) (pAll1 (show (1 + (1 * ρ 9 + 0) : Int) ≤ 0 by omega) (pAll1 (show ((-1) + ((-1) * ρ 9 + 0) : Int) ≤ 0 by omega) (pAll1 (show (0 + (1 * ρ 5 + ((-1) * ρ 7 + 0)) : Int) ≤ 0 by omega) (pAll1 (show (0 + ((-1) * ρ 16 + (1 * ρ 17 + 0)) : Int) ≤ 0 by omega) (pAll1 (show (0 + (1 * ρ 16 + ((-1) * ρ 17 + 0)) : Int) ≤ 0 by omega) (pAll1 (show (0 + ((-1) * ρ 18 + (1 * ρ 19 + 0)) : Int) ≤ 0 by omega) (pAll1 (show (0 + (1 * ρ 18 + ((-1) * ρ 19 + 0)) : Int) ≤ 0 by omega) (pAll1 (show ((-1) + ((-1) * ρ 8 + (1 * ρ 12 + 0)) : Int) ≤ 0 by omega) (pAll1 (show (1 + (1 * ρ 8 + ((-1) * ρ 12 + 0)) : Int) ≤ 0 by omega) (pAll1 (show (0 + ((-1) * ρ 7 + ((-1) * ρ 10 + (1 * ρ 14 + 0))) : Int) ≤ 0 by omega) (pAll1 (show (0 + (1 * ρ 7 + (1 * ρ 10 + ((-1) * ρ 14 + 0))) : Int) ≤ 0 by omega) (pAll1 (show ((-1) + ((-1) * ρ 11 + (1 * ρ 15 + 0)) : Int) ≤ 0 by omega) (pAll1 (show (1 + (1 * ρ 11 + ((-1) * ρ 15 + 0)) : Int) ≤ 0 by omega) (pAll1 (show (0 + ((-1) * ρ 1 + (1 * ρ 13 + 0)) : Int) ≤ 0 by omega) (pAll1 (show (0 + (1 * ρ 1 + ((-1) * ρ 13 + 0)) : Int) ≤ 0 by omega) pAll0))))))))))))))))))))))))), pAll0⟩
    · simp [z1, hmn, y] at l0 l1 l2 l3 u3 u4
      exact ⟨_, List.mem_of_getElem? (i := 2) rfl, rfl, rfl, (pAll1 (show (0 + ((-1) * ρ 8 + 0) : Int) ≤ 0 by omega) (pAll1 (show (0 + ((-1) * ρ 1 + (1 * ρ 8 + 0)) : Int) ≤ 0 by omega) (pAll1 (show ((-1) + ((-1) * ρ 9 + 0) : Int) ≤ 0 by omega) (pAll1 (show (1 + ((-1) * ρ 1 + (1 * ρ 9 + 0)) : Int) ≤ 0 by omega) (pAll1 (show (0 + ((-1) * ρ 10 + 0) : Int) ≤ 0 by omega) (pAll1 (show ((-180) + (1 * ρ 10 + 0) : Int) ≤ 0 by omega) (pAll1 (show (0 + ((-1) * ρ 11 + 0) : Int) ≤ 0 by omega) (pAll1 (show (0 + ((-1) * ρ 1 + (1 * ρ 11 + 0)) : Int) ≤ 0 by omega) (pAll1 (show ((-2) + (1 * ρ 6 + 0) : Int) ≤ 0 by omega) (pAll1 (show (2 + ((-1) * ρ 6 + 0) : Int) ≤ 0 by omega) (pAll1 (show (1 + (1 * ρ 9 + 0) : Int) ≤ 0 by omega) (pAll1 (show ((-1) + ((-1) * ρ 9 + 0) : Int) ≤ 0 by omega) (pAll1 (show (0 + ((-1) * ρ 7 + 0) : Int) ≤ 0 by omega) (pAll1 (show (1 + ((-1) * ρ 5 + (1 * ρ 7 + 0)) : Int) ≤ 0 by omega) (pAll1 (show (0 + ((-1) * ρ 16 + (1 * ρ 17 + 0)) : Int) ≤ 0 by omega) (pAll1 (show (0 + (1 * ρ 16 + ((-1) * ρ 17 + 0)) : Int) ≤ 0 by omega) (pAll1 (show (0 + ((-1) * ρ 18 + (1 * ρ 19 + 0)) : Int) ≤ 0 by omega) (pAll1 (show (0 + (1 * ρ 18 + ((-1) * ρ 19 + 0)) : Int) ≤ 0 by omega) (pAll1 (show ((-1) + ((-1) * ρ 8 + (1 * ρ 12 + 0)) : Int) ≤ 0 by omega) (pAll1 (show (1 + (1 * ρ 8 + ((-1) * ρ 12 + 0)) : Int) ≤ 0 by omega) (pAll1 (show (0 + ((-1) * ρ 7 + ((-1) * ρ 10 + (1 * ρ 14 + 0))) : Int) ≤ 0 by omega) (pAll1 (show (0 + (1 * ρ 7 + (1 * ρ 10 + ((-1) * ρ 14 + 0))) : Int) ≤ 0 by omega) (pAll1 (show (0 + ((-1) * ρ 9 + (1 * ρ 13 + 0)) : Int) ≤ 0 by omega) (pAll1 (show (0 + (1 * ρ 9 + ((-1) * ρ 13 + 0)) : Int) ≤ 0 by omega) (pAll1 (show (0 + ((-1) * ρ 11 + (1 * ρ 15 + 0)) : Int) ≤ 0 by omega) (pAll1 (show (0 + (1 * ρ 11 + ((-1) * ρ 15 + 0)) : Int) ≤ 0 by omega) pAll0)))))))))))))))))))))))))), pAll0⟩
  · obtain ⟨D1, D2⟩ := D.2 (by omega)
    by_cases y : ρ 5 ≤ ρ 7
    · simp [z1, hmn, y] at l0 l1 l2 l3 u3 u4
      exact ⟨_, List.mem_of_getElem? (i := 1) rfl, rfl, rfl, (pAll1 (show (0 + ((-1) * ρ 8 + 0) : Int) ≤ 0 by omega) (pAll1 (show (0 + ((-1) * ρ 1 + (1 * ρ 8 + 0)) : Int) ≤ 0 by omega) (pAll1 (show ((-1) + ((-1) * ρ 9 + 0) : Int) ≤ 0 by omega) (pAll1 (show (1 + ((-1) * ρ 1 + (1 * ρ 9 + 0)) : Int) ≤ 0 by omega) (pAll1 (show (0 + ((-1) * ρ 10 + 0) : Int) ≤ 0 by omega) (pAll1 (show ((-180) + (1 * ρ 10 + 0) : Int) ≤ 0 by omega) (pAll1 (show (0 + ((-1) * ρ 11 + 0) : Int) ≤ 0 by omega) (pAll1 (show (0 + ((-1) * ρ 1 + (1 * ρ 11 + 0)) : Int) ≤ 0 by omega) (pAll1 (show ((-1) + (1 * ρ 6 + 0) : Int) ≤ 0 by omega) (pAll1 (show (1 + ((-1) * ρ 6 + 0) : Int) ≤ 0 by omega) (pAll1 (show (1 + (1 * ρ 9 + 0) : Int) ≤ 0 by omega) (pAll1 (show ((-1) + ((-1) * ρ 9 + 0) : Int) ≤ 0 by omega) (pAll1 (show (0 + (1 * ρ 5 + ((-1) * ρ 7 + 0)) : Int) ≤ 0 by omega) (pAll1 (show ((-1) + ((-1) * ρ 16 + (1 * ρ 17 + 0)) : Int) ≤ 0 by omega) (pAll1 (show (1 + (1 * ρ 16 + ((-1) * ρ 17 + 0)) : Int) ≤ 0 by omega) (pAll1 (show ((-1) + ((-1) * ρ 18 + (1 * ρ 19 + 0)) : Int) ≤ 0 by omega) (pAll1 (show (1 + (1 * ρ 18 + ((-1) * ρ 19 + 0)) : Int) ≤ 0 by omega) (pAll1 (show ((-1) + ((-1) * ρ 8 + (1 * ρ 12 + 0)) : Int) ≤ 0 by omega) (pAll1 (show (1 + (1 * ρ 8 + ((-1) * ρ 12 + 0)) : Int) ≤ 0 by omega) (pAll1 (show (0 + ((-1) * ρ 7 + ((-1) * ρ 10 + (1 * ρ 14 + 0))) : Int) ≤ 0 by omega) (pAll1 (show (0 + (1 * ρ 7 + (1 * ρ 10 + ((-1) * ρ 14 + 0))) : Int) ≤ 0 by omega) (pAll1 (show ((-1) + ((-1) * ρ 11 + (1 * ρ 15 + 0)) : Int) ≤ 0 by omega) (pAll1 (show (1 + (1 * ρ 11 + ((-1) * ρ 15 + 0)) : Int) ≤ 0 by omega) (pAll1 (show (0 + ((-1) * ρ 9 + (1 * ρ 13 + 0)) : Int) ≤ 0 by omega) (pAll1 (show (0 + (1 * ρ 9 + ((-1) * ρ 13 + 0)) : Int) ≤ 0 by omega) pAll0))))))))))))))))))))))))), pAll0⟩
    · simp [z1, hmn, y] at l0 l1 l2 l3 u3 u4
      exact ⟨_, List.mem_of_getElem? (i := 0) rfl, rfl, rfl, (pAll1 (show (0 + ((-1) * ρ 8 + 0) : Int) ≤ 0 by omega) (pAll1 (show (0 + ((-1) * ρ 1 + (1 * ρ 8 + 0)) : Int) ≤ 0 by omega) (pAll1 (show ((-1) + ((-1) * ρ 9 + 0) : Int) ≤ 0 by omega) (pAll1 (show (1 + ((-1) * ρ 1 + (1 * ρ 9 + 0)) : Int) ≤ 0 by omega) (pAll1 (show (0 + ((-1) * ρ 10 + 0) : Int) ≤ 0 by omega) (pAll1 (show ((-180) + (1 * ρ 10 + 0) : Int) ≤ 0 by omega) (pAll1 (show (0 + ((-1) * ρ 11 + 0) : Int) ≤ 0 by omega) (pAll1 (show (0 + ((-1) * ρ 1 + (1 * ρ 11 + 0)) : Int) ≤ 0 by omega) (pAll1 (show ((-1) + (1 * ρ 6 + 0) : Int) ≤ 0 by omega) (pAll1 (show (1 + ((-1) * ρ 6 + 0) : Int) ≤ 0 by omega) (pAll1 (show (1 + (1 * ρ 9 + 0) : Int) ≤ 0 by omega) (pAll1 (show ((-1) + ((-1) * ρ 9 + 0) : Int) ≤ 0 by omega) (pAll1 (show (0 + ((-1) * ρ 7 + 0) : Int) ≤ 0 by omega) (pAll1 (show (1 + ((-1) * ρ 5 + (1 * ρ 7 + 0)) : Int) ≤ 0 by omega) (pAll1 (show ((-1) + ((-1) * ρ 16 + (1 * ρ 17 + 0)) : Int) ≤ 0 by omega) (pAll1 (show (1 + (1 * ρ 16 + ((-1) * ρ 17 + 0)) : Int) ≤ 0 by omega) (pAll1 (show (0 + ((-1) * ρ 18 + (1 * ρ 19 + 0)) : Int) ≤ 0 by omega) (pAll1 (show (0 + (1 * ρ 18 + ((-1) * ρ 19 + 0)) : Int) ≤ 0 by omega) (pAll1 (show ((-1) + ((-1) * ρ 8 + (1 * ρ 12 + 0)) : Int) ≤ 0 by omega) (pAll1 (show (1 + (1 * ρ 8 + ((-1) * ρ 12 + 0)) : Int) ≤ 0 by omega) (pAll1 (show (0 + ((-1) * ρ 7 + ((-1) * ρ 10 + (1 * ρ 14 + 0))) : Int) ≤ 0 by omega) (pAll1 (show (0 + (1 * ρ 7 + (1 * ρ 10 + ((-1) * ρ 14 + 0))) : Int) ≤ 0 by omega) (pAll1 (show (0 + ((-1) * ρ 9 + (1 * ρ 13 + 0)) : Int) ≤ 0 by omega) (pAll1 (show (0 + (1 * ρ 9 + ((-1) * ρ 13 + 0)) : Int) ≤ 0 by omega) (pAll1 (show (0 + ((-1) * ρ 11 + (1 * ρ 15 + 0)) : Int) ≤ 0 by omega) (pAll1 (show (0 + (1 * ρ 11 + ((-1) * ρ 15 + 0)) : Int) ≤ 0 by omega) pAll0)))))))))))))))))))))))))), pAll0⟩)

theorem qR_rxnow_ok (h60 : ∀ x y h, gv 60 x y h → nGh 0 1 2 5 7 9 h) : pRulQ pReg qG gv qR_rxnow := qrul (by decide +kernel) (fun h ρ hG hm hb hc => by
  have b0 : (1 : Int) ≤ ρ 0 ∧ ρ 0 ≤ 1 := hb 0 (1, 1) rfl
  have b1 : (0 : Int) ≤ ρ 1 ∧ ρ 1 ≤ 9 := hb 1 (0, 9) rfl
  have b2 : (0 : Int) ≤ ρ 2 ∧ ρ 2 ≤ 5 := hb 2 (0, 5) rfl
  have b3 : (2 : Int) ≤ ρ 3 ∧ ρ 3 ≤ 6 := hb 3 (2, 6) rfl
  have b4 : (4 : Int) ≤ ρ 4 ∧ ρ 4 ≤ 10 := hb 4 (4, 10) rfl
  have b5 : (1 : Int) ≤ ρ 5 ∧ ρ 5 ≤ 20 := hb 5 (1, 20) rfl
  have b6 : (0 : Int) ≤ ρ 6 ∧ ρ 6 ≤ 2 := hb 6 (0, 2) rfl
  have b7 : ((-1) : Int) ≤ ρ 7 ∧ ρ 7 ≤ 20 := hb 7 ((-1), 20) rfl
  have b8 : ((-2147483648) : Int) ≤ ρ 8 ∧ ρ 8 ≤ 2147483647 := hb 8 ((-2147483648), 2147483647) rfl
  have b9 : ((-2147483648) : Int) ≤ ρ 9 ∧ ρ 9 ≤ 2147483647 := hb 9 ((-2147483648), 2147483647) rfl
  have b10 : ((-2147483648) : Int) ≤ ρ 10 ∧ ρ 10 ≤ 2147483647 := hb 10 ((-2147483648), 2147483647) rfl
  have b11 : ((-2147483648) : Int) ≤ ρ 11 ∧ ρ 11 ≤ 2147483647 := hb 11 ((-2147483648), 2147483647) rfl
  have b12 : ((-2147483648) : Int) ≤ ρ 12 ∧ ρ 12 ≤ 2147483647 := hb 12 ((-2147483648), 2147483647) rfl
  have b13 : ((-2147483648) : Int) ≤ ρ 13 ∧ ρ 13 ≤ 2147483647 := hb 13 ((-2147483648), 2147483647) rfl
  have b14 : ((-2147483648) : Int) ≤ ρ 14 ∧ ρ 14 ≤ 2147483647 := hb 14 ((-2147483648), 2147483647) rfl
  have b15 : ((-2147483648) : Int) ≤ ρ 15 ∧ ρ 15 ≤ 2147483647 := hb 15 ((-2147483648), 2147483647) rfl
  have b16 : (0 : Int) ≤ ρ 16 ∧ ρ 16 ≤ 60 := hb 16 (0, 60) rfl
  have b17 : (0 : Int) ≤ ρ 17 ∧ ρ 17 ≤ 60 := hb 17 (0, 60) rfl
  have b18 : (0 : Int) ≤ ρ 18 ∧ ρ 18 ≤ 60 := hb 18 (0, 60) rfl
  have b19 : (0 : Int) ≤ ρ 19 ∧ ρ 19 ≤ 60 := hb 19 (0, 60) rfl
  have b20 : (0 : Int) ≤ ρ 20 ∧ ρ 20 ≤ 1 := hb 20 (0, 1) rfl
  have b21 : (0 : Int) ≤ ρ 21 ∧ ρ 21 ≤ 1 := hb 21 (0, 1) rfl
  have c0 : (1 + (1 * ρ 2 + ((-1) * ρ 3 + 0)) : Int) ≤ 0 := hc _ (List.mem_of_getElem? (i := 0) rfl)
  have c1 : (1 + (1 * ρ 1 + ((-1) * ρ 4 + 0)) : Int) ≤ 0 := hc _ (List.mem_of_getElem? (i := 1) rfl)
  obtain ⟨t, e_t⟩ : ∃ x : Nat, ρ 1 = (x : Int) := ⟨(ρ 1).toNat, by omega⟩
  obtain ⟨m, e_m⟩ : ∃ x : Nat, ρ 2 = (x : Int) := ⟨(ρ 2).toNat, by omega⟩
  have t0 := h60 _ _ _ (qtl (a := 60) hm 0 rfl (by decide))
  have q3 : rv h 56 (0) = ρ 3 := qrv hm 1 rfl (by decide) (by decide +kernel) (by show (0 + 0 : Int) = ((0 : Nat) : Int); omega)
  have q4 : rv h 56 (1) = ρ 4 := qrv hm 2 rfl (by decide) (by decide +kernel) (by show (1 + 0 : Int) = ((1 : Nat) : Int); omega)
  have q5 : rv h 56 (2) = ρ 5 := qrv hm 3 rfl (by decide) (by decide +kernel) (by show (2 + 0 : Int) = ((2 : Nat) : Int); omega)
  have q6 : rv h 608 (6 * t + m) = ρ 6 := qrv hm 4 rfl (by decide) (by decide +kernel) (by show (0 + (6 * ρ 1 + (1 * ρ 2 + 0)) : Int) = ((6 * t + m : Nat) : Int); omega)
  have q7 : rv h 609 (6 * t + m) = ρ 7 := qrv hm 5 rfl (by decide) (by decide +kernel) (by show (0 + (6 * ρ 1 + (1 * ρ 2 + 0)) : Int) = ((6 * t + m : Nat) : Int); omega)
  have q8 : rv h 610 (6 * t + m) = ρ 8 := qrv hm 6 rfl (by decide) (by decide +kernel) (by show (0 + (6 * ρ 1 + (1 * ρ 2 + 0)) : Int) = ((6 * t + m : Nat) : Int); omega)
  have q9 : rv h 611 (6 * t + m) = ρ 9 := qrv hm 7 rfl (by decide) (by decide +kernel) (by show (0 + (6 * ρ 1 + (1 * ρ 2 + 0)) : Int) = ((6 * t + m : Nat) : Int); omega)
  have q10 : rv h 612 (6 * t + m) = ρ 10 := qrv hm 8 rfl (by decide) (by decide +kernel) (by show (0 + (6 * ρ 1 + (1 * ρ 2 + 0)) : Int) = ((6 * t + m : Nat) : Int); omega)
  have q11 : rv h 613 (6 * t + m) = ρ 11 := qrv hm 9 rfl (by decide) (by decide +kernel) (by show (0 + (6 * ρ 1 + (1 * ρ 2 + 0)) : Int) = ((6 * t + m : Nat) : Int); omega)
  have q12 : rv h 610 (6 * t + m + 6) = ρ 12 := qrv hm 10 rfl (by decide) (by decide +kernel) (by show (6 + (6 * ρ 1 + (1 * ρ 2 + 0)) : Int) = ((6 * t + m + 6 : Nat) : Int); omega)
  have q13 : rv h 611 (6 * t + m + 6) = ρ 13 := qrv hm 11 rfl (by decide) (by decide +kernel) (by show (6 + (6 * ρ 1 + (1 * ρ 2 + 0)) : Int) = ((6 * t + m + 6 : Nat) : Int); omega)
  have q14 : rv h 612 (6 * t + m + 6) = ρ 14 := qrv hm 12 rfl (by decide) (by decide +kernel) (by show (6 + (6 * ρ 1 + (1 * ρ 2 + 0)) : Int) = ((6 * t + m + 6 : Nat) : Int); omega)
  have q15 : rv h 613 (6 * t + m + 6) = ρ 15 := qrv hm 13 rfl (by decide) (by decide +kernel) (by show (6 + (6 * ρ 1 + (1 * ρ 2 + 0)) : Int) = ((6 * t + m + 6 : Nat) : Int); omega)
  have q16 : rv h 614 (6 * t + m) = ρ 16 := qrv hm 14 rfl (by decide) (by decide +kernel) (by show (0 + (6 * ρ 1 + (1 * ρ 2 + 0)) : Int) = ((6 * t + m : Nat) : Int); omega)
  have q17 : rv h 614 (6 * t + m + 1) = ρ 17 := qrv hm 15 rfl (by decide) (by decide +kernel) (by show (1 + (6 * ρ 1 + (1 * ρ 2 + 0)) : Int) = ((6 * t + m + 1 : Nat) : Int); omega)
  have q18 : rv h 615 (6 * t + m) = ρ 18 := qrv hm 16 rfl (by decide) (by decide +kernel) (by show (0 + (6 * ρ 1 + (1 * ρ 2 + 0)) : Int) = ((6 * t + m : Nat) : Int); omega)
  have q19 : rv h 615 (6 * t + m + 1) = ρ 19 := qrv hm 17 rfl (by decide) (by decide +kernel) (by show (1 + (6 * ρ 1 + (1 * ρ 2 + 0)) : Int) = ((6 * t + m + 1 : Nat) : Int); omega)
  have q20 : rv h 617 (7 * t + m) = ρ 20 := qrv hm 18 rfl (by decide) (by decide +kernel) (by show (0 + (7 * ρ 1 + (1 * ρ 2 + 0)) : Int) = ((7 * t + m : Nat) : Int); omega)
  have q21 : rv h 617 (7 * t + m + 1) = ρ 21 := qrv hm 19 rfl (by decide) (by decide +kernel) (by show (1 + (7 * ρ 1 + (1 * ρ 2 + 0)) : Int) = ((7 * t + m + 1 : Nat) : Int); omega)
  obtain ⟨n, H, g0, g1, g2, g3, g4, g5, g6, g7, g8, g9, g10, gW, gS, gA, gO, gD, gU, gQ, gV⟩ := t0
  have hM : ρ 3 = (n : Int) := q3.symm.trans g0
  have hH : ρ 4 = (H : Int) := q4.symm.trans g1
  have hmn : m < n := by omega
  have htH : t < H := by omega
  have k0 := gS t m 0 (by omega) (by omega) (by decide)
  rw [show 610 + 0 = 610 from rfl, q8] at k0
  have l0 := gS (t + 1) m 0 (by omega) (by omega) (by decide)
  rw [show 610 + 0 = 610 from rfl, show 6 * (t + 1) + m = 6 * t + m + 6 by omega, q12, nSt_s] at l0
  unfold nUp at l0
  have k1 := gS t m 1 (by omega) (by omega) (by decide)
  rw [show 610 + 1 = 611 from rfl, q9] at k1
  have l1 := gS (t + 1) m 1 (by omega) (by omega) (by decide)
  rw [show 610 + 1 = 611 from rfl, show 6 * (t + 1) + m = 6 * t + m + 6 by omega, q13, nSt_s] at l1
  unfold nUp at l1
  have k2 := gS t m 2 (by omega) (by omega) (by decide)
  rw [show 610 + 2 = 612 from rfl, q10] at k2
  have l2 := gS (t + 1) m 2 (by omega) (by omega) (by decide)
  rw [show 610 + 2 = 612 from rfl, show 6 * (t + 1) + m = 6 * t + m + 6 by omega, q14, nSt_s] at l2
  unfold nUp at l2
  have k3 := gS t m 3 (by omega) (by omega) (by decide)
  rw [show 610 + 3 = 613 from rfl, q11] at k3
  have l3 := gS (t + 1) m 3 (by omega) (by omega) (by decide)
  rw [show 610 + 3 = 613 from rfl, show 6 * (t + 1) + m = 6 * t + m + 6 by omega, q15, nSt_s] at l3
  unfold nUp at l3
  have kO := gO t m htH hmn
  rw [q6] at kO
  have kD := gD t m htH hmn
  rw [q7] at kD
  have fO := kO
  have fD := kD
  unfold nS at fO
  unfold nD at fD
  obtain ⟨u1, u2⟩ := gU (6 * t + m) (by omega)
  obtain ⟨u3, u4⟩ := gU (6 * t + m + 1) (by omega)
  rw [q16] at u1
  rw [q18] at u2
  rw [q17] at u3
  rw [q19] at u4
  simp only [nUN, nCt] at u1 u3
  simp only [nOP, nCt] at u2 u4
  rw [← u1] at u3
  rw [← u2] at u4
  simp only [show (6 * t + m) % 6 = m by omega, show (6 * t + m) / 6 = t by omega, ← kO, ← kD] at u3 u4
  simp only [q5] at u3 u4
  have B := nSt_b (n := n) (mare := rv h 56 2) (hold := rv h 54 5) (nt := rv h 7 9) (ne := rv h 55) (bd := rv h 0) (ey := rv h 1) (dm := rv h 2) (pl := rv h 5) (W := rv h 620) (g0 := fun a m => rv h (610 + a) m) hmn t
  rw [← k0, ← k1, ← k2, ← k3] at B
  obtain ⟨B0, B1, B2, B3⟩ := B
  have D := nDr_b (n := n) (hold := rv h 54 5) (nt := rv h 7 9) (ne := rv h 55) (bd := rv h 0) (ey := rv h 1) (dm := rv h 2) (pl := rv h 5) (W := rv h 620) (S := nSt n (rv h 56 2) (rv h 54 5) (rv h 7 9) (rv h 55) (rv h 0) (rv h 1) (rv h 2) (rv h 5) (rv h 620) (fun a m => rv h (610 + a) m) t) (h := t) (m := m)
  rw [← fO, ← fD] at D
  have z := nSo_b (n := n) (ne := rv h 55) (bd := rv h 0) (pl := rv h 5) (S := nSt n (rv h 56 2) (rv h 54 5) (rv h 7 9) (rv h 55) (rv h 0) (rv h 1) (rv h 2) (rv h 5) (rv h 620) (fun a m => rv h (610 + a) m) t) (h := t) (m := m)
  rw [← fO] at z
  simp only [← fO, ← fD, ← k0, ← k1, ← k2, ← k3] at l0 l1 l2 l3
  simp only [q5] at l0 l1 l2 l3
  have zz : (ρ 6 = 0) ∨ ((ρ 6 = 2 ∨ ρ 6 = 1) ∧ ρ 9 = -1) := by
    rcases z with ⟨_, z2⟩ | ⟨z1, _, z3⟩ | ⟨z1, _, z3⟩
    · exact Or.inl z2
    · refine Or.inr ⟨Or.inl z3, ?_⟩
      unfold nAs at z1
      simp only [Bool.and_eq_true, decide_eq_true_eq] at z1
      rw [k1]
      exact z1.2.2
    · refine Or.inr ⟨Or.inr z3, ?_⟩
      unfold nAs at z1
      simp only [Bool.and_eq_true, decide_eq_true_eq] at z1
      rw [k1]
      exact z1.2.2
  rcases zz with z1 | ⟨z1 | z1, z2⟩
  · simp [z1] at l0 l1 l2 l3 u3 u4
    have D1 := D.1 z1
    exact ⟨_, List.mem_of_getElem? (i := 0) rfl, rfl, rfl, (pAll1 (show (0 + ((-1) * ρ 8 + 0) : Int) ≤ 0 by omega) (pAll1 (show (0 + ((-1) * ρ 1 + (1 * ρ 8 + 0)) : Int) ≤ 0 by omega) (pAll1 (show ((-1) + ((-1) * ρ 9 + 0) : Int) ≤ 0 by omega) (pAll1 (show (1 + ((-1) * ρ 1 + (1 * ρ 9 + 0)) : Int) ≤ 0 by omega) (pAll1 (show (0 + ((-1) * ρ 10 + 0) : Int) ≤ 0 by omega) (pAll1 (show ((-180) + (1 * ρ 10 + 0) : Int) ≤ 0 by omega) (pAll1 (show (0 + ((-1) * ρ 11 + 0) : Int) ≤ 0 by omega) (pAll1 (show (0 + ((-1) * ρ 1 + (1 * ρ 11 + 0)) : Int) ≤ 0 by omega) (pAll1 (show (0 + (1 * ρ 6 + 0) : Int) ≤ 0 by omega) (pAll1 (show (0 + ((-1) * ρ 6 + 0) : Int) ≤ 0 by omega) (pAll1 (show (1 + (1 * ρ 7 + 0) : Int) ≤ 0 by omega) (pAll1 (show ((-1) + ((-1) * ρ 7 + 0) : Int) ≤ 0 by omega) (pAll1 (show (0 + ((-1) * ρ 16 + (1 * ρ 17 + 0)) : Int) ≤ 0 by omega) (pAll1 (show (0 + (1 * ρ 16 + ((-1) * ρ 17 + 0)) : Int) ≤ 0 by omega) (pAll1 (show (0 + ((-1) * ρ 18 + (1 * ρ 19 + 0)) : Int) ≤ 0 by omega) (pAll1 (show (0 + (1 * ρ 18 + ((-1) * ρ 19 + 0)) : Int) ≤ 0 by omega) (pAll1 (show (0 + ((-1) * ρ 8 + (1 * ρ 12 + 0)) : Int) ≤ 0 by omega) (pAll1 (show (0 + (1 * ρ 8 + ((-1) * ρ 12 + 0)) : Int) ≤ 0 by omega) (pAll1 (show (0 + ((-1) * ρ 9 + (1 * ρ 13 + 0)) : Int) ≤ 0 by omega) (pAll1 (show (0 + (1 * ρ 9 + ((-1) * ρ 13 + 0)) : Int) ≤ 0 by omega) (pAll1 (show (0 + ((-1) * ρ 10 + (1 * ρ 14 + 0)) : Int) ≤ 0 by omega) (pAll1 (show (0 + (1 * ρ 10 + ((-1) * ρ 14 + 0)) : Int) ≤ 0 by omega) (pAll1 (show (0 + ((-1) * ρ 11 + (1 * ρ 15 + 0)) : Int) ≤ 0 by omega) (pAll1 (show (0 + (1 * ρ 11 + ((-1) * ρ 15 + 0)) : Int) ≤ 0 by omega) pAll0)))))))))))))))))))))))), pAll0⟩
  · obtain ⟨D1, D2⟩ := D.2 (by omega)
    by_cases y : ρ 5 ≤ ρ 7
    · simp [z1, hmn, y] at l0 l1 l2 l3 u3 u4
      exact ⟨_, List.mem_of_getElem? (i := 4) rfl, rfl, rfl, (pAll1 (show (0 + ((-1) * ρ 8 + 0) : Int) ≤ 0 by omega) (pAll1 (show (0 + ((-1) * ρ 1 + (1 * ρ 8 + 0)) : Int) ≤ 0 by omega) (pAll1 (show ((-1) + ((-1) * ρ 9 + 0) : Int) ≤ 0 by omega) (pAll1 (show (1 + ((-1) * ρ 1 + (1 * ρ 9 + 0)) : Int) ≤ 0 by omega) (pAll1 (show (0 + ((-1) * ρ 10 + 0) : Int) ≤ 0 by omega) (pAll1 (show ((-180) + (1 * ρ 10 + 0) : Int) ≤ 0 by omega) (pAll1 (show (0 + ((-1) * ρ 11 + 0) : Int) ≤ 0 by omega) (pAll1 (show (0 + ((-1) * ρ 1 + (1 * ρ 11 + 0)) : Int) ≤ 0 by omega) (pAll1 (show ((-2) + (1 * ρ 6 + 0) : Int) ≤ 0 by omega) (pAll1 (show (2 + ((-1) * ρ 6 + 0) : Int) ≤ 0 by omega) (pAll1 (show (1 + (1 * ρ 9 + 0) : Int) ≤ 0 by omega) (pAll1 (show ((-1) + ((-1) * ρ 9 + 0) : Int) ≤ 0 by omega) (pAll1 (show (0 + (1 * ρ 5 + ((-1) * ρ 7 + 0)) : Int) ≤ 0 by omega) (pAll1 (show (0 + ((-1) * ρ 16 + (1 * ρ 17 + 0)) : Int) ≤ 0 by omega) (pAll1 (show (0 + (1 * ρ 16 + ((-1) * ρ 17 + 0)) : Int) ≤ 0 by omega) (pAll1 (show (0 + ((-1) * ρ 18 + (1 * ρ 19 + 0)) : Int) ≤ 0 by omega) (pAll1 (show (0 + (1 * ρ 18 + ((-1) * ρ 19 + 0)) : Int) ≤ 0 by omega) (pAll1 (show ((-1) + ((-1) * ρ 8 + (1 * ρ 12 + 0)) : Int) ≤ 0 by omega) (pAll1 (show (1 + (1 * ρ 8 + ((-1) * ρ 12 + 0)) : Int) ≤ 0 by omega) (pAll1 (show (0 + ((-1) * ρ 7 + ((-1) * ρ 10 + (1 * ρ 14 + 0))) : Int) ≤ 0 by omega) (pAll1 (show (0 + (1 * ρ 7 + (1 * ρ 10 + ((-1) * ρ 14 + 0))) : Int) ≤ 0 by omega) (pAll1 (show ((-1) + ((-1) * ρ 11 + (1 * ρ 15 + 0)) : Int) ≤ 0 by omega) (pAll1 (show (1 + (1 * ρ 11 + ((-1) * ρ 15 + 0)) : Int) ≤ 0 by omega) (pAll1 (show (0 + ((-1) * ρ 1 + (1 * ρ 13 + 0)) : Int) ≤ 0 by omega) (pAll1 (show (0 + (1 * ρ 1 + ((-1) * ρ 13 + 0)) : Int) ≤ 0 by omega) pAll0))))))))))))))))))))))))), pAll0⟩
    · simp [z1, hmn, y] at l0 l1 l2 l3 u3 u4
      exact ⟨_, List.mem_of_getElem? (i := 3) rfl, rfl, rfl, (pAll1 (show (0 + ((-1) * ρ 8 + 0) : Int) ≤ 0 by omega) (pAll1 (show (0 + ((-1) * ρ 1 + (1 * ρ 8 + 0)) : Int) ≤ 0 by omega) (pAll1 (show ((-1) + ((-1) * ρ 9 + 0) : Int) ≤ 0 by omega) (pAll1 (show (1 + ((-1) * ρ 1 + (1 * ρ 9 + 0)) : Int) ≤ 0 by omega) (pAll1 (show (0 + ((-1) * ρ 10 + 0) : Int) ≤ 0 by omega) (pAll1 (show ((-180) + (1 * ρ 10 + 0) : Int) ≤ 0 by omega) (pAll1 (show (0 + ((-1) * ρ 11 + 0) : Int) ≤ 0 by omega) (pAll1 (show (0 + ((-1) * ρ 1 + (1 * ρ 11 + 0)) : Int) ≤ 0 by omega) (pAll1 (show ((-2) + (1 * ρ 6 + 0) : Int) ≤ 0 by omega) (pAll1 (show (2 + ((-1) * ρ 6 + 0) : Int) ≤ 0 by omega) (pAll1 (show (1 + (1 * ρ 9 + 0) : Int) ≤ 0 by omega) (pAll1 (show ((-1) + ((-1) * ρ 9 + 0) : Int) ≤ 0 by omega) (pAll1 (show (0 + ((-1) * ρ 7 + 0) : Int) ≤ 0 by omega) (pAll1 (show (1 + ((-1) * ρ 5 + (1 * ρ 7 + 0)) : Int) ≤ 0 by omega) (pAll1 (show (0 + ((-1) * ρ 16 + (1 * ρ 17 + 0)) : Int) ≤ 0 by omega) (pAll1 (show (0 + (1 * ρ 16 + ((-1) * ρ 17 + 0)) : Int) ≤ 0 by omega) (pAll1 (show (0 + ((-1) * ρ 18 + (1 * ρ 19 + 0)) : Int) ≤ 0 by omega) (pAll1 (show (0 + (1 * ρ 18 + ((-1) * ρ 19 + 0)) : Int) ≤ 0 by omega) (pAll1 (show ((-1) + ((-1) * ρ 8 + (1 * ρ 12 + 0)) : Int) ≤ 0 by omega) (pAll1 (show (1 + (1 * ρ 8 + ((-1) * ρ 12 + 0)) : Int) ≤ 0 by omega) (pAll1 (show (0 + ((-1) * ρ 7 + ((-1) * ρ 10 + (1 * ρ 14 + 0))) : Int) ≤ 0 by omega) (pAll1 (show (0 + (1 * ρ 7 + (1 * ρ 10 + ((-1) * ρ 14 + 0))) : Int) ≤ 0 by omega) (pAll1 (show (0 + ((-1) * ρ 9 + (1 * ρ 13 + 0)) : Int) ≤ 0 by omega) (pAll1 (show (0 + (1 * ρ 9 + ((-1) * ρ 13 + 0)) : Int) ≤ 0 by omega) (pAll1 (show (0 + ((-1) * ρ 11 + (1 * ρ 15 + 0)) : Int) ≤ 0 by omega) (pAll1 (show (0 + (1 * ρ 11 + ((-1) * ρ 15 + 0)) : Int) ≤ 0 by omega) pAll0)))))))))))))))))))))))))), pAll0⟩
  · obtain ⟨D1, D2⟩ := D.2 (by omega)
    by_cases y : ρ 5 ≤ ρ 7
    · simp [z1, hmn, y] at l0 l1 l2 l3 u3 u4
      exact ⟨_, List.mem_of_getElem? (i := 2) rfl, rfl, rfl, (pAll1 (show (0 + ((-1) * ρ 8 + 0) : Int) ≤ 0 by omega) (pAll1 (show (0 + ((-1) * ρ 1 + (1 * ρ 8 + 0)) : Int) ≤ 0 by omega) (pAll1 (show ((-1) + ((-1) * ρ 9 + 0) : Int) ≤ 0 by omega) (pAll1 (show (1 + ((-1) * ρ 1 + (1 * ρ 9 + 0)) : Int) ≤ 0 by omega) (pAll1 (show (0 + ((-1) * ρ 10 + 0) : Int) ≤ 0 by omega) (pAll1 (show ((-180) + (1 * ρ 10 + 0) : Int) ≤ 0 by omega) (pAll1 (show (0 + ((-1) * ρ 11 + 0) : Int) ≤ 0 by omega) (pAll1 (show (0 + ((-1) * ρ 1 + (1 * ρ 11 + 0)) : Int) ≤ 0 by omega) (pAll1 (show ((-1) + (1 * ρ 6 + 0) : Int) ≤ 0 by omega) (pAll1 (show (1 + ((-1) * ρ 6 + 0) : Int) ≤ 0 by omega) (pAll1 (show (1 + (1 * ρ 9 + 0) : Int) ≤ 0 by omega) (pAll1 (show ((-1) + ((-1) * ρ 9 + 0) : Int) ≤ 0 by omega) (pAll1 (show (0 + (1 * ρ 5 + ((-1) * ρ 7 + 0)) : Int) ≤ 0 by omega) (pAll1 (show ((-1) + ((-1) * ρ 16 + (1 * ρ 17 + 0)) : Int) ≤ 0 by omega) (pAll1 (show (1 + (1 * ρ 16 + ((-1) * ρ 17 + 0)) : Int) ≤ 0 by omega) (pAll1 (show ((-1) + ((-1) * ρ 18 + (1 * ρ 19 + 0)) : Int) ≤ 0 by omega) (pAll1 (show (1 + (1 * ρ 18 + ((-1) * ρ 19 + 0)) : Int) ≤ 0 by omega) (pAll1 (show ((-1) + ((-1) * ρ 8 + (1 * ρ 12 + 0)) : Int) ≤ 0 by omega) (pAll1 (show (1 + (1 * ρ 8 + ((-1) * ρ 12 + 0)) : Int) ≤ 0 by omega) (pAll1 (show (0 + ((-1) * ρ 7 + ((-1) * ρ 10 + (1 * ρ 14 + 0))) : Int) ≤ 0 by omega) (pAll1 (show (0 + (1 * ρ 7 + (1 * ρ 10 + ((-1) * ρ 14 + 0))) : Int) ≤ 0 by omega) (pAll1 (show ((-1) + ((-1) * ρ 11 + (1 * ρ 15 + 0)) : Int) ≤ 0 by omega) (pAll1 (show (1 + (1 * ρ 11 + ((-1) * ρ 15 + 0)) : Int) ≤ 0 by omega) (pAll1 (show (0 + ((-1) * ρ 9 + (1 * ρ 13 + 0)) : Int) ≤ 0 by omega) (pAll1 (show (0 + (1 * ρ 9 + ((-1) * ρ 13 + 0)) : Int) ≤ 0 by omega) pAll0))))))))))))))))))))))))), pAll0⟩
    · simp [z1, hmn, y] at l0 l1 l2 l3 u3 u4
      exact ⟨_, List.mem_of_getElem? (i := 1) rfl, rfl, rfl, (pAll1 (show (0 + ((-1) * ρ 8 + 0) : Int) ≤ 0 by omega) (pAll1 (show (0 + ((-1) * ρ 1 + (1 * ρ 8 + 0)) : Int) ≤ 0 by omega) (pAll1 (show ((-1) + ((-1) * ρ 9 + 0) : Int) ≤ 0 by omega) (pAll1 (show (1 + ((-1) * ρ 1 + (1 * ρ 9 + 0)) : Int) ≤ 0 by omega) (pAll1 (show (0 + ((-1) * ρ 10 + 0) : Int) ≤ 0 by omega) (pAll1 (show ((-180) + (1 * ρ 10 + 0) : Int) ≤ 0 by omega) (pAll1 (show (0 + ((-1) * ρ 11 + 0) : Int) ≤ 0 by omega) (pAll1 (show (0 + ((-1) * ρ 1 + (1 * ρ 11 + 0)) : Int) ≤ 0 by omega) (pAll1 (show ((-1) + (1 * ρ 6 + 0) : Int) ≤ 0 by omega) (pAll1 (show (1 + ((-1) * ρ 6 + 0) : Int) ≤ 0 by omega) (pAll1 (show (1 + (1 * ρ 9 + 0) : Int) ≤ 0 by omega) (pAll1 (show ((-1) + ((-1) * ρ 9 + 0) : Int) ≤ 0 by omega) (pAll1 (show (0 + ((-1) * ρ 7 + 0) : Int) ≤ 0 by omega) (pAll1 (show (1 + ((-1) * ρ 5 + (1 * ρ 7 + 0)) : Int) ≤ 0 by omega) (pAll1 (show ((-1) + ((-1) * ρ 16 + (1 * ρ 17 + 0)) : Int) ≤ 0 by omega) (pAll1 (show (1 + (1 * ρ 16 + ((-1) * ρ 17 + 0)) : Int) ≤ 0 by omega) (pAll1 (show (0 + ((-1) * ρ 18 + (1 * ρ 19 + 0)) : Int) ≤ 0 by omega) (pAll1 (show (0 + (1 * ρ 18 + ((-1) * ρ 19 + 0)) : Int) ≤ 0 by omega) (pAll1 (show ((-1) + ((-1) * ρ 8 + (1 * ρ 12 + 0)) : Int) ≤ 0 by omega) (pAll1 (show (1 + (1 * ρ 8 + ((-1) * ρ 12 + 0)) : Int) ≤ 0 by omega) (pAll1 (show (0 + ((-1) * ρ 7 + ((-1) * ρ 10 + (1 * ρ 14 + 0))) : Int) ≤ 0 by omega) (pAll1 (show (0 + (1 * ρ 7 + (1 * ρ 10 + ((-1) * ρ 14 + 0))) : Int) ≤ 0 by omega) (pAll1 (show (0 + ((-1) * ρ 9 + (1 * ρ 13 + 0)) : Int) ≤ 0 by omega) (pAll1 (show (0 + (1 * ρ 9 + ((-1) * ρ 13 + 0)) : Int) ≤ 0 by omega) (pAll1 (show (0 + ((-1) * ρ 11 + (1 * ρ 15 + 0)) : Int) ≤ 0 by omega) (pAll1 (show (0 + (1 * ρ 11 + ((-1) * ρ 15 + 0)) : Int) ≤ 0 by omega) pAll0)))))))))))))))))))))))))), pAll0⟩)

theorem qR_dbnow_ok (h60 : ∀ x y h, gv 60 x y h → nGh 0 1 2 5 7 9 h) : pRulQ pReg qG gv qR_dbnow := qrul (by decide +kernel) (fun h ρ hG hm hb hc => by
  have b0 : (1 : Int) ≤ ρ 0 ∧ ρ 0 ≤ 1 := hb 0 (1, 1) rfl
  have b1 : (1 : Int) ≤ ρ 1 ∧ ρ 1 ≤ 1 := hb 1 (1, 1) rfl
  have b2 : (1 : Int) ≤ ρ 2 ∧ ρ 2 ≤ 1 := hb 2 (1, 1) rfl
  have b3 : (0 : Int) ≤ ρ 3 ∧ ρ 3 ≤ 5 := hb 3 (0, 5) rfl
  have b4 : (0 : Int) ≤ ρ 4 ∧ ρ 4 ≤ 9 := hb 4 (0, 9) rfl
  have b5 : (1 : Int) ≤ ρ 5 ∧ ρ 5 ≤ 2 := hb 5 (1, 2) rfl
  have b6 : (2 : Int) ≤ ρ 6 ∧ ρ 6 ≤ 6 := hb 6 (2, 6) rfl
  have b7 : (4 : Int) ≤ ρ 7 ∧ ρ 7 ≤ 10 := hb 7 (4, 10) rfl
  have b8 : (0 : Int) ≤ ρ 8 ∧ ρ 8 ≤ 5 := hb 8 (0, 5) rfl
  have b9 : (0 : Int) ≤ ρ 9 ∧ ρ 9 ≤ 2 := hb 9 (0, 2) rfl
  have b10 : ((-1) : Int) ≤ ρ 10 ∧ ρ 10 ≤ 20 := hb 10 ((-1), 20) rfl
  have b11 : ((-2147483648) : Int) ≤ ρ 11 ∧ ρ 11 ≤ 2147483647 := hb 11 ((-2147483648), 2147483647) rfl
  have b12 : ((-2147483648) : Int) ≤ ρ 12 ∧ ρ 12 ≤ 2147483647 := hb 12 ((-2147483648), 2147483647) rfl
  have b13 : ((-2147483648) : Int) ≤ ρ 13 ∧ ρ 13 ≤ 2147483647 := hb 13 ((-2147483648), 2147483647) rfl
  have b14 : ((-2147483648) : Int) ≤ ρ 14 ∧ ρ 14 ≤ 2147483647 := hb 14 ((-2147483648), 2147483647) rfl
  have b15 : ((-2147483648) : Int) ≤ ρ 15 ∧ ρ 15 ≤ 2147483647 := hb 15 ((-2147483648), 2147483647) rfl
  have c0 : (1 + (1 * ρ 3 + ((-1) * ρ 6 + 0)) : Int) ≤ 0 := hc _ (List.mem_of_getElem? (i := 0) rfl)
  have c1 : (1 + (1 * ρ 4 + ((-1) * ρ 7 + 0)) : Int) ≤ 0 := hc _ (List.mem_of_getElem? (i := 1) rfl)
  have c2 : (0 + ((-1) * ρ 5 + (1 * ρ 9 + 0)) : Int) ≤ 0 := hc _ (List.mem_of_getElem? (i := 2) rfl)
  have c3 : (0 + (1 * ρ 5 + ((-1) * ρ 9 + 0)) : Int) ≤ 0 := hc _ (List.mem_of_getElem? (i := 3) rfl)
  obtain ⟨m, e_m⟩ : ∃ x : Nat, ρ 3 = (x : Int) := ⟨(ρ 3).toNat, by omega⟩
  obtain ⟨t, e_t⟩ : ∃ x : Nat, ρ 4 = (x : Int) := ⟨(ρ 4).toNat, by omega⟩
  obtain ⟨w, e_w⟩ : ∃ x : Nat, ρ 8 = (x : Int) := ⟨(ρ 8).toNat, by omega⟩
  have t0 := h60 _ _ _ (qtl (a := 60) hm 0 rfl (by decide))
  have q6 : rv h 56 (0) = ρ 6 := qrv hm 3 rfl (by decide) (by decide +kernel) (by show (0 + 0 : Int) = ((0 : Nat) : Int); omega)
  have q7 : rv h 56 (1) = ρ 7 := qrv hm 4 rfl (by decide) (by decide +kernel) (by show (1 + 0 : Int) = ((1 : Nat) : Int); omega)
  have q8 : rv h 606 (m) = ρ 8 := qrv hm 5 rfl (by decide) (by decide +kernel) (by show (0 + (1 * ρ 3 + 0) : Int) = ((m : Nat) : Int); omega)
  have q9 : rv h 608 (6 * t + m) = ρ 9 := qrv hm 6 rfl (by decide) (by decide +kernel) (by show (0 + (1 * ρ 3 + (6 * ρ 4 + 0)) : Int) = ((6 * t + m : Nat) : Int); omega)
  have q10 : rv h 609 (6 * t + m) = ρ 10 := qrv hm 7 rfl (by decide) (by decide +kernel) (by show (0 + (1 * ρ 3 + (6 * ρ 4 + 0)) : Int) = ((6 * t + m : Nat) : Int); omega)
  have q11 : rv h 610 (6 * t + m) = ρ 11 := qrv hm 8 rfl (by decide) (by decide +kernel) (by show (0 + (1 * ρ 3 + (6 * ρ 4 + 0)) : Int) = ((6 * t + m : Nat) : Int); omega)
  have q12 : rv h 2 (m) = ρ 12 := qrv hm 9 rfl (by decide) (by decide +kernel) (by show (0 + (1 * ρ 3 + 0) : Int) = ((m : Nat) : Int); omega)
  have q13 : rv h 1 (w) = ρ 13 := qrv hm 10 rfl (by decide) (by decide +kernel) (by show (0 + (1 * ρ 8 + 0) : Int) = ((w : Nat) : Int); omega)
  have q14 : rv h 7 (9) = ρ 14 := qrv hm 11 rfl (by decide) (by decide +kernel) (by show (9 + 0 : Int) = ((9 : Nat) : Int); omega)
  have q15 : rv h 54 (5) = ρ 15 := qrv hm 12 rfl (by decide) (by decide +kernel) (by show (5 + 0 : Int) = ((5 : Nat) : Int); omega)
  obtain ⟨n, H, g0, g1, g2, g3, g4, g5, g6, g7, g8, g9, g10, gW, gS, gA, gO, gD, gU, gQ, gV⟩ := t0
  have hM : ρ 6 = (n : Int) := q6.symm.trans g0
  have hH : ρ 7 = (H : Int) := q7.symm.trans g1
  have hmn : m < n := by omega
  have htH : t < H := by omega
  obtain ⟨-, -, -, d0, p0, p1⟩ := g6 m hmn
  obtain ⟨-, w1, -⟩ := nWt_lt hmn p0 p1 g7
  have w2 := gW m hmn
  rw [q8] at w2
  have hwn : w < n := by omega
  obtain ⟨-, -, e0, -⟩ := g6 w hwn
  rw [q12] at d0
  rw [q13] at e0
  rw [q14] at g8
  rw [q15] at g9
  have k0 := gS t m 0 (by omega) (by omega) (by decide)
  rw [show 610 + 0 = 610 from rfl, q11] at k0
  obtain ⟨B0, -⟩ := nSt_b (n := n) (mare := rv h 56 2) (hold := rv h 54 5) (nt := rv h 7 9) (ne := rv h 55) (bd := rv h 0) (ey := rv h 1) (dm := rv h 2) (pl := rv h 5) (W := rv h 620) (g0 := fun a m => rv h (610 + a) m) hmn t
  rw [← k0] at B0
  by_cases z : ρ 15 = -1
  · exact ⟨_, List.mem_of_getElem? (i := 0) rfl, rfl, rfl, (pAll1 (show (0 + ((-1) * ρ 12 + 0) : Int) ≤ 0 by omega) (pAll1 (show ((-18) + (1 * ρ 12 + 0) : Int) ≤ 0 by omega) (pAll1 (show (0 + ((-1) * ρ 13 + 0) : Int) ≤ 0 by omega) (pAll1 (show ((-12) + (1 * ρ 13 + 0) : Int) ≤ 0 by omega) (pAll1 (show (0 + ((-1) * ρ 14 + 0) : Int) ≤ 0 by omega) (pAll1 (show ((-999) + (1 * ρ 14 + 0) : Int) ≤ 0 by omega) (pAll1 (show (0 + ((-1) * ρ 11 + 0) : Int) ≤ 0 by omega) (pAll1 (show (0 + ((-1) * ρ 4 + (1 * ρ 11 + 0)) : Int) ≤ 0 by omega) (pAll1 (show (1 + ((-1) * ρ 6 + (1 * ρ 8 + 0)) : Int) ≤ 0 by omega) (pAll1 (show (1 + (1 * ρ 15 + 0) : Int) ≤ 0 by omega) (pAll1 (show ((-1) + ((-1) * ρ 15 + 0) : Int) ≤ 0 by omega) pAll0))))))))))), pAll0⟩
  · exact ⟨_, List.mem_of_getElem? (i := 1) rfl, rfl, rfl, (pAll1 (show (0 + ((-1) * ρ 12 + 0) : Int) ≤ 0 by omega) (pAll1 (show ((-18) + (1 * ρ 12 + 0) : Int) ≤ 0 by omega) (pAll1 (show (0 + ((-1) * ρ 13 + 0) : Int) ≤ 0 by omega) (pAll1 (show ((-12) + (1 * ρ 13 + 0) : Int) ≤ 0 by omega) (pAll1 (show (0 + ((-1) * ρ 14 + 0) : Int) ≤ 0 by omega) (pAll1 (show ((-999) + (1 * ρ 14 + 0) : Int) ≤ 0 by omega) (pAll1 (show (0 + ((-1) * ρ 11 + 0) : Int) ≤ 0 by omega) (pAll1 (show (0 + ((-1) * ρ 4 + (1 * ρ 11 + 0)) : Int) ≤ 0 by omega) (pAll1 (show (1 + ((-1) * ρ 6 + (1 * ρ 8 + 0)) : Int) ≤ 0 by omega) (pAll1 (show (0 + ((-1) * ρ 15 + 0) : Int) ≤ 0 by omega) (pAll1 (show ((-3) + (1 * ρ 15 + 0) : Int) ≤ 0 by omega) pAll0))))))))))), pAll0⟩)

theorem qR_qunow_ok (h60 : ∀ x y h, gv 60 x y h → nGh 0 1 2 5 7 9 h) : pRulQ pReg qG gv qR_qunow := qrul (by decide +kernel) (fun h ρ hG hm hb hc => by
  have b0 : (1 : Int) ≤ ρ 0 ∧ ρ 0 ≤ 1 := hb 0 (1, 1) rfl
  have b1 : (0 : Int) ≤ ρ 1 ∧ ρ 1 ≤ 9 := hb 1 (0, 9) rfl
  have b2 : (2 : Int) ≤ ρ 2 ∧ ρ 2 ≤ 6 := hb 2 (2, 6) rfl
  have b3 : (4 : Int) ≤ ρ 3 ∧ ρ 3 ≤ 10 := hb 3 (4, 10) rfl
  have b4 : (0 : Int) ≤ ρ 4 ∧ ρ 4 ≤ 1 := hb 4 (0, 1) rfl
  have b5 : (0 : Int) ≤ ρ 5 ∧ ρ 5 ≤ 60 := hb 5 (0, 60) rfl
  have b6 : (0 : Int) ≤ ρ 6 ∧ ρ 6 ≤ 60 := hb 6 (0, 60) rfl
  have b7 : (0 : Int) ≤ ρ 7 ∧ ρ 7 ≤ 60 := hb 7 (0, 60) rfl
  have b8 : (0 : Int) ≤ ρ 8 ∧ ρ 8 ≤ 60 := hb 8 (0, 60) rfl
  have b9 : (0 : Int) ≤ ρ 9 ∧ ρ 9 ≤ 60 := hb 9 (0, 60) rfl
  have b10 : (0 : Int) ≤ ρ 10 ∧ ρ 10 ≤ 10 := hb 10 (0, 10) rfl
  have b11 : (0 : Int) ≤ ρ 11 ∧ ρ 11 ≤ 10 := hb 11 (0, 10) rfl
  have b12 : (0 : Int) ≤ ρ 12 ∧ ρ 12 ≤ 60 := hb 12 (0, 60) rfl
  have b13 : (0 : Int) ≤ ρ 13 ∧ ρ 13 ≤ 1 := hb 13 (0, 1) rfl
  have c0 : (1 + (1 * ρ 1 + ((-1) * ρ 3 + 0)) : Int) ≤ 0 := hc _ (List.mem_of_getElem? (i := 0) rfl)
  have c1 : (0 + ((-1) * ρ 5 + (1 * ρ 12 + 0)) : Int) ≤ 0 := hc _ (List.mem_of_getElem? (i := 1) rfl)
  have c2 : (0 + (1 * ρ 5 + ((-1) * ρ 12 + 0)) : Int) ≤ 0 := hc _ (List.mem_of_getElem? (i := 2) rfl)
  have c3 : (0 + ((-1) * ρ 4 + (1 * ρ 13 + 0)) : Int) ≤ 0 := hc _ (List.mem_of_getElem? (i := 3) rfl)
  have c4 : (0 + (1 * ρ 4 + ((-1) * ρ 13 + 0)) : Int) ≤ 0 := hc _ (List.mem_of_getElem? (i := 4) rfl)
  obtain ⟨t, e_t⟩ : ∃ x : Nat, ρ 1 = (x : Int) := ⟨(ρ 1).toNat, by omega⟩
  obtain ⟨n2, e_n2⟩ : ∃ x : Nat, ρ 2 = (x : Int) := ⟨(ρ 2).toNat, by omega⟩
  have t0 := h60 _ _ _ (qtl (a := 60) hm 0 rfl (by decide))
  have q2 : rv h 56 (0) = ρ 2 := qrv hm 1 rfl (by decide) (by decide +kernel) (by show (0 + 0 : Int) = ((0 : Nat) : Int); omega)
  have q3 : rv h 56 (1) = ρ 3 := qrv hm 2 rfl (by decide) (by decide +kernel) (by show (1 + 0 : Int) = ((1 : Nat) : Int); omega)
  have q4 : rv h 617 (7 * t + n2) = ρ 4 := qrv hm 3 rfl (by decide) (by decide +kernel) (by show (0 + (7 * ρ 1 + (1 * ρ 2 + 0)) : Int) = ((7 * t + n2 : Nat) : Int); omega)
  have q5 : rv h 614 (6 * t) = ρ 5 := qrv hm 4 rfl (by decide) (by decide +kernel) (by show (0 + (6 * ρ 1 + 0) : Int) = ((6 * t : Nat) : Int); omega)
  have q6 : rv h 614 (6 * t + n2) = ρ 6 := qrv hm 5 rfl (by decide) (by decide +kernel) (by show (0 + (6 * ρ 1 + (1 * ρ 2 + 0)) : Int) = ((6 * t + n2 : Nat) : Int); omega)
  have q7 : rv h 614 (6 * t + 6) = ρ 7 := qrv hm 6 rfl (by decide) (by decide +kernel) (by show (6 + (6 * ρ 1 + 0) : Int) = ((6 * t + 6 : Nat) : Int); omega)
  have q8 : rv h 615 (6 * t + n2) = ρ 8 := qrv hm 7 rfl (by decide) (by decide +kernel) (by show (0 + (6 * ρ 1 + (1 * ρ 2 + 0)) : Int) = ((6 * t + n2 : Nat) : Int); omega)
  have q9 : rv h 615 (6 * t + 6) = ρ 9 := qrv hm 8 rfl (by decide) (by decide +kernel) (by show (6 + (6 * ρ 1 + 0) : Int) = ((6 * t + 6 : Nat) : Int); omega)
  have q10 : rv h 616 (t) = ρ 10 := qrv hm 9 rfl (by decide) (by decide +kernel) (by show (0 + (1 * ρ 1 + 0) : Int) = ((t : Nat) : Int); omega)
  have q11 : rv h 616 (t + 1) = ρ 11 := qrv hm 10 rfl (by decide) (by decide +kernel) (by show (1 + (1 * ρ 1 + 0) : Int) = ((t + 1 : Nat) : Int); omega)
  obtain ⟨n, H, g0, g1, g2, g3, g4, g5, g6, g7, g8, g9, g10, gW, gS, gA, gO, gD, gU, gQ, gV⟩ := t0
  have hM : ρ 2 = (n : Int) := q2.symm.trans g0
  have hH : ρ 3 = (H : Int) := q3.symm.trans g1
  have htH : t < H := by omega
  have en : n2 = n := by omega
  rw [en] at q4 q6 q8
  have kV := gV t n (by omega)
  rw [q4] at kV
  obtain ⟨a1, b1⟩ := gU (6 * t) (by omega)
  obtain ⟨a2, b2⟩ := gU (6 * t + n) (by omega)
  obtain ⟨a3, b3⟩ := gU (6 * t + 6) (by omega)
  have kq := gQ t (by omega)
  have kq2 := gQ (t + 1) (by omega)
  rw [q5] at a1
  rw [q6] at a2
  rw [q7] at a3
  rw [q8] at b2
  rw [q9] at b3
  rw [q10] at kq
  rw [q11] at kq2
  have s1 : ρ 7 = ρ 6 := by
    rw [a3, a2]
    unfold nUN
    rw [show 6 * t + 6 = 6 * t + n + (6 - n) by omega]
    exact nCt_skip (fun j j1 j2 => if_neg (fun z => by have := z.1; omega))
  have s2 : ρ 9 = ρ 8 := by
    rw [b3, b2]
    unfold nOP
    rw [show 6 * t + 6 = 6 * t + n + (6 - n) by omega]
    exact nCt_skip (fun j j1 j2 => if_neg (fun z => by have := z.1; omega))
  have s3 : ρ 5 ≤ ρ 6 := by
    rw [a1, a2]
    unfold nUN
    exact nCt_mono (fun j => by split <;> decide) (6 * t) n
  have s4 := nAW_01 (n := n) (mare := rv h 56 2) (hold := rv h 54 5) (nt := rv h 7 9) (ne := rv h 55) (bd := rv h 0) (ey := rv h 1) (dm := rv h 2) (pl := rv h 5) (W := rv h 620) (g0 := fun a m => rv h (610 + a) m) t n
  rw [← kV] at s4
  unfold nQU at kq kq2
  simp only [nCt] at kq2
  rw [← kq, ← kV, ← a1, ← a2] at kq2
  by_cases x : ρ 4 = 1
  · by_cases y : ρ 6 = ρ 5
    · rw [if_pos ⟨x, y⟩] at kq2
      exact ⟨_, List.mem_of_getElem? (i := 0) rfl, rfl, rfl, (pAll1 (show (0 + ((-1) * ρ 6 + (1 * ρ 7 + 0)) : Int) ≤ 0 by omega) (pAll1 (show (0 + (1 * ρ 6 + ((-1) * ρ 7 + 0)) : Int) ≤ 0 by omega) (pAll1 (show (0 + ((-1) * ρ 8 + (1 * ρ 9 + 0)) : Int) ≤ 0 by omega) (pAll1 (show (0 + (1 * ρ 8 + ((-1) * ρ 9 + 0)) : Int) ≤ 0 by omega) (pAll1 (show ((-1) + (1 * ρ 13 + 0) : Int) ≤ 0 by omega) (pAll1 (show (1 + ((-1) * ρ 13 + 0) : Int) ≤ 0 by omega) (pAll1 (show (0 + (1 * ρ 6 + ((-1) * ρ 12 + 0)) : Int) ≤ 0 by omega) (pAll1 (show (0 + ((-1) * ρ 6 + (1 * ρ 12 + 0)) : Int) ≤ 0 by omega) (pAll1 (show ((-1) + ((-1) * ρ 10 + (1 * ρ 11 + 0)) : Int) ≤ 0 by omega) (pAll1 (show (1 + (1 * ρ 10 + ((-1) * ρ 11 + 0)) : Int) ≤ 0 by omega) pAll0)))))))))), pAll0⟩
    · rw [if_neg (fun z => y z.2)] at kq2
      exact ⟨_, List.mem_of_getElem? (i := 2) rfl, rfl, rfl, (pAll1 (show (0 + ((-1) * ρ 6 + (1 * ρ 7 + 0)) : Int) ≤ 0 by omega) (pAll1 (show (0 + (1 * ρ 6 + ((-1) * ρ 7 + 0)) : Int) ≤ 0 by omega) (pAll1 (show (0 + ((-1) * ρ 8 + (1 * ρ 9 + 0)) : Int) ≤ 0 by omega) (pAll1 (show (0 + (1 * ρ 8 + ((-1) * ρ 9 + 0)) : Int) ≤ 0 by omega) (pAll1 (show ((-1) + (1 * ρ 13 + 0) : Int) ≤ 0 by omega) (pAll1 (show (1 + ((-1) * ρ 13 + 0) : Int) ≤ 0 by omega) (pAll1 (show (1 + ((-1) * ρ 6 + (1 * ρ 12 + 0)) : Int) ≤ 0 by omega) (pAll1 (show (0 + ((-1) * ρ 10 + (1 * ρ 11 + 0)) : Int) ≤ 0 by omega) (pAll1 (show (0 + (1 * ρ 10 + ((-1) * ρ 11 + 0)) : Int) ≤ 0 by omega) pAll0))))))))), pAll0⟩
  · rw [if_neg (fun z => x z.1)] at kq2
    exact ⟨_, List.mem_of_getElem? (i := 1) rfl, rfl, rfl, (pAll1 (show (0 + ((-1) * ρ 6 + (1 * ρ 7 + 0)) : Int) ≤ 0 by omega) (pAll1 (show (0 + (1 * ρ 6 + ((-1) * ρ 7 + 0)) : Int) ≤ 0 by omega) (pAll1 (show (0 + ((-1) * ρ 8 + (1 * ρ 9 + 0)) : Int) ≤ 0 by omega) (pAll1 (show (0 + (1 * ρ 8 + ((-1) * ρ 9 + 0)) : Int) ≤ 0 by omega) (pAll1 (show (0 + (1 * ρ 13 + 0) : Int) ≤ 0 by omega) (pAll1 (show (0 + ((-1) * ρ 13 + 0) : Int) ≤ 0 by omega) (pAll1 (show (0 + ((-1) * ρ 10 + (1 * ρ 11 + 0)) : Int) ≤ 0 by omega) (pAll1 (show (0 + (1 * ρ 10 + ((-1) * ρ 11 + 0)) : Int) ≤ 0 by omega) pAll0)))))))), pAll0⟩)

theorem qR_wptrial_ok (h60 : ∀ x y h, gv 63 x y h → nGh 8 9 10 13 15 9 h) : pRulQ pReg qG gv qR_wptrial := qrul (by decide +kernel) (fun h ρ hG hm hb hc => by
  have b0 : (1 : Int) ≤ ρ 0 ∧ ρ 0 ≤ 1 := hb 0 (1, 1) rfl
  have b1 : (0 : Int) ≤ ρ 1 ∧ ρ 1 ≤ 5 := hb 1 (0, 5) rfl
  have b2 : (2 : Int) ≤ ρ 2 ∧ ρ 2 ≤ 6 := hb 2 (2, 6) rfl
  have b3 : (0 : Int) ≤ ρ 3 ∧ ρ 3 ≤ 5 := hb 3 (0, 5) rfl
  have b4 : ((-2147483648) : Int) ≤ ρ 4 ∧ ρ 4 ≤ 2147483647 := hb 4 ((-2147483648), 2147483647) rfl
  have c0 : (1 + (1 * ρ 1 + ((-1) * ρ 2 + 0)) : Int) ≤ 0 := hc _ (List.mem_of_getElem? (i := 0) rfl)
  obtain ⟨m, e_m⟩ : ∃ x : Nat, ρ 1 = (x : Int) := ⟨(ρ 1).toNat, by omega⟩
  have t0 := h60 _ _ _ (qtl (a := 63) hm 0 rfl (by decide))
  have q2 : rv h 56 (0) = ρ 2 := qrv hm 1 rfl (by decide) (by decide +kernel) (by show (0 + 0 : Int) = ((0 : Nat) : Int); omega)
  have q3 : rv h 606 (m) = ρ 3 := qrv hm 2 rfl (by decide) (by decide +kernel) (by show (0 + (1 * ρ 1 + 0) : Int) = ((m : Nat) : Int); omega)
  have q4 : rv h 13 (m) = ρ 4 := qrv hm 3 rfl (by decide) (by decide +kernel) (by show (0 + (1 * ρ 1 + 0) : Int) = ((m : Nat) : Int); omega)
  obtain ⟨n, H, g0, g1, g2, g3, g4, g5, g6, g7, g8, g9, g10, gW, gS, gA, gO, gD, gU, gQ, gV⟩ := t0
  have hM : ρ 2 = (n : Int) := q2.symm.trans g0
  have hmn : m < n := by omega
  obtain ⟨-, -, -, -, p0, p1⟩ := g6 m hmn
  obtain ⟨-, w1, -⟩ := nWt_lt hmn p0 p1 g7
  have w2 := gW m hmn
  rw [q3] at w2
  rw [q4] at p0 p1
  exact ⟨_, List.mem_of_getElem? (i := 0) rfl, rfl, rfl, (pAll1 (show (0 + ((-1) * ρ 4 + 0) : Int) ≤ 0 by omega) (pAll1 (show (1 + ((-1) * ρ 2 + (1 * ρ 4 + 0)) : Int) ≤ 0 by omega) (pAll1 (show (1 + ((-1) * ρ 2 + (1 * ρ 3 + 0)) : Int) ≤ 0 by omega) pAll0))), pAll0⟩)

theorem qR_astrial_ok (h60 : ∀ x y h, gv 63 x y h → nGh 8 9 10 13 15 9 h) : pRulQ pReg qG gv qR_astrial := qrul (by decide +kernel) (fun h ρ hG hm hb hc => by
  have b0 : (1 : Int) ≤ ρ 0 ∧ ρ 0 ≤ 1 := hb 0 (1, 1) rfl
  have b1 : (0 : Int) ≤ ρ 1 ∧ ρ 1 ≤ 9 := hb 1 (0, 9) rfl
  have b2 : (0 : Int) ≤ ρ 2 ∧ ρ 2 ≤ 5 := hb 2 (0, 5) rfl
  have b3 : (2 : Int) ≤ ρ 3 ∧ ρ 3 ≤ 6 := hb 3 (2, 6) rfl
  have b4 : (4 : Int) ≤ ρ 4 ∧ ρ 4 ≤ 10 := hb 4 (4, 10) rfl
  have b5 : ((-2147483648) : Int) ≤ ρ 5 ∧ ρ 5 ≤ 2147483647 := hb 5 ((-2147483648), 2147483647) rfl
  have b6 : ((-2147483648) : Int) ≤ ρ 6 ∧ ρ 6 ≤ 2147483647 := hb 6 ((-2147483648), 2147483647) rfl
  have b7 : ((-2147483648) : Int) ≤ ρ 7 ∧ ρ 7 ≤ 2147483647 := hb 7 ((-2147483648), 2147483647) rfl
  have b8 : (0 : Int) ≤ ρ 8 ∧ ρ 8 ≤ 1 := hb 8 (0, 1) rfl
  have c0 : (1 + (1 * ρ 2 + ((-1) * ρ 3 + 0)) : Int) ≤ 0 := hc _ (List.mem_of_getElem? (i := 0) rfl)
  have c1 : (1 + (1 * ρ 1 + ((-1) * ρ 4 + 0)) : Int) ≤ 0 := hc _ (List.mem_of_getElem? (i := 1) rfl)
  obtain ⟨t, e_t⟩ : ∃ x : Nat, ρ 1 = (x : Int) := ⟨(ρ 1).toNat, by omega⟩
  obtain ⟨m, e_m⟩ : ∃ x : Nat, ρ 2 = (x : Int) := ⟨(ρ 2).toNat, by omega⟩
  have t0 := h60 _ _ _ (qtl (a := 63) hm 0 rfl (by decide))
  have q3 : rv h 56 (0) = ρ 3 := qrv hm 1 rfl (by decide) (by decide +kernel) (by show (0 + 0 : Int) = ((0 : Nat) : Int); omega)
  have q4 : rv h 56 (1) = ρ 4 := qrv hm 2 rfl (by decide) (by decide +kernel) (by show (1 + 0 : Int) = ((1 : Nat) : Int); omega)
  have q5 : rv h 8 (m) = ρ 5 := qrv hm 3 rfl (by decide) (by decide +kernel) (by show (0 + (1 * ρ 2 + 0) : Int) = ((m : Nat) : Int); omega)
  have q6 : rv h 55 (m) = ρ 6 := qrv hm 4 rfl (by decide) (by decide +kernel) (by show (0 + (1 * ρ 2 + 0) : Int) = ((m : Nat) : Int); omega)
  have q7 : rv h 611 (6 * t + m) = ρ 7 := qrv hm 5 rfl (by decide) (by decide +kernel) (by show (0 + (6 * ρ 1 + (1 * ρ 2 + 0)) : Int) = ((6 * t + m : Nat) : Int); omega)
  have q8 : rv h 607 (6 * t + m) = ρ 8 := qrv hm 6 rfl (by decide) (by decide +kernel) (by show (0 + (6 * ρ 1 + (1 * ρ 2 + 0)) : Int) = ((6 * t + m : Nat) : Int); omega)
  obtain ⟨n, H, g0, g1, g2, g3, g4, g5, g6, g7, g8, g9, g10, gW, gS, gA, gO, gD, gU, gQ, gV⟩ := t0
  have hM : ρ 3 = (n : Int) := q3.symm.trans g0
  have hH : ρ 4 = (H : Int) := q4.symm.trans g1
  have hmn : m < n := by omega
  have htH : t < H := by omega
  obtain ⟨p0, p1, -⟩ := g6 m hmn
  rw [q5] at p0
  rw [q6] at p1
  have k1 := gS t m 1 (by omega) (by omega) (by decide)
  rw [show 610 + 1 = 611 from rfl, q7] at k1
  obtain ⟨-, k2, -⟩ := nSt_b (n := n) (mare := rv h 56 2) (hold := rv h 54 5) (nt := rv h 15 9) (ne := rv h 55) (bd := rv h 8) (ey := rv h 9) (dm := rv h 10) (pl := rv h 13) (W := rv h 620) (g0 := fun a m => rv h (610 + a) m) hmn t
  rw [← k1] at k2
  have k3 := gA t m htH hmn
  rw [q8] at k3
  unfold nA nAs at k3
  rw [← k1, q5, q6] at k3
  simp only [Bool.and_eq_true, decide_eq_true_eq] at k3
  by_cases z1 : ρ 5 ≤ (t : Int)
  · by_cases z2 : (t : Int) < ρ 5 + ρ 6
    · by_cases z3 : ρ 7 = -1
      · rw [if_pos ⟨z1, z2, z3⟩] at k3
        exact ⟨_, List.mem_of_getElem? (i := 0) rfl, rfl, rfl, (pAll1 (show (0 + ((-1) * ρ 5 + 0) : Int) ≤ 0 by omega) (pAll1 (show ((-9) + (1 * ρ 5 + 0) : Int) ≤ 0 by omega) (pAll1 (show (0 + ((-1) * ρ 6 + 0) : Int) ≤ 0 by omega) (pAll1 (show ((-10) + (1 * ρ 6 + 0) : Int) ≤ 0 by omega) (pAll1 (show ((-1) + ((-1) * ρ 7 + 0) : Int) ≤ 0 by omega) (pAll1 (show (1 + ((-1) * ρ 1 + (1 * ρ 7 + 0)) : Int) ≤ 0 by omega) (pAll1 (show ((-1) + (1 * ρ 8 + 0) : Int) ≤ 0 by omega) (pAll1 (show (1 + ((-1) * ρ 8 + 0) : Int) ≤ 0 by omega) (pAll1 (show (0 + ((-1) * ρ 1 + (1 * ρ 5 + 0)) : Int) ≤ 0 by omega) (pAll1 (show (1 + (1 * ρ 1 + ((-1) * ρ 5 + ((-1) * ρ 6 + 0))) : Int) ≤ 0 by omega) (pAll1 (show (1 + (1 * ρ 7 + 0) : Int) ≤ 0 by omega) (pAll1 (show ((-1) + ((-1) * ρ 7 + 0) : Int) ≤ 0 by omega) pAll0)))))))))))), pAll0⟩
      · rw [if_neg (fun z => z3 z.2.2)] at k3
        exact ⟨_, List.mem_of_getElem? (i := 1) rfl, rfl, rfl, (pAll1 (show (0 + ((-1) * ρ 5 + 0) : Int) ≤ 0 by omega) (pAll1 (show ((-9) + (1 * ρ 5 + 0) : Int) ≤ 0 by omega) (pAll1 (show (0 + ((-1) * ρ 6 + 0) : Int) ≤ 0 by omega) (pAll1 (show ((-10) + (1 * ρ 6 + 0) : Int) ≤ 0 by omega) (pAll1 (show ((-1) + ((-1) * ρ 7 + 0) : Int) ≤ 0 by omega) (pAll1 (show (1 + ((-1) * ρ 1 + (1 * ρ 7 + 0)) : Int) ≤ 0 by omega) (pAll1 (show (0 + (1 * ρ 8 + 0) : Int) ≤ 0 by omega) (pAll1 (show (0 + ((-1) * ρ 8 + 0) : Int) ≤ 0 by omega) (pAll1 (show (0 + ((-1) * ρ 1 + (1 * ρ 5 + 0)) : Int) ≤ 0 by omega) (pAll1 (show (1 + (1 * ρ 1 + ((-1) * ρ 5 + ((-1) * ρ 6 + 0))) : Int) ≤ 0 by omega) (pAll1 (show (0 + ((-1) * ρ 7 + 0) : Int) ≤ 0 by omega) pAll0))))))))))), pAll0⟩
    · rw [if_neg (fun z => z2 z.2.1)] at k3
      exact ⟨_, List.mem_of_getElem? (i := 3) rfl, rfl, rfl, (pAll1 (show (0 + ((-1) * ρ 5 + 0) : Int) ≤ 0 by omega) (pAll1 (show ((-9) + (1 * ρ 5 + 0) : Int) ≤ 0 by omega) (pAll1 (show (0 + ((-1) * ρ 6 + 0) : Int) ≤ 0 by omega) (pAll1 (show ((-10) + (1 * ρ 6 + 0) : Int) ≤ 0 by omega) (pAll1 (show ((-1) + ((-1) * ρ 7 + 0) : Int) ≤ 0 by omega) (pAll1 (show (1 + ((-1) * ρ 1 + (1 * ρ 7 + 0)) : Int) ≤ 0 by omega) (pAll1 (show (0 + (1 * ρ 8 + 0) : Int) ≤ 0 by omega) (pAll1 (show (0 + ((-1) * ρ 8 + 0) : Int) ≤ 0 by omega) (pAll1 (show (0 + ((-1) * ρ 1 + (1 * ρ 5 + (1 * ρ 6 + 0))) : Int) ≤ 0 by omega) pAll0))))))))), pAll0⟩
  · rw [if_neg (fun z => z1 z.1)] at k3
    exact ⟨_, List.mem_of_getElem? (i := 2) rfl, rfl, rfl, (pAll1 (show (0 + ((-1) * ρ 5 + 0) : Int) ≤ 0 by omega) (pAll1 (show ((-9) + (1 * ρ 5 + 0) : Int) ≤ 0 by omega) (pAll1 (show (0 + ((-1) * ρ 6 + 0) : Int) ≤ 0 by omega) (pAll1 (show ((-10) + (1 * ρ 6 + 0) : Int) ≤ 0 by omega) (pAll1 (show ((-1) + ((-1) * ρ 7 + 0) : Int) ≤ 0 by omega) (pAll1 (show (1 + ((-1) * ρ 1 + (1 * ρ 7 + 0)) : Int) ≤ 0 by omega) (pAll1 (show (0 + (1 * ρ 8 + 0) : Int) ≤ 0 by omega) (pAll1 (show (0 + ((-1) * ρ 8 + 0) : Int) ≤ 0 by omega) (pAll1 (show (1 + (1 * ρ 1 + ((-1) * ρ 5 + 0)) : Int) ≤ 0 by omega) pAll0))))))))), pAll0⟩)

theorem qR_woAtrial_ok (h60 : ∀ x y h, gv 63 x y h → nGh 8 9 10 13 15 9 h) : pRulQ pReg qG gv qR_woAtrial := qrul (by decide +kernel) (fun h ρ hG hm hb hc => by
  have b0 : (1 : Int) ≤ ρ 0 ∧ ρ 0 ≤ 1 := hb 0 (1, 1) rfl
  have b1 : (0 : Int) ≤ ρ 1 ∧ ρ 1 ≤ 5 := hb 1 (0, 5) rfl
  have b2 : (0 : Int) ≤ ρ 2 ∧ ρ 2 ≤ 5 := hb 2 (0, 5) rfl
  have b3 : (0 : Int) ≤ ρ 3 ∧ ρ 3 ≤ 5 := hb 3 (0, 5) rfl
  have b4 : (2 : Int) ≤ ρ 4 ∧ ρ 4 ≤ 6 := hb 4 (2, 6) rfl
  have b5 : (0 : Int) ≤ ρ 5 ∧ ρ 5 ≤ 5 := hb 5 (0, 5) rfl
  have b6 : ((-2147483648) : Int) ≤ ρ 6 ∧ ρ 6 ≤ 2147483647 := hb 6 ((-2147483648), 2147483647) rfl
  have b7 : ((-2147483648) : Int) ≤ ρ 7 ∧ ρ 7 ≤ 2147483647 := hb 7 ((-2147483648), 2147483647) rfl
  have c0 : (1 + (1 * ρ 1 + ((-1) * ρ 4 + 0)) : Int) ≤ 0 := hc _ (List.mem_of_getElem? (i := 0) rfl)
  have c1 : (0 + (1 * ρ 3 + ((-1) * ρ 5 + 0)) : Int) ≤ 0 := hc _ (List.mem_of_getElem? (i := 1) rfl)
  have c2 : (0 + (1 * ρ 6 + 0) : Int) ≤ 0 := hc _ (List.mem_of_getElem? (i := 2) rfl)
  have c3 : (0 + ((-1) * ρ 6 + 0) : Int) ≤ 0 := hc _ (List.mem_of_getElem? (i := 3) rfl)
  have c4 : (1 + (1 * ρ 2 + ((-1) * ρ 4 + 0)) : Int) ≤ 0 := hc _ (List.mem_of_getElem? (i := 4) rfl)
  have c5 : ((-1) + ((-1) * ρ 2 + (1 * ρ 4 + 0)) : Int) ≤ 0 := hc _ (List.mem_of_getElem? (i := 5) rfl)
  obtain ⟨m, e_m⟩ : ∃ x : Nat, ρ 1 = (x : Int) := ⟨(ρ 1).toNat, by omega⟩
  obtain ⟨o, e_o⟩ : ∃ x : Nat, ρ 3 = (x : Int) := ⟨(ρ 3).toNat, by omega⟩
  have t0 := h60 _ _ _ (qtl (a := 63) hm 0 rfl (by decide))
  have q4 : rv h 56 (0) = ρ 4 := qrv hm 1 rfl (by decide) (by decide +kernel) (by show (0 + 0 : Int) = ((0 : Nat) : Int); omega)
  have q5 : rv h 606 (m) = ρ 5 := qrv hm 2 rfl (by decide) (by decide +kernel) (by show (0 + (1 * ρ 1 + 0) : Int) = ((m : Nat) : Int); omega)
  have q6 : rv h 13 (m) = ρ 6 := qrv hm 3 rfl (by decide) (by decide +kernel) (by show (0 + (1 * ρ 1 + 0) : Int) = ((m : Nat) : Int); omega)
  have q7 : rv h 13 (o) = ρ 7 := qrv hm 4 rfl (by decide) (by decide +kernel) (by show (0 + (1 * ρ 3 + 0) : Int) = ((o : Nat) : Int); omega)
  obtain ⟨n, H, g0, g1, g2, g3, g4, g5, g6, g7, g8, g9, g10, gW, gS, gA, gO, gD, gU, gQ, gV⟩ := t0
  have hM : ρ 4 = (n : Int) := q4.symm.trans g0
  have hmn : m < n := by omega
  obtain ⟨-, -, -, -, p0, p1⟩ := g6 m hmn
  obtain ⟨w0, w1, w3⟩ := nWt_lt hmn p0 p1 g7
  have w2 := gW m hmn
  rw [q5] at w2
  have hon : o < n := by omega
  obtain ⟨-, -, -, -, r0, r1⟩ := g6 o hon
  rw [q6] at p0 p1
  rw [q7] at r0 r1
  have ha : nAh n (rv h 13) m = ρ 2 := by
    unfold nAh
    rw [q6]
    rw [if_pos (by omega)]
    omega
  rw [ha] at w0 w3
  by_cases e : o = nWt n (rv h 13) m
  · rw [← e, q7] at w0
    exact ⟨_, List.mem_of_getElem? (i := 0) rfl, rfl, rfl, (pAll1 (show (0 + ((-1) * ρ 7 + 0) : Int) ≤ 0 by omega) (pAll1 (show (1 + ((-1) * ρ 4 + (1 * ρ 7 + 0)) : Int) ≤ 0 by omega) (pAll1 (show (1 + ((-1) * ρ 4 + (1 * ρ 5 + 0)) : Int) ≤ 0 by omega) (pAll1 (show (0 + ((-1) * ρ 2 + (1 * ρ 7 + 0)) : Int) ≤ 0 by omega) (pAll1 (show (0 + (1 * ρ 2 + ((-1) * ρ 7 + 0)) : Int) ≤ 0 by omega) (pAll1 (show (0 + ((-1) * ρ 3 + (1 * ρ 5 + 0)) : Int) ≤ 0 by omega) (pAll1 (show (0 + (1 * ρ 3 + ((-1) * ρ 5 + 0)) : Int) ≤ 0 by omega) pAll0))))))), pAll0⟩
  · have w4 := w3 o (by omega)
    rw [q7] at w4
    rcases Int.lt_or_lt_of_ne w4 with z | z
    · exact ⟨_, List.mem_of_getElem? (i := 1) rfl, rfl, rfl, (pAll1 (show (0 + ((-1) * ρ 7 + 0) : Int) ≤ 0 by omega) (pAll1 (show (1 + ((-1) * ρ 4 + (1 * ρ 7 + 0)) : Int) ≤ 0 by omega) (pAll1 (show (1 + ((-1) * ρ 4 + (1 * ρ 5 + 0)) : Int) ≤ 0 by omega) (pAll1 (show (1 + ((-1) * ρ 2 + (1 * ρ 7 + 0)) : Int) ≤ 0 by omega) (pAll1 (show (1 + (1 * ρ 3 + ((-1) * ρ 5 + 0)) : Int) ≤ 0 by omega) pAll0))))), pAll0⟩
    · exact ⟨_, List.mem_of_getElem? (i := 2) rfl, rfl, rfl, (pAll1 (show (0 + ((-1) * ρ 7 + 0) : Int) ≤ 0 by omega) (pAll1 (show (1 + ((-1) * ρ 4 + (1 * ρ 7 + 0)) : Int) ≤ 0 by omega) (pAll1 (show (1 + ((-1) * ρ 4 + (1 * ρ 5 + 0)) : Int) ≤ 0 by omega) (pAll1 (show (1 + (1 * ρ 2 + ((-1) * ρ 7 + 0)) : Int) ≤ 0 by omega) (pAll1 (show (1 + (1 * ρ 3 + ((-1) * ρ 5 + 0)) : Int) ≤ 0 by omega) pAll0))))), pAll0⟩)

theorem qR_woBtrial_ok (h60 : ∀ x y h, gv 63 x y h → nGh 8 9 10 13 15 9 h) : pRulQ pReg qG gv qR_woBtrial := qrul (by decide +kernel) (fun h ρ hG hm hb hc => by
  have b0 : (1 : Int) ≤ ρ 0 ∧ ρ 0 ≤ 1 := hb 0 (1, 1) rfl
  have b1 : (0 : Int) ≤ ρ 1 ∧ ρ 1 ≤ 5 := hb 1 (0, 5) rfl
  have b2 : (0 : Int) ≤ ρ 2 ∧ ρ 2 ≤ 5 := hb 2 (0, 5) rfl
  have b3 : (0 : Int) ≤ ρ 3 ∧ ρ 3 ≤ 5 := hb 3 (0, 5) rfl
  have b4 : (2 : Int) ≤ ρ 4 ∧ ρ 4 ≤ 6 := hb 4 (2, 6) rfl
  have b5 : (0 : Int) ≤ ρ 5 ∧ ρ 5 ≤ 5 := hb 5 (0, 5) rfl
  have b6 : ((-2147483648) : Int) ≤ ρ 6 ∧ ρ 6 ≤ 2147483647 := hb 6 ((-2147483648), 2147483647) rfl
  have b7 : ((-2147483648) : Int) ≤ ρ 7 ∧ ρ 7 ≤ 2147483647 := hb 7 ((-2147483648), 2147483647) rfl
  have c0 : (1 + (1 * ρ 1 + ((-1) * ρ 4 + 0)) : Int) ≤ 0 := hc _ (List.mem_of_getElem? (i := 0) rfl)
  have c1 : (0 + (1 * ρ 3 + ((-1) * ρ 5 + 0)) : Int) ≤ 0 := hc _ (List.mem_of_getElem? (i := 1) rfl)
  have c2 : (1 + ((-1) * ρ 6 + 0) : Int) ≤ 0 := hc _ (List.mem_of_getElem? (i := 2) rfl)
  have c3 : (1 + (1 * ρ 2 + ((-1) * ρ 6 + 0)) : Int) ≤ 0 := hc _ (List.mem_of_getElem? (i := 3) rfl)
  have c4 : ((-1) + ((-1) * ρ 2 + (1 * ρ 6 + 0)) : Int) ≤ 0 := hc _ (List.mem_of_getElem? (i := 4) rfl)
  obtain ⟨m, e_m⟩ : ∃ x : Nat, ρ 1 = (x : Int) := ⟨(ρ 1).toNat, by omega⟩
  obtain ⟨o, e_o⟩ : ∃ x : Nat, ρ 3 = (x : Int) := ⟨(ρ 3).toNat, by omega⟩
  have t0 := h60 _ _ _ (qtl (a := 63) hm 0 rfl (by decide))
  have q4 : rv h 56 (0) = ρ 4 := qrv hm 1 rfl (by decide) (by decide +kernel) (by show (0 + 0 : Int) = ((0 : Nat) : Int); omega)
  have q5 : rv h 606 (m) = ρ 5 := qrv hm 2 rfl (by decide) (by decide +kernel) (by show (0 + (1 * ρ 1 + 0) : Int) = ((m : Nat) : Int); omega)
  have q6 : rv h 13 (m) = ρ 6 := qrv hm 3 rfl (by decide) (by decide +kernel) (by show (0 + (1 * ρ 1 + 0) : Int) = ((m : Nat) : Int); omega)
  have q7 : rv h 13 (o) = ρ 7 := qrv hm 4 rfl (by decide) (by decide +kernel) (by show (0 + (1 * ρ 3 + 0) : Int) = ((o : Nat) : Int); omega)
  obtain ⟨n, H, g0, g1, g2, g3, g4, g5, g6, g7, g8, g9, g10, gW, gS, gA, gO, gD, gU, gQ, gV⟩ := t0
  have hM : ρ 4 = (n : Int) := q4.symm.trans g0
  have hmn : m < n := by omega
  obtain ⟨-, -, -, -, p0, p1⟩ := g6 m hmn
  obtain ⟨w0, w1, w3⟩ := nWt_lt hmn p0 p1 g7
  have w2 := gW m hmn
  rw [q5] at w2
  have hon : o < n := by omega
  obtain ⟨-, -, -, -, r0, r1⟩ := g6 o hon
  rw [q6] at p0 p1
  rw [q7] at r0 r1
  have ha : nAh n (rv h 13) m = ρ 2 := by
    unfold nAh
    rw [q6]
    rw [if_neg (by omega)]
    omega
  rw [ha] at w0 w3
  by_cases e : o = nWt n (rv h 13) m
  · rw [← e, q7] at w0
    exact ⟨_, List.mem_of_getElem? (i := 0) rfl, rfl, rfl, (pAll1 (show (0 + ((-1) * ρ 7 + 0) : Int) ≤ 0 by omega) (pAll1 (show (1 + ((-1) * ρ 4 + (1 * ρ 7 + 0)) : Int) ≤ 0 by omega) (pAll1 (show (1 + ((-1) * ρ 4 + (1 * ρ 5 + 0)) : Int) ≤ 0 by omega) (pAll1 (show (0 + ((-1) * ρ 2 + (1 * ρ 7 + 0)) : Int) ≤ 0 by omega) (pAll1 (show (0 + (1 * ρ 2 + ((-1) * ρ 7 + 0)) : Int) ≤ 0 by omega) (pAll1 (show (0 + ((-1) * ρ 3 + (1 * ρ 5 + 0)) : Int) ≤ 0 by omega) (pAll1 (show (0 + (1 * ρ 3 + ((-1) * ρ 5 + 0)) : Int) ≤ 0 by omega) pAll0))))))), pAll0⟩
  · have w4 := w3 o (by omega)
    rw [q7] at w4
    rcases Int.lt_or_lt_of_ne w4 with z | z
    · exact ⟨_, List.mem_of_getElem? (i := 1) rfl, rfl, rfl, (pAll1 (show (0 + ((-1) * ρ 7 + 0) : Int) ≤ 0 by omega) (pAll1 (show (1 + ((-1) * ρ 4 + (1 * ρ 7 + 0)) : Int) ≤ 0 by omega) (pAll1 (show (1 + ((-1) * ρ 4 + (1 * ρ 5 + 0)) : Int) ≤ 0 by omega) (pAll1 (show (1 + ((-1) * ρ 2 + (1 * ρ 7 + 0)) : Int) ≤ 0 by omega) (pAll1 (show (1 + (1 * ρ 3 + ((-1) * ρ 5 + 0)) : Int) ≤ 0 by omega) pAll0))))), pAll0⟩
    · exact ⟨_, List.mem_of_getElem? (i := 2) rfl, rfl, rfl, (pAll1 (show (0 + ((-1) * ρ 7 + 0) : Int) ≤ 0 by omega) (pAll1 (show (1 + ((-1) * ρ 4 + (1 * ρ 7 + 0)) : Int) ≤ 0 by omega) (pAll1 (show (1 + ((-1) * ρ 4 + (1 * ρ 5 + 0)) : Int) ≤ 0 by omega) (pAll1 (show (1 + (1 * ρ 2 + ((-1) * ρ 7 + 0)) : Int) ≤ 0 by omega) (pAll1 (show (1 + (1 * ρ 3 + ((-1) * ρ 5 + 0)) : Int) ≤ 0 by omega) pAll0))))), pAll0⟩)

theorem qR_sotrial_ok (h60 : ∀ x y h, gv 63 x y h → nGh 8 9 10 13 15 9 h) : pRulQ pReg qG gv qR_sotrial := qrul (by decide +kernel) (fun h ρ hG hm hb hc => by
  have b0 : (1 : Int) ≤ ρ 0 ∧ ρ 0 ≤ 1 := hb 0 (1, 1) rfl
  have b1 : (0 : Int) ≤ ρ 1 ∧ ρ 1 ≤ 9 := hb 1 (0, 9) rfl
  have b2 : (0 : Int) ≤ ρ 2 ∧ ρ 2 ≤ 54 := hb 2 (0, 54) rfl
  have b3 : (0 : Int) ≤ ρ 3 ∧ ρ 3 ≤ 5 := hb 3 (0, 5) rfl
  have b4 : (2 : Int) ≤ ρ 4 ∧ ρ 4 ≤ 6 := hb 4 (2, 6) rfl
  have b5 : (4 : Int) ≤ ρ 5 ∧ ρ 5 ≤ 10 := hb 5 (4, 10) rfl
  have b6 : (0 : Int) ≤ ρ 6 ∧ ρ 6 ≤ 5 := hb 6 (0, 5) rfl
  have b7 : (0 : Int) ≤ ρ 7 ∧ ρ 7 ≤ 1 := hb 7 (0, 1) rfl
  have b8 : (0 : Int) ≤ ρ 8 ∧ ρ 8 ≤ 2 := hb 8 (0, 2) rfl
  have b9 : (0 : Int) ≤ ρ 9 ∧ ρ 9 ≤ 1 := hb 9 (0, 1) rfl
  have b10 : (0 : Int) ≤ ρ 10 ∧ ρ 10 ≤ 2 := hb 10 (0, 2) rfl
  have c0 : (1 + (1 * ρ 3 + ((-1) * ρ 4 + 0)) : Int) ≤ 0 := hc _ (List.mem_of_getElem? (i := 0) rfl)
  have c1 : (1 + (1 * ρ 1 + ((-1) * ρ 5 + 0)) : Int) ≤ 0 := hc _ (List.mem_of_getElem? (i := 1) rfl)
  have c2 : (0 + ((-6) * ρ 1 + (1 * ρ 2 + 0)) : Int) ≤ 0 := hc _ (List.mem_of_getElem? (i := 2) rfl)
  have c3 : (0 + (6 * ρ 1 + ((-1) * ρ 2 + 0)) : Int) ≤ 0 := hc _ (List.mem_of_getElem? (i := 3) rfl)
  obtain ⟨t, e_t⟩ : ∃ x : Nat, ρ 1 = (x : Int) := ⟨(ρ 1).toNat, by omega⟩
  obtain ⟨m, e_m⟩ : ∃ x : Nat, ρ 3 = (x : Int) := ⟨(ρ 3).toNat, by omega⟩
  obtain ⟨w, e_w⟩ : ∃ x : Nat, ρ 6 = (x : Int) := ⟨(ρ 6).toNat, by omega⟩
  have t0 := h60 _ _ _ (qtl (a := 63) hm 0 rfl (by decide))
  have q4 : rv h 56 (0) = ρ 4 := qrv hm 1 rfl (by decide) (by decide +kernel) (by show (0 + 0 : Int) = ((0 : Nat) : Int); omega)
  have q5 : rv h 56 (1) = ρ 5 := qrv hm 2 rfl (by decide) (by decide +kernel) (by show (1 + 0 : Int) = ((1 : Nat) : Int); omega)
  have q6 : rv h 606 (m) = ρ 6 := qrv hm 3 rfl (by decide) (by decide +kernel) (by show (0 + (1 * ρ 3 + 0) : Int) = ((m : Nat) : Int); omega)
  have q7 : rv h 607 (6 * t + m) = ρ 7 := qrv hm 4 rfl (by decide) (by decide +kernel) (by show (0 + (6 * ρ 1 + (1 * ρ 3 + 0)) : Int) = ((6 * t + m : Nat) : Int); omega)
  have q8 : rv h 608 (6 * t + m) = ρ 8 := qrv hm 5 rfl (by decide) (by decide +kernel) (by show (0 + (6 * ρ 1 + (1 * ρ 3 + 0)) : Int) = ((6 * t + m : Nat) : Int); omega)
  have q9 : rv h 607 (6 * t + w) = ρ 9 := qrv hm 6 rfl (by decide) (by decide +kernel) (by show (0 + (6 * ρ 1 + (1 * ρ 6 + 0)) : Int) = ((6 * t + w : Nat) : Int); omega)
  have q10 : rv h 608 (6 * t + w) = ρ 10 := qrv hm 7 rfl (by decide) (by decide +kernel) (by show (0 + (6 * ρ 1 + (1 * ρ 6 + 0)) : Int) = ((6 * t + w : Nat) : Int); omega)
  obtain ⟨n, H, g0, g1, g2, g3, g4, g5, g6, g7, g8, g9, g10, gW, gS, gA, gO, gD, gU, gQ, gV⟩ := t0
  have hM : ρ 4 = (n : Int) := q4.symm.trans g0
  have hH : ρ 5 = (H : Int) := q5.symm.trans g1
  have hmn : m < n := by omega
  have htH : t < H := by omega
  obtain ⟨-, -, -, -, p0, p1⟩ := g6 m hmn
  obtain ⟨-, w1, -⟩ := nWt_lt hmn p0 p1 g7
  have w2 := gW m hmn
  rw [q6] at w2
  have ew : nWt n (rv h 13) m = w := by omega
  have hwn : w < n := by omega
  have kA := gA t m htH hmn
  have kO := gO t m htH hmn
  have lA := gA t w htH hwn
  have lO := gO t w htH hwn
  rw [q7] at kA
  rw [q8] at kO
  rw [q9] at lA
  rw [q10] at lO
  unfold nA at kA lA
  unfold nS at kO lO
  have z := nSo_b (n := n) (ne := rv h 55) (bd := rv h 8) (pl := rv h 13) (S := nSt n (rv h 56 2) (rv h 54 5) (rv h 15 9) (rv h 55) (rv h 8) (rv h 9) (rv h 10) (rv h 13) (rv h 620) (fun a m => rv h (610 + a) m) t) (h := t) (m := m)
  have y := nSo_b (n := n) (ne := rv h 55) (bd := rv h 8) (pl := rv h 13) (S := nSt n (rv h 56 2) (rv h 54 5) (rv h 15 9) (rv h 55) (rv h 8) (rv h 9) (rv h 10) (rv h 13) (rv h 620) (fun a m => rv h (610 + a) m) t) (h := t) (m := w)
  rw [ew] at z
  rcases z with ⟨z1, z2⟩ | ⟨z1, z2, z3⟩ | ⟨z1, z2, z3⟩
  · rw [z1, if_neg (by decide)] at kA
    rw [z2] at kO
    rcases Nat.lt_or_ge w m with u | u
    · exact ⟨_, List.mem_of_getElem? (i := 0) rfl, rfl, rfl, (pAll1 (show (1 + ((-1) * ρ 4 + (1 * ρ 6 + 0)) : Int) ≤ 0 by omega) (pAll1 (show (1 + ((-6) * ρ 1 + (1 * ρ 2 + ((-1) * ρ 4 + (1 * ρ 6 + 0)))) : Int) ≤ 0 by omega) (pAll1 (show (0 + (6 * ρ 1 + ((-1) * ρ 2 + ((-1) * ρ 6 + 0))) : Int) ≤ 0 by omega) (pAll1 (show (1 + ((-1) * ρ 3 + (1 * ρ 6 + 0)) : Int) ≤ 0 by omega) (pAll1 (show (1 + ((-6) * ρ 1 + (1 * ρ 2 + ((-1) * ρ 3 + (1 * ρ 6 + 0)))) : Int) ≤ 0 by omega) (pAll1 (show (0 + (1 * ρ 7 + 0) : Int) ≤ 0 by omega) (pAll1 (show (0 + ((-1) * ρ 7 + 0) : Int) ≤ 0 by omega) (pAll1 (show (0 + (1 * ρ 8 + 0) : Int) ≤ 0 by omega) (pAll1 (show (0 + ((-1) * ρ 8 + 0) : Int) ≤ 0 by omega) pAll0))))))))), pAll0⟩
    · exact ⟨_, List.mem_of_getElem? (i := 3) rfl, rfl, rfl, (pAll1 (show (1 + ((-1) * ρ 4 + (1 * ρ 6 + 0)) : Int) ≤ 0 by omega) (pAll1 (show (1 + ((-6) * ρ 1 + (1 * ρ 2 + ((-1) * ρ 4 + (1 * ρ 6 + 0)))) : Int) ≤ 0 by omega) (pAll1 (show (0 + (6 * ρ 1 + ((-1) * ρ 2 + ((-1) * ρ 6 + 0))) : Int) ≤ 0 by omega) (pAll1 (show (0 + (1 * ρ 3 + ((-1) * ρ 6 + 0)) : Int) ≤ 0 by omega) (pAll1 (show (0 + (6 * ρ 1 + ((-1) * ρ 2 + (1 * ρ 3 + ((-1) * ρ 6 + 0)))) : Int) ≤ 0 by omega) (pAll1 (show (0 + (1 * ρ 7 + 0) : Int) ≤ 0 by omega) (pAll1 (show (0 + ((-1) * ρ 7 + 0) : Int) ≤ 0 by omega) (pAll1 (show (0 + (1 * ρ 8 + 0) : Int) ≤ 0 by omega) (pAll1 (show (0 + ((-1) * ρ 8 + 0) : Int) ≤ 0 by omega) pAll0))))))))), pAll0⟩
  · rw [z1, if_pos rfl] at kA
    rw [z2, if_neg (by decide)] at lA
    rw [z3] at kO
    rcases y with ⟨y1, y2⟩ | ⟨y1, y2, y3⟩ | ⟨y1, y2, y3⟩
    · rw [y2] at lO
      rcases Nat.lt_or_ge w m with u | u
      · exact ⟨_, List.mem_of_getElem? (i := 1) rfl, rfl, rfl, (pAll1 (show (1 + ((-1) * ρ 4 + (1 * ρ 6 + 0)) : Int) ≤ 0 by omega) (pAll1 (show (1 + ((-6) * ρ 1 + (1 * ρ 2 + ((-1) * ρ 4 + (1 * ρ 6 + 0)))) : Int) ≤ 0 by omega) (pAll1 (show (0 + (6 * ρ 1 + ((-1) * ρ 2 + ((-1) * ρ 6 + 0))) : Int) ≤ 0 by omega) (pAll1 (show (1 + ((-1) * ρ 3 + (1 * ρ 6 + 0)) : Int) ≤ 0 by omega) (pAll1 (show (1 + ((-6) * ρ 1 + (1 * ρ 2 + ((-1) * ρ 3 + (1 * ρ 6 + 0)))) : Int) ≤ 0 by omega) (pAll1 (show ((-1) + (1 * ρ 7 + 0) : Int) ≤ 0 by omega) (pAll1 (show (1 + ((-1) * ρ 7 + 0) : Int) ≤ 0 by omega) (pAll1 (show (0 + (1 * ρ 9 + 0) : Int) ≤ 0 by omega) (pAll1 (show (0 + ((-1) * ρ 9 + 0) : Int) ≤ 0 by omega) (pAll1 (show (0 + (1 * ρ 10 + 0) : Int) ≤ 0 by omega) (pAll1 (show (0 + ((-1) * ρ 10 + 0) : Int) ≤ 0 by omega) (pAll1 (show ((-2) + (1 * ρ 8 + 0) : Int) ≤ 0 by omega) (pAll1 (show (2 + ((-1) * ρ 8 + 0) : Int) ≤ 0 by omega) pAll0))))))))))))), pAll0⟩
      · exact ⟨_, List.mem_of_getElem? (i := 4) rfl, rfl, rfl, (pAll1 (show (1 + ((-1) * ρ 4 + (1 * ρ 6 + 0)) : Int) ≤ 0 by omega) (pAll1 (show (1 + ((-6) * ρ 1 + (1 * ρ 2 + ((-1) * ρ 4 + (1 * ρ 6 + 0)))) : Int) ≤ 0 by omega) (pAll1 (show (0 + (6 * ρ 1 + ((-1) * ρ 2 + ((-1) * ρ 6 + 0))) : Int) ≤ 0 by omega) (pAll1 (show (0 + (1 * ρ 3 + ((-1) * ρ 6 + 0)) : Int) ≤ 0 by omega) (pAll1 (show (0 + (6 * ρ 1 + ((-1) * ρ 2 + (1 * ρ 3 + ((-1) * ρ 6 + 0)))) : Int) ≤ 0 by omega) (pAll1 (show ((-1) + (1 * ρ 7 + 0) : Int) ≤ 0 by omega) (pAll1 (show (1 + ((-1) * ρ 7 + 0) : Int) ≤ 0 by omega) (pAll1 (show (0 + (1 * ρ 9 + 0) : Int) ≤ 0 by omega) (pAll1 (show (0 + ((-1) * ρ 9 + 0) : Int) ≤ 0 by omega) (pAll1 (show (0 + (1 * ρ 10 + 0) : Int) ≤ 0 by omega) (pAll1 (show (0 + ((-1) * ρ 10 + 0) : Int) ≤ 0 by omega) (pAll1 (show ((-2) + (1 * ρ 8 + 0) : Int) ≤ 0 by omega) (pAll1 (show (2 + ((-1) * ρ 8 + 0) : Int) ≤ 0 by omega) pAll0))))))))))))), pAll0⟩
    · rw [z2] at y1
      cases y1
    · rw [z2] at y1
      cases y1
  · rw [z1, if_pos rfl] at kA
    rw [z2, if_pos rfl] at lA
    rw [z3] at kO
    rcases y with ⟨y1, y2⟩ | ⟨y1, y2, y3⟩ | ⟨y1, y2, y3⟩
    · rw [z2] at y1
      cases y1
    · rw [y3] at lO
      rcases Nat.lt_or_ge w m with u | u
      · exact ⟨_, List.mem_of_getElem? (i := 2) rfl, rfl, rfl, (pAll1 (show (1 + ((-1) * ρ 4 + (1 * ρ 6 + 0)) : Int) ≤ 0 by omega) (pAll1 (show (1 + ((-6) * ρ 1 + (1 * ρ 2 + ((-1) * ρ 4 + (1 * ρ 6 + 0)))) : Int) ≤ 0 by omega) (pAll1 (show (0 + (6 * ρ 1 + ((-1) * ρ 2 + ((-1) * ρ 6 + 0))) : Int) ≤ 0 by omega) (pAll1 (show (1 + ((-1) * ρ 3 + (1 * ρ 6 + 0)) : Int) ≤ 0 by omega) (pAll1 (show (1 + ((-6) * ρ 1 + (1 * ρ 2 + ((-1) * ρ 3 + (1 * ρ 6 + 0)))) : Int) ≤ 0 by omega) (pAll1 (show ((-1) + (1 * ρ 7 + 0) : Int) ≤ 0 by omega) (pAll1 (show (1 + ((-1) * ρ 7 + 0) : Int) ≤ 0 by omega) (pAll1 (show ((-1) + (1 * ρ 9 + 0) : Int) ≤ 0 by omega) (pAll1 (show (1 + ((-1) * ρ 9 + 0) : Int) ≤ 0 by omega) (pAll1 (show (1 + ((-1) * ρ 10 + 0) : Int) ≤ 0 by omega) (pAll1 (show ((-1) + (1 * ρ 8 + 0) : Int) ≤ 0 by omega) (pAll1 (show (1 + ((-1) * ρ 8 + 0) : Int) ≤ 0 by omega) pAll0)))))))))))), pAll0⟩
      · exact ⟨_, List.mem_of_getElem? (i := 5) rfl, rfl, rfl, (pAll1 (show (1 + ((-1) * ρ 4 + (1 * ρ 6 + 0)) : Int) ≤ 0 by omega) (pAll1 (show (1 + ((-6) * ρ 1 + (1 * ρ 2 + ((-1) * ρ 4 + (1 * ρ 6 + 0)))) : Int) ≤ 0 by omega) (pAll1 (show (0 + (6 * ρ 1 + ((-1) * ρ 2 + ((-1) * ρ 6 + 0))) : Int) ≤ 0 by omega) (pAll1 (show (0 + (1 * ρ 3 + ((-1) * ρ 6 + 0)) : Int) ≤ 0 by omega) (pAll1 (show (0 + (6 * ρ 1 + ((-1) * ρ 2 + (1 * ρ 3 + ((-1) * ρ 6 + 0)))) : Int) ≤ 0 by omega) (pAll1 (show ((-1) + (1 * ρ 7 + 0) : Int) ≤ 0 by omega) (pAll1 (show (1 + ((-1) * ρ 7 + 0) : Int) ≤ 0 by omega) (pAll1 (show ((-1) + (1 * ρ 9 + 0) : Int) ≤ 0 by omega) (pAll1 (show (1 + ((-1) * ρ 9 + 0) : Int) ≤ 0 by omega) (pAll1 (show (1 + ((-1) * ρ 10 + 0) : Int) ≤ 0 by omega) (pAll1 (show ((-1) + (1 * ρ 8 + 0) : Int) ≤ 0 by omega) (pAll1 (show (1 + ((-1) * ρ 8 + 0) : Int) ≤ 0 by omega) pAll0)))))))))))), pAll0⟩
    · rw [y3] at lO
      rcases Nat.lt_or_ge w m with u | u
      · exact ⟨_, List.mem_of_getElem? (i := 2) rfl, rfl, rfl, (pAll1 (show (1 + ((-1) * ρ 4 + (1 * ρ 6 + 0)) : Int) ≤ 0 by omega) (pAll1 (show (1 + ((-6) * ρ 1 + (1 * ρ 2 + ((-1) * ρ 4 + (1 * ρ 6 + 0)))) : Int) ≤ 0 by omega) (pAll1 (show (0 + (6 * ρ 1 + ((-1) * ρ 2 + ((-1) * ρ 6 + 0))) : Int) ≤ 0 by omega) (pAll1 (show (1 + ((-1) * ρ 3 + (1 * ρ 6 + 0)) : Int) ≤ 0 by omega) (pAll1 (show (1 + ((-6) * ρ 1 + (1 * ρ 2 + ((-1) * ρ 3 + (1 * ρ 6 + 0)))) : Int) ≤ 0 by omega) (pAll1 (show ((-1) + (1 * ρ 7 + 0) : Int) ≤ 0 by omega) (pAll1 (show (1 + ((-1) * ρ 7 + 0) : Int) ≤ 0 by omega) (pAll1 (show ((-1) + (1 * ρ 9 + 0) : Int) ≤ 0 by omega) (pAll1 (show (1 + ((-1) * ρ 9 + 0) : Int) ≤ 0 by omega) (pAll1 (show (1 + ((-1) * ρ 10 + 0) : Int) ≤ 0 by omega) (pAll1 (show ((-1) + (1 * ρ 8 + 0) : Int) ≤ 0 by omega) (pAll1 (show (1 + ((-1) * ρ 8 + 0) : Int) ≤ 0 by omega) pAll0)))))))))))), pAll0⟩
      · exact ⟨_, List.mem_of_getElem? (i := 5) rfl, rfl, rfl, (pAll1 (show (1 + ((-1) * ρ 4 + (1 * ρ 6 + 0)) : Int) ≤ 0 by omega) (pAll1 (show (1 + ((-6) * ρ 1 + (1 * ρ 2 + ((-1) * ρ 4 + (1 * ρ 6 + 0)))) : Int) ≤ 0 by omega) (pAll1 (show (0 + (6 * ρ 1 + ((-1) * ρ 2 + ((-1) * ρ 6 + 0))) : Int) ≤ 0 by omega) (pAll1 (show (0 + (1 * ρ 3 + ((-1) * ρ 6 + 0)) : Int) ≤ 0 by omega) (pAll1 (show (0 + (6 * ρ 1 + ((-1) * ρ 2 + (1 * ρ 3 + ((-1) * ρ 6 + 0)))) : Int) ≤ 0 by omega) (pAll1 (show ((-1) + (1 * ρ 7 + 0) : Int) ≤ 0 by omega) (pAll1 (show (1 + ((-1) * ρ 7 + 0) : Int) ≤ 0 by omega) (pAll1 (show ((-1) + (1 * ρ 9 + 0) : Int) ≤ 0 by omega) (pAll1 (show (1 + ((-1) * ρ 9 + 0) : Int) ≤ 0 by omega) (pAll1 (show (1 + ((-1) * ρ 10 + 0) : Int) ≤ 0 by omega) (pAll1 (show ((-1) + (1 * ρ 8 + 0) : Int) ≤ 0 by omega) (pAll1 (show (1 + ((-1) * ρ 8 + 0) : Int) ≤ 0 by omega) pAll0)))))))))))), pAll0⟩)

theorem qR_intrial_ok (h60 : ∀ x y h, gv 63 x y h → nGh 8 9 10 13 15 9 h) : pRulQ pReg qG gv qR_intrial := qrul (by decide +kernel) (fun h ρ hG hm hb hc => by
  have b0 : (1 : Int) ≤ ρ 0 ∧ ρ 0 ≤ 1 := hb 0 (1, 1) rfl
  have b1 : (0 : Int) ≤ ρ 1 ∧ ρ 1 ≤ 5 := hb 1 (0, 5) rfl
  have b2 : (2 : Int) ≤ ρ 2 ∧ ρ 2 ≤ 6 := hb 2 (2, 6) rfl
  have b3 : ((-2147483648) : Int) ≤ ρ 3 ∧ ρ 3 ≤ 2147483647 := hb 3 ((-2147483648), 2147483647) rfl
  have b4 : ((-2147483648) : Int) ≤ ρ 4 ∧ ρ 4 ≤ 2147483647 := hb 4 ((-2147483648), 2147483647) rfl
  have b5 : ((-2147483648) : Int) ≤ ρ 5 ∧ ρ 5 ≤ 2147483647 := hb 5 ((-2147483648), 2147483647) rfl
  have b6 : ((-2147483648) : Int) ≤ ρ 6 ∧ ρ 6 ≤ 2147483647 := hb 6 ((-2147483648), 2147483647) rfl
  have c0 : (1 + (1 * ρ 1 + ((-1) * ρ 2 + 0)) : Int) ≤ 0 := hc _ (List.mem_of_getElem? (i := 0) rfl)
  obtain ⟨m, e_m⟩ : ∃ x : Nat, ρ 1 = (x : Int) := ⟨(ρ 1).toNat, by omega⟩
  have t0 := h60 _ _ _ (qtl (a := 63) hm 0 rfl (by decide))
  have q2 : rv h 56 (0) = ρ 2 := qrv hm 1 rfl (by decide) (by decide +kernel) (by show (0 + 0 : Int) = ((0 : Nat) : Int); omega)
  have q3 : rv h 610 (m) = ρ 3 := qrv hm 2 rfl (by decide) (by decide +kernel) (by show (0 + (1 * ρ 1 + 0) : Int) = ((m : Nat) : Int); omega)
  have q4 : rv h 611 (m) = ρ 4 := qrv hm 3 rfl (by decide) (by decide +kernel) (by show (0 + (1 * ρ 1 + 0) : Int) = ((m : Nat) : Int); omega)
  have q5 : rv h 612 (m) = ρ 5 := qrv hm 4 rfl (by decide) (by decide +kernel) (by show (0 + (1 * ρ 1 + 0) : Int) = ((m : Nat) : Int); omega)
  have q6 : rv h 613 (m) = ρ 6 := qrv hm 5 rfl (by decide) (by decide +kernel) (by show (0 + (1 * ρ 1 + 0) : Int) = ((m : Nat) : Int); omega)
  obtain ⟨n, H, g0, g1, g2, g3, g4, g5, g6, g7, g8, g9, g10, gW, gS, gA, gO, gD, gU, gQ, gV⟩ := t0
  have hM : ρ 2 = (n : Int) := q2.symm.trans g0
  have hmn : m < n := by omega
  have k0 := gS 0 m 0 (by omega) (by omega) (by decide)
  rw [show 610 + 0 = 610 from rfl, show 6 * 0 + m = m by omega, q3] at k0
  simp [nSt, hmn] at k0
  have k1 := gS 0 m 1 (by omega) (by omega) (by decide)
  rw [show 610 + 1 = 611 from rfl, show 6 * 0 + m = m by omega, q4] at k1
  simp [nSt, hmn] at k1
  have k2 := gS 0 m 2 (by omega) (by omega) (by decide)
  rw [show 610 + 2 = 612 from rfl, show 6 * 0 + m = m by omega, q5] at k2
  simp [nSt, hmn] at k2
  have k3 := gS 0 m 3 (by omega) (by omega) (by decide)
  rw [show 610 + 3 = 613 from rfl, show 6 * 0 + m = m by omega, q6] at k3
  simp [nSt, hmn] at k3
  exact ⟨_, List.mem_of_getElem? (i := 0) rfl, rfl, rfl, (pAll1 (show (0 + (1 * ρ 3 + 0) : Int) ≤ 0 by omega) (pAll1 (show (0 + ((-1) * ρ 3 + 0) : Int) ≤ 0 by omega) (pAll1 (show (1 + (1 * ρ 4 + 0) : Int) ≤ 0 by omega) (pAll1 (show ((-1) + ((-1) * ρ 4 + 0) : Int) ≤ 0 by omega) (pAll1 (show (0 + (1 * ρ 5 + 0) : Int) ≤ 0 by omega) (pAll1 (show (0 + ((-1) * ρ 5 + 0) : Int) ≤ 0 by omega) (pAll1 (show (0 + (1 * ρ 6 + 0) : Int) ≤ 0 by omega) (pAll1 (show (0 + ((-1) * ρ 6 + 0) : Int) ≤ 0 by omega) pAll0)))))))), pAll0⟩)

theorem qR_in0trial_ok (h60 : ∀ x y h, gv 63 x y h → nGh 8 9 10 13 15 9 h) : pRulQ pReg qG gv qR_in0trial := qrul (by decide +kernel) (fun h ρ hG hm hb hc => by
  have b0 : (1 : Int) ≤ ρ 0 ∧ ρ 0 ≤ 1 := hb 0 (1, 1) rfl
  have b1 : (0 : Int) ≤ ρ 1 ∧ ρ 1 ≤ 60 := hb 1 (0, 60) rfl
  have b2 : (0 : Int) ≤ ρ 2 ∧ ρ 2 ≤ 60 := hb 2 (0, 60) rfl
  have b3 : (0 : Int) ≤ ρ 3 ∧ ρ 3 ≤ 10 := hb 3 (0, 10) rfl
  have t0 := h60 _ _ _ (qtl (a := 63) hm 0 rfl (by decide))
  have q1 : rv h 614 (0) = ρ 1 := qrv hm 1 rfl (by decide) (by decide +kernel) (by show (0 + 0 : Int) = ((0 : Nat) : Int); omega)
  have q2 : rv h 615 (0) = ρ 2 := qrv hm 2 rfl (by decide) (by decide +kernel) (by show (0 + 0 : Int) = ((0 : Nat) : Int); omega)
  have q3 : rv h 616 (0) = ρ 3 := qrv hm 3 rfl (by decide) (by decide +kernel) (by show (0 + 0 : Int) = ((0 : Nat) : Int); omega)
  obtain ⟨n, H, g0, g1, g2, g3, g4, g5, g6, g7, g8, g9, g10, gW, gS, gA, gO, gD, gU, gQ, gV⟩ := t0
  have ku := gU 0 (by omega)
  have kq := gQ 0 (by omega)
  rw [q1, q2] at ku
  rw [q3] at kq
  simp [nUN, nOP, nCt] at ku
  simp [nQU, nCt] at kq
  obtain ⟨ku1, ku2⟩ := ku
  exact ⟨_, List.mem_of_getElem? (i := 0) rfl, rfl, rfl, (pAll1 (show (0 + (1 * ρ 1 + 0) : Int) ≤ 0 by omega) (pAll1 (show (0 + ((-1) * ρ 1 + 0) : Int) ≤ 0 by omega) (pAll1 (show (0 + (1 * ρ 2 + 0) : Int) ≤ 0 by omega) (pAll1 (show (0 + ((-1) * ρ 2 + 0) : Int) ≤ 0 by omega) (pAll1 (show (0 + (1 * ρ 3 + 0) : Int) ≤ 0 by omega) (pAll1 (show (0 + ((-1) * ρ 3 + 0) : Int) ≤ 0 by omega) pAll0)))))), pAll0⟩)

theorem qR_aw0trial_ok (h60 : ∀ x y h, gv 63 x y h → nGh 8 9 10 13 15 9 h) : pRulQ pReg qG gv qR_aw0trial := qrul (by decide +kernel) (fun h ρ hG hm hb hc => by
  have b0 : (1 : Int) ≤ ρ 0 ∧ ρ 0 ≤ 1 := hb 0 (1, 1) rfl
  have b1 : (0 : Int) ≤ ρ 1 ∧ ρ 1 ≤ 9 := hb 1 (0, 9) rfl
  have b2 : (0 : Int) ≤ ρ 2 ∧ ρ 2 ≤ 1 := hb 2 (0, 1) rfl
  obtain ⟨t, e_t⟩ : ∃ x : Nat, ρ 1 = (x : Int) := ⟨(ρ 1).toNat, by omega⟩
  have t0 := h60 _ _ _ (qtl (a := 63) hm 0 rfl (by decide))
  have q2 : rv h 617 (7 * t) = ρ 2 := qrv hm 1 rfl (by decide) (by decide +kernel) (by show (0 + (7 * ρ 1 + 0) : Int) = ((7 * t : Nat) : Int); omega)
  obtain ⟨n, H, g0, g1, g2, g3, g4, g5, g6, g7, g8, g9, g10, gW, gS, gA, gO, gD, gU, gQ, gV⟩ := t0
  have k := gV t 0 (by omega)
  rw [show 7 * t + 0 = 7 * t by omega, q2] at k
  simp [nAW] at k
  exact ⟨_, List.mem_of_getElem? (i := 0) rfl, rfl, rfl, (pAll1 (show (0 + (1 * ρ 2 + 0) : Int) ≤ 0 by omega) (pAll1 (show (0 + ((-1) * ρ 2 + 0) : Int) ≤ 0 by omega) pAll0)), pAll0⟩)

theorem qR_awtrial_ok (h60 : ∀ x y h, gv 63 x y h → nGh 8 9 10 13 15 9 h) : pRulQ pReg qG gv qR_awtrial := qrul (by decide +kernel) (fun h ρ hG hm hb hc => by
  have b0 : (1 : Int) ≤ ρ 0 ∧ ρ 0 ≤ 1 := hb 0 (1, 1) rfl
  have b1 : (0 : Int) ≤ ρ 1 ∧ ρ 1 ≤ 9 := hb 1 (0, 9) rfl
  have b2 : (0 : Int) ≤ ρ 2 ∧ ρ 2 ≤ 5 := hb 2 (0, 5) rfl
  have b3 : (2 : Int) ≤ ρ 3 ∧ ρ 3 ≤ 6 := hb 3 (2, 6) rfl
  have b4 : (4 : Int) ≤ ρ 4 ∧ ρ 4 ≤ 10 := hb 4 (4, 10) rfl
  have b5 : (0 : Int) ≤ ρ 5 ∧ ρ 5 ≤ 2 := hb 5 (0, 2) rfl
  have b6 : (0 : Int) ≤ ρ 6 ∧ ρ 6 ≤ 1 := hb 6 (0, 1) rfl
  have b7 : (0 : Int) ≤ ρ 7 ∧ ρ 7 ≤ 1 := hb 7 (0, 1) rfl
  have c0 : (1 + (1 * ρ 2 + ((-1) * ρ 3 + 0)) : Int) ≤ 0 := hc _ (List.mem_of_getElem? (i := 0) rfl)
  have c1 : (1 + (1 * ρ 1 + ((-1) * ρ 4 + 0)) : Int) ≤ 0 := hc _ (List.mem_of_getElem? (i := 1) rfl)
  obtain ⟨t, e_t⟩ : ∃ x : Nat, ρ 1 = (x : Int) := ⟨(ρ 1).toNat, by omega⟩
  obtain ⟨m, e_m⟩ : ∃ x : Nat, ρ 2 = (x : Int) := ⟨(ρ 2).toNat, by omega⟩
  have t0 := h60 _ _ _ (qtl (a := 63) hm 0 rfl (by decide))
  have q3 : rv h 56 (0) = ρ 3 := qrv hm 1 rfl (by decide) (by decide +kernel) (by show (0 + 0 : Int) = ((0 : Nat) : Int); omega)
  have q4 : rv h 56 (1) = ρ 4 := qrv hm 2 rfl (by decide) (by decide +kernel) (by show (1 + 0 : Int) = ((1 : Nat) : Int); omega)
  have q5 : rv h 608 (6 * t + m) = ρ 5 := qrv hm 3 rfl (by decide) (by decide +kernel) (by show (0 + (6 * ρ 1 + (1 * ρ 2 + 0)) : Int) = ((6 * t + m : Nat) : Int); omega)
  have q6 : rv h 617 (7 * t + m) = ρ 6 := qrv hm 4 rfl (by decide) (by decide +kernel) (by show (0 + (7 * ρ 1 + (1 * ρ 2 + 0)) : Int) = ((7 * t + m : Nat) : Int); omega)
  have q7 : rv h 617 (7 * t + m + 1) = ρ 7 := qrv hm 5 rfl (by decide) (by decide +kernel) (by show (1 + (7 * ρ 1 + (1 * ρ 2 + 0)) : Int) = ((7 * t + m + 1 : Nat) : Int); omega)
  obtain ⟨n, H, g0, g1, g2, g3, g4, g5, g6, g7, g8, g9, g10, gW, gS, gA, gO, gD, gU, gQ, gV⟩ := t0
  have hM : ρ 3 = (n : Int) := q3.symm.trans g0
  have hH : ρ 4 = (H : Int) := q4.symm.trans g1
  have hmn : m < n := by omega
  have htH : t < H := by omega
  have k := gV t m (by omega)
  have k2 := gV t (m + 1) (by omega)
  rw [q6] at k
  rw [show 7 * t + (m + 1) = 7 * t + m + 1 by omega, q7] at k2
  have kO := gO t m htH hmn
  rw [q5] at kO
  unfold nAW at k2
  rw [← k, ← kO] at k2
  by_cases z : ρ 5 = 2
  · rw [if_pos z] at k2
    exact ⟨_, List.mem_of_getElem? (i := 0) rfl, rfl, rfl, (pAll1 (show ((-2) + (1 * ρ 5 + 0) : Int) ≤ 0 by omega) (pAll1 (show (2 + ((-1) * ρ 5 + 0) : Int) ≤ 0 by omega) (pAll1 (show ((-1) + (1 * ρ 7 + 0) : Int) ≤ 0 by omega) (pAll1 (show (1 + ((-1) * ρ 7 + 0) : Int) ≤ 0 by omega) pAll0)))), pAll0⟩
  · rw [if_neg z] at k2
    exact ⟨_, List.mem_of_getElem? (i := 1) rfl, rfl, rfl, (pAll1 (show ((-1) + (1 * ρ 5 + 0) : Int) ≤ 0 by omega) (pAll1 (show (0 + ((-1) * ρ 6 + (1 * ρ 7 + 0)) : Int) ≤ 0 by omega) (pAll1 (show (0 + (1 * ρ 6 + ((-1) * ρ 7 + 0)) : Int) ≤ 0 by omega) pAll0))), pAll0⟩)

theorem qR_nxtrial_ok (h60 : ∀ x y h, gv 63 x y h → nGh 8 9 10 13 15 9 h) : pRulQ pReg qG gv qR_nxtrial := qrul (by decide +kernel) (fun h ρ hG hm hb hc => by
  have b0 : (1 : Int) ≤ ρ 0 ∧ ρ 0 ≤ 1 := hb 0 (1, 1) rfl
  have b1 : (0 : Int) ≤ ρ 1 ∧ ρ 1 ≤ 9 := hb 1 (0, 9) rfl
  have b2 : (0 : Int) ≤ ρ 2 ∧ ρ 2 ≤ 5 := hb 2 (0, 5) rfl
  have b3 : (2 : Int) ≤ ρ 3 ∧ ρ 3 ≤ 6 := hb 3 (2, 6) rfl
  have b4 : (4 : Int) ≤ ρ 4 ∧ ρ 4 ≤ 10 := hb 4 (4, 10) rfl
  have b5 : (1 : Int) ≤ ρ 5 ∧ ρ 5 ≤ 20 := hb 5 (1, 20) rfl
  have b6 : (0 : Int) ≤ ρ 6 ∧ ρ 6 ≤ 2 := hb 6 (0, 2) rfl
  have b7 : ((-1) : Int) ≤ ρ 7 ∧ ρ 7 ≤ 20 := hb 7 ((-1), 20) rfl
  have b8 : ((-2147483648) : Int) ≤ ρ 8 ∧ ρ 8 ≤ 2147483647 := hb 8 ((-2147483648), 2147483647) rfl
  have b9 : ((-2147483648) : Int) ≤ ρ 9 ∧ ρ 9 ≤ 2147483647 := hb 9 ((-2147483648), 2147483647) rfl
  have b10 : ((-2147483648) : Int) ≤ ρ 10 ∧ ρ 10 ≤ 2147483647 := hb 10 ((-2147483648), 2147483647) rfl
  have b11 : ((-2147483648) : Int) ≤ ρ 11 ∧ ρ 11 ≤ 2147483647 := hb 11 ((-2147483648), 2147483647) rfl
  have b12 : ((-2147483648) : Int) ≤ ρ 12 ∧ ρ 12 ≤ 2147483647 := hb 12 ((-2147483648), 2147483647) rfl
  have b13 : ((-2147483648) : Int) ≤ ρ 13 ∧ ρ 13 ≤ 2147483647 := hb 13 ((-2147483648), 2147483647) rfl
  have b14 : ((-2147483648) : Int) ≤ ρ 14 ∧ ρ 14 ≤ 2147483647 := hb 14 ((-2147483648), 2147483647) rfl
  have b15 : ((-2147483648) : Int) ≤ ρ 15 ∧ ρ 15 ≤ 2147483647 := hb 15 ((-2147483648), 2147483647) rfl
  have b16 : (0 : Int) ≤ ρ 16 ∧ ρ 16 ≤ 60 := hb 16 (0, 60) rfl
  have b17 : (0 : Int) ≤ ρ 17 ∧ ρ 17 ≤ 60 := hb 17 (0, 60) rfl
  have b18 : (0 : Int) ≤ ρ 18 ∧ ρ 18 ≤ 60 := hb 18 (0, 60) rfl
  have b19 : (0 : Int) ≤ ρ 19 ∧ ρ 19 ≤ 60 := hb 19 (0, 60) rfl
  have c0 : (1 + (1 * ρ 2 + ((-1) * ρ 3 + 0)) : Int) ≤ 0 := hc _ (List.mem_of_getElem? (i := 0) rfl)
  have c1 : (1 + (1 * ρ 1 + ((-1) * ρ 4 + 0)) : Int) ≤ 0 := hc _ (List.mem_of_getElem? (i := 1) rfl)
  have c2 : (1 + ((-1) * ρ 6 + 0) : Int) ≤ 0 := hc _ (List.mem_of_getElem? (i := 2) rfl)
  obtain ⟨t, e_t⟩ : ∃ x : Nat, ρ 1 = (x : Int) := ⟨(ρ 1).toNat, by omega⟩
  obtain ⟨m, e_m⟩ : ∃ x : Nat, ρ 2 = (x : Int) := ⟨(ρ 2).toNat, by omega⟩
  have t0 := h60 _ _ _ (qtl (a := 63) hm 0 rfl (by decide))
  have q3 : rv h 56 (0) = ρ 3 := qrv hm 1 rfl (by decide) (by decide +kernel) (by show (0 + 0 : Int) = ((0 : Nat) : Int); omega)
  have q4 : rv h 56 (1) = ρ 4 := qrv hm 2 rfl (by decide) (by decide +kernel) (by show (1 + 0 : Int) = ((1 : Nat) : Int); omega)
  have q5 : rv h 56 (2) = ρ 5 := qrv hm 3 rfl (by decide) (by decide +kernel) (by show (2 + 0 : Int) = ((2 : Nat) : Int); omega)
  have q6 : rv h 608 (6 * t + m) = ρ 6 := qrv hm 4 rfl (by decide) (by decide +kernel) (by show (0 + (6 * ρ 1 + (1 * ρ 2 + 0)) : Int) = ((6 * t + m : Nat) : Int); omega)
  have q7 : rv h 609 (6 * t + m) = ρ 7 := qrv hm 5 rfl (by decide) (by decide +kernel) (by show (0 + (6 * ρ 1 + (1 * ρ 2 + 0)) : Int) = ((6 * t + m : Nat) : Int); omega)
  have q8 : rv h 610 (6 * t + m) = ρ 8 := qrv hm 6 rfl (by decide) (by decide +kernel) (by show (0 + (6 * ρ 1 + (1 * ρ 2 + 0)) : Int) = ((6 * t + m : Nat) : Int); omega)
  have q9 : rv h 611 (6 * t + m) = ρ 9 := qrv hm 7 rfl (by decide) (by decide +kernel) (by show (0 + (6 * ρ 1 + (1 * ρ 2 + 0)) : Int) = ((6 * t + m : Nat) : Int); omega)
  have q10 : rv h 612 (6 * t + m) = ρ 10 := qrv hm 8 rfl (by decide) (by decide +kernel) (by show (0 + (6 * ρ 1 + (1 * ρ 2 + 0)) : Int) = ((6 * t + m : Nat) : Int); omega)
  have q11 : rv h 613 (6 * t + m) = ρ 11 := qrv hm 9 rfl (by decide) (by decide +kernel) (by show (0 + (6 * ρ 1 + (1 * ρ 2 + 0)) : Int) = ((6 * t + m : Nat) : Int); omega)
  have q12 : rv h 610 (6 * t + m + 6) = ρ 12 := qrv hm 10 rfl (by decide) (by decide +kernel) (by show (6 + (6 * ρ 1 + (1 * ρ 2 + 0)) : Int) = ((6 * t + m + 6 : Nat) : Int); omega)
  have q13 : rv h 611 (6 * t + m + 6) = ρ 13 := qrv hm 11 rfl (by decide) (by decide +kernel) (by show (6 + (6 * ρ 1 + (1 * ρ 2 + 0)) : Int) = ((6 * t + m + 6 : Nat) : Int); omega)
  have q14 : rv h 612 (6 * t + m + 6) = ρ 14 := qrv hm 12 rfl (by decide) (by decide +kernel) (by show (6 + (6 * ρ 1 + (1 * ρ 2 + 0)) : Int) = ((6 * t + m + 6 : Nat) : Int); omega)
  have q15 : rv h 613 (6 * t + m + 6) = ρ 15 := qrv hm 13 rfl (by decide) (by decide +kernel) (by show (6 + (6 * ρ 1 + (1 * ρ 2 + 0)) : Int) = ((6 * t + m + 6 : Nat) : Int); omega)
  have q16 : rv h 614 (6 * t + m) = ρ 16 := qrv hm 14 rfl (by decide) (by decide +kernel) (by show (0 + (6 * ρ 1 + (1 * ρ 2 + 0)) : Int) = ((6 * t + m : Nat) : Int); omega)
  have q17 : rv h 614 (6 * t + m + 1) = ρ 17 := qrv hm 15 rfl (by decide) (by decide +kernel) (by show (1 + (6 * ρ 1 + (1 * ρ 2 + 0)) : Int) = ((6 * t + m + 1 : Nat) : Int); omega)
  have q18 : rv h 615 (6 * t + m) = ρ 18 := qrv hm 16 rfl (by decide) (by decide +kernel) (by show (0 + (6 * ρ 1 + (1 * ρ 2 + 0)) : Int) = ((6 * t + m : Nat) : Int); omega)
  have q19 : rv h 615 (6 * t + m + 1) = ρ 19 := qrv hm 17 rfl (by decide) (by decide +kernel) (by show (1 + (6 * ρ 1 + (1 * ρ 2 + 0)) : Int) = ((6 * t + m + 1 : Nat) : Int); omega)
  obtain ⟨n, H, g0, g1, g2, g3, g4, g5, g6, g7, g8, g9, g10, gW, gS, gA, gO, gD, gU, gQ, gV⟩ := t0
  have hM : ρ 3 = (n : Int) := q3.symm.trans g0
  have hH : ρ 4 = (H : Int) := q4.symm.trans g1
  have hmn : m < n := by omega
  have htH : t < H := by omega
  have k0 := gS t m 0 (by omega) (by omega) (by decide)
  rw [show 610 + 0 = 610 from rfl, q8] at k0
  have l0 := gS (t + 1) m 0 (by omega) (by omega) (by decide)
  rw [show 610 + 0 = 610 from rfl, show 6 * (t + 1) + m = 6 * t + m + 6 by omega, q12, nSt_s] at l0
  unfold nUp at l0
  have k1 := gS t m 1 (by omega) (by omega) (by decide)
  rw [show 610 + 1 = 611 from rfl, q9] at k1
  have l1 := gS (t + 1) m 1 (by omega) (by omega) (by decide)
  rw [show 610 + 1 = 611 from rfl, show 6 * (t + 1) + m = 6 * t + m + 6 by omega, q13, nSt_s] at l1
  unfold nUp at l1
  have k2 := gS t m 2 (by omega) (by omega) (by decide)
  rw [show 610 + 2 = 612 from rfl, q10] at k2
  have l2 := gS (t + 1) m 2 (by omega) (by omega) (by decide)
  rw [show 610 + 2 = 612 from rfl, show 6 * (t + 1) + m = 6 * t + m + 6 by omega, q14, nSt_s] at l2
  unfold nUp at l2
  have k3 := gS t m 3 (by omega) (by omega) (by decide)
  rw [show 610 + 3 = 613 from rfl, q11] at k3
  have l3 := gS (t + 1) m 3 (by omega) (by omega) (by decide)
  rw [show 610 + 3 = 613 from rfl, show 6 * (t + 1) + m = 6 * t + m + 6 by omega, q15, nSt_s] at l3
  unfold nUp at l3
  have kO := gO t m htH hmn
  rw [q6] at kO
  have kD := gD t m htH hmn
  rw [q7] at kD
  have fO := kO
  have fD := kD
  unfold nS at fO
  unfold nD at fD
  obtain ⟨u1, u2⟩ := gU (6 * t + m) (by omega)
  obtain ⟨u3, u4⟩ := gU (6 * t + m + 1) (by omega)
  rw [q16] at u1
  rw [q18] at u2
  rw [q17] at u3
  rw [q19] at u4
  simp only [nUN, nCt] at u1 u3
  simp only [nOP, nCt] at u2 u4
  rw [← u1] at u3
  rw [← u2] at u4
  simp only [show (6 * t + m) % 6 = m by omega, show (6 * t + m) / 6 = t by omega, ← kO, ← kD] at u3 u4
  simp only [q5] at u3 u4
  have B := nSt_b (n := n) (mare := rv h 56 2) (hold := rv h 54 5) (nt := rv h 15 9) (ne := rv h 55) (bd := rv h 8) (ey := rv h 9) (dm := rv h 10) (pl := rv h 13) (W := rv h 620) (g0 := fun a m => rv h (610 + a) m) hmn t
  rw [← k0, ← k1, ← k2, ← k3] at B
  obtain ⟨B0, B1, B2, B3⟩ := B
  have D := nDr_b (n := n) (hold := rv h 54 5) (nt := rv h 15 9) (ne := rv h 55) (bd := rv h 8) (ey := rv h 9) (dm := rv h 10) (pl := rv h 13) (W := rv h 620) (S := nSt n (rv h 56 2) (rv h 54 5) (rv h 15 9) (rv h 55) (rv h 8) (rv h 9) (rv h 10) (rv h 13) (rv h 620) (fun a m => rv h (610 + a) m) t) (h := t) (m := m)
  rw [← fO, ← fD] at D
  have z := nSo_b (n := n) (ne := rv h 55) (bd := rv h 8) (pl := rv h 13) (S := nSt n (rv h 56 2) (rv h 54 5) (rv h 15 9) (rv h 55) (rv h 8) (rv h 9) (rv h 10) (rv h 13) (rv h 620) (fun a m => rv h (610 + a) m) t) (h := t) (m := m)
  rw [← fO] at z
  simp only [← fO, ← fD, ← k0, ← k1, ← k2, ← k3] at l0 l1 l2 l3
  simp only [q5] at l0 l1 l2 l3
  have zz : (ρ 6 = 0) ∨ ((ρ 6 = 2 ∨ ρ 6 = 1) ∧ ρ 9 = -1) := by
    rcases z with ⟨_, z2⟩ | ⟨z1, _, z3⟩ | ⟨z1, _, z3⟩
    · exact Or.inl z2
    · refine Or.inr ⟨Or.inl z3, ?_⟩
      unfold nAs at z1
      simp only [Bool.and_eq_true, decide_eq_true_eq] at z1
      rw [k1]
      exact z1.2.2
    · refine Or.inr ⟨Or.inr z3, ?_⟩
      unfold nAs at z1
      simp only [Bool.and_eq_true, decide_eq_true_eq] at z1
      rw [k1]
      exact z1.2.2
  rcases zz with z1 | ⟨z1 | z1, z2⟩
  · omega
  · obtain ⟨D1, D2⟩ := D.2 (by omega)
    by_cases y : ρ 5 ≤ ρ 7
    · simp [z1, hmn, y] at l0 l1 l2 l3 u3 u4
      exact ⟨_, List.mem_of_getElem? (i := 3) rfl, rfl, rfl, (pAll1 (show (0 + ((-1) * ρ 8 + 0) : Int) ≤ 0 by omega) (pAll1 (show (0 + ((-1) * ρ 1 + (1 * ρ 8 + 0)) : Int) ≤ 0 by omega) (pAll1 (show ((-1) + ((-1) * ρ 9 + 0) : Int) ≤ 0 by omega) (pAll1 (show (1 + ((-1) * ρ 1 + (1 * ρ 9 + 0)) : Int) ≤ 0 by omega) (pAll1 (show (0 + ((-1) * ρ 10 + 0) : Int) ≤ 0 by omega) (pAll1 (show ((-180) + (1 * ρ 10 + 0) : Int) ≤ 0 by omega) (pAll1 (show (0 + ((-1) * ρ 11 + 0) : Int) ≤ 0 by omega) (pAll1 (show (0 + ((-1) * ρ 1 + (1 * ρ 11 + 0)) : Int) ≤ 0 by omega) (pAll1 (show ((-2) + (1 * ρ 6 + 0) : Int) ≤ 0 by omega) (pAll1 (show (2 + ((-1) * ρ 6 + 0) : Int) ≤ 0 by omega) (pAll1 (show (1 + (1 * ρ 9 + 0) : Int) ≤ 0 by omega) (pAll1 (show ((-1) + ((-1) * ρ 9 + 0) : Int) ≤ 0 by omega) (pAll1 (show (0 + (1 * ρ 5 + ((-1) * ρ 7 + 0)) : Int) ≤ 0 by omega) (pAll1 (show (0 + ((-1) * ρ 16 + (1 * ρ 17 + 0)) : Int) ≤ 0 by omega) (pAll1 (show (0 + (1 * ρ 16 + ((-1) * ρ 17 + 0)) : Int) ≤ 0 by omega) (pAll1 (show (0 + ((-1) * ρ 18 + (1 * ρ 19 + 0)) : Int) ≤ 0 by omega) (pAll1 (show (0 + (1 * ρ 18 + ((-1) * ρ 19 + 0)) : Int) ≤ 0 by omega) (pAll1 (show ((-1) + ((-1) * ρ 8 + (1 * ρ 12 + 0)) : Int) ≤ 0 by omega) (pAll1 (show (1 + (1 * ρ 8 + ((-1) * ρ 12 + 0)) : Int) ≤ 0 by omega) (pAll1 (show (0 + ((-1) * ρ 7 + ((-1) * ρ 10 + (1 * ρ 14 + 0))) : Int) ≤ 0 by omega) (pAll1 (show (0 + (1 * ρ 7 + (1 * ρ 10 + ((-1) * ρ 14 + 0))) : Int) ≤ 0 by omega) (pAll1 (show ((-1) + ((-1) * ρ 11 + (1 * ρ 15 + 0)) : Int) ≤ 0 by omega) (pAll1 (show (1 + (1 * ρ 11 + ((-1) * ρ 15 + 0)) : Int) ≤ 0 by omega) (pAll1 (show (0 + ((-1) * ρ 1 + (1 * ρ 13 + 0)) : Int) ≤ 0 by omega) (pAll1 (show (0 + (1 * ρ 1 + ((-1) * ρ 13 + 0)) : Int) ≤ 0 by omega) pAll0))))))))))))))))))))))))), pAll0⟩
    · simp [z1, hmn, y] at l0 l1 l2 l3 u3 u4
      exact ⟨_, List.mem_of_getElem? (i := 2) rfl, rfl, rfl, (pAll1 (show (0 + ((-1) * ρ 8 + 0) : Int) ≤ 0 by omega) (pAll1 (show (0 + ((-1) * ρ 1 + (1 * ρ 8 + 0)) : Int) ≤ 0 by omega) (pAll1 (show ((-1) + ((-1) * ρ 9 + 0) : Int) ≤ 0 by omega) (pAll1 (show (1 + ((-1) * ρ 1 + (1 * ρ 9 + 0)) : Int) ≤ 0 by omega) (pAll1 (show (0 + ((-1) * ρ 10 + 0) : Int) ≤ 0 by omega) (pAll1 (show ((-180) + (1 * ρ 10 + 0) : Int) ≤ 0 by omega) (pAll1 (show (0 + ((-1) * ρ 11 + 0) : Int) ≤ 0 by omega) (pAll1 (show (0 + ((-1) * ρ 1 + (1 * ρ 11 + 0)) : Int) ≤ 0 by omega) (pAll1 (show ((-2) + (1 * ρ 6 + 0) : Int) ≤ 0 by omega) (pAll1 (show (2 + ((-1) * ρ 6 + 0) : Int) ≤ 0 by omega) (pAll1 (show (1 + (1 * ρ 9 + 0) : Int) ≤ 0 by omega) (pAll1 (show ((-1) + ((-1) * ρ 9 + 0) : Int) ≤ 0 by omega) (pAll1 (show (0 + ((-1) * ρ 7 + 0) : Int) ≤ 0 by omega) (pAll1 (show (1 + ((-1) * ρ 5 + (1 * ρ 7 + 0)) : Int) ≤ 0 by omega) (pAll1 (show (0 + ((-1) * ρ 16 + (1 * ρ 17 + 0)) : Int) ≤ 0 by omega) (pAll1 (show (0 + (1 * ρ 16 + ((-1) * ρ 17 + 0)) : Int) ≤ 0 by omega) (pAll1 (show (0 + ((-1) * ρ 18 + (1 * ρ 19 + 0)) : Int) ≤ 0 by omega) (pAll1 (show (0 + (1 * ρ 18 + ((-1) * ρ 19 + 0)) : Int) ≤ 0 by omega) (pAll1 (show ((-1) + ((-1) * ρ 8 + (1 * ρ 12 + 0)) : Int) ≤ 0 by omega) (pAll1 (show (1 + (1 * ρ 8 + ((-1) * ρ 12 + 0)) : Int) ≤ 0 by omega) (pAll1 (show (0 + ((-1) * ρ 7 + ((-1) * ρ 10 + (1 * ρ 14 + 0))) : Int) ≤ 0 by omega) (pAll1 (show (0 + (1 * ρ 7 + (1 * ρ 10 + ((-1) * ρ 14 + 0))) : Int) ≤ 0 by omega) (pAll1 (show (0 + ((-1) * ρ 9 + (1 * ρ 13 + 0)) : Int) ≤ 0 by omega) (pAll1 (show (0 + (1 * ρ 9 + ((-1) * ρ 13 + 0)) : Int) ≤ 0 by omega) (pAll1 (show (0 + ((-1) * ρ 11 + (1 * ρ 15 + 0)) : Int) ≤ 0 by omega) (pAll1 (show (0 + (1 * ρ 11 + ((-1) * ρ 15 + 0)) : Int) ≤ 0 by omega) pAll0)))))))))))))))))))))))))), pAll0⟩
  · obtain ⟨D1, D2⟩ := D.2 (by omega)
    by_cases y : ρ 5 ≤ ρ 7
    · simp [z1, hmn, y] at l0 l1 l2 l3 u3 u4
      exact ⟨_, List.mem_of_getElem? (i := 1) rfl, rfl, rfl, (pAll1 (show (0 + ((-1) * ρ 8 + 0) : Int) ≤ 0 by omega) (pAll1 (show (0 + ((-1) * ρ 1 + (1 * ρ 8 + 0)) : Int) ≤ 0 by omega) (pAll1 (show ((-1) + ((-1) * ρ 9 + 0) : Int) ≤ 0 by omega) (pAll1 (show (1 + ((-1) * ρ 1 + (1 * ρ 9 + 0)) : Int) ≤ 0 by omega) (pAll1 (show (0 + ((-1) * ρ 10 + 0) : Int) ≤ 0 by omega) (pAll1 (show ((-180) + (1 * ρ 10 + 0) : Int) ≤ 0 by omega) (pAll1 (show (0 + ((-1) * ρ 11 + 0) : Int) ≤ 0 by omega) (pAll1 (show (0 + ((-1) * ρ 1 + (1 * ρ 11 + 0)) : Int) ≤ 0 by omega) (pAll1 (show ((-1) + (1 * ρ 6 + 0) : Int) ≤ 0 by omega) (pAll1 (show (1 + ((-1) * ρ 6 + 0) : Int) ≤ 0 by omega) (pAll1 (show (1 + (1 * ρ 9 + 0) : Int) ≤ 0 by omega) (pAll1 (show ((-1) + ((-1) * ρ 9 + 0) : Int) ≤ 0 by omega) (pAll1 (show (0 + (1 * ρ 5 + ((-1) * ρ 7 + 0)) : Int) ≤ 0 by omega) (pAll1 (show ((-1) + ((-1) * ρ 16 + (1 * ρ 17 + 0)) : Int) ≤ 0 by omega) (pAll1 (show (1 + (1 * ρ 16 + ((-1) * ρ 17 + 0)) : Int) ≤ 0 by omega) (pAll1 (show ((-1) + ((-1) * ρ 18 + (1 * ρ 19 + 0)) : Int) ≤ 0 by omega) (pAll1 (show (1 + (1 * ρ 18 + ((-1) * ρ 19 + 0)) : Int) ≤ 0 by omega) (pAll1 (show ((-1) + ((-1) * ρ 8 + (1 * ρ 12 + 0)) : Int) ≤ 0 by omega) (pAll1 (show (1 + (1 * ρ 8 + ((-1) * ρ 12 + 0)) : Int) ≤ 0 by omega) (pAll1 (show (0 + ((-1) * ρ 7 + ((-1) * ρ 10 + (1 * ρ 14 + 0))) : Int) ≤ 0 by omega) (pAll1 (show (0 + (1 * ρ 7 + (1 * ρ 10 + ((-1) * ρ 14 + 0))) : Int) ≤ 0 by omega) (pAll1 (show ((-1) + ((-1) * ρ 11 + (1 * ρ 15 + 0)) : Int) ≤ 0 by omega) (pAll1 (show (1 + (1 * ρ 11 + ((-1) * ρ 15 + 0)) : Int) ≤ 0 by omega) (pAll1 (show (0 + ((-1) * ρ 9 + (1 * ρ 13 + 0)) : Int) ≤ 0 by omega) (pAll1 (show (0 + (1 * ρ 9 + ((-1) * ρ 13 + 0)) : Int) ≤ 0 by omega) pAll0))))))))))))))))))))))))), pAll0⟩
    · simp [z1, hmn, y] at l0 l1 l2 l3 u3 u4
      exact ⟨_, List.mem_of_getElem? (i := 0) rfl, rfl, rfl, (pAll1 (show (0 + ((-1) * ρ 8 + 0) : Int) ≤ 0 by omega) (pAll1 (show (0 + ((-1) * ρ 1 + (1 * ρ 8 + 0)) : Int) ≤ 0 by omega) (pAll1 (show ((-1) + ((-1) * ρ 9 + 0) : Int) ≤ 0 by omega) (pAll1 (show (1 + ((-1) * ρ 1 + (1 * ρ 9 + 0)) : Int) ≤ 0 by omega) (pAll1 (show (0 + ((-1) * ρ 10 + 0) : Int) ≤ 0 by omega) (pAll1 (show ((-180) + (1 * ρ 10 + 0) : Int) ≤ 0 by omega) (pAll1 (show (0 + ((-1) * ρ 11 + 0) : Int) ≤ 0 by omega) (pAll1 (show (0 + ((-1) * ρ 1 + (1 * ρ 11 + 0)) : Int) ≤ 0 by omega) (pAll1 (show ((-1) + (1 * ρ 6 + 0) : Int) ≤ 0 by omega) (pAll1 (show (1 + ((-1) * ρ 6 + 0) : Int) ≤ 0 by omega) (pAll1 (show (1 + (1 * ρ 9 + 0) : Int) ≤ 0 by omega) (pAll1 (show ((-1) + ((-1) * ρ 9 + 0) : Int) ≤ 0 by omega) (pAll1 (show (0 + ((-1) * ρ 7 + 0) : Int) ≤ 0 by omega) (pAll1 (show (1 + ((-1) * ρ 5 + (1 * ρ 7 + 0)) : Int) ≤ 0 by omega) (pAll1 (show ((-1) + ((-1) * ρ 16 + (1 * ρ 17 + 0)) : Int) ≤ 0 by omega) (pAll1 (show (1 + (1 * ρ 16 + ((-1) * ρ 17 + 0)) : Int) ≤ 0 by omega) (pAll1 (show (0 + ((-1) * ρ 18 + (1 * ρ 19 + 0)) : Int) ≤ 0 by omega) (pAll1 (show (0 + (1 * ρ 18 + ((-1) * ρ 19 + 0)) : Int) ≤ 0 by omega) (pAll1 (show ((-1) + ((-1) * ρ 8 + (1 * ρ 12 + 0)) : Int) ≤ 0 by omega) (pAll1 (show (1 + (1 * ρ 8 + ((-1) * ρ 12 + 0)) : Int) ≤ 0 by omega) (pAll1 (show (0 + ((-1) * ρ 7 + ((-1) * ρ 10 + (1 * ρ 14 + 0))) : Int) ≤ 0 by omega) (pAll1 (show (0 + (1 * ρ 7 + (1 * ρ 10 + ((-1) * ρ 14 + 0))) : Int) ≤ 0 by omega) (pAll1 (show (0 + ((-1) * ρ 9 + (1 * ρ 13 + 0)) : Int) ≤ 0 by omega) (pAll1 (show (0 + (1 * ρ 9 + ((-1) * ρ 13 + 0)) : Int) ≤ 0 by omega) (pAll1 (show (0 + ((-1) * ρ 11 + (1 * ρ 15 + 0)) : Int) ≤ 0 by omega) (pAll1 (show (0 + (1 * ρ 11 + ((-1) * ρ 15 + 0)) : Int) ≤ 0 by omega) pAll0)))))))))))))))))))))))))), pAll0⟩)

theorem qR_rxtrial_ok (h60 : ∀ x y h, gv 63 x y h → nGh 8 9 10 13 15 9 h) : pRulQ pReg qG gv qR_rxtrial := qrul (by decide +kernel) (fun h ρ hG hm hb hc => by
  have b0 : (1 : Int) ≤ ρ 0 ∧ ρ 0 ≤ 1 := hb 0 (1, 1) rfl
  have b1 : (0 : Int) ≤ ρ 1 ∧ ρ 1 ≤ 9 := hb 1 (0, 9) rfl
  have b2 : (0 : Int) ≤ ρ 2 ∧ ρ 2 ≤ 5 := hb 2 (0, 5) rfl
  have b3 : (2 : Int) ≤ ρ 3 ∧ ρ 3 ≤ 6 := hb 3 (2, 6) rfl
  have b4 : (4 : Int) ≤ ρ 4 ∧ ρ 4 ≤ 10 := hb 4 (4, 10) rfl
  have b5 : (1 : Int) ≤ ρ 5 ∧ ρ 5 ≤ 20 := hb 5 (1, 20) rfl
  have b6 : (0 : Int) ≤ ρ 6 ∧ ρ 6 ≤ 2 := hb 6 (0, 2) rfl
  have b7 : ((-1) : Int) ≤ ρ 7 ∧ ρ 7 ≤ 20 := hb 7 ((-1), 20) rfl
  have b8 : ((-2147483648) : Int) ≤ ρ 8 ∧ ρ 8 ≤ 2147483647 := hb 8 ((-2147483648), 2147483647) rfl
  have b9 : ((-2147483648) : Int) ≤ ρ 9 ∧ ρ 9 ≤ 2147483647 := hb 9 ((-2147483648), 2147483647) rfl
  have b10 : ((-2147483648) : Int) ≤ ρ 10 ∧ ρ 10 ≤ 2147483647 := hb 10 ((-2147483648), 2147483647) rfl
  have b11 : ((-2147483648) : Int) ≤ ρ 11 ∧ ρ 11 ≤ 2147483647 := hb 11 ((-2147483648), 2147483647) rfl
  have b12 : ((-2147483648) : Int) ≤ ρ 12 ∧ ρ 12 ≤ 2147483647 := hb 12 ((-2147483648), 2147483647) rfl
  have b13 : ((-2147483648) : Int) ≤ ρ 13 ∧ ρ 13 ≤ 2147483647 := hb 13 ((-2147483648), 2147483647) rfl
  have b14 : ((-2147483648) : Int) ≤ ρ 14 ∧ ρ 14 ≤ 2147483647 := hb 14 ((-2147483648), 2147483647) rfl
  have b15 : ((-2147483648) : Int) ≤ ρ 15 ∧ ρ 15 ≤ 2147483647 := hb 15 ((-2147483648), 2147483647) rfl
  have b16 : (0 : Int) ≤ ρ 16 ∧ ρ 16 ≤ 60 := hb 16 (0, 60) rfl
  have b17 : (0 : Int) ≤ ρ 17 ∧ ρ 17 ≤ 60 := hb 17 (0, 60) rfl
  have b18 : (0 : Int) ≤ ρ 18 ∧ ρ 18 ≤ 60 := hb 18 (0, 60) rfl
  have b19 : (0 : Int) ≤ ρ 19 ∧ ρ 19 ≤ 60 := hb 19 (0, 60) rfl
  have b20 : (0 : Int) ≤ ρ 20 ∧ ρ 20 ≤ 1 := hb 20 (0, 1) rfl
  have b21 : (0 : Int) ≤ ρ 21 ∧ ρ 21 ≤ 1 := hb 21 (0, 1) rfl
  have c0 : (1 + (1 * ρ 2 + ((-1) * ρ 3 + 0)) : Int) ≤ 0 := hc _ (List.mem_of_getElem? (i := 0) rfl)
  have c1 : (1 + (1 * ρ 1 + ((-1) * ρ 4 + 0)) : Int) ≤ 0 := hc _ (List.mem_of_getElem? (i := 1) rfl)
  obtain ⟨t, e_t⟩ : ∃ x : Nat, ρ 1 = (x : Int) := ⟨(ρ 1).toNat, by omega⟩
  obtain ⟨m, e_m⟩ : ∃ x : Nat, ρ 2 = (x : Int) := ⟨(ρ 2).toNat, by omega⟩
  have t0 := h60 _ _ _ (qtl (a := 63) hm 0 rfl (by decide))
  have q3 : rv h 56 (0) = ρ 3 := qrv hm 1 rfl (by decide) (by decide +kernel) (by show (0 + 0 : Int) = ((0 : Nat) : Int); omega)
  have q4 : rv h 56 (1) = ρ 4 := qrv hm 2 rfl (by decide) (by decide +kernel) (by show (1 + 0 : Int) = ((1 : Nat) : Int); omega)
  have q5 : rv h 56 (2) = ρ 5 := qrv hm 3 rfl (by decide) (by decide +kernel) (by show (2 + 0 : Int) = ((2 : Nat) : Int); omega)
  have q6 : rv h 608 (6 * t + m) = ρ 6 := qrv hm 4 rfl (by decide) (by decide +kernel) (by show (0 + (6 * ρ 1 + (1 * ρ 2 + 0)) : Int) = ((6 * t + m : Nat) : Int); omega)
  have q7 : rv h 609 (6 * t + m) = ρ 7 := qrv hm 5 rfl (by decide) (by decide +kernel) (by show (0 + (6 * ρ 1 + (1 * ρ 2 + 0)) : Int) = ((6 * t + m : Nat) : Int); omega)
  have q8 : rv h 610 (6 * t + m) = ρ 8 := qrv hm 6 rfl (by decide) (by decide +kernel) (by show (0 + (6 * ρ 1 + (1 * ρ 2 + 0)) : Int) = ((6 * t + m : Nat) : Int); omega)
  have q9 : rv h 611 (6 * t + m) = ρ 9 := qrv hm 7 rfl (by decide) (by decide +kernel) (by show (0 + (6 * ρ 1 + (1 * ρ 2 + 0)) : Int) = ((6 * t + m : Nat) : Int); omega)
  have q10 : rv h 612 (6 * t + m) = ρ 10 := qrv hm 8 rfl (by decide) (by decide +kernel) (by show (0 + (6 * ρ 1 + (1 * ρ 2 + 0)) : Int) = ((6 * t + m : Nat) : Int); omega)
  have q11 : rv h 613 (6 * t + m) = ρ 11 := qrv hm 9 rfl (by decide) (by decide +kernel) (by show (0 + (6 * ρ 1 + (1 * ρ 2 + 0)) : Int) = ((6 * t + m : Nat) : Int); omega)
  have q12 : rv h 610 (6 * t + m + 6) = ρ 12 := qrv hm 10 rfl (by decide) (by decide +kernel) (by show (6 + (6 * ρ 1 + (1 * ρ 2 + 0)) : Int) = ((6 * t + m + 6 : Nat) : Int); omega)
  have q13 : rv h 611 (6 * t + m + 6) = ρ 13 := qrv hm 11 rfl (by decide) (by decide +kernel) (by show (6 + (6 * ρ 1 + (1 * ρ 2 + 0)) : Int) = ((6 * t + m + 6 : Nat) : Int); omega)
  have q14 : rv h 612 (6 * t + m + 6) = ρ 14 := qrv hm 12 rfl (by decide) (by decide +kernel) (by show (6 + (6 * ρ 1 + (1 * ρ 2 + 0)) : Int) = ((6 * t + m + 6 : Nat) : Int); omega)
  have q15 : rv h 613 (6 * t + m + 6) = ρ 15 := qrv hm 13 rfl (by decide) (by decide +kernel) (by show (6 + (6 * ρ 1 + (1 * ρ 2 + 0)) : Int) = ((6 * t + m + 6 : Nat) : Int); omega)
  have q16 : rv h 614 (6 * t + m) = ρ 16 := qrv hm 14 rfl (by decide) (by decide +kernel) (by show (0 + (6 * ρ 1 + (1 * ρ 2 + 0)) : Int) = ((6 * t + m : Nat) : Int); omega)
  have q17 : rv h 614 (6 * t + m + 1) = ρ 17 := qrv hm 15 rfl (by decide) (by decide +kernel) (by show (1 + (6 * ρ 1 + (1 * ρ 2 + 0)) : Int) = ((6 * t + m + 1 : Nat) : Int); omega)
  have q18 : rv h 615 (6 * t + m) = ρ 18 := qrv hm 16 rfl (by decide) (by decide +kernel) (by show (0 + (6 * ρ 1 + (1 * ρ 2 + 0)) : Int) = ((6 * t + m : Nat) : Int); omega)
  have q19 : rv h 615 (6 * t + m + 1) = ρ 19 := qrv hm 17 rfl (by decide) (by decide +kernel) (by show (1 + (6 * ρ 1 + (1 * ρ 2 + 0)) : Int) = ((6 * t + m + 1 : Nat) : Int); omega)
  have q20 : rv h 617 (7 * t + m) = ρ 20 := qrv hm 18 rfl (by decide) (by decide +kernel) (by show (0 + (7 * ρ 1 + (1 * ρ 2 + 0)) : Int) = ((7 * t + m : Nat) : Int); omega)
  have q21 : rv h 617 (7 * t + m + 1) = ρ 21 := qrv hm 19 rfl (by decide) (by decide +kernel) (by show (1 + (7 * ρ 1 + (1 * ρ 2 + 0)) : Int) = ((7 * t + m + 1 : Nat) : Int); omega)
  obtain ⟨n, H, g0, g1, g2, g3, g4, g5, g6, g7, g8, g9, g10, gW, gS, gA, gO, gD, gU, gQ, gV⟩ := t0
  have hM : ρ 3 = (n : Int) := q3.symm.trans g0
  have hH : ρ 4 = (H : Int) := q4.symm.trans g1
  have hmn : m < n := by omega
  have htH : t < H := by omega
  have k0 := gS t m 0 (by omega) (by omega) (by decide)
  rw [show 610 + 0 = 610 from rfl, q8] at k0
  have l0 := gS (t + 1) m 0 (by omega) (by omega) (by decide)
  rw [show 610 + 0 = 610 from rfl, show 6 * (t + 1) + m = 6 * t + m + 6 by omega, q12, nSt_s] at l0
  unfold nUp at l0
  have k1 := gS t m 1 (by omega) (by omega) (by decide)
  rw [show 610 + 1 = 611 from rfl, q9] at k1
  have l1 := gS (t + 1) m 1 (by omega) (by omega) (by decide)
  rw [show 610 + 1 = 611 from rfl, show 6 * (t + 1) + m = 6 * t + m + 6 by omega, q13, nSt_s] at l1
  unfold nUp at l1
  have k2 := gS t m 2 (by omega) (by omega) (by decide)
  rw [show 610 + 2 = 612 from rfl, q10] at k2
  have l2 := gS (t + 1) m 2 (by omega) (by omega) (by decide)
  rw [show 610 + 2 = 612 from rfl, show 6 * (t + 1) + m = 6 * t + m + 6 by omega, q14, nSt_s] at l2
  unfold nUp at l2
  have k3 := gS t m 3 (by omega) (by omega) (by decide)
  rw [show 610 + 3 = 613 from rfl, q11] at k3
  have l3 := gS (t + 1) m 3 (by omega) (by omega) (by decide)
  rw [show 610 + 3 = 613 from rfl, show 6 * (t + 1) + m = 6 * t + m + 6 by omega, q15, nSt_s] at l3
  unfold nUp at l3
  have kO := gO t m htH hmn
  rw [q6] at kO
  have kD := gD t m htH hmn
  rw [q7] at kD
  have fO := kO
  have fD := kD
  unfold nS at fO
  unfold nD at fD
  obtain ⟨u1, u2⟩ := gU (6 * t + m) (by omega)
  obtain ⟨u3, u4⟩ := gU (6 * t + m + 1) (by omega)
  rw [q16] at u1
  rw [q18] at u2
  rw [q17] at u3
  rw [q19] at u4
  simp only [nUN, nCt] at u1 u3
  simp only [nOP, nCt] at u2 u4
  rw [← u1] at u3
  rw [← u2] at u4
  simp only [show (6 * t + m) % 6 = m by omega, show (6 * t + m) / 6 = t by omega, ← kO, ← kD] at u3 u4
  simp only [q5] at u3 u4
  have B := nSt_b (n := n) (mare := rv h 56 2) (hold := rv h 54 5) (nt := rv h 15 9) (ne := rv h 55) (bd := rv h 8) (ey := rv h 9) (dm := rv h 10) (pl := rv h 13) (W := rv h 620) (g0 := fun a m => rv h (610 + a) m) hmn t
  rw [← k0, ← k1, ← k2, ← k3] at B
  obtain ⟨B0, B1, B2, B3⟩ := B
  have D := nDr_b (n := n) (hold := rv h 54 5) (nt := rv h 15 9) (ne := rv h 55) (bd := rv h 8) (ey := rv h 9) (dm := rv h 10) (pl := rv h 13) (W := rv h 620) (S := nSt n (rv h 56 2) (rv h 54 5) (rv h 15 9) (rv h 55) (rv h 8) (rv h 9) (rv h 10) (rv h 13) (rv h 620) (fun a m => rv h (610 + a) m) t) (h := t) (m := m)
  rw [← fO, ← fD] at D
  have z := nSo_b (n := n) (ne := rv h 55) (bd := rv h 8) (pl := rv h 13) (S := nSt n (rv h 56 2) (rv h 54 5) (rv h 15 9) (rv h 55) (rv h 8) (rv h 9) (rv h 10) (rv h 13) (rv h 620) (fun a m => rv h (610 + a) m) t) (h := t) (m := m)
  rw [← fO] at z
  simp only [← fO, ← fD, ← k0, ← k1, ← k2, ← k3] at l0 l1 l2 l3
  simp only [q5] at l0 l1 l2 l3
  have zz : (ρ 6 = 0) ∨ ((ρ 6 = 2 ∨ ρ 6 = 1) ∧ ρ 9 = -1) := by
    rcases z with ⟨_, z2⟩ | ⟨z1, _, z3⟩ | ⟨z1, _, z3⟩
    · exact Or.inl z2
    · refine Or.inr ⟨Or.inl z3, ?_⟩
      unfold nAs at z1
      simp only [Bool.and_eq_true, decide_eq_true_eq] at z1
      rw [k1]
      exact z1.2.2
    · refine Or.inr ⟨Or.inr z3, ?_⟩
      unfold nAs at z1
      simp only [Bool.and_eq_true, decide_eq_true_eq] at z1
      rw [k1]
      exact z1.2.2
  rcases zz with z1 | ⟨z1 | z1, z2⟩
  · simp [z1] at l0 l1 l2 l3 u3 u4
    have D1 := D.1 z1
    exact ⟨_, List.mem_of_getElem? (i := 0) rfl, rfl, rfl, (pAll1 (show (0 + ((-1) * ρ 8 + 0) : Int) ≤ 0 by omega) (pAll1 (show (0 + ((-1) * ρ 1 + (1 * ρ 8 + 0)) : Int) ≤ 0 by omega) (pAll1 (show ((-1) + ((-1) * ρ 9 + 0) : Int) ≤ 0 by omega) (pAll1 (show (1 + ((-1) * ρ 1 + (1 * ρ 9 + 0)) : Int) ≤ 0 by omega) (pAll1 (show (0 + ((-1) * ρ 10 + 0) : Int) ≤ 0 by omega) (pAll1 (show ((-180) + (1 * ρ 10 + 0) : Int) ≤ 0 by omega) (pAll1 (show (0 + ((-1) * ρ 11 + 0) : Int) ≤ 0 by omega) (pAll1 (show (0 + ((-1) * ρ 1 + (1 * ρ 11 + 0)) : Int) ≤ 0 by omega) (pAll1 (show (0 + (1 * ρ 6 + 0) : Int) ≤ 0 by omega) (pAll1 (show (0 + ((-1) * ρ 6 + 0) : Int) ≤ 0 by omega) (pAll1 (show (1 + (1 * ρ 7 + 0) : Int) ≤ 0 by omega) (pAll1 (show ((-1) + ((-1) * ρ 7 + 0) : Int) ≤ 0 by omega) (pAll1 (show (0 + ((-1) * ρ 16 + (1 * ρ 17 + 0)) : Int) ≤ 0 by omega) (pAll1 (show (0 + (1 * ρ 16 + ((-1) * ρ 17 + 0)) : Int) ≤ 0 by omega) (pAll1 (show (0 + ((-1) * ρ 18 + (1 * ρ 19 + 0)) : Int) ≤ 0 by omega) (pAll1 (show (0 + (1 * ρ 18 + ((-1) * ρ 19 + 0)) : Int) ≤ 0 by omega) (pAll1 (show (0 + ((-1) * ρ 8 + (1 * ρ 12 + 0)) : Int) ≤ 0 by omega) (pAll1 (show (0 + (1 * ρ 8 + ((-1) * ρ 12 + 0)) : Int) ≤ 0 by omega) (pAll1 (show (0 + ((-1) * ρ 9 + (1 * ρ 13 + 0)) : Int) ≤ 0 by omega) (pAll1 (show (0 + (1 * ρ 9 + ((-1) * ρ 13 + 0)) : Int) ≤ 0 by omega) (pAll1 (show (0 + ((-1) * ρ 10 + (1 * ρ 14 + 0)) : Int) ≤ 0 by omega) (pAll1 (show (0 + (1 * ρ 10 + ((-1) * ρ 14 + 0)) : Int) ≤ 0 by omega) (pAll1 (show (0 + ((-1) * ρ 11 + (1 * ρ 15 + 0)) : Int) ≤ 0 by omega) (pAll1 (show (0 + (1 * ρ 11 + ((-1) * ρ 15 + 0)) : Int) ≤ 0 by omega) pAll0)))))))))))))))))))))))), pAll0⟩
  · obtain ⟨D1, D2⟩ := D.2 (by omega)
    by_cases y : ρ 5 ≤ ρ 7
    · simp [z1, hmn, y] at l0 l1 l2 l3 u3 u4
      exact ⟨_, List.mem_of_getElem? (i := 4) rfl, rfl, rfl, (pAll1 (show (0 + ((-1) * ρ 8 + 0) : Int) ≤ 0 by omega) (pAll1 (show (0 + ((-1) * ρ 1 + (1 * ρ 8 + 0)) : Int) ≤ 0 by omega) (pAll1 (show ((-1) + ((-1) * ρ 9 + 0) : Int) ≤ 0 by omega) (pAll1 (show (1 + ((-1) * ρ 1 + (1 * ρ 9 + 0)) : Int) ≤ 0 by omega) (pAll1 (show (0 + ((-1) * ρ 10 + 0) : Int) ≤ 0 by omega) (pAll1 (show ((-180) + (1 * ρ 10 + 0) : Int) ≤ 0 by omega) (pAll1 (show (0 + ((-1) * ρ 11 + 0) : Int) ≤ 0 by omega) (pAll1 (show (0 + ((-1) * ρ 1 + (1 * ρ 11 + 0)) : Int) ≤ 0 by omega) (pAll1 (show ((-2) + (1 * ρ 6 + 0) : Int) ≤ 0 by omega) (pAll1 (show (2 + ((-1) * ρ 6 + 0) : Int) ≤ 0 by omega) (pAll1 (show (1 + (1 * ρ 9 + 0) : Int) ≤ 0 by omega) (pAll1 (show ((-1) + ((-1) * ρ 9 + 0) : Int) ≤ 0 by omega) (pAll1 (show (0 + (1 * ρ 5 + ((-1) * ρ 7 + 0)) : Int) ≤ 0 by omega) (pAll1 (show (0 + ((-1) * ρ 16 + (1 * ρ 17 + 0)) : Int) ≤ 0 by omega) (pAll1 (show (0 + (1 * ρ 16 + ((-1) * ρ 17 + 0)) : Int) ≤ 0 by omega) (pAll1 (show (0 + ((-1) * ρ 18 + (1 * ρ 19 + 0)) : Int) ≤ 0 by omega) (pAll1 (show (0 + (1 * ρ 18 + ((-1) * ρ 19 + 0)) : Int) ≤ 0 by omega) (pAll1 (show ((-1) + ((-1) * ρ 8 + (1 * ρ 12 + 0)) : Int) ≤ 0 by omega) (pAll1 (show (1 + (1 * ρ 8 + ((-1) * ρ 12 + 0)) : Int) ≤ 0 by omega) (pAll1 (show (0 + ((-1) * ρ 7 + ((-1) * ρ 10 + (1 * ρ 14 + 0))) : Int) ≤ 0 by omega) (pAll1 (show (0 + (1 * ρ 7 + (1 * ρ 10 + ((-1) * ρ 14 + 0))) : Int) ≤ 0 by omega) (pAll1 (show ((-1) + ((-1) * ρ 11 + (1 * ρ 15 + 0)) : Int) ≤ 0 by omega) (pAll1 (show (1 + (1 * ρ 11 + ((-1) * ρ 15 + 0)) : Int) ≤ 0 by omega) (pAll1 (show (0 + ((-1) * ρ 1 + (1 * ρ 13 + 0)) : Int) ≤ 0 by omega) (pAll1 (show (0 + (1 * ρ 1 + ((-1) * ρ 13 + 0)) : Int) ≤ 0 by omega) pAll0))))))))))))))))))))))))), pAll0⟩
    · simp [z1, hmn, y] at l0 l1 l2 l3 u3 u4
      exact ⟨_, List.mem_of_getElem? (i := 3) rfl, rfl, rfl, (pAll1 (show (0 + ((-1) * ρ 8 + 0) : Int) ≤ 0 by omega) (pAll1 (show (0 + ((-1) * ρ 1 + (1 * ρ 8 + 0)) : Int) ≤ 0 by omega) (pAll1 (show ((-1) + ((-1) * ρ 9 + 0) : Int) ≤ 0 by omega) (pAll1 (show (1 + ((-1) * ρ 1 + (1 * ρ 9 + 0)) : Int) ≤ 0 by omega) (pAll1 (show (0 + ((-1) * ρ 10 + 0) : Int) ≤ 0 by omega) (pAll1 (show ((-180) + (1 * ρ 10 + 0) : Int) ≤ 0 by omega) (pAll1 (show (0 + ((-1) * ρ 11 + 0) : Int) ≤ 0 by omega) (pAll1 (show (0 + ((-1) * ρ 1 + (1 * ρ 11 + 0)) : Int) ≤ 0 by omega) (pAll1 (show ((-2) + (1 * ρ 6 + 0) : Int) ≤ 0 by omega) (pAll1 (show (2 + ((-1) * ρ 6 + 0) : Int) ≤ 0 by omega) (pAll1 (show (1 + (1 * ρ 9 + 0) : Int) ≤ 0 by omega) (pAll1 (show ((-1) + ((-1) * ρ 9 + 0) : Int) ≤ 0 by omega) (pAll1 (show (0 + ((-1) * ρ 7 + 0) : Int) ≤ 0 by omega) (pAll1 (show (1 + ((-1) * ρ 5 + (1 * ρ 7 + 0)) : Int) ≤ 0 by omega) (pAll1 (show (0 + ((-1) * ρ 16 + (1 * ρ 17 + 0)) : Int) ≤ 0 by omega) (pAll1 (show (0 + (1 * ρ 16 + ((-1) * ρ 17 + 0)) : Int) ≤ 0 by omega) (pAll1 (show (0 + ((-1) * ρ 18 + (1 * ρ 19 + 0)) : Int) ≤ 0 by omega) (pAll1 (show (0 + (1 * ρ 18 + ((-1) * ρ 19 + 0)) : Int) ≤ 0 by omega) (pAll1 (show ((-1) + ((-1) * ρ 8 + (1 * ρ 12 + 0)) : Int) ≤ 0 by omega) (pAll1 (show (1 + (1 * ρ 8 + ((-1) * ρ 12 + 0)) : Int) ≤ 0 by omega) (pAll1 (show (0 + ((-1) * ρ 7 + ((-1) * ρ 10 + (1 * ρ 14 + 0))) : Int) ≤ 0 by omega) (pAll1 (show (0 + (1 * ρ 7 + (1 * ρ 10 + ((-1) * ρ 14 + 0))) : Int) ≤ 0 by omega) (pAll1 (show (0 + ((-1) * ρ 9 + (1 * ρ 13 + 0)) : Int) ≤ 0 by omega) (pAll1 (show (0 + (1 * ρ 9 + ((-1) * ρ 13 + 0)) : Int) ≤ 0 by omega) (pAll1 (show (0 + ((-1) * ρ 11 + (1 * ρ 15 + 0)) : Int) ≤ 0 by omega) (pAll1 (show (0 + (1 * ρ 11 + ((-1) * ρ 15 + 0)) : Int) ≤ 0 by omega) pAll0)))))))))))))))))))))))))), pAll0⟩
  · obtain ⟨D1, D2⟩ := D.2 (by omega)
    by_cases y : ρ 5 ≤ ρ 7
    · simp [z1, hmn, y] at l0 l1 l2 l3 u3 u4
      exact ⟨_, List.mem_of_getElem? (i := 2) rfl, rfl, rfl, (pAll1 (show (0 + ((-1) * ρ 8 + 0) : Int) ≤ 0 by omega) (pAll1 (show (0 + ((-1) * ρ 1 + (1 * ρ 8 + 0)) : Int) ≤ 0 by omega) (pAll1 (show ((-1) + ((-1) * ρ 9 + 0) : Int) ≤ 0 by omega) (pAll1 (show (1 + ((-1) * ρ 1 + (1 * ρ 9 + 0)) : Int) ≤ 0 by omega) (pAll1 (show (0 + ((-1) * ρ 10 + 0) : Int) ≤ 0 by omega) (pAll1 (show ((-180) + (1 * ρ 10 + 0) : Int) ≤ 0 by omega) (pAll1 (show (0 + ((-1) * ρ 11 + 0) : Int) ≤ 0 by omega) (pAll1 (show (0 + ((-1) * ρ 1 + (1 * ρ 11 + 0)) : Int) ≤ 0 by omega) (pAll1 (show ((-1) + (1 * ρ 6 + 0) : Int) ≤ 0 by omega) (pAll1 (show (1 + ((-1) * ρ 6 + 0) : Int) ≤ 0 by omega) (pAll1 (show (1 + (1 * ρ 9 + 0) : Int) ≤ 0 by omega) (pAll1 (show ((-1) + ((-1) * ρ 9 + 0) : Int) ≤ 0 by omega) (pAll1 (show (0 + (1 * ρ 5 + ((-1) * ρ 7 + 0)) : Int) ≤ 0 by omega) (pAll1 (show ((-1) + ((-1) * ρ 16 + (1 * ρ 17 + 0)) : Int) ≤ 0 by omega) (pAll1 (show (1 + (1 * ρ 16 + ((-1) * ρ 17 + 0)) : Int) ≤ 0 by omega) (pAll1 (show ((-1) + ((-1) * ρ 18 + (1 * ρ 19 + 0)) : Int) ≤ 0 by omega) (pAll1 (show (1 + (1 * ρ 18 + ((-1) * ρ 19 + 0)) : Int) ≤ 0 by omega) (pAll1 (show ((-1) + ((-1) * ρ 8 + (1 * ρ 12 + 0)) : Int) ≤ 0 by omega) (pAll1 (show (1 + (1 * ρ 8 + ((-1) * ρ 12 + 0)) : Int) ≤ 0 by omega) (pAll1 (show (0 + ((-1) * ρ 7 + ((-1) * ρ 10 + (1 * ρ 14 + 0))) : Int) ≤ 0 by omega) (pAll1 (show (0 + (1 * ρ 7 + (1 * ρ 10 + ((-1) * ρ 14 + 0))) : Int) ≤ 0 by omega) (pAll1 (show ((-1) + ((-1) * ρ 11 + (1 * ρ 15 + 0)) : Int) ≤ 0 by omega) (pAll1 (show (1 + (1 * ρ 11 + ((-1) * ρ 15 + 0)) : Int) ≤ 0 by omega) (pAll1 (show (0 + ((-1) * ρ 9 + (1 * ρ 13 + 0)) : Int) ≤ 0 by omega) (pAll1 (show (0 + (1 * ρ 9 + ((-1) * ρ 13 + 0)) : Int) ≤ 0 by omega) pAll0))))))))))))))))))))))))), pAll0⟩
    · simp [z1, hmn, y] at l0 l1 l2 l3 u3 u4
      exact ⟨_, List.mem_of_getElem? (i := 1) rfl, rfl, rfl, (pAll1 (show (0 + ((-1) * ρ 8 + 0) : Int) ≤ 0 by omega) (pAll1 (show (0 + ((-1) * ρ 1 + (1 * ρ 8 + 0)) : Int) ≤ 0 by omega) (pAll1 (show ((-1) + ((-1) * ρ 9 + 0) : Int) ≤ 0 by omega) (pAll1 (show (1 + ((-1) * ρ 1 + (1 * ρ 9 + 0)) : Int) ≤ 0 by omega) (pAll1 (show (0 + ((-1) * ρ 10 + 0) : Int) ≤ 0 by omega) (pAll1 (show ((-180) + (1 * ρ 10 + 0) : Int) ≤ 0 by omega) (pAll1 (show (0 + ((-1) * ρ 11 + 0) : Int) ≤ 0 by omega) (pAll1 (show (0 + ((-1) * ρ 1 + (1 * ρ 11 + 0)) : Int) ≤ 0 by omega) (pAll1 (show ((-1) + (1 * ρ 6 + 0) : Int) ≤ 0 by omega) (pAll1 (show (1 + ((-1) * ρ 6 + 0) : Int) ≤ 0 by omega) (pAll1 (show (1 + (1 * ρ 9 + 0) : Int) ≤ 0 by omega) (pAll1 (show ((-1) + ((-1) * ρ 9 + 0) : Int) ≤ 0 by omega) (pAll1 (show (0 + ((-1) * ρ 7 + 0) : Int) ≤ 0 by omega) (pAll1 (show (1 + ((-1) * ρ 5 + (1 * ρ 7 + 0)) : Int) ≤ 0 by omega) (pAll1 (show ((-1) + ((-1) * ρ 16 + (1 * ρ 17 + 0)) : Int) ≤ 0 by omega) (pAll1 (show (1 + (1 * ρ 16 + ((-1) * ρ 17 + 0)) : Int) ≤ 0 by omega) (pAll1 (show (0 + ((-1) * ρ 18 + (1 * ρ 19 + 0)) : Int) ≤ 0 by omega) (pAll1 (show (0 + (1 * ρ 18 + ((-1) * ρ 19 + 0)) : Int) ≤ 0 by omega) (pAll1 (show ((-1) + ((-1) * ρ 8 + (1 * ρ 12 + 0)) : Int) ≤ 0 by omega) (pAll1 (show (1 + (1 * ρ 8 + ((-1) * ρ 12 + 0)) : Int) ≤ 0 by omega) (pAll1 (show (0 + ((-1) * ρ 7 + ((-1) * ρ 10 + (1 * ρ 14 + 0))) : Int) ≤ 0 by omega) (pAll1 (show (0 + (1 * ρ 7 + (1 * ρ 10 + ((-1) * ρ 14 + 0))) : Int) ≤ 0 by omega) (pAll1 (show (0 + ((-1) * ρ 9 + (1 * ρ 13 + 0)) : Int) ≤ 0 by omega) (pAll1 (show (0 + (1 * ρ 9 + ((-1) * ρ 13 + 0)) : Int) ≤ 0 by omega) (pAll1 (show (0 + ((-1) * ρ 11 + (1 * ρ 15 + 0)) : Int) ≤ 0 by omega) (pAll1 (show (0 + (1 * ρ 11 + ((-1) * ρ 15 + 0)) : Int) ≤ 0 by omega) pAll0)))))))))))))))))))))))))), pAll0⟩)

theorem qR_dbtrial_ok (h60 : ∀ x y h, gv 63 x y h → nGh 8 9 10 13 15 9 h) : pRulQ pReg qG gv qR_dbtrial := qrul (by decide +kernel) (fun h ρ hG hm hb hc => by
  have b0 : (1 : Int) ≤ ρ 0 ∧ ρ 0 ≤ 1 := hb 0 (1, 1) rfl
  have b1 : (1 : Int) ≤ ρ 1 ∧ ρ 1 ≤ 1 := hb 1 (1, 1) rfl
  have b2 : (1 : Int) ≤ ρ 2 ∧ ρ 2 ≤ 1 := hb 2 (1, 1) rfl
  have b3 : (0 : Int) ≤ ρ 3 ∧ ρ 3 ≤ 5 := hb 3 (0, 5) rfl
  have b4 : (0 : Int) ≤ ρ 4 ∧ ρ 4 ≤ 9 := hb 4 (0, 9) rfl
  have b5 : (1 : Int) ≤ ρ 5 ∧ ρ 5 ≤ 2 := hb 5 (1, 2) rfl
  have b6 : (2 : Int) ≤ ρ 6 ∧ ρ 6 ≤ 6 := hb 6 (2, 6) rfl
  have b7 : (4 : Int) ≤ ρ 7 ∧ ρ 7 ≤ 10 := hb 7 (4, 10) rfl
  have b8 : (0 : Int) ≤ ρ 8 ∧ ρ 8 ≤ 5 := hb 8 (0, 5) rfl
  have b9 : (0 : Int) ≤ ρ 9 ∧ ρ 9 ≤ 2 := hb 9 (0, 2) rfl
  have b10 : ((-1) : Int) ≤ ρ 10 ∧ ρ 10 ≤ 20 := hb 10 ((-1), 20) rfl
  have b11 : ((-2147483648) : Int) ≤ ρ 11 ∧ ρ 11 ≤ 2147483647 := hb 11 ((-2147483648), 2147483647) rfl
  have b12 : ((-2147483648) : Int) ≤ ρ 12 ∧ ρ 12 ≤ 2147483647 := hb 12 ((-2147483648), 2147483647) rfl
  have b13 : ((-2147483648) : Int) ≤ ρ 13 ∧ ρ 13 ≤ 2147483647 := hb 13 ((-2147483648), 2147483647) rfl
  have b14 : ((-2147483648) : Int) ≤ ρ 14 ∧ ρ 14 ≤ 2147483647 := hb 14 ((-2147483648), 2147483647) rfl
  have b15 : ((-2147483648) : Int) ≤ ρ 15 ∧ ρ 15 ≤ 2147483647 := hb 15 ((-2147483648), 2147483647) rfl
  have c0 : (1 + (1 * ρ 3 + ((-1) * ρ 6 + 0)) : Int) ≤ 0 := hc _ (List.mem_of_getElem? (i := 0) rfl)
  have c1 : (1 + (1 * ρ 4 + ((-1) * ρ 7 + 0)) : Int) ≤ 0 := hc _ (List.mem_of_getElem? (i := 1) rfl)
  have c2 : (0 + ((-1) * ρ 5 + (1 * ρ 9 + 0)) : Int) ≤ 0 := hc _ (List.mem_of_getElem? (i := 2) rfl)
  have c3 : (0 + (1 * ρ 5 + ((-1) * ρ 9 + 0)) : Int) ≤ 0 := hc _ (List.mem_of_getElem? (i := 3) rfl)
  obtain ⟨m, e_m⟩ : ∃ x : Nat, ρ 3 = (x : Int) := ⟨(ρ 3).toNat, by omega⟩
  obtain ⟨t, e_t⟩ : ∃ x : Nat, ρ 4 = (x : Int) := ⟨(ρ 4).toNat, by omega⟩
  obtain ⟨w, e_w⟩ : ∃ x : Nat, ρ 8 = (x : Int) := ⟨(ρ 8).toNat, by omega⟩
  have t0 := h60 _ _ _ (qtl (a := 63) hm 0 rfl (by decide))
  have q6 : rv h 56 (0) = ρ 6 := qrv hm 3 rfl (by decide) (by decide +kernel) (by show (0 + 0 : Int) = ((0 : Nat) : Int); omega)
  have q7 : rv h 56 (1) = ρ 7 := qrv hm 4 rfl (by decide) (by decide +kernel) (by show (1 + 0 : Int) = ((1 : Nat) : Int); omega)
  have q8 : rv h 606 (m) = ρ 8 := qrv hm 5 rfl (by decide) (by decide +kernel) (by show (0 + (1 * ρ 3 + 0) : Int) = ((m : Nat) : Int); omega)
  have q9 : rv h 608 (6 * t + m) = ρ 9 := qrv hm 6 rfl (by decide) (by decide +kernel) (by show (0 + (1 * ρ 3 + (6 * ρ 4 + 0)) : Int) = ((6 * t + m : Nat) : Int); omega)
  have q10 : rv h 609 (6 * t + m) = ρ 10 := qrv hm 7 rfl (by decide) (by decide +kernel) (by show (0 + (1 * ρ 3 + (6 * ρ 4 + 0)) : Int) = ((6 * t + m : Nat) : Int); omega)
  have q11 : rv h 610 (6 * t + m) = ρ 11 := qrv hm 8 rfl (by decide) (by decide +kernel) (by show (0 + (1 * ρ 3 + (6 * ρ 4 + 0)) : Int) = ((6 * t + m : Nat) : Int); omega)
  have q12 : rv h 10 (m) = ρ 12 := qrv hm 9 rfl (by decide) (by decide +kernel) (by show (0 + (1 * ρ 3 + 0) : Int) = ((m : Nat) : Int); omega)
  have q13 : rv h 9 (w) = ρ 13 := qrv hm 10 rfl (by decide) (by decide +kernel) (by show (0 + (1 * ρ 8 + 0) : Int) = ((w : Nat) : Int); omega)
  have q14 : rv h 15 (9) = ρ 14 := qrv hm 11 rfl (by decide) (by decide +kernel) (by show (9 + 0 : Int) = ((9 : Nat) : Int); omega)
  have q15 : rv h 54 (5) = ρ 15 := qrv hm 12 rfl (by decide) (by decide +kernel) (by show (5 + 0 : Int) = ((5 : Nat) : Int); omega)
  obtain ⟨n, H, g0, g1, g2, g3, g4, g5, g6, g7, g8, g9, g10, gW, gS, gA, gO, gD, gU, gQ, gV⟩ := t0
  have hM : ρ 6 = (n : Int) := q6.symm.trans g0
  have hH : ρ 7 = (H : Int) := q7.symm.trans g1
  have hmn : m < n := by omega
  have htH : t < H := by omega
  obtain ⟨-, -, -, d0, p0, p1⟩ := g6 m hmn
  obtain ⟨-, w1, -⟩ := nWt_lt hmn p0 p1 g7
  have w2 := gW m hmn
  rw [q8] at w2
  have hwn : w < n := by omega
  obtain ⟨-, -, e0, -⟩ := g6 w hwn
  rw [q12] at d0
  rw [q13] at e0
  rw [q14] at g8
  rw [q15] at g9
  have k0 := gS t m 0 (by omega) (by omega) (by decide)
  rw [show 610 + 0 = 610 from rfl, q11] at k0
  obtain ⟨B0, -⟩ := nSt_b (n := n) (mare := rv h 56 2) (hold := rv h 54 5) (nt := rv h 15 9) (ne := rv h 55) (bd := rv h 8) (ey := rv h 9) (dm := rv h 10) (pl := rv h 13) (W := rv h 620) (g0 := fun a m => rv h (610 + a) m) hmn t
  rw [← k0] at B0
  by_cases z : ρ 15 = -1
  · exact ⟨_, List.mem_of_getElem? (i := 0) rfl, rfl, rfl, (pAll1 (show (0 + ((-1) * ρ 12 + 0) : Int) ≤ 0 by omega) (pAll1 (show ((-18) + (1 * ρ 12 + 0) : Int) ≤ 0 by omega) (pAll1 (show (0 + ((-1) * ρ 13 + 0) : Int) ≤ 0 by omega) (pAll1 (show ((-12) + (1 * ρ 13 + 0) : Int) ≤ 0 by omega) (pAll1 (show (0 + ((-1) * ρ 14 + 0) : Int) ≤ 0 by omega) (pAll1 (show ((-999) + (1 * ρ 14 + 0) : Int) ≤ 0 by omega) (pAll1 (show (0 + ((-1) * ρ 11 + 0) : Int) ≤ 0 by omega) (pAll1 (show (0 + ((-1) * ρ 4 + (1 * ρ 11 + 0)) : Int) ≤ 0 by omega) (pAll1 (show (1 + ((-1) * ρ 6 + (1 * ρ 8 + 0)) : Int) ≤ 0 by omega) (pAll1 (show (1 + (1 * ρ 15 + 0) : Int) ≤ 0 by omega) (pAll1 (show ((-1) + ((-1) * ρ 15 + 0) : Int) ≤ 0 by omega) pAll0))))))))))), pAll0⟩
  · exact ⟨_, List.mem_of_getElem? (i := 1) rfl, rfl, rfl, (pAll1 (show (0 + ((-1) * ρ 12 + 0) : Int) ≤ 0 by omega) (pAll1 (show ((-18) + (1 * ρ 12 + 0) : Int) ≤ 0 by omega) (pAll1 (show (0 + ((-1) * ρ 13 + 0) : Int) ≤ 0 by omega) (pAll1 (show ((-12) + (1 * ρ 13 + 0) : Int) ≤ 0 by omega) (pAll1 (show (0 + ((-1) * ρ 14 + 0) : Int) ≤ 0 by omega) (pAll1 (show ((-999) + (1 * ρ 14 + 0) : Int) ≤ 0 by omega) (pAll1 (show (0 + ((-1) * ρ 11 + 0) : Int) ≤ 0 by omega) (pAll1 (show (0 + ((-1) * ρ 4 + (1 * ρ 11 + 0)) : Int) ≤ 0 by omega) (pAll1 (show (1 + ((-1) * ρ 6 + (1 * ρ 8 + 0)) : Int) ≤ 0 by omega) (pAll1 (show (0 + ((-1) * ρ 15 + 0) : Int) ≤ 0 by omega) (pAll1 (show ((-3) + (1 * ρ 15 + 0) : Int) ≤ 0 by omega) pAll0))))))))))), pAll0⟩)

theorem qR_qutrial_ok (h60 : ∀ x y h, gv 63 x y h → nGh 8 9 10 13 15 9 h) : pRulQ pReg qG gv qR_qutrial := qrul (by decide +kernel) (fun h ρ hG hm hb hc => by
  have b0 : (1 : Int) ≤ ρ 0 ∧ ρ 0 ≤ 1 := hb 0 (1, 1) rfl
  have b1 : (0 : Int) ≤ ρ 1 ∧ ρ 1 ≤ 9 := hb 1 (0, 9) rfl
  have b2 : (2 : Int) ≤ ρ 2 ∧ ρ 2 ≤ 6 := hb 2 (2, 6) rfl
  have b3 : (4 : Int) ≤ ρ 3 ∧ ρ 3 ≤ 10 := hb 3 (4, 10) rfl
  have b4 : (0 : Int) ≤ ρ 4 ∧ ρ 4 ≤ 1 := hb 4 (0, 1) rfl
  have b5 : (0 : Int) ≤ ρ 5 ∧ ρ 5 ≤ 60 := hb 5 (0, 60) rfl
  have b6 : (0 : Int) ≤ ρ 6 ∧ ρ 6 ≤ 60 := hb 6 (0, 60) rfl
  have b7 : (0 : Int) ≤ ρ 7 ∧ ρ 7 ≤ 60 := hb 7 (0, 60) rfl
  have b8 : (0 : Int) ≤ ρ 8 ∧ ρ 8 ≤ 60 := hb 8 (0, 60) rfl
  have b9 : (0 : Int) ≤ ρ 9 ∧ ρ 9 ≤ 60 := hb 9 (0, 60) rfl
  have b10 : (0 : Int) ≤ ρ 10 ∧ ρ 10 ≤ 10 := hb 10 (0, 10) rfl
  have b11 : (0 : Int) ≤ ρ 11 ∧ ρ 11 ≤ 10 := hb 11 (0, 10) rfl
  have b12 : (0 : Int) ≤ ρ 12 ∧ ρ 12 ≤ 60 := hb 12 (0, 60) rfl
  have b13 : (0 : Int) ≤ ρ 13 ∧ ρ 13 ≤ 1 := hb 13 (0, 1) rfl
  have c0 : (1 + (1 * ρ 1 + ((-1) * ρ 3 + 0)) : Int) ≤ 0 := hc _ (List.mem_of_getElem? (i := 0) rfl)
  have c1 : (0 + ((-1) * ρ 5 + (1 * ρ 12 + 0)) : Int) ≤ 0 := hc _ (List.mem_of_getElem? (i := 1) rfl)
  have c2 : (0 + (1 * ρ 5 + ((-1) * ρ 12 + 0)) : Int) ≤ 0 := hc _ (List.mem_of_getElem? (i := 2) rfl)
  have c3 : (0 + ((-1) * ρ 4 + (1 * ρ 13 + 0)) : Int) ≤ 0 := hc _ (List.mem_of_getElem? (i := 3) rfl)
  have c4 : (0 + (1 * ρ 4 + ((-1) * ρ 13 + 0)) : Int) ≤ 0 := hc _ (List.mem_of_getElem? (i := 4) rfl)
  obtain ⟨t, e_t⟩ : ∃ x : Nat, ρ 1 = (x : Int) := ⟨(ρ 1).toNat, by omega⟩
  obtain ⟨n2, e_n2⟩ : ∃ x : Nat, ρ 2 = (x : Int) := ⟨(ρ 2).toNat, by omega⟩
  have t0 := h60 _ _ _ (qtl (a := 63) hm 0 rfl (by decide))
  have q2 : rv h 56 (0) = ρ 2 := qrv hm 1 rfl (by decide) (by decide +kernel) (by show (0 + 0 : Int) = ((0 : Nat) : Int); omega)
  have q3 : rv h 56 (1) = ρ 3 := qrv hm 2 rfl (by decide) (by decide +kernel) (by show (1 + 0 : Int) = ((1 : Nat) : Int); omega)
  have q4 : rv h 617 (7 * t + n2) = ρ 4 := qrv hm 3 rfl (by decide) (by decide +kernel) (by show (0 + (7 * ρ 1 + (1 * ρ 2 + 0)) : Int) = ((7 * t + n2 : Nat) : Int); omega)
  have q5 : rv h 614 (6 * t) = ρ 5 := qrv hm 4 rfl (by decide) (by decide +kernel) (by show (0 + (6 * ρ 1 + 0) : Int) = ((6 * t : Nat) : Int); omega)
  have q6 : rv h 614 (6 * t + n2) = ρ 6 := qrv hm 5 rfl (by decide) (by decide +kernel) (by show (0 + (6 * ρ 1 + (1 * ρ 2 + 0)) : Int) = ((6 * t + n2 : Nat) : Int); omega)
  have q7 : rv h 614 (6 * t + 6) = ρ 7 := qrv hm 6 rfl (by decide) (by decide +kernel) (by show (6 + (6 * ρ 1 + 0) : Int) = ((6 * t + 6 : Nat) : Int); omega)
  have q8 : rv h 615 (6 * t + n2) = ρ 8 := qrv hm 7 rfl (by decide) (by decide +kernel) (by show (0 + (6 * ρ 1 + (1 * ρ 2 + 0)) : Int) = ((6 * t + n2 : Nat) : Int); omega)
  have q9 : rv h 615 (6 * t + 6) = ρ 9 := qrv hm 8 rfl (by decide) (by decide +kernel) (by show (6 + (6 * ρ 1 + 0) : Int) = ((6 * t + 6 : Nat) : Int); omega)
  have q10 : rv h 616 (t) = ρ 10 := qrv hm 9 rfl (by decide) (by decide +kernel) (by show (0 + (1 * ρ 1 + 0) : Int) = ((t : Nat) : Int); omega)
  have q11 : rv h 616 (t + 1) = ρ 11 := qrv hm 10 rfl (by decide) (by decide +kernel) (by show (1 + (1 * ρ 1 + 0) : Int) = ((t + 1 : Nat) : Int); omega)
  obtain ⟨n, H, g0, g1, g2, g3, g4, g5, g6, g7, g8, g9, g10, gW, gS, gA, gO, gD, gU, gQ, gV⟩ := t0
  have hM : ρ 2 = (n : Int) := q2.symm.trans g0
  have hH : ρ 3 = (H : Int) := q3.symm.trans g1
  have htH : t < H := by omega
  have en : n2 = n := by omega
  rw [en] at q4 q6 q8
  have kV := gV t n (by omega)
  rw [q4] at kV
  obtain ⟨a1, b1⟩ := gU (6 * t) (by omega)
  obtain ⟨a2, b2⟩ := gU (6 * t + n) (by omega)
  obtain ⟨a3, b3⟩ := gU (6 * t + 6) (by omega)
  have kq := gQ t (by omega)
  have kq2 := gQ (t + 1) (by omega)
  rw [q5] at a1
  rw [q6] at a2
  rw [q7] at a3
  rw [q8] at b2
  rw [q9] at b3
  rw [q10] at kq
  rw [q11] at kq2
  have s1 : ρ 7 = ρ 6 := by
    rw [a3, a2]
    unfold nUN
    rw [show 6 * t + 6 = 6 * t + n + (6 - n) by omega]
    exact nCt_skip (fun j j1 j2 => if_neg (fun z => by have := z.1; omega))
  have s2 : ρ 9 = ρ 8 := by
    rw [b3, b2]
    unfold nOP
    rw [show 6 * t + 6 = 6 * t + n + (6 - n) by omega]
    exact nCt_skip (fun j j1 j2 => if_neg (fun z => by have := z.1; omega))
  have s3 : ρ 5 ≤ ρ 6 := by
    rw [a1, a2]
    unfold nUN
    exact nCt_mono (fun j => by split <;> decide) (6 * t) n
  have s4 := nAW_01 (n := n) (mare := rv h 56 2) (hold := rv h 54 5) (nt := rv h 15 9) (ne := rv h 55) (bd := rv h 8) (ey := rv h 9) (dm := rv h 10) (pl := rv h 13) (W := rv h 620) (g0 := fun a m => rv h (610 + a) m) t n
  rw [← kV] at s4
  unfold nQU at kq kq2
  simp only [nCt] at kq2
  rw [← kq, ← kV, ← a1, ← a2] at kq2
  by_cases x : ρ 4 = 1
  · by_cases y : ρ 6 = ρ 5
    · rw [if_pos ⟨x, y⟩] at kq2
      exact ⟨_, List.mem_of_getElem? (i := 0) rfl, rfl, rfl, (pAll1 (show (0 + ((-1) * ρ 6 + (1 * ρ 7 + 0)) : Int) ≤ 0 by omega) (pAll1 (show (0 + (1 * ρ 6 + ((-1) * ρ 7 + 0)) : Int) ≤ 0 by omega) (pAll1 (show (0 + ((-1) * ρ 8 + (1 * ρ 9 + 0)) : Int) ≤ 0 by omega) (pAll1 (show (0 + (1 * ρ 8 + ((-1) * ρ 9 + 0)) : Int) ≤ 0 by omega) (pAll1 (show ((-1) + (1 * ρ 13 + 0) : Int) ≤ 0 by omega) (pAll1 (show (1 + ((-1) * ρ 13 + 0) : Int) ≤ 0 by omega) (pAll1 (show (0 + (1 * ρ 6 + ((-1) * ρ 12 + 0)) : Int) ≤ 0 by omega) (pAll1 (show (0 + ((-1) * ρ 6 + (1 * ρ 12 + 0)) : Int) ≤ 0 by omega) (pAll1 (show ((-1) + ((-1) * ρ 10 + (1 * ρ 11 + 0)) : Int) ≤ 0 by omega) (pAll1 (show (1 + (1 * ρ 10 + ((-1) * ρ 11 + 0)) : Int) ≤ 0 by omega) pAll0)))))))))), pAll0⟩
    · rw [if_neg (fun z => y z.2)] at kq2
      exact ⟨_, List.mem_of_getElem? (i := 2) rfl, rfl, rfl, (pAll1 (show (0 + ((-1) * ρ 6 + (1 * ρ 7 + 0)) : Int) ≤ 0 by omega) (pAll1 (show (0 + (1 * ρ 6 + ((-1) * ρ 7 + 0)) : Int) ≤ 0 by omega) (pAll1 (show (0 + ((-1) * ρ 8 + (1 * ρ 9 + 0)) : Int) ≤ 0 by omega) (pAll1 (show (0 + (1 * ρ 8 + ((-1) * ρ 9 + 0)) : Int) ≤ 0 by omega) (pAll1 (show ((-1) + (1 * ρ 13 + 0) : Int) ≤ 0 by omega) (pAll1 (show (1 + ((-1) * ρ 13 + 0) : Int) ≤ 0 by omega) (pAll1 (show (1 + ((-1) * ρ 6 + (1 * ρ 12 + 0)) : Int) ≤ 0 by omega) (pAll1 (show (0 + ((-1) * ρ 10 + (1 * ρ 11 + 0)) : Int) ≤ 0 by omega) (pAll1 (show (0 + (1 * ρ 10 + ((-1) * ρ 11 + 0)) : Int) ≤ 0 by omega) pAll0))))))))), pAll0⟩
  · rw [if_neg (fun z => x z.1)] at kq2
    exact ⟨_, List.mem_of_getElem? (i := 1) rfl, rfl, rfl, (pAll1 (show (0 + ((-1) * ρ 6 + (1 * ρ 7 + 0)) : Int) ≤ 0 by omega) (pAll1 (show (0 + (1 * ρ 6 + ((-1) * ρ 7 + 0)) : Int) ≤ 0 by omega) (pAll1 (show (0 + ((-1) * ρ 8 + (1 * ρ 9 + 0)) : Int) ≤ 0 by omega) (pAll1 (show (0 + (1 * ρ 8 + ((-1) * ρ 9 + 0)) : Int) ≤ 0 by omega) (pAll1 (show (0 + (1 * ρ 13 + 0) : Int) ≤ 0 by omega) (pAll1 (show (0 + ((-1) * ρ 13 + 0) : Int) ≤ 0 by omega) (pAll1 (show (0 + ((-1) * ρ 10 + (1 * ρ 11 + 0)) : Int) ≤ 0 by omega) (pAll1 (show (0 + (1 * ρ 10 + ((-1) * ρ 11 + 0)) : Int) ≤ 0 by omega) pAll0)))))))), pAll0⟩)

end NRUL
