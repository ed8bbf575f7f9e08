/-! the reference's night, a night gone by: rules -/
section MRUL
variable {gv : Nat → Int → Int → zH → Prop}

theorem qR_an_ok (h61 : ∀ x y h, gv 61 x y h → qTab pReg h) : pRulQ pReg qG gv qR_an := qrul (by decide +kernel) (fun h ρ hG hm hb hc => by
  have b0 : (1 : Int) ≤ ρ 0 ∧ ρ 0 ≤ 1 := hb 0 (1, 1) rfl
  have b1 : (0 : Int) ≤ ρ 1 ∧ ρ 1 ≤ 63 := hb 1 (0, 63) rfl
  have b2 : (0 : Int) ≤ ρ 2 ∧ ρ 2 ≤ 5 := hb 2 (0, 5) rfl
  have b3 : (0 : Int) ≤ ρ 3 ∧ ρ 3 ≤ 63 := hb 3 (0, 63) rfl
  have b4 : (0 : Int) ≤ ρ 4 ∧ ρ 4 ≤ 63 := hb 4 (0, 63) rfl
  obtain ⟨s, e_s⟩ : ∃ x : Nat, ρ 1 = (x : Int) := ⟨(ρ 1).toNat, by omega⟩
  obtain ⟨k, e_k⟩ : ∃ x : Nat, ρ 2 = (x : Int) := ⟨(ρ 2).toNat, by omega⟩
  obtain ⟨v, e_v⟩ : ∃ x : Nat, ρ 3 = (x : Int) := ⟨(ρ 3).toNat, by omega⟩
  have t0 := h61 _ _ _ (qtl (a := 61) hm 0 rfl (by decide))
  have q1 : rv h 702 (64 * k + s) = ρ 3 := qrv hm 1 rfl (by decide) (by decide +kernel) (by show (0 + (1 * ρ 1 + (64 * ρ 2 + 0)) : Int) = ((64 * k + s : Nat) : Int); omega)
  have q2 : rv h 703 (v + 64) = ρ 4 := qrv hm 2 rfl (by decide) (by decide +kernel) (by show (64 + (1 * ρ 3 + 0) : Int) = ((v + 64 : Nat) : Int); omega)
  have e := qt_and t0 (show v < 64 by omega)
  rw [q2] at e
  by_cases z : v % 2 = 0
  · exact ⟨_, List.mem_of_getElem? (i := 0) rfl, rfl, rfl, (pAll1 (show (0 + (1 * ρ 4 + 0) : Int) ≤ 0 by omega) (pAll1 (show (0 + ((-1) * ρ 4 + 0) : Int) ≤ 0 by omega) pAll0)), pAll0⟩
  · exact ⟨_, List.mem_of_getElem? (i := 1) rfl, rfl, rfl, (pAll1 (show ((-1) + (1 * ρ 4 + 0) : Int) ≤ 0 by omega) (pAll1 (show (1 + ((-1) * ρ 4 + 0) : Int) ≤ 0 by omega) pAll0)), pAll0⟩)

theorem qR_mo_ok (h64 : ∀ x y h, gv 64 x y h → mGh h) : pRulQ pReg qG gv qR_mo := qrul (by decide +kernel) (fun h ρ hG hm hb hc => by
  have b0 : (1 : Int) ≤ ρ 0 ∧ ρ 0 ≤ 1 := hb 0 (1, 1) rfl
  have b1 : (0 : Int) ≤ ρ 1 ∧ ρ 1 ≤ 5 := hb 1 (0, 5) rfl
  have b2 : (0 : Int) ≤ ρ 2 ∧ ρ 2 ≤ 5 := hb 2 (0, 5) rfl
  have b3 : (2 : Int) ≤ ρ 3 ∧ ρ 3 ≤ 6 := hb 3 (2, 6) rfl
  have b4 : (0 : Int) ≤ ρ 4 ∧ ρ 4 ≤ 5 := hb 4 (0, 5) rfl
  have b5 : ((-2147483648) : Int) ≤ ρ 5 ∧ ρ 5 ≤ 2147483647 := hb 5 ((-2147483648), 2147483647) rfl
  have c0 : (1 + (1 * ρ 1 + ((-1) * ρ 3 + 0)) : Int) ≤ 0 := hc _ (List.mem_of_getElem? (i := 0) rfl)
  have c1 : (0 + (1 * ρ 2 + ((-1) * ρ 4 + 0)) : Int) ≤ 0 := hc _ (List.mem_of_getElem? (i := 1) rfl)
  obtain ⟨p, e_p⟩ : ∃ x : Nat, ρ 1 = (x : Int) := ⟨(ρ 1).toNat, by omega⟩
  obtain ⟨o, e_o⟩ : ∃ x : Nat, ρ 2 = (x : Int) := ⟨(ρ 2).toNat, by omega⟩
  have t0 := h64 _ _ _ (qtl (a := 64) hm 0 rfl (by decide))
  have q1 : rv h 120 (22) = ρ 3 := qrv hm 1 rfl (by decide) (by decide +kernel) (by show (22 + 0 : Int) = ((22 : Nat) : Int); omega)
  have q2 : rv h 621 (p) = ρ 4 := qrv hm 2 rfl (by decide) (by decide +kernel) (by show (0 + (1 * ρ 1 + 0) : Int) = ((p : Nat) : Int); omega)
  have q3 : rv h 101 (o + 30) = ρ 5 := qrv hm 3 rfl (by decide) (by decide +kernel) (by show (30 + (1 * ρ 2 + 0) : Int) = ((o + 30 : Nat) : Int); omega)
  obtain ⟨n, H, mare, hold, nt, ne, bd, ey, dm, pl, g0, x0, x1, x2, x3, x4, xF, xG, ⟨o2, o3, o4, o5, oB, oP, oN, oL, oM⟩, ⟨gW, gMa, gS, gA, gO, gD, gU, gQ, gV, gK, gB⟩, yP, yR⟩ := t0
  have hM : ρ 3 = (n : Int) := q1.symm.trans x0
  have hpn : p < n := by omega
  have w0 := gMa p hpn
  rw [q2] at w0
  obtain ⟨w1, w2, w3⟩ := nMa_lt hpn oP
  have hon : o < n := by omega
  obtain ⟨-, -, -, k3, -⟩ := xF o hon
  rw [q3] at k3
  obtain ⟨-, -, -, -, r0, r1⟩ := oB o hon
  rw [← k3] at r0 r1
  by_cases e : o = nMa n pl p
  · rw [← e, ← k3] at w1
    exact ⟨_, List.mem_of_getElem? (i := 0) rfl, rfl, rfl, (pAll1 (show (0 + ((-1) * ρ 5 + 0) : Int) ≤ 0 by omega) (pAll1 (show (1 + ((-1) * ρ 3 + (1 * ρ 5 + 0)) : Int) ≤ 0 by omega) (pAll1 (show (1 + ((-1) * ρ 3 + (1 * ρ 4 + 0)) : Int) ≤ 0 by omega) (pAll1 (show (0 + ((-1) * ρ 1 + (1 * ρ 5 + 0)) : Int) ≤ 0 by omega) (pAll1 (show (0 + (1 * ρ 1 + ((-1) * ρ 5 + 0)) : Int) ≤ 0 by omega) (pAll1 (show (0 + ((-1) * ρ 2 + (1 * ρ 4 + 0)) : Int) ≤ 0 by omega) (pAll1 (show (0 + (1 * ρ 2 + ((-1) * ρ 4 + 0)) : Int) ≤ 0 by omega) pAll0))))))), pAll0⟩
  · have w4 := w3 o (by omega)
    rw [← k3] at w4
    rcases Int.lt_or_lt_of_ne w4 with z | z
    · exact ⟨_, List.mem_of_getElem? (i := 1) rfl, rfl, rfl, (pAll1 (show (0 + ((-1) * ρ 5 + 0) : Int) ≤ 0 by omega) (pAll1 (show (1 + ((-1) * ρ 3 + (1 * ρ 5 + 0)) : Int) ≤ 0 by omega) (pAll1 (show (1 + ((-1) * ρ 3 + (1 * ρ 4 + 0)) : Int) ≤ 0 by omega) (pAll1 (show (1 + ((-1) * ρ 1 + (1 * ρ 5 + 0)) : Int) ≤ 0 by omega) (pAll1 (show (1 + (1 * ρ 2 + ((-1) * ρ 4 + 0)) : Int) ≤ 0 by omega) pAll0))))), pAll0⟩
    · exact ⟨_, List.mem_of_getElem? (i := 2) rfl, rfl, rfl, (pAll1 (show (0 + ((-1) * ρ 5 + 0) : Int) ≤ 0 by omega) (pAll1 (show (1 + ((-1) * ρ 3 + (1 * ρ 5 + 0)) : Int) ≤ 0 by omega) (pAll1 (show (1 + ((-1) * ρ 3 + (1 * ρ 4 + 0)) : Int) ≤ 0 by omega) (pAll1 (show (1 + (1 * ρ 1 + ((-1) * ρ 5 + 0)) : Int) ≤ 0 by omega) (pAll1 (show (1 + (1 * ρ 2 + ((-1) * ρ 4 + 0)) : Int) ≤ 0 by omega) pAll0))))), pAll0⟩)

theorem qR_mo0_ok (h64 : ∀ x y h, gv 64 x y h → mGh h) : pRulQ pReg qG gv qR_mo0 := qrul (by decide +kernel) (fun h ρ hG hm hb hc => by
  have b0 : (1 : Int) ≤ ρ 0 ∧ ρ 0 ≤ 1 := hb 0 (1, 1) rfl
  have b1 : (0 : Int) ≤ ρ 1 ∧ ρ 1 ≤ 5 := hb 1 (0, 5) rfl
  have b2 : (2 : Int) ≤ ρ 2 ∧ ρ 2 ≤ 6 := hb 2 (2, 6) rfl
  have b3 : (0 : Int) ≤ ρ 3 ∧ ρ 3 ≤ 5 := hb 3 (0, 5) rfl
  have c0 : (1 + (1 * ρ 1 + ((-1) * ρ 2 + 0)) : Int) ≤ 0 := hc _ (List.mem_of_getElem? (i := 0) rfl)
  obtain ⟨p, e_p⟩ : ∃ x : Nat, ρ 1 = (x : Int) := ⟨(ρ 1).toNat, by omega⟩
  have t0 := h64 _ _ _ (qtl (a := 64) hm 0 rfl (by decide))
  have q1 : rv h 120 (22) = ρ 2 := qrv hm 1 rfl (by decide) (by decide +kernel) (by show (22 + 0 : Int) = ((22 : Nat) : Int); omega)
  have q2 : rv h 621 (p) = ρ 3 := qrv hm 2 rfl (by decide) (by decide +kernel) (by show (0 + (1 * ρ 1 + 0) : Int) = ((p : Nat) : Int); omega)
  obtain ⟨n, H, mare, hold, nt, ne, bd, ey, dm, pl, g0, x0, x1, x2, x3, x4, xF, xG, ⟨o2, o3, o4, o5, oB, oP, oN, oL, oM⟩, ⟨gW, gMa, gS, gA, gO, gD, gU, gQ, gV, gK, gB⟩, yP, yR⟩ := t0
  have hM : ρ 2 = (n : Int) := q1.symm.trans x0
  have hpn : p < n := by omega
  have w0 := gMa p hpn
  rw [q2] at w0
  obtain ⟨w1, w2, w3⟩ := nMa_lt hpn oP
  exact ⟨_, List.mem_of_getElem? (i := 0) rfl, rfl, rfl, (pAll1 (show (1 + ((-1) * ρ 2 + (1 * ρ 3 + 0)) : Int) ≤ 0 by omega) pAll0), pAll0⟩)

theorem qR_wm_ok (h64 : ∀ x y h, gv 64 x y h → mGh h) : pRulQ pReg qG gv qR_wm := qrul (by decide +kernel) (fun h ρ hG hm hb hc => by
  have b0 : (1 : Int) ≤ ρ 0 ∧ ρ 0 ≤ 1 := hb 0 (1, 1) rfl
  have b1 : (0 : Int) ≤ ρ 1 ∧ ρ 1 ≤ 5 := hb 1 (0, 5) rfl
  have b2 : (2 : Int) ≤ ρ 2 ∧ ρ 2 ≤ 6 := hb 2 (2, 6) rfl
  have b3 : (0 : Int) ≤ ρ 3 ∧ ρ 3 ≤ 5 := hb 3 (0, 5) rfl
  have b4 : (0 : Int) ≤ ρ 4 ∧ ρ 4 ≤ 5 := hb 4 (0, 5) rfl
  have c0 : (1 + (1 * ρ 1 + ((-1) * ρ 2 + 0)) : Int) ≤ 0 := hc _ (List.mem_of_getElem? (i := 0) rfl)
  obtain ⟨m, e_m⟩ : ∃ x : Nat, ρ 1 = (x : Int) := ⟨(ρ 1).toNat, by omega⟩
  have t0 := h64 _ _ _ (qtl (a := 64) hm 0 rfl (by decide))
  have q1 : rv h 120 (22) = ρ 2 := qrv hm 1 rfl (by decide) (by decide +kernel) (by show (22 + 0 : Int) = ((22 : Nat) : Int); omega)
  have q2 : rv h 606 (m) = ρ 3 := qrv hm 2 rfl (by decide) (by decide +kernel) (by show (0 + (1 * ρ 1 + 0) : Int) = ((m : Nat) : Int); omega)
  have q3 : rv h 101 (m + 30) = ρ 4 := qrv hm 3 rfl (by decide) (by decide +kernel) (by show (30 + (1 * ρ 1 + 0) : Int) = ((m + 30 : Nat) : Int); omega)
  obtain ⟨n, H, mare, hold, nt, ne, bd, ey, dm, pl, g0, x0, x1, x2, x3, x4, xF, xG, ⟨o2, o3, o4, o5, oB, oP, oN, oL, oM⟩, ⟨gW, gMa, gS, gA, gO, gD, gU, gQ, gV, gK, gB⟩, yP, yR⟩ := t0
  have hM : ρ 2 = (n : Int) := q1.symm.trans x0
  have hmn : m < n := by omega
  obtain ⟨-, -, -, k3, -⟩ := xF m hmn
  rw [q3] at k3
  obtain ⟨-, -, -, -, p0, p1⟩ := oB m hmn
  obtain ⟨-, w1, -⟩ := nWt_lt hmn p0 p1 oP
  have w2 := gW m hmn
  rw [q2] at w2
  rw [← k3] at p0 p1
  have key : ∀ k : Nat, nAh n pl m = (k : Int) → nWt n pl m = nMa n pl k := fun k hk => by
    unfold nWt nMa
    rw [hk]
  by_cases z : ρ 4 = 0
  · have ha : nAh n pl m = ((n - 1 : Nat) : Int) := by
      unfold nAh
      rw [← k3, if_pos z]
      omega
    have kk := key _ ha
    exact ⟨_, List.mem_of_getElem? (i := 0) rfl, rfl, rfl, (pAll1 (show (0 + (1 * ρ 4 + 0) : Int) ≤ 0 by omega) (pAll1 (show (0 + ((-1) * ρ 4 + 0) : Int) ≤ 0 by omega) (pAll1 (show (1 + ((-1) * ρ 2 + (1 * ρ 3 + 0)) : Int) ≤ 0 by omega) pAll0))), (pAll1 (qfr (by decide) (by decide +kernel) (p := n - 1) (by show ((-1) + (1 * ρ 2 + 0) : Int) = ((n - 1 : Nat) : Int); omega) (by show rv h 621 (n - 1) = (0 + (1 * ρ 3 + 0) : Int); rw [gMa (n - 1) (by omega), ← kk]; omega)) pAll0)⟩
  · have ha : nAh n pl m = (((ρ 4).toNat - 1 : Nat) : Int) := by
      unfold nAh
      rw [← k3, if_neg z]
      omega
    have kk := key _ ha
    exact ⟨_, List.mem_of_getElem? (i := 1) rfl, rfl, rfl, (pAll1 (show (1 + ((-1) * ρ 4 + 0) : Int) ≤ 0 by omega) (pAll1 (show (1 + ((-1) * ρ 2 + (1 * ρ 4 + 0)) : Int) ≤ 0 by omega) (pAll1 (show (1 + ((-1) * ρ 2 + (1 * ρ 3 + 0)) : Int) ≤ 0 by omega) pAll0))), (pAll1 (qfr (by decide) (by decide +kernel) (p := (ρ 4).toNat - 1) (by show ((-1) + (1 * ρ 4 + 0) : Int) = (((ρ 4).toNat - 1 : Nat) : Int); omega) (by show rv h 621 ((ρ 4).toNat - 1) = (0 + (1 * ρ 3 + 0) : Int); rw [gMa ((ρ 4).toNat - 1) (by omega), ← kk]; omega)) pAll0)⟩)

theorem qR_bd_ok (h64 : ∀ x y h, gv 64 x y h → mGh h) : pRulQ pReg qG gv qR_bd := qrul (by decide +kernel) (fun h ρ hG hm hb hc => by
  have b0 : (1 : Int) ≤ ρ 0 ∧ ρ 0 ≤ 1 := hb 0 (1, 1) rfl
  have b1 : (0 : Int) ≤ ρ 1 ∧ ρ 1 ≤ 5 := hb 1 (0, 5) rfl
  have b2 : (2 : Int) ≤ ρ 2 ∧ ρ 2 ≤ 6 := hb 2 (2, 6) rfl
  have b3 : ((-2147483648) : Int) ≤ ρ 3 ∧ ρ 3 ≤ 2147483647 := hb 3 ((-2147483648), 2147483647) rfl
  have b4 : ((-2147483648) : Int) ≤ ρ 4 ∧ ρ 4 ≤ 2147483647 := hb 4 ((-2147483648), 2147483647) rfl
  have c0 : (1 + (1 * ρ 1 + ((-1) * ρ 2 + 0)) : Int) ≤ 0 := hc _ (List.mem_of_getElem? (i := 0) rfl)
  obtain ⟨m, e_m⟩ : ∃ x : Nat, ρ 1 = (x : Int) := ⟨(ρ 1).toNat, by omega⟩
  have t0 := h64 _ _ _ (qtl (a := 64) hm 0 rfl (by decide))
  have q1 : rv h 120 (22) = ρ 2 := qrv hm 1 rfl (by decide) (by decide +kernel) (by show (22 + 0 : Int) = ((22 : Nat) : Int); omega)
  have q2 : rv h 101 (m) = ρ 3 := qrv hm 2 rfl (by decide) (by decide +kernel) (by show (0 + (1 * ρ 1 + 0) : Int) = ((m : Nat) : Int); omega)
  have q3 : rv h 100 (4 * m) = ρ 4 := qrv hm 3 rfl (by decide) (by decide +kernel) (by show (0 + (4 * ρ 1 + 0) : Int) = ((4 * m : Nat) : Int); omega)
  obtain ⟨n, H, mare, hold, nt, ne, bd, ey, dm, pl, g0, x0, x1, x2, x3, x4, xF, xG, ⟨o2, o3, o4, o5, oB, oP, oN, oL, oM⟩, ⟨gW, gMa, gS, gA, gO, gD, gU, gQ, gV, gK, gB⟩, yP, yR⟩ := t0
  have hM : ρ 2 = (n : Int) := q1.symm.trans x0
  have hmn : m < n := by omega
  obtain ⟨k0, -, -, -, k4⟩ := xF m hmn
  obtain ⟨p0, p1, -⟩ := oB m hmn
  rw [q2] at k0
  rw [q3] at k4
  rw [← k0] at p0
  rw [← k4] at p1
  exact ⟨_, List.mem_of_getElem? (i := 0) rfl, rfl, rfl, (pAll1 (show (0 + ((-1) * ρ 3 + 0) : Int) ≤ 0 by omega) (pAll1 (show ((-9) + (1 * ρ 3 + 0) : Int) ≤ 0 by omega) (pAll1 (show (0 + ((-1) * ρ 4 + 0) : Int) ≤ 0 by omega) (pAll1 (show ((-10) + (1 * ρ 4 + 0) : Int) ≤ 0 by omega) pAll0)))), pAll0⟩)

theorem qR_dbm_ok (h64 : ∀ x y h, gv 64 x y h → mGh h) : pRulQ pReg qG gv qR_dbm := qrul (by decide +kernel) (fun h ρ hG hm hb hc => by
  have b0 : (1 : Int) ≤ ρ 0 ∧ ρ 0 ≤ 1 := hb 0 (1, 1) rfl
  have b1 : (1 : Int) ≤ ρ 1 ∧ ρ 1 ≤ 1 := hb 1 (1, 1) rfl
  have b2 : (1 : Int) ≤ ρ 2 ∧ ρ 2 ≤ 1 := hb 2 (1, 1) rfl
  have b3 : (0 : Int) ≤ ρ 3 ∧ ρ 3 ≤ 5 := hb 3 (0, 5) rfl
  have b4 : (0 : Int) ≤ ρ 4 ∧ ρ 4 ≤ 9 := hb 4 (0, 9) rfl
  have b5 : (0 : Int) ≤ ρ 5 ∧ ρ 5 ≤ 1 := hb 5 (0, 1) rfl
  have b6 : (2 : Int) ≤ ρ 6 ∧ ρ 6 ≤ 6 := hb 6 (2, 6) rfl
  have b7 : (4 : Int) ≤ ρ 7 ∧ ρ 7 ≤ 10 := hb 7 (4, 10) rfl
  have b8 : (0 : Int) ≤ ρ 8 ∧ ρ 8 ≤ 5 := hb 8 (0, 5) rfl
  have b9 : (0 : Int) ≤ ρ 9 ∧ ρ 9 ≤ 2 := hb 9 (0, 2) rfl
  have b10 : ((-1) : Int) ≤ ρ 10 ∧ ρ 10 ≤ 20 := hb 10 ((-1), 20) rfl
  have b11 : ((-2147483648) : Int) ≤ ρ 11 ∧ ρ 11 ≤ 2147483647 := hb 11 ((-2147483648), 2147483647) rfl
  have b12 : ((-2147483648) : Int) ≤ ρ 12 ∧ ρ 12 ≤ 2147483647 := hb 12 ((-2147483648), 2147483647) rfl
  have b13 : ((-2147483648) : Int) ≤ ρ 13 ∧ ρ 13 ≤ 2147483647 := hb 13 ((-2147483648), 2147483647) rfl
  have b14 : ((-2147483648) : Int) ≤ ρ 14 ∧ ρ 14 ≤ 2147483647 := hb 14 ((-2147483648), 2147483647) rfl
  have b15 : ((-2147483648) : Int) ≤ ρ 15 ∧ ρ 15 ≤ 2147483647 := hb 15 ((-2147483648), 2147483647) rfl
  have c0 : (1 + (1 * ρ 3 + ((-1) * ρ 6 + 0)) : Int) ≤ 0 := hc _ (List.mem_of_getElem? (i := 0) rfl)
  have c1 : (1 + (1 * ρ 4 + ((-1) * ρ 7 + 0)) : Int) ≤ 0 := hc _ (List.mem_of_getElem? (i := 1) rfl)
  have c2 : ((-1) + ((-1) * ρ 5 + (1 * ρ 9 + 0)) : Int) ≤ 0 := hc _ (List.mem_of_getElem? (i := 2) rfl)
  have c3 : (1 + (1 * ρ 5 + ((-1) * ρ 9 + 0)) : Int) ≤ 0 := hc _ (List.mem_of_getElem? (i := 3) rfl)
  obtain ⟨m, e_m⟩ : ∃ x : Nat, ρ 3 = (x : Int) := ⟨(ρ 3).toNat, by omega⟩
  obtain ⟨t, e_t⟩ : ∃ x : Nat, ρ 4 = (x : Int) := ⟨(ρ 4).toNat, by omega⟩
  obtain ⟨w, e_w⟩ : ∃ x : Nat, ρ 8 = (x : Int) := ⟨(ρ 8).toNat, by omega⟩
  have t0 := h64 _ _ _ (qtl (a := 64) hm 0 rfl (by decide))
  have q3 : rv h 120 (22) = ρ 6 := qrv hm 3 rfl (by decide) (by decide +kernel) (by show (22 + 0 : Int) = ((22 : Nat) : Int); omega)
  have q4 : rv h 99 (0) = ρ 7 := qrv hm 4 rfl (by decide) (by decide +kernel) (by show (0 + 0 : Int) = ((0 : Nat) : Int); omega)
  have q5 : rv h 606 (m) = ρ 8 := qrv hm 5 rfl (by decide) (by decide +kernel) (by show (0 + (1 * ρ 3 + 0) : Int) = ((m : Nat) : Int); omega)
  have q6 : rv h 608 (6 * t + m) = ρ 9 := qrv hm 6 rfl (by decide) (by decide +kernel) (by show (0 + (1 * ρ 3 + (6 * ρ 4 + 0)) : Int) = ((6 * t + m : Nat) : Int); omega)
  have q7 : rv h 609 (6 * t + m) = ρ 10 := qrv hm 7 rfl (by decide) (by decide +kernel) (by show (0 + (1 * ρ 3 + (6 * ρ 4 + 0)) : Int) = ((6 * t + m : Nat) : Int); omega)
  have q8 : rv h 610 (6 * t + m) = ρ 11 := qrv hm 8 rfl (by decide) (by decide +kernel) (by show (0 + (1 * ρ 3 + (6 * ρ 4 + 0)) : Int) = ((6 * t + m : Nat) : Int); omega)
  have q9 : rv h 101 (m + 12) = ρ 12 := qrv hm 9 rfl (by decide) (by decide +kernel) (by show (12 + (1 * ρ 3 + 0) : Int) = ((m + 12 : Nat) : Int); omega)
  have q10 : rv h 101 (w + 6) = ρ 13 := qrv hm 10 rfl (by decide) (by decide +kernel) (by show (6 + (1 * ρ 8 + 0) : Int) = ((w + 6 : Nat) : Int); omega)
  have q11 : rv h 101 (38) = ρ 14 := qrv hm 11 rfl (by decide) (by decide +kernel) (by show (38 + 0 : Int) = ((38 : Nat) : Int); omega)
  have q12 : rv h 120 (25) = ρ 15 := qrv hm 12 rfl (by decide) (by decide +kernel) (by show (25 + 0 : Int) = ((25 : Nat) : Int); omega)
  obtain ⟨n, H, mare, hold, nt, ne, bd, ey, dm, pl, g0, x0, x1, x2, x3, x4, xF, xG, ⟨o2, o3, o4, o5, oB, oP, oN, oL, oM⟩, ⟨gW, gMa, gS, gA, gO, gD, gU, gQ, gV, gK, gB⟩, yP, yR⟩ := t0
  have hM : ρ 6 = (n : Int) := q3.symm.trans x0
  have hH : ρ 7 = (H : Int) := q4.symm.trans x1
  have hmn : m < n := by omega
  have htH : t < H := by omega
  obtain ⟨-, -, -, -, p0, p1⟩ := oB m hmn
  obtain ⟨-, w1, -⟩ := nWt_lt hmn p0 p1 oP
  have w2 := gW m hmn
  rw [q5] at w2
  have hwn : w < n := by omega
  obtain ⟨-, -, -, d0, -⟩ := oB m hmn
  obtain ⟨-, -, e0, -⟩ := oB w hwn
  obtain ⟨-, -, k2, -⟩ := xF m hmn
  obtain ⟨-, k1, -⟩ := xF w hwn
  rw [q9] at k2
  rw [q10] at k1
  rw [← k2] at d0
  rw [← k1] at e0
  rw [q11] at x4
  rw [q12] at x3
  have k0 := gS t m 0 (by omega) (by omega) (by decide)
  rw [show 610 + 0 = 610 from rfl, q8] at k0
  obtain ⟨B0, -⟩ := nSt_b (n := n) (mare := mare) (hold := hold) (nt := nt) (ne := ne) (bd := bd) (ey := ey) (dm := dm) (pl := pl) (W := rv h 620) (g0 := g0) hmn t
  rw [← k0] at B0
  by_cases z : ρ 15 = -1
  · exact ⟨_, List.mem_of_getElem? (i := 0) rfl, rfl, rfl, (pAll1 (show (0 + ((-1) * ρ 12 + 0) : Int) ≤ 0 by omega) (pAll1 (show ((-18) + (1 * ρ 12 + 0) : Int) ≤ 0 by omega) (pAll1 (show (0 + ((-1) * ρ 13 + 0) : Int) ≤ 0 by omega) (pAll1 (show ((-12) + (1 * ρ 13 + 0) : Int) ≤ 0 by omega) (pAll1 (show (0 + ((-1) * ρ 14 + 0) : Int) ≤ 0 by omega) (pAll1 (show ((-999) + (1 * ρ 14 + 0) : Int) ≤ 0 by omega) (pAll1 (show (0 + ((-1) * ρ 11 + 0) : Int) ≤ 0 by omega) (pAll1 (show (0 + ((-1) * ρ 4 + (1 * ρ 11 + 0)) : Int) ≤ 0 by omega) (pAll1 (show (1 + ((-1) * ρ 6 + (1 * ρ 8 + 0)) : Int) ≤ 0 by omega) (pAll1 (show (1 + (1 * ρ 15 + 0) : Int) ≤ 0 by omega) (pAll1 (show ((-1) + ((-1) * ρ 15 + 0) : Int) ≤ 0 by omega) pAll0))))))))))), pAll0⟩
  · exact ⟨_, List.mem_of_getElem? (i := 1) rfl, rfl, rfl, (pAll1 (show (0 + ((-1) * ρ 12 + 0) : Int) ≤ 0 by omega) (pAll1 (show ((-18) + (1 * ρ 12 + 0) : Int) ≤ 0 by omega) (pAll1 (show (0 + ((-1) * ρ 13 + 0) : Int) ≤ 0 by omega) (pAll1 (show ((-12) + (1 * ρ 13 + 0) : Int) ≤ 0 by omega) (pAll1 (show (0 + ((-1) * ρ 14 + 0) : Int) ≤ 0 by omega) (pAll1 (show ((-999) + (1 * ρ 14 + 0) : Int) ≤ 0 by omega) (pAll1 (show (0 + ((-1) * ρ 11 + 0) : Int) ≤ 0 by omega) (pAll1 (show (0 + ((-1) * ρ 4 + (1 * ρ 11 + 0)) : Int) ≤ 0 by omega) (pAll1 (show (1 + ((-1) * ρ 6 + (1 * ρ 8 + 0)) : Int) ≤ 0 by omega) (pAll1 (show (0 + ((-1) * ρ 15 + 0) : Int) ≤ 0 by omega) (pAll1 (show ((-3) + (1 * ρ 15 + 0) : Int) ≤ 0 by omega) pAll0))))))))))), pAll0⟩)

theorem qR_drm_ok (h64 : ∀ x y h, gv 64 x y h → mGh h) (h61 : ∀ x y h, gv 61 x y h → qTab pReg h) : pRulQ pReg qG gv qR_drm := qrul (by decide +kernel) (fun h ρ hG hm hb hc => by
  have b0 : (1 : Int) ≤ ρ 0 ∧ ρ 0 ≤ 1 := hb 0 (1, 1) rfl
  have b1 : (1 : Int) ≤ ρ 1 ∧ ρ 1 ≤ 1 := hb 1 (1, 1) rfl
  have b2 : (1 : Int) ≤ ρ 2 ∧ ρ 2 ≤ 1 := hb 2 (1, 1) rfl
  have b3 : (0 : Int) ≤ ρ 3 ∧ ρ 3 ≤ 5 := hb 3 (0, 5) rfl
  have b4 : (0 : Int) ≤ ρ 4 ∧ ρ 4 ≤ 9 := hb 4 (0, 9) rfl
  have b5 : (0 : Int) ≤ ρ 5 ∧ ρ 5 ≤ 1 := hb 5 (0, 1) rfl
  have b6 : (2 : Int) ≤ ρ 6 ∧ ρ 6 ≤ 6 := hb 6 (2, 6) rfl
  have b7 : (4 : Int) ≤ ρ 7 ∧ ρ 7 ≤ 10 := hb 7 (4, 10) rfl
  have b8 : (0 : Int) ≤ ρ 8 ∧ ρ 8 ≤ 5 := hb 8 (0, 5) rfl
  have b9 : (0 : Int) ≤ ρ 9 ∧ ρ 9 ≤ 2 := hb 9 (0, 2) rfl
  have b10 : ((-1) : Int) ≤ ρ 10 ∧ ρ 10 ≤ 20 := hb 10 ((-1), 20) rfl
  have b11 : ((-2147483648) : Int) ≤ ρ 11 ∧ ρ 11 ≤ 2147483647 := hb 11 ((-2147483648), 2147483647) rfl
  have b12 : ((-2147483648) : Int) ≤ ρ 12 ∧ ρ 12 ≤ 2147483647 := hb 12 ((-2147483648), 2147483647) rfl
  have b13 : ((-2147483648) : Int) ≤ ρ 13 ∧ ρ 13 ≤ 2147483647 := hb 13 ((-2147483648), 2147483647) rfl
  have b14 : ((-2147483648) : Int) ≤ ρ 14 ∧ ρ 14 ≤ 2147483647 := hb 14 ((-2147483648), 2147483647) rfl
  have b15 : ((-2147483648) : Int) ≤ ρ 15 ∧ ρ 15 ≤ 2147483647 := hb 15 ((-2147483648), 2147483647) rfl
  have b16 : (0 : Int) ≤ ρ 16 ∧ ρ 16 ≤ 9999 := hb 16 (0, 9999) rfl
  have b17 : ((-1000000) : Int) ≤ ρ 17 ∧ ρ 17 ≤ 1000000 := hb 17 ((-1000000), 1000000) rfl
  have c0 : (1 + (1 * ρ 3 + ((-1) * ρ 6 + 0)) : Int) ≤ 0 := hc _ (List.mem_of_getElem? (i := 0) rfl)
  have c1 : (1 + (1 * ρ 4 + ((-1) * ρ 7 + 0)) : Int) ≤ 0 := hc _ (List.mem_of_getElem? (i := 1) rfl)
  have c2 : ((-1) + ((-1) * ρ 5 + (1 * ρ 9 + 0)) : Int) ≤ 0 := hc _ (List.mem_of_getElem? (i := 2) rfl)
  have c3 : (1 + (1 * ρ 5 + ((-1) * ρ 9 + 0)) : Int) ≤ 0 := hc _ (List.mem_of_getElem? (i := 3) rfl)
  have c4 : (0 + ((-1) * ρ 12 + 0) : Int) ≤ 0 := hc _ (List.mem_of_getElem? (i := 4) rfl)
  have c5 : ((-18) + (1 * ρ 12 + 0) : Int) ≤ 0 := hc _ (List.mem_of_getElem? (i := 5) rfl)
  have c6 : (0 + ((-1) * ρ 13 + 0) : Int) ≤ 0 := hc _ (List.mem_of_getElem? (i := 6) rfl)
  have c7 : ((-12) + (1 * ρ 13 + 0) : Int) ≤ 0 := hc _ (List.mem_of_getElem? (i := 7) rfl)
  have c8 : (0 + ((-1) * ρ 14 + 0) : Int) ≤ 0 := hc _ (List.mem_of_getElem? (i := 8) rfl)
  have c9 : ((-999) + (1 * ρ 14 + 0) : Int) ≤ 0 := hc _ (List.mem_of_getElem? (i := 9) rfl)
  have c10 : (0 + ((-1) * ρ 11 + 0) : Int) ≤ 0 := hc _ (List.mem_of_getElem? (i := 10) rfl)
  obtain ⟨m, e_m⟩ : ∃ x : Nat, ρ 3 = (x : Int) := ⟨(ρ 3).toNat, by omega⟩
  obtain ⟨t, e_t⟩ : ∃ x : Nat, ρ 4 = (x : Int) := ⟨(ρ 4).toNat, by omega⟩
  obtain ⟨w, e_w⟩ : ∃ x : Nat, ρ 8 = (x : Int) := ⟨(ρ 8).toNat, by omega⟩
  have t0 := h64 _ _ _ (qtl (a := 64) hm 0 rfl (by decide))
  have t1 := h61 _ _ _ (qtl (a := 61) hm 1 rfl (by decide))
  have q3 : rv h 120 (22) = ρ 6 := qrv hm 3 rfl (by decide) (by decide +kernel) (by show (22 + 0 : Int) = ((22 : Nat) : Int); omega)
  have q4 : rv h 99 (0) = ρ 7 := qrv hm 4 rfl (by decide) (by decide +kernel) (by show (0 + 0 : Int) = ((0 : Nat) : Int); omega)
  have q5 : rv h 606 (m) = ρ 8 := qrv hm 5 rfl (by decide) (by decide +kernel) (by show (0 + (1 * ρ 3 + 0) : Int) = ((m : Nat) : Int); omega)
  have q6 : rv h 608 (6 * t + m) = ρ 9 := qrv hm 6 rfl (by decide) (by decide +kernel) (by show (0 + (1 * ρ 3 + (6 * ρ 4 + 0)) : Int) = ((6 * t + m : Nat) : Int); omega)
  have q7 : rv h 609 (6 * t + m) = ρ 10 := qrv hm 7 rfl (by decide) (by decide +kernel) (by show (0 + (1 * ρ 3 + (6 * ρ 4 + 0)) : Int) = ((6 * t + m : Nat) : Int); omega)
  have q8 : rv h 610 (6 * t + m) = ρ 11 := qrv hm 8 rfl (by decide) (by decide +kernel) (by show (0 + (1 * ρ 3 + (6 * ρ 4 + 0)) : Int) = ((6 * t + m : Nat) : Int); omega)
  have q9 : rv h 101 (m + 12) = ρ 12 := qrv hm 9 rfl (by decide) (by decide +kernel) (by show (12 + (1 * ρ 3 + 0) : Int) = ((m + 12 : Nat) : Int); omega)
  have q10 : rv h 101 (w + 6) = ρ 13 := qrv hm 10 rfl (by decide) (by decide +kernel) (by show (6 + (1 * ρ 8 + 0) : Int) = ((w + 6 : Nat) : Int); omega)
  have q11 : rv h 101 (38) = ρ 14 := qrv hm 11 rfl (by decide) (by decide +kernel) (by show (38 + 0 : Int) = ((38 : Nat) : Int); omega)
  have q12 : rv h 120 (25) = ρ 15 := qrv hm 12 rfl (by decide) (by decide +kernel) (by show (25 + 0 : Int) = ((25 : Nat) : Int); omega)
  obtain ⟨n, H, mare, hold, nt, ne, bd, ey, dm, pl, g0, x0, x1, x2, x3, x4, xF, xG, ⟨o2, o3, o4, o5, oB, oP, oN, oL, oM⟩, ⟨gW, gMa, gS, gA, gO, gD, gU, gQ, gV, gK, gB⟩, yP, yR⟩ := t0
  have hM : ρ 6 = (n : Int) := q3.symm.trans x0
  have hH : ρ 7 = (H : Int) := q4.symm.trans x1
  have hmn : m < n := by omega
  have htH : t < H := by omega
  obtain ⟨-, -, -, -, p0, p1⟩ := oB m hmn
  obtain ⟨-, w1, -⟩ := nWt_lt hmn p0 p1 oP
  have w2 := gW m hmn
  rw [q5] at w2
  have ew : nWt n pl m = w := by omega
  have hwn : w < n := by omega
  obtain ⟨-, -, k2, -⟩ := xF m hmn
  obtain ⟨-, k1, -⟩ := xF w hwn
  rw [q9] at k2
  rw [q10] at k1
  rw [q11] at x4
  rw [q12] at x3
  have ho := (gO t m htH hmn).symm.trans q6
  have hr := (gD t m htH hmn).symm.trans q7
  have hs := (gS t m 0 (by omega) (by omega) (by decide)).symm.trans q8
  have he : ey (nWt n pl m) = ρ 13 := by rw [ew]; exact k1.symm
  obtain ⟨e, e_e⟩ : ∃ x : Nat, ρ 13 = (x : Int) := ⟨(ρ 13).toNat, by omega⟩
  have f0 := qt_div t1 (show e < 64 by omega)
  have q13 : rv h 704 (e + 20000) = ρ 16 := qrv hm 13 rfl (by decide) (by decide +kernel) (by show (20000 + (1 * ρ 13 + 0) : Int) = ((e + 20000 : Nat) : Int); omega)
  have hf : ρ 16 = ρ 13 / 2 := by rw [← q13, f0]; omega
  have hg : rv h 620 (nLi (ρ 12) (ρ 11) (ρ 13) (t : Int) (ρ 9 - 1) (ρ 14)).toNat = ρ 17 := qrv hm 14 rfl (by decide) (by decide +kernel) (by show (0 + (8192 * ρ 4 + (131072 * ρ 5 + (32 * ρ 11 + (1 * ρ 12 + (512 * ρ 13 + (262144 * ρ 14 + 0)))))) : Int) = _; unfold nLi; omega)
  obtain ⟨v, hv, hr2⟩ := nDr_cs ho k2.symm hs he hf (by rw [← x4] <;> exact hg) hr (by omega)
  rw [← x3] at hv
  rcases hv with ⟨z1, z2, z3⟩ | ⟨z1, z2, z3⟩ | ⟨z1, z3⟩
  · rcases hr2 with y | y | y
    · exact ⟨_, List.mem_of_getElem? (i := 0) rfl, rfl, rfl, (pAll1 (show (1 + (1 * ρ 15 + 0) : Int) ≤ 0 by omega) (pAll1 (show ((-1) + ((-1) * ρ 15 + 0) : Int) ≤ 0 by omega) (pAll1 (show (0 + (1 * ρ 5 + 0) : Int) ≤ 0 by omega) (pAll1 (show (0 + ((-1) * ρ 5 + 0) : Int) ≤ 0 by omega) (pAll1 (show (1 + (1 * ρ 11 + (1 * ρ 12 + 0)) : Int) ≤ 0 by omega) (pAll1 (show (0 + (1 * ρ 10 + 0) : Int) ≤ 0 by omega) (pAll1 (show (0 + ((-1) * ρ 10 + 0) : Int) ≤ 0 by omega) pAll0))))))), pAll0⟩
    · exact ⟨_, List.mem_of_getElem? (i := 1) rfl, rfl, rfl, (pAll1 (show (1 + (1 * ρ 15 + 0) : Int) ≤ 0 by omega) (pAll1 (show ((-1) + ((-1) * ρ 15 + 0) : Int) ≤ 0 by omega) (pAll1 (show (0 + (1 * ρ 5 + 0) : Int) ≤ 0 by omega) (pAll1 (show (0 + ((-1) * ρ 5 + 0) : Int) ≤ 0 by omega) (pAll1 (show (0 + ((-1) * ρ 11 + ((-1) * ρ 12 + 0)) : Int) ≤ 0 by omega) (pAll1 (show ((-20) + (1 * ρ 11 + (1 * ρ 12 + 0)) : Int) ≤ 0 by omega) (pAll1 (show (0 + (1 * ρ 10 + ((-1) * ρ 11 + ((-1) * ρ 12 + 0))) : Int) ≤ 0 by omega) (pAll1 (show (0 + ((-1) * ρ 10 + (1 * ρ 11 + (1 * ρ 12 + 0))) : Int) ≤ 0 by omega) pAll0)))))))), pAll0⟩
    · exact ⟨_, List.mem_of_getElem? (i := 2) rfl, rfl, rfl, (pAll1 (show (1 + (1 * ρ 15 + 0) : Int) ≤ 0 by omega) (pAll1 (show ((-1) + ((-1) * ρ 15 + 0) : Int) ≤ 0 by omega) (pAll1 (show (0 + (1 * ρ 5 + 0) : Int) ≤ 0 by omega) (pAll1 (show (0 + ((-1) * ρ 5 + 0) : Int) ≤ 0 by omega) (pAll1 (show (21 + ((-1) * ρ 11 + ((-1) * ρ 12 + 0)) : Int) ≤ 0 by omega) (pAll1 (show ((-20) + (1 * ρ 10 + 0) : Int) ≤ 0 by omega) (pAll1 (show (20 + ((-1) * ρ 10 + 0) : Int) ≤ 0 by omega) pAll0))))))), pAll0⟩
  · rcases hr2 with y | y | y
    · exact ⟨_, List.mem_of_getElem? (i := 3) rfl, rfl, rfl, (pAll1 (show (1 + (1 * ρ 15 + 0) : Int) ≤ 0 by omega) (pAll1 (show ((-1) + ((-1) * ρ 15 + 0) : Int) ≤ 0 by omega) (pAll1 (show ((-1) + (1 * ρ 5 + 0) : Int) ≤ 0 by omega) (pAll1 (show (1 + ((-1) * ρ 5 + 0) : Int) ≤ 0 by omega) (pAll1 (show (1 + (1 * ρ 11 + (1 * ρ 12 + ((-1) * ρ 16 + 0))) : Int) ≤ 0 by omega) (pAll1 (show (0 + (1 * ρ 10 + 0) : Int) ≤ 0 by omega) (pAll1 (show (0 + ((-1) * ρ 10 + 0) : Int) ≤ 0 by omega) pAll0))))))), pAll0⟩
    · exact ⟨_, List.mem_of_getElem? (i := 4) rfl, rfl, rfl, (pAll1 (show (1 + (1 * ρ 15 + 0) : Int) ≤ 0 by omega) (pAll1 (show ((-1) + ((-1) * ρ 15 + 0) : Int) ≤ 0 by omega) (pAll1 (show ((-1) + (1 * ρ 5 + 0) : Int) ≤ 0 by omega) (pAll1 (show (1 + ((-1) * ρ 5 + 0) : Int) ≤ 0 by omega) (pAll1 (show (0 + ((-1) * ρ 11 + ((-1) * ρ 12 + (1 * ρ 16 + 0))) : Int) ≤ 0 by omega) (pAll1 (show ((-20) + (1 * ρ 11 + (1 * ρ 12 + ((-1) * ρ 16 + 0))) : Int) ≤ 0 by omega) (pAll1 (show (0 + (1 * ρ 10 + ((-1) * ρ 11 + ((-1) * ρ 12 + (1 * ρ 16 + 0)))) : Int) ≤ 0 by omega) (pAll1 (show (0 + ((-1) * ρ 10 + (1 * ρ 11 + (1 * ρ 12 + ((-1) * ρ 16 + 0)))) : Int) ≤ 0 by omega) pAll0)))))))), pAll0⟩
    · exact ⟨_, List.mem_of_getElem? (i := 5) rfl, rfl, rfl, (pAll1 (show (1 + (1 * ρ 15 + 0) : Int) ≤ 0 by omega) (pAll1 (show ((-1) + ((-1) * ρ 15 + 0) : Int) ≤ 0 by omega) (pAll1 (show ((-1) + (1 * ρ 5 + 0) : Int) ≤ 0 by omega) (pAll1 (show (1 + ((-1) * ρ 5 + 0) : Int) ≤ 0 by omega) (pAll1 (show (21 + ((-1) * ρ 11 + ((-1) * ρ 12 + (1 * ρ 16 + 0))) : Int) ≤ 0 by omega) (pAll1 (show ((-20) + (1 * ρ 10 + 0) : Int) ≤ 0 by omega) (pAll1 (show (20 + ((-1) * ρ 10 + 0) : Int) ≤ 0 by omega) pAll0))))))), pAll0⟩
  · rcases hr2 with y | y | y
    · exact ⟨_, List.mem_of_getElem? (i := 6) rfl, rfl, rfl, (pAll1 (show (0 + ((-1) * ρ 15 + 0) : Int) ≤ 0 by omega) (pAll1 (show (1 + (1 * ρ 17 + 0) : Int) ≤ 0 by omega) (pAll1 (show (0 + (1 * ρ 10 + 0) : Int) ≤ 0 by omega) (pAll1 (show (0 + ((-1) * ρ 10 + 0) : Int) ≤ 0 by omega) pAll0)))), pAll0⟩
    · exact ⟨_, List.mem_of_getElem? (i := 7) rfl, rfl, rfl, (pAll1 (show (0 + ((-1) * ρ 15 + 0) : Int) ≤ 0 by omega) (pAll1 (show (0 + ((-1) * ρ 17 + 0) : Int) ≤ 0 by omega) (pAll1 (show ((-20) + (1 * ρ 17 + 0) : Int) ≤ 0 by omega) (pAll1 (show (0 + (1 * ρ 10 + ((-1) * ρ 17 + 0)) : Int) ≤ 0 by omega) (pAll1 (show (0 + ((-1) * ρ 10 + (1 * ρ 17 + 0)) : Int) ≤ 0 by omega) pAll0))))), pAll0⟩
    · exact ⟨_, List.mem_of_getElem? (i := 8) rfl, rfl, rfl, (pAll1 (show (0 + ((-1) * ρ 15 + 0) : Int) ≤ 0 by omega) (pAll1 (show (21 + ((-1) * ρ 17 + 0) : Int) ≤ 0 by omega) (pAll1 (show ((-20) + (1 * ρ 10 + 0) : Int) ≤ 0 by omega) (pAll1 (show (20 + ((-1) * ρ 10 + 0) : Int) ≤ 0 by omega) pAll0)))), pAll0⟩)

theorem qR_am_ok (h64 : ∀ x y h, gv 64 x y h → mGh h) (h61 : ∀ x y h, gv 61 x y h → qTab pReg h) : pRulQ pReg qG gv qR_am := qrul (by decide +kernel) (fun h ρ hG hm hb hc => by
  have b0 : (1 : Int) ≤ ρ 0 ∧ ρ 0 ≤ 1 := hb 0 (1, 1) rfl
  have b1 : (1 : Int) ≤ ρ 1 ∧ ρ 1 ≤ 1 := hb 1 (1, 1) rfl
  have b2 : (0 : Int) ≤ ρ 2 ∧ ρ 2 ≤ 9 := hb 2 (0, 9) rfl
  have b3 : (0 : Int) ≤ ρ 3 ∧ ρ 3 ≤ 5 := hb 3 (0, 5) rfl
  have b4 : (2 : Int) ≤ ρ 4 ∧ ρ 4 ≤ 6 := hb 4 (2, 6) rfl
  have b5 : (4 : Int) ≤ ρ 5 ∧ ρ 5 ≤ 10 := hb 5 (4, 10) rfl
  have b6 : ((-2147483648) : Int) ≤ ρ 6 ∧ ρ 6 ≤ 2147483647 := hb 6 ((-2147483648), 2147483647) rfl
  have b7 : ((-2147483648) : Int) ≤ ρ 7 ∧ ρ 7 ≤ 2147483647 := hb 7 ((-2147483648), 2147483647) rfl
  have b8 : ((-2147483648) : Int) ≤ ρ 8 ∧ ρ 8 ≤ 2147483647 := hb 8 ((-2147483648), 2147483647) rfl
  have b9 : (0 : Int) ≤ ρ 9 ∧ ρ 9 ≤ 1 := hb 9 (0, 1) rfl
  have b10 : (0 : Int) ≤ ρ 10 ∧ ρ 10 ≤ 63 := hb 10 (0, 63) rfl
  have b11 : (0 : Int) ≤ ρ 11 ∧ ρ 11 ≤ 63 := hb 11 (0, 63) rfl
  have b12 : (0 : Int) ≤ ρ 12 ∧ ρ 12 ≤ 63 := hb 12 (0, 63) rfl
  have b13 : (0 : Int) ≤ ρ 13 ∧ ρ 13 ≤ 2016 := hb 13 (0, 2016) rfl
  have b14 : (0 : Int) ≤ ρ 14 ∧ ρ 14 ≤ 63 := hb 14 (0, 63) rfl
  have c0 : (1 + (1 * ρ 3 + ((-1) * ρ 4 + 0)) : Int) ≤ 0 := hc _ (List.mem_of_getElem? (i := 0) rfl)
  have c1 : (1 + (1 * ρ 2 + ((-1) * ρ 5 + 0)) : Int) ≤ 0 := hc _ (List.mem_of_getElem? (i := 1) rfl)
  have c2 : (0 + (1 * ρ 10 + ((-1) * ρ 11 + 0)) : Int) ≤ 0 := hc _ (List.mem_of_getElem? (i := 2) rfl)
  have c3 : (0 + ((-1) * ρ 10 + (1 * ρ 11 + 0)) : Int) ≤ 0 := hc _ (List.mem_of_getElem? (i := 3) rfl)
  obtain ⟨t, e_t⟩ : ∃ x : Nat, ρ 2 = (x : Int) := ⟨(ρ 2).toNat, by omega⟩
  obtain ⟨m, e_m⟩ : ∃ x : Nat, ρ 3 = (x : Int) := ⟨(ρ 3).toNat, by omega⟩
  obtain ⟨s, e_s⟩ : ∃ x : Nat, ρ 10 = (x : Int) := ⟨(ρ 10).toNat, by omega⟩
  obtain ⟨p, e_p⟩ : ∃ x : Nat, ρ 13 = (x : Int) := ⟨(ρ 13).toNat, by omega⟩
  have t0 := h64 _ _ _ (qtl (a := 64) hm 0 rfl (by decide))
  have t1 := h61 _ _ _ (qtl (a := 61) hm 1 rfl (by decide))
  have q2 : rv h 120 (22) = ρ 4 := qrv hm 2 rfl (by decide) (by decide +kernel) (by show (22 + 0 : Int) = ((22 : Nat) : Int); omega)
  have q3 : rv h 99 (0) = ρ 5 := qrv hm 3 rfl (by decide) (by decide +kernel) (by show (0 + 0 : Int) = ((0 : Nat) : Int); omega)
  have q4 : rv h 101 (m) = ρ 6 := qrv hm 4 rfl (by decide) (by decide +kernel) (by show (0 + (1 * ρ 3 + 0) : Int) = ((m : Nat) : Int); omega)
  have q5 : rv h 100 (4 * m) = ρ 7 := qrv hm 5 rfl (by decide) (by decide +kernel) (by show (0 + (4 * ρ 3 + 0) : Int) = ((4 * m : Nat) : Int); omega)
  have q6 : rv h 611 (6 * t + m) = ρ 8 := qrv hm 6 rfl (by decide) (by decide +kernel) (by show (0 + (6 * ρ 2 + (1 * ρ 3 + 0)) : Int) = ((6 * t + m : Nat) : Int); omega)
  have q7 : rv h 607 (6 * t + m) = ρ 9 := qrv hm 7 rfl (by decide) (by decide +kernel) (by show (0 + (6 * ρ 2 + (1 * ρ 3 + 0)) : Int) = ((6 * t + m : Nat) : Int); omega)
  have q8 : rv h 622 (7 * t + m) = ρ 11 := qrv hm 8 rfl (by decide) (by decide +kernel) (by show (0 + (7 * ρ 2 + (1 * ρ 3 + 0)) : Int) = ((7 * t + m : Nat) : Int); omega)
  have q9 : rv h 622 (7 * t + m + 1) = ρ 12 := qrv hm 9 rfl (by decide) (by decide +kernel) (by show (1 + (7 * ρ 2 + (1 * ρ 3 + 0)) : Int) = ((7 * t + m + 1 : Nat) : Int); omega)
  have q10 : rv h 701 (64 * m + 1) = ρ 13 := qrv hm 10 rfl (by decide) (by decide +kernel) (by show (1 + (64 * ρ 3 + 0) : Int) = ((64 * m + 1 : Nat) : Int); omega)
  have q11 : rv h 700 (64 * p + s) = ρ 14 := qrv hm 11 rfl (by decide) (by decide +kernel) (by show (0 + (1 * ρ 10 + (64 * ρ 13 + 0)) : Int) = ((64 * p + s : Nat) : Int); omega)
  obtain ⟨n, H, mare, hold, nt, ne, bd, ey, dm, pl, g0, x0, x1, x2, x3, x4, xF, xG, ⟨o2, o3, o4, o5, oB, oP, oN, oL, oM⟩, ⟨gW, gMa, gS, gA, gO, gD, gU, gQ, gV, gK, gB⟩, yP, yR⟩ := t0
  have hM : ρ 4 = (n : Int) := q2.symm.trans x0
  have hH : ρ 5 = (H : Int) := q3.symm.trans x1
  have hmn : m < n := by omega
  have htH : t < H := by omega
  obtain ⟨k0, -, -, -, k4⟩ := xF m hmn
  obtain ⟨p0, p1, -⟩ := oB m hmn
  have hb2 := k0.symm.trans q4
  have hn := k4.symm.trans q5
  have hk := (gS t m 1 (by omega) (by omega) (by decide)).symm.trans q6
  have hA := (gA t m htH hmn).symm.trans q7
  have z := nAs_cs hb2 hn hk hA.symm
  rw [hb2] at p0
  rw [hn] at p1
  obtain ⟨-, kb, -⟩ := nSt_b (n := n) (mare := mare) (hold := hold) (nt := nt) (ne := ne) (bd := bd) (ey := ey) (dm := dm) (pl := pl) (W := rv h 620) (g0 := g0) hmn t
  rw [hk] at kb
  have g1 := (gK t m (by omega) (by omega)).1
  rw [q8] at g1
  have g2 := (gK t (m + 1) (by omega) (by omega)).1
  rw [show 7 * t + (m + 1) = 7 * t + m + 1 by omega, q9] at g2
  have g3 : ρ 12 = ρ 11 + (if nA n mare hold nt ne bd ey dm pl (rv h 620) g0 t m = true then (2 : Int) ^ m else 0) := by rw [g2, g1]; rfl
  have hm6 : m < 6 := by omega
  have s1 := qt_shl t1 hm6
  rw [q10] at s1
  have ep : p = 2 ^ m := Int.ofNat_inj.mp (e_p.symm.trans s1)
  have e2 : (2 : Int) ^ m = (p : Int) := by rw [ep, Int.natCast_pow]; rfl
  have pw := pw6 hm6
  rw [← ep] at pw
  rw [e2] at g3
  rw [nMk_b] at g1
  have hl := nBs_lt (f := nA n mare hold nt ne bd ey dm pl (rv h 620) g0 t) m
  have hs : s < 2 ^ m := by rw [← ep]; rw [← ep] at hl; omega
  have cc := qt_or2 t1 hm6 hs ep
  rw [q11] at cc
  by_cases y : nA n mare hold nt ne bd ey dm pl (rv h 620) g0 t m = true
  · rw [if_pos y] at hA g3
    rcases z with ⟨z1, z2, z3, z4⟩ | ⟨z1, z2, z3, z4⟩ | ⟨z1, z2⟩ | ⟨z1, z2⟩
    · exact ⟨_, List.mem_of_getElem? (i := 0) rfl, rfl, rfl, (pAll1 (show (0 + ((-1) * ρ 6 + 0) : Int) ≤ 0 by omega) (pAll1 (show ((-9) + (1 * ρ 6 + 0) : Int) ≤ 0 by omega) (pAll1 (show (0 + ((-1) * ρ 7 + 0) : Int) ≤ 0 by omega) (pAll1 (show ((-10) + (1 * ρ 7 + 0) : Int) ≤ 0 by omega) (pAll1 (show ((-1) + ((-1) * ρ 8 + 0) : Int) ≤ 0 by omega) (pAll1 (show (1 + ((-1) * ρ 2 + (1 * ρ 8 + 0)) : Int) ≤ 0 by omega) (pAll1 (show (1 + ((-1) * ρ 13 + 0) : Int) ≤ 0 by omega) (pAll1 (show ((-32) + (1 * ρ 13 + 0) : Int) ≤ 0 by omega) (pAll1 (show ((-1) + (1 * ρ 9 + 0) : Int) ≤ 0 by omega) (pAll1 (show (1 + ((-1) * ρ 9 + 0) : Int) ≤ 0 by omega) (pAll1 (show (0 + ((-1) * ρ 2 + (1 * ρ 6 + 0)) : Int) ≤ 0 by omega) (pAll1 (show (1 + (1 * ρ 2 + ((-1) * ρ 6 + ((-1) * ρ 7 + 0))) : Int) ≤ 0 by omega) (pAll1 (show (1 + (1 * ρ 8 + 0) : Int) ≤ 0 by omega) (pAll1 (show ((-1) + ((-1) * ρ 8 + 0) : Int) ≤ 0 by omega) (pAll1 (show (0 + (1 * ρ 12 + ((-1) * ρ 14 + 0)) : Int) ≤ 0 by omega) (pAll1 (show (0 + ((-1) * ρ 12 + (1 * ρ 14 + 0)) : Int) ≤ 0 by omega) pAll0)))))))))))))))), pAll0⟩
    · exfalso
      omega
    · exfalso
      omega
    · exfalso
      omega
  · rw [if_neg y] at hA g3
    rcases z with ⟨z1, z2, z3, z4⟩ | ⟨z1, z2, z3, z4⟩ | ⟨z1, z2⟩ | ⟨z1, z2⟩
    · exfalso
      omega
    · exact ⟨_, List.mem_of_getElem? (i := 1) rfl, rfl, rfl, (pAll1 (show (0 + ((-1) * ρ 6 + 0) : Int) ≤ 0 by omega) (pAll1 (show ((-9) + (1 * ρ 6 + 0) : Int) ≤ 0 by omega) (pAll1 (show (0 + ((-1) * ρ 7 + 0) : Int) ≤ 0 by omega) (pAll1 (show ((-10) + (1 * ρ 7 + 0) : Int) ≤ 0 by omega) (pAll1 (show ((-1) + ((-1) * ρ 8 + 0) : Int) ≤ 0 by omega) (pAll1 (show (1 + ((-1) * ρ 2 + (1 * ρ 8 + 0)) : Int) ≤ 0 by omega) (pAll1 (show (1 + ((-1) * ρ 13 + 0) : Int) ≤ 0 by omega) (pAll1 (show ((-32) + (1 * ρ 13 + 0) : Int) ≤ 0 by omega) (pAll1 (show (0 + (1 * ρ 9 + 0) : Int) ≤ 0 by omega) (pAll1 (show (0 + ((-1) * ρ 9 + 0) : Int) ≤ 0 by omega) (pAll1 (show (0 + ((-1) * ρ 2 + (1 * ρ 6 + 0)) : Int) ≤ 0 by omega) (pAll1 (show (1 + (1 * ρ 2 + ((-1) * ρ 6 + ((-1) * ρ 7 + 0))) : Int) ≤ 0 by omega) (pAll1 (show (0 + ((-1) * ρ 8 + 0) : Int) ≤ 0 by omega) (pAll1 (show (0 + ((-1) * ρ 10 + (1 * ρ 12 + 0)) : Int) ≤ 0 by omega) (pAll1 (show (0 + (1 * ρ 10 + ((-1) * ρ 12 + 0)) : Int) ≤ 0 by omega) pAll0))))))))))))))), pAll0⟩
    · exact ⟨_, List.mem_of_getElem? (i := 2) rfl, rfl, rfl, (pAll1 (show (0 + ((-1) * ρ 6 + 0) : Int) ≤ 0 by omega) (pAll1 (show ((-9) + (1 * ρ 6 + 0) : Int) ≤ 0 by omega) (pAll1 (show (0 + ((-1) * ρ 7 + 0) : Int) ≤ 0 by omega) (pAll1 (show ((-10) + (1 * ρ 7 + 0) : Int) ≤ 0 by omega) (pAll1 (show ((-1) + ((-1) * ρ 8 + 0) : Int) ≤ 0 by omega) (pAll1 (show (1 + ((-1) * ρ 2 + (1 * ρ 8 + 0)) : Int) ≤ 0 by omega) (pAll1 (show (1 + ((-1) * ρ 13 + 0) : Int) ≤ 0 by omega) (pAll1 (show ((-32) + (1 * ρ 13 + 0) : Int) ≤ 0 by omega) (pAll1 (show (0 + (1 * ρ 9 + 0) : Int) ≤ 0 by omega) (pAll1 (show (0 + ((-1) * ρ 9 + 0) : Int) ≤ 0 by omega) (pAll1 (show (1 + (1 * ρ 2 + ((-1) * ρ 6 + 0)) : Int) ≤ 0 by omega) (pAll1 (show (0 + ((-1) * ρ 10 + (1 * ρ 12 + 0)) : Int) ≤ 0 by omega) (pAll1 (show (0 + (1 * ρ 10 + ((-1) * ρ 12 + 0)) : Int) ≤ 0 by omega) pAll0))))))))))))), pAll0⟩
    · exact ⟨_, List.mem_of_getElem? (i := 3) rfl, rfl, rfl, (pAll1 (show (0 + ((-1) * ρ 6 + 0) : Int) ≤ 0 by omega) (pAll1 (show ((-9) + (1 * ρ 6 + 0) : Int) ≤ 0 by omega) (pAll1 (show (0 + ((-1) * ρ 7 + 0) : Int) ≤ 0 by omega) (pAll1 (show ((-10) + (1 * ρ 7 + 0) : Int) ≤ 0 by omega) (pAll1 (show ((-1) + ((-1) * ρ 8 + 0) : Int) ≤ 0 by omega) (pAll1 (show (1 + ((-1) * ρ 2 + (1 * ρ 8 + 0)) : Int) ≤ 0 by omega) (pAll1 (show (1 + ((-1) * ρ 13 + 0) : Int) ≤ 0 by omega) (pAll1 (show ((-32) + (1 * ρ 13 + 0) : Int) ≤ 0 by omega) (pAll1 (show (0 + (1 * ρ 9 + 0) : Int) ≤ 0 by omega) (pAll1 (show (0 + ((-1) * ρ 9 + 0) : Int) ≤ 0 by omega) (pAll1 (show (0 + ((-1) * ρ 2 + (1 * ρ 6 + (1 * ρ 7 + 0))) : Int) ≤ 0 by omega) (pAll1 (show (0 + ((-1) * ρ 10 + (1 * ρ 12 + 0)) : Int) ≤ 0 by omega) (pAll1 (show (0 + (1 * ρ 10 + ((-1) * ρ 12 + 0)) : Int) ≤ 0 by omega) pAll0))))))))))))), pAll0⟩)

theorem qR_mk0_ok (h64 : ∀ x y h, gv 64 x y h → mGh h) : pRulQ pReg qG gv qR_mk0 := qrul (by decide +kernel) (fun h ρ hG hm hb hc => by
  have b0 : (1 : Int) ≤ ρ 0 ∧ ρ 0 ≤ 1 := hb 0 (1, 1) rfl
  have b1 : (0 : Int) ≤ ρ 1 ∧ ρ 1 ≤ 9 := hb 1 (0, 9) rfl
  have b2 : (0 : Int) ≤ ρ 2 ∧ ρ 2 ≤ 63 := hb 2 (0, 63) rfl
  obtain ⟨t, e_t⟩ : ∃ x : Nat, ρ 1 = (x : Int) := ⟨(ρ 1).toNat, by omega⟩
  have t0 := h64 _ _ _ (qtl (a := 64) hm 0 rfl (by decide))
  have q1 : rv h 622 (7 * t) = ρ 2 := qrv hm 1 rfl (by decide) (by decide +kernel) (by show (0 + (7 * ρ 1 + 0) : Int) = ((7 * t : Nat) : Int); omega)
  obtain ⟨n, H, mare, hold, nt, ne, bd, ey, dm, pl, g0, x0, x1, x2, x3, x4, xF, xG, ⟨o2, o3, o4, o5, oB, oP, oN, oL, oM⟩, ⟨gW, gMa, gS, gA, gO, gD, gU, gQ, gV, gK, gB⟩, yP, yR⟩ := t0
  have g : ρ 2 = 0 := q1.symm.trans (gK t 0 (by omega) (by omega)).1
  exact ⟨_, List.mem_of_getElem? (i := 0) rfl, rfl, rfl, (pAll1 (show (0 + (1 * ρ 2 + 0) : Int) ≤ 0 by omega) (pAll1 (show (0 + ((-1) * ρ 2 + 0) : Int) ≤ 0 by omega) pAll0)), pAll0⟩)

theorem qR_wm0_ok (h64 : ∀ x y h, gv 64 x y h → mGh h) : pRulQ pReg qG gv qR_wm0 := qrul (by decide +kernel) (fun h ρ hG hm hb hc => by
  have b0 : (1 : Int) ≤ ρ 0 ∧ ρ 0 ≤ 1 := hb 0 (1, 1) rfl
  have b1 : (0 : Int) ≤ ρ 1 ∧ ρ 1 ≤ 9 := hb 1 (0, 9) rfl
  have b2 : (0 : Int) ≤ ρ 2 ∧ ρ 2 ≤ 63 := hb 2 (0, 63) rfl
  obtain ⟨t, e_t⟩ : ∃ x : Nat, ρ 1 = (x : Int) := ⟨(ρ 1).toNat, by omega⟩
  have t0 := h64 _ _ _ (qtl (a := 64) hm 0 rfl (by decide))
  have q1 : rv h 623 (7 * t) = ρ 2 := qrv hm 1 rfl (by decide) (by decide +kernel) (by show (0 + (7 * ρ 1 + 0) : Int) = ((7 * t : Nat) : Int); omega)
  obtain ⟨n, H, mare, hold, nt, ne, bd, ey, dm, pl, g0, x0, x1, x2, x3, x4, xF, xG, ⟨o2, o3, o4, o5, oB, oP, oN, oL, oM⟩, ⟨gW, gMa, gS, gA, gO, gD, gU, gQ, gV, gK, gB⟩, yP, yR⟩ := t0
  have g : ρ 2 = 0 := q1.symm.trans (gK t 0 (by omega) (by omega)).2
  exact ⟨_, List.mem_of_getElem? (i := 0) rfl, rfl, rfl, (pAll1 (show (0 + (1 * ρ 2 + 0) : Int) ≤ 0 by omega) (pAll1 (show (0 + ((-1) * ρ 2 + 0) : Int) ≤ 0 by omega) pAll0)), pAll0⟩)

theorem qR_hsm_ok (h64 : ∀ x y h, gv 64 x y h → mGh h) (h61 : ∀ x y h, gv 61 x y h → qTab pReg h) : pRulQ pReg qG gv qR_hsm := qrul (by decide +kernel) (fun h ρ hG hm hb hc => by
  have b0 : (1 : Int) ≤ ρ 0 ∧ ρ 0 ≤ 1 := hb 0 (1, 1) rfl
  have b1 : (1 : Int) ≤ ρ 1 ∧ ρ 1 ≤ 1 := hb 1 (1, 1) rfl
  have b2 : (0 : Int) ≤ ρ 2 ∧ ρ 2 ≤ 9 := hb 2 (0, 9) rfl
  have b3 : (0 : Int) ≤ ρ 3 ∧ ρ 3 ≤ 5 := hb 3 (0, 5) rfl
  have b4 : (0 : Int) ≤ ρ 4 ∧ ρ 4 ≤ 63 := hb 4 (0, 63) rfl
  have b5 : (2 : Int) ≤ ρ 5 ∧ ρ 5 ≤ 6 := hb 5 (2, 6) rfl
  have b6 : (4 : Int) ≤ ρ 6 ∧ ρ 6 ≤ 10 := hb 6 (4, 10) rfl
  have b7 : (0 : Int) ≤ ρ 7 ∧ ρ 7 ≤ 63 := hb 7 (0, 63) rfl
  have b8 : (0 : Int) ≤ ρ 8 ∧ ρ 8 ≤ 63 := hb 8 (0, 63) rfl
  have b9 : (0 : Int) ≤ ρ 9 ∧ ρ 9 ≤ 63 := hb 9 (0, 63) rfl
  have b10 : (0 : Int) ≤ ρ 10 ∧ ρ 10 ≤ 1 := hb 10 (0, 1) rfl
  have b11 : (0 : Int) ≤ ρ 11 ∧ ρ 11 ≤ 5 := hb 11 (0, 5) rfl
  have b12 : (0 : Int) ≤ ρ 12 ∧ ρ 12 ≤ 63 := hb 12 (0, 63) rfl
  have b13 : (0 : Int) ≤ ρ 13 ∧ ρ 13 ≤ 63 := hb 13 (0, 63) rfl
  have b14 : (0 : Int) ≤ ρ 14 ∧ ρ 14 ≤ 2 := hb 14 (0, 2) rfl
  have b15 : (0 : Int) ≤ ρ 15 ∧ ρ 15 ≤ 63 := hb 15 (0, 63) rfl
  have b16 : (0 : Int) ≤ ρ 16 ∧ ρ 16 ≤ 63 := hb 16 (0, 63) rfl
  have b17 : (0 : Int) ≤ ρ 17 ∧ ρ 17 ≤ 2016 := hb 17 (0, 2016) rfl
  have b18 : (0 : Int) ≤ ρ 18 ∧ ρ 18 ≤ 63 := hb 18 (0, 63) rfl
  have c0 : (1 + (1 * ρ 3 + ((-1) * ρ 5 + 0)) : Int) ≤ 0 := hc _ (List.mem_of_getElem? (i := 0) rfl)
  have c1 : (1 + (1 * ρ 2 + ((-1) * ρ 6 + 0)) : Int) ≤ 0 := hc _ (List.mem_of_getElem? (i := 1) rfl)
  have c2 : (0 + (1 * ρ 4 + ((-1) * ρ 7 + 0)) : Int) ≤ 0 := hc _ (List.mem_of_getElem? (i := 2) rfl)
  have c3 : (0 + ((-1) * ρ 4 + (1 * ρ 7 + 0)) : Int) ≤ 0 := hc _ (List.mem_of_getElem? (i := 3) rfl)
  obtain ⟨t, e_t⟩ : ∃ x : Nat, ρ 2 = (x : Int) := ⟨(ρ 2).toNat, by omega⟩
  obtain ⟨m, e_m⟩ : ∃ x : Nat, ρ 3 = (x : Int) := ⟨(ρ 3).toNat, by omega⟩
  obtain ⟨s, e_s⟩ : ∃ x : Nat, ρ 4 = (x : Int) := ⟨(ρ 4).toNat, by omega⟩
  obtain ⟨k, e_k⟩ : ∃ x : Nat, ρ 5 = (x : Int) := ⟨(ρ 5).toNat, by omega⟩
  obtain ⟨v, e_v⟩ : ∃ x : Nat, ρ 8 = (x : Int) := ⟨(ρ 8).toNat, by omega⟩
  obtain ⟨w, e_w⟩ : ∃ x : Nat, ρ 11 = (x : Int) := ⟨(ρ 11).toNat, by omega⟩
  obtain ⟨v2, e_v2⟩ : ∃ x : Nat, ρ 12 = (x : Int) := ⟨(ρ 12).toNat, by omega⟩
  obtain ⟨m1, e_m1⟩ : ∃ x : Nat, ρ 15 = (x : Int) := ⟨(ρ 15).toNat, by omega⟩
  obtain ⟨p, e_p⟩ : ∃ x : Nat, ρ 17 = (x : Int) := ⟨(ρ 17).toNat, by omega⟩
  have t0 := h64 _ _ _ (qtl (a := 64) hm 0 rfl (by decide))
  have t1 := h61 _ _ _ (qtl (a := 61) hm 1 rfl (by decide))
  have q2 : rv h 120 (22) = ρ 5 := qrv hm 2 rfl (by decide) (by decide +kernel) (by show (22 + 0 : Int) = ((22 : Nat) : Int); omega)
  have q3 : rv h 99 (0) = ρ 6 := qrv hm 3 rfl (by decide) (by decide +kernel) (by show (0 + 0 : Int) = ((0 : Nat) : Int); omega)
  have q4 : rv h 622 (7 * t + k) = ρ 7 := qrv hm 4 rfl (by decide) (by decide +kernel) (by show (0 + (7 * ρ 2 + (1 * ρ 5 + 0)) : Int) = ((7 * t + k : Nat) : Int); omega)
  have q5 : rv h 702 (64 * m + s) = ρ 8 := qrv hm 5 rfl (by decide) (by decide +kernel) (by show (0 + (64 * ρ 3 + (1 * ρ 4 + 0)) : Int) = ((64 * m + s : Nat) : Int); omega)
  have q6 : rv h 703 (v + 64) = ρ 9 := qrv hm 6 rfl (by decide) (by decide +kernel) (by show (64 + (1 * ρ 8 + 0) : Int) = ((v + 64 : Nat) : Int); omega)
  have q7 : rv h 607 (6 * t + m) = ρ 10 := qrv hm 7 rfl (by decide) (by decide +kernel) (by show (0 + (6 * ρ 2 + (1 * ρ 3 + 0)) : Int) = ((6 * t + m : Nat) : Int); omega)
  have q8 : rv h 606 (m) = ρ 11 := qrv hm 8 rfl (by decide) (by decide +kernel) (by show (0 + (1 * ρ 3 + 0) : Int) = ((m : Nat) : Int); omega)
  have q9 : rv h 702 (64 * w + s) = ρ 12 := qrv hm 9 rfl (by decide) (by decide +kernel) (by show (0 + (1 * ρ 4 + (64 * ρ 11 + 0)) : Int) = ((64 * w + s : Nat) : Int); omega)
  have q10 : rv h 703 (v2 + 64) = ρ 13 := qrv hm 10 rfl (by decide) (by decide +kernel) (by show (64 + (1 * ρ 12 + 0) : Int) = ((v2 + 64 : Nat) : Int); omega)
  have q11 : rv h 608 (6 * t + m) = ρ 14 := qrv hm 11 rfl (by decide) (by decide +kernel) (by show (0 + (6 * ρ 2 + (1 * ρ 3 + 0)) : Int) = ((6 * t + m : Nat) : Int); omega)
  have q12 : rv h 623 (7 * t + m) = ρ 15 := qrv hm 12 rfl (by decide) (by decide +kernel) (by show (0 + (7 * ρ 2 + (1 * ρ 3 + 0)) : Int) = ((7 * t + m : Nat) : Int); omega)
  have q13 : rv h 623 (7 * t + m + 1) = ρ 16 := qrv hm 13 rfl (by decide) (by decide +kernel) (by show (1 + (7 * ρ 2 + (1 * ρ 3 + 0)) : Int) = ((7 * t + m + 1 : Nat) : Int); omega)
  have q14 : rv h 701 (64 * m + 1) = ρ 17 := qrv hm 14 rfl (by decide) (by decide +kernel) (by show (1 + (64 * ρ 3 + 0) : Int) = ((64 * m + 1 : Nat) : Int); omega)
  have q15 : rv h 700 (64 * p + m1) = ρ 18 := qrv hm 15 rfl (by decide) (by decide +kernel) (by show (0 + (1 * ρ 15 + (64 * ρ 17 + 0)) : Int) = ((64 * p + m1 : Nat) : Int); omega)
  obtain ⟨n, H, mare, hold, nt, ne, bd, ey, dm, pl, g0, x0, x1, x2, x3, x4, xF, xG, ⟨o2, o3, o4, o5, oB, oP, oN, oL, oM⟩, ⟨gW, gMa, gS, gA, gO, gD, gU, gQ, gV, gK, gB⟩, yP, yR⟩ := t0
  have hM : ρ 5 = (n : Int) := q2.symm.trans x0
  have hH : ρ 6 = (H : Int) := q3.symm.trans x1
  have hmn : m < n := by omega
  have htH : t < H := by omega
  have ek : k = n := by omega
  obtain ⟨-, -, -, -, p0, p1⟩ := oB m hmn
  obtain ⟨-, w1, -⟩ := nWt_lt hmn p0 p1 oP
  have w2 := gW m hmn
  rw [q8] at w2
  have ew : nWt n pl m = w := by omega
  have hwn : w < n := by omega
  rw [ek] at q4
  have g1 := (gK t n (by omega) (Nat.le_refl n)).1
  rw [q4, nMk_b] at g1
  have es : s = nBs (nA n mare hold nt ne bd ey dm pl (rv h 620) g0 t) n := by omega
  have hm6 : m < 6 := by omega
  have hw6 : w < 6 := by omega
  have hs64 : s < 64 := by omega
  have d1 : s / 2 ^ m % 2 = if nA n mare hold nt ne bd ey dm pl (rv h 620) g0 t m = true then 1 else 0 := by rw [es]; exact nBs_d n hmn
  have d2 : s / 2 ^ w % 2 = if nA n mare hold nt ne bd ey dm pl (rv h 620) g0 t w = true then 1 else 0 := by rw [es]; exact nBs_d n hwn
  have s1 := qt_shr t1 hs64 hm6
  rw [q5] at s1
  have ev : v = s / 2 ^ m := Int.ofNat_inj.mp (e_v.symm.trans s1)
  have a1 := qt_and t1 (show v < 64 by omega)
  rw [q6, ev, d1] at a1
  have s2 := qt_shr t1 hs64 hw6
  rw [q9] at s2
  have ev2 : v2 = s / 2 ^ w := Int.ofNat_inj.mp (e_v2.symm.trans s2)
  have a2 := qt_and t1 (show v2 < 64 by omega)
  rw [q10, ev2, d2] at a2
  have kO := (gO t m htH hmn).symm.trans q11
  have g3 := (gK t m (by omega) (by omega)).2
  rw [q12] at g3
  have g4 := (gK t (m + 1) (by omega) (by omega)).2
  rw [show 7 * t + (m + 1) = 7 * t + m + 1 by omega, q13] at g4
  have g5 : ρ 16 = ρ 15 + (if nS n mare hold nt ne bd ey dm pl (rv h 620) g0 t m = 2 then (2 : Int) ^ m else 0) := by rw [g4, g3]; rfl
  rw [kO] at g5
  have s3 := qt_shl t1 hm6
  rw [q14] at s3
  have ep : p = 2 ^ m := Int.ofNat_inj.mp (e_p.symm.trans s3)
  have e2 : (2 : Int) ^ m = (p : Int) := by rw [ep, Int.natCast_pow]; rfl
  have pw := pw6 hm6
  rw [← ep] at pw
  rw [e2] at g5
  rw [nWm_b] at g3
  have hl := nBs_lt (f := fun j => decide (nS n mare hold nt ne bd ey dm pl (rv h 620) g0 t j = 2)) m
  have hs2 : m1 < 2 ^ m := by rw [← ep]; rw [← ep] at hl; omega
  have cc := qt_or2 t1 hm6 hs2 ep
  rw [q15] at cc
  have z := nSo_b (n := n) (ne := ne) (bd := bd) (pl := pl) (S := nSt n mare hold nt ne bd ey dm pl (rv h 620) g0 t) (h := t) (m := m)
  rw [ew] at z
  rcases z with ⟨z1, z2⟩ | ⟨z1, z2, z3⟩ | ⟨z1, z2, z3⟩
  · have y1 : ρ 9 = 0 := by rw [a1, if_neg (show ¬ nA n mare hold nt ne bd ey dm pl (rv h 620) g0 t m = true by rw [show nA n mare hold nt ne bd ey dm pl (rv h 620) g0 t m = false from z1]; decide)]; rfl
    have y2 : ρ 14 = 0 := kO.symm.trans z2
    rw [if_neg (by omega)] at g5
    exact ⟨_, List.mem_of_getElem? (i := 0) rfl, rfl, rfl, (pAll1 (show (1 + ((-1) * ρ 5 + (1 * ρ 11 + 0)) : Int) ≤ 0 by omega) (pAll1 (show (1 + ((-1) * ρ 17 + 0) : Int) ≤ 0 by omega) (pAll1 (show ((-32) + (1 * ρ 17 + 0) : Int) ≤ 0 by omega) (pAll1 (show (0 + (1 * ρ 9 + 0) : Int) ≤ 0 by omega) (pAll1 (show (0 + ((-1) * ρ 9 + 0) : Int) ≤ 0 by omega) (pAll1 (show (0 + (1 * ρ 14 + 0) : Int) ≤ 0 by omega) (pAll1 (show (0 + ((-1) * ρ 14 + 0) : Int) ≤ 0 by omega) (pAll1 (show (0 + ((-1) * ρ 15 + (1 * ρ 16 + 0)) : Int) ≤ 0 by omega) (pAll1 (show (0 + (1 * ρ 15 + ((-1) * ρ 16 + 0)) : Int) ≤ 0 by omega) pAll0))))))))), pAll0⟩
  · have y1 : ρ 9 = 1 := by rw [a1, if_pos (show nA n mare hold nt ne bd ey dm pl (rv h 620) g0 t m = true from z1)]; rfl
    have y3 : ρ 13 = 0 := by rw [a2, if_neg (show ¬ nA n mare hold nt ne bd ey dm pl (rv h 620) g0 t w = true by rw [show nA n mare hold nt ne bd ey dm pl (rv h 620) g0 t w = false from z2]; decide)]; rfl
    have y2 : ρ 14 = 2 := kO.symm.trans z3
    rw [if_pos y2] at g5
    exact ⟨_, List.mem_of_getElem? (i := 1) rfl, rfl, rfl, (pAll1 (show (1 + ((-1) * ρ 5 + (1 * ρ 11 + 0)) : Int) ≤ 0 by omega) (pAll1 (show (1 + ((-1) * ρ 17 + 0) : Int) ≤ 0 by omega) (pAll1 (show ((-32) + (1 * ρ 17 + 0) : Int) ≤ 0 by omega) (pAll1 (show ((-1) + (1 * ρ 9 + 0) : Int) ≤ 0 by omega) (pAll1 (show (1 + ((-1) * ρ 9 + 0) : Int) ≤ 0 by omega) (pAll1 (show (0 + (1 * ρ 13 + 0) : Int) ≤ 0 by omega) (pAll1 (show (0 + ((-1) * ρ 13 + 0) : Int) ≤ 0 by omega) (pAll1 (show ((-2) + (1 * ρ 14 + 0) : Int) ≤ 0 by omega) (pAll1 (show (2 + ((-1) * ρ 14 + 0) : Int) ≤ 0 by omega) (pAll1 (show (0 + (1 * ρ 16 + ((-1) * ρ 18 + 0)) : Int) ≤ 0 by omega) (pAll1 (show (0 + ((-1) * ρ 16 + (1 * ρ 18 + 0)) : Int) ≤ 0 by omega) pAll0))))))))))), pAll0⟩
  · have y1 : ρ 9 = 1 := by rw [a1, if_pos (show nA n mare hold nt ne bd ey dm pl (rv h 620) g0 t m = true from z1)]; rfl
    have y3 : ρ 13 = 1 := by rw [a2, if_pos (show nA n mare hold nt ne bd ey dm pl (rv h 620) g0 t w = true from z2)]; rfl
    have y2 : ρ 14 = 1 := kO.symm.trans z3
    rw [if_neg (by omega)] at g5
    exact ⟨_, List.mem_of_getElem? (i := 2) rfl, rfl, rfl, (pAll1 (show (1 + ((-1) * ρ 5 + (1 * ρ 11 + 0)) : Int) ≤ 0 by omega) (pAll1 (show (1 + ((-1) * ρ 17 + 0) : Int) ≤ 0 by omega) (pAll1 (show ((-32) + (1 * ρ 17 + 0) : Int) ≤ 0 by omega) (pAll1 (show ((-1) + (1 * ρ 9 + 0) : Int) ≤ 0 by omega) (pAll1 (show (1 + ((-1) * ρ 9 + 0) : Int) ≤ 0 by omega) (pAll1 (show ((-1) + (1 * ρ 13 + 0) : Int) ≤ 0 by omega) (pAll1 (show (1 + ((-1) * ρ 13 + 0) : Int) ≤ 0 by omega) (pAll1 (show ((-1) + (1 * ρ 14 + 0) : Int) ≤ 0 by omega) (pAll1 (show (1 + ((-1) * ρ 14 + 0) : Int) ≤ 0 by omega) (pAll1 (show (0 + ((-1) * ρ 15 + (1 * ρ 16 + 0)) : Int) ≤ 0 by omega) (pAll1 (show (0 + (1 * ρ 15 + ((-1) * ρ 16 + 0)) : Int) ≤ 0 by omega) pAll0))))))))))), pAll0⟩)

theorem qR_rxm_ok (h64 : ∀ x y h, gv 64 x y h → mGh h) : pRulQ pReg qG gv qR_rxm := qrul (by decide +kernel) (fun h ρ hG hm hb hc => by
  have b0 : (1 : Int) ≤ ρ 0 ∧ ρ 0 ≤ 1 := hb 0 (1, 1) rfl
  have b1 : (0 : Int) ≤ ρ 1 ∧ ρ 1 ≤ 9 := hb 1 (0, 9) rfl
  have b2 : (0 : Int) ≤ ρ 2 ∧ ρ 2 ≤ 5 := hb 2 (0, 5) rfl
  have b3 : (2 : Int) ≤ ρ 3 ∧ ρ 3 ≤ 6 := hb 3 (2, 6) rfl
  have b4 : (4 : Int) ≤ ρ 4 ∧ ρ 4 ≤ 10 := hb 4 (4, 10) rfl
  have b5 : (1 : Int) ≤ ρ 5 ∧ ρ 5 ≤ 20 := hb 5 (1, 20) rfl
  have b6 : (0 : Int) ≤ ρ 6 ∧ ρ 6 ≤ 2 := hb 6 (0, 2) rfl
  have b7 : ((-1) : Int) ≤ ρ 7 ∧ ρ 7 ≤ 20 := hb 7 ((-1), 20) rfl
  have b8 : ((-2147483648) : Int) ≤ ρ 8 ∧ ρ 8 ≤ 2147483647 := hb 8 ((-2147483648), 2147483647) rfl
  have b9 : ((-2147483648) : Int) ≤ ρ 9 ∧ ρ 9 ≤ 2147483647 := hb 9 ((-2147483648), 2147483647) rfl
  have b10 : ((-2147483648) : Int) ≤ ρ 10 ∧ ρ 10 ≤ 2147483647 := hb 10 ((-2147483648), 2147483647) rfl
  have b11 : ((-2147483648) : Int) ≤ ρ 11 ∧ ρ 11 ≤ 2147483647 := hb 11 ((-2147483648), 2147483647) rfl
  have b12 : ((-2147483648) : Int) ≤ ρ 12 ∧ ρ 12 ≤ 2147483647 := hb 12 ((-2147483648), 2147483647) rfl
  have b13 : ((-2147483648) : Int) ≤ ρ 13 ∧ ρ 13 ≤ 2147483647 := hb 13 ((-2147483648), 2147483647) rfl
  have b14 : ((-2147483648) : Int) ≤ ρ 14 ∧ ρ 14 ≤ 2147483647 := hb 14 ((-2147483648), 2147483647) rfl
  have b15 : ((-2147483648) : Int) ≤ ρ 15 ∧ ρ 15 ≤ 2147483647 := hb 15 ((-2147483648), 2147483647) rfl
  have b16 : (0 : Int) ≤ ρ 16 ∧ ρ 16 ≤ 60 := hb 16 (0, 60) rfl
  have b17 : (0 : Int) ≤ ρ 17 ∧ ρ 17 ≤ 60 := hb 17 (0, 60) rfl
  have b18 : (0 : Int) ≤ ρ 18 ∧ ρ 18 ≤ 60 := hb 18 (0, 60) rfl
  have b19 : (0 : Int) ≤ ρ 19 ∧ ρ 19 ≤ 60 := hb 19 (0, 60) rfl
  have b20 : (0 : Int) ≤ ρ 20 ∧ ρ 20 ≤ 60 := hb 20 (0, 60) rfl
  have b21 : (0 : Int) ≤ ρ 21 ∧ ρ 21 ≤ 60 := hb 21 (0, 60) rfl
  have c0 : (1 + (1 * ρ 2 + ((-1) * ρ 3 + 0)) : Int) ≤ 0 := hc _ (List.mem_of_getElem? (i := 0) rfl)
  have c1 : (1 + (1 * ρ 1 + ((-1) * ρ 4 + 0)) : Int) ≤ 0 := hc _ (List.mem_of_getElem? (i := 1) rfl)
  obtain ⟨t, e_t⟩ : ∃ x : Nat, ρ 1 = (x : Int) := ⟨(ρ 1).toNat, by omega⟩
  obtain ⟨m, e_m⟩ : ∃ x : Nat, ρ 2 = (x : Int) := ⟨(ρ 2).toNat, by omega⟩
  have t0 := h64 _ _ _ (qtl (a := 64) hm 0 rfl (by decide))
  have q1 : rv h 120 (22) = ρ 3 := qrv hm 1 rfl (by decide) (by decide +kernel) (by show (22 + 0 : Int) = ((22 : Nat) : Int); omega)
  have q2 : rv h 99 (0) = ρ 4 := qrv hm 2 rfl (by decide) (by decide +kernel) (by show (0 + 0 : Int) = ((0 : Nat) : Int); omega)
  have q3 : rv h 99 (1) = ρ 5 := qrv hm 3 rfl (by decide) (by decide +kernel) (by show (1 + 0 : Int) = ((1 : Nat) : Int); omega)
  have q4 : rv h 608 (6 * t + m) = ρ 6 := qrv hm 4 rfl (by decide) (by decide +kernel) (by show (0 + (6 * ρ 1 + (1 * ρ 2 + 0)) : Int) = ((6 * t + m : Nat) : Int); omega)
  have q5 : rv h 609 (6 * t + m) = ρ 7 := qrv hm 5 rfl (by decide) (by decide +kernel) (by show (0 + (6 * ρ 1 + (1 * ρ 2 + 0)) : Int) = ((6 * t + m : Nat) : Int); omega)
  have q6 : rv h 610 (6 * t + m) = ρ 8 := qrv hm 6 rfl (by decide) (by decide +kernel) (by show (0 + (6 * ρ 1 + (1 * ρ 2 + 0)) : Int) = ((6 * t + m : Nat) : Int); omega)
  have q7 : rv h 611 (6 * t + m) = ρ 9 := qrv hm 7 rfl (by decide) (by decide +kernel) (by show (0 + (6 * ρ 1 + (1 * ρ 2 + 0)) : Int) = ((6 * t + m : Nat) : Int); omega)
  have q8 : rv h 612 (6 * t + m) = ρ 10 := qrv hm 8 rfl (by decide) (by decide +kernel) (by show (0 + (6 * ρ 1 + (1 * ρ 2 + 0)) : Int) = ((6 * t + m : Nat) : Int); omega)
  have q9 : rv h 613 (6 * t + m) = ρ 11 := qrv hm 9 rfl (by decide) (by decide +kernel) (by show (0 + (6 * ρ 1 + (1 * ρ 2 + 0)) : Int) = ((6 * t + m : Nat) : Int); omega)
  have q10 : rv h 610 (6 * t + m + 6) = ρ 12 := qrv hm 10 rfl (by decide) (by decide +kernel) (by show (6 + (6 * ρ 1 + (1 * ρ 2 + 0)) : Int) = ((6 * t + m + 6 : Nat) : Int); omega)
  have q11 : rv h 611 (6 * t + m + 6) = ρ 13 := qrv hm 11 rfl (by decide) (by decide +kernel) (by show (6 + (6 * ρ 1 + (1 * ρ 2 + 0)) : Int) = ((6 * t + m + 6 : Nat) : Int); omega)
  have q12 : rv h 612 (6 * t + m + 6) = ρ 14 := qrv hm 12 rfl (by decide) (by decide +kernel) (by show (6 + (6 * ρ 1 + (1 * ρ 2 + 0)) : Int) = ((6 * t + m + 6 : Nat) : Int); omega)
  have q13 : rv h 613 (6 * t + m + 6) = ρ 15 := qrv hm 13 rfl (by decide) (by decide +kernel) (by show (6 + (6 * ρ 1 + (1 * ρ 2 + 0)) : Int) = ((6 * t + m + 6 : Nat) : Int); omega)
  have q14 : rv h 614 (6 * t + m) = ρ 16 := qrv hm 14 rfl (by decide) (by decide +kernel) (by show (0 + (6 * ρ 1 + (1 * ρ 2 + 0)) : Int) = ((6 * t + m : Nat) : Int); omega)
  have q15 : rv h 614 (6 * t + m + 1) = ρ 17 := qrv hm 15 rfl (by decide) (by decide +kernel) (by show (1 + (6 * ρ 1 + (1 * ρ 2 + 0)) : Int) = ((6 * t + m + 1 : Nat) : Int); omega)
  have q16 : rv h 615 (6 * t + m) = ρ 18 := qrv hm 16 rfl (by decide) (by decide +kernel) (by show (0 + (6 * ρ 1 + (1 * ρ 2 + 0)) : Int) = ((6 * t + m : Nat) : Int); omega)
  have q17 : rv h 615 (6 * t + m + 1) = ρ 19 := qrv hm 17 rfl (by decide) (by decide +kernel) (by show (1 + (6 * ρ 1 + (1 * ρ 2 + 0)) : Int) = ((6 * t + m + 1 : Nat) : Int); omega)
  have q18 : rv h 624 (6 * t + m) = ρ 20 := qrv hm 18 rfl (by decide) (by decide +kernel) (by show (0 + (6 * ρ 1 + (1 * ρ 2 + 0)) : Int) = ((6 * t + m : Nat) : Int); omega)
  have q19 : rv h 624 (6 * t + m + 1) = ρ 21 := qrv hm 19 rfl (by decide) (by decide +kernel) (by show (1 + (6 * ρ 1 + (1 * ρ 2 + 0)) : Int) = ((6 * t + m + 1 : Nat) : Int); omega)
  obtain ⟨n, H, mare, hold, nt, ne, bd, ey, dm, pl, g0, x0, x1, x2, x3, x4, xF, xG, ⟨o2, o3, o4, o5, oB, oP, oN, oL, oM⟩, ⟨gW, gMa, gS, gA, gO, gD, gU, gQ, gV, gK, gB⟩, yP, yR⟩ := t0
  have hM : ρ 3 = (n : Int) := q1.symm.trans x0
  have hH : ρ 4 = (H : Int) := q2.symm.trans x1
  have hmn : m < n := by omega
  have htH : t < H := by omega
  rw [q3] at x2
  subst x2
  have k0 := gS t m 0 (by omega) (by omega) (by decide)
  rw [show 610 + 0 = 610 from rfl, q6] at k0
  have l0 := gS (t + 1) m 0 (by omega) (by omega) (by decide)
  rw [show 610 + 0 = 610 from rfl, show 6 * (t + 1) + m = 6 * t + m + 6 by omega, q10, nSt_s] at l0
  unfold nUp at l0
  have k1 := gS t m 1 (by omega) (by omega) (by decide)
  rw [show 610 + 1 = 611 from rfl, q7] at k1
  have l1 := gS (t + 1) m 1 (by omega) (by omega) (by decide)
  rw [show 610 + 1 = 611 from rfl, show 6 * (t + 1) + m = 6 * t + m + 6 by omega, q11, nSt_s] at l1
  unfold nUp at l1
  have k2 := gS t m 2 (by omega) (by omega) (by decide)
  rw [show 610 + 2 = 612 from rfl, q8] at k2
  have l2 := gS (t + 1) m 2 (by omega) (by omega) (by decide)
  rw [show 610 + 2 = 612 from rfl, show 6 * (t + 1) + m = 6 * t + m + 6 by omega, q12, nSt_s] at l2
  unfold nUp at l2
  have k3 := gS t m 3 (by omega) (by omega) (by decide)
  rw [show 610 + 3 = 613 from rfl, q9] at k3
  have l3 := gS (t + 1) m 3 (by omega) (by omega) (by decide)
  rw [show 610 + 3 = 613 from rfl, show 6 * (t + 1) + m = 6 * t + m + 6 by omega, q13, nSt_s] at l3
  unfold nUp at l3
  have kO := gO t m htH hmn
  rw [q4] at kO
  have kD := gD t m htH hmn
  rw [q5] at kD
  have fO := kO
  have fD := kD
  unfold nS at fO
  unfold nD at fD
  obtain ⟨u1, u2, u7⟩ := gU (6 * t + m) (by omega)
  obtain ⟨u3, u4, u8⟩ := gU (6 * t + m + 1) (by omega)
  rw [q14] at u1
  rw [q16] at u2
  rw [q18] at u7
  rw [q15] at u3
  rw [q17] at u4
  rw [q19] at u8
  simp only [nUN, nCt] at u1 u3
  simp only [nOP, nCt] at u2 u4
  simp only [nMR, nCt] at u7 u8
  rw [← u1] at u3
  rw [← u2] at u4
  rw [← u7] at u8
  simp only [show (6 * t + m) % 6 = m by omega, show (6 * t + m) / 6 = t by omega, ← kO, ← kD] at u3 u4 u8
  have B := nSt_b (n := n) (mare := ρ 5) (hold := hold) (nt := nt) (ne := ne) (bd := bd) (ey := ey) (dm := dm) (pl := pl) (W := rv h 620) (g0 := g0) hmn t
  rw [← k0, ← k1, ← k2, ← k3] at B
  obtain ⟨B0, B1, B2, B3⟩ := B
  have D := nDr_b (n := n) (hold := hold) (nt := nt) (ne := ne) (bd := bd) (ey := ey) (dm := dm) (pl := pl) (W := rv h 620) (S := nSt n (ρ 5) hold nt ne bd ey dm pl (rv h 620) g0 t) (h := t) (m := m)
  rw [← fO, ← fD] at D
  have z := nSo_b (n := n) (ne := ne) (bd := bd) (pl := pl) (S := nSt n (ρ 5) hold nt ne bd ey dm pl (rv h 620) g0 t) (h := t) (m := m)
  rw [← fO] at z
  simp only [← fO, ← fD, ← k0, ← k1, ← k2, ← k3] at l0 l1 l2 l3
  have zz : (ρ 6 = 0) ∨ ((ρ 6 = 2 ∨ ρ 6 = 1) ∧ ρ 9 = -1) := by
    rcases z with ⟨_, z2⟩ | ⟨z1, _, z3⟩ | ⟨z1, _, z3⟩
    · exact Or.inl z2
    · refine Or.inr ⟨Or.inl z3, ?_⟩
      unfold nAs at z1
      simp only [Bool.and_eq_true, decide_eq_true_eq] at z1
      rw [k1]
      exact z1.2.2
    · refine Or.inr ⟨Or.inr z3, ?_⟩
      unfold nAs at z1
      simp only [Bool.and_eq_true, decide_eq_true_eq] at z1
      rw [k1]
      exact z1.2.2
  rcases zz with z1 | ⟨z1 | z1, z2⟩
  · simp [z1] at l0 l1 l2 l3 u3 u4 u8
    have D1 := D.1 z1
    exact ⟨_, List.mem_of_getElem? (i := 0) rfl, rfl, rfl, (pAll1 (show (0 + ((-1) * ρ 8 + 0) : Int) ≤ 0 by omega) (pAll1 (show (0 + ((-1) * ρ 1 + (1 * ρ 8 + 0)) : Int) ≤ 0 by omega) (pAll1 (show ((-1) + ((-1) * ρ 9 + 0) : Int) ≤ 0 by omega) (pAll1 (show (1 + ((-1) * ρ 1 + (1 * ρ 9 + 0)) : Int) ≤ 0 by omega) (pAll1 (show (0 + ((-1) * ρ 10 + 0) : Int) ≤ 0 by omega) (pAll1 (show ((-180) + (1 * ρ 10 + 0) : Int) ≤ 0 by omega) (pAll1 (show (0 + ((-1) * ρ 11 + 0) : Int) ≤ 0 by omega) (pAll1 (show (0 + ((-1) * ρ 1 + (1 * ρ 11 + 0)) : Int) ≤ 0 by omega) (pAll1 (show (0 + (1 * ρ 6 + 0) : Int) ≤ 0 by omega) (pAll1 (show (0 + ((-1) * ρ 6 + 0) : Int) ≤ 0 by omega) (pAll1 (show (1 + (1 * ρ 7 + 0) : Int) ≤ 0 by omega) (pAll1 (show ((-1) + ((-1) * ρ 7 + 0) : Int) ≤ 0 by omega) (pAll1 (show (0 + ((-1) * ρ 16 + (1 * ρ 17 + 0)) : Int) ≤ 0 by omega) (pAll1 (show (0 + (1 * ρ 16 + ((-1) * ρ 17 + 0)) : Int) ≤ 0 by omega) (pAll1 (show (0 + ((-1) * ρ 18 + (1 * ρ 19 + 0)) : Int) ≤ 0 by omega) (pAll1 (show (0 + (1 * ρ 18 + ((-1) * ρ 19 + 0)) : Int) ≤ 0 by omega) (pAll1 (show (0 + ((-1) * ρ 20 + (1 * ρ 21 + 0)) : Int) ≤ 0 by omega) (pAll1 (show (0 + (1 * ρ 20 + ((-1) * ρ 21 + 0)) : Int) ≤ 0 by omega) (pAll1 (show (0 + ((-1) * ρ 8 + (1 * ρ 12 + 0)) : Int) ≤ 0 by omega) (pAll1 (show (0 + (1 * ρ 8 + ((-1) * ρ 12 + 0)) : Int) ≤ 0 by omega) (pAll1 (show (0 + ((-1) * ρ 9 + (1 * ρ 13 + 0)) : Int) ≤ 0 by omega) (pAll1 (show (0 + (1 * ρ 9 + ((-1) * ρ 13 + 0)) : Int) ≤ 0 by omega) (pAll1 (show (0 + ((-1) * ρ 10 + (1 * ρ 14 + 0)) : Int) ≤ 0 by omega) (pAll1 (show (0 + (1 * ρ 10 + ((-1) * ρ 14 + 0)) : Int) ≤ 0 by omega) (pAll1 (show (0 + ((-1) * ρ 11 + (1 * ρ 15 + 0)) : Int) ≤ 0 by omega) (pAll1 (show (0 + (1 * ρ 11 + ((-1) * ρ 15 + 0)) : Int) ≤ 0 by omega) pAll0)))))))))))))))))))))))))), pAll0⟩
  · obtain ⟨D1, D2⟩ := D.2 (by omega)
    by_cases y : ρ 5 ≤ ρ 7
    · simp [z1, hmn, y] at l0 l1 l2 l3 u3 u4 u8
      exact ⟨_, List.mem_of_getElem? (i := 4) rfl, rfl, rfl, (pAll1 (show (0 + ((-1) * ρ 8 + 0) : Int) ≤ 0 by omega) (pAll1 (show (0 + ((-1) * ρ 1 + (1 * ρ 8 + 0)) : Int) ≤ 0 by omega) (pAll1 (show ((-1) + ((-1) * ρ 9 + 0) : Int) ≤ 0 by omega) (pAll1 (show (1 + ((-1) * ρ 1 + (1 * ρ 9 + 0)) : Int) ≤ 0 by omega) (pAll1 (show (0 + ((-1) * ρ 10 + 0) : Int) ≤ 0 by omega) (pAll1 (show ((-180) + (1 * ρ 10 + 0) : Int) ≤ 0 by omega) (pAll1 (show (0 + ((-1) * ρ 11 + 0) : Int) ≤ 0 by omega) (pAll1 (show (0 + ((-1) * ρ 1 + (1 * ρ 11 + 0)) : Int) ≤ 0 by omega) (pAll1 (show ((-2) + (1 * ρ 6 + 0) : Int) ≤ 0 by omega) (pAll1 (show (2 + ((-1) * ρ 6 + 0) : Int) ≤ 0 by omega) (pAll1 (show (1 + (1 * ρ 9 + 0) : Int) ≤ 0 by omega) (pAll1 (show ((-1) + ((-1) * ρ 9 + 0) : Int) ≤ 0 by omega) (pAll1 (show (0 + (1 * ρ 5 + ((-1) * ρ 7 + 0)) : Int) ≤ 0 by omega) (pAll1 (show (0 + ((-1) * ρ 16 + (1 * ρ 17 + 0)) : Int) ≤ 0 by omega) (pAll1 (show (0 + (1 * ρ 16 + ((-1) * ρ 17 + 0)) : Int) ≤ 0 by omega) (pAll1 (show (0 + ((-1) * ρ 18 + (1 * ρ 19 + 0)) : Int) ≤ 0 by omega) (pAll1 (show (0 + (1 * ρ 18 + ((-1) * ρ 19 + 0)) : Int) ≤ 0 by omega) (pAll1 (show ((-1) + ((-1) * ρ 8 + (1 * ρ 12 + 0)) : Int) ≤ 0 by omega) (pAll1 (show (1 + (1 * ρ 8 + ((-1) * ρ 12 + 0)) : Int) ≤ 0 by omega) (pAll1 (show (0 + ((-1) * ρ 7 + ((-1) * ρ 10 + (1 * ρ 14 + 0))) : Int) ≤ 0 by omega) (pAll1 (show (0 + (1 * ρ 7 + (1 * ρ 10 + ((-1) * ρ 14 + 0))) : Int) ≤ 0 by omega) (pAll1 (show ((-1) + ((-1) * ρ 11 + (1 * ρ 15 + 0)) : Int) ≤ 0 by omega) (pAll1 (show (1 + (1 * ρ 11 + ((-1) * ρ 15 + 0)) : Int) ≤ 0 by omega) (pAll1 (show (0 + ((-1) * ρ 1 + (1 * ρ 13 + 0)) : Int) ≤ 0 by omega) (pAll1 (show (0 + (1 * ρ 1 + ((-1) * ρ 13 + 0)) : Int) ≤ 0 by omega) (pAll1 (show ((-1) + ((-1) * ρ 20 + (1 * ρ 21 + 0)) : Int) ≤ 0 by omega) (pAll1 (show (1 + (1 * ρ 20 + ((-1) * ρ 21 + 0)) : Int) ≤ 0 by omega) pAll0))))))))))))))))))))))))))), pAll0⟩
    · simp [z1, hmn, y] at l0 l1 l2 l3 u3 u4 u8
      exact ⟨_, List.mem_of_getElem? (i := 3) rfl, rfl, rfl, (pAll1 (show (0 + ((-1) * ρ 8 + 0) : Int) ≤ 0 by omega) (pAll1 (show (0 + ((-1) * ρ 1 + (1 * ρ 8 + 0)) : Int) ≤ 0 by omega) (pAll1 (show ((-1) + ((-1) * ρ 9 + 0) : Int) ≤ 0 by omega) (pAll1 (show (1 + ((-1) * ρ 1 + (1 * ρ 9 + 0)) : Int) ≤ 0 by omega) (pAll1 (show (0 + ((-1) * ρ 10 + 0) : Int) ≤ 0 by omega) (pAll1 (show ((-180) + (1 * ρ 10 + 0) : Int) ≤ 0 by omega) (pAll1 (show (0 + ((-1) * ρ 11 + 0) : Int) ≤ 0 by omega) (pAll1 (show (0 + ((-1) * ρ 1 + (1 * ρ 11 + 0)) : Int) ≤ 0 by omega) (pAll1 (show ((-2) + (1 * ρ 6 + 0) : Int) ≤ 0 by omega) (pAll1 (show (2 + ((-1) * ρ 6 + 0) : Int) ≤ 0 by omega) (pAll1 (show (1 + (1 * ρ 9 + 0) : Int) ≤ 0 by omega) (pAll1 (show ((-1) + ((-1) * ρ 9 + 0) : Int) ≤ 0 by omega) (pAll1 (show (0 + ((-1) * ρ 7 + 0) : Int) ≤ 0 by omega) (pAll1 (show (1 + ((-1) * ρ 5 + (1 * ρ 7 + 0)) : Int) ≤ 0 by omega) (pAll1 (show (0 + ((-1) * ρ 16 + (1 * ρ 17 + 0)) : Int) ≤ 0 by omega) (pAll1 (show (0 + (1 * ρ 16 + ((-1) * ρ 17 + 0)) : Int) ≤ 0 by omega) (pAll1 (show (0 + ((-1) * ρ 18 + (1 * ρ 19 + 0)) : Int) ≤ 0 by omega) (pAll1 (show (0 + (1 * ρ 18 + ((-1) * ρ 19 + 0)) : Int) ≤ 0 by omega) (pAll1 (show ((-1) + ((-1) * ρ 8 + (1 * ρ 12 + 0)) : Int) ≤ 0 by omega) (pAll1 (show (1 + (1 * ρ 8 + ((-1) * ρ 12 + 0)) : Int) ≤ 0 by omega) (pAll1 (show (0 + ((-1) * ρ 7 + ((-1) * ρ 10 + (1 * ρ 14 + 0))) : Int) ≤ 0 by omega) (pAll1 (show (0 + (1 * ρ 7 + (1 * ρ 10 + ((-1) * ρ 14 + 0))) : Int) ≤ 0 by omega) (pAll1 (show (0 + ((-1) * ρ 20 + (1 * ρ 21 + 0)) : Int) ≤ 0 by omega) (pAll1 (show (0 + (1 * ρ 20 + ((-1) * ρ 21 + 0)) : Int) ≤ 0 by omega) (pAll1 (show (0 + ((-1) * ρ 9 + (1 * ρ 13 + 0)) : Int) ≤ 0 by omega) (pAll1 (show (0 + (1 * ρ 9 + ((-1) * ρ 13 + 0)) : Int) ≤ 0 by omega) (pAll1 (show (0 + ((-1) * ρ 11 + (1 * ρ 15 + 0)) : Int) ≤ 0 by omega) (pAll1 (show (0 + (1 * ρ 11 + ((-1) * ρ 15 + 0)) : Int) ≤ 0 by omega) pAll0)))))))))))))))))))))))))))), pAll0⟩
  · obtain ⟨D1, D2⟩ := D.2 (by omega)
    by_cases y : ρ 5 ≤ ρ 7
    · simp [z1, hmn, y] at l0 l1 l2 l3 u3 u4 u8
      exact ⟨_, List.mem_of_getElem? (i := 2) rfl, rfl, rfl, (pAll1 (show (0 + ((-1) * ρ 8 + 0) : Int) ≤ 0 by omega) (pAll1 (show (0 + ((-1) * ρ 1 + (1 * ρ 8 + 0)) : Int) ≤ 0 by omega) (pAll1 (show ((-1) + ((-1) * ρ 9 + 0) : Int) ≤ 0 by omega) (pAll1 (show (1 + ((-1) * ρ 1 + (1 * ρ 9 + 0)) : Int) ≤ 0 by omega) (pAll1 (show (0 + ((-1) * ρ 10 + 0) : Int) ≤ 0 by omega) (pAll1 (show ((-180) + (1 * ρ 10 + 0) : Int) ≤ 0 by omega) (pAll1 (show (0 + ((-1) * ρ 11 + 0) : Int) ≤ 0 by omega) (pAll1 (show (0 + ((-1) * ρ 1 + (1 * ρ 11 + 0)) : Int) ≤ 0 by omega) (pAll1 (show ((-1) + (1 * ρ 6 + 0) : Int) ≤ 0 by omega) (pAll1 (show (1 + ((-1) * ρ 6 + 0) : Int) ≤ 0 by omega) (pAll1 (show (1 + (1 * ρ 9 + 0) : Int) ≤ 0 by omega) (pAll1 (show ((-1) + ((-1) * ρ 9 + 0) : Int) ≤ 0 by omega) (pAll1 (show (0 + (1 * ρ 5 + ((-1) * ρ 7 + 0)) : Int) ≤ 0 by omega) (pAll1 (show ((-1) + ((-1) * ρ 16 + (1 * ρ 17 + 0)) : Int) ≤ 0 by omega) (pAll1 (show (1 + (1 * ρ 16 + ((-1) * ρ 17 + 0)) : Int) ≤ 0 by omega) (pAll1 (show ((-1) + ((-1) * ρ 18 + (1 * ρ 19 + 0)) : Int) ≤ 0 by omega) (pAll1 (show (1 + (1 * ρ 18 + ((-1) * ρ 19 + 0)) : Int) ≤ 0 by omega) (pAll1 (show ((-1) + ((-1) * ρ 8 + (1 * ρ 12 + 0)) : Int) ≤ 0 by omega) (pAll1 (show (1 + (1 * ρ 8 + ((-1) * ρ 12 + 0)) : Int) ≤ 0 by omega) (pAll1 (show (0 + ((-1) * ρ 7 + ((-1) * ρ 10 + (1 * ρ 14 + 0))) : Int) ≤ 0 by omega) (pAll1 (show (0 + (1 * ρ 7 + (1 * ρ 10 + ((-1) * ρ 14 + 0))) : Int) ≤ 0 by omega) (pAll1 (show ((-1) + ((-1) * ρ 11 + (1 * ρ 15 + 0)) : Int) ≤ 0 by omega) (pAll1 (show (1 + (1 * ρ 11 + ((-1) * ρ 15 + 0)) : Int) ≤ 0 by omega) (pAll1 (show ((-1) + ((-1) * ρ 20 + (1 * ρ 21 + 0)) : Int) ≤ 0 by omega) (pAll1 (show (1 + (1 * ρ 20 + ((-1) * ρ 21 + 0)) : Int) ≤ 0 by omega) (pAll1 (show (0 + ((-1) * ρ 9 + (1 * ρ 13 + 0)) : Int) ≤ 0 by omega) (pAll1 (show (0 + (1 * ρ 9 + ((-1) * ρ 13 + 0)) : Int) ≤ 0 by omega) pAll0))))))))))))))))))))))))))), pAll0⟩
    · simp [z1, hmn, y] at l0 l1 l2 l3 u3 u4 u8
      exact ⟨_, List.mem_of_getElem? (i := 1) rfl, rfl, rfl, (pAll1 (show (0 + ((-1) * ρ 8 + 0) : Int) ≤ 0 by omega) (pAll1 (show (0 + ((-1) * ρ 1 + (1 * ρ 8 + 0)) : Int) ≤ 0 by omega) (pAll1 (show ((-1) + ((-1) * ρ 9 + 0) : Int) ≤ 0 by omega) (pAll1 (show (1 + ((-1) * ρ 1 + (1 * ρ 9 + 0)) : Int) ≤ 0 by omega) (pAll1 (show (0 + ((-1) * ρ 10 + 0) : Int) ≤ 0 by omega) (pAll1 (show ((-180) + (1 * ρ 10 + 0) : Int) ≤ 0 by omega) (pAll1 (show (0 + ((-1) * ρ 11 + 0) : Int) ≤ 0 by omega) (pAll1 (show (0 + ((-1) * ρ 1 + (1 * ρ 11 + 0)) : Int) ≤ 0 by omega) (pAll1 (show ((-1) + (1 * ρ 6 + 0) : Int) ≤ 0 by omega) (pAll1 (show (1 + ((-1) * ρ 6 + 0) : Int) ≤ 0 by omega) (pAll1 (show (1 + (1 * ρ 9 + 0) : Int) ≤ 0 by omega) (pAll1 (show ((-1) + ((-1) * ρ 9 + 0) : Int) ≤ 0 by omega) (pAll1 (show (0 + ((-1) * ρ 7 + 0) : Int) ≤ 0 by omega) (pAll1 (show (1 + ((-1) * ρ 5 + (1 * ρ 7 + 0)) : Int) ≤ 0 by omega) (pAll1 (show ((-1) + ((-1) * ρ 16 + (1 * ρ 17 + 0)) : Int) ≤ 0 by omega) (pAll1 (show (1 + (1 * ρ 16 + ((-1) * ρ 17 + 0)) : Int) ≤ 0 by omega) (pAll1 (show (0 + ((-1) * ρ 18 + (1 * ρ 19 + 0)) : Int) ≤ 0 by omega) (pAll1 (show (0 + (1 * ρ 18 + ((-1) * ρ 19 + 0)) : Int) ≤ 0 by omega) (pAll1 (show ((-1) + ((-1) * ρ 8 + (1 * ρ 12 + 0)) : Int) ≤ 0 by omega) (pAll1 (show (1 + (1 * ρ 8 + ((-1) * ρ 12 + 0)) : Int) ≤ 0 by omega) (pAll1 (show (0 + ((-1) * ρ 7 + ((-1) * ρ 10 + (1 * ρ 14 + 0))) : Int) ≤ 0 by omega) (pAll1 (show (0 + (1 * ρ 7 + (1 * ρ 10 + ((-1) * ρ 14 + 0))) : Int) ≤ 0 by omega) (pAll1 (show (0 + ((-1) * ρ 20 + (1 * ρ 21 + 0)) : Int) ≤ 0 by omega) (pAll1 (show (0 + (1 * ρ 20 + ((-1) * ρ 21 + 0)) : Int) ≤ 0 by omega) (pAll1 (show (0 + ((-1) * ρ 9 + (1 * ρ 13 + 0)) : Int) ≤ 0 by omega) (pAll1 (show (0 + (1 * ρ 9 + ((-1) * ρ 13 + 0)) : Int) ≤ 0 by omega) (pAll1 (show (0 + ((-1) * ρ 11 + (1 * ρ 15 + 0)) : Int) ≤ 0 by omega) (pAll1 (show (0 + (1 * ρ 11 + ((-1) * ρ 15 + 0)) : Int) ≤ 0 by omega) pAll0)))))))))))))))))))))))))))), pAll0⟩)

theorem qR_drnow_ok (hg : ∀ x y h, gv 60 x y h → nGh 0 1 2 5 7 9 h) (h61 : ∀ x y h, gv 61 x y h → qTab pReg h) : pRulQ pReg qG gv qR_drnow := qrul (by decide +kernel) (fun h ρ hG hm hb hc => by
  have b0 : (1 : Int) ≤ ρ 0 ∧ ρ 0 ≤ 1 := hb 0 (1, 1) rfl
  have b1 : (1 : Int) ≤ ρ 1 ∧ ρ 1 ≤ 1 := hb 1 (1, 1) rfl
  have b2 : (1 : Int) ≤ ρ 2 ∧ ρ 2 ≤ 1 := hb 2 (1, 1) rfl
  have b3 : (0 : Int) ≤ ρ 3 ∧ ρ 3 ≤ 5 := hb 3 (0, 5) rfl
  have b4 : (0 : Int) ≤ ρ 4 ∧ ρ 4 ≤ 9 := hb 4 (0, 9) rfl
  have b5 : (1 : Int) ≤ ρ 5 ∧ ρ 5 ≤ 2 := hb 5 (1, 2) rfl
  have b6 : (2 : Int) ≤ ρ 6 ∧ ρ 6 ≤ 6 := hb 6 (2, 6) rfl
  have b7 : (4 : Int) ≤ ρ 7 ∧ ρ 7 ≤ 10 := hb 7 (4, 10) rfl
  have b8 : (0 : Int) ≤ ρ 8 ∧ ρ 8 ≤ 5 := hb 8 (0, 5) rfl
  have b9 : (0 : Int) ≤ ρ 9 ∧ ρ 9 ≤ 2 := hb 9 (0, 2) rfl
  have b10 : ((-1) : Int) ≤ ρ 10 ∧ ρ 10 ≤ 20 := hb 10 ((-1), 20) rfl
  have b11 : ((-2147483648) : Int) ≤ ρ 11 ∧ ρ 11 ≤ 2147483647 := hb 11 ((-2147483648), 2147483647) rfl
  have b12 : ((-2147483648) : Int) ≤ ρ 12 ∧ ρ 12 ≤ 2147483647 := hb 12 ((-2147483648), 2147483647) rfl
  have b13 : ((-2147483648) : Int) ≤ ρ 13 ∧ ρ 13 ≤ 2147483647 := hb 13 ((-2147483648), 2147483647) rfl
  have b14 : ((-2147483648) : Int) ≤ ρ 14 ∧ ρ 14 ≤ 2147483647 := hb 14 ((-2147483648), 2147483647) rfl
  have b15 : ((-2147483648) : Int) ≤ ρ 15 ∧ ρ 15 ≤ 2147483647 := hb 15 ((-2147483648), 2147483647) rfl
  have b16 : (0 : Int) ≤ ρ 16 ∧ ρ 16 ≤ 9999 := hb 16 (0, 9999) rfl
  have b17 : ((-1000000) : Int) ≤ ρ 17 ∧ ρ 17 ≤ 1000000 := hb 17 ((-1000000), 1000000) rfl
  have c0 : (1 + (1 * ρ 3 + ((-1) * ρ 6 + 0)) : Int) ≤ 0 := hc _ (List.mem_of_getElem? (i := 0) rfl)
  have c1 : (1 + (1 * ρ 4 + ((-1) * ρ 7 + 0)) : Int) ≤ 0 := hc _ (List.mem_of_getElem? (i := 1) rfl)
  have c2 : (0 + ((-1) * ρ 5 + (1 * ρ 9 + 0)) : Int) ≤ 0 := hc _ (List.mem_of_getElem? (i := 2) rfl)
  have c3 : (0 + (1 * ρ 5 + ((-1) * ρ 9 + 0)) : Int) ≤ 0 := hc _ (List.mem_of_getElem? (i := 3) rfl)
  have c4 : (0 + ((-1) * ρ 12 + 0) : Int) ≤ 0 := hc _ (List.mem_of_getElem? (i := 4) rfl)
  have c5 : ((-18) + (1 * ρ 12 + 0) : Int) ≤ 0 := hc _ (List.mem_of_getElem? (i := 5) rfl)
  have c6 : (0 + ((-1) * ρ 13 + 0) : Int) ≤ 0 := hc _ (List.mem_of_getElem? (i := 6) rfl)
  have c7 : ((-12) + (1 * ρ 13 + 0) : Int) ≤ 0 := hc _ (List.mem_of_getElem? (i := 7) rfl)
  have c8 : (0 + ((-1) * ρ 14 + 0) : Int) ≤ 0 := hc _ (List.mem_of_getElem? (i := 8) rfl)
  have c9 : ((-999) + (1 * ρ 14 + 0) : Int) ≤ 0 := hc _ (List.mem_of_getElem? (i := 9) rfl)
  have c10 : (0 + ((-1) * ρ 11 + 0) : Int) ≤ 0 := hc _ (List.mem_of_getElem? (i := 10) rfl)
  obtain ⟨m, e_m⟩ : ∃ x : Nat, ρ 3 = (x : Int) := ⟨(ρ 3).toNat, by omega⟩
  obtain ⟨t, e_t⟩ : ∃ x : Nat, ρ 4 = (x : Int) := ⟨(ρ 4).toNat, by omega⟩
  obtain ⟨w, e_w⟩ : ∃ x : Nat, ρ 8 = (x : Int) := ⟨(ρ 8).toNat, by omega⟩
  have t0 := hg _ _ _ (qtl (a := 60) hm 0 rfl (by decide))
  have t1 := h61 _ _ _ (qtl (a := 61) hm 1 rfl (by decide))
  have q3 : rv h 56 (0) = ρ 6 := qrv hm 3 rfl (by decide) (by decide +kernel) (by show (0 + 0 : Int) = ((0 : Nat) : Int); omega)
  have q4 : rv h 56 (1) = ρ 7 := qrv hm 4 rfl (by decide) (by decide +kernel) (by show (1 + 0 : Int) = ((1 : Nat) : Int); omega)
  have q5 : rv h 606 (m) = ρ 8 := qrv hm 5 rfl (by decide) (by decide +kernel) (by show (0 + (1 * ρ 3 + 0) : Int) = ((m : Nat) : Int); omega)
  have q6 : rv h 608 (6 * t + m) = ρ 9 := qrv hm 6 rfl (by decide) (by decide +kernel) (by show (0 + (1 * ρ 3 + (6 * ρ 4 + 0)) : Int) = ((6 * t + m : Nat) : Int); omega)
  have q7 : rv h 609 (6 * t + m) = ρ 10 := qrv hm 7 rfl (by decide) (by decide +kernel) (by show (0 + (1 * ρ 3 + (6 * ρ 4 + 0)) : Int) = ((6 * t + m : Nat) : Int); omega)
  have q8 : rv h 610 (6 * t + m) = ρ 11 := qrv hm 8 rfl (by decide) (by decide +kernel) (by show (0 + (1 * ρ 3 + (6 * ρ 4 + 0)) : Int) = ((6 * t + m : Nat) : Int); omega)
  have q9 : rv h 2 (m) = ρ 12 := qrv hm 9 rfl (by decide) (by decide +kernel) (by show (0 + (1 * ρ 3 + 0) : Int) = ((m : Nat) : Int); omega)
  have q10 : rv h 1 (w) = ρ 13 := qrv hm 10 rfl (by decide) (by decide +kernel) (by show (0 + (1 * ρ 8 + 0) : Int) = ((w : Nat) : Int); omega)
  have q11 : rv h 7 (9) = ρ 14 := qrv hm 11 rfl (by decide) (by decide +kernel) (by show (9 + 0 : Int) = ((9 : Nat) : Int); omega)
  have q12 : rv h 54 (5) = ρ 15 := qrv hm 12 rfl (by decide) (by decide +kernel) (by show (5 + 0 : Int) = ((5 : Nat) : Int); omega)
  obtain ⟨n, H, g0, g1, g2, g3, g4, g5, g6, g7, g8, g9, g10, gW, gS, gA, gO, gD, gU, gQ, gV⟩ := t0
  have hM : ρ 6 = (n : Int) := q3.symm.trans g0
  have hH : ρ 7 = (H : Int) := q4.symm.trans g1
  have hmn : m < n := by omega
  have htH : t < H := by omega
  obtain ⟨-, -, -, -, p0, p1⟩ := g6 m hmn
  obtain ⟨-, w1, -⟩ := nWt_lt hmn p0 p1 g7
  have w2 := gW m hmn
  rw [q5] at w2
  have ew : nWt n (rv h 5) m = w := by omega
  have hwn : w < n := by omega
  have ho := (gO t m htH hmn).symm.trans q6
  have hr := (gD t m htH hmn).symm.trans q7
  have hs := (gS t m 0 (by omega) (by omega) (by decide)).symm.trans q8
  have he : rv h 1 (nWt n (rv h 5) m) = ρ 13 := by rw [ew]; exact q10
  obtain ⟨e, e_e⟩ : ∃ x : Nat, ρ 13 = (x : Int) := ⟨(ρ 13).toNat, by omega⟩
  have f0 := qt_div t1 (show e < 64 by omega)
  have q13 : rv h 704 (e + 20000) = ρ 16 := qrv hm 13 rfl (by decide) (by decide +kernel) (by show (20000 + (1 * ρ 13 + 0) : Int) = ((e + 20000 : Nat) : Int); omega)
  have hf : ρ 16 = ρ 13 / 2 := by rw [← q13, f0]; omega
  have hg : rv h 620 (nLi (ρ 12) (ρ 11) (ρ 13) (t : Int) (ρ 9 - 1) (ρ 14)).toNat = ρ 17 := qrv hm 14 rfl (by decide) (by decide +kernel) (by show ((-131072) + (8192 * ρ 4 + (131072 * ρ 5 + (32 * ρ 11 + (1 * ρ 12 + (512 * ρ 13 + (262144 * ρ 14 + 0)))))) : Int) = _; unfold nLi; omega)
  obtain ⟨v, hv, hr2⟩ := nDr_cs ho q9 hs he hf (by rw [q11] <;> exact hg) hr (by omega)
  rw [q12] at hv
  rcases hv with ⟨z1, z2, z3⟩ | ⟨z1, z2, z3⟩ | ⟨z1, z3⟩
  · rcases hr2 with y | y | y
    · exact ⟨_, List.mem_of_getElem? (i := 0) rfl, rfl, rfl, (pAll1 (show (1 + (1 * ρ 15 + 0) : Int) ≤ 0 by omega) (pAll1 (show ((-1) + ((-1) * ρ 15 + 0) : Int) ≤ 0 by omega) (pAll1 (show ((-1) + (1 * ρ 5 + 0) : Int) ≤ 0 by omega) (pAll1 (show (1 + ((-1) * ρ 5 + 0) : Int) ≤ 0 by omega) (pAll1 (show (1 + (1 * ρ 11 + (1 * ρ 12 + 0)) : Int) ≤ 0 by omega) (pAll1 (show (0 + (1 * ρ 10 + 0) : Int) ≤ 0 by omega) (pAll1 (show (0 + ((-1) * ρ 10 + 0) : Int) ≤ 0 by omega) pAll0))))))), pAll0⟩
    · exact ⟨_, List.mem_of_getElem? (i := 1) rfl, rfl, rfl, (pAll1 (show (1 + (1 * ρ 15 + 0) : Int) ≤ 0 by omega) (pAll1 (show ((-1) + ((-1) * ρ 15 + 0) : Int) ≤ 0 by omega) (pAll1 (show ((-1) + (1 * ρ 5 + 0) : Int) ≤ 0 by omega) (pAll1 (show (1 + ((-1) * ρ 5 + 0) : Int) ≤ 0 by omega) (pAll1 (show (0 + ((-1) * ρ 11 + ((-1) * ρ 12 + 0)) : Int) ≤ 0 by omega) (pAll1 (show ((-20) + (1 * ρ 11 + (1 * ρ 12 + 0)) : Int) ≤ 0 by omega) (pAll1 (show (0 + (1 * ρ 10 + ((-1) * ρ 11 + ((-1) * ρ 12 + 0))) : Int) ≤ 0 by omega) (pAll1 (show (0 + ((-1) * ρ 10 + (1 * ρ 11 + (1 * ρ 12 + 0))) : Int) ≤ 0 by omega) pAll0)))))))), pAll0⟩
    · exact ⟨_, List.mem_of_getElem? (i := 2) rfl, rfl, rfl, (pAll1 (show (1 + (1 * ρ 15 + 0) : Int) ≤ 0 by omega) (pAll1 (show ((-1) + ((-1) * ρ 15 + 0) : Int) ≤ 0 by omega) (pAll1 (show ((-1) + (1 * ρ 5 + 0) : Int) ≤ 0 by omega) (pAll1 (show (1 + ((-1) * ρ 5 + 0) : Int) ≤ 0 by omega) (pAll1 (show (21 + ((-1) * ρ 11 + ((-1) * ρ 12 + 0)) : Int) ≤ 0 by omega) (pAll1 (show ((-20) + (1 * ρ 10 + 0) : Int) ≤ 0 by omega) (pAll1 (show (20 + ((-1) * ρ 10 + 0) : Int) ≤ 0 by omega) pAll0))))))), pAll0⟩
  · rcases hr2 with y | y | y
    · exact ⟨_, List.mem_of_getElem? (i := 3) rfl, rfl, rfl, (pAll1 (show (1 + (1 * ρ 15 + 0) : Int) ≤ 0 by omega) (pAll1 (show ((-1) + ((-1) * ρ 15 + 0) : Int) ≤ 0 by omega) (pAll1 (show ((-2) + (1 * ρ 5 + 0) : Int) ≤ 0 by omega) (pAll1 (show (2 + ((-1) * ρ 5 + 0) : Int) ≤ 0 by omega) (pAll1 (show (1 + (1 * ρ 11 + (1 * ρ 12 + ((-1) * ρ 16 + 0))) : Int) ≤ 0 by omega) (pAll1 (show (0 + (1 * ρ 10 + 0) : Int) ≤ 0 by omega) (pAll1 (show (0 + ((-1) * ρ 10 + 0) : Int) ≤ 0 by omega) pAll0))))))), pAll0⟩
    · exact ⟨_, List.mem_of_getElem? (i := 4) rfl, rfl, rfl, (pAll1 (show (1 + (1 * ρ 15 + 0) : Int) ≤ 0 by omega) (pAll1 (show ((-1) + ((-1) * ρ 15 + 0) : Int) ≤ 0 by omega) (pAll1 (show ((-2) + (1 * ρ 5 + 0) : Int) ≤ 0 by omega) (pAll1 (show (2 + ((-1) * ρ 5 + 0) : Int) ≤ 0 by omega) (pAll1 (show (0 + ((-1) * ρ 11 + ((-1) * ρ 12 + (1 * ρ 16 + 0))) : Int) ≤ 0 by omega) (pAll1 (show ((-20) + (1 * ρ 11 + (1 * ρ 12 + ((-1) * ρ 16 + 0))) : Int) ≤ 0 by omega) (pAll1 (show (0 + (1 * ρ 10 + ((-1) * ρ 11 + ((-1) * ρ 12 + (1 * ρ 16 + 0)))) : Int) ≤ 0 by omega) (pAll1 (show (0 + ((-1) * ρ 10 + (1 * ρ 11 + (1 * ρ 12 + ((-1) * ρ 16 + 0)))) : Int) ≤ 0 by omega) pAll0)))))))), pAll0⟩
    · exact ⟨_, List.mem_of_getElem? (i := 5) rfl, rfl, rfl, (pAll1 (show (1 + (1 * ρ 15 + 0) : Int) ≤ 0 by omega) (pAll1 (show ((-1) + ((-1) * ρ 15 + 0) : Int) ≤ 0 by omega) (pAll1 (show ((-2) + (1 * ρ 5 + 0) : Int) ≤ 0 by omega) (pAll1 (show (2 + ((-1) * ρ 5 + 0) : Int) ≤ 0 by omega) (pAll1 (show (21 + ((-1) * ρ 11 + ((-1) * ρ 12 + (1 * ρ 16 + 0))) : Int) ≤ 0 by omega) (pAll1 (show ((-20) + (1 * ρ 10 + 0) : Int) ≤ 0 by omega) (pAll1 (show (20 + ((-1) * ρ 10 + 0) : Int) ≤ 0 by omega) pAll0))))))), pAll0⟩
  · rcases hr2 with y | y | y
    · exact ⟨_, List.mem_of_getElem? (i := 6) rfl, rfl, rfl, (pAll1 (show (0 + ((-1) * ρ 15 + 0) : Int) ≤ 0 by omega) (pAll1 (show (1 + (1 * ρ 17 + 0) : Int) ≤ 0 by omega) (pAll1 (show (0 + (1 * ρ 10 + 0) : Int) ≤ 0 by omega) (pAll1 (show (0 + ((-1) * ρ 10 + 0) : Int) ≤ 0 by omega) pAll0)))), pAll0⟩
    · exact ⟨_, List.mem_of_getElem? (i := 7) rfl, rfl, rfl, (pAll1 (show (0 + ((-1) * ρ 15 + 0) : Int) ≤ 0 by omega) (pAll1 (show (0 + ((-1) * ρ 17 + 0) : Int) ≤ 0 by omega) (pAll1 (show ((-20) + (1 * ρ 17 + 0) : Int) ≤ 0 by omega) (pAll1 (show (0 + (1 * ρ 10 + ((-1) * ρ 17 + 0)) : Int) ≤ 0 by omega) (pAll1 (show (0 + ((-1) * ρ 10 + (1 * ρ 17 + 0)) : Int) ≤ 0 by omega) pAll0))))), pAll0⟩
    · exact ⟨_, List.mem_of_getElem? (i := 8) rfl, rfl, rfl, (pAll1 (show (0 + ((-1) * ρ 15 + 0) : Int) ≤ 0 by omega) (pAll1 (show (21 + ((-1) * ρ 17 + 0) : Int) ≤ 0 by omega) (pAll1 (show ((-20) + (1 * ρ 10 + 0) : Int) ≤ 0 by omega) (pAll1 (show (20 + ((-1) * ρ 10 + 0) : Int) ≤ 0 by omega) pAll0)))), pAll0⟩)

theorem qR_drtrial_ok (hg : ∀ x y h, gv 63 x y h → nGh 8 9 10 13 15 9 h) (h61 : ∀ x y h, gv 61 x y h → qTab pReg h) : pRulQ pReg qG gv qR_drtrial := qrul (by decide +kernel) (fun h ρ hG hm hb hc => by
  have b0 : (1 : Int) ≤ ρ 0 ∧ ρ 0 ≤ 1 := hb 0 (1, 1) rfl
  have b1 : (1 : Int) ≤ ρ 1 ∧ ρ 1 ≤ 1 := hb 1 (1, 1) rfl
  have b2 : (1 : Int) ≤ ρ 2 ∧ ρ 2 ≤ 1 := hb 2 (1, 1) rfl
  have b3 : (0 : Int) ≤ ρ 3 ∧ ρ 3 ≤ 5 := hb 3 (0, 5) rfl
  have b4 : (0 : Int) ≤ ρ 4 ∧ ρ 4 ≤ 9 := hb 4 (0, 9) rfl
  have b5 : (1 : Int) ≤ ρ 5 ∧ ρ 5 ≤ 2 := hb 5 (1, 2) rfl
  have b6 : (2 : Int) ≤ ρ 6 ∧ ρ 6 ≤ 6 := hb 6 (2, 6) rfl
  have b7 : (4 : Int) ≤ ρ 7 ∧ ρ 7 ≤ 10 := hb 7 (4, 10) rfl
  have b8 : (0 : Int) ≤ ρ 8 ∧ ρ 8 ≤ 5 := hb 8 (0, 5) rfl
  have b9 : (0 : Int) ≤ ρ 9 ∧ ρ 9 ≤ 2 := hb 9 (0, 2) rfl
  have b10 : ((-1) : Int) ≤ ρ 10 ∧ ρ 10 ≤ 20 := hb 10 ((-1), 20) rfl
  have b11 : ((-2147483648) : Int) ≤ ρ 11 ∧ ρ 11 ≤ 2147483647 := hb 11 ((-2147483648), 2147483647) rfl
  have b12 : ((-2147483648) : Int) ≤ ρ 12 ∧ ρ 12 ≤ 2147483647 := hb 12 ((-2147483648), 2147483647) rfl
  have b13 : ((-2147483648) : Int) ≤ ρ 13 ∧ ρ 13 ≤ 2147483647 := hb 13 ((-2147483648), 2147483647) rfl
  have b14 : ((-2147483648) : Int) ≤ ρ 14 ∧ ρ 14 ≤ 2147483647 := hb 14 ((-2147483648), 2147483647) rfl
  have b15 : ((-2147483648) : Int) ≤ ρ 15 ∧ ρ 15 ≤ 2147483647 := hb 15 ((-2147483648), 2147483647) rfl
  have b16 : (0 : Int) ≤ ρ 16 ∧ ρ 16 ≤ 9999 := hb 16 (0, 9999) rfl
  have b17 : ((-1000000) : Int) ≤ ρ 17 ∧ ρ 17 ≤ 1000000 := hb 17 ((-1000000), 1000000) rfl
  have c0 : (1 + (1 * ρ 3 + ((-1) * ρ 6 + 0)) : Int) ≤ 0 := hc _ (List.mem_of_getElem? (i := 0) rfl)
  have c1 : (1 + (1 * ρ 4 + ((-1) * ρ 7 + 0)) : Int) ≤ 0 := hc _ (List.mem_of_getElem? (i := 1) rfl)
  have c2 : (0 + ((-1) * ρ 5 + (1 * ρ 9 + 0)) : Int) ≤ 0 := hc _ (List.mem_of_getElem? (i := 2) rfl)
  have c3 : (0 + (1 * ρ 5 + ((-1) * ρ 9 + 0)) : Int) ≤ 0 := hc _ (List.mem_of_getElem? (i := 3) rfl)
  have c4 : (0 + ((-1) * ρ 12 + 0) : Int) ≤ 0 := hc _ (List.mem_of_getElem? (i := 4) rfl)
  have c5 : ((-18) + (1 * ρ 12 + 0) : Int) ≤ 0 := hc _ (List.mem_of_getElem? (i := 5) rfl)
  have c6 : (0 + ((-1) * ρ 13 + 0) : Int) ≤ 0 := hc _ (List.mem_of_getElem? (i := 6) rfl)
  have c7 : ((-12) + (1 * ρ 13 + 0) : Int) ≤ 0 := hc _ (List.mem_of_getElem? (i := 7) rfl)
  have c8 : (0 + ((-1) * ρ 14 + 0) : Int) ≤ 0 := hc _ (List.mem_of_getElem? (i := 8) rfl)
  have c9 : ((-999) + (1 * ρ 14 + 0) : Int) ≤ 0 := hc _ (List.mem_of_getElem? (i := 9) rfl)
  have c10 : (0 + ((-1) * ρ 11 + 0) : Int) ≤ 0 := hc _ (List.mem_of_getElem? (i := 10) rfl)
  obtain ⟨m, e_m⟩ : ∃ x : Nat, ρ 3 = (x : Int) := ⟨(ρ 3).toNat, by omega⟩
  obtain ⟨t, e_t⟩ : ∃ x : Nat, ρ 4 = (x : Int) := ⟨(ρ 4).toNat, by omega⟩
  obtain ⟨w, e_w⟩ : ∃ x : Nat, ρ 8 = (x : Int) := ⟨(ρ 8).toNat, by omega⟩
  have t0 := hg _ _ _ (qtl (a := 63) hm 0 rfl (by decide))
  have t1 := h61 _ _ _ (qtl (a := 61) hm 1 rfl (by decide))
  have q3 : rv h 56 (0) = ρ 6 := qrv hm 3 rfl (by decide) (by decide +kernel) (by show (0 + 0 : Int) = ((0 : Nat) : Int); omega)
  have q4 : rv h 56 (1) = ρ 7 := qrv hm 4 rfl (by decide) (by decide +kernel) (by show (1 + 0 : Int) = ((1 : Nat) : Int); omega)
  have q5 : rv h 606 (m) = ρ 8 := qrv hm 5 rfl (by decide) (by decide +kernel) (by show (0 + (1 * ρ 3 + 0) : Int) = ((m : Nat) : Int); omega)
  have q6 : rv h 608 (6 * t + m) = ρ 9 := qrv hm 6 rfl (by decide) (by decide +kernel) (by show (0 + (1 * ρ 3 + (6 * ρ 4 + 0)) : Int) = ((6 * t + m : Nat) : Int); omega)
  have q7 : rv h 609 (6 * t + m) = ρ 10 := qrv hm 7 rfl (by decide) (by decide +kernel) (by show (0 + (1 * ρ 3 + (6 * ρ 4 + 0)) : Int) = ((6 * t + m : Nat) : Int); omega)
  have q8 : rv h 610 (6 * t + m) = ρ 11 := qrv hm 8 rfl (by decide) (by decide +kernel) (by show (0 + (1 * ρ 3 + (6 * ρ 4 + 0)) : Int) = ((6 * t + m : Nat) : Int); omega)
  have q9 : rv h 10 (m) = ρ 12 := qrv hm 9 rfl (by decide) (by decide +kernel) (by show (0 + (1 * ρ 3 + 0) : Int) = ((m : Nat) : Int); omega)
  have q10 : rv h 9 (w) = ρ 13 := qrv hm 10 rfl (by decide) (by decide +kernel) (by show (0 + (1 * ρ 8 + 0) : Int) = ((w : Nat) : Int); omega)
  have q11 : rv h 15 (9) = ρ 14 := qrv hm 11 rfl (by decide) (by decide +kernel) (by show (9 + 0 : Int) = ((9 : Nat) : Int); omega)
  have q12 : rv h 54 (5) = ρ 15 := qrv hm 12 rfl (by decide) (by decide +kernel) (by show (5 + 0 : Int) = ((5 : Nat) : Int); omega)
  obtain ⟨n, H, g0, g1, g2, g3, g4, g5, g6, g7, g8, g9, g10, gW, gS, gA, gO, gD, gU, gQ, gV⟩ := t0
  have hM : ρ 6 = (n : Int) := q3.symm.trans g0
  have hH : ρ 7 = (H : Int) := q4.symm.trans g1
  have hmn : m < n := by omega
  have htH : t < H := by omega
  obtain ⟨-, -, -, -, p0, p1⟩ := g6 m hmn
  obtain ⟨-, w1, -⟩ := nWt_lt hmn p0 p1 g7
  have w2 := gW m hmn
  rw [q5] at w2
  have ew : nWt n (rv h 13) m = w := by omega
  have hwn : w < n := by omega
  have ho := (gO t m htH hmn).symm.trans q6
  have hr := (gD t m htH hmn).symm.trans q7
  have hs := (gS t m 0 (by omega) (by omega) (by decide)).symm.trans q8
  have he : rv h 9 (nWt n (rv h 13) m) = ρ 13 := by rw [ew]; exact q10
  obtain ⟨e, e_e⟩ : ∃ x : Nat, ρ 13 = (x : Int) := ⟨(ρ 13).toNat, by omega⟩
  have f0 := qt_div t1 (show e < 64 by omega)
  have q13 : rv h 704 (e + 20000) = ρ 16 := qrv hm 13 rfl (by decide) (by decide +kernel) (by show (20000 + (1 * ρ 13 + 0) : Int) = ((e + 20000 : Nat) : Int); omega)
  have hf : ρ 16 = ρ 13 / 2 := by rw [← q13, f0]; omega
  have hg : rv h 620 (nLi (ρ 12) (ρ 11) (ρ 13) (t : Int) (ρ 9 - 1) (ρ 14)).toNat = ρ 17 := qrv hm 14 rfl (by decide) (by decide +kernel) (by show ((-131072) + (8192 * ρ 4 + (131072 * ρ 5 + (32 * ρ 11 + (1 * ρ 12 + (512 * ρ 13 + (262144 * ρ 14 + 0)))))) : Int) = _; unfold nLi; omega)
  obtain ⟨v, hv, hr2⟩ := nDr_cs ho q9 hs he hf (by rw [q11] <;> exact hg) hr (by omega)
  rw [q12] at hv
  rcases hv with ⟨z1, z2, z3⟩ | ⟨z1, z2, z3⟩ | ⟨z1, z3⟩
  · rcases hr2 with y | y | y
    · exact ⟨_, List.mem_of_getElem? (i := 0) rfl, rfl, rfl, (pAll1 (show (1 + (1 * ρ 15 + 0) : Int) ≤ 0 by omega) (pAll1 (show ((-1) + ((-1) * ρ 15 + 0) : Int) ≤ 0 by omega) (pAll1 (show ((-1) + (1 * ρ 5 + 0) : Int) ≤ 0 by omega) (pAll1 (show (1 + ((-1) * ρ 5 + 0) : Int) ≤ 0 by omega) (pAll1 (show (1 + (1 * ρ 11 + (1 * ρ 12 + 0)) : Int) ≤ 0 by omega) (pAll1 (show (0 + (1 * ρ 10 + 0) : Int) ≤ 0 by omega) (pAll1 (show (0 + ((-1) * ρ 10 + 0) : Int) ≤ 0 by omega) pAll0))))))), pAll0⟩
    · exact ⟨_, List.mem_of_getElem? (i := 1) rfl, rfl, rfl, (pAll1 (show (1 + (1 * ρ 15 + 0) : Int) ≤ 0 by omega) (pAll1 (show ((-1) + ((-1) * ρ 15 + 0) : Int) ≤ 0 by omega) (pAll1 (show ((-1) + (1 * ρ 5 + 0) : Int) ≤ 0 by omega) (pAll1 (show (1 + ((-1) * ρ 5 + 0) : Int) ≤ 0 by omega) (pAll1 (show (0 + ((-1) * ρ 11 + ((-1) * ρ 12 + 0)) : Int) ≤ 0 by omega) (pAll1 (show ((-20) + (1 * ρ 11 + (1 * ρ 12 + 0)) : Int) ≤ 0 by omega) (pAll1 (show (0 + (1 * ρ 10 + ((-1) * ρ 11 + ((-1) * ρ 12 + 0))) : Int) ≤ 0 by omega) (pAll1 (show (0 + ((-1) * ρ 10 + (1 * ρ 11 + (1 * ρ 12 + 0))) : Int) ≤ 0 by omega) pAll0)))))))), pAll0⟩
    · exact ⟨_, List.mem_of_getElem? (i := 2) rfl, rfl, rfl, (pAll1 (show (1 + (1 * ρ 15 + 0) : Int) ≤ 0 by omega) (pAll1 (show ((-1) + ((-1) * ρ 15 + 0) : Int) ≤ 0 by omega) (pAll1 (show ((-1) + (1 * ρ 5 + 0) : Int) ≤ 0 by omega) (pAll1 (show (1 + ((-1) * ρ 5 + 0) : Int) ≤ 0 by omega) (pAll1 (show (21 + ((-1) * ρ 11 + ((-1) * ρ 12 + 0)) : Int) ≤ 0 by omega) (pAll1 (show ((-20) + (1 * ρ 10 + 0) : Int) ≤ 0 by omega) (pAll1 (show (20 + ((-1) * ρ 10 + 0) : Int) ≤ 0 by omega) pAll0))))))), pAll0⟩
  · rcases hr2 with y | y | y
    · exact ⟨_, List.mem_of_getElem? (i := 3) rfl, rfl, rfl, (pAll1 (show (1 + (1 * ρ 15 + 0) : Int) ≤ 0 by omega) (pAll1 (show ((-1) + ((-1) * ρ 15 + 0) : Int) ≤ 0 by omega) (pAll1 (show ((-2) + (1 * ρ 5 + 0) : Int) ≤ 0 by omega) (pAll1 (show (2 + ((-1) * ρ 5 + 0) : Int) ≤ 0 by omega) (pAll1 (show (1 + (1 * ρ 11 + (1 * ρ 12 + ((-1) * ρ 16 + 0))) : Int) ≤ 0 by omega) (pAll1 (show (0 + (1 * ρ 10 + 0) : Int) ≤ 0 by omega) (pAll1 (show (0 + ((-1) * ρ 10 + 0) : Int) ≤ 0 by omega) pAll0))))))), pAll0⟩
    · exact ⟨_, List.mem_of_getElem? (i := 4) rfl, rfl, rfl, (pAll1 (show (1 + (1 * ρ 15 + 0) : Int) ≤ 0 by omega) (pAll1 (show ((-1) + ((-1) * ρ 15 + 0) : Int) ≤ 0 by omega) (pAll1 (show ((-2) + (1 * ρ 5 + 0) : Int) ≤ 0 by omega) (pAll1 (show (2 + ((-1) * ρ 5 + 0) : Int) ≤ 0 by omega) (pAll1 (show (0 + ((-1) * ρ 11 + ((-1) * ρ 12 + (1 * ρ 16 + 0))) : Int) ≤ 0 by omega) (pAll1 (show ((-20) + (1 * ρ 11 + (1 * ρ 12 + ((-1) * ρ 16 + 0))) : Int) ≤ 0 by omega) (pAll1 (show (0 + (1 * ρ 10 + ((-1) * ρ 11 + ((-1) * ρ 12 + (1 * ρ 16 + 0)))) : Int) ≤ 0 by omega) (pAll1 (show (0 + ((-1) * ρ 10 + (1 * ρ 11 + (1 * ρ 12 + ((-1) * ρ 16 + 0)))) : Int) ≤ 0 by omega) pAll0)))))))), pAll0⟩
    · exact ⟨_, List.mem_of_getElem? (i := 5) rfl, rfl, rfl, (pAll1 (show (1 + (1 * ρ 15 + 0) : Int) ≤ 0 by omega) (pAll1 (show ((-1) + ((-1) * ρ 15 + 0) : Int) ≤ 0 by omega) (pAll1 (show ((-2) + (1 * ρ 5 + 0) : Int) ≤ 0 by omega) (pAll1 (show (2 + ((-1) * ρ 5 + 0) : Int) ≤ 0 by omega) (pAll1 (show (21 + ((-1) * ρ 11 + ((-1) * ρ 12 + (1 * ρ 16 + 0))) : Int) ≤ 0 by omega) (pAll1 (show ((-20) + (1 * ρ 10 + 0) : Int) ≤ 0 by omega) (pAll1 (show (20 + ((-1) * ρ 10 + 0) : Int) ≤ 0 by omega) pAll0))))))), pAll0⟩
  · rcases hr2 with y | y | y
    · exact ⟨_, List.mem_of_getElem? (i := 6) rfl, rfl, rfl, (pAll1 (show (0 + ((-1) * ρ 15 + 0) : Int) ≤ 0 by omega) (pAll1 (show (1 + (1 * ρ 17 + 0) : Int) ≤ 0 by omega) (pAll1 (show (0 + (1 * ρ 10 + 0) : Int) ≤ 0 by omega) (pAll1 (show (0 + ((-1) * ρ 10 + 0) : Int) ≤ 0 by omega) pAll0)))), pAll0⟩
    · exact ⟨_, List.mem_of_getElem? (i := 7) rfl, rfl, rfl, (pAll1 (show (0 + ((-1) * ρ 15 + 0) : Int) ≤ 0 by omega) (pAll1 (show (0 + ((-1) * ρ 17 + 0) : Int) ≤ 0 by omega) (pAll1 (show ((-20) + (1 * ρ 17 + 0) : Int) ≤ 0 by omega) (pAll1 (show (0 + (1 * ρ 10 + ((-1) * ρ 17 + 0)) : Int) ≤ 0 by omega) (pAll1 (show (0 + ((-1) * ρ 10 + (1 * ρ 17 + 0)) : Int) ≤ 0 by omega) pAll0))))), pAll0⟩
    · exact ⟨_, List.mem_of_getElem? (i := 8) rfl, rfl, rfl, (pAll1 (show (0 + ((-1) * ρ 15 + 0) : Int) ≤ 0 by omega) (pAll1 (show (21 + ((-1) * ρ 17 + 0) : Int) ≤ 0 by omega) (pAll1 (show ((-20) + (1 * ρ 10 + 0) : Int) ≤ 0 by omega) (pAll1 (show (20 + ((-1) * ρ 10 + 0) : Int) ≤ 0 by omega) pAll0)))), pAll0⟩)

theorem qR_qum_ok (h64 : ∀ x y h, gv 64 x y h → mGh h) : pRulQ pReg qG gv qR_qum := qrul (by decide +kernel) (fun h ρ hG hm hb hc => by
  have b0 : (1 : Int) ≤ ρ 0 ∧ ρ 0 ≤ 1 := hb 0 (1, 1) rfl
  have b1 : (0 : Int) ≤ ρ 1 ∧ ρ 1 ≤ 9 := hb 1 (0, 9) rfl
  have b2 : (2 : Int) ≤ ρ 2 ∧ ρ 2 ≤ 6 := hb 2 (2, 6) rfl
  have b3 : (4 : Int) ≤ ρ 3 ∧ ρ 3 ≤ 10 := hb 3 (4, 10) rfl
  have b4 : (0 : Int) ≤ ρ 4 ∧ ρ 4 ≤ 63 := hb 4 (0, 63) rfl
  have b5 : (0 : Int) ≤ ρ 5 ∧ ρ 5 ≤ 63 := hb 5 (0, 63) rfl
  have b6 : (0 : Int) ≤ ρ 6 ∧ ρ 6 ≤ 63 := hb 6 (0, 63) rfl
  have b7 : (0 : Int) ≤ ρ 7 ∧ ρ 7 ≤ 60 := hb 7 (0, 60) rfl
  have b8 : (0 : Int) ≤ ρ 8 ∧ ρ 8 ≤ 60 := hb 8 (0, 60) rfl
  have b9 : (0 : Int) ≤ ρ 9 ∧ ρ 9 ≤ 60 := hb 9 (0, 60) rfl
  have b10 : (0 : Int) ≤ ρ 10 ∧ ρ 10 ≤ 60 := hb 10 (0, 60) rfl
  have b11 : (0 : Int) ≤ ρ 11 ∧ ρ 11 ≤ 60 := hb 11 (0, 60) rfl
  have b12 : (0 : Int) ≤ ρ 12 ∧ ρ 12 ≤ 60 := hb 12 (0, 60) rfl
  have b13 : (0 : Int) ≤ ρ 13 ∧ ρ 13 ≤ 10 := hb 13 (0, 10) rfl
  have b14 : (0 : Int) ≤ ρ 14 ∧ ρ 14 ≤ 10 := hb 14 (0, 10) rfl
  have c0 : (1 + (1 * ρ 1 + ((-1) * ρ 3 + 0)) : Int) ≤ 0 := hc _ (List.mem_of_getElem? (i := 0) rfl)
  have c1 : (0 + (1 * ρ 4 + ((-1) * ρ 5 + 0)) : Int) ≤ 0 := hc _ (List.mem_of_getElem? (i := 1) rfl)
  have c2 : (0 + ((-1) * ρ 4 + (1 * ρ 5 + 0)) : Int) ≤ 0 := hc _ (List.mem_of_getElem? (i := 2) rfl)
  obtain ⟨t, e_t⟩ : ∃ x : Nat, ρ 1 = (x : Int) := ⟨(ρ 1).toNat, by omega⟩
  obtain ⟨k, e_k⟩ : ∃ x : Nat, ρ 2 = (x : Int) := ⟨(ρ 2).toNat, by omega⟩
  have t0 := h64 _ _ _ (qtl (a := 64) hm 0 rfl (by decide))
  have q1 : rv h 120 (22) = ρ 2 := qrv hm 1 rfl (by decide) (by decide +kernel) (by show (22 + 0 : Int) = ((22 : Nat) : Int); omega)
  have q2 : rv h 99 (0) = ρ 3 := qrv hm 2 rfl (by decide) (by decide +kernel) (by show (0 + 0 : Int) = ((0 : Nat) : Int); omega)
  have q3 : rv h 622 (7 * t + k) = ρ 5 := qrv hm 3 rfl (by decide) (by decide +kernel) (by show (0 + (7 * ρ 1 + (1 * ρ 2 + 0)) : Int) = ((7 * t + k : Nat) : Int); omega)
  have q4 : rv h 623 (7 * t + k) = ρ 6 := qrv hm 4 rfl (by decide) (by decide +kernel) (by show (0 + (7 * ρ 1 + (1 * ρ 2 + 0)) : Int) = ((7 * t + k : Nat) : Int); omega)
  have q5 : rv h 614 (6 * t + k) = ρ 7 := qrv hm 5 rfl (by decide) (by decide +kernel) (by show (0 + (6 * ρ 1 + (1 * ρ 2 + 0)) : Int) = ((6 * t + k : Nat) : Int); omega)
  have q6 : rv h 614 (6 * t + 6) = ρ 8 := qrv hm 6 rfl (by decide) (by decide +kernel) (by show (6 + (6 * ρ 1 + 0) : Int) = ((6 * t + 6 : Nat) : Int); omega)
  have q7 : rv h 615 (6 * t + k) = ρ 9 := qrv hm 7 rfl (by decide) (by decide +kernel) (by show (0 + (6 * ρ 1 + (1 * ρ 2 + 0)) : Int) = ((6 * t + k : Nat) : Int); omega)
  have q8 : rv h 615 (6 * t + 6) = ρ 10 := qrv hm 8 rfl (by decide) (by decide +kernel) (by show (6 + (6 * ρ 1 + 0) : Int) = ((6 * t + 6 : Nat) : Int); omega)
  have q9 : rv h 624 (6 * t + k) = ρ 11 := qrv hm 9 rfl (by decide) (by decide +kernel) (by show (0 + (6 * ρ 1 + (1 * ρ 2 + 0)) : Int) = ((6 * t + k : Nat) : Int); omega)
  have q10 : rv h 624 (6 * t + 6) = ρ 12 := qrv hm 10 rfl (by decide) (by decide +kernel) (by show (6 + (6 * ρ 1 + 0) : Int) = ((6 * t + 6 : Nat) : Int); omega)
  have q11 : rv h 616 (t) = ρ 13 := qrv hm 11 rfl (by decide) (by decide +kernel) (by show (0 + (1 * ρ 1 + 0) : Int) = ((t : Nat) : Int); omega)
  have q12 : rv h 616 (t + 1) = ρ 14 := qrv hm 12 rfl (by decide) (by decide +kernel) (by show (1 + (1 * ρ 1 + 0) : Int) = ((t + 1 : Nat) : Int); omega)
  obtain ⟨n, H, mare, hold, nt, ne, bd, ey, dm, pl, g0, x0, x1, x2, x3, x4, xF, xG, ⟨o2, o3, o4, o5, oB, oP, oN, oL, oM⟩, ⟨gW, gMa, gS, gA, gO, gD, gU, gQ, gV, gK, gB⟩, yP, yR⟩ := t0
  have hM : ρ 2 = (n : Int) := q1.symm.trans x0
  have hH : ρ 3 = (H : Int) := q2.symm.trans x1
  have htH : t < H := by omega
  have ek : k = n := by omega
  rw [ek] at q3 q4 q5 q7 q9
  have f := nQm (n := n) (mare := mare) (hold := hold) (nt := nt) (ne := ne) (bd := bd) (ey := ey) (dm := dm) (pl := pl) (W := rv h 620) (g0 := g0) t n (Nat.le_refl n) o3
  obtain ⟨g1, g2⟩ := gK t n (by omega) (Nat.le_refl n)
  rw [q3] at g1
  rw [q4] at g2
  obtain ⟨u1, u2, u3⟩ := gU (6 * t + n) (by omega)
  obtain ⟨w1, w2, w3⟩ := gU (6 * t + 6) (by omega)
  rw [q5] at u1
  rw [q7] at u2
  rw [q9] at u3
  rw [q6] at w1
  rw [q8] at w2
  rw [q10] at w3
  have s1 : ρ 8 = ρ 7 := by
    rw [w1, u1]
    unfold nUN
    rw [show 6 * t + 6 = 6 * t + n + (6 - n) by omega]
    exact nCt_skip (fun j j1 j2 => if_neg (fun z => by have := z.1; omega))
  have s2 : ρ 10 = ρ 9 := by
    rw [w2, u2]
    unfold nOP
    rw [show 6 * t + 6 = 6 * t + n + (6 - n) by omega]
    exact nCt_skip (fun j j1 j2 => if_neg (fun z => by have := z.1; omega))
  have s3 : ρ 12 = ρ 11 := by
    rw [w3, u3]
    unfold nMR
    rw [show 6 * t + 6 = 6 * t + n + (6 - n) by omega]
    exact nCt_skip (fun j j1 j2 => if_neg (fun z => by have := z.1; omega))
  have kq := gQ t (by omega)
  have kq2 := gQ (t + 1) (by omega)
  rw [q11] at kq
  rw [q12] at kq2
  have kq3 : ρ 14 = ρ 13 + (if nAW n mare hold nt ne bd ey dm pl (rv h 620) g0 t n = 1 ∧ nUN n mare hold nt ne bd ey dm pl (rv h 620) g0 (6 * t + n) = nUN n mare hold nt ne bd ey dm pl (rv h 620) g0 (6 * t) then 1 else 0) := by rw [kq2, kq]; rfl
  rw [← g1, ← g2] at f
  obtain ⟨f1, f2⟩ := f
  generalize nUN n mare hold nt ne bd ey dm pl (rv h 620) g0 (6 * t + n) = ua at kq3 f1
  generalize nUN n mare hold nt ne bd ey dm pl (rv h 620) g0 (6 * t) = ub at kq3 f1
  generalize nAW n mare hold nt ne bd ey dm pl (rv h 620) g0 t n = aw at kq3 f2
  rcases f1 with ⟨y1, y2⟩ | ⟨y1, y2⟩
  · rcases f2 with ⟨y3, y4⟩ | ⟨y3, y4⟩
    · rw [if_neg (fun y => by omega)] at kq3
      exact ⟨_, List.mem_of_getElem? (i := 0) rfl, rfl, rfl, (pAll1 (show (0 + ((-1) * ρ 7 + (1 * ρ 8 + 0)) : Int) ≤ 0 by omega) (pAll1 (show (0 + (1 * ρ 7 + ((-1) * ρ 8 + 0)) : Int) ≤ 0 by omega) (pAll1 (show (0 + ((-1) * ρ 9 + (1 * ρ 10 + 0)) : Int) ≤ 0 by omega) (pAll1 (show (0 + (1 * ρ 9 + ((-1) * ρ 10 + 0)) : Int) ≤ 0 by omega) (pAll1 (show (0 + ((-1) * ρ 11 + (1 * ρ 12 + 0)) : Int) ≤ 0 by omega) (pAll1 (show (0 + (1 * ρ 11 + ((-1) * ρ 12 + 0)) : Int) ≤ 0 by omega) (pAll1 (show (0 + (1 * ρ 4 + 0) : Int) ≤ 0 by omega) (pAll1 (show (0 + ((-1) * ρ 4 + 0) : Int) ≤ 0 by omega) (pAll1 (show (0 + ((-1) * ρ 13 + (1 * ρ 14 + 0)) : Int) ≤ 0 by omega) (pAll1 (show (0 + (1 * ρ 13 + ((-1) * ρ 14 + 0)) : Int) ≤ 0 by omega) pAll0)))))))))), pAll0⟩
    · rw [if_pos ⟨y4, y2⟩] at kq3
      exact ⟨_, List.mem_of_getElem? (i := 1) rfl, rfl, rfl, (pAll1 (show (0 + ((-1) * ρ 7 + (1 * ρ 8 + 0)) : Int) ≤ 0 by omega) (pAll1 (show (0 + (1 * ρ 7 + ((-1) * ρ 8 + 0)) : Int) ≤ 0 by omega) (pAll1 (show (0 + ((-1) * ρ 9 + (1 * ρ 10 + 0)) : Int) ≤ 0 by omega) (pAll1 (show (0 + (1 * ρ 9 + ((-1) * ρ 10 + 0)) : Int) ≤ 0 by omega) (pAll1 (show (0 + ((-1) * ρ 11 + (1 * ρ 12 + 0)) : Int) ≤ 0 by omega) (pAll1 (show (0 + (1 * ρ 11 + ((-1) * ρ 12 + 0)) : Int) ≤ 0 by omega) (pAll1 (show (1 + ((-1) * ρ 4 + 0) : Int) ≤ 0 by omega) (pAll1 (show (0 + ((-1) * ρ 4 + (1 * ρ 6 + 0)) : Int) ≤ 0 by omega) (pAll1 (show (0 + (1 * ρ 4 + ((-1) * ρ 6 + 0)) : Int) ≤ 0 by omega) (pAll1 (show ((-1) + ((-1) * ρ 13 + (1 * ρ 14 + 0)) : Int) ≤ 0 by omega) (pAll1 (show (1 + (1 * ρ 13 + ((-1) * ρ 14 + 0)) : Int) ≤ 0 by omega) pAll0))))))))))), pAll0⟩
  · rw [if_neg (fun y => by omega)] at kq3
    have y5 : 0 ≤ ρ 6 := b6.1
    exact ⟨_, List.mem_of_getElem? (i := 2) rfl, rfl, rfl, (pAll1 (show (0 + ((-1) * ρ 7 + (1 * ρ 8 + 0)) : Int) ≤ 0 by omega) (pAll1 (show (0 + (1 * ρ 7 + ((-1) * ρ 8 + 0)) : Int) ≤ 0 by omega) (pAll1 (show (0 + ((-1) * ρ 9 + (1 * ρ 10 + 0)) : Int) ≤ 0 by omega) (pAll1 (show (0 + (1 * ρ 9 + ((-1) * ρ 10 + 0)) : Int) ≤ 0 by omega) (pAll1 (show (0 + ((-1) * ρ 11 + (1 * ρ 12 + 0)) : Int) ≤ 0 by omega) (pAll1 (show (0 + (1 * ρ 11 + ((-1) * ρ 12 + 0)) : Int) ≤ 0 by omega) (pAll1 (show (1 + ((-1) * ρ 4 + 0) : Int) ≤ 0 by omega) (pAll1 (show (1 + ((-1) * ρ 4 + (1 * ρ 6 + 0)) : Int) ≤ 0 by omega) (pAll1 (show (0 + ((-1) * ρ 13 + (1 * ρ 14 + 0)) : Int) ≤ 0 by omega) (pAll1 (show (0 + (1 * ρ 13 + ((-1) * ρ 14 + 0)) : Int) ≤ 0 by omega) pAll0)))))))))), pAll0⟩)

theorem qR_in0m_ok (h64 : ∀ x y h, gv 64 x y h → mGh h) : pRulQ pReg qG gv qR_in0m := qrul (by decide +kernel) (fun h ρ hG hm hb hc => by
  have b0 : (1 : Int) ≤ ρ 0 ∧ ρ 0 ≤ 1 := hb 0 (1, 1) rfl
  have b1 : (0 : Int) ≤ ρ 1 ∧ ρ 1 ≤ 5 := hb 1 (0, 5) rfl
  have b2 : ((-2147483648) : Int) ≤ ρ 2 ∧ ρ 2 ≤ 2147483647 := hb 2 ((-2147483648), 2147483647) rfl
  have b3 : ((-2147483648) : Int) ≤ ρ 3 ∧ ρ 3 ≤ 2147483647 := hb 3 ((-2147483648), 2147483647) rfl
  have b4 : ((-2147483648) : Int) ≤ ρ 4 ∧ ρ 4 ≤ 2147483647 := hb 4 ((-2147483648), 2147483647) rfl
  have b5 : ((-2147483648) : Int) ≤ ρ 5 ∧ ρ 5 ≤ 2147483647 := hb 5 ((-2147483648), 2147483647) rfl
  obtain ⟨m, e_m⟩ : ∃ x : Nat, ρ 1 = (x : Int) := ⟨(ρ 1).toNat, by omega⟩
  have t0 := h64 _ _ _ (qtl (a := 64) hm 0 rfl (by decide))
  have q1 : rv h 610 (m) = ρ 2 := qrv hm 1 rfl (by decide) (by decide +kernel) (by show (0 + (1 * ρ 1 + 0) : Int) = ((m : Nat) : Int); omega)
  have q2 : rv h 611 (m) = ρ 3 := qrv hm 2 rfl (by decide) (by decide +kernel) (by show (0 + (1 * ρ 1 + 0) : Int) = ((m : Nat) : Int); omega)
  have q3 : rv h 612 (m) = ρ 4 := qrv hm 3 rfl (by decide) (by decide +kernel) (by show (0 + (1 * ρ 1 + 0) : Int) = ((m : Nat) : Int); omega)
  have q4 : rv h 613 (m) = ρ 5 := qrv hm 4 rfl (by decide) (by decide +kernel) (by show (0 + (1 * ρ 1 + 0) : Int) = ((m : Nat) : Int); omega)
  obtain ⟨n, H, mare, hold, nt, ne, bd, ey, dm, pl, g0, x0, x1, x2, x3, x4, xF, xG, ⟨o2, o3, o4, o5, oB, oP, oN, oL, oM⟩, ⟨gW, gMa, gS, gA, gO, gD, gU, gQ, gV, gK, gB⟩, yP, yR⟩ := t0
  have k0 := gS 0 m 0 (by omega) (by omega) (by decide)
  rw [show 610 + 0 = 610 from rfl, show 6 * 0 + m = m by omega, q1, nS0 xG (by omega), if_neg (by decide)] at k0
  have k1 := gS 0 m 1 (by omega) (by omega) (by decide)
  rw [show 610 + 1 = 611 from rfl, show 6 * 0 + m = m by omega, q2, nS0 xG (by omega), if_pos rfl] at k1
  have k2 := gS 0 m 2 (by omega) (by omega) (by decide)
  rw [show 610 + 2 = 612 from rfl, show 6 * 0 + m = m by omega, q3, nS0 xG (by omega), if_neg (by decide)] at k2
  have k3 := gS 0 m 3 (by omega) (by omega) (by decide)
  rw [show 610 + 3 = 613 from rfl, show 6 * 0 + m = m by omega, q4, nS0 xG (by omega), if_neg (by decide)] at k3
  exact ⟨_, List.mem_of_getElem? (i := 0) rfl, rfl, rfl, (pAll1 (show (0 + (1 * ρ 2 + 0) : Int) ≤ 0 by omega) (pAll1 (show (0 + ((-1) * ρ 2 + 0) : Int) ≤ 0 by omega) (pAll1 (show (1 + (1 * ρ 3 + 0) : Int) ≤ 0 by omega) (pAll1 (show ((-1) + ((-1) * ρ 3 + 0) : Int) ≤ 0 by omega) (pAll1 (show (0 + (1 * ρ 4 + 0) : Int) ≤ 0 by omega) (pAll1 (show (0 + ((-1) * ρ 4 + 0) : Int) ≤ 0 by omega) (pAll1 (show (0 + (1 * ρ 5 + 0) : Int) ≤ 0 by omega) (pAll1 (show (0 + ((-1) * ρ 5 + 0) : Int) ≤ 0 by omega) pAll0)))))))), pAll0⟩)

theorem qR_in1m_ok (h64 : ∀ x y h, gv 64 x y h → mGh h) : pRulQ pReg qG gv qR_in1m := qrul (by decide +kernel) (fun h ρ hG hm hb hc => by
  have b0 : (1 : Int) ≤ ρ 0 ∧ ρ 0 ≤ 1 := hb 0 (1, 1) rfl
  have b1 : (0 : Int) ≤ ρ 1 ∧ ρ 1 ≤ 60 := hb 1 (0, 60) rfl
  have b2 : (0 : Int) ≤ ρ 2 ∧ ρ 2 ≤ 60 := hb 2 (0, 60) rfl
  have b3 : (0 : Int) ≤ ρ 3 ∧ ρ 3 ≤ 10 := hb 3 (0, 10) rfl
  have b4 : (0 : Int) ≤ ρ 4 ∧ ρ 4 ≤ 60 := hb 4 (0, 60) rfl
  have b5 : (0 : Int) ≤ ρ 5 ∧ ρ 5 ≤ 63 := hb 5 (0, 63) rfl
  have t0 := h64 _ _ _ (qtl (a := 64) hm 0 rfl (by decide))
  have q1 : rv h 614 (0) = ρ 1 := qrv hm 1 rfl (by decide) (by decide +kernel) (by show (0 + 0 : Int) = ((0 : Nat) : Int); omega)
  have q2 : rv h 615 (0) = ρ 2 := qrv hm 2 rfl (by decide) (by decide +kernel) (by show (0 + 0 : Int) = ((0 : Nat) : Int); omega)
  have q3 : rv h 616 (0) = ρ 3 := qrv hm 3 rfl (by decide) (by decide +kernel) (by show (0 + 0 : Int) = ((0 : Nat) : Int); omega)
  have q4 : rv h 624 (0) = ρ 4 := qrv hm 4 rfl (by decide) (by decide +kernel) (by show (0 + 0 : Int) = ((0 : Nat) : Int); omega)
  have q5 : rv h 625 (0) = ρ 5 := qrv hm 5 rfl (by decide) (by decide +kernel) (by show (0 + 0 : Int) = ((0 : Nat) : Int); omega)
  obtain ⟨n, H, mare, hold, nt, ne, bd, ey, dm, pl, g0, x0, x1, x2, x3, x4, xF, xG, ⟨o2, o3, o4, o5, oB, oP, oN, oL, oM⟩, ⟨gW, gMa, gS, gA, gO, gD, gU, gQ, gV, gK, gB⟩, yP, yR⟩ := t0
  obtain ⟨u1, u2, u3⟩ := gU 0 (by omega)
  have kq := gQ 0 (by omega)
  have kb := gB 0 (by omega)
  have y1 : ρ 1 = 0 := q1.symm.trans u1
  have y2 : ρ 2 = 0 := q2.symm.trans u2
  have y3 : ρ 3 = 0 := q3.symm.trans kq
  have y4 : ρ 4 = 0 := q4.symm.trans u3
  have y5 : ρ 5 = 0 := q5.symm.trans kb
  exact ⟨_, List.mem_of_getElem? (i := 0) rfl, rfl, rfl, (pAll1 (show (0 + (1 * ρ 1 + 0) : Int) ≤ 0 by omega) (pAll1 (show (0 + ((-1) * ρ 1 + 0) : Int) ≤ 0 by omega) (pAll1 (show (0 + (1 * ρ 2 + 0) : Int) ≤ 0 by omega) (pAll1 (show (0 + ((-1) * ρ 2 + 0) : Int) ≤ 0 by omega) (pAll1 (show (0 + (1 * ρ 3 + 0) : Int) ≤ 0 by omega) (pAll1 (show (0 + ((-1) * ρ 3 + 0) : Int) ≤ 0 by omega) (pAll1 (show (0 + (1 * ρ 4 + 0) : Int) ≤ 0 by omega) (pAll1 (show (0 + ((-1) * ρ 4 + 0) : Int) ≤ 0 by omega) (pAll1 (show (0 + (1 * ρ 5 + 0) : Int) ≤ 0 by omega) (pAll1 (show (0 + ((-1) * ρ 5 + 0) : Int) ≤ 0 by omega) pAll0)))))))))), pAll0⟩)

theorem qR_ehm_ok : pRulQ pReg qG gv qR_ehm := qrul (by decide +kernel) (fun h ρ hG hm hb hc => by
  have b0 : (1 : Int) ≤ ρ 0 ∧ ρ 0 ≤ 1 := hb 0 (1, 1) rfl
  have b1 : (0 : Int) ≤ ρ 1 ∧ ρ 1 ≤ 10 := hb 1 (0, 10) rfl
  have b2 : (4 : Int) ≤ ρ 2 ∧ ρ 2 ≤ 10 := hb 2 (4, 10) rfl
  have b3 : (0 : Int) ≤ ρ 3 ∧ ρ 3 ≤ 60 := hb 3 (0, 60) rfl
  have b4 : (0 : Int) ≤ ρ 4 ∧ ρ 4 ≤ 60 := hb 4 (0, 60) rfl
  have b5 : (0 : Int) ≤ ρ 5 ∧ ρ 5 ≤ 10 := hb 5 (0, 10) rfl
  have b6 : (0 : Int) ≤ ρ 6 ∧ ρ 6 ≤ 60 := hb 6 (0, 60) rfl
  have c0 : (0 + (1 * ρ 1 + ((-1) * ρ 2 + 0)) : Int) ≤ 0 := hc _ (List.mem_of_getElem? (i := 0) rfl)
  have c1 : (0 + ((-1) * ρ 1 + (1 * ρ 2 + 0)) : Int) ≤ 0 := hc _ (List.mem_of_getElem? (i := 1) rfl)
  obtain ⟨t, e_t⟩ : ∃ x : Nat, ρ 1 = (x : Int) := ⟨(ρ 1).toNat, by omega⟩
  obtain ⟨k, e_k⟩ : ∃ x : Nat, ρ 2 = (x : Int) := ⟨(ρ 2).toNat, by omega⟩
  have q1 : rv h 99 (0) = ρ 2 := qrv hm 1 rfl (by decide) (by decide +kernel) (by show (0 + 0 : Int) = ((0 : Nat) : Int); omega)
  have q2 : rv h 614 (6 * t) = ρ 3 := qrv hm 2 rfl (by decide) (by decide +kernel) (by show (0 + (6 * ρ 1 + 0) : Int) = ((6 * t : Nat) : Int); omega)
  have q3 : rv h 615 (6 * t) = ρ 4 := qrv hm 3 rfl (by decide) (by decide +kernel) (by show (0 + (6 * ρ 1 + 0) : Int) = ((6 * t : Nat) : Int); omega)
  have q4 : rv h 616 (t) = ρ 5 := qrv hm 4 rfl (by decide) (by decide +kernel) (by show (0 + (1 * ρ 1 + 0) : Int) = ((t : Nat) : Int); omega)
  have q5 : rv h 624 (6 * t) = ρ 6 := qrv hm 5 rfl (by decide) (by decide +kernel) (by show (0 + (6 * ρ 1 + 0) : Int) = ((6 * t : Nat) : Int); omega)
  have ek : k = t := by omega
  exact ⟨_, List.mem_of_getElem? (i := 0) rfl, rfl, rfl, pAll0, (pAll1 (qfr (by decide) (by decide +kernel) (p := 6 * k) (by show (0 + (6 * ρ 2 + 0) : Int) = ((6 * k : Nat) : Int); omega) (by show rv h 614 (6 * k) = (0 + (1 * ρ 3 + 0) : Int); rw [ek, q2]; omega)) (pAll1 (qfr (by decide) (by decide +kernel) (p := 6 * k) (by show (0 + (6 * ρ 2 + 0) : Int) = ((6 * k : Nat) : Int); omega) (by show rv h 615 (6 * k) = (0 + (1 * ρ 4 + 0) : Int); rw [ek, q3]; omega)) (pAll1 (qfr (by decide) (by decide +kernel) (p := k) (by show (0 + (1 * ρ 2 + 0) : Int) = ((k : Nat) : Int); omega) (by show rv h 616 (k) = (0 + (1 * ρ 5 + 0) : Int); rw [ek, q4]; omega)) (pAll1 (qfr (by decide) (by decide +kernel) (p := 6 * k) (by show (0 + (6 * ρ 2 + 0) : Int) = ((6 * k : Nat) : Int); omega) (by show rv h 624 (6 * k) = (0 + (1 * ρ 6 + 0) : Int); rw [ek, q5]; omega)) pAll0))))⟩)

theorem qR_ehnow_ok : pRulQ pReg qG gv qR_ehnow := qrul (by decide +kernel) (fun h ρ hG hm hb hc => by
  have b0 : (1 : Int) ≤ ρ 0 ∧ ρ 0 ≤ 1 := hb 0 (1, 1) rfl
  have b1 : (0 : Int) ≤ ρ 1 ∧ ρ 1 ≤ 10 := hb 1 (0, 10) rfl
  have b2 : (4 : Int) ≤ ρ 2 ∧ ρ 2 ≤ 10 := hb 2 (4, 10) rfl
  have b3 : (0 : Int) ≤ ρ 3 ∧ ρ 3 ≤ 60 := hb 3 (0, 60) rfl
  have b4 : (0 : Int) ≤ ρ 4 ∧ ρ 4 ≤ 60 := hb 4 (0, 60) rfl
  have b5 : (0 : Int) ≤ ρ 5 ∧ ρ 5 ≤ 10 := hb 5 (0, 10) rfl
  have c0 : (0 + (1 * ρ 1 + ((-1) * ρ 2 + 0)) : Int) ≤ 0 := hc _ (List.mem_of_getElem? (i := 0) rfl)
  have c1 : (0 + ((-1) * ρ 1 + (1 * ρ 2 + 0)) : Int) ≤ 0 := hc _ (List.mem_of_getElem? (i := 1) rfl)
  obtain ⟨t, e_t⟩ : ∃ x : Nat, ρ 1 = (x : Int) := ⟨(ρ 1).toNat, by omega⟩
  obtain ⟨k, e_k⟩ : ∃ x : Nat, ρ 2 = (x : Int) := ⟨(ρ 2).toNat, by omega⟩
  have q1 : rv h 56 (1) = ρ 2 := qrv hm 1 rfl (by decide) (by decide +kernel) (by show (1 + 0 : Int) = ((1 : Nat) : Int); omega)
  have q2 : rv h 614 (6 * t) = ρ 3 := qrv hm 2 rfl (by decide) (by decide +kernel) (by show (0 + (6 * ρ 1 + 0) : Int) = ((6 * t : Nat) : Int); omega)
  have q3 : rv h 615 (6 * t) = ρ 4 := qrv hm 3 rfl (by decide) (by decide +kernel) (by show (0 + (6 * ρ 1 + 0) : Int) = ((6 * t : Nat) : Int); omega)
  have q4 : rv h 616 (t) = ρ 5 := qrv hm 4 rfl (by decide) (by decide +kernel) (by show (0 + (1 * ρ 1 + 0) : Int) = ((t : Nat) : Int); omega)
  have ek : k = t := by omega
  exact ⟨_, List.mem_of_getElem? (i := 0) rfl, rfl, rfl, pAll0, (pAll1 (qfr (by decide) (by decide +kernel) (p := 6 * k) (by show (0 + (6 * ρ 2 + 0) : Int) = ((6 * k : Nat) : Int); omega) (by show rv h 614 (6 * k) = (0 + (1 * ρ 3 + 0) : Int); rw [ek, q2]; omega)) (pAll1 (qfr (by decide) (by decide +kernel) (p := 6 * k) (by show (0 + (6 * ρ 2 + 0) : Int) = ((6 * k : Nat) : Int); omega) (by show rv h 615 (6 * k) = (0 + (1 * ρ 4 + 0) : Int); rw [ek, q3]; omega)) (pAll1 (qfr (by decide) (by decide +kernel) (p := k) (by show (0 + (1 * ρ 2 + 0) : Int) = ((k : Nat) : Int); omega) (by show rv h 616 (k) = (0 + (1 * ρ 5 + 0) : Int); rw [ek, q4]; omega)) pAll0)))⟩)

theorem qR_ehtrial_ok : pRulQ pReg qG gv qR_ehtrial := qrul (by decide +kernel) (fun h ρ hG hm hb hc => by
  have b0 : (1 : Int) ≤ ρ 0 ∧ ρ 0 ≤ 1 := hb 0 (1, 1) rfl
  have b1 : (0 : Int) ≤ ρ 1 ∧ ρ 1 ≤ 10 := hb 1 (0, 10) rfl
  have b2 : (4 : Int) ≤ ρ 2 ∧ ρ 2 ≤ 10 := hb 2 (4, 10) rfl
  have b3 : (0 : Int) ≤ ρ 3 ∧ ρ 3 ≤ 60 := hb 3 (0, 60) rfl
  have b4 : (0 : Int) ≤ ρ 4 ∧ ρ 4 ≤ 60 := hb 4 (0, 60) rfl
  have b5 : (0 : Int) ≤ ρ 5 ∧ ρ 5 ≤ 10 := hb 5 (0, 10) rfl
  have c0 : (0 + (1 * ρ 1 + ((-1) * ρ 2 + 0)) : Int) ≤ 0 := hc _ (List.mem_of_getElem? (i := 0) rfl)
  have c1 : (0 + ((-1) * ρ 1 + (1 * ρ 2 + 0)) : Int) ≤ 0 := hc _ (List.mem_of_getElem? (i := 1) rfl)
  obtain ⟨t, e_t⟩ : ∃ x : Nat, ρ 1 = (x : Int) := ⟨(ρ 1).toNat, by omega⟩
  obtain ⟨k, e_k⟩ : ∃ x : Nat, ρ 2 = (x : Int) := ⟨(ρ 2).toNat, by omega⟩
  have q1 : rv h 56 (1) = ρ 2 := qrv hm 1 rfl (by decide) (by decide +kernel) (by show (1 + 0 : Int) = ((1 : Nat) : Int); omega)
  have q2 : rv h 614 (6 * t) = ρ 3 := qrv hm 2 rfl (by decide) (by decide +kernel) (by show (0 + (6 * ρ 1 + 0) : Int) = ((6 * t : Nat) : Int); omega)
  have q3 : rv h 615 (6 * t) = ρ 4 := qrv hm 3 rfl (by decide) (by decide +kernel) (by show (0 + (6 * ρ 1 + 0) : Int) = ((6 * t : Nat) : Int); omega)
  have q4 : rv h 616 (t) = ρ 5 := qrv hm 4 rfl (by decide) (by decide +kernel) (by show (0 + (1 * ρ 1 + 0) : Int) = ((t : Nat) : Int); omega)
  have ek : k = t := by omega
  exact ⟨_, List.mem_of_getElem? (i := 0) rfl, rfl, rfl, pAll0, (pAll1 (qfr (by decide) (by decide +kernel) (p := 6 * k) (by show (0 + (6 * ρ 2 + 0) : Int) = ((6 * k : Nat) : Int); omega) (by show rv h 614 (6 * k) = (0 + (1 * ρ 3 + 0) : Int); rw [ek, q2]; omega)) (pAll1 (qfr (by decide) (by decide +kernel) (p := 6 * k) (by show (0 + (6 * ρ 2 + 0) : Int) = ((6 * k : Nat) : Int); omega) (by show rv h 615 (6 * k) = (0 + (1 * ρ 4 + 0) : Int); rw [ek, q3]; omega)) (pAll1 (qfr (by decide) (by decide +kernel) (p := k) (by show (0 + (1 * ρ 2 + 0) : Int) = ((k : Nat) : Int); omega) (by show rv h 616 (k) = (0 + (1 * ρ 5 + 0) : Int); rw [ek, q4]; omega)) pAll0)))⟩)

theorem qR_wbm_ok (h64 : ∀ x y h, gv 64 x y h → mGh h) (h61 : ∀ x y h, gv 61 x y h → qTab pReg h) : pRulQ pReg qG gv qR_wbm := qrul (by decide +kernel) (fun h ρ hG hm hb hc => by
  have b0 : (1 : Int) ≤ ρ 0 ∧ ρ 0 ≤ 1 := hb 0 (1, 1) rfl
  have b1 : (1 : Int) ≤ ρ 1 ∧ ρ 1 ≤ 1 := hb 1 (1, 1) rfl
  have b2 : (0 : Int) ≤ ρ 2 ∧ ρ 2 ≤ 5 := hb 2 (0, 5) rfl
  have b3 : (2 : Int) ≤ ρ 3 ∧ ρ 3 ≤ 6 := hb 3 (2, 6) rfl
  have b4 : (4 : Int) ≤ ρ 4 ∧ ρ 4 ≤ 10 := hb 4 (4, 10) rfl
  have b5 : ((-2147483648) : Int) ≤ ρ 5 ∧ ρ 5 ≤ 2147483647 := hb 5 ((-2147483648), 2147483647) rfl
  have b6 : (0 : Int) ≤ ρ 6 ∧ ρ 6 ≤ 63 := hb 6 (0, 63) rfl
  have b7 : (0 : Int) ≤ ρ 7 ∧ ρ 7 ≤ 63 := hb 7 (0, 63) rfl
  have b8 : (0 : Int) ≤ ρ 8 ∧ ρ 8 ≤ 2016 := hb 8 (0, 2016) rfl
  have b9 : (0 : Int) ≤ ρ 9 ∧ ρ 9 ≤ 63 := hb 9 (0, 63) rfl
  have c0 : (1 + (1 * ρ 2 + ((-1) * ρ 3 + 0)) : Int) ≤ 0 := hc _ (List.mem_of_getElem? (i := 0) rfl)
  obtain ⟨m, e_m⟩ : ∃ x : Nat, ρ 2 = (x : Int) := ⟨(ρ 2).toNat, by omega⟩
  obtain ⟨hh, e_hh⟩ : ∃ x : Nat, ρ 4 = (x : Int) := ⟨(ρ 4).toNat, by omega⟩
  obtain ⟨a, e_a⟩ : ∃ x : Nat, ρ 6 = (x : Int) := ⟨(ρ 6).toNat, by omega⟩
  obtain ⟨p, e_p⟩ : ∃ x : Nat, ρ 8 = (x : Int) := ⟨(ρ 8).toNat, by omega⟩
  have t0 := h64 _ _ _ (qtl (a := 64) hm 0 rfl (by decide))
  have t1 := h61 _ _ _ (qtl (a := 61) hm 1 rfl (by decide))
  have q2 : rv h 120 (22) = ρ 3 := qrv hm 2 rfl (by decide) (by decide +kernel) (by show (22 + 0 : Int) = ((22 : Nat) : Int); omega)
  have q3 : rv h 99 (0) = ρ 4 := qrv hm 3 rfl (by decide) (by decide +kernel) (by show (0 + 0 : Int) = ((0 : Nat) : Int); omega)
  have q4 : rv h 611 (6 * hh + m) = ρ 5 := qrv hm 4 rfl (by decide) (by decide +kernel) (by show (0 + (1 * ρ 2 + (6 * ρ 4 + 0)) : Int) = ((6 * hh + m : Nat) : Int); omega)
  have q5 : rv h 625 (m) = ρ 6 := qrv hm 5 rfl (by decide) (by decide +kernel) (by show (0 + (1 * ρ 2 + 0) : Int) = ((m : Nat) : Int); omega)
  have q6 : rv h 625 (m + 1) = ρ 7 := qrv hm 6 rfl (by decide) (by decide +kernel) (by show (1 + (1 * ρ 2 + 0) : Int) = ((m + 1 : Nat) : Int); omega)
  have q7 : rv h 701 (64 * m + 1) = ρ 8 := qrv hm 7 rfl (by decide) (by decide +kernel) (by show (1 + (64 * ρ 2 + 0) : Int) = ((64 * m + 1 : Nat) : Int); omega)
  have q8 : rv h 700 (64 * p + a) = ρ 9 := qrv hm 8 rfl (by decide) (by decide +kernel) (by show (0 + (1 * ρ 6 + (64 * ρ 8 + 0)) : Int) = ((64 * p + a : Nat) : Int); omega)
  obtain ⟨n, H, mare, hold, nt, ne, bd, ey, dm, pl, g0, x0, x1, x2, x3, x4, xF, xG, ⟨o2, o3, o4, o5, oB, oP, oN, oL, oM⟩, ⟨gW, gMa, gS, gA, gO, gD, gU, gQ, gV, gK, gB⟩, yP, yR⟩ := t0
  have hM : ρ 3 = (n : Int) := q2.symm.trans x0
  have hH : ρ 4 = (H : Int) := q3.symm.trans x1
  have hmn : m < n := by omega
  have eh : hh = H := by omega
  rw [eh] at q4
  have hk := (gS H m 1 (Nat.le_refl H) (by omega) (by decide)).symm.trans q4
  obtain ⟨-, kb, -⟩ := nSt_b (n := n) (mare := mare) (hold := hold) (nt := nt) (ne := ne) (bd := bd) (ey := ey) (dm := dm) (pl := pl) (W := rv h 620) (g0 := g0) hmn H
  rw [hk] at kb
  have g1 := gB m (by omega)
  rw [q5] at g1
  have g2 := gB (m + 1) (by omega)
  rw [q6] at g2
  have g3 : ρ 7 = ρ 6 + (if nSt n mare hold nt ne bd ey dm pl (rv h 620) g0 H 1 m = -1 then 0 else (2 : Int) ^ m) := by rw [g2, g1]; rfl
  rw [hk] at g3
  have hm6 : m < 6 := by omega
  have s1 := qt_shl t1 hm6
  rw [q7] at s1
  have ep : p = 2 ^ m := Int.ofNat_inj.mp (e_p.symm.trans s1)
  have e2 : (2 : Int) ^ m = (p : Int) := by rw [ep, Int.natCast_pow]; rfl
  have pw := pw6 hm6
  rw [← ep] at pw
  rw [e2] at g3
  rw [nWB_b] at g1
  have hl := nBs_lt (f := fun j => decide (nSt n mare hold nt ne bd ey dm pl (rv h 620) g0 H 1 j ≠ -1)) m
  have hs : a < 2 ^ m := by rw [← ep]; rw [← ep] at hl; omega
  have cc := qt_or2 t1 hm6 hs ep
  rw [q8] at cc
  by_cases z : ρ 5 = -1
  · rw [if_pos z] at g3
    exact ⟨_, List.mem_of_getElem? (i := 0) rfl, rfl, rfl, (pAll1 (show (1 + ((-1) * ρ 8 + 0) : Int) ≤ 0 by omega) (pAll1 (show ((-32) + (1 * ρ 8 + 0) : Int) ≤ 0 by omega) (pAll1 (show (1 + (1 * ρ 5 + 0) : Int) ≤ 0 by omega) (pAll1 (show ((-1) + ((-1) * ρ 5 + 0) : Int) ≤ 0 by omega) (pAll1 (show (0 + ((-1) * ρ 6 + (1 * ρ 7 + 0)) : Int) ≤ 0 by omega) (pAll1 (show (0 + (1 * ρ 6 + ((-1) * ρ 7 + 0)) : Int) ≤ 0 by omega) pAll0)))))), pAll0⟩
  · rw [if_neg z] at g3
    exact ⟨_, List.mem_of_getElem? (i := 1) rfl, rfl, rfl, (pAll1 (show (1 + ((-1) * ρ 8 + 0) : Int) ≤ 0 by omega) (pAll1 (show ((-32) + (1 * ρ 8 + 0) : Int) ≤ 0 by omega) (pAll1 (show (0 + ((-1) * ρ 5 + 0) : Int) ≤ 0 by omega) (pAll1 (show (1 + ((-1) * ρ 4 + (1 * ρ 5 + 0)) : Int) ≤ 0 by omega) (pAll1 (show (0 + (1 * ρ 7 + ((-1) * ρ 9 + 0)) : Int) ≤ 0 by omega) (pAll1 (show (0 + ((-1) * ρ 7 + (1 * ρ 9 + 0)) : Int) ≤ 0 by omega) pAll0)))))), pAll0⟩)

theorem qR_psm_ok (h64 : ∀ x y h, gv 64 x y h → mGh h) : pRulQ pReg qG gv qR_psm := qrul (by decide +kernel) (fun h ρ hG hm hb hc => by
  have b0 : (1 : Int) ≤ ρ 0 ∧ ρ 0 ≤ 1 := hb 0 (1, 1) rfl
  have b1 : (0 : Int) ≤ ρ 1 ∧ ρ 1 ≤ 5 := hb 1 (0, 5) rfl
  have b2 : (2 : Int) ≤ ρ 2 ∧ ρ 2 ≤ 6 := hb 2 (2, 6) rfl
  have b3 : (4 : Int) ≤ ρ 3 ∧ ρ 3 ≤ 10 := hb 3 (4, 10) rfl
  have b4 : ((-2147483648) : Int) ≤ ρ 4 ∧ ρ 4 ≤ 2147483647 := hb 4 ((-2147483648), 2147483647) rfl
  have b5 : ((-2147483648) : Int) ≤ ρ 5 ∧ ρ 5 ≤ 2147483647 := hb 5 ((-2147483648), 2147483647) rfl
  have b6 : ((-2147483648) : Int) ≤ ρ 6 ∧ ρ 6 ≤ 2147483647 := hb 6 ((-2147483648), 2147483647) rfl
  have b7 : ((-2147483648) : Int) ≤ ρ 7 ∧ ρ 7 ≤ 2147483647 := hb 7 ((-2147483648), 2147483647) rfl
  have b8 : ((-2147483648) : Int) ≤ ρ 8 ∧ ρ 8 ≤ 2147483647 := hb 8 ((-2147483648), 2147483647) rfl
  have b9 : ((-2147483648) : Int) ≤ ρ 9 ∧ ρ 9 ≤ 2147483647 := hb 9 ((-2147483648), 2147483647) rfl
  have b10 : ((-2147483648) : Int) ≤ ρ 10 ∧ ρ 10 ≤ 2147483647 := hb 10 ((-2147483648), 2147483647) rfl
  have c0 : (1 + (1 * ρ 1 + ((-1) * ρ 2 + 0)) : Int) ≤ 0 := hc _ (List.mem_of_getElem? (i := 0) rfl)
  obtain ⟨m, e_m⟩ : ∃ x : Nat, ρ 1 = (x : Int) := ⟨(ρ 1).toNat, by omega⟩
  obtain ⟨hh, e_hh⟩ : ∃ x : Nat, ρ 3 = (x : Int) := ⟨(ρ 3).toNat, by omega⟩
  have t0 := h64 _ _ _ (qtl (a := 64) hm 0 rfl (by decide))
  have q1 : rv h 120 (22) = ρ 2 := qrv hm 1 rfl (by decide) (by decide +kernel) (by show (22 + 0 : Int) = ((22 : Nat) : Int); omega)
  have q2 : rv h 99 (0) = ρ 3 := qrv hm 2 rfl (by decide) (by decide +kernel) (by show (0 + 0 : Int) = ((0 : Nat) : Int); omega)
  have q3 : rv h 100 (4 * m) = ρ 4 := qrv hm 3 rfl (by decide) (by decide +kernel) (by show (0 + (4 * ρ 1 + 0) : Int) = ((4 * m : Nat) : Int); omega)
  have q4 : rv h 610 (6 * hh + m) = ρ 5 := qrv hm 4 rfl (by decide) (by decide +kernel) (by show (0 + (1 * ρ 1 + (6 * ρ 3 + 0)) : Int) = ((6 * hh + m : Nat) : Int); omega)
  have q5 : rv h 612 (6 * hh + m) = ρ 6 := qrv hm 5 rfl (by decide) (by decide +kernel) (by show (0 + (1 * ρ 1 + (6 * ρ 3 + 0)) : Int) = ((6 * hh + m : Nat) : Int); omega)
  have q6 : rv h 630 (m) = ρ 7 := qrv hm 6 rfl (by decide) (by decide +kernel) (by show (0 + (1 * ρ 1 + 0) : Int) = ((m : Nat) : Int); omega)
  have q7 : rv h 631 (m) = ρ 8 := qrv hm 7 rfl (by decide) (by decide +kernel) (by show (0 + (1 * ρ 1 + 0) : Int) = ((m : Nat) : Int); omega)
  have q8 : rv h 632 (m) = ρ 9 := qrv hm 8 rfl (by decide) (by decide +kernel) (by show (0 + (1 * ρ 1 + 0) : Int) = ((m : Nat) : Int); omega)
  have q9 : rv h 633 (m) = ρ 10 := qrv hm 9 rfl (by decide) (by decide +kernel) (by show (0 + (1 * ρ 1 + 0) : Int) = ((m : Nat) : Int); omega)
  obtain ⟨n, H, mare, hold, nt, ne, bd, ey, dm, pl, g0, x0, x1, x2, x3, x4, xF, xG, ⟨o2, o3, o4, o5, oB, oP, oN, oL, oM⟩, ⟨gW, gMa, gS, gA, gO, gD, gU, gQ, gV, gK, gB⟩, yP, yR⟩ := t0
  have hM : ρ 2 = (n : Int) := q1.symm.trans x0
  have hH : ρ 3 = (H : Int) := q2.symm.trans x1
  have hmn : m < n := by omega
  have eh : hh = H := by omega
  rw [eh] at q4 q5
  obtain ⟨yA, -⟩ := yP m
  obtain ⟨tb, db, e1, e2⟩ := yA hmn
  obtain ⟨-, -, -, -, k4⟩ := xF m hmn
  have hn := k4.symm.trans q3
  obtain ⟨-, p1, -⟩ := oB m hmn
  rw [hn] at p1
  rw [q7, hn, q4, q6] at e1
  rw [q9, q8, q5] at e2
  rw [q6] at tb
  rw [q8] at db
  obtain ⟨B0, -, B2, -⟩ := nSt_b (n := n) (mare := mare) (hold := hold) (nt := nt) (ne := ne) (bd := bd) (ey := ey) (dm := dm) (pl := pl) (W := rv h 620) (g0 := g0) hmn H
  rw [(gS H m 0 (Nat.le_refl H) (by omega) (by decide)).symm.trans q4] at B0
  rw [(gS H m 2 (Nat.le_refl H) (by omega) (by decide)).symm.trans q5] at B2
  unfold nTi at e1
  unfold nDi at e2
  by_cases z1 : ρ 5 < ρ 4
  · rw [if_pos z1] at e1
    by_cases z2 : 99 ≤ ρ 7 + ρ 4 - ρ 5
    · rw [if_pos z2] at e1
      by_cases z3 : 9999 ≤ ρ 9 + ρ 6
      · rw [if_pos z3] at e2
        exact ⟨_, List.mem_of_getElem? (i := 3) rfl, rfl, rfl, (pAll1 (show (0 + ((-1) * ρ 7 + 0) : Int) ≤ 0 by omega) (pAll1 (show ((-99) + (1 * ρ 7 + 0) : Int) ≤ 0 by omega) (pAll1 (show (0 + ((-1) * ρ 4 + 0) : Int) ≤ 0 by omega) (pAll1 (show ((-10) + (1 * ρ 4 + 0) : Int) ≤ 0 by omega) (pAll1 (show (0 + ((-1) * ρ 5 + 0) : Int) ≤ 0 by omega) (pAll1 (show ((-10) + (1 * ρ 5 + 0) : Int) ≤ 0 by omega) (pAll1 (show (0 + ((-1) * ρ 9 + 0) : Int) ≤ 0 by omega) (pAll1 (show ((-9999) + (1 * ρ 9 + 0) : Int) ≤ 0 by omega) (pAll1 (show (0 + ((-1) * ρ 6 + 0) : Int) ≤ 0 by omega) (pAll1 (show ((-200) + (1 * ρ 6 + 0) : Int) ≤ 0 by omega) (pAll1 (show (1 + ((-1) * ρ 4 + (1 * ρ 5 + 0)) : Int) ≤ 0 by omega) (pAll1 (show (99 + ((-1) * ρ 4 + (1 * ρ 5 + ((-1) * ρ 7 + 0))) : Int) ≤ 0 by omega) (pAll1 (show ((-99) + (1 * ρ 8 + 0) : Int) ≤ 0 by omega) (pAll1 (show (99 + ((-1) * ρ 8 + 0) : Int) ≤ 0 by omega) (pAll1 (show (9999 + ((-1) * ρ 6 + ((-1) * ρ 9 + 0)) : Int) ≤ 0 by omega) (pAll1 (show ((-9999) + (1 * ρ 10 + 0) : Int) ≤ 0 by omega) (pAll1 (show (9999 + ((-1) * ρ 10 + 0) : Int) ≤ 0 by omega) pAll0))))))))))))))))), pAll0⟩
      · rw [if_neg z3] at e2
        exact ⟨_, List.mem_of_getElem? (i := 2) rfl, rfl, rfl, (pAll1 (show (0 + ((-1) * ρ 7 + 0) : Int) ≤ 0 by omega) (pAll1 (show ((-99) + (1 * ρ 7 + 0) : Int) ≤ 0 by omega) (pAll1 (show (0 + ((-1) * ρ 4 + 0) : Int) ≤ 0 by omega) (pAll1 (show ((-10) + (1 * ρ 4 + 0) : Int) ≤ 0 by omega) (pAll1 (show (0 + ((-1) * ρ 5 + 0) : Int) ≤ 0 by omega) (pAll1 (show ((-10) + (1 * ρ 5 + 0) : Int) ≤ 0 by omega) (pAll1 (show (0 + ((-1) * ρ 9 + 0) : Int) ≤ 0 by omega) (pAll1 (show ((-9999) + (1 * ρ 9 + 0) : Int) ≤ 0 by omega) (pAll1 (show (0 + ((-1) * ρ 6 + 0) : Int) ≤ 0 by omega) (pAll1 (show ((-200) + (1 * ρ 6 + 0) : Int) ≤ 0 by omega) (pAll1 (show (1 + ((-1) * ρ 4 + (1 * ρ 5 + 0)) : Int) ≤ 0 by omega) (pAll1 (show (99 + ((-1) * ρ 4 + (1 * ρ 5 + ((-1) * ρ 7 + 0))) : Int) ≤ 0 by omega) (pAll1 (show ((-99) + (1 * ρ 8 + 0) : Int) ≤ 0 by omega) (pAll1 (show (99 + ((-1) * ρ 8 + 0) : Int) ≤ 0 by omega) (pAll1 (show ((-9998) + (1 * ρ 6 + (1 * ρ 9 + 0)) : Int) ≤ 0 by omega) (pAll1 (show (0 + ((-1) * ρ 6 + ((-1) * ρ 9 + (1 * ρ 10 + 0))) : Int) ≤ 0 by omega) (pAll1 (show (0 + (1 * ρ 6 + (1 * ρ 9 + ((-1) * ρ 10 + 0))) : Int) ≤ 0 by omega) pAll0))))))))))))))))), pAll0⟩
    · rw [if_neg z2] at e1
      by_cases z3 : 9999 ≤ ρ 9 + ρ 6
      · rw [if_pos z3] at e2
        exact ⟨_, List.mem_of_getElem? (i := 1) rfl, rfl, rfl, (pAll1 (show (0 + ((-1) * ρ 7 + 0) : Int) ≤ 0 by omega) (pAll1 (show ((-99) + (1 * ρ 7 + 0) : Int) ≤ 0 by omega) (pAll1 (show (0 + ((-1) * ρ 4 + 0) : Int) ≤ 0 by omega) (pAll1 (show ((-10) + (1 * ρ 4 + 0) : Int) ≤ 0 by omega) (pAll1 (show (0 + ((-1) * ρ 5 + 0) : Int) ≤ 0 by omega) (pAll1 (show ((-10) + (1 * ρ 5 + 0) : Int) ≤ 0 by omega) (pAll1 (show (0 + ((-1) * ρ 9 + 0) : Int) ≤ 0 by omega) (pAll1 (show ((-9999) + (1 * ρ 9 + 0) : Int) ≤ 0 by omega) (pAll1 (show (0 + ((-1) * ρ 6 + 0) : Int) ≤ 0 by omega) (pAll1 (show ((-200) + (1 * ρ 6 + 0) : Int) ≤ 0 by omega) (pAll1 (show (1 + ((-1) * ρ 4 + (1 * ρ 5 + 0)) : Int) ≤ 0 by omega) (pAll1 (show ((-98) + (1 * ρ 4 + ((-1) * ρ 5 + (1 * ρ 7 + 0))) : Int) ≤ 0 by omega) (pAll1 (show (0 + ((-1) * ρ 4 + (1 * ρ 5 + ((-1) * ρ 7 + (1 * ρ 8 + 0)))) : Int) ≤ 0 by omega) (pAll1 (show (0 + (1 * ρ 4 + ((-1) * ρ 5 + (1 * ρ 7 + ((-1) * ρ 8 + 0)))) : Int) ≤ 0 by omega) (pAll1 (show (9999 + ((-1) * ρ 6 + ((-1) * ρ 9 + 0)) : Int) ≤ 0 by omega) (pAll1 (show ((-9999) + (1 * ρ 10 + 0) : Int) ≤ 0 by omega) (pAll1 (show (9999 + ((-1) * ρ 10 + 0) : Int) ≤ 0 by omega) pAll0))))))))))))))))), pAll0⟩
      · rw [if_neg z3] at e2
        exact ⟨_, List.mem_of_getElem? (i := 0) rfl, rfl, rfl, (pAll1 (show (0 + ((-1) * ρ 7 + 0) : Int) ≤ 0 by omega) (pAll1 (show ((-99) + (1 * ρ 7 + 0) : Int) ≤ 0 by omega) (pAll1 (show (0 + ((-1) * ρ 4 + 0) : Int) ≤ 0 by omega) (pAll1 (show ((-10) + (1 * ρ 4 + 0) : Int) ≤ 0 by omega) (pAll1 (show (0 + ((-1) * ρ 5 + 0) : Int) ≤ 0 by omega) (pAll1 (show ((-10) + (1 * ρ 5 + 0) : Int) ≤ 0 by omega) (pAll1 (show (0 + ((-1) * ρ 9 + 0) : Int) ≤ 0 by omega) (pAll1 (show ((-9999) + (1 * ρ 9 + 0) : Int) ≤ 0 by omega) (pAll1 (show (0 + ((-1) * ρ 6 + 0) : Int) ≤ 0 by omega) (pAll1 (show ((-200) + (1 * ρ 6 + 0) : Int) ≤ 0 by omega) (pAll1 (show (1 + ((-1) * ρ 4 + (1 * ρ 5 + 0)) : Int) ≤ 0 by omega) (pAll1 (show ((-98) + (1 * ρ 4 + ((-1) * ρ 5 + (1 * ρ 7 + 0))) : Int) ≤ 0 by omega) (pAll1 (show (0 + ((-1) * ρ 4 + (1 * ρ 5 + ((-1) * ρ 7 + (1 * ρ 8 + 0)))) : Int) ≤ 0 by omega) (pAll1 (show (0 + (1 * ρ 4 + ((-1) * ρ 5 + (1 * ρ 7 + ((-1) * ρ 8 + 0)))) : Int) ≤ 0 by omega) (pAll1 (show ((-9998) + (1 * ρ 6 + (1 * ρ 9 + 0)) : Int) ≤ 0 by omega) (pAll1 (show (0 + ((-1) * ρ 6 + ((-1) * ρ 9 + (1 * ρ 10 + 0))) : Int) ≤ 0 by omega) (pAll1 (show (0 + (1 * ρ 6 + (1 * ρ 9 + ((-1) * ρ 10 + 0))) : Int) ≤ 0 by omega) pAll0))))))))))))))))), pAll0⟩
  · rw [if_neg z1] at e1
    by_cases z2 : ρ 7 = 0
    · rw [if_pos z2] at e1
      by_cases z3 : 9999 ≤ ρ 9 + ρ 6
      · rw [if_pos z3] at e2
        exact ⟨_, List.mem_of_getElem? (i := 7) rfl, rfl, rfl, (pAll1 (show (0 + ((-1) * ρ 7 + 0) : Int) ≤ 0 by omega) (pAll1 (show ((-99) + (1 * ρ 7 + 0) : Int) ≤ 0 by omega) (pAll1 (show (0 + ((-1) * ρ 4 + 0) : Int) ≤ 0 by omega) (pAll1 (show ((-10) + (1 * ρ 4 + 0) : Int) ≤ 0 by omega) (pAll1 (show (0 + ((-1) * ρ 5 + 0) : Int) ≤ 0 by omega) (pAll1 (show ((-10) + (1 * ρ 5 + 0) : Int) ≤ 0 by omega) (pAll1 (show (0 + ((-1) * ρ 9 + 0) : Int) ≤ 0 by omega) (pAll1 (show ((-9999) + (1 * ρ 9 + 0) : Int) ≤ 0 by omega) (pAll1 (show (0 + ((-1) * ρ 6 + 0) : Int) ≤ 0 by omega) (pAll1 (show ((-200) + (1 * ρ 6 + 0) : Int) ≤ 0 by omega) (pAll1 (show (0 + (1 * ρ 4 + ((-1) * ρ 5 + 0)) : Int) ≤ 0 by omega) (pAll1 (show (0 + (1 * ρ 7 + 0) : Int) ≤ 0 by omega) (pAll1 (show (0 + ((-1) * ρ 7 + 0) : Int) ≤ 0 by omega) (pAll1 (show (0 + (1 * ρ 8 + 0) : Int) ≤ 0 by omega) (pAll1 (show (0 + ((-1) * ρ 8 + 0) : Int) ≤ 0 by omega) (pAll1 (show (9999 + ((-1) * ρ 6 + ((-1) * ρ 9 + 0)) : Int) ≤ 0 by omega) (pAll1 (show ((-9999) + (1 * ρ 10 + 0) : Int) ≤ 0 by omega) (pAll1 (show (9999 + ((-1) * ρ 10 + 0) : Int) ≤ 0 by omega) pAll0)))))))))))))))))), pAll0⟩
      · rw [if_neg z3] at e2
        exact ⟨_, List.mem_of_getElem? (i := 6) rfl, rfl, rfl, (pAll1 (show (0 + ((-1) * ρ 7 + 0) : Int) ≤ 0 by omega) (pAll1 (show ((-99) + (1 * ρ 7 + 0) : Int) ≤ 0 by omega) (pAll1 (show (0 + ((-1) * ρ 4 + 0) : Int) ≤ 0 by omega) (pAll1 (show ((-10) + (1 * ρ 4 + 0) : Int) ≤ 0 by omega) (pAll1 (show (0 + ((-1) * ρ 5 + 0) : Int) ≤ 0 by omega) (pAll1 (show ((-10) + (1 * ρ 5 + 0) : Int) ≤ 0 by omega) (pAll1 (show (0 + ((-1) * ρ 9 + 0) : Int) ≤ 0 by omega) (pAll1 (show ((-9999) + (1 * ρ 9 + 0) : Int) ≤ 0 by omega) (pAll1 (show (0 + ((-1) * ρ 6 + 0) : Int) ≤ 0 by omega) (pAll1 (show ((-200) + (1 * ρ 6 + 0) : Int) ≤ 0 by omega) (pAll1 (show (0 + (1 * ρ 4 + ((-1) * ρ 5 + 0)) : Int) ≤ 0 by omega) (pAll1 (show (0 + (1 * ρ 7 + 0) : Int) ≤ 0 by omega) (pAll1 (show (0 + ((-1) * ρ 7 + 0) : Int) ≤ 0 by omega) (pAll1 (show (0 + (1 * ρ 8 + 0) : Int) ≤ 0 by omega) (pAll1 (show (0 + ((-1) * ρ 8 + 0) : Int) ≤ 0 by omega) (pAll1 (show ((-9998) + (1 * ρ 6 + (1 * ρ 9 + 0)) : Int) ≤ 0 by omega) (pAll1 (show (0 + ((-1) * ρ 6 + ((-1) * ρ 9 + (1 * ρ 10 + 0))) : Int) ≤ 0 by omega) (pAll1 (show (0 + (1 * ρ 6 + (1 * ρ 9 + ((-1) * ρ 10 + 0))) : Int) ≤ 0 by omega) pAll0)))))))))))))))))), pAll0⟩
    · rw [if_neg z2] at e1
      by_cases z3 : 9999 ≤ ρ 9 + ρ 6
      · rw [if_pos z3] at e2
        exact ⟨_, List.mem_of_getElem? (i := 5) rfl, rfl, rfl, (pAll1 (show (0 + ((-1) * ρ 7 + 0) : Int) ≤ 0 by omega) (pAll1 (show ((-99) + (1 * ρ 7 + 0) : Int) ≤ 0 by omega) (pAll1 (show (0 + ((-1) * ρ 4 + 0) : Int) ≤ 0 by omega) (pAll1 (show ((-10) + (1 * ρ 4 + 0) : Int) ≤ 0 by omega) (pAll1 (show (0 + ((-1) * ρ 5 + 0) : Int) ≤ 0 by omega) (pAll1 (show ((-10) + (1 * ρ 5 + 0) : Int) ≤ 0 by omega) (pAll1 (show (0 + ((-1) * ρ 9 + 0) : Int) ≤ 0 by omega) (pAll1 (show ((-9999) + (1 * ρ 9 + 0) : Int) ≤ 0 by omega) (pAll1 (show (0 + ((-1) * ρ 6 + 0) : Int) ≤ 0 by omega) (pAll1 (show ((-200) + (1 * ρ 6 + 0) : Int) ≤ 0 by omega) (pAll1 (show (0 + (1 * ρ 4 + ((-1) * ρ 5 + 0)) : Int) ≤ 0 by omega) (pAll1 (show (1 + ((-1) * ρ 7 + 0) : Int) ≤ 0 by omega) (pAll1 (show (1 + ((-1) * ρ 7 + (1 * ρ 8 + 0)) : Int) ≤ 0 by omega) (pAll1 (show ((-1) + (1 * ρ 7 + ((-1) * ρ 8 + 0)) : Int) ≤ 0 by omega) (pAll1 (show (9999 + ((-1) * ρ 6 + ((-1) * ρ 9 + 0)) : Int) ≤ 0 by omega) (pAll1 (show ((-9999) + (1 * ρ 10 + 0) : Int) ≤ 0 by omega) (pAll1 (show (9999 + ((-1) * ρ 10 + 0) : Int) ≤ 0 by omega) pAll0))))))))))))))))), pAll0⟩
      · rw [if_neg z3] at e2
        exact ⟨_, List.mem_of_getElem? (i := 4) rfl, rfl, rfl, (pAll1 (show (0 + ((-1) * ρ 7 + 0) : Int) ≤ 0 by omega) (pAll1 (show ((-99) + (1 * ρ 7 + 0) : Int) ≤ 0 by omega) (pAll1 (show (0 + ((-1) * ρ 4 + 0) : Int) ≤ 0 by omega) (pAll1 (show ((-10) + (1 * ρ 4 + 0) : Int) ≤ 0 by omega) (pAll1 (show (0 + ((-1) * ρ 5 + 0) : Int) ≤ 0 by omega) (pAll1 (show ((-10) + (1 * ρ 5 + 0) : Int) ≤ 0 by omega) (pAll1 (show (0 + ((-1) * ρ 9 + 0) : Int) ≤ 0 by omega) (pAll1 (show ((-9999) + (1 * ρ 9 + 0) : Int) ≤ 0 by omega) (pAll1 (show (0 + ((-1) * ρ 6 + 0) : Int) ≤ 0 by omega) (pAll1 (show ((-200) + (1 * ρ 6 + 0) : Int) ≤ 0 by omega) (pAll1 (show (0 + (1 * ρ 4 + ((-1) * ρ 5 + 0)) : Int) ≤ 0 by omega) (pAll1 (show (1 + ((-1) * ρ 7 + 0) : Int) ≤ 0 by omega) (pAll1 (show (1 + ((-1) * ρ 7 + (1 * ρ 8 + 0)) : Int) ≤ 0 by omega) (pAll1 (show ((-1) + (1 * ρ 7 + ((-1) * ρ 8 + 0)) : Int) ≤ 0 by omega) (pAll1 (show ((-9998) + (1 * ρ 6 + (1 * ρ 9 + 0)) : Int) ≤ 0 by omega) (pAll1 (show (0 + ((-1) * ρ 6 + ((-1) * ρ 9 + (1 * ρ 10 + 0))) : Int) ≤ 0 by omega) (pAll1 (show (0 + (1 * ρ 6 + (1 * ρ 9 + ((-1) * ρ 10 + 0))) : Int) ≤ 0 by omega) pAll0))))))))))))))))), pAll0⟩)

theorem qR_psnow_ok (h60 : ∀ x y h, gv 60 x y h → cGh h) : pRulQ pReg qG gv qR_psnow := qrul (by decide +kernel) (fun h ρ hG hm hb hc => by
  have b0 : (1 : Int) ≤ ρ 0 ∧ ρ 0 ≤ 1 := hb 0 (1, 1) rfl
  have b1 : (0 : Int) ≤ ρ 1 ∧ ρ 1 ≤ 5 := hb 1 (0, 5) rfl
  have b2 : (2 : Int) ≤ ρ 2 ∧ ρ 2 ≤ 6 := hb 2 (2, 6) rfl
  have b3 : (4 : Int) ≤ ρ 3 ∧ ρ 3 ≤ 10 := hb 3 (4, 10) rfl
  have b4 : ((-2147483648) : Int) ≤ ρ 4 ∧ ρ 4 ≤ 2147483647 := hb 4 ((-2147483648), 2147483647) rfl
  have b5 : ((-2147483648) : Int) ≤ ρ 5 ∧ ρ 5 ≤ 2147483647 := hb 5 ((-2147483648), 2147483647) rfl
  have b6 : ((-2147483648) : Int) ≤ ρ 6 ∧ ρ 6 ≤ 2147483647 := hb 6 ((-2147483648), 2147483647) rfl
  have b7 : ((-2147483648) : Int) ≤ ρ 7 ∧ ρ 7 ≤ 2147483647 := hb 7 ((-2147483648), 2147483647) rfl
  have b8 : ((-2147483648) : Int) ≤ ρ 8 ∧ ρ 8 ≤ 2147483647 := hb 8 ((-2147483648), 2147483647) rfl
  have b9 : ((-2147483648) : Int) ≤ ρ 9 ∧ ρ 9 ≤ 2147483647 := hb 9 ((-2147483648), 2147483647) rfl
  have b10 : ((-2147483648) : Int) ≤ ρ 10 ∧ ρ 10 ≤ 2147483647 := hb 10 ((-2147483648), 2147483647) rfl
  have c0 : (1 + (1 * ρ 1 + ((-1) * ρ 2 + 0)) : Int) ≤ 0 := hc _ (List.mem_of_getElem? (i := 0) rfl)
  obtain ⟨m, e_m⟩ : ∃ x : Nat, ρ 1 = (x : Int) := ⟨(ρ 1).toNat, by omega⟩
  obtain ⟨hh, e_hh⟩ : ∃ x : Nat, ρ 3 = (x : Int) := ⟨(ρ 3).toNat, by omega⟩
  have t0 := h60 _ _ _ (qtl (a := 60) hm 0 rfl (by decide))
  have q1 : rv h 56 (0) = ρ 2 := qrv hm 1 rfl (by decide) (by decide +kernel) (by show (0 + 0 : Int) = ((0 : Nat) : Int); omega)
  have q2 : rv h 56 (1) = ρ 3 := qrv hm 2 rfl (by decide) (by decide +kernel) (by show (1 + 0 : Int) = ((1 : Nat) : Int); omega)
  have q3 : rv h 55 (m) = ρ 4 := qrv hm 3 rfl (by decide) (by decide +kernel) (by show (0 + (1 * ρ 1 + 0) : Int) = ((m : Nat) : Int); omega)
  have q4 : rv h 610 (6 * hh + m) = ρ 5 := qrv hm 4 rfl (by decide) (by decide +kernel) (by show (0 + (1 * ρ 1 + (6 * ρ 3 + 0)) : Int) = ((6 * hh + m : Nat) : Int); omega)
  have q5 : rv h 612 (6 * hh + m) = ρ 6 := qrv hm 5 rfl (by decide) (by decide +kernel) (by show (0 + (1 * ρ 1 + (6 * ρ 3 + 0)) : Int) = ((6 * hh + m : Nat) : Int); omega)
  have q6 : rv h 630 (m) = ρ 7 := qrv hm 6 rfl (by decide) (by decide +kernel) (by show (0 + (1 * ρ 1 + 0) : Int) = ((m : Nat) : Int); omega)
  have q7 : rv h 631 (m) = ρ 8 := qrv hm 7 rfl (by decide) (by decide +kernel) (by show (0 + (1 * ρ 1 + 0) : Int) = ((m : Nat) : Int); omega)
  have q8 : rv h 632 (m) = ρ 9 := qrv hm 8 rfl (by decide) (by decide +kernel) (by show (0 + (1 * ρ 1 + 0) : Int) = ((m : Nat) : Int); omega)
  have q9 : rv h 633 (m) = ρ 10 := qrv hm 9 rfl (by decide) (by decide +kernel) (by show (0 + (1 * ρ 1 + 0) : Int) = ((m : Nat) : Int); omega)
  obtain ⟨n, H, x0, x1, o3, xB, gB, yP, yR⟩ := t0
  have hM : ρ 2 = (n : Int) := q1.symm.trans x0
  have hH : ρ 3 = (H : Int) := q2.symm.trans x1
  have hmn : m < n := by omega
  have eh : hh = H := by omega
  rw [eh] at q4 q5
  obtain ⟨yA, -⟩ := yP m
  obtain ⟨tb, db, e1, e2⟩ := yA hmn
  obtain ⟨B0, -, B2, p1⟩ := xB m hmn
  rw [q3] at p1
  rw [q7, q3, q4, q6] at e1
  rw [q9, q8, q5] at e2
  rw [q6] at tb
  rw [q8] at db
  rw [q4] at B0
  rw [q5] at B2
  unfold nTi at e1
  unfold nDi at e2
  by_cases z1 : ρ 5 < ρ 4
  · rw [if_pos z1] at e1
    by_cases z2 : 99 ≤ ρ 7 + ρ 4 - ρ 5
    · rw [if_pos z2] at e1
      by_cases z3 : 9999 ≤ ρ 9 + ρ 6
      · rw [if_pos z3] at e2
        exact ⟨_, List.mem_of_getElem? (i := 3) rfl, rfl, rfl, (pAll1 (show (0 + ((-1) * ρ 7 + 0) : Int) ≤ 0 by omega) (pAll1 (show ((-99) + (1 * ρ 7 + 0) : Int) ≤ 0 by omega) (pAll1 (show (0 + ((-1) * ρ 4 + 0) : Int) ≤ 0 by omega) (pAll1 (show ((-10) + (1 * ρ 4 + 0) : Int) ≤ 0 by omega) (pAll1 (show (0 + ((-1) * ρ 5 + 0) : Int) ≤ 0 by omega) (pAll1 (show ((-10) + (1 * ρ 5 + 0) : Int) ≤ 0 by omega) (pAll1 (show (0 + ((-1) * ρ 9 + 0) : Int) ≤ 0 by omega) (pAll1 (show ((-9999) + (1 * ρ 9 + 0) : Int) ≤ 0 by omega) (pAll1 (show (0 + ((-1) * ρ 6 + 0) : Int) ≤ 0 by omega) (pAll1 (show ((-200) + (1 * ρ 6 + 0) : Int) ≤ 0 by omega) (pAll1 (show (1 + ((-1) * ρ 4 + (1 * ρ 5 + 0)) : Int) ≤ 0 by omega) (pAll1 (show (99 + ((-1) * ρ 4 + (1 * ρ 5 + ((-1) * ρ 7 + 0))) : Int) ≤ 0 by omega) (pAll1 (show ((-99) + (1 * ρ 8 + 0) : Int) ≤ 0 by omega) (pAll1 (show (99 + ((-1) * ρ 8 + 0) : Int) ≤ 0 by omega) (pAll1 (show (9999 + ((-1) * ρ 6 + ((-1) * ρ 9 + 0)) : Int) ≤ 0 by omega) (pAll1 (show ((-9999) + (1 * ρ 10 + 0) : Int) ≤ 0 by omega) (pAll1 (show (9999 + ((-1) * ρ 10 + 0) : Int) ≤ 0 by omega) pAll0))))))))))))))))), pAll0⟩
      · rw [if_neg z3] at e2
        exact ⟨_, List.mem_of_getElem? (i := 2) rfl, rfl, rfl, (pAll1 (show (0 + ((-1) * ρ 7 + 0) : Int) ≤ 0 by omega) (pAll1 (show ((-99) + (1 * ρ 7 + 0) : Int) ≤ 0 by omega) (pAll1 (show (0 + ((-1) * ρ 4 + 0) : Int) ≤ 0 by omega) (pAll1 (show ((-10) + (1 * ρ 4 + 0) : Int) ≤ 0 by omega) (pAll1 (show (0 + ((-1) * ρ 5 + 0) : Int) ≤ 0 by omega) (pAll1 (show ((-10) + (1 * ρ 5 + 0) : Int) ≤ 0 by omega) (pAll1 (show (0 + ((-1) * ρ 9 + 0) : Int) ≤ 0 by omega) (pAll1 (show ((-9999) + (1 * ρ 9 + 0) : Int) ≤ 0 by omega) (pAll1 (show (0 + ((-1) * ρ 6 + 0) : Int) ≤ 0 by omega) (pAll1 (show ((-200) + (1 * ρ 6 + 0) : Int) ≤ 0 by omega) (pAll1 (show (1 + ((-1) * ρ 4 + (1 * ρ 5 + 0)) : Int) ≤ 0 by omega) (pAll1 (show (99 + ((-1) * ρ 4 + (1 * ρ 5 + ((-1) * ρ 7 + 0))) : Int) ≤ 0 by omega) (pAll1 (show ((-99) + (1 * ρ 8 + 0) : Int) ≤ 0 by omega) (pAll1 (show (99 + ((-1) * ρ 8 + 0) : Int) ≤ 0 by omega) (pAll1 (show ((-9998) + (1 * ρ 6 + (1 * ρ 9 + 0)) : Int) ≤ 0 by omega) (pAll1 (show (0 + ((-1) * ρ 6 + ((-1) * ρ 9 + (1 * ρ 10 + 0))) : Int) ≤ 0 by omega) (pAll1 (show (0 + (1 * ρ 6 + (1 * ρ 9 + ((-1) * ρ 10 + 0))) : Int) ≤ 0 by omega) pAll0))))))))))))))))), pAll0⟩
    · rw [if_neg z2] at e1
      by_cases z3 : 9999 ≤ ρ 9 + ρ 6
      · rw [if_pos z3] at e2
        exact ⟨_, List.mem_of_getElem? (i := 1) rfl, rfl, rfl, (pAll1 (show (0 + ((-1) * ρ 7 + 0) : Int) ≤ 0 by omega) (pAll1 (show ((-99) + (1 * ρ 7 + 0) : Int) ≤ 0 by omega) (pAll1 (show (0 + ((-1) * ρ 4 + 0) : Int) ≤ 0 by omega) (pAll1 (show ((-10) + (1 * ρ 4 + 0) : Int) ≤ 0 by omega) (pAll1 (show (0 + ((-1) * ρ 5 + 0) : Int) ≤ 0 by omega) (pAll1 (show ((-10) + (1 * ρ 5 + 0) : Int) ≤ 0 by omega) (pAll1 (show (0 + ((-1) * ρ 9 + 0) : Int) ≤ 0 by omega) (pAll1 (show ((-9999) + (1 * ρ 9 + 0) : Int) ≤ 0 by omega) (pAll1 (show (0 + ((-1) * ρ 6 + 0) : Int) ≤ 0 by omega) (pAll1 (show ((-200) + (1 * ρ 6 + 0) : Int) ≤ 0 by omega) (pAll1 (show (1 + ((-1) * ρ 4 + (1 * ρ 5 + 0)) : Int) ≤ 0 by omega) (pAll1 (show ((-98) + (1 * ρ 4 + ((-1) * ρ 5 + (1 * ρ 7 + 0))) : Int) ≤ 0 by omega) (pAll1 (show (0 + ((-1) * ρ 4 + (1 * ρ 5 + ((-1) * ρ 7 + (1 * ρ 8 + 0)))) : Int) ≤ 0 by omega) (pAll1 (show (0 + (1 * ρ 4 + ((-1) * ρ 5 + (1 * ρ 7 + ((-1) * ρ 8 + 0)))) : Int) ≤ 0 by omega) (pAll1 (show (9999 + ((-1) * ρ 6 + ((-1) * ρ 9 + 0)) : Int) ≤ 0 by omega) (pAll1 (show ((-9999) + (1 * ρ 10 + 0) : Int) ≤ 0 by omega) (pAll1 (show (9999 + ((-1) * ρ 10 + 0) : Int) ≤ 0 by omega) pAll0))))))))))))))))), pAll0⟩
      · rw [if_neg z3] at e2
        exact ⟨_, List.mem_of_getElem? (i := 0) rfl, rfl, rfl, (pAll1 (show (0 + ((-1) * ρ 7 + 0) : Int) ≤ 0 by omega) (pAll1 (show ((-99) + (1 * ρ 7 + 0) : Int) ≤ 0 by omega) (pAll1 (show (0 + ((-1) * ρ 4 + 0) : Int) ≤ 0 by omega) (pAll1 (show ((-10) + (1 * ρ 4 + 0) : Int) ≤ 0 by omega) (pAll1 (show (0 + ((-1) * ρ 5 + 0) : Int) ≤ 0 by omega) (pAll1 (show ((-10) + (1 * ρ 5 + 0) : Int) ≤ 0 by omega) (pAll1 (show (0 + ((-1) * ρ 9 + 0) : Int) ≤ 0 by omega) (pAll1 (show ((-9999) + (1 * ρ 9 + 0) : Int) ≤ 0 by omega) (pAll1 (show (0 + ((-1) * ρ 6 + 0) : Int) ≤ 0 by omega) (pAll1 (show ((-200) + (1 * ρ 6 + 0) : Int) ≤ 0 by omega) (pAll1 (show (1 + ((-1) * ρ 4 + (1 * ρ 5 + 0)) : Int) ≤ 0 by omega) (pAll1 (show ((-98) + (1 * ρ 4 + ((-1) * ρ 5 + (1 * ρ 7 + 0))) : Int) ≤ 0 by omega) (pAll1 (show (0 + ((-1) * ρ 4 + (1 * ρ 5 + ((-1) * ρ 7 + (1 * ρ 8 + 0)))) : Int) ≤ 0 by omega) (pAll1 (show (0 + (1 * ρ 4 + ((-1) * ρ 5 + (1 * ρ 7 + ((-1) * ρ 8 + 0)))) : Int) ≤ 0 by omega) (pAll1 (show ((-9998) + (1 * ρ 6 + (1 * ρ 9 + 0)) : Int) ≤ 0 by omega) (pAll1 (show (0 + ((-1) * ρ 6 + ((-1) * ρ 9 + (1 * ρ 10 + 0))) : Int) ≤ 0 by omega) (pAll1 (show (0 + (1 * ρ 6 + (1 * ρ 9 + ((-1) * ρ 10 + 0))) : Int) ≤ 0 by omega) pAll0))))))))))))))))), pAll0⟩
  · rw [if_neg z1] at e1
    by_cases z2 : ρ 7 = 0
    · rw [if_pos z2] at e1
      by_cases z3 : 9999 ≤ ρ 9 + ρ 6
      · rw [if_pos z3] at e2
        exact ⟨_, List.mem_of_getElem? (i := 7) rfl, rfl, rfl, (pAll1 (show (0 + ((-1) * ρ 7 + 0) : Int) ≤ 0 by omega) (pAll1 (show ((-99) + (1 * ρ 7 + 0) : Int) ≤ 0 by omega) (pAll1 (show (0 + ((-1) * ρ 4 + 0) : Int) ≤ 0 by omega) (pAll1 (show ((-10) + (1 * ρ 4 + 0) : Int) ≤ 0 by omega) (pAll1 (show (0 + ((-1) * ρ 5 + 0) : Int) ≤ 0 by omega) (pAll1 (show ((-10) + (1 * ρ 5 + 0) : Int) ≤ 0 by omega) (pAll1 (show (0 + ((-1) * ρ 9 + 0) : Int) ≤ 0 by omega) (pAll1 (show ((-9999) + (1 * ρ 9 + 0) : Int) ≤ 0 by omega) (pAll1 (show (0 + ((-1) * ρ 6 + 0) : Int) ≤ 0 by omega) (pAll1 (show ((-200) + (1 * ρ 6 + 0) : Int) ≤ 0 by omega) (pAll1 (show (0 + (1 * ρ 4 + ((-1) * ρ 5 + 0)) : Int) ≤ 0 by omega) (pAll1 (show (0 + (1 * ρ 7 + 0) : Int) ≤ 0 by omega) (pAll1 (show (0 + ((-1) * ρ 7 + 0) : Int) ≤ 0 by omega) (pAll1 (show (0 + (1 * ρ 8 + 0) : Int) ≤ 0 by omega) (pAll1 (show (0 + ((-1) * ρ 8 + 0) : Int) ≤ 0 by omega) (pAll1 (show (9999 + ((-1) * ρ 6 + ((-1) * ρ 9 + 0)) : Int) ≤ 0 by omega) (pAll1 (show ((-9999) + (1 * ρ 10 + 0) : Int) ≤ 0 by omega) (pAll1 (show (9999 + ((-1) * ρ 10 + 0) : Int) ≤ 0 by omega) pAll0)))))))))))))))))), pAll0⟩
      · rw [if_neg z3] at e2
        exact ⟨_, List.mem_of_getElem? (i := 6) rfl, rfl, rfl, (pAll1 (show (0 + ((-1) * ρ 7 + 0) : Int) ≤ 0 by omega) (pAll1 (show ((-99) + (1 * ρ 7 + 0) : Int) ≤ 0 by omega) (pAll1 (show (0 + ((-1) * ρ 4 + 0) : Int) ≤ 0 by omega) (pAll1 (show ((-10) + (1 * ρ 4 + 0) : Int) ≤ 0 by omega) (pAll1 (show (0 + ((-1) * ρ 5 + 0) : Int) ≤ 0 by omega) (pAll1 (show ((-10) + (1 * ρ 5 + 0) : Int) ≤ 0 by omega) (pAll1 (show (0 + ((-1) * ρ 9 + 0) : Int) ≤ 0 by omega) (pAll1 (show ((-9999) + (1 * ρ 9 + 0) : Int) ≤ 0 by omega) (pAll1 (show (0 + ((-1) * ρ 6 + 0) : Int) ≤ 0 by omega) (pAll1 (show ((-200) + (1 * ρ 6 + 0) : Int) ≤ 0 by omega) (pAll1 (show (0 + (1 * ρ 4 + ((-1) * ρ 5 + 0)) : Int) ≤ 0 by omega) (pAll1 (show (0 + (1 * ρ 7 + 0) : Int) ≤ 0 by omega) (pAll1 (show (0 + ((-1) * ρ 7 + 0) : Int) ≤ 0 by omega) (pAll1 (show (0 + (1 * ρ 8 + 0) : Int) ≤ 0 by omega) (pAll1 (show (0 + ((-1) * ρ 8 + 0) : Int) ≤ 0 by omega) (pAll1 (show ((-9998) + (1 * ρ 6 + (1 * ρ 9 + 0)) : Int) ≤ 0 by omega) (pAll1 (show (0 + ((-1) * ρ 6 + ((-1) * ρ 9 + (1 * ρ 10 + 0))) : Int) ≤ 0 by omega) (pAll1 (show (0 + (1 * ρ 6 + (1 * ρ 9 + ((-1) * ρ 10 + 0))) : Int) ≤ 0 by omega) pAll0)))))))))))))))))), pAll0⟩
    · rw [if_neg z2] at e1
      by_cases z3 : 9999 ≤ ρ 9 + ρ 6
      · rw [if_pos z3] at e2
        exact ⟨_, List.mem_of_getElem? (i := 5) rfl, rfl, rfl, (pAll1 (show (0 + ((-1) * ρ 7 + 0) : Int) ≤ 0 by omega) (pAll1 (show ((-99) + (1 * ρ 7 + 0) : Int) ≤ 0 by omega) (pAll1 (show (0 + ((-1) * ρ 4 + 0) : Int) ≤ 0 by omega) (pAll1 (show ((-10) + (1 * ρ 4 + 0) : Int) ≤ 0 by omega) (pAll1 (show (0 + ((-1) * ρ 5 + 0) : Int) ≤ 0 by omega) (pAll1 (show ((-10) + (1 * ρ 5 + 0) : Int) ≤ 0 by omega) (pAll1 (show (0 + ((-1) * ρ 9 + 0) : Int) ≤ 0 by omega) (pAll1 (show ((-9999) + (1 * ρ 9 + 0) : Int) ≤ 0 by omega) (pAll1 (show (0 + ((-1) * ρ 6 + 0) : Int) ≤ 0 by omega) (pAll1 (show ((-200) + (1 * ρ 6 + 0) : Int) ≤ 0 by omega) (pAll1 (show (0 + (1 * ρ 4 + ((-1) * ρ 5 + 0)) : Int) ≤ 0 by omega) (pAll1 (show (1 + ((-1) * ρ 7 + 0) : Int) ≤ 0 by omega) (pAll1 (show (1 + ((-1) * ρ 7 + (1 * ρ 8 + 0)) : Int) ≤ 0 by omega) (pAll1 (show ((-1) + (1 * ρ 7 + ((-1) * ρ 8 + 0)) : Int) ≤ 0 by omega) (pAll1 (show (9999 + ((-1) * ρ 6 + ((-1) * ρ 9 + 0)) : Int) ≤ 0 by omega) (pAll1 (show ((-9999) + (1 * ρ 10 + 0) : Int) ≤ 0 by omega) (pAll1 (show (9999 + ((-1) * ρ 10 + 0) : Int) ≤ 0 by omega) pAll0))))))))))))))))), pAll0⟩
      · rw [if_neg z3] at e2
        exact ⟨_, List.mem_of_getElem? (i := 4) rfl, rfl, rfl, (pAll1 (show (0 + ((-1) * ρ 7 + 0) : Int) ≤ 0 by omega) (pAll1 (show ((-99) + (1 * ρ 7 + 0) : Int) ≤ 0 by omega) (pAll1 (show (0 + ((-1) * ρ 4 + 0) : Int) ≤ 0 by omega) (pAll1 (show ((-10) + (1 * ρ 4 + 0) : Int) ≤ 0 by omega) (pAll1 (show (0 + ((-1) * ρ 5 + 0) : Int) ≤ 0 by omega) (pAll1 (show ((-10) + (1 * ρ 5 + 0) : Int) ≤ 0 by omega) (pAll1 (show (0 + ((-1) * ρ 9 + 0) : Int) ≤ 0 by omega) (pAll1 (show ((-9999) + (1 * ρ 9 + 0) : Int) ≤ 0 by omega) (pAll1 (show (0 + ((-1) * ρ 6 + 0) : Int) ≤ 0 by omega) (pAll1 (show ((-200) + (1 * ρ 6 + 0) : Int) ≤ 0 by omega) (pAll1 (show (0 + (1 * ρ 4 + ((-1) * ρ 5 + 0)) : Int) ≤ 0 by omega) (pAll1 (show (1 + ((-1) * ρ 7 + 0) : Int) ≤ 0 by omega) (pAll1 (show (1 + ((-1) * ρ 7 + (1 * ρ 8 + 0)) : Int) ≤ 0 by omega) (pAll1 (show ((-1) + (1 * ρ 7 + ((-1) * ρ 8 + 0)) : Int) ≤ 0 by omega) (pAll1 (show ((-9998) + (1 * ρ 6 + (1 * ρ 9 + 0)) : Int) ≤ 0 by omega) (pAll1 (show (0 + ((-1) * ρ 6 + ((-1) * ρ 9 + (1 * ρ 10 + 0))) : Int) ≤ 0 by omega) (pAll1 (show (0 + (1 * ρ 6 + (1 * ρ 9 + ((-1) * ρ 10 + 0))) : Int) ≤ 0 by omega) pAll0))))))))))))))))), pAll0⟩)

theorem qR_wb0now_ok (h60 : ∀ x y h, gv 60 x y h → cGh h) : pRulQ pReg qG gv qR_wb0now := qrul (by decide +kernel) (fun h ρ hG hm hb hc => by
  have b0 : (1 : Int) ≤ ρ 0 ∧ ρ 0 ≤ 1 := hb 0 (1, 1) rfl
  have b1 : (0 : Int) ≤ ρ 1 ∧ ρ 1 ≤ 63 := hb 1 (0, 63) rfl
  have t0 := h60 _ _ _ (qtl (a := 60) hm 0 rfl (by decide))
  have q1 : rv h 625 (0) = ρ 1 := qrv hm 1 rfl (by decide) (by decide +kernel) (by show (0 + 0 : Int) = ((0 : Nat) : Int); omega)
  obtain ⟨n, H, x0, x1, o3, xB, gB, yP, yR⟩ := t0
  have kb := gB 0 (by omega)
  have y1 : ρ 1 = 0 := q1.symm.trans kb
  exact ⟨_, List.mem_of_getElem? (i := 0) rfl, rfl, rfl, (pAll1 (show (0 + (1 * ρ 1 + 0) : Int) ≤ 0 by omega) (pAll1 (show (0 + ((-1) * ρ 1 + 0) : Int) ≤ 0 by omega) pAll0)), pAll0⟩)

theorem qR_wbnow_ok (h60 : ∀ x y h, gv 60 x y h → cGh h) (h61 : ∀ x y h, gv 61 x y h → qTab pReg h) : pRulQ pReg qG gv qR_wbnow := qrul (by decide +kernel) (fun h ρ hG hm hb hc => by
  have b0 : (1 : Int) ≤ ρ 0 ∧ ρ 0 ≤ 1 := hb 0 (1, 1) rfl
  have b1 : (1 : Int) ≤ ρ 1 ∧ ρ 1 ≤ 1 := hb 1 (1, 1) rfl
  have b2 : (0 : Int) ≤ ρ 2 ∧ ρ 2 ≤ 5 := hb 2 (0, 5) rfl
  have b3 : (0 : Int) ≤ ρ 3 ∧ ρ 3 ≤ 63 := hb 3 (0, 63) rfl
  have b4 : (2 : Int) ≤ ρ 4 ∧ ρ 4 ≤ 6 := hb 4 (2, 6) rfl
  have b5 : (4 : Int) ≤ ρ 5 ∧ ρ 5 ≤ 10 := hb 5 (4, 10) rfl
  have b6 : ((-2147483648) : Int) ≤ ρ 6 ∧ ρ 6 ≤ 2147483647 := hb 6 ((-2147483648), 2147483647) rfl
  have b7 : (0 : Int) ≤ ρ 7 ∧ ρ 7 ≤ 63 := hb 7 (0, 63) rfl
  have b8 : (0 : Int) ≤ ρ 8 ∧ ρ 8 ≤ 63 := hb 8 (0, 63) rfl
  have b9 : (0 : Int) ≤ ρ 9 ∧ ρ 9 ≤ 2016 := hb 9 (0, 2016) rfl
  have b10 : (0 : Int) ≤ ρ 10 ∧ ρ 10 ≤ 63 := hb 10 (0, 63) rfl
  have c0 : (1 + (1 * ρ 2 + ((-1) * ρ 4 + 0)) : Int) ≤ 0 := hc _ (List.mem_of_getElem? (i := 0) rfl)
  have c1 : (0 + (1 * ρ 3 + ((-1) * ρ 7 + 0)) : Int) ≤ 0 := hc _ (List.mem_of_getElem? (i := 1) rfl)
  have c2 : (0 + ((-1) * ρ 3 + (1 * ρ 7 + 0)) : Int) ≤ 0 := hc _ (List.mem_of_getElem? (i := 2) rfl)
  obtain ⟨m, e_m⟩ : ∃ x : Nat, ρ 2 = (x : Int) := ⟨(ρ 2).toNat, by omega⟩
  obtain ⟨a, e_a⟩ : ∃ x : Nat, ρ 3 = (x : Int) := ⟨(ρ 3).toNat, by omega⟩
  obtain ⟨hh, e_hh⟩ : ∃ x : Nat, ρ 5 = (x : Int) := ⟨(ρ 5).toNat, by omega⟩
  obtain ⟨p, e_p⟩ : ∃ x : Nat, ρ 9 = (x : Int) := ⟨(ρ 9).toNat, by omega⟩
  have t0 := h60 _ _ _ (qtl (a := 60) hm 0 rfl (by decide))
  have t1 := h61 _ _ _ (qtl (a := 61) hm 1 rfl (by decide))
  have q2 : rv h 56 (0) = ρ 4 := qrv hm 2 rfl (by decide) (by decide +kernel) (by show (0 + 0 : Int) = ((0 : Nat) : Int); omega)
  have q3 : rv h 56 (1) = ρ 5 := qrv hm 3 rfl (by decide) (by decide +kernel) (by show (1 + 0 : Int) = ((1 : Nat) : Int); omega)
  have q4 : rv h 611 (6 * hh + m) = ρ 6 := qrv hm 4 rfl (by decide) (by decide +kernel) (by show (0 + (1 * ρ 2 + (6 * ρ 5 + 0)) : Int) = ((6 * hh + m : Nat) : Int); omega)
  have q5 : rv h 625 (m) = ρ 7 := qrv hm 5 rfl (by decide) (by decide +kernel) (by show (0 + (1 * ρ 2 + 0) : Int) = ((m : Nat) : Int); omega)
  have q6 : rv h 625 (m + 1) = ρ 8 := qrv hm 6 rfl (by decide) (by decide +kernel) (by show (1 + (1 * ρ 2 + 0) : Int) = ((m + 1 : Nat) : Int); omega)
  have q7 : rv h 701 (64 * m + 1) = ρ 9 := qrv hm 7 rfl (by decide) (by decide +kernel) (by show (1 + (64 * ρ 2 + 0) : Int) = ((64 * m + 1 : Nat) : Int); omega)
  have q8 : rv h 700 (64 * p + a) = ρ 10 := qrv hm 8 rfl (by decide) (by decide +kernel) (by show (0 + (1 * ρ 3 + (64 * ρ 9 + 0)) : Int) = ((64 * p + a : Nat) : Int); omega)
  obtain ⟨n, H, x0, x1, o3, xB, gB, yP, yR⟩ := t0
  have hM : ρ 4 = (n : Int) := q2.symm.trans x0
  have hH : ρ 5 = (H : Int) := q3.symm.trans x1
  have hmn : m < n := by omega
  have eh : hh = H := by omega
  rw [eh] at q4
  obtain ⟨-, kb, -⟩ := xB m hmn
  rw [q4] at kb
  have g1 := gB m (by omega)
  rw [q5] at g1
  have g2 := gB (m + 1) (by omega)
  rw [q6] at g2
  have g3 : ρ 8 = ρ 7 + ((if decide (rv h 611 (6 * H + m) ≠ -1) = true then 2 ^ m else 0 : Nat) : Int) := by rw [g2, g1]; exact Int.natCast_add _ _
  rw [q4] at g3
  have hm6 : m < 6 := by omega
  have s1 := qt_shl t1 hm6
  rw [q7] at s1
  have ep : p = 2 ^ m := Int.ofNat_inj.mp (e_p.symm.trans s1)
  have pw := pw6 hm6
  rw [← ep] at pw g3
  have hl := nBs_lt (f := fun j => decide (rv h 611 (6 * H + j) ≠ -1)) m
  have hs : a < 2 ^ m := by rw [← ep]; rw [← ep] at hl; omega
  have cc := qt_or2 t1 hm6 hs ep
  rw [q8] at cc
  by_cases z : ρ 6 = -1
  · rw [if_neg (by rw [z]; decide)] at g3
    exact ⟨_, List.mem_of_getElem? (i := 0) rfl, rfl, rfl, (pAll1 (show (1 + ((-1) * ρ 9 + 0) : Int) ≤ 0 by omega) (pAll1 (show ((-32) + (1 * ρ 9 + 0) : Int) ≤ 0 by omega) (pAll1 (show (1 + (1 * ρ 6 + 0) : Int) ≤ 0 by omega) (pAll1 (show ((-1) + ((-1) * ρ 6 + 0) : Int) ≤ 0 by omega) (pAll1 (show (0 + ((-1) * ρ 3 + (1 * ρ 8 + 0)) : Int) ≤ 0 by omega) (pAll1 (show (0 + (1 * ρ 3 + ((-1) * ρ 8 + 0)) : Int) ≤ 0 by omega) pAll0)))))), pAll0⟩
  · rw [if_pos (decide_eq_true z)] at g3
    exact ⟨_, List.mem_of_getElem? (i := 1) rfl, rfl, rfl, (pAll1 (show (1 + ((-1) * ρ 9 + 0) : Int) ≤ 0 by omega) (pAll1 (show ((-32) + (1 * ρ 9 + 0) : Int) ≤ 0 by omega) (pAll1 (show (0 + ((-1) * ρ 6 + 0) : Int) ≤ 0 by omega) (pAll1 (show (1 + ((-1) * ρ 5 + (1 * ρ 6 + 0)) : Int) ≤ 0 by omega) (pAll1 (show (0 + (1 * ρ 8 + ((-1) * ρ 10 + 0)) : Int) ≤ 0 by omega) (pAll1 (show (0 + ((-1) * ρ 8 + (1 * ρ 10 + 0)) : Int) ≤ 0 by omega) pAll0)))))), pAll0⟩)

theorem qR_rmnow_ok (h61 : ∀ x y h, gv 61 x y h → qTab pReg h) : pRulQ pReg qG gv qR_rmnow := qrul (by decide +kernel) (fun h ρ hG hm hb hc => by
  have b0 : (1 : Int) ≤ ρ 0 ∧ ρ 0 ≤ 1 := hb 0 (1, 1) rfl
  have b1 : (0 : Int) ≤ ρ 1 ∧ ρ 1 ≤ 998 := hb 1 (0, 998) rfl
  have b2 : (0 : Int) ≤ ρ 2 ∧ ρ 2 ≤ 98 := hb 2 (0, 98) rfl
  obtain ⟨v, e_v⟩ : ∃ x : Nat, ρ 1 = (x : Int) := ⟨(ρ 1).toNat, by omega⟩
  have t0 := h61 _ _ _ (qtl (a := 61) hm 0 rfl (by decide))
  have q1 : rv h 7 (9) = ρ 1 := qrv hm 1 rfl (by decide) (by decide +kernel) (by show (9 + 0 : Int) = ((9 : Nat) : Int); omega)
  have q2 : rv h 705 (v + 600000) = ρ 2 := qrv hm 2 rfl (by decide) (by decide +kernel) (by show (600000 + (1 * ρ 1 + 0) : Int) = ((v + 600000 : Nat) : Int); omega)
  have e := qt_rem t0 (show v < 1000 by omega)
  rw [q2] at e
  exact ⟨_, List.mem_of_getElem? (i := 0) rfl, rfl, rfl, (pAll1 (show ((-59) + (1 * ρ 2 + 0) : Int) ≤ 0 by omega) pAll0), pAll0⟩)

theorem qR_funow_ok (h60 : ∀ x y h, gv 60 x y h → cGh h) : pRulQ pReg qG gv qR_funow := qrul (by decide +kernel) (fun h ρ hG hm hb hc => by
  have b0 : (1 : Int) ≤ ρ 0 ∧ ρ 0 ≤ 1 := hb 0 (1, 1) rfl
  have b1 : (0 : Int) ≤ ρ 1 ∧ ρ 1 ≤ 9 := hb 1 (0, 9) rfl
  have b2 : (2 : Int) ≤ ρ 2 ∧ ρ 2 ≤ 6 := hb 2 (2, 6) rfl
  have b3 : (2 : Int) ≤ ρ 3 ∧ ρ 3 ≤ 6 := hb 3 (2, 6) rfl
  have b4 : (0 : Int) ≤ ρ 4 ∧ ρ 4 ≤ 9 := hb 4 (0, 9) rfl
  have b5 : (2 : Int) ≤ ρ 5 ∧ ρ 5 ≤ 6 := hb 5 (2, 6) rfl
  have b6 : (0 : Int) ≤ ρ 6 ∧ ρ 6 ≤ 9 := hb 6 (0, 9) rfl
  have b7 : (2 : Int) ≤ ρ 7 ∧ ρ 7 ≤ 6 := hb 7 (2, 6) rfl
  have b8 : (0 : Int) ≤ ρ 8 ∧ ρ 8 ≤ 9 := hb 8 (0, 9) rfl
  have b9 : (2 : Int) ≤ ρ 9 ∧ ρ 9 ≤ 6 := hb 9 (2, 6) rfl
  have b10 : (0 : Int) ≤ ρ 10 ∧ ρ 10 ≤ 9 := hb 10 (0, 9) rfl
  have c0 : (0 + ((-1) * ρ 2 + (1 * ρ 3 + 0)) : Int) ≤ 0 := hc _ (List.mem_of_getElem? (i := 0) rfl)
  have c1 : (0 + (1 * ρ 2 + ((-1) * ρ 3 + 0)) : Int) ≤ 0 := hc _ (List.mem_of_getElem? (i := 1) rfl)
  have c2 : (0 + ((-1) * ρ 1 + (1 * ρ 4 + 0)) : Int) ≤ 0 := hc _ (List.mem_of_getElem? (i := 2) rfl)
  have c3 : (0 + (1 * ρ 1 + ((-1) * ρ 4 + 0)) : Int) ≤ 0 := hc _ (List.mem_of_getElem? (i := 3) rfl)
  have c4 : (0 + ((-1) * ρ 2 + (1 * ρ 5 + 0)) : Int) ≤ 0 := hc _ (List.mem_of_getElem? (i := 4) rfl)
  have c5 : (0 + (1 * ρ 2 + ((-1) * ρ 5 + 0)) : Int) ≤ 0 := hc _ (List.mem_of_getElem? (i := 5) rfl)
  have c6 : (0 + ((-1) * ρ 1 + (1 * ρ 6 + 0)) : Int) ≤ 0 := hc _ (List.mem_of_getElem? (i := 6) rfl)
  have c7 : (0 + (1 * ρ 1 + ((-1) * ρ 6 + 0)) : Int) ≤ 0 := hc _ (List.mem_of_getElem? (i := 7) rfl)
  have c8 : (0 + ((-1) * ρ 2 + (1 * ρ 7 + 0)) : Int) ≤ 0 := hc _ (List.mem_of_getElem? (i := 8) rfl)
  have c9 : (0 + (1 * ρ 2 + ((-1) * ρ 7 + 0)) : Int) ≤ 0 := hc _ (List.mem_of_getElem? (i := 9) rfl)
  have c10 : (0 + ((-1) * ρ 1 + (1 * ρ 8 + 0)) : Int) ≤ 0 := hc _ (List.mem_of_getElem? (i := 10) rfl)
  have c11 : (0 + (1 * ρ 1 + ((-1) * ρ 8 + 0)) : Int) ≤ 0 := hc _ (List.mem_of_getElem? (i := 11) rfl)
  have c12 : (0 + ((-1) * ρ 2 + (1 * ρ 9 + 0)) : Int) ≤ 0 := hc _ (List.mem_of_getElem? (i := 12) rfl)
  have c13 : (0 + (1 * ρ 2 + ((-1) * ρ 9 + 0)) : Int) ≤ 0 := hc _ (List.mem_of_getElem? (i := 13) rfl)
  have c14 : (0 + ((-1) * ρ 1 + (1 * ρ 10 + 0)) : Int) ≤ 0 := hc _ (List.mem_of_getElem? (i := 14) rfl)
  have c15 : (0 + (1 * ρ 1 + ((-1) * ρ 10 + 0)) : Int) ≤ 0 := hc _ (List.mem_of_getElem? (i := 15) rfl)
  obtain ⟨t, e_t⟩ : ∃ x : Nat, ρ 1 = (x : Int) := ⟨(ρ 1).toNat, by omega⟩
  have t0 := h60 _ _ _ (qtl (a := 60) hm 0 rfl (by decide))
  have q1 : rv h 56 (0) = ρ 2 := qrv hm 1 rfl (by decide) (by decide +kernel) (by show (0 + 0 : Int) = ((0 : Nat) : Int); omega)
  have a2 := qal hm 2 rfl (by decide)
  have a3 := qal hm 3 rfl (by decide)
  have a4 := qal hm 4 rfl (by decide)
  have a5 := qal hm 5 rfl (by decide)
  have a6 := qal hm 6 rfl (by decide)
  have a7 := qal hm 7 rfl (by decide)
  have a8 := qal hm 8 rfl (by decide)
  have a9 := qal hm 9 rfl (by decide)
  obtain ⟨n, H, x0, x1, o3, xB, gB, yP, yR⟩ := t0
  have hM : ρ 2 = (n : Int) := q1.symm.trans x0
  have hk : n ≤ 6 := o3
  have p0 : qag pReg h 6000000000000612060 (1 + (1 * ρ 1 + 0)) (0 + (1 * ρ 2 + 0)) := by
    have e : (0 + (1 * ρ 2 + 0) : Int) = sv ρ (sY 3) := by rw [sY_v]; omega
    rw [e]
    exact a2
  have s0 : qag pReg h 6006000000000000612060 (0 + (1 * ρ 2 + 0)) (ρ 1) := by
    have e : (ρ 1 : Int) = sv ρ (sY 4) := by rw [sY_v]; omega
    rw [e]
    exact a3
  have z0 := qag_core p0 s0 (by decide +kernel) (fun i i1 i2 => by
    obtain ⟨u, e_u⟩ : ∃ u : Nat, i = (u : Int) := ⟨i.toNat, by omega⟩
    have key := yR t 0 u (by omega) (by decide) (by omega) (by omega)
    show h.1 610 (0 + 6 * ρ 1 + i).toNat = h.1 610 (0 + 6 * (1 + (1 * ρ 1 + 0)) + i).toNat
    rw [show (0 + 6 * ρ 1 + i).toNat = 6 * t + u by omega, show (0 + 6 * (1 + (1 * ρ 1 + 0)) + i).toNat = 6 * t + u + 6 by omega]
    have qq : qk 610 = 610 := qk_g (by decide) (by decide) (pReg_g (by decide) (by decide))
    unfold rv yv at key
    rw [show 610 + 0 = 610 from rfl, qq] at key
    exact (Int32.toInt_inj.mp key).symm)
  have p1 : qag pReg h 6000000000000613061 (1 + (1 * ρ 1 + 0)) (0 + (1 * ρ 2 + 0)) := by
    have e : (0 + (1 * ρ 2 + 0) : Int) = sv ρ (sY 5) := by rw [sY_v]; omega
    rw [e]
    exact a4
  have s1 : qag pReg h 6006000000000000613061 (0 + (1 * ρ 2 + 0)) (ρ 1) := by
    have e : (ρ 1 : Int) = sv ρ (sY 6) := by rw [sY_v]; omega
    rw [e]
    exact a5
  have z1 := qag_core p1 s1 (by decide +kernel) (fun i i1 i2 => by
    obtain ⟨u, e_u⟩ : ∃ u : Nat, i = (u : Int) := ⟨i.toNat, by omega⟩
    have key := yR t 1 u (by omega) (by decide) (by omega) (by omega)
    show h.1 611 (0 + 6 * ρ 1 + i).toNat = h.1 611 (0 + 6 * (1 + (1 * ρ 1 + 0)) + i).toNat
    rw [show (0 + 6 * ρ 1 + i).toNat = 6 * t + u by omega, show (0 + 6 * (1 + (1 * ρ 1 + 0)) + i).toNat = 6 * t + u + 6 by omega]
    have qq : qk 611 = 611 := qk_g (by decide) (by decide) (pReg_g (by decide) (by decide))
    unfold rv yv at key
    rw [show 610 + 1 = 611 from rfl, qq] at key
    exact (Int32.toInt_inj.mp key).symm)
  have p2 : qag pReg h 6000000000000614062 (1 + (1 * ρ 1 + 0)) (0 + (1 * ρ 2 + 0)) := by
    have e : (0 + (1 * ρ 2 + 0) : Int) = sv ρ (sY 7) := by rw [sY_v]; omega
    rw [e]
    exact a6
  have s2 : qag pReg h 6006000000000000614062 (0 + (1 * ρ 2 + 0)) (ρ 1) := by
    have e : (ρ 1 : Int) = sv ρ (sY 8) := by rw [sY_v]; omega
    rw [e]
    exact a7
  have z2 := qag_core p2 s2 (by decide +kernel) (fun i i1 i2 => by
    obtain ⟨u, e_u⟩ : ∃ u : Nat, i = (u : Int) := ⟨i.toNat, by omega⟩
    have key := yR t 2 u (by omega) (by decide) (by omega) (by omega)
    show h.1 612 (0 + 6 * ρ 1 + i).toNat = h.1 612 (0 + 6 * (1 + (1 * ρ 1 + 0)) + i).toNat
    rw [show (0 + 6 * ρ 1 + i).toNat = 6 * t + u by omega, show (0 + 6 * (1 + (1 * ρ 1 + 0)) + i).toNat = 6 * t + u + 6 by omega]
    have qq : qk 612 = 612 := qk_g (by decide) (by decide) (pReg_g (by decide) (by decide))
    unfold rv yv at key
    rw [show 610 + 2 = 612 from rfl, qq] at key
    exact (Int32.toInt_inj.mp key).symm)
  have p3 : qag pReg h 6000000000000615063 (1 + (1 * ρ 1 + 0)) (0 + (1 * ρ 2 + 0)) := by
    have e : (0 + (1 * ρ 2 + 0) : Int) = sv ρ (sY 9) := by rw [sY_v]; omega
    rw [e]
    exact a8
  have s3 : qag pReg h 6006000000000000615063 (0 + (1 * ρ 2 + 0)) (ρ 1) := by
    have e : (ρ 1 : Int) = sv ρ (sY 10) := by rw [sY_v]; omega
    rw [e]
    exact a9
  have z3 := qag_core p3 s3 (by decide +kernel) (fun i i1 i2 => by
    obtain ⟨u, e_u⟩ : ∃ u : Nat, i = (u : Int) := ⟨i.toNat, by omega⟩
    have key := yR t 3 u (by omega) (by decide) (by omega) (by omega)
    show h.1 613 (0 + 6 * ρ 1 + i).toNat = h.1 613 (0 + 6 * (1 + (1 * ρ 1 + 0)) + i).toNat
    rw [show (0 + 6 * ρ 1 + i).toNat = 6 * t + u by omega, show (0 + 6 * (1 + (1 * ρ 1 + 0)) + i).toNat = 6 * t + u + 6 by omega]
    have qq : qk 613 = 613 := qk_g (by decide) (by decide) (pReg_g (by decide) (by decide))
    unfold rv yv at key
    rw [show 610 + 3 = 613 from rfl, qq] at key
    exact (Int32.toInt_inj.mp key).symm)
  exact ⟨_, List.mem_of_getElem? (i := 0) rfl, rfl, rfl, pAll0, (pAll1 (qfg (by decide) (by exact qag_suf z0 (by decide +kernel) (show 0 ≤ (1 + (1 * ρ 1 + 0) : Int) by omega))) (pAll1 (qfg (by decide) (by exact qag_suf z1 (by decide +kernel) (show 0 ≤ (1 + (1 * ρ 1 + 0) : Int) by omega))) (pAll1 (qfg (by decide) (by exact qag_suf z2 (by decide +kernel) (show 0 ≤ (1 + (1 * ρ 1 + 0) : Int) by omega))) (pAll1 (qfg (by decide) (by exact qag_suf z3 (by decide +kernel) (show 0 ≤ (1 + (1 * ρ 1 + 0) : Int) by omega))) pAll0))))⟩)

theorem qR_futrial_ok (h63 : ∀ x y h, gv 63 x y h → cGh h) : pRulQ pReg qG gv qR_futrial := qrul (by decide +kernel) (fun h ρ hG hm hb hc => by
  have b0 : (1 : Int) ≤ ρ 0 ∧ ρ 0 ≤ 1 := hb 0 (1, 1) rfl
  have b1 : (0 : Int) ≤ ρ 1 ∧ ρ 1 ≤ 9 := hb 1 (0, 9) rfl
  have b2 : (2 : Int) ≤ ρ 2 ∧ ρ 2 ≤ 6 := hb 2 (2, 6) rfl
  have b3 : (2 : Int) ≤ ρ 3 ∧ ρ 3 ≤ 6 := hb 3 (2, 6) rfl
  have b4 : (0 : Int) ≤ ρ 4 ∧ ρ 4 ≤ 9 := hb 4 (0, 9) rfl
  have b5 : (2 : Int) ≤ ρ 5 ∧ ρ 5 ≤ 6 := hb 5 (2, 6) rfl
  have b6 : (0 : Int) ≤ ρ 6 ∧ ρ 6 ≤ 9 := hb 6 (0, 9) rfl
  have b7 : (2 : Int) ≤ ρ 7 ∧ ρ 7 ≤ 6 := hb 7 (2, 6) rfl
  have b8 : (0 : Int) ≤ ρ 8 ∧ ρ 8 ≤ 9 := hb 8 (0, 9) rfl
  have b9 : (2 : Int) ≤ ρ 9 ∧ ρ 9 ≤ 6 := hb 9 (2, 6) rfl
  have b10 : (0 : Int) ≤ ρ 10 ∧ ρ 10 ≤ 9 := hb 10 (0, 9) rfl
  have c0 : (0 + ((-1) * ρ 2 + (1 * ρ 3 + 0)) : Int) ≤ 0 := hc _ (List.mem_of_getElem? (i := 0) rfl)
  have c1 : (0 + (1 * ρ 2 + ((-1) * ρ 3 + 0)) : Int) ≤ 0 := hc _ (List.mem_of_getElem? (i := 1) rfl)
  have c2 : (0 + ((-1) * ρ 1 + (1 * ρ 4 + 0)) : Int) ≤ 0 := hc _ (List.mem_of_getElem? (i := 2) rfl)
  have c3 : (0 + (1 * ρ 1 + ((-1) * ρ 4 + 0)) : Int) ≤ 0 := hc _ (List.mem_of_getElem? (i := 3) rfl)
  have c4 : (0 + ((-1) * ρ 2 + (1 * ρ 5 + 0)) : Int) ≤ 0 := hc _ (List.mem_of_getElem? (i := 4) rfl)
  have c5 : (0 + (1 * ρ 2 + ((-1) * ρ 5 + 0)) : Int) ≤ 0 := hc _ (List.mem_of_getElem? (i := 5) rfl)
  have c6 : (0 + ((-1) * ρ 1 + (1 * ρ 6 + 0)) : Int) ≤ 0 := hc _ (List.mem_of_getElem? (i := 6) rfl)
  have c7 : (0 + (1 * ρ 1 + ((-1) * ρ 6 + 0)) : Int) ≤ 0 := hc _ (List.mem_of_getElem? (i := 7) rfl)
  have c8 : (0 + ((-1) * ρ 2 + (1 * ρ 7 + 0)) : Int) ≤ 0 := hc _ (List.mem_of_getElem? (i := 8) rfl)
  have c9 : (0 + (1 * ρ 2 + ((-1) * ρ 7 + 0)) : Int) ≤ 0 := hc _ (List.mem_of_getElem? (i := 9) rfl)
  have c10 : (0 + ((-1) * ρ 1 + (1 * ρ 8 + 0)) : Int) ≤ 0 := hc _ (List.mem_of_getElem? (i := 10) rfl)
  have c11 : (0 + (1 * ρ 1 + ((-1) * ρ 8 + 0)) : Int) ≤ 0 := hc _ (List.mem_of_getElem? (i := 11) rfl)
  have c12 : (0 + ((-1) * ρ 2 + (1 * ρ 9 + 0)) : Int) ≤ 0 := hc _ (List.mem_of_getElem? (i := 12) rfl)
  have c13 : (0 + (1 * ρ 2 + ((-1) * ρ 9 + 0)) : Int) ≤ 0 := hc _ (List.mem_of_getElem? (i := 13) rfl)
  have c14 : (0 + ((-1) * ρ 1 + (1 * ρ 10 + 0)) : Int) ≤ 0 := hc _ (List.mem_of_getElem? (i := 14) rfl)
  have c15 : (0 + (1 * ρ 1 + ((-1) * ρ 10 + 0)) : Int) ≤ 0 := hc _ (List.mem_of_getElem? (i := 15) rfl)
  obtain ⟨t, e_t⟩ : ∃ x : Nat, ρ 1 = (x : Int) := ⟨(ρ 1).toNat, by omega⟩
  have t0 := h63 _ _ _ (qtl (a := 63) hm 0 rfl (by decide))
  have q1 : rv h 56 (0) = ρ 2 := qrv hm 1 rfl (by decide) (by decide +kernel) (by show (0 + 0 : Int) = ((0 : Nat) : Int); omega)
  have a2 := qal hm 2 rfl (by decide)
  have a3 := qal hm 3 rfl (by decide)
  have a4 := qal hm 4 rfl (by decide)
  have a5 := qal hm 5 rfl (by decide)
  have a6 := qal hm 6 rfl (by decide)
  have a7 := qal hm 7 rfl (by decide)
  have a8 := qal hm 8 rfl (by decide)
  have a9 := qal hm 9 rfl (by decide)
  obtain ⟨n, H, x0, x1, o3, xB, gB, yP, yR⟩ := t0
  have hM : ρ 2 = (n : Int) := q1.symm.trans x0
  have hk : n ≤ 6 := o3
  have p0 : qag pReg h 6000000000000612060 (1 + (1 * ρ 1 + 0)) (0 + (1 * ρ 2 + 0)) := by
    have e : (0 + (1 * ρ 2 + 0) : Int) = sv ρ (sY 3) := by rw [sY_v]; omega
    rw [e]
    exact a2
  have s0 : qag pReg h 6006000000000000612060 (0 + (1 * ρ 2 + 0)) (ρ 1) := by
    have e : (ρ 1 : Int) = sv ρ (sY 4) := by rw [sY_v]; omega
    rw [e]
    exact a3
  have z0 := qag_core p0 s0 (by decide +kernel) (fun i i1 i2 => by
    obtain ⟨u, e_u⟩ : ∃ u : Nat, i = (u : Int) := ⟨i.toNat, by omega⟩
    have key := yR t 0 u (by omega) (by decide) (by omega) (by omega)
    show h.1 610 (0 + 6 * ρ 1 + i).toNat = h.1 610 (0 + 6 * (1 + (1 * ρ 1 + 0)) + i).toNat
    rw [show (0 + 6 * ρ 1 + i).toNat = 6 * t + u by omega, show (0 + 6 * (1 + (1 * ρ 1 + 0)) + i).toNat = 6 * t + u + 6 by omega]
    have qq : qk 610 = 610 := qk_g (by decide) (by decide) (pReg_g (by decide) (by decide))
    unfold rv yv at key
    rw [show 610 + 0 = 610 from rfl, qq] at key
    exact (Int32.toInt_inj.mp key).symm)
  have p1 : qag pReg h 6000000000000613061 (1 + (1 * ρ 1 + 0)) (0 + (1 * ρ 2 + 0)) := by
    have e : (0 + (1 * ρ 2 + 0) : Int) = sv ρ (sY 5) := by rw [sY_v]; omega
    rw [e]
    exact a4
  have s1 : qag pReg h 6006000000000000613061 (0 + (1 * ρ 2 + 0)) (ρ 1) := by
    have e : (ρ 1 : Int) = sv ρ (sY 6) := by rw [sY_v]; omega
    rw [e]
    exact a5
  have z1 := qag_core p1 s1 (by decide +kernel) (fun i i1 i2 => by
    obtain ⟨u, e_u⟩ : ∃ u : Nat, i = (u : Int) := ⟨i.toNat, by omega⟩
    have key := yR t 1 u (by omega) (by decide) (by omega) (by omega)
    show h.1 611 (0 + 6 * ρ 1 + i).toNat = h.1 611 (0 + 6 * (1 + (1 * ρ 1 + 0)) + i).toNat
    rw [show (0 + 6 * ρ 1 + i).toNat = 6 * t + u by omega, show (0 + 6 * (1 + (1 * ρ 1 + 0)) + i).toNat = 6 * t + u + 6 by omega]
    have qq : qk 611 = 611 := qk_g (by decide) (by decide) (pReg_g (by decide) (by decide))
    unfold rv yv at key
    rw [show 610 + 1 = 611 from rfl, qq] at key
    exact (Int32.toInt_inj.mp key).symm)
  have p2 : qag pReg h 6000000000000614062 (1 + (1 * ρ 1 + 0)) (0 + (1 * ρ 2 + 0)) := by
    have e : (0 + (1 * ρ 2 + 0) : Int) = sv ρ (sY 7) := by rw [sY_v]; omega
    rw [e]
    exact a6
  have s2 : qag pReg h 6006000000000000614062 (0 + (1 * ρ 2 + 0)) (ρ 1) := by
    have e : (ρ 1 : Int) = sv ρ (sY 8) := by rw [sY_v]; omega
    rw [e]
    exact a7
  have z2 := qag_core p2 s2 (by decide +kernel) (fun i i1 i2 => by
    obtain ⟨u, e_u⟩ : ∃ u : Nat, i = (u : Int) := ⟨i.toNat, by omega⟩
    have key := yR t 2 u (by omega) (by decide) (by omega) (by omega)
    show h.1 612 (0 + 6 * ρ 1 + i).toNat = h.1 612 (0 + 6 * (1 + (1 * ρ 1 + 0)) + i).toNat
    rw [show (0 + 6 * ρ 1 + i).toNat = 6 * t + u by omega, show (0 + 6 * (1 + (1 * ρ 1 + 0)) + i).toNat = 6 * t + u + 6 by omega]
    have qq : qk 612 = 612 := qk_g (by decide) (by decide) (pReg_g (by decide) (by decide))
    unfold rv yv at key
    rw [show 610 + 2 = 612 from rfl, qq] at key
    exact (Int32.toInt_inj.mp key).symm)
  have p3 : qag pReg h 6000000000000615063 (1 + (1 * ρ 1 + 0)) (0 + (1 * ρ 2 + 0)) := by
    have e : (0 + (1 * ρ 2 + 0) : Int) = sv ρ (sY 9) := by rw [sY_v]; omega
    rw [e]
    exact a8
  have s3 : qag pReg h 6006000000000000615063 (0 + (1 * ρ 2 + 0)) (ρ 1) := by
    have e : (ρ 1 : Int) = sv ρ (sY 10) := by rw [sY_v]; omega
    rw [e]
    exact a9
  have z3 := qag_core p3 s3 (by decide +kernel) (fun i i1 i2 => by
    obtain ⟨u, e_u⟩ : ∃ u : Nat, i = (u : Int) := ⟨i.toNat, by omega⟩
    have key := yR t 3 u (by omega) (by decide) (by omega) (by omega)
    show h.1 613 (0 + 6 * ρ 1 + i).toNat = h.1 613 (0 + 6 * (1 + (1 * ρ 1 + 0)) + i).toNat
    rw [show (0 + 6 * ρ 1 + i).toNat = 6 * t + u by omega, show (0 + 6 * (1 + (1 * ρ 1 + 0)) + i).toNat = 6 * t + u + 6 by omega]
    have qq : qk 613 = 613 := qk_g (by decide) (by decide) (pReg_g (by decide) (by decide))
    unfold rv yv at key
    rw [show 610 + 3 = 613 from rfl, qq] at key
    exact (Int32.toInt_inj.mp key).symm)
  exact ⟨_, List.mem_of_getElem? (i := 0) rfl, rfl, rfl, pAll0, (pAll1 (qfg (by decide) (by exact qag_suf z0 (by decide +kernel) (show 0 ≤ (1 + (1 * ρ 1 + 0) : Int) by omega))) (pAll1 (qfg (by decide) (by exact qag_suf z1 (by decide +kernel) (show 0 ≤ (1 + (1 * ρ 1 + 0) : Int) by omega))) (pAll1 (qfg (by decide) (by exact qag_suf z2 (by decide +kernel) (show 0 ≤ (1 + (1 * ρ 1 + 0) : Int) by omega))) (pAll1 (qfg (by decide) (by exact qag_suf z3 (by decide +kernel) (show 0 ≤ (1 + (1 * ρ 1 + 0) : Int) by omega))) pAll0))))⟩)

theorem qR_fum_ok (h64 : ∀ x y h, gv 64 x y h → mGh h) : pRulQ pReg qG gv qR_fum := qrul (by decide +kernel) (fun h ρ hG hm hb hc => by
  have b0 : (1 : Int) ≤ ρ 0 ∧ ρ 0 ≤ 1 := hb 0 (1, 1) rfl
  have b1 : (0 : Int) ≤ ρ 1 ∧ ρ 1 ≤ 9 := hb 1 (0, 9) rfl
  have b2 : (2 : Int) ≤ ρ 2 ∧ ρ 2 ≤ 6 := hb 2 (2, 6) rfl
  have b3 : (2 : Int) ≤ ρ 3 ∧ ρ 3 ≤ 6 := hb 3 (2, 6) rfl
  have b4 : (0 : Int) ≤ ρ 4 ∧ ρ 4 ≤ 9 := hb 4 (0, 9) rfl
  have b5 : (2 : Int) ≤ ρ 5 ∧ ρ 5 ≤ 6 := hb 5 (2, 6) rfl
  have b6 : (0 : Int) ≤ ρ 6 ∧ ρ 6 ≤ 9 := hb 6 (0, 9) rfl
  have b7 : (2 : Int) ≤ ρ 7 ∧ ρ 7 ≤ 6 := hb 7 (2, 6) rfl
  have b8 : (0 : Int) ≤ ρ 8 ∧ ρ 8 ≤ 9 := hb 8 (0, 9) rfl
  have b9 : (2 : Int) ≤ ρ 9 ∧ ρ 9 ≤ 6 := hb 9 (2, 6) rfl
  have b10 : (0 : Int) ≤ ρ 10 ∧ ρ 10 ≤ 9 := hb 10 (0, 9) rfl
  have c0 : (0 + ((-1) * ρ 2 + (1 * ρ 3 + 0)) : Int) ≤ 0 := hc _ (List.mem_of_getElem? (i := 0) rfl)
  have c1 : (0 + (1 * ρ 2 + ((-1) * ρ 3 + 0)) : Int) ≤ 0 := hc _ (List.mem_of_getElem? (i := 1) rfl)
  have c2 : (0 + ((-1) * ρ 1 + (1 * ρ 4 + 0)) : Int) ≤ 0 := hc _ (List.mem_of_getElem? (i := 2) rfl)
  have c3 : (0 + (1 * ρ 1 + ((-1) * ρ 4 + 0)) : Int) ≤ 0 := hc _ (List.mem_of_getElem? (i := 3) rfl)
  have c4 : (0 + ((-1) * ρ 2 + (1 * ρ 5 + 0)) : Int) ≤ 0 := hc _ (List.mem_of_getElem? (i := 4) rfl)
  have c5 : (0 + (1 * ρ 2 + ((-1) * ρ 5 + 0)) : Int) ≤ 0 := hc _ (List.mem_of_getElem? (i := 5) rfl)
  have c6 : (0 + ((-1) * ρ 1 + (1 * ρ 6 + 0)) : Int) ≤ 0 := hc _ (List.mem_of_getElem? (i := 6) rfl)
  have c7 : (0 + (1 * ρ 1 + ((-1) * ρ 6 + 0)) : Int) ≤ 0 := hc _ (List.mem_of_getElem? (i := 7) rfl)
  have c8 : (0 + ((-1) * ρ 2 + (1 * ρ 7 + 0)) : Int) ≤ 0 := hc _ (List.mem_of_getElem? (i := 8) rfl)
  have c9 : (0 + (1 * ρ 2 + ((-1) * ρ 7 + 0)) : Int) ≤ 0 := hc _ (List.mem_of_getElem? (i := 9) rfl)
  have c10 : (0 + ((-1) * ρ 1 + (1 * ρ 8 + 0)) : Int) ≤ 0 := hc _ (List.mem_of_getElem? (i := 10) rfl)
  have c11 : (0 + (1 * ρ 1 + ((-1) * ρ 8 + 0)) : Int) ≤ 0 := hc _ (List.mem_of_getElem? (i := 11) rfl)
  have c12 : (0 + ((-1) * ρ 2 + (1 * ρ 9 + 0)) : Int) ≤ 0 := hc _ (List.mem_of_getElem? (i := 12) rfl)
  have c13 : (0 + (1 * ρ 2 + ((-1) * ρ 9 + 0)) : Int) ≤ 0 := hc _ (List.mem_of_getElem? (i := 13) rfl)
  have c14 : (0 + ((-1) * ρ 1 + (1 * ρ 10 + 0)) : Int) ≤ 0 := hc _ (List.mem_of_getElem? (i := 14) rfl)
  have c15 : (0 + (1 * ρ 1 + ((-1) * ρ 10 + 0)) : Int) ≤ 0 := hc _ (List.mem_of_getElem? (i := 15) rfl)
  obtain ⟨t, e_t⟩ : ∃ x : Nat, ρ 1 = (x : Int) := ⟨(ρ 1).toNat, by omega⟩
  have t0 := h64 _ _ _ (qtl (a := 64) hm 0 rfl (by decide))
  have q1 : rv h 120 (22) = ρ 2 := qrv hm 1 rfl (by decide) (by decide +kernel) (by show (22 + 0 : Int) = ((22 : Nat) : Int); omega)
  have a2 := qal hm 2 rfl (by decide)
  have a3 := qal hm 3 rfl (by decide)
  have a4 := qal hm 4 rfl (by decide)
  have a5 := qal hm 5 rfl (by decide)
  have a6 := qal hm 6 rfl (by decide)
  have a7 := qal hm 7 rfl (by decide)
  have a8 := qal hm 8 rfl (by decide)
  have a9 := qal hm 9 rfl (by decide)
  obtain ⟨n, H, mare, hold, nt, ne, bd, ey, dm, pl, g0, x0, x1, x2, x3, x4, xF, xG, ⟨o2, o3, o4, o5, oB, oP, oN, oL, oM⟩, ⟨gW, gMa, gS, gA, gO, gD, gU, gQ, gV, gK, gB⟩, yP, yR⟩ := t0
  have hM : ρ 2 = (n : Int) := q1.symm.trans x0
  have hk : n ≤ 6 := o3
  have p0 : qag pReg h 6000000000000612105 (1 + (1 * ρ 1 + 0)) (0 + (1 * ρ 2 + 0)) := by
    have e : (0 + (1 * ρ 2 + 0) : Int) = sv ρ (sY 3) := by rw [sY_v]; omega
    rw [e]
    exact a2
  have s0 : qag pReg h 6006000000000000612105 (0 + (1 * ρ 2 + 0)) (ρ 1) := by
    have e : (ρ 1 : Int) = sv ρ (sY 4) := by rw [sY_v]; omega
    rw [e]
    exact a3
  have z0 := qag_core p0 s0 (by decide +kernel) (fun i i1 i2 => by
    obtain ⟨u, e_u⟩ : ∃ u : Nat, i = (u : Int) := ⟨i.toNat, by omega⟩
    have key := yR t 0 u (by omega) (by decide) (by omega) (by omega)
    show h.1 610 (0 + 6 * ρ 1 + i).toNat = h.1 610 (0 + 6 * (1 + (1 * ρ 1 + 0)) + i).toNat
    rw [show (0 + 6 * ρ 1 + i).toNat = 6 * t + u by omega, show (0 + 6 * (1 + (1 * ρ 1 + 0)) + i).toNat = 6 * t + u + 6 by omega]
    have qq : qk 610 = 610 := qk_g (by decide) (by decide) (pReg_g (by decide) (by decide))
    unfold rv yv at key
    rw [show 610 + 0 = 610 from rfl, qq] at key
    exact (Int32.toInt_inj.mp key).symm)
  have p1 : qag pReg h 6000000000000613108 (1 + (1 * ρ 1 + 0)) (0 + (1 * ρ 2 + 0)) := by
    have e : (0 + (1 * ρ 2 + 0) : Int) = sv ρ (sY 5) := by rw [sY_v]; omega
    rw [e]
    exact a4
  have s1 : qag pReg h 6006000000000000613108 (0 + (1 * ρ 2 + 0)) (ρ 1) := by
    have e : (ρ 1 : Int) = sv ρ (sY 6) := by rw [sY_v]; omega
    rw [e]
    exact a5
  have z1 := qag_core p1 s1 (by decide +kernel) (fun i i1 i2 => by
    obtain ⟨u, e_u⟩ : ∃ u : Nat, i = (u : Int) := ⟨i.toNat, by omega⟩
    have key := yR t 1 u (by omega) (by decide) (by omega) (by omega)
    show h.1 611 (0 + 6 * ρ 1 + i).toNat = h.1 611 (0 + 6 * (1 + (1 * ρ 1 + 0)) + i).toNat
    rw [show (0 + 6 * ρ 1 + i).toNat = 6 * t + u by omega, show (0 + 6 * (1 + (1 * ρ 1 + 0)) + i).toNat = 6 * t + u + 6 by omega]
    have qq : qk 611 = 611 := qk_g (by decide) (by decide) (pReg_g (by decide) (by decide))
    unfold rv yv at key
    rw [show 610 + 1 = 611 from rfl, qq] at key
    exact (Int32.toInt_inj.mp key).symm)
  have p2 : qag pReg h 6000000000000614106 (1 + (1 * ρ 1 + 0)) (0 + (1 * ρ 2 + 0)) := by
    have e : (0 + (1 * ρ 2 + 0) : Int) = sv ρ (sY 7) := by rw [sY_v]; omega
    rw [e]
    exact a6
  have s2 : qag pReg h 6006000000000000614106 (0 + (1 * ρ 2 + 0)) (ρ 1) := by
    have e : (ρ 1 : Int) = sv ρ (sY 8) := by rw [sY_v]; omega
    rw [e]
    exact a7
  have z2 := qag_core p2 s2 (by decide +kernel) (fun i i1 i2 => by
    obtain ⟨u, e_u⟩ : ∃ u : Nat, i = (u : Int) := ⟨i.toNat, by omega⟩
    have key := yR t 2 u (by omega) (by decide) (by omega) (by omega)
    show h.1 612 (0 + 6 * ρ 1 + i).toNat = h.1 612 (0 + 6 * (1 + (1 * ρ 1 + 0)) + i).toNat
    rw [show (0 + 6 * ρ 1 + i).toNat = 6 * t + u by omega, show (0 + 6 * (1 + (1 * ρ 1 + 0)) + i).toNat = 6 * t + u + 6 by omega]
    have qq : qk 612 = 612 := qk_g (by decide) (by decide) (pReg_g (by decide) (by decide))
    unfold rv yv at key
    rw [show 610 + 2 = 612 from rfl, qq] at key
    exact (Int32.toInt_inj.mp key).symm)
  have p3 : qag pReg h 6000000000000615107 (1 + (1 * ρ 1 + 0)) (0 + (1 * ρ 2 + 0)) := by
    have e : (0 + (1 * ρ 2 + 0) : Int) = sv ρ (sY 9) := by rw [sY_v]; omega
    rw [e]
    exact a8
  have s3 : qag pReg h 6006000000000000615107 (0 + (1 * ρ 2 + 0)) (ρ 1) := by
    have e : (ρ 1 : Int) = sv ρ (sY 10) := by rw [sY_v]; omega
    rw [e]
    exact a9
  have z3 := qag_core p3 s3 (by decide +kernel) (fun i i1 i2 => by
    obtain ⟨u, e_u⟩ : ∃ u : Nat, i = (u : Int) := ⟨i.toNat, by omega⟩
    have key := yR t 3 u (by omega) (by decide) (by omega) (by omega)
    show h.1 613 (0 + 6 * ρ 1 + i).toNat = h.1 613 (0 + 6 * (1 + (1 * ρ 1 + 0)) + i).toNat
    rw [show (0 + 6 * ρ 1 + i).toNat = 6 * t + u by omega, show (0 + 6 * (1 + (1 * ρ 1 + 0)) + i).toNat = 6 * t + u + 6 by omega]
    have qq : qk 613 = 613 := qk_g (by decide) (by decide) (pReg_g (by decide) (by decide))
    unfold rv yv at key
    rw [show 610 + 3 = 613 from rfl, qq] at key
    exact (Int32.toInt_inj.mp key).symm)
  exact ⟨_, List.mem_of_getElem? (i := 0) rfl, rfl, rfl, pAll0, (pAll1 (qfg (by decide) (by exact qag_suf z0 (by decide +kernel) (show 0 ≤ (1 + (1 * ρ 1 + 0) : Int) by omega))) (pAll1 (qfg (by decide) (by exact qag_suf z1 (by decide +kernel) (show 0 ≤ (1 + (1 * ρ 1 + 0) : Int) by omega))) (pAll1 (qfg (by decide) (by exact qag_suf z2 (by decide +kernel) (show 0 ≤ (1 + (1 * ρ 1 + 0) : Int) by omega))) (pAll1 (qfg (by decide) (by exact qag_suf z3 (by decide +kernel) (show 0 ≤ (1 + (1 * ρ 1 + 0) : Int) by omega))) pAll0))))⟩)

theorem qR_fu0now_ok : pRulQ pReg qG gv qR_fu0now := qrul (by decide +kernel) (fun h ρ hG hm hb hc => by
  have b0 : (1 : Int) ≤ ρ 0 ∧ ρ 0 ≤ 1 := hb 0 (1, 1) rfl
  have b1 : (2 : Int) ≤ ρ 1 ∧ ρ 1 ≤ 6 := hb 1 (2, 6) rfl
  have b2 : (2 : Int) ≤ ρ 2 ∧ ρ 2 ≤ 6 := hb 2 (2, 6) rfl
  have b3 : (0 : Int) ≤ ρ 3 ∧ ρ 3 ≤ 0 := hb 3 (0, 0) rfl
  have b4 : (2 : Int) ≤ ρ 4 ∧ ρ 4 ≤ 6 := hb 4 (2, 6) rfl
  have b5 : (0 : Int) ≤ ρ 5 ∧ ρ 5 ≤ 0 := hb 5 (0, 0) rfl
  have b6 : (2 : Int) ≤ ρ 6 ∧ ρ 6 ≤ 6 := hb 6 (2, 6) rfl
  have b7 : (0 : Int) ≤ ρ 7 ∧ ρ 7 ≤ 0 := hb 7 (0, 0) rfl
  have b8 : (2 : Int) ≤ ρ 8 ∧ ρ 8 ≤ 6 := hb 8 (2, 6) rfl
  have b9 : (0 : Int) ≤ ρ 9 ∧ ρ 9 ≤ 0 := hb 9 (0, 0) rfl
  have c0 : (0 + ((-1) * ρ 1 + (1 * ρ 2 + 0)) : Int) ≤ 0 := hc _ (List.mem_of_getElem? (i := 0) rfl)
  have c1 : (0 + (1 * ρ 1 + ((-1) * ρ 2 + 0)) : Int) ≤ 0 := hc _ (List.mem_of_getElem? (i := 1) rfl)
  have c2 : (0 + ((-1) * ρ 1 + (1 * ρ 4 + 0)) : Int) ≤ 0 := hc _ (List.mem_of_getElem? (i := 2) rfl)
  have c3 : (0 + (1 * ρ 1 + ((-1) * ρ 4 + 0)) : Int) ≤ 0 := hc _ (List.mem_of_getElem? (i := 3) rfl)
  have c4 : (0 + ((-1) * ρ 1 + (1 * ρ 6 + 0)) : Int) ≤ 0 := hc _ (List.mem_of_getElem? (i := 4) rfl)
  have c5 : (0 + (1 * ρ 1 + ((-1) * ρ 6 + 0)) : Int) ≤ 0 := hc _ (List.mem_of_getElem? (i := 5) rfl)
  have c6 : (0 + ((-1) * ρ 1 + (1 * ρ 8 + 0)) : Int) ≤ 0 := hc _ (List.mem_of_getElem? (i := 6) rfl)
  have c7 : (0 + (1 * ρ 1 + ((-1) * ρ 8 + 0)) : Int) ≤ 0 := hc _ (List.mem_of_getElem? (i := 7) rfl)
  have q1 : rv h 56 (0) = ρ 1 := qrv hm 1 rfl (by decide) (by decide +kernel) (by show (0 + 0 : Int) = ((0 : Nat) : Int); omega)
  have a2 := qal hm 2 rfl (by decide)
  have a3 := qal hm 3 rfl (by decide)
  have a4 := qal hm 4 rfl (by decide)
  have a5 := qal hm 5 rfl (by decide)
  have a6 := qal hm 6 rfl (by decide)
  have a7 := qal hm 7 rfl (by decide)
  have a8 := qal hm 8 rfl (by decide)
  have a9 := qal hm 9 rfl (by decide)
  have p0 : qag pReg h 6000000000000612060 0 (0 + (1 * ρ 1 + 0)) := by
    have e : (0 + (1 * ρ 1 + 0) : Int) = sv ρ (sY 2) := by rw [sY_v]; omega
    rw [e]
    exact a2
  have s0 : qag pReg h 6006000000000000612060 (0 + (1 * ρ 1 + 0)) 0 := by
    have e : (0 : Int) = sv ρ (sY 3) := by rw [sY_v]; omega
    have q : qag pReg h 6006000000000000612060 (0 + (1 * ρ 1 + 0)) (sv ρ (sY 3)) := a3
    rw [← e] at q
    exact q
  have z0 := qag_core p0 s0 (by decide +kernel) (fun i i1 i2 => rfl)
  have p1 : qag pReg h 6000000000000613061 0 (0 + (1 * ρ 1 + 0)) := by
    have e : (0 + (1 * ρ 1 + 0) : Int) = sv ρ (sY 4) := by rw [sY_v]; omega
    rw [e]
    exact a4
  have s1 : qag pReg h 6006000000000000613061 (0 + (1 * ρ 1 + 0)) 0 := by
    have e : (0 : Int) = sv ρ (sY 5) := by rw [sY_v]; omega
    have q : qag pReg h 6006000000000000613061 (0 + (1 * ρ 1 + 0)) (sv ρ (sY 5)) := a5
    rw [← e] at q
    exact q
  have z1 := qag_core p1 s1 (by decide +kernel) (fun i i1 i2 => rfl)
  have p2 : qag pReg h 6000000000000614062 0 (0 + (1 * ρ 1 + 0)) := by
    have e : (0 + (1 * ρ 1 + 0) : Int) = sv ρ (sY 6) := by rw [sY_v]; omega
    rw [e]
    exact a6
  have s2 : qag pReg h 6006000000000000614062 (0 + (1 * ρ 1 + 0)) 0 := by
    have e : (0 : Int) = sv ρ (sY 7) := by rw [sY_v]; omega
    have q : qag pReg h 6006000000000000614062 (0 + (1 * ρ 1 + 0)) (sv ρ (sY 7)) := a7
    rw [← e] at q
    exact q
  have z2 := qag_core p2 s2 (by decide +kernel) (fun i i1 i2 => rfl)
  have p3 : qag pReg h 6000000000000615063 0 (0 + (1 * ρ 1 + 0)) := by
    have e : (0 + (1 * ρ 1 + 0) : Int) = sv ρ (sY 8) := by rw [sY_v]; omega
    rw [e]
    exact a8
  have s3 : qag pReg h 6006000000000000615063 (0 + (1 * ρ 1 + 0)) 0 := by
    have e : (0 : Int) = sv ρ (sY 9) := by rw [sY_v]; omega
    have q : qag pReg h 6006000000000000615063 (0 + (1 * ρ 1 + 0)) (sv ρ (sY 9)) := a9
    rw [← e] at q
    exact q
  have z3 := qag_core p3 s3 (by decide +kernel) (fun i i1 i2 => rfl)
  exact ⟨_, List.mem_of_getElem? (i := 0) rfl, rfl, rfl, pAll0, (pAll1 (qfg (by decide) (by exact qag_suf z0 (by decide +kernel) (Int.le_refl 0))) (pAll1 (qfg (by decide) (by exact qag_suf z1 (by decide +kernel) (Int.le_refl 0))) (pAll1 (qfg (by decide) (by exact qag_suf z2 (by decide +kernel) (Int.le_refl 0))) (pAll1 (qfg (by decide) (by exact qag_suf z3 (by decide +kernel) (Int.le_refl 0))) pAll0))))⟩)

theorem qR_fu0trial_ok : pRulQ pReg qG gv qR_fu0trial := qrul (by decide +kernel) (fun h ρ hG hm hb hc => by
  have b0 : (1 : Int) ≤ ρ 0 ∧ ρ 0 ≤ 1 := hb 0 (1, 1) rfl
  have b1 : (2 : Int) ≤ ρ 1 ∧ ρ 1 ≤ 6 := hb 1 (2, 6) rfl
  have b2 : (2 : Int) ≤ ρ 2 ∧ ρ 2 ≤ 6 := hb 2 (2, 6) rfl
  have b3 : (0 : Int) ≤ ρ 3 ∧ ρ 3 ≤ 0 := hb 3 (0, 0) rfl
  have b4 : (2 : Int) ≤ ρ 4 ∧ ρ 4 ≤ 6 := hb 4 (2, 6) rfl
  have b5 : (0 : Int) ≤ ρ 5 ∧ ρ 5 ≤ 0 := hb 5 (0, 0) rfl
  have b6 : (2 : Int) ≤ ρ 6 ∧ ρ 6 ≤ 6 := hb 6 (2, 6) rfl
  have b7 : (0 : Int) ≤ ρ 7 ∧ ρ 7 ≤ 0 := hb 7 (0, 0) rfl
  have b8 : (2 : Int) ≤ ρ 8 ∧ ρ 8 ≤ 6 := hb 8 (2, 6) rfl
  have b9 : (0 : Int) ≤ ρ 9 ∧ ρ 9 ≤ 0 := hb 9 (0, 0) rfl
  have c0 : (0 + ((-1) * ρ 1 + (1 * ρ 2 + 0)) : Int) ≤ 0 := hc _ (List.mem_of_getElem? (i := 0) rfl)
  have c1 : (0 + (1 * ρ 1 + ((-1) * ρ 2 + 0)) : Int) ≤ 0 := hc _ (List.mem_of_getElem? (i := 1) rfl)
  have c2 : (0 + ((-1) * ρ 1 + (1 * ρ 4 + 0)) : Int) ≤ 0 := hc _ (List.mem_of_getElem? (i := 2) rfl)
  have c3 : (0 + (1 * ρ 1 + ((-1) * ρ 4 + 0)) : Int) ≤ 0 := hc _ (List.mem_of_getElem? (i := 3) rfl)
  have c4 : (0 + ((-1) * ρ 1 + (1 * ρ 6 + 0)) : Int) ≤ 0 := hc _ (List.mem_of_getElem? (i := 4) rfl)
  have c5 : (0 + (1 * ρ 1 + ((-1) * ρ 6 + 0)) : Int) ≤ 0 := hc _ (List.mem_of_getElem? (i := 5) rfl)
  have c6 : (0 + ((-1) * ρ 1 + (1 * ρ 8 + 0)) : Int) ≤ 0 := hc _ (List.mem_of_getElem? (i := 6) rfl)
  have c7 : (0 + (1 * ρ 1 + ((-1) * ρ 8 + 0)) : Int) ≤ 0 := hc _ (List.mem_of_getElem? (i := 7) rfl)
  have q1 : rv h 56 (0) = ρ 1 := qrv hm 1 rfl (by decide) (by decide +kernel) (by show (0 + 0 : Int) = ((0 : Nat) : Int); omega)
  have a2 := qal hm 2 rfl (by decide)
  have a3 := qal hm 3 rfl (by decide)
  have a4 := qal hm 4 rfl (by decide)
  have a5 := qal hm 5 rfl (by decide)
  have a6 := qal hm 6 rfl (by decide)
  have a7 := qal hm 7 rfl (by decide)
  have a8 := qal hm 8 rfl (by decide)
  have a9 := qal hm 9 rfl (by decide)
  have p0 : qag pReg h 6000000000000612060 0 (0 + (1 * ρ 1 + 0)) := by
    have e : (0 + (1 * ρ 1 + 0) : Int) = sv ρ (sY 2) := by rw [sY_v]; omega
    rw [e]
    exact a2
  have s0 : qag pReg h 6006000000000000612060 (0 + (1 * ρ 1 + 0)) 0 := by
    have e : (0 : Int) = sv ρ (sY 3) := by rw [sY_v]; omega
    have q : qag pReg h 6006000000000000612060 (0 + (1 * ρ 1 + 0)) (sv ρ (sY 3)) := a3
    rw [← e] at q
    exact q
  have z0 := qag_core p0 s0 (by decide +kernel) (fun i i1 i2 => rfl)
  have p1 : qag pReg h 6000000000000613061 0 (0 + (1 * ρ 1 + 0)) := by
    have e : (0 + (1 * ρ 1 + 0) : Int) = sv ρ (sY 4) := by rw [sY_v]; omega
    rw [e]
    exact a4
  have s1 : qag pReg h 6006000000000000613061 (0 + (1 * ρ 1 + 0)) 0 := by
    have e : (0 : Int) = sv ρ (sY 5) := by rw [sY_v]; omega
    have q : qag pReg h 6006000000000000613061 (0 + (1 * ρ 1 + 0)) (sv ρ (sY 5)) := a5
    rw [← e] at q
    exact q
  have z1 := qag_core p1 s1 (by decide +kernel) (fun i i1 i2 => rfl)
  have p2 : qag pReg h 6000000000000614062 0 (0 + (1 * ρ 1 + 0)) := by
    have e : (0 + (1 * ρ 1 + 0) : Int) = sv ρ (sY 6) := by rw [sY_v]; omega
    rw [e]
    exact a6
  have s2 : qag pReg h 6006000000000000614062 (0 + (1 * ρ 1 + 0)) 0 := by
    have e : (0 : Int) = sv ρ (sY 7) := by rw [sY_v]; omega
    have q : qag pReg h 6006000000000000614062 (0 + (1 * ρ 1 + 0)) (sv ρ (sY 7)) := a7
    rw [← e] at q
    exact q
  have z2 := qag_core p2 s2 (by decide +kernel) (fun i i1 i2 => rfl)
  have p3 : qag pReg h 6000000000000615063 0 (0 + (1 * ρ 1 + 0)) := by
    have e : (0 + (1 * ρ 1 + 0) : Int) = sv ρ (sY 8) := by rw [sY_v]; omega
    rw [e]
    exact a8
  have s3 : qag pReg h 6006000000000000615063 (0 + (1 * ρ 1 + 0)) 0 := by
    have e : (0 : Int) = sv ρ (sY 9) := by rw [sY_v]; omega
    have q : qag pReg h 6006000000000000615063 (0 + (1 * ρ 1 + 0)) (sv ρ (sY 9)) := a9
    rw [← e] at q
    exact q
  have z3 := qag_core p3 s3 (by decide +kernel) (fun i i1 i2 => rfl)
  exact ⟨_, List.mem_of_getElem? (i := 0) rfl, rfl, rfl, pAll0, (pAll1 (qfg (by decide) (by exact qag_suf z0 (by decide +kernel) (Int.le_refl 0))) (pAll1 (qfg (by decide) (by exact qag_suf z1 (by decide +kernel) (Int.le_refl 0))) (pAll1 (qfg (by decide) (by exact qag_suf z2 (by decide +kernel) (Int.le_refl 0))) (pAll1 (qfg (by decide) (by exact qag_suf z3 (by decide +kernel) (Int.le_refl 0))) pAll0))))⟩)

theorem qR_pfnow_ok (h60 : ∀ x y h, gv 60 x y h → cGh h) : pRulQ pReg qG gv qR_pfnow := qrul (by decide +kernel) (fun h ρ hG hm hb hc => by
  have b0 : (1 : Int) ≤ ρ 0 ∧ ρ 0 ≤ 1 := hb 0 (1, 1) rfl
  have b1 : (2 : Int) ≤ ρ 1 ∧ ρ 1 ≤ 6 := hb 1 (2, 6) rfl
  have b2 : (0 : Int) ≤ ρ 2 ∧ ρ 2 ≤ 6 := hb 2 (0, 6) rfl
  have b3 : (0 : Int) ≤ ρ 3 ∧ ρ 3 ≤ 0 := hb 3 (0, 0) rfl
  have b4 : (0 : Int) ≤ ρ 4 ∧ ρ 4 ≤ 6 := hb 4 (0, 6) rfl
  have b5 : (0 : Int) ≤ ρ 5 ∧ ρ 5 ≤ 0 := hb 5 (0, 0) rfl
  have c0 : (0 + ((-1) * ρ 1 + (1 * ρ 2 + 0)) : Int) ≤ 0 := hc _ (List.mem_of_getElem? (i := 0) rfl)
  have c1 : (0 + (1 * ρ 1 + ((-1) * ρ 2 + 0)) : Int) ≤ 0 := hc _ (List.mem_of_getElem? (i := 1) rfl)
  have c2 : (0 + ((-1) * ρ 1 + (1 * ρ 4 + 0)) : Int) ≤ 0 := hc _ (List.mem_of_getElem? (i := 2) rfl)
  have c3 : (0 + (1 * ρ 1 + ((-1) * ρ 4 + 0)) : Int) ≤ 0 := hc _ (List.mem_of_getElem? (i := 3) rfl)
  have t0 := h60 _ _ _ (qtl (a := 60) hm 0 rfl (by decide))
  have q1 : rv h 56 (0) = ρ 1 := qrv hm 1 rfl (by decide) (by decide +kernel) (by show (0 + 0 : Int) = ((0 : Nat) : Int); omega)
  have a2 := qal hm 2 rfl (by decide)
  have a3 := qal hm 3 rfl (by decide)
  have a4 := qal hm 4 rfl (by decide)
  have a5 := qal hm 5 rfl (by decide)
  obtain ⟨n, H, x0, x1, o3, xB, gB, yP, yR⟩ := t0
  have hM : ρ 1 = (n : Int) := q1.symm.trans x0
  have p0 : qag pReg h 633003 0 (0 + (1 * ρ 1 + 0)) := by
    have e : (0 + (1 * ρ 1 + 0) : Int) = sv ρ (sY 2) := by rw [sY_v]; omega
    rw [e]
    exact a2
  have s0 : qag pReg h 6000000000000000632003 (0 + (1 * ρ 1 + 0)) 0 := by
    have e : (0 : Int) = sv ρ (sY 3) := by rw [sY_v]; omega
    have q : qag pReg h 6000000000000000632003 (0 + (1 * ρ 1 + 0)) (sv ρ (sY 3)) := a3
    rw [← e] at q
    exact q
  have z0 := qag_core p0 s0 (by decide +kernel) (fun i i1 i2 => by
    obtain ⟨u, e_u⟩ : ∃ u : Nat, i = (u : Int) := ⟨i.toNat, by omega⟩
    have key := ((yP u).2 (by omega) (by omega)).1
    show h.1 630 (0 + 0 * 0 + i).toNat = h.1 631 (0 + 0 * 0 + i).toNat
    rw [show (0 + 0 * 0 + i).toNat = u by omega]
    have qq : qk 630 = 630 := qk_g (by decide) (by decide) (pReg_g (by decide) (by decide))
    have qr : qk 631 = 631 := qk_g (by decide) (by decide) (pReg_g (by decide) (by decide))
    unfold rv yv at key
    rw [qq, qr] at key
    exact (Int32.toInt_inj.mp key).symm)
  have p1 : qag pReg h 635004 0 (0 + (1 * ρ 1 + 0)) := by
    have e : (0 + (1 * ρ 1 + 0) : Int) = sv ρ (sY 4) := by rw [sY_v]; omega
    rw [e]
    exact a4
  have s1 : qag pReg h 6000000000000000634004 (0 + (1 * ρ 1 + 0)) 0 := by
    have e : (0 : Int) = sv ρ (sY 5) := by rw [sY_v]; omega
    have q : qag pReg h 6000000000000000634004 (0 + (1 * ρ 1 + 0)) (sv ρ (sY 5)) := a5
    rw [← e] at q
    exact q
  have z1 := qag_core p1 s1 (by decide +kernel) (fun i i1 i2 => by
    obtain ⟨u, e_u⟩ : ∃ u : Nat, i = (u : Int) := ⟨i.toNat, by omega⟩
    have key := ((yP u).2 (by omega) (by omega)).2
    show h.1 632 (0 + 0 * 0 + i).toNat = h.1 633 (0 + 0 * 0 + i).toNat
    rw [show (0 + 0 * 0 + i).toNat = u by omega]
    have qq : qk 632 = 632 := qk_g (by decide) (by decide) (pReg_g (by decide) (by decide))
    have qr : qk 633 = 633 := qk_g (by decide) (by decide) (pReg_g (by decide) (by decide))
    unfold rv yv at key
    rw [qq, qr] at key
    exact (Int32.toInt_inj.mp key).symm)
  exact ⟨_, List.mem_of_getElem? (i := 0) rfl, rfl, rfl, pAll0, (pAll1 (qfg (by decide) (by exact qag_pre z0 (by decide +kernel) (Int.le_refl 0))) (pAll1 (qfg (by decide) (by exact qag_pre z1 (by decide +kernel) (Int.le_refl 0))) pAll0))⟩)

theorem qR_pfm_ok (h64 : ∀ x y h, gv 64 x y h → mGh h) : pRulQ pReg qG gv qR_pfm := qrul (by decide +kernel) (fun h ρ hG hm hb hc => by
  have b0 : (1 : Int) ≤ ρ 0 ∧ ρ 0 ≤ 1 := hb 0 (1, 1) rfl
  have b1 : (2 : Int) ≤ ρ 1 ∧ ρ 1 ≤ 6 := hb 1 (2, 6) rfl
  have b2 : (0 : Int) ≤ ρ 2 ∧ ρ 2 ≤ 6 := hb 2 (0, 6) rfl
  have b3 : (0 : Int) ≤ ρ 3 ∧ ρ 3 ≤ 0 := hb 3 (0, 0) rfl
  have b4 : (0 : Int) ≤ ρ 4 ∧ ρ 4 ≤ 6 := hb 4 (0, 6) rfl
  have b5 : (0 : Int) ≤ ρ 5 ∧ ρ 5 ≤ 0 := hb 5 (0, 0) rfl
  have c0 : (0 + ((-1) * ρ 1 + (1 * ρ 2 + 0)) : Int) ≤ 0 := hc _ (List.mem_of_getElem? (i := 0) rfl)
  have c1 : (0 + (1 * ρ 1 + ((-1) * ρ 2 + 0)) : Int) ≤ 0 := hc _ (List.mem_of_getElem? (i := 1) rfl)
  have c2 : (0 + ((-1) * ρ 1 + (1 * ρ 4 + 0)) : Int) ≤ 0 := hc _ (List.mem_of_getElem? (i := 2) rfl)
  have c3 : (0 + (1 * ρ 1 + ((-1) * ρ 4 + 0)) : Int) ≤ 0 := hc _ (List.mem_of_getElem? (i := 3) rfl)
  have t0 := h64 _ _ _ (qtl (a := 64) hm 0 rfl (by decide))
  have q1 : rv h 120 (22) = ρ 1 := qrv hm 1 rfl (by decide) (by decide +kernel) (by show (22 + 0 : Int) = ((22 : Nat) : Int); omega)
  have a2 := qal hm 2 rfl (by decide)
  have a3 := qal hm 3 rfl (by decide)
  have a4 := qal hm 4 rfl (by decide)
  have a5 := qal hm 5 rfl (by decide)
  obtain ⟨n, H, mare, hold, nt, ne, bd, ey, dm, pl, g0, x0, x1, x2, x3, x4, xF, xG, ⟨o2, o3, o4, o5, oB, oP, oN, oL, oM⟩, ⟨gW, gMa, gS, gA, gO, gD, gU, gQ, gV, gK, gB⟩, yP, yR⟩ := t0
  have hM : ρ 1 = (n : Int) := q1.symm.trans x0
  have p0 : qag pReg h 18633101 0 (0 + (1 * ρ 1 + 0)) := by
    have e : (0 + (1 * ρ 1 + 0) : Int) = sv ρ (sY 2) := by rw [sY_v]; omega
    rw [e]
    exact a2
  have s0 : qag pReg h 6000000000000018632101 (0 + (1 * ρ 1 + 0)) 0 := by
    have e : (0 : Int) = sv ρ (sY 3) := by rw [sY_v]; omega
    have q : qag pReg h 6000000000000018632101 (0 + (1 * ρ 1 + 0)) (sv ρ (sY 3)) := a3
    rw [← e] at q
    exact q
  have z0 := qag_core p0 s0 (by decide +kernel) (fun i i1 i2 => by
    obtain ⟨u, e_u⟩ : ∃ u : Nat, i = (u : Int) := ⟨i.toNat, by omega⟩
    have key := ((yP u).2 (by omega) (by omega)).1
    show h.1 630 (0 + 0 * 0 + i).toNat = h.1 631 (0 + 0 * 0 + i).toNat
    rw [show (0 + 0 * 0 + i).toNat = u by omega]
    have qq : qk 630 = 630 := qk_g (by decide) (by decide) (pReg_g (by decide) (by decide))
    have qr : qk 631 = 631 := qk_g (by decide) (by decide) (pReg_g (by decide) (by decide))
    unfold rv yv at key
    rw [qq, qr] at key
    exact (Int32.toInt_inj.mp key).symm)
  have p1 : qag pReg h 24635101 0 (0 + (1 * ρ 1 + 0)) := by
    have e : (0 + (1 * ρ 1 + 0) : Int) = sv ρ (sY 4) := by rw [sY_v]; omega
    rw [e]
    exact a4
  have s1 : qag pReg h 6000000000000024634101 (0 + (1 * ρ 1 + 0)) 0 := by
    have e : (0 : Int) = sv ρ (sY 5) := by rw [sY_v]; omega
    have q : qag pReg h 6000000000000024634101 (0 + (1 * ρ 1 + 0)) (sv ρ (sY 5)) := a5
    rw [← e] at q
    exact q
  have z1 := qag_core p1 s1 (by decide +kernel) (fun i i1 i2 => by
    obtain ⟨u, e_u⟩ : ∃ u : Nat, i = (u : Int) := ⟨i.toNat, by omega⟩
    have key := ((yP u).2 (by omega) (by omega)).2
    show h.1 632 (0 + 0 * 0 + i).toNat = h.1 633 (0 + 0 * 0 + i).toNat
    rw [show (0 + 0 * 0 + i).toNat = u by omega]
    have qq : qk 632 = 632 := qk_g (by decide) (by decide) (pReg_g (by decide) (by decide))
    have qr : qk 633 = 633 := qk_g (by decide) (by decide) (pReg_g (by decide) (by decide))
    unfold rv yv at key
    rw [qq, qr] at key
    exact (Int32.toInt_inj.mp key).symm)
  exact ⟨_, List.mem_of_getElem? (i := 0) rfl, rfl, rfl, pAll0, (pAll1 (qfg (by decide) (by exact qag_pre z0 (by decide +kernel) (Int.le_refl 0))) (pAll1 (qfg (by decide) (by exact qag_pre z1 (by decide +kernel) (Int.le_refl 0))) pAll0))⟩)

end MRUL
