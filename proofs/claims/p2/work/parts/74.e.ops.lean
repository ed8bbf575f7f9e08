/-! a law's worth, by hand: numbers -/
section WRT
noncomputable def hld (v : Int) : Int := if 1000000 < v then 1000000 else if v < -1000000 then -1000000 else v
theorem hld_b (v : Int) : -1000000 ≤ hld v ∧ hld v ≤ 1000000 := by
  unfold hld
  split
  · omega
  · split <;> omega
noncomputable def sgOk (g : Int) : Prop := g = 43 ∨ g = 45 ∨ g = 42 ∨ g = 47 ∨ g = 61 ∨ g = 60 ∨ g = 62 ∨ g = 38 ∨ g = 124
noncomputable def rOp (g a b : Int) : Int := if g = 43 then a + b else if g = 45 then a - b else if g = 42 then a * b else if g = 47 then (if b = 0 then 0 else a.tdiv b) else if g = 61 then (if a = b then 1 else 0) else if g = 60 then (if a < b then 1 else 0) else if g = 62 then (if b < a then 1 else 0) else if g = 38 then (if ¬ a = 0 ∧ ¬ b = 0 then 1 else 0) else (if ¬ a = 0 ∨ ¬ b = 0 then 1 else 0)
theorem zar_i {c n : Nat} {q : List Nat} (h : yTab c = .inr (0, n, q)) : zar yTab c 0 = some (n, q) := by
  unfold zar
  rw [h]
  rfl
theorem mul6 {a b : Int} (ha : -1000000 ≤ a ∧ a ≤ 1000000) (hb : -1000000 ≤ b ∧ b ≤ 1000000) : -1000000000000 ≤ a * b ∧ a * b ≤ 1000000000000 := by
  have h1 : (a * b).natAbs ≤ 1000000 * 1000000 := by
    rw [Int.natAbs_mul]
    exact Nat.mul_le_mul (by omega) (by omega)
  omega
theorem tdiv6 {a b : Int} (ha : -1000000 ≤ a ∧ a ≤ 1000000) : -1000000 ≤ a.tdiv b ∧ a.tdiv b ≤ 1000000 := by
  have := Int.natAbs_tdiv_le_natAbs a b
  omega
variable {m d : Nat} {h : zH} {res : Option zV × zH}

theorem rn_held {x : Int64} (hr : yrun m d 218 [.inr (.inl x)] h = some res) : ∃ r : Int32, res = (some (.inl r), h) ∧ r.toInt = hld x.toInt := by
  unfold hld
  have hr : yz m d 218 0 (zent 0 [.inr (.inl (x))]) [] h = some res := hr
  have g0 : zget (zent 0 [.inr (.inl (x))]) 0 = some (.inr (.inl (x))) := rfl
  generalize zent 0 [.inr (.inl (x))] = loc at hr g0
  obtain ⟨_, hr⟩ : ∃ m', yz m' d 218 1 loc [.inr (.inl (x))] h = some res := sllh (k := 0) (by decide +kernel) g0 hr
  obtain ⟨_, hr⟩ : ∃ m', yz m' d 218 4 loc [.inr (.inl ((1000000 : Int64))), .inr (.inl (x))] h = some res := slc2 (x := 53) (by decide +kernel) (by decide +kernel) hr
  generalize ev1 : (1000000 : Int64) = v1 at hr
  have tv1 : v1.toInt = 1000000 := by rw [← ev1]; exact (by decide)
  obtain ⟨_, hr⟩ : ∃ m', yz m' d 218 5 loc [.inl (lg_cmp (x) (v1))] h = some res := scm (by decide +kernel) hr
  generalize ev2 : lg_cmp (x) (v1) = v2 at hr
  have tv2 : v2.toInt = if x.toInt < v1.toInt then -1 else if x.toInt = v1.toInt then 0 else 1 := by rw [← ev2]; exact (scmp64 _ _)
  by_cases c1 : 1000000 < x.toInt
  · have t0 : v2.toInt = 1 := by rw [tv2, if_neg (by omega), if_neg (by omega)]
    obtain ⟨_, hr⟩ : ∃ m', yz m' d 218 8 loc [] h = some res := si1f (off := 6) (by decide +kernel) (by decide) (fun e => absurd (k1_le.mp e) (by omega)) hr
    obtain ⟨_, hr⟩ : ∃ m', yz m' d 218 10 loc [.inl ((1000000 : Int32))] h = some res := slc (x := 55) (by decide +kernel) (by decide +kernel) hr
    generalize ev3 : (1000000 : Int32) = v3 at hr
    have tv3 : v3.toInt = 1000000 := by rw [← ev3]; exact (by decide)
    have hr := senh (i := .ireturn) (r := some (.inl (v3))) (by decide +kernel) rfl rfl hr
    refine ⟨_, hr, ?_⟩
    rw [if_pos c1]
    omega
  · have t0 : v2.toInt ≤ 0 := by rw [tv2]; split <;> (try split) <;> first | decide | omega
    obtain ⟨_, hr⟩ : ∃ m', yz m' d 218 11 loc [] h = some res := si1t (off := 6) (by decide +kernel) (by decide) (k1_le.mpr (by omega)) hr
    obtain ⟨_, hr⟩ : ∃ m', yz m' d 218 12 loc [.inr (.inl (x))] h = some res := sllh (k := 0) (by decide +kernel) g0 hr
    obtain ⟨_, hr⟩ : ∃ m', yz m' d 218 15 loc [.inr (.inl ((-1000000 : Int64))), .inr (.inl (x))] h = some res := slc2 (x := 56) (by decide +kernel) (by decide +kernel) hr
    generalize ev4 : (-1000000 : Int64) = v4 at hr
    have tv4 : v4.toInt = -1000000 := by rw [← ev4]; exact (by decide)
    obtain ⟨_, hr⟩ : ∃ m', yz m' d 218 16 loc [.inl (lg_cmp (x) (v4))] h = some res := scm (by decide +kernel) hr
    generalize ev5 : lg_cmp (x) (v4) = v5 at hr
    have tv5 : v5.toInt = if x.toInt < v4.toInt then -1 else if x.toInt = v4.toInt then 0 else 1 := by rw [← ev5]; exact (scmp64 _ _)
    by_cases c2 : x.toInt < -1000000
    · have t1 : v5.toInt = -1 := by rw [tv5, if_pos (by omega)]
      obtain ⟨_, hr⟩ : ∃ m', yz m' d 218 19 loc [] h = some res := si1f (off := 8) (by decide +kernel) (by decide) (fun e => absurd (k1_ge.mp e) (by omega)) hr
      obtain ⟨_, hr⟩ : ∃ m', yz m' d 218 21 loc [.inl ((-1000000 : Int32))] h = some res := slc (x := 58) (by decide +kernel) (by decide +kernel) hr
      generalize ev6 : (-1000000 : Int32) = v6 at hr
      have tv6 : v6.toInt = -1000000 := by rw [← ev6]; exact (by decide)
      obtain ⟨_, hr⟩ : ∃ m', yz m' d 218 26 loc [.inl (v6)] h = some res := sgoh (off := 5) (by decide +kernel) (by decide) hr
      have hr := senh (i := .ireturn) (r := some (.inl (v6))) (by decide +kernel) rfl rfl hr
      refine ⟨_, hr, ?_⟩
      rw [if_neg c1, if_pos c2]
      omega
    · have t1 : 0 ≤ v5.toInt := by rw [tv5, if_neg (by omega)]; split <;> (try split) <;> first | decide | omega
      obtain ⟨_, hr⟩ : ∃ m', yz m' d 218 24 loc [] h = some res := si1t (off := 8) (by decide +kernel) (by decide) (k1_ge.mpr (by omega)) hr
      obtain ⟨_, hr⟩ : ∃ m', yz m' d 218 25 loc [.inr (.inl (x))] h = some res := sllh (k := 0) (by decide +kernel) g0 hr
      obtain ⟨_, hr⟩ : ∃ m', yz m' d 218 26 loc [.inl ((x).toInt32)] h = some res := sb1 (i := .l2i) (by decide +kernel) rfl rfl rfl hr
      generalize ev7 : (x).toInt32 = v7 at hr
      have tv7 : v7.toInt = x.toInt := by rw [← ev7]; exact (l2i_ (by omega))
      have hr := senh (i := .ireturn) (r := some (.inl (v7))) (by decide +kernel) rfl rfl hr
      refine ⟨_, hr, ?_⟩
      rw [if_neg c1, if_neg c2]
      omega
theorem rn_lmin {x y : Int64} (hr : yrun m d 25 [.inr (.inl x), .inr (.inl y)] h = some res) : ∃ r : Int64, res = (some (.inr (.inl r)), h) ∧ r.toInt = if x.toInt > y.toInt then y.toInt else x.toInt := by
  have hr : yz m d 25 0 (zent 0 [.inr (.inl (x)), .inr (.inl (y))]) [] h = some res := hr
  have g0 : zget (zent 0 [.inr (.inl (x)), .inr (.inl (y))]) 0 = some (.inr (.inl (x))) := rfl
  have g2 : zget (zent 0 [.inr (.inl (x)), .inr (.inl (y))]) 2 = some (.inr (.inl (y))) := rfl
  generalize zent 0 [.inr (.inl (x)), .inr (.inl (y))] = loc at hr g0 g2
  obtain ⟨_, hr⟩ : ∃ m', yz m' d 25 1 loc [.inr (.inl (x))] h = some res := sllh (k := 0) (by decide +kernel) g0 hr
  obtain ⟨_, hr⟩ : ∃ m', yz m' d 25 2 loc [.inr (.inl (y)), .inr (.inl (x))] h = some res := sllh (k := 2) (by decide +kernel) g2 hr
  obtain ⟨_, hr⟩ : ∃ m', yz m' d 25 3 loc [.inl (lg_cmp (x) (y))] h = some res := scm (by decide +kernel) hr
  generalize ev1 : lg_cmp (x) (y) = v1 at hr
  have tv1 : v1.toInt = if x.toInt < y.toInt then -1 else if x.toInt = y.toInt then 0 else 1 := by rw [← ev1]; exact (scmp64 _ _)
  by_cases c1 : x.toInt > y.toInt
  · have t0 : v1.toInt = 1 := by rw [tv1, if_neg (by omega), if_neg (by omega)]
    obtain ⟨_, hr⟩ : ∃ m', yz m' d 25 10 loc [] h = some res := si1t (off := 7) (by decide +kernel) (by decide) (k1_gt.mpr (by omega)) hr
    obtain ⟨_, hr⟩ : ∃ m', yz m' d 25 11 loc [.inr (.inl (y))] h = some res := sllh (k := 2) (by decide +kernel) g2 hr
    have hr := senh (i := .lreturn) (r := some (.inr (.inl (y)))) (by decide +kernel) rfl rfl hr
    exact ⟨_, hr, (if_pos c1).symm⟩
  · have t0 : v1.toInt ≤ 0 := by rw [tv1]; split <;> (try split) <;> first | decide | omega
    obtain ⟨_, hr⟩ : ∃ m', yz m' d 25 6 loc [] h = some res := si1f (off := 7) (by decide +kernel) (by decide) (fun e => absurd (k1_gt.mp e) (by omega)) hr
    obtain ⟨_, hr⟩ : ∃ m', yz m' d 25 7 loc [.inr (.inl (x))] h = some res := sllh (k := 0) (by decide +kernel) g0 hr
    obtain ⟨_, hr⟩ : ∃ m', yz m' d 25 11 loc [.inr (.inl (x))] h = some res := sgoh (off := 4) (by decide +kernel) (by decide) hr
    have hr := senh (i := .lreturn) (r := some (.inr (.inl (x)))) (by decide +kernel) rfl rfl hr
    exact ⟨_, hr, (if_neg c1).symm⟩
theorem rn_lmax {x y : Int64} (hr : yrun m d 23 [.inr (.inl x), .inr (.inl y)] h = some res) : ∃ r : Int64, res = (some (.inr (.inl r)), h) ∧ r.toInt = if x.toInt < y.toInt then y.toInt else x.toInt := by
  have hr : yz m d 23 0 (zent 0 [.inr (.inl (x)), .inr (.inl (y))]) [] h = some res := hr
  have g0 : zget (zent 0 [.inr (.inl (x)), .inr (.inl (y))]) 0 = some (.inr (.inl (x))) := rfl
  have g2 : zget (zent 0 [.inr (.inl (x)), .inr (.inl (y))]) 2 = some (.inr (.inl (y))) := rfl
  generalize zent 0 [.inr (.inl (x)), .inr (.inl (y))] = loc at hr g0 g2
  obtain ⟨_, hr⟩ : ∃ m', yz m' d 23 1 loc [.inr (.inl (x))] h = some res := sllh (k := 0) (by decide +kernel) g0 hr
  obtain ⟨_, hr⟩ : ∃ m', yz m' d 23 2 loc [.inr (.inl (y)), .inr (.inl (x))] h = some res := sllh (k := 2) (by decide +kernel) g2 hr
  obtain ⟨_, hr⟩ : ∃ m', yz m' d 23 3 loc [.inl (lg_cmp (x) (y))] h = some res := scm (by decide +kernel) hr
  generalize ev1 : lg_cmp (x) (y) = v1 at hr
  have tv1 : v1.toInt = if x.toInt < y.toInt then -1 else if x.toInt = y.toInt then 0 else 1 := by rw [← ev1]; exact (scmp64 _ _)
  by_cases c1 : x.toInt < y.toInt
  · have t0 : v1.toInt = -1 := by rw [tv1, if_pos (by omega)]
    obtain ⟨_, hr⟩ : ∃ m', yz m' d 23 10 loc [] h = some res := si1t (off := 7) (by decide +kernel) (by decide) (k1_lt.mpr (by omega)) hr
    obtain ⟨_, hr⟩ : ∃ m', yz m' d 23 11 loc [.inr (.inl (y))] h = some res := sllh (k := 2) (by decide +kernel) g2 hr
    have hr := senh (i := .lreturn) (r := some (.inr (.inl (y)))) (by decide +kernel) rfl rfl hr
    exact ⟨_, hr, (if_pos c1).symm⟩
  · have t0 : 0 ≤ v1.toInt := by rw [tv1, if_neg (by omega)]; split <;> (try split) <;> first | decide | omega
    obtain ⟨_, hr⟩ : ∃ m', yz m' d 23 6 loc [] h = some res := si1f (off := 7) (by decide +kernel) (by decide) (fun e => absurd (k1_lt.mp e) (by omega)) hr
    obtain ⟨_, hr⟩ : ∃ m', yz m' d 23 7 loc [.inr (.inl (x))] h = some res := sllh (k := 0) (by decide +kernel) g0 hr
    obtain ⟨_, hr⟩ : ∃ m', yz m' d 23 11 loc [.inr (.inl (x))] h = some res := sgoh (off := 4) (by decide +kernel) (by decide) hr
    have hr := senh (i := .lreturn) (r := some (.inr (.inl (x)))) (by decide +kernel) rfl rfl hr
    exact ⟨_, hr, (if_neg c1).symm⟩
theorem rn_bounded {x : Int64} (hr : yrun m d 109 [.inr (.inl x)] h = some res) : ∃ r : Int32, res = (some (.inl r), h) ∧ r.toInt = hld x.toInt := by
  have hr : yz m d 109 0 (zent 0 [.inr (.inl (x))]) [] h = some res := hr
  have g0 : zget (zent 0 [.inr (.inl (x))]) 0 = some (.inr (.inl (x))) := rfl
  generalize zent 0 [.inr (.inl (x))] = loc at hr g0
  obtain ⟨_, hr⟩ : ∃ m', yz m' d 109 3 loc [.inr (.inl ((-1000000 : Int64)))] h = some res := slc2 (x := 204) (by decide +kernel) (by decide +kernel) hr
  generalize ev1 : (-1000000 : Int64) = v1 at hr
  have tv1 : v1.toInt = -1000000 := by rw [← ev1]; exact (by decide)
  obtain ⟨_, hr⟩ : ∃ m', yz m' d 109 6 loc [.inr (.inl ((1000000 : Int64))), .inr (.inl (v1))] h = some res := slc2 (x := 206) (by decide +kernel) (by decide +kernel) hr
  generalize ev2 : (1000000 : Int64) = v2 at hr
  have tv2 : v2.toInt = 1000000 := by rw [← ev2]; exact (by decide)
  obtain ⟨_, hr⟩ : ∃ m', yz m' d 109 7 loc [.inr (.inl (x)), .inr (.inl (v2)), .inr (.inl (v1))] h = some res := sllh (k := 0) (by decide +kernel) g0 hr
  obtain ⟨_, d_k1, r_k1, hk1, _, ed_k1, c_k1, hr⟩ := scl_ (i := .invokestatic 208) (callee := 25) (args := [.inr (.inl (v2)), .inr (.inl (x))]) (rest := [.inr (.inl (v1))]) (by decide +kernel) rfl hr
  obtain ⟨q1, eq1, tq1⟩ := rn_lmin c_k1
  obtain ⟨rfl, ehq⟩ := Prod.mk.inj eq1
  obtain rfl := ehq.symm
  have hr : yz _ d 109 10 loc [.inr (.inl (q1)), .inr (.inl (v1))] h = some res := hr
  obtain ⟨_, d_k2, r_k2, hk2, _, ed_k2, c_k2, hr⟩ := scl_ (i := .invokestatic 214) (callee := 23) (args := [.inr (.inl (v1)), .inr (.inl (q1))]) (rest := []) (by decide +kernel) rfl hr
  obtain ⟨q2, eq2, tq2⟩ := rn_lmax c_k2
  obtain ⟨rfl, ehq⟩ := Prod.mk.inj eq2
  obtain rfl := ehq.symm
  have hr : yz _ d 109 13 loc [.inr (.inl (q2))] h = some res := hr
  have b1 : q2.toInt = hld x.toInt := by
    rw [tq2, tq1, tv1, tv2]
    unfold hld
    split <;> split <;> (try split) <;> (try split) <;> omega
  have b2 := hld_b x.toInt
  obtain ⟨_, hr⟩ : ∃ m', yz m' d 109 14 loc [.inl ((q2).toInt32)] h = some res := sb1 (i := .l2i) (by decide +kernel) rfl rfl rfl hr
  generalize ev3 : (q2).toInt32 = v3 at hr
  have tv3 : v3.toInt = q2.toInt := by rw [← ev3]; exact (l2i_ (by omega))
  have hr := senh (i := .ireturn) (r := some (.inl (v3))) (by decide +kernel) rfl rfl hr
  exact ⟨_, hr, by omega⟩
theorem rn_reckon {g : Int32} {a b : Int64} (hg : sgOk g.toInt) (ha : -1000000 ≤ a.toInt ∧ a.toInt ≤ 1000000) (hb : -1000000 ≤ b.toInt ∧ b.toInt ≤ 1000000) (hr : yrun m d 219 [.inl g, .inr (.inl a), .inr (.inl b)] h = some res) : ∃ r : Int64, res = (some (.inr (.inl r)), h) ∧ r.toInt = rOp g.toInt a.toInt b.toInt := by
  have hr : yz m d 219 0 (zent 0 [.inl (g), .inr (.inl (a)), .inr (.inl (b))]) [] h = some res := hr
  have g0 : zget (zent 0 [.inl (g), .inr (.inl (a)), .inr (.inl (b))]) 0 = some (.inl (g)) := rfl
  have g1 : zget (zent 0 [.inl (g), .inr (.inl (a)), .inr (.inl (b))]) 1 = some (.inr (.inl (a))) := rfl
  have g3 : zget (zent 0 [.inl (g), .inr (.inl (a)), .inr (.inl (b))]) 3 = some (.inr (.inl (b))) := rfl
  generalize zent 0 [.inl (g), .inr (.inl (a)), .inr (.inl (b))] = loc at hr g0 g1 g3
  obtain ⟨_, hr⟩ : ∃ m', yz m' d 219 1 loc [.inl (g)] h = some res := sil (k := 0) (by decide +kernel) g0 hr
  have mb := mul6 ha hb
  unfold rOp
  rcases hg with hg | hg | hg | hg | hg | hg | hg | hg | hg
  · skip
    obtain ⟨_, hr⟩ : ∃ m', yz m' d 219 84 loc [] h = some res := slkh (dd := 181) (ps := #[(38, 145), (42, 91), (43, 83), (45, 87), (47, 95), (60, 121), (61, 109), (62, 133), (124, 163)]) (off := 83) (by decide +kernel) (by decide +kernel) (by rw [hg]; rfl) (by decide) hr
    obtain ⟨_, hr⟩ : ∃ m', yz m' d 219 85 loc [.inr (.inl (a))] h = some res := sllh (k := 1) (by decide +kernel) g1 hr
    obtain ⟨_, hr⟩ : ∃ m', yz m' d 219 86 loc [.inr (.inl (b)), .inr (.inl (a))] h = some res := sllh (k := 3) (by decide +kernel) g3 hr
    obtain ⟨_, hr⟩ : ∃ m', yz m' d 219 87 loc [.inr (.inl ((a) + (b)))] h = some res := sb1 (i := .ladd) (by decide +kernel) rfl rfl rfl hr
    generalize ev1 : (a) + (b) = v1 at hr
    have tv1 : v1.toInt = a.toInt + b.toInt := by rw [← ev1]; exact (ladd_ (by omega))
    have hr := senh (i := .lreturn) (r := some (.inr (.inl (v1)))) (by decide +kernel) rfl rfl hr
    refine ⟨_, hr, ?_⟩
    rw [hg]
    rw [if_pos rfl]
    omega
  · skip
    obtain ⟨_, hr⟩ : ∃ m', yz m' d 219 88 loc [] h = some res := slkh (dd := 181) (ps := #[(38, 145), (42, 91), (43, 83), (45, 87), (47, 95), (60, 121), (61, 109), (62, 133), (124, 163)]) (off := 87) (by decide +kernel) (by decide +kernel) (by rw [hg]; rfl) (by decide) hr
    obtain ⟨_, hr⟩ : ∃ m', yz m' d 219 89 loc [.inr (.inl (a))] h = some res := sllh (k := 1) (by decide +kernel) g1 hr
    obtain ⟨_, hr⟩ : ∃ m', yz m' d 219 90 loc [.inr (.inl (b)), .inr (.inl (a))] h = some res := sllh (k := 3) (by decide +kernel) g3 hr
    obtain ⟨_, hr⟩ : ∃ m', yz m' d 219 91 loc [.inr (.inl ((a) - (b)))] h = some res := sb1 (i := .lsub) (by decide +kernel) rfl rfl rfl hr
    generalize ev2 : (a) - (b) = v2 at hr
    have tv2 : v2.toInt = a.toInt - b.toInt := by rw [← ev2]; exact (lsub_ (by omega))
    have hr := senh (i := .lreturn) (r := some (.inr (.inl (v2)))) (by decide +kernel) rfl rfl hr
    refine ⟨_, hr, ?_⟩
    rw [hg]
    rw [if_neg (by decide), if_pos rfl]
    omega
  · skip
    obtain ⟨_, hr⟩ : ∃ m', yz m' d 219 92 loc [] h = some res := slkh (dd := 181) (ps := #[(38, 145), (42, 91), (43, 83), (45, 87), (47, 95), (60, 121), (61, 109), (62, 133), (124, 163)]) (off := 91) (by decide +kernel) (by decide +kernel) (by rw [hg]; rfl) (by decide) hr
    obtain ⟨_, hr⟩ : ∃ m', yz m' d 219 93 loc [.inr (.inl (a))] h = some res := sllh (k := 1) (by decide +kernel) g1 hr
    obtain ⟨_, hr⟩ : ∃ m', yz m' d 219 94 loc [.inr (.inl (b)), .inr (.inl (a))] h = some res := sllh (k := 3) (by decide +kernel) g3 hr
    obtain ⟨_, hr⟩ : ∃ m', yz m' d 219 95 loc [.inr (.inl ((a) * (b)))] h = some res := sb1 (i := .lmul) (by decide +kernel) rfl rfl rfl hr
    generalize ev3 : (a) * (b) = v3 at hr
    have tv3 : v3.toInt = a.toInt * b.toInt := by rw [← ev3]; exact (lmul_ (by omega))
    have hr := senh (i := .lreturn) (r := some (.inr (.inl (v3)))) (by decide +kernel) rfl rfl hr
    refine ⟨_, hr, ?_⟩
    rw [hg]
    rw [if_neg (by decide), if_neg (by decide), if_pos rfl]
    assumption
  · skip
    obtain ⟨_, hr⟩ : ∃ m', yz m' d 219 96 loc [] h = some res := slkh (dd := 181) (ps := #[(38, 145), (42, 91), (43, 83), (45, 87), (47, 95), (60, 121), (61, 109), (62, 133), (124, 163)]) (off := 95) (by decide +kernel) (by decide +kernel) (by rw [hg]; rfl) (by decide) hr
    obtain ⟨_, hr⟩ : ∃ m', yz m' d 219 97 loc [.inr (.inl (b))] h = some res := sllh (k := 3) (by decide +kernel) g3 hr
    obtain ⟨_, hr⟩ : ∃ m', yz m' d 219 98 loc [.inr (.inl (Int64.ofNat 0)), .inr (.inl (b))] h = some res := sb1 (i := .lconst 0) (by decide +kernel) rfl rfl rfl hr
    generalize ev4 : Int64.ofNat 0 = v4 at hr
    have tv4 : v4.toInt = 0 := by rw [← ev4]; exact (by decide)
    obtain ⟨_, hr⟩ : ∃ m', yz m' d 219 99 loc [.inl (lg_cmp (b) (v4))] h = some res := scm (by decide +kernel) hr
    generalize ev5 : lg_cmp (b) (v4) = v5 at hr
    have tv5 : v5.toInt = if b.toInt < v4.toInt then -1 else if b.toInt = v4.toInt then 0 else 1 := by rw [← ev5]; exact (scmp64 _ _)
    by_cases c1 : b.toInt = 0
    · have t0 : v5.toInt = 0 := by rw [tv5, if_neg (by omega), if_pos (by omega)]
      obtain ⟨_, hr⟩ : ∃ m', yz m' d 219 102 loc [] h = some res := si1f (off := 7) (by decide +kernel) (by decide) (fun e => absurd (k1_ne.mp e) (by omega)) hr
      obtain ⟨_, hr⟩ : ∃ m', yz m' d 219 103 loc [.inr (.inl (Int64.ofNat 0))] h = some res := sb1 (i := .lconst 0) (by decide +kernel) rfl rfl rfl hr
      generalize ev6 : Int64.ofNat 0 = v6 at hr
      have tv6 : v6.toInt = 0 := by rw [← ev6]; exact (by decide)
      obtain ⟨_, hr⟩ : ∃ m', yz m' d 219 109 loc [.inr (.inl (v6))] h = some res := sgoh (off := 6) (by decide +kernel) (by decide) hr
      have hr := senh (i := .lreturn) (r := some (.inr (.inl (v6)))) (by decide +kernel) rfl rfl hr
      refine ⟨_, hr, ?_⟩
      rw [hg]
      rw [if_neg (by decide), if_neg (by decide), if_neg (by decide), if_pos rfl]
      rw [if_pos c1]
      omega
    · have t0 : ¬ v5.toInt = 0 := by rw [tv5]; split <;> (try split) <;> first | decide | omega
      obtain ⟨_, hr⟩ : ∃ m', yz m' d 219 106 loc [] h = some res := si1t (off := 7) (by decide +kernel) (by decide) (k1_ne.mpr (by omega)) hr
      have hb0 : ¬ b = 0 := fun e => c1 (by rw [e]; rfl)
      obtain ⟨_, hr⟩ : ∃ m', yz m' d 219 107 loc [.inr (.inl (a))] h = some res := sllh (k := 1) (by decide +kernel) g1 hr
      obtain ⟨_, hr⟩ : ∃ m', yz m' d 219 108 loc [.inr (.inl (b)), .inr (.inl (a))] h = some res := sllh (k := 3) (by decide +kernel) g3 hr
      obtain ⟨_, hr⟩ : ∃ m', yz m' d 219 109 loc [.inr (.inl ((a) / (b)))] h = some res := sldh (by decide +kernel) hb0 hr
      generalize ev7 : (a) / (b) = v7 at hr
      have tv7 : v7.toInt = a.toInt.tdiv b.toInt := by rw [← ev7]; exact (ldiv_ (by omega))
      have hr := senh (i := .lreturn) (r := some (.inr (.inl (v7)))) (by decide +kernel) rfl rfl hr
      refine ⟨_, hr, ?_⟩
      rw [hg]
      rw [if_neg (by decide), if_neg (by decide), if_neg (by decide), if_pos rfl]
      rw [if_neg c1]
      assumption
  · skip
    obtain ⟨_, hr⟩ : ∃ m', yz m' d 219 110 loc [] h = some res := slkh (dd := 181) (ps := #[(38, 145), (42, 91), (43, 83), (45, 87), (47, 95), (60, 121), (61, 109), (62, 133), (124, 163)]) (off := 109) (by decide +kernel) (by decide +kernel) (by rw [hg]; rfl) (by decide) hr
    obtain ⟨_, hr⟩ : ∃ m', yz m' d 219 111 loc [.inr (.inl (a))] h = some res := sllh (k := 1) (by decide +kernel) g1 hr
    obtain ⟨_, hr⟩ : ∃ m', yz m' d 219 112 loc [.inr (.inl (b)), .inr (.inl (a))] h = some res := sllh (k := 3) (by decide +kernel) g3 hr
    obtain ⟨_, hr⟩ : ∃ m', yz m' d 219 113 loc [.inl (lg_cmp (a) (b))] h = some res := scm (by decide +kernel) hr
    generalize ev8 : lg_cmp (a) (b) = v8 at hr
    have tv8 : v8.toInt = if a.toInt < b.toInt then -1 else if a.toInt = b.toInt then 0 else 1 := by rw [← ev8]; exact (scmp64 _ _)
    by_cases c1 : a.toInt = b.toInt
    · have t0 : v8.toInt = 0 := by rw [tv8, if_neg (by omega), if_pos (by omega)]
      obtain ⟨_, hr⟩ : ∃ m', yz m' d 219 116 loc [] h = some res := si1f (off := 7) (by decide +kernel) (by decide) (fun e => absurd (k1_ne.mp e) (by omega)) hr
      obtain ⟨_, hr⟩ : ∃ m', yz m' d 219 117 loc [.inr (.inl (Int64.ofNat 1))] h = some res := sb1 (i := .lconst 1) (by decide +kernel) rfl rfl rfl hr
      generalize ev9 : Int64.ofNat 1 = v9 at hr
      have tv9 : v9.toInt = 1 := by rw [← ev9]; exact (by decide)
      obtain ⟨_, hr⟩ : ∃ m', yz m' d 219 121 loc [.inr (.inl (v9))] h = some res := sgoh (off := 4) (by decide +kernel) (by decide) hr
      have hr := senh (i := .lreturn) (r := some (.inr (.inl (v9)))) (by decide +kernel) rfl rfl hr
      refine ⟨_, hr, ?_⟩
      rw [hg]
      rw [if_neg (by decide), if_neg (by decide), if_neg (by decide), if_neg (by decide), if_pos rfl]
      rw [if_pos c1]
      omega
    · have t0 : ¬ v8.toInt = 0 := by rw [tv8]; split <;> (try split) <;> first | decide | omega
      obtain ⟨_, hr⟩ : ∃ m', yz m' d 219 120 loc [] h = some res := si1t (off := 7) (by decide +kernel) (by decide) (k1_ne.mpr (by omega)) hr
      obtain ⟨_, hr⟩ : ∃ m', yz m' d 219 121 loc [.inr (.inl (Int64.ofNat 0))] h = some res := sb1 (i := .lconst 0) (by decide +kernel) rfl rfl rfl hr
      generalize ev10 : Int64.ofNat 0 = v10 at hr
      have tv10 : v10.toInt = 0 := by rw [← ev10]; exact (by decide)
      have hr := senh (i := .lreturn) (r := some (.inr (.inl (v10)))) (by decide +kernel) rfl rfl hr
      refine ⟨_, hr, ?_⟩
      rw [hg]
      rw [if_neg (by decide), if_neg (by decide), if_neg (by decide), if_neg (by decide), if_pos rfl]
      rw [if_neg c1]
      omega
  · skip
    obtain ⟨_, hr⟩ : ∃ m', yz m' d 219 122 loc [] h = some res := slkh (dd := 181) (ps := #[(38, 145), (42, 91), (43, 83), (45, 87), (47, 95), (60, 121), (61, 109), (62, 133), (124, 163)]) (off := 121) (by decide +kernel) (by decide +kernel) (by rw [hg]; rfl) (by decide) hr
    obtain ⟨_, hr⟩ : ∃ m', yz m' d 219 123 loc [.inr (.inl (a))] h = some res := sllh (k := 1) (by decide +kernel) g1 hr
    obtain ⟨_, hr⟩ : ∃ m', yz m' d 219 124 loc [.inr (.inl (b)), .inr (.inl (a))] h = some res := sllh (k := 3) (by decide +kernel) g3 hr
    obtain ⟨_, hr⟩ : ∃ m', yz m' d 219 125 loc [.inl (lg_cmp (a) (b))] h = some res := scm (by decide +kernel) hr
    generalize ev11 : lg_cmp (a) (b) = v11 at hr
    have tv11 : v11.toInt = if a.toInt < b.toInt then -1 else if a.toInt = b.toInt then 0 else 1 := by rw [← ev11]; exact (scmp64 _ _)
    by_cases c1 : a.toInt < b.toInt
    · have t0 : v11.toInt = -1 := by rw [tv11, if_pos (by omega)]
      obtain ⟨_, hr⟩ : ∃ m', yz m' d 219 128 loc [] h = some res := si1f (off := 7) (by decide +kernel) (by decide) (fun e => absurd (k1_ge.mp e) (by omega)) hr
      obtain ⟨_, hr⟩ : ∃ m', yz m' d 219 129 loc [.inr (.inl (Int64.ofNat 1))] h = some res := sb1 (i := .lconst 1) (by decide +kernel) rfl rfl rfl hr
      generalize ev12 : Int64.ofNat 1 = v12 at hr
      have tv12 : v12.toInt = 1 := by rw [← ev12]; exact (by decide)
      obtain ⟨_, hr⟩ : ∃ m', yz m' d 219 133 loc [.inr (.inl (v12))] h = some res := sgoh (off := 4) (by decide +kernel) (by decide) hr
      have hr := senh (i := .lreturn) (r := some (.inr (.inl (v12)))) (by decide +kernel) rfl rfl hr
      refine ⟨_, hr, ?_⟩
      rw [hg]
      rw [if_neg (by decide), if_neg (by decide), if_neg (by decide), if_neg (by decide), if_neg (by decide), if_pos rfl]
      rw [if_pos c1]
      omega
    · have t0 : 0 ≤ v11.toInt := by rw [tv11]; rw [if_neg (by omega)]; split <;> (try split) <;> first | decide | omega
      obtain ⟨_, hr⟩ : ∃ m', yz m' d 219 132 loc [] h = some res := si1t (off := 7) (by decide +kernel) (by decide) (k1_ge.mpr (by omega)) hr
      obtain ⟨_, hr⟩ : ∃ m', yz m' d 219 133 loc [.inr (.inl (Int64.ofNat 0))] h = some res := sb1 (i := .lconst 0) (by decide +kernel) rfl rfl rfl hr
      generalize ev13 : Int64.ofNat 0 = v13 at hr
      have tv13 : v13.toInt = 0 := by rw [← ev13]; exact (by decide)
      have hr := senh (i := .lreturn) (r := some (.inr (.inl (v13)))) (by decide +kernel) rfl rfl hr
      refine ⟨_, hr, ?_⟩
      rw [hg]
      rw [if_neg (by decide), if_neg (by decide), if_neg (by decide), if_neg (by decide), if_neg (by decide), if_pos rfl]
      rw [if_neg c1]
      omega
  · skip
    obtain ⟨_, hr⟩ : ∃ m', yz m' d 219 134 loc [] h = some res := slkh (dd := 181) (ps := #[(38, 145), (42, 91), (43, 83), (45, 87), (47, 95), (60, 121), (61, 109), (62, 133), (124, 163)]) (off := 133) (by decide +kernel) (by decide +kernel) (by rw [hg]; rfl) (by decide) hr
    obtain ⟨_, hr⟩ : ∃ m', yz m' d 219 135 loc [.inr (.inl (a))] h = some res := sllh (k := 1) (by decide +kernel) g1 hr
    obtain ⟨_, hr⟩ : ∃ m', yz m' d 219 136 loc [.inr (.inl (b)), .inr (.inl (a))] h = some res := sllh (k := 3) (by decide +kernel) g3 hr
    obtain ⟨_, hr⟩ : ∃ m', yz m' d 219 137 loc [.inl (lg_cmp (a) (b))] h = some res := scm (by decide +kernel) hr
    generalize ev14 : lg_cmp (a) (b) = v14 at hr
    have tv14 : v14.toInt = if a.toInt < b.toInt then -1 else if a.toInt = b.toInt then 0 else 1 := by rw [← ev14]; exact (scmp64 _ _)
    by_cases c1 : b.toInt < a.toInt
    · have t0 : v14.toInt = 1 := by rw [tv14, if_neg (by omega), if_neg (by omega)]
      obtain ⟨_, hr⟩ : ∃ m', yz m' d 219 140 loc [] h = some res := si1f (off := 7) (by decide +kernel) (by decide) (fun e => absurd (k1_le.mp e) (by omega)) hr
      obtain ⟨_, hr⟩ : ∃ m', yz m' d 219 141 loc [.inr (.inl (Int64.ofNat 1))] h = some res := sb1 (i := .lconst 1) (by decide +kernel) rfl rfl rfl hr
      generalize ev15 : Int64.ofNat 1 = v15 at hr
      have tv15 : v15.toInt = 1 := by rw [← ev15]; exact (by decide)
      obtain ⟨_, hr⟩ : ∃ m', yz m' d 219 145 loc [.inr (.inl (v15))] h = some res := sgoh (off := 4) (by decide +kernel) (by decide) hr
      have hr := senh (i := .lreturn) (r := some (.inr (.inl (v15)))) (by decide +kernel) rfl rfl hr
      refine ⟨_, hr, ?_⟩
      rw [hg]
      rw [if_neg (by decide), if_neg (by decide), if_neg (by decide), if_neg (by decide), if_neg (by decide), if_neg (by decide), if_pos rfl]
      rw [if_pos c1]
      omega
    · have t0 : v14.toInt ≤ 0 := by rw [tv14]; split <;> (try split) <;> first | decide | omega
      obtain ⟨_, hr⟩ : ∃ m', yz m' d 219 144 loc [] h = some res := si1t (off := 7) (by decide +kernel) (by decide) (k1_le.mpr (by omega)) hr
      obtain ⟨_, hr⟩ : ∃ m', yz m' d 219 145 loc [.inr (.inl (Int64.ofNat 0))] h = some res := sb1 (i := .lconst 0) (by decide +kernel) rfl rfl rfl hr
      generalize ev16 : Int64.ofNat 0 = v16 at hr
      have tv16 : v16.toInt = 0 := by rw [← ev16]; exact (by decide)
      have hr := senh (i := .lreturn) (r := some (.inr (.inl (v16)))) (by decide +kernel) rfl rfl hr
      refine ⟨_, hr, ?_⟩
      rw [hg]
      rw [if_neg (by decide), if_neg (by decide), if_neg (by decide), if_neg (by decide), if_neg (by decide), if_neg (by decide), if_pos rfl]
      rw [if_neg c1]
      omega
  · skip
    obtain ⟨_, hr⟩ : ∃ m', yz m' d 219 146 loc [] h = some res := slkh (dd := 181) (ps := #[(38, 145), (42, 91), (43, 83), (45, 87), (47, 95), (60, 121), (61, 109), (62, 133), (124, 163)]) (off := 145) (by decide +kernel) (by decide +kernel) (by rw [hg]; rfl) (by decide) hr
    obtain ⟨_, hr⟩ : ∃ m', yz m' d 219 147 loc [.inr (.inl (a))] h = some res := sllh (k := 1) (by decide +kernel) g1 hr
    obtain ⟨_, hr⟩ : ∃ m', yz m' d 219 148 loc [.inr (.inl (Int64.ofNat 0)), .inr (.inl (a))] h = some res := sb1 (i := .lconst 0) (by decide +kernel) rfl rfl rfl hr
    generalize ev17 : Int64.ofNat 0 = v17 at hr
    have tv17 : v17.toInt = 0 := by rw [← ev17]; exact (by decide)
    obtain ⟨_, hr⟩ : ∃ m', yz m' d 219 149 loc [.inl (lg_cmp (a) (v17))] h = some res := scm (by decide +kernel) hr
    generalize ev18 : lg_cmp (a) (v17) = v18 at hr
    have tv18 : v18.toInt = if a.toInt < v17.toInt then -1 else if a.toInt = v17.toInt then 0 else 1 := by rw [← ev18]; exact (scmp64 _ _)
    by_cases c1 : a.toInt = 0
    · have t0 : v18.toInt = 0 := by rw [tv18, if_neg (by omega), if_pos (by omega)]
      obtain ⟨_, hr⟩ : ∃ m', yz m' d 219 162 loc [] h = some res := si1t (off := 13) (by decide +kernel) (by decide) (k1_eq.mpr (by omega)) hr
      obtain ⟨_, hr⟩ : ∃ m', yz m' d 219 163 loc [.inr (.inl (Int64.ofNat 0))] h = some res := sb1 (i := .lconst 0) (by decide +kernel) rfl rfl rfl hr
      generalize ev19 : Int64.ofNat 0 = v19 at hr
      have tv19 : v19.toInt = 0 := by rw [← ev19]; exact (by decide)
      have hr := senh (i := .lreturn) (r := some (.inr (.inl (v19)))) (by decide +kernel) rfl rfl hr
      refine ⟨_, hr, ?_⟩
      rw [hg]
      rw [if_neg (by decide), if_neg (by decide), if_neg (by decide), if_neg (by decide), if_neg (by decide), if_neg (by decide), if_neg (by decide), if_pos rfl]
      rw [if_neg (fun z => z.1 c1)]
      omega
    · have t0 : ¬ v18.toInt = 0 := by rw [tv18]; split <;> (try split) <;> first | decide | omega
      obtain ⟨_, hr⟩ : ∃ m', yz m' d 219 152 loc [] h = some res := si1f (off := 13) (by decide +kernel) (by decide) (fun e => absurd (k1_eq.mp e) (by omega)) hr
      obtain ⟨_, hr⟩ : ∃ m', yz m' d 219 153 loc [.inr (.inl (b))] h = some res := sllh (k := 3) (by decide +kernel) g3 hr
      obtain ⟨_, hr⟩ : ∃ m', yz m' d 219 154 loc [.inr (.inl (Int64.ofNat 0)), .inr (.inl (b))] h = some res := sb1 (i := .lconst 0) (by decide +kernel) rfl rfl rfl hr
      generalize ev20 : Int64.ofNat 0 = v20 at hr
      have tv20 : v20.toInt = 0 := by rw [← ev20]; exact (by decide)
      obtain ⟨_, hr⟩ : ∃ m', yz m' d 219 155 loc [.inl (lg_cmp (b) (v20))] h = some res := scm (by decide +kernel) hr
      generalize ev21 : lg_cmp (b) (v20) = v21 at hr
      have tv21 : v21.toInt = if b.toInt < v20.toInt then -1 else if b.toInt = v20.toInt then 0 else 1 := by rw [← ev21]; exact (scmp64 _ _)
      by_cases c2 : b.toInt = 0
      · have t1 : v21.toInt = 0 := by rw [tv21, if_neg (by omega), if_pos (by omega)]
        obtain ⟨_, hr⟩ : ∃ m', yz m' d 219 162 loc [] h = some res := si1t (off := 7) (by decide +kernel) (by decide) (k1_eq.mpr (by omega)) hr
        obtain ⟨_, hr⟩ : ∃ m', yz m' d 219 163 loc [.inr (.inl (Int64.ofNat 0))] h = some res := sb1 (i := .lconst 0) (by decide +kernel) rfl rfl rfl hr
        generalize ev22 : Int64.ofNat 0 = v22 at hr
        have tv22 : v22.toInt = 0 := by rw [← ev22]; exact (by decide)
        have hr := senh (i := .lreturn) (r := some (.inr (.inl (v22)))) (by decide +kernel) rfl rfl hr
        refine ⟨_, hr, ?_⟩
        rw [hg]
        rw [if_neg (by decide), if_neg (by decide), if_neg (by decide), if_neg (by decide), if_neg (by decide), if_neg (by decide), if_neg (by decide), if_pos rfl]
        rw [if_neg (fun z => z.2 c2)]
        omega
      · have t1 : ¬ v21.toInt = 0 := by rw [tv21]; split <;> (try split) <;> first | decide | omega
        obtain ⟨_, hr⟩ : ∃ m', yz m' d 219 158 loc [] h = some res := si1f (off := 7) (by decide +kernel) (by decide) (fun e => absurd (k1_eq.mp e) (by omega)) hr
        obtain ⟨_, hr⟩ : ∃ m', yz m' d 219 159 loc [.inr (.inl (Int64.ofNat 1))] h = some res := sb1 (i := .lconst 1) (by decide +kernel) rfl rfl rfl hr
        generalize ev23 : Int64.ofNat 1 = v23 at hr
        have tv23 : v23.toInt = 1 := by rw [← ev23]; exact (by decide)
        obtain ⟨_, hr⟩ : ∃ m', yz m' d 219 163 loc [.inr (.inl (v23))] h = some res := sgoh (off := 4) (by decide +kernel) (by decide) hr
        have hr := senh (i := .lreturn) (r := some (.inr (.inl (v23)))) (by decide +kernel) rfl rfl hr
        refine ⟨_, hr, ?_⟩
        rw [hg]
        rw [if_neg (by decide), if_neg (by decide), if_neg (by decide), if_neg (by decide), if_neg (by decide), if_neg (by decide), if_neg (by decide), if_pos rfl]
        rw [if_pos ⟨c1, c2⟩]
        omega
  · skip
    obtain ⟨_, hr⟩ : ∃ m', yz m' d 219 164 loc [] h = some res := slkh (dd := 181) (ps := #[(38, 145), (42, 91), (43, 83), (45, 87), (47, 95), (60, 121), (61, 109), (62, 133), (124, 163)]) (off := 163) (by decide +kernel) (by decide +kernel) (by rw [hg]; rfl) (by decide) hr
    obtain ⟨_, hr⟩ : ∃ m', yz m' d 219 165 loc [.inr (.inl (a))] h = some res := sllh (k := 1) (by decide +kernel) g1 hr
    obtain ⟨_, hr⟩ : ∃ m', yz m' d 219 166 loc [.inr (.inl (Int64.ofNat 0)), .inr (.inl (a))] h = some res := sb1 (i := .lconst 0) (by decide +kernel) rfl rfl rfl hr
    generalize ev24 : Int64.ofNat 0 = v24 at hr
    have tv24 : v24.toInt = 0 := by rw [← ev24]; exact (by decide)
    obtain ⟨_, hr⟩ : ∃ m', yz m' d 219 167 loc [.inl (lg_cmp (a) (v24))] h = some res := scm (by decide +kernel) hr
    generalize ev25 : lg_cmp (a) (v24) = v25 at hr
    have tv25 : v25.toInt = if a.toInt < v24.toInt then -1 else if a.toInt = v24.toInt then 0 else 1 := by rw [← ev25]; exact (scmp64 _ _)
    by_cases c1 : a.toInt = 0
    · have t0 : v25.toInt = 0 := by rw [tv25, if_neg (by omega), if_pos (by omega)]
      obtain ⟨_, hr⟩ : ∃ m', yz m' d 219 170 loc [] h = some res := si1f (off := 9) (by decide +kernel) (by decide) (fun e => absurd (k1_ne.mp e) (by omega)) hr
      obtain ⟨_, hr⟩ : ∃ m', yz m' d 219 171 loc [.inr (.inl (b))] h = some res := sllh (k := 3) (by decide +kernel) g3 hr
      obtain ⟨_, hr⟩ : ∃ m', yz m' d 219 172 loc [.inr (.inl (Int64.ofNat 0)), .inr (.inl (b))] h = some res := sb1 (i := .lconst 0) (by decide +kernel) rfl rfl rfl hr
      generalize ev26 : Int64.ofNat 0 = v26 at hr
      have tv26 : v26.toInt = 0 := by rw [← ev26]; exact (by decide)
      obtain ⟨_, hr⟩ : ∃ m', yz m' d 219 173 loc [.inl (lg_cmp (b) (v26))] h = some res := scm (by decide +kernel) hr
      generalize ev27 : lg_cmp (b) (v26) = v27 at hr
      have tv27 : v27.toInt = if b.toInt < v26.toInt then -1 else if b.toInt = v26.toInt then 0 else 1 := by rw [← ev27]; exact (scmp64 _ _)
      by_cases c2 : b.toInt = 0
      · have t1 : v27.toInt = 0 := by rw [tv27, if_neg (by omega), if_pos (by omega)]
        obtain ⟨_, hr⟩ : ∃ m', yz m' d 219 180 loc [] h = some res := si1t (off := 7) (by decide +kernel) (by decide) (k1_eq.mpr (by omega)) hr
        obtain ⟨_, hr⟩ : ∃ m', yz m' d 219 181 loc [.inr (.inl (Int64.ofNat 0))] h = some res := sb1 (i := .lconst 0) (by decide +kernel) rfl rfl rfl hr
        generalize ev28 : Int64.ofNat 0 = v28 at hr
        have tv28 : v28.toInt = 0 := by rw [← ev28]; exact (by decide)
        have hr := senh (i := .lreturn) (r := some (.inr (.inl (v28)))) (by decide +kernel) rfl rfl hr
        refine ⟨_, hr, ?_⟩
        rw [hg]
        rw [if_neg (by decide), if_neg (by decide), if_neg (by decide), if_neg (by decide), if_neg (by decide), if_neg (by decide), if_neg (by decide), if_neg (by decide)]
        rw [if_neg (fun z => z.elim (fun y => y c1) (fun y => y c2))]
        omega
      · have t1 : ¬ v27.toInt = 0 := by rw [tv27]; split <;> (try split) <;> first | decide | omega
        obtain ⟨_, hr⟩ : ∃ m', yz m' d 219 176 loc [] h = some res := si1f (off := 7) (by decide +kernel) (by decide) (fun e => absurd (k1_eq.mp e) (by omega)) hr
        obtain ⟨_, hr⟩ : ∃ m', yz m' d 219 177 loc [.inr (.inl (Int64.ofNat 1))] h = some res := sb1 (i := .lconst 1) (by decide +kernel) rfl rfl rfl hr
        generalize ev29 : Int64.ofNat 1 = v29 at hr
        have tv29 : v29.toInt = 1 := by rw [← ev29]; exact (by decide)
        obtain ⟨_, hr⟩ : ∃ m', yz m' d 219 181 loc [.inr (.inl (v29))] h = some res := sgoh (off := 4) (by decide +kernel) (by decide) hr
        have hr := senh (i := .lreturn) (r := some (.inr (.inl (v29)))) (by decide +kernel) rfl rfl hr
        refine ⟨_, hr, ?_⟩
        rw [hg]
        rw [if_neg (by decide), if_neg (by decide), if_neg (by decide), if_neg (by decide), if_neg (by decide), if_neg (by decide), if_neg (by decide), if_neg (by decide)]
        rw [if_pos (Or.inr c2)]
        omega
    · have t0 : ¬ v25.toInt = 0 := by rw [tv25]; split <;> (try split) <;> first | decide | omega
      obtain ⟨_, hr⟩ : ∃ m', yz m' d 219 176 loc [] h = some res := si1t (off := 9) (by decide +kernel) (by decide) (k1_ne.mpr (by omega)) hr
      obtain ⟨_, hr⟩ : ∃ m', yz m' d 219 177 loc [.inr (.inl (Int64.ofNat 1))] h = some res := sb1 (i := .lconst 1) (by decide +kernel) rfl rfl rfl hr
      generalize ev30 : Int64.ofNat 1 = v30 at hr
      have tv30 : v30.toInt = 1 := by rw [← ev30]; exact (by decide)
      obtain ⟨_, hr⟩ : ∃ m', yz m' d 219 181 loc [.inr (.inl (v30))] h = some res := sgoh (off := 4) (by decide +kernel) (by decide) hr
      have hr := senh (i := .lreturn) (r := some (.inr (.inl (v30)))) (by decide +kernel) rfl rfl hr
      refine ⟨_, hr, ?_⟩
      rw [hg]
      rw [if_neg (by decide), if_neg (by decide), if_neg (by decide), if_neg (by decide), if_neg (by decide), if_neg (by decide), if_neg (by decide), if_neg (by decide)]
      rw [if_pos (Or.inl c1)]
      omega
end WRT
