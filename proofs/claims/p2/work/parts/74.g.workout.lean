/-! a law's worth, by hand: the reference's -/
section WRM
variable {m d : Nat} {h : zH} {res : Option zV × zH}
theorem mul7 {a b : Int} (ha : -1000001 ≤ a ∧ a ≤ 1000001) (hb : -1000001 ≤ b ∧ b ≤ 1000001) : -1000002000001 ≤ a * b ∧ a * b ≤ 1000002000001 := by
  have h1 : (a * b).natAbs ≤ 1000001 * 1000001 := by
    rw [Int.natAbs_mul]
    exact Nat.mul_le_mul (by omega) (by omega)
  omega
theorem hld_01 {p : Prop} [Decidable p] : hld (if p then 1 else 0) = if p then 1 else 0 := by
  split <;> rfl

theorem rn_worked {c : Int32} {g : Int} {a b : Int64} (hg : sgOk g) (hc : c.toInt = mCd (-g)) (ha : -1000001 ≤ a.toInt ∧ a.toInt ≤ 1000001) (hb : -1000001 ≤ b.toInt ∧ b.toInt ≤ 1000001) (hr : yrun m d 207 [.inl c, .inr (.inl a), .inr (.inl b)] h = some res) : ∃ r : Int32, res = (some (.inl r), h) ∧ r.toInt = hld (rOp g a.toInt b.toInt) := by
  have hr : yz m d 207 0 (zent 0 [.inl (c), .inr (.inl (a)), .inr (.inl (b))]) [] h = some res := hr
  have g0 : zget (zent 0 [.inl (c), .inr (.inl (a)), .inr (.inl (b))]) 0 = some (.inl (c)) := rfl
  have g1 : zget (zent 0 [.inl (c), .inr (.inl (a)), .inr (.inl (b))]) 1 = some (.inr (.inl (a))) := rfl
  have g3 : zget (zent 0 [.inl (c), .inr (.inl (a)), .inr (.inl (b))]) 3 = some (.inr (.inl (b))) := rfl
  generalize zent 0 [.inl (c), .inr (.inl (a)), .inr (.inl (b))] = loc at hr g0 g1 g3
  obtain ⟨_, hr⟩ : ∃ m', yz m' d 207 1 loc [.inl (c)] h = some res := sil (k := 0) (by decide +kernel) g0 hr
  have mb := mul7 ha hb
  unfold rOp
  rcases hg with hg | hg | hg | hg | hg | hg | hg | hg | hg
  · have hc : c.toInt = 2 := by rw [hc, hg]; exact mS43.1
    obtain ⟨_, hr⟩ : ∃ m', yz m' d 207 52 loc [] h = some res := stbh (dd := 143) (lo := 2) (hi' := 10) (offs := #[51, 58, 65, 72, 89, 101, 113, 143, 125]) (off := 51) (by decide +kernel) (by rw [hc]; rfl) (by decide) hr
    obtain ⟨_, hr⟩ : ∃ m', yz m' d 207 53 loc [.inr (.inl (a))] h = some res := sllh (k := 1) (by decide +kernel) g1 hr
    obtain ⟨_, hr⟩ : ∃ m', yz m' d 207 54 loc [.inr (.inl (b)), .inr (.inl (a))] h = some res := sllh (k := 3) (by decide +kernel) g3 hr
    obtain ⟨_, hr⟩ : ∃ m', yz m' d 207 55 loc [.inr (.inl ((a) + (b)))] h = some res := sb1 (i := .ladd) (by decide +kernel) rfl rfl rfl hr
    generalize ev1 : (a) + (b) = v1 at hr
    have tv1 : v1.toInt = a.toInt + b.toInt := by rw [← ev1]; exact (ladd_ (by omega))
    obtain ⟨_, d_kb, r_kb, hkb, _, ed_kb, c_kb, hr⟩ := scl_ (i := .invokestatic 217) (callee := 109) (args := [.inr (.inl (v1))]) (rest := []) (by decide +kernel) rfl hr
    obtain ⟨q, eq0, tq⟩ := rn_bounded c_kb
    obtain ⟨rfl, ehq⟩ := Prod.mk.inj eq0
    obtain rfl := ehq.symm
    have hr : yz _ d 207 58 loc [.inl (q)] h = some res := hr
    have hr := senh (i := .ireturn) (r := some (.inl (q))) (by decide +kernel) rfl rfl hr
    refine ⟨_, hr, ?_⟩
    rw [hg]
    rw [if_pos rfl]
    rw [tq, tv1]
  · have hc : c.toInt = 3 := by rw [hc, hg]; exact mS45.1
    obtain ⟨_, hr⟩ : ∃ m', yz m' d 207 59 loc [] h = some res := stbh (dd := 143) (lo := 2) (hi' := 10) (offs := #[51, 58, 65, 72, 89, 101, 113, 143, 125]) (off := 58) (by decide +kernel) (by rw [hc]; rfl) (by decide) hr
    obtain ⟨_, hr⟩ : ∃ m', yz m' d 207 60 loc [.inr (.inl (a))] h = some res := sllh (k := 1) (by decide +kernel) g1 hr
    obtain ⟨_, hr⟩ : ∃ m', yz m' d 207 61 loc [.inr (.inl (b)), .inr (.inl (a))] h = some res := sllh (k := 3) (by decide +kernel) g3 hr
    obtain ⟨_, hr⟩ : ∃ m', yz m' d 207 62 loc [.inr (.inl ((a) - (b)))] h = some res := sb1 (i := .lsub) (by decide +kernel) rfl rfl rfl hr
    generalize ev2 : (a) - (b) = v2 at hr
    have tv2 : v2.toInt = a.toInt - b.toInt := by rw [← ev2]; exact (lsub_ (by omega))
    obtain ⟨_, d_kb, r_kb, hkb, _, ed_kb, c_kb, hr⟩ := scl_ (i := .invokestatic 217) (callee := 109) (args := [.inr (.inl (v2))]) (rest := []) (by decide +kernel) rfl hr
    obtain ⟨q, eq0, tq⟩ := rn_bounded c_kb
    obtain ⟨rfl, ehq⟩ := Prod.mk.inj eq0
    obtain rfl := ehq.symm
    have hr : yz _ d 207 65 loc [.inl (q)] h = some res := hr
    have hr := senh (i := .ireturn) (r := some (.inl (q))) (by decide +kernel) rfl rfl hr
    refine ⟨_, hr, ?_⟩
    rw [hg]
    rw [if_neg (by decide), if_pos rfl]
    rw [tq, tv2]
  · have hc : c.toInt = 4 := by rw [hc, hg]; exact mS42.1
    obtain ⟨_, hr⟩ : ∃ m', yz m' d 207 66 loc [] h = some res := stbh (dd := 143) (lo := 2) (hi' := 10) (offs := #[51, 58, 65, 72, 89, 101, 113, 143, 125]) (off := 65) (by decide +kernel) (by rw [hc]; rfl) (by decide) hr
    obtain ⟨_, hr⟩ : ∃ m', yz m' d 207 67 loc [.inr (.inl (a))] h = some res := sllh (k := 1) (by decide +kernel) g1 hr
    obtain ⟨_, hr⟩ : ∃ m', yz m' d 207 68 loc [.inr (.inl (b)), .inr (.inl (a))] h = some res := sllh (k := 3) (by decide +kernel) g3 hr
    obtain ⟨_, hr⟩ : ∃ m', yz m' d 207 69 loc [.inr (.inl ((a) * (b)))] h = some res := sb1 (i := .lmul) (by decide +kernel) rfl rfl rfl hr
    generalize ev3 : (a) * (b) = v3 at hr
    have tv3 : v3.toInt = a.toInt * b.toInt := by rw [← ev3]; exact (lmul_ (by omega))
    obtain ⟨_, d_kb, r_kb, hkb, _, ed_kb, c_kb, hr⟩ := scl_ (i := .invokestatic 217) (callee := 109) (args := [.inr (.inl (v3))]) (rest := []) (by decide +kernel) rfl hr
    obtain ⟨q, eq0, tq⟩ := rn_bounded c_kb
    obtain ⟨rfl, ehq⟩ := Prod.mk.inj eq0
    obtain rfl := ehq.symm
    have hr : yz _ d 207 72 loc [.inl (q)] h = some res := hr
    have hr := senh (i := .ireturn) (r := some (.inl (q))) (by decide +kernel) rfl rfl hr
    refine ⟨_, hr, ?_⟩
    rw [hg]
    rw [if_neg (by decide), if_neg (by decide), if_pos rfl]
    rw [tq, tv3]
  · have hc : c.toInt = 5 := by rw [hc, hg]; exact mS47.1
    obtain ⟨_, hr⟩ : ∃ m', yz m' d 207 73 loc [] h = some res := stbh (dd := 143) (lo := 2) (hi' := 10) (offs := #[51, 58, 65, 72, 89, 101, 113, 143, 125]) (off := 72) (by decide +kernel) (by rw [hc]; rfl) (by decide) hr
    obtain ⟨_, hr⟩ : ∃ m', yz m' d 207 74 loc [.inr (.inl (b))] h = some res := sllh (k := 3) (by decide +kernel) g3 hr
    obtain ⟨_, hr⟩ : ∃ m', yz m' d 207 75 loc [.inr (.inl (Int64.ofNat 0)), .inr (.inl (b))] h = some res := sb1 (i := .lconst 0) (by decide +kernel) rfl rfl rfl hr
    generalize ev4 : Int64.ofNat 0 = v4 at hr
    have tv4 : v4.toInt = 0 := by rw [← ev4]; exact (by decide)
    obtain ⟨_, hr⟩ : ∃ m', yz m' d 207 76 loc [.inl (lg_cmp (b) (v4))] h = some res := scm (by decide +kernel) hr
    generalize ev5 : lg_cmp (b) (v4) = v5 at hr
    have tv5 : v5.toInt = if b.toInt < v4.toInt then -1 else if b.toInt = v4.toInt then 0 else 1 := by rw [← ev5]; exact (scmp64 _ _)
    by_cases c1 : b.toInt = 0
    · have t0 : v5.toInt = 0 := by rw [tv5, if_neg (by omega), if_pos (by omega)]
      obtain ⟨_, hr⟩ : ∃ m', yz m' d 207 79 loc [] h = some res := si1f (off := 7) (by decide +kernel) (by decide) (fun e => absurd (k1_ne.mp e) (by omega)) hr
      obtain ⟨_, hr⟩ : ∃ m', yz m' d 207 80 loc [.inl (Int32.ofInt 0)] h = some res := sb1 (i := .iconst 0) (by decide +kernel) rfl rfl rfl hr
      generalize ev6 : Int32.ofInt 0 = v6 at hr
      have tv6 : v6.toInt = 0 := by rw [← ev6]; exact (by decide)
      obtain ⟨_, hr⟩ : ∃ m', yz m' d 207 89 loc [.inl (v6)] h = some res := sgoh (off := 9) (by decide +kernel) (by decide) hr
      have hr := senh (i := .ireturn) (r := some (.inl (v6))) (by decide +kernel) rfl rfl hr
      refine ⟨_, hr, ?_⟩
      rw [hg]
      rw [if_neg (by decide), if_neg (by decide), if_neg (by decide), if_pos rfl]
      rw [if_pos c1, tv6]
      rfl
    · have t0 : ¬ v5.toInt = 0 := by rw [tv5]; split <;> (try split) <;> first | decide | omega
      obtain ⟨_, hr⟩ : ∃ m', yz m' d 207 83 loc [] h = some res := si1t (off := 7) (by decide +kernel) (by decide) (k1_ne.mpr (by omega)) hr
      have hb0 : ¬ b = 0 := fun e => c1 (by rw [e]; rfl)
      obtain ⟨_, hr⟩ : ∃ m', yz m' d 207 84 loc [.inr (.inl (a))] h = some res := sllh (k := 1) (by decide +kernel) g1 hr
      obtain ⟨_, hr⟩ : ∃ m', yz m' d 207 85 loc [.inr (.inl (b)), .inr (.inl (a))] h = some res := sllh (k := 3) (by decide +kernel) g3 hr
      obtain ⟨_, hr⟩ : ∃ m', yz m' d 207 86 loc [.inr (.inl ((a) / (b)))] h = some res := sldh (by decide +kernel) hb0 hr
      generalize ev7 : (a) / (b) = v7 at hr
      have tv7 : v7.toInt = a.toInt.tdiv b.toInt := by rw [← ev7]; exact (ldiv_ (by omega))
      obtain ⟨_, d_kb, r_kb, hkb, _, ed_kb, c_kb, hr⟩ := scl_ (i := .invokestatic 217) (callee := 109) (args := [.inr (.inl (v7))]) (rest := []) (by decide +kernel) rfl hr
      obtain ⟨q, eq0, tq⟩ := rn_bounded c_kb
      obtain ⟨rfl, ehq⟩ := Prod.mk.inj eq0
      obtain rfl := ehq.symm
      have hr : yz _ d 207 89 loc [.inl (q)] h = some res := hr
      have hr := senh (i := .ireturn) (r := some (.inl (q))) (by decide +kernel) rfl rfl hr
      refine ⟨_, hr, ?_⟩
      rw [hg]
      rw [if_neg (by decide), if_neg (by decide), if_neg (by decide), if_pos rfl]
      rw [if_neg c1, tq, tv7]
  · have hc : c.toInt = 6 := by rw [hc, hg]; exact mS61.1
    obtain ⟨_, hr⟩ : ∃ m', yz m' d 207 90 loc [] h = some res := stbh (dd := 143) (lo := 2) (hi' := 10) (offs := #[51, 58, 65, 72, 89, 101, 113, 143, 125]) (off := 89) (by decide +kernel) (by rw [hc]; rfl) (by decide) hr
    obtain ⟨_, hr⟩ : ∃ m', yz m' d 207 91 loc [.inr (.inl (a))] h = some res := sllh (k := 1) (by decide +kernel) g1 hr
    obtain ⟨_, hr⟩ : ∃ m', yz m' d 207 92 loc [.inr (.inl (b)), .inr (.inl (a))] h = some res := sllh (k := 3) (by decide +kernel) g3 hr
    obtain ⟨_, hr⟩ : ∃ m', yz m' d 207 93 loc [.inl (lg_cmp (a) (b))] h = some res := scm (by decide +kernel) hr
    generalize ev8 : lg_cmp (a) (b) = v8 at hr
    have tv8 : v8.toInt = if a.toInt < b.toInt then -1 else if a.toInt = b.toInt then 0 else 1 := by rw [← ev8]; exact (scmp64 _ _)
    by_cases c1 : a.toInt = b.toInt
    · have t0 : v8.toInt = 0 := by rw [tv8, if_neg (by omega), if_pos (by omega)]
      obtain ⟨_, hr⟩ : ∃ m', yz m' d 207 96 loc [] h = some res := si1f (off := 7) (by decide +kernel) (by decide) (fun e => absurd (k1_ne.mp e) (by omega)) hr
      obtain ⟨_, hr⟩ : ∃ m', yz m' d 207 97 loc [.inl (Int32.ofInt 1)] h = some res := sb1 (i := .iconst 1) (by decide +kernel) rfl rfl rfl hr
      generalize ev9 : Int32.ofInt 1 = v9 at hr
      have tv9 : v9.toInt = 1 := by rw [← ev9]; exact (by decide)
      obtain ⟨_, hr⟩ : ∃ m', yz m' d 207 101 loc [.inl (v9)] h = some res := sgoh (off := 4) (by decide +kernel) (by decide) hr
      have hr := senh (i := .ireturn) (r := some (.inl (v9))) (by decide +kernel) rfl rfl hr
      refine ⟨_, hr, ?_⟩
      rw [hg]
      rw [if_neg (by decide), if_neg (by decide), if_neg (by decide), if_neg (by decide), if_pos rfl]
      rw [if_pos c1, tv9]
      rfl
    · have t0 : ¬ v8.toInt = 0 := by rw [tv8]; split <;> (try split) <;> first | decide | omega
      obtain ⟨_, hr⟩ : ∃ m', yz m' d 207 100 loc [] h = some res := si1t (off := 7) (by decide +kernel) (by decide) (k1_ne.mpr (by omega)) hr
      obtain ⟨_, hr⟩ : ∃ m', yz m' d 207 101 loc [.inl (Int32.ofInt 0)] h = some res := sb1 (i := .iconst 0) (by decide +kernel) rfl rfl rfl hr
      generalize ev10 : Int32.ofInt 0 = v10 at hr
      have tv10 : v10.toInt = 0 := by rw [← ev10]; exact (by decide)
      have hr := senh (i := .ireturn) (r := some (.inl (v10))) (by decide +kernel) rfl rfl hr
      refine ⟨_, hr, ?_⟩
      rw [hg]
      rw [if_neg (by decide), if_neg (by decide), if_neg (by decide), if_neg (by decide), if_pos rfl]
      rw [if_neg c1, tv10]
      rfl
  · have hc : c.toInt = 7 := by rw [hc, hg]; exact mS60.1
    obtain ⟨_, hr⟩ : ∃ m', yz m' d 207 102 loc [] h = some res := stbh (dd := 143) (lo := 2) (hi' := 10) (offs := #[51, 58, 65, 72, 89, 101, 113, 143, 125]) (off := 101) (by decide +kernel) (by rw [hc]; rfl) (by decide) hr
    obtain ⟨_, hr⟩ : ∃ m', yz m' d 207 103 loc [.inr (.inl (a))] h = some res := sllh (k := 1) (by decide +kernel) g1 hr
    obtain ⟨_, hr⟩ : ∃ m', yz m' d 207 104 loc [.inr (.inl (b)), .inr (.inl (a))] h = some res := sllh (k := 3) (by decide +kernel) g3 hr
    obtain ⟨_, hr⟩ : ∃ m', yz m' d 207 105 loc [.inl (lg_cmp (a) (b))] h = some res := scm (by decide +kernel) hr
    generalize ev11 : lg_cmp (a) (b) = v11 at hr
    have tv11 : v11.toInt = if a.toInt < b.toInt then -1 else if a.toInt = b.toInt then 0 else 1 := by rw [← ev11]; exact (scmp64 _ _)
    by_cases c1 : a.toInt < b.toInt
    · have t0 : v11.toInt = -1 := by rw [tv11, if_pos (by omega)]
      obtain ⟨_, hr⟩ : ∃ m', yz m' d 207 108 loc [] h = some res := si1f (off := 7) (by decide +kernel) (by decide) (fun e => absurd (k1_ge.mp e) (by omega)) hr
      obtain ⟨_, hr⟩ : ∃ m', yz m' d 207 109 loc [.inl (Int32.ofInt 1)] h = some res := sb1 (i := .iconst 1) (by decide +kernel) rfl rfl rfl hr
      generalize ev12 : Int32.ofInt 1 = v12 at hr
      have tv12 : v12.toInt = 1 := by rw [← ev12]; exact (by decide)
      obtain ⟨_, hr⟩ : ∃ m', yz m' d 207 113 loc [.inl (v12)] h = some res := sgoh (off := 4) (by decide +kernel) (by decide) hr
      have hr := senh (i := .ireturn) (r := some (.inl (v12))) (by decide +kernel) rfl rfl hr
      refine ⟨_, hr, ?_⟩
      rw [hg]
      rw [if_neg (by decide), if_neg (by decide), if_neg (by decide), if_neg (by decide), if_neg (by decide), if_pos rfl]
      rw [if_pos c1, tv12]
      rfl
    · have t0 : 0 ≤ v11.toInt := by rw [tv11]; rw [if_neg (by omega)]; split <;> (try split) <;> first | decide | omega
      obtain ⟨_, hr⟩ : ∃ m', yz m' d 207 112 loc [] h = some res := si1t (off := 7) (by decide +kernel) (by decide) (k1_ge.mpr (by omega)) hr
      obtain ⟨_, hr⟩ : ∃ m', yz m' d 207 113 loc [.inl (Int32.ofInt 0)] h = some res := sb1 (i := .iconst 0) (by decide +kernel) rfl rfl rfl hr
      generalize ev13 : Int32.ofInt 0 = v13 at hr
      have tv13 : v13.toInt = 0 := by rw [← ev13]; exact (by decide)
      have hr := senh (i := .ireturn) (r := some (.inl (v13))) (by decide +kernel) rfl rfl hr
      refine ⟨_, hr, ?_⟩
      rw [hg]
      rw [if_neg (by decide), if_neg (by decide), if_neg (by decide), if_neg (by decide), if_neg (by decide), if_pos rfl]
      rw [if_neg c1, tv13]
      rfl
  · have hc : c.toInt = 8 := by rw [hc, hg]; exact mS62.1
    obtain ⟨_, hr⟩ : ∃ m', yz m' d 207 114 loc [] h = some res := stbh (dd := 143) (lo := 2) (hi' := 10) (offs := #[51, 58, 65, 72, 89, 101, 113, 143, 125]) (off := 113) (by decide +kernel) (by rw [hc]; rfl) (by decide) hr
    obtain ⟨_, hr⟩ : ∃ m', yz m' d 207 115 loc [.inr (.inl (a))] h = some res := sllh (k := 1) (by decide +kernel) g1 hr
    obtain ⟨_, hr⟩ : ∃ m', yz m' d 207 116 loc [.inr (.inl (b)), .inr (.inl (a))] h = some res := sllh (k := 3) (by decide +kernel) g3 hr
    obtain ⟨_, hr⟩ : ∃ m', yz m' d 207 117 loc [.inl (lg_cmp (a) (b))] h = some res := scm (by decide +kernel) hr
    generalize ev14 : lg_cmp (a) (b) = v14 at hr
    have tv14 : v14.toInt = if a.toInt < b.toInt then -1 else if a.toInt = b.toInt then 0 else 1 := by rw [← ev14]; exact (scmp64 _ _)
    by_cases c1 : b.toInt < a.toInt
    · have t0 : v14.toInt = 1 := by rw [tv14, if_neg (by omega), if_neg (by omega)]
      obtain ⟨_, hr⟩ : ∃ m', yz m' d 207 120 loc [] h = some res := si1f (off := 7) (by decide +kernel) (by decide) (fun e => absurd (k1_le.mp e) (by omega)) hr
      obtain ⟨_, hr⟩ : ∃ m', yz m' d 207 121 loc [.inl (Int32.ofInt 1)] h = some res := sb1 (i := .iconst 1) (by decide +kernel) rfl rfl rfl hr
      generalize ev15 : Int32.ofInt 1 = v15 at hr
      have tv15 : v15.toInt = 1 := by rw [← ev15]; exact (by decide)
      obtain ⟨_, hr⟩ : ∃ m', yz m' d 207 125 loc [.inl (v15)] h = some res := sgoh (off := 4) (by decide +kernel) (by decide) hr
      have hr := senh (i := .ireturn) (r := some (.inl (v15))) (by decide +kernel) rfl rfl hr
      refine ⟨_, hr, ?_⟩
      rw [hg]
      rw [if_neg (by decide), if_neg (by decide), if_neg (by decide), if_neg (by decide), if_neg (by decide), if_neg (by decide), if_pos rfl]
      rw [if_pos c1, tv15]
      rfl
    · have t0 : v14.toInt ≤ 0 := by rw [tv14]; split <;> (try split) <;> first | decide | omega
      obtain ⟨_, hr⟩ : ∃ m', yz m' d 207 124 loc [] h = some res := si1t (off := 7) (by decide +kernel) (by decide) (k1_le.mpr (by omega)) hr
      obtain ⟨_, hr⟩ : ∃ m', yz m' d 207 125 loc [.inl (Int32.ofInt 0)] h = some res := sb1 (i := .iconst 0) (by decide +kernel) rfl rfl rfl hr
      generalize ev16 : Int32.ofInt 0 = v16 at hr
      have tv16 : v16.toInt = 0 := by rw [← ev16]; exact (by decide)
      have hr := senh (i := .ireturn) (r := some (.inl (v16))) (by decide +kernel) rfl rfl hr
      refine ⟨_, hr, ?_⟩
      rw [hg]
      rw [if_neg (by decide), if_neg (by decide), if_neg (by decide), if_neg (by decide), if_neg (by decide), if_neg (by decide), if_pos rfl]
      rw [if_neg c1, tv16]
      rfl
  · have hc : c.toInt = 10 := by rw [hc, hg]; exact mS38.1
    obtain ⟨_, hr⟩ : ∃ m', yz m' d 207 126 loc [] h = some res := stbh (dd := 143) (lo := 2) (hi' := 10) (offs := #[51, 58, 65, 72, 89, 101, 113, 143, 125]) (off := 125) (by decide +kernel) (by rw [hc]; rfl) (by decide) hr
    obtain ⟨_, hr⟩ : ∃ m', yz m' d 207 127 loc [.inr (.inl (a))] h = some res := sllh (k := 1) (by decide +kernel) g1 hr
    obtain ⟨_, hr⟩ : ∃ m', yz m' d 207 128 loc [.inr (.inl (Int64.ofNat 0)), .inr (.inl (a))] h = some res := sb1 (i := .lconst 0) (by decide +kernel) rfl rfl rfl hr
    generalize ev17 : Int64.ofNat 0 = v17 at hr
    have tv17 : v17.toInt = 0 := by rw [← ev17]; exact (by decide)
    obtain ⟨_, hr⟩ : ∃ m', yz m' d 207 129 loc [.inl (lg_cmp (a) (v17))] h = some res := scm (by decide +kernel) hr
    generalize ev18 : lg_cmp (a) (v17) = v18 at hr
    have tv18 : v18.toInt = if a.toInt < v17.toInt then -1 else if a.toInt = v17.toInt then 0 else 1 := by rw [← ev18]; exact (scmp64 _ _)
    by_cases c1 : a.toInt = 0
    · have t0 : v18.toInt = 0 := by rw [tv18, if_neg (by omega), if_pos (by omega)]
      obtain ⟨_, hr⟩ : ∃ m', yz m' d 207 142 loc [] h = some res := si1t (off := 13) (by decide +kernel) (by decide) (k1_eq.mpr (by omega)) hr
      obtain ⟨_, hr⟩ : ∃ m', yz m' d 207 143 loc [.inl (Int32.ofInt 0)] h = some res := sb1 (i := .iconst 0) (by decide +kernel) rfl rfl rfl hr
      generalize ev19 : Int32.ofInt 0 = v19 at hr
      have tv19 : v19.toInt = 0 := by rw [← ev19]; exact (by decide)
      have hr := senh (i := .ireturn) (r := some (.inl (v19))) (by decide +kernel) rfl rfl hr
      refine ⟨_, hr, ?_⟩
      rw [hg]
      rw [if_neg (by decide), if_neg (by decide), if_neg (by decide), if_neg (by decide), if_neg (by decide), if_neg (by decide), if_neg (by decide), if_pos rfl]
      rw [if_neg (fun z => z.1 c1), tv19]
      rfl
    · have t0 : ¬ v18.toInt = 0 := by rw [tv18]; split <;> (try split) <;> first | decide | omega
      obtain ⟨_, hr⟩ : ∃ m', yz m' d 207 132 loc [] h = some res := si1f (off := 13) (by decide +kernel) (by decide) (fun e => absurd (k1_eq.mp e) (by omega)) hr
      obtain ⟨_, hr⟩ : ∃ m', yz m' d 207 133 loc [.inr (.inl (b))] h = some res := sllh (k := 3) (by decide +kernel) g3 hr
      obtain ⟨_, hr⟩ : ∃ m', yz m' d 207 134 loc [.inr (.inl (Int64.ofNat 0)), .inr (.inl (b))] h = some res := sb1 (i := .lconst 0) (by decide +kernel) rfl rfl rfl hr
      generalize ev20 : Int64.ofNat 0 = v20 at hr
      have tv20 : v20.toInt = 0 := by rw [← ev20]; exact (by decide)
      obtain ⟨_, hr⟩ : ∃ m', yz m' d 207 135 loc [.inl (lg_cmp (b) (v20))] h = some res := scm (by decide +kernel) hr
      generalize ev21 : lg_cmp (b) (v20) = v21 at hr
      have tv21 : v21.toInt = if b.toInt < v20.toInt then -1 else if b.toInt = v20.toInt then 0 else 1 := by rw [← ev21]; exact (scmp64 _ _)
      by_cases c2 : b.toInt = 0
      · have t1 : v21.toInt = 0 := by rw [tv21, if_neg (by omega), if_pos (by omega)]
        obtain ⟨_, hr⟩ : ∃ m', yz m' d 207 142 loc [] h = some res := si1t (off := 7) (by decide +kernel) (by decide) (k1_eq.mpr (by omega)) hr
        obtain ⟨_, hr⟩ : ∃ m', yz m' d 207 143 loc [.inl (Int32.ofInt 0)] h = some res := sb1 (i := .iconst 0) (by decide +kernel) rfl rfl rfl hr
        generalize ev22 : Int32.ofInt 0 = v22 at hr
        have tv22 : v22.toInt = 0 := by rw [← ev22]; exact (by decide)
        have hr := senh (i := .ireturn) (r := some (.inl (v22))) (by decide +kernel) rfl rfl hr
        refine ⟨_, hr, ?_⟩
        rw [hg]
        rw [if_neg (by decide), if_neg (by decide), if_neg (by decide), if_neg (by decide), if_neg (by decide), if_neg (by decide), if_neg (by decide), if_pos rfl]
        rw [if_neg (fun z => z.2 c2), tv22]
        rfl
      · have t1 : ¬ v21.toInt = 0 := by rw [tv21]; split <;> (try split) <;> first | decide | omega
        obtain ⟨_, hr⟩ : ∃ m', yz m' d 207 138 loc [] h = some res := si1f (off := 7) (by decide +kernel) (by decide) (fun e => absurd (k1_eq.mp e) (by omega)) hr
        obtain ⟨_, hr⟩ : ∃ m', yz m' d 207 139 loc [.inl (Int32.ofInt 1)] h = some res := sb1 (i := .iconst 1) (by decide +kernel) rfl rfl rfl hr
        generalize ev23 : Int32.ofInt 1 = v23 at hr
        have tv23 : v23.toInt = 1 := by rw [← ev23]; exact (by decide)
        obtain ⟨_, hr⟩ : ∃ m', yz m' d 207 143 loc [.inl (v23)] h = some res := sgoh (off := 4) (by decide +kernel) (by decide) hr
        have hr := senh (i := .ireturn) (r := some (.inl (v23))) (by decide +kernel) rfl rfl hr
        refine ⟨_, hr, ?_⟩
        rw [hg]
        rw [if_neg (by decide), if_neg (by decide), if_neg (by decide), if_neg (by decide), if_neg (by decide), if_neg (by decide), if_neg (by decide), if_pos rfl]
        rw [if_pos ⟨c1, c2⟩, tv23]
        rfl
  · have hc : c.toInt = 11 := by rw [hc, hg]; exact mS124.1
    obtain ⟨_, hr⟩ : ∃ m', yz m' d 207 144 loc [] h = some res := stbh (dd := 143) (lo := 2) (hi' := 10) (offs := #[51, 58, 65, 72, 89, 101, 113, 143, 125]) (off := 143) (by decide +kernel) (by rw [hc]; rfl) (by decide) hr
    obtain ⟨_, hr⟩ : ∃ m', yz m' d 207 145 loc [.inr (.inl (a))] h = some res := sllh (k := 1) (by decide +kernel) g1 hr
    obtain ⟨_, hr⟩ : ∃ m', yz m' d 207 146 loc [.inr (.inl (Int64.ofNat 0)), .inr (.inl (a))] h = some res := sb1 (i := .lconst 0) (by decide +kernel) rfl rfl rfl hr
    generalize ev24 : Int64.ofNat 0 = v24 at hr
    have tv24 : v24.toInt = 0 := by rw [← ev24]; exact (by decide)
    obtain ⟨_, hr⟩ : ∃ m', yz m' d 207 147 loc [.inl (lg_cmp (a) (v24))] h = some res := scm (by decide +kernel) hr
    generalize ev25 : lg_cmp (a) (v24) = v25 at hr
    have tv25 : v25.toInt = if a.toInt < v24.toInt then -1 else if a.toInt = v24.toInt then 0 else 1 := by rw [← ev25]; exact (scmp64 _ _)
    by_cases c1 : a.toInt = 0
    · have t0 : v25.toInt = 0 := by rw [tv25, if_neg (by omega), if_pos (by omega)]
      obtain ⟨_, hr⟩ : ∃ m', yz m' d 207 150 loc [] h = some res := si1f (off := 9) (by decide +kernel) (by decide) (fun e => absurd (k1_ne.mp e) (by omega)) hr
      obtain ⟨_, hr⟩ : ∃ m', yz m' d 207 151 loc [.inr (.inl (b))] h = some res := sllh (k := 3) (by decide +kernel) g3 hr
      obtain ⟨_, hr⟩ : ∃ m', yz m' d 207 152 loc [.inr (.inl (Int64.ofNat 0)), .inr (.inl (b))] h = some res := sb1 (i := .lconst 0) (by decide +kernel) rfl rfl rfl hr
      generalize ev26 : Int64.ofNat 0 = v26 at hr
      have tv26 : v26.toInt = 0 := by rw [← ev26]; exact (by decide)
      obtain ⟨_, hr⟩ : ∃ m', yz m' d 207 153 loc [.inl (lg_cmp (b) (v26))] h = some res := scm (by decide +kernel) hr
      generalize ev27 : lg_cmp (b) (v26) = v27 at hr
      have tv27 : v27.toInt = if b.toInt < v26.toInt then -1 else if b.toInt = v26.toInt then 0 else 1 := by rw [← ev27]; exact (scmp64 _ _)
      by_cases c2 : b.toInt = 0
      · have t1 : v27.toInt = 0 := by rw [tv27, if_neg (by omega), if_pos (by omega)]
        obtain ⟨_, hr⟩ : ∃ m', yz m' d 207 160 loc [] h = some res := si1t (off := 7) (by decide +kernel) (by decide) (k1_eq.mpr (by omega)) hr
        obtain ⟨_, hr⟩ : ∃ m', yz m' d 207 161 loc [.inl (Int32.ofInt 0)] h = some res := sb1 (i := .iconst 0) (by decide +kernel) rfl rfl rfl hr
        generalize ev28 : Int32.ofInt 0 = v28 at hr
        have tv28 : v28.toInt = 0 := by rw [← ev28]; exact (by decide)
        have hr := senh (i := .ireturn) (r := some (.inl (v28))) (by decide +kernel) rfl rfl hr
        refine ⟨_, hr, ?_⟩
        rw [hg]
        rw [if_neg (by decide), if_neg (by decide), if_neg (by decide), if_neg (by decide), if_neg (by decide), if_neg (by decide), if_neg (by decide), if_neg (by decide)]
        rw [if_neg (fun z => z.elim (fun y => y c1) (fun y => y c2)), tv28]
        rfl
      · have t1 : ¬ v27.toInt = 0 := by rw [tv27]; split <;> (try split) <;> first | decide | omega
        obtain ⟨_, hr⟩ : ∃ m', yz m' d 207 156 loc [] h = some res := si1f (off := 7) (by decide +kernel) (by decide) (fun e => absurd (k1_eq.mp e) (by omega)) hr
        obtain ⟨_, hr⟩ : ∃ m', yz m' d 207 157 loc [.inl (Int32.ofInt 1)] h = some res := sb1 (i := .iconst 1) (by decide +kernel) rfl rfl rfl hr
        generalize ev29 : Int32.ofInt 1 = v29 at hr
        have tv29 : v29.toInt = 1 := by rw [← ev29]; exact (by decide)
        obtain ⟨_, hr⟩ : ∃ m', yz m' d 207 161 loc [.inl (v29)] h = some res := sgoh (off := 4) (by decide +kernel) (by decide) hr
        have hr := senh (i := .ireturn) (r := some (.inl (v29))) (by decide +kernel) rfl rfl hr
        refine ⟨_, hr, ?_⟩
        rw [hg]
        rw [if_neg (by decide), if_neg (by decide), if_neg (by decide), if_neg (by decide), if_neg (by decide), if_neg (by decide), if_neg (by decide), if_neg (by decide)]
        rw [if_pos (Or.inr c2), tv29]
        rfl
    · have t0 : ¬ v25.toInt = 0 := by rw [tv25]; split <;> (try split) <;> first | decide | omega
      obtain ⟨_, hr⟩ : ∃ m', yz m' d 207 156 loc [] h = some res := si1t (off := 9) (by decide +kernel) (by decide) (k1_ne.mpr (by omega)) hr
      obtain ⟨_, hr⟩ : ∃ m', yz m' d 207 157 loc [.inl (Int32.ofInt 1)] h = some res := sb1 (i := .iconst 1) (by decide +kernel) rfl rfl rfl hr
      generalize ev30 : Int32.ofInt 1 = v30 at hr
      have tv30 : v30.toInt = 1 := by rw [← ev30]; exact (by decide)
      obtain ⟨_, hr⟩ : ∃ m', yz m' d 207 161 loc [.inl (v30)] h = some res := sgoh (off := 4) (by decide +kernel) (by decide) hr
      have hr := senh (i := .ireturn) (r := some (.inl (v30))) (by decide +kernel) rfl rfl hr
      refine ⟨_, hr, ?_⟩
      rw [hg]
      rw [if_neg (by decide), if_neg (by decide), if_neg (by decide), if_neg (by decide), if_neg (by decide), if_neg (by decide), if_neg (by decide), if_neg (by decide)]
      rw [if_pos (Or.inl c1), tv30]
      rfl
/-- tokens in the reference's rows -/
noncomputable def mAt (h : zH) (a : Nat) (l : List Int) : Prop := ∀ j v, l[j]? = some v → (h.1 408 (a + j)).toInt = mCd v ∧ (h.1 409 (a + j)).toInt = mVl v
theorem mAt_cons {h : zH} {a : Nat} {v : Int} {l : List Int} (e : mAt h a (v :: l)) : ((h.1 408 a).toInt = mCd v ∧ (h.1 409 a).toInt = mVl v) ∧ mAt h (a + 1) l := by
  refine ⟨e 0 v rfl, fun j w hj => ?_⟩
  have := e (j + 1) w hj
  rw [show a + 1 + j = a + (j + 1) by omega]
  exact this
theorem mAt_zs {h : zH} {c a i : Nat} {x : Int32} {l : List Int} (e : mAt h a l) (h1 : 408 ≠ c) (h2 : 409 ≠ c) : mAt (zs h c i x) a l := fun j v hj => by
  rw [zs_o h1, zs_o h2]
  exact e j v hj
theorem mCd_n {s : Int} (h : 0 ≤ s) (h2 : s < 10000) : mCd s = 0 ∧ mVl s = s := mSn h (by omega)
theorem mCd_l {s : Int} (h : 10000 ≤ s) : mCd s = 1 ∧ mVl s = s - 10000 := by
  unfold mCd mVl
  rw [if_pos h, if_pos h]
  exact ⟨rfl, rfl⟩
theorem mCd_g {g : Int} (h : sgOk g) : 2 ≤ mCd (-g) ∧ mCd (-g) ≤ 11 ∧ mCd (-g) ≠ 9 := by
  rcases h with h | h | h | h | h | h | h | h | h <;> subst h
  · rw [mS43.1]; decide
  · rw [mS45.1]; decide
  · rw [mS42.1]; decide
  · rw [mS47.1]; decide
  · rw [mS61.1]; decide
  · rw [mS60.1]; decide
  · rw [mS62.1]; decide
  · rw [mS38.1]; decide
  · rw [mS124.1]; decide
set_option maxRecDepth 100000 in
theorem rn_workOut_l {L : Nat → Int} (hLb : ∀ j, j < 6 → -1000000 ≤ L j ∧ L j ≤ 1000000) : ∀ (l : List Int) (m : Nat) (loc : zL) (n fr to top k : Int32) (st : List Int) (h : zH) (res : Option zV × zH), (∀ s ∈ l, tkE s) → (∀ v ∈ st, -1000000 ≤ v ∧ v ≤ 1000001) → (0 ≤ n.toInt ∧ n.toInt ≤ 4) → (0 ≤ to.toInt ∧ to.toInt ≤ 520) → 0 ≤ k.toInt → mAt h k.toInt.toNat l → k.toInt + l.length = 520 * n.toInt + to.toInt → (∀ j, j < 6 → (h.1 415 j).toInt = L j) → aAt h 416 0 st.reverse → top.toInt = st.length → zget loc 0 = some (.inr (.inr 440)) → zget loc 1 = some (.inl n) → zget loc 2 = some (.inl fr) → zget loc 3 = some (.inl to) → zget loc 4 = some (.inl top) → zget loc 5 = some (.inl k) → yz m d 206 12 loc [] h = some res → ∃ (r : Int32) (h' : zH), res = (some (.inl r), h') ∧ (∀ v, (wEx L l st).reverse[0]? = some v → r.toInt = v) ∧ (∀ a, a ≠ 416 → h'.1 a = h.1 a) ∧ h'.2 = h.2 ∧ ∀ i, 80 ≤ i → h'.1 416 i = h.1 416 i
  | l, m, loc, n, fr, to, top, k, st, h, res, hT, hV, hn, hto, hk0, hC, hsz, hL, hS, htop, g0, g1, g2, g3, g4, g5, hr => by
    obtain ⟨_, hr⟩ : ∃ m', yz m' d 206 14 loc [.inl (k)] h = some res := sil2 (k := 5) (by decide +kernel) g5 hr
    obtain ⟨_, hr⟩ : ∃ m', yz m' d 206 17 loc [.inl ((Int16.ofInt 520).toInt32), .inl (k)] h = some res := sb1 (i := .sipush 520) (by decide +kernel) rfl rfl rfl hr
    generalize ev1 : (Int16.ofInt 520).toInt32 = v1 at hr
    have tv1 : v1.toInt = 520 := by rw [← ev1]; exact (by decide)
    obtain ⟨_, hr⟩ : ∃ m', yz m' d 206 18 loc [.inl (n), .inl (v1), .inl (k)] h = some res := sil (k := 1) (by decide +kernel) g1 hr
    obtain ⟨_, hr⟩ : ∃ m', yz m' d 206 19 loc [.inl ((v1) * (n)), .inl (k)] h = some res := sb1 (i := .imul) (by decide +kernel) rfl rfl rfl hr
    generalize ev2 : (v1) * (n) = v2 at hr
    have tv2 : v2.toInt = v1.toInt * n.toInt := by rw [← ev2]; exact (imul_ (by rw [tv1]; omega))
    rw [tv1] at tv2
    obtain ⟨_, hr⟩ : ∃ m', yz m' d 206 20 loc [.inl (to), .inl (v2), .inl (k)] h = some res := sil (k := 3) (by decide +kernel) g3 hr
    obtain ⟨_, hr⟩ : ∃ m', yz m' d 206 21 loc [.inl ((v2) + (to)), .inl (k)] h = some res := sb1 (i := .iadd) (by decide +kernel) rfl rfl rfl hr
    generalize ev3 : (v2) + (to) = v3 at hr
    have tv3 : v3.toInt = v2.toInt + to.toInt := by rw [← ev3]; exact (iadd_ (by omega))
    have hst := List.length_reverse (as := st)
    have btop := si32 top
    match l, hT, hC, hsz with
    | [], hT, hC, hsz =>
      have hsz : k.toInt + 0 = _ := hsz
      obtain ⟨_, hr⟩ : ∃ m', yz m' d 206 171 loc [] h = some res := si2t (off := 150) (by decide +kernel) (by decide) (k2_ge.mpr (by omega)) hr
      obtain ⟨_, hr⟩ : ∃ m', yz m' d 206 172 loc [.inr (.inr (440))] h = some res := sal (k := 0) (by decide +kernel) g0 hr
      obtain ⟨_, hr⟩ : ∃ m', yz m' d 206 175 loc [.inr (.inr (416))] h = some res := sgr (idx := 37) (fi := 16) (b := 3) (by decide +kernel) (by decide +kernel) hr
      obtain ⟨_, hr⟩ : ∃ m', yz m' d 206 176 loc [.inl (Int32.ofInt 0), .inr (.inr (416))] h = some res := sb1 (i := .iconst 0) (by decide +kernel) rfl rfl rfl hr
      generalize ev4 : Int32.ofInt 0 = v4 at hr
      have tv4 : v4.toInt = 0 := by rw [← ev4]; exact (by decide)
      obtain ⟨z4, _, hr⟩ : zin (v4) 80 = true ∧ ∃ m', yz m' d 206 177 loc [.inl (h.1 (416) (v4).toNatClampNeg)] h = some res := sia (q := []) (by decide +kernel) (by decide +kernel) hr
      have z4 := zin_i z4
      generalize ev6 : h.1 (416) (v4).toNatClampNeg = v6 at hr
      have hr := senh (i := .ireturn) (r := some (.inl (v6))) (by decide +kernel) rfl rfl hr
      refine ⟨_, _, hr, fun v hv => ?_, fun _ _ => rfl, rfl, fun _ _ => rfl⟩
      rw [← ev6, show v4.toNatClampNeg = 0 from by rw [tcn]; omega]
      exact hS 0 v hv
    | s :: l, hT, hC, hsz =>
      rw [List.length_cons] at hsz
      obtain ⟨_, hr⟩ : ∃ m', yz m' d 206 24 loc [] h = some res := si2f (off := 150) (by decide +kernel) (by decide) (fun e => absurd (k2_ge.mp e) (by omega)) hr
      obtain ⟨⟨hc0, hv0⟩, hC1⟩ := mAt_cons hC
      have hTs := hT s (List.mem_cons_self ..)
      have hTc : ∀ s ∈ l, tkE s := fun x hx => hT x (List.mem_cons_of_mem _ hx)
      have kC : mAt h (k.toInt + 1).toNat l := by rw [show (k.toInt + 1).toNat = k.toInt.toNat + 1 by omega]; exact hC1
      obtain ⟨_, hr⟩ : ∃ m', yz m' d 206 25 loc [.inr (.inr (440))] h = some res := sal (k := 0) (by decide +kernel) g0 hr
      obtain ⟨_, hr⟩ : ∃ m', yz m' d 206 28 loc [.inr (.inr (408))] h = some res := sgr (idx := 13) (fi := 6) (b := 3) (by decide +kernel) (by decide +kernel) hr
      obtain ⟨_, hr⟩ : ∃ m', yz m' d 206 30 loc [.inl (k), .inr (.inr (408))] h = some res := sil2 (k := 5) (by decide +kernel) g5 hr
      obtain ⟨z6, _, hr⟩ : zin (k) 2600 = true ∧ ∃ m', yz m' d 206 31 loc [.inl (h.1 (408) (k).toNatClampNeg)] h = some res := sia (q := []) (by decide +kernel) (by decide +kernel) hr
      have z6 := zin_i z6
      generalize ev8 : h.1 (408) (k).toNatClampNeg = v8 at hr
      have cv8 : v8.toInt = mCd s := by rw [← ev8, tcn]; exact hc0
      by_cases c2 : 0 ≤ s
      · have hs5 : s ≤ 10005 := by rcases hTs with y | y | y; exact y.2; omega; (unfold sgOk at y; omega)
        by_cases c3 : 10000 ≤ s
        · have hm := mCd_l c3
          obtain ⟨_, hr⟩ : ∃ m', yz m' d 206 34 loc [] h = some res := si1f (off := 14) (by decide +kernel) (by decide) (fun e => absurd (k1_eq.mp e) (by omega)) hr
          obtain ⟨_, hr⟩ : ∃ m', yz m' d 206 35 loc [.inr (.inr (440))] h = some res := sal (k := 0) (by decide +kernel) g0 hr
          obtain ⟨_, hr⟩ : ∃ m', yz m' d 206 38 loc [.inr (.inr (408))] h = some res := sgr (idx := 13) (fi := 6) (b := 3) (by decide +kernel) (by decide +kernel) hr
          obtain ⟨_, hr⟩ : ∃ m', yz m' d 206 40 loc [.inl (k), .inr (.inr (408))] h = some res := sil2 (k := 5) (by decide +kernel) g5 hr
          obtain ⟨z8, _, hr⟩ : zin (k) 2600 = true ∧ ∃ m', yz m' d 206 41 loc [.inl (h.1 (408) (k).toNatClampNeg)] h = some res := sia (q := []) (by decide +kernel) (by decide +kernel) hr
          have z8 := zin_i z8
          generalize ev10 : h.1 (408) (k).toNatClampNeg = v10 at hr
          have cv10 : v10.toInt = mCd s := by rw [← ev10, tcn]; exact hc0
          obtain ⟨_, hr⟩ : ∃ m', yz m' d 206 42 loc [.inl (Int32.ofInt 1), .inl (v10)] h = some res := sb1 (i := .iconst 1) (by decide +kernel) rfl rfl rfl hr
          generalize ev11 : Int32.ofInt 1 = v11 at hr
          have tv11 : v11.toInt = 1 := by rw [← ev11]; exact (by decide)
          obtain ⟨_, hr⟩ : ∃ m', yz m' d 206 45 loc [] h = some res := si2f (off := 48) (by decide +kernel) (by decide) (fun e => absurd (k2_ne.mp e) (by omega)) hr
          obtain ⟨_, hr⟩ : ∃ m', yz m' d 206 46 loc [.inr (.inr (440))] h = some res := sal (k := 0) (by decide +kernel) g0 hr
          obtain ⟨_, hr⟩ : ∃ m', yz m' d 206 49 loc [.inr (.inr (416))] h = some res := sgr (idx := 37) (fi := 16) (b := 3) (by decide +kernel) (by decide +kernel) hr
          obtain ⟨_, hr⟩ : ∃ m', yz m' d 206 51 loc [.inl (top), .inr (.inr (416))] h = some res := sil2 (k := 4) (by decide +kernel) g4 hr
          obtain ⟨_, hr⟩ : ∃ m', yz m' d 206 52 loc [.inr (.inr (440)), .inl (top), .inr (.inr (416))] h = some res := sal (k := 0) (by decide +kernel) g0 hr
          obtain ⟨_, hr⟩ : ∃ m', yz m' d 206 55 loc [.inr (.inr (408)), .inl (top), .inr (.inr (416))] h = some res := sgr (idx := 13) (fi := 6) (b := 3) (by decide +kernel) (by decide +kernel) hr
          obtain ⟨_, hr⟩ : ∃ m', yz m' d 206 57 loc [.inl (k), .inr (.inr (408)), .inl (top), .inr (.inr (416))] h = some res := sil2 (k := 5) (by decide +kernel) g5 hr
          obtain ⟨z11, _, hr⟩ : zin (k) 2600 = true ∧ ∃ m', yz m' d 206 58 loc [.inl (h.1 (408) (k).toNatClampNeg), .inl (top), .inr (.inr (416))] h = some res := sia (q := []) (by decide +kernel) (by decide +kernel) hr
          have z11 := zin_i z11
          generalize ev13 : h.1 (408) (k).toNatClampNeg = v13 at hr
          have cv13 : v13.toInt = mCd s := by rw [← ev13, tcn]; exact hc0
          obtain ⟨_, hr⟩ : ∃ m', yz m' d 206 71 loc [.inl (top), .inr (.inr (416))] h = some res := si1t (off := 13) (by decide +kernel) (by decide) (k1_ne.mpr (by omega)) hr
          obtain ⟨_, hr⟩ : ∃ m', yz m' d 206 72 loc [.inr (.inr (440)), .inl (top), .inr (.inr (416))] h = some res := sal (k := 0) (by decide +kernel) g0 hr
          obtain ⟨_, hr⟩ : ∃ m', yz m' d 206 75 loc [.inr (.inr (415)), .inl (top), .inr (.inr (416))] h = some res := sgr (idx := 34) (fi := 15) (b := 3) (by decide +kernel) (by decide +kernel) hr
          obtain ⟨_, hr⟩ : ∃ m', yz m' d 206 76 loc [.inr (.inr (440)), .inr (.inr (415)), .inl (top), .inr (.inr (416))] h = some res := sal (k := 0) (by decide +kernel) g0 hr
          obtain ⟨_, hr⟩ : ∃ m', yz m' d 206 79 loc [.inr (.inr (409)), .inr (.inr (415)), .inl (top), .inr (.inr (416))] h = some res := sgr (idx := 16) (fi := 7) (b := 3) (by decide +kernel) (by decide +kernel) hr
          obtain ⟨_, hr⟩ : ∃ m', yz m' d 206 81 loc [.inl (k), .inr (.inr (409)), .inr (.inr (415)), .inl (top), .inr (.inr (416))] h = some res := sil2 (k := 5) (by decide +kernel) g5 hr
          obtain ⟨z13, _, hr⟩ : zin (k) 2600 = true ∧ ∃ m', yz m' d 206 82 loc [.inl (h.1 (409) (k).toNatClampNeg), .inr (.inr (415)), .inl (top), .inr (.inr (416))] h = some res := sia (q := []) (by decide +kernel) (by decide +kernel) hr
          have z13 := zin_i z13
          generalize ev15 : h.1 (409) (k).toNatClampNeg = v15 at hr
          have cv15 : v15.toInt = mVl s := by rw [← ev15, tcn]; exact hv0
          obtain ⟨z15, _, hr⟩ : zin (v15) 6 = true ∧ ∃ m', yz m' d 206 83 loc [.inl (h.1 (415) (v15).toNatClampNeg), .inl (top), .inr (.inr (416))] h = some res := sia (q := []) (by decide +kernel) (by decide +kernel) hr
          have z15 := zin_i z15
          generalize ev17 : h.1 (415) (v15).toNatClampNeg = v17 at hr
          have ex : v17.toInt = cVal L s := by
            unfold cVal
            rw [if_pos c3, ← hL _ (by omega), ← ev17, tcn, cv15, hm.2]
          obtain ⟨zi, _, hr⟩ := sis (len := 80) (q := []) (by decide +kernel) (by decide +kernel) hr
          obtain ⟨h5, eh5⟩ : ∃ x : zH, x = zs h (416) (top).toNatClampNeg (v17) := ⟨_, rfl⟩
          obtain ⟨_, hr⟩ : ∃ m', yz m' d 206 84 loc [] h5 = some res := by rw [eh5]; exact ⟨_, hr⟩
          have zi := zin_i zi
          obtain ⟨_, hr⟩ := sii (k := 4) (n := 1) (by decide +kernel) g4 hr
          generalize ev19 : top + Int32.ofInt 1 = v19 at hr
          have tv19 : v19.toInt = top.toInt + 1 := by rw [← ev19, iadd_ (by rw [show (Int32.ofInt 1).toInt = 1 from by decide]; omega)]; rfl
          obtain ⟨lo20, elo20⟩ : ∃ l, l = zput1 loc 4 (.inl (v19)) := ⟨_, rfl⟩
          obtain ⟨_, hr⟩ : ∃ m', yz m' d 206 87 lo20 [] h5 = some res := by rw [elo20]; exact ⟨_, hr⟩
          have g0_20 : zget lo20 0 = some (.inr (.inr (440))) := by rw [elo20]; exact zg_put (by decide) g0 rfl
          have g1_20 : zget lo20 1 = some (.inl (n)) := by rw [elo20]; exact zg_put (by decide) g1 rfl
          have g2_20 : zget lo20 2 = some (.inl (fr)) := by rw [elo20]; exact zg_put (by decide) g2 rfl
          have g3_20 : zget lo20 3 = some (.inl (to)) := by rw [elo20]; exact zg_put (by decide) g3 rfl
          have g5_20 : zget lo20 5 = some (.inl (k)) := by rw [elo20]; exact zg_put (by decide) g5 rfl
          have g4_20 : zget lo20 4 = some (.inl (v19)) := by rw [elo20]; exact zg_same
          obtain ⟨_, hr⟩ : ∃ m', yz m' d 206 165 lo20 [] h5 = some res := sgoh (off := 78) (by decide +kernel) (by decide) hr
          obtain ⟨_, hr⟩ := sii (k := 5) (n := 1) (by decide +kernel) g5_20 hr
          generalize ev21 : k + Int32.ofInt 1 = v21 at hr
          have tv21 : v21.toInt = k.toInt + 1 := by rw [← ev21, iadd_ (by rw [show (Int32.ofInt 1).toInt = 1 from by decide]; omega)]; rfl
          obtain ⟨lo22, elo22⟩ : ∃ l, l = zput1 lo20 5 (.inl (v21)) := ⟨_, rfl⟩
          obtain ⟨_, hr⟩ : ∃ m', yz m' d 206 168 lo22 [] h5 = some res := by rw [elo22]; exact ⟨_, hr⟩
          have g0_22 : zget lo22 0 = some (.inr (.inr (440))) := by rw [elo22]; exact zg_put (by decide) g0_20 rfl
          have g1_22 : zget lo22 1 = some (.inl (n)) := by rw [elo22]; exact zg_put (by decide) g1_20 rfl
          have g2_22 : zget lo22 2 = some (.inl (fr)) := by rw [elo22]; exact zg_put (by decide) g2_20 rfl
          have g3_22 : zget lo22 3 = some (.inl (to)) := by rw [elo22]; exact zg_put (by decide) g3_20 rfl
          have g4_22 : zget lo22 4 = some (.inl (v19)) := by rw [elo22]; exact zg_put (by decide) g4_20 rfl
          have g5_22 : zget lo22 5 = some (.inl (v21)) := by rw [elo22]; exact zg_same
          obtain ⟨_, hr⟩ : ∃ m', yz m' d 206 12 lo22 [] h5 = some res := sgob (off := (-156)) (by decide +kernel) (by decide) hr
          have etop : top.toNatClampNeg = st.length := by rw [tcn]; omega
          have bq : -1000000 ≤ cVal L s ∧ cVal L s ≤ 1000000 := by
            unfold cVal
            split
            · exact hLb _ (by omega)
            · omega
          obtain ⟨r, h9, q1, q2, q3, q4, q5⟩ := rn_workOut_l hLb l _ lo22 n fr to v19 v21 (cVal L s :: st) h5 _ hTc (fun v hv => by rcases List.mem_cons.mp hv with y | y; rw [y]; exact ⟨bq.1, by omega⟩; exact hV v y) hn hto (by omega) (by rw [tv21, eh5]; exact mAt_zs kC (by decide) (by decide)) (by omega) (fun j hj => by rw [eh5, zs_o (by decide)]; exact hL j hj) (aAt_rev.mpr ⟨by rw [eh5]; exact aAt_zs hS (fun _ j hj => by rw [etop]; omega), by rw [eh5, etop, zs_s]; exact ex⟩) (by rw [List.length_cons]; omega) g0_22 g1_22 g2_22 g3_22 g4_22 g5_22 hr
          refine ⟨r, h9, q1, fun v hv => q2 v ?_, fun a ha => by rw [q3 a ha, eh5]; funext i; exact zs_o ha, by rw [q4, eh5]; rfl, fun i hi => by rw [q5 i hi, eh5]; exact zs_i (by rw [tcn]; omega)⟩
          have eq : wEx L (s :: l) st = wEx L l (cVal L s :: st) := by
            show (if 0 ≤ s then _ else _) = _
            rw [if_pos c2]
          rw [← eq]
          exact hv
        · have hm := mCd_n c2 (by omega)
          obtain ⟨_, hr⟩ : ∃ m', yz m' d 206 45 loc [] h = some res := si1t (off := 14) (by decide +kernel) (by decide) (k1_eq.mpr (by omega)) hr
          obtain ⟨_, hr⟩ : ∃ m', yz m' d 206 46 loc [.inr (.inr (440))] h = some res := sal (k := 0) (by decide +kernel) g0 hr
          obtain ⟨_, hr⟩ : ∃ m', yz m' d 206 49 loc [.inr (.inr (416))] h = some res := sgr (idx := 37) (fi := 16) (b := 3) (by decide +kernel) (by decide +kernel) hr
          obtain ⟨_, hr⟩ : ∃ m', yz m' d 206 51 loc [.inl (top), .inr (.inr (416))] h = some res := sil2 (k := 4) (by decide +kernel) g4 hr
          obtain ⟨_, hr⟩ : ∃ m', yz m' d 206 52 loc [.inr (.inr (440)), .inl (top), .inr (.inr (416))] h = some res := sal (k := 0) (by decide +kernel) g0 hr
          obtain ⟨_, hr⟩ : ∃ m', yz m' d 206 55 loc [.inr (.inr (408)), .inl (top), .inr (.inr (416))] h = some res := sgr (idx := 13) (fi := 6) (b := 3) (by decide +kernel) (by decide +kernel) hr
          obtain ⟨_, hr⟩ : ∃ m', yz m' d 206 57 loc [.inl (k), .inr (.inr (408)), .inl (top), .inr (.inr (416))] h = some res := sil2 (k := 5) (by decide +kernel) g5 hr
          obtain ⟨z22, _, hr⟩ : zin (k) 2600 = true ∧ ∃ m', yz m' d 206 58 loc [.inl (h.1 (408) (k).toNatClampNeg), .inl (top), .inr (.inr (416))] h = some res := sia (q := []) (by decide +kernel) (by decide +kernel) hr
          have z22 := zin_i z22
          generalize ev24 : h.1 (408) (k).toNatClampNeg = v24 at hr
          have cv24 : v24.toInt = mCd s := by rw [← ev24, tcn]; exact hc0
          obtain ⟨_, hr⟩ : ∃ m', yz m' d 206 61 loc [.inl (top), .inr (.inr (416))] h = some res := si1f (off := 13) (by decide +kernel) (by decide) (fun e => absurd (k1_ne.mp e) (by omega)) hr
          obtain ⟨_, hr⟩ : ∃ m', yz m' d 206 62 loc [.inr (.inr (440)), .inl (top), .inr (.inr (416))] h = some res := sal (k := 0) (by decide +kernel) g0 hr
          obtain ⟨_, hr⟩ : ∃ m', yz m' d 206 65 loc [.inr (.inr (409)), .inl (top), .inr (.inr (416))] h = some res := sgr (idx := 16) (fi := 7) (b := 3) (by decide +kernel) (by decide +kernel) hr
          obtain ⟨_, hr⟩ : ∃ m', yz m' d 206 67 loc [.inl (k), .inr (.inr (409)), .inl (top), .inr (.inr (416))] h = some res := sil2 (k := 5) (by decide +kernel) g5 hr
          obtain ⟨z24, _, hr⟩ : zin (k) 2600 = true ∧ ∃ m', yz m' d 206 68 loc [.inl (h.1 (409) (k).toNatClampNeg), .inl (top), .inr (.inr (416))] h = some res := sia (q := []) (by decide +kernel) (by decide +kernel) hr
          have z24 := zin_i z24
          generalize ev26 : h.1 (409) (k).toNatClampNeg = v26 at hr
          have cv26 : v26.toInt = mVl s := by rw [← ev26, tcn]; exact hv0
          obtain ⟨_, hr⟩ : ∃ m', yz m' d 206 83 loc [.inl (v26), .inl (top), .inr (.inr (416))] h = some res := sgoh (off := 15) (by decide +kernel) (by decide) hr
          have ex : v26.toInt = cVal L s := by
            unfold cVal
            rw [if_neg c3]
            omega
          obtain ⟨zi, _, hr⟩ := sis (len := 80) (q := []) (by decide +kernel) (by decide +kernel) hr
          obtain ⟨h5, eh5⟩ : ∃ x : zH, x = zs h (416) (top).toNatClampNeg (v26) := ⟨_, rfl⟩
          obtain ⟨_, hr⟩ : ∃ m', yz m' d 206 84 loc [] h5 = some res := by rw [eh5]; exact ⟨_, hr⟩
          have zi := zin_i zi
          obtain ⟨_, hr⟩ := sii (k := 4) (n := 1) (by decide +kernel) g4 hr
          generalize ev28 : top + Int32.ofInt 1 = v28 at hr
          have tv28 : v28.toInt = top.toInt + 1 := by rw [← ev28, iadd_ (by rw [show (Int32.ofInt 1).toInt = 1 from by decide]; omega)]; rfl
          obtain ⟨lo29, elo29⟩ : ∃ l, l = zput1 loc 4 (.inl (v28)) := ⟨_, rfl⟩
          obtain ⟨_, hr⟩ : ∃ m', yz m' d 206 87 lo29 [] h5 = some res := by rw [elo29]; exact ⟨_, hr⟩
          have g0_29 : zget lo29 0 = some (.inr (.inr (440))) := by rw [elo29]; exact zg_put (by decide) g0 rfl
          have g1_29 : zget lo29 1 = some (.inl (n)) := by rw [elo29]; exact zg_put (by decide) g1 rfl
          have g2_29 : zget lo29 2 = some (.inl (fr)) := by rw [elo29]; exact zg_put (by decide) g2 rfl
          have g3_29 : zget lo29 3 = some (.inl (to)) := by rw [elo29]; exact zg_put (by decide) g3 rfl
          have g5_29 : zget lo29 5 = some (.inl (k)) := by rw [elo29]; exact zg_put (by decide) g5 rfl
          have g4_29 : zget lo29 4 = some (.inl (v28)) := by rw [elo29]; exact zg_same
          obtain ⟨_, hr⟩ : ∃ m', yz m' d 206 165 lo29 [] h5 = some res := sgoh (off := 78) (by decide +kernel) (by decide) hr
          obtain ⟨_, hr⟩ := sii (k := 5) (n := 1) (by decide +kernel) g5_29 hr
          generalize ev30 : k + Int32.ofInt 1 = v30 at hr
          have tv30 : v30.toInt = k.toInt + 1 := by rw [← ev30, iadd_ (by rw [show (Int32.ofInt 1).toInt = 1 from by decide]; omega)]; rfl
          obtain ⟨lo31, elo31⟩ : ∃ l, l = zput1 lo29 5 (.inl (v30)) := ⟨_, rfl⟩
          obtain ⟨_, hr⟩ : ∃ m', yz m' d 206 168 lo31 [] h5 = some res := by rw [elo31]; exact ⟨_, hr⟩
          have g0_31 : zget lo31 0 = some (.inr (.inr (440))) := by rw [elo31]; exact zg_put (by decide) g0_29 rfl
          have g1_31 : zget lo31 1 = some (.inl (n)) := by rw [elo31]; exact zg_put (by decide) g1_29 rfl
          have g2_31 : zget lo31 2 = some (.inl (fr)) := by rw [elo31]; exact zg_put (by decide) g2_29 rfl
          have g3_31 : zget lo31 3 = some (.inl (to)) := by rw [elo31]; exact zg_put (by decide) g3_29 rfl
          have g4_31 : zget lo31 4 = some (.inl (v28)) := by rw [elo31]; exact zg_put (by decide) g4_29 rfl
          have g5_31 : zget lo31 5 = some (.inl (v30)) := by rw [elo31]; exact zg_same
          obtain ⟨_, hr⟩ : ∃ m', yz m' d 206 12 lo31 [] h5 = some res := sgob (off := (-156)) (by decide +kernel) (by decide) hr
          have etop : top.toNatClampNeg = st.length := by rw [tcn]; omega
          have bq : -1000000 ≤ cVal L s ∧ cVal L s ≤ 1000000 := by
            unfold cVal
            split
            · exact hLb _ (by omega)
            · omega
          obtain ⟨r, h9, q1, q2, q3, q4, q5⟩ := rn_workOut_l hLb l _ lo31 n fr to v28 v30 (cVal L s :: st) h5 _ hTc (fun v hv => by rcases List.mem_cons.mp hv with y | y; rw [y]; exact ⟨bq.1, by omega⟩; exact hV v y) hn hto (by omega) (by rw [tv30, eh5]; exact mAt_zs kC (by decide) (by decide)) (by omega) (fun j hj => by rw [eh5, zs_o (by decide)]; exact hL j hj) (aAt_rev.mpr ⟨by rw [eh5]; exact aAt_zs hS (fun _ j hj => by rw [etop]; omega), by rw [eh5, etop, zs_s]; exact ex⟩) (by rw [List.length_cons]; omega) g0_31 g1_31 g2_31 g3_31 g4_31 g5_31 hr
          refine ⟨r, h9, q1, fun v hv => q2 v ?_, fun a ha => by rw [q3 a ha, eh5]; funext i; exact zs_o ha, by rw [q4, eh5]; rfl, fun i hi => by rw [q5 i hi, eh5]; exact zs_i (by rw [tcn]; omega)⟩
          have eq : wEx L (s :: l) st = wEx L l (cVal L s :: st) := by
            show (if 0 ≤ s then _ else _) = _
            rw [if_pos c2]
          rw [← eq]
          exact hv
      · have hm1 : mCd s ≠ 0 ∧ mCd s ≠ 1 := by
          rcases hTs with y | y | y
          · omega
          · rw [y, mS33.1]; decide
          · have := mCd_g y
            rw [Int.neg_neg] at this
            omega
        obtain ⟨_, hr⟩ : ∃ m', yz m' d 206 34 loc [] h = some res := si1f (off := 14) (by decide +kernel) (by decide) (fun e => absurd (k1_eq.mp e) (by omega)) hr
        obtain ⟨_, hr⟩ : ∃ m', yz m' d 206 35 loc [.inr (.inr (440))] h = some res := sal (k := 0) (by decide +kernel) g0 hr
        obtain ⟨_, hr⟩ : ∃ m', yz m' d 206 38 loc [.inr (.inr (408))] h = some res := sgr (idx := 13) (fi := 6) (b := 3) (by decide +kernel) (by decide +kernel) hr
        obtain ⟨_, hr⟩ : ∃ m', yz m' d 206 40 loc [.inl (k), .inr (.inr (408))] h = some res := sil2 (k := 5) (by decide +kernel) g5 hr
        obtain ⟨z31, _, hr⟩ : zin (k) 2600 = true ∧ ∃ m', yz m' d 206 41 loc [.inl (h.1 (408) (k).toNatClampNeg)] h = some res := sia (q := []) (by decide +kernel) (by decide +kernel) hr
        have z31 := zin_i z31
        generalize ev33 : h.1 (408) (k).toNatClampNeg = v33 at hr
        have cv33 : v33.toInt = mCd s := by rw [← ev33, tcn]; exact hc0
        obtain ⟨_, hr⟩ : ∃ m', yz m' d 206 42 loc [.inl (Int32.ofInt 1), .inl (v33)] h = some res := sb1 (i := .iconst 1) (by decide +kernel) rfl rfl rfl hr
        generalize ev34 : Int32.ofInt 1 = v34 at hr
        have tv34 : v34.toInt = 1 := by rw [← ev34]; exact (by decide)
        obtain ⟨_, hr⟩ : ∃ m', yz m' d 206 90 loc [] h = some res := si2t (off := 48) (by decide +kernel) (by decide) (k2_ne.mpr (by omega)) hr
        obtain ⟨_, hr⟩ : ∃ m', yz m' d 206 91 loc [.inr (.inr (440))] h = some res := sal (k := 0) (by decide +kernel) g0 hr
        obtain ⟨_, hr⟩ : ∃ m', yz m' d 206 94 loc [.inr (.inr (408))] h = some res := sgr (idx := 13) (fi := 6) (b := 3) (by decide +kernel) (by decide +kernel) hr
        obtain ⟨_, hr⟩ : ∃ m', yz m' d 206 96 loc [.inl (k), .inr (.inr (408))] h = some res := sil2 (k := 5) (by decide +kernel) g5 hr
        obtain ⟨z34, _, hr⟩ : zin (k) 2600 = true ∧ ∃ m', yz m' d 206 97 loc [.inl (h.1 (408) (k).toNatClampNeg)] h = some res := sia (q := []) (by decide +kernel) (by decide +kernel) hr
        have z34 := zin_i z34
        generalize ev36 : h.1 (408) (k).toNatClampNeg = v36 at hr
        have cv36 : v36.toInt = mCd s := by rw [← ev36, tcn]; exact hc0
        obtain ⟨_, hr⟩ : ∃ m', yz m' d 206 99 loc [.inl ((Int8.ofInt 9).toInt32), .inl (v36)] h = some res := sb1 (i := .bipush 9) (by decide +kernel) rfl rfl rfl hr
        generalize ev37 : (Int8.ofInt 9).toInt32 = v37 at hr
        have tv37 : v37.toInt = 9 := by rw [← ev37]; exact (by decide)
        match st, hV, hS, htop, hst with
        | [], hV, hS, htop, hst =>
          refine ?_
          have htop : top.toInt = 0 := htop
          exfalso
          by_cases c5 : mCd s = 9
          · skip
            obtain ⟨_, hr⟩ : ∃ m', yz m' d 206 102 loc [] h = some res := si2f (off := 26) (by decide +kernel) (by decide) (fun e => absurd (k2_ne.mp e) (by omega)) hr
            obtain ⟨_, hr⟩ : ∃ m', yz m' d 206 103 loc [.inr (.inr (440))] h = some res := sal (k := 0) (by decide +kernel) g0 hr
            obtain ⟨_, hr⟩ : ∃ m', yz m' d 206 106 loc [.inr (.inr (416))] h = some res := sgr (idx := 37) (fi := 16) (b := 3) (by decide +kernel) (by decide +kernel) hr
            obtain ⟨_, hr⟩ : ∃ m', yz m' d 206 108 loc [.inl (top), .inr (.inr (416))] h = some res := sil2 (k := 4) (by decide +kernel) g4 hr
            obtain ⟨_, hr⟩ : ∃ m', yz m' d 206 109 loc [.inl (Int32.ofInt 1), .inl (top), .inr (.inr (416))] h = some res := sb1 (i := .iconst 1) (by decide +kernel) rfl rfl rfl hr
            generalize ev38 : Int32.ofInt 1 = v38 at hr
            have tv38 : v38.toInt = 1 := by rw [← ev38]; exact (by decide)
            obtain ⟨_, hr⟩ : ∃ m', yz m' d 206 110 loc [.inl ((top) - (v38)), .inr (.inr (416))] h = some res := sb1 (i := .isub) (by decide +kernel) rfl rfl rfl hr
            generalize ev39 : (top) - (v38) = v39 at hr
            have tv39 : v39.toInt = top.toInt - v38.toInt := by rw [← ev39]; exact (isub_ (by omega))
            obtain ⟨_, hr⟩ : ∃ m', yz m' d 206 111 loc [.inl (Int32.ofInt 1), .inl (v39), .inr (.inr (416))] h = some res := sb1 (i := .iconst 1) (by decide +kernel) rfl rfl rfl hr
            generalize ev40 : Int32.ofInt 1 = v40 at hr
            have tv40 : v40.toInt = 1 := by rw [← ev40]; exact (by decide)
            obtain ⟨_, hr⟩ : ∃ m', yz m' d 206 112 loc [.inr (.inr (440)), .inl (v40), .inl (v39), .inr (.inr (416))] h = some res := sal (k := 0) (by decide +kernel) g0 hr
            obtain ⟨_, hr⟩ : ∃ m', yz m' d 206 115 loc [.inr (.inr (416)), .inl (v40), .inl (v39), .inr (.inr (416))] h = some res := sgr (idx := 37) (fi := 16) (b := 3) (by decide +kernel) (by decide +kernel) hr
            obtain ⟨_, hr⟩ : ∃ m', yz m' d 206 117 loc [.inl (top), .inr (.inr (416)), .inl (v40), .inl (v39), .inr (.inr (416))] h = some res := sil2 (k := 4) (by decide +kernel) g4 hr
            obtain ⟨_, hr⟩ : ∃ m', yz m' d 206 118 loc [.inl (Int32.ofInt 1), .inl (top), .inr (.inr (416)), .inl (v40), .inl (v39), .inr (.inr (416))] h = some res := sb1 (i := .iconst 1) (by decide +kernel) rfl rfl rfl hr
            generalize ev41 : Int32.ofInt 1 = v41 at hr
            have tv41 : v41.toInt = 1 := by rw [← ev41]; exact (by decide)
            obtain ⟨_, hr⟩ : ∃ m', yz m' d 206 119 loc [.inl ((top) - (v41)), .inr (.inr (416)), .inl (v40), .inl (v39), .inr (.inr (416))] h = some res := sb1 (i := .isub) (by decide +kernel) rfl rfl rfl hr
            generalize ev42 : (top) - (v41) = v42 at hr
            have tv42 : v42.toInt = top.toInt - v41.toInt := by rw [← ev42]; exact (isub_ (by omega))
            obtain ⟨zz, _, hr⟩ : zin (v42) 80 = true ∧ ∃ m', yz m' d 206 120 loc [.inl (h.1 (416) (v42).toNatClampNeg), .inl (v40), .inl (v39), .inr (.inr (416))] h = some res := sia (q := []) (by decide +kernel) (by decide +kernel) hr
            have zz := zin_i zz
            generalize ev44 : h.1 (416) (v42).toNatClampNeg = v44 at hr
            omega
          · skip
            obtain ⟨_, hr⟩ : ∃ m', yz m' d 206 125 loc [] h = some res := si2t (off := 26) (by decide +kernel) (by decide) (k2_ne.mpr (by omega)) hr
            obtain ⟨_, hr⟩ := sii (k := 4) (n := (-1)) (by decide +kernel) g4 hr
            generalize ev45 : top + Int32.ofInt (-1) = v45 at hr
            have tv45 : v45.toInt = top.toInt + (-1) := by rw [← ev45, iadd_ (by rw [show (Int32.ofInt (-1)).toInt = (-1) from by decide]; omega)]; rfl
            obtain ⟨lo46, elo46⟩ : ∃ l, l = zput1 loc 4 (.inl (v45)) := ⟨_, rfl⟩
            obtain ⟨_, hr⟩ : ∃ m', yz m' d 206 128 lo46 [] h = some res := by rw [elo46]; exact ⟨_, hr⟩
            have g0_46 : zget lo46 0 = some (.inr (.inr (440))) := by rw [elo46]; exact zg_put (by decide) g0 rfl
            have g1_46 : zget lo46 1 = some (.inl (n)) := by rw [elo46]; exact zg_put (by decide) g1 rfl
            have g2_46 : zget lo46 2 = some (.inl (fr)) := by rw [elo46]; exact zg_put (by decide) g2 rfl
            have g3_46 : zget lo46 3 = some (.inl (to)) := by rw [elo46]; exact zg_put (by decide) g3 rfl
            have g5_46 : zget lo46 5 = some (.inl (k)) := by rw [elo46]; exact zg_put (by decide) g5 rfl
            have g4_46 : zget lo46 4 = some (.inl (v45)) := by rw [elo46]; exact zg_same
            obtain ⟨_, hr⟩ : ∃ m', yz m' d 206 129 lo46 [.inr (.inr (440))] h = some res := sal (k := 0) (by decide +kernel) g0_46 hr
            obtain ⟨_, hr⟩ : ∃ m', yz m' d 206 132 lo46 [.inr (.inr (416))] h = some res := sgr (idx := 37) (fi := 16) (b := 3) (by decide +kernel) (by decide +kernel) hr
            obtain ⟨_, hr⟩ : ∃ m', yz m' d 206 134 lo46 [.inl (v45), .inr (.inr (416))] h = some res := sil2 (k := 4) (by decide +kernel) g4_46 hr
            obtain ⟨_, hr⟩ : ∃ m', yz m' d 206 135 lo46 [.inl (Int32.ofInt 1), .inl (v45), .inr (.inr (416))] h = some res := sb1 (i := .iconst 1) (by decide +kernel) rfl rfl rfl hr
            generalize ev47 : Int32.ofInt 1 = v47 at hr
            have tv47 : v47.toInt = 1 := by rw [← ev47]; exact (by decide)
            obtain ⟨_, hr⟩ : ∃ m', yz m' d 206 136 lo46 [.inl ((v45) - (v47)), .inr (.inr (416))] h = some res := sb1 (i := .isub) (by decide +kernel) rfl rfl rfl hr
            generalize ev48 : (v45) - (v47) = v48 at hr
            have tv48 : v48.toInt = v45.toInt - v47.toInt := by rw [← ev48]; exact (isub_ (by omega))
            obtain ⟨_, hr⟩ : ∃ m', yz m' d 206 137 lo46 [.inr (.inr (440)), .inl (v48), .inr (.inr (416))] h = some res := sal (k := 0) (by decide +kernel) g0_46 hr
            obtain ⟨_, hr⟩ : ∃ m', yz m' d 206 140 lo46 [.inr (.inr (408)), .inl (v48), .inr (.inr (416))] h = some res := sgr (idx := 13) (fi := 6) (b := 3) (by decide +kernel) (by decide +kernel) hr
            obtain ⟨_, hr⟩ : ∃ m', yz m' d 206 142 lo46 [.inl (k), .inr (.inr (408)), .inl (v48), .inr (.inr (416))] h = some res := sil2 (k := 5) (by decide +kernel) g5_46 hr
            obtain ⟨z48, _, hr⟩ : zin (k) 2600 = true ∧ ∃ m', yz m' d 206 143 lo46 [.inl (h.1 (408) (k).toNatClampNeg), .inl (v48), .inr (.inr (416))] h = some res := sia (q := []) (by decide +kernel) (by decide +kernel) hr
            have z48 := zin_i z48
            generalize ev50 : h.1 (408) (k).toNatClampNeg = v50 at hr
            have cv50 : v50.toInt = mCd s := by rw [← ev50, tcn]; exact hc0
            obtain ⟨_, hr⟩ : ∃ m', yz m' d 206 144 lo46 [.inr (.inr (440)), .inl (v50), .inl (v48), .inr (.inr (416))] h = some res := sal (k := 0) (by decide +kernel) g0_46 hr
            obtain ⟨_, hr⟩ : ∃ m', yz m' d 206 147 lo46 [.inr (.inr (416)), .inl (v50), .inl (v48), .inr (.inr (416))] h = some res := sgr (idx := 37) (fi := 16) (b := 3) (by decide +kernel) (by decide +kernel) hr
            obtain ⟨_, hr⟩ : ∃ m', yz m' d 206 149 lo46 [.inl (v45), .inr (.inr (416)), .inl (v50), .inl (v48), .inr (.inr (416))] h = some res := sil2 (k := 4) (by decide +kernel) g4_46 hr
            obtain ⟨_, hr⟩ : ∃ m', yz m' d 206 150 lo46 [.inl (Int32.ofInt 1), .inl (v45), .inr (.inr (416)), .inl (v50), .inl (v48), .inr (.inr (416))] h = some res := sb1 (i := .iconst 1) (by decide +kernel) rfl rfl rfl hr
            generalize ev51 : Int32.ofInt 1 = v51 at hr
            have tv51 : v51.toInt = 1 := by rw [← ev51]; exact (by decide)
            obtain ⟨_, hr⟩ : ∃ m', yz m' d 206 151 lo46 [.inl ((v45) - (v51)), .inr (.inr (416)), .inl (v50), .inl (v48), .inr (.inr (416))] h = some res := sb1 (i := .isub) (by decide +kernel) rfl rfl rfl hr
            generalize ev52 : (v45) - (v51) = v52 at hr
            have tv52 : v52.toInt = v45.toInt - v51.toInt := by rw [← ev52]; exact (isub_ (by omega))
            obtain ⟨zz, _, hr⟩ : zin (v52) 80 = true ∧ ∃ m', yz m' d 206 152 lo46 [.inl (h.1 (416) (v52).toNatClampNeg), .inl (v50), .inl (v48), .inr (.inr (416))] h = some res := sia (q := []) (by decide +kernel) (by decide +kernel) hr
            have zz := zin_i zz
            generalize ev54 : h.1 (416) (v52).toNatClampNeg = v54 at hr
            omega
        | x :: r0, hV, hS, htop, hst =>
          rw [List.length_cons] at htop
          obtain ⟨hS1, hS2⟩ := aAt_rev.mp hS
          have bx := hV x (List.mem_cons_self ..)
          have hVr : ∀ v ∈ r0, -1000000 ≤ v ∧ v ≤ 1000001 := fun v hv => hV v (List.mem_cons_of_mem _ hv)
          have eC : wEx L (s :: l) (x :: r0) = (if s = -33 then wEx L l ((1 - x) :: r0) else match (generalizing := false) r0 with
            | y :: r' => wEx L l (hld (rOp (-s) y x) :: r')
            | [] => []) := by
            show (if 0 ≤ s then _ else _) = _
            rw [if_neg c2]
            rfl
          by_cases c5 : s = -33
          · have h9 : mCd s = 9 := by rw [c5]; exact mS33.1
            obtain ⟨_, hr⟩ : ∃ m', yz m' d 206 102 loc [] h = some res := si2f (off := 26) (by decide +kernel) (by decide) (fun e => absurd (k2_ne.mp e) (by omega)) hr
            obtain ⟨_, hr⟩ : ∃ m', yz m' d 206 103 loc [.inr (.inr (440))] h = some res := sal (k := 0) (by decide +kernel) g0 hr
            obtain ⟨_, hr⟩ : ∃ m', yz m' d 206 106 loc [.inr (.inr (416))] h = some res := sgr (idx := 37) (fi := 16) (b := 3) (by decide +kernel) (by decide +kernel) hr
            obtain ⟨_, hr⟩ : ∃ m', yz m' d 206 108 loc [.inl (top), .inr (.inr (416))] h = some res := sil2 (k := 4) (by decide +kernel) g4 hr
            obtain ⟨_, hr⟩ : ∃ m', yz m' d 206 109 loc [.inl (Int32.ofInt 1), .inl (top), .inr (.inr (416))] h = some res := sb1 (i := .iconst 1) (by decide +kernel) rfl rfl rfl hr
            generalize ev55 : Int32.ofInt 1 = v55 at hr
            have tv55 : v55.toInt = 1 := by rw [← ev55]; exact (by decide)
            obtain ⟨_, hr⟩ : ∃ m', yz m' d 206 110 loc [.inl ((top) - (v55)), .inr (.inr (416))] h = some res := sb1 (i := .isub) (by decide +kernel) rfl rfl rfl hr
            generalize ev56 : (top) - (v55) = v56 at hr
            have tv56 : v56.toInt = top.toInt - v55.toInt := by rw [← ev56]; exact (isub_ (by omega))
            obtain ⟨_, hr⟩ : ∃ m', yz m' d 206 111 loc [.inl (Int32.ofInt 1), .inl (v56), .inr (.inr (416))] h = some res := sb1 (i := .iconst 1) (by decide +kernel) rfl rfl rfl hr
            generalize ev57 : Int32.ofInt 1 = v57 at hr
            have tv57 : v57.toInt = 1 := by rw [← ev57]; exact (by decide)
            obtain ⟨_, hr⟩ : ∃ m', yz m' d 206 112 loc [.inr (.inr (440)), .inl (v57), .inl (v56), .inr (.inr (416))] h = some res := sal (k := 0) (by decide +kernel) g0 hr
            obtain ⟨_, hr⟩ : ∃ m', yz m' d 206 115 loc [.inr (.inr (416)), .inl (v57), .inl (v56), .inr (.inr (416))] h = some res := sgr (idx := 37) (fi := 16) (b := 3) (by decide +kernel) (by decide +kernel) hr
            obtain ⟨_, hr⟩ : ∃ m', yz m' d 206 117 loc [.inl (top), .inr (.inr (416)), .inl (v57), .inl (v56), .inr (.inr (416))] h = some res := sil2 (k := 4) (by decide +kernel) g4 hr
            obtain ⟨_, hr⟩ : ∃ m', yz m' d 206 118 loc [.inl (Int32.ofInt 1), .inl (top), .inr (.inr (416)), .inl (v57), .inl (v56), .inr (.inr (416))] h = some res := sb1 (i := .iconst 1) (by decide +kernel) rfl rfl rfl hr
            generalize ev58 : Int32.ofInt 1 = v58 at hr
            have tv58 : v58.toInt = 1 := by rw [← ev58]; exact (by decide)
            obtain ⟨_, hr⟩ : ∃ m', yz m' d 206 119 loc [.inl ((top) - (v58)), .inr (.inr (416)), .inl (v57), .inl (v56), .inr (.inr (416))] h = some res := sb1 (i := .isub) (by decide +kernel) rfl rfl rfl hr
            generalize ev59 : (top) - (v58) = v59 at hr
            have tv59 : v59.toInt = top.toInt - v58.toInt := by rw [← ev59]; exact (isub_ (by omega))
            obtain ⟨z59, _, hr⟩ : zin (v59) 80 = true ∧ ∃ m', yz m' d 206 120 loc [.inl (h.1 (416) (v59).toNatClampNeg), .inl (v57), .inl (v56), .inr (.inr (416))] h = some res := sia (q := []) (by decide +kernel) (by decide +kernel) hr
            have z59 := zin_i z59
            generalize ev61 : h.1 (416) (v59).toNatClampNeg = v61 at hr
            have ex : v61.toInt = x := by rw [← ev61, show v59.toNatClampNeg = r0.length from by rw [tcn]; omega]; exact hS2
            obtain ⟨_, hr⟩ : ∃ m', yz m' d 206 121 loc [.inl ((v57) - (v61)), .inl (v56), .inr (.inr (416))] h = some res := sb1 (i := .isub) (by decide +kernel) rfl rfl rfl hr
            generalize ev62 : (v57) - (v61) = v62 at hr
            have tv62 : v62.toInt = v57.toInt - v61.toInt := by rw [← ev62]; exact (isub_ (by omega))
            have ei : v56.toNatClampNeg = r0.length := by rw [tcn]; omega
            obtain ⟨zi, _, hr⟩ := sis (len := 80) (q := []) (by decide +kernel) (by decide +kernel) hr
            obtain ⟨h5, eh5⟩ : ∃ x : zH, x = zs h (416) (v56).toNatClampNeg (v62) := ⟨_, rfl⟩
            obtain ⟨_, hr⟩ : ∃ m', yz m' d 206 122 loc [] h5 = some res := by rw [eh5]; exact ⟨_, hr⟩
            have zi := zin_i zi
            obtain ⟨_, hr⟩ : ∃ m', yz m' d 206 165 loc [] h5 = some res := sgoh (off := 43) (by decide +kernel) (by decide) hr
            obtain ⟨_, hr⟩ := sii (k := 5) (n := 1) (by decide +kernel) g5 hr
            generalize ev64 : k + Int32.ofInt 1 = v64 at hr
            have tv64 : v64.toInt = k.toInt + 1 := by rw [← ev64, iadd_ (by rw [show (Int32.ofInt 1).toInt = 1 from by decide]; omega)]; rfl
            obtain ⟨lo65, elo65⟩ : ∃ l, l = zput1 loc 5 (.inl (v64)) := ⟨_, rfl⟩
            obtain ⟨_, hr⟩ : ∃ m', yz m' d 206 168 lo65 [] h5 = some res := by rw [elo65]; exact ⟨_, hr⟩
            have g0_65 : zget lo65 0 = some (.inr (.inr (440))) := by rw [elo65]; exact zg_put (by decide) g0 rfl
            have g1_65 : zget lo65 1 = some (.inl (n)) := by rw [elo65]; exact zg_put (by decide) g1 rfl
            have g2_65 : zget lo65 2 = some (.inl (fr)) := by rw [elo65]; exact zg_put (by decide) g2 rfl
            have g3_65 : zget lo65 3 = some (.inl (to)) := by rw [elo65]; exact zg_put (by decide) g3 rfl
            have g4_65 : zget lo65 4 = some (.inl (top)) := by rw [elo65]; exact zg_put (by decide) g4 rfl
            have g5_65 : zget lo65 5 = some (.inl (v64)) := by rw [elo65]; exact zg_same
            obtain ⟨_, hr⟩ : ∃ m', yz m' d 206 12 lo65 [] h5 = some res := sgob (off := (-156)) (by decide +kernel) (by decide) hr
            have c6 : -1000000 ≤ 1 - x ∧ 1 - x ≤ 1000001 := by omega
            obtain ⟨r, h9_, q1, q2, q3, q4, q5⟩ := rn_workOut_l hLb l _ lo65 n fr to top v64 ((1 - x) :: r0) h5 _ hTc (fun v hv => by rcases List.mem_cons.mp hv with y | y; rw [y]; exact c6; exact hVr v y) hn hto (by omega) (by rw [tv64, eh5]; exact mAt_zs kC (by decide) (by decide)) (by omega) (fun j hj => by rw [eh5, zs_o (by decide)]; exact hL j hj) (aAt_rev.mpr ⟨by rw [eh5]; exact aAt_zs hS1 (fun _ j hj => by rw [ei]; rw [List.length_reverse] at hj; omega), by rw [eh5, ei, zs_s]; omega⟩) (by rw [List.length_cons]; omega) g0_65 g1_65 g2_65 g3_65 g4_65 g5_65 hr
            refine ⟨r, h9_, q1, fun v hv => q2 v ?_, fun a ha => by rw [q3 a ha, eh5]; funext i; exact zs_o ha, by rw [q4, eh5]; rfl, fun i hi => by rw [q5 i hi, eh5]; exact zs_i (by rw [tcn]; omega)⟩
            rw [eC, if_pos c5] at hv
            exact hv
          · have hsg : sgOk (-s) := by rcases hTs with y | y | y; omega; omega; exact y
            have hg9 := mCd_g hsg
            rw [Int.neg_neg] at hg9
            obtain ⟨_, hr⟩ : ∃ m', yz m' d 206 125 loc [] h = some res := si2t (off := 26) (by decide +kernel) (by decide) (k2_ne.mpr (by omega)) hr
            obtain ⟨_, hr⟩ := sii (k := 4) (n := (-1)) (by decide +kernel) g4 hr
            generalize ev66 : top + Int32.ofInt (-1) = v66 at hr
            have tv66 : v66.toInt = top.toInt + (-1) := by rw [← ev66, iadd_ (by rw [show (Int32.ofInt (-1)).toInt = (-1) from by decide]; omega)]; rfl
            obtain ⟨lo67, elo67⟩ : ∃ l, l = zput1 loc 4 (.inl (v66)) := ⟨_, rfl⟩
            obtain ⟨_, hr⟩ : ∃ m', yz m' d 206 128 lo67 [] h = some res := by rw [elo67]; exact ⟨_, hr⟩
            have g0_67 : zget lo67 0 = some (.inr (.inr (440))) := by rw [elo67]; exact zg_put (by decide) g0 rfl
            have g1_67 : zget lo67 1 = some (.inl (n)) := by rw [elo67]; exact zg_put (by decide) g1 rfl
            have g2_67 : zget lo67 2 = some (.inl (fr)) := by rw [elo67]; exact zg_put (by decide) g2 rfl
            have g3_67 : zget lo67 3 = some (.inl (to)) := by rw [elo67]; exact zg_put (by decide) g3 rfl
            have g5_67 : zget lo67 5 = some (.inl (k)) := by rw [elo67]; exact zg_put (by decide) g5 rfl
            have g4_67 : zget lo67 4 = some (.inl (v66)) := by rw [elo67]; exact zg_same
            obtain ⟨_, hr⟩ : ∃ m', yz m' d 206 129 lo67 [.inr (.inr (440))] h = some res := sal (k := 0) (by decide +kernel) g0_67 hr
            obtain ⟨_, hr⟩ : ∃ m', yz m' d 206 132 lo67 [.inr (.inr (416))] h = some res := sgr (idx := 37) (fi := 16) (b := 3) (by decide +kernel) (by decide +kernel) hr
            obtain ⟨_, hr⟩ : ∃ m', yz m' d 206 134 lo67 [.inl (v66), .inr (.inr (416))] h = some res := sil2 (k := 4) (by decide +kernel) g4_67 hr
            obtain ⟨_, hr⟩ : ∃ m', yz m' d 206 135 lo67 [.inl (Int32.ofInt 1), .inl (v66), .inr (.inr (416))] h = some res := sb1 (i := .iconst 1) (by decide +kernel) rfl rfl rfl hr
            generalize ev68 : Int32.ofInt 1 = v68 at hr
            have tv68 : v68.toInt = 1 := by rw [← ev68]; exact (by decide)
            obtain ⟨_, hr⟩ : ∃ m', yz m' d 206 136 lo67 [.inl ((v66) - (v68)), .inr (.inr (416))] h = some res := sb1 (i := .isub) (by decide +kernel) rfl rfl rfl hr
            generalize ev69 : (v66) - (v68) = v69 at hr
            have tv69 : v69.toInt = v66.toInt - v68.toInt := by rw [← ev69]; exact (isub_ (by omega))
            obtain ⟨_, hr⟩ : ∃ m', yz m' d 206 137 lo67 [.inr (.inr (440)), .inl (v69), .inr (.inr (416))] h = some res := sal (k := 0) (by decide +kernel) g0_67 hr
            obtain ⟨_, hr⟩ : ∃ m', yz m' d 206 140 lo67 [.inr (.inr (408)), .inl (v69), .inr (.inr (416))] h = some res := sgr (idx := 13) (fi := 6) (b := 3) (by decide +kernel) (by decide +kernel) hr
            obtain ⟨_, hr⟩ : ∃ m', yz m' d 206 142 lo67 [.inl (k), .inr (.inr (408)), .inl (v69), .inr (.inr (416))] h = some res := sil2 (k := 5) (by decide +kernel) g5_67 hr
            obtain ⟨z69, _, hr⟩ : zin (k) 2600 = true ∧ ∃ m', yz m' d 206 143 lo67 [.inl (h.1 (408) (k).toNatClampNeg), .inl (v69), .inr (.inr (416))] h = some res := sia (q := []) (by decide +kernel) (by decide +kernel) hr
            have z69 := zin_i z69
            generalize ev71 : h.1 (408) (k).toNatClampNeg = v71 at hr
            have cv71 : v71.toInt = mCd s := by rw [← ev71, tcn]; exact hc0
            obtain ⟨_, hr⟩ : ∃ m', yz m' d 206 144 lo67 [.inr (.inr (440)), .inl (v71), .inl (v69), .inr (.inr (416))] h = some res := sal (k := 0) (by decide +kernel) g0_67 hr
            obtain ⟨_, hr⟩ : ∃ m', yz m' d 206 147 lo67 [.inr (.inr (416)), .inl (v71), .inl (v69), .inr (.inr (416))] h = some res := sgr (idx := 37) (fi := 16) (b := 3) (by decide +kernel) (by decide +kernel) hr
            obtain ⟨_, hr⟩ : ∃ m', yz m' d 206 149 lo67 [.inl (v66), .inr (.inr (416)), .inl (v71), .inl (v69), .inr (.inr (416))] h = some res := sil2 (k := 4) (by decide +kernel) g4_67 hr
            obtain ⟨_, hr⟩ : ∃ m', yz m' d 206 150 lo67 [.inl (Int32.ofInt 1), .inl (v66), .inr (.inr (416)), .inl (v71), .inl (v69), .inr (.inr (416))] h = some res := sb1 (i := .iconst 1) (by decide +kernel) rfl rfl rfl hr
            generalize ev72 : Int32.ofInt 1 = v72 at hr
            have tv72 : v72.toInt = 1 := by rw [← ev72]; exact (by decide)
            obtain ⟨_, hr⟩ : ∃ m', yz m' d 206 151 lo67 [.inl ((v66) - (v72)), .inr (.inr (416)), .inl (v71), .inl (v69), .inr (.inr (416))] h = some res := sb1 (i := .isub) (by decide +kernel) rfl rfl rfl hr
            generalize ev73 : (v66) - (v72) = v73 at hr
            have tv73 : v73.toInt = v66.toInt - v72.toInt := by rw [← ev73]; exact (isub_ (by omega))
            obtain ⟨zy, _, hr⟩ : zin (v73) 80 = true ∧ ∃ m', yz m' d 206 152 lo67 [.inl (h.1 (416) (v73).toNatClampNeg), .inl (v71), .inl (v69), .inr (.inr (416))] h = some res := sia (q := []) (by decide +kernel) (by decide +kernel) hr
            have zy := zin_i zy
            generalize ev75 : h.1 (416) (v73).toNatClampNeg = v75 at hr
            match r0, hV, hVr, hS, hS1, hS2, htop, hst, eC with
            | [], hV, hVr, hS, hS1, hS2, htop, hst, eC =>
              exfalso
              have htop : top.toInt = 0 + 1 := htop
              omega
            | y :: r1, hV, hVr, hS, hS1, hS2, htop, hst, eC =>
              rw [List.length_cons] at htop hS2
              have by_ := hVr y (List.mem_cons_self ..)
              obtain ⟨hS3, hS4⟩ := aAt_rev.mp hS1
              have hVq : ∀ v ∈ r1, -1000000 ≤ v ∧ v ≤ 1000001 := fun v hv => hVr v (List.mem_cons_of_mem _ hv)
              obtain ⟨_, hr⟩ : ∃ m', yz m' d 206 153 lo67 [.inr (.inl ((v75).toInt64)), .inl (v71), .inl (v69), .inr (.inr (416))] h = some res := sb1 (i := .i2l) (by decide +kernel) rfl rfl rfl hr
              generalize ev76 : (v75).toInt64 = v76 at hr
              have tv76 : v76.toInt = v75.toInt := by rw [← ev76]; exact (i2l_)
              obtain ⟨_, hr⟩ : ∃ m', yz m' d 206 154 lo67 [.inr (.inr (440)), .inr (.inl (v76)), .inl (v71), .inl (v69), .inr (.inr (416))] h = some res := sal (k := 0) (by decide +kernel) g0_67 hr
              obtain ⟨_, hr⟩ : ∃ m', yz m' d 206 157 lo67 [.inr (.inr (416)), .inr (.inl (v76)), .inl (v71), .inl (v69), .inr (.inr (416))] h = some res := sgr (idx := 37) (fi := 16) (b := 3) (by decide +kernel) (by decide +kernel) hr
              obtain ⟨_, hr⟩ : ∃ m', yz m' d 206 159 lo67 [.inl (v66), .inr (.inr (416)), .inr (.inl (v76)), .inl (v71), .inl (v69), .inr (.inr (416))] h = some res := sil2 (k := 4) (by decide +kernel) g4_67 hr
              obtain ⟨z76, _, hr⟩ : zin (v66) 80 = true ∧ ∃ m', yz m' d 206 160 lo67 [.inl (h.1 (416) (v66).toNatClampNeg), .inr (.inl (v76)), .inl (v71), .inl (v69), .inr (.inr (416))] h = some res := sia (q := []) (by decide +kernel) (by decide +kernel) hr
              have z76 := zin_i z76
              generalize ev78 : h.1 (416) (v66).toNatClampNeg = v78 at hr
              obtain ⟨_, hr⟩ : ∃ m', yz m' d 206 161 lo67 [.inr (.inl ((v78).toInt64)), .inr (.inl (v76)), .inl (v71), .inl (v69), .inr (.inr (416))] h = some res := sb1 (i := .i2l) (by decide +kernel) rfl rfl rfl hr
              generalize ev79 : (v78).toInt64 = v79 at hr
              have tv79 : v79.toInt = v78.toInt := by rw [← ev79]; exact (i2l_)
              have ey : v75.toInt = y := by rw [← ev75, show v73.toNatClampNeg = r1.length from by rw [tcn]; omega]; exact hS4
              have ex : v78.toInt = x := by rw [← ev78, show v66.toNatClampNeg = r1.length + 1 from by rw [tcn]; omega]; exact hS2
              have ei : v69.toNatClampNeg = r1.length := by rw [tcn]; omega
              obtain ⟨_, d_kw, r_kw, hkw, _, ed_kw, c_kw, hr⟩ := scl_ (i := .invokestatic 221) (callee := 207) (args := [.inl (v71), .inr (.inl (v76)), .inr (.inl (v79))]) (rest := [.inl (v69), .inr (.inr (416))]) (by decide +kernel) rfl hr
              obtain ⟨q, eq0, tq⟩ := rn_worked hsg (by rw [Int.neg_neg]; exact cv71) (by omega) (by omega) c_kw
              obtain ⟨rfl, ehq⟩ := Prod.mk.inj eq0
              obtain rfl := ehq.symm
              have hr : yz _ d 206 164 lo67 [.inl (q), .inl (v69), .inr (.inr (416))] h = some res := hr
              have e2 : q.toInt = hld (rOp (-s) y x) := by rw [tq, tv76, tv79, ey, ex]
              have b2 := hld_b (rOp (-s) y x)
              obtain ⟨zi, _, hr⟩ := sis (len := 80) (q := []) (by decide +kernel) (by decide +kernel) hr
              obtain ⟨h5, eh5⟩ : ∃ x : zH, x = zs h (416) (v69).toNatClampNeg (q) := ⟨_, rfl⟩
              obtain ⟨_, hr⟩ : ∃ m', yz m' d 206 165 lo67 [] h5 = some res := by rw [eh5]; exact ⟨_, hr⟩
              have zi := zin_i zi
              obtain ⟨_, hr⟩ := sii (k := 5) (n := 1) (by decide +kernel) g5_67 hr
              generalize ev81 : k + Int32.ofInt 1 = v81 at hr
              have tv81 : v81.toInt = k.toInt + 1 := by rw [← ev81, iadd_ (by rw [show (Int32.ofInt 1).toInt = 1 from by decide]; omega)]; rfl
              obtain ⟨lo82, elo82⟩ : ∃ l, l = zput1 lo67 5 (.inl (v81)) := ⟨_, rfl⟩
              obtain ⟨_, hr⟩ : ∃ m', yz m' d 206 168 lo82 [] h5 = some res := by rw [elo82]; exact ⟨_, hr⟩
              have g0_82 : zget lo82 0 = some (.inr (.inr (440))) := by rw [elo82]; exact zg_put (by decide) g0_67 rfl
              have g1_82 : zget lo82 1 = some (.inl (n)) := by rw [elo82]; exact zg_put (by decide) g1_67 rfl
              have g2_82 : zget lo82 2 = some (.inl (fr)) := by rw [elo82]; exact zg_put (by decide) g2_67 rfl
              have g3_82 : zget lo82 3 = some (.inl (to)) := by rw [elo82]; exact zg_put (by decide) g3_67 rfl
              have g4_82 : zget lo82 4 = some (.inl (v66)) := by rw [elo82]; exact zg_put (by decide) g4_67 rfl
              have g5_82 : zget lo82 5 = some (.inl (v81)) := by rw [elo82]; exact zg_same
              obtain ⟨_, hr⟩ : ∃ m', yz m' d 206 12 lo82 [] h5 = some res := sgob (off := (-156)) (by decide +kernel) (by decide) hr
              obtain ⟨r, h9_, q1, q2, q3, q4, q5⟩ := rn_workOut_l hLb l _ lo82 n fr to v66 v81 (hld (rOp (-s) y x) :: r1) h5 _ hTc (fun v hv => by rcases List.mem_cons.mp hv with y | y; rw [y]; exact ⟨b2.1, by omega⟩; exact hVq v y) hn hto (by omega) (by rw [tv81, eh5]; exact mAt_zs kC (by decide) (by decide)) (by omega) (fun j hj => by rw [eh5, zs_o (by decide)]; exact hL j hj) (aAt_rev.mpr ⟨by rw [eh5]; exact aAt_zs hS3 (fun _ j hj => by rw [ei]; rw [List.length_reverse] at hj; omega), by rw [eh5, ei, zs_s]; exact e2⟩) (by rw [List.length_cons]; omega) g0_82 g1_82 g2_82 g3_82 g4_82 g5_82 hr
              refine ⟨r, h9_, q1, fun v hv => q2 v ?_, fun a ha => by rw [q3 a ha, eh5]; funext i; exact zs_o ha, by rw [q4, eh5]; rfl, fun i hi => by rw [q5 i hi, eh5]; exact zs_i (by rw [tcn]; omega)⟩
              rw [eC, if_neg c5] at hv
              exact hv
  termination_by l => l.length
end WRM
