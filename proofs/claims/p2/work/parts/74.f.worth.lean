/-! a law's worth, by hand: the class's machine, the reference's -/
section WRU
noncomputable def cVal (L : Nat → Int) (s : Int) : Int := if 10000 ≤ s then L (s - 10000).toNat else s
/-- the class's: tokens, whether it skips, the stack (its top first) -/
noncomputable def cMa (L : Nat → Int) : List Int → Bool → List Int → Int
  | [], _, _ => 0
  | s :: c, true, st => cMa L c (decide (s ≠ -59)) st
  | s :: c, false, st => if 0 ≤ s then (if st.length < 64 then cMa L c false (cVal L s :: st) else cMa L c false st) else match st with
    | [] => 0
    | x :: r => if s = -59 then x else if s = -63 then cMa L c (decide (x = 0)) r else if s = -33 then cMa L c false ((if x = 0 then 1 else 0) :: r) else match r with
      | y :: r' => cMa L c false (hld (rOp (-s) y x) :: r')
      | [] => cMa L c false (x :: r)
/-- the reference's -/
noncomputable def wEx (L : Nat → Int) : List Int → List Int → List Int
  | [], st => st
  | s :: c, st => if 0 ≤ s then wEx L c (cVal L s :: st) else match st with
    | [] => []
    | x :: r => if s = -33 then wEx L c ((1 - x) :: r) else match r with
      | y :: r' => wEx L c (hld (rOp (-s) y x) :: r')
      | [] => []
noncomputable def tkE (s : Int) : Prop := (0 ≤ s ∧ s ≤ 10005) ∨ s = -33 ∨ sgOk (-s)
noncomputable def tkC (s : Int) : Prop := tkE s ∨ s = -59 ∨ s = -63
/-- a row's first places -/
noncomputable def aAt (h : zH) (c a : Nat) (l : List Int) : Prop := ∀ j v, l[j]? = some v → (h.1 c (a + j)).toInt = v
theorem aAt_cons {h : zH} {c a : Nat} {v : Int} {l : List Int} : aAt h c a (v :: l) ↔ (h.1 c a).toInt = v ∧ aAt h c (a + 1) l := by
  constructor
  · intro e
    refine ⟨e 0 v rfl, fun j w hj => ?_⟩
    have := e (j + 1) w hj
    rw [show a + 1 + j = a + (j + 1) by omega]
    exact this
  · rintro ⟨e1, e2⟩ j w hj
    cases j with
    | zero =>
      cases hj
      exact e1
    | succ j =>
      have := e2 j w hj
      rw [show a + (j + 1) = a + 1 + j by omega]
      exact this
theorem aAt_snoc {h : zH} {c a : Nat} {v : Int} {l : List Int} : aAt h c a (l ++ [v]) ↔ aAt h c a l ∧ (h.1 c (a + l.length)).toInt = v := by
  constructor
  · intro e
    refine ⟨fun j w hj => e j w ?_, e l.length v ?_⟩
    · rw [List.getElem?_append_left (List.getElem?_eq_some_iff.mp hj).1]
      exact hj
    · rw [List.getElem?_append_right (Nat.le_refl _), Nat.sub_self]
      rfl
  · rintro ⟨e1, e2⟩ j w hj
    rcases Nat.lt_or_ge j l.length with z | z
    · rw [List.getElem?_append_left z] at hj
      exact e1 j w hj
    · rw [List.getElem?_append_right z] at hj
      have hl := (List.getElem?_eq_some_iff.mp hj).1
      have e : j = l.length := by
        have : j - l.length < 1 := hl
        omega
      subst e
      rw [Nat.sub_self] at hj
      cases hj
      exact e2
theorem aAt_rev {h : zH} {c : Nat} {v : Int} {l : List Int} : aAt h c 0 (v :: l).reverse ↔ aAt h c 0 l.reverse ∧ (h.1 c l.length).toInt = v := by
  rw [List.reverse_cons, aAt_snoc, List.length_reverse, Nat.zero_add]
theorem aAt_zs {h : zH} {c c' a i : Nat} {x : Int32} {l : List Int} (e : aAt h c' a l) (hi : c' = c → ∀ j, j < l.length → a + j ≠ i) : aAt (zs h c i x) c' a l := by
  intro j v hj
  show (if c' = c then (if a + j = i then x else h.1 c' (a + j)) else h.1 c' (a + j)).toInt = v
  by_cases z : c' = c
  · rw [if_pos z, if_neg (hi z j (List.getElem?_eq_some_iff.mp hj).1)]
    exact e j v hj
  · rw [if_neg z]
    exact e j v hj
theorem zs_s {h : zH} {c i : Nat} {x : Int32} : (zs h c i x).1 c i = x := by
  show (if c = c then (if i = i then x else h.1 c i) else h.1 c i) = x
  rw [if_pos rfl, if_pos rfl]
theorem zs_i {h : zH} {c i j : Nat} {x : Int32} (hi : i ≠ j) : (zs h c j x).1 c i = h.1 c i := by
  show (if c = c then (if i = j then x else h.1 c i) else h.1 c i) = _
  rw [if_pos rfl, if_neg hi]
theorem zs_o {h : zH} {c c' i j : Nat} {x : Int32} (hc : c' ≠ c) : (zs h c i x).1 c' j = h.1 c' j := if_neg hc
variable {m d : Nat} {h : zH} {res : Option zV × zH}

theorem rn_valueOf {L : Nat → Int} {s : Int32} (hL : ∀ j, j < 6 → (h.1 373 j).toInt = L j) (hs : 0 ≤ s.toInt ∧ s.toInt ≤ 10005) (hr : yrun m d 220 [.inr (.inr 374), .inl s] h = some res) : ∃ r : Int32, res = (some (.inl r), h) ∧ r.toInt = cVal L s.toInt := by
  unfold cVal
  have hr : yz m d 220 0 (zent 0 [.inr (.inr (374)), .inl (s)]) [] h = some res := hr
  have g0 : zget (zent 0 [.inr (.inr (374)), .inl (s)]) 0 = some (.inr (.inr (374))) := rfl
  have g1 : zget (zent 0 [.inr (.inr (374)), .inl (s)]) 1 = some (.inl (s)) := rfl
  generalize zent 0 [.inr (.inr (374)), .inl (s)] = loc at hr g0 g1
  obtain ⟨_, hr⟩ : ∃ m', yz m' d 220 1 loc [.inl (s)] h = some res := sil (k := 1) (by decide +kernel) g1 hr
  obtain ⟨_, hr⟩ : ∃ m', yz m' d 220 4 loc [.inl ((Int16.ofInt 10000).toInt32), .inl (s)] h = some res := sb1 (i := .sipush 10000) (by decide +kernel) rfl rfl rfl hr
  generalize ev1 : (Int16.ofInt 10000).toInt32 = v1 at hr
  have tv1 : v1.toInt = 10000 := by rw [← ev1]; exact (by decide)
  obtain ⟨_, hr⟩ : ∃ m', yz m' d 220 5 loc [.inl ((s) - (v1))] h = some res := sb1 (i := .isub) (by decide +kernel) rfl rfl rfl hr
  generalize ev2 : (s) - (v1) = v2 at hr
  have tv2 : v2.toInt = s.toInt - v1.toInt := by rw [← ev2]; exact (isub_ (by omega))
  obtain ⟨_, hr⟩ := ssth (k := 2) (by decide +kernel) hr
  obtain ⟨lo3, elo3⟩ : ∃ l, l = zput1 loc 2 (.inl (v2)) := ⟨_, rfl⟩
  obtain ⟨_, hr⟩ : ∃ m', yz m' d 220 6 lo3 [] h = some res := by rw [elo3]; exact ⟨_, hr⟩
  have g0_3 : zget lo3 0 = some (.inr (.inr (374))) := by rw [elo3]; exact zg_put (by decide) g0 rfl
  have g1_3 : zget lo3 1 = some (.inl (s)) := by rw [elo3]; exact zg_put (by decide) g1 rfl
  have g2_3 : zget lo3 2 = some (.inl (v2)) := by rw [elo3]; exact zg_same
  obtain ⟨_, hr⟩ : ∃ m', yz m' d 220 7 lo3 [.inl (v2)] h = some res := sil (k := 2) (by decide +kernel) g2_3 hr
  by_cases c1 : 10000 ≤ s.toInt
  · skip
    obtain ⟨_, hr⟩ : ∃ m', yz m' d 220 10 lo3 [] h = some res := si1f (off := 18) (by decide +kernel) (by decide) (fun e => absurd (k1_lt.mp e) (by omega)) hr
    obtain ⟨_, hr⟩ : ∃ m', yz m' d 220 11 lo3 [.inl (v2)] h = some res := sil (k := 2) (by decide +kernel) g2_3 hr
    obtain ⟨_, hr⟩ : ∃ m', yz m' d 220 13 lo3 [.inl ((Int8.ofInt 6).toInt32), .inl (v2)] h = some res := sb1 (i := .bipush 6) (by decide +kernel) rfl rfl rfl hr
    generalize ev4 : (Int8.ofInt 6).toInt32 = v4 at hr
    have tv4 : v4.toInt = 6 := by rw [← ev4]; exact (by decide)
    obtain ⟨_, hr⟩ : ∃ m', yz m' d 220 16 lo3 [] h = some res := si2f (off := 12) (by decide +kernel) (by decide) (fun e => absurd (k2_ge.mp e) (by omega)) hr
    obtain ⟨_, hr⟩ : ∃ m', yz m' d 220 17 lo3 [.inr (.inr (374))] h = some res := sal (k := 0) (by decide +kernel) g0_3 hr
    obtain ⟨_, hr⟩ : ∃ m', yz m' d 220 20 lo3 [.inr (.inr (373))] h = some res := sgr (idx := 25) (fi := 3) (b := 3) (by decide +kernel) (by decide +kernel) hr
    obtain ⟨_, hr⟩ : ∃ m', yz m' d 220 21 lo3 [.inl (v2), .inr (.inr (373))] h = some res := sil (k := 2) (by decide +kernel) g2_3 hr
    obtain ⟨z4, _, hr⟩ : zin (v2) 6 = true ∧ ∃ m', yz m' d 220 22 lo3 [.inl (h.1 (373) (v2).toNatClampNeg)] h = some res := sia (q := []) (by decide +kernel) (by decide +kernel) hr
    have z4 := zin_i z4
    generalize ev6 : h.1 (373) (v2).toNatClampNeg = v6 at hr
    obtain ⟨_, hr⟩ : ∃ m', yz m' d 220 26 lo3 [.inl (v6)] h = some res := sgoh (off := 4) (by decide +kernel) (by decide) hr
    have hr := senh (i := .ireturn) (r := some (.inl (v6))) (by decide +kernel) rfl rfl hr
    refine ⟨_, hr, ?_⟩
    rw [if_pos c1, ← ev6, ← hL _ (by omega)]
    rw [show v2.toNatClampNeg = (s.toInt - 10000).toNat from by rw [tcn]; omega]
  · skip
    obtain ⟨_, hr⟩ : ∃ m', yz m' d 220 25 lo3 [] h = some res := si1t (off := 18) (by decide +kernel) (by decide) (k1_lt.mpr (by omega)) hr
    obtain ⟨_, hr⟩ : ∃ m', yz m' d 220 26 lo3 [.inl (s)] h = some res := sil (k := 1) (by decide +kernel) g1_3 hr
    have hr := senh (i := .ireturn) (r := some (.inl (s))) (by decide +kernel) rfl rfl hr
    exact ⟨_, hr, (if_neg c1).symm⟩
set_option maxRecDepth 100000 in
/-- what the loop of worth makes of what is left -/
theorem rn_worth_l {cr : Nat} (hcr : yTab cr = .inr (0, 242, [])) (hc2 : cr ≠ 372) {L : Nat → Int} (hLb : ∀ j, j < 6 → -1000000 ≤ L j ∧ L j ≤ 1000000) : ∀ (c : List Int) (m : Nat) (loc : zL) (k top sk : Int32) (b : Bool) (st : List Int) (h : zH) (res : Option zV × zH), (∀ s ∈ c, tkC s) → (∀ v ∈ st, -1000000 ≤ v ∧ v ≤ 1000000) → 0 ≤ k.toInt → aAt h cr k.toInt.toNat c → k.toInt + c.length = (h.1 371 (h.1 374 5).toInt.toNat).toInt → k.toInt + c.length ≤ 242 → (∀ j, j < 6 → (h.1 373 j).toInt = L j) → aAt h 372 0 st.reverse → top.toInt = st.length → st.length ≤ 64 → sk.toInt = (if b = true then 1 else 0) → zget loc 0 = some (.inr (.inr 374)) → zget loc 1 = some (.inr (.inr cr)) → zget loc 2 = some (.inl top) → zget loc 3 = some (.inl sk) → zget loc 4 = some (.inl k) → yz m d 221 37 loc [] h = some res → ∃ (r : Int32) (h' : zH), res = (some (.inl r), h') ∧ r.toInt = cMa L c b st ∧ (∀ a, a ≠ 372 → h'.1 a = h.1 a) ∧ h'.2 = h.2 ∧ ∀ i, 64 ≤ i → h'.1 372 i = h.1 372 i
  | c, m, loc, k, top, sk, b, st, h, res, hT, hV, hk0, hC, hsz, hk2, hL, hS, htop, hs64, hsk, g0, g1, g2, g3, g4, hr => by
    obtain ⟨_, hr⟩ : ∃ m', yz m' d 221 39 loc [.inl (k)] h = some res := sil2 (k := 4) (by decide +kernel) g4 hr
    obtain ⟨_, hr⟩ : ∃ m', yz m' d 221 40 loc [.inr (.inr (374)), .inl (k)] h = some res := sal (k := 0) (by decide +kernel) g0 hr
    obtain ⟨_, hr⟩ : ∃ m', yz m' d 221 43 loc [.inr (.inr (371)), .inl (k)] h = some res := sgr (idx := 18) (fi := 1) (b := 3) (by decide +kernel) (by decide +kernel) hr
    obtain ⟨_, hr⟩ : ∃ m', yz m' d 221 44 loc [.inr (.inr (374)), .inr (.inr (371)), .inl (k)] h = some res := sal (k := 0) (by decide +kernel) g0 hr
    obtain ⟨_, hr⟩ : ∃ m', yz m' d 221 47 loc [.inl (h.1 374 5), .inr (.inr (371)), .inl (k)] h = some res := sgf (idx := 32) (b := 0) (by decide +kernel) (by decide +kernel) hr
    generalize ev1 : h.1 374 5 = v1 at hr
    obtain ⟨z1, _, hr⟩ : zin (v1) 4 = true ∧ ∃ m', yz m' d 221 48 loc [.inl (h.1 (371) (v1).toNatClampNeg), .inl (k)] h = some res := sia (q := []) (by decide +kernel) (by decide +kernel) hr
    have z1 := zin_i z1
    generalize ev3 : h.1 (371) (v1).toNatClampNeg = v3 at hr
    have esz : v3.toInt = (h.1 371 (h.1 374 5).toInt.toNat).toInt := by rw [← ev3, ← ev1]; rfl
    have hst := List.length_reverse (as := st)
    match c, hT, hC, hsz, hk2 with
    | [], hT, hC, hsz, hk2 =>
      have hsz : k.toInt + 0 = _ := hsz
      obtain ⟨_, hr⟩ : ∃ m', yz m' d 221 238 loc [] h = some res := si2t (off := 190) (by decide +kernel) (by decide) (k2_ge.mpr (by omega)) hr
      obtain ⟨_, hr⟩ : ∃ m', yz m' d 221 239 loc [.inl (Int32.ofInt 0)] h = some res := sb1 (i := .iconst 0) (by decide +kernel) rfl rfl rfl hr
      generalize ev4 : Int32.ofInt 0 = v4 at hr
      have tv4 : v4.toInt = 0 := by rw [← ev4]; exact (by decide)
      have hr := senh (i := .ireturn) (r := some (.inl (v4))) (by decide +kernel) rfl rfl hr
      exact ⟨_, _, hr, by rw [tv4]; cases b <;> rfl, fun _ _ => rfl, rfl, fun _ _ => rfl⟩
    | s :: c, hT, hC, hsz, hk2 =>
      rw [List.length_cons] at hsz hk2
      obtain ⟨_, hr⟩ : ∃ m', yz m' d 221 51 loc [] h = some res := si2f (off := 190) (by decide +kernel) (by decide) (fun e => absurd (k2_ge.mp e) (by omega)) hr
      obtain ⟨hs0, hC1⟩ := aAt_cons.mp hC
      obtain ⟨_, hr⟩ : ∃ m', yz m' d 221 52 loc [.inr (.inr (cr))] h = some res := sal (k := 1) (by decide +kernel) g1 hr
      obtain ⟨_, hr⟩ : ∃ m', yz m' d 221 54 loc [.inl (k), .inr (.inr (cr))] h = some res := sil2 (k := 4) (by decide +kernel) g4 hr
      obtain ⟨z4, _, hr⟩ : zin (k) 242 = true ∧ ∃ m', yz m' d 221 55 loc [.inl (h.1 (cr) (k).toNatClampNeg)] h = some res := sia (q := []) (by decide +kernel) (zar_i hcr) hr
      have z4 := zin_i z4
      generalize ev6 : h.1 (cr) (k).toNatClampNeg = v6 at hr
      have es : v6.toInt = s := by rw [← ev6, tcn]; exact hs0
      obtain ⟨_, hr⟩ := sst2 (k := 5) (by decide +kernel) hr
      obtain ⟨lo7, elo7⟩ : ∃ l, l = zput1 loc 5 (.inl (v6)) := ⟨_, rfl⟩
      obtain ⟨_, hr⟩ : ∃ m', yz m' d 221 57 lo7 [] h = some res := by rw [elo7]; exact ⟨_, hr⟩
      have g0_7 : zget lo7 0 = some (.inr (.inr (374))) := by rw [elo7]; exact zg_put (by decide) g0 rfl
      have g1_7 : zget lo7 1 = some (.inr (.inr (cr))) := by rw [elo7]; exact zg_put (by decide) g1 rfl
      have g2_7 : zget lo7 2 = some (.inl (top)) := by rw [elo7]; exact zg_put (by decide) g2 rfl
      have g3_7 : zget lo7 3 = some (.inl (sk)) := by rw [elo7]; exact zg_put (by decide) g3 rfl
      have g4_7 : zget lo7 4 = some (.inl (k)) := by rw [elo7]; exact zg_put (by decide) g4 rfl
      have g5_7 : zget lo7 5 = some (.inl (v6)) := by rw [elo7]; exact zg_same
      obtain ⟨_, hr⟩ : ∃ m', yz m' d 221 58 lo7 [.inl (sk)] h = some res := sil (k := 3) (by decide +kernel) g3_7 hr
      have hTs := hT s (List.mem_cons_self ..)
      have hTc : ∀ s ∈ c, tkC s := fun x hx => hT x (List.mem_cons_of_mem _ hx)
      cases b with
      | true =>
        have hsk : sk.toInt = 1 := hsk
        obtain ⟨_, hr⟩ : ∃ m', yz m' d 221 61 lo7 [] h = some res := si1f (off := 19) (by decide +kernel) (by decide) (fun e => absurd (k1_eq.mp e) (by omega)) hr
        obtain ⟨_, hr⟩ : ∃ m', yz m' d 221 63 lo7 [.inl (v6)] h = some res := sil2 (k := 5) (by decide +kernel) g5_7 hr
        obtain ⟨_, hr⟩ : ∃ m', yz m' d 221 65 lo7 [.inl ((Int8.ofInt (-59)).toInt32), .inl (v6)] h = some res := sb1 (i := .bipush (-59)) (by decide +kernel) rfl rfl rfl hr
        generalize ev8 : (Int8.ofInt (-59)).toInt32 = v8 at hr
        have tv8 : v8.toInt = -59 := by rw [← ev8]; exact (by decide)
        have kC : aAt h cr (k.toInt + 1).toNat c := by rw [show (k.toInt + 1).toNat = k.toInt.toNat + 1 by omega]; exact hC1
        by_cases c2 : s = -59
        · skip
          obtain ⟨_, hr⟩ : ∃ m', yz m' d 221 72 lo7 [] h = some res := si2t (off := 7) (by decide +kernel) (by decide) (k2_eq.mpr (by omega)) hr
          obtain ⟨_, hr⟩ : ∃ m', yz m' d 221 73 lo7 [.inl (Int32.ofInt 0)] h = some res := sb1 (i := .iconst 0) (by decide +kernel) rfl rfl rfl hr
          generalize ev9 : Int32.ofInt 0 = v9 at hr
          have tv9 : v9.toInt = 0 := by rw [← ev9]; exact (by decide)
          obtain ⟨_, hr⟩ := ssth (k := 3) (by decide +kernel) hr
          obtain ⟨lo10, elo10⟩ : ∃ l, l = zput1 lo7 3 (.inl (v9)) := ⟨_, rfl⟩
          obtain ⟨_, hr⟩ : ∃ m', yz m' d 221 74 lo10 [] h = some res := by rw [elo10]; exact ⟨_, hr⟩
          have g0_10 : zget lo10 0 = some (.inr (.inr (374))) := by rw [elo10]; exact zg_put (by decide) g0_7 rfl
          have g1_10 : zget lo10 1 = some (.inr (.inr (cr))) := by rw [elo10]; exact zg_put (by decide) g1_7 rfl
          have g2_10 : zget lo10 2 = some (.inl (top)) := by rw [elo10]; exact zg_put (by decide) g2_7 rfl
          have g4_10 : zget lo10 4 = some (.inl (k)) := by rw [elo10]; exact zg_put (by decide) g4_7 rfl
          have g5_10 : zget lo10 5 = some (.inl (v6)) := by rw [elo10]; exact zg_put (by decide) g5_7 rfl
          have g3_10 : zget lo10 3 = some (.inl (v9)) := by rw [elo10]; exact zg_same
          obtain ⟨_, hr⟩ : ∃ m', yz m' d 221 232 lo10 [] h = some res := sgoh (off := 158) (by decide +kernel) (by decide) hr
          obtain ⟨_, hr⟩ := sii (k := 4) (n := 1) (by decide +kernel) g4_10 hr
          generalize ev11 : k + Int32.ofInt 1 = v11 at hr
          have tv11 : v11.toInt = k.toInt + 1 := by rw [← ev11, iadd_ (by rw [show (Int32.ofInt 1).toInt = 1 from by decide]; omega)]; rfl
          obtain ⟨lo12, elo12⟩ : ∃ l, l = zput1 lo10 4 (.inl (v11)) := ⟨_, rfl⟩
          obtain ⟨_, hr⟩ : ∃ m', yz m' d 221 235 lo12 [] h = some res := by rw [elo12]; exact ⟨_, hr⟩
          have g0_12 : zget lo12 0 = some (.inr (.inr (374))) := by rw [elo12]; exact zg_put (by decide) g0_10 rfl
          have g1_12 : zget lo12 1 = some (.inr (.inr (cr))) := by rw [elo12]; exact zg_put (by decide) g1_10 rfl
          have g2_12 : zget lo12 2 = some (.inl (top)) := by rw [elo12]; exact zg_put (by decide) g2_10 rfl
          have g3_12 : zget lo12 3 = some (.inl (v9)) := by rw [elo12]; exact zg_put (by decide) g3_10 rfl
          have g5_12 : zget lo12 5 = some (.inl (v6)) := by rw [elo12]; exact zg_put (by decide) g5_10 rfl
          have g4_12 : zget lo12 4 = some (.inl (v11)) := by rw [elo12]; exact zg_same
          obtain ⟨_, hr⟩ : ∃ m', yz m' d 221 37 lo12 [] h = some res := sgob (off := (-198)) (by decide +kernel) (by decide) hr
          obtain ⟨r, h9, q1, q2, q3, q4, q5⟩ := rn_worth_l hcr hc2 hLb c _ lo12 v11 top v9 false st h _ hTc hV (by omega) (by rw [tv11]; exact kC) (by omega) (by omega) hL hS htop hs64 (by rw [tv9]; rfl) g0_12 g1_12 g2_12 g3_12 g4_12 hr
          refine ⟨r, h9, q1, ?_, q3, q4, q5⟩
          rw [q2]
          show cMa L c false st = cMa L c (decide (s ≠ -59)) st
          rw [c2]
          rfl
        · skip
          obtain ⟨_, hr⟩ : ∃ m', yz m' d 221 68 lo7 [] h = some res := si2f (off := 7) (by decide +kernel) (by decide) (fun e => absurd (k2_eq.mp e) (by omega)) hr
          obtain ⟨_, hr⟩ : ∃ m', yz m' d 221 69 lo7 [.inl (Int32.ofInt 1)] h = some res := sb1 (i := .iconst 1) (by decide +kernel) rfl rfl rfl hr
          generalize ev13 : Int32.ofInt 1 = v13 at hr
          have tv13 : v13.toInt = 1 := by rw [← ev13]; exact (by decide)
          obtain ⟨_, hr⟩ : ∃ m', yz m' d 221 73 lo7 [.inl (v13)] h = some res := sgoh (off := 4) (by decide +kernel) (by decide) hr
          obtain ⟨_, hr⟩ := ssth (k := 3) (by decide +kernel) hr
          obtain ⟨lo14, elo14⟩ : ∃ l, l = zput1 lo7 3 (.inl (v13)) := ⟨_, rfl⟩
          obtain ⟨_, hr⟩ : ∃ m', yz m' d 221 74 lo14 [] h = some res := by rw [elo14]; exact ⟨_, hr⟩
          have g0_14 : zget lo14 0 = some (.inr (.inr (374))) := by rw [elo14]; exact zg_put (by decide) g0_7 rfl
          have g1_14 : zget lo14 1 = some (.inr (.inr (cr))) := by rw [elo14]; exact zg_put (by decide) g1_7 rfl
          have g2_14 : zget lo14 2 = some (.inl (top)) := by rw [elo14]; exact zg_put (by decide) g2_7 rfl
          have g4_14 : zget lo14 4 = some (.inl (k)) := by rw [elo14]; exact zg_put (by decide) g4_7 rfl
          have g5_14 : zget lo14 5 = some (.inl (v6)) := by rw [elo14]; exact zg_put (by decide) g5_7 rfl
          have g3_14 : zget lo14 3 = some (.inl (v13)) := by rw [elo14]; exact zg_same
          obtain ⟨_, hr⟩ : ∃ m', yz m' d 221 232 lo14 [] h = some res := sgoh (off := 158) (by decide +kernel) (by decide) hr
          obtain ⟨_, hr⟩ := sii (k := 4) (n := 1) (by decide +kernel) g4_14 hr
          generalize ev15 : k + Int32.ofInt 1 = v15 at hr
          have tv15 : v15.toInt = k.toInt + 1 := by rw [← ev15, iadd_ (by rw [show (Int32.ofInt 1).toInt = 1 from by decide]; omega)]; rfl
          obtain ⟨lo16, elo16⟩ : ∃ l, l = zput1 lo14 4 (.inl (v15)) := ⟨_, rfl⟩
          obtain ⟨_, hr⟩ : ∃ m', yz m' d 221 235 lo16 [] h = some res := by rw [elo16]; exact ⟨_, hr⟩
          have g0_16 : zget lo16 0 = some (.inr (.inr (374))) := by rw [elo16]; exact zg_put (by decide) g0_14 rfl
          have g1_16 : zget lo16 1 = some (.inr (.inr (cr))) := by rw [elo16]; exact zg_put (by decide) g1_14 rfl
          have g2_16 : zget lo16 2 = some (.inl (top)) := by rw [elo16]; exact zg_put (by decide) g2_14 rfl
          have g3_16 : zget lo16 3 = some (.inl (v13)) := by rw [elo16]; exact zg_put (by decide) g3_14 rfl
          have g5_16 : zget lo16 5 = some (.inl (v6)) := by rw [elo16]; exact zg_put (by decide) g5_14 rfl
          have g4_16 : zget lo16 4 = some (.inl (v15)) := by rw [elo16]; exact zg_same
          obtain ⟨_, hr⟩ : ∃ m', yz m' d 221 37 lo16 [] h = some res := sgob (off := (-198)) (by decide +kernel) (by decide) hr
          obtain ⟨r, h9, q1, q2, q3, q4, q5⟩ := rn_worth_l hcr hc2 hLb c _ lo16 v15 top v13 true st h _ hTc hV (by omega) (by rw [tv15]; exact kC) (by omega) (by omega) hL hS htop hs64 (by rw [tv13]; rfl) g0_16 g1_16 g2_16 g3_16 g4_16 hr
          refine ⟨r, h9, q1, ?_, q3, q4, q5⟩
          rw [q2]
          show cMa L c true st = cMa L c (decide (s ≠ -59)) st
          rw [decide_eq_true c2]
      | false =>
        have hsk : sk.toInt = 0 := hsk
        obtain ⟨_, hr⟩ : ∃ m', yz m' d 221 77 lo7 [] h = some res := si1t (off := 19) (by decide +kernel) (by decide) (k1_eq.mpr (by omega)) hr
        obtain ⟨_, hr⟩ : ∃ m', yz m' d 221 79 lo7 [.inl (v6)] h = some res := sil2 (k := 5) (by decide +kernel) g5_7 hr
        have kC : aAt h cr (k.toInt + 1).toNat c := by rw [show (k.toInt + 1).toNat = k.toInt.toNat + 1 by omega]; exact hC1
        by_cases c2 : 0 ≤ s
        · have hs5 : s ≤ 10005 := by rcases hTs with (y | y | y) | y | y; exact y.2; omega; (unfold sgOk at y; omega); omega; omega
          obtain ⟨_, hr⟩ : ∃ m', yz m' d 221 82 lo7 [] h = some res := si1f (off := 27) (by decide +kernel) (by decide) (fun e => absurd (k1_lt.mp e) (by omega)) hr
          obtain ⟨_, hr⟩ : ∃ m', yz m' d 221 83 lo7 [.inl (top)] h = some res := sil (k := 2) (by decide +kernel) g2_7 hr
          obtain ⟨_, hr⟩ : ∃ m', yz m' d 221 85 lo7 [.inl ((Int8.ofInt 64).toInt32), .inl (top)] h = some res := sb1 (i := .bipush 64) (by decide +kernel) rfl rfl rfl hr
          generalize ev17 : (Int8.ofInt 64).toInt32 = v17 at hr
          have tv17 : v17.toInt = 64 := by rw [← ev17]; exact (by decide)
          by_cases c3 : st.length < 64
          · skip
            obtain ⟨_, hr⟩ : ∃ m', yz m' d 221 88 lo7 [] h = some res := si2f (off := 147) (by decide +kernel) (by decide) (fun e => absurd (k2_ge.mp e) (by omega)) hr
            obtain ⟨_, hr⟩ : ∃ m', yz m' d 221 89 lo7 [.inr (.inr (374))] h = some res := sal (k := 0) (by decide +kernel) g0_7 hr
            obtain ⟨_, hr⟩ : ∃ m', yz m' d 221 92 lo7 [.inr (.inr (372))] h = some res := sgr (idx := 22) (fi := 2) (b := 3) (by decide +kernel) (by decide +kernel) hr
            obtain ⟨_, hr⟩ : ∃ m', yz m' d 221 93 lo7 [.inl (top), .inr (.inr (372))] h = some res := sil (k := 2) (by decide +kernel) g2_7 hr
            obtain ⟨_, hr⟩ : ∃ m', yz m' d 221 94 lo7 [.inr (.inr (374)), .inl (top), .inr (.inr (372))] h = some res := sal (k := 0) (by decide +kernel) g0_7 hr
            obtain ⟨_, hr⟩ : ∃ m', yz m' d 221 96 lo7 [.inl (v6), .inr (.inr (374)), .inl (top), .inr (.inr (372))] h = some res := sil2 (k := 5) (by decide +kernel) g5_7 hr
            obtain ⟨_, d_kv, r_kv, hkv, _, ed_kv, c_kv, hr⟩ := scl_ (i := .invokevirtual 41) (callee := 220) (args := [.inr (.inr (374)), .inl (v6)]) (rest := [.inl (top), .inr (.inr (372))]) (by decide +kernel) rfl hr
            obtain ⟨q, eq0, tq⟩ := rn_valueOf hL (by omega) c_kv
            obtain ⟨rfl, ehq⟩ := Prod.mk.inj eq0
            obtain rfl := ehq.symm
            have hr : yz _ d 221 99 lo7 [.inl (q), .inl (top), .inr (.inr (372))] h = some res := hr
            obtain ⟨zi, _, hr⟩ := sis (len := 64) (q := []) (by decide +kernel) (by decide +kernel) hr
            obtain ⟨h5, eh5⟩ : ∃ x : zH, x = zs h (372) (top).toNatClampNeg (q) := ⟨_, rfl⟩
            obtain ⟨_, hr⟩ : ∃ m', yz m' d 221 100 lo7 [] h5 = some res := by rw [eh5]; exact ⟨_, hr⟩
            have zi := zin_i zi
            obtain ⟨_, hr⟩ := sii (k := 2) (n := 1) (by decide +kernel) g2_7 hr
            generalize ev19 : top + Int32.ofInt 1 = v19 at hr
            have tv19 : v19.toInt = top.toInt + 1 := by rw [← ev19, iadd_ (by rw [show (Int32.ofInt 1).toInt = 1 from by decide]; omega)]; rfl
            obtain ⟨lo20, elo20⟩ : ∃ l, l = zput1 lo7 2 (.inl (v19)) := ⟨_, rfl⟩
            obtain ⟨_, hr⟩ : ∃ m', yz m' d 221 103 lo20 [] h5 = some res := by rw [elo20]; exact ⟨_, hr⟩
            have g0_20 : zget lo20 0 = some (.inr (.inr (374))) := by rw [elo20]; exact zg_put (by decide) g0_7 rfl
            have g1_20 : zget lo20 1 = some (.inr (.inr (cr))) := by rw [elo20]; exact zg_put (by decide) g1_7 rfl
            have g3_20 : zget lo20 3 = some (.inl (sk)) := by rw [elo20]; exact zg_put (by decide) g3_7 rfl
            have g4_20 : zget lo20 4 = some (.inl (k)) := by rw [elo20]; exact zg_put (by decide) g4_7 rfl
            have g5_20 : zget lo20 5 = some (.inl (v6)) := by rw [elo20]; exact zg_put (by decide) g5_7 rfl
            have g2_20 : zget lo20 2 = some (.inl (v19)) := by rw [elo20]; exact zg_same
            obtain ⟨_, hr⟩ : ∃ m', yz m' d 221 232 lo20 [] h5 = some res := sgoh (off := 129) (by decide +kernel) (by decide) hr
            obtain ⟨_, hr⟩ := sii (k := 4) (n := 1) (by decide +kernel) g4_20 hr
            generalize ev21 : k + Int32.ofInt 1 = v21 at hr
            have tv21 : v21.toInt = k.toInt + 1 := by rw [← ev21, iadd_ (by rw [show (Int32.ofInt 1).toInt = 1 from by decide]; omega)]; rfl
            obtain ⟨lo22, elo22⟩ : ∃ l, l = zput1 lo20 4 (.inl (v21)) := ⟨_, rfl⟩
            obtain ⟨_, hr⟩ : ∃ m', yz m' d 221 235 lo22 [] h5 = some res := by rw [elo22]; exact ⟨_, hr⟩
            have g0_22 : zget lo22 0 = some (.inr (.inr (374))) := by rw [elo22]; exact zg_put (by decide) g0_20 rfl
            have g1_22 : zget lo22 1 = some (.inr (.inr (cr))) := by rw [elo22]; exact zg_put (by decide) g1_20 rfl
            have g2_22 : zget lo22 2 = some (.inl (v19)) := by rw [elo22]; exact zg_put (by decide) g2_20 rfl
            have g3_22 : zget lo22 3 = some (.inl (sk)) := by rw [elo22]; exact zg_put (by decide) g3_20 rfl
            have g5_22 : zget lo22 5 = some (.inl (v6)) := by rw [elo22]; exact zg_put (by decide) g5_20 rfl
            have g4_22 : zget lo22 4 = some (.inl (v21)) := by rw [elo22]; exact zg_same
            obtain ⟨_, hr⟩ : ∃ m', yz m' d 221 37 lo22 [] h5 = some res := sgob (off := (-198)) (by decide +kernel) (by decide) hr
            have eq2 : q.toInt = cVal L s := by rw [tq, es]
            have bq : -1000000 ≤ cVal L s ∧ cVal L s ≤ 1000000 := by
              unfold cVal
              split
              · exact hLb _ (by omega)
              · omega
            have etop : top.toNatClampNeg = st.length := by rw [tcn]; omega
            obtain ⟨r, h9, q1, q2, q3, q4, q5⟩ := rn_worth_l hcr hc2 hLb c _ lo22 v21 v19 sk false (cVal L s :: st) h5 _ hTc (fun v hv => by rcases List.mem_cons.mp hv with y | y; rw [y]; exact bq; exact hV v y) (by omega) (by rw [tv21, eh5]; exact aAt_zs kC (fun z => absurd z hc2)) (by rw [eh5, zs_o (by decide), zs_o (by decide)]; omega) (by omega) (fun j hj => by rw [eh5, zs_o (by decide)]; exact hL j hj) (aAt_rev.mpr ⟨by rw [eh5]; exact aAt_zs hS (fun _ j hj => by rw [etop]; omega), by rw [eh5, etop, zs_s]; exact eq2⟩) (by rw [List.length_cons]; omega) (by rw [List.length_cons]; omega) hsk g0_22 g1_22 g2_22 g3_22 g4_22 hr
            refine ⟨r, h9, q1, ?_, fun a ha => by rw [q3 a ha, eh5]; funext i; exact zs_o ha, by rw [q4, eh5]; rfl, fun i hi => by rw [q5 i hi, eh5]; exact zs_i (by rw [tcn]; omega)⟩
            rw [q2]
            show _ = if 0 ≤ s then (if st.length < 64 then cMa L c false (cVal L s :: st) else cMa L c false st) else _
            rw [if_pos c2, if_pos c3]
          · skip
            obtain ⟨_, hr⟩ : ∃ m', yz m' d 221 232 lo7 [] h = some res := si2t (off := 147) (by decide +kernel) (by decide) (k2_ge.mpr (by omega)) hr
            obtain ⟨_, hr⟩ := sii (k := 4) (n := 1) (by decide +kernel) g4_7 hr
            generalize ev23 : k + Int32.ofInt 1 = v23 at hr
            have tv23 : v23.toInt = k.toInt + 1 := by rw [← ev23, iadd_ (by rw [show (Int32.ofInt 1).toInt = 1 from by decide]; omega)]; rfl
            obtain ⟨lo24, elo24⟩ : ∃ l, l = zput1 lo7 4 (.inl (v23)) := ⟨_, rfl⟩
            obtain ⟨_, hr⟩ : ∃ m', yz m' d 221 235 lo24 [] h = some res := by rw [elo24]; exact ⟨_, hr⟩
            have g0_24 : zget lo24 0 = some (.inr (.inr (374))) := by rw [elo24]; exact zg_put (by decide) g0_7 rfl
            have g1_24 : zget lo24 1 = some (.inr (.inr (cr))) := by rw [elo24]; exact zg_put (by decide) g1_7 rfl
            have g2_24 : zget lo24 2 = some (.inl (top)) := by rw [elo24]; exact zg_put (by decide) g2_7 rfl
            have g3_24 : zget lo24 3 = some (.inl (sk)) := by rw [elo24]; exact zg_put (by decide) g3_7 rfl
            have g5_24 : zget lo24 5 = some (.inl (v6)) := by rw [elo24]; exact zg_put (by decide) g5_7 rfl
            have g4_24 : zget lo24 4 = some (.inl (v23)) := by rw [elo24]; exact zg_same
            obtain ⟨_, hr⟩ : ∃ m', yz m' d 221 37 lo24 [] h = some res := sgob (off := (-198)) (by decide +kernel) (by decide) hr
            obtain ⟨r, h9, q1, q2, q3, q4, q5⟩ := rn_worth_l hcr hc2 hLb c _ lo24 v23 top sk false st h _ hTc hV (by omega) (by rw [tv23]; exact kC) (by omega) (by omega) hL hS htop hs64 hsk g0_24 g1_24 g2_24 g3_24 g4_24 hr
            refine ⟨r, h9, q1, ?_, q3, q4, q5⟩
            rw [q2]
            show _ = if 0 ≤ s then (if st.length < 64 then cMa L c false (cVal L s :: st) else cMa L c false st) else _
            rw [if_pos c2, if_neg c3]
        · skip
          obtain ⟨_, hr⟩ : ∃ m', yz m' d 221 106 lo7 [] h = some res := si1t (off := 27) (by decide +kernel) (by decide) (k1_lt.mpr (by omega)) hr
          obtain ⟨_, hr⟩ : ∃ m', yz m' d 221 107 lo7 [.inl (top)] h = some res := sil (k := 2) (by decide +kernel) g2_7 hr
          obtain ⟨_, hr⟩ : ∃ m', yz m' d 221 108 lo7 [.inl (Int32.ofInt 1), .inl (top)] h = some res := sb1 (i := .iconst 1) (by decide +kernel) rfl rfl rfl hr
          generalize ev25 : Int32.ofInt 1 = v25 at hr
          have tv25 : v25.toInt = 1 := by rw [← ev25]; exact (by decide)
          match st, hV, hS, htop, hs64, hst with
          | [], hV, hS, htop, hs64, hst =>
            have htop : top.toInt = 0 := htop
            obtain ⟨_, hr⟩ : ∃ m', yz m' d 221 111 lo7 [] h = some res := si2f (off := 5) (by decide +kernel) (by decide) (fun e => absurd (k2_ge.mp e) (by omega)) hr
            obtain ⟨_, hr⟩ : ∃ m', yz m' d 221 112 lo7 [.inl (Int32.ofInt 0)] h = some res := sb1 (i := .iconst 0) (by decide +kernel) rfl rfl rfl hr
            generalize ev26 : Int32.ofInt 0 = v26 at hr
            have tv26 : v26.toInt = 0 := by rw [← ev26]; exact (by decide)
            have hr := senh (i := .ireturn) (r := some (.inl (v26))) (by decide +kernel) rfl rfl hr
            refine ⟨_, _, hr, ?_, fun _ _ => rfl, rfl, fun _ _ => rfl⟩
            rw [tv26]
            show 0 = if 0 ≤ s then _ else _
            rw [if_neg c2]
          | x :: r0, hV, hS, htop, hs64, hst =>
            rw [List.length_cons] at htop hs64
            obtain ⟨hS1, hS2⟩ := aAt_rev.mp hS
            have bx := hV x (List.mem_cons_self ..)
            have hVr : ∀ v ∈ r0, -1000000 ≤ v ∧ v ≤ 1000000 := fun v hv => hV v (List.mem_cons_of_mem _ hv)
            obtain ⟨_, hr⟩ : ∃ m', yz m' d 221 113 lo7 [] h = some res := si2t (off := 5) (by decide +kernel) (by decide) (k2_ge.mpr (by omega)) hr
            obtain ⟨_, hr⟩ : ∃ m', yz m' d 221 115 lo7 [.inl (v6)] h = some res := sil2 (k := 5) (by decide +kernel) g5_7 hr
            obtain ⟨_, hr⟩ : ∃ m', yz m' d 221 117 lo7 [.inl ((Int8.ofInt (-59)).toInt32), .inl (v6)] h = some res := sb1 (i := .bipush (-59)) (by decide +kernel) rfl rfl rfl hr
            generalize ev27 : (Int8.ofInt (-59)).toInt32 = v27 at hr
            have tv27 : v27.toInt = -59 := by rw [← ev27]; exact (by decide)
            have eC : ∀ b, cMa L (s :: c) false (x :: r0) = b ↔ (if s = -59 then x else if s = -63 then cMa L c (decide (x = 0)) r0 else if s = -33 then cMa L c false ((if x = 0 then 1 else 0) :: r0) else match (generalizing := false) r0 with
              | y :: r' => cMa L c false (hld (rOp (-s) y x) :: r')
              | [] => cMa L c false (x :: r0)) = b := fun b => by
                show (if 0 ≤ s then _ else _) = b ↔ _
                rw [if_neg c2]
            by_cases c3 : s = -59
            · skip
              obtain ⟨_, hr⟩ : ∃ m', yz m' d 221 120 lo7 [] h = some res := si2f (off := 12) (by decide +kernel) (by decide) (fun e => absurd (k2_ne.mp e) (by omega)) hr
              obtain ⟨_, hr⟩ : ∃ m', yz m' d 221 121 lo7 [.inr (.inr (374))] h = some res := sal (k := 0) (by decide +kernel) g0_7 hr
              obtain ⟨_, hr⟩ : ∃ m', yz m' d 221 124 lo7 [.inr (.inr (372))] h = some res := sgr (idx := 22) (fi := 2) (b := 3) (by decide +kernel) (by decide +kernel) hr
              obtain ⟨_, hr⟩ : ∃ m', yz m' d 221 125 lo7 [.inl (top), .inr (.inr (372))] h = some res := sil (k := 2) (by decide +kernel) g2_7 hr
              obtain ⟨_, hr⟩ : ∃ m', yz m' d 221 126 lo7 [.inl (Int32.ofInt 1), .inl (top), .inr (.inr (372))] h = some res := sb1 (i := .iconst 1) (by decide +kernel) rfl rfl rfl hr
              generalize ev28 : Int32.ofInt 1 = v28 at hr
              have tv28 : v28.toInt = 1 := by rw [← ev28]; exact (by decide)
              obtain ⟨_, hr⟩ : ∃ m', yz m' d 221 127 lo7 [.inl ((top) - (v28)), .inr (.inr (372))] h = some res := sb1 (i := .isub) (by decide +kernel) rfl rfl rfl hr
              generalize ev29 : (top) - (v28) = v29 at hr
              have tv29 : v29.toInt = top.toInt - v28.toInt := by rw [← ev29]; exact (isub_ (by omega))
              obtain ⟨z29, _, hr⟩ : zin (v29) 64 = true ∧ ∃ m', yz m' d 221 128 lo7 [.inl (h.1 (372) (v29).toNatClampNeg)] h = some res := sia (q := []) (by decide +kernel) (by decide +kernel) hr
              have z29 := zin_i z29
              generalize ev31 : h.1 (372) (v29).toNatClampNeg = v31 at hr
              have hr := senh (i := .ireturn) (r := some (.inl (v31))) (by decide +kernel) rfl rfl hr
              refine ⟨_, _, hr, ?_, fun _ _ => rfl, rfl, fun _ _ => rfl⟩
              refine ((eC _).mpr ?_).symm
              rw [if_pos c3, ← ev31, show v29.toNatClampNeg = r0.length from by rw [tcn]; omega]
              exact hS2.symm
            · skip
              obtain ⟨_, hr⟩ : ∃ m', yz m' d 221 129 lo7 [] h = some res := si2t (off := 12) (by decide +kernel) (by decide) (k2_ne.mpr (by omega)) hr
              obtain ⟨_, hr⟩ : ∃ m', yz m' d 221 131 lo7 [.inl (v6)] h = some res := sil2 (k := 5) (by decide +kernel) g5_7 hr
              obtain ⟨_, hr⟩ : ∃ m', yz m' d 221 133 lo7 [.inl ((Int8.ofInt (-63)).toInt32), .inl (v6)] h = some res := sb1 (i := .bipush (-63)) (by decide +kernel) rfl rfl rfl hr
              generalize ev32 : (Int8.ofInt (-63)).toInt32 = v32 at hr
              have tv32 : v32.toInt = -63 := by rw [← ev32]; exact (by decide)
              by_cases c4 : s = -63
              · skip
                obtain ⟨_, hr⟩ : ∃ m', yz m' d 221 136 lo7 [] h = some res := si2f (off := 24) (by decide +kernel) (by decide) (fun e => absurd (k2_ne.mp e) (by omega)) hr
                obtain ⟨_, hr⟩ := sii (k := 2) (n := (-1)) (by decide +kernel) g2_7 hr
                generalize ev33 : top + Int32.ofInt (-1) = v33 at hr
                have tv33 : v33.toInt = top.toInt + (-1) := by rw [← ev33, iadd_ (by rw [show (Int32.ofInt (-1)).toInt = (-1) from by decide]; omega)]; rfl
                obtain ⟨lo34, elo34⟩ : ∃ l, l = zput1 lo7 2 (.inl (v33)) := ⟨_, rfl⟩
                obtain ⟨_, hr⟩ : ∃ m', yz m' d 221 139 lo34 [] h = some res := by rw [elo34]; exact ⟨_, hr⟩
                have g0_34 : zget lo34 0 = some (.inr (.inr (374))) := by rw [elo34]; exact zg_put (by decide) g0_7 rfl
                have g1_34 : zget lo34 1 = some (.inr (.inr (cr))) := by rw [elo34]; exact zg_put (by decide) g1_7 rfl
                have g3_34 : zget lo34 3 = some (.inl (sk)) := by rw [elo34]; exact zg_put (by decide) g3_7 rfl
                have g4_34 : zget lo34 4 = some (.inl (k)) := by rw [elo34]; exact zg_put (by decide) g4_7 rfl
                have g5_34 : zget lo34 5 = some (.inl (v6)) := by rw [elo34]; exact zg_put (by decide) g5_7 rfl
                have g2_34 : zget lo34 2 = some (.inl (v33)) := by rw [elo34]; exact zg_same
                obtain ⟨_, hr⟩ : ∃ m', yz m' d 221 140 lo34 [.inr (.inr (374))] h = some res := sal (k := 0) (by decide +kernel) g0_34 hr
                obtain ⟨_, hr⟩ : ∃ m', yz m' d 221 143 lo34 [.inr (.inr (372))] h = some res := sgr (idx := 22) (fi := 2) (b := 3) (by decide +kernel) (by decide +kernel) hr
                obtain ⟨_, hr⟩ : ∃ m', yz m' d 221 144 lo34 [.inl (v33), .inr (.inr (372))] h = some res := sil (k := 2) (by decide +kernel) g2_34 hr
                obtain ⟨z34, _, hr⟩ : zin (v33) 64 = true ∧ ∃ m', yz m' d 221 145 lo34 [.inl (h.1 (372) (v33).toNatClampNeg)] h = some res := sia (q := []) (by decide +kernel) (by decide +kernel) hr
                have z34 := zin_i z34
                generalize ev36 : h.1 (372) (v33).toNatClampNeg = v36 at hr
                have ex : v36.toInt = x := by rw [← ev36, show v33.toNatClampNeg = r0.length from by rw [tcn]; omega]; exact hS2
                by_cases c5 : x = 0
                · skip
                  obtain ⟨_, hr⟩ : ∃ m', yz m' d 221 148 lo34 [] h = some res := si1f (off := 7) (by decide +kernel) (by decide) (fun e => absurd (k1_ne.mp e) (by omega)) hr
                  obtain ⟨_, hr⟩ : ∃ m', yz m' d 221 149 lo34 [.inl (Int32.ofInt 1)] h = some res := sb1 (i := .iconst 1) (by decide +kernel) rfl rfl rfl hr
                  generalize ev37 : Int32.ofInt 1 = v37 at hr
                  have tv37 : v37.toInt = 1 := by rw [← ev37]; exact (by decide)
                  obtain ⟨_, hr⟩ : ∃ m', yz m' d 221 153 lo34 [.inl (v37)] h = some res := sgoh (off := 4) (by decide +kernel) (by decide) hr
                  obtain ⟨_, hr⟩ := ssth (k := 3) (by decide +kernel) hr
                  obtain ⟨lo38, elo38⟩ : ∃ l, l = zput1 lo34 3 (.inl (v37)) := ⟨_, rfl⟩
                  obtain ⟨_, hr⟩ : ∃ m', yz m' d 221 154 lo38 [] h = some res := by rw [elo38]; exact ⟨_, hr⟩
                  have g0_38 : zget lo38 0 = some (.inr (.inr (374))) := by rw [elo38]; exact zg_put (by decide) g0_34 rfl
                  have g1_38 : zget lo38 1 = some (.inr (.inr (cr))) := by rw [elo38]; exact zg_put (by decide) g1_34 rfl
                  have g2_38 : zget lo38 2 = some (.inl (v33)) := by rw [elo38]; exact zg_put (by decide) g2_34 rfl
                  have g4_38 : zget lo38 4 = some (.inl (k)) := by rw [elo38]; exact zg_put (by decide) g4_34 rfl
                  have g5_38 : zget lo38 5 = some (.inl (v6)) := by rw [elo38]; exact zg_put (by decide) g5_34 rfl
                  have g3_38 : zget lo38 3 = some (.inl (v37)) := by rw [elo38]; exact zg_same
                  obtain ⟨_, hr⟩ : ∃ m', yz m' d 221 232 lo38 [] h = some res := sgoh (off := 78) (by decide +kernel) (by decide) hr
                  obtain ⟨_, hr⟩ := sii (k := 4) (n := 1) (by decide +kernel) g4_38 hr
                  generalize ev39 : k + Int32.ofInt 1 = v39 at hr
                  have tv39 : v39.toInt = k.toInt + 1 := by rw [← ev39, iadd_ (by rw [show (Int32.ofInt 1).toInt = 1 from by decide]; omega)]; rfl
                  obtain ⟨lo40, elo40⟩ : ∃ l, l = zput1 lo38 4 (.inl (v39)) := ⟨_, rfl⟩
                  obtain ⟨_, hr⟩ : ∃ m', yz m' d 221 235 lo40 [] h = some res := by rw [elo40]; exact ⟨_, hr⟩
                  have g0_40 : zget lo40 0 = some (.inr (.inr (374))) := by rw [elo40]; exact zg_put (by decide) g0_38 rfl
                  have g1_40 : zget lo40 1 = some (.inr (.inr (cr))) := by rw [elo40]; exact zg_put (by decide) g1_38 rfl
                  have g2_40 : zget lo40 2 = some (.inl (v33)) := by rw [elo40]; exact zg_put (by decide) g2_38 rfl
                  have g3_40 : zget lo40 3 = some (.inl (v37)) := by rw [elo40]; exact zg_put (by decide) g3_38 rfl
                  have g5_40 : zget lo40 5 = some (.inl (v6)) := by rw [elo40]; exact zg_put (by decide) g5_38 rfl
                  have g4_40 : zget lo40 4 = some (.inl (v39)) := by rw [elo40]; exact zg_same
                  obtain ⟨_, hr⟩ : ∃ m', yz m' d 221 37 lo40 [] h = some res := sgob (off := (-198)) (by decide +kernel) (by decide) hr
                  obtain ⟨r, h9, q1, q2, q3, q4, q5⟩ := rn_worth_l hcr hc2 hLb c _ lo40 v39 v33 v37 true r0 h _ hTc hVr (by omega) (by rw [tv39]; exact kC) (by omega) (by omega) hL hS1 (by omega) (by omega) (by rw [tv37]; rfl) g0_40 g1_40 g2_40 g3_40 g4_40 hr
                  refine ⟨r, h9, q1, ?_, q3, q4, q5⟩
                  rw [q2]
                  refine ((eC _).mpr ?_).symm
                  rw [if_neg c3, if_pos c4, decide_eq_true c5]
                · skip
                  obtain ⟨_, hr⟩ : ∃ m', yz m' d 221 152 lo34 [] h = some res := si1t (off := 7) (by decide +kernel) (by decide) (k1_ne.mpr (by omega)) hr
                  obtain ⟨_, hr⟩ : ∃ m', yz m' d 221 153 lo34 [.inl (Int32.ofInt 0)] h = some res := sb1 (i := .iconst 0) (by decide +kernel) rfl rfl rfl hr
                  generalize ev41 : Int32.ofInt 0 = v41 at hr
                  have tv41 : v41.toInt = 0 := by rw [← ev41]; exact (by decide)
                  obtain ⟨_, hr⟩ := ssth (k := 3) (by decide +kernel) hr
                  obtain ⟨lo42, elo42⟩ : ∃ l, l = zput1 lo34 3 (.inl (v41)) := ⟨_, rfl⟩
                  obtain ⟨_, hr⟩ : ∃ m', yz m' d 221 154 lo42 [] h = some res := by rw [elo42]; exact ⟨_, hr⟩
                  have g0_42 : zget lo42 0 = some (.inr (.inr (374))) := by rw [elo42]; exact zg_put (by decide) g0_34 rfl
                  have g1_42 : zget lo42 1 = some (.inr (.inr (cr))) := by rw [elo42]; exact zg_put (by decide) g1_34 rfl
                  have g2_42 : zget lo42 2 = some (.inl (v33)) := by rw [elo42]; exact zg_put (by decide) g2_34 rfl
                  have g4_42 : zget lo42 4 = some (.inl (k)) := by rw [elo42]; exact zg_put (by decide) g4_34 rfl
                  have g5_42 : zget lo42 5 = some (.inl (v6)) := by rw [elo42]; exact zg_put (by decide) g5_34 rfl
                  have g3_42 : zget lo42 3 = some (.inl (v41)) := by rw [elo42]; exact zg_same
                  obtain ⟨_, hr⟩ : ∃ m', yz m' d 221 232 lo42 [] h = some res := sgoh (off := 78) (by decide +kernel) (by decide) hr
                  obtain ⟨_, hr⟩ := sii (k := 4) (n := 1) (by decide +kernel) g4_42 hr
                  generalize ev43 : k + Int32.ofInt 1 = v43 at hr
                  have tv43 : v43.toInt = k.toInt + 1 := by rw [← ev43, iadd_ (by rw [show (Int32.ofInt 1).toInt = 1 from by decide]; omega)]; rfl
                  obtain ⟨lo44, elo44⟩ : ∃ l, l = zput1 lo42 4 (.inl (v43)) := ⟨_, rfl⟩
                  obtain ⟨_, hr⟩ : ∃ m', yz m' d 221 235 lo44 [] h = some res := by rw [elo44]; exact ⟨_, hr⟩
                  have g0_44 : zget lo44 0 = some (.inr (.inr (374))) := by rw [elo44]; exact zg_put (by decide) g0_42 rfl
                  have g1_44 : zget lo44 1 = some (.inr (.inr (cr))) := by rw [elo44]; exact zg_put (by decide) g1_42 rfl
                  have g2_44 : zget lo44 2 = some (.inl (v33)) := by rw [elo44]; exact zg_put (by decide) g2_42 rfl
                  have g3_44 : zget lo44 3 = some (.inl (v41)) := by rw [elo44]; exact zg_put (by decide) g3_42 rfl
                  have g5_44 : zget lo44 5 = some (.inl (v6)) := by rw [elo44]; exact zg_put (by decide) g5_42 rfl
                  have g4_44 : zget lo44 4 = some (.inl (v43)) := by rw [elo44]; exact zg_same
                  obtain ⟨_, hr⟩ : ∃ m', yz m' d 221 37 lo44 [] h = some res := sgob (off := (-198)) (by decide +kernel) (by decide) hr
                  obtain ⟨r, h9, q1, q2, q3, q4, q5⟩ := rn_worth_l hcr hc2 hLb c _ lo44 v43 v33 v41 false r0 h _ hTc hVr (by omega) (by rw [tv43]; exact kC) (by omega) (by omega) hL hS1 (by omega) (by omega) (by rw [tv41]; rfl) g0_44 g1_44 g2_44 g3_44 g4_44 hr
                  refine ⟨r, h9, q1, ?_, q3, q4, q5⟩
                  rw [q2]
                  refine ((eC _).mpr ?_).symm
                  rw [if_neg c3, if_pos c4, decide_eq_false c5]
              · skip
                obtain ⟨_, hr⟩ : ∃ m', yz m' d 221 157 lo7 [] h = some res := si2t (off := 24) (by decide +kernel) (by decide) (k2_ne.mpr (by omega)) hr
                obtain ⟨_, hr⟩ : ∃ m', yz m' d 221 159 lo7 [.inl (v6)] h = some res := sil2 (k := 5) (by decide +kernel) g5_7 hr
                obtain ⟨_, hr⟩ : ∃ m', yz m' d 221 161 lo7 [.inl ((Int8.ofInt (-33)).toInt32), .inl (v6)] h = some res := sb1 (i := .bipush (-33)) (by decide +kernel) rfl rfl rfl hr
                generalize ev45 : (Int8.ofInt (-33)).toInt32 = v45 at hr
                have tv45 : v45.toInt = -33 := by rw [← ev45]; exact (by decide)
                by_cases c5 : s = -33
                · skip
                  obtain ⟨_, hr⟩ : ∃ m', yz m' d 221 164 lo7 [] h = some res := si2f (off := 30) (by decide +kernel) (by decide) (fun e => absurd (k2_ne.mp e) (by omega)) hr
                  obtain ⟨_, hr⟩ : ∃ m', yz m' d 221 165 lo7 [.inr (.inr (374))] h = some res := sal (k := 0) (by decide +kernel) g0_7 hr
                  obtain ⟨_, hr⟩ : ∃ m', yz m' d 221 168 lo7 [.inr (.inr (372))] h = some res := sgr (idx := 22) (fi := 2) (b := 3) (by decide +kernel) (by decide +kernel) hr
                  obtain ⟨_, hr⟩ : ∃ m', yz m' d 221 169 lo7 [.inl (top), .inr (.inr (372))] h = some res := sil (k := 2) (by decide +kernel) g2_7 hr
                  obtain ⟨_, hr⟩ : ∃ m', yz m' d 221 170 lo7 [.inl (Int32.ofInt 1), .inl (top), .inr (.inr (372))] h = some res := sb1 (i := .iconst 1) (by decide +kernel) rfl rfl rfl hr
                  generalize ev46 : Int32.ofInt 1 = v46 at hr
                  have tv46 : v46.toInt = 1 := by rw [← ev46]; exact (by decide)
                  obtain ⟨_, hr⟩ : ∃ m', yz m' d 221 171 lo7 [.inl ((top) - (v46)), .inr (.inr (372))] h = some res := sb1 (i := .isub) (by decide +kernel) rfl rfl rfl hr
                  generalize ev47 : (top) - (v46) = v47 at hr
                  have tv47 : v47.toInt = top.toInt - v46.toInt := by rw [← ev47]; exact (isub_ (by omega))
                  obtain ⟨_, hr⟩ : ∃ m', yz m' d 221 172 lo7 [.inr (.inr (374)), .inl (v47), .inr (.inr (372))] h = some res := sal (k := 0) (by decide +kernel) g0_7 hr
                  obtain ⟨_, hr⟩ : ∃ m', yz m' d 221 175 lo7 [.inr (.inr (372)), .inl (v47), .inr (.inr (372))] h = some res := sgr (idx := 22) (fi := 2) (b := 3) (by decide +kernel) (by decide +kernel) hr
                  obtain ⟨_, hr⟩ : ∃ m', yz m' d 221 176 lo7 [.inl (top), .inr (.inr (372)), .inl (v47), .inr (.inr (372))] h = some res := sil (k := 2) (by decide +kernel) g2_7 hr
                  obtain ⟨_, hr⟩ : ∃ m', yz m' d 221 177 lo7 [.inl (Int32.ofInt 1), .inl (top), .inr (.inr (372)), .inl (v47), .inr (.inr (372))] h = some res := sb1 (i := .iconst 1) (by decide +kernel) rfl rfl rfl hr
                  generalize ev48 : Int32.ofInt 1 = v48 at hr
                  have tv48 : v48.toInt = 1 := by rw [← ev48]; exact (by decide)
                  obtain ⟨_, hr⟩ : ∃ m', yz m' d 221 178 lo7 [.inl ((top) - (v48)), .inr (.inr (372)), .inl (v47), .inr (.inr (372))] h = some res := sb1 (i := .isub) (by decide +kernel) rfl rfl rfl hr
                  generalize ev49 : (top) - (v48) = v49 at hr
                  have tv49 : v49.toInt = top.toInt - v48.toInt := by rw [← ev49]; exact (isub_ (by omega))
                  obtain ⟨z49, _, hr⟩ : zin (v49) 64 = true ∧ ∃ m', yz m' d 221 179 lo7 [.inl (h.1 (372) (v49).toNatClampNeg), .inl (v47), .inr (.inr (372))] h = some res := sia (q := []) (by decide +kernel) (by decide +kernel) hr
                  have z49 := zin_i z49
                  generalize ev51 : h.1 (372) (v49).toNatClampNeg = v51 at hr
                  have ex : v51.toInt = x := by rw [← ev51, show v49.toNatClampNeg = r0.length from by rw [tcn]; omega]; exact hS2
                  have ei : v47.toNatClampNeg = r0.length := by rw [tcn]; omega
                  by_cases c6 : x = 0
                  · skip
                    obtain ⟨_, hr⟩ : ∃ m', yz m' d 221 182 lo7 [.inl (v47), .inr (.inr (372))] h = some res := si1f (off := 7) (by decide +kernel) (by decide) (fun e => absurd (k1_ne.mp e) (by omega)) hr
                    obtain ⟨_, hr⟩ : ∃ m', yz m' d 221 183 lo7 [.inl (Int32.ofInt 1), .inl (v47), .inr (.inr (372))] h = some res := sb1 (i := .iconst 1) (by decide +kernel) rfl rfl rfl hr
                    generalize ev52 : Int32.ofInt 1 = v52 at hr
                    have tv52 : v52.toInt = 1 := by rw [← ev52]; exact (by decide)
                    obtain ⟨_, hr⟩ : ∃ m', yz m' d 221 187 lo7 [.inl (v52), .inl (v47), .inr (.inr (372))] h = some res := sgoh (off := 4) (by decide +kernel) (by decide) hr
                    obtain ⟨zi, _, hr⟩ := sis (len := 64) (q := []) (by decide +kernel) (by decide +kernel) hr
                    obtain ⟨h5, eh5⟩ : ∃ x : zH, x = zs h (372) (v47).toNatClampNeg (v52) := ⟨_, rfl⟩
                    obtain ⟨_, hr⟩ : ∃ m', yz m' d 221 188 lo7 [] h5 = some res := by rw [eh5]; exact ⟨_, hr⟩
                    have zi := zin_i zi
                    obtain ⟨_, hr⟩ : ∃ m', yz m' d 221 232 lo7 [] h5 = some res := sgoh (off := 44) (by decide +kernel) (by decide) hr
                    obtain ⟨_, hr⟩ := sii (k := 4) (n := 1) (by decide +kernel) g4_7 hr
                    generalize ev54 : k + Int32.ofInt 1 = v54 at hr
                    have tv54 : v54.toInt = k.toInt + 1 := by rw [← ev54, iadd_ (by rw [show (Int32.ofInt 1).toInt = 1 from by decide]; omega)]; rfl
                    obtain ⟨lo55, elo55⟩ : ∃ l, l = zput1 lo7 4 (.inl (v54)) := ⟨_, rfl⟩
                    obtain ⟨_, hr⟩ : ∃ m', yz m' d 221 235 lo55 [] h5 = some res := by rw [elo55]; exact ⟨_, hr⟩
                    have g0_55 : zget lo55 0 = some (.inr (.inr (374))) := by rw [elo55]; exact zg_put (by decide) g0_7 rfl
                    have g1_55 : zget lo55 1 = some (.inr (.inr (cr))) := by rw [elo55]; exact zg_put (by decide) g1_7 rfl
                    have g2_55 : zget lo55 2 = some (.inl (top)) := by rw [elo55]; exact zg_put (by decide) g2_7 rfl
                    have g3_55 : zget lo55 3 = some (.inl (sk)) := by rw [elo55]; exact zg_put (by decide) g3_7 rfl
                    have g5_55 : zget lo55 5 = some (.inl (v6)) := by rw [elo55]; exact zg_put (by decide) g5_7 rfl
                    have g4_55 : zget lo55 4 = some (.inl (v54)) := by rw [elo55]; exact zg_same
                    obtain ⟨_, hr⟩ : ∃ m', yz m' d 221 37 lo55 [] h5 = some res := sgob (off := (-198)) (by decide +kernel) (by decide) hr
                    obtain ⟨r, h9, q1, q2, q3, q4, q5⟩ := rn_worth_l hcr hc2 hLb c _ lo55 v54 top sk false (1 :: r0) h5 _ hTc (fun v hv => by rcases List.mem_cons.mp hv with y | y; rw [y]; decide; exact hVr v y) (by omega) (by rw [tv54, eh5]; exact aAt_zs kC (fun z => absurd z hc2)) (by rw [eh5, zs_o (by decide), zs_o (by decide)]; omega) (by omega) (fun j hj => by rw [eh5, zs_o (by decide)]; exact hL j hj) (aAt_rev.mpr ⟨by rw [eh5]; exact aAt_zs hS1 (fun _ j hj => by rw [ei]; rw [List.length_reverse] at hj; omega), by rw [eh5, ei, zs_s]; assumption⟩) (by rw [List.length_cons]; omega) (by rw [List.length_cons]; omega) hsk g0_55 g1_55 g2_55 g3_55 g4_55 hr
                    refine ⟨r, h9, q1, ?_, fun a ha => by rw [q3 a ha, eh5]; funext i; exact zs_o ha, by rw [q4, eh5]; rfl, fun i hi => by rw [q5 i hi, eh5]; exact zs_i (by rw [tcn]; omega)⟩
                    rw [q2]
                    refine ((eC _).mpr ?_).symm
                    rw [if_neg c3, if_neg c4, if_pos c5, if_pos c6]
                  · skip
                    obtain ⟨_, hr⟩ : ∃ m', yz m' d 221 186 lo7 [.inl (v47), .inr (.inr (372))] h = some res := si1t (off := 7) (by decide +kernel) (by decide) (k1_ne.mpr (by omega)) hr
                    obtain ⟨_, hr⟩ : ∃ m', yz m' d 221 187 lo7 [.inl (Int32.ofInt 0), .inl (v47), .inr (.inr (372))] h = some res := sb1 (i := .iconst 0) (by decide +kernel) rfl rfl rfl hr
                    generalize ev56 : Int32.ofInt 0 = v56 at hr
                    have tv56 : v56.toInt = 0 := by rw [← ev56]; exact (by decide)
                    obtain ⟨zi, _, hr⟩ := sis (len := 64) (q := []) (by decide +kernel) (by decide +kernel) hr
                    obtain ⟨h5, eh5⟩ : ∃ x : zH, x = zs h (372) (v47).toNatClampNeg (v56) := ⟨_, rfl⟩
                    obtain ⟨_, hr⟩ : ∃ m', yz m' d 221 188 lo7 [] h5 = some res := by rw [eh5]; exact ⟨_, hr⟩
                    have zi := zin_i zi
                    obtain ⟨_, hr⟩ : ∃ m', yz m' d 221 232 lo7 [] h5 = some res := sgoh (off := 44) (by decide +kernel) (by decide) hr
                    obtain ⟨_, hr⟩ := sii (k := 4) (n := 1) (by decide +kernel) g4_7 hr
                    generalize ev58 : k + Int32.ofInt 1 = v58 at hr
                    have tv58 : v58.toInt = k.toInt + 1 := by rw [← ev58, iadd_ (by rw [show (Int32.ofInt 1).toInt = 1 from by decide]; omega)]; rfl
                    obtain ⟨lo59, elo59⟩ : ∃ l, l = zput1 lo7 4 (.inl (v58)) := ⟨_, rfl⟩
                    obtain ⟨_, hr⟩ : ∃ m', yz m' d 221 235 lo59 [] h5 = some res := by rw [elo59]; exact ⟨_, hr⟩
                    have g0_59 : zget lo59 0 = some (.inr (.inr (374))) := by rw [elo59]; exact zg_put (by decide) g0_7 rfl
                    have g1_59 : zget lo59 1 = some (.inr (.inr (cr))) := by rw [elo59]; exact zg_put (by decide) g1_7 rfl
                    have g2_59 : zget lo59 2 = some (.inl (top)) := by rw [elo59]; exact zg_put (by decide) g2_7 rfl
                    have g3_59 : zget lo59 3 = some (.inl (sk)) := by rw [elo59]; exact zg_put (by decide) g3_7 rfl
                    have g5_59 : zget lo59 5 = some (.inl (v6)) := by rw [elo59]; exact zg_put (by decide) g5_7 rfl
                    have g4_59 : zget lo59 4 = some (.inl (v58)) := by rw [elo59]; exact zg_same
                    obtain ⟨_, hr⟩ : ∃ m', yz m' d 221 37 lo59 [] h5 = some res := sgob (off := (-198)) (by decide +kernel) (by decide) hr
                    obtain ⟨r, h9, q1, q2, q3, q4, q5⟩ := rn_worth_l hcr hc2 hLb c _ lo59 v58 top sk false (0 :: r0) h5 _ hTc (fun v hv => by rcases List.mem_cons.mp hv with y | y; rw [y]; decide; exact hVr v y) (by omega) (by rw [tv58, eh5]; exact aAt_zs kC (fun z => absurd z hc2)) (by rw [eh5, zs_o (by decide), zs_o (by decide)]; omega) (by omega) (fun j hj => by rw [eh5, zs_o (by decide)]; exact hL j hj) (aAt_rev.mpr ⟨by rw [eh5]; exact aAt_zs hS1 (fun _ j hj => by rw [ei]; rw [List.length_reverse] at hj; omega), by rw [eh5, ei, zs_s]; assumption⟩) (by rw [List.length_cons]; omega) (by rw [List.length_cons]; omega) hsk g0_59 g1_59 g2_59 g3_59 g4_59 hr
                    refine ⟨r, h9, q1, ?_, fun a ha => by rw [q3 a ha, eh5]; funext i; exact zs_o ha, by rw [q4, eh5]; rfl, fun i hi => by rw [q5 i hi, eh5]; exact zs_i (by rw [tcn]; omega)⟩
                    rw [q2]
                    refine ((eC _).mpr ?_).symm
                    rw [if_neg c3, if_neg c4, if_pos c5, if_neg c6]
                · skip
                  obtain ⟨_, hr⟩ : ∃ m', yz m' d 221 191 lo7 [] h = some res := si2t (off := 30) (by decide +kernel) (by decide) (k2_ne.mpr (by omega)) hr
                  obtain ⟨_, hr⟩ : ∃ m', yz m' d 221 192 lo7 [.inl (top)] h = some res := sil (k := 2) (by decide +kernel) g2_7 hr
                  obtain ⟨_, hr⟩ : ∃ m', yz m' d 221 193 lo7 [.inl (Int32.ofInt 2), .inl (top)] h = some res := sb1 (i := .iconst 2) (by decide +kernel) rfl rfl rfl hr
                  generalize ev60 : Int32.ofInt 2 = v60 at hr
                  have tv60 : v60.toInt = 2 := by rw [← ev60]; exact (by decide)
                  have hsg : sgOk (-s) := by rcases hTs with (y | y | y) | y | y; omega; omega; exact y; omega; omega
                  have bsg : -124 ≤ s ∧ s ≤ -38 := by unfold sgOk at hsg; omega
                  match r0, hV, hVr, hS, hS1, hS2, htop, hs64, hst, eC with
                  | [], hV, hVr, hS, hS1, hS2, htop, hs64, hst, eC =>
                    have htop : top.toInt = 0 + 1 := htop
                    obtain ⟨_, hr⟩ : ∃ m', yz m' d 221 232 lo7 [] h = some res := si2t (off := 39) (by decide +kernel) (by decide) (k2h_lt.mpr (by omega)) hr
                    obtain ⟨_, hr⟩ := sii (k := 4) (n := 1) (by decide +kernel) g4_7 hr
                    generalize ev61 : k + Int32.ofInt 1 = v61 at hr
                    have tv61 : v61.toInt = k.toInt + 1 := by rw [← ev61, iadd_ (by rw [show (Int32.ofInt 1).toInt = 1 from by decide]; omega)]; rfl
                    obtain ⟨lo62, elo62⟩ : ∃ l, l = zput1 lo7 4 (.inl (v61)) := ⟨_, rfl⟩
                    obtain ⟨_, hr⟩ : ∃ m', yz m' d 221 235 lo62 [] h = some res := by rw [elo62]; exact ⟨_, hr⟩
                    have g0_62 : zget lo62 0 = some (.inr (.inr (374))) := by rw [elo62]; exact zg_put (by decide) g0_7 rfl
                    have g1_62 : zget lo62 1 = some (.inr (.inr (cr))) := by rw [elo62]; exact zg_put (by decide) g1_7 rfl
                    have g2_62 : zget lo62 2 = some (.inl (top)) := by rw [elo62]; exact zg_put (by decide) g2_7 rfl
                    have g3_62 : zget lo62 3 = some (.inl (sk)) := by rw [elo62]; exact zg_put (by decide) g3_7 rfl
                    have g5_62 : zget lo62 5 = some (.inl (v6)) := by rw [elo62]; exact zg_put (by decide) g5_7 rfl
                    have g4_62 : zget lo62 4 = some (.inl (v61)) := by rw [elo62]; exact zg_same
                    obtain ⟨_, hr⟩ : ∃ m', yz m' d 221 37 lo62 [] h = some res := sgob (off := (-198)) (by decide +kernel) (by decide) hr
                    obtain ⟨r, h9, q1, q2, q3, q4, q5⟩ := rn_worth_l hcr hc2 hLb c _ lo62 v61 top sk false [x] h _ hTc hV (by omega) (by rw [tv61]; exact kC) (by omega) (by omega) hL hS htop hs64 hsk g0_62 g1_62 g2_62 g3_62 g4_62 hr
                    refine ⟨r, h9, q1, ?_, q3, q4, q5⟩
                    rw [q2]
                    refine ((eC _).mpr ?_).symm
                    rw [if_neg c3, if_neg c4, if_neg c5]
                  | y :: r1, hV, hVr, hS, hS1, hS2, htop, hs64, hst, eC =>
                    rw [List.length_cons] at htop hs64 hS2
                    have by_ := hVr y (List.mem_cons_self ..)
                    obtain ⟨hS3, hS4⟩ := aAt_rev.mp hS1
                    have hVq : ∀ v ∈ r1, -1000000 ≤ v ∧ v ≤ 1000000 := fun v hv => hVr v (List.mem_cons_of_mem _ hv)
                    obtain ⟨_, hr⟩ : ∃ m', yz m' d 221 196 lo7 [] h = some res := si2f (off := 39) (by decide +kernel) (by decide) (fun e => absurd (k2h_lt.mp e) (by omega)) hr
                    obtain ⟨_, hr⟩ := sii (k := 2) (n := (-1)) (by decide +kernel) g2_7 hr
                    generalize ev63 : top + Int32.ofInt (-1) = v63 at hr
                    have tv63 : v63.toInt = top.toInt + (-1) := by rw [← ev63, iadd_ (by rw [show (Int32.ofInt (-1)).toInt = (-1) from by decide]; omega)]; rfl
                    obtain ⟨lo64, elo64⟩ : ∃ l, l = zput1 lo7 2 (.inl (v63)) := ⟨_, rfl⟩
                    obtain ⟨_, hr⟩ : ∃ m', yz m' d 221 199 lo64 [] h = some res := by rw [elo64]; exact ⟨_, hr⟩
                    have g0_64 : zget lo64 0 = some (.inr (.inr (374))) := by rw [elo64]; exact zg_put (by decide) g0_7 rfl
                    have g1_64 : zget lo64 1 = some (.inr (.inr (cr))) := by rw [elo64]; exact zg_put (by decide) g1_7 rfl
                    have g3_64 : zget lo64 3 = some (.inl (sk)) := by rw [elo64]; exact zg_put (by decide) g3_7 rfl
                    have g4_64 : zget lo64 4 = some (.inl (k)) := by rw [elo64]; exact zg_put (by decide) g4_7 rfl
                    have g5_64 : zget lo64 5 = some (.inl (v6)) := by rw [elo64]; exact zg_put (by decide) g5_7 rfl
                    have g2_64 : zget lo64 2 = some (.inl (v63)) := by rw [elo64]; exact zg_same
                    obtain ⟨_, hr⟩ : ∃ m', yz m' d 221 200 lo64 [.inr (.inr (374))] h = some res := sal (k := 0) (by decide +kernel) g0_64 hr
                    obtain ⟨_, hr⟩ : ∃ m', yz m' d 221 203 lo64 [.inr (.inr (372))] h = some res := sgr (idx := 22) (fi := 2) (b := 3) (by decide +kernel) (by decide +kernel) hr
                    obtain ⟨_, hr⟩ : ∃ m', yz m' d 221 204 lo64 [.inl (v63), .inr (.inr (372))] h = some res := sil (k := 2) (by decide +kernel) g2_64 hr
                    obtain ⟨_, hr⟩ : ∃ m', yz m' d 221 205 lo64 [.inl (Int32.ofInt 1), .inl (v63), .inr (.inr (372))] h = some res := sb1 (i := .iconst 1) (by decide +kernel) rfl rfl rfl hr
                    generalize ev65 : Int32.ofInt 1 = v65 at hr
                    have tv65 : v65.toInt = 1 := by rw [← ev65]; exact (by decide)
                    obtain ⟨_, hr⟩ : ∃ m', yz m' d 221 206 lo64 [.inl ((v63) - (v65)), .inr (.inr (372))] h = some res := sb1 (i := .isub) (by decide +kernel) rfl rfl rfl hr
                    generalize ev66 : (v63) - (v65) = v66 at hr
                    have tv66 : v66.toInt = v63.toInt - v65.toInt := by rw [← ev66]; exact (isub_ (by omega))
                    obtain ⟨_, hr⟩ : ∃ m', yz m' d 221 208 lo64 [.inl (v6), .inl (v66), .inr (.inr (372))] h = some res := sil2 (k := 5) (by decide +kernel) g5_64 hr
                    obtain ⟨_, hr⟩ : ∃ m', yz m' d 221 209 lo64 [.inl (-(v6)), .inl (v66), .inr (.inr (372))] h = some res := sb1 (i := .ineg) (by decide +kernel) rfl rfl rfl hr
                    generalize ev67 : -(v6) = v67 at hr
                    have tv67 : v67.toInt = -v6.toInt := by rw [← ev67]; exact (ineg_ (by omega))
                    obtain ⟨_, hr⟩ : ∃ m', yz m' d 221 210 lo64 [.inr (.inr (374)), .inl (v67), .inl (v66), .inr (.inr (372))] h = some res := sal (k := 0) (by decide +kernel) g0_64 hr
                    obtain ⟨_, hr⟩ : ∃ m', yz m' d 221 213 lo64 [.inr (.inr (372)), .inl (v67), .inl (v66), .inr (.inr (372))] h = some res := sgr (idx := 22) (fi := 2) (b := 3) (by decide +kernel) (by decide +kernel) hr
                    obtain ⟨_, hr⟩ : ∃ m', yz m' d 221 214 lo64 [.inl (v63), .inr (.inr (372)), .inl (v67), .inl (v66), .inr (.inr (372))] h = some res := sil (k := 2) (by decide +kernel) g2_64 hr
                    obtain ⟨_, hr⟩ : ∃ m', yz m' d 221 215 lo64 [.inl (Int32.ofInt 1), .inl (v63), .inr (.inr (372)), .inl (v67), .inl (v66), .inr (.inr (372))] h = some res := sb1 (i := .iconst 1) (by decide +kernel) rfl rfl rfl hr
                    generalize ev68 : Int32.ofInt 1 = v68 at hr
                    have tv68 : v68.toInt = 1 := by rw [← ev68]; exact (by decide)
                    obtain ⟨_, hr⟩ : ∃ m', yz m' d 221 216 lo64 [.inl ((v63) - (v68)), .inr (.inr (372)), .inl (v67), .inl (v66), .inr (.inr (372))] h = some res := sb1 (i := .isub) (by decide +kernel) rfl rfl rfl hr
                    generalize ev69 : (v63) - (v68) = v69 at hr
                    have tv69 : v69.toInt = v63.toInt - v68.toInt := by rw [← ev69]; exact (isub_ (by omega))
                    obtain ⟨z69, _, hr⟩ : zin (v69) 64 = true ∧ ∃ m', yz m' d 221 217 lo64 [.inl (h.1 (372) (v69).toNatClampNeg), .inl (v67), .inl (v66), .inr (.inr (372))] h = some res := sia (q := []) (by decide +kernel) (by decide +kernel) hr
                    have z69 := zin_i z69
                    generalize ev71 : h.1 (372) (v69).toNatClampNeg = v71 at hr
                    obtain ⟨_, hr⟩ : ∃ m', yz m' d 221 218 lo64 [.inr (.inl ((v71).toInt64)), .inl (v67), .inl (v66), .inr (.inr (372))] h = some res := sb1 (i := .i2l) (by decide +kernel) rfl rfl rfl hr
                    generalize ev72 : (v71).toInt64 = v72 at hr
                    have tv72 : v72.toInt = v71.toInt := by rw [← ev72]; exact (i2l_)
                    obtain ⟨_, hr⟩ : ∃ m', yz m' d 221 219 lo64 [.inr (.inr (374)), .inr (.inl (v72)), .inl (v67), .inl (v66), .inr (.inr (372))] h = some res := sal (k := 0) (by decide +kernel) g0_64 hr
                    obtain ⟨_, hr⟩ : ∃ m', yz m' d 221 222 lo64 [.inr (.inr (372)), .inr (.inl (v72)), .inl (v67), .inl (v66), .inr (.inr (372))] h = some res := sgr (idx := 22) (fi := 2) (b := 3) (by decide +kernel) (by decide +kernel) hr
                    obtain ⟨_, hr⟩ : ∃ m', yz m' d 221 223 lo64 [.inl (v63), .inr (.inr (372)), .inr (.inl (v72)), .inl (v67), .inl (v66), .inr (.inr (372))] h = some res := sil (k := 2) (by decide +kernel) g2_64 hr
                    obtain ⟨z72, _, hr⟩ : zin (v63) 64 = true ∧ ∃ m', yz m' d 221 224 lo64 [.inl (h.1 (372) (v63).toNatClampNeg), .inr (.inl (v72)), .inl (v67), .inl (v66), .inr (.inr (372))] h = some res := sia (q := []) (by decide +kernel) (by decide +kernel) hr
                    have z72 := zin_i z72
                    generalize ev74 : h.1 (372) (v63).toNatClampNeg = v74 at hr
                    obtain ⟨_, hr⟩ : ∃ m', yz m' d 221 225 lo64 [.inr (.inl ((v74).toInt64)), .inr (.inl (v72)), .inl (v67), .inl (v66), .inr (.inr (372))] h = some res := sb1 (i := .i2l) (by decide +kernel) rfl rfl rfl hr
                    generalize ev75 : (v74).toInt64 = v75 at hr
                    have tv75 : v75.toInt = v74.toInt := by rw [← ev75]; exact (i2l_)
                    have ey : v71.toInt = y := by rw [← ev71, show v69.toNatClampNeg = r1.length from by rw [tcn]; omega]; exact hS4
                    have ex : v74.toInt = x := by rw [← ev74, show v63.toNatClampNeg = r1.length + 1 from by rw [tcn]; omega]; exact hS2
                    have ei : v66.toNatClampNeg = r1.length := by rw [tcn]; omega
                    have esg : v67.toInt = -s := by omega
                    obtain ⟨_, d_kr, r_kr, hkr, _, ed_kr, c_kr, hr⟩ := scl_ (i := .invokestatic 45) (callee := 219) (args := [.inl (v67), .inr (.inl (v72)), .inr (.inl (v75))]) (rest := [.inl (v66), .inr (.inr (372))]) (by decide +kernel) rfl hr
                    obtain ⟨q, eq0, tq⟩ := rn_reckon (by rw [esg]; exact hsg) (by omega) (by omega) c_kr
                    obtain ⟨rfl, ehq⟩ := Prod.mk.inj eq0
                    obtain rfl := ehq.symm
                    have hr : yz _ d 221 228 lo64 [.inr (.inl (q)), .inl (v66), .inr (.inr (372))] h = some res := hr
                    obtain ⟨_, d_kh, r_kh, hkh, _, ed_kh, c_kh, hr⟩ := scl_ (i := .invokestatic 49) (callee := 218) (args := [.inr (.inl (q))]) (rest := [.inl (v66), .inr (.inr (372))]) (by decide +kernel) rfl hr
                    obtain ⟨q2, eq2, tq2⟩ := rn_held c_kh
                    obtain ⟨rfl, ehq⟩ := Prod.mk.inj eq2
                    obtain rfl := ehq.symm
                    have hr : yz _ d 221 231 lo64 [.inl (q2), .inl (v66), .inr (.inr (372))] h = some res := hr
                    have e2 : q2.toInt = hld (rOp (-s) y x) := by rw [tq2, tq, esg, tv72, tv75, ey, ex]
                    have b2 := hld_b (rOp (-s) y x)
                    obtain ⟨zi, _, hr⟩ := sis (len := 64) (q := []) (by decide +kernel) (by decide +kernel) hr
                    obtain ⟨h5, eh5⟩ : ∃ x : zH, x = zs h (372) (v66).toNatClampNeg (q2) := ⟨_, rfl⟩
                    obtain ⟨_, hr⟩ : ∃ m', yz m' d 221 232 lo64 [] h5 = some res := by rw [eh5]; exact ⟨_, hr⟩
                    have zi := zin_i zi
                    obtain ⟨_, hr⟩ := sii (k := 4) (n := 1) (by decide +kernel) g4_64 hr
                    generalize ev77 : k + Int32.ofInt 1 = v77 at hr
                    have tv77 : v77.toInt = k.toInt + 1 := by rw [← ev77, iadd_ (by rw [show (Int32.ofInt 1).toInt = 1 from by decide]; omega)]; rfl
                    obtain ⟨lo78, elo78⟩ : ∃ l, l = zput1 lo64 4 (.inl (v77)) := ⟨_, rfl⟩
                    obtain ⟨_, hr⟩ : ∃ m', yz m' d 221 235 lo78 [] h5 = some res := by rw [elo78]; exact ⟨_, hr⟩
                    have g0_78 : zget lo78 0 = some (.inr (.inr (374))) := by rw [elo78]; exact zg_put (by decide) g0_64 rfl
                    have g1_78 : zget lo78 1 = some (.inr (.inr (cr))) := by rw [elo78]; exact zg_put (by decide) g1_64 rfl
                    have g2_78 : zget lo78 2 = some (.inl (v63)) := by rw [elo78]; exact zg_put (by decide) g2_64 rfl
                    have g3_78 : zget lo78 3 = some (.inl (sk)) := by rw [elo78]; exact zg_put (by decide) g3_64 rfl
                    have g5_78 : zget lo78 5 = some (.inl (v6)) := by rw [elo78]; exact zg_put (by decide) g5_64 rfl
                    have g4_78 : zget lo78 4 = some (.inl (v77)) := by rw [elo78]; exact zg_same
                    obtain ⟨_, hr⟩ : ∃ m', yz m' d 221 37 lo78 [] h5 = some res := sgob (off := (-198)) (by decide +kernel) (by decide) hr
                    obtain ⟨r, h9, q1, q2_, q3, q4, q5⟩ := rn_worth_l hcr hc2 hLb c _ lo78 v77 v63 sk false (hld (rOp (-s) y x) :: r1) h5 _ hTc (fun v hv => by rcases List.mem_cons.mp hv with y | y; rw [y]; exact b2; exact hVq v y) (by omega) (by rw [tv77, eh5]; exact aAt_zs kC (fun z => absurd z hc2)) (by rw [eh5, zs_o (by decide), zs_o (by decide)]; omega) (by omega) (fun j hj => by rw [eh5, zs_o (by decide)]; exact hL j hj) (aAt_rev.mpr ⟨by rw [eh5]; exact aAt_zs hS3 (fun _ j hj => by rw [ei]; rw [List.length_reverse] at hj; omega), by rw [eh5, ei, zs_s]; exact e2⟩) (by rw [List.length_cons]; omega) (by rw [List.length_cons]; omega) hsk g0_78 g1_78 g2_78 g3_78 g4_78 hr
                    refine ⟨r, h9, q1, ?_, fun a ha => by rw [q3 a ha, eh5]; funext i; exact zs_o ha, by rw [q4, eh5]; rfl, fun i hi => by rw [q5 i hi, eh5]; exact zs_i (by rw [tcn]; omega)⟩
                    rw [q2_]
                    refine ((eC _).mpr ?_).symm
                    rw [if_neg c3, if_neg c4, if_neg c5]
  termination_by c => c.length
/-- worth: of the law that holds -/
theorem rn_worth_z {loc : zL} (g0 : zget loc 0 = some (.inr (.inr 374))) {cr k : Nat} (hk : k < 4) (hcr : cr = 366 + k) {L : Nat → Int} (hLb : ∀ j, j < 6 → -1000000 ≤ L j ∧ L j ≤ 1000000) {c : List Int} (hT : ∀ s ∈ c, tkC s) (hh : (h.1 374 5).toInt = (k : Int)) (hn : (k : Int) < (h.1 374 4).toInt) (hC : aAt h cr 0 c) (hsz : (h.1 371 k).toInt = c.length) (hsz2 : c.length ≤ 242) (hL : ∀ j, j < 6 → (h.1 373 j).toInt = L j) (hr : yz m d 221 0 loc [] h = some res) : ∃ (r : Int32) (h' : zH), res = (some (.inl r), h') ∧ r.toInt = cMa L c false [] ∧ (∀ a, a ≠ 372 → h'.1 a = h.1 a) ∧ h'.2 = h.2 ∧ ∀ i, 64 ≤ i → h'.1 372 i = h.1 372 i := by
  obtain ⟨_, hr⟩ : ∃ m', yz m' d 221 1 loc [.inr (.inr (374))] h = some res := sal (k := 0) (by decide +kernel) g0 hr
  obtain ⟨_, hr⟩ : ∃ m', yz m' d 221 4 loc [.inl (h.1 374 5)] h = some res := sgf (idx := 32) (b := 0) (by decide +kernel) (by decide +kernel) hr
  generalize ev1 : h.1 374 5 = v1 at hr
  have ehv : v1.toInt = (k : Int) := by rw [← ev1]; exact hh
  obtain ⟨_, hr⟩ : ∃ m', yz m' d 221 7 loc [] h = some res := si1f (off := 14) (by decide +kernel) (by decide) (fun e => absurd (k1_lt.mp e) (by omega)) hr
  obtain ⟨_, hr⟩ : ∃ m', yz m' d 221 8 loc [.inr (.inr (374))] h = some res := sal (k := 0) (by decide +kernel) g0 hr
  obtain ⟨_, hr⟩ : ∃ m', yz m' d 221 11 loc [.inl (h.1 374 5)] h = some res := sgf (idx := 32) (b := 0) (by decide +kernel) (by decide +kernel) hr
  generalize ev2 : h.1 374 5 = v2 at hr
  have eh2 : v2.toInt = (k : Int) := by rw [← ev2]; exact hh
  obtain ⟨_, hr⟩ : ∃ m', yz m' d 221 12 loc [.inr (.inr (374)), .inl (v2)] h = some res := sal (k := 0) (by decide +kernel) g0 hr
  obtain ⟨_, hr⟩ : ∃ m', yz m' d 221 15 loc [.inl (h.1 374 4), .inl (v2)] h = some res := sgf (idx := 28) (b := 0) (by decide +kernel) (by decide +kernel) hr
  generalize ev3 : h.1 374 4 = v3 at hr
  have en2 : (k : Int) < v3.toInt := by rw [← ev3]; exact hn
  obtain ⟨_, hr⟩ : ∃ m', yz m' d 221 20 loc [] h = some res := si2t (off := 5) (by decide +kernel) (by decide) (k2h_lt.mpr (by omega)) hr
  obtain ⟨_, hr⟩ : ∃ m', yz m' d 221 21 loc [.inr (.inr (374))] h = some res := sal (k := 0) (by decide +kernel) g0 hr
  obtain ⟨_, hr⟩ : ∃ m', yz m' d 221 24 loc [.inr (.inr (370))] h = some res := sgr (idx := 13) (fi := 0) (b := 3) (by decide +kernel) (by decide +kernel) hr
  obtain ⟨_, hr⟩ : ∃ m', yz m' d 221 25 loc [.inr (.inr (374)), .inr (.inr (370))] h = some res := sal (k := 0) (by decide +kernel) g0 hr
  obtain ⟨_, hr⟩ : ∃ m', yz m' d 221 28 loc [.inl (h.1 374 5), .inr (.inr (370))] h = some res := sgf (idx := 32) (b := 0) (by decide +kernel) (by decide +kernel) hr
  generalize ev4 : h.1 374 5 = v4 at hr
  have eh3 : v4.toInt = (k : Int) := by rw [← ev4]; exact hh
  have hq : [366, 367, 368, 369][v4.toNatClampNeg]? = some cr := by
    rw [tcn, eh3, hcr]
    rcases (by omega : k = 0 ∨ k = 1 ∨ k = 2 ∨ k = 3) with rfl | rfl | rfl | rfl <;> rfl
  have hz3 : zin v4 4 = true := decide_eq_true ⟨by omega, by omega⟩
  obtain ⟨_, hr⟩ : ∃ m', yz m' d 221 29 loc [.inr (.inr (cr))] h = some res := saa (z := cr) (by decide +kernel) (yE1_eq (b := .inr (3, 4, [366, 367, 368, 369])) (by decide +kernel)) (Or.inr rfl) hz3 hq hr
  obtain ⟨_, hr⟩ := sas_ (k := 1) (by decide +kernel) hr
  obtain ⟨lo5, elo5⟩ : ∃ l, l = zput1 loc 1 (.inr (.inr (cr))) := ⟨_, rfl⟩
  obtain ⟨_, hr⟩ : ∃ m', yz m' d 221 30 lo5 [] h = some res := by rw [elo5]; exact ⟨_, hr⟩
  have g0_5 : zget lo5 0 = some (.inr (.inr (374))) := by rw [elo5]; exact zg_put (by decide) g0 rfl
  have g1_5 : zget lo5 1 = some (.inr (.inr (cr))) := by rw [elo5]; exact zg_same
  obtain ⟨_, hr⟩ : ∃ m', yz m' d 221 31 lo5 [.inl (Int32.ofInt 0)] h = some res := sb1 (i := .iconst 0) (by decide +kernel) rfl rfl rfl hr
  generalize ev6 : Int32.ofInt 0 = v6 at hr
  have tv6 : v6.toInt = 0 := by rw [← ev6]; exact (by decide)
  obtain ⟨_, hr⟩ := ssth (k := 2) (by decide +kernel) hr
  obtain ⟨lo7, elo7⟩ : ∃ l, l = zput1 lo5 2 (.inl (v6)) := ⟨_, rfl⟩
  obtain ⟨_, hr⟩ : ∃ m', yz m' d 221 32 lo7 [] h = some res := by rw [elo7]; exact ⟨_, hr⟩
  have g0_7 : zget lo7 0 = some (.inr (.inr (374))) := by rw [elo7]; exact zg_put (by decide) g0_5 rfl
  have g1_7 : zget lo7 1 = some (.inr (.inr (cr))) := by rw [elo7]; exact zg_put (by decide) g1_5 rfl
  have g2_7 : zget lo7 2 = some (.inl (v6)) := by rw [elo7]; exact zg_same
  obtain ⟨_, hr⟩ : ∃ m', yz m' d 221 33 lo7 [.inl (Int32.ofInt 0)] h = some res := sb1 (i := .iconst 0) (by decide +kernel) rfl rfl rfl hr
  generalize ev8 : Int32.ofInt 0 = v8 at hr
  have tv8 : v8.toInt = 0 := by rw [← ev8]; exact (by decide)
  obtain ⟨_, hr⟩ := ssth (k := 3) (by decide +kernel) hr
  obtain ⟨lo9, elo9⟩ : ∃ l, l = zput1 lo7 3 (.inl (v8)) := ⟨_, rfl⟩
  obtain ⟨_, hr⟩ : ∃ m', yz m' d 221 34 lo9 [] h = some res := by rw [elo9]; exact ⟨_, hr⟩
  have g0_9 : zget lo9 0 = some (.inr (.inr (374))) := by rw [elo9]; exact zg_put (by decide) g0_7 rfl
  have g1_9 : zget lo9 1 = some (.inr (.inr (cr))) := by rw [elo9]; exact zg_put (by decide) g1_7 rfl
  have g2_9 : zget lo9 2 = some (.inl (v6)) := by rw [elo9]; exact zg_put (by decide) g2_7 rfl
  have g3_9 : zget lo9 3 = some (.inl (v8)) := by rw [elo9]; exact zg_same
  obtain ⟨_, hr⟩ : ∃ m', yz m' d 221 35 lo9 [.inl (Int32.ofInt 0)] h = some res := sb1 (i := .iconst 0) (by decide +kernel) rfl rfl rfl hr
  generalize ev10 : Int32.ofInt 0 = v10 at hr
  have tv10 : v10.toInt = 0 := by rw [← ev10]; exact (by decide)
  obtain ⟨_, hr⟩ := sst2 (k := 4) (by decide +kernel) hr
  obtain ⟨lo11, elo11⟩ : ∃ l, l = zput1 lo9 4 (.inl (v10)) := ⟨_, rfl⟩
  obtain ⟨_, hr⟩ : ∃ m', yz m' d 221 37 lo11 [] h = some res := by rw [elo11]; exact ⟨_, hr⟩
  have g0_11 : zget lo11 0 = some (.inr (.inr (374))) := by rw [elo11]; exact zg_put (by decide) g0_9 rfl
  have g1_11 : zget lo11 1 = some (.inr (.inr (cr))) := by rw [elo11]; exact zg_put (by decide) g1_9 rfl
  have g2_11 : zget lo11 2 = some (.inl (v6)) := by rw [elo11]; exact zg_put (by decide) g2_9 rfl
  have g3_11 : zget lo11 3 = some (.inl (v8)) := by rw [elo11]; exact zg_put (by decide) g3_9 rfl
  have g4_11 : zget lo11 4 = some (.inl (v10)) := by rw [elo11]; exact zg_same
  have ht : yTab cr = .inr (0, 242, []) := by
    rw [hcr]
    rcases (by omega : k = 0 ∨ k = 1 ∨ k = 2 ∨ k = 3) with rfl | rfl | rfl | rfl <;> exact yE1_eq (by decide +kernel)
  exact rn_worth_l ht (by omega) hLb c _ lo11 v10 v6 v8 false [] h _ hT (fun v hv => by cases hv) (by omega) (by rw [tv10]; exact hC) (by rw [hh, Int.toNat_natCast]; omega) (by omega) hL (fun j v hj => by cases hj) (by rw [tv6]; rfl) (by decide) (by rw [tv8]; rfl) g0_11 g1_11 g2_11 g3_11 g4_11 hr
end WRU
