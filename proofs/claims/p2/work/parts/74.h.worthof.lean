/-! a law's worth, by hand: the reference's clauses -/
section WRN
variable {m d : Nat} {h : zH} {res : Option zV × zH}
theorem rn_workOut {L : Nat → Int} (hLb : ∀ j, j < 6 → -1000000 ≤ L j ∧ L j ≤ 1000000) {l : List Int} {n fr to : Int32} {N A : Nat} (hT : ∀ s ∈ l, tkE s) (hn : n.toInt = (N : Int)) (hN : N ≤ 4) (hf : fr.toInt = (A : Int)) (ht : to.toInt = (A : Int) + l.length) (hA : A + l.length ≤ 242) (hC : mAt h (520 * N + A) l) (hL : ∀ j, j < 6 → (h.1 415 j).toInt = L j) (hr : yrun m d 206 [.inr (.inr 440), .inl n, .inl fr, .inl to] h = some res) : ∃ (r : Int32) (h' : zH), res = (some (.inl r), h') ∧ (∀ v, wEx L l [] = [v] → r.toInt = v) ∧ (∀ a, a ≠ 416 → h'.1 a = h.1 a) ∧ h'.2 = h.2 ∧ ∀ i, 80 ≤ i → h'.1 416 i = h.1 416 i := by
  have hr : yz m d 206 0 (zent 0 [.inr (.inr (440)), .inl (n), .inl (fr), .inl (to)]) [] h = some res := hr
  have g0 : zget (zent 0 [.inr (.inr (440)), .inl (n), .inl (fr), .inl (to)]) 0 = some (.inr (.inr (440))) := rfl
  have g1 : zget (zent 0 [.inr (.inr (440)), .inl (n), .inl (fr), .inl (to)]) 1 = some (.inl (n)) := rfl
  have g2 : zget (zent 0 [.inr (.inr (440)), .inl (n), .inl (fr), .inl (to)]) 2 = some (.inl (fr)) := rfl
  have g3 : zget (zent 0 [.inr (.inr (440)), .inl (n), .inl (fr), .inl (to)]) 3 = some (.inl (to)) := rfl
  generalize zent 0 [.inr (.inr (440)), .inl (n), .inl (fr), .inl (to)] = loc at hr g0 g1 g2 g3
  obtain ⟨_, hr⟩ : ∃ m', yz m' d 206 1 loc [.inl (Int32.ofInt 0)] h = some res := sb1 (i := .iconst 0) (by decide +kernel) rfl rfl rfl hr
  generalize ev1 : Int32.ofInt 0 = v1 at hr
  have tv1 : v1.toInt = 0 := by rw [← ev1]; exact (by decide)
  obtain ⟨_, hr⟩ := sst2 (k := 4) (by decide +kernel) hr
  obtain ⟨lo2, elo2⟩ : ∃ l, l = zput1 loc 4 (.inl (v1)) := ⟨_, rfl⟩
  obtain ⟨_, hr⟩ : ∃ m', yz m' d 206 3 lo2 [] h = some res := by rw [elo2]; exact ⟨_, hr⟩
  have g0_2 : zget lo2 0 = some (.inr (.inr (440))) := by rw [elo2]; exact zg_put (by decide) g0 rfl
  have g1_2 : zget lo2 1 = some (.inl (n)) := by rw [elo2]; exact zg_put (by decide) g1 rfl
  have g2_2 : zget lo2 2 = some (.inl (fr)) := by rw [elo2]; exact zg_put (by decide) g2 rfl
  have g3_2 : zget lo2 3 = some (.inl (to)) := by rw [elo2]; exact zg_put (by decide) g3 rfl
  have g4_2 : zget lo2 4 = some (.inl (v1)) := by rw [elo2]; exact zg_same
  obtain ⟨_, hr⟩ : ∃ m', yz m' d 206 6 lo2 [.inl ((Int16.ofInt 520).toInt32)] h = some res := sb1 (i := .sipush 520) (by decide +kernel) rfl rfl rfl hr
  generalize ev3 : (Int16.ofInt 520).toInt32 = v3 at hr
  have tv3 : v3.toInt = 520 := by rw [← ev3]; exact (by decide)
  obtain ⟨_, hr⟩ : ∃ m', yz m' d 206 7 lo2 [.inl (n), .inl (v3)] h = some res := sil (k := 1) (by decide +kernel) g1_2 hr
  obtain ⟨_, hr⟩ : ∃ m', yz m' d 206 8 lo2 [.inl ((v3) * (n))] h = some res := sb1 (i := .imul) (by decide +kernel) rfl rfl rfl hr
  generalize ev4 : (v3) * (n) = v4 at hr
  have tv4 : v4.toInt = v3.toInt * n.toInt := by rw [← ev4]; exact (imul_ (by rw [tv3]; omega))
  rw [tv3] at tv4
  obtain ⟨_, hr⟩ : ∃ m', yz m' d 206 9 lo2 [.inl (fr), .inl (v4)] h = some res := sil (k := 2) (by decide +kernel) g2_2 hr
  obtain ⟨_, hr⟩ : ∃ m', yz m' d 206 10 lo2 [.inl ((v4) + (fr))] h = some res := sb1 (i := .iadd) (by decide +kernel) rfl rfl rfl hr
  generalize ev5 : (v4) + (fr) = v5 at hr
  have tv5 : v5.toInt = v4.toInt + fr.toInt := by rw [← ev5]; exact (iadd_ (by omega))
  obtain ⟨_, hr⟩ := sst2 (k := 5) (by decide +kernel) hr
  obtain ⟨lo6, elo6⟩ : ∃ l, l = zput1 lo2 5 (.inl (v5)) := ⟨_, rfl⟩
  obtain ⟨_, hr⟩ : ∃ m', yz m' d 206 12 lo6 [] h = some res := by rw [elo6]; exact ⟨_, hr⟩
  have g0_6 : zget lo6 0 = some (.inr (.inr (440))) := by rw [elo6]; exact zg_put (by decide) g0_2 rfl
  have g1_6 : zget lo6 1 = some (.inl (n)) := by rw [elo6]; exact zg_put (by decide) g1_2 rfl
  have g2_6 : zget lo6 2 = some (.inl (fr)) := by rw [elo6]; exact zg_put (by decide) g2_2 rfl
  have g3_6 : zget lo6 3 = some (.inl (to)) := by rw [elo6]; exact zg_put (by decide) g3_2 rfl
  have g4_6 : zget lo6 4 = some (.inl (v1)) := by rw [elo6]; exact zg_put (by decide) g4_2 rfl
  have g5_6 : zget lo6 5 = some (.inl (v5)) := by rw [elo6]; exact zg_same
  obtain ⟨r, h9, q1, q2, q3, q4, q5⟩ := rn_workOut_l hLb l _ lo6 n fr to v1 v5 [] h _ hT (fun v hv => by cases hv) (by omega) (by omega) (by omega) (by rw [show v5.toInt.toNat = 520 * N + A by omega]; exact hC) (by omega) hL (fun j v hj => by cases hj) (by rw [tv1]; rfl) g0_6 g1_6 g2_6 g3_6 g4_6 g5_6 hr
  exact ⟨r, h9, q1, fun v hv => q2 v (by rw [hv]; rfl), q3, q4, q5⟩
noncomputable def bt (L : Nat → Int) (l : List Int) : Int := match wEx L l [] with
  | [v] => v
  | _ => 0
theorem bt_e {L : Nat → Int} {l : List Int} {v : Int} (h : wEx L l [] = [v]) : bt L l = v := by
  unfold bt
  rw [h]
noncomputable def mMa (L : Nat → Int) : List (List Int × List Int) → Int
  | [] => 0
  | (t, s) :: r => if t = [] ∨ bt L t ≠ 0 then bt L s else mMa L r
/-- a clause that can be worked out -/
noncomputable def cOk (L : Nat → Int) (z : List Int × List Int) : Prop := (∀ s ∈ z.1, tkE s) ∧ (∀ s ∈ z.2, tkE s) ∧ (z.1 = [] ∨ ∃ v, wEx L z.1 [] = [v]) ∧ ∃ v, wEx L z.2 [] = [v]
noncomputable def clAt (h : zH) (n : Nat) : Nat → List (List Int × List Int) → Prop
  | _, [] => True
  | i, (t, s) :: r => (∃ a : Nat, (h.1 412 (140 * n + i)).toInt = (a : Int) ∧ (h.1 413 (140 * n + i)).toInt = ((a + t.length : Nat) : Int) ∧ (h.1 414 (140 * n + i)).toInt = ((a + t.length + s.length : Nat) : Int) ∧ a + t.length + s.length ≤ 242 ∧ mAt h (520 * n + a) t ∧ mAt h (520 * n + (a + t.length)) s) ∧ clAt h n (i + 1) r
theorem clAt_c {h h' : zH} {n : Nat} (e : ∀ a, a ≠ 416 → h'.1 a = h.1 a) : ∀ {l : List (List Int × List Int)} {i : Nat}, clAt h n i l → clAt h' n i l
  | [], _, _ => trivial
  | (t, s) :: r, i, ⟨⟨a, e1, e2, e3, e4, e5, e6⟩, k⟩ => ⟨⟨a, by rw [e 412 (by decide)]; exact e1, by rw [e 413 (by decide)]; exact e2, by rw [e 414 (by decide)]; exact e3, e4, fun j v hj => by rw [e 408 (by decide), e 409 (by decide)]; exact e5 j v hj, fun j v hj => by rw [e 408 (by decide), e 409 (by decide)]; exact e6 j v hj⟩, clAt_c e k⟩
theorem rn_worthOf_l {L : Nat → Int} (hLb : ∀ j, j < 6 → -1000000 ≤ L j ∧ L j ≤ 1000000) {N : Nat} (hN : N ≤ 4) : ∀ (cl : List (List Int × List Int)) (m : Nat) (loc : zL) (n k : Int32) (i : Nat) (h : zH) (res : Option zV × zH), (∀ z ∈ cl, cOk L z) → n.toInt = (N : Int) → k.toInt = 140 * (N : Int) + (i : Int) → i + cl.length ≤ 140 → (h.1 411 N).toInt = (i : Int) + cl.length → clAt h N i cl → (∀ j, j < 6 → (h.1 415 j).toInt = L j) → zget loc 0 = some (.inr (.inr 440)) → zget loc 1 = some (.inl n) → zget loc 2 = some (.inl k) → yz m d 208 6 loc [] h = some res → ∃ (r : Int32) (h' : zH), res = (some (.inl r), h') ∧ r.toInt = mMa L cl ∧ (∀ a, a ≠ 416 → h'.1 a = h.1 a) ∧ h'.2 = h.2 ∧ ∀ i, 80 ≤ i → h'.1 416 i = h.1 416 i
  | cl, m, loc, n, k, i, h, res, hO, hn, hk, hi, hcl, hA, hL, g0, g1, g2, hr => by
    obtain ⟨_, hr⟩ : ∃ m', yz m' d 208 7 loc [.inl (k)] h = some res := sil (k := 2) (by decide +kernel) g2 hr
    obtain ⟨_, hr⟩ : ∃ m', yz m' d 208 10 loc [.inl ((Int16.ofInt 140).toInt32), .inl (k)] h = some res := sb1 (i := .sipush 140) (by decide +kernel) rfl rfl rfl hr
    generalize ev1 : (Int16.ofInt 140).toInt32 = v1 at hr
    have tv1 : v1.toInt = 140 := by rw [← ev1]; exact (by decide)
    obtain ⟨_, hr⟩ : ∃ m', yz m' d 208 11 loc [.inl (n), .inl (v1), .inl (k)] h = some res := sil (k := 1) (by decide +kernel) g1 hr
    obtain ⟨_, hr⟩ : ∃ m', yz m' d 208 12 loc [.inl ((v1) * (n)), .inl (k)] h = some res := sb1 (i := .imul) (by decide +kernel) rfl rfl rfl hr
    generalize ev2 : (v1) * (n) = v2 at hr
    have tv2 : v2.toInt = v1.toInt * n.toInt := by rw [← ev2]; exact (imul_ (by rw [tv1]; omega))
    rw [tv1] at tv2
    obtain ⟨_, hr⟩ : ∃ m', yz m' d 208 13 loc [.inr (.inr (440)), .inl (v2), .inl (k)] h = some res := sal (k := 0) (by decide +kernel) g0 hr
    obtain ⟨_, hr⟩ : ∃ m', yz m' d 208 16 loc [.inr (.inr (411)), .inl (v2), .inl (k)] h = some res := sgr (idx := 22) (fi := 9) (b := 3) (by decide +kernel) (by decide +kernel) hr
    obtain ⟨_, hr⟩ : ∃ m', yz m' d 208 17 loc [.inl (n), .inr (.inr (411)), .inl (v2), .inl (k)] h = some res := sil (k := 1) (by decide +kernel) g1 hr
    obtain ⟨z2, _, hr⟩ : zin (n) 5 = true ∧ ∃ m', yz m' d 208 18 loc [.inl (h.1 (411) (n).toNatClampNeg), .inl (v2), .inl (k)] h = some res := sia (q := []) (by decide +kernel) (by decide +kernel) hr
    have z2 := zin_i z2
    generalize ev4 : h.1 (411) (n).toNatClampNeg = v4 at hr
    have ecc : v4.toInt = (i : Int) + cl.length := by rw [← ev4, show n.toNatClampNeg = N from by rw [tcn]; omega]; exact hcl
    obtain ⟨_, hr⟩ : ∃ m', yz m' d 208 19 loc [.inl ((v2) + (v4)), .inl (k)] h = some res := sb1 (i := .iadd) (by decide +kernel) rfl rfl rfl hr
    generalize ev5 : (v2) + (v4) = v5 at hr
    have tv5 : v5.toInt = v2.toInt + v4.toInt := by rw [← ev5]; exact (iadd_ (by omega))
    match cl, hO, hi, hcl, hA, ecc with
    | [], hO, hi, hcl, hA, ecc =>
      have ecc : v4.toInt = (i : Int) + 0 := ecc
      obtain ⟨_, hr⟩ : ∃ m', yz m' d 208 81 loc [] h = some res := si2t (off := 62) (by decide +kernel) (by decide) (k2_ge.mpr (by omega)) hr
      obtain ⟨_, hr⟩ : ∃ m', yz m' d 208 82 loc [.inl (Int32.ofInt 0)] h = some res := sb1 (i := .iconst 0) (by decide +kernel) rfl rfl rfl hr
      generalize ev6 : Int32.ofInt 0 = v6 at hr
      have tv6 : v6.toInt = 0 := by rw [← ev6]; exact (by decide)
      have hr := senh (i := .ireturn) (r := some (.inl (v6))) (by decide +kernel) rfl rfl hr
      exact ⟨_, _, hr, tv6, fun _ _ => rfl, rfl, fun _ _ => rfl⟩
    | (t, s) :: cl, hO, hi, hcl, hA, ecc =>
      rw [List.length_cons] at hi hcl ecc
      obtain ⟨_, hr⟩ : ∃ m', yz m' d 208 22 loc [] h = some res := si2f (off := 62) (by decide +kernel) (by decide) (fun e => absurd (k2_ge.mp e) (by omega)) hr
      obtain ⟨⟨a, a1, a2, a3, a4, a5, a6⟩, hA2⟩ := hA
      obtain ⟨o1, o2, o3, v2, o4⟩ := hO (t, s) (List.mem_cons_self ..)
      have ekn : k.toNatClampNeg = 140 * N + i := by rw [tcn]; omega
      obtain ⟨_, hr⟩ : ∃ m', yz m' d 208 23 loc [.inr (.inr (440))] h = some res := sal (k := 0) (by decide +kernel) g0 hr
      obtain ⟨_, hr⟩ : ∃ m', yz m' d 208 26 loc [.inr (.inr (412))] h = some res := sgr (idx := 25) (fi := 10) (b := 3) (by decide +kernel) (by decide +kernel) hr
      obtain ⟨_, hr⟩ : ∃ m', yz m' d 208 27 loc [.inl (k), .inr (.inr (412))] h = some res := sil (k := 2) (by decide +kernel) g2 hr
      obtain ⟨z6, _, hr⟩ : zin (k) 700 = true ∧ ∃ m', yz m' d 208 28 loc [.inl (h.1 (412) (k).toNatClampNeg)] h = some res := sia (q := []) (by decide +kernel) (by decide +kernel) hr
      have z6 := zin_i z6
      generalize ev8 : h.1 (412) (k).toNatClampNeg = v8 at hr
      have cv8 : v8.toInt = (a : Int) := by rw [← ev8, ekn]; exact a1
      obtain ⟨_, hr⟩ : ∃ m', yz m' d 208 29 loc [.inr (.inr (440)), .inl (v8)] h = some res := sal (k := 0) (by decide +kernel) g0 hr
      obtain ⟨_, hr⟩ : ∃ m', yz m' d 208 32 loc [.inr (.inr (413)), .inl (v8)] h = some res := sgr (idx := 28) (fi := 11) (b := 3) (by decide +kernel) (by decide +kernel) hr
      obtain ⟨_, hr⟩ : ∃ m', yz m' d 208 33 loc [.inl (k), .inr (.inr (413)), .inl (v8)] h = some res := sil (k := 2) (by decide +kernel) g2 hr
      obtain ⟨z8, _, hr⟩ : zin (k) 700 = true ∧ ∃ m', yz m' d 208 34 loc [.inl (h.1 (413) (k).toNatClampNeg), .inl (v8)] h = some res := sia (q := []) (by decide +kernel) (by decide +kernel) hr
      have z8 := zin_i z8
      generalize ev10 : h.1 (413) (k).toNatClampNeg = v10 at hr
      have cv10 : v10.toInt = ((a + t.length : Nat) : Int) := by rw [← ev10, ekn]; exact a2
      by_cases c1 : t = []
      · have tl : t.length = 0 := by rw [c1]; rfl
        obtain ⟨_, hr⟩ : ∃ m', yz m' d 208 57 loc [] h = some res := si2t (off := 23) (by decide +kernel) (by decide) (k2_eq.mpr (by omega)) hr
        obtain ⟨_, hr⟩ : ∃ m', yz m' d 208 58 loc [.inr (.inr (440))] h = some res := sal (k := 0) (by decide +kernel) g0 hr
        obtain ⟨_, hr⟩ : ∃ m', yz m' d 208 59 loc [.inl (n), .inr (.inr (440))] h = some res := sil (k := 1) (by decide +kernel) g1 hr
        obtain ⟨_, hr⟩ : ∃ m', yz m' d 208 60 loc [.inr (.inr (440)), .inl (n), .inr (.inr (440))] h = some res := sal (k := 0) (by decide +kernel) g0 hr
        obtain ⟨_, hr⟩ : ∃ m', yz m' d 208 63 loc [.inr (.inr (413)), .inl (n), .inr (.inr (440))] h = some res := sgr (idx := 28) (fi := 11) (b := 3) (by decide +kernel) (by decide +kernel) hr
        obtain ⟨_, hr⟩ : ∃ m', yz m' d 208 64 loc [.inl (k), .inr (.inr (413)), .inl (n), .inr (.inr (440))] h = some res := sil (k := 2) (by decide +kernel) g2 hr
        obtain ⟨z10, _, hr⟩ : zin (k) 700 = true ∧ ∃ m', yz m' d 208 65 loc [.inl (h.1 (413) (k).toNatClampNeg), .inl (n), .inr (.inr (440))] h = some res := sia (q := []) (by decide +kernel) (by decide +kernel) hr
        have z10 := zin_i z10
        generalize ev12 : h.1 (413) (k).toNatClampNeg = v12 at hr
        have cv12 : v12.toInt = ((a + t.length : Nat) : Int) := by rw [← ev12, ekn]; exact a2
        obtain ⟨_, hr⟩ : ∃ m', yz m' d 208 66 loc [.inr (.inr (440)), .inl (v12), .inl (n), .inr (.inr (440))] h = some res := sal (k := 0) (by decide +kernel) g0 hr
        obtain ⟨_, hr⟩ : ∃ m', yz m' d 208 69 loc [.inr (.inr (414)), .inl (v12), .inl (n), .inr (.inr (440))] h = some res := sgr (idx := 31) (fi := 12) (b := 3) (by decide +kernel) (by decide +kernel) hr
        obtain ⟨_, hr⟩ : ∃ m', yz m' d 208 70 loc [.inl (k), .inr (.inr (414)), .inl (v12), .inl (n), .inr (.inr (440))] h = some res := sil (k := 2) (by decide +kernel) g2 hr
        obtain ⟨z12, _, hr⟩ : zin (k) 700 = true ∧ ∃ m', yz m' d 208 71 loc [.inl (h.1 (414) (k).toNatClampNeg), .inl (v12), .inl (n), .inr (.inr (440))] h = some res := sia (q := []) (by decide +kernel) (by decide +kernel) hr
        have z12 := zin_i z12
        generalize ev14 : h.1 (414) (k).toNatClampNeg = v14 at hr
        have cv14 : v14.toInt = ((a + t.length + s.length : Nat) : Int) := by rw [← ev14, ekn]; exact a3
        obtain ⟨_, d_kw, r_kw, hkw, _, ed_kw, c_kw, hr⟩ := scl_ (i := .invokevirtual 225) (callee := 206) (args := [.inr (.inr (440)), .inl (n), .inl (v12), .inl (v14)]) (rest := []) (by decide +kernel) rfl hr
        obtain ⟨q, h5, eq0, tq, f5, f6, f9⟩ := rn_workOut (l := s) hLb o2 hn hN (A := a + t.length) (by assumption) (by omega) a4 a6 hL c_kw
        obtain ⟨rfl, rfl⟩ := Prod.mk.inj eq0
        have hr : yz _ d 208 74 loc [.inl (q)] hkw = some res := hr
        have hr := senh (i := .ireturn) (r := some (.inl (q))) (by decide +kernel) rfl rfl hr
        refine ⟨_, _, hr, ?_, f5, f6, f9⟩
        rw [tq v2 o4]
        show v2 = if t = [] ∨ bt L t ≠ 0 then bt L s else mMa L cl
        rw [if_pos (Or.inl c1), bt_e o4]
      · have tl : 0 < t.length := List.length_pos_iff.mpr c1
        obtain ⟨v1, o5⟩ := o3.resolve_left c1
        obtain ⟨_, hr⟩ : ∃ m', yz m' d 208 37 loc [] h = some res := si2f (off := 23) (by decide +kernel) (by decide) (fun e => absurd (k2_eq.mp e) (by omega)) hr
        obtain ⟨_, hr⟩ : ∃ m', yz m' d 208 38 loc [.inr (.inr (440))] h = some res := sal (k := 0) (by decide +kernel) g0 hr
        obtain ⟨_, hr⟩ : ∃ m', yz m' d 208 39 loc [.inl (n), .inr (.inr (440))] h = some res := sil (k := 1) (by decide +kernel) g1 hr
        obtain ⟨_, hr⟩ : ∃ m', yz m' d 208 40 loc [.inr (.inr (440)), .inl (n), .inr (.inr (440))] h = some res := sal (k := 0) (by decide +kernel) g0 hr
        obtain ⟨_, hr⟩ : ∃ m', yz m' d 208 43 loc [.inr (.inr (412)), .inl (n), .inr (.inr (440))] h = some res := sgr (idx := 25) (fi := 10) (b := 3) (by decide +kernel) (by decide +kernel) hr
        obtain ⟨_, hr⟩ : ∃ m', yz m' d 208 44 loc [.inl (k), .inr (.inr (412)), .inl (n), .inr (.inr (440))] h = some res := sil (k := 2) (by decide +kernel) g2 hr
        obtain ⟨z14, _, hr⟩ : zin (k) 700 = true ∧ ∃ m', yz m' d 208 45 loc [.inl (h.1 (412) (k).toNatClampNeg), .inl (n), .inr (.inr (440))] h = some res := sia (q := []) (by decide +kernel) (by decide +kernel) hr
        have z14 := zin_i z14
        generalize ev16 : h.1 (412) (k).toNatClampNeg = v16 at hr
        have cv16 : v16.toInt = (a : Int) := by rw [← ev16, ekn]; exact a1
        obtain ⟨_, hr⟩ : ∃ m', yz m' d 208 46 loc [.inr (.inr (440)), .inl (v16), .inl (n), .inr (.inr (440))] h = some res := sal (k := 0) (by decide +kernel) g0 hr
        obtain ⟨_, hr⟩ : ∃ m', yz m' d 208 49 loc [.inr (.inr (413)), .inl (v16), .inl (n), .inr (.inr (440))] h = some res := sgr (idx := 28) (fi := 11) (b := 3) (by decide +kernel) (by decide +kernel) hr
        obtain ⟨_, hr⟩ : ∃ m', yz m' d 208 50 loc [.inl (k), .inr (.inr (413)), .inl (v16), .inl (n), .inr (.inr (440))] h = some res := sil (k := 2) (by decide +kernel) g2 hr
        obtain ⟨z16, _, hr⟩ : zin (k) 700 = true ∧ ∃ m', yz m' d 208 51 loc [.inl (h.1 (413) (k).toNatClampNeg), .inl (v16), .inl (n), .inr (.inr (440))] h = some res := sia (q := []) (by decide +kernel) (by decide +kernel) hr
        have z16 := zin_i z16
        generalize ev18 : h.1 (413) (k).toNatClampNeg = v18 at hr
        have cv18 : v18.toInt = ((a + t.length : Nat) : Int) := by rw [← ev18, ekn]; exact a2
        obtain ⟨_, d_k1, r_k1, hk1, _, ed_k1, c_k1, hr⟩ := scl_ (i := .invokevirtual 225) (callee := 206) (args := [.inr (.inr (440)), .inl (n), .inl (v16), .inl (v18)]) (rest := []) (by decide +kernel) rfl hr
        obtain ⟨q, h5, eq0, tq, f5, f6, f9⟩ := rn_workOut (l := t) hLb o1 hn hN (A := a) (by assumption) (by omega) (by omega) a5 hL c_k1
        obtain ⟨rfl, rfl⟩ := Prod.mk.inj eq0
        have hr : yz _ d 208 54 loc [.inl (q)] hk1 = some res := hr
        have tq := tq v1 o5
        by_cases c2 : v1 = 0
        · skip
          obtain ⟨_, hr⟩ : ∃ m', yz m' d 208 75 loc [] hk1 = some res := si1t (off := 21) (by decide +kernel) (by decide) (k1_eq.mpr (by omega)) hr
          obtain ⟨_, hr⟩ := sii (k := 2) (n := 1) (by decide +kernel) g2 hr
          generalize ev19 : k + Int32.ofInt 1 = v19 at hr
          have tv19 : v19.toInt = k.toInt + 1 := by rw [← ev19, iadd_ (by rw [show (Int32.ofInt 1).toInt = 1 from by decide]; omega)]; rfl
          obtain ⟨lo20, elo20⟩ : ∃ l, l = zput1 loc 2 (.inl (v19)) := ⟨_, rfl⟩
          obtain ⟨_, hr⟩ : ∃ m', yz m' d 208 78 lo20 [] hk1 = some res := by rw [elo20]; exact ⟨_, hr⟩
          have g0_20 : zget lo20 0 = some (.inr (.inr (440))) := by rw [elo20]; exact zg_put (by decide) g0 rfl
          have g1_20 : zget lo20 1 = some (.inl (n)) := by rw [elo20]; exact zg_put (by decide) g1 rfl
          have g2_20 : zget lo20 2 = some (.inl (v19)) := by rw [elo20]; exact zg_same
          obtain ⟨_, hr⟩ : ∃ m', yz m' d 208 6 lo20 [] hk1 = some res := sgob (off := (-72)) (by decide +kernel) (by decide) hr
          obtain ⟨r, h9, q1, q2, q3, q4, q5⟩ := rn_worthOf_l hLb hN cl _ lo20 n v19 (i + 1) hk1 _ (fun z hz => hO z (List.mem_cons_of_mem _ hz)) hn (by omega) (by omega) (by rw [f5 411 (by decide)]; omega) (clAt_c f5 hA2) (fun j hj => by rw [f5 415 (by decide)]; exact hL j hj) g0_20 g1_20 g2_20 hr
          refine ⟨r, h9, q1, ?_, fun a ha => by rw [q3 a ha, f5 a ha], by rw [q4, f6], fun i hi => by rw [q5 i hi, f9 i hi]⟩
          rw [q2]
          show _ = if t = [] ∨ bt L t ≠ 0 then bt L s else mMa L cl
          rw [if_neg (fun z => z.elim c1 (fun y => y (by rw [bt_e o5]; exact c2)))]
        · skip
          obtain ⟨_, hr⟩ : ∃ m', yz m' d 208 57 loc [] hk1 = some res := si1f (off := 21) (by decide +kernel) (by decide) (fun e => absurd (k1_eq.mp e) (by omega)) hr
          obtain ⟨_, hr⟩ : ∃ m', yz m' d 208 58 loc [.inr (.inr (440))] hk1 = some res := sal (k := 0) (by decide +kernel) g0 hr
          obtain ⟨_, hr⟩ : ∃ m', yz m' d 208 59 loc [.inl (n), .inr (.inr (440))] hk1 = some res := sil (k := 1) (by decide +kernel) g1 hr
          obtain ⟨_, hr⟩ : ∃ m', yz m' d 208 60 loc [.inr (.inr (440)), .inl (n), .inr (.inr (440))] hk1 = some res := sal (k := 0) (by decide +kernel) g0 hr
          obtain ⟨_, hr⟩ : ∃ m', yz m' d 208 63 loc [.inr (.inr (413)), .inl (n), .inr (.inr (440))] hk1 = some res := sgr (idx := 28) (fi := 11) (b := 3) (by decide +kernel) (by decide +kernel) hr
          obtain ⟨_, hr⟩ : ∃ m', yz m' d 208 64 loc [.inl (k), .inr (.inr (413)), .inl (n), .inr (.inr (440))] hk1 = some res := sil (k := 2) (by decide +kernel) g2 hr
          obtain ⟨z20, _, hr⟩ : zin (k) 700 = true ∧ ∃ m', yz m' d 208 65 loc [.inl (hk1.1 (413) (k).toNatClampNeg), .inl (n), .inr (.inr (440))] hk1 = some res := sia (q := []) (by decide +kernel) (by decide +kernel) hr
          have z20 := zin_i z20
          generalize ev22 : hk1.1 (413) (k).toNatClampNeg = v22 at hr
          have cv22 : v22.toInt = ((a + t.length : Nat) : Int) := by rw [← ev22, ekn, f5 413 (by decide)]; exact a2
          obtain ⟨_, hr⟩ : ∃ m', yz m' d 208 66 loc [.inr (.inr (440)), .inl (v22), .inl (n), .inr (.inr (440))] hk1 = some res := sal (k := 0) (by decide +kernel) g0 hr
          obtain ⟨_, hr⟩ : ∃ m', yz m' d 208 69 loc [.inr (.inr (414)), .inl (v22), .inl (n), .inr (.inr (440))] hk1 = some res := sgr (idx := 31) (fi := 12) (b := 3) (by decide +kernel) (by decide +kernel) hr
          obtain ⟨_, hr⟩ : ∃ m', yz m' d 208 70 loc [.inl (k), .inr (.inr (414)), .inl (v22), .inl (n), .inr (.inr (440))] hk1 = some res := sil (k := 2) (by decide +kernel) g2 hr
          obtain ⟨z22, _, hr⟩ : zin (k) 700 = true ∧ ∃ m', yz m' d 208 71 loc [.inl (hk1.1 (414) (k).toNatClampNeg), .inl (v22), .inl (n), .inr (.inr (440))] hk1 = some res := sia (q := []) (by decide +kernel) (by decide +kernel) hr
          have z22 := zin_i z22
          generalize ev24 : hk1.1 (414) (k).toNatClampNeg = v24 at hr
          have cv24 : v24.toInt = ((a + t.length + s.length : Nat) : Int) := by rw [← ev24, ekn, f5 414 (by decide)]; exact a3
          obtain ⟨_, d_k2, r_k2, hk2, _, ed_k2, c_k2, hr⟩ := scl_ (i := .invokevirtual 225) (callee := 206) (args := [.inr (.inr (440)), .inl (n), .inl (v22), .inl (v24)]) (rest := []) (by decide +kernel) rfl hr
          obtain ⟨q9, h7, eq9, tq9, f7, f8, f10⟩ := rn_workOut (l := s) hLb o2 hn hN (A := a + t.length) (by assumption) (by omega) a4 (fun j v hj => by rw [f5 408 (by decide), f5 409 (by decide)]; exact a6 j v hj) (fun j hj => by rw [f5 415 (by decide)]; exact hL j hj) c_k2
          obtain ⟨rfl, rfl⟩ := Prod.mk.inj eq9
          have hr : yz _ d 208 74 loc [.inl (q9)] hk2 = some res := hr
          have hr := senh (i := .ireturn) (r := some (.inl (q9))) (by decide +kernel) rfl rfl hr
          refine ⟨_, _, hr, ?_, fun a ha => by rw [f7 a ha, f5 a ha], by rw [f8, f6], fun i hi => by rw [f10 i hi, f9 i hi]⟩
          rw [tq9 v2 o4]
          show v2 = if t = [] ∨ bt L t ≠ 0 then bt L s else mMa L cl
          rw [if_pos (Or.inr (by rw [bt_e o5]; exact c2)), bt_e o4]
  termination_by cl => cl.length
theorem rn_worthOf_z {loc : zL} {n : Int32} (g0 : zget loc 0 = some (.inr (.inr 440))) (g1 : zget loc 1 = some (.inl n)) {L : Nat → Int} (hLb : ∀ j, j < 6 → -1000000 ≤ L j ∧ L j ≤ 1000000) {N : Nat} (hN : N ≤ 4) {cl : List (List Int × List Int)} (hO : ∀ z ∈ cl, cOk L z) (hn : n.toInt = (N : Int)) (hi : cl.length ≤ 140) (hcl : (h.1 411 N).toInt = cl.length) (hA : clAt h N 0 cl) (hL : ∀ j, j < 6 → (h.1 415 j).toInt = L j) (hr : yz m d 208 0 loc [] h = some res) : ∃ (r : Int32) (h' : zH), res = (some (.inl r), h') ∧ r.toInt = mMa L cl ∧ (∀ a, a ≠ 416 → h'.1 a = h.1 a) ∧ h'.2 = h.2 ∧ ∀ i, 80 ≤ i → h'.1 416 i = h.1 416 i := by
  obtain ⟨_, hr⟩ : ∃ m', yz m' d 208 3 loc [.inl ((Int16.ofInt 140).toInt32)] h = some res := sb1 (i := .sipush 140) (by decide +kernel) rfl rfl rfl hr
  generalize ev1 : (Int16.ofInt 140).toInt32 = v1 at hr
  have tv1 : v1.toInt = 140 := by rw [← ev1]; exact (by decide)
  obtain ⟨_, hr⟩ : ∃ m', yz m' d 208 4 loc [.inl (n), .inl (v1)] h = some res := sil (k := 1) (by decide +kernel) g1 hr
  obtain ⟨_, hr⟩ : ∃ m', yz m' d 208 5 loc [.inl ((v1) * (n))] h = some res := sb1 (i := .imul) (by decide +kernel) rfl rfl rfl hr
  generalize ev2 : (v1) * (n) = v2 at hr
  have tv2 : v2.toInt = v1.toInt * n.toInt := by rw [← ev2]; exact (imul_ (by rw [tv1]; omega))
  rw [tv1] at tv2
  obtain ⟨_, hr⟩ := ssth (k := 2) (by decide +kernel) hr
  obtain ⟨lo3, elo3⟩ : ∃ l, l = zput1 loc 2 (.inl (v2)) := ⟨_, rfl⟩
  obtain ⟨_, hr⟩ : ∃ m', yz m' d 208 6 lo3 [] h = some res := by rw [elo3]; exact ⟨_, hr⟩
  have g0_3 : zget lo3 0 = some (.inr (.inr (440))) := by rw [elo3]; exact zg_put (by decide) g0 rfl
  have g1_3 : zget lo3 1 = some (.inl (n)) := by rw [elo3]; exact zg_put (by decide) g1 rfl
  have g2_3 : zget lo3 2 = some (.inl (v2)) := by rw [elo3]; exact zg_same
  exact rn_worthOf_l hLb hN cl _ lo3 n v2 0 h _ hO hn (by omega) (by omega) (by omega) hA hL g0_3 g1_3 g2_3 hr
end WRN
