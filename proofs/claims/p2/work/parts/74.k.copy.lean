/-! states copied, by hand -/
section CPY
variable {m d mid pc : Nat} {loc : zL} {stk : List zV} {h : zH} {res : Option zV × zH}
theorem zfo_i {tab : Nat → (Nat × List Nat) ⊕ (Nat × Nat × List Nat)} {fld : Nat → Option (Nat × Nat × Nat)} {c idx ci fi t b : Nat} {fk : List Nat} (ht : tab c = .inl (ci, fk)) (hf : fld idx = some (ci, fi, b)) (hk : fk[fi]? = some t) : zfo tab fld c idx = some (fi, t, b) := by
  unfold zfo
  rw [ht, hf]
  show (if ci = ci then (match fk[fi]? with
    | some t => some (fi, t, b)
    | none => none) else none) = _
  rw [if_pos rfl, hk]
/-- a row copied: its first places -/
theorem sacp {idx a b n1 n0 : Nat} {q1 q0 : List Nat} {n dp sp : Int32} (hi : yPI mid pc = some (.invokestatic idx)) (ha : yAcp mid idx = true) (hc : yCal mid idx = none) (ta : yTab a = .inr (0, n1, q1)) (tb : yTab b = .inr (0, n0, q0)) (hs : (stk.map zcat).sum ≤ 8) (h0 : sp.toInt = 0) (h1 : dp.toInt = 0) (h2 : 0 ≤ n.toInt ∧ n.toInt ≤ (n0 : Int) ∧ n.toInt ≤ (n1 : Int)) (hr : yz m d mid pc loc (.inl n :: .inl dp :: .inr (.inr a) :: .inl sp :: .inr (.inr b) :: stk) h = some res) : ∃ m', yz m' d mid (pc + 3) loc stk (zsr h a (fun k => if k < n.toInt.toNat then h.1 b k else h.1 a k)) = some res := by
  refine sb0 (q := (pc + 3, loc, stk, zsr h a (fun k => if k < n.toInt.toNat then h.1 b k else h.1 a k))) hi ?_ rfl ?_ hr
  · show (match yCal mid idx with
    | some (callee, na, kc) => _
    | none => none) = none
    rw [hc]
  · refine yst_6 rfl rfl rfl rfl ?_
    have e : (fun k => if k < n.toInt.toNat then h.1 b k else h.1 a k) = va_cpy (h.1 b) (h.1 a) sp.toNatClampNeg dp.toNatClampNeg n.toNatClampNeg := by
      funext k
      unfold va_cpy
      rw [tcn, tcn, tcn, h0, h1]
      by_cases z : k < n.toInt.toNat
      · rw [if_pos z, if_pos ⟨Nat.zero_le _, by show k < 0 + n.toInt.toNat; omega⟩]
        show h.1 b k = h.1 b (0 + (k - 0))
        rw [Nat.zero_add, Nat.sub_zero]
      · rw [if_neg z, if_neg (fun y => z (by have : k < 0 + n.toInt.toNat := y.2; omega))]
    rw [e]
    show zgd (yAcp mid idx) (zgd (decide ((stk.map zcat).sum ≤ 8)) (zoA (zar yTab a 0) (fun n1 _ => match yTab b with
      | .inr (t, n0, q) => zgd (decide (t = 0 ∨ t = 4)) (zgd (decide (0 ≤ sp.toInt ∧ 0 ≤ dp.toInt ∧ 0 ≤ n.toInt ∧ sp.toInt + n.toInt ≤ (n0 : Int) ∧ dp.toInt + n.toInt ≤ (n1 : Int))) (some (pc + 3, loc, stk, zsr h a (va_cpy (if t = 0 then h.1 b else fun j => Int32.ofNat (q.getD j 0)) (h.1 a) sp.toNatClampNeg dp.toNatClampNeg n.toNatClampNeg))))
      | _ => none))) = _
    unfold zgd
    rw [ha, if_pos rfl, if_pos (decide_eq_true hs), zar_i ta, tb]
    show (if decide ((0 : Nat) = 0 ∨ (0 : Nat) = 4) = true then (if decide (0 ≤ sp.toInt ∧ 0 ≤ dp.toInt ∧ 0 ≤ n.toInt ∧ sp.toInt + n.toInt ≤ (n0 : Int) ∧ dp.toInt + n.toInt ≤ (n1 : Int)) = true then some (pc + 3, loc, stk, zsr h a (va_cpy (if (0 : Nat) = 0 then h.1 b else fun j => Int32.ofNat (q0.getD j 0)) (h.1 a) sp.toNatClampNeg dp.toNatClampNeg n.toNatClampNeg)) else none) else none) = _
    rw [if_pos (by decide), if_pos (decide_eq_true ⟨by omega, by omega, by omega, by omega, by omega⟩), if_pos rfl]
theorem zsr_s {c : Nat} {g : Nat → Int32} : (zsr h c g).1 c = g := if_pos rfl
theorem zsr_o {c c' : Nat} {g : Nat → Int32} (e : c' ≠ c) : (zsr h c g).1 c' = h.1 c' := if_neg e
/-- a state's object and rows: bed, eyes, dreams, tired, dreamt, place, log -/
noncomputable def stT (o : Nat) (r : Nat → Nat) : Prop := yTab o = .inl (8, [r 0 + 2, r 1 + 2, r 2 + 2, r 3 + 2, r 4 + 2, r 5 + 2, r 6 + 2, 0, 0, 0]) ∧ (∀ j, j < 6 → yTab (r j) = .inr (0, 6, [])) ∧ yTab (r 6) = .inr (0, 60, [])
/-- what a copy leaves -/
noncomputable def cpd (h h' : zH) (o : Nat) (r : Nat → Nat) (o2 : Nat) (r2 : Nat → Nat) : Prop := (∀ j, j < 7 → h'.1 (r j) = fun k => if k < (if j = 6 then 60 else 6) then h.1 (r2 j) k else h.1 (r j) k) ∧ (∀ i, h'.1 o i = if 7 ≤ i ∧ i ≤ 9 then h.1 o2 i else h.1 o i) ∧ (∀ c, (∀ j, j < 7 → c ≠ r j) → c ≠ o → h'.1 c = h.1 c) ∧ h'.2 = h.2
theorem zs_n {h : zH} {c i : Nat} {v : Int32} : (zs h c i v).2 = h.2 := rfl
theorem zsr_n {h : zH} {c : Nat} {g : Nat → Int32} : (zsr h c g).2 = h.2 := rfl
set_option maxHeartbeats 4000000 in
theorem rn_copy {o o2 : Nat} {r r2 : Nat → Nat} (t1 : stT o r) (t2 : stT o2 r2) (hoo : o ≠ o2) (hrr : ∀ i j, i < 7 → j < 7 → r i ≠ r2 j) (hri : ∀ i j, i < 7 → j < 7 → i ≠ j → r i ≠ r j) (hro : ∀ i, i < 7 → r i ≠ o ∧ r i ≠ o2 ∧ r2 i ≠ o) (hr : yrun m d 254 [.inr (.inr o), .inr (.inr o2)] h = some res) : ∃ h', res = (none, h') ∧ cpd h h' o r o2 r2 := by
  obtain ⟨a0, a1, a2⟩ := t1
  obtain ⟨b0, b1, b2⟩ := t2
  have hr : yz m d 254 0 (zent 0 [.inr (.inr (o)), .inr (.inr (o2))]) [] h = some res := hr
  have g0 : zget (zent 0 [.inr (.inr (o)), .inr (.inr (o2))]) 0 = some (.inr (.inr (o))) := rfl
  have g1 : zget (zent 0 [.inr (.inr (o)), .inr (.inr (o2))]) 1 = some (.inr (.inr (o2))) := rfl
  generalize zent 0 [.inr (.inr (o)), .inr (.inr (o2))] = loc at hr g0 g1
  obtain ⟨_, hr⟩ : ∃ m', yz m' d 254 1 loc [.inr (.inr (o2))] h = some res := sal (k := 1) (by decide +kernel) g1 hr
  obtain ⟨_, hr⟩ : ∃ m', yz m' d 254 4 loc [.inr (.inr (r2 0))] h = some res := sgr (idx := 9) (fi := 0) (b := 3) (by decide +kernel) (zfo_i b0 (by decide +kernel) rfl) hr
  obtain ⟨_, hr⟩ : ∃ m', yz m' d 254 5 loc [.inl (Int32.ofInt 0), .inr (.inr (r2 0))] h = some res := sb1 (i := .iconst 0) (by decide +kernel) rfl rfl rfl hr
  generalize ev1 : Int32.ofInt 0 = v1 at hr
  have tv1 : v1.toInt = 0 := by rw [← ev1]; exact (by decide)
  obtain ⟨_, hr⟩ : ∃ m', yz m' d 254 6 loc [.inr (.inr (o)), .inl (v1), .inr (.inr (r2 0))] h = some res := sal (k := 0) (by decide +kernel) g0 hr
  obtain ⟨_, hr⟩ : ∃ m', yz m' d 254 9 loc [.inr (.inr (r 0)), .inl (v1), .inr (.inr (r2 0))] h = some res := sgr (idx := 9) (fi := 0) (b := 3) (by decide +kernel) (zfo_i a0 (by decide +kernel) rfl) hr
  obtain ⟨_, hr⟩ : ∃ m', yz m' d 254 10 loc [.inl (Int32.ofInt 0), .inr (.inr (r 0)), .inl (v1), .inr (.inr (r2 0))] h = some res := sb1 (i := .iconst 0) (by decide +kernel) rfl rfl rfl hr
  generalize ev2 : Int32.ofInt 0 = v2 at hr
  have tv2 : v2.toInt = 0 := by rw [← ev2]; exact (by decide)
  obtain ⟨_, hr⟩ : ∃ m', yz m' d 254 12 loc [.inl ((Int8.ofInt 6).toInt32), .inl (v2), .inr (.inr (r 0)), .inl (v1), .inr (.inr (r2 0))] h = some res := sb1 (i := .bipush 6) (by decide +kernel) rfl rfl rfl hr
  generalize ev3 : (Int8.ofInt 6).toInt32 = v3 at hr
  have tv3 : v3.toInt = 6 := by rw [← ev3]; exact (by decide)
  obtain ⟨_, hr⟩ := sacp (idx := 43) (by decide +kernel) (by decide +kernel) (by decide +kernel) (a1 0 (by decide)) (b1 0 (by decide)) (by decide) tv1 tv2 (by rw [tv3]; decide) hr
  rw [tv3] at hr
  obtain ⟨h1, eh1⟩ : ∃ x : zH, x = zsr h (r 0) (fun k => if k < (6 : Int).toNat then h.1 (r2 0) k else h.1 (r 0) k) := ⟨_, rfl⟩
  obtain ⟨_, hr⟩ : ∃ m', yz m' d 254 15 loc [] h1 = some res := by rw [eh1]; exact ⟨_, hr⟩
  obtain ⟨_, hr⟩ : ∃ m', yz m' d 254 16 loc [.inr (.inr (o2))] h1 = some res := sal (k := 1) (by decide +kernel) g1 hr
  obtain ⟨_, hr⟩ : ∃ m', yz m' d 254 19 loc [.inr (.inr (r2 1))] h1 = some res := sgr (idx := 15) (fi := 1) (b := 3) (by decide +kernel) (zfo_i b0 (by decide +kernel) rfl) hr
  obtain ⟨_, hr⟩ : ∃ m', yz m' d 254 20 loc [.inl (Int32.ofInt 0), .inr (.inr (r2 1))] h1 = some res := sb1 (i := .iconst 0) (by decide +kernel) rfl rfl rfl hr
  generalize ev4 : Int32.ofInt 0 = v4 at hr
  have tv4 : v4.toInt = 0 := by rw [← ev4]; exact (by decide)
  obtain ⟨_, hr⟩ : ∃ m', yz m' d 254 21 loc [.inr (.inr (o)), .inl (v4), .inr (.inr (r2 1))] h1 = some res := sal (k := 0) (by decide +kernel) g0 hr
  obtain ⟨_, hr⟩ : ∃ m', yz m' d 254 24 loc [.inr (.inr (r 1)), .inl (v4), .inr (.inr (r2 1))] h1 = some res := sgr (idx := 15) (fi := 1) (b := 3) (by decide +kernel) (zfo_i a0 (by decide +kernel) rfl) hr
  obtain ⟨_, hr⟩ : ∃ m', yz m' d 254 25 loc [.inl (Int32.ofInt 0), .inr (.inr (r 1)), .inl (v4), .inr (.inr (r2 1))] h1 = some res := sb1 (i := .iconst 0) (by decide +kernel) rfl rfl rfl hr
  generalize ev5 : Int32.ofInt 0 = v5 at hr
  have tv5 : v5.toInt = 0 := by rw [← ev5]; exact (by decide)
  obtain ⟨_, hr⟩ : ∃ m', yz m' d 254 27 loc [.inl ((Int8.ofInt 6).toInt32), .inl (v5), .inr (.inr (r 1)), .inl (v4), .inr (.inr (r2 1))] h1 = some res := sb1 (i := .bipush 6) (by decide +kernel) rfl rfl rfl hr
  generalize ev6 : (Int8.ofInt 6).toInt32 = v6 at hr
  have tv6 : v6.toInt = 6 := by rw [← ev6]; exact (by decide)
  obtain ⟨_, hr⟩ := sacp (idx := 43) (by decide +kernel) (by decide +kernel) (by decide +kernel) (a1 1 (by decide)) (b1 1 (by decide)) (by decide) tv4 tv5 (by rw [tv6]; decide) hr
  rw [tv6] at hr
  obtain ⟨h2, eh2⟩ : ∃ x : zH, x = zsr h1 (r 1) (fun k => if k < (6 : Int).toNat then h1.1 (r2 1) k else h1.1 (r 1) k) := ⟨_, rfl⟩
  obtain ⟨_, hr⟩ : ∃ m', yz m' d 254 30 loc [] h2 = some res := by rw [eh2]; exact ⟨_, hr⟩
  obtain ⟨_, hr⟩ : ∃ m', yz m' d 254 31 loc [.inr (.inr (o2))] h2 = some res := sal (k := 1) (by decide +kernel) g1 hr
  obtain ⟨_, hr⟩ : ∃ m', yz m' d 254 34 loc [.inr (.inr (r2 2))] h2 = some res := sgr (idx := 18) (fi := 2) (b := 3) (by decide +kernel) (zfo_i b0 (by decide +kernel) rfl) hr
  obtain ⟨_, hr⟩ : ∃ m', yz m' d 254 35 loc [.inl (Int32.ofInt 0), .inr (.inr (r2 2))] h2 = some res := sb1 (i := .iconst 0) (by decide +kernel) rfl rfl rfl hr
  generalize ev7 : Int32.ofInt 0 = v7 at hr
  have tv7 : v7.toInt = 0 := by rw [← ev7]; exact (by decide)
  obtain ⟨_, hr⟩ : ∃ m', yz m' d 254 36 loc [.inr (.inr (o)), .inl (v7), .inr (.inr (r2 2))] h2 = some res := sal (k := 0) (by decide +kernel) g0 hr
  obtain ⟨_, hr⟩ : ∃ m', yz m' d 254 39 loc [.inr (.inr (r 2)), .inl (v7), .inr (.inr (r2 2))] h2 = some res := sgr (idx := 18) (fi := 2) (b := 3) (by decide +kernel) (zfo_i a0 (by decide +kernel) rfl) hr
  obtain ⟨_, hr⟩ : ∃ m', yz m' d 254 40 loc [.inl (Int32.ofInt 0), .inr (.inr (r 2)), .inl (v7), .inr (.inr (r2 2))] h2 = some res := sb1 (i := .iconst 0) (by decide +kernel) rfl rfl rfl hr
  generalize ev8 : Int32.ofInt 0 = v8 at hr
  have tv8 : v8.toInt = 0 := by rw [← ev8]; exact (by decide)
  obtain ⟨_, hr⟩ : ∃ m', yz m' d 254 42 loc [.inl ((Int8.ofInt 6).toInt32), .inl (v8), .inr (.inr (r 2)), .inl (v7), .inr (.inr (r2 2))] h2 = some res := sb1 (i := .bipush 6) (by decide +kernel) rfl rfl rfl hr
  generalize ev9 : (Int8.ofInt 6).toInt32 = v9 at hr
  have tv9 : v9.toInt = 6 := by rw [← ev9]; exact (by decide)
  obtain ⟨_, hr⟩ := sacp (idx := 43) (by decide +kernel) (by decide +kernel) (by decide +kernel) (a1 2 (by decide)) (b1 2 (by decide)) (by decide) tv7 tv8 (by rw [tv9]; decide) hr
  rw [tv9] at hr
  obtain ⟨h3, eh3⟩ : ∃ x : zH, x = zsr h2 (r 2) (fun k => if k < (6 : Int).toNat then h2.1 (r2 2) k else h2.1 (r 2) k) := ⟨_, rfl⟩
  obtain ⟨_, hr⟩ : ∃ m', yz m' d 254 45 loc [] h3 = some res := by rw [eh3]; exact ⟨_, hr⟩
  obtain ⟨_, hr⟩ : ∃ m', yz m' d 254 46 loc [.inr (.inr (o2))] h3 = some res := sal (k := 1) (by decide +kernel) g1 hr
  obtain ⟨_, hr⟩ : ∃ m', yz m' d 254 49 loc [.inr (.inr (r2 3))] h3 = some res := sgr (idx := 21) (fi := 3) (b := 3) (by decide +kernel) (zfo_i b0 (by decide +kernel) rfl) hr
  obtain ⟨_, hr⟩ : ∃ m', yz m' d 254 50 loc [.inl (Int32.ofInt 0), .inr (.inr (r2 3))] h3 = some res := sb1 (i := .iconst 0) (by decide +kernel) rfl rfl rfl hr
  generalize ev10 : Int32.ofInt 0 = v10 at hr
  have tv10 : v10.toInt = 0 := by rw [← ev10]; exact (by decide)
  obtain ⟨_, hr⟩ : ∃ m', yz m' d 254 51 loc [.inr (.inr (o)), .inl (v10), .inr (.inr (r2 3))] h3 = some res := sal (k := 0) (by decide +kernel) g0 hr
  obtain ⟨_, hr⟩ : ∃ m', yz m' d 254 54 loc [.inr (.inr (r 3)), .inl (v10), .inr (.inr (r2 3))] h3 = some res := sgr (idx := 21) (fi := 3) (b := 3) (by decide +kernel) (zfo_i a0 (by decide +kernel) rfl) hr
  obtain ⟨_, hr⟩ : ∃ m', yz m' d 254 55 loc [.inl (Int32.ofInt 0), .inr (.inr (r 3)), .inl (v10), .inr (.inr (r2 3))] h3 = some res := sb1 (i := .iconst 0) (by decide +kernel) rfl rfl rfl hr
  generalize ev11 : Int32.ofInt 0 = v11 at hr
  have tv11 : v11.toInt = 0 := by rw [← ev11]; exact (by decide)
  obtain ⟨_, hr⟩ : ∃ m', yz m' d 254 57 loc [.inl ((Int8.ofInt 6).toInt32), .inl (v11), .inr (.inr (r 3)), .inl (v10), .inr (.inr (r2 3))] h3 = some res := sb1 (i := .bipush 6) (by decide +kernel) rfl rfl rfl hr
  generalize ev12 : (Int8.ofInt 6).toInt32 = v12 at hr
  have tv12 : v12.toInt = 6 := by rw [← ev12]; exact (by decide)
  obtain ⟨_, hr⟩ := sacp (idx := 43) (by decide +kernel) (by decide +kernel) (by decide +kernel) (a1 3 (by decide)) (b1 3 (by decide)) (by decide) tv10 tv11 (by rw [tv12]; decide) hr
  rw [tv12] at hr
  obtain ⟨h4, eh4⟩ : ∃ x : zH, x = zsr h3 (r 3) (fun k => if k < (6 : Int).toNat then h3.1 (r2 3) k else h3.1 (r 3) k) := ⟨_, rfl⟩
  obtain ⟨_, hr⟩ : ∃ m', yz m' d 254 60 loc [] h4 = some res := by rw [eh4]; exact ⟨_, hr⟩
  obtain ⟨_, hr⟩ : ∃ m', yz m' d 254 61 loc [.inr (.inr (o2))] h4 = some res := sal (k := 1) (by decide +kernel) g1 hr
  obtain ⟨_, hr⟩ : ∃ m', yz m' d 254 64 loc [.inr (.inr (r2 4))] h4 = some res := sgr (idx := 24) (fi := 4) (b := 3) (by decide +kernel) (zfo_i b0 (by decide +kernel) rfl) hr
  obtain ⟨_, hr⟩ : ∃ m', yz m' d 254 65 loc [.inl (Int32.ofInt 0), .inr (.inr (r2 4))] h4 = some res := sb1 (i := .iconst 0) (by decide +kernel) rfl rfl rfl hr
  generalize ev13 : Int32.ofInt 0 = v13 at hr
  have tv13 : v13.toInt = 0 := by rw [← ev13]; exact (by decide)
  obtain ⟨_, hr⟩ : ∃ m', yz m' d 254 66 loc [.inr (.inr (o)), .inl (v13), .inr (.inr (r2 4))] h4 = some res := sal (k := 0) (by decide +kernel) g0 hr
  obtain ⟨_, hr⟩ : ∃ m', yz m' d 254 69 loc [.inr (.inr (r 4)), .inl (v13), .inr (.inr (r2 4))] h4 = some res := sgr (idx := 24) (fi := 4) (b := 3) (by decide +kernel) (zfo_i a0 (by decide +kernel) rfl) hr
  obtain ⟨_, hr⟩ : ∃ m', yz m' d 254 70 loc [.inl (Int32.ofInt 0), .inr (.inr (r 4)), .inl (v13), .inr (.inr (r2 4))] h4 = some res := sb1 (i := .iconst 0) (by decide +kernel) rfl rfl rfl hr
  generalize ev14 : Int32.ofInt 0 = v14 at hr
  have tv14 : v14.toInt = 0 := by rw [← ev14]; exact (by decide)
  obtain ⟨_, hr⟩ : ∃ m', yz m' d 254 72 loc [.inl ((Int8.ofInt 6).toInt32), .inl (v14), .inr (.inr (r 4)), .inl (v13), .inr (.inr (r2 4))] h4 = some res := sb1 (i := .bipush 6) (by decide +kernel) rfl rfl rfl hr
  generalize ev15 : (Int8.ofInt 6).toInt32 = v15 at hr
  have tv15 : v15.toInt = 6 := by rw [← ev15]; exact (by decide)
  obtain ⟨_, hr⟩ := sacp (idx := 43) (by decide +kernel) (by decide +kernel) (by decide +kernel) (a1 4 (by decide)) (b1 4 (by decide)) (by decide) tv13 tv14 (by rw [tv15]; decide) hr
  rw [tv15] at hr
  obtain ⟨h5, eh5⟩ : ∃ x : zH, x = zsr h4 (r 4) (fun k => if k < (6 : Int).toNat then h4.1 (r2 4) k else h4.1 (r 4) k) := ⟨_, rfl⟩
  obtain ⟨_, hr⟩ : ∃ m', yz m' d 254 75 loc [] h5 = some res := by rw [eh5]; exact ⟨_, hr⟩
  obtain ⟨_, hr⟩ : ∃ m', yz m' d 254 76 loc [.inr (.inr (o2))] h5 = some res := sal (k := 1) (by decide +kernel) g1 hr
  obtain ⟨_, hr⟩ : ∃ m', yz m' d 254 79 loc [.inr (.inr (r2 5))] h5 = some res := sgr (idx := 27) (fi := 5) (b := 3) (by decide +kernel) (zfo_i b0 (by decide +kernel) rfl) hr
  obtain ⟨_, hr⟩ : ∃ m', yz m' d 254 80 loc [.inl (Int32.ofInt 0), .inr (.inr (r2 5))] h5 = some res := sb1 (i := .iconst 0) (by decide +kernel) rfl rfl rfl hr
  generalize ev16 : Int32.ofInt 0 = v16 at hr
  have tv16 : v16.toInt = 0 := by rw [← ev16]; exact (by decide)
  obtain ⟨_, hr⟩ : ∃ m', yz m' d 254 81 loc [.inr (.inr (o)), .inl (v16), .inr (.inr (r2 5))] h5 = some res := sal (k := 0) (by decide +kernel) g0 hr
  obtain ⟨_, hr⟩ : ∃ m', yz m' d 254 84 loc [.inr (.inr (r 5)), .inl (v16), .inr (.inr (r2 5))] h5 = some res := sgr (idx := 27) (fi := 5) (b := 3) (by decide +kernel) (zfo_i a0 (by decide +kernel) rfl) hr
  obtain ⟨_, hr⟩ : ∃ m', yz m' d 254 85 loc [.inl (Int32.ofInt 0), .inr (.inr (r 5)), .inl (v16), .inr (.inr (r2 5))] h5 = some res := sb1 (i := .iconst 0) (by decide +kernel) rfl rfl rfl hr
  generalize ev17 : Int32.ofInt 0 = v17 at hr
  have tv17 : v17.toInt = 0 := by rw [← ev17]; exact (by decide)
  obtain ⟨_, hr⟩ : ∃ m', yz m' d 254 87 loc [.inl ((Int8.ofInt 6).toInt32), .inl (v17), .inr (.inr (r 5)), .inl (v16), .inr (.inr (r2 5))] h5 = some res := sb1 (i := .bipush 6) (by decide +kernel) rfl rfl rfl hr
  generalize ev18 : (Int8.ofInt 6).toInt32 = v18 at hr
  have tv18 : v18.toInt = 6 := by rw [← ev18]; exact (by decide)
  obtain ⟨_, hr⟩ := sacp (idx := 43) (by decide +kernel) (by decide +kernel) (by decide +kernel) (a1 5 (by decide)) (b1 5 (by decide)) (by decide) tv16 tv17 (by rw [tv18]; decide) hr
  rw [tv18] at hr
  obtain ⟨h6, eh6⟩ : ∃ x : zH, x = zsr h5 (r 5) (fun k => if k < (6 : Int).toNat then h5.1 (r2 5) k else h5.1 (r 5) k) := ⟨_, rfl⟩
  obtain ⟨_, hr⟩ : ∃ m', yz m' d 254 90 loc [] h6 = some res := by rw [eh6]; exact ⟨_, hr⟩
  obtain ⟨_, hr⟩ : ∃ m', yz m' d 254 91 loc [.inr (.inr (o2))] h6 = some res := sal (k := 1) (by decide +kernel) g1 hr
  obtain ⟨_, hr⟩ : ∃ m', yz m' d 254 94 loc [.inr (.inr (r2 6))] h6 = some res := sgr (idx := 30) (fi := 6) (b := 3) (by decide +kernel) (zfo_i b0 (by decide +kernel) rfl) hr
  obtain ⟨_, hr⟩ : ∃ m', yz m' d 254 95 loc [.inl (Int32.ofInt 0), .inr (.inr (r2 6))] h6 = some res := sb1 (i := .iconst 0) (by decide +kernel) rfl rfl rfl hr
  generalize ev19 : Int32.ofInt 0 = v19 at hr
  have tv19 : v19.toInt = 0 := by rw [← ev19]; exact (by decide)
  obtain ⟨_, hr⟩ : ∃ m', yz m' d 254 96 loc [.inr (.inr (o)), .inl (v19), .inr (.inr (r2 6))] h6 = some res := sal (k := 0) (by decide +kernel) g0 hr
  obtain ⟨_, hr⟩ : ∃ m', yz m' d 254 99 loc [.inr (.inr (r 6)), .inl (v19), .inr (.inr (r2 6))] h6 = some res := sgr (idx := 30) (fi := 6) (b := 3) (by decide +kernel) (zfo_i a0 (by decide +kernel) rfl) hr
  obtain ⟨_, hr⟩ : ∃ m', yz m' d 254 100 loc [.inl (Int32.ofInt 0), .inr (.inr (r 6)), .inl (v19), .inr (.inr (r2 6))] h6 = some res := sb1 (i := .iconst 0) (by decide +kernel) rfl rfl rfl hr
  generalize ev20 : Int32.ofInt 0 = v20 at hr
  have tv20 : v20.toInt = 0 := by rw [← ev20]; exact (by decide)
  obtain ⟨_, hr⟩ : ∃ m', yz m' d 254 102 loc [.inl ((Int8.ofInt 60).toInt32), .inl (v20), .inr (.inr (r 6)), .inl (v19), .inr (.inr (r2 6))] h6 = some res := sb1 (i := .bipush 60) (by decide +kernel) rfl rfl rfl hr
  generalize ev21 : (Int8.ofInt 60).toInt32 = v21 at hr
  have tv21 : v21.toInt = 60 := by rw [← ev21]; exact (by decide)
  obtain ⟨_, hr⟩ := sacp (idx := 43) (by decide +kernel) (by decide +kernel) (by decide +kernel) (a2) (b2) (by decide) tv19 tv20 (by rw [tv21]; decide) hr
  rw [tv21] at hr
  obtain ⟨h7, eh7⟩ : ∃ x : zH, x = zsr h6 (r 6) (fun k => if k < (60 : Int).toNat then h6.1 (r2 6) k else h6.1 (r 6) k) := ⟨_, rfl⟩
  obtain ⟨_, hr⟩ : ∃ m', yz m' d 254 105 loc [] h7 = some res := by rw [eh7]; exact ⟨_, hr⟩
  obtain ⟨_, hr⟩ : ∃ m', yz m' d 254 106 loc [.inr (.inr (o))] h7 = some res := sal (k := 0) (by decide +kernel) g0 hr
  obtain ⟨_, hr⟩ : ∃ m', yz m' d 254 107 loc [.inr (.inr (o2)), .inr (.inr (o))] h7 = some res := sal (k := 1) (by decide +kernel) g1 hr
  obtain ⟨_, hr⟩ : ∃ m', yz m' d 254 110 loc [.inl (h7.1 o2 7), .inr (.inr (o))] h7 = some res := sgf (idx := 33) (fi := 7) (b := 0) (by decide +kernel) (zfo_i b0 (by decide +kernel) rfl) hr
  generalize ev22 : h7.1 o2 7 = v22 at hr
  obtain ⟨_, hr⟩ := spf (idx := 33) (fi := 7) (b := 0) (by decide +kernel) (zfo_i a0 (by decide +kernel) rfl) rfl hr
  obtain ⟨h8, eh8⟩ : ∃ x : zH, x = zs h7 o 7 v22 := ⟨_, rfl⟩
  obtain ⟨_, hr⟩ : ∃ m', yz m' d 254 113 loc [] h8 = some res := by rw [eh8]; exact ⟨_, hr⟩
  obtain ⟨_, hr⟩ : ∃ m', yz m' d 254 114 loc [.inr (.inr (o))] h8 = some res := sal (k := 0) (by decide +kernel) g0 hr
  obtain ⟨_, hr⟩ : ∃ m', yz m' d 254 115 loc [.inr (.inr (o2)), .inr (.inr (o))] h8 = some res := sal (k := 1) (by decide +kernel) g1 hr
  obtain ⟨_, hr⟩ : ∃ m', yz m' d 254 118 loc [.inl (h8.1 o2 8), .inr (.inr (o))] h8 = some res := sgf (idx := 37) (fi := 8) (b := 0) (by decide +kernel) (zfo_i b0 (by decide +kernel) rfl) hr
  generalize ev23 : h8.1 o2 8 = v23 at hr
  obtain ⟨_, hr⟩ := spf (idx := 37) (fi := 8) (b := 0) (by decide +kernel) (zfo_i a0 (by decide +kernel) rfl) rfl hr
  obtain ⟨h9, eh9⟩ : ∃ x : zH, x = zs h8 o 8 v23 := ⟨_, rfl⟩
  obtain ⟨_, hr⟩ : ∃ m', yz m' d 254 121 loc [] h9 = some res := by rw [eh9]; exact ⟨_, hr⟩
  obtain ⟨_, hr⟩ : ∃ m', yz m' d 254 122 loc [.inr (.inr (o))] h9 = some res := sal (k := 0) (by decide +kernel) g0 hr
  obtain ⟨_, hr⟩ : ∃ m', yz m' d 254 123 loc [.inr (.inr (o2)), .inr (.inr (o))] h9 = some res := sal (k := 1) (by decide +kernel) g1 hr
  obtain ⟨_, hr⟩ : ∃ m', yz m' d 254 126 loc [.inl (h9.1 o2 9), .inr (.inr (o))] h9 = some res := sgf (idx := 40) (fi := 9) (b := 0) (by decide +kernel) (zfo_i b0 (by decide +kernel) rfl) hr
  generalize ev24 : h9.1 o2 9 = v24 at hr
  obtain ⟨_, hr⟩ := spf (idx := 40) (fi := 9) (b := 0) (by decide +kernel) (zfo_i a0 (by decide +kernel) rfl) rfl hr
  obtain ⟨h10, eh10⟩ : ∃ x : zH, x = zs h9 o 9 v24 := ⟨_, rfl⟩
  obtain ⟨_, hr⟩ : ∃ m', yz m' d 254 129 loc [] h10 = some res := by rw [eh10]; exact ⟨_, hr⟩
  have hr := senh (i := .return_) (r := none) (by decide +kernel) rfl rfl hr
  refine ⟨h10, hr, ?_⟩
  -- rows stand as they were until their turn
  have s1 : ∀ c, c ≠ r 0 → h1.1 c = h.1 c := fun c e => by rw [eh1]; exact zsr_o e
  have s2 : ∀ c, c ≠ r 1 → h2.1 c = h1.1 c := fun c e => by rw [eh2]; exact zsr_o e
  have s3 : ∀ c, c ≠ r 2 → h3.1 c = h2.1 c := fun c e => by rw [eh3]; exact zsr_o e
  have s4 : ∀ c, c ≠ r 3 → h4.1 c = h3.1 c := fun c e => by rw [eh4]; exact zsr_o e
  have s5 : ∀ c, c ≠ r 4 → h5.1 c = h4.1 c := fun c e => by rw [eh5]; exact zsr_o e
  have s6 : ∀ c, c ≠ r 5 → h6.1 c = h5.1 c := fun c e => by rw [eh6]; exact zsr_o e
  have s7 : ∀ c, c ≠ r 6 → h7.1 c = h6.1 c := fun c e => by rw [eh7]; exact zsr_o e
  have s8 : ∀ c, c ≠ o → h8.1 c = h7.1 c := fun c e => by rw [eh8]; funext i; exact zs_o e
  have s9 : ∀ c, c ≠ o → h9.1 c = h8.1 c := fun c e => by rw [eh9]; funext i; exact zs_o e
  have s10 : ∀ c, c ≠ o → h10.1 c = h9.1 c := fun c e => by rw [eh10]; funext i; exact zs_o e
  refine ⟨fun j hj => ?_, fun i => ?_, fun c hc ho => ?_, ?_⟩
  · match j, hj with
    | 0, _ =>
      rw [s10 _ (hro 0 (by decide)).1, s9 _ (hro 0 (by decide)).1, s8 _ (hro 0 (by decide)).1, s7 _ (hri 0 6 (by decide) (by decide) (by decide)), s6 _ (hri 0 5 (by decide) (by decide) (by decide)), s5 _ (hri 0 4 (by decide) (by decide) (by decide)), s4 _ (hri 0 3 (by decide) (by decide) (by decide)), s3 _ (hri 0 2 (by decide) (by decide) (by decide)), s2 _ (hri 0 1 (by decide) (by decide) (by decide)), eh1, zsr_s]
      funext k
      rfl
    | 1, _ =>
      rw [s10 _ (hro 1 (by decide)).1, s9 _ (hro 1 (by decide)).1, s8 _ (hro 1 (by decide)).1, s7 _ (hri 1 6 (by decide) (by decide) (by decide)), s6 _ (hri 1 5 (by decide) (by decide) (by decide)), s5 _ (hri 1 4 (by decide) (by decide) (by decide)), s4 _ (hri 1 3 (by decide) (by decide) (by decide)), s3 _ (hri 1 2 (by decide) (by decide) (by decide)), eh2, zsr_s]
      funext k
      rw [s1 _ (fun e => hrr 0 1 (by decide) (by decide) e.symm)]
      rw [s1 _ (hri 1 0 (by decide) (by decide) (by decide))]
      rfl
    | 2, _ =>
      rw [s10 _ (hro 2 (by decide)).1, s9 _ (hro 2 (by decide)).1, s8 _ (hro 2 (by decide)).1, s7 _ (hri 2 6 (by decide) (by decide) (by decide)), s6 _ (hri 2 5 (by decide) (by decide) (by decide)), s5 _ (hri 2 4 (by decide) (by decide) (by decide)), s4 _ (hri 2 3 (by decide) (by decide) (by decide)), eh3, zsr_s]
      funext k
      rw [s2 _ (fun e => hrr 1 2 (by decide) (by decide) e.symm), s1 _ (fun e => hrr 0 2 (by decide) (by decide) e.symm)]
      rw [s2 _ (hri 2 1 (by decide) (by decide) (by decide)), s1 _ (hri 2 0 (by decide) (by decide) (by decide))]
      rfl
    | 3, _ =>
      rw [s10 _ (hro 3 (by decide)).1, s9 _ (hro 3 (by decide)).1, s8 _ (hro 3 (by decide)).1, s7 _ (hri 3 6 (by decide) (by decide) (by decide)), s6 _ (hri 3 5 (by decide) (by decide) (by decide)), s5 _ (hri 3 4 (by decide) (by decide) (by decide)), eh4, zsr_s]
      funext k
      rw [s3 _ (fun e => hrr 2 3 (by decide) (by decide) e.symm), s2 _ (fun e => hrr 1 3 (by decide) (by decide) e.symm), s1 _ (fun e => hrr 0 3 (by decide) (by decide) e.symm)]
      rw [s3 _ (hri 3 2 (by decide) (by decide) (by decide)), s2 _ (hri 3 1 (by decide) (by decide) (by decide)), s1 _ (hri 3 0 (by decide) (by decide) (by decide))]
      rfl
    | 4, _ =>
      rw [s10 _ (hro 4 (by decide)).1, s9 _ (hro 4 (by decide)).1, s8 _ (hro 4 (by decide)).1, s7 _ (hri 4 6 (by decide) (by decide) (by decide)), s6 _ (hri 4 5 (by decide) (by decide) (by decide)), eh5, zsr_s]
      funext k
      rw [s4 _ (fun e => hrr 3 4 (by decide) (by decide) e.symm), s3 _ (fun e => hrr 2 4 (by decide) (by decide) e.symm), s2 _ (fun e => hrr 1 4 (by decide) (by decide) e.symm), s1 _ (fun e => hrr 0 4 (by decide) (by decide) e.symm)]
      rw [s4 _ (hri 4 3 (by decide) (by decide) (by decide)), s3 _ (hri 4 2 (by decide) (by decide) (by decide)), s2 _ (hri 4 1 (by decide) (by decide) (by decide)), s1 _ (hri 4 0 (by decide) (by decide) (by decide))]
      rfl
    | 5, _ =>
      rw [s10 _ (hro 5 (by decide)).1, s9 _ (hro 5 (by decide)).1, s8 _ (hro 5 (by decide)).1, s7 _ (hri 5 6 (by decide) (by decide) (by decide)), eh6, zsr_s]
      funext k
      rw [s5 _ (fun e => hrr 4 5 (by decide) (by decide) e.symm), s4 _ (fun e => hrr 3 5 (by decide) (by decide) e.symm), s3 _ (fun e => hrr 2 5 (by decide) (by decide) e.symm), s2 _ (fun e => hrr 1 5 (by decide) (by decide) e.symm), s1 _ (fun e => hrr 0 5 (by decide) (by decide) e.symm)]
      rw [s5 _ (hri 5 4 (by decide) (by decide) (by decide)), s4 _ (hri 5 3 (by decide) (by decide) (by decide)), s3 _ (hri 5 2 (by decide) (by decide) (by decide)), s2 _ (hri 5 1 (by decide) (by decide) (by decide)), s1 _ (hri 5 0 (by decide) (by decide) (by decide))]
      rfl
    | 6, _ =>
      rw [s10 _ (hro 6 (by decide)).1, s9 _ (hro 6 (by decide)).1, s8 _ (hro 6 (by decide)).1, eh7, zsr_s]
      funext k
      rw [s6 _ (fun e => hrr 5 6 (by decide) (by decide) e.symm), s5 _ (fun e => hrr 4 6 (by decide) (by decide) e.symm), s4 _ (fun e => hrr 3 6 (by decide) (by decide) e.symm), s3 _ (fun e => hrr 2 6 (by decide) (by decide) e.symm), s2 _ (fun e => hrr 1 6 (by decide) (by decide) e.symm), s1 _ (fun e => hrr 0 6 (by decide) (by decide) e.symm)]
      rw [s6 _ (hri 6 5 (by decide) (by decide) (by decide)), s5 _ (hri 6 4 (by decide) (by decide) (by decide)), s4 _ (hri 6 3 (by decide) (by decide) (by decide)), s3 _ (hri 6 2 (by decide) (by decide) (by decide)), s2 _ (hri 6 1 (by decide) (by decide) (by decide)), s1 _ (hri 6 0 (by decide) (by decide) (by decide))]
      rfl
  · have e7 : ∀ i, h7.1 o i = h.1 o i := fun i => by rw [s7 _ (fun e => (hro 6 (by decide)).1 e.symm), s6 _ (fun e => (hro 5 (by decide)).1 e.symm), s5 _ (fun e => (hro 4 (by decide)).1 e.symm), s4 _ (fun e => (hro 3 (by decide)).1 e.symm), s3 _ (fun e => (hro 2 (by decide)).1 e.symm), s2 _ (fun e => (hro 1 (by decide)).1 e.symm), s1 _ (fun e => (hro 0 (by decide)).1 e.symm)]
    have f7 : ∀ i, h7.1 o2 i = h.1 o2 i := fun i => by rw [s7 _ (fun e => (hro 6 (by decide)).2.1 e.symm), s6 _ (fun e => (hro 5 (by decide)).2.1 e.symm), s5 _ (fun e => (hro 4 (by decide)).2.1 e.symm), s4 _ (fun e => (hro 3 (by decide)).2.1 e.symm), s3 _ (fun e => (hro 2 (by decide)).2.1 e.symm), s2 _ (fun e => (hro 1 (by decide)).2.1 e.symm), s1 _ (fun e => (hro 0 (by decide)).2.1 e.symm)]
    have g8 : ∀ i, h8.1 o2 i = h.1 o2 i := fun i => by rw [s8 _ (fun e => hoo e.symm)]; exact f7 i
    have g9 : ∀ i, h9.1 o2 i = h.1 o2 i := fun i => by rw [s9 _ (fun e => hoo e.symm)]; exact g8 i
    by_cases z7 : i = 7
    · rw [z7, if_pos (by decide), eh10, zs_i (by decide), eh9, zs_i (by decide), eh8, zs_s, ← ev22]
      exact f7 7
    · by_cases z8 : i = 8
      · rw [z8, if_pos (by decide), eh10, zs_i (by decide), eh9, zs_s, ← ev23]
        exact g8 8
      · by_cases z9 : i = 9
        · rw [z9, if_pos (by decide), eh10, zs_s, ← ev24]
          exact g9 9
        · rw [if_neg (by omega), eh10, zs_i z9, eh9, zs_i z8, eh8, zs_i z7]
          exact e7 i
  · rw [s10 _ ho, s9 _ ho, s8 _ ho, s7 _ (hc 6 (by decide)), s6 _ (hc 5 (by decide)), s5 _ (hc 4 (by decide)), s4 _ (hc 3 (by decide)), s3 _ (hc 2 (by decide)), s2 _ (hc 1 (by decide)), s1 _ (hc 0 (by decide))]
  · rw [eh10, zs_n, eh9, zs_n, eh8, zs_n, eh7, zsr_n, eh6, zsr_n, eh5, zsr_n, eh4, zsr_n, eh3, zsr_n, eh2, zsr_n, eh1, zsr_n]
end CPY
