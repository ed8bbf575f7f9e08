/-! rules of Q: those of agreements (laid empty, lengthened, shortened, turned) -/
section QAGR
noncomputable def qad (S : sS) (m : Nat × sE × sE) : sS := (S.1, S.2.1, m :: S.2.2.1, S.2.2.2)
/-- an empty agreement -/
noncomputable def qje (S : sS) (m : Nat × sE × sE) : Bool := decide (2000 ≤ m.1) && (decide (600 ≤ agG m.1) && (decide (agG m.1 < 900) && (spr S (sng (alo m)) && (spr S (sng (gix m (alo m))) && spr S (sadd (eto m) (efr m) (-1))))))
/-- a suffix, from a later place on -/
noncomputable def qjh (S : sS) (m m1 : Nat × sE × sE) : Bool := decide (m1.1 = m.1) && (decide (2000 ≤ m.1) && (!decide (agK m.1 = 0) && (peq S m1.2.2 m.2.2 && spr S (sadd m1.2.1 m.2.1 (-1)))))
/-- a whole prefix as a suffix -/
noncomputable def qjc (S : sS) (m m1 : Nat × sE × sE) : Bool := decide (2000 ≤ m1.1) && (decide (2000 ≤ m.1) && (!decide (agK m.1 = 0) && (decide (agK m1.1 = 0) && (decide (agR m1.1 = agR m.1) && (decide (agG m1.1 = agG m.1) && (decide (agL m1.1 = agL m.1) && (decide (agS m1.1 = agS m.1) && (decide (agB m1.1 = agB m.1) && (decide (agT m1.1 = agT m.1) && (peq S m1.2.1 m.2.2 && (spr S (sng m.2.1) && spr S (sac (sng m1.2.2) (agK m.1 : Int)))))))))))))
/-- one place more -/
noncomputable def qjx (S : sS) (m m1 : Nat × sE × sE) : Option sS := if (decide (m1.1 = m.1) && (decide (2000 ≤ m.1) && (decide (agK m.1 = 0) && (pSin (agR m.1) && (decide (600 ≤ agG m.1) && (decide (agG m.1 < 900) && (peq S m1.2.1 m.2.1 && (peq S (sac m1.2.2 1) m.2.2 && spr S (sng m1.2.2))))))))) = true then (match sldEQ pSin qG S (agR m.1) (sac (ahi m) (-1)) [gix m (sac (ahi m) (-1)), m.2.1, m.2.2] with
  | some (v1, T1) => (match sldEQ pSin qG T1 (agG m.1) (gix m (sac (ahi m) (-1))) [v1, m.2.1, m.2.2] with
    | some (v2, T2) => if peq T2 v1 v2 = true then some (qad T2 m) else none
    | none => none)
  | none => none) else none
noncomputable def qjs (S : sS) (m : Nat × sE × sE) : Option sS := if (qje S m || (S.2.2.1.any (qjh S m) || S.2.2.1.any (qjc S m))) = true then some (qad S m) else S.2.2.1.findSome? (qjx S m)
noncomputable def qjl : List (Nat × sE × sE) → sS → Option sS
  | [], S => some S
  | m :: l, S => match qjs S m with
    | some T => qjl l T
    | none => none
variable {gv : Nat → Int → Int → zH → Prop} {ρ ρ0 : Nat → Int} {S S' : sS} {loc : zL} {stk : List zV} {h : zH}
theorem qad_ok {m : Nat × sE × sE} (hM : sMtQ pReg gv ρ ρ0 S loc stk h) (ha : 2000 ≤ m.1) (hq : qag pReg h m.1 (sv ρ m.2.1) (sv ρ m.2.2)) : sMtQ pReg gv ρ ρ0 (qad S m) loc stk h := by
  obtain ⟨a, b, c, d, e, f⟩ := hM
  refine ⟨a, b, fun q hq' => ?_, d, e, f⟩
  rcases List.mem_cons.mp hq' with q1 | q1
  · rw [q1]
    unfold smmQ
    rw [if_neg (by omega), if_neg (by omega)]
    exact hq
  · exact c q q1
theorem qga {m : Nat × sE × sE} (hM : sMtQ pReg gv ρ ρ0 S loc stk h) (ha : 2000 ≤ m.1) (hm : m ∈ S.2.2.1) : qag pReg h m.1 (sv ρ m.2.1) (sv ρ m.2.2) := by
  have q := hM.2.2.1 m hm
  unfold smmQ at q
  rw [if_neg (by omega), if_neg (by omega)] at q
  exact q
theorem qje_ok {m : Nat × sE × sE} (hM : sMtQ pReg gv ρ ρ0 S loc stk h) (hj : qje S m = true) : 2000 ≤ m.1 ∧ qag pReg h m.1 (sv ρ m.2.1) (sv ρ m.2.2) := by
  unfold qje at hj
  simp only [Bool.and_eq_true, decide_eq_true_eq] at hj
  obtain ⟨h1, h2, h3, h4, h5, h6⟩ := hj
  have p4 := spr_leQ hM h4
  have p5 := spr_leQ hM h5
  have p6 := spr_leQ hM h6
  rw [sng_v, alo_v] at p4
  rw [sng_v, gix_v, alo_v] at p5
  rw [sadd_v, eto_v, efr_v] at p6
  exact ⟨h1, by omega, by omega, agG m.1, pReg_g (by omega) h3, fun k hk i i1 i2 => by omega⟩
theorem qjh_ok {m m1 : Nat × sE × sE} (hM : sMtQ pReg gv ρ ρ0 S loc stk h) (hm : m1 ∈ S.2.2.1) (hj : qjh S m m1 = true) : 2000 ≤ m.1 ∧ qag pReg h m.1 (sv ρ m.2.1) (sv ρ m.2.2) := by
  unfold qjh at hj
  simp only [Bool.and_eq_true, decide_eq_true_eq, Bool.not_eq_true', decide_eq_false_iff_not] at hj
  obtain ⟨h1, h2, h3, h4, h5⟩ := hj
  have p4 := peq_vQ hM h4
  have p5 := spr_leQ hM h5
  rw [sadd_v] at p5
  have q := qga hM (by omega) hm
  rw [h1, p4] at q
  refine ⟨h2, ?_⟩
  obtain ⟨a, b, kg, c, d⟩ := q
  have f : ∀ x, aFr m.1 x = x := fun x => if_neg h3
  have w : ∀ x y, aRw m.1 x y = y := fun x y => if_neg h3
  rw [f, w] at a b
  refine ⟨?_, ?_, kg, c, fun k hk i i1 i2 => ?_⟩
  · rw [f, w]; omega
  · rw [f, w]; omega
  · have := d k hk i (by rw [f] at i1 ⊢; omega) i2
    rw [w] at this ⊢
    exact this
theorem qjc_ok {m m1 : Nat × sE × sE} (hM : sMtQ pReg gv ρ ρ0 S loc stk h) (hm : m1 ∈ S.2.2.1) (hj : qjc S m m1 = true) : 2000 ≤ m.1 ∧ qag pReg h m.1 (sv ρ m.2.1) (sv ρ m.2.2) := by
  unfold qjc at hj
  simp only [Bool.and_eq_true, decide_eq_true_eq, Bool.not_eq_true', decide_eq_false_iff_not] at hj
  obtain ⟨h1, h2, h3, h4, h5, h6, h7, h8, h9, h10, h11, h12, h13⟩ := hj
  have p11 := peq_vQ hM h11
  have p12 := spr_leQ hM h12
  have p13 := spr_leQ hM h13
  rw [sng_v] at p12
  rw [sac_v, sng_v] at p13
  obtain ⟨a, b, kg, c, d⟩ := qga hM h1 hm
  refine ⟨h2, ?_⟩
  have f1 : ∀ x, aFr m1.1 x = 0 := fun x => if_pos h4
  have w1 : ∀ x y, aRw m1.1 x y = x := fun x y => if_pos h4
  have t1 : ∀ y, aTo m1.1 y = y := fun y => if_pos h4
  have f : ∀ x, aFr m.1 x = x := fun x => if_neg h3
  have w : ∀ x y, aRw m.1 x y = y := fun x y => if_neg h3
  have t : ∀ y, aTo m.1 y = (agK m.1 : Int) := fun y => if_neg h3
  rw [f1, w1, p11, h7, h8] at a
  rw [f1, w1, p11, h9, h10] at b
  refine ⟨?_, ?_, kg, by rw [c, h6], fun k hk i i1 i2 => ?_⟩
  · rw [f, w]; omega
  · rw [f, w]; omega
  · have := d k (by rw [hk, h5]) i (by rw [f1]; rw [f] at i1; omega) (by rw [t1]; rw [t] at i2; omega)
    rw [w1, p11, h7, h8, h9, h10] at this
    rw [w]
    exact this
theorem qjx_ok {m m1 : Nat × sE × sE} (hG : sG pReg qG h) (hM : sMtQ pReg gv ρ ρ0 S loc stk h) (hm : m1 ∈ S.2.2.1) (hj : qjx S m m1 = some S') : ∃ ρ', sMtQ pReg gv ρ' ρ0 S' loc stk h := by
  unfold qjx at hj
  split at hj
  case isFalse => cases hj
  case isTrue hc =>
    simp only [Bool.and_eq_true, decide_eq_true_eq] at hc
    obtain ⟨h1, h2, h3, h4, h5, h6, h7, h8, h9⟩ := hc
    obtain ⟨k, hk⟩ := pCell _ h4
    have hk9 : pReg k < 1000 := by
      rw [hk]
      exact Nat.mod_lt _ (by decide)
    have hg := pReg_g (by omega) h6
    have hsg : pSin (agG m.1) = true := by
      unfold pSin
      rw [decide_eq_true (show 500 ≤ agG m.1 by omega), decide_eq_true h6]
      rfl
    obtain ⟨a, b, kg, c, d⟩ := qga hM (by omega) hm
    have p7 := peq_vQ hM h7
    have p8 := peq_vQ hM h8
    have p9 := spr_leQ hM h9
    rw [sac_v] at p8
    rw [sng_v] at p9
    rw [h1] at a b c d
    have f : ∀ x, aFr m.1 x = 0 := fun x => if_pos h3
    have w : ∀ x y, aRw m.1 x y = x := fun x y => if_pos h3
    have t : ∀ y, aTo m.1 y = y := fun y => if_pos h3
    have ehi : sv ρ (sac (ahi m) (-1)) = agL m.1 + agS m.1 * sv ρ m.2.1 + sv ρ m1.2.2 := by
      rw [sac_v, ahi_v, w, t]
      omega
    have egi : sv ρ (gix m (sac (ahi m) (-1))) = agB m.1 + agT m.1 * sv ρ m.2.1 + sv ρ m1.2.2 := by
      rw [gix_v, ehi, w]
      omega
    rw [f, w, p7] at a b
    rw [← hk] at hj
    cases l1 : sldEQ pSin qG S (pReg k) (sac (ahi m) (-1)) [gix m (sac (ahi m) (-1)), m.2.1, m.2.2] with
    | none => rw [l1] at hj; cases hj
    | some z1 =>
      obtain ⟨v1, T1⟩ := z1
      rw [l1] at hj
      simp only at hj
      obtain ⟨ρ1, M1, e1, _, _, k1⟩ := sldE_okQ pSing hG hM hk9 (by rw [ehi]; omega) l1
      cases l2 : sldEQ pSin qG T1 (agG m.1) (gix m (sac (ahi m) (-1))) [v1, m.2.1, m.2.2] with
      | none => rw [l2] at hj; cases hj
      | some z2 =>
        obtain ⟨v2, T2⟩ := z2
        rw [l2] at hj
        simp only at hj
        split at hj
        case isFalse => cases hj
        case isTrue hp =>
          cases hj
          have g1 : sv ρ1 (gix m (sac (ahi m) (-1))) = sv ρ (gix m (sac (ahi m) (-1))) := k1 _ (List.mem_cons_self ..)
          have x1 : sv ρ1 m.2.1 = sv ρ m.2.1 := k1 _ (List.mem_cons_of_mem _ (List.mem_cons_self ..))
          have y1 : sv ρ1 m.2.2 = sv ρ m.2.2 := k1 _ (List.mem_cons_of_mem _ (List.mem_cons_of_mem _ (List.mem_cons_self ..)))
          rw [← hg] at l2
          obtain ⟨ρ2, M2, e2, _, _, k2⟩ := sldE_okQ pSing hG M1 (by rw [hg]; omega) (by rw [g1, egi]; omega) l2
          have v2' : sv ρ2 v1 = sv ρ1 v1 := k2 _ (List.mem_cons_self ..)
          have x2 : sv ρ2 m.2.1 = sv ρ1 m.2.1 := k2 _ (List.mem_cons_of_mem _ (List.mem_cons_self ..))
          have y2 : sv ρ2 m.2.2 = sv ρ1 m.2.2 := k2 _ (List.mem_cons_of_mem _ (List.mem_cons_of_mem _ (List.mem_cons_self ..)))
          have hv := peq_vQ M2 hp
          refine ⟨ρ2, qad_ok M2 h2 ?_⟩
          rw [x2, x1, y2, y1, ← p8]
          have hkg : kg = agG m.1 := pSing _ _ (by rw [hg]; exact hsg) (by rw [hg]; exact c)
          refine ⟨by rw [f, w]; exact a, by rw [f, w]; exact b, kg, c, fun k' hk' i i1 i2 => ?_⟩
          have hkk : k' = k := pSing _ _ (by rw [hk]; exact h4) (by rw [hk, hk'])
          rw [f] at i1
          rw [t] at i2
          rcases Int.lt_or_le i (sv ρ m1.2.2) with q | q
          · have d' := d k' hk' i (by rw [f]; exact i1) (by rw [t]; exact q)
            rw [w, p7] at d'
            rw [w]
            exact d'
          · have hi : i = sv ρ m1.2.2 := by omega
            rw [w, hkk, hkg, hi]
            rw [ehi] at e1
            rw [g1, egi] at e2
            exact Int32.toInt_inj.mp (by rw [e1, e2, ← hv, v2'])
theorem qjs_ok {m : Nat × sE × sE} (hG : sG pReg qG h) (hM : sMtQ pReg gv ρ ρ0 S loc stk h) (hj : qjs S m = some S') : ∃ ρ', sMtQ pReg gv ρ' ρ0 S' loc stk h := by
  unfold qjs at hj
  split at hj
  case isTrue hc =>
    cases hj
    refine ⟨ρ, ?_⟩
    rw [Bool.or_eq_true, Bool.or_eq_true] at hc
    rcases hc with hc | hc | hc
    · have q := qje_ok hM hc
      exact qad_ok hM q.1 q.2
    · obtain ⟨m1, hm, hx⟩ := List.any_eq_true.mp hc
      have q := qjh_ok hM hm hx
      exact qad_ok hM q.1 q.2
    · obtain ⟨m1, hm, hx⟩ := List.any_eq_true.mp hc
      have q := qjc_ok hM hm hx
      exact qad_ok hM q.1 q.2
  case isFalse =>
    obtain ⟨m1, hm, hx⟩ := List.exists_of_findSome?_eq_some hj
    exact qjx_ok hG hM hm hx
theorem qjl_ok (hG : sG pReg qG h) : ∀ {l : List (Nat × sE × sE)} {S S' : sS} {ρ : Nat → Int}, sMtQ pReg gv ρ ρ0 S loc stk h → qjl l S = some S' → ∃ ρ', sMtQ pReg gv ρ' ρ0 S' loc stk h
  | [], S, S', ρ, hM, hj => by
    cases hj
    exact ⟨ρ, hM⟩
  | m :: l, S, S', ρ, hM, hj => by
    unfold qjl at hj
    cases e : qjs S m with
    | none => rw [e] at hj; cases hj
    | some T =>
      rw [e] at hj
      obtain ⟨ρ1, M1⟩ := qjs_ok hG hM e
      exact qjl_ok hG M1 hj
/-- a rule by agreements laid one behind another -/
theorem prulA {Q : sQ} (l : List (Nat × sE × sE)) (hd : (match qjl l (sAs Q.2.1) with
    | some S => Q.2.2.1.any (fun X => pxrQ pSin qG Q.2.1.2.1.length X S)
    | none => false) = true) : pRulQ pReg qG gv Q := by
  intro loc h ρ ρ0 hG hM
  cases e : qjl l (sAs Q.2.1) with
  | none => rw [e] at hd; cases hd
  | some S =>
    rw [e] at hd
    obtain ⟨ρ1, M1⟩ := qjl_ok hG hM e
    obtain ⟨X, hX, hx⟩ := List.any_eq_true.mp hd
    exact ⟨X, hX, (pxr_okQ pSing pCell hG M1 hx).1⟩
end QAGR
