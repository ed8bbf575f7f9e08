/-! a start and an end, over the tables with ghosts (as in 59.b, 59.c) -/
noncomputable def pvr (gv : Nat → zH → Int) (ρ : Nat → Int) (loc : zL) (h : zH) (i : Nat) (v : Nat × Nat × sE) : Prop := match v with
  | (0, a, _) => ∃ x, zget loc a = some (.inl x) ∧ x.toInt = ρ i
  | (1, a, _) => ∃ x, zget loc a = some (.inr (.inl x)) ∧ x.toInt = ρ i
  | (2, a, e) => smm pReg gv ρ h (a, e, sY i)
  | _ => True
theorem psvl {gv : Nat → zH → Int} {ρ : Nat → Int} {loc : zL} {h : zH} : ∀ {vs : List (Nat × Nat × sE)} {j : Nat}, yall (pvr gv ρ loc h) j vs → (∀ p ∈ svl j vs, ∃ v, zget loc p.1 = some v ∧ sm pReg ρ v p.2) ∧ (∀ m ∈ svp j vs, smm pReg gv ρ h m)
  | [], _, _ => ⟨fun p hp => (by cases hp), fun m hm => (by cases hm)⟩
  | (0, a, e) :: vs, j, hv => by
    obtain ⟨h1, h2⟩ := psvl hv.2
    refine ⟨?_, h2⟩
    intro p hp
    rcases List.mem_cons.mp hp with rfl | hp
    · obtain ⟨x, e1, e2⟩ := hv.1
      exact ⟨_, e1, by show x.toInt = _; rw [sY_v]; exact e2⟩
    · exact h1 p hp
  | (1, a, e) :: vs, j, hv => by
    obtain ⟨h1, h2⟩ := psvl hv.2
    refine ⟨?_, h2⟩
    intro p hp
    rcases List.mem_cons.mp hp with rfl | hp
    · obtain ⟨x, e1, e2⟩ := hv.1
      exact ⟨_, e1, by show x.toInt = _; rw [sY_v]; exact e2⟩
    · exact h1 p hp
  | (2, a, e) :: vs, j, hv => by
    obtain ⟨h1, h2⟩ := psvl hv.2
    refine ⟨h1, ?_⟩
    intro m hm
    rcases List.mem_cons.mp hm with rfl | hm
    · exact hv.1
    · exact h2 m hm
  | (k + 3, a, e) :: vs, j, hv => by
    have e1 : svl j ((k + 3, a, e) :: vs) = svl (j + 1) vs := by
      rw [svl, if_neg (by show ¬ k + 3 = 0; omega), if_neg (by show ¬ k + 3 = 1; omega)]
    have e2 : svp j ((k + 3, a, e) :: vs) = svp (j + 1) vs := by
      rw [svp, if_neg (by show ¬ k + 3 = 2; omega)]
    rw [e1, e2]
    exact psvl hv.2
noncomputable def prf (loc : zL) (_ : Nat) (p : Nat × Nat) : Prop := ∃ k, zget loc p.1 = some (.inr (.inr k)) ∧ pReg k = p.2
section PMK
variable {gv : Nat → zH → Int} {ρ ρ0 : Nat → Int} {loc : zL} {h : zH} {A : sA}
theorem pmkk (h1 : yall (prf loc) 0 A.1) (h2 : yall (pvr gv ρ loc h) 0 A.2.1) (h3 : yall (ybd ρ) 0 A.2.2.1) (h4 : yall (yct ρ) 0 A.2.2.2.1) (h5 : yall (yet ρ ρ0) 0 A.2.2.2.2.1) (h6 : ρ0 0 = sv ρ A.2.2.2.2.2) : sMt pReg gv ρ ρ0 (sAs A) loc [] h := by
  obtain ⟨l1, l2⟩ := psvl h2
  refine ⟨?_, trivial, l2, ?_, ?_, ?_⟩
  · intro p hp
    rcases List.mem_append.mp hp with hp | hp
    · obtain ⟨y, hy, rfl⟩ := List.mem_map.mp hp
      obtain ⟨j, hj⟩ := List.getElem?_of_mem hy
      obtain ⟨k, e1, e2⟩ := yall_get h1 j y hj
      exact ⟨_, e1, e2⟩
    · exact l1 p hp
  · intro j b hb
    have := yall_get h3 j b hb
    rw [Nat.zero_add] at this
    exact this
  · intro c hc
    obtain ⟨j, hj⟩ := List.getElem?_of_mem hc
    exact yall_get h4 j c hj
  · intro p hp
    rcases List.mem_cons.mp hp with rfl | hp
    · exact h6
    · obtain ⟨y, hy, rfl⟩ := List.mem_map.mp hp
      obtain ⟨j, hj⟩ := List.getElem?_of_mem hy
      have := yall_get h5 j y hj
      show ρ0 (y.1 + 1) = sv ρ (sY y.2)
      rw [sY_v]
      exact this
end PMK
theorem psm_p {gv : Nat → zH → Int} {ρ : Nat → Int} {h : zH} {r k : Nat} {e v : sE} (hr : r < 1000) (hk : pReg k = r) (hs : pSin r = true) (i : Nat) (hi : sv ρ e = i) (hv : yv h k i = sv ρ v) : smm pReg gv ρ h (r, e, v) := by
  unfold smm
  rw [if_pos hr]
  refine ⟨by show 0 ≤ sv ρ e; rw [hi]; omega, ?_⟩
  intro k' hk'
  have : k' = k := pSing k k' (by rw [hk]; exact hs) (hk'.trans hk.symm)
  subst this
  show (h.1 k' (sv ρ e).toNat).toInt = _
  rw [hi]
  exact hv
theorem psm_u {gv : Nat → zH → Int} {ρ : Nat → Int} {h : zH} {r k : Nat} {e v : sE} (hr : r < 1000) (hk : pReg k = r) (hm : smm pReg gv ρ h (r, e, v)) (i : Nat) (hi : sv ρ e = i) : yv h k i = sv ρ v := by
  unfold smm at hm
  rw [if_pos hr] at hm
  have := hm.2 k hk
  have e2 : (sv ρ e).toNat = i := by rw [hi]; rfl
  have e3 : (h.1 k (sv ρ e).toNat).toInt = sv ρ v := this
  rw [e2] at e3
  exact e3
theorem psm_gu {gv : Nat → zH → Int} {ρ : Nat → Int} {h : zH} {a : Nat} {e v : sE} (hm : smm pReg gv ρ h (1000 + a, e, v)) : gv a h = sv ρ v := by
  unfold smm at hm
  rw [if_neg (by show ¬ 1000 + a < 1000; omega)] at hm
  have hm : gv (1000 + a - 1000) h = sv ρ v := hm
  rw [Nat.add_sub_cancel_left] at hm
  exact hm
noncomputable def pmx (gv : Nat → zH → Int) (ρ : Nat → Int) (h : zH) (_ : Nat) (m : Nat × sE × sE) : Prop := smm pReg gv ρ h m
theorem pexU {gv : Nat → zH → Int} {n : Nat} {X : sX} {ρ0 : Nat → Int} {r : Option zV} {h : zH} (hx : sEx pReg gv n X ρ0 r h) : ∃ ρx : Nat → Int, (∀ j, j < n → ρx j = ρ0 (j + 1)) ∧ yall (ybx ρx n) 0 X.2.2.1 ∧ yall (yct ρx) 0 X.2.2.2.1 ∧ yall (pmx gv ρx h) 0 X.2.1 ∧ srt pReg ρx X.1 r := by
  obtain ⟨ρx, a, b, c, d, e⟩ := hx
  refine ⟨ρx, a, ?_, ?_, ?_, e⟩
  · refine yall_mk fun j x q => ?_
    rw [Nat.zero_add]
    exact b j x q
  · exact yall_mk fun j x q => c x (List.mem_of_getElem? q)
  · exact yall_mk fun j x q => d x (List.mem_of_getElem? q)
theorem pone {gv : Nat → zH → Int} {n : Nat} {Xs : List sX} {ρ0 : Nat → Int} {r : Option zV} {h : zH} {G : Prop} (hx : ∃ X ∈ Xs, sEx pReg gv n X ρ0 r h) (f : yall (fun _ X => sEx pReg gv n X ρ0 r h → G) 0 Xs) : G := by
  obtain ⟨X, hX, hE⟩ := hx
  obtain ⟨j, hj⟩ := List.getElem?_of_mem hX
  exact yall_get f j X hj hE
noncomputable def pL0 (L : List Int) : Nat → Int
  | 0 => 0
  | j + 1 => pL L j
theorem pGo {Q : sQ} (hQ : pS Q) {args : List zV} {h h' : zH} {L : List Int} {m d : Nat} {r : Option zV} (hG : sG pReg pG h) (hM : sMt pReg pgv (pL L) (pL0 L) (sAs Q.2.1) (zent 0 args) [] h) (hrun : yrun m d Q.1 args h = some (r, h')) : sG pReg pG h' ∧ sF pReg Q.2.2.2.1 h h' ∧ ∃ X ∈ Q.2.2.1, sEx pReg pgv Q.2.1.2.1.length X (pL0 L) r h' := hQ d args h _ _ hG hM m r h' hrun
set_option maxHeartbeats 1000000 in
theorem pe_cEnd {h h' : zH} {a : Int32} {x : Int32} {m d : Nat} (hG : sG pReg pG h) (hb0 : ((-2147483648) : Int) ≤ a.toInt ∧ a.toInt ≤ 2147483647) (hb1 : (0 : Int) ≤ (h.1 353 1).toInt ∧ (h.1 353 1).toInt ≤ 240) (hrun : yrun m d 49 [.inr (.inr 406), .inl a] h = some (some (.inl x), h')) : sG pReg pG h' ∧ sF pReg [(41, 1, 1)] h h' ∧ ((x.toInt = (1 + 0 : Int) ∧ (h'.1 353 1).toInt = (0 + (1 * a.toInt + 0) : Int) ∧ (0 + ((-1) * a.toInt + 0) : Int) ≤ 0 ∧ (0 + (1 * a.toInt + ((-1) * (h.1 353 1).toInt + 0)) : Int) ≤ 0) ∨ (x.toInt = (0 + 0 : Int) ∧ (h'.1 353 1).toInt = (0 + (1 * (h.1 353 1).toInt + 0) : Int) ∧ (1 + (1 * a.toInt + 0) : Int) ≤ 0) ∨ (x.toInt = (0 + 0 : Int) ∧ (h'.1 353 1).toInt = (0 + (1 * (h.1 353 1).toInt + 0) : Int) ∧ (1 + ((-1) * a.toInt + (1 * (h.1 353 1).toInt + 0)) : Int) ≤ 0)) := by
  have hM : sMt pReg pgv (pL [a.toInt, (h.1 353 1).toInt]) (pL0 [a.toInt, (h.1 353 1).toInt]) (sAs tcEnd.2.1) (zent 0 [.inr (.inr 406), .inl a]) [] h := pmkk (ya1 ⟨406, rfl, by decide +kernel⟩ ya0) (ya1 ⟨_, rfl, rfl⟩ (ya1 (psm_p (k := 353) (by decide) (by decide +kernel) (by decide +kernel) 1 rfl (by rw [sY_v]; rfl)) (ya0))) (ya1 hb0 (ya1 hb1 (ya0))) (ya1 (show (0 + 0 : Int) ≤ 0 by decide) (ya0)) (ya1 rfl (ya1 rfl (ya0))) rfl
  obtain ⟨g1, g2, hx⟩ := pGo tcEnd_ok hG hM hrun
  refine ⟨g1, g2, ?_⟩
  refine pone hx (ya1 ?_ (ya1 ?_ (ya1 ?_ (ya0))))
  · intro hE
    obtain ⟨ρx, e, -, ⟨k0, k1, -⟩, ⟨m0, -⟩, hr⟩ := pexU hE
    have e0 : ρx 0 = a.toInt := e 0 (by decide)
    have e1 : ρx 1 = (h.1 353 1).toInt := e 1 (by decide)
    have hr : x.toInt = (1 + 0 : Int) := hr
    have m0 : (h'.1 353 1).toInt = (0 + (1 * ρx 0 + 0) : Int) := psm_u (k := 353) (by decide) (by decide +kernel) m0 (1) rfl
    have k0 : (0 + ((-1) * ρx 0 + 0) : Int) ≤ 0 := k0
    rw [e0] at k0
    have k1 : (0 + (1 * ρx 0 + ((-1) * ρx 1 + 0)) : Int) ≤ 0 := k1
    rw [e0, e1] at k1
    exact Or.inl ⟨(by rw [hr]), (m0.trans (by rw [e0])), k0, k1⟩
  · intro hE
    obtain ⟨ρx, e, -, ⟨k0, -⟩, ⟨m0, -⟩, hr⟩ := pexU hE
    have e0 : ρx 0 = a.toInt := e 0 (by decide)
    have e1 : ρx 1 = (h.1 353 1).toInt := e 1 (by decide)
    have hr : x.toInt = (0 + 0 : Int) := hr
    have m0 : (h'.1 353 1).toInt = (0 + (1 * ρx 1 + 0) : Int) := psm_u (k := 353) (by decide) (by decide +kernel) m0 (1) rfl
    have k0 : (1 + (1 * ρx 0 + 0) : Int) ≤ 0 := k0
    rw [e0] at k0
    exact Or.inr (Or.inl ⟨(by rw [hr]), (m0.trans (by rw [e1])), k0⟩)
  · intro hE
    obtain ⟨ρx, e, -, ⟨k0, -⟩, ⟨m0, -⟩, hr⟩ := pexU hE
    have e0 : ρx 0 = a.toInt := e 0 (by decide)
    have e1 : ρx 1 = (h.1 353 1).toInt := e 1 (by decide)
    have hr : x.toInt = (0 + 0 : Int) := hr
    have m0 : (h'.1 353 1).toInt = (0 + (1 * ρx 1 + 0) : Int) := psm_u (k := 353) (by decide) (by decide +kernel) m0 (1) rfl
    have k0 : (1 + ((-1) * ρx 0 + (1 * ρx 1 + 0)) : Int) ≤ 0 := k0
    rw [e0, e1] at k0
    exact Or.inr (Or.inr (⟨(by rw [hr]), (m0.trans (by rw [e1])), k0⟩))
set_option maxHeartbeats 1000000 in
theorem pe_mEnd {h h' : zH} {a : Int32} {x : Int32} {m d : Nat} (hG : sG pReg pG h) (hb0 : ((-2147483648) : Int) ≤ a.toInt ∧ a.toInt ≤ 2147483647) (hb1 : (0 : Int) ≤ (h.1 440 2).toInt ∧ (h.1 440 2).toInt ≤ 240) (hrun : yrun m d 120 [.inr (.inr 440), .inl a] h = some (some (.inl x), h')) : sG pReg pG h' ∧ sF pReg [(120, 2, 2)] h h' ∧ ((x.toInt = (1 + 0 : Int) ∧ (h'.1 440 2).toInt = (0 + (1 * a.toInt + 0) : Int) ∧ (0 + ((-1) * a.toInt + 0) : Int) ≤ 0 ∧ (0 + (1 * a.toInt + ((-1) * (h.1 440 2).toInt + 0)) : Int) ≤ 0) ∨ (x.toInt = (0 + 0 : Int) ∧ (h'.1 440 2).toInt = (0 + (1 * (h.1 440 2).toInt + 0) : Int) ∧ (1 + (1 * a.toInt + 0) : Int) ≤ 0) ∨ (x.toInt = (0 + 0 : Int) ∧ (h'.1 440 2).toInt = (0 + (1 * (h.1 440 2).toInt + 0) : Int) ∧ (1 + ((-1) * a.toInt + (1 * (h.1 440 2).toInt + 0)) : Int) ≤ 0)) := by
  have hM : sMt pReg pgv (pL [a.toInt, (h.1 440 2).toInt]) (pL0 [a.toInt, (h.1 440 2).toInt]) (sAs tmEnd.2.1) (zent 0 [.inr (.inr 440), .inl a]) [] h := pmkk (ya1 ⟨440, rfl, by decide +kernel⟩ ya0) (ya1 ⟨_, rfl, rfl⟩ (ya1 (psm_p (k := 440) (by decide) (by decide +kernel) (by decide +kernel) 2 rfl (by rw [sY_v]; rfl)) (ya0))) (ya1 hb0 (ya1 hb1 (ya0))) (ya1 (show (0 + 0 : Int) ≤ 0 by decide) (ya0)) (ya1 rfl (ya1 rfl (ya0))) rfl
  obtain ⟨g1, g2, hx⟩ := pGo tmEnd_ok hG hM hrun
  refine ⟨g1, g2, ?_⟩
  refine pone hx (ya1 ?_ (ya1 ?_ (ya1 ?_ (ya0))))
  · intro hE
    obtain ⟨ρx, e, -, ⟨k0, k1, -⟩, ⟨m0, -⟩, hr⟩ := pexU hE
    have e0 : ρx 0 = a.toInt := e 0 (by decide)
    have e1 : ρx 1 = (h.1 440 2).toInt := e 1 (by decide)
    have hr : x.toInt = (1 + 0 : Int) := hr
    have m0 : (h'.1 440 2).toInt = (0 + (1 * ρx 0 + 0) : Int) := psm_u (k := 440) (by decide) (by decide +kernel) m0 (2) rfl
    have k0 : (0 + ((-1) * ρx 0 + 0) : Int) ≤ 0 := k0
    rw [e0] at k0
    have k1 : (0 + (1 * ρx 0 + ((-1) * ρx 1 + 0)) : Int) ≤ 0 := k1
    rw [e0, e1] at k1
    exact Or.inl ⟨(by rw [hr]), (m0.trans (by rw [e0])), k0, k1⟩
  · intro hE
    obtain ⟨ρx, e, -, ⟨k0, -⟩, ⟨m0, -⟩, hr⟩ := pexU hE
    have e0 : ρx 0 = a.toInt := e 0 (by decide)
    have e1 : ρx 1 = (h.1 440 2).toInt := e 1 (by decide)
    have hr : x.toInt = (0 + 0 : Int) := hr
    have m0 : (h'.1 440 2).toInt = (0 + (1 * ρx 1 + 0) : Int) := psm_u (k := 440) (by decide) (by decide +kernel) m0 (2) rfl
    have k0 : (1 + (1 * ρx 0 + 0) : Int) ≤ 0 := k0
    rw [e0] at k0
    exact Or.inr (Or.inl ⟨(by rw [hr]), (m0.trans (by rw [e1])), k0⟩)
  · intro hE
    obtain ⟨ρx, e, -, ⟨k0, -⟩, ⟨m0, -⟩, hr⟩ := pexU hE
    have e0 : ρx 0 = a.toInt := e 0 (by decide)
    have e1 : ρx 1 = (h.1 440 2).toInt := e 1 (by decide)
    have hr : x.toInt = (0 + 0 : Int) := hr
    have m0 : (h'.1 440 2).toInt = (0 + (1 * ρx 1 + 0) : Int) := psm_u (k := 440) (by decide) (by decide +kernel) m0 (2) rfl
    have k0 : (1 + ((-1) * ρx 0 + (1 * ρx 1 + 0)) : Int) ≤ 0 := k0
    rw [e0, e1] at k0
    exact Or.inr (Or.inr (⟨(by rw [hr]), (m0.trans (by rw [e1])), k0⟩))
set_option maxHeartbeats 1000000 in
theorem pe_cFaultF {h h' : zH} {a : Int32} {x : Int32} {m d : Nat} (hG : sG pReg pG h) (hb0 : (0 : Int) ≤ a.toInt ∧ a.toInt ≤ 0) (hb1 : (1 : Int) ≤ (pgv 0 h) ∧ (pgv 0 h) ≤ 1) (hb2 : (1 : Int) ≤ (pgv 20 h) ∧ (pgv 20 h) ≤ 1) (hb3 : (0 : Int) ≤ (h.1 353 1).toInt ∧ (h.1 353 1).toInt ≤ 240) (hb4 : ((-241) : Int) ≤ (h.1 533 0).toInt ∧ (h.1 533 0).toInt ≤ 240) (hb5 : (0 : Int) ≤ (h.1 541 0).toInt ∧ (h.1 541 0).toInt ≤ 1) (hb6 : (0 : Int) ≤ (h.1 540 0).toInt ∧ (h.1 540 0).toInt ≤ 6) (hb7 : (1 : Int) ≤ (h.1 532 0).toInt ∧ (h.1 532 0).toInt ≤ 1) (hrun : yrun m d 51 [.inr (.inr 406), .inl a] h = some (some (.inl x), h')) : sG pReg pG h' ∧ sF pReg [(41, 2, 2), (46, 4, 4), (46, 5, 5), (45, 0, 3), (42, 0, 3), (951, 0, 3), (952, 0, 3), (953, 0, 3), (954, 0, 3), (955, 0, 3), (956, 0, 3)] h h' ∧ ((x.toInt = ((-1) + ((-1) * (h.1 533 0).toInt + 0) : Int) ∧ (1 + (1 * (h.1 533 0).toInt + 0) : Int) ≤ 0 ∧ ((-1) + ((-1) * (h.1 353 1).toInt + ((-1) * (h.1 533 0).toInt + 0)) : Int) ≤ 0) ∨ (x.toInt = (0 + (1 * (h.1 533 0).toInt + 0) : Int) ∧ (0 + ((-1) * (h.1 353 1).toInt + (1 * (h.1 533 0).toInt + 0)) : Int) ≤ 0 ∧ (0 + (1 * (h.1 353 1).toInt + ((-1) * (h.1 533 0).toInt + 0)) : Int) ≤ 0 ∧ (0 + (1 * (h.1 541 0).toInt + 0) : Int) ≤ 0 ∧ (0 + ((-1) * (h.1 541 0).toInt + 0) : Int) ≤ 0) ∨ (x.toInt = ((-1) + 0 : Int) ∧ (0 + ((-1) * (h.1 533 0).toInt + 0) : Int) ≤ 0 ∧ ((-1) + (1 * (h.1 541 0).toInt + 0) : Int) ≤ 0 ∧ (1 + ((-1) * (h.1 541 0).toInt + 0) : Int) ≤ 0 ∧ (2 + ((-1) * (h.1 540 0).toInt + 0) : Int) ≤ 0)) := by
  have hM : sMt pReg pgv (pL [a.toInt, (pgv 0 h), (pgv 20 h), (h.1 353 1).toInt, (h.1 533 0).toInt, (h.1 541 0).toInt, (h.1 540 0).toInt, (h.1 532 0).toInt]) (pL0 [a.toInt, (pgv 0 h), (pgv 20 h), (h.1 353 1).toInt, (h.1 533 0).toInt, (h.1 541 0).toInt, (h.1 540 0).toInt, (h.1 532 0).toInt]) (sAs tcFaultF.2.1) (zent 0 [.inr (.inr 406), .inl a]) [] h := pmkk (ya1 ⟨406, rfl, by decide +kernel⟩ ya0) (ya1 ⟨_, rfl, rfl⟩ (ya1 (show pgv 0 h = sv (pL [a.toInt, (pgv 0 h), (pgv 20 h), (h.1 353 1).toInt, (h.1 533 0).toInt, (h.1 541 0).toInt, (h.1 540 0).toInt, (h.1 532 0).toInt]) (sY 1) by rw [sY_v]; rfl) (ya1 (show pgv 20 h = sv (pL [a.toInt, (pgv 0 h), (pgv 20 h), (h.1 353 1).toInt, (h.1 533 0).toInt, (h.1 541 0).toInt, (h.1 540 0).toInt, (h.1 532 0).toInt]) (sY 2) by rw [sY_v]; rfl) (ya1 (psm_p (k := 353) (by decide) (by decide +kernel) (by decide +kernel) 1 rfl (by rw [sY_v]; rfl)) (ya1 (psm_p (k := 533) (by decide) (by decide +kernel) (by decide +kernel) 0 rfl (by rw [sY_v]; rfl)) (ya1 (psm_p (k := 541) (by decide) (by decide +kernel) (by decide +kernel) 0 rfl (by rw [sY_v]; rfl)) (ya1 (psm_p (k := 540) (by decide) (by decide +kernel) (by decide +kernel) 0 rfl (by rw [sY_v]; rfl)) (ya1 (psm_p (k := 532) (by decide) (by decide +kernel) (by decide +kernel) 0 rfl (by rw [sY_v]; rfl)) (ya0))))))))) (ya1 hb0 (ya1 hb1 (ya1 hb2 (ya1 hb3 (ya1 hb4 (ya1 hb5 (ya1 hb6 (ya1 hb7 (ya0))))))))) (ya1 (show (0 + 0 : Int) ≤ 0 by decide) (ya0)) (ya1 rfl (ya1 rfl (ya1 rfl (ya1 rfl (ya1 rfl (ya1 rfl (ya1 rfl (ya1 rfl (ya0))))))))) rfl
  obtain ⟨g1, g2, hx⟩ := pGo tcFaultF_ok hG hM hrun
  refine ⟨g1, g2, ?_⟩
  refine pone hx (ya1 ?_ (ya1 ?_ (ya1 ?_ (ya0))))
  · intro hE
    obtain ⟨ρx, e, -, ⟨k0, k1, -⟩, -, hr⟩ := pexU hE
    have e0 : ρx 0 = a.toInt := e 0 (by decide)
    have e1 : ρx 1 = (pgv 0 h) := e 1 (by decide)
    have e2 : ρx 2 = (pgv 20 h) := e 2 (by decide)
    have e3 : ρx 3 = (h.1 353 1).toInt := e 3 (by decide)
    have e4 : ρx 4 = (h.1 533 0).toInt := e 4 (by decide)
    have e5 : ρx 5 = (h.1 541 0).toInt := e 5 (by decide)
    have e6 : ρx 6 = (h.1 540 0).toInt := e 6 (by decide)
    have e7 : ρx 7 = (h.1 532 0).toInt := e 7 (by decide)
    have hr : x.toInt = ((-1) + ((-1) * ρx 4 + 0) : Int) := hr
    have k0 : (1 + (1 * ρx 4 + 0) : Int) ≤ 0 := k0
    rw [e4] at k0
    have k1 : ((-1) + ((-1) * ρx 3 + ((-1) * ρx 4 + 0)) : Int) ≤ 0 := k1
    rw [e3, e4] at k1
    exact Or.inl ⟨(by rw [hr, e4]), k0, k1⟩
  · intro hE
    obtain ⟨ρx, e, -, ⟨k0, k1, k2, k3, -⟩, -, hr⟩ := pexU hE
    have e0 : ρx 0 = a.toInt := e 0 (by decide)
    have e1 : ρx 1 = (pgv 0 h) := e 1 (by decide)
    have e2 : ρx 2 = (pgv 20 h) := e 2 (by decide)
    have e3 : ρx 3 = (h.1 353 1).toInt := e 3 (by decide)
    have e4 : ρx 4 = (h.1 533 0).toInt := e 4 (by decide)
    have e5 : ρx 5 = (h.1 541 0).toInt := e 5 (by decide)
    have e6 : ρx 6 = (h.1 540 0).toInt := e 6 (by decide)
    have e7 : ρx 7 = (h.1 532 0).toInt := e 7 (by decide)
    have hr : x.toInt = (0 + (1 * ρx 4 + 0) : Int) := hr
    have k0 : (0 + ((-1) * ρx 3 + (1 * ρx 4 + 0)) : Int) ≤ 0 := k0
    rw [e3, e4] at k0
    have k1 : (0 + (1 * ρx 3 + ((-1) * ρx 4 + 0)) : Int) ≤ 0 := k1
    rw [e3, e4] at k1
    have k2 : (0 + (1 * ρx 5 + 0) : Int) ≤ 0 := k2
    rw [e5] at k2
    have k3 : (0 + ((-1) * ρx 5 + 0) : Int) ≤ 0 := k3
    rw [e5] at k3
    exact Or.inr (Or.inl ⟨(by rw [hr, e4]), k0, k1, k2, k3⟩)
  · intro hE
    obtain ⟨ρx, e, -, ⟨k0, k1, k2, k3, -⟩, -, hr⟩ := pexU hE
    have e0 : ρx 0 = a.toInt := e 0 (by decide)
    have e1 : ρx 1 = (pgv 0 h) := e 1 (by decide)
    have e2 : ρx 2 = (pgv 20 h) := e 2 (by decide)
    have e3 : ρx 3 = (h.1 353 1).toInt := e 3 (by decide)
    have e4 : ρx 4 = (h.1 533 0).toInt := e 4 (by decide)
    have e5 : ρx 5 = (h.1 541 0).toInt := e 5 (by decide)
    have e6 : ρx 6 = (h.1 540 0).toInt := e 6 (by decide)
    have e7 : ρx 7 = (h.1 532 0).toInt := e 7 (by decide)
    have hr : x.toInt = ((-1) + 0 : Int) := hr
    have k0 : (0 + ((-1) * ρx 4 + 0) : Int) ≤ 0 := k0
    rw [e4] at k0
    have k1 : ((-1) + (1 * ρx 5 + 0) : Int) ≤ 0 := k1
    rw [e5] at k1
    have k2 : (1 + ((-1) * ρx 5 + 0) : Int) ≤ 0 := k2
    rw [e5] at k2
    have k3 : (2 + ((-1) * ρx 6 + 0) : Int) ≤ 0 := k3
    rw [e6] at k3
    exact Or.inr (Or.inr (⟨(by rw [hr]), k0, k1, k2, k3⟩))
set_option maxHeartbeats 1000000 in
theorem pe_cFaultL {h h' : zH} {a : Int32} {x : Int32} {m d : Nat} (hG : sG pReg pG h) (hb0 : (1 : Int) ≤ a.toInt ∧ a.toInt ≤ 1) (hb1 : (1 : Int) ≤ (pgv 0 h) ∧ (pgv 0 h) ≤ 1) (hb2 : (0 : Int) ≤ (h.1 353 1).toInt ∧ (h.1 353 1).toInt ≤ 240) (hb3 : ((-241) : Int) ≤ (h.1 514 0).toInt ∧ (h.1 514 0).toInt ≤ 240) (hrun : yrun m d 51 [.inr (.inr 406), .inl a] h = some (some (.inl x), h')) : sG pReg pG h' ∧ sF pReg [(41, 2, 2), (48, 2, 2), (47, 0, 241)] h h' ∧ ((x.toInt = ((-1) + 0 : Int) ∧ (0 + ((-1) * (h.1 514 0).toInt + 0) : Int) ≤ 0) ∨ (x.toInt = ((-1) + ((-1) * (h.1 514 0).toInt + 0) : Int) ∧ (1 + (1 * (h.1 514 0).toInt + 0) : Int) ≤ 0)) := by
  have hM : sMt pReg pgv (pL [a.toInt, (pgv 0 h), (h.1 353 1).toInt, (h.1 514 0).toInt]) (pL0 [a.toInt, (pgv 0 h), (h.1 353 1).toInt, (h.1 514 0).toInt]) (sAs tcFaultL.2.1) (zent 0 [.inr (.inr 406), .inl a]) [] h := pmkk (ya1 ⟨406, rfl, by decide +kernel⟩ ya0) (ya1 ⟨_, rfl, rfl⟩ (ya1 (show pgv 0 h = sv (pL [a.toInt, (pgv 0 h), (h.1 353 1).toInt, (h.1 514 0).toInt]) (sY 1) by rw [sY_v]; rfl) (ya1 (psm_p (k := 353) (by decide) (by decide +kernel) (by decide +kernel) 1 rfl (by rw [sY_v]; rfl)) (ya1 (psm_p (k := 514) (by decide) (by decide +kernel) (by decide +kernel) 0 rfl (by rw [sY_v]; rfl)) (ya0))))) (ya1 hb0 (ya1 hb1 (ya1 hb2 (ya1 hb3 (ya0))))) (ya1 (show (0 + 0 : Int) ≤ 0 by decide) (ya0)) (ya1 rfl (ya1 rfl (ya1 rfl (ya1 rfl (ya0))))) rfl
  obtain ⟨g1, g2, hx⟩ := pGo tcFaultL_ok hG hM hrun
  refine ⟨g1, g2, ?_⟩
  refine pone hx (ya1 ?_ (ya1 ?_ (ya0)))
  · intro hE
    obtain ⟨ρx, e, -, ⟨k0, -⟩, -, hr⟩ := pexU hE
    have e0 : ρx 0 = a.toInt := e 0 (by decide)
    have e1 : ρx 1 = (pgv 0 h) := e 1 (by decide)
    have e2 : ρx 2 = (h.1 353 1).toInt := e 2 (by decide)
    have e3 : ρx 3 = (h.1 514 0).toInt := e 3 (by decide)
    have hr : x.toInt = ((-1) + 0 : Int) := hr
    have k0 : (0 + ((-1) * ρx 3 + 0) : Int) ≤ 0 := k0
    rw [e3] at k0
    exact Or.inl ⟨(by rw [hr]), k0⟩
  · intro hE
    obtain ⟨ρx, e, -, ⟨k0, -⟩, -, hr⟩ := pexU hE
    have e0 : ρx 0 = a.toInt := e 0 (by decide)
    have e1 : ρx 1 = (pgv 0 h) := e 1 (by decide)
    have e2 : ρx 2 = (h.1 353 1).toInt := e 2 (by decide)
    have e3 : ρx 3 = (h.1 514 0).toInt := e 3 (by decide)
    have hr : x.toInt = ((-1) + ((-1) * ρx 3 + 0) : Int) := hr
    have k0 : (1 + (1 * ρx 3 + 0) : Int) ≤ 0 := k0
    rw [e3] at k0
    exact Or.inr (⟨(by rw [hr, e3]), k0⟩)
set_option maxHeartbeats 1000000 in
theorem pe_cFaultX0 {h h' : zH} {a : Int32} {x : Int32} {m d : Nat} (hG : sG pReg pG h) (hb0 : ((-2147483648) : Int) ≤ a.toInt ∧ a.toInt ≤ (-1)) (hrun : yrun m d 51 [.inr (.inr 406), .inl a] h = some (some (.inl x), h')) : sG pReg pG h' ∧ sF pReg [] h h' ∧ ((x.toInt = ((-2) + 0 : Int))) := by
  have hM : sMt pReg pgv (pL [a.toInt]) (pL0 [a.toInt]) (sAs tcFaultX0.2.1) (zent 0 [.inr (.inr 406), .inl a]) [] h := pmkk (ya1 ⟨406, rfl, by decide +kernel⟩ ya0) (ya1 ⟨_, rfl, rfl⟩ (ya0)) (ya1 hb0 (ya0)) (ya1 (show (0 + 0 : Int) ≤ 0 by decide) (ya0)) (ya1 rfl (ya0)) rfl
  obtain ⟨g1, g2, hx⟩ := pGo tcFaultX0_ok hG hM hrun
  refine ⟨g1, g2, ?_⟩
  refine pone hx (ya1 ?_ (ya0))
  · intro hE
    obtain ⟨ρx, e, -, -, -, hr⟩ := pexU hE
    have e0 : ρx 0 = a.toInt := e 0 (by decide)
    have hr : x.toInt = ((-2) + 0 : Int) := hr
    exact hr
set_option maxHeartbeats 1000000 in
theorem pe_cFaultX1 {h h' : zH} {a : Int32} {x : Int32} {m d : Nat} (hG : sG pReg pG h) (hb0 : (2 : Int) ≤ a.toInt ∧ a.toInt ≤ 2147483647) (hrun : yrun m d 51 [.inr (.inr 406), .inl a] h = some (some (.inl x), h')) : sG pReg pG h' ∧ sF pReg [] h h' ∧ ((x.toInt = ((-2) + 0 : Int))) := by
  have hM : sMt pReg pgv (pL [a.toInt]) (pL0 [a.toInt]) (sAs tcFaultX1.2.1) (zent 0 [.inr (.inr 406), .inl a]) [] h := pmkk (ya1 ⟨406, rfl, by decide +kernel⟩ ya0) (ya1 ⟨_, rfl, rfl⟩ (ya0)) (ya1 hb0 (ya0)) (ya1 (show (0 + 0 : Int) ≤ 0 by decide) (ya0)) (ya1 rfl (ya0)) rfl
  obtain ⟨g1, g2, hx⟩ := pGo tcFaultX1_ok hG hM hrun
  refine ⟨g1, g2, ?_⟩
  refine pone hx (ya1 ?_ (ya0))
  · intro hE
    obtain ⟨ρx, e, -, -, -, hr⟩ := pexU hE
    have e0 : ρx 0 = a.toInt := e 0 (by decide)
    have hr : x.toInt = ((-2) + 0 : Int) := hr
    exact hr
set_option maxHeartbeats 1000000 in
theorem pe_mFaultF {h h' : zH} {a : Int32} {x : Int32} {m d : Nat} (hG : sG pReg pG h) (hb0 : (0 : Int) ≤ a.toInt ∧ a.toInt ≤ 0) (hb1 : (1 : Int) ≤ (pgv 13 h) ∧ (pgv 13 h) ≤ 1) (hb2 : (1 : Int) ≤ (pgv 20 h) ∧ (pgv 20 h) ≤ 1) (hb3 : (0 : Int) ≤ (h.1 440 2).toInt ∧ (h.1 440 2).toInt ≤ 240) (hb4 : ((-241) : Int) ≤ (h.1 533 0).toInt ∧ (h.1 533 0).toInt ≤ 240) (hb5 : (0 : Int) ≤ (h.1 541 0).toInt ∧ (h.1 541 0).toInt ≤ 1) (hb6 : (0 : Int) ≤ (h.1 540 0).toInt ∧ (h.1 540 0).toInt ≤ 6) (hb7 : (1 : Int) ≤ (h.1 532 0).toInt ∧ (h.1 532 0).toInt ≤ 1) (hrun : yrun m d 121 [.inr (.inr 440), .inl a] h = some (some (.inl x), h')) : sG pReg pG h' ∧ sF pReg [(120, 3, 3), (120, 4, 4), (120, 19, 19), (97, 0, 2), (98, 0, 23)] h h' ∧ ((x.toInt = ((-1) + ((-1) * (h.1 533 0).toInt + 0) : Int) ∧ (1 + (1 * (h.1 533 0).toInt + 0) : Int) ≤ 0 ∧ ((-1) + ((-1) * (h.1 440 2).toInt + ((-1) * (h.1 533 0).toInt + 0)) : Int) ≤ 0) ∨ (x.toInt = (0 + (1 * (h.1 533 0).toInt + 0) : Int) ∧ (0 + ((-1) * (h.1 440 2).toInt + (1 * (h.1 533 0).toInt + 0)) : Int) ≤ 0 ∧ (0 + (1 * (h.1 440 2).toInt + ((-1) * (h.1 533 0).toInt + 0)) : Int) ≤ 0 ∧ (0 + (1 * (h.1 541 0).toInt + 0) : Int) ≤ 0 ∧ (0 + ((-1) * (h.1 541 0).toInt + 0) : Int) ≤ 0) ∨ (x.toInt = ((-1) + 0 : Int) ∧ (0 + ((-1) * (h.1 533 0).toInt + 0) : Int) ≤ 0 ∧ ((-1) + (1 * (h.1 541 0).toInt + 0) : Int) ≤ 0 ∧ (1 + ((-1) * (h.1 541 0).toInt + 0) : Int) ≤ 0 ∧ (2 + ((-1) * (h.1 540 0).toInt + 0) : Int) ≤ 0)) := by
  have hM : sMt pReg pgv (pL [a.toInt, (pgv 13 h), (pgv 20 h), (h.1 440 2).toInt, (h.1 533 0).toInt, (h.1 541 0).toInt, (h.1 540 0).toInt, (h.1 532 0).toInt]) (pL0 [a.toInt, (pgv 13 h), (pgv 20 h), (h.1 440 2).toInt, (h.1 533 0).toInt, (h.1 541 0).toInt, (h.1 540 0).toInt, (h.1 532 0).toInt]) (sAs tmFaultF.2.1) (zent 0 [.inr (.inr 440), .inl a]) [] h := pmkk (ya1 ⟨440, rfl, by decide +kernel⟩ ya0) (ya1 ⟨_, rfl, rfl⟩ (ya1 (show pgv 13 h = sv (pL [a.toInt, (pgv 13 h), (pgv 20 h), (h.1 440 2).toInt, (h.1 533 0).toInt, (h.1 541 0).toInt, (h.1 540 0).toInt, (h.1 532 0).toInt]) (sY 1) by rw [sY_v]; rfl) (ya1 (show pgv 20 h = sv (pL [a.toInt, (pgv 13 h), (pgv 20 h), (h.1 440 2).toInt, (h.1 533 0).toInt, (h.1 541 0).toInt, (h.1 540 0).toInt, (h.1 532 0).toInt]) (sY 2) by rw [sY_v]; rfl) (ya1 (psm_p (k := 440) (by decide) (by decide +kernel) (by decide +kernel) 2 rfl (by rw [sY_v]; rfl)) (ya1 (psm_p (k := 533) (by decide) (by decide +kernel) (by decide +kernel) 0 rfl (by rw [sY_v]; rfl)) (ya1 (psm_p (k := 541) (by decide) (by decide +kernel) (by decide +kernel) 0 rfl (by rw [sY_v]; rfl)) (ya1 (psm_p (k := 540) (by decide) (by decide +kernel) (by decide +kernel) 0 rfl (by rw [sY_v]; rfl)) (ya1 (psm_p (k := 532) (by decide) (by decide +kernel) (by decide +kernel) 0 rfl (by rw [sY_v]; rfl)) (ya0))))))))) (ya1 hb0 (ya1 hb1 (ya1 hb2 (ya1 hb3 (ya1 hb4 (ya1 hb5 (ya1 hb6 (ya1 hb7 (ya0))))))))) (ya1 (show (0 + 0 : Int) ≤ 0 by decide) (ya0)) (ya1 rfl (ya1 rfl (ya1 rfl (ya1 rfl (ya1 rfl (ya1 rfl (ya1 rfl (ya1 rfl (ya0))))))))) rfl
  obtain ⟨g1, g2, hx⟩ := pGo tmFaultF_ok hG hM hrun
  refine ⟨g1, g2, ?_⟩
  refine pone hx (ya1 ?_ (ya1 ?_ (ya1 ?_ (ya0))))
  · intro hE
    obtain ⟨ρx, e, -, ⟨k0, k1, -⟩, -, hr⟩ := pexU hE
    have e0 : ρx 0 = a.toInt := e 0 (by decide)
    have e1 : ρx 1 = (pgv 13 h) := e 1 (by decide)
    have e2 : ρx 2 = (pgv 20 h) := e 2 (by decide)
    have e3 : ρx 3 = (h.1 440 2).toInt := e 3 (by decide)
    have e4 : ρx 4 = (h.1 533 0).toInt := e 4 (by decide)
    have e5 : ρx 5 = (h.1 541 0).toInt := e 5 (by decide)
    have e6 : ρx 6 = (h.1 540 0).toInt := e 6 (by decide)
    have e7 : ρx 7 = (h.1 532 0).toInt := e 7 (by decide)
    have hr : x.toInt = ((-1) + ((-1) * ρx 4 + 0) : Int) := hr
    have k0 : (1 + (1 * ρx 4 + 0) : Int) ≤ 0 := k0
    rw [e4] at k0
    have k1 : ((-1) + ((-1) * ρx 3 + ((-1) * ρx 4 + 0)) : Int) ≤ 0 := k1
    rw [e3, e4] at k1
    exact Or.inl ⟨(by rw [hr, e4]), k0, k1⟩
  · intro hE
    obtain ⟨ρx, e, -, ⟨k0, k1, k2, k3, -⟩, -, hr⟩ := pexU hE
    have e0 : ρx 0 = a.toInt := e 0 (by decide)
    have e1 : ρx 1 = (pgv 13 h) := e 1 (by decide)
    have e2 : ρx 2 = (pgv 20 h) := e 2 (by decide)
    have e3 : ρx 3 = (h.1 440 2).toInt := e 3 (by decide)
    have e4 : ρx 4 = (h.1 533 0).toInt := e 4 (by decide)
    have e5 : ρx 5 = (h.1 541 0).toInt := e 5 (by decide)
    have e6 : ρx 6 = (h.1 540 0).toInt := e 6 (by decide)
    have e7 : ρx 7 = (h.1 532 0).toInt := e 7 (by decide)
    have hr : x.toInt = (0 + (1 * ρx 4 + 0) : Int) := hr
    have k0 : (0 + ((-1) * ρx 3 + (1 * ρx 4 + 0)) : Int) ≤ 0 := k0
    rw [e3, e4] at k0
    have k1 : (0 + (1 * ρx 3 + ((-1) * ρx 4 + 0)) : Int) ≤ 0 := k1
    rw [e3, e4] at k1
    have k2 : (0 + (1 * ρx 5 + 0) : Int) ≤ 0 := k2
    rw [e5] at k2
    have k3 : (0 + ((-1) * ρx 5 + 0) : Int) ≤ 0 := k3
    rw [e5] at k3
    exact Or.inr (Or.inl ⟨(by rw [hr, e4]), k0, k1, k2, k3⟩)
  · intro hE
    obtain ⟨ρx, e, -, ⟨k0, k1, k2, k3, -⟩, -, hr⟩ := pexU hE
    have e0 : ρx 0 = a.toInt := e 0 (by decide)
    have e1 : ρx 1 = (pgv 13 h) := e 1 (by decide)
    have e2 : ρx 2 = (pgv 20 h) := e 2 (by decide)
    have e3 : ρx 3 = (h.1 440 2).toInt := e 3 (by decide)
    have e4 : ρx 4 = (h.1 533 0).toInt := e 4 (by decide)
    have e5 : ρx 5 = (h.1 541 0).toInt := e 5 (by decide)
    have e6 : ρx 6 = (h.1 540 0).toInt := e 6 (by decide)
    have e7 : ρx 7 = (h.1 532 0).toInt := e 7 (by decide)
    have hr : x.toInt = ((-1) + 0 : Int) := hr
    have k0 : (0 + ((-1) * ρx 4 + 0) : Int) ≤ 0 := k0
    rw [e4] at k0
    have k1 : ((-1) + (1 * ρx 5 + 0) : Int) ≤ 0 := k1
    rw [e5] at k1
    have k2 : (1 + ((-1) * ρx 5 + 0) : Int) ≤ 0 := k2
    rw [e5] at k2
    have k3 : (2 + ((-1) * ρx 6 + 0) : Int) ≤ 0 := k3
    rw [e6] at k3
    exact Or.inr (Or.inr (⟨(by rw [hr]), k0, k1, k2, k3⟩))
set_option maxHeartbeats 1000000 in
theorem pe_mFaultL {h h' : zH} {a : Int32} {x : Int32} {m d : Nat} (hG : sG pReg pG h) (hb0 : (1 : Int) ≤ a.toInt ∧ a.toInt ≤ 1) (hb1 : (1 : Int) ≤ (pgv 13 h) ∧ (pgv 13 h) ≤ 1) (hb2 : (0 : Int) ≤ (h.1 440 2).toInt ∧ (h.1 440 2).toInt ≤ 240) (hb3 : ((-241) : Int) ≤ (h.1 514 0).toInt ∧ (h.1 514 0).toInt ≤ 240) (hrun : yrun m d 121 [.inr (.inr 440), .inl a] h = some (some (.inl x), h')) : sG pReg pG h' ∧ sF pReg [(120, 3, 3), (120, 5, 5), (120, 4, 4), (88, 0, 2599), (89, 0, 2599), (90, 0, 4), (92, 0, 699), (93, 0, 699), (94, 0, 699), (91, 0, 4), (120, 14, 14)] h h' ∧ ((x.toInt = ((-1) + 0 : Int) ∧ (0 + ((-1) * (h.1 514 0).toInt + 0) : Int) ≤ 0) ∨ (x.toInt = ((-1) + ((-1) * (h.1 514 0).toInt + 0) : Int) ∧ (1 + (1 * (h.1 514 0).toInt + 0) : Int) ≤ 0)) := by
  have hM : sMt pReg pgv (pL [a.toInt, (pgv 13 h), (h.1 440 2).toInt, (h.1 514 0).toInt]) (pL0 [a.toInt, (pgv 13 h), (h.1 440 2).toInt, (h.1 514 0).toInt]) (sAs tmFaultL.2.1) (zent 0 [.inr (.inr 440), .inl a]) [] h := pmkk (ya1 ⟨440, rfl, by decide +kernel⟩ ya0) (ya1 ⟨_, rfl, rfl⟩ (ya1 (show pgv 13 h = sv (pL [a.toInt, (pgv 13 h), (h.1 440 2).toInt, (h.1 514 0).toInt]) (sY 1) by rw [sY_v]; rfl) (ya1 (psm_p (k := 440) (by decide) (by decide +kernel) (by decide +kernel) 2 rfl (by rw [sY_v]; rfl)) (ya1 (psm_p (k := 514) (by decide) (by decide +kernel) (by decide +kernel) 0 rfl (by rw [sY_v]; rfl)) (ya0))))) (ya1 hb0 (ya1 hb1 (ya1 hb2 (ya1 hb3 (ya0))))) (ya1 (show (0 + 0 : Int) ≤ 0 by decide) (ya0)) (ya1 rfl (ya1 rfl (ya1 rfl (ya1 rfl (ya0))))) rfl
  obtain ⟨g1, g2, hx⟩ := pGo tmFaultL_ok hG hM hrun
  refine ⟨g1, g2, ?_⟩
  refine pone hx (ya1 ?_ (ya1 ?_ (ya0)))
  · intro hE
    obtain ⟨ρx, e, -, ⟨k0, -⟩, -, hr⟩ := pexU hE
    have e0 : ρx 0 = a.toInt := e 0 (by decide)
    have e1 : ρx 1 = (pgv 13 h) := e 1 (by decide)
    have e2 : ρx 2 = (h.1 440 2).toInt := e 2 (by decide)
    have e3 : ρx 3 = (h.1 514 0).toInt := e 3 (by decide)
    have hr : x.toInt = ((-1) + 0 : Int) := hr
    have k0 : (0 + ((-1) * ρx 3 + 0) : Int) ≤ 0 := k0
    rw [e3] at k0
    exact Or.inl ⟨(by rw [hr]), k0⟩
  · intro hE
    obtain ⟨ρx, e, -, ⟨k0, -⟩, -, hr⟩ := pexU hE
    have e0 : ρx 0 = a.toInt := e 0 (by decide)
    have e1 : ρx 1 = (pgv 13 h) := e 1 (by decide)
    have e2 : ρx 2 = (h.1 440 2).toInt := e 2 (by decide)
    have e3 : ρx 3 = (h.1 514 0).toInt := e 3 (by decide)
    have hr : x.toInt = ((-1) + ((-1) * ρx 3 + 0) : Int) := hr
    have k0 : (1 + (1 * ρx 3 + 0) : Int) ≤ 0 := k0
    rw [e3] at k0
    exact Or.inr (⟨(by rw [hr, e3]), k0⟩)
set_option maxHeartbeats 1000000 in
theorem pe_mFaultX0 {h h' : zH} {a : Int32} {x : Int32} {m d : Nat} (hG : sG pReg pG h) (hb0 : ((-2147483648) : Int) ≤ a.toInt ∧ a.toInt ≤ (-1)) (hrun : yrun m d 121 [.inr (.inr 440), .inl a] h = some (some (.inl x), h')) : sG pReg pG h' ∧ sF pReg [] h h' ∧ ((x.toInt = ((-2) + 0 : Int))) := by
  have hM : sMt pReg pgv (pL [a.toInt]) (pL0 [a.toInt]) (sAs tmFaultX0.2.1) (zent 0 [.inr (.inr 440), .inl a]) [] h := pmkk (ya1 ⟨440, rfl, by decide +kernel⟩ ya0) (ya1 ⟨_, rfl, rfl⟩ (ya0)) (ya1 hb0 (ya0)) (ya1 (show (0 + 0 : Int) ≤ 0 by decide) (ya0)) (ya1 rfl (ya0)) rfl
  obtain ⟨g1, g2, hx⟩ := pGo tmFaultX0_ok hG hM hrun
  refine ⟨g1, g2, ?_⟩
  refine pone hx (ya1 ?_ (ya0))
  · intro hE
    obtain ⟨ρx, e, -, -, -, hr⟩ := pexU hE
    have e0 : ρx 0 = a.toInt := e 0 (by decide)
    have hr : x.toInt = ((-2) + 0 : Int) := hr
    exact hr
set_option maxHeartbeats 1000000 in
theorem pe_mFaultX1 {h h' : zH} {a : Int32} {x : Int32} {m d : Nat} (hG : sG pReg pG h) (hb0 : (2 : Int) ≤ a.toInt ∧ a.toInt ≤ 2147483647) (hrun : yrun m d 121 [.inr (.inr 440), .inl a] h = some (some (.inl x), h')) : sG pReg pG h' ∧ sF pReg [] h h' ∧ ((x.toInt = ((-2) + 0 : Int))) := by
  have hM : sMt pReg pgv (pL [a.toInt]) (pL0 [a.toInt]) (sAs tmFaultX1.2.1) (zent 0 [.inr (.inr 440), .inl a]) [] h := pmkk (ya1 ⟨440, rfl, by decide +kernel⟩ ya0) (ya1 ⟨_, rfl, rfl⟩ (ya0)) (ya1 hb0 (ya0)) (ya1 (show (0 + 0 : Int) ≤ 0 by decide) (ya0)) (ya1 rfl (ya0)) rfl
  obtain ⟨g1, g2, hx⟩ := pGo tmFaultX1_ok hG hM hrun
  refine ⟨g1, g2, ?_⟩
  refine pone hx (ya1 ?_ (ya0))
  · intro hE
    obtain ⟨ρx, e, -, -, -, hr⟩ := pexU hE
    have e0 : ρx 0 = a.toInt := e 0 (by decide)
    have hr : x.toInt = ((-2) + 0 : Int) := hr
    exact hr
set_option maxHeartbeats 1000000 in
theorem pe_cTextF {h h' : zH} {a : Int32} {x : Int32} {m d : Nat} (hG : sG pReg pG h) (hb0 : (0 : Int) ≤ a.toInt ∧ a.toInt ≤ 0) (hb1 : (1 : Int) ≤ (pgv 0 h) ∧ (pgv 0 h) ≤ 1) (hb2 : (1 : Int) ≤ (pgv 20 h) ∧ (pgv 20 h) ≤ 1) (hb3 : (0 : Int) ≤ (h.1 353 1).toInt ∧ (h.1 353 1).toInt ≤ 240) (hb4 : ((-241) : Int) ≤ (h.1 533 0).toInt ∧ (h.1 533 0).toInt ≤ 240) (hb5 : (0 : Int) ≤ (h.1 541 0).toInt ∧ (h.1 541 0).toInt ≤ 1) (hb6 : (0 : Int) ≤ (h.1 540 0).toInt ∧ (h.1 540 0).toInt ≤ 6) (hb7 : (1 : Int) ≤ (h.1 532 0).toInt ∧ (h.1 532 0).toInt ≤ 1) (hrun : yrun m d 91 [.inr (.inr 406), .inl a] h = some (some (.inl x), h')) : sG pReg pG h' ∧ sF pReg [(41, 2, 2), (46, 4, 4), (46, 5, 5), (45, 0, 3), (42, 0, 3), (951, 0, 3), (952, 0, 3), (953, 0, 3), (954, 0, 3), (955, 0, 3), (956, 0, 3), (56, 0, 0), (56, 1, 1), (56, 2, 2), (55, 0, 5), (24, 0, 5), (25, 0, 5), (26, 0, 5), (27, 0, 5), (28, 0, 5), (29, 0, 5), (30, 0, 59), (31, 7, 7), (31, 8, 8), (31, 9, 9), (0, 0, 5), (1, 0, 5), (2, 0, 5), (3, 0, 5), (4, 0, 5), (5, 0, 5), (6, 0, 59), (7, 7, 7), (7, 8, 8), (7, 9, 9), (86, 8, 8), (58, 2, 2), (70, 3, 3), (74, 3, 3), (41, 1, 1)] h h' ∧ ((x.toInt = (0 + (1 * (h.1 540 0).toInt + 0) : Int) ∧ (h'.1 353 1).toInt = (0 + 0 : Int) ∧ (h'.1 376 0).toInt = (0 + (1 * (h.1 540 0).toInt + 0) : Int) ∧ (0 + ((-1) * (h.1 533 0).toInt + 0) : Int) ≤ 0 ∧ ((-1) + (1 * (h.1 541 0).toInt + 0) : Int) ≤ 0 ∧ (1 + ((-1) * (h.1 541 0).toInt + 0) : Int) ≤ 0 ∧ (2 + ((-1) * (h.1 540 0).toInt + 0) : Int) ≤ 0) ∨ (x.toInt = ((-1) + 0 : Int) ∧ (h'.1 353 1).toInt = (0 + (1 * (h.1 353 1).toInt + 0) : Int) ∧ (1 + (1 * (h.1 533 0).toInt + 0) : Int) ≤ 0) ∨ (x.toInt = ((-1) + 0 : Int) ∧ (h'.1 353 1).toInt = (0 + (1 * (h.1 353 1).toInt + 0) : Int) ∧ (0 + ((-1) * (h.1 533 0).toInt + 0) : Int) ≤ 0 ∧ (0 + (1 * (h.1 541 0).toInt + 0) : Int) ≤ 0 ∧ (0 + ((-1) * (h.1 541 0).toInt + 0) : Int) ≤ 0)) := by
  have hM : sMt pReg pgv (pL [a.toInt, (pgv 0 h), (pgv 20 h), (h.1 353 1).toInt, (h.1 533 0).toInt, (h.1 541 0).toInt, (h.1 540 0).toInt, (h.1 532 0).toInt]) (pL0 [a.toInt, (pgv 0 h), (pgv 20 h), (h.1 353 1).toInt, (h.1 533 0).toInt, (h.1 541 0).toInt, (h.1 540 0).toInt, (h.1 532 0).toInt]) (sAs tcTextF.2.1) (zent 0 [.inr (.inr 406), .inl a]) [] h := pmkk (ya1 ⟨406, rfl, by decide +kernel⟩ ya0) (ya1 ⟨_, rfl, rfl⟩ (ya1 (show pgv 0 h = sv (pL [a.toInt, (pgv 0 h), (pgv 20 h), (h.1 353 1).toInt, (h.1 533 0).toInt, (h.1 541 0).toInt, (h.1 540 0).toInt, (h.1 532 0).toInt]) (sY 1) by rw [sY_v]; rfl) (ya1 (show pgv 20 h = sv (pL [a.toInt, (pgv 0 h), (pgv 20 h), (h.1 353 1).toInt, (h.1 533 0).toInt, (h.1 541 0).toInt, (h.1 540 0).toInt, (h.1 532 0).toInt]) (sY 2) by rw [sY_v]; rfl) (ya1 (psm_p (k := 353) (by decide) (by decide +kernel) (by decide +kernel) 1 rfl (by rw [sY_v]; rfl)) (ya1 (psm_p (k := 533) (by decide) (by decide +kernel) (by decide +kernel) 0 rfl (by rw [sY_v]; rfl)) (ya1 (psm_p (k := 541) (by decide) (by decide +kernel) (by decide +kernel) 0 rfl (by rw [sY_v]; rfl)) (ya1 (psm_p (k := 540) (by decide) (by decide +kernel) (by decide +kernel) 0 rfl (by rw [sY_v]; rfl)) (ya1 (psm_p (k := 532) (by decide) (by decide +kernel) (by decide +kernel) 0 rfl (by rw [sY_v]; rfl)) (ya0))))))))) (ya1 hb0 (ya1 hb1 (ya1 hb2 (ya1 hb3 (ya1 hb4 (ya1 hb5 (ya1 hb6 (ya1 hb7 (ya0))))))))) (ya1 (show (0 + 0 : Int) ≤ 0 by decide) (ya0)) (ya1 rfl (ya1 rfl (ya1 rfl (ya1 rfl (ya1 rfl (ya1 rfl (ya1 rfl (ya1 rfl (ya0))))))))) rfl
  obtain ⟨g1, g2, hx⟩ := pGo tcTextF_ok hG hM hrun
  refine ⟨g1, g2, ?_⟩
  refine pone hx (ya1 ?_ (ya1 ?_ (ya1 ?_ (ya0))))
  · intro hE
    obtain ⟨ρx, e, -, ⟨k0, k1, k2, k3, -⟩, ⟨m0, m1, -⟩, hr⟩ := pexU hE
    have e0 : ρx 0 = a.toInt := e 0 (by decide)
    have e1 : ρx 1 = (pgv 0 h) := e 1 (by decide)
    have e2 : ρx 2 = (pgv 20 h) := e 2 (by decide)
    have e3 : ρx 3 = (h.1 353 1).toInt := e 3 (by decide)
    have e4 : ρx 4 = (h.1 533 0).toInt := e 4 (by decide)
    have e5 : ρx 5 = (h.1 541 0).toInt := e 5 (by decide)
    have e6 : ρx 6 = (h.1 540 0).toInt := e 6 (by decide)
    have e7 : ρx 7 = (h.1 532 0).toInt := e 7 (by decide)
    have hr : x.toInt = (0 + (1 * ρx 6 + 0) : Int) := hr
    have m0 : (h'.1 353 1).toInt = (0 + 0 : Int) := psm_u (k := 353) (by decide) (by decide +kernel) m0 (1) rfl
    have m1 : (h'.1 376 0).toInt = (0 + (1 * ρx 6 + 0) : Int) := psm_u (k := 376) (by decide) (by decide +kernel) m1 (0) rfl
    have k0 : (0 + ((-1) * ρx 4 + 0) : Int) ≤ 0 := k0
    rw [e4] at k0
    have k1 : ((-1) + (1 * ρx 5 + 0) : Int) ≤ 0 := k1
    rw [e5] at k1
    have k2 : (1 + ((-1) * ρx 5 + 0) : Int) ≤ 0 := k2
    rw [e5] at k2
    have k3 : (2 + ((-1) * ρx 6 + 0) : Int) ≤ 0 := k3
    rw [e6] at k3
    exact Or.inl ⟨(by rw [hr, e6]), (m0.trans (by rfl)), (m1.trans (by rw [e6])), k0, k1, k2, k3⟩
  · intro hE
    obtain ⟨ρx, e, -, ⟨k0, -⟩, ⟨m0, -⟩, hr⟩ := pexU hE
    have e0 : ρx 0 = a.toInt := e 0 (by decide)
    have e1 : ρx 1 = (pgv 0 h) := e 1 (by decide)
    have e2 : ρx 2 = (pgv 20 h) := e 2 (by decide)
    have e3 : ρx 3 = (h.1 353 1).toInt := e 3 (by decide)
    have e4 : ρx 4 = (h.1 533 0).toInt := e 4 (by decide)
    have e5 : ρx 5 = (h.1 541 0).toInt := e 5 (by decide)
    have e6 : ρx 6 = (h.1 540 0).toInt := e 6 (by decide)
    have e7 : ρx 7 = (h.1 532 0).toInt := e 7 (by decide)
    have hr : x.toInt = ((-1) + 0 : Int) := hr
    have m0 : (h'.1 353 1).toInt = (0 + (1 * ρx 3 + 0) : Int) := psm_u (k := 353) (by decide) (by decide +kernel) m0 (1) rfl
    have k0 : (1 + (1 * ρx 4 + 0) : Int) ≤ 0 := k0
    rw [e4] at k0
    exact Or.inr (Or.inl ⟨(by rw [hr]), (m0.trans (by rw [e3])), k0⟩)
  · intro hE
    obtain ⟨ρx, e, -, ⟨k0, k1, k2, -⟩, ⟨m0, -⟩, hr⟩ := pexU hE
    have e0 : ρx 0 = a.toInt := e 0 (by decide)
    have e1 : ρx 1 = (pgv 0 h) := e 1 (by decide)
    have e2 : ρx 2 = (pgv 20 h) := e 2 (by decide)
    have e3 : ρx 3 = (h.1 353 1).toInt := e 3 (by decide)
    have e4 : ρx 4 = (h.1 533 0).toInt := e 4 (by decide)
    have e5 : ρx 5 = (h.1 541 0).toInt := e 5 (by decide)
    have e6 : ρx 6 = (h.1 540 0).toInt := e 6 (by decide)
    have e7 : ρx 7 = (h.1 532 0).toInt := e 7 (by decide)
    have hr : x.toInt = ((-1) + 0 : Int) := hr
    have m0 : (h'.1 353 1).toInt = (0 + (1 * ρx 3 + 0) : Int) := psm_u (k := 353) (by decide) (by decide +kernel) m0 (1) rfl
    have k0 : (0 + ((-1) * ρx 4 + 0) : Int) ≤ 0 := k0
    rw [e4] at k0
    have k1 : (0 + (1 * ρx 5 + 0) : Int) ≤ 0 := k1
    rw [e5] at k1
    have k2 : (0 + ((-1) * ρx 5 + 0) : Int) ≤ 0 := k2
    rw [e5] at k2
    exact Or.inr (Or.inr (⟨(by rw [hr]), (m0.trans (by rw [e3])), k0, k1, k2⟩))
set_option maxHeartbeats 1000000 in
theorem pe_cTextL {h h' : zH} {a : Int32} {x : Int32} {m d : Nat} (hG : sG pReg pG h) (hb0 : (1 : Int) ≤ a.toInt ∧ a.toInt ≤ 1) (hb1 : (1 : Int) ≤ (pgv 0 h) ∧ (pgv 0 h) ≤ 1) (hb2 : (0 : Int) ≤ (h.1 353 1).toInt ∧ (h.1 353 1).toInt ≤ 240) (hb3 : (0 : Int) ≤ (h.1 374 4).toInt ∧ (h.1 374 4).toInt ≤ 3) (hb4 : ((-241) : Int) ≤ (h.1 514 0).toInt ∧ (h.1 514 0).toInt ≤ 240) (hrun : yrun m d 91 [.inr (.inr 406), .inl a] h = some (some (.inl x), h')) : sG pReg pG h' ∧ sF pReg [(41, 2, 2), (48, 2, 2), (47, 0, 241), (41, 1, 1), (54, 4, 4), (51, 0, 3), (49, 0, 241)] h h' ∧ ((x.toInt = (0 + (1 * (h.1 374 4).toInt + 0) : Int) ∧ (h'.1 353 1).toInt = (0 + 0 : Int) ∧ (h'.1 374 4).toInt = (1 + (1 * (h.1 374 4).toInt + 0) : Int) ∧ (0 + ((-1) * (h.1 514 0).toInt + 0) : Int) ≤ 0) ∨ (x.toInt = ((-1) + 0 : Int) ∧ (h'.1 353 1).toInt = (0 + (1 * (h.1 353 1).toInt + 0) : Int) ∧ (h'.1 374 4).toInt = (0 + (1 * (h.1 374 4).toInt + 0) : Int) ∧ (1 + (1 * (h.1 514 0).toInt + 0) : Int) ≤ 0)) := by
  have hM : sMt pReg pgv (pL [a.toInt, (pgv 0 h), (h.1 353 1).toInt, (h.1 374 4).toInt, (h.1 514 0).toInt]) (pL0 [a.toInt, (pgv 0 h), (h.1 353 1).toInt, (h.1 374 4).toInt, (h.1 514 0).toInt]) (sAs tcTextL.2.1) (zent 0 [.inr (.inr 406), .inl a]) [] h := pmkk (ya1 ⟨406, rfl, by decide +kernel⟩ ya0) (ya1 ⟨_, rfl, rfl⟩ (ya1 (show pgv 0 h = sv (pL [a.toInt, (pgv 0 h), (h.1 353 1).toInt, (h.1 374 4).toInt, (h.1 514 0).toInt]) (sY 1) by rw [sY_v]; rfl) (ya1 (psm_p (k := 353) (by decide) (by decide +kernel) (by decide +kernel) 1 rfl (by rw [sY_v]; rfl)) (ya1 (psm_p (k := 374) (by decide) (by decide +kernel) (by decide +kernel) 4 rfl (by rw [sY_v]; rfl)) (ya1 (psm_p (k := 514) (by decide) (by decide +kernel) (by decide +kernel) 0 rfl (by rw [sY_v]; rfl)) (ya0)))))) (ya1 hb0 (ya1 hb1 (ya1 hb2 (ya1 hb3 (ya1 hb4 (ya0)))))) (ya1 (show (0 + 0 : Int) ≤ 0 by decide) (ya0)) (ya1 rfl (ya1 rfl (ya1 rfl (ya1 rfl (ya1 rfl (ya0)))))) rfl
  obtain ⟨g1, g2, hx⟩ := pGo tcTextL_ok hG hM hrun
  refine ⟨g1, g2, ?_⟩
  refine pone hx (ya1 ?_ (ya1 ?_ (ya0)))
  · intro hE
    obtain ⟨ρx, e, -, ⟨k0, -⟩, ⟨m0, m1, -⟩, hr⟩ := pexU hE
    have e0 : ρx 0 = a.toInt := e 0 (by decide)
    have e1 : ρx 1 = (pgv 0 h) := e 1 (by decide)
    have e2 : ρx 2 = (h.1 353 1).toInt := e 2 (by decide)
    have e3 : ρx 3 = (h.1 374 4).toInt := e 3 (by decide)
    have e4 : ρx 4 = (h.1 514 0).toInt := e 4 (by decide)
    have hr : x.toInt = (0 + (1 * ρx 3 + 0) : Int) := hr
    have m0 : (h'.1 353 1).toInt = (0 + 0 : Int) := psm_u (k := 353) (by decide) (by decide +kernel) m0 (1) rfl
    have m1 : (h'.1 374 4).toInt = (1 + (1 * ρx 3 + 0) : Int) := psm_u (k := 374) (by decide) (by decide +kernel) m1 (4) rfl
    have k0 : (0 + ((-1) * ρx 4 + 0) : Int) ≤ 0 := k0
    rw [e4] at k0
    exact Or.inl ⟨(by rw [hr, e3]), (m0.trans (by rfl)), (m1.trans (by rw [e3])), k0⟩
  · intro hE
    obtain ⟨ρx, e, -, ⟨k0, -⟩, ⟨m0, m1, -⟩, hr⟩ := pexU hE
    have e0 : ρx 0 = a.toInt := e 0 (by decide)
    have e1 : ρx 1 = (pgv 0 h) := e 1 (by decide)
    have e2 : ρx 2 = (h.1 353 1).toInt := e 2 (by decide)
    have e3 : ρx 3 = (h.1 374 4).toInt := e 3 (by decide)
    have e4 : ρx 4 = (h.1 514 0).toInt := e 4 (by decide)
    have hr : x.toInt = ((-1) + 0 : Int) := hr
    have m0 : (h'.1 353 1).toInt = (0 + (1 * ρx 2 + 0) : Int) := psm_u (k := 353) (by decide) (by decide +kernel) m0 (1) rfl
    have m1 : (h'.1 374 4).toInt = (0 + (1 * ρx 3 + 0) : Int) := psm_u (k := 374) (by decide) (by decide +kernel) m1 (4) rfl
    have k0 : (1 + (1 * ρx 4 + 0) : Int) ≤ 0 := k0
    rw [e4] at k0
    exact Or.inr (⟨(by rw [hr]), (m0.trans (by rw [e2])), (m1.trans (by rw [e3])), k0⟩)
set_option maxHeartbeats 1000000 in
theorem pe_cTextM {h h' : zH} {a : Int32} {x : Int32} {m d : Nat} (hG : sG pReg pG h) (hb0 : (1 : Int) ≤ a.toInt ∧ a.toInt ≤ 1) (hb1 : (4 : Int) ≤ (h.1 374 4).toInt ∧ (h.1 374 4).toInt ≤ 4) (hrun : yrun m d 91 [.inr (.inr 406), .inl a] h = some (some (.inl x), h')) : sG pReg pG h' ∧ sF pReg [] h h' ∧ ((x.toInt = ((-1) + 0 : Int))) := by
  have hM : sMt pReg pgv (pL [a.toInt, (h.1 374 4).toInt]) (pL0 [a.toInt, (h.1 374 4).toInt]) (sAs tcTextM.2.1) (zent 0 [.inr (.inr 406), .inl a]) [] h := pmkk (ya1 ⟨406, rfl, by decide +kernel⟩ ya0) (ya1 ⟨_, rfl, rfl⟩ (ya1 (psm_p (k := 374) (by decide) (by decide +kernel) (by decide +kernel) 4 rfl (by rw [sY_v]; rfl)) (ya0))) (ya1 hb0 (ya1 hb1 (ya0))) (ya1 (show (0 + 0 : Int) ≤ 0 by decide) (ya0)) (ya1 rfl (ya1 rfl (ya0))) rfl
  obtain ⟨g1, g2, hx⟩ := pGo tcTextM_ok hG hM hrun
  refine ⟨g1, g2, ?_⟩
  refine pone hx (ya1 ?_ (ya0))
  · intro hE
    obtain ⟨ρx, e, -, -, -, hr⟩ := pexU hE
    have e0 : ρx 0 = a.toInt := e 0 (by decide)
    have e1 : ρx 1 = (h.1 374 4).toInt := e 1 (by decide)
    have hr : x.toInt = ((-1) + 0 : Int) := hr
    exact hr
set_option maxHeartbeats 1000000 in
theorem pe_cTextX0 {h h' : zH} {a : Int32} {x : Int32} {m d : Nat} (hG : sG pReg pG h) (hb0 : ((-2147483648) : Int) ≤ a.toInt ∧ a.toInt ≤ (-1)) (hrun : yrun m d 91 [.inr (.inr 406), .inl a] h = some (some (.inl x), h')) : sG pReg pG h' ∧ sF pReg [] h h' ∧ ((x.toInt = ((-1) + 0 : Int))) := by
  have hM : sMt pReg pgv (pL [a.toInt]) (pL0 [a.toInt]) (sAs tcTextX0.2.1) (zent 0 [.inr (.inr 406), .inl a]) [] h := pmkk (ya1 ⟨406, rfl, by decide +kernel⟩ ya0) (ya1 ⟨_, rfl, rfl⟩ (ya0)) (ya1 hb0 (ya0)) (ya1 (show (0 + 0 : Int) ≤ 0 by decide) (ya0)) (ya1 rfl (ya0)) rfl
  obtain ⟨g1, g2, hx⟩ := pGo tcTextX0_ok hG hM hrun
  refine ⟨g1, g2, ?_⟩
  refine pone hx (ya1 ?_ (ya0))
  · intro hE
    obtain ⟨ρx, e, -, -, -, hr⟩ := pexU hE
    have e0 : ρx 0 = a.toInt := e 0 (by decide)
    have hr : x.toInt = ((-1) + 0 : Int) := hr
    exact hr
set_option maxHeartbeats 1000000 in
theorem pe_cTextX1 {h h' : zH} {a : Int32} {x : Int32} {m d : Nat} (hG : sG pReg pG h) (hb0 : (2 : Int) ≤ a.toInt ∧ a.toInt ≤ 2147483647) (hrun : yrun m d 91 [.inr (.inr 406), .inl a] h = some (some (.inl x), h')) : sG pReg pG h' ∧ sF pReg [] h h' ∧ ((x.toInt = ((-1) + 0 : Int))) := by
  have hM : sMt pReg pgv (pL [a.toInt]) (pL0 [a.toInt]) (sAs tcTextX1.2.1) (zent 0 [.inr (.inr 406), .inl a]) [] h := pmkk (ya1 ⟨406, rfl, by decide +kernel⟩ ya0) (ya1 ⟨_, rfl, rfl⟩ (ya0)) (ya1 hb0 (ya0)) (ya1 (show (0 + 0 : Int) ≤ 0 by decide) (ya0)) (ya1 rfl (ya0)) rfl
  obtain ⟨g1, g2, hx⟩ := pGo tcTextX1_ok hG hM hrun
  refine ⟨g1, g2, ?_⟩
  refine pone hx (ya1 ?_ (ya0))
  · intro hE
    obtain ⟨ρx, e, -, -, -, hr⟩ := pexU hE
    have e0 : ρx 0 = a.toInt := e 0 (by decide)
    have hr : x.toInt = ((-1) + 0 : Int) := hr
    exact hr
set_option maxHeartbeats 1000000 in
theorem pe_mTextF {h h' : zH} {a : Int32} {x : Int32} {m d : Nat} (hG : sG pReg pG h) (hb0 : (0 : Int) ≤ a.toInt ∧ a.toInt ≤ 0) (hb1 : (1 : Int) ≤ (pgv 13 h) ∧ (pgv 13 h) ≤ 1) (hb2 : (1 : Int) ≤ (pgv 20 h) ∧ (pgv 20 h) ≤ 1) (hb3 : (0 : Int) ≤ (h.1 440 2).toInt ∧ (h.1 440 2).toInt ≤ 240) (hb4 : ((-241) : Int) ≤ (h.1 533 0).toInt ∧ (h.1 533 0).toInt ≤ 240) (hb5 : (0 : Int) ≤ (h.1 541 0).toInt ∧ (h.1 541 0).toInt ≤ 1) (hb6 : (0 : Int) ≤ (h.1 540 0).toInt ∧ (h.1 540 0).toInt ≤ 6) (hb7 : (1 : Int) ≤ (h.1 532 0).toInt ∧ (h.1 532 0).toInt ≤ 1) (hrun : yrun m d 194 [.inr (.inr 440), .inl a] h = some (some (.inl x), h')) : sG pReg pG h' ∧ sF pReg [(120, 3, 3), (120, 4, 4), (120, 19, 19), (97, 0, 2), (98, 0, 23), (120, 22, 22), (99, 0, 2), (100, 0, 23), (101, 0, 39), (120, 47, 47), (120, 53, 53), (120, 39, 39), (120, 55, 55), (120, 2, 2)] h h' ∧ ((x.toInt = (0 + (1 * (h.1 540 0).toInt + 0) : Int) ∧ (h'.1 440 2).toInt = (0 + 0 : Int) ∧ (h'.1 440 22).toInt = (0 + (1 * (h.1 540 0).toInt + 0) : Int) ∧ (0 + ((-1) * (h.1 533 0).toInt + 0) : Int) ≤ 0 ∧ ((-1) + (1 * (h.1 541 0).toInt + 0) : Int) ≤ 0 ∧ (1 + ((-1) * (h.1 541 0).toInt + 0) : Int) ≤ 0 ∧ (2 + ((-1) * (h.1 540 0).toInt + 0) : Int) ≤ 0) ∨ (x.toInt = ((-1) + 0 : Int) ∧ (h'.1 440 2).toInt = (0 + (1 * (h.1 440 2).toInt + 0) : Int) ∧ (1 + (1 * (h.1 533 0).toInt + 0) : Int) ≤ 0) ∨ (x.toInt = ((-1) + 0 : Int) ∧ (h'.1 440 2).toInt = (0 + (1 * (h.1 440 2).toInt + 0) : Int) ∧ (0 + ((-1) * (h.1 533 0).toInt + 0) : Int) ≤ 0 ∧ (0 + (1 * (h.1 541 0).toInt + 0) : Int) ≤ 0 ∧ (0 + ((-1) * (h.1 541 0).toInt + 0) : Int) ≤ 0)) := by
  have hM : sMt pReg pgv (pL [a.toInt, (pgv 13 h), (pgv 20 h), (h.1 440 2).toInt, (h.1 533 0).toInt, (h.1 541 0).toInt, (h.1 540 0).toInt, (h.1 532 0).toInt]) (pL0 [a.toInt, (pgv 13 h), (pgv 20 h), (h.1 440 2).toInt, (h.1 533 0).toInt, (h.1 541 0).toInt, (h.1 540 0).toInt, (h.1 532 0).toInt]) (sAs tmTextF.2.1) (zent 0 [.inr (.inr 440), .inl a]) [] h := pmkk (ya1 ⟨440, rfl, by decide +kernel⟩ ya0) (ya1 ⟨_, rfl, rfl⟩ (ya1 (show pgv 13 h = sv (pL [a.toInt, (pgv 13 h), (pgv 20 h), (h.1 440 2).toInt, (h.1 533 0).toInt, (h.1 541 0).toInt, (h.1 540 0).toInt, (h.1 532 0).toInt]) (sY 1) by rw [sY_v]; rfl) (ya1 (show pgv 20 h = sv (pL [a.toInt, (pgv 13 h), (pgv 20 h), (h.1 440 2).toInt, (h.1 533 0).toInt, (h.1 541 0).toInt, (h.1 540 0).toInt, (h.1 532 0).toInt]) (sY 2) by rw [sY_v]; rfl) (ya1 (psm_p (k := 440) (by decide) (by decide +kernel) (by decide +kernel) 2 rfl (by rw [sY_v]; rfl)) (ya1 (psm_p (k := 533) (by decide) (by decide +kernel) (by decide +kernel) 0 rfl (by rw [sY_v]; rfl)) (ya1 (psm_p (k := 541) (by decide) (by decide +kernel) (by decide +kernel) 0 rfl (by rw [sY_v]; rfl)) (ya1 (psm_p (k := 540) (by decide) (by decide +kernel) (by decide +kernel) 0 rfl (by rw [sY_v]; rfl)) (ya1 (psm_p (k := 532) (by decide) (by decide +kernel) (by decide +kernel) 0 rfl (by rw [sY_v]; rfl)) (ya0))))))))) (ya1 hb0 (ya1 hb1 (ya1 hb2 (ya1 hb3 (ya1 hb4 (ya1 hb5 (ya1 hb6 (ya1 hb7 (ya0))))))))) (ya1 (show (0 + 0 : Int) ≤ 0 by decide) (ya0)) (ya1 rfl (ya1 rfl (ya1 rfl (ya1 rfl (ya1 rfl (ya1 rfl (ya1 rfl (ya1 rfl (ya0))))))))) rfl
  obtain ⟨g1, g2, hx⟩ := pGo tmTextF_ok hG hM hrun
  refine ⟨g1, g2, ?_⟩
  refine pone hx (ya1 ?_ (ya1 ?_ (ya1 ?_ (ya0))))
  · intro hE
    obtain ⟨ρx, e, -, ⟨k0, k1, k2, k3, -⟩, ⟨m0, m1, -⟩, hr⟩ := pexU hE
    have e0 : ρx 0 = a.toInt := e 0 (by decide)
    have e1 : ρx 1 = (pgv 13 h) := e 1 (by decide)
    have e2 : ρx 2 = (pgv 20 h) := e 2 (by decide)
    have e3 : ρx 3 = (h.1 440 2).toInt := e 3 (by decide)
    have e4 : ρx 4 = (h.1 533 0).toInt := e 4 (by decide)
    have e5 : ρx 5 = (h.1 541 0).toInt := e 5 (by decide)
    have e6 : ρx 6 = (h.1 540 0).toInt := e 6 (by decide)
    have e7 : ρx 7 = (h.1 532 0).toInt := e 7 (by decide)
    have hr : x.toInt = (0 + (1 * ρx 6 + 0) : Int) := hr
    have m0 : (h'.1 440 2).toInt = (0 + 0 : Int) := psm_u (k := 440) (by decide) (by decide +kernel) m0 (2) rfl
    have m1 : (h'.1 440 22).toInt = (0 + (1 * ρx 6 + 0) : Int) := psm_u (k := 440) (by decide) (by decide +kernel) m1 (22) rfl
    have k0 : (0 + ((-1) * ρx 4 + 0) : Int) ≤ 0 := k0
    rw [e4] at k0
    have k1 : ((-1) + (1 * ρx 5 + 0) : Int) ≤ 0 := k1
    rw [e5] at k1
    have k2 : (1 + ((-1) * ρx 5 + 0) : Int) ≤ 0 := k2
    rw [e5] at k2
    have k3 : (2 + ((-1) * ρx 6 + 0) : Int) ≤ 0 := k3
    rw [e6] at k3
    exact Or.inl ⟨(by rw [hr, e6]), (m0.trans (by rfl)), (m1.trans (by rw [e6])), k0, k1, k2, k3⟩
  · intro hE
    obtain ⟨ρx, e, -, ⟨k0, -⟩, ⟨m0, -⟩, hr⟩ := pexU hE
    have e0 : ρx 0 = a.toInt := e 0 (by decide)
    have e1 : ρx 1 = (pgv 13 h) := e 1 (by decide)
    have e2 : ρx 2 = (pgv 20 h) := e 2 (by decide)
    have e3 : ρx 3 = (h.1 440 2).toInt := e 3 (by decide)
    have e4 : ρx 4 = (h.1 533 0).toInt := e 4 (by decide)
    have e5 : ρx 5 = (h.1 541 0).toInt := e 5 (by decide)
    have e6 : ρx 6 = (h.1 540 0).toInt := e 6 (by decide)
    have e7 : ρx 7 = (h.1 532 0).toInt := e 7 (by decide)
    have hr : x.toInt = ((-1) + 0 : Int) := hr
    have m0 : (h'.1 440 2).toInt = (0 + (1 * ρx 3 + 0) : Int) := psm_u (k := 440) (by decide) (by decide +kernel) m0 (2) rfl
    have k0 : (1 + (1 * ρx 4 + 0) : Int) ≤ 0 := k0
    rw [e4] at k0
    exact Or.inr (Or.inl ⟨(by rw [hr]), (m0.trans (by rw [e3])), k0⟩)
  · intro hE
    obtain ⟨ρx, e, -, ⟨k0, k1, k2, -⟩, ⟨m0, -⟩, hr⟩ := pexU hE
    have e0 : ρx 0 = a.toInt := e 0 (by decide)
    have e1 : ρx 1 = (pgv 13 h) := e 1 (by decide)
    have e2 : ρx 2 = (pgv 20 h) := e 2 (by decide)
    have e3 : ρx 3 = (h.1 440 2).toInt := e 3 (by decide)
    have e4 : ρx 4 = (h.1 533 0).toInt := e 4 (by decide)
    have e5 : ρx 5 = (h.1 541 0).toInt := e 5 (by decide)
    have e6 : ρx 6 = (h.1 540 0).toInt := e 6 (by decide)
    have e7 : ρx 7 = (h.1 532 0).toInt := e 7 (by decide)
    have hr : x.toInt = ((-1) + 0 : Int) := hr
    have m0 : (h'.1 440 2).toInt = (0 + (1 * ρx 3 + 0) : Int) := psm_u (k := 440) (by decide) (by decide +kernel) m0 (2) rfl
    have k0 : (0 + ((-1) * ρx 4 + 0) : Int) ≤ 0 := k0
    rw [e4] at k0
    have k1 : (0 + (1 * ρx 5 + 0) : Int) ≤ 0 := k1
    rw [e5] at k1
    have k2 : (0 + ((-1) * ρx 5 + 0) : Int) ≤ 0 := k2
    rw [e5] at k2
    exact Or.inr (Or.inr (⟨(by rw [hr]), (m0.trans (by rw [e3])), k0, k1, k2⟩))
set_option maxHeartbeats 1000000 in
theorem pe_mTextL {h h' : zH} {a : Int32} {x : Int32} {m d : Nat} (hG : sG pReg pG h) (hb0 : (1 : Int) ≤ a.toInt ∧ a.toInt ≤ 1) (hb1 : (1 : Int) ≤ (pgv 13 h) ∧ (pgv 13 h) ≤ 1) (hb2 : (0 : Int) ≤ (h.1 440 2).toInt ∧ (h.1 440 2).toInt ≤ 240) (hb3 : (0 : Int) ≤ (h.1 440 13).toInt ∧ (h.1 440 13).toInt ≤ 3) (hb4 : ((-241) : Int) ≤ (h.1 514 0).toInt ∧ (h.1 514 0).toInt ≤ 240) (hrun : yrun m d 194 [.inr (.inr 440), .inl a] h = some (some (.inl x), h')) : sG pReg pG h' ∧ sF pReg [(120, 3, 3), (120, 5, 5), (120, 4, 4), (88, 0, 2599), (89, 0, 2599), (90, 0, 4), (92, 0, 699), (93, 0, 699), (94, 0, 699), (91, 0, 4), (120, 14, 14), (120, 2, 2), (120, 13, 13)] h h' ∧ ((x.toInt = (0 + (1 * (h.1 440 13).toInt + 0) : Int) ∧ (h'.1 440 2).toInt = (0 + 0 : Int) ∧ (h'.1 440 13).toInt = (1 + (1 * (h.1 440 13).toInt + 0) : Int) ∧ (0 + ((-1) * (h.1 514 0).toInt + 0) : Int) ≤ 0) ∨ (x.toInt = ((-1) + 0 : Int) ∧ (h'.1 440 2).toInt = (0 + (1 * (h.1 440 2).toInt + 0) : Int) ∧ (h'.1 440 13).toInt = (0 + (1 * (h.1 440 13).toInt + 0) : Int) ∧ (1 + (1 * (h.1 514 0).toInt + 0) : Int) ≤ 0)) := by
  have hM : sMt pReg pgv (pL [a.toInt, (pgv 13 h), (h.1 440 2).toInt, (h.1 440 13).toInt, (h.1 514 0).toInt]) (pL0 [a.toInt, (pgv 13 h), (h.1 440 2).toInt, (h.1 440 13).toInt, (h.1 514 0).toInt]) (sAs tmTextL.2.1) (zent 0 [.inr (.inr 440), .inl a]) [] h := pmkk (ya1 ⟨440, rfl, by decide +kernel⟩ ya0) (ya1 ⟨_, rfl, rfl⟩ (ya1 (show pgv 13 h = sv (pL [a.toInt, (pgv 13 h), (h.1 440 2).toInt, (h.1 440 13).toInt, (h.1 514 0).toInt]) (sY 1) by rw [sY_v]; rfl) (ya1 (psm_p (k := 440) (by decide) (by decide +kernel) (by decide +kernel) 2 rfl (by rw [sY_v]; rfl)) (ya1 (psm_p (k := 440) (by decide) (by decide +kernel) (by decide +kernel) 13 rfl (by rw [sY_v]; rfl)) (ya1 (psm_p (k := 514) (by decide) (by decide +kernel) (by decide +kernel) 0 rfl (by rw [sY_v]; rfl)) (ya0)))))) (ya1 hb0 (ya1 hb1 (ya1 hb2 (ya1 hb3 (ya1 hb4 (ya0)))))) (ya1 (show (0 + 0 : Int) ≤ 0 by decide) (ya0)) (ya1 rfl (ya1 rfl (ya1 rfl (ya1 rfl (ya1 rfl (ya0)))))) rfl
  obtain ⟨g1, g2, hx⟩ := pGo tmTextL_ok hG hM hrun
  refine ⟨g1, g2, ?_⟩
  refine pone hx (ya1 ?_ (ya1 ?_ (ya0)))
  · intro hE
    obtain ⟨ρx, e, -, ⟨k0, -⟩, ⟨m0, m1, -⟩, hr⟩ := pexU hE
    have e0 : ρx 0 = a.toInt := e 0 (by decide)
    have e1 : ρx 1 = (pgv 13 h) := e 1 (by decide)
    have e2 : ρx 2 = (h.1 440 2).toInt := e 2 (by decide)
    have e3 : ρx 3 = (h.1 440 13).toInt := e 3 (by decide)
    have e4 : ρx 4 = (h.1 514 0).toInt := e 4 (by decide)
    have hr : x.toInt = (0 + (1 * ρx 3 + 0) : Int) := hr
    have m0 : (h'.1 440 2).toInt = (0 + 0 : Int) := psm_u (k := 440) (by decide) (by decide +kernel) m0 (2) rfl
    have m1 : (h'.1 440 13).toInt = (1 + (1 * ρx 3 + 0) : Int) := psm_u (k := 440) (by decide) (by decide +kernel) m1 (13) rfl
    have k0 : (0 + ((-1) * ρx 4 + 0) : Int) ≤ 0 := k0
    rw [e4] at k0
    exact Or.inl ⟨(by rw [hr, e3]), (m0.trans (by rfl)), (m1.trans (by rw [e3])), k0⟩
  · intro hE
    obtain ⟨ρx, e, -, ⟨k0, -⟩, ⟨m0, m1, -⟩, hr⟩ := pexU hE
    have e0 : ρx 0 = a.toInt := e 0 (by decide)
    have e1 : ρx 1 = (pgv 13 h) := e 1 (by decide)
    have e2 : ρx 2 = (h.1 440 2).toInt := e 2 (by decide)
    have e3 : ρx 3 = (h.1 440 13).toInt := e 3 (by decide)
    have e4 : ρx 4 = (h.1 514 0).toInt := e 4 (by decide)
    have hr : x.toInt = ((-1) + 0 : Int) := hr
    have m0 : (h'.1 440 2).toInt = (0 + (1 * ρx 2 + 0) : Int) := psm_u (k := 440) (by decide) (by decide +kernel) m0 (2) rfl
    have m1 : (h'.1 440 13).toInt = (0 + (1 * ρx 3 + 0) : Int) := psm_u (k := 440) (by decide) (by decide +kernel) m1 (13) rfl
    have k0 : (1 + (1 * ρx 4 + 0) : Int) ≤ 0 := k0
    rw [e4] at k0
    exact Or.inr (⟨(by rw [hr]), (m0.trans (by rw [e2])), (m1.trans (by rw [e3])), k0⟩)
set_option maxHeartbeats 1000000 in
theorem pe_mTextM {h h' : zH} {a : Int32} {x : Int32} {m d : Nat} (hG : sG pReg pG h) (hb0 : (1 : Int) ≤ a.toInt ∧ a.toInt ≤ 1) (hb1 : (4 : Int) ≤ (h.1 440 13).toInt ∧ (h.1 440 13).toInt ≤ 4) (hrun : yrun m d 194 [.inr (.inr 440), .inl a] h = some (some (.inl x), h')) : sG pReg pG h' ∧ sF pReg [] h h' ∧ ((x.toInt = ((-1) + 0 : Int))) := by
  have hM : sMt pReg pgv (pL [a.toInt, (h.1 440 13).toInt]) (pL0 [a.toInt, (h.1 440 13).toInt]) (sAs tmTextM.2.1) (zent 0 [.inr (.inr 440), .inl a]) [] h := pmkk (ya1 ⟨440, rfl, by decide +kernel⟩ ya0) (ya1 ⟨_, rfl, rfl⟩ (ya1 (psm_p (k := 440) (by decide) (by decide +kernel) (by decide +kernel) 13 rfl (by rw [sY_v]; rfl)) (ya0))) (ya1 hb0 (ya1 hb1 (ya0))) (ya1 (show (0 + 0 : Int) ≤ 0 by decide) (ya0)) (ya1 rfl (ya1 rfl (ya0))) rfl
  obtain ⟨g1, g2, hx⟩ := pGo tmTextM_ok hG hM hrun
  refine ⟨g1, g2, ?_⟩
  refine pone hx (ya1 ?_ (ya0))
  · intro hE
    obtain ⟨ρx, e, -, -, -, hr⟩ := pexU hE
    have e0 : ρx 0 = a.toInt := e 0 (by decide)
    have e1 : ρx 1 = (h.1 440 13).toInt := e 1 (by decide)
    have hr : x.toInt = ((-1) + 0 : Int) := hr
    exact hr
set_option maxHeartbeats 1000000 in
theorem pe_mTextX0 {h h' : zH} {a : Int32} {x : Int32} {m d : Nat} (hG : sG pReg pG h) (hb0 : ((-2147483648) : Int) ≤ a.toInt ∧ a.toInt ≤ (-1)) (hrun : yrun m d 194 [.inr (.inr 440), .inl a] h = some (some (.inl x), h')) : sG pReg pG h' ∧ sF pReg [] h h' ∧ ((x.toInt = ((-1) + 0 : Int))) := by
  have hM : sMt pReg pgv (pL [a.toInt]) (pL0 [a.toInt]) (sAs tmTextX0.2.1) (zent 0 [.inr (.inr 440), .inl a]) [] h := pmkk (ya1 ⟨440, rfl, by decide +kernel⟩ ya0) (ya1 ⟨_, rfl, rfl⟩ (ya0)) (ya1 hb0 (ya0)) (ya1 (show (0 + 0 : Int) ≤ 0 by decide) (ya0)) (ya1 rfl (ya0)) rfl
  obtain ⟨g1, g2, hx⟩ := pGo tmTextX0_ok hG hM hrun
  refine ⟨g1, g2, ?_⟩
  refine pone hx (ya1 ?_ (ya0))
  · intro hE
    obtain ⟨ρx, e, -, -, -, hr⟩ := pexU hE
    have e0 : ρx 0 = a.toInt := e 0 (by decide)
    have hr : x.toInt = ((-1) + 0 : Int) := hr
    exact hr
set_option maxHeartbeats 1000000 in
theorem pe_mTextX1 {h h' : zH} {a : Int32} {x : Int32} {m d : Nat} (hG : sG pReg pG h) (hb0 : (2 : Int) ≤ a.toInt ∧ a.toInt ≤ 2147483647) (hrun : yrun m d 194 [.inr (.inr 440), .inl a] h = some (some (.inl x), h')) : sG pReg pG h' ∧ sF pReg [] h h' ∧ ((x.toInt = ((-1) + 0 : Int))) := by
  have hM : sMt pReg pgv (pL [a.toInt]) (pL0 [a.toInt]) (sAs tmTextX1.2.1) (zent 0 [.inr (.inr 440), .inl a]) [] h := pmkk (ya1 ⟨440, rfl, by decide +kernel⟩ ya0) (ya1 ⟨_, rfl, rfl⟩ (ya0)) (ya1 hb0 (ya0)) (ya1 (show (0 + 0 : Int) ≤ 0 by decide) (ya0)) (ya1 rfl (ya0)) rfl
  obtain ⟨g1, g2, hx⟩ := pGo tmTextX1_ok hG hM hrun
  refine ⟨g1, g2, ?_⟩
  refine pone hx (ya1 ?_ (ya0))
  · intro hE
    obtain ⟨ρx, e, -, -, -, hr⟩ := pexU hE
    have e0 : ρx 0 = a.toInt := e 0 (by decide)
    have hr : x.toInt = ((-1) + 0 : Int) := hr
    exact hr
