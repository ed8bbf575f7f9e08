/-! a call of both sides, one after the other -/
section PAIR
variable {cI cZ cQ cG : ClassId} {ad : Nat → Nat} {h h' h2 : zH}
theorem zW_cong {N : Nat} (e : ∀ k, k < N → h.1 k = h'.1 k ∧ h.2 k = h'.2 k) : zW yTab cI cZ cQ cG ad N h = zW yTab cI cZ cQ cG ad N h' := by
  unfold zW
  refine List.map_congr_left (fun id hid => ?_)
  have hid := List.mem_range.mp hid
  rw [zce_congr (e id hid).1 (e id hid).2]
/-- from a heap that the law can't tell from h: the class's run, then the reference's; R holds behind them, the answers are as C says -/
noncomputable def pRun (R : zH → Prop) (C : Int32 → Int32 → Prop) (c m : Nat) (as : List zV) (h : zH) : Prop := ∃ h0 n1 x h1 n2 y h2, (∀ k, k < 441 → h0.1 k = h.1 k ∧ h0.2 k = h.2 k) ∧ yInv h0 ∧ yrun n1 60 c (.inr (.inr 406) :: as) h0 = some (some (.inl x), h1) ∧ yInv h1 ∧ yrun n2 60 m (.inr (.inr 440) :: as) h1 = some (some (.inl y), h2) ∧ yInv h2 ∧ R h2 ∧ C x y
/-- the same, with what both runs may have changed -/
noncomputable def pRunF (md1 md2 : sD) (R : zH → Prop) (C : Int32 → Int32 → Prop) (c m : Nat) (as : List zV) (h : zH) : Prop := ∃ h0 n1 x h1 n2 y h2, (∀ k, k < 441 → h0.1 k = h.1 k ∧ h0.2 k = h.2 k) ∧ yInv h0 ∧ yrun n1 60 c (.inr (.inr 406) :: as) h0 = some (some (.inl x), h1) ∧ yInv h1 ∧ yrun n2 60 m (.inr (.inr 440) :: as) h1 = some (some (.inl y), h2) ∧ yInv h2 ∧ sF pReg md1 h0 h1 ∧ sF pReg md2 h1 h2 ∧ R h2 ∧ C x y
theorem pRunF_r {md1 md2 : sD} {R : zH → Prop} {C : Int32 → Int32 → Prop} {c m : Nat} {as : List zV} {h : zH} (hp : pRunF md1 md2 R C c m as h) : pRun R C c m as h := by
  obtain ⟨h0, n1, x, h1, n2, y, h2, a1, a2, a3, a4, a5, a6, -, -, a7, a8⟩ := hp
  exact ⟨h0, n1, x, h1, n2, y, h2, a1, a2, a3, a4, a5, a6, a7, a8⟩
theorem pr_good {c m : Nat} {as : List zV} (hI : yInv h) (hr : r0 h) (h1 : ∀ h, yInv h → zGood 60 c (.inr (.inr 406) :: as) h) (h2 : ∀ h, yInv h → zGood 60 m (.inr (.inr 440) :: as) h) : pRun r0 (fun _ _ => True) c m as h := by
  obtain ⟨n1, x, k1, e1, i1, s1⟩ := h1 h hI
  obtain ⟨n2, y, k2, e2, i2, s2⟩ := h2 k1 i1
  exact ⟨h, n1, x, k1, n2, y, k2, fun _ _ => ⟨rfl, rfl⟩, hI, e1, i1, e2, i2, r0_s i1.1 s2 (r0_s hI.1 s1 hr), trivial⟩
theorem r0_fill (hr : r0 h) : r0 (gFill h) := by
  obtain ⟨r1, r2, r3⟩ := hr
  have e : ∀ c i : Nat, c < 500 → (gFill h).1 c i = h.1 c i := fun c i hc => gFill_o (Or.inl hc) i
  refine ⟨?_, ?_, fun i hi => ?_⟩
  · rw [e 353 1 (by decide), e 440 2 (by decide)]
    exact r1
  · rw [e 374 4 (by decide), e 440 13 (by decide)]
    exact r2
  · rw [e 352 i (by decide), e 407 i (by decide)]
    rw [e 353 1 (by decide)] at hi
    exact r3 i hi
theorem pfr {md : sD} (hF : sF pReg md h h') (k i : Nat) (hc : md.all (fun z => !(decide (pReg k = z.1) && (decide (z.2.1 ≤ (i : Int)) && decide ((i : Int) ≤ z.2.2)))) = true) : h'.1 k i = h.1 k i := by
  by_cases he : h'.1 k i = h.1 k i
  · exact he
  · exfalso
    obtain ⟨z, hz, e1, e2, e3⟩ := hF k i he
    have t : (!(decide (pReg k = z.1) && (decide (z.2.1 ≤ (i : Int)) && decide ((i : Int) ≤ z.2.2)))) = true := (List.all_eq_true.mp hc) z hz
    rw [decide_eq_true e1, decide_eq_true e2, decide_eq_true e3] at t
    exact absurd t (by decide)
theorem pfq {md : sD} (hF : sF pReg md h h') (k : Nat) (hc : md.all (fun z => !decide (pReg k = z.1)) = true) (i : Nat) : h'.1 k i = h.1 k i := by
  by_cases he : h'.1 k i = h.1 k i
  · exact he
  · exfalso
    obtain ⟨z, hz, e1, -, -⟩ := hF k i he
    have t : (!decide (pReg k = z.1)) = true := (List.all_eq_true.mp hc) z hz
    rw [decide_eq_true e1] at t
    exact absurd t (by decide)
theorem r0_cut (hr : r0 h) (e1 : h2.1 353 1 = h2.1 440 2) (e2 : (h2.1 353 1).toInt ≤ (h.1 353 1).toInt) (e3 : h2.1 374 4 = h2.1 440 13) (e4 : ∀ i : Nat, h2.1 352 i = h.1 352 i) (e5 : ∀ i : Nat, h2.1 407 i = h.1 407 i) : r0 h2 := by
  refine ⟨e1, e3, fun i hi => ?_⟩
  rw [e4, e5]
  exact hr.2.2 i (by omega)
theorem pr_endF (hI : yInv h) (hr : r0 h) (a : Int32) : pRunF [(41, 1, 1)] [(120, 2, 2)] r0 (fun x y => x = y) 49 120 [.inl a] h := by
  have hr' := r0_fill hr
  have hI' := gFill_inv hI
  obtain ⟨n1, x, h1, e1, i1, -, -⟩ := yP_X11_end hI' a
  obtain ⟨n2, y, h2, e2, i2, -, -⟩ := yP_X12_end i1 a
  have l1 := gLen hI'.1
  obtain ⟨g1, f1, c1⟩ := pe_cEnd (gFill_p hI.1) (si32 a) l1 e1
  have l2 : h1.1 440 2 = (gFill h).1 440 2 := pfr f1 440 2 (by decide +kernel)
  obtain ⟨g2, f2, c2⟩ := pe_mEnd g1 (si32 a) (by rw [l2, ← hr'.1]; exact l1) e2
  rw [l2, ← hr'.1] at c2
  have l3 : h2.1 353 1 = h1.1 353 1 := pfr f2 353 1 (by decide +kernel)
  have key : x.toInt = y.toInt ∧ (h2.1 353 1).toInt = (h2.1 440 2).toInt ∧ (h2.1 353 1).toInt ≤ ((gFill h).1 353 1).toInt := by
    rw [l3]
    rcases c1 with ⟨c1, c3, c4, c5⟩ | ⟨c1, c3, c4⟩ | ⟨c1, c3, c4⟩ <;> rcases c2 with ⟨d1, d3, d4, d5⟩ | ⟨d1, d3, d4⟩ | ⟨d1, d3, d4⟩ <;> omega
  refine ⟨gFill h, n1, x, h1, n2, y, h2, fun k hk => ⟨funext (fun i => gFill_o (Or.inl (by omega)) i), rfl⟩, hI', e1, i1, e2, i2, f1, f2, ?_, Int32.toInt_inj.mp key.1⟩
  refine r0_cut hr' (Int32.toInt_inj.mp key.2.1) key.2.2 ?_ (fun i => (pfq f2 352 (by decide +kernel) i).trans (pfq f1 352 (by decide +kernel) i)) (fun i => (pfq f2 407 (by decide +kernel) i).trans (pfq f1 407 (by decide +kernel) i))
  rw [pfr f2 374 4 (by decide +kernel), pfr f2 440 13 (by decide +kernel), pfr f1 374 4 (by decide +kernel), pfr f1 440 13 (by decide +kernel)]
  exact hr'.2.1
theorem pr_end (hI : yInv h) (hr : r0 h) (a : Int32) : pRun r0 (fun x y => x = y) 49 120 [.inl a] h := pRunF_r (pr_endF hI hr a)
theorem pgf {md : sD} {a : Nat} (hF : sF pReg md h h') (hc : (pGu a).all (fun u => md.all (fun z => !(decide (u.1 = z.1) && (decide (u.2.1 ≤ z.2.2) && decide (z.2.1 ≤ u.2.2))))) = true) : pgv a h' = pgv a h := by
  refine (pGv a h h' (fun k i hz => ?_)).symm
  obtain ⟨u, hu, e1, e2, e3⟩ := hz
  by_cases he : h'.1 k i = h.1 k i
  · exact he.symm
  · exfalso
    obtain ⟨z, hz, d1, d2, d3⟩ := hF k i he
    have t1 : (md.all (fun z => !(decide (u.1 = z.1) && (decide (u.2.1 ≤ z.2.2) && decide (z.2.1 ≤ u.2.2))))) = true := (List.all_eq_true.mp hc) u hu
    have t : (!(decide (u.1 = z.1) && (decide (u.2.1 ≤ z.2.2) && decide (z.2.1 ≤ u.2.2)))) = true := (List.all_eq_true.mp t1) z hz
    rw [decide_eq_true (e1.symm.trans d1), decide_eq_true (Int.le_trans e2 d3), decide_eq_true (Int.le_trans d2 e3)] at t
    exact absurd t (by decide)
theorem gb533 (hG : sG pReg pG h) : ((-241) : Int) ≤ (h.1 533 0).toInt ∧ (h.1 533 0).toInt ≤ 240 := hG 533 (0, 99999, -241, 240) (by decide +kernel) 0 (Nat.zero_le _) (Nat.zero_le _)
theorem gb514 (hG : sG pReg pG h) : ((-241) : Int) ≤ (h.1 514 0).toInt ∧ (h.1 514 0).toInt ≤ 240 := hG 514 (0, 99999, -241, 240) (by decide +kernel) 0 (Nat.zero_le _) (Nat.zero_le _)
theorem gb541 (hG : sG pReg pG h) : (0 : Int) ≤ (h.1 541 0).toInt ∧ (h.1 541 0).toInt ≤ 1 := hG 541 (0, 99999, 0, 1) (by decide +kernel) 0 (Nat.zero_le _) (Nat.zero_le _)
theorem gb540 (hG : sG pReg pG h) : (0 : Int) ≤ (h.1 540 0).toInt ∧ (h.1 540 0).toInt ≤ 6 := hG 540 (0, 99999, 0, 6) (by decide +kernel) 0 (Nat.zero_le _) (Nat.zero_le _)
theorem gOn0 (hG : sG yReg yG h) : (1 : Int) ≤ ((gFill h).1 532 0).toInt ∧ ((gFill h).1 532 0).toInt ≤ 1 := by
  rw [gFill_g (gLen hG) (by decide) (by decide) (by decide)]
  have e : gVal h 532 0 = 1 := by
    unfold gVal
    rw [if_neg (by decide), if_neg (by decide), if_neg (by decide), if_pos (by decide)]
    have hp : fOn (h.1 353 1).toInt.toNat (gB h) 0 0 0 := ⟨rfl, rfl, fun _ _ => rfl, fun _ => rfl⟩
    show fCp 0 1 (yB (fOn (h.1 353 1).toInt.toNat (gB h) 0 0 0)) = 1
    rw [yB_1.mpr hp]
    decide
  rw [e]
  exact ⟨Int.le_refl _, Int.le_refl _⟩
/-- what is common to the ends of a pair -/
theorem pr_fin {c m : Nat} {a x y : Int32} {n1 n2 : Nat} {h1 : zH} {md1 md2 : sD} (hI : yInv h) (hr : r0 h) (e1 : yrun n1 60 c [.inr (.inr 406), .inl a] (gFill h) = some (some (.inl x), h1)) (i1 : yInv h1) (e2 : yrun n2 60 m [.inr (.inr 440), .inl a] h1 = some (some (.inl y), h2)) (i2 : yInv h2) (f1 : sF pReg md1 (gFill h) h1) (f2 : sF pReg md2 h1 h2) (c1 : md1.all (fun z => !decide (pReg 352 = z.1) && !decide (pReg 407 = z.1)) = true) (c2 : md2.all (fun z => !decide (pReg 352 = z.1) && !decide (pReg 407 = z.1)) = true)
    (k1 : x.toInt = y.toInt) (k2 : (h2.1 353 1).toInt = (h2.1 440 2).toInt) (k3 : (h2.1 353 1).toInt ≤ ((gFill h).1 353 1).toInt) (k4 : (h2.1 374 4).toInt = (h2.1 440 13).toInt) : pRun r0 (fun x y => x = y) c m [.inl a] h := by
  have sp : ∀ {md : sD}, md.all (fun z => !decide (pReg 352 = z.1) && !decide (pReg 407 = z.1)) = true → md.all (fun z => !decide (pReg 352 = z.1)) = true ∧ md.all (fun z => !decide (pReg 407 = z.1)) = true := fun {md} hc => ⟨List.all_eq_true.mpr (fun z hz => (Bool.and_eq_true_iff.mp ((List.all_eq_true.mp hc) z hz)).1), List.all_eq_true.mpr (fun z hz => (Bool.and_eq_true_iff.mp ((List.all_eq_true.mp hc) z hz)).2)⟩
  obtain ⟨c11, c12⟩ := sp c1
  obtain ⟨c21, c22⟩ := sp c2
  exact ⟨gFill h, n1, x, h1, n2, y, h2, fun k hk => ⟨funext (fun i => gFill_o (Or.inl (by omega)) i), rfl⟩, gFill_inv hI, e1, i1, e2, i2, r0_cut (r0_fill hr) (Int32.toInt_inj.mp k2) k3 (Int32.toInt_inj.mp k4) (fun i => (pfq f2 352 c21 i).trans (pfq f1 352 c11 i)) (fun i => (pfq f2 407 c22 i).trans (pfq f1 407 c12 i)), Int32.toInt_inj.mp k1⟩
theorem pr_text (hI : yInv h) (hr : r0 h) (a : Int32) : pRun r0 (fun x y => x = y) 91 194 [.inl a] h := by
  have hr' := r0_fill hr
  have hI' := gFill_inv hI
  have gG := gFill_p hI.1
  obtain ⟨n1, x, h1, e1, i1, -, -⟩ := yP_X11_text hI' a
  obtain ⟨n2, y, h2, e2, i2, -, -⟩ := yP_X12_text i1 a
  have l1 := gLen hI'.1
  have q1 := congrArg Int32.toInt hr'.1
  have q2 := congrArg Int32.toInt hr'.2.1
  have ha := si32 a
  have t0 : (1 : Int) ≤ pgv 0 (gFill h) ∧ pgv 0 (gFill h) ≤ 1 := by rw [gT0 hI.1 hr]; exact ⟨Int.le_refl _, Int.le_refl _⟩
  have t13 : (1 : Int) ≤ pgv 13 (gFill h) ∧ pgv 13 (gFill h) ≤ 1 := by rw [gT13 hI.1 hr]; exact ⟨Int.le_refl _, Int.le_refl _⟩
  have t20 : (1 : Int) ≤ pgv 20 (gFill h) ∧ pgv 20 (gFill h) ≤ 1 := by rw [gT20 hI.1]; exact ⟨Int.le_refl _, Int.le_refl _⟩
  have none : ∀ {md1 md2 : sD}, sF pReg md1 (gFill h) h1 → sF pReg md2 h1 h2 → md1 = [] → md2 = [] → x.toInt = y.toInt → pRun r0 (fun x y => x = y) 91 194 [.inl a] h := by
    intro md1 md2 f1 f2 d1 d2 hxy
    subst d1
    subst d2
    have u : ∀ k i : Nat, h2.1 k i = (gFill h).1 k i := fun k i => (pfr f2 k i rfl).trans (pfr f1 k i rfl)
    exact pr_fin hI hr e1 i1 e2 i2 f1 f2 rfl rfl hxy (by rw [u, u]; exact q1) (by rw [u]; exact Int.le_refl _) (by rw [u, u]; exact q2)
  rcases Int.lt_or_le a.toInt 0 with h0 | h0
  · obtain ⟨g1, f1, c1⟩ := pe_cTextX0 gG ⟨ha.1, by omega⟩ e1
    obtain ⟨g2, f2, c2⟩ := pe_mTextX0 g1 ⟨ha.1, by omega⟩ e2
    exact none f1 f2 rfl rfl (by omega)
  · rcases Int.lt_or_le a.toInt 2 with h2' | h2'
    · by_cases ha0 : a.toInt = 0
      · obtain ⟨g1, f1, c1⟩ := pe_cTextF gG ⟨by omega, by omega⟩ t0 t20 l1 (gb533 gG) (gb541 gG) (gb540 gG) (gOn0 hI.1) e1
        have v2 : h1.1 440 2 = (gFill h).1 440 2 := pfr f1 440 2 (by decide +kernel)
        have v3 : h1.1 533 0 = (gFill h).1 533 0 := pfr f1 533 0 (by decide +kernel)
        have v4 : h1.1 541 0 = (gFill h).1 541 0 := pfr f1 541 0 (by decide +kernel)
        have v5 : h1.1 540 0 = (gFill h).1 540 0 := pfr f1 540 0 (by decide +kernel)
        have v6 : h1.1 532 0 = (gFill h).1 532 0 := pfr f1 532 0 (by decide +kernel)
        obtain ⟨g2, f2, c2⟩ := pe_mTextF g1 ⟨by omega, by omega⟩ (by rw [pgf f1 (by decide +kernel)]; exact t13) (by rw [pgf f1 (by decide +kernel)]; exact t20) (by rw [v2, ← hr'.1]; exact l1) (by rw [v3]; exact gb533 gG) (by rw [v4]; exact gb541 gG) (by rw [v5]; exact gb540 gG) (by rw [v6]; exact gOn0 hI.1) e2
        rw [v2, v3, v4, v5] at c2
        have l3 : h2.1 353 1 = h1.1 353 1 := pfr f2 353 1 (by decide +kernel)
        have l4 : h2.1 374 4 = (gFill h).1 374 4 := (pfr f2 374 4 (by decide +kernel)).trans (pfr f1 374 4 (by decide +kernel))
        have l5 : h2.1 440 13 = (gFill h).1 440 13 := (pfr f2 440 13 (by decide +kernel)).trans (pfr f1 440 13 (by decide +kernel))
        have key : x.toInt = y.toInt ∧ (h2.1 353 1).toInt = (h2.1 440 2).toInt ∧ (h2.1 353 1).toInt ≤ ((gFill h).1 353 1).toInt := by
          rw [l3]
          rcases c1 with ⟨a1, a2, a3, a4, a5, a6, a7⟩ | ⟨a1, a2, a3⟩ | ⟨a1, a2, a3, a4, a5⟩ <;> rcases c2 with ⟨b1, b2, b3, b4, b5, b6, b7⟩ | ⟨b1, b2, b3⟩ | ⟨b1, b2, b3, b4, b5⟩ <;> omega
        exact pr_fin hI hr e1 i1 e2 i2 f1 f2 (by decide +kernel) (by decide +kernel) key.1 key.2.1 key.2.2 (by rw [l4, l5]; exact q2)
      · have b4 : 0 ≤ ((gFill h).1 374 4).toInt ∧ ((gFill h).1 374 4).toInt ≤ 4 := hI'.1 374 (4, 4, 0, 4) (by decide +kernel) 4 (Nat.le_refl _) (Nat.le_refl _)
        by_cases hm : ((gFill h).1 374 4).toInt = 4
        · obtain ⟨g1, f1, c1⟩ := pe_cTextM gG ⟨by omega, by omega⟩ ⟨by omega, by omega⟩ e1
          have v2 : h1.1 440 13 = (gFill h).1 440 13 := pfr f1 440 13 rfl
          obtain ⟨g2, f2, c2⟩ := pe_mTextM g1 ⟨by omega, by omega⟩ (by rw [v2]; exact ⟨by omega, by omega⟩) e2
          exact none f1 f2 rfl rfl (by omega)
        · obtain ⟨g1, f1, c1⟩ := pe_cTextL gG ⟨by omega, by omega⟩ t0 l1 ⟨by omega, by omega⟩ (gb514 gG) e1
          have v2 : h1.1 440 2 = (gFill h).1 440 2 := pfr f1 440 2 (by decide +kernel)
          have v3 : h1.1 514 0 = (gFill h).1 514 0 := pfr f1 514 0 (by decide +kernel)
          have v4 : h1.1 440 13 = (gFill h).1 440 13 := pfr f1 440 13 (by decide +kernel)
          obtain ⟨g2, f2, c2⟩ := pe_mTextL g1 ⟨by omega, by omega⟩ (by rw [pgf f1 (by decide +kernel)]; exact t13) (by rw [v2, ← hr'.1]; exact l1) (by rw [v4]; exact ⟨by omega, by omega⟩) (by rw [v3]; exact gb514 gG) e2
          rw [v2, v3, v4] at c2
          have l3 : h2.1 353 1 = h1.1 353 1 := pfr f2 353 1 (by decide +kernel)
          have l4 : h2.1 374 4 = h1.1 374 4 := pfr f2 374 4 (by decide +kernel)
          have key : x.toInt = y.toInt ∧ (h2.1 353 1).toInt = (h2.1 440 2).toInt ∧ (h2.1 353 1).toInt ≤ ((gFill h).1 353 1).toInt ∧ (h2.1 374 4).toInt = (h2.1 440 13).toInt := by
            rw [l3, l4]
            rcases c1 with ⟨a1, a2, a3, a4⟩ | ⟨a1, a2, a3, a4⟩ <;> rcases c2 with ⟨b1, b2, b3, b4⟩ | ⟨b1, b2, b3, b4⟩ <;> omega
          exact pr_fin hI hr e1 i1 e2 i2 f1 f2 (by decide +kernel) (by decide +kernel) key.1 key.2.1 key.2.2.1 key.2.2.2
    · obtain ⟨g1, f1, c1⟩ := pe_cTextX1 gG ⟨h2', ha.2⟩ e1
      obtain ⟨g2, f2, c2⟩ := pe_mTextX1 g1 ⟨h2', ha.2⟩ e2
      exact none f1 f2 rfl rfl (by omega)
end PAIR
