/-! what stands at a place, in the words themselves -/
section WEQ
variable {n : Nat} {B : Nat → Int}
theorem wBd_congr {r : Int} {k k' : Nat → Int} (h : ∀ a : Nat, r = (a : Int) → k a = k' a) : wBd r k = wBd r k' := by
  unfold wBd
  by_cases hr : r < 0
  · rw [if_pos hr, if_pos hr]
  · rw [if_neg hr, if_neg hr]
    exact h _ (by omega)
theorem wE_AT {d p : Nat} (hp : p ≤ n) : wG n B 0 d p = if wCh n B (wSk n B p) = 91 then (if 6 ≤ d then wFl (wSk n B p) else wBd (wG n B 3 (d + 1) (wSk n B p + 1)) (fun s => if wCh n B (wSk n B s) = 93 then (wSk n B s : Int) + 1 else wFl (wSk n B s))) else if (wCh n B (wSk n B p) = 100 ∨ wCh n B (wSk n B p) = 101 ∨ wCh n B (wSk n B p) = 104 ∨ wCh n B (wSk n B p) = 105 ∨ wCh n B (wSk n B p) = 110 ∨ wCh n B (wSk n B p) = 119) then (wSk n B p : Int) + 1 else if 48 ≤ wCh n B (wSk n B p) ∧ wCh n B (wSk n B p) ≤ 57 then wNu n B (wSk n B p) else wFl (wSk n B p) := by
  obtain ⟨s1, s2⟩ := wSk_le (B := B) hp
  rw [wG_eq hp]
  show xAT n B _ d p = _
  unfold xAT
  by_cases hc : wCh n B (wSk n B p) = 91
  · have := wCh_lt (n := n) (B := B) (p := wSk n B p) (by omega)
    rw [if_pos hc, if_pos hc, wAc_in (by omega) (by omega)]
  · rw [if_neg hc, if_neg hc]
theorem wE_seq {X Y Z d p : Nat} {x : (Nat → Nat → Nat → Int) → Int} (hY : wX Y = true) (hS : wS Y = 1) (hp : p ≤ n) (e1 : xAll n B (wAc n (wG n B) p) X d p = wBd (xAll n B (wAc n (wG n B) p) Y d p) (fun a => wAc n (wG n B) p Z d a)) : wG n B X d p = wBd (wG n B Y d p) (fun a => wG n B Z d a) := by
  have hg := wG_gd (B := B) Y d p hY hp
  rw [wG_eq (X := X) hp, e1, ← wG_eq (X := Y) hp]
  refine wBd_congr (fun a ha => ?_)
  have := hg.2 (by omega)
  rw [hS] at this
  exact wAc_in (by omega) (by omega)
theorem wE_TM {d p : Nat} (hp : p ≤ n) : wG n B 1 d p = wBd (wG n B 0 d p) (fun a => wG n B 2 d a) := wE_seq (x := fun _ => 0) rfl rfl hp rfl
theorem wE_SU {d p : Nat} (hp : p ≤ n) : wG n B 3 d p = wBd (wG n B 1 d p) (fun a => wG n B 4 d a) := wE_seq (x := fun _ => 0) rfl rfl hp rfl
theorem wE_TR {d p : Nat} (hp : p ≤ n) : wG n B 8 d p = wBd (wG n B 5 d p) (fun a => wG n B 7 d a) := wE_seq (x := fun _ => 0) rfl rfl hp rfl
theorem wE_CO {d p : Nat} (hp : p ≤ n) : wG n B 10 d p = wBd (wG n B 8 d p) (fun a => wG n B 9 d a) := wE_seq (x := fun _ => 0) rfl rfl hp rfl
theorem wE_TB {d p : Nat} (hp : p ≤ n) : wG n B 15 d p = wBd (wG n B 6 d p) (fun a => wG n B 7 d a) := wE_seq (x := fun _ => 0) rfl rfl hp rfl
theorem wE_CB {d p : Nat} (hp : p ≤ n) : wG n B 16 d p = wBd (wG n B 15 d p) (fun a => wG n B 9 d a) := wE_seq (x := fun _ => 0) rfl rfl hp rfl
theorem wE_tail {X Y d p : Nat} (hY : wX Y = true) (hS : wS Y = 1) (hp : p ≤ n) (hq : wSk n B p < n) (e1 : xAll n B (wAc n (wG n B) p) X d p = wBd (wAc n (wG n B) p Y d (wSk n B p + 1)) (fun a => wAc n (wG n B) p X d a)) : wG n B X d p = wBd (wG n B Y d (wSk n B p + 1)) (fun a => wG n B X d a) := by
  obtain ⟨s1, s2⟩ := wSk_le (B := B) hp
  have hg := wG_gd (n := n) (B := B) Y d (wSk n B p + 1) hY (by omega)
  rw [wG_eq hp, e1, wAc_in (by omega) (by omega)]
  refine wBd_congr (fun a ha => ?_)
  have := hg.2 (by omega)
  rw [hS] at this
  exact wAc_in (by omega) (by omega)
theorem wE_TT {d p : Nat} (hp : p ≤ n) : wG n B 2 d p = if wCh n B (wSk n B p) = 42 ∨ wCh n B (wSk n B p) = 47 then wBd (wG n B 0 d (wSk n B p + 1)) (fun a => wG n B 2 d a) else (wSk n B p : Int) := by
  by_cases hc : wCh n B (wSk n B p) = 42 ∨ wCh n B (wSk n B p) = 47
  · rw [if_pos hc]
    refine wE_tail rfl rfl hp (wCh_lt (B := B) (by omega)) ?_
    show xTT n B _ d p = _
    unfold xTT
    rw [if_pos hc]
  · rw [if_neg hc, wG_eq hp]
    show xTT n B _ d p = _
    unfold xTT
    rw [if_neg hc]
theorem wE_ST {d p : Nat} (hp : p ≤ n) : wG n B 4 d p = if wCh n B (wSk n B p) = 43 ∨ wCh n B (wSk n B p) = 45 then wBd (wG n B 1 d (wSk n B p + 1)) (fun a => wG n B 4 d a) else (wSk n B p : Int) := by
  by_cases hc : wCh n B (wSk n B p) = 43 ∨ wCh n B (wSk n B p) = 45
  · rw [if_pos hc]
    refine wE_tail rfl rfl hp (wCh_lt (B := B) (by omega)) ?_
    show xST n B _ d p = _
    unfold xST
    rw [if_pos hc]
  · rw [if_neg hc, wG_eq hp]
    show xST n B _ d p = _
    unfold xST
    rw [if_neg hc]
theorem wE_AN {d p : Nat} (hp : p ≤ n) : wG n B 7 d p = if wCh n B (wSk n B p) = 38 then wBd (wG n B 5 d (wSk n B p + 1)) (fun a => wG n B 7 d a) else (wSk n B p : Int) := by
  by_cases hc : wCh n B (wSk n B p) = 38
  · rw [if_pos hc]
    refine wE_tail rfl rfl hp (wCh_lt (B := B) (by omega)) ?_
    show xAN n B _ d p = _
    unfold xAN
    rw [if_pos hc]
  · rw [if_neg hc, wG_eq hp]
    show xAN n B _ d p = _
    unfold xAN
    rw [if_neg hc]
theorem wE_OT {d p : Nat} (hp : p ≤ n) : wG n B 9 d p = if wCh n B (wSk n B p) = 124 then wBd (wG n B 8 d (wSk n B p + 1)) (fun a => wG n B 9 d a) else (wSk n B p : Int) := by
  by_cases hc : wCh n B (wSk n B p) = 124
  · rw [if_pos hc]
    refine wE_tail rfl rfl hp (wCh_lt (B := B) (by omega)) ?_
    show xOT n B _ d p = _
    unfold xOT
    rw [if_pos hc]
  · rw [if_neg hc, wG_eq hp]
    show xOT n B _ d p = _
    unfold xOT
    rw [if_neg hc]
theorem wE_CM {d p : Nat} (hp : p ≤ n) : wG n B 6 d p = if 60 ≤ wCh n B (wSk n B p) ∧ wCh n B (wSk n B p) ≤ 62 then wG n B 3 d (wSk n B p + 1) else wFl (wSk n B p) := by
  obtain ⟨s1, s2⟩ := wSk_le (B := B) hp
  rw [wG_eq hp]
  show xCM n B _ d p = _
  unfold xCM
  by_cases hc : 60 ≤ wCh n B (wSk n B p) ∧ wCh n B (wSk n B p) ≤ 62
  · have := wCh_lt (n := n) (B := B) (p := wSk n B p) (by omega)
    rw [if_pos hc, if_pos hc, wAc_in (by omega) (by omega)]
  · rw [if_neg hc, if_neg hc]
theorem wE_SUq {d p : Nat} (hp : p ≤ n) : (if wSk n B p = p then xSU n B (wAc n (wG n B) p) d p else wAc n (wG n B) p 3 d (wSk n B p)) = wG n B 3 d (wSk n B p) := by
  obtain ⟨s1, s2⟩ := wSk_le (B := B) hp
  split
  · rename_i he
    rw [he, wG_eq hp]
    rfl
  · exact wAc_in (by omega) s2
theorem wE_COq {d p : Nat} (hp : p ≤ n) : (if wSk n B p = p then xCO n B (wAc n (wG n B) p) d p else wAc n (wG n B) p 10 d (wSk n B p)) = wG n B 10 d (wSk n B p) := by
  obtain ⟨s1, s2⟩ := wSk_le (B := B) hp
  split
  · rename_i he
    rw [he, wG_eq hp]
    rfl
  · exact wAc_in (by omega) s2
theorem wE_UN {d p : Nat} (hp : p ≤ n) : wG n B 5 d p = if wCh n B (wSk n B p) = 33 then (if 6 ≤ d then wFl (wSk n B p) else wG n B 5 (d + 1) (wSk n B p + 1)) else if wCh n B (wSk n B p) = 40 then (if 6 ≤ d then wFl (wSk n B p) else wBd (wG n B 10 (d + 1) (wSk n B p + 1)) (fun s => if wCh n B (wSk n B s) = 41 then (wSk n B s : Int) + 1 else wFl (wSk n B s))) else wBd (wG n B 3 d (wSk n B p)) (fun s => wG n B 6 d s) := by
  obtain ⟨s1, s2⟩ := wSk_le (B := B) hp
  rw [wG_eq hp]
  show xUN n B _ d p = _
  unfold xUN
  by_cases hc : wCh n B (wSk n B p) = 33
  · have := wCh_lt (n := n) (B := B) (p := wSk n B p) (by omega)
    rw [if_pos hc, if_pos hc, wAc_in (by omega) (by omega)]
  · rw [if_neg hc, if_neg hc]
    by_cases hc2 : wCh n B (wSk n B p) = 40
    · have := wCh_lt (n := n) (B := B) (p := wSk n B p) (by omega)
      rw [if_pos hc2, if_pos hc2, wAc_in (by omega) (by omega)]
    · rw [if_neg hc2, if_neg hc2, wE_SUq hp]
      have hg := wG_gd (B := B) 3 d (wSk n B p) rfl s2
      refine wBd_congr (fun a ha => ?_)
      have := hg.2 (by omega)
      have h1 : (wS 3 : Int) = 1 := rfl
      exact wAc_in (by omega) (by omega)
theorem wE_C2 {p : Nat} (hp : p ≤ n) : wG n B 18 0 p = if wCh n B (wSk n B p) = 63 then wG n B 3 0 (wSk n B p + 1) else wFl (wSk n B p) := by
  obtain ⟨s1, s2⟩ := wSk_le (B := B) hp
  rw [wG_eq hp]
  show xC2 n B _ p = _
  unfold xC2
  by_cases hc : wCh n B (wSk n B p) = 63
  · have := wCh_lt (n := n) (B := B) (p := wSk n B p) (by omega)
    rw [if_pos hc, if_pos hc, wAc_in (by omega) (by omega)]
  · rw [if_neg hc, if_neg hc]
theorem wE_C1 {p : Nat} (hp : p ≤ n) : wG n B 17 0 p = if wCh n B (wSk n B p) = 33 ∨ wCh n B (wSk n B p) = 40 then wBd (wG n B 10 0 (wSk n B p)) (fun a => wG n B 18 0 a) else wBd (wG n B 3 0 (wSk n B p)) (fun s => if 60 ≤ wCh n B (wSk n B s) ∧ wCh n B (wSk n B s) ≤ 62 then wBd (wG n B 16 0 (wSk n B s)) (fun b => wG n B 18 0 b) else (wSk n B s : Int)) := by
  obtain ⟨s1, s2⟩ := wSk_le (B := B) hp
  rw [wG_eq hp]
  show xC1 n B _ p = _
  unfold xC1
  by_cases hc : wCh n B (wSk n B p) = 33 ∨ wCh n B (wSk n B p) = 40
  · rw [if_pos hc, if_pos hc, wE_COq hp]
    have hg := wG_gd (B := B) 10 0 (wSk n B p) rfl s2
    refine wBd_congr (fun a ha => ?_)
    have := hg.2 (by omega)
    have h1 : (wS 10 : Int) = 1 := rfl
    exact wAc_in (by omega) (by omega)
  · rw [if_neg hc, if_neg hc, wE_SUq hp]
    have hg := wG_gd (B := B) 3 0 (wSk n B p) rfl s2
    refine wBd_congr (fun a ha => ?_)
    have := hg.2 (by omega)
    have h1 : (wS 3 : Int) = 1 := rfl
    obtain ⟨t1, t2⟩ := wSk_le (n := n) (B := B) (p := a) (by omega)
    by_cases hc2 : 60 ≤ wCh n B (wSk n B a) ∧ wCh n B (wSk n B a) ≤ 62
    · rw [if_pos hc2, if_pos hc2, wAc_in (by omega) (by omega)]
      have hg := wG_gd (B := B) 16 0 (wSk n B a) rfl t2
      refine wBd_congr (fun b hb => ?_)
      have := hg.2 (by omega)
      have h2 : (wS 16 : Int) = 1 := rfl
      exact wAc_in (by omega) (by omega)
    · rw [if_neg hc2, if_neg hc2]
theorem wE_CL {p : Nat} (hp : p ≤ n) : wG n B 11 0 p = if wCh n B (wSk n B p) = 121 then (if wCh n B (wSk n B (wSk n B p + 1)) = 58 then wG n B 17 0 (wSk n B (wSk n B p + 1) + 1) else wFl (wSk n B (wSk n B p + 1))) else wFl (wSk n B p) := by
  obtain ⟨s1, s2⟩ := wSk_le (B := B) hp
  rw [wG_eq hp]
  show xCL n B _ p = _
  unfold xCL
  by_cases hc : wCh n B (wSk n B p) = 121
  · have := wCh_lt (n := n) (B := B) (p := wSk n B p) (by omega)
    obtain ⟨t1, t2⟩ := wSk_le (n := n) (B := B) (p := wSk n B p + 1) (by omega)
    rw [if_pos hc, if_pos hc]
    by_cases hc2 : wCh n B (wSk n B (wSk n B p + 1)) = 58
    · have := wCh_lt (n := n) (B := B) (p := wSk n B (wSk n B p + 1)) (by omega)
      rw [if_pos hc2, if_pos hc2, wAc_in (by omega) (by omega)]
    · rw [if_neg hc2, if_neg hc2]
  · rw [if_neg hc, if_neg hc]
theorem wE_LT {p : Nat} (hp : p ≤ n) : wG n B 12 0 p = wBd (wG n B 11 0 p) (fun a => if wCh n B (wSk n B a) = 59 then wG n B 12 0 (wSk n B a + 1) else if wCh n B (wSk n B a) = 0 then (wSk n B a : Int) else wFl (wSk n B a)) := by
  have hg := wG_gd (B := B) 11 0 p rfl hp
  rw [wG_eq (X := 12) hp]
  show xLT n B _ p = _
  unfold xLT
  have e11 : xCL n B (wAc n (wG n B) p) p = wG n B 11 0 p := (wG_eq (B := B) (X := 11) (d := 0) hp).symm
  rw [e11]
  refine wBd_congr (fun a ha => ?_)
  have := hg.2 (by omega)
  have h1 : (wS 11 : Int) = 1 := rfl
  obtain ⟨t1, t2⟩ := wSk_le (n := n) (B := B) (p := a) (by omega)
  by_cases hc : wCh n B (wSk n B a) = 59
  · have := wCh_lt (n := n) (B := B) (p := wSk n B a) (by omega)
    rw [if_pos hc, if_pos hc, wAc_in (by omega) (by omega)]
  · rw [if_neg hc, if_neg hc]
/-- a value that goes on: it is a fault, or a place behind -/
theorem wBd_cs {r : Int} {k : Nat → Int} {p st : Nat} (hg : wGd n st p r) : (r < 0 ∧ wBd r k = r) ∨ ∃ a : Nat, r = (a : Int) ∧ p + st ≤ a ∧ a ≤ n ∧ wBd r k = k a := by
  unfold wBd
  by_cases h : r < 0
  · exact Or.inl ⟨h, if_pos h⟩
  · have := hg.2 (by omega)
    exact Or.inr ⟨r.toNat, by omega, by omega, by omega, if_neg h⟩
end WEQ
/-! the tape's words stand in ghost cells; the tape too -/
noncomputable def wCl (v : Int) : Int := if -241 ≤ v ∧ v ≤ 240 then v else 0
noncomputable def wArr (n : Nat) (B : Nat → Int) (r i : Nat) : Int := if r = 500 then (if wSk n B i ≤ 240 then (wSk n B i : Int) else 0) else if r = 501 then (if 0 ≤ wCh n B i ∧ wCh n B i ≤ 255 then wCh n B i else 0) else if r = 516 then wCl (wNu n B i) else wCl (wG n B (r - 502) (i / 241) (i % 241))
noncomputable def wB (h : zH) (i : Nat) : Int := if i < 240 then (h.1 522 i).toInt else 0
noncomputable def wN (h : zH) : Nat := (h.1 521 0).toInt.toNat
noncomputable def wOk (h : zH) : Prop := wN h ≤ 240 ∧ ∀ i, i < wN h → 1 ≤ wB h i ∧ wB h i ≤ 255
noncomputable def wOc (h : zH) : Prop := (h.1 353 1).toInt = (wN h : Int) ∧ ∀ i, i < wN h → (h.1 352 i).toInt = wB h i
noncomputable def wOm (h : zH) : Prop := (h.1 440 2).toInt = (wN h : Int) ∧ ∀ i, i < wN h → (h.1 407 i).toInt = wB h i
noncomputable def wGh (h : zH) : Prop := ∀ r, 500 ≤ r → r < 521 → ∀ i, i < 100000 → (h.1 r i).toInt = wArr (wN h) (wB h) r i
noncomputable def fCp (lo hi v : Int) : Int := if lo ≤ v ∧ v ≤ hi then v else lo
noncomputable def fBd (r i : Nat) : Int × Int := if r < 532 ∨ r = 533 ∨ r = 542 then (-241, 240) else if r < 538 ∨ r = 541 ∨ r = 545 then (0, 1) else if r = 539 ∧ i = 0 then (4, 10) else if r = 539 ∧ i = 1 then (1, 20) else if r = 540 then (0, 6) else (0, 99)
noncomputable def fSp (n : Nat) (B : Nat → Int) (r i : Nat) : Int := if r = 530 then fI n B 0 (i % 16) (i / 16) else if r = 531 then fI n B 1 (i % 16) (i / 16) else if r = 532 then yB (fOn n B (i % 14 / 7) (i % 7) (i / 14)) else if r = 533 then (fW n B 0 0 0).1 else if r < 538 then (fBt i (r - 534) : Int) else if r = 538 then fMV n B (i / 4) (i % 4) else if r = 539 then fRV n B i else if r = 540 then ((fW n B 0 0 0).2.1 : Int) else if r = 541 then yB (fWh n B) else if r = 542 then fNr n B i else if r = 543 then fNv n B i else if r < 563 then fV n B 0 (r - 560) (i / 100 % 16) (i / 1600) ((i % 100 : Nat) : Int) else fV n B 1 (r - 563) (i / 100 % 16) (i / 1600) ((i % 100 : Nat) : Int)
noncomputable def fArr (n : Nat) (B : Nat → Int) (r i : Nat) : Int := fCp (fBd r i).1 (fBd r i).2 (fSp n B r i)
noncomputable def wFh (h : zH) : Prop := ∀ r, 530 ≤ r → r < 567 → ∀ i, i ≤ 400000 → (h.1 r i).toInt = fArr (wN h) (wB h) r i
/-- the first m rows of men are the tape's -/
noncomputable def aC (m : Nat) (h : zH) : Prop := ∀ i k, i < m → k < 4 → (h.1 (355 + i) k).toInt = (h.1 538 (4 * i + k)).toInt
noncomputable def aM (m : Nat) (h : zH) : Prop := ∀ i k, i < m → k < 4 → (h.1 418 (4 * i + k)).toInt = (h.1 538 (4 * i + k)).toInt
/-- feed's bytes, how many come, and where -/
noncomputable def wFd (h : zH) : Prop := ∀ k, k < 20 → ((h.1 544 k).toInt = 0 → (h.1 546 (k + 1)).toInt = (h.1 546 k).toInt) ∧ ((h.1 544 k).toInt ≠ 0 → (h.1 546 (k + 1)).toInt = (h.1 546 k).toInt + 1 ∧ (h.1 546 k).toInt.toNat ≤ 1000 ∧ (h.1 547 (h.1 546 k).toInt.toNat).toInt = (h.1 544 k).toInt)
noncomputable def pgv (a : Nat) (h : zH) : Int := if a = 0 then yB (wOk h ∧ wOc h ∧ wGh h) else if a = 13 then yB (wOk h ∧ wOm h ∧ wGh h) else if a = 20 then yB (wOk h ∧ wGh h ∧ wFh h) else if a < 7 then yB (aC a h) else if a < 13 then yB (aM (a - 6) h) else if a = 21 then yB (wFd h) else 0
noncomputable def pGuG : sD := (521, 0, 99999) :: (522, 0, 99999) :: (List.range 21).map (fun k => (500 + k, (0 : Int), (99999 : Int)))
noncomputable def pGuF : sD := (List.range 37).map (fun k => (530 + k, (0 : Int), (400000 : Int)))
noncomputable def pGuD : sD := [(544, 0, 99999), (546, 0, 99999), (547, 0, 99999)]
noncomputable def pGu (a : Nat) : sD := if a = 0 then (40, 0, 99999) :: (41, 1, 1) :: pGuG else if a = 13 then (87, 0, 99999) :: (120, 2, 2) :: pGuG else if a = 20 then pGuG ++ pGuF else if a < 7 then (538, 0, 400000) :: (List.range a).map (fun i => (951 + i, (0 : Int), (3 : Int))) else if a < 13 then [(538, 0, 400000), (98, 0, 4 * ((a - 6 : Nat) : Int) - 1)] else if a = 21 then pGuD else []
theorem pRow {i : Nat} (hi : i < 6) : pReg (355 + i) = 951 + i := by
  unfold pReg
  rw [if_neg (by omega), if_pos (by omega)]
  omega
/-- heaps alike at the places of a told quantity -/
noncomputable def pAg (a : Nat) (h h' : zH) : Prop := ∀ k i : Nat, (∃ z ∈ pGu a, pReg k = z.1 ∧ z.2.1 ≤ (i : Int) ∧ (i : Int) ≤ z.2.2) → h.1 k i = h'.1 k i
theorem pAg_s {a : Nat} {h h' : zH} (H : pAg a h h') : pAg a h' h := fun k i hz => (H k i hz).symm
theorem pAg_e {a k r : Nat} {lo hi : Int} {h h' : zH} (H : pAg a h h') (hz : (r, lo, hi) ∈ pGu a) (hr : pReg k = r) {i : Nat} (h1 : lo ≤ (i : Int)) (h2 : (i : Int) ≤ hi) : h.1 k i = h'.1 k i := H k i ⟨_, hz, hr, h1, h2⟩
theorem pG21 {r : Nat} (h1 : 500 ≤ r) (h2 : r < 521) : (r, (0 : Int), (99999 : Int)) ∈ pGuG := List.mem_cons_of_mem _ (List.mem_cons_of_mem _ (List.mem_map.mpr ⟨r - 500, List.mem_range.mpr (by omega), by rw [show 500 + (r - 500) = r by omega]⟩))
theorem pGF37 {r : Nat} (h1 : 530 ≤ r) (h2 : r < 567) : (r, (0 : Int), (400000 : Int)) ∈ pGuF := List.mem_map.mpr ⟨r - 530, List.mem_range.mpr (by omega), by rw [show 530 + (r - 530) = r by omega]⟩
/-- the ghost's own part -/
theorem wSame {a : Nat} {h h' : zH} (H : pAg a h h') (hG : ∀ z ∈ pGuG, z ∈ pGu a) : wN h' = wN h ∧ wB h' = wB h ∧ (wGh h → wGh h') := by
  have en : wN h' = wN h := by unfold wN; rw [pAg_e (k := 521) (i := 0) H (hG _ (List.mem_cons_self ..)) (pReg_g (by decide) (by decide)) (by decide) (by decide)]
  have eb : wB h' = wB h := by
    funext i
    unfold wB
    by_cases hi : i < 240
    · rw [if_pos hi, if_pos hi, pAg_e (k := 522) (i := i) H (hG _ (List.mem_cons_of_mem _ (List.mem_cons_self ..))) (pReg_g (by decide) (by decide)) (by omega) (by omega)]
    · rw [if_neg hi, if_neg hi]
  refine ⟨en, eb, fun g r h1 h2 i hi => ?_⟩
  rw [en, eb, ← pAg_e (k := r) (i := i) H (hG _ (pG21 h1 h2)) (pReg_g h1 (by omega)) (by omega) (by omega)]
  exact g r h1 h2 i hi
theorem wOk_s {h h' : zH} (en : wN h' = wN h) (eb : wB h' = wB h) (ho : wOk h) : wOk h' := by
  unfold wOk
  rw [en, eb]
  exact ho
theorem pGv : sGv pReg pGu pgv := by
  intro a h h' hag
  have H : pAg a h h' := hag
  unfold pgv
  by_cases q : a = 0
  · subst q
    rw [if_pos rfl, if_pos rfl]
    have key : ∀ g g' : zH, pAg 0 g g' → (wOk g ∧ wOc g ∧ wGh g) → wOk g' ∧ wOc g' ∧ wGh g' := by
      intro g g' H ⟨o, c, w⟩
      have hG : ∀ z ∈ pGuG, z ∈ pGu 0 := fun z hz => List.mem_cons_of_mem _ (List.mem_cons_of_mem _ hz)
      obtain ⟨en, eb, ew⟩ := wSame H hG
      refine ⟨wOk_s en eb o, ?_, ew w⟩
      unfold wOc
      rw [en, eb, ← pAg_e (k := 353) (i := 1) H (r := 41) (lo := 1) (hi := 1) (List.mem_cons_of_mem _ (List.mem_cons_self ..)) (by decide +kernel) (by decide) (by decide)]
      refine ⟨c.1, fun i hi => ?_⟩
      have := o.1
      rw [← pAg_e (k := 352) (i := i) H (r := 40) (lo := 0) (hi := 99999) (List.mem_cons_self ..) (by decide +kernel) (by omega) (by omega)]
      exact c.2 i hi
    exact yB_c ⟨key h h' H, key h' h (pAg_s H)⟩
  rw [if_neg q, if_neg q]
  clear q
  by_cases q : a = 13
  · subst q
    rw [if_pos rfl, if_pos rfl]
    have key : ∀ g g' : zH, pAg 13 g g' → (wOk g ∧ wOm g ∧ wGh g) → wOk g' ∧ wOm g' ∧ wGh g' := by
      intro g g' H ⟨o, c, w⟩
      have hG : ∀ z ∈ pGuG, z ∈ pGu 13 := fun z hz => List.mem_cons_of_mem _ (List.mem_cons_of_mem _ hz)
      obtain ⟨en, eb, ew⟩ := wSame H hG
      refine ⟨wOk_s en eb o, ?_, ew w⟩
      unfold wOm
      rw [en, eb, ← pAg_e (k := 440) (i := 2) H (r := 120) (lo := 2) (hi := 2) (List.mem_cons_of_mem _ (List.mem_cons_self ..)) (by decide +kernel) (by decide) (by decide)]
      refine ⟨c.1, fun i hi => ?_⟩
      have := o.1
      rw [← pAg_e (k := 407) (i := i) H (r := 87) (lo := 0) (hi := 99999) (List.mem_cons_self ..) (by decide +kernel) (by omega) (by omega)]
      exact c.2 i hi
    exact yB_c ⟨key h h' H, key h' h (pAg_s H)⟩
  rw [if_neg q, if_neg q]
  clear q
  by_cases q : a = 20
  · subst q
    rw [if_pos rfl, if_pos rfl]
    have key : ∀ g g' : zH, pAg 20 g g' → (wOk g ∧ wGh g ∧ wFh g) → wOk g' ∧ wGh g' ∧ wFh g' := by
      intro g g' H ⟨o, w, f⟩
      have hG : ∀ z ∈ pGuG, z ∈ pGu 20 := fun z hz => List.mem_append_left _ hz
      obtain ⟨en, eb, ew⟩ := wSame H hG
      refine ⟨wOk_s en eb o, ew w, fun r h1 h2 i hi => ?_⟩
      rw [en, eb, ← pAg_e (k := r) (i := i) H (List.mem_append_right _ (pGF37 h1 h2)) (pReg_g (by omega) (by omega)) (by omega) (by omega)]
      exact f r h1 h2 i hi
    exact yB_c ⟨key h h' H, key h' h (pAg_s H)⟩
  rw [if_neg q, if_neg q]
  by_cases q7 : a < 7
  · rw [if_pos q7, if_pos q7]
    have hu : pGu a = (538, 0, 400000) :: (List.range a).map (fun i => (951 + i, (0 : Int), (3 : Int))) ∨ a = 0 := by
      unfold pGu
      by_cases h0 : a = 0
      · exact Or.inr h0
      · exact Or.inl (by rw [if_neg h0, if_neg (by omega), if_neg (by omega), if_pos q7])
    have key : ∀ g g' : zH, pAg a g g' → aC a g → aC a g' := by
      intro g g' H hc i k hi hk
      rcases hu with hu | h0
      · have m1 : (538, (0 : Int), (400000 : Int)) ∈ pGu a := by rw [hu]; exact List.mem_cons_self ..
        have m2 : (951 + i, (0 : Int), (3 : Int)) ∈ pGu a := by rw [hu]; exact List.mem_cons_of_mem _ (List.mem_map.mpr ⟨i, List.mem_range.mpr hi, rfl⟩)
        rw [← pAg_e (k := 355 + i) (i := k) H m2 (pRow (by omega)) (by omega) (by omega), ← pAg_e (k := 538) (i := 4 * i + k) H m1 (pReg_g (by decide) (by decide)) (by omega) (by omega)]
        exact hc i k hi hk
      · omega
    exact yB_c ⟨key h h' H, key h' h (pAg_s H)⟩
  rw [if_neg q7, if_neg q7]
  by_cases q8 : a < 13
  · rw [if_pos q8, if_pos q8]
    have hu : pGu a = [(538, 0, 400000), (98, 0, 4 * ((a - 6 : Nat) : Int) - 1)] := by
      unfold pGu
      rw [if_neg (by omega), if_neg (by omega), if_neg (by omega), if_neg (by omega), if_pos q8]
    have key : ∀ g g' : zH, pAg a g g' → aM (a - 6) g → aM (a - 6) g' := by
      intro g g' H hc i k hi hk
      have m1 : (538, (0 : Int), (400000 : Int)) ∈ pGu a := by rw [hu]; exact List.mem_cons_self ..
      have m2 : (98, (0 : Int), 4 * ((a - 6 : Nat) : Int) - 1) ∈ pGu a := by rw [hu]; exact List.mem_cons_of_mem _ (List.mem_cons_self ..)
      rw [← pAg_e (k := 418) (i := 4 * i + k) H m2 (by decide +kernel) (by omega) (by omega), ← pAg_e (k := 538) (i := 4 * i + k) H m1 (pReg_g (by decide) (by decide)) (by omega) (by omega)]
      exact hc i k hi hk
    exact yB_c ⟨key h h' H, key h' h (pAg_s H)⟩
  rw [if_neg q8, if_neg q8]
  by_cases q : a = 21
  · subst q
    rw [if_pos rfl, if_pos rfl]
    have key : ∀ g g' : zH, pAg 21 g g' → wFd g → wFd g' := by
      intro g g' H hc k hk
      have m1 : (544, (0 : Int), (99999 : Int)) ∈ pGu 21 := List.mem_cons_self ..
      have m2 : (546, (0 : Int), (99999 : Int)) ∈ pGu 21 := List.mem_cons_of_mem _ (List.mem_cons_self ..)
      have m3 : (547, (0 : Int), (99999 : Int)) ∈ pGu 21 := List.mem_cons_of_mem _ (List.mem_cons_of_mem _ (List.mem_cons_self ..))
      have e1 := pAg_e (k := 544) (i := k) H m1 (pReg_g (by decide) (by decide)) (by omega) (by omega)
      have e2 := pAg_e (k := 546) (i := k) H m2 (pReg_g (by decide) (by decide)) (by omega) (by omega)
      have e3 := pAg_e (k := 546) (i := k + 1) H m2 (pReg_g (by decide) (by decide)) (by omega) (by omega)
      have hk := hc k hk
      rw [← e1, ← e2, ← e3]
      refine ⟨hk.1, fun h0 => ?_⟩
      obtain ⟨a1, a2, a3⟩ := hk.2 h0
      rw [← pAg_e (k := 547) (i := (g.1 546 k).toInt.toNat) H m3 (pReg_g (by decide) (by decide)) (by omega) (by omega)]
      exact ⟨a1, a2, a3⟩
    exact yB_c ⟨key h h' H, key h' h (pAg_s H)⟩
  rw [if_neg q, if_neg q]
/-! facts out of a rule's start, and into its ends -/
theorem psvp : ∀ (l : List (Nat × Nat × sE)) (j k : Nat) (r : Nat) (i : sE), l[k]? = some (2, r, i) → (r, i, sY (j + k)) ∈ svp j l
  | [], _, _, _, _, e => by cases e
  | v :: l, j, 0, r, i, e => by
    cases e
    exact List.mem_cons_self ..
  | v :: l, j, k + 1, r, i, e => by
    have := psvp l (j + 1) k r i e
    rw [show j + 1 + k = j + (k + 1) by omega] at this
    unfold svp
    split
    · exact List.mem_cons_of_mem _ this
    · exact this
section PFACT
variable {ρ ρ0 : Nat → Int} {A : sA} {loc : zL} {h : zH}
theorem pFact (hM : sMt pReg pgv ρ ρ0 (sAs A) loc [] h) (k r : Nat) (i : sE) (e : A.2.1[k]? = some (2, r, i)) : smm pReg pgv ρ h (r, i, sY k) := by
  have := psvp A.2.1 0 k r i e
  rw [Nat.zero_add] at this
  exact hM.2.2.1 _ this
theorem pTl (hM : sMt pReg pgv ρ ρ0 (sAs A) loc [] h) (k a : Nat) (i : sE) (e : A.2.1[k]? = some (2, 1000 + a, i)) : pgv a h = ρ k := by
  have q := pFact hM k (1000 + a) i e
  unfold smm at q
  rw [if_neg (show ¬ ((1000 + a, i, sY k) : Nat × sE × sE).1 < 1000 by show ¬ (1000 + a < 1000); omega)] at q
  simp only [Nat.add_sub_cancel_left, sY_v] at q
  exact q
theorem yB_p {p : Prop} {x : Int} (e : yB p = x) (h : 1 ≤ x) : p := by
  have hb := yB_b (p := p)
  exact yB_1.mp (by omega)
theorem pTold0 (hM : sMt pReg pgv ρ ρ0 (sAs A) loc [] h) (k : Nat) (i : sE) (e : A.2.1[k]? = some (2, 1000, i)) (h1 : 1 ≤ ρ k) : wOk h ∧ wOc h ∧ wGh h := yB_p (pTl hM k 0 i e) h1
theorem pTold13 (hM : sMt pReg pgv ρ ρ0 (sAs A) loc [] h) (k : Nat) (i : sE) (e : A.2.1[k]? = some (2, 1013, i)) (h1 : 1 ≤ ρ k) : wOk h ∧ wOm h ∧ wGh h := yB_p (pTl hM k 13 i e) h1
theorem pTold20 (hM : sMt pReg pgv ρ ρ0 (sAs A) loc [] h) (k : Nat) (i : sE) (e : A.2.1[k]? = some (2, 1020, i)) (h1 : 1 ≤ ρ k) : wOk h ∧ wGh h ∧ wFh h := yB_p (pTl hM k 20 i e) h1
theorem pToldC (hM : sMt pReg pgv ρ ρ0 (sAs A) loc [] h) (k m : Nat) (hm : 1 ≤ m ∧ m < 7) (i : sE) (e : A.2.1[k]? = some (2, 1000 + m, i)) (h1 : 1 ≤ ρ k) : aC m h := by
  have := pTl hM k m i e
  unfold pgv at this
  rw [if_neg (by omega), if_neg (by omega), if_neg (by omega), if_pos hm.2] at this
  exact yB_p this h1
theorem pToldM (hM : sMt pReg pgv ρ ρ0 (sAs A) loc [] h) (k m : Nat) (hm : 1 ≤ m ∧ m < 7) (i : sE) (e : A.2.1[k]? = some (2, 1006 + m, i)) (h1 : 1 ≤ ρ k) : aM m h := by
  have := pTl hM k (6 + m) i (by rw [show 1000 + (6 + m) = 1006 + m by omega]; exact e)
  unfold pgv at this
  rw [if_neg (by omega), if_neg (by omega), if_neg (by omega), if_neg (by omega), if_pos (by omega), Nat.add_sub_cancel_left] at this
  exact yB_p this h1
theorem pPl (hM : sMt pReg pgv ρ ρ0 (sAs A) loc [] h) (k r : Nat) (i : sE) (e : A.2.1[k]? = some (2, r, i)) (hr : r < 1000) (c j : Nat) (hc : pReg c = r) (hj : sv ρ i = (j : Int)) : (h.1 c j).toInt = ρ k := by
  have := pFact hM k r i e
  unfold smm at this
  rw [if_pos hr] at this
  have := this.2 c hc
  rw [hj, sY_v] at this
  exact this
theorem wArr_G {n : Nat} {B : Nat → Int} {X r d p : Nat} (hr : r = 502 + X) (hX : wX X = true) (hn : n ≤ 240) (hp : p ≤ n) : wArr n B r (241 * d + p) = wG n B X d p := by
  have hg := wG_gd (B := B) X d p hX hp
  have hX2 : X ≠ 14 := fun h => by rw [h] at hX; cases hX
  unfold wArr
  rw [if_neg (by omega), if_neg (by omega), if_neg (by omega), show r - 502 = X by omega, show (241 * d + p) / 241 = d by omega, show (241 * d + p) % 241 = p by omega]
  unfold wCl
  rw [if_pos]
  by_cases hv : wG n B X d p < 0
  · have := hg.1 hv
    omega
  · have := hg.2 (by omega)
    omega
theorem pfG (hM : sMt pReg pgv ρ ρ0 (sAs A) loc [] h) (ho : wOk h) (hh : wGh h) (k r X : Nat) (i : sE) (e : A.2.1[k]? = some (2, r, i)) (hr : r = 502 + X) (hX : wX X = true) {d p : Nat} (hp : p ≤ wN h) (hd : d ≤ 7) (hj : sv ρ i = ((241 * d + p : Nat) : Int)) : ρ k = wG (wN h) (wB h) X d p := by
  have hn := ho.1
  have hX2 : X < 19 := by
    unfold wX at hX
    simp only [Bool.or_eq_true, Bool.and_eq_true, decide_eq_true_eq] at hX
    omega
  have := pPl hM k r i e (by omega) r (241 * d + p) (pReg_g (by omega) (by omega)) hj
  rw [← this, hh r (by omega) (by omega) _ (by omega)]
  exact wArr_G hr hX hn hp
theorem pfS (hM : sMt pReg pgv ρ ρ0 (sAs A) loc [] h) (ho : wOk h) (hh : wGh h) (k : Nat) (i : sE) (e : A.2.1[k]? = some (2, 500, i)) {p : Nat} (hp : p ≤ wN h) (hj : sv ρ i = (p : Int)) : ρ k = (wSk (wN h) (wB h) p : Int) := by
  have hn := ho.1
  have h2 := (wSk_le (B := wB h) hp).2
  have := pPl hM k 500 i e (by omega) 500 p (pReg_g (by omega) (by omega)) hj
  rw [← this, hh 500 (by omega) (by omega) _ (by omega)]
  unfold wArr
  rw [if_pos rfl, if_pos (by omega)]
theorem wCh_bd (ho : wOk h) (p : Nat) : 0 ≤ wCh (wN h) (wB h) p ∧ wCh (wN h) (wB h) p ≤ 255 ∧ (p < wN h → 1 ≤ wCh (wN h) (wB h) p) := by
  unfold wCh
  by_cases hp : p < wN h
  · have := ho.2 p hp
    rw [if_pos hp]
    omega
  · rw [if_neg hp]
    omega
theorem pfC (hM : sMt pReg pgv ρ ρ0 (sAs A) loc [] h) (ho : wOk h) (hh : wGh h) (k : Nat) (i : sE) (e : A.2.1[k]? = some (2, 501, i)) {p : Nat} (hp : p ≤ wN h) (hj : sv ρ i = (p : Int)) : ρ k = wCh (wN h) (wB h) p := by
  have hn := ho.1
  have hb := wCh_bd ho p
  have := pPl hM k 501 i e (by omega) 501 p (pReg_g (by omega) (by omega)) hj
  rw [← this, hh 501 (by omega) (by omega) _ (by omega)]
  unfold wArr
  rw [if_neg (by omega), if_pos rfl, if_pos (by omega)]
theorem pfN (hM : sMt pReg pgv ρ ρ0 (sAs A) loc [] h) (ho : wOk h) (hh : wGh h) (k : Nat) (i : sE) (e : A.2.1[k]? = some (2, 516, i)) {p : Nat} (hp : p ≤ wN h) (hd : 48 ≤ wCh (wN h) (wB h) p ∧ wCh (wN h) (wB h) p ≤ 57) (hj : sv ρ i = (p : Int)) : ρ k = wNu (wN h) (wB h) p := by
  have hn := ho.1
  have hg := wNu_gd hd
  have := pPl hM k 516 i e (by omega) 516 p (pReg_g (by omega) (by omega)) hj
  rw [← this, hh 516 (by omega) (by omega) _ (by omega)]
  unfold wArr wCl
  rw [if_neg (by omega), if_neg (by omega), if_pos rfl, if_pos]
  by_cases hv : wNu (wN h) (wB h) p < 0
  · have := hg.1 hv
    omega
  · have := hg.2 (by omega)
    omega
theorem pOne {c r : Nat} (h1 : 500 ≤ r) (h2 : r < 900) (hc : pReg c = r) : c = r := by
  have e := pReg_g h1 h2
  refine pSing r c ?_ (by rw [hc, e])
  rw [e]
  unfold pSin
  rw [Bool.or_eq_true]
  left
  simp only [Bool.and_eq_true, decide_eq_true_eq]
  exact ⟨h1, h2⟩
variable {ρx : Nat → Int} {idx val : sE}
theorem pgh (r : Nat) (h1 : 500 ≤ r) (h2 : r < 521) (hh : wGh h) {i : Nat} (hi : i < 100000) (hj : sv ρx idx = (i : Int)) (hv : sv ρx val = wArr (wN h) (wB h) r i) : smm pReg pgv ρx h (r, idx, val) := by
  unfold smm
  rw [if_pos (show (r, idx, val).1 < 1000 by show r < 1000; omega)]
  refine ⟨by show 0 ≤ sv ρx idx; omega, fun c hc => ?_⟩
  have := pOne h1 (by omega) hc
  subst this
  show (h.1 c (sv ρx idx).toNat).toInt = sv ρx val
  rw [hj, hv]
  exact hh c h1 h2 i hi
theorem pgG (ho : wOk h) (hh : wGh h) (r X : Nat) (hr : r = 502 + X) (hX : wX X = true) (d p : Nat) (hp : p ≤ wN h) (hd : d ≤ 7) (hj : sv ρx idx = 241 * (d : Int) + (p : Int)) (hv : sv ρx val = wG (wN h) (wB h) X d p) : smm pReg pgv ρx h (r, idx, val) := by
  have hn := ho.1
  have hX2 : X < 19 := by
    unfold wX at hX
    simp only [Bool.or_eq_true, Bool.and_eq_true, decide_eq_true_eq] at hX
    omega
  refine pgh r (by omega) (by omega) hh (i := 241 * d + p) (by omega) (by omega) ?_
  rw [hv, wArr_G hr hX hn hp]
theorem pgS (ho : wOk h) (hh : wGh h) (p : Nat) (hp : p ≤ wN h) (hj : sv ρx idx = (p : Int)) (hv : sv ρx val = (wSk (wN h) (wB h) p : Int)) : smm pReg pgv ρx h (500, idx, val) := by
  have hn := ho.1
  have h2 := (wSk_le (B := wB h) hp).2
  refine pgh 500 (by omega) (by omega) hh (i := p) (by omega) hj ?_
  rw [hv]
  unfold wArr
  rw [if_pos rfl, if_pos (by omega)]
theorem pgC (ho : wOk h) (hh : wGh h) (p : Nat) (hp : p ≤ 500) (hj : sv ρx idx = (p : Int)) (hv : sv ρx val = wCh (wN h) (wB h) p) : smm pReg pgv ρx h (501, idx, val) := by
  have hb := wCh_bd ho p
  refine pgh 501 (by omega) (by omega) hh (i := p) (by omega) hj ?_
  rw [hv]
  unfold wArr
  rw [if_neg (by omega), if_pos rfl, if_pos (by omega)]
theorem pgN (ho : wOk h) (hh : wGh h) (p : Nat) (hp : p ≤ wN h) (hd : 48 ≤ wCh (wN h) (wB h) p ∧ wCh (wN h) (wB h) p ≤ 57) (hj : sv ρx idx = (p : Int)) (hv : sv ρx val = wNu (wN h) (wB h) p) : smm pReg pgv ρx h (516, idx, val) := by
  have hn := ho.1
  have hg := wNu_gd hd
  refine pgh 516 (by omega) (by omega) hh (i := p) (by omega) hj ?_
  rw [hv]
  unfold wArr wCl
  rw [if_neg (by omega), if_neg (by omega), if_pos rfl, if_pos]
  by_cases hv : wNu (wN h) (wB h) p < 0
  · have := hg.1 hv
    omega
  · have := hg.2 (by omega)
    omega
noncomputable def pL (L : List Int) (j : Nat) : Int := L.getD j 0
theorem pEnd {n : Nat} {X : sX} {h : zH} {ρ0 : Nat → Int} (L : List Int) (h1 : X.1 = none) (hL : ∀ j, j < n → pL L j = ρ0 (j + 1)) (hb : ∀ k b, X.2.2.1[k]? = some b → b.1 ≤ pL L (n + k) ∧ pL L (n + k) ≤ b.2) (hc : ∀ c ∈ X.2.2.2.1, sv (pL L) c ≤ 0) (hm : ∀ m ∈ X.2.1, smm pReg pgv (pL L) h m) : sEx pReg pgv n X ρ0 none h := by
  refine ⟨pL L, hL, hb, hc, hm, ?_⟩
  rw [h1]
  trivial
end PFACT
theorem pAll0 {α : Type} {P : α → Prop} : ∀ x ∈ ([] : List α), P x := fun x hx => by cases hx
theorem pAll1 {α : Type} {P : α → Prop} {a : α} {l : List α} (h : P a) (hl : ∀ x ∈ l, P x) : ∀ x ∈ a :: l, P x := List.forall_mem_cons.mpr ⟨h, hl⟩
theorem pIdx0 {P : Nat → Int × Int → Prop} : ∀ k b, ([] : List (Int × Int))[k]? = some b → P k b := fun k b h => by cases h
theorem pIdx1 {P : Nat → Int × Int → Prop} {a : Int × Int} {l : List (Int × Int)} (h0 : P 0 a) (h : ∀ k b, l[k]? = some b → P (k + 1) b) : ∀ k b, (a :: l)[k]? = some b → P k b := fun k b hk => by
  match k, hk with
  | 0, hk => cases hk; exact h0
  | k + 1, hk => exact h k b hk
