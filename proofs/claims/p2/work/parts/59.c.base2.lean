/-! ends by their parts; heads and tails -/
theorem ya0 {α : Type} {P : Nat → α → Prop} {i : Nat} : yall P i [] := trivial
theorem ya1 {α : Type} {P : Nat → α → Prop} {i : Nat} {a : α} {l : List α} (h : P i a) (h2 : yall P (i + 1) l) : yall P i (a :: l) := ⟨h, h2⟩
theorem yvr0 {gv : Nat → zH → Int} {ρ : Nat → Int} {loc : zL} {h : zH} {i a : Nat} {e : sE} {x : Int32} (e1 : zget loc a = some (.inl x)) (e2 : x.toInt = ρ i) : yvr gv ρ loc h i (0, a, e) := ⟨x, e1, e2⟩
theorem yvr1 {gv : Nat → zH → Int} {ρ : Nat → Int} {loc : zL} {h : zH} {i a : Nat} {e : sE} {x : Int64} (e1 : zget loc a = some (.inr (.inl x))) (e2 : x.toInt = ρ i) : yvr gv ρ loc h i (1, a, e) := ⟨x, e1, e2⟩
theorem yvr2 {gv : Nat → zH → Int} {ρ : Nat → Int} {loc : zL} {h : zH} {i a : Nat} {e : sE} (hm : smm yReg gv ρ h (a, e, sY i)) : yvr gv ρ loc h i (2, a, e) := hm
theorem yvr3 {gv : Nat → zH → Int} {ρ : Nat → Int} {loc : zL} {h : zH} {i a : Nat} {e : sE} : yvr gv ρ loc h i (3, a, e) := trivial
noncomputable def ybx (ρ : Nat → Int) (n : Nat) (i : Nat) (b : Int × Int) : Prop := b.1 ≤ ρ (n + i) ∧ ρ (n + i) ≤ b.2
noncomputable def ymx (gv : Nat → zH → Int) (ρ : Nat → Int) (h : zH) (_ : Nat) (m : Nat × sE × sE) : Prop := smm yReg gv ρ h m
theorem yexU {gv : Nat → zH → Int} {n : Nat} {X : sX} {ρ0 : Nat → Int} {r : Option zV} {h : zH} (hx : sEx yReg gv n X ρ0 r h) : ∃ ρx : Nat → Int, (∀ j, j < n → ρx j = ρ0 (j + 1)) ∧ yall (ybx ρx n) 0 X.2.2.1 ∧ yall (yct ρx) 0 X.2.2.2.1 ∧ yall (ymx gv ρx h) 0 X.2.1 ∧ srt yReg ρx X.1 r := by
  obtain ⟨ρx, a, b, c, d, e⟩ := hx
  refine ⟨ρx, a, ?_, ?_, ?_, e⟩
  · refine yall_mk fun j x q => ?_
    rw [Nat.zero_add]
    exact b j x q
  · exact yall_mk fun j x q => c x (List.mem_of_getElem? q)
  · exact yall_mk fun j x q => d x (List.mem_of_getElem? q)
theorem yexM {gv : Nat → zH → Int} {n : Nat} {X : sX} {ρ0 : Nat → Int} {r : Option zV} {h : zH} (ρx : Nat → Int) (a : ∀ j, j < n → ρx j = ρ0 (j + 1)) (b : yall (ybx ρx n) 0 X.2.2.1) (c : yall (yct ρx) 0 X.2.2.2.1) (d : yall (ymx gv ρx h) 0 X.2.1) (e : srt yReg ρx X.1 r) : sEx yReg gv n X ρ0 r h := by
  refine ⟨ρx, a, ?_, ?_, ?_, e⟩
  · intro j x q
    have := yall_get b j x q
    unfold ybx at this
    rw [Nat.zero_add] at this
    exact this
  · intro x hx
    obtain ⟨j, q⟩ := List.getElem?_of_mem hx
    exact yall_get c j x q
  · intro x hx
    obtain ⟨j, q⟩ := List.getElem?_of_mem hx
    exact yall_get d j x q
/-- values given one by one -/
noncomputable def yρ (l : List Int) (j : Nat) : Int := l.getD j 0
noncomputable def yρ0 (l : List Int) (m : sE) : Nat → Int
  | 0 => sv (yρ l) m
  | j + 1 => yρ l j
/-- one of the ends, and what each gives -/
theorem yone {gv : Nat → zH → Int} {n : Nat} {Xs : List sX} {ρ0 : Nat → Int} {r : Option zV} {h : zH} {G : Prop} (hx : ∃ X ∈ Xs, sEx yReg gv n X ρ0 r h) (f : yall (fun _ X => sEx yReg gv n X ρ0 r h → G) 0 Xs) : G := by
  obtain ⟨X, hX, hE⟩ := hx
  obtain ⟨j, hj⟩ := List.getElem?_of_mem hX
  exact yall_get f j X hj hE
theorem yref {k : Nat} (h : yReg k = 120) : k = 440 := ySing 440 k (by decide +kernel) (h.trans (by decide +kernel))
theorem yfr {md : sD} {h h' : zH} (hF : sF yReg md h h') {k i : Nat} (hn : md.all (fun z => !decide (z.1 = yReg k) || (decide ((i : Int) < z.2.1) || decide (z.2.2 < (i : Int)))) = true) : h'.1 k i = h.1 k i := by
  by_cases q : h'.1 k i = h.1 k i
  · exact q
  · obtain ⟨z, hz, e1, e2, e3⟩ := hF k i q
    have := (List.all_eq_true.mp hn) z hz
    simp only [Bool.or_eq_true, Bool.not_eq_true', decide_eq_false_iff_not, decide_eq_true_eq] at this
    rcases this with a | a | a
    · exact absurd e1.symm a
    · omega
    · omega
theorem yfv {md : sD} {h h' : zH} (hF : sF yReg md h h') {k i : Nat} (hn : md.all (fun z => !decide (z.1 = yReg k) || (decide ((i : Int) < z.2.1) || decide (z.2.2 < (i : Int)))) = true) : yv h' k i = yv h k i := by
  unfold yv
  rw [yfr hF hn]
/-- no place of a cell -/
theorem yfc {md : sD} {h h' : zH} (hF : sF yReg md h h') {k : Nat} (hn : md.all (fun z => !decide (z.1 = yReg k)) = true) (i : Nat) : h'.1 k i = h.1 k i := by
  by_cases q : h'.1 k i = h.1 k i
  · exact q
  · obtain ⟨z, hz, e1, e2, e3⟩ := hF k i q
    have := (List.all_eq_true.mp hn) z hz
    simp only [Bool.not_eq_true', decide_eq_false_iff_not] at this
    exact absurd e1.symm this
