/-! alternatives by their variables -/
noncomputable def yall {α : Type} (P : Nat → α → Prop) : Nat → List α → Prop
  | _, [] => True
  | i, a :: l => P i a ∧ yall P (i + 1) l
theorem yall_get {α : Type} {P : Nat → α → Prop} : ∀ {l : List α} {i : Nat}, yall P i l → ∀ j a, l[j]? = some a → P (i + j) a
  | [], _, _, j, a, e => by cases e
  | b :: l, i, h, 0, a, e => by
    cases e
    exact h.1
  | b :: l, i, h, j + 1, a, e => by
    have := yall_get h.2 j a e
    rw [show i + (j + 1) = i + 1 + j by omega]
    exact this
theorem yall_mk {α : Type} {P : Nat → α → Prop} : ∀ {l : List α} {i : Nat}, (∀ j a, l[j]? = some a → P (i + j) a) → yall P i l
  | [], _, _ => trivial
  | b :: l, i, h => ⟨h 0 b rfl, yall_mk (fun j a e => by
      have := h (j + 1) a e
      rw [show i + 1 + j = i + (j + 1) by omega]
      exact this)⟩
/-- what a variable says -/
noncomputable def yvr (gv : Nat → zH → Int) (ρ : Nat → Int) (loc : zL) (h : zH) (i : Nat) (v : Nat × Nat × sE) : Prop := match v with
  | (0, a, _) => ∃ x, zget loc a = some (.inl x) ∧ x.toInt = ρ i
  | (1, a, _) => ∃ x, zget loc a = some (.inr (.inl x)) ∧ x.toInt = ρ i
  | (2, a, e) => smm yReg gv ρ h (a, e, sY i)
  | _ => True
theorem ysvl {gv : Nat → zH → Int} {ρ : Nat → Int} {loc : zL} {h : zH} : ∀ {vs : List (Nat × Nat × sE)} {j : Nat}, yall (yvr gv ρ loc h) j vs → (∀ p ∈ svl j vs, ∃ v, zget loc p.1 = some v ∧ sm yReg ρ v p.2) ∧ (∀ m ∈ svp j vs, smm yReg gv ρ h m)
  | [], _, _ => ⟨fun p hp => (by cases hp), fun m hm => (by cases hm)⟩
  | (0, a, e) :: vs, j, hv => by
    obtain ⟨h1, h2⟩ := ysvl hv.2
    refine ⟨?_, h2⟩
    intro p hp
    rcases List.mem_cons.mp hp with rfl | hp
    · obtain ⟨x, e1, e2⟩ := hv.1
      exact ⟨_, e1, by show x.toInt = _; rw [sY_v]; exact e2⟩
    · exact h1 p hp
  | (1, a, e) :: vs, j, hv => by
    obtain ⟨h1, h2⟩ := ysvl hv.2
    refine ⟨?_, h2⟩
    intro p hp
    rcases List.mem_cons.mp hp with rfl | hp
    · obtain ⟨x, e1, e2⟩ := hv.1
      exact ⟨_, e1, by show x.toInt = _; rw [sY_v]; exact e2⟩
    · exact h1 p hp
  | (2, a, e) :: vs, j, hv => by
    obtain ⟨h1, h2⟩ := ysvl hv.2
    refine ⟨h1, ?_⟩
    intro m hm
    rcases List.mem_cons.mp hm with rfl | hm
    · exact hv.1
    · exact h2 m hm
  | (k + 3, a, e) :: vs, j, hv => by
    have e1 : svl j ((k + 3, a, e) :: vs) = svl (j + 1) vs := by
      rw [svl, if_neg (by show ¬ k + 3 = 0; omega), if_neg (by show ¬ k + 3 = 1; omega)]
    have e2 : svp j ((k + 3, a, e) :: vs) = svp (j + 1) vs := by
      rw [svp, if_neg (by show ¬ k + 3 = 2; omega)]
    rw [e1, e2]
    exact ysvl hv.2
theorem ysvr {gv : Nat → zH → Int} {ρ : Nat → Int} {loc : zL} {h : zH} : ∀ {vs : List (Nat × Nat × sE)} {j : Nat}, (∀ p ∈ svl j vs, ∃ v, zget loc p.1 = some v ∧ sm yReg ρ v p.2) → (∀ m ∈ svp j vs, smm yReg gv ρ h m) → yall (yvr gv ρ loc h) j vs
  | [], _, _, _ => trivial
  | (0, a, e) :: vs, j, h1, h2 => by
    refine ⟨?_, ysvr (fun p hp => h1 p (List.mem_cons_of_mem _ hp)) h2⟩
    obtain ⟨v, e1, e2⟩ := h1 (a, .inl (sY j)) (List.mem_cons_self ..)
    match v, e2 with
    | .inl x, e2 =>
      refine ⟨x, e1, ?_⟩
      have e2 : x.toInt = sv ρ (sY j) := e2
      rw [sY_v] at e2
      exact e2
  | (1, a, e) :: vs, j, h1, h2 => by
    refine ⟨?_, ysvr (fun p hp => h1 p (List.mem_cons_of_mem _ hp)) h2⟩
    obtain ⟨v, e1, e2⟩ := h1 (a, .inr (.inl (sY j))) (List.mem_cons_self ..)
    match v, e2 with
    | .inr (.inl x), e2 =>
      refine ⟨x, e1, ?_⟩
      have e2 : x.toInt = sv ρ (sY j) := e2
      rw [sY_v] at e2
      exact e2
  | (2, a, e) :: vs, j, h1, h2 => ⟨h2 (a, e, sY j) (List.mem_cons_self ..), ysvr h1 (fun m hm => h2 m (List.mem_cons_of_mem _ hm))⟩
  | (k + 3, a, e) :: vs, j, h1, h2 => by
    have e1 : svl j ((k + 3, a, e) :: vs) = svl (j + 1) vs := by
      rw [svl, if_neg (by show ¬ k + 3 = 0; omega), if_neg (by show ¬ k + 3 = 1; omega)]
    have e2 : svp j ((k + 3, a, e) :: vs) = svp (j + 1) vs := by
      rw [svp, if_neg (by show ¬ k + 3 = 2; omega)]
    rw [e1] at h1
    rw [e2] at h2
    exact ⟨trivial, ysvr h1 h2⟩
section YALT
variable {gv : Nat → zH → Int} {ρ ρ0 : Nat → Int} {loc : zL} {h : zH} {A : sA}
noncomputable def yrf (loc : zL) (_ : Nat) (p : Nat × Nat) : Prop := ∃ k, zget loc p.1 = some (.inr (.inr k)) ∧ yReg k = p.2
noncomputable def ybd (ρ : Nat → Int) (i : Nat) (b : Int × Int) : Prop := b.1 ≤ ρ i ∧ ρ i ≤ b.2
noncomputable def yct (ρ : Nat → Int) (_ : Nat) (c : sE) : Prop := sv ρ c ≤ 0
noncomputable def yet (ρ ρ0 : Nat → Int) (_ : Nat) (p : Nat × Nat) : Prop := ρ0 (p.1 + 1) = ρ p.2
/-- a state holds, by its parts -/
theorem ymk (h1 : yall (yrf loc) 0 A.1) (h2 : yall (yvr gv ρ loc h) 0 A.2.1) (h3 : yall (ybd ρ) 0 A.2.2.1) (h4 : yall (yct ρ) 0 A.2.2.2.1) (h5 : yall (yet ρ ρ0) 0 A.2.2.2.2.1) (h6 : ρ0 0 = sv ρ A.2.2.2.2.2) : sMt yReg gv ρ ρ0 (sAs A) loc [] h := by
  obtain ⟨l1, l2⟩ := ysvl h2
  refine ⟨?_, trivial, l2, ?_, ?_, ?_⟩
  · intro p hp
    rcases List.mem_append.mp hp with hp | hp
    · obtain ⟨y, hy, rfl⟩ := List.mem_map.mp hp
      obtain ⟨j, hj⟩ := List.getElem?_of_mem hy
      obtain ⟨k, e1, e2⟩ := yall_get h1 j y hj
      exact ⟨_, e1, e2⟩
    · exact l1 p hp
  · intro j b hb
    have := yall_get h3 j b hb
    rw [Nat.zero_add] at this
    exact this
  · intro c hc
    obtain ⟨j, hj⟩ := List.getElem?_of_mem hc
    exact yall_get h4 j c hj
  · intro p hp
    rcases List.mem_cons.mp hp with rfl | hp
    · exact h6
    · obtain ⟨y, hy, rfl⟩ := List.mem_map.mp hp
      obtain ⟨j, hj⟩ := List.getElem?_of_mem hy
      have := yall_get h5 j y hj
      show ρ0 (y.1 + 1) = sv ρ (sY y.2)
      rw [sY_v]
      exact this
theorem yun (hM : sMt yReg gv ρ ρ0 (sAs A) loc [] h) : yall (yrf loc) 0 A.1 ∧ yall (yvr gv ρ loc h) 0 A.2.1 ∧ yall (ybd ρ) 0 A.2.2.1 ∧ yall (yct ρ) 0 A.2.2.2.1 ∧ yall (yet ρ ρ0) 0 A.2.2.2.2.1 ∧ ρ0 0 = sv ρ A.2.2.2.2.2 := by
  obtain ⟨m1, -, m3, m4, m5, m6⟩ := hM
  refine ⟨?_, ysvr (fun p hp => m1 p (List.mem_append_right _ hp)) m3, ?_, ?_, ?_, m6 _ (List.mem_cons_self ..)⟩
  · refine yall_mk fun j a e => ?_
    obtain ⟨v, e1, e2⟩ := m1 (a.1, .inr (.inr a.2)) (List.mem_append_left _ (List.mem_map.mpr ⟨a, List.mem_of_getElem? e, rfl⟩))
    match v, e2 with
    | .inr (.inr k), e2 => exact ⟨k, e1, e2⟩
  · refine yall_mk fun j a e => ?_
    rw [Nat.zero_add]
    exact m4 j a e
  · exact yall_mk fun j a e => m5 a (List.mem_of_getElem? e)
  · refine yall_mk fun j a e => ?_
    have := m6 (a.1 + 1, sY a.2) (List.mem_cons_of_mem _ (List.mem_map.mpr ⟨a, List.mem_of_getElem? e, rfl⟩))
    show ρ0 (a.1 + 1) = ρ a.2
    rw [this, sY_v]
end YALT
/-- a place, by its cell -/
theorem ysm_p {gv : Nat → zH → Int} {ρ : Nat → Int} {h : zH} {r k : Nat} {e v : sE} (hr : r < 1000) (hk : yReg k = r) (hs : ySin r = true) (i : Nat) (hi : sv ρ e = i) (hv : yv h k i = sv ρ v) : smm yReg gv ρ h (r, e, v) := by
  unfold smm
  rw [if_pos hr]
  refine ⟨by show 0 ≤ sv ρ e; rw [hi]; omega, ?_⟩
  intro k' hk'
  have : k' = k := ySing k k' (by rw [hk]; exact hs) (hk'.trans hk.symm)
  subst this
  show (h.1 k' (sv ρ e).toNat).toInt = _
  rw [hi]
  exact hv
theorem ysm_u {gv : Nat → zH → Int} {ρ : Nat → Int} {h : zH} {r k : Nat} {e v : sE} (hr : r < 1000) (hk : yReg k = r) (hm : smm yReg gv ρ h (r, e, v)) (i : Nat) (hi : sv ρ e = i) : yv h k i = sv ρ v := by
  unfold smm at hm
  rw [if_pos hr] at hm
  have := hm.2 k hk
  have e2 : (sv ρ e).toNat = i := by rw [hi]; rfl
  have e3 : (h.1 k (sv ρ e).toNat).toInt = sv ρ v := this
  rw [e2] at e3
  exact e3
theorem ysm_g {gv : Nat → zH → Int} {ρ : Nat → Int} {h : zH} {a : Nat} {e v : sE} (hv : gv a h = sv ρ v) : smm yReg gv ρ h (1000 + a, e, v) := by
  unfold smm
  rw [if_neg (by show ¬ 1000 + a < 1000; omega)]
  show gv (1000 + a - 1000) h = _
  rw [Nat.add_sub_cancel_left]
  exact hv
theorem ysm_gu {gv : Nat → zH → Int} {ρ : Nat → Int} {h : zH} {a : Nat} {e v : sE} (hm : smm yReg gv ρ h (1000 + a, e, v)) : gv a h = sv ρ v := by
  unfold smm at hm
  rw [if_neg (by show ¬ 1000 + a < 1000; omega)] at hm
  have hm : gv (1000 + a - 1000) h = sv ρ v := hm
  rw [Nat.add_sub_cancel_left] at hm
  exact hm
noncomputable abbrev yrun (m d mid : Nat) (args : List zV) (h : zH) : Option (Option zV × zH) := zrun yTab yPI yMl yMr yFld yKI yKL yGst yLdS yFldS yAcp yCal m d mid 0 (zent 0 args) [] h
theorem yrun_u {m m' d mid : Nat} {args : List zV} {h : zH} {x y : Option zV × zH} (e1 : yrun m d mid args h = some x) (e2 : yrun m' d mid args h = some y) : x = y := by
  have f1 := zrun_le (Nat.le_max_left m m') e1
  have f2 := zrun_le (Nat.le_max_right m m') e2
  exact Option.some.inj (f1.symm.trans f2)
