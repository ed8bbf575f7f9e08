/-! from checks to runs -/
section QLNK
variable {gv : Nat → Int → Int → zH → Prop}
noncomputable def qS (gv : Nat → Int → Int → zH → Prop) (Q : sQ) : Prop := pSumQ yTab yPI yMl yMr yFld yKI yKL yGst yLdS yFldS yAcp yCal pReg qG gv Q
noncomputable def qSD (gv : Nat → Int → Int → zH → Prop) (d : Nat) (Q : sQ) : Prop := pSumDQ yTab yPI yMl yMr yFld yKI yKL yGst yLdS yFldS yAcp yCal pReg qG gv d Q
noncomputable def qR (gv : Nat → Int → Int → zH → Prop) (Q : sQ) : Prop := pRulQ pReg qG gv Q
theorem qrl_mem {RL : List (Nat × List sQ)} {pc : Nat} {q : sQ} (h : q ∈ qrl RL pc) : ∃ p ∈ RL, q ∈ p.2 := by
  unfold qrl at h
  split at h
  · rename_i p hp
    exact ⟨p, List.mem_of_find?_eq_some hp, h⟩
  · cases h
theorem qlb0_mem {L : List (Nat × List qAp)} {pc : Nat} {a : qAp} (h : a ∈ qlb0 L pc) : ∃ p ∈ L, p.1 = pc ∧ a ∈ p.2 := by
  unfold qlb0 at h
  split at h
  · rename_i p hp
    exact ⟨p, List.mem_of_find?_eq_some hp, (by have q := List.find?_some hp; exact eq_of_beq q), h⟩
  · cases h
theorem qlab_mem {Q : sQ} {L : List (Nat × List qAp)} {pc : Nat} {A : sA} (h : A ∈ qlab Q L pc) : (A = Q.2.1 ∧ pc = 0) ∨ ∃ p ∈ L, p.1 = pc ∧ ∃ a ∈ p.2, a.1 = A := by
  unfold qlab at h
  have key : ∀ {pc' : Nat}, A ∈ (qlb0 L pc').map (·.1) → ∃ p ∈ L, p.1 = pc' ∧ ∃ a ∈ p.2, a.1 = A := by
    intro pc' h
    obtain ⟨a, ha, e⟩ := List.mem_map.mp h
    obtain ⟨p, hp, e1, e2⟩ := qlb0_mem ha
    exact ⟨p, hp, e1, a, e2, e⟩
  by_cases z : pc = 0
  · rw [if_pos z] at h
    rcases List.mem_cons.mp h with h | h
    · exact Or.inl ⟨h, z⟩
    · rw [z]
      exact Or.inr (key h)
  · rw [if_neg z] at h
    exact Or.inr (key h)
/-- the rules that a check names -/
noncomputable def qUse (R : List sQ) (L : List (Nat × List qAp)) (RL : List (Nat × List sQ)) : List sQ := R ++ (L.flatMap (fun p => p.2.flatMap (fun a => a.2.2)) ++ RL.flatMap (fun p => p.2))
theorem qmeth (hgv : sGvQ pReg qGu gv) (htb : ∀ x y h, gv 61 x y h → qTab pReg h) {F : Nat} {Q : sQ} {sp : List (sE × List Int)} {R : List sQ} {L : List (Nat × List qAp)} {RL : List (Nat × List sQ)} {Qs : List sQ} (hc : qChk F Q sp R L RL Qs = true) (hRs : ∀ q ∈ qUse R L RL, qR gv q) {d : Nat} (hQs : ∀ P ∈ Qs, ∀ d', d' < d → qSD gv d' P) : qSD gv d Q := by
  unfold qChk at hc
  rw [Bool.and_eq_true] at hc
  obtain ⟨c0, cl⟩ := hc
  have cl := List.all_eq_true.mp cl
  refine pmethDQ pComp pSing pCell pR1000 hgv (labs := qlab Q L) (rul := qrl RL) (Rs := qUse R L RL) hQs hRs (fun pc q hq => ?_) htb (F := F) ?_ (fun pc A hA => ?_)
  · obtain ⟨p, hp, hq⟩ := qrl_mem hq
    unfold qUse
    exact List.mem_append_right _ (List.mem_append_right _ (List.mem_flatMap.mpr ⟨p, hp, hq⟩))
  · unfold qlab
    rw [if_pos rfl]
    exact List.mem_cons_self
  · rcases qlab_mem hA with ⟨rfl, rfl⟩ | ⟨p, hp, rfl, a, ha, rfl⟩
    · refine ⟨sp, R, fun q hq => by unfold qUse; exact List.mem_append_left _ hq, fun S hS => ?_⟩
      unfold qSeg at c0
      exact List.all_eq_true.mp c0 S hS
    · have c1 := List.all_eq_true.mp (cl p hp) a ha
      unfold qSeg at c1
      refine ⟨a.2.1, a.2.2, fun q hq => ?_, fun S hS => List.all_eq_true.mp c1 S hS⟩
      unfold qUse
      exact List.mem_append_right _ (List.mem_append_left _ (List.mem_flatMap.mpr ⟨p, hp, List.mem_flatMap.mpr ⟨a, ha, hq⟩⟩))
/-- a method by itself, its callees told -/
theorem qmeth1 (hgv : sGvQ pReg qGu gv) (htb : ∀ x y h, gv 61 x y h → qTab pReg h) {F : Nat} {Q : sQ} {sp : List (sE × List Int)} {R : List sQ} {L : List (Nat × List qAp)} {RL : List (Nat × List sQ)} {Qs : List sQ} (hc : qChk F Q sp R L RL Qs = true) (hRs : ∀ q ∈ qUse R L RL, qR gv q) (hQs : ∀ P ∈ Qs, qS gv P) : qS gv Q := fun d => qmeth hgv htb hc hRs (fun P hP d' _ => hQs P hP d')
/-- a contract told by hand -/
theorem qhand {Q : sQ} (he : Q.2.1.2.2.2.2.1 = (List.range Q.2.1.2.1.length).map (fun j => (j, j))) (hx : ∀ (d m : Nat) (args : List zV) (h : zH) (ρ : Nat → Int) (r : Option zV) (h' : zH), sG pReg qG h → (∀ p ∈ (sAs Q.2.1).1, ∃ v, zget (zent 0 args) p.1 = some v ∧ sm pReg ρ v p.2) → (∀ m ∈ svp 0 Q.2.1.2.1, smmQ pReg gv ρ h m) → sOk Q.2.1.2.2.1 ρ → (∀ c ∈ Q.2.1.2.2.2.1, sv ρ c ≤ 0) → yz m d Q.1 0 (zent 0 args) [] h = some (r, h') → sG pReg qG h' ∧ sF pReg Q.2.2.2.1 h h' ∧ ∃ X ∈ Q.2.2.1, X.2.2.1 = [] ∧ (∀ c ∈ X.2.2.2.1, sv ρ c ≤ 0) ∧ (∀ m ∈ X.2.1, smmQ pReg gv ρ h' m) ∧ srt pReg ρ X.1 r) : qS gv Q := by
  intro d args h ρ ρ0 hG hM m r h' hr
  obtain ⟨m1, m2, m3, m4, m5, m6⟩ := hM
  obtain ⟨g1, g2, X, hX, x2, x3, x4, x5⟩ := hx d m args h ρ r h' hG m1 m3 m4 m5 hr
  refine ⟨g1, g2, X, hX, ρ, fun j hj => ?_, ?_, x3, x4, x5⟩
  · have hmem : (j + 1, sY j) ∈ (sAs Q.2.1).2.2.2.2.2 := by
      show (j + 1, sY j) ∈ (0, Q.2.1.2.2.2.2.2) :: Q.2.1.2.2.2.2.1.map (fun p => (p.1 + 1, sY p.2))
      refine List.mem_cons_of_mem _ (List.mem_map.mpr ⟨(j, j), ?_, rfl⟩)
      rw [he]
      exact List.mem_map.mpr ⟨j, List.mem_range.mpr hj, rfl⟩
    have := m6 _ hmem
    rw [sY_v] at this
    exact this.symm
  · intro k b hb
    rw [x2] at hb
    cases hb
theorem qobj {ρ : Nat → Int} {v : zV} {r k : Nat} (hv : sm pReg ρ v (.inr (.inr r))) (hk : pReg k = r) (hs : pSin r = true) : v = .inr (.inr k) := by
  match v, hv with
  | .inl x, hv => exact hv.elim
  | .inr (.inl x), hv => exact hv.elim
  | .inr (.inr k'), hv =>
    have e : pReg k' = r := hv
    rw [pSing k k' (by rw [hk]; exact hs) (by rw [e, hk])]
theorem qint {ρ : Nat → Int} {v : zV} {e : sE} (hv : sm pReg ρ v (.inl e)) : ∃ x : Int32, v = .inl x ∧ x.toInt = sv ρ e := by
  match v, hv with
  | .inl x, hv => exact ⟨x, rfl, hv⟩
  | .inr (.inl x), hv => exact hv.elim
  | .inr (.inr x), hv => exact hv.elim
/-- where nothing but one cell is changed, and none of its bounds are told -/
theorem qsG1 {c : Nat} {h h' : zH} (hG : sG pReg qG h) (hc : ∀ a, a ≠ c → h'.1 a = h.1 a) (hq : qG (pReg c) = []) : sG pReg qG h' := by
  intro k z hz i h1 h2
  by_cases e : k = c
  · rw [e, hq] at hz
    cases hz
  · rw [hc k e]
    exact hG k z hz i h1 h2
theorem qsF1 {c n : Nat} {md : sD} {h h' : zH} (hc : ∀ a, a ≠ c → h'.1 a = h.1 a) (hi : ∀ i, n ≤ i → h'.1 c i = h.1 c i) (hm : (pReg c, 0, (n : Int) - 1) ∈ md) : sF pReg md h h' := by
  intro k i hne
  by_cases e : k = c
  · subst e
    refine ⟨_, hm, rfl, Int.natCast_nonneg i, ?_⟩
    show (i : Int) ≤ (n : Int) - 1
    by_cases z : i < n
    · omega
    · exact absurd (hi i (by omega)) hne
  · exact absurd (congrFun (hc k e) i) hne
end QLNK
