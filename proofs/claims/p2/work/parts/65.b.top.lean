/-! every public method keeps what is told of the heap -/
noncomputable def yInv (h : zH) : Prop := sG yReg yG h ∧ yG4 h ∧ yG5 h ∧ yG6 h ∧ yG7 h ∧ yv h 440 22 ≤ 6 * yv h 419 0
noncomputable def ywI (args : List zV) (a : Nat) : Int := match zget (zent 0 args) a with
  | some (.inl x) => x.toInt
  | _ => 0
noncomputable def ywL (args : List zV) (a : Nat) : Int := match zget (zent 0 args) a with
  | some (.inr (.inl x)) => x.toInt
  | _ => 0
/-- a variable's value at a method's start -/
noncomputable def ywl (gv : Nat → zH → Int) (args : List zV) (h : zH) (v : Nat × Nat × sE) : Int := match v with
  | (0, a, _) => ywI args a
  | (1, a, _) => ywL args a
  | (2, r, e) => if r < 1000 then yv h (yCel r) e.1.toNat else gv (r - 1000) h
  | _ => 0
/-- an argument's kind and bounds -/
noncomputable def ytyp (args : List zV) (z : Nat × Nat × Int × Int) : Prop := match z.2.1 with
  | 0 => ∃ x : Int32, zget (zent 0 args) z.1 = some (.inl x) ∧ z.2.2.1 ≤ x.toInt ∧ x.toInt ≤ z.2.2.2
  | _ => ∃ x : Int64, zget (zent 0 args) z.1 = some (.inr (.inl x)) ∧ z.2.2.1 ≤ x.toInt ∧ x.toInt ≤ z.2.2.2
noncomputable def yVok (tys : List (Nat × Nat × Int × Int)) (gs : List (Nat × Int × Int)) (v : Nat × Nat × sE) (b : Int × Int) : Bool := match v with
  | (0, a, _) => tys.any (fun z => decide (z.1 = a) && (decide (z.2.1 = 0) && (decide (b.1 ≤ z.2.2.1) && decide (z.2.2.2 ≤ b.2))))
  | (1, a, _) => tys.any (fun z => decide (z.1 = a) && (decide (z.2.1 = 1) && (decide (b.1 ≤ z.2.2.1) && decide (z.2.2.2 ≤ b.2))))
  | (2, r, e) => if r < 1000 then (ySin r && (decide (yReg (yCel r) = r) && (e.2.isEmpty && (decide (0 ≤ e.1) && (decide (b.1 ≤ (sgb yG r e.1 e.1).1) && decide ((sgb yG r e.1 e.1).2 ≤ b.2))))))
    else gs.any (fun z => decide (z.1 = r - 1000) && (decide (b.1 ≤ z.2.1) && decide (z.2.2 ≤ b.2)))
  | _ => false
abbrev yKc : Type := Int × List ((Nat × Nat × sE) × Int)
noncomputable def ysum (f : Nat × Nat × sE → Int) : List ((Nat × Nat × sE) × Int) → Int
  | [] => 0
  | p :: l => p.2 * f p.1 + ysum f l
noncomputable def yeqV (a b : Nat × Nat × sE) : Bool := decide (a.1 = b.1) && (decide (a.2.1 = b.2.1) && (decide (a.2.2.1 = b.2.2.1) && decide (a.2.2.2 = b.2.2.2)))
theorem yeqV_e {a b : Nat × Nat × sE} (h : yeqV a b = true) : a = b := by
  unfold yeqV at h
  simp only [Bool.and_eq_true, decide_eq_true_eq] at h
  obtain ⟨a1, a2, a3, a4⟩ := a
  obtain ⟨b1, b2, b3, b4⟩ := b
  obtain ⟨h1, h2, h3, h4⟩ := h
  simp only at h1 h2 h3 h4
  rw [h1, h2, h3, h4]
noncomputable def yeqL : List ((Nat × Nat × sE) × Int) → List ((Nat × Nat × sE) × Int) → Bool
  | [], [] => true
  | p :: l, q :: m => yeqV p.1 q.1 && (decide (p.2 = q.2) && yeqL l m)
  | _, _ => false
theorem yeqL_e : ∀ {a b : List ((Nat × Nat × sE) × Int)}, yeqL a b = true → a = b
  | [], [], _ => rfl
  | [], _ :: _, h => by cases h
  | _ :: _, [], h => by cases h
  | (p1, p2) :: l, (q1, q2) :: m, h => by
    unfold yeqL at h
    simp only [Bool.and_eq_true, decide_eq_true_eq] at h
    rw [yeqV_e h.1, h.2.1, yeqL_e h.2.2]
noncomputable def yPok (r0 : Nat) (tys : List (Nat × Nat × Int × Int)) (gs : List (Nat × Int × Int)) (kcs : List yKc) (A : sA) : Bool :=
  A.1.all (fun p => decide (p.1 = 0) && decide (p.2 = r0)) && (decide (A.2.2.1.length = A.2.1.length) && ((List.range A.2.1.length).all (fun j => yVok tys gs (A.2.1.getD j (9, 0, (0, []))) (A.2.2.1.getD j (0, 0))) && (A.2.2.2.1.all (fun c => kcs.any (fun k => (decide (k.1 = c.1) && yeqL k.2 (c.2.map (fun p => (A.2.1.getD p.1 (9, 0, (0, [])), p.2)))))) && A.2.2.2.2.1.all (fun p => decide (p.1 = p.2)))))
theorem ysum_T (f : Nat × Nat × sE → Int) (g : Nat → Nat × Nat × sE) : ∀ l : List (Nat × Int), sT (fun j => f (g j)) l = ysum f (l.map (fun p => (g p.1, p.2)))
  | [] => rfl
  | p :: l => by
    show p.2 * f (g p.1) + sT (fun j => f (g j)) l = p.2 * f (g p.1) + ysum f (l.map (fun p => (g p.1, p.2)))
    rw [ysum_T f g l]
/-- a place's bounds -/
theorem ysgb {h : zH} (hG : sG yReg yG h) (k c : Nat) : (sgb yG (yReg k) c c).1 ≤ yv h k c ∧ yv h k c ≤ (sgb yG (yReg k) c c).2 := by
  unfold sgb
  cases hg : (yG (yReg k)).find? (fun z => decide ((z.1 : Int) ≤ c) && decide ((c : Int) ≤ (z.2.1 : Int))) with
  | none => exact si32 (h.1 k c)
  | some z =>
    have hz := List.find?_some hg
    simp only [Bool.and_eq_true, decide_eq_true_eq] at hz
    exact hG k z (List.mem_of_find?_eq_some hg) c (by omega) (by omega)
section YTOP
variable {gv : Nat → zH → Int} {args : List zV} {h : zH} {A : sA} {r0 : Nat} {tys : List (Nat × Nat × Int × Int)} {gs : List (Nat × Int × Int)} {kcs : List yKc}
theorem yVok_b (hG : sG yReg yG h) (hty : ∀ z ∈ tys, ytyp args z) (hgs : ∀ z ∈ gs, z.2.1 ≤ gv z.1 h ∧ gv z.1 h ≤ z.2.2) {v : Nat × Nat × sE} {b : Int × Int} (hc : yVok tys gs v b = true) : b.1 ≤ ywl gv args h v ∧ ywl gv args h v ≤ b.2 := by
  match v, hc with
  | (0, a, e), hc =>
    obtain ⟨z, hz, hz2⟩ := List.any_eq_true.mp hc
    simp only [Bool.and_eq_true, decide_eq_true_eq] at hz2
    obtain ⟨q1, q2, q3, q4⟩ := hz2
    have ht := hty z hz
    unfold ytyp at ht
    rw [q2, q1] at ht
    obtain ⟨x, e1, e2, e3⟩ := ht
    show b.1 ≤ ywI args a ∧ ywI args a ≤ b.2
    unfold ywI
    rw [e1]
    exact ⟨Int.le_trans q3 e2, Int.le_trans e3 q4⟩
  | (1, a, e), hc =>
    obtain ⟨z, hz, hz2⟩ := List.any_eq_true.mp hc
    simp only [Bool.and_eq_true, decide_eq_true_eq] at hz2
    obtain ⟨q1, q2, q3, q4⟩ := hz2
    have ht := hty z hz
    unfold ytyp at ht
    rw [q2, q1] at ht
    obtain ⟨x, e1, e2, e3⟩ := ht
    show b.1 ≤ ywL args a ∧ ywL args a ≤ b.2
    unfold ywL
    rw [e1]
    exact ⟨Int.le_trans q3 e2, Int.le_trans e3 q4⟩
  | (2, r, e), hc =>
    unfold yVok at hc
    unfold ywl
    simp only at hc ⊢
    by_cases hr : r < 1000
    · rw [if_pos hr] at hc ⊢
      simp only [Bool.and_eq_true, decide_eq_true_eq] at hc
      obtain ⟨c1, c2, c3, c4, c5, c6⟩ := hc
      have := ysgb hG (yCel r) e.1.toNat
      rw [c2, Int.toNat_of_nonneg c4] at this
      exact ⟨Int.le_trans c5 this.1, Int.le_trans this.2 c6⟩
    · rw [if_neg hr] at hc ⊢
      obtain ⟨z, hz, hz2⟩ := List.any_eq_true.mp hc
      simp only [Bool.and_eq_true, decide_eq_true_eq] at hz2
      have := hgs z hz
      rw [hz2.1] at this
      exact ⟨Int.le_trans hz2.2.1 this.1, Int.le_trans this.2 hz2.2.2⟩
  | (k + 3, a, e), hc => cases hc
theorem yVok_v (hty : ∀ z ∈ tys, ytyp args z) {ρ : Nat → Int} {i : Nat} {v : Nat × Nat × sE} {b : Int × Int} (hρ : ρ i = ywl gv args h v) (hc : yVok tys gs v b = true) : yvr gv ρ (zent 0 args) h i v := by
  match v, hc, hρ with
  | (0, a, e), hc, hρ =>
    obtain ⟨z, hz, hz2⟩ := List.any_eq_true.mp hc
    simp only [Bool.and_eq_true, decide_eq_true_eq] at hz2
    obtain ⟨q1, q2, q3, q4⟩ := hz2
    have ht := hty z hz
    unfold ytyp at ht
    rw [q2, q1] at ht
    obtain ⟨x, e1, e2, e3⟩ := ht
    refine ⟨x, e1, ?_⟩
    have hρ : ρ i = ywI args a := hρ
    rw [hρ]
    unfold ywI
    rw [e1]
  | (1, a, e), hc, hρ =>
    obtain ⟨z, hz, hz2⟩ := List.any_eq_true.mp hc
    simp only [Bool.and_eq_true, decide_eq_true_eq] at hz2
    obtain ⟨q1, q2, q3, q4⟩ := hz2
    have ht := hty z hz
    unfold ytyp at ht
    rw [q2, q1] at ht
    obtain ⟨x, e1, e2, e3⟩ := ht
    refine ⟨x, e1, ?_⟩
    have hρ : ρ i = ywL args a := hρ
    rw [hρ]
    unfold ywL
    rw [e1]
  | (2, r, e), hc, hρ =>
    unfold yVok at hc
    unfold ywl at hρ
    simp only at hc hρ
    by_cases hr : r < 1000
    · rw [if_pos hr] at hc hρ
      simp only [Bool.and_eq_true, decide_eq_true_eq] at hc
      obtain ⟨c1, c2, c3, c4, c5, c6⟩ := hc
      refine ysm_p (k := yCel r) hr c2 c1 e.1.toNat ?_ ?_
      · rw [List.isEmpty_iff] at c3
        show e.1 + sT ρ e.2 = _
        rw [c3, Int.toNat_of_nonneg c4]
        show e.1 + 0 = e.1
        omega
      · rw [sY_v]
        exact hρ.symm
    · rw [if_neg hr] at hρ
      show smm yReg gv ρ h (r, e, sY i)
      unfold smm
      rw [if_neg hr]
      show gv (r - 1000) h = sv ρ (sY i)
      rw [sY_v]
      exact hρ.symm
  | (k + 3, a, e), hc, hρ => cases hc
/-- the values of a start's variables -/
noncomputable def yρs (gv : Nat → zH → Int) (args : List zV) (h : zH) (A : sA) (j : Nat) : Int := ywl gv args h (A.2.1.getD j (9, 0, (0, [])))
noncomputable def yρt (gv : Nat → zH → Int) (args : List zV) (h : zH) (A : sA) : Nat → Int
  | 0 => sv (yρs gv args h A) A.2.2.2.2.2
  | j + 1 => yρs gv args h A j
theorem ypre (hG : sG yReg yG h) (hrf : ∃ k, zget (zent 0 args) 0 = some (.inr (.inr k)) ∧ yReg k = r0) (hty : ∀ z ∈ tys, ytyp args z) (hgs : ∀ z ∈ gs, z.2.1 ≤ gv z.1 h ∧ gv z.1 h ≤ z.2.2) (hks : ∀ k ∈ kcs, k.1 + ysum (ywl gv args h) k.2 ≤ 0) (hc : yPok r0 tys gs kcs A = true) : sMt yReg gv (yρs gv args h A) (yρt gv args h A) (sAs A) (zent 0 args) [] h := by
  unfold yPok at hc
  simp only [Bool.and_eq_true, decide_eq_true_eq, List.all_eq_true] at hc
  obtain ⟨c1, c2, c3, c4, c5⟩ := hc
  have hgd : ∀ {j : Nat} {a : Nat × Nat × sE}, A.2.1[j]? = some a → A.2.1.getD j (9, 0, (0, [])) = a := by
    intro j a e
    rw [List.getD_eq_getElem?_getD, e]
    rfl
  refine ymk (yall_mk ?_) (yall_mk ?_) (yall_mk ?_) (yall_mk ?_) (yall_mk ?_) rfl
  · intro j p e
    have := c1 p (List.mem_of_getElem? e)
    obtain ⟨k, k1, k2⟩ := hrf
    refine ⟨k, ?_, ?_⟩
    · rw [this.1]
      exact k1
    · rw [this.2]
      exact k2
  · intro j a e
    have hj : j < A.2.1.length := (List.getElem?_eq_some_iff.mp e).1
    have := c3 j (List.mem_range.mpr hj)
    rw [hgd e] at this
    rw [Nat.zero_add]
    refine yVok_v hty ?_ this
    show ywl gv args h (A.2.1.getD j (9, 0, (0, []))) = _
    rw [hgd e]
  · intro j b e
    have hj : j < A.2.2.1.length := (List.getElem?_eq_some_iff.mp e).1
    have := c3 j (List.mem_range.mpr (by omega))
    rw [show A.2.2.1.getD j (0, 0) = b by rw [List.getD_eq_getElem?_getD, e]; rfl] at this
    rw [Nat.zero_add]
    exact yVok_b hG hty hgs this
  · intro j c e
    obtain ⟨k, hk, hk2⟩ := List.any_eq_true.mp (c4 c (List.mem_of_getElem? e))
    rw [Bool.and_eq_true, decide_eq_true_eq] at hk2
    have := hks k hk
    rw [hk2.1, yeqL_e hk2.2] at this
    show c.1 + sT (yρs gv args h A) c.2 ≤ 0
    have e2 := ysum_T (ywl gv args h) (fun j => A.2.1.getD j (9, 0, (0, []))) c.2
    have e3 : sT (yρs gv args h A) c.2 = ysum (ywl gv args h) (c.2.map (fun p => (A.2.1.getD p.1 (9, 0, (0, [])), p.2))) := e2
    rw [e3]
    exact this
  · intro j p e
    have := c5 p (List.mem_of_getElem? e)
    show yρs gv args h A p.1 = yρs gv args h A p.2
    rw [this]
end YTOP
/-- no place in common -/
noncomputable def yfre (md u : sD) : Bool := md.all (fun z => u.all (fun w => !decide (w.1 = z.1) || (decide (z.2.2 < w.2.1) || decide (w.2.2 < z.2.1))))
theorem yfre_ok {md u : sD} {h h' : zH} (hc : yfre md u = true) (hF : sF yReg md h h') {k i : Nat} (hz : ∃ z ∈ u, yReg k = z.1 ∧ z.2.1 ≤ (i : Int) ∧ (i : Int) ≤ z.2.2) : h.1 k i = h'.1 k i := by
  by_cases q : h'.1 k i = h.1 k i
  · exact q.symm
  · obtain ⟨z, hz1, e1, e2, e3⟩ := hF k i q
    obtain ⟨w, hw1, f1, f2, f3⟩ := hz
    have := (List.all_eq_true.mp ((List.all_eq_true.mp hc) z hz1)) w hw1
    simp only [Bool.or_eq_true, Bool.not_eq_true', decide_eq_false_iff_not, decide_eq_true_eq] at this
    rcases this with a | a | a
    · exact absurd (f1.symm.trans e1) a
    · omega
    · omega
noncomputable def ybt (B : sB) (e : sE) (c : Int) : Bool := match sLb B e, sUb B e with
  | some a, some b => decide (c ≤ a) && decide (b ≤ c)
  | _, _ => false
theorem ybt_v {B : sB} {ρ : Nat → Int} (hB : sOk B ρ) {e : sE} {c : Int} (hc : ybt B e c = true) : sv ρ e = c := by
  unfold ybt at hc
  cases h1 : sLb B e with
  | none => rw [h1] at hc; cases hc
  | some a =>
    cases h2 : sUb B e with
    | none => rw [h1, h2] at hc; cases hc
    | some b =>
      rw [h1, h2] at hc
      simp only [Bool.and_eq_true, decide_eq_true_eq] at hc
      have := sLb_le hB h1
      have := sUb_le hB h2
      omega
/-- an end tells c of the quantity a -/
noncomputable def ytl (X : sX) (B : sB) (a : Nat) (c : Int) : Bool := X.2.1.any (fun m => decide (m.1 = a) && ybt B m.2.2 c)
/-- an end tells c of the reference's field i -/
noncomputable def ytf (X : sX) (B : sB) (i c : Int) : Bool := X.2.1.any (fun m => decide (m.1 = 120) && (decide (m.2.1 = (i, [])) && ybt B m.2.2 c))
/-- an end tells of two places, f of one is at most g of the other -/
noncomputable def ytw (X : sX) (B : sB) (r1 : Nat) (i1 : Int) (r2 : Nat) (i2 : Int) (k c : Int) : Bool := X.2.1.any (fun m => decide (m.1 = r1) && (decide (m.2.1 = (i1, [])) && X.2.1.any (fun n => decide (n.1 = r2) && (decide (n.2.1 = (i2, [])) && sp0 B X.2.2.2.1 (sac (sadd m.2.2 n.2.2 k) c)))))
noncomputable def yXok (md : sD) (B : sB) (X : sX) : Bool :=
  (yfre md (yGu 4) || (ytl X B 1004 1 || (ytl X B 1009 1 && (ytw X B 120 13 120 14 (-1) (-1) && ytw X B 120 14 120 13 (-1) 1)))) && ((yfre md (yGu 5) || ytl X B 1005 1) && ((yfre md (yGu 6) || (ytl X B 1006 1 || ytf X B 39 0)) && ((yfre md (yGu 7) || (ytl X B 1007 1 || ytf X B 55 0)) && ((yfre md [(120, 22, 22), (99, 0, 0)] || ytw X B 120 22 99 0 (-6) 0) && (match X.1 with
    | some (0, _) => true
    | _ => false)))))
noncomputable def yTok (r0 : Nat) (tys : List (Nat × Nat × Int × Int)) (gs : List (Nat × Int × Int)) (kcs : List yKc) (Q : sQ) : Bool := yPok r0 tys gs kcs Q.2.1 && Q.2.2.1.all (fun X => yXok Q.2.2.2.1 (Q.2.1.2.2.1 ++ X.2.2.1) X)
section YTOP2
variable {t s : Nat} {c0 v0 : Nat → Int} {ar : Nat → Int32} {args : List zV} {h : zH} {Q : sQ} {r0 : Nat} {tys : List (Nat × Nat × Int × Int)} {gs : List (Nat × Int × Int)} {kcs : List yKc}
theorem ytl_ok {gv : Nat → zH → Int} {X : sX} {B : sB} {ρ : Nat → Int} {h' : zH} {a : Nat} {c : Int} (hB : sOk B ρ) (hm : ∀ m ∈ X.2.1, smm yReg gv ρ h' m) (ht : ytl X B (1000 + a) c = true) : gv a h' = c := by
  obtain ⟨m, m1, m2⟩ := List.any_eq_true.mp ht
  rw [Bool.and_eq_true, decide_eq_true_eq] at m2
  have := hm m m1
  obtain ⟨r, e, v⟩ := m
  have e1 : r = 1000 + a := m2.1
  subst e1
  rw [ysm_gu this]
  exact ybt_v hB m2.2
theorem ytf_ok {gv : Nat → zH → Int} {X : sX} {B : sB} {ρ : Nat → Int} {h' : zH} {i : Nat} {c : Int} (hB : sOk B ρ) (hm : ∀ m ∈ X.2.1, smm yReg gv ρ h' m) (ht : ytf X B i c = true) : yv h' 440 i = c := by
  obtain ⟨m, m1, m2⟩ := List.any_eq_true.mp ht
  simp only [Bool.and_eq_true, decide_eq_true_eq] at m2
  have := hm m m1
  obtain ⟨r, e, v⟩ := m
  obtain ⟨e1, e2, e3⟩ := m2
  have e1 : r = 120 := e1
  have e2 : e = ((i : Int), []) := e2
  subst e1 e2
  rw [ysm_u (k := 440) (by decide) (by decide +kernel) this i (by show (i : Int) + 0 = i; omega)]
  exact ybt_v hB e3
theorem ytw_ok {gv : Nat → zH → Int} {X : sX} {B : sB} {ρ : Nat → Int} {h' : zH} {r1 i1 r2 i2 k1 k2 : Nat} {k c : Int} (hB : sOk B ρ) (hC : ∀ c ∈ X.2.2.2.1, sv ρ c ≤ 0) (hm : ∀ m ∈ X.2.1, smm yReg gv ρ h' m) (hr1 : r1 < 1000) (hr2 : r2 < 1000) (hk1 : yReg k1 = r1) (hk2 : yReg k2 = r2) (ht : ytw X B r1 i1 r2 i2 k c = true) : yv h' k1 i1 + k * yv h' k2 i2 + c ≤ 0 := by
  obtain ⟨m, m1, m2⟩ := List.any_eq_true.mp ht
  simp only [Bool.and_eq_true, decide_eq_true_eq] at m2
  obtain ⟨e1, e2, e3⟩ := m2
  obtain ⟨n, n1, n2⟩ := List.any_eq_true.mp e3
  simp only [Bool.and_eq_true, decide_eq_true_eq] at n2
  obtain ⟨f1, f2, f3⟩ := n2
  have q1 := hm m m1
  have q2 := hm n n1
  obtain ⟨r, e, v⟩ := m
  obtain ⟨r', e', v'⟩ := n
  have e1 : r = r1 := e1
  have e2 : e = ((i1 : Int), []) := e2
  have f1 : r' = r2 := f1
  have f2 : e' = ((i2 : Int), []) := f2
  subst e1 e2 f1 f2
  rw [ysm_u (k := k1) hr1 hk1 q1 i1 (by show (i1 : Int) + 0 = i1; omega), ysm_u (k := k2) hr2 hk2 q2 i2 (by show (i2 : Int) + 0 = i2; omega)]
  have := sp0_le hB hC f3
  rw [sac_v, sadd_v] at this
  exact this
/-- an end keeps what is told -/
theorem yXok_ok (ht : t < 5) {n : Nat} {md : sD} {X : sX} {h' : zH} {r : Option zV} {ρ0 : Nat → Int} {B0 : sB} (hn : B0.length = n) (hB0 : ∀ j b, B0[j]? = some b → b.1 ≤ ρ0 (j + 1) ∧ ρ0 (j + 1) ≤ b.2) (hI : yInv h) (hG' : sG yReg yG h') (hF : sF yReg md h h') (hE : sEx yReg (yGv t s c0 v0 ar) n X ρ0 r h') (hc : yXok md (B0 ++ X.2.2.1) X = true) : yInv h' ∧ ∃ x : Int32, r = some (.inl x) := by
  obtain ⟨hG, g4, g5, g6, g7, gm⟩ := hI
  obtain ⟨ρx, x1, x2, x3, x4, x5⟩ := hE
  unfold yXok at hc
  simp only [Bool.and_eq_true, Bool.or_eq_true] at hc
  obtain ⟨k4, k5, k6, k7, km, kr⟩ := hc
  have hB : sOk (B0 ++ X.2.2.1) ρx := by
    intro j b e
    by_cases hj : j < B0.length
    · rw [List.getElem?_append_left hj] at e
      rw [x1 j (by omega)]
      exact hB0 j b e
    · rw [List.getElem?_append_right (by omega)] at e
      have := x2 _ b e
      rw [show n + (j - B0.length) = j by omega] at this
      exact this
  have hfr : ∀ a, yfre md (yGu a) = true → yGv t s c0 v0 ar a h = yGv t s c0 v0 ar a h' := fun a ha => yGvOk ht a h h' (fun k i hz => yfre_ok ha hF hz)
  refine ⟨⟨hG', ?_, ?_, ?_, ?_, ?_⟩, ?_⟩
  · rcases k4 with k | k | ⟨k, ka, kb⟩
    · refine yB_1.mp ?_
      show yGv t s c0 v0 ar 4 h' = 1
      rw [← hfr 4 k]
      exact yB_1.mpr g4
    · exact yB_1.mp (ytl_ok (a := 4) hB x4 k)
    · have g9 : yG9 h' := yB_1.mp (ytl_ok (a := 9) hB x4 k)
      have a1 := ytw_ok (k1 := 440) (k2 := 440) (i1 := 13) (i2 := 14) hB x3 x4 (by decide) (by decide) (by decide +kernel) (by decide +kernel) ka
      have a2 := ytw_ok (k1 := 440) (k2 := 440) (i1 := 14) (i2 := 13) hB x3 x4 (by decide) (by decide) (by decide +kernel) (by decide +kernel) kb
      have a3 : yv h' 440 13 = yv h' 440 14 + 1 := by omega
      refine ⟨by have := g9.1; omega, ?_⟩
      rw [a3]
      exact g9.2
  · rcases k5 with k | k
    · refine yB_1.mp ?_
      show yGv t s c0 v0 ar 5 h' = 1
      rw [← hfr 5 k]
      exact yB_1.mpr g5
    · exact yB_1.mp (ytl_ok (a := 5) hB x4 k)
  · rcases k6 with k | k | k
    · refine yB_1.mp ?_
      show yGv t s c0 v0 ar 6 h' = 1
      rw [← hfr 6 k]
      exact yB_1.mpr g6
    · exact yB_1.mp (ytl_ok (a := 6) hB x4 k)
    · have := ytf_ok (i := 39) hB x4 k
      intro a a1 a2
      omega
  · rcases k7 with k | k | k
    · refine yB_1.mp ?_
      show yGv t s c0 v0 ar 7 h' = 1
      rw [← hfr 7 k]
      exact yB_1.mpr g7
    · exact yB_1.mp (ytl_ok (a := 7) hB x4 k)
    · exact Or.inl (ytf_ok (i := 55) hB x4 k)
  · rcases km with k | k
    · have e1 : h.1 440 22 = h'.1 440 22 := yfre_ok k hF ⟨(120, 22, 22), List.mem_cons_self .., by decide +kernel, by decide, by decide⟩
      have e2 : h.1 419 0 = h'.1 419 0 := yfre_ok k hF ⟨(99, 0, 0), List.mem_cons_of_mem _ (List.mem_cons_self ..), by decide +kernel, by decide, by decide⟩
      unfold yv at gm ⊢
      rw [← e1, ← e2]
      exact gm
    · have := ytw_ok (k1 := 440) (k2 := 419) (i1 := 22) (i2 := 0) hB x3 x4 (by decide) (by decide) (by decide +kernel) (by decide +kernel) k
      omega
  · match hx : X.1, kr, x5 with
    | some (0, e), _, x5 =>
      match r, x5 with
      | some (.inl x), _ => exact ⟨x, rfl⟩
theorem ytop (ht : t < 5) (hS : ySum (yGv t s c0 v0 ar) Q) (hI : yInv h) (hrf : ∃ k, zget (zent 0 args) 0 = some (.inr (.inr k)) ∧ yReg k = r0) (hty : ∀ z ∈ tys, ytyp args z) (hgs : ∀ z ∈ gs, z.2.1 ≤ yGv t s c0 v0 ar z.1 h ∧ yGv t s c0 v0 ar z.1 h ≤ z.2.2) (hks : ∀ k ∈ kcs, k.1 + ysum (ywl (yGv t s c0 v0 ar) args h) k.2 ≤ 0) (hc : yTok r0 tys gs kcs Q = true) {d : Nat} (hd : Q.2.2.2.2 ≤ d) : ∃ m x h', yrun m d Q.1 args h = some (some (.inl x), h') ∧ yInv h' ∧ sF yReg Q.2.2.2.1 h h' := by
  unfold yTok at hc
  rw [Bool.and_eq_true] at hc
  have hM := ypre hI.1 hrf hty hgs hks hc.1
  obtain ⟨m, r, h', r1, r2, r3, X, hX, hE⟩ := hS args h _ _ hI.1 hM d hd
  have hb := hM.2.2.2.1
  have hlen : Q.2.1.2.2.1.length = Q.2.1.2.1.length := by
    have := hc.1
    unfold yPok at this
    simp only [Bool.and_eq_true, decide_eq_true_eq] at this
    exact this.2.1
  obtain ⟨i1, x, i2⟩ := yXok_ok ht hlen (fun j b e => hb j b e) hI r2 r3 hE ((List.all_eq_true.mp hc.2) X hX)
  subst i2
  exact ⟨m, x, h', r1, i1, r3⟩
end YTOP2
