/-! what is told of a place in a method: its variables, their bounds, and how a state comes there -/
noncomputable def ssb (σ : Nat → Option sE) : List (Nat × Int) → Option sE
  | [] => some (sK 0)
  | p :: l => match σ p.1, ssb σ l with
    | some e, some f => some (sadd f e p.2)
    | _, _ => none
noncomputable def ssu (σ : Nat → Option sE) (e : sE) : Option sE := match ssb σ e.2 with
  | some f => some (sac f e.1)
  | none => none
theorem ssb_v {σ : Nat → Option sE} {ρ ρ' : Nat → Int} (hσ : ∀ s f, σ s = some f → ρ' s = sv ρ f) : ∀ {l : List (Nat × Int)} {f : sE}, ssb σ l = some f → sT ρ' l = sv ρ f
  | [], f, e => by cases e; rw [sK_v]; rfl
  | p :: l, f, e => by
    unfold ssb at e
    cases h1 : σ p.1 with
    | none => rw [h1] at e; cases e
    | some g =>
      cases h2 : ssb σ l with
      | none => rw [h1, h2] at e; cases e
      | some f2 =>
        rw [h1, h2] at e
        cases e
        show p.2 * ρ' p.1 + sT ρ' l = _
        rw [sadd_v, hσ _ _ h1, ssb_v hσ h2]
        omega
theorem ssu_v {σ : Nat → Option sE} {ρ ρ' : Nat → Int} (hσ : ∀ s f, σ s = some f → ρ' s = sv ρ f) {e f : sE} (h : ssu σ e = some f) : sv ρ' e = sv ρ f := by
  unfold ssu at h
  cases h2 : ssb σ e.2 with
  | none => rw [h2] at h; cases h
  | some g =>
    rw [h2] at h
    cases h
    show e.1 + sT ρ' e.2 = _
    rw [sac_v, ssb_v hσ h2]
    omega
/-- references, variables (0 an int's local, 1 a long's, 2 a place, 3 told alone), bounds, constraints, what was at the start, the measure -/
abbrev sA : Type := List (Nat × Nat) × List (Nat × Nat × sE) × sB × List sE × List (Nat × Nat) × sE
noncomputable def svl : Nat → List (Nat × Nat × sE) → List (Nat × sV)
  | _, [] => []
  | j, v :: l => if v.1 = 0 then (v.2.1, .inl (sY j)) :: svl (j + 1) l else if v.1 = 1 then (v.2.1, .inr (.inl (sY j))) :: svl (j + 1) l else svl (j + 1) l
noncomputable def svp : Nat → List (Nat × Nat × sE) → List (Nat × sE × sE)
  | _, [] => []
  | j, v :: l => if v.1 = 2 then (v.2.1, v.2.2, sY j) :: svp (j + 1) l else svp (j + 1) l
noncomputable def sAs (A : sA) : sS := (A.1.map (fun p => (p.1, .inr (.inr p.2))) ++ svl 0 A.2.1, [], svp 0 A.2.1, A.2.2.1, A.2.2.2.1, (0, A.2.2.2.2.2) :: A.2.2.2.2.1.map (fun p => (p.1 + 1, sY p.2)))
section SARR
variable (sing : Nat → Bool) (gG : Nat → List (Nat × Nat × Int × Int))
/-- the variables' values -/
noncomputable def sva (ent : List (Nat × Nat)) : List (Nat × Nat × sE) → List sE → sS → Option (List sE × sS)
  | [], σ, S => some (σ, S)
  | v :: vs, σ, S =>
    if v.1 = 0 then (match sgl S v.2.1 with
      | some (.inl e) => sva ent vs (σ ++ [e]) S
      | _ => none)
    else if v.1 = 1 then (match sgl S v.2.1 with
      | some (.inr (.inl e)) => sva ent vs (σ ++ [e]) S
      | _ => none)
    else if v.1 = 2 then (match ssu (fun s => σ[s]?) v.2.2 with
      | some i => if v.2.1 < 1000 then (if (sing v.2.1 && spr S (sng i)) = true then (match sldE sing gG S v.2.1 i σ with
          | some (e, T) => sva ent vs (σ ++ [e]) T
          | none => none) else none)
        else (match S.2.2.1.find? (fun m => m.1 == v.2.1) with
          | some m => sva ent vs (σ ++ [m.2.2]) S
          | none => none)
      | none => none)
    else (match ent.find? (fun p => p.2 == σ.length) with
      | some p => (match S.2.2.2.2.2.find? (fun q => q.1 == p.1 + 1) with
        | some q => sva ent vs (σ ++ [q.2]) S
        | none => none)
      | none => none)
noncomputable def sbs (S : sS) : sB → List sE → Bool
  | [], _ => true
  | b :: l, e :: σ => spr S (sac e (-b.2)) && (spr S (sac (sng e) b.1) && sbs S l σ)
  | _, _ => false
noncomputable def srf (S : sS) (p : Nat × Nat) : Bool := match sgl S p.1 with
  | some (.inr (.inr r)) => r == p.2
  | _ => false
noncomputable def scs (S : sS) (σ : List sE) (c : sE) : Bool := match ssu (fun s => σ[s]?) c with
  | some d => spr S d
  | none => false
/-- the values and the state, if all that A says holds -/
noncomputable def sar0 (A : sA) (S : sS) : Option (List sE × sS) := match sva sing gG A.2.2.2.2.1 A.2.1 [] S with
  | some (σ, T) => if (A.1.all (srf T) && (sbs T A.2.2.1 σ && A.2.2.2.1.all (scs T σ))) = true then some (σ, T) else none
  | none => none
/-- a state comes to A, and the measure falls -/
noncomputable def sarr (A : sA) (S : sS) : Bool := match sar0 sing gG A S with
  | some (σ, T) => A.2.2.2.2.1.all (fun p => match T.2.2.2.2.2.find? (fun q => q.1 == p.1 + 1), σ[p.2]? with
      | some q, some e => sz0 (sadd q.2 e (-1))
      | _, _ => false) && (match T.2.2.2.2.2.find? (fun q => q.1 == 0), ssu (fun s => σ[s]?) A.2.2.2.2.2 with
      | some q, some m => spr T (sac (sadd m q.2 (-1)) 1) && spr T (sng m)
      | _, _ => false)
  | none => false
end SARR
section SARRO
variable {reg : Nat → Nat} {sing : Nat → Bool} {gG : Nat → List (Nat × Nat × Int × Int)} {gv : Nat → zH → Int} {ρ ρ0 : Nat → Int} {S T : sS} {loc : zL} {stk : List zV} {h : zH}
/-- a variable's value is e -/
noncomputable def svm (reg : Nat → Nat) (gv : Nat → zH → Int) (ρ : Nat → Int) (loc : zL) (h : zH) (σ : List sE) (v : Nat × Nat × sE) (e : sE) : Prop :=
  (v.1 = 0 → ∃ x, zget loc v.2.1 = some (.inl x) ∧ x.toInt = sv ρ e) ∧ (v.1 = 1 → ∃ x, zget loc v.2.1 = some (.inr (.inl x)) ∧ x.toInt = sv ρ e) ∧ (v.1 = 2 → ∃ i, ssu (fun s => σ[s]?) v.2.2 = some i ∧ smm reg gv ρ h (v.2.1, i, e))
theorem ssb_mono {σ τ : Nat → Option sE} (hσ : ∀ s f, σ s = some f → τ s = some f) : ∀ {l : List (Nat × Int)} {f : sE}, ssb σ l = some f → ssb τ l = some f
  | [], f, e => e
  | p :: l, f, e => by
    unfold ssb at e ⊢
    cases h1 : σ p.1 with
    | none => rw [h1] at e; cases e
    | some g =>
      cases h2 : ssb σ l with
      | none => rw [h1, h2] at e; cases e
      | some f2 =>
        rw [h1, h2] at e
        rw [hσ _ _ h1, ssb_mono hσ h2]
        exact e
theorem ssu_mono {σ τ : Nat → Option sE} (hσ : ∀ s f, σ s = some f → τ s = some f) {e f : sE} (h : ssu σ e = some f) : ssu τ e = some f := by
  unfold ssu at h ⊢
  cases h2 : ssb σ e.2 with
  | none => rw [h2] at h; cases h
  | some g =>
    rw [h2] at h
    rw [ssb_mono hσ h2]
    exact h
theorem sva_ok (hsing : ∀ k k', sing (reg k) = true → reg k' = reg k → k' = k) (hcell : ∀ r, sing r = true → ∃ k, reg k = r) (hG : sG reg gG h) (ent : List (Nat × Nat)) : ∀ (vs : List (Nat × Nat × sE)) (σ σ' : List sE) (S T : sS) (ρ : Nat → Int), sMt reg gv ρ ρ0 S loc stk h → sva sing gG ent vs σ S = some (σ', T) → ∃ ρ', sMt reg gv ρ' ρ0 T loc stk h ∧ (∀ c ∈ σ, sv ρ' c = sv ρ c) ∧ (∃ τ, σ' = σ ++ τ ∧ τ.length = vs.length) ∧ (∀ i v, vs[i]? = some v → ∃ e, σ'[σ.length + i]? = some e ∧ svm reg gv ρ' loc h σ' v e) ∧ T.2.1 = S.2.1
  | [], σ, σ', S, T, ρ, hM, e => by
    cases e
    exact ⟨ρ, hM, fun _ _ => rfl, ⟨[], (List.append_nil _).symm, rfl⟩, (fun i v hv => (by cases hv)), rfl⟩
  | v :: vs, σ, σ', S, T, ρ, hM, e => by
    have step : ∀ (e1 : sE) (S1 : sS) (ρ1 : Nat → Int), sMt reg gv ρ1 ρ0 S1 loc stk h → (∀ c ∈ σ, sv ρ1 c = sv ρ c) → sva sing gG ent vs (σ ++ [e1]) S1 = some (σ', T) → S1.2.1 = S.2.1 → (∀ (ρ' : Nat → Int), (∀ c ∈ σ ++ [e1], sv ρ' c = sv ρ1 c) → (∀ (s : Nat) (f : sE), σ[s]? = some f → σ'[s]? = some f) → svm reg gv ρ' loc h σ' v e1) → ∃ ρ', sMt reg gv ρ' ρ0 T loc stk h ∧ (∀ c ∈ σ, sv ρ' c = sv ρ c) ∧ (∃ τ, σ' = σ ++ τ ∧ τ.length = (v :: vs).length) ∧ (∀ i w, (v :: vs)[i]? = some w → ∃ e, σ'[σ.length + i]? = some e ∧ svm reg gv ρ' loc h σ' w e) ∧ T.2.1 = S.2.1 := by
      intro e1 S1 ρ1 hM1 hσ1 hs hstk hv
      obtain ⟨ρ', a, b, ⟨τ, c1, c2⟩, d, d2⟩ := sva_ok hsing hcell hG ent vs (σ ++ [e1]) σ' S1 T ρ1 hM1 hs
      have hpre : ∀ (s : Nat) (f : sE), σ[s]? = some f → σ'[s]? = some f := fun s f hf => by
        rw [c1, List.append_assoc, List.getElem?_append_left (List.getElem?_eq_some_iff.mp hf).1]
        exact hf
      refine ⟨ρ', a, fun c hc => (b c (List.mem_append_left _ hc)).trans (hσ1 c hc), ⟨e1 :: τ, by rw [c1, List.append_assoc]; rfl, by rw [List.length_cons, List.length_cons, c2]⟩, ?_, d2.trans hstk⟩
      intro i w hw
      match i, hw with
      | 0, hw =>
        cases hw
        refine ⟨e1, ?_, hv ρ' b hpre⟩
        rw [c1, List.append_assoc, List.getElem?_append_right (by omega)]
        simp
      | i + 1, hw =>
        obtain ⟨e2, p1, p2⟩ := d i w hw
        refine ⟨e2, ?_, p2⟩
        rw [← p1, List.length_append, List.length_singleton]
        congr 1
        omega
    unfold sva at e
    by_cases k0 : v.1 = 0
    · rw [if_pos k0] at e
      cases hg : sgl S v.2.1 with
      | none => rw [hg] at e; cases e
      | some s =>
        rw [hg] at e
        obtain ⟨w, w1, w2⟩ := sgl_ok hM hg
        match s, w, e, w2, w1 with
        | .inl e1, .inl x, e, w2, w1 =>
          refine step e1 S ρ hM (fun _ _ => rfl) e rfl (fun ρ' h1 _ => ⟨fun _ => ⟨x, w1, ?_⟩, (fun q => (by omega)), (fun q => (by omega))⟩)
          rw [h1 e1 (List.mem_append_right _ (List.mem_singleton.mpr rfl))]
          exact w2
    · rw [if_neg k0] at e
      by_cases k1 : v.1 = 1
      · rw [if_pos k1] at e
        cases hg : sgl S v.2.1 with
        | none => rw [hg] at e; cases e
        | some s =>
          rw [hg] at e
          obtain ⟨w, w1, w2⟩ := sgl_ok hM hg
          match s, w, e, w2, w1 with
          | .inr (.inl e1), .inr (.inl x), e, w2, w1 =>
            refine step e1 S ρ hM (fun _ _ => rfl) e rfl (fun ρ' h1 _ => ⟨(fun q => (by omega)), fun _ => ⟨x, w1, ?_⟩, (fun q => (by omega))⟩)
            rw [h1 e1 (List.mem_append_right _ (List.mem_singleton.mpr rfl))]
            exact w2
      · rw [if_neg k1] at e
        by_cases k2 : v.1 = 2
        · rw [if_pos k2] at e
          cases hi : ssu (fun s => σ[s]?) v.2.2 with
          | none => rw [hi] at e; cases e
          | some ix =>
            rw [hi] at e
            simp only at e
            by_cases hr : v.2.1 < 1000
            · rw [if_pos hr] at e
              split at e
              case isFalse => cases e
              case isTrue hc =>
                rw [Bool.and_eq_true] at hc
                have hp := spr_le hM hc.2
                rw [sng_v] at hp
                cases hl : sldE sing gG S v.2.1 ix σ with
                | none => rw [hl] at e; cases e
                | some z =>
                  obtain ⟨e1, S1⟩ := z
                  rw [hl] at e
                  obtain ⟨k, hk⟩ := hcell _ hc.1
                  rw [← hk] at hl
                  obtain ⟨ρ1, m1, m2, m5, m3, m4⟩ := sldE_ok hsing hG hM (by rw [hk]; exact hr) (by omega) hl
                  refine step e1 S1 ρ1 m1 m4 e m5 (fun ρ' h1 h2 => ⟨(fun q => (by omega)), (fun q => (by omega)), fun _ => ⟨ix, ssu_mono h2 hi, ?_⟩⟩)
                  have hix : sv ρ' ix = sv ρ ix := by
                    have q1 := ssu_v (σ := fun s => σ[s]?) (ρ := ρ) (ρ' := fun s => match σ[s]? with | some f => sv ρ f | none => 0) (fun s f hf => by simp only [hf]) hi
                    have q2 := ssu_v (σ := fun s => σ[s]?) (ρ := ρ') (ρ' := fun s => match σ[s]? with | some f => sv ρ f | none => 0) (fun s f hf => by
                      simp only [hf]
                      have hm := List.mem_of_getElem? hf
                      rw [h1 f (List.mem_append_left _ hm), m4 f hm]) hi
                    rw [← q1, ← q2]
                  unfold smm
                  rw [if_pos hr]
                  simp only
                  rw [hix, h1 e1 (List.mem_append_right _ (List.mem_singleton.mpr rfl))]
                  refine ⟨by omega, fun k2 hk2 => ?_⟩
                  rw [hsing k k2 (by rw [hk]; exact hc.1) (hk2.trans hk.symm)]
                  exact m2
            · rw [if_neg hr] at e
              cases hf : S.2.2.1.find? (fun m => m.1 == v.2.1) with
              | none => rw [hf] at e; cases e
              | some m =>
                rw [hf] at e
                have hm := hM.2.2.1 m (List.mem_of_find?_eq_some hf)
                have hm1 : m.1 = v.2.1 := by have := List.find?_some hf; simpa using this
                refine step m.2.2 S ρ hM (fun _ _ => rfl) e rfl (fun ρ' h1 h2 => ⟨(fun q => (by omega)), (fun q => (by omega)), fun _ => ⟨ix, ssu_mono h2 hi, ?_⟩⟩)
                unfold smm at hm ⊢
                rw [if_neg (by omega)] at hm
                rw [if_neg hr]
                simp only
                rw [h1 m.2.2 (List.mem_append_right _ (List.mem_singleton.mpr rfl)), ← hm1]
                exact hm
        · rw [if_neg k2] at e
          cases hf : ent.find? (fun p => p.2 == σ.length) with
          | none => rw [hf] at e; cases e
          | some p =>
            rw [hf] at e
            simp only at e
            cases hf2 : S.2.2.2.2.2.find? (fun q => q.1 == p.1 + 1) with
            | none => rw [hf2] at e; cases e
            | some q =>
              rw [hf2] at e
              exact step q.2 S ρ hM (fun _ _ => rfl) e rfl (fun ρ' h1 h2 => ⟨(fun q => (by omega)), (fun q => (by omega)), (fun q => (by omega))⟩)
/-- the values as a valuation -/
noncomputable def sval (ρ : Nat → Int) (σ : List sE) : Nat → Int := fun s => match σ[s]? with
  | some f => sv ρ f
  | none => 0
theorem sval_h {ρ : Nat → Int} {σ : List sE} : ∀ s f, (fun s => σ[s]?) s = some f → sval ρ σ s = sv ρ f := fun s f hf => by
  unfold sval
  have hf : σ[s]? = some f := hf
  rw [hf]
theorem svl_ok {ρ : Nat → Int} {σ : List sE} : ∀ (vs : List (Nat × Nat × sE)) (j : Nat), (∀ i v, vs[i]? = some v → ∃ e, σ[j + i]? = some e ∧ svm reg gv ρ loc h σ v e) → (∀ p ∈ svl j vs, ∃ w, zget loc p.1 = some w ∧ sm reg (sval ρ σ) w p.2) ∧ (∀ m ∈ svp j vs, smm reg gv (sval ρ σ) h m)
  | [], j, _ => ⟨(fun p hp => (by cases hp)), (fun p hp => (by cases hp))⟩
  | v :: vs, j, hv => by
    obtain ⟨e, e1, e2⟩ := hv 0 v rfl
    have ih := svl_ok vs (j + 1) (fun i w hw => by
      obtain ⟨e, a, b⟩ := hv (i + 1) w hw
      refine ⟨e, ?_, b⟩
      rw [← a]
      congr 1
      omega)
    have hj : sval ρ σ j = sv ρ e := sval_h j e e1
    constructor
    · intro p hp
      unfold svl at hp
      by_cases k0 : v.1 = 0
      · rw [if_pos k0] at hp
        rcases List.mem_cons.mp hp with rfl | hp
        · obtain ⟨x, x1, x2⟩ := e2.1 k0
          exact ⟨_, x1, by show x.toInt = _; rw [sY_v, hj]; exact x2⟩
        · exact ih.1 p hp
      · rw [if_neg k0] at hp
        by_cases k1 : v.1 = 1
        · rw [if_pos k1] at hp
          rcases List.mem_cons.mp hp with rfl | hp
          · obtain ⟨x, x1, x2⟩ := e2.2.1 k1
            exact ⟨_, x1, by show x.toInt = _; rw [sY_v, hj]; exact x2⟩
          · exact ih.1 p hp
        · rw [if_neg k1] at hp
          exact ih.1 p hp
    · intro p hp
      unfold svp at hp
      by_cases k2 : v.1 = 2
      · rw [if_pos k2] at hp
        rcases List.mem_cons.mp hp with rfl | hp
        · obtain ⟨i, i1, i2⟩ := e2.2.2 k2
          unfold smm at i2 ⊢
          simp only at i2 ⊢
          rw [sY_v, hj, ssu_v (ρ := ρ) sval_h i1]
          exact i2
        · exact ih.2 p hp
      · rw [if_neg k2] at hp
        exact ih.2 p hp
theorem sbs_ok (hM : sMt reg gv ρ ρ0 S loc stk h) : ∀ {l : sB} {σ : List sE}, sbs S l σ = true → ∀ j b, l[j]? = some b → b.1 ≤ sval ρ σ j ∧ sval ρ σ j ≤ b.2
  | [], _, _, j, b, hb => by cases hb
  | b0 :: l, e :: σ, hs, j, b, hb => by
    unfold sbs at hs
    simp only [Bool.and_eq_true] at hs
    obtain ⟨s1, s2, s3⟩ := hs
    match j, hb with
    | 0, hb =>
      cases hb
      have p1 := spr_le hM s1
      have p2 := spr_le hM s2
      rw [sac_v] at p1
      rw [sac_v, sng_v] at p2
      show b0.1 ≤ sv ρ e ∧ sv ρ e ≤ b0.2
      omega
    | j + 1, hb => exact sbs_ok hM s3 j b hb
/-- all but what was at the start -/
theorem sar0_ok (hsing : ∀ k k', sing (reg k) = true → reg k' = reg k → k' = k) (hcell : ∀ r, sing r = true → ∃ k, reg k = r) (hG : sG reg gG h) {A : sA} {σ : List sE} (hM : sMt reg gv ρ ρ0 S loc stk h) (ha : sar0 sing gG A S = some (σ, T)) : ∃ ρ1, sMt reg gv ρ1 ρ0 T loc stk h ∧ (∀ p ∈ (sAs A).1, ∃ v, zget loc p.1 = some v ∧ sm reg (sval ρ1 σ) v p.2) ∧ (∀ m ∈ (sAs A).2.2.1, smm reg gv (sval ρ1 σ) h m) ∧ sOk A.2.2.1 (sval ρ1 σ) ∧ (∀ c ∈ A.2.2.2.1, sv (sval ρ1 σ) c ≤ 0) ∧ T.2.1 = S.2.1 ∧ σ.length = A.2.1.length := by
  unfold sar0 at ha
  cases hv : sva sing gG A.2.2.2.2.1 A.2.1 [] S with
  | none => rw [hv] at ha; cases ha
  | some z =>
    obtain ⟨σ1, T1⟩ := z
    rw [hv] at ha
    simp only at ha
    split at ha
    case isFalse => cases ha
    case isTrue hc =>
      cases ha
      simp only [Bool.and_eq_true, List.all_eq_true] at hc
      obtain ⟨c1, c2, c3⟩ := hc
      obtain ⟨ρ1, m, -, ⟨τ, t1, t2⟩, d, d2⟩ := sva_ok hsing hcell hG A.2.2.2.2.1 A.2.1 [] σ S T ρ hM hv
      have hvl := svl_ok A.2.1 0 (fun i v hi => by
        obtain ⟨e, a, b⟩ := d i v hi
        exact ⟨e, a, b⟩)
      refine ⟨ρ1, m, ?_, hvl.2, sbs_ok m c2, ?_, d2, by rw [t1]; exact t2⟩
      · intro p hp
        rcases List.mem_append.mp hp with hp | hp
        · obtain ⟨q, hq, rfl⟩ := List.mem_map.mp hp
          have hr := c1 q hq
          unfold srf at hr
          cases hg : sgl T q.1 with
          | none => rw [hg] at hr; cases hr
          | some s =>
            rw [hg] at hr
            obtain ⟨w, w1, w2⟩ := sgl_ok m hg
            match s, w, hr, w2, w1 with
            | .inr (.inr r), .inr (.inr k), hr, w2, w1 => exact ⟨_, w1, w2.trans (eq_of_beq hr)⟩
        · exact hvl.1 p hp
      · intro c hcc
        have q := c3 c hcc
        unfold scs at q
        cases hs : ssu (fun s => σ[s]?) c with
        | none => rw [hs] at q; cases q
        | some d =>
          rw [hs] at q
          rw [ssu_v (ρ := ρ1) sval_h hs]
          exact spr_le m q
theorem sarr_ok (hsing : ∀ k k', sing (reg k) = true → reg k' = reg k → k' = k) (hcell : ∀ r, sing r = true → ∃ k, reg k = r) (hG : sG reg gG h) {A : sA} (hM : sMt reg gv ρ ρ0 S loc stk h) (ha : sarr sing gG A S = true) : ∃ ρ' ρ0', (∀ j, ρ0' (j + 1) = ρ0 (j + 1)) ∧ 0 ≤ ρ0' 0 ∧ ρ0' 0 < ρ0 0 ∧ sMt reg gv ρ' ρ0' (sAs A) loc [] h := by
  unfold sarr at ha
  cases hs : sar0 sing gG A S with
  | none => rw [hs] at ha; cases ha
  | some z =>
    obtain ⟨σ, T⟩ := z
    rw [hs] at ha
    simp only [Bool.and_eq_true, List.all_eq_true] at ha
    obtain ⟨a1, a2⟩ := ha
    obtain ⟨ρ1, m, l1, l2, l3, l4, -⟩ := sar0_ok hsing hcell hG hM hs
    cases hq : T.2.2.2.2.2.find? (fun q => q.1 == 0) with
    | none => rw [hq] at a2; cases a2
    | some q =>
      cases hm : ssu (fun s => σ[s]?) A.2.2.2.2.2 with
      | none => rw [hq, hm] at a2; cases a2
      | some mm =>
        rw [hq, hm] at a2
        simp only [Bool.and_eq_true] at a2
        have p1 := spr_le m a2.1
        have p2 := spr_le m a2.2
        rw [sac_v, sadd_v] at p1
        rw [sng_v] at p2
        have hq0 : q.1 = 0 := by have := List.find?_some hq; simpa using this
        have hq1 := m.2.2.2.2.2 q (List.mem_of_find?_eq_some hq)
        rw [hq0] at hq1
        have hmm := ssu_v (ρ := ρ1) sval_h hm
        refine ⟨sval ρ1 σ, fun j => match j with | 0 => sv ρ1 mm | j + 1 => ρ0 (j + 1), fun j => rfl, by show 0 ≤ sv ρ1 mm; omega, by show sv ρ1 mm < ρ0 0; omega, l1, trivial, l2, l3, l4, ?_⟩
        intro p hp
        rcases List.mem_cons.mp hp with rfl | hp
        · exact hmm.symm
        · obtain ⟨y, hy, rfl⟩ := List.mem_map.mp hp
          have hh := a1 y hy
          cases hf : T.2.2.2.2.2.find? (fun q => q.1 == y.1 + 1) with
          | none => rw [hf] at hh; cases hh
          | some z =>
            cases he : σ[y.2]? with
            | none => rw [hf, he] at hh; cases hh
            | some e =>
              rw [hf, he] at hh
              have hz := sz0_v (ρ := ρ1) hh
              rw [sadd_v] at hz
              have hz0 : z.1 = y.1 + 1 := by have := List.find?_some hf; simpa using this
              have hz1 := m.2.2.2.2.2 z (List.mem_of_find?_eq_some hf)
              rw [hz0] at hz1
              show ρ0 (y.1 + 1) = sv (sval ρ1 σ) (sY y.2)
              rw [sY_v, sval_h y.2 e he]
              omega
end SARRO
